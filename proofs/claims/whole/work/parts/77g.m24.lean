section
/-! what was found before keeps to the law -/
theorem mvx_one {n m0 : Int} {s t m k : Int32} (is' : Rg 0 63 s) (it : Rg 0 63 t) (im : Rg 0 11 m) (ik : Rg 0 11 k ∨ k = 15) (ls : s.toInt < n) (lt : t.toInt < n) (lm : m.toInt < m0) (lk : k = 15 ∨ k.toInt < m0) : MvX n m0 (((s ||| (t <<< ((6 : Int32) &&& 31))) ||| (m <<< ((12 : Int32) &&& 31))) ||| (k <<< ((16 : Int32) &&& 31))) := by
  have ik15 : Rg 0 15 k := by
    rcases ik with z | z
    · exact rg_m z (by decide)
    · rw [z]; exact rg_b rfl
  have a : (fd 12 s = 0 ∧ fd 16 s = 0 ∧ fd 20 s = 0) ∧ s &&& (63 : Int32) = s ∧ (s >>> ((6 : Int32) &&& 31)) &&& (63 : Int32) = 0 := small (P := fun s => (fd 12 s = 0 ∧ fd 16 s = 0 ∧ fd 20 s = 0) ∧ s &&& (63 : Int32) = s ∧ (s >>> ((6 : Int32) &&& 31)) &&& (63 : Int32) = 0) (n := 63) is' (by decide) (by decide +kernel)
  have b : (fd 12 (t <<< ((6 : Int32) &&& 31)) = 0 ∧ fd 16 (t <<< ((6 : Int32) &&& 31)) = 0 ∧ fd 20 (t <<< ((6 : Int32) &&& 31)) = 0) ∧ (t <<< ((6 : Int32) &&& 31)) &&& (63 : Int32) = 0 ∧ ((t <<< ((6 : Int32) &&& 31)) >>> ((6 : Int32) &&& 31)) &&& (63 : Int32) = t := small (P := fun t => (fd 12 (t <<< ((6 : Int32) &&& 31)) = 0 ∧ fd 16 (t <<< ((6 : Int32) &&& 31)) = 0 ∧ fd 20 (t <<< ((6 : Int32) &&& 31)) = 0) ∧ (t <<< ((6 : Int32) &&& 31)) &&& (63 : Int32) = 0 ∧ ((t <<< ((6 : Int32) &&& 31)) >>> ((6 : Int32) &&& 31)) &&& (63 : Int32) = t) (n := 63) it (by decide) (by decide +kernel)
  have c : (fd 12 (m <<< ((12 : Int32) &&& 31)) = m ∧ fd 16 (m <<< ((12 : Int32) &&& 31)) = 0 ∧ fd 20 (m <<< ((12 : Int32) &&& 31)) = 0) ∧ (m <<< ((12 : Int32) &&& 31)) &&& (63 : Int32) = 0 ∧ ((m <<< ((12 : Int32) &&& 31)) >>> ((6 : Int32) &&& 31)) &&& (63 : Int32) = 0 := small (P := fun m => (fd 12 (m <<< ((12 : Int32) &&& 31)) = m ∧ fd 16 (m <<< ((12 : Int32) &&& 31)) = 0 ∧ fd 20 (m <<< ((12 : Int32) &&& 31)) = 0) ∧ (m <<< ((12 : Int32) &&& 31)) &&& (63 : Int32) = 0 ∧ ((m <<< ((12 : Int32) &&& 31)) >>> ((6 : Int32) &&& 31)) &&& (63 : Int32) = 0) (n := 11) im (by decide) (by decide +kernel)
  have d : (fd 12 (k <<< ((16 : Int32) &&& 31)) = 0 ∧ fd 16 (k <<< ((16 : Int32) &&& 31)) = k ∧ fd 20 (k <<< ((16 : Int32) &&& 31)) = 0) ∧ (k <<< ((16 : Int32) &&& 31)) &&& (63 : Int32) = 0 ∧ ((k <<< ((16 : Int32) &&& 31)) >>> ((6 : Int32) &&& 31)) &&& (63 : Int32) = 0 := small (P := fun k => (fd 12 (k <<< ((16 : Int32) &&& 31)) = 0 ∧ fd 16 (k <<< ((16 : Int32) &&& 31)) = k ∧ fd 20 (k <<< ((16 : Int32) &&& 31)) = 0) ∧ (k <<< ((16 : Int32) &&& 31)) &&& (63 : Int32) = 0 ∧ ((k <<< ((16 : Int32) &&& 31)) >>> ((6 : Int32) &&& 31)) &&& (63 : Int32) = 0) (n := 15) ik15 (by decide) (by decide +kernel)
  have o0 : (0 : Int32) ||| 0 = 0 := by decide
  refine ⟨?_, ?_, ?_, ?_⟩
  · rw [lo_or, lo_or, lo_or, a.2.1, b.2.1, c.2.1, d.2.1, or_0, or_0, or_0]; exact ls
  · rw [sh_or, sh_or, sh_or, lo_or, lo_or, lo_or, a.2.2, b.2.2, c.2.2, d.2.2, or_l, or_0, or_0]; exact lt
  · show (fd 12 _).toInt < m0
    rw [fd_or, fd_or, fd_or, a.1.1, b.1.1, c.1.1, d.1.1, o0, or_l, or_0]; exact lm
  · show fd 16 _ = 15 ∨ (fd 16 _).toInt < m0
    rw [fd_or, fd_or, fd_or, a.1.2.1, b.1.2.1, c.1.2.1, d.1.2.1, o0, o0, or_l]; exact lk
section
variable {ρ ρ1 : Nat → Nat} {c c1 : Cm} {h o g : Hp} {E : Nat → Nat → Bool} {wp : Nat → Bool} {x0 x1 b b3 W w i F L : Nat} {x2 x3 : Int32} {n m : Int}
def LwN (ρ : Nat → Nat) (c : Cm) (n m : Int) (h : Hp) : Prop := ∀ L, ρ L = 2 → cw c L = 2102 → (hI h L 2).toInt = n ∧ (hI h L 3).toInt = m
def FoX (x0 : Nat) (n m : Int) (h : Hp) : Prop := ∀ fo, hR h x0 5 = some fo → ∀ k : Nat, (k : Int) < (hI h x0 6).toInt → MvX n m (hI h fo k)
/-- the row of what was found, with one more -/
theorem keepx_23 (hF : 700000 ≤ F) (T : TH ρ c h) (r0 : ρ x0 = 7) (gx : GMq (c.2.1 50) x2) (M : MvX n m x2) (P : FoX x0 n m h) : ∀ (f : Nat) {o : Hp} {y z : Int32}, 0 ≤ y.toInt → z.toInt ≤ (hI h x0 6).toInt → (hI h x0 6).toInt < 3000 → y.toInt ≤ (hI h x0 6).toInt → sX6_keep_23 F f h x0 x2 y z = some o → FoX x0 n m o := by
  obtain ⟨fo, efo, rfo⟩ := thR T r0 (i := 5) (k2 := 48) rfl (by decide)
  have n06 : ¬ x0 = fo := fun z => by rw [z, rfo] at r0; exact absurd r0 (by decide)
  have i6 := thI T r0 (k := 7) (i := 6) (lo := 0) (hi := 3000) rfl
  have z1 : (1 : Int32).toInt = 1 := rfl
  intro f
  induction f with
  | zero => intro o y z _ _ _ _ e; exact absurd e (by rw [sX6_keep_23]; exact fun z => nomatch z)
  | succ f ih =>
    intro o y z a0 a1 a2 a3 e
    rw [sX6_keep_23] at e
    unfold sX6_keep_61 at e
    replace e := br_s e
    rcases e with ⟨l, e⟩ | ⟨l, e⟩
    · replace e := cl_s e
      obtain ⟨r2, e2, e⟩ := e
      have y2 : r2 = fo := r_eq efo e2
      subst y2
      replace e := cl_s e
      obtain ⟨r3, e3, e⟩ := e
      have y3 : r3 = r2 := r_eq efo e3
      subst y3
      iterate 5 replace e := (gd_s e).2
      replace e := nm_s e
      obtain ⟨h9, w9, e⟩ := e
      replace e := cl_s e
      obtain ⟨r10, e10, e⟩ := e
      have y10 : r10 = r3 := r_eq efo (by rw [w9] at e10; exact e10)
      subst y10
      replace e := (gd_s e).2
      replace e := nm_s e
      obtain ⟨h12, w12, e⟩ := e
      replace e := nm_s e
      obtain ⟨h13, w13, e⟩ := e
      have zz := Option.some.inj e
      subst zz
      have c9 : hI h9 x0 6 = hI h x0 6 := by rw [w9, cp_at, if_neg (fun q => n06 q.1)]
      have c12 : hI h12 x0 6 = hI h x0 6 := by rw [w12, r_I, if_neg (fun q => n06 q.1)]; exact c9
      have c13 : (hI h13 x0 6).toInt = (hI h x0 6).toInt + 1 := by rw [w13, r_I, if_pos ⟨rfl, rfl⟩, c12, ta (by rw [z1]; omega), z1]
      have ky := nc_i a0
      have ky1 : (y + (1 : Int32)).toNatClampNeg = y.toNatClampNeg + 1 := by
        have e1 : (y + (1 : Int32)).toInt = y.toInt + 1 := by rw [ta (by rw [z1]; omega), z1]
        have := nc_i (x := y + (1 : Int32)) (by omega)
        omega
      have ks : ((hI h x0 6) - y).toNatClampNeg = ((hI h x0 6).toInt - y.toInt).toNat := by
        have e1 : ((hI h x0 6) - y).toInt = (hI h x0 6).toInt - y.toInt := by rw [ts (by omega)]
        have := nc_i (x := (hI h x0 6) - y) (by omega)
        omega
      intro fo' efo' k hk
      have efo'' : hR h x0 5 = some fo' := by rw [w13, w12, w9] at efo'; exact efo'
      have yf : fo' = r10 := r_eq efo efo''
      subst yf
      rw [c13] at hk
      rw [w13, r_I, if_neg (fun q => n06 q.1.symm), w12, r_I]
      by_cases q : k = y.toNatClampNeg
      · rw [if_pos ⟨rfl, q⟩]; exact M
      · rw [if_neg (fun v => q v.2), w9, cp_at, ky1, ks]
        by_cases v : y.toNatClampNeg + 1 ≤ k
        · rw [if_pos ⟨rfl, v, by omega⟩]
          exact P fo' efo _ (by omega)
        · rw [if_neg (fun u => v u.2.1)]
          exact P fo' efo _ (by omega)
    · have l := nle_i l
      replace e := nm_s e
      obtain ⟨v, ev, e⟩ := e
      replace e := cl_s e
      obtain ⟨r15, e15, e⟩ := e
      have y15 : r15 = fo := r_eq efo e15
      subst y15
      replace e := (gd_s e).2
      replace e := cl_s e
      obtain ⟨o17, e17, e⟩ := e
      have q17 := (sat_e (zX6_comesFirst hF T r0 (rg_top _) (rg_top _) (thG8 T rfo) gx) e17).1
      rw [q17] at e
      have tv : v.toInt = (y.toInt + z.toInt) / 2 := by
        rw [ev, ti_shr1, ta (by omega)]
      have ib : 0 ≤ v.toInt ∧ v.toInt < z.toInt ∧ y.toInt ≤ v.toInt := ⟨by omega, by omega, by omega⟩
      replace e := br_s e
      rcases e with ⟨_, e⟩ | ⟨_, e⟩
      · exact ih a0 (by omega) a2 a3 e
      · replace e := nm_s e
        obtain ⟨u, eu, e⟩ := e
        have tu : u.toInt = v.toInt + 1 := by rw [eu, ta (by rw [z1]; omega), z1]
        exact ih (by omega) a1 a2 (by omega) e
theorem keep_x (hF : 700000 ≤ F) (T : TH ρ c h) (r0 : ρ x0 = 7) (gx : GMq (c.2.1 50) x2) (M : MvX n m x2) (P : FoX x0 n m h) (e : sX6_keep F h x0 x2 = some o) : FoX x0 n m o := by
  have i6 := thI T r0 (k := 7) (i := 6) (lo := 0) (hi := 3000) rfl
  unfold sX6_keep at e
  replace e := br_s e
  rcases e with ⟨l, e⟩ | ⟨l, e⟩
  · have l := lt_i l
    have z3 : (3000 : Int32).toInt = 3000 := rfl
    replace e := nm_s e
    obtain ⟨v, ev, e⟩ := e
    exact keepx_23 hF T r0 gx M P F (by decide) (by rw [ev]; exact Int.le_refl _) (by omega) (by show (0 : Int) ≤ _; exact i6.1) e
  · replace e := nm_s e
    obtain ⟨h3, w3, e⟩ := e
    rw [← Option.some.inj e, w3]
    intro fo efo k hk
    obtain ⟨fo1, efo1, rfo⟩ := thR T r0 (i := 5) (k2 := 48) rfl (by decide)
    have y : fo = fo1 := r_eq efo1 efo
    subst y
    have n06 : ¬ fo = x0 := fun z => by rw [← z, rfo] at r0; exact absurd r0 (by decide)
    rw [r_I, if_neg (fun q => n06 q.1)]
    rw [r_I, if_neg (fun q => absurd q.2 (by decide))] at hk
    exact P fo efo k hk
/-- what the search for positions before keeps, exactly; the row of what was found aside -/
def RIB (ρ : Nat → Nat) (c : Cm) (x0 W b3 : Nat) (n m : Int) (h : Hp) : Prop := RI ρ c x0 W b3 h ∧ PoX ρ c b3 h ∧ FmX W n h ∧ LwN ρ c n m h
def RIX (ρ : Nat → Nat) (c : Cm) (x0 W b3 : Nat) (n m : Int) (h : Hp) : Prop := RIB ρ c x0 W b3 n m h ∧ FoX x0 n m h
theorem lwn_fr {S : Nat → Nat → Nat → Bool} (f : Fr ρ (cat c S h) h o) (s2 : ∀ w, S 2 w 2 = false) (s3 : ∀ w, S 2 w 3 = false) (P : LwN ρ c n m h) : LwN ρ c n m o := fun L rL wL => by
  rw [(fr_RI f rL (by decide) s2).1, (fr_RI f rL (by decide) s3).1]
  exact P L rL wL
theorem fmx_fr {S : Nat → Nat → Nat → Bool} (T : TH ρ c h) (rW : ρ W = 11) (f : Fr ρ (cat c S h) h o) (s1 : ∀ w, S 11 w 3 = false) (s2 : ∀ w i, S 53 w i = false) (P : FmX W n h) : FmX W n o := fun r er i hi s hs hb => by
  rw [(fr_RI f rW (by decide) s1).2.2] at er
  have q : ρ r = 53 := rr T (thR T rW (i := 3) (k2 := 53) rfl (by decide)) er
  rw [(fr_RI f q (by decide) (fun _ => s2 _ _)).2.1] at hb
  exact P r er i hi s hs hb
theorem rib_sz (nn : niceC E) (n1 : E 7 1 = false) (n3 : E 7 3 = false) (n11 : E 11 3 = false) (n53 : ∀ i, E 53 i = false) (hb : wp 1603 = false) (T : TH ρ c h) (r0 : ρ x0 = 7) (f : Fr ρ (cat c (SZ E wp) h) h o) (P : RIB ρ c x0 W b3 n m h) : RIB ρ c x0 W b3 n m o := by
  obtain ⟨I, px, fm, ln⟩ := P
  have rb : ρ b3 = 4 := rr T (thR T r0 (i := 3) (k2 := 4) rfl (by decide)) I.1
  have wb : cw c b3 = 1603 := th_id T r0 (w := 1603) I.1 rfl (by decide)
  have rW : ρ W = 11 := rr T (thR T r0 (i := 1) (k2 := 11) rfl (by decide)) I.2.2.2.1
  exact ⟨ri_sz nn n1 n3 n11 n53 hb T r0 f I, (ryx_sz nn T rb wb hb f ⟨I.2.1, px⟩).2, fmx_fr T rW f (fun _ => sz_f n11 rfl (Or.inl rfl)) (fun _ i => sz_f (n53 i) rfl (Or.inl rfl)) fm, lwn_fr f (fun _ => sz_f (nn.1 _ _ (by omega)) rfl (Or.inl rfl)) (fun _ => sz_f (nn.1 _ _ (by omega)) rfl (Or.inl rfl)) ln⟩
theorem fox_fr {S : Nat → Nat → Nat → Bool} (T : TH ρ c h) (r0 : ρ x0 = 7) (f : Fr ρ (cat c S h) h o) (s5 : ∀ w, S 7 w 5 = false) (s6 : ∀ w, S 7 w 6 = false) (s48 : ∀ w i, S 48 w i = false) (P : FoX x0 n m h) : FoX x0 n m o := fun fo efo k hk => by
  rw [(fr_RI f r0 (by decide) s5).2.2] at efo
  have q : ρ fo = 48 := rr T (thR T r0 (i := 5) (k2 := 48) rfl (by decide)) efo
  rw [(fr_RI f r0 (by decide) s6).1] at hk
  rw [(fr_RI f q (by decide) (fun _ => s48 _ _)).1]
  exact P fo efo k hk
theorem rix_0 {wp : Nat → Bool} (hb : wp 1603 = false) (T : TH ρ c h) (r0 : ρ x0 = 7) (f : Fr ρ (cat c (SZ noE wp) h) h o) (P : RIX ρ c x0 W b3 n m h) : RIX ρ c x0 W b3 n m o :=
  ⟨rib_sz niceC_0 rfl rfl rfl (fun _ => rfl) hb T r0 f P.1, fox_fr T r0 f (fun _ => sz_f rfl rfl (Or.inl rfl)) (fun _ => sz_f rfl rfl (Or.inl rfl)) (fun _ _ => sz_f rfl rfl (Or.inl rfl)) P.2⟩
theorem tbx_142 {one taken : Int32} {k : Hp → Option Hp} {Q : Hp → Prop} (hF : 700000 ≤ F) (hp : ∀ k w i, SZ rE rW k w i = true → cPm c k w i = true) (T : TH ρ c h) (r0 : ρ x0 = 7) (I : RIX ρ c x0 W b3 n m h) (it : Rg (-1) 11 taken) (gx : GMq (c.2.1 50) one) (mx : MvX n m one) (H : ∀ g, TH ρ c g → RIX ρ c x0 W b3 n m g → Sat (k g) Q) : Sat (cl (hR h x0 4) fun r_2 => cl (sX6_lay F h x0 r_2 one) fun o_3 => cl (sX6_isBefore F o_3 x0 taken) fun o_4 => br (o_4.1 = 0) (k o_4.2) (cl (sX6_keep F o_4.2 x0 one) fun o_6 => k o_6)) Q := by
  obtain ⟨bd, ebd, rbd⟩ := thR T r0 (i := 4) (k2 := 4) rfl (by decide)
  have wbd : cw c bd = 1604 := th_id T r0 (w := 1604) ebd rfl (by decide)
  refine s_ref ebd ?_
  have hs : ∀ k w i, SZ noE (is 1604) k w i = true → cPm c k w i = true := fun k w i m => hp k w i (sz_sub (fun _ _ z => noE_f z) (fun w z => by rw [is_e z]; rfl) m)
  obtain ⟨o3, e3, T3', P3, J3, _, R3⟩ := zX6_layP (c := cat c (SZ noE (is 1604)) h) (x2 := one) (wx := 1604) hF (szP (sx_c _) is_s) (th_in _ T) r0 rbd wbd (by decide) gx I.1.1.1 I.1.1.2.1
  have T3 := th_out T hs T3'
  have f3 := fr_u T T3'.2.2
  have I3 := rix_0 rfl T r0 f3 I
  refine s_val e3 ?_
  have bk : BkP ρ c x0 o3 := fun b eb' => by
    rw [R3] at eb'
    have : b = bd := r_eq ebd eb'
    subst this
    exact ⟨by rw [J3, I.1.1.2.2.1]; rfl, P3⟩
  have hs4 : ∀ k w i, SZ noE (is 1503) k w i = true → cPm c k w i = true := fun k w i m => hp k w i (sz_sub (fun _ _ z => noE_f z) (fun w z => by rw [is_e z]; rfl) m)
  refine s_cIf T3 hs4 (zX6_isBefore hF (pmA_s (szA (sx_c _)) rfl) (pmO_s (szP (sx_c _) is_s) rfl) (th_in _ T3) r0 it I3.1.1.2.2.2.2.2 bk) (fun o4 T4 i4 f4 => ?_)
  have I4 := rix_0 rfl T3 r0 f4 I3
  refine s_br (fun _ => H _ T4 I4) (fun _ => ?_)
  have hs5 : ∀ k w i, SZ rE no k w i = true → cPm c k w i = true := fun k w i m => hp k w i (sz_sub (fun _ _ z => z) (fun _ z => no_f z) m)
  refine s_cVfq T4 hs5 (s_weq (zX6_keep hF (fun w k i m => sx_c _ k w i (by
      have : ((48 == k && (999 == 999 || 999 == i)) || ((7 == k && (6 == 999 || 6 == i)) || ((7 == k && (7 == 999 || 7 == i)) || false))) = true := m
      have q : rE k i = true := by
        unfold rE
        rw [Bool.or_eq_true, Bool.or_eq_true, Bool.or_false, Bool.and_eq_true, Bool.and_eq_true, Bool.and_eq_true, beq_iff_eq, beq_iff_eq] at this
        rcases this with ⟨a, _⟩ | ⟨a, b⟩ | ⟨a, b⟩
        · rw [← a]; rfl
        · rw [← a]
          have : (6 == i) = true := b
          rw [beq_iff_eq] at this
          rw [← this]; rfl
        · rw [← a]
          have : (7 == i) = true := b
          rw [beq_iff_eq] at this
          rw [← this]; rfl
      unfold SZ; rw [q]; rfl)) (th_in _ T4) r0 (rg_top _) gx)) (fun o6 T6 f6 eq6 => ?_)
  exact H _ T6 ⟨rib_sz niceC_r rfl rfl rfl (fun _ => rfl) rfl T4 r0 f6 I4.1, keep_x hF T4 r0 gx mx I4.2 eq6⟩
theorem tbx_in {x1 x3 : Int32} {x2 x4 : Int32} {K : Hp → Nat → Int32 → Int32 → Int32 → Int32 → Option Hp} (hF : 700000 ≤ F) (hp : ∀ k w i, SZ rE rW k w i = true → cPm c k w i = true) (r0 : ρ x0 = 7) (i1 : Rg 0 63 x1) (q1 : SqB (c.2.1 50) x1) (i2 : Rg 0 11 x2) (i4 : Rg (-1) 11 x4) (l1 : x1.toInt < n) (l2 : x2.toInt < m) (l4 : x4.toInt < m) (R : ∀ {h : Hp} {v : Int32}, TH ρ c h → RIX ρ c x0 W b3 n m h → v.toInt = x4.toInt + 1 → Sat (K h x0 x1 x2 x3 v) (fun o => TH ρ c o ∧ RIX ρ c x0 W b3 n m o)) : ∀ (f : Nat) {h : Hp} {x5 : Int64} {x7 : Int32}, TH ρ c h → RIX ρ c x0 W b3 n m h → (∀ s, bitJ x5 s = true → SqN (c.2.1 50) s ∧ (s < 64 → (s : Int) < n)) → 0 ≤ x7.toInt → (64 - x7.toInt).toNat < f → Sat (sX6_takeBack_80 F K f h x0 x1 x2 x3 x4 x5 x7) (fun o => TH ρ c o ∧ RIX ρ c x0 W b3 n m o) := by
  intro f
  induction f with
  | zero => intros; omega
  | succ f ih =>
    intro h x5 x7 T I b5 a7 hf
    rw [sX6_takeBack_80]
    unfold sX6_takeBack_179 sX6_takeBack_142 sX6_takeBack_173
    have up : Sat (nm (x4 + (1 : Int32)) fun v_1 => K h x0 x1 x2 x3 v_1) (fun o => TH ρ c o ∧ RIX ρ c x0 W b3 n m o) := s_q (fun v ev => R T I (by
      rw [ev, ti_add i4 (rg_b rfl : Rg 1 1 (1 : Int32)) (by decide)]; rfl))
    refine s_br (fun _ => up) (fun n1 => ?_)
    refine s_br (fun _ => up) (fun n2 => ?_)
    refine s_br (fun _ => ?_) (fun _ => up)
    have l7 : x7.toInt < 64 := nle_i n1
    have i7 : Rg 0 63 x7 := ⟨a7, by omega⟩
    refine s_dI0 (zX11_lowest hF T) (fun o4 e4 q4 j4 => ?_)
    rw [q4]
    obtain ⟨lb, ln⟩ := b5 _ (low_in e4 n2)
    have l64 : o4.1.toNatClampNeg < 64 := by have := rg_clamp (n := 63) j4 (by decide); omega
    have lq : o4.1.toInt < n := by have := nc_i j4.1; have := ln l64; omega
    have qs : SqB (c.2.1 50) o4.1 := sq_n lb (by have := nc_i j4.1; omega)
    refine s_q (fun v5 e5 => ?_)
    have b5' : ∀ s, bitJ v5 s = true → SqN (c.2.1 50) s ∧ (s < 64 → (s : Int) < n) := fun s hs => b5 s (by rw [e5, bj_and, Bool.and_eq_true] at hs; exact hs.1)
    have nx : ∀ g, TH ρ c g → RIX ρ c x0 W b3 n m g → Sat (nm (x7 + (1 : Int32)) fun v_1 => sX6_takeBack_80 F K f g x0 x1 x2 x3 x4 v5 v_1) (fun o => TH ρ c o ∧ RIX ρ c x0 W b3 n m o) := fun g Tg Ig => s_q (fun v ev => ih Tg Ig b5' (by rw [ev, (nc_s i7 (by decide)).2]; omega) (by rw [ev, (nc_s i7 (by decide)).2]; omega))
    refine s_br (fun _ => ?_) (fun nn => ?_)
    · refine s_q (fun v1 e1 => ?_)
      exact tbx_142 hF hp T r0 I i4 (by rw [e1]; exact gq_one j4 i1 i2 (Or.inr rfl) qs q1) (by rw [e1]; exact mvx_one j4 i1 i2 (Or.inr rfl) lq l1 l2 (Or.inl rfl)) nx
    · refine s_q (fun v1 e1 => ?_)
      exact tbx_142 hF hp T r0 I i4 (by rw [e1]; exact gq_one j4 i1 i2 (Or.inl (rg_nlo nn i4 (rg_b rfl : Rg (-1) (-1) (-1 : Int32)))) qs q1) (by rw [e1]; exact mvx_one j4 i1 i2 (Or.inl (rg_nlo nn i4 (rg_b rfl : Rg (-1) (-1) (-1 : Int32)))) lq l1 l2 (Or.inr l4)) nx
theorem tbx_out {x1 x2 x3 : Int32} (hF : 700000 ≤ F) (hp : ∀ k w i, SZ rE rW k w i = true → cPm c k w i = true) (r0 : ρ x0 = 7) (i1 : Rg 0 63 x1) (q1 : SqB (c.2.1 50) x1) (i2 : Rg 0 11 x2) (i3 : Rg 0 23 x3) (l1 : x1.toInt < n) (l2 : x2.toInt < m) : ∀ (f : Nat) {h : Hp} {x4 : Int32}, TH ρ c h → RIX ρ c x0 W b3 n m h → -1 ≤ x4.toInt → (13 - x4.toInt).toNat < f → Sat (sX6_takeBack_15 F f h x0 x1 x2 x3 x4) (fun o => TH ρ c o ∧ RIX ρ c x0 W b3 n m o) := by
  intro f
  induction f with
  | zero => intros; omega
  | succ f ih =>
    intro h x4 T I a4 hf
    rw [sX6_takeBack_15]
    obtain ⟨L, eL, rL⟩ := thR T r0 (i := 0) (k2 := 2) rfl (by decide)
    have mL := thI T rL (k := 2) (i := 3) (lo := 0) (hi := 12) rfl
    refine s_ref eL ?_
    refine s_br (fun _ => s_some ⟨T, I⟩) (fun n1 => ?_)
    have l4 := nle_i n1
    have wL : cw c L = 2102 := kid_w T r0 (i := 0) (w := 2102) rfl (by decide) eL
    have lm4 : x4.toInt < m := by have := (I.1.2.2.2 L rL wL).2; omega
    have i4 : Rg (-1) 11 x4 := ⟨a4, by have := mL.2; omega⟩
    have ev1 : (x4 + (1 : Int32)).toInt = x4.toInt + 1 := by
      rw [ti_add i4 (rg_b rfl : Rg 1 1 (1 : Int32)) (by decide)]; rfl
    have b65 : ∀ {t : Int32}, Rg 0 1 t → Sat (sX6_takeBack_65 F (sX6_takeBack_15 F f) h x0 x1 x2 x3 x4 t x1 x3 W) (fun o => TH ρ c o ∧ RIX ρ c x0 W b3 n m o) := fun {t} it => by
      unfold sX6_takeBack_65
      refine s_ref I.1.1.1 ?_
      have rb : ρ b3 = 4 := rr T (thR T r0 (i := 3) (k2 := 4) rfl (by decide)) I.1.1.1
      have rW' : ρ W = 11 := rr T (thR T r0 (i := 1) (k2 := 11) rfl (by decide)) I.1.1.2.2.2.1
      refine s_dJ0 (zX3_occupied hF T rb) (fun o2 _ q2 => ?_)
      rw [q2]
      refine s_dJ0 (zX10_origins hF T rW' i3 i1 it) (fun o3 e3 q3 => ?_)
      rw [q3]
      obtain ⟨a3, ea3, qa3⟩ := thR T rW' (i := 3) (k2 := 53) rfl (by decide)
      have sub := or_sub ea3 e3
      have lx : ((x3 * (64 : Int32)) + x1).toNatClampNeg < 1536 := by
        have := rg_clamp (n := 1535) (rg_add (rg_mulc i3 (rg_b rfl : Rg 64 64 (64 : Int32)) (by decide) : Rg 0 1472 (x3 * (64 : Int32))) i1 (by decide) : Rg 0 1535 _) (by decide)
        omega
      exact tbx_in hF hp r0 i1 q1 i2 i4 l1 l2 lm4 (fun T I ev => ih T I (by omega) (by have := i4.2; omega)) F T I (fun s hs => ⟨I.1.1.2.2.2.2.1 a3 ea3 _ lx s (sub s hs), fun h64 => I.1.2.2.1 a3 ea3 _ lx s h64 (sub s hs)⟩) (by decide) (by show (64 - (0 : Int)).toNat < F; omega)
    have b48 : Sat (sX6_takeBack_48 F (sX6_takeBack_15 F f) h x0 x1 x2 x3 x4) (fun o => TH ρ c o ∧ RIX ρ c x0 W b3 n m o) := by
      unfold sX6_takeBack_48
      refine s_ref I.1.1.2.2.2.1 ?_
      exact s_br (fun _ => b65 (rg_b rfl)) (fun _ => b65 (rg_b rfl))
    refine s_br (fun _ => b48) (fun _ => ?_)
    refine s_ref eL ?_
    refine s_br (fun _ => ?_) (fun _ => b48)
    unfold sX6_takeBack_179
    exact s_q (fun v ev => ih T I (by rw [ev]; omega) (by rw [ev]; have := i4.2; omega))
theorem takeBack_x {x1 x2 : Int32} (hF : 700000 ≤ F) (hp : ∀ k w i, SZ rE rW k w i = true → cPm c k w i = true) (T : TH ρ c h) (r0 : ρ x0 = 7) (i1 : Rg 0 63 x1) (q1 : SqB (c.2.1 50) x1) (i2 : Rg 0 11 x2) (l1 : x1.toInt < n) (l2 : x2.toInt < m) (I : RIX ρ c x0 W b3 n m h) : Sat (sX6_takeBack F h x0 x1 x2) (fun o => TH ρ c o ∧ RIX ρ c x0 W b3 n m o) := by
  unfold sX6_takeBack
  refine s_ref I.1.1.1 ?_
  have rb : ρ b3 = 4 := rr T (thR T r0 (i := 3) (k2 := 4) rfl (by decide)) I.1.1.1
  refine s_q (fun v ev => ?_)
  have iv : Rg 0 23 v := by
    rw [ev]
    exact rg_add (rg_mulc' (rg_b rfl : Rg 2 2 (2 : Int32)) i2 (by decide) : Rg 0 22 _) (thI T rb (k := 4) (i := 5) (lo := 0) (hi := 1) rfl) (by decide)
  exact tbx_out hF hp r0 i1 q1 i2 iv l1 l2 F T I (by decide) (by show (13 - (-1 : Int)).toNat < F; omega)
end
end
section
/-! find, before: what was found keeps to the law -/
section
variable {ρ : Nat → Nat} {c : Cm} {h o : Hp} {E : Nat → Nat → Bool} {wp : Nat → Bool} {x0 x1 b b3 W w i F : Nat} {x : Int64} {n m : Int}
theorem findx_in {K : Hp → Nat → Int64 → Int32 → Option (Int32 × Hp)} {x2 : Int64} {x4 x5 x6 : Int32} (hF : 700000 ≤ F) (hp : ∀ k w i, SZ rE rW k w i = true → cPm c k w i = true) (r0 : ρ x0 = 7) (i5 : Rg 0 63 x5) (q5 : SqB (c.2.1 50) x5) (i6 : Rg 0 11 x6) (l5 : x5.toInt < n) (i4 : Rg 0 63 x4) (Bx : Hp → Prop) (kB : ∀ {g g' : Hp}, TH ρ c g → RIX ρ c x0 W b3 n m g → Fr ρ (cat c (SZ rE rW) g) g g' → Bx g → Bx g') (R : ∀ {h : Hp} {v : Int32}, TH ρ c h → RIX ρ c x0 W b3 n m h → Bx h → v.toInt = x4.toInt + 1 → Sat (K h x0 x2 v) (fun o => TH ρ c o.2 ∧ RIX ρ c x0 W b3 n m o.2)) : ∀ (f : Nat) {h : Hp} {x7 : Int32}, TH ρ c h → RIX ρ c x0 W b3 n m h → Bx h → 0 ≤ x7.toInt → (12 - x7.toInt).toNat < f → Sat (sX6_find_166 F K f h x0 x2 x4 x5 x6 x7) (fun o => TH ρ c o.2 ∧ RIX ρ c x0 W b3 n m o.2) := by
  intro f
  induction f with
  | zero => intros; omega
  | succ f ih =>
    intro h x7 T I B a7 hf
    rw [sX6_find_166]
    unfold sX6_find_225 sX6_find_219
    have up : Sat (nm (x4 + (1 : Int32)) fun v_1 => K h x0 x2 v_1) (fun o => TH ρ c o.2 ∧ RIX ρ c x0 W b3 n m o.2) := s_q (fun v ev => R T I B (by rw [ev]; exact (nc_s i4 (by decide)).2))
    obtain ⟨L, eL, rL⟩ := thR T r0 (i := 0) (k2 := 2) rfl (by decide)
    have mL := thI T rL (k := 2) (i := 3) (lo := 0) (hi := 12) rfl
    refine s_ref eL ?_
    refine s_br (fun _ => up) (fun n1 => ?_)
    have l7 := nle_i n1
    have wL : cw c L = 2102 := kid_w T r0 (i := 0) (w := 2102) rfl (by decide) eL
    have lm7 : x7.toInt < m := by have := (I.1.2.2.2 L rL wL).2; omega
    have i7 : Rg 0 11 x7 := ⟨a7, by have := mL.2; omega⟩
    refine s_ref eL ?_
    refine s_ref I.1.1.1 ?_
    have rb : ρ b3 = 4 := rr T (thR T r0 (i := 3) (k2 := 4) rfl (by decide)) I.1.1.1
    refine s_cI0 (zX1_isLast hF T rL i5 (thI T rb (k := 4) (i := 5) (lo := 0) (hi := 1) rfl)) (fun o5 q5' _ => ?_)
    rw [q5']
    refine s_br (fun _ => up) (fun _ => ?_)
    refine s_ref eL ?_
    refine s_cI0 (zX1_becomesThis hF T rL i7 (rg_m i6 (by decide))) (fun o8 q8 _ => ?_)
    rw [q8]
    have ev : ∀ v : Int32, v = x7 + (1 : Int32) → v.toInt = x7.toInt + 1 := fun v e => by rw [e]; exact (nc_s i7 (by decide)).2
    refine s_br (fun _ => s_q (fun v e => ih T I B (by rw [ev v e]; omega) (by rw [ev v e]; have := i7.2; omega))) (fun _ => ?_)
    obtain ⟨o10, e10, T10', I10⟩ := takeBack_x (c := cat c (SZ rE rW) h) hF (sx_c _) (th_in _ T) r0 i5 q5 i7 l5 lm7 I
    refine s_val e10 ?_
    have T10 := th_out T hp T10'
    have B10 := kB T I (fr_u T T10'.2.2) B
    exact s_q (fun v e => ih T10 I10 B10 (by rw [ev v e]; omega) (by rw [ev v e]; have := i7.2; omega))
theorem findx_out (hF : 700000 ≤ F) (hp : ∀ k w i, SZ rE rW k w i = true → cPm c k w i = true) (r0 : ρ x0 = 7) : ∀ (f : Nat) {h : Hp} {x2 : Int64} {x4 : Int32}, TH ρ c h → RIX ρ c x0 W b3 n m h → BP ρ c b3 x2 h → 0 ≤ x4.toInt → (64 - x4.toInt).toNat < f → Sat (sX6_find_109 F f h x0 x2 x4) (fun o => TH ρ c o.2 ∧ RIX ρ c x0 W b3 n m o.2) := by
  intro f
  induction f with
  | zero => intros; omega
  | succ f ih =>
    intro h x2 x4 T I B a4 hf
    rw [sX6_find_109]
    have fin : Sat (sX6_find_231 F h x0) (fun o => TH ρ c o.2 ∧ RIX ρ c x0 W b3 n m o.2) := by
      unfold sX6_find_231 sX6_find_243 sX6_find_255
      have e2 : ∀ {g : Hp}, TH ρ c g → RIX ρ c x0 W b3 n m g → Sat (br ((hI g x0 7) = 0) (gd ((1 : Int32) &&& 1 = 1) (some ((1 : Int32), g))) (gd ((0 : Int32) &&& 1 = 0) (some ((0 : Int32), g)))) (fun o => TH ρ c o.2 ∧ RIX ρ c x0 W b3 n m o.2) := fun Tg Ig => s_br (fun _ => s_gd (by decide) (s_some ⟨Tg, Ig⟩)) (fun _ => s_gd (by decide) (s_some ⟨Tg, Ig⟩))
      refine s_br (fun _ => e2 T I) (fun _ => ?_)
      refine s_hq (th_wI T r0 (k := 7) (i := 6) (lo := 0) (hi := 3000) rfl (rg_b rfl) (by decide) (by decide) (szE hp rfl _)) (fun g Tg eg => ?_)
      have fg : Fr ρ (cat c (SZ rE no) h) h g := by
        rw [eg]
        exact fu_wI ⟨fun _ _ _ _ => ⟨rfl, rfl, rfl⟩, fun _ _ => rfl⟩ r0 (by show SZ rE no 7 (cw c x0) 6 = true; rfl)
      exact e2 Tg ⟨rib_sz niceC_r rfl rfl rfl (fun _ => rfl) rfl T r0 fg I.1, fun fo efo k hk => by
        rw [eg, r_I, if_pos ⟨rfl, rfl⟩] at hk
        have z0 : (0 : Int32).toInt = 0 := rfl
        omega⟩
    refine s_br (fun _ => fin) (fun n1 => ?_)
    refine s_br (fun _ => fin) (fun n2 => ?_)
    refine s_br (fun _ => ?_) (fun _ => fin)
    have l4 : x4.toInt < 64 := nle_i n1
    have i4 : Rg 0 63 x4 := ⟨a4, by omega⟩
    refine s_dI0 (zX11_lowest hF T) (fun o4 e4 q4 j4 => ?_)
    rw [q4]
    refine s_q (fun v5 e5 => ?_)
    refine s_ref I.1.1.1 ?_
    have rb : ρ b3 = 4 := rr T (thR T r0 (i := 3) (k2 := 4) rfl (by decide)) I.1.1.1
    have wb : cw c b3 = 1603 := th_id T r0 (w := 1603) I.1.1.1 rfl (by decide)
    obtain ⟨on, eo, ro⟩ := thR T rb (i := 0) (k2 := 34) rfl (by decide)
    refine s_ref eo ?_
    refine s_gd (by rw [thN T ro (k := 34) (n := 64) rfl (by decide)]; exact rg_inB j4 (by decide)) ?_
    have l64 : o4.1.toNatClampNeg < 64 := by have := rg_clamp (n := 63) j4 (by decide); omega
    obtain ⟨p0, pt⟩ := B on _ eo l64 (low_in e4 n2)
    have qt : SqB (c.2.1 50) o4.1 := sq_n pt (by have := nc_i j4.1; omega)
    have p23 := thI T ro (k := 34) (i := o4.1.toNatClampNeg) (lo := -2) (hi := 23) rfl
    refine s_q (fun v9 e9 => ?_)
    have i9 : Rg 0 11 v9 := by
      rw [e9]
      have := ti_shr1 (x := hI h on o4.1.toNatClampNeg)
      have := p23.2
      exact ⟨by omega, by omega⟩
    obtain ⟨L, eL, rL⟩ := thR T r0 (i := 0) (k2 := 2) rfl (by decide)
    have wL : cw c L = 2102 := kid_w T r0 (i := 0) (w := 2102) rfl (by decide) eL
    obtain ⟨ln1, ln2⟩ := I.1.2.2.2 L rL wL
    obtain ⟨px1, px2⟩ := I.1.2.1 L on _ rL wL eo l64 p0
    have lt5 : o4.1.toInt < n := by have := nc_i j4.1; omega
    have lt6 : v9.toInt < m := by
      rw [e9]
      have := ti_shr1 (x := hI h on o4.1.toNatClampNeg)
      omega
    obtain ⟨o10, e10, T10', I10⟩ := takeBack_x (c := cat c (SZ rE rW) h) hF (sx_c _) (th_in _ T) r0 j4 qt i9 lt5 lt6 I
    refine s_val e10 ?_
    have T10 := th_out T hp T10'
    have f10 := fr_u T T10'.2.2
    have sub : ∀ s, bitJ v5 s = true → bitJ x2 s = true := fun s hs => by rw [e5, bj_and, Bool.and_eq_true] at hs; exact hs.1
    have B5 : BP ρ c b3 v5 h := fun on s eo hs hx => B on s eo hs (sub s hx)
    have B10 := bp_sz niceC_r (fun _ => rfl) rfl T rb wb f10 B5
    exact findx_in hF hp r0 j4 qt i9 lt5 i4 (BP ρ c b3 v5) (fun {g g'} Tg Ig fg Bg => bp_sz niceC_r (fun _ => rfl) rfl Tg (rr Tg (thR Tg r0 (i := 3) (k2 := 4) rfl (by decide)) Ig.1.1.1) (th_id Tg r0 (w := 1603) Ig.1.1.1 rfl (by decide)) fg Bg) (fun Tg Ig Bg ev => ih Tg Ig Bg (by omega) (by omega)) F T10 I10 B10 (by decide) (by show (12 - (0 : Int)).toNat < F; omega)
theorem find_x (hF : 700000 ≤ F) (hp : ∀ k w i, SZ rE fW k w i = true → cPm c k w i = true) (T : TH ρ c h) (r0 : ρ x0 = 7) (r1 : ρ x1 = 4) (n1 : ¬ cw c x1 = 1603) (lw : LwR ρ c h) (fm : FmM ρ c h) (P : RyP ρ c x1 h) (fx : ∀ W, ρ W = 11 → FmX W n h) (ln : LwN ρ c n m h) (px : PoX ρ c x1 h) : Sat (sX6_find F h x0 x1) (fun o => TH ρ c o.2 ∧ ∃ W b, RIX ρ c x0 W b n m o.2) := by
  unfold sX6_find
  have hp0 : ∀ k w i, SZ rE rW k w i = true → cPm c k w i = true := fun k w i m => hp k w i (sz_sub (fun _ _ z => z) (fun w z => by unfold rW at z; unfold fW; rw [z]; rfl) m)
  have f7 : ∀ {g o : Hp} {j : Nat} {v : Int32}, (j = 6 ∨ j = 7) → o = wI g x0 j v → Fr ρ (cat c (SZ rE no) g) g o := fun hj e => by
    rw [e]
    exact fu_wI ⟨fun _ _ _ _ => ⟨rfl, rfl, rfl⟩, fun _ _ => rfl⟩ r0 (by rcases hj with z | z <;> (rw [z]; rfl))
  refine s_hq (th_wI T r0 (k := 7) (i := 6) (lo := 0) (hi := 3000) rfl (rg_b rfl) (by decide) (by decide) (szE hp rfl _)) (fun g1 T1 e1 => ?_)
  have f1 := f7 (Or.inl rfl) e1
  refine s_hq (th_wI T1 r0 (k := 7) (i := 7) (lo := 0) (hi := 1) rfl (rg_b rfl) (by decide) (by decide) (szE hp rfl _)) (fun g2 T2 e2 => ?_)
  have f2 := f7 (Or.inr rfl) e2
  have lw2 := lw_sz niceC_r T1 f2 (lw_sz niceC_r T f1 lw)
  have P2 := ry_sz niceC_r T1 r1 rfl rfl f2 (ry_sz niceC_r T r1 rfl rfl f1 P)
  have px2 : PoX ρ c x1 g2 := (ryx_sz niceC_r T1 r1 rfl rfl f2 (ryx_sz niceC_r T r1 rfl rfl f1 ⟨P, px⟩)).2
  obtain ⟨L0, eL0, rL0⟩ := thR T r0 (i := 0) (k2 := 2) rfl (by decide)
  have wL0 : cw c L0 = 2102 := kid_w T r0 (i := 0) (w := 2102) rfl (by decide) eL0
  have ln2 : LwN ρ c n m g2 := lwn_fr f2 (fun _ => rfl) (fun _ => rfl) (lwn_fr f1 (fun _ => rfl) (fun _ => rfl) ln)
  obtain ⟨W, eW, rW'⟩ := thR T r0 (i := 1) (k2 := 11) rfl (by decide)
  have fm2 : FmT (c.2.1 50) W g2 := fm_fr T1 rW' f2 (fun _ => sz_f rfl rfl (Or.inl rfl)) (fun _ _ => sz_f rfl rfl (Or.inl rfl)) (fm_fr T rW' f1 (fun _ => sz_f rfl rfl (Or.inl rfl)) (fun _ _ => sz_f rfl rfl (Or.inl rfl)) (fm W rW'))
  have fx2 : FmX W n g2 := fmx_fr T1 rW' f2 (fun _ => sz_f rfl rfl (Or.inl rfl)) (fun _ _ => sz_f rfl rfl (Or.inl rfl)) (fmx_fr T rW' f1 (fun _ => sz_f rfl rfl (Or.inl rfl)) (fun _ _ => sz_f rfl rfl (Or.inl rfl)) (fx W rW'))
  obtain ⟨b3, e3, rb⟩ := thR T2 r0 (i := 3) (k2 := 4) rfl (by decide)
  have wb : cw c b3 = 1603 := th_id T2 r0 (w := 1603) e3 rfl (by decide)
  have nb : ¬ x1 = b3 := fun z => n1 (by rw [z]; exact wb)
  refine s_ref e3 ?_
  have hs : ∀ k w i, SZ noE (is 1603) k w i = true → cPm c k w i = true := fun k w i m => hp k w i (sz_sub (fun _ _ z => noE_f z) (fun w z => by rw [is_e z]; rfl) m)
  refine s_cVfq T2 hs (s_weq (zX3_copyFrom hF (by show pmO _ (cw c b3) _; rw [wb]; exact pmO_s (szP (sx_c _) is_s) rfl) (th_in _ T2) rb r1)) (fun o4 T4 f4 q4 => ?_)
  have P4 := ry_copy T2 rb r1 q4 P2
  have px4 : PoX ρ c b3 o4 := (ryx_copyL T2 rL0 wL0 rb r1 q4 ⟨P2, px2⟩).2
  have ln4 : LwN ρ c n m o4 := lwn_fr f4 (fun _ => rfl) (fun _ => rfl) ln2
  have fx4 := fmx_fr T2 rW' f4 (fun _ => sz_f rfl rfl (Or.inl rfl)) (fun _ _ => sz_f rfl rfl (Or.inl rfl)) fx2
  have lw4 := lw_sz niceC_0 T2 f4 lw2
  have fm4 := fm_fr T2 rW' f4 (fun _ => sz_f rfl rfl (Or.inl rfl)) (fun _ _ => sz_f rfl rfl (Or.inl rfl)) fm2
  have e34 : hR o4 x0 3 = some b3 := by rw [(fr_RI f4 r0 (by decide) (fun _ => sz_f rfl rfl (Or.inl rfl))).2.2]; exact e3
  refine s_ref e34 ?_
  -- strip
  obtain ⟨o6, e6, T6', _⟩ := zX3_strip (c := cat c (fS [] [(1603, [(37, 999), (38, 999), (4, 6), (4, 8), (4, 9), (4, 10)])]) o4) hF (by rw [show cw (cat c (fS [] [(1603, [(37, 999), (38, 999), (4, 6), (4, 8), (4, 9), (4, 10)])]) o4) b3 = 1603 from wb]; exact fs_o (.head _)) (th_in _ T4) rb
  refine s_val e6 ?_
  have pm3 : pmO c 1603 ppL := szP hp rfl
  have T6 := th_out T4 (fs_sub pmA_n (fs_c (pmO_s pm3 rfl) fs_n)) T6'
  have f6 := fr_u T4 T6'.2.2
  have J6 := st9 T4 rb e6
  have P6 : RyP ρ c b3 o6 := ry_fr T4 rb f6 rfl (fun _ => rfl) (fun _ => rfl) P4
  have px6 : PoX ρ c b3 o6 := pox_fr T4 rb f6 rfl (fun _ => rfl) (fun _ => rfl) (fun _ => rfl) px4
  have ln6 : LwN ρ c n m o6 := lwn_fr f6 (fun _ => rfl) (fun _ => rfl) ln4
  have fx6 := fmx_fr T4 rW' f6 (fun _ => rfl) (fun _ _ => rfl) fx4
  have lw6 : LwR ρ c o6 := lw_fr T4 f6 (fun _ => rfl) (fun _ => rfl) (fun _ => rfl) lw4
  have fm6 := fm_fr T4 rW' f6 (fun _ => rfl) (fun _ _ => rfl) fm4
  have R6 : ∀ j, hR o6 x0 j = hR o4 x0 j := fun j => (fr_RI f6 r0 (by decide) (fun _ => rfl)).2.2
  have e36 : hR o6 x0 3 = some b3 := by rw [R6]; exact e34
  refine s_ref e36 ?_
  refine s_hq (th_wI T6 rb (k := 4) (i := 5) (lo := 0) (hi := 1) rfl (rg_sub (rg_b rfl : Rg 1 1 (1 : Int32)) (thI T6 r1 (k := 4) (i := 5) (lo := 0) (hi := 1) rfl) (by decide)) (by decide) (by decide) (by rw [wb]; exact pm3 4 5 rfl)) (fun g8 T8 e8 => ?_)
  have f8 := fr1I (c := c) (A := [(4, 5)]) (k := 4) (i := 5) rb rfl e8
  have P8 : RyP ρ c b3 g8 := ry_fr T6 rb f8 rfl (fun _ => rfl) (fun _ => rfl) P6
  have px8 : PoX ρ c b3 g8 := pox_fr T6 rb f8 rfl (fun _ => rfl) (fun _ => rfl) (fun _ => rfl) px6
  have ln8 : LwN ρ c n m g8 := lwn_fr f8 (fun _ => rfl) (fun _ => rfl) ln6
  have fx8 := fmx_fr T6 rW' f8 (fun _ => rfl) (fun _ _ => rfl) fx6
  have lw8 : LwR ρ c g8 := lw_fr T6 f8 (fun _ => rfl) (fun _ => rfl) (fun _ => rfl) lw6
  have fm8 := fm_fr T6 rW' f8 (fun _ => rfl) (fun _ _ => rfl) fm6
  have e38 : hR g8 x0 3 = some b3 := by rw [e8]; exact e36
  have eW8 : hR g8 x0 1 = some W := by
    rw [e8]
    show hR o6 x0 1 = some W
    rw [R6, (fr_RI f4 r0 (by decide) (fun _ => sz_f rfl rfl (Or.inl rfl))).2.2, e2]
    show hR g1 x0 1 = some W
    rw [e1]; exact eW
  have I8 : RI ρ c x0 W b3 g8 := ⟨e38, P8, by rw [e8]; exact J6, eW8, fm8, lw8⟩
  have z8 : (hI g8 x0 6).toInt = 0 := by
    rw [e8, r_I, if_neg (ne_r r0 rb (by decide)), (fr_RI f6 r0 (by decide) (fun _ => rfl)).1, (fr_RI f4 r0 (by decide) (fun _ => sz_f rfl rfl (Or.inl rfl))).1, e2, r_I, if_neg (fun q => absurd q.2 (by decide)), e1, r_I, if_pos ⟨rfl, rfl⟩]
    rfl
  have X8 : RIX ρ c x0 W b3 n m g8 := ⟨⟨I8, px8, fx8, ln8⟩, fun fo efo k hk => by omega⟩
  obtain ⟨rf, erf, qrf⟩ := thR T8 r0 (i := 2) (k2 := 6) rfl (by decide)
  refine s_ref erf ?_
  refine s_ref e38 ?_
  refine s_ref e38 ?_
  have done : Sat (some ((1 : Int32), g8)) (fun o => TH ρ c o.2 ∧ ∃ W b, RIX ρ c x0 W b n m o.2) := s_some ⟨T8, W, b3, X8⟩
  have go : Sat (sX6_find_90 F g8 x0) (fun o => TH ρ c o.2 ∧ ∃ W b, RIX ρ c x0 W b n m o.2) := by
    unfold sX6_find_90
    refine s_ref e38 ?_
    obtain ⟨of, eof, rof⟩ := thR T8 rb (i := 1) (k2 := 35) rfl (by decide)
    refine s_ref eof ?_
    refine s_ref e38 ?_
    have is5 := thI T8 rb (k := 4) (i := 5) (lo := 0) (hi := 1) rfl
    refine s_gd (by rw [thN T8 rof (k := 35) (n := 2) rfl (by decide)]; exact rg_inB is5 (by decide)) ?_
    refine s_q (fun v ev => ?_)
    have l2 : (hI g8 b3 5).toNatClampNeg < 2 := by have := rg_clamp (n := 1) is5 (by decide); omega
    have B8 : BP ρ c b3 v g8 := fun on s eo hs hx => by
      rw [ev] at hx
      have q := T8.1.2.2.2.2.2.2.1.2 b3 on of rb eo eof s hs _ l2 hx
      exact ⟨q.1, q.2.2⟩
    exact s_imp (findx_out hF hp0 r0 F T8 X8 B8 (by decide) (by show (64 - (0 : Int)).toNat < F; omega)) (fun o ho => ⟨ho.1, W, b3, ho.2⟩)
  refine s_cI0 (zX5_isRoyalHit hF T8 qrf rb (thI T8 rb (k := 4) (i := 5) (lo := 0) (hi := 1) rfl)) (fun o12 q12 _ => ?_)
  rw [q12]
  unfold sX6_find_88
  refine s_br (fun _ => ?_) (fun _ => done)
  obtain ⟨L, eL, rL⟩ := thR T8 r0 (i := 0) (k2 := 2) rfl (by decide)
  refine s_ref eL ?_
  refine s_cI0 (zX1_has hF T8 rL (rg_b rfl)) (fun o15 q15 _ => ?_)
  rw [q15]
  refine s_br (fun _ => go) (fun _ => ?_)
  refine s_ref erf ?_
  refine s_ref e38 ?_
  refine s_cI0 (zX5_isRoyalHit hF T8 qrf rb (thI T8 r1 (k := 4) (i := 5) (lo := 0) (hi := 1) rfl)) (fun o19 q19 _ => ?_)
  rw [q19]
  exact s_br (fun _ => go) (fun _ => done)
/-- the men of what was found, and what was found, keep to the law -/
def ReX (ρ : Nat → Nat) (c : Cm) (x0 : Nat) (h : Hp) : Prop := ∀ rt, hR h x0 9 = some rt → 0 < (hI h rt 6).toInt → (∀ b, hR h rt 3 = some b → RyX ρ c b h) ∧ ∀ L, ρ L = 2 → cw c L = 2102 → FoX rt (hI h L 2).toInt (hI h L 3).toInt h
theorem rep_of (P : ReX ρ c x0 h) : ReP ρ c x0 h := fun rt b e eb z => ((P rt e z).1 b eb).1
theorem before_x {y1 : Int32} (hF : 700000 ≤ F) (hp : ∀ k w i, SZ rE fW k w i = true → cPm c k w i = true) (T : TH ρ c h) (r0 : ρ x0 = 12) (lw : LwR ρ c h) (pl : PlP ρ c x0 h) (px : PlX ρ c x0 h) (fm : FmM ρ c h) (fx : FmY ρ c h) (re : ReX ρ c x0 h) : Sat (sX11_before F h x0 y1) (fun o => TH ρ c o.2 ∧ ReX ρ c x0 o.2) := by
  unfold sX11_before sX11_before_52
  refine s_dP0 (zX11_isPlace hF T r0 (rg_top _)) (fun o2 eb2 e2 ii2 pp2 => ?_)
  rw [e2]
  refine s_br (fun _ => s_some ⟨T, re⟩) (fun nz2 => ?_)
  have ip := pp2 nz2
  have l60 : y1.toNatClampNeg < 60 := by have := rg_clamp (n := 59) ip (by decide); omega
  obtain ⟨b, B⟩ := pcx_of T r0 pl px eb2 nz2 l60
  obtain ⟨L, eL, rL⟩ := thR T r0 (i := 2) (k2 := 2) rfl (by decide)
  have wL : cw c L = 2102 := kid_w T r0 (i := 2) (w := 2102) rfl (by decide) eL
  refine s_ref eL ?_
  refine s_cI0 (zX1_isPlain hF T rL) (fun o4 e4 _ => ?_)
  rw [e4]
  refine s_br (fun _ => s_some ⟨T, re⟩) (fun _ => ?_)
  obtain ⟨rt, ert, rrt⟩ := thR T r0 (i := 9) (k2 := 7) rfl (by decide)
  refine s_ref ert ?_
  refine s_pcx T r0 ip B ?_
  obtain ⟨kb, wb'⟩ := pcx_r T r0 l60 B
  have PB : RyX ρ c b h := by obtain ⟨_, _, _, q⟩ := B; exact q
  obtain ⟨o10, e10, T10', W, b3, X3⟩ := find_x (n := (hI h L 2).toInt) (m := (hI h L 3).toInt) (c := cat c (SZ rE fW) h) hF (sx_c _) (th_in _ T) rrt kb (by show ¬ cw c b = 1603; rw [wb']; decide) lw fm PB.1 (fun W rW => fx W L rW rL wL) (fun L' rL' wL' => by rw [law_1 T rL wL rL' wL']; exact ⟨rfl, rfl⟩) PB.2
  refine s_val e10 ?_
  have T10 := th_out T hp T10'
  have f10 := fr_u T T10'.2.2
  have ert10 : hR o10.2 x0 9 = some rt := by rw [x12 r0 f10 rfl]; exact ert
  have re10 : ReX ρ c x0 o10.2 := fun rt' e7 _ => by
    have : rt' = rt := r_eq ert10 e7
    subst this
    obtain ⟨⟨I, p3, _, l3⟩, fo⟩ := X3
    refine ⟨fun b' eb' => ?_, fun L' rL' wL' => ?_⟩
    · rw [r_eq I.1 eb']; exact ⟨I.2.1, p3⟩
    · obtain ⟨q1, q2⟩ := l3 L' rL' wL'
      rw [q1, q2]; exact fo
  refine s_br (fun _ => s_some ⟨T10, re10⟩) (fun _ => ?_)
  exact s_ref ert10 (s_some ⟨T10, re10⟩)
end
end
section
/-! beforeAt: places keep to the law -/
section
variable {ρ : Nat → Nat} {c : Cm} {h o : Hp} {x0 x1 b3 F L : Nat} {x2 y1 : Int32} {n m : Int}
theorem rlay_x {on3 wx : Nat} (hF : 700000 ≤ F) (hO : pmO c wx ppL) (w1 : cw c x1 = wx) (T : TH ρ c h) (r0 : ρ x0 = 7) (r1 : ρ x1 = 4) (n13 : ¬ x1 = b3) (gx : GMq (c.2.1 50) x2) (eb : hR h x0 3 = some b3) (eo : hR h b3 0 = some on3) (X : OnX n m on3 h) (M : MvX n m x2) (e : sX6_lay F h x0 x1 x2 = some o) : PxC ρ n m h o ∧ ∀ on1, hR h x1 0 = some on1 → OnX n m on1 o := by
  have rb : ρ b3 = 4 := rr T (thR T r0 (i := 3) (k2 := 4) rfl (by decide)) eb
  unfold sX6_lay at e
  replace e := cl_s e
  obtain ⟨b, eb', e⟩ := e
  have y : b = b3 := r_eq eb eb'
  subst y
  replace e := cl_s e
  obtain ⟨o2, e2, e⟩ := e
  have k2 := copy_x (pr_th T r1) eo X e2
  have T2 := sat_e (zX3_copyFrom (x0 := x1) (x1 := b) hF (by rw [w1]; exact pmO_s hO rfl) T r1 rb) e2
  replace e := cl_s e
  obtain ⟨o3, e3, e⟩ := e
  have Z3 := sat_e (zX6_takenIn hF T2 r0 (rg_top _) gx) e3
  rw [Z3.1] at e
  have eb2 : hR o2 x0 3 = some b := by rw [k2.1]; exact eb
  have is5 := thI T2 rb (k := 4) (i := 5) (lo := 0) (hi := 1) rfl
  have c3 : 0 ≤ o3.1.toInt → o3.1.toInt < 2 * m := by
    unfold sX6_takenIn sX6_takenIn_31 at e3
    replace e3 := nm_s e3
    obtain ⟨v, ev, e3⟩ := e3
    replace e3 := br_s e3
    rcases e3 with ⟨_, e3⟩ | ⟨nv, e3⟩
    · rw [← Option.some.inj e3]
      intro z
      exact absurd (show 0 ≤ (-1 : Int32).toInt from z) (by decide)
    · replace e3 := cl_s e3
      obtain ⟨r3, er3, e3⟩ := e3
      have y3 : r3 = b := r_eq eb2 er3
      subst y3
      rw [← Option.some.inj e3]
      intro _
      have lv : v.toInt < m := by
        rcases M.2.2.2 with q | q
        · exact absurd (by rw [ev]; exact q) nv
        · rw [ev]; exact q
      have iv : Rg 0 11 v := by
        rcases gx.1.2.1 with q | q
        · rw [ev]; exact q
        · exact absurd (by rw [ev]; exact q) nv
      have t1 := ti_mulc' iv (rg_b rfl : Rg 2 2 (2 : Int32)) (by decide)
      have i22 : Rg 0 22 ((2 : Int32) * v) := rg_mulc' (rg_b rfl : Rg 2 2 (2 : Int32)) iv (by decide)
      have t2 := ti_add i22 (rg_b rfl : Rg 1 1 (1 : Int32)) (by decide)
      have i23 : Rg 1 23 ((2 : Int32) * v + (1 : Int32)) := rg_add i22 (rg_b rfl : Rg 1 1 (1 : Int32)) (by decide)
      have z1 : (1 : Int32).toInt = 1 := rfl
      have z2 : (2 : Int32).toInt = 2 := rfl
      have := i23.1
      have := i23.2
      have := is5.1
      have := is5.2
      show (((2 : Int32) * v + (1 : Int32)) - hI o2 r3 5).toInt < 2 * m
      rw [ts (by omega)]
      omega
  replace e := cl_s e
  obtain ⟨L4, eL4, e⟩ := e
  replace e := cl_s e
  obtain ⟨o5, e5, e⟩ := e
  have k5 := put_x (n := n) (m := m) (pr_th T2 r1) (rg_m Z3.2 (by decide)) (fun z => ⟨M.2.1, c3 z⟩) e5
  replace e := cl_s e
  obtain ⟨r6, er6, e⟩ := e
  have y6 : r6 = b := by rw [k5.1.1] at er6; exact r_eq eb2 er6
  subst y6
  replace e := cl_s e
  obtain ⟨r7, er7, e⟩ := e
  replace e := cl_s e
  obtain ⟨o8, e8, e⟩ := e
  have zz := Option.some.inj e
  subst zz
  have s5 : hI o5 r6 5 = hI o2 r6 5 := k5.2 r6 rb
  have im : Rg 0 11 ((x2 >>> ((12 : Int32) &&& 31)) &&& (15 : Int32)) := gx.1.1
  have ic : Rg 0 23 (((2 : Int32) * ((x2 >>> ((12 : Int32) &&& 31)) &&& (15 : Int32))) + (hI o5 r6 5)) := rg_add (rg_mulc' (rg_b rfl : Rg 2 2 (2 : Int32)) im (by decide) : Rg 0 22 _) (by rw [s5]; exact is5) (by decide)
  have lc : (((2 : Int32) * ((x2 >>> ((12 : Int32) &&& 31)) &&& (15 : Int32))) + (hI o5 r6 5)).toInt < 2 * m := (code_x (rg_m im (by decide)) (by rw [s5]; exact is5) M.2.2.1).2
  have k8 := put_x (n := n) (m := m) (pr_k k5.1.1 (pr_th T2 r1)) (rg_m ic (by decide)) (fun _ => ⟨M.1, lc⟩) e8
  refine ⟨px_t (px_t k2 k5.1) k8.1, fun on1 e1 => ?_⟩
  have q1 := th_on T r1 e1
  exact on_k q1 (px_t k5.1 k8.1) (copy_on (pr_th T r1) eo e1 X e2)
theorem beforeAt_x (hF : 700000 ≤ F) (hp : ∀ k w i, SZ e58 (is 3200) k w i = true → cPm c k w i = true) (T : TH ρ c h) (r0 : ρ x0 = 12) (pl : PlP ρ c x0 h) (px : PlX ρ c x0 h) (re : ReX ρ c x0 h) : Sat (sX11_beforeAt F h x0 y1) (fun o => TH ρ c o.2 ∧ PlP ρ c x0 o.2 ∧ PlX ρ c x0 o.2) := by
  refine sat_and (zX11_beforeAtP hF hp T r0 pl (rep_of re)) (fun o e Z => ⟨Z.1, Z.2, ?_⟩)
  obtain ⟨L, eL, rL⟩ := thR T r0 (i := 2) (k2 := 2) rfl (by decide)
  have wL : cw c L = 2102 := kid_w T r0 (i := 2) (w := 2102) rfl (by decide) eL
  obtain ⟨n, en⟩ : ∃ n : Int, n = (hI h L 2).toInt := ⟨_, rfl⟩
  obtain ⟨m, em⟩ : ∃ m : Int, m = (hI h L 3).toInt := ⟨_, rfl⟩
  unfold sX11_beforeAt sX11_beforeAt_15 at e
  replace e := br_s e
  rcases e with ⟨_, e⟩ | ⟨n1, e⟩
  · rw [← Option.some.inj e]; exact px
  have a1 : 0 ≤ y1.toInt := nlt_i n1
  replace e := cl_s e
  obtain ⟨rt, ert, e⟩ := e
  have rrt : ρ rt = 7 := rr T (thR T r0 (i := 9) (k2 := 7) rfl (by decide)) ert
  replace e := br_s e
  rcases e with ⟨n2, e⟩ | ⟨_, e⟩
  rotate_left
  · rw [← Option.some.inj e]; exact px
  have l1 := lt_i n2
  replace e := cl_s e
  obtain ⟨o4, e4, e⟩ := e
  have Z4 := sat_e (zX11_freePlace hF T r0) e4
  rw [Z4.1] at e
  replace e := br_s e
  rcases e with ⟨_, e⟩ | ⟨n4, e⟩
  · rw [← Option.some.inj e]; exact px
  have ip : Rg 0 59 o4.1 := rg_nlo n4 Z4.2 (rg_b rfl : Rg (-1) (-1) (-1 : Int32))
  have l60 : o4.1.toNatClampNeg < 60 := by have := rg_clamp (n := 59) ip (by decide); omega
  replace e := cl_s e
  obtain ⟨u, eu, e⟩ := e
  have ru : ρ u = 58 := rr T (thR T r0 (i := 14) (k2 := 58) rfl (by decide)) eu
  replace e := (gd_s e).2
  replace e := nm_s e
  obtain ⟨h8, w8, e⟩ := e
  have T8 : TH ρ c h8 := by rw [w8]; exact th_wI T ru (k := 58) (lo := 0) (hi := 1) rfl (rg_narz _) (by decide) (by decide) (szE hp rfl _)
  have kR : ∀ a i, hR h8 a i = hR h a i := fun a i => by rw [w8]; rfl
  have kI : ∀ {a k : Nat} (i : Nat), ρ a = k → k ≠ 58 → hI h8 a i = hI h a i := fun {a k} i ra hk => by rw [w8, r_I, if_neg (ne_r ra ru hk)]
  replace e := cl_s e
  obtain ⟨r9, er9, e⟩ := e
  have y9 : r9 = rt := by rw [kR] at er9; exact r_eq ert er9
  subst y9
  replace e := cl_s e
  obtain ⟨r, er, e⟩ := e
  rw [kR] at er
  have rr' : ρ r = 57 := rr T (thR T r0 (i := 13) (k2 := 57) rfl (by decide)) er
  replace e := (gd_s e).2
  replace e := cl_s e
  obtain ⟨d, ed, e⟩ := e
  rw [kR] at ed
  have rd := pl_b T rr' l60 ed
  have wd : cw c d = 3200 := kid_w T rr' (i := o4.1.toNatClampNeg) rfl (by decide) ed
  replace e := cl_s e
  obtain ⟨o13, e13, e⟩ := e
  have zz := Option.some.inj e
  subst zz
  unfold sX6_fillIn sX6_fillIn_23 at e13
  have h6 : hI h8 r9 6 = hI h r9 6 := kI 6 rrt (by decide)
  replace e13 := br_s e13
  rcases e13 with ⟨z, _⟩ | ⟨_, e13⟩
  · exact absurd z n1
  replace e13 := br_s e13
  rcases e13 with ⟨z, _⟩ | ⟨_, e13⟩
  · exact absurd (le_i z) (by rw [h6]; omega)
  replace e13 := cl_s e13
  obtain ⟨fo, efo, e13⟩ := e13
  have rfo : ρ fo = 48 := rr T8 (thR T8 rrt (i := 5) (k2 := 48) rfl (by decide)) efo
  rw [kR] at efo
  replace e13 := (gd_s e13).2
  replace e13 := cl_s e13
  obtain ⟨o5, e5, e13⟩ := e13
  have zz := Option.some.inj e13
  subst zz
  obtain ⟨b3, e3, rb3⟩ := thR T rrt (i := 3) (k2 := 4) rfl (by decide)
  have wb3 : cw c b3 = 1603 := th_id T rrt (w := 1603) e3 rfl (by decide)
  obtain ⟨on3, eo3, qo3⟩ := thR T rb3 (i := 0) (k2 := 34) rfl (by decide)
  obtain ⟨RA, RB⟩ := re r9 ert (by omega)
  have X3 : OnX n m on3 h8 := fun s hs z => by
    rw [kI s qo3 (by decide)] at z ⊢
    rw [en, em]
    exact (RA b3 e3).2 L on3 s rL wL eo3 hs z
  have M : MvX n m (hI h8 fo y1.toNatClampNeg) := by
    rw [kI _ rfo (by decide), en, em]
    exact RB L rL wL fo efo _ (by have := nc_i a1; omega)
  have hO : pmO c 3200 ppL := szP hp is_s
  obtain ⟨k7, Xd'⟩ := rlay_x (n := n) (m := m) hF hO wd T8 rrt rd (fun z => by rw [z, wb3] at wd; exact absurd wd (by decide)) (thG8 T8 rfo) (by rw [kR]; exact e3) (by rw [kR]; exact eo3) X3 M e5
  obtain ⟨ond, eod, qod⟩ := thR T rd (i := 0) (k2 := 34) rfl (by decide)
  have Xd := Xd' ond (by rw [kR]; exact eod)
  intro r' u' er' eu' i hi nu b' eb' L' on' s rL' wL' eo' hs zz
  rw [k7.1, kR] at er' eu' eb' eo'
  have y1 : r' = r := r_eq er er'
  have y2 : u' = u := r_eq eu eu'
  subst y1; subst y2
  have y3 : L' = L := law_1 T rL wL rL' wL'
  subst y3
  have iL : ∀ j, hI o5 L' j = hI h L' j := fun j => by rw [k7.2.1 L' j (by rw [rL']; rfl)]; exact kI j rL' (by decide)
  show (s : Int) < (hI o5 L' 2).toInt ∧ (hI o5 on' s).toInt < 2 * (hI o5 L' 3).toInt
  rw [iL, iL, ← en, ← em]
  have rb' := pl_b T rr' hi eb'
  by_cases v : i = o4.1.toNatClampNeg
  · rw [v] at eb'
    have y4 : b' = d := r_eq ed eb'
    subst y4
    have y5 : on' = ond := r_eq eod eo'
    subst y5
    exact Xd s hs zz
  · have nu' : ¬ hI h u' i = 0 := fun w => nu (by
      show hI o5 u' i = 0
      rw [k7.2.1 u' i (by rw [ru]; rfl), w8, r_I, if_neg (fun y => v y.2)]
      exact w)
    have qo' := th_on T rb' eo'
    have Xb : OnX n m on' h8 := fun s hs z => by
      rw [kI s qo' (by decide)] at z ⊢
      rw [en, em]
      exact px r' u' er' eu' i hi nu' b' eb' L' on' s rL wL eo' hs z
    exact on_k qo' k7 Xb s hs zz
end
end
section
/-! a reader and one law, all else of no kind: what reading leaves -/
section
variable {ρ : Nat → Nat} {c : Cm} {h o : Hp} {x0 x1 x2 F v a : Nat}
def rcn (ρ : Nat → Nat) (c : Cm) (v a : Nat) : Prop := ρ a = 3 ∨ ρ a = 10 ∨ ρ a = 49 ∨ ((ρ a = 2 ∨ (27 ≤ ρ a ∧ ρ a ≤ 33)) ∧ cw c a = v)
noncomputable def rtp (ρ : Nat → Nat) (c : Cm) (v : Nat) (a : Nat) : Nat := by
  classical
  exact if rcn ρ c v a then ρ a else if ρ a = 0 then 0 else 199
theorem rtp_c : (rtp ρ c v a = ρ a ∧ rcn ρ c v a) ∨ (rtp ρ c v a = 0 ∧ ρ a = 0) ∨ (rtp ρ c v a = 199 ∧ ρ a ≠ 0 ∧ ¬ rcn ρ c v a) := by
  classical
  by_cases q : rcn ρ c v a
  · exact Or.inl ⟨if_pos q, q⟩
  · have e : rtp ρ c v a = if ρ a = 0 then 0 else 199 := if_neg q
    by_cases z : ρ a = 0
    · exact Or.inr (Or.inl ⟨by rw [e, if_pos z], z⟩)
    · exact Or.inr (Or.inr ⟨by rw [e, if_neg z], z, q⟩)
theorem rtp_y (q : rcn ρ c v a) : rtp ρ c v a = ρ a := by
  classical
  exact if_pos q
theorem rtp_n (q : ¬ rcn ρ c v a) (z : ρ a ≠ 0) : rtp ρ c v a = 199 := by
  classical
  have e : rtp ρ c v a = if ρ a = 0 then 0 else 199 := if_neg q
  rw [e, if_neg z]
/-- of those roles alone -/
theorem rtp_k {k : Nat} (e : rtp ρ c v a = k) (h0 : k ≠ 0) (h9 : k ≠ 199) : ρ a = k ∧ rcn ρ c v a := by
  rcases rtp_c (ρ := ρ) (c := c) (v := v) (a := a) with ⟨z, q⟩ | ⟨z, _⟩ | ⟨z, _⟩
  · exact ⟨by rw [← z]; exact e, q⟩
  · exact absurd (by rw [← e]; exact z) h0
  · exact absurd (by rw [← e]; exact z) h9
theorem rcn_r {k : Nat} (e : ρ a = k) (q : rcn ρ c v a) : k = 3 ∨ k = 10 ∨ k = 49 ∨ ((k = 2 ∨ (27 ≤ k ∧ k ≤ 33)) ∧ cw c a = v) := by
  unfold rcn at q
  rw [e] at q
  exact q
def rtS (k _w i : Nat) : Bool := (k == 3 && (decide (2 ≤ i) && decide (i ≤ 6))) || (k == 2 && decide (i ≤ 13)) || (decide (27 ≤ k) && decide (k ≤ 33))
theorem retype (T : TH ρ c h) (lw : ∀ a r, ρ a = 3 → hR h a 1 = some r → cw c r = v) : TH (rtp ρ c v) (cat c rtS h) h := by
  obtain ⟨⟨t1, t2, t3, t4, t5, t6, t7, t8, t9⟩, ⟨o1, o2, o3, o4⟩, f⟩ := T
  refine ⟨⟨t1, fun a i => ?_, fun a i hk => ?_, fun a i hk r hr => ?_, fun a hk => ?_, ?_, ?_, fun a i hk hm => ?_, fun a b hab hs => ?_⟩, ⟨fun a i r hi hr => ?_, fun a i r hk hr => ?_, fun a ha => ?_, fun a i r ha hr => ?_⟩, Nat.le_refl _, fun _ _ _ _ _ => ⟨rfl, rfl, rfl⟩, fun _ _ _ => rfl⟩
  · rcases rtp_c (ρ := ρ) (c := c) (v := v) (a := a) with ⟨z, q⟩ | ⟨z, q⟩ | ⟨z, _⟩
    · rw [z]; exact t2 a i
    · rw [z, ← q]; exact t2 a i
    · rw [z]; exact ⟨rg_top _, rp0 rfl⟩
  · rcases rtp_c (ρ := ρ) (c := c) (v := v) (a := a) with ⟨z, q⟩ | ⟨z, _⟩ | ⟨z, _⟩
    · rw [z] at hk ⊢
      obtain ⟨r, hr, er⟩ := t3 a i hk
      refine ⟨r, hr, ?_⟩
      rw [← er]
      refine rtp_y ?_
      rcases q with q | q | q | ⟨q | q, w⟩
      · rw [q] at hk; exact absurd rfl hk
      · rw [q] at er hk
        have : i = 0 := by
          match i, hk with
          | 0, _ => rfl
          | i + 1, hk => exact absurd rfl hk
        rw [this] at er
        exact Or.inr (Or.inr (Or.inl er))
      · rw [q] at hk; exact absurd rfl hk
      · rw [q] at er hk
        have wr : cw c r = v := (o1 a i r (by rw [q]; rfl) hr).trans w
        refine Or.inr (Or.inr (Or.inr ⟨Or.inr ?_, wr⟩))
        rw [er]
        match i, hk with
        | 14, _ => decide
        | 15, _ => decide
        | 16, _ => decide
        | 17, _ => decide
        | 18, _ => decide
        | 19, _ => decide
        | 20, _ => decide
        | 0, hk => exact absurd rfl hk
        | 1, hk => exact absurd rfl hk
        | 2, hk => exact absurd rfl hk
        | 3, hk => exact absurd rfl hk
        | 4, hk => exact absurd rfl hk
        | 5, hk => exact absurd rfl hk
        | 6, hk => exact absurd rfl hk
        | 7, hk => exact absurd rfl hk
        | 8, hk => exact absurd rfl hk
        | 9, hk => exact absurd rfl hk
        | 10, hk => exact absurd rfl hk
        | 11, hk => exact absurd rfl hk
        | 12, hk => exact absurd rfl hk
        | 13, hk => exact absurd rfl hk
        | i + 21, hk => exact absurd rfl hk
      · have : rfK (ρ a) i = 0 := by
          have : ρ a = 27 ∨ ρ a = 28 ∨ ρ a = 29 ∨ ρ a = 30 ∨ ρ a = 31 ∨ ρ a = 32 ∨ ρ a = 33 := by omega
          rcases this with z | z | z | z | z | z | z <;> (rw [z]; rfl)
        exact absurd this hk
    · rw [z] at hk; exact absurd rfl hk
    · rw [z] at hk; exact absurd rfl hk
  · rcases rtp_c (ρ := ρ) (c := c) (v := v) (a := a) with ⟨z, q⟩ | ⟨z, _⟩ | ⟨z, _⟩
    · rw [z] at hk ⊢
      have er := t4 a i hk r hr
      rw [← er]
      refine rtp_y ?_
      rcases q with q | q | q | ⟨q | q, w⟩
      · rw [q] at hk er
        match i, hk, hr, er with
        | 0, _, _, er => exact Or.inr (Or.inl er)
        | 1, _, hr, er => exact Or.inr (Or.inr (Or.inr ⟨Or.inl er, lw a r q hr⟩))
        | i + 2, hk, _, _ => exact absurd rfl hk
      · rw [q] at hk; exact absurd rfl hk
      · rw [q] at hk; exact absurd rfl hk
      · rw [q] at hk; exact absurd rfl hk
      · have : rfN (ρ a) i = 0 := by
          have : ρ a = 27 ∨ ρ a = 28 ∨ ρ a = 29 ∨ ρ a = 30 ∨ ρ a = 31 ∨ ρ a = 32 ∨ ρ a = 33 := by omega
          rcases this with z | z | z | z | z | z | z <;> (rw [z]; rfl)
        exact absurd this hk
    · rw [z] at hk; exact absurd rfl hk
    · rw [z] at hk; exact absurd rfl hk
  · rcases rtp_c (ρ := ρ) (c := c) (v := v) (a := a) with ⟨z, q⟩ | ⟨z, _⟩ | ⟨z, _⟩
    · rw [z] at hk ⊢; exact t5 a hk
    · rw [z] at hk; exact absurd rfl hk
    · rw [z] at hk; exact absurd rfl hk
  · intro t tb ht hr
    exact t6 t tb (rtp_k ht (by decide) (by decide)).1 hr
  · have n4 : ∀ p, ¬ rtp ρ c v p = 4 := fun p hp => by
      obtain ⟨k1, k2⟩ := rtp_k hp (by decide) (by decide)
      have := rcn_r k1 k2
      omega
    exact ⟨fun p q i a hi hp hq => absurd hp (n4 p), fun p on of hp => absurd hp (n4 p)⟩
  · rcases rtp_c (ρ := ρ) (c := c) (v := v) (a := a) with ⟨z, q⟩ | ⟨z, _⟩ | ⟨z, _⟩
    · rw [z] at hk hm; exact t8 a i hk hm
    · rw [z] at hk; exact absurd rfl hk
    · rw [z] at hk; exact absurd rfl hk
  · rcases rtp_c (ρ := ρ) (c := c) (v := v) (a := a) with ⟨z, q⟩ | ⟨z, _⟩ | ⟨z, _⟩
    · have hb : ρ b = ρ a := by
        rw [z] at hab
        have a0 : ρ a ≠ 0 := fun y => by have := rcn_r y q; omega
        have a9 : ρ a ≠ 199 := fun y => by have := rcn_r y q; omega
        exact (rtp_k hab.symm a0 a9).1
      rw [z] at hs
      exact t9 a b hb.symm hs
    · rw [z] at hs
      rcases hs with s | ⟨s | s, _⟩
      · exact absurd s (by decide)
      · exact absurd s (by decide)
      · exact absurd s (by decide)
    · rw [z] at hs
      rcases hs with s | ⟨s | s, _⟩
      · exact absurd s (by decide)
      · exact absurd s (by decide)
      · exact absurd s (by decide)
  · rcases rtp_c (ρ := ρ) (c := c) (v := v) (a := a) with ⟨z, q⟩ | ⟨z, _⟩ | ⟨z, _⟩
    · rw [z] at hi; exact o1 a i r hi hr
    · rw [z] at hi; exact absurd hi (by decide)
    · rw [z] at hi; exact absurd hi (by decide)
  · rcases rtp_c (ρ := ρ) (c := c) (v := v) (a := a) with ⟨z, q⟩ | ⟨z, _⟩ | ⟨z, _⟩
    · rw [z] at hk ⊢; exact o2 a i r hk hr
    · rw [z] at hk; exact absurd rfl hk
    · rw [z] at hk; exact absurd rfl hk
  · refine o3 a (fun z => ha ?_)
    rcases rtp_c (ρ := ρ) (c := c) (v := v) (a := a) with ⟨y, q⟩ | ⟨y, _⟩ | ⟨_, y, _⟩
    · rw [y]; exact z
    · exact y
    · exact absurd z y
  · refine o4 a i r (fun z => ha ?_) hr
    rcases rtp_c (ρ := ρ) (c := c) (v := v) (a := a) with ⟨y, q⟩ | ⟨y, _⟩ | ⟨_, y, _⟩
    · rw [y]; exact z
    · exact y
    · exact absurd z y
/-- back to the kinds that were -/
theorem unretype (T : TH ρ c h) (hs : ∀ k w i, rtS k w i = true → cPm c k w i = true) (T' : TH (rtp ρ c v) (cat c rtS h) o) : TH ρ c o ∧ (∀ a i, ρ a ≠ 0 → ¬ (rcn ρ c v a ∧ rtS (ρ a) 0 i = true) → hI o a i = hI h a i ∧ hJ o a i = hJ h a i ∧ hR o a i = hR h a i) ∧ ∀ a, ρ a ≠ 0 → hN o a = hN h a := by
  obtain ⟨⟨t1, t2, t3, t4, t5, t6, t7, t8, t9⟩, ⟨o1, o2, o3, o4⟩, f⟩ := T
  obtain ⟨⟨u1, u2, u3, u4, u5, u6, u7, u8, u9⟩, ⟨q1, q2, q3, q4⟩, g⟩ := T'
  have lt : ∀ a, ρ a ≠ 0 → a < h.1.1 := fun a ha => by rw [t1]; exact o3 a ha
  have nz : ∀ a, ρ a ≠ 0 → rtp ρ c v a ≠ 0 := fun a ha => by
    rcases rtp_c (ρ := ρ) (c := c) (v := v) (a := a) with ⟨z, q⟩ | ⟨_, q⟩ | ⟨z, _⟩
    · rw [z]; exact ha
    · exact absurd q ha
    · rw [z]; decide
  have same : ∀ a i, ρ a ≠ 0 → ¬ (rcn ρ c v a ∧ rtS (ρ a) 0 i = true) → hI o a i = hI h a i ∧ hJ o a i = hJ h a i ∧ hR o a i = hR h a i := fun a i ha hn => by
    refine g.2.1 a i (lt a ha) (nz a ha) ?_
    show rtS (rtp ρ c v a) (cw c a) i = false
    rcases rtp_c (ρ := ρ) (c := c) (v := v) (a := a) with ⟨z, q⟩ | ⟨_, q⟩ | ⟨z, _⟩
    · rw [z]
      cases w : rtS (ρ a) (cw c a) i with
      | false => rfl
      | true => exact absurd ⟨q, w⟩ hn
    · exact absurd q ha
    · rw [z]; rfl
  have sR : ∀ a i, rfK (ρ a) i ≠ 0 ∨ rfN (ρ a) i ≠ 0 → hR o a i = hR h a i := fun a i hk => by
    have a0 : ρ a ≠ 0 := fun z => by rw [z] at hk; exact hk.elim (fun y => y rfl) (fun y => y rfl)
    refine (same a i a0 (fun ⟨q, w⟩ => ?_)).2.2
    rcases q with q | q | q | ⟨q | q, _⟩
    · rw [q] at w hk
      have l2 : 2 ≤ i := by
        by_cases z : 2 ≤ i
        · exact z
        · have : rtS 3 0 i = false := by
            show ((true && (decide (2 ≤ i) && decide (i ≤ 6))) || false || false) = false
            rw [decide_eq_false z]; rfl
          rw [this] at w; exact absurd w (by decide)
      match i, l2, hk with
      | i + 2, _, hk => exact hk.elim (fun y => y rfl) (fun y => y rfl)
    · rw [q] at w; exact absurd (show false = true from w) (by decide)
    · rw [q] at w; exact absurd (show false = true from w) (by decide)
    · rw [q] at w hk
      have l2 : i ≤ 13 := by
        by_cases z : i ≤ 13
        · exact z
        · have : rtS 2 0 i = false := by
            show ((false && _) || (true && decide (i ≤ 13)) || false) = false
            rw [decide_eq_false z]; rfl
          rw [this] at w; exact absurd w (by decide)
      have : i = 0 ∨ i = 1 ∨ i = 2 ∨ i = 3 ∨ i = 4 ∨ i = 5 ∨ i = 6 ∨ i = 7 ∨ i = 8 ∨ i = 9 ∨ i = 10 ∨ i = 11 ∨ i = 12 ∨ i = 13 := by omega
      rcases this with z | z | z | z | z | z | z | z | z | z | z | z | z | z <;> (rw [z] at hk; exact hk.elim (fun y => y rfl) (fun y => y rfl))
    · have : ρ a = 27 ∨ ρ a = 28 ∨ ρ a = 29 ∨ ρ a = 30 ∨ ρ a = 31 ∨ ρ a = 32 ∨ ρ a = 33 := by omega
      rcases this with z | z | z | z | z | z | z <;> (rw [z] at hk; exact hk.elim (fun y => y rfl) (fun y => y rfl))
  refine ⟨⟨⟨u1, fun a i => ?_, fun a i hk => ?_, fun a i hk r hr => ?_, fun a hk => ?_, ?_, ?_, fun a i hk hm => ?_, t9⟩, ⟨fun a i r hi hr => ?_, fun a i r hk hr => ?_, o3, fun a i r ha hr => ?_⟩, Nat.le_trans f.1 g.1, fun a i l h0 hz => ?_, fun a l h0 => ?_⟩, same, fun a h0 => g.2.2 a (lt a h0) (nz a h0)⟩
  · by_cases z : ρ a = 0
    · rw [z]; exact ⟨rg_top _, rp0 rfl⟩
    · by_cases q : rcn ρ c v a
      · have := u2 a i
        rw [rtp_y q] at this
        exact this
      · rw [(same a i z (fun y => q y.1)).1]; exact t2 a i
  · obtain ⟨r, hr, er⟩ := t3 a i hk
    exact ⟨r, by rw [sR a i (Or.inl hk)]; exact hr, er⟩
  · rw [sR a i (Or.inr hk)] at hr
    exact t4 a i hk r hr
  · have a0 : ρ a ≠ 0 := fun z => by rw [z] at hk; exact hk rfl
    rw [g.2.2 a (lt a a0) (nz a a0)]; exact t5 a hk
  · intro t tb ht hr
    have e1 := same t 1 (by rw [ht]; decide) (fun y => by rw [ht] at y; exact absurd y.2 (by decide))
    rw [sR t 0 (Or.inl (by rw [ht]; decide))] at hr
    obtain ⟨r, h1, h2⟩ := t3 t 0 (by rw [ht]; decide)
    have rb : ρ tb = 49 := by
      rw [h1] at hr
      rw [← Option.some.inj hr, h2, ht]; rfl
    rw [e1.1, g.2.2 tb (lt tb (by rw [rb]; decide)) (nz tb (by rw [rb]; decide))]
    exact t6 t tb ht hr
  · refine ⟨fun p q i a hi hp hq h1 h2 => ?_, fun p on of hp ho hf s hs d hd hb => ?_⟩
    · have k4 : ∀ p, ρ p = 4 → hR o p i = hR h p i := fun p hp => (same p i (by rw [hp]; decide) (fun y => by rw [hp] at y; exact absurd y.2 (by simp [rtS]))).2.2
      rw [k4 p hp] at h1
      rw [k4 q hq] at h2
      exact t7.1 p q i a hi hp hq h1 h2
    · rw [sR p 0 (Or.inl (by rw [hp]; decide))] at ho
      rw [sR p 1 (Or.inl (by rw [hp]; decide))] at hf
      obtain ⟨r1, h1, h2⟩ := t3 p 0 (by rw [hp]; decide)
      obtain ⟨r3, h3, h4⟩ := t3 p 1 (by rw [hp]; decide)
      have ron : ρ on = 34 := by rw [h1] at ho; rw [← Option.some.inj ho, h2, hp]; rfl
      have rof : ρ of = 35 := by rw [h3] at hf; rw [← Option.some.inj hf, h4, hp]; rfl
      rw [(same of d (by rw [rof]; decide) (fun y => by rw [rof] at y; exact absurd y.2 (by simp [rtS]))).2.1] at hb
      rw [(same on s (by rw [ron]; decide) (fun y => by rw [ron] at y; exact absurd y.2 (by simp [rtS]))).1]
      exact t7.2 p on of hp ho hf s hs d hd hb
  · obtain ⟨r, hr⟩ := t8 a i hk hm
    by_cases q : rcn ρ c v a
    · exact u8 a i (by rw [rtp_y q]; exact hk) (by rw [rtp_y q]; exact hm)
    · have a0 : ρ a ≠ 0 := fun z => by rw [z] at hk; exact hk rfl
      exact ⟨r, by rw [(same a i a0 (fun y => q y.1)).2.2]; exact hr⟩
  · by_cases q : rcn ρ c v a
    · exact q1 a i r (by rw [rtp_y q]; exact hi) hr
    · have a0 : ρ a ≠ 0 := fun z => by rw [z] at hi; exact absurd hi (by decide)
      rw [(same a i a0 (fun y => q y.1)).2.2] at hr
      exact o1 a i r hi hr
  · by_cases q : rcn ρ c v a
    · have := q2 a i r (by rw [rtp_y q]; exact hk) hr
      rw [rtp_y q] at this
      exact this
    · have a0 : ρ a ≠ 0 := fun z => by rw [z] at hk; exact absurd rfl hk
      rw [(same a i a0 (fun y => q y.1)).2.2] at hr
      exact o2 a i r hk hr
  · exact q4 a i r (nz a ha) hr
  · have a1 : a < h.1.1 := Nat.lt_of_lt_of_le l f.1
    obtain ⟨p1, p2, p3⟩ := f.2.1 a i l h0 hz
    obtain ⟨s1, s2, s3⟩ := same a i h0 (fun y => by
      have := hs (ρ a) (cw c a) i y.2
      rw [hz] at this
      exact absurd this (by decide))
    exact ⟨s1.trans p1, s2.trans p2, s3.trans p3⟩
  · exact (g.2.2 a (lt a h0) (nz a h0)).trans (f.2.2 a l h0)
end
end
