/-! what was found before keeps to the law -/
theorem mvx_one {n m0 : Int} {s t m k : Int32} (is' : Rg 0 63 s) (it : Rg 0 63 t) (im : Rg 0 11 m) (ik : Rg 0 11 k ∨ k = 15) (ls : s.toInt < n) (lt : t.toInt < n) (lm : m.toInt < m0) (lk : k = 15 ∨ k.toInt < m0) : MvX n m0 (((s ||| (t <<< ((6 : Int32) &&& 31))) ||| (m <<< ((12 : Int32) &&& 31))) ||| (k <<< ((16 : Int32) &&& 31))) := by
  have ik15 : Rg 0 15 k := by
    rcases ik with z | z
    · exact rg_m z (by decide)
    · rw [z]; exact rg_b rfl
  have a : (fd 12 s = 0 ∧ fd 16 s = 0 ∧ fd 20 s = 0) ∧ s &&& (63 : Int32) = s ∧ (s >>> ((6 : Int32) &&& 31)) &&& (63 : Int32) = 0 := small (P := fun s => (fd 12 s = 0 ∧ fd 16 s = 0 ∧ fd 20 s = 0) ∧ s &&& (63 : Int32) = s ∧ (s >>> ((6 : Int32) &&& 31)) &&& (63 : Int32) = 0) (n := 63) is' (by decide) (by decide +kernel)
  have b : (fd 12 (t <<< ((6 : Int32) &&& 31)) = 0 ∧ fd 16 (t <<< ((6 : Int32) &&& 31)) = 0 ∧ fd 20 (t <<< ((6 : Int32) &&& 31)) = 0) ∧ (t <<< ((6 : Int32) &&& 31)) &&& (63 : Int32) = 0 ∧ ((t <<< ((6 : Int32) &&& 31)) >>> ((6 : Int32) &&& 31)) &&& (63 : Int32) = t := small (P := fun t => (fd 12 (t <<< ((6 : Int32) &&& 31)) = 0 ∧ fd 16 (t <<< ((6 : Int32) &&& 31)) = 0 ∧ fd 20 (t <<< ((6 : Int32) &&& 31)) = 0) ∧ (t <<< ((6 : Int32) &&& 31)) &&& (63 : Int32) = 0 ∧ ((t <<< ((6 : Int32) &&& 31)) >>> ((6 : Int32) &&& 31)) &&& (63 : Int32) = t) (n := 63) it (by decide) (by decide +kernel)
  have c : (fd 12 (m <<< ((12 : Int32) &&& 31)) = m ∧ fd 16 (m <<< ((12 : Int32) &&& 31)) = 0 ∧ fd 20 (m <<< ((12 : Int32) &&& 31)) = 0) ∧ (m <<< ((12 : Int32) &&& 31)) &&& (63 : Int32) = 0 ∧ ((m <<< ((12 : Int32) &&& 31)) >>> ((6 : Int32) &&& 31)) &&& (63 : Int32) = 0 := small (P := fun m => (fd 12 (m <<< ((12 : Int32) &&& 31)) = m ∧ fd 16 (m <<< ((12 : Int32) &&& 31)) = 0 ∧ fd 20 (m <<< ((12 : Int32) &&& 31)) = 0) ∧ (m <<< ((12 : Int32) &&& 31)) &&& (63 : Int32) = 0 ∧ ((m <<< ((12 : Int32) &&& 31)) >>> ((6 : Int32) &&& 31)) &&& (63 : Int32) = 0) (n := 11) im (by decide) (by decide +kernel)
  have d : (fd 12 (k <<< ((16 : Int32) &&& 31)) = 0 ∧ fd 16 (k <<< ((16 : Int32) &&& 31)) = k ∧ fd 20 (k <<< ((16 : Int32) &&& 31)) = 0) ∧ (k <<< ((16 : Int32) &&& 31)) &&& (63 : Int32) = 0 ∧ ((k <<< ((16 : Int32) &&& 31)) >>> ((6 : Int32) &&& 31)) &&& (63 : Int32) = 0 := small (P := fun k => (fd 12 (k <<< ((16 : Int32) &&& 31)) = 0 ∧ fd 16 (k <<< ((16 : Int32) &&& 31)) = k ∧ fd 20 (k <<< ((16 : Int32) &&& 31)) = 0) ∧ (k <<< ((16 : Int32) &&& 31)) &&& (63 : Int32) = 0 ∧ ((k <<< ((16 : Int32) &&& 31)) >>> ((6 : Int32) &&& 31)) &&& (63 : Int32) = 0) (n := 15) ik15 (by decide) (by decide +kernel)
  have o0 : (0 : Int32) ||| 0 = 0 := by decide
  refine ⟨?_, ?_, ?_, ?_⟩
  · rw [lo_or, lo_or, lo_or, a.2.1, b.2.1, c.2.1, d.2.1, or_0, or_0, or_0]; exact ls
  · rw [sh_or, sh_or, sh_or, lo_or, lo_or, lo_or, a.2.2, b.2.2, c.2.2, d.2.2, or_l, or_0, or_0]; exact lt
  · show (fd 12 _).toInt < m0
    rw [fd_or, fd_or, fd_or, a.1.1, b.1.1, c.1.1, d.1.1, o0, or_l, or_0]; exact lm
  · show fd 16 _ = 15 ∨ (fd 16 _).toInt < m0
    rw [fd_or, fd_or, fd_or, a.1.2.1, b.1.2.1, c.1.2.1, d.1.2.1, o0, o0, or_l]; exact lk
section
variable {ρ ρ1 : Nat → Nat} {c c1 : Cm} {h o g : Hp} {E : Nat → Nat → Bool} {wp : Nat → Bool} {x0 x1 b b3 W w i F L : Nat} {x2 x3 : Int32} {n m : Int}
def LwN (ρ : Nat → Nat) (c : Cm) (n m : Int) (h : Hp) : Prop := ∀ L, ρ L = 2 → cw c L = 2102 → (hI h L 2).toInt = n ∧ (hI h L 3).toInt = m
def FoX (x0 : Nat) (n m : Int) (h : Hp) : Prop := ∀ fo, hR h x0 5 = some fo → ∀ k : Nat, (k : Int) < (hI h x0 6).toInt → MvX n m (hI h fo k)
/-- the row of what was found, with one more -/
theorem keepx_23 (hF : 700000 ≤ F) (T : TH ρ c h) (r0 : ρ x0 = 7) (gx : GMq (c.2.1 50) x2) (M : MvX n m x2) (P : FoX x0 n m h) : ∀ (f : Nat) {o : Hp} {y z : Int32}, 0 ≤ y.toInt → z.toInt ≤ (hI h x0 6).toInt → (hI h x0 6).toInt < 3000 → y.toInt ≤ (hI h x0 6).toInt → sX6_keep_23 F f h x0 x2 y z = some o → FoX x0 n m o := by
  obtain ⟨fo, efo, rfo⟩ := thR T r0 (i := 5) (k2 := 48) rfl (by decide)
  have n06 : ¬ x0 = fo := fun z => by rw [z, rfo] at r0; exact absurd r0 (by decide)
  have i6 := thI T r0 (k := 7) (i := 6) (lo := 0) (hi := 3000) rfl
  have z1 : (1 : Int32).toInt = 1 := rfl
  intro f
  induction f with
  | zero => intro o y z _ _ _ _ e; exact absurd e (by rw [sX6_keep_23]; exact fun z => nomatch z)
  | succ f ih =>
    intro o y z a0 a1 a2 a3 e
    rw [sX6_keep_23] at e
    unfold sX6_keep_61 at e
    replace e := br_s e
    rcases e with ⟨l, e⟩ | ⟨l, e⟩
    · replace e := cl_s e
      obtain ⟨r2, e2, e⟩ := e
      have y2 : r2 = fo := r_eq efo e2
      subst y2
      replace e := cl_s e
      obtain ⟨r3, e3, e⟩ := e
      have y3 : r3 = r2 := r_eq efo e3
      subst y3
      iterate 5 replace e := (gd_s e).2
      replace e := nm_s e
      obtain ⟨h9, w9, e⟩ := e
      replace e := cl_s e
      obtain ⟨r10, e10, e⟩ := e
      have y10 : r10 = r3 := r_eq efo (by rw [w9] at e10; exact e10)
      subst y10
      replace e := (gd_s e).2
      replace e := nm_s e
      obtain ⟨h12, w12, e⟩ := e
      replace e := nm_s e
      obtain ⟨h13, w13, e⟩ := e
      have zz := Option.some.inj e
      subst zz
      have c9 : hI h9 x0 6 = hI h x0 6 := by rw [w9, cp_at, if_neg (fun q => n06 q.1)]
      have c12 : hI h12 x0 6 = hI h x0 6 := by rw [w12, r_I, if_neg (fun q => n06 q.1)]; exact c9
      have c13 : (hI h13 x0 6).toInt = (hI h x0 6).toInt + 1 := by rw [w13, r_I, if_pos ⟨rfl, rfl⟩, c12, ta (by rw [z1]; omega), z1]
      have ky := nc_i a0
      have ky1 : (y + (1 : Int32)).toNatClampNeg = y.toNatClampNeg + 1 := by
        have e1 : (y + (1 : Int32)).toInt = y.toInt + 1 := by rw [ta (by rw [z1]; omega), z1]
        have := nc_i (x := y + (1 : Int32)) (by omega)
        omega
      have ks : ((hI h x0 6) - y).toNatClampNeg = ((hI h x0 6).toInt - y.toInt).toNat := by
        have e1 : ((hI h x0 6) - y).toInt = (hI h x0 6).toInt - y.toInt := by rw [ts (by omega)]
        have := nc_i (x := (hI h x0 6) - y) (by omega)
        omega
      intro fo' efo' k hk
      have efo'' : hR h x0 5 = some fo' := by rw [w13, w12, w9] at efo'; exact efo'
      have yf : fo' = r10 := r_eq efo efo''
      subst yf
      rw [c13] at hk
      rw [w13, r_I, if_neg (fun q => n06 q.1.symm), w12, r_I]
      by_cases q : k = y.toNatClampNeg
      · rw [if_pos ⟨rfl, q⟩]; exact M
      · rw [if_neg (fun v => q v.2), w9, cp_at, ky1, ks]
        by_cases v : y.toNatClampNeg + 1 ≤ k
        · rw [if_pos ⟨rfl, v, by omega⟩]
          exact P fo' efo _ (by omega)
        · rw [if_neg (fun u => v u.2.1)]
          exact P fo' efo _ (by omega)
    · have l := nle_i l
      replace e := nm_s e
      obtain ⟨v, ev, e⟩ := e
      replace e := cl_s e
      obtain ⟨r15, e15, e⟩ := e
      have y15 : r15 = fo := r_eq efo e15
      subst y15
      replace e := (gd_s e).2
      replace e := cl_s e
      obtain ⟨o17, e17, e⟩ := e
      have q17 := (sat_e (zX6_comesFirst hF T r0 (rg_top _) (rg_top _) (thG8 T rfo) gx) e17).1
      rw [q17] at e
      have tv : v.toInt = (y.toInt + z.toInt) / 2 := by
        rw [ev, ti_shr1, ta (by omega)]
      have ib : 0 ≤ v.toInt ∧ v.toInt < z.toInt ∧ y.toInt ≤ v.toInt := ⟨by omega, by omega, by omega⟩
      replace e := br_s e
      rcases e with ⟨_, e⟩ | ⟨_, e⟩
      · exact ih a0 (by omega) a2 a3 e
      · replace e := nm_s e
        obtain ⟨u, eu, e⟩ := e
        have tu : u.toInt = v.toInt + 1 := by rw [eu, ta (by rw [z1]; omega), z1]
        exact ih (by omega) a1 a2 (by omega) e
theorem keep_x (hF : 700000 ≤ F) (T : TH ρ c h) (r0 : ρ x0 = 7) (gx : GMq (c.2.1 50) x2) (M : MvX n m x2) (P : FoX x0 n m h) (e : sX6_keep F h x0 x2 = some o) : FoX x0 n m o := by
  have i6 := thI T r0 (k := 7) (i := 6) (lo := 0) (hi := 3000) rfl
  unfold sX6_keep at e
  replace e := br_s e
  rcases e with ⟨l, e⟩ | ⟨l, e⟩
  · have l := lt_i l
    have z3 : (3000 : Int32).toInt = 3000 := rfl
    replace e := nm_s e
    obtain ⟨v, ev, e⟩ := e
    exact keepx_23 hF T r0 gx M P F (by decide) (by rw [ev]; exact Int.le_refl _) (by omega) (by show (0 : Int) ≤ _; exact i6.1) e
  · replace e := nm_s e
    obtain ⟨h3, w3, e⟩ := e
    rw [← Option.some.inj e, w3]
    intro fo efo k hk
    obtain ⟨fo1, efo1, rfo⟩ := thR T r0 (i := 5) (k2 := 48) rfl (by decide)
    have y : fo = fo1 := r_eq efo1 efo
    subst y
    have n06 : ¬ fo = x0 := fun z => by rw [← z, rfo] at r0; exact absurd r0 (by decide)
    rw [r_I, if_neg (fun q => n06 q.1)]
    rw [r_I, if_neg (fun q => absurd q.2 (by decide))] at hk
    exact P fo efo k hk
/-- what the search for positions before keeps, exactly; the row of what was found aside -/
def RIB (ρ : Nat → Nat) (c : Cm) (x0 W b3 : Nat) (n m : Int) (h : Hp) : Prop := RI ρ c x0 W b3 h ∧ PoX ρ c b3 h ∧ FmX W n h ∧ LwN ρ c n m h
def RIX (ρ : Nat → Nat) (c : Cm) (x0 W b3 : Nat) (n m : Int) (h : Hp) : Prop := RIB ρ c x0 W b3 n m h ∧ FoX x0 n m h
theorem lwn_fr {S : Nat → Nat → Nat → Bool} (f : Fr ρ (cat c S h) h o) (s2 : ∀ w, S 2 w 2 = false) (s3 : ∀ w, S 2 w 3 = false) (P : LwN ρ c n m h) : LwN ρ c n m o := fun L rL wL => by
  rw [(fr_RI f rL (by decide) s2).1, (fr_RI f rL (by decide) s3).1]
  exact P L rL wL
theorem fmx_fr {S : Nat → Nat → Nat → Bool} (T : TH ρ c h) (rW : ρ W = 11) (f : Fr ρ (cat c S h) h o) (s1 : ∀ w, S 11 w 3 = false) (s2 : ∀ w i, S 53 w i = false) (P : FmX W n h) : FmX W n o := fun r er i hi s hs hb => by
  rw [(fr_RI f rW (by decide) s1).2.2] at er
  have q : ρ r = 53 := rr T (thR T rW (i := 3) (k2 := 53) rfl (by decide)) er
  rw [(fr_RI f q (by decide) (fun _ => s2 _ _)).2.1] at hb
  exact P r er i hi s hs hb
theorem rib_sz (nn : niceC E) (n1 : E 7 1 = false) (n3 : E 7 3 = false) (n11 : E 11 3 = false) (n53 : ∀ i, E 53 i = false) (hb : wp 1603 = false) (T : TH ρ c h) (r0 : ρ x0 = 7) (f : Fr ρ (cat c (SZ E wp) h) h o) (P : RIB ρ c x0 W b3 n m h) : RIB ρ c x0 W b3 n m o := by
  obtain ⟨I, px, fm, ln⟩ := P
  have rb : ρ b3 = 4 := rr T (thR T r0 (i := 3) (k2 := 4) rfl (by decide)) I.1
  have wb : cw c b3 = 1603 := th_id T r0 (w := 1603) I.1 rfl (by decide)
  have rW : ρ W = 11 := rr T (thR T r0 (i := 1) (k2 := 11) rfl (by decide)) I.2.2.2.1
  exact ⟨ri_sz nn n1 n3 n11 n53 hb T r0 f I, (ryx_sz nn T rb wb hb f ⟨I.2.1, px⟩).2, fmx_fr T rW f (fun _ => sz_f n11 rfl (Or.inl rfl)) (fun _ i => sz_f (n53 i) rfl (Or.inl rfl)) fm, lwn_fr f (fun _ => sz_f (nn.1 _ _ (by omega)) rfl (Or.inl rfl)) (fun _ => sz_f (nn.1 _ _ (by omega)) rfl (Or.inl rfl)) ln⟩
theorem fox_fr {S : Nat → Nat → Nat → Bool} (T : TH ρ c h) (r0 : ρ x0 = 7) (f : Fr ρ (cat c S h) h o) (s5 : ∀ w, S 7 w 5 = false) (s6 : ∀ w, S 7 w 6 = false) (s48 : ∀ w i, S 48 w i = false) (P : FoX x0 n m h) : FoX x0 n m o := fun fo efo k hk => by
  rw [(fr_RI f r0 (by decide) s5).2.2] at efo
  have q : ρ fo = 48 := rr T (thR T r0 (i := 5) (k2 := 48) rfl (by decide)) efo
  rw [(fr_RI f r0 (by decide) s6).1] at hk
  rw [(fr_RI f q (by decide) (fun _ => s48 _ _)).1]
  exact P fo efo k hk
theorem rix_0 {wp : Nat → Bool} (hb : wp 1603 = false) (T : TH ρ c h) (r0 : ρ x0 = 7) (f : Fr ρ (cat c (SZ noE wp) h) h o) (P : RIX ρ c x0 W b3 n m h) : RIX ρ c x0 W b3 n m o :=
  ⟨rib_sz niceC_0 rfl rfl rfl (fun _ => rfl) hb T r0 f P.1, fox_fr T r0 f (fun _ => sz_f rfl rfl (Or.inl rfl)) (fun _ => sz_f rfl rfl (Or.inl rfl)) (fun _ _ => sz_f rfl rfl (Or.inl rfl)) P.2⟩
theorem tbx_142 {one taken : Int32} {k : Hp → Option Hp} {Q : Hp → Prop} (hF : 700000 ≤ F) (hp : ∀ k w i, SZ rE rW k w i = true → cPm c k w i = true) (T : TH ρ c h) (r0 : ρ x0 = 7) (I : RIX ρ c x0 W b3 n m h) (it : Rg (-1) 11 taken) (gx : GMq (c.2.1 50) one) (mx : MvX n m one) (H : ∀ g, TH ρ c g → RIX ρ c x0 W b3 n m g → Sat (k g) Q) : Sat (cl (hR h x0 4) fun r_2 => cl (sX6_lay F h x0 r_2 one) fun o_3 => cl (sX6_isBefore F o_3 x0 taken) fun o_4 => br (o_4.1 = 0) (k o_4.2) (cl (sX6_keep F o_4.2 x0 one) fun o_6 => k o_6)) Q := by
  obtain ⟨bd, ebd, rbd⟩ := thR T r0 (i := 4) (k2 := 4) rfl (by decide)
  have wbd : cw c bd = 1604 := th_id T r0 (w := 1604) ebd rfl (by decide)
  refine s_ref ebd ?_
  have hs : ∀ k w i, SZ noE (is 1604) k w i = true → cPm c k w i = true := fun k w i m => hp k w i (sz_sub (fun _ _ z => noE_f z) (fun w z => by rw [is_e z]; rfl) m)
  obtain ⟨o3, e3, T3', P3, J3, _, R3⟩ := zX6_layP (c := cat c (SZ noE (is 1604)) h) (x2 := one) (wx := 1604) hF (szP (sx_c _) is_s) (th_in _ T) r0 rbd wbd (by decide) gx I.1.1.1 I.1.1.2.1
  have T3 := th_out T hs T3'
  have f3 := fr_u T T3'.2.2
  have I3 := rix_0 rfl T r0 f3 I
  refine s_val e3 ?_
  have bk : BkP ρ c x0 o3 := fun b eb' => by
    rw [R3] at eb'
    have : b = bd := r_eq ebd eb'
    subst this
    exact ⟨by rw [J3, I.1.1.2.2.1]; rfl, P3⟩
  have hs4 : ∀ k w i, SZ noE (is 1503) k w i = true → cPm c k w i = true := fun k w i m => hp k w i (sz_sub (fun _ _ z => noE_f z) (fun w z => by rw [is_e z]; rfl) m)
  refine s_cIf T3 hs4 (zX6_isBefore hF (pmA_s (szA (sx_c _)) rfl) (pmO_s (szP (sx_c _) is_s) rfl) (th_in _ T3) r0 it I3.1.1.2.2.2.2.2 bk) (fun o4 T4 i4 f4 => ?_)
  have I4 := rix_0 rfl T3 r0 f4 I3
  refine s_br (fun _ => H _ T4 I4) (fun _ => ?_)
  have hs5 : ∀ k w i, SZ rE no k w i = true → cPm c k w i = true := fun k w i m => hp k w i (sz_sub (fun _ _ z => z) (fun _ z => no_f z) m)
  refine s_cVfq T4 hs5 (s_weq (zX6_keep hF (fun w k i m => sx_c _ k w i (by
      have : ((48 == k && (999 == 999 || 999 == i)) || ((7 == k && (6 == 999 || 6 == i)) || ((7 == k && (7 == 999 || 7 == i)) || false))) = true := m
      have q : rE k i = true := by
        unfold rE
        rw [Bool.or_eq_true, Bool.or_eq_true, Bool.or_false, Bool.and_eq_true, Bool.and_eq_true, Bool.and_eq_true, beq_iff_eq, beq_iff_eq] at this
        rcases this with ⟨a, _⟩ | ⟨a, b⟩ | ⟨a, b⟩
        · rw [← a]; rfl
        · rw [← a]
          have : (6 == i) = true := b
          rw [beq_iff_eq] at this
          rw [← this]; rfl
        · rw [← a]
          have : (7 == i) = true := b
          rw [beq_iff_eq] at this
          rw [← this]; rfl
      unfold SZ; rw [q]; rfl)) (th_in _ T4) r0 (rg_top _) gx)) (fun o6 T6 f6 eq6 => ?_)
  exact H _ T6 ⟨rib_sz niceC_r rfl rfl rfl (fun _ => rfl) rfl T4 r0 f6 I4.1, keep_x hF T4 r0 gx mx I4.2 eq6⟩
theorem tbx_in {x1 x3 : Int32} {x2 x4 : Int32} {K : Hp → Nat → Int32 → Int32 → Int32 → Int32 → Option Hp} (hF : 700000 ≤ F) (hp : ∀ k w i, SZ rE rW k w i = true → cPm c k w i = true) (r0 : ρ x0 = 7) (i1 : Rg 0 63 x1) (q1 : SqB (c.2.1 50) x1) (i2 : Rg 0 11 x2) (i4 : Rg (-1) 11 x4) (l1 : x1.toInt < n) (l2 : x2.toInt < m) (l4 : x4.toInt < m) (R : ∀ {h : Hp} {v : Int32}, TH ρ c h → RIX ρ c x0 W b3 n m h → v.toInt = x4.toInt + 1 → Sat (K h x0 x1 x2 x3 v) (fun o => TH ρ c o ∧ RIX ρ c x0 W b3 n m o)) : ∀ (f : Nat) {h : Hp} {x5 : Int64} {x7 : Int32}, TH ρ c h → RIX ρ c x0 W b3 n m h → (∀ s, bitJ x5 s = true → SqN (c.2.1 50) s ∧ (s < 64 → (s : Int) < n)) → 0 ≤ x7.toInt → (64 - x7.toInt).toNat < f → Sat (sX6_takeBack_80 F K f h x0 x1 x2 x3 x4 x5 x7) (fun o => TH ρ c o ∧ RIX ρ c x0 W b3 n m o) := by
  intro f
  induction f with
  | zero => intros; omega
  | succ f ih =>
    intro h x5 x7 T I b5 a7 hf
    rw [sX6_takeBack_80]
    unfold sX6_takeBack_179 sX6_takeBack_142 sX6_takeBack_173
    have up : Sat (nm (x4 + (1 : Int32)) fun v_1 => K h x0 x1 x2 x3 v_1) (fun o => TH ρ c o ∧ RIX ρ c x0 W b3 n m o) := s_q (fun v ev => R T I (by
      rw [ev, ti_add i4 (rg_b rfl : Rg 1 1 (1 : Int32)) (by decide)]; rfl))
    refine s_br (fun _ => up) (fun n1 => ?_)
    refine s_br (fun _ => up) (fun n2 => ?_)
    refine s_br (fun _ => ?_) (fun _ => up)
    have l7 : x7.toInt < 64 := nle_i n1
    have i7 : Rg 0 63 x7 := ⟨a7, by omega⟩
    refine s_dI0 (zX11_lowest hF T) (fun o4 e4 q4 j4 => ?_)
    rw [q4]
    obtain ⟨lb, ln⟩ := b5 _ (low_in e4 n2)
    have l64 : o4.1.toNatClampNeg < 64 := by have := rg_clamp (n := 63) j4 (by decide); omega
    have lq : o4.1.toInt < n := by have := nc_i j4.1; have := ln l64; omega
    have qs : SqB (c.2.1 50) o4.1 := sq_n lb (by have := nc_i j4.1; omega)
    refine s_q (fun v5 e5 => ?_)
    have b5' : ∀ s, bitJ v5 s = true → SqN (c.2.1 50) s ∧ (s < 64 → (s : Int) < n) := fun s hs => b5 s (by rw [e5, bj_and, Bool.and_eq_true] at hs; exact hs.1)
    have nx : ∀ g, TH ρ c g → RIX ρ c x0 W b3 n m g → Sat (nm (x7 + (1 : Int32)) fun v_1 => sX6_takeBack_80 F K f g x0 x1 x2 x3 x4 v5 v_1) (fun o => TH ρ c o ∧ RIX ρ c x0 W b3 n m o) := fun g Tg Ig => s_q (fun v ev => ih Tg Ig b5' (by rw [ev, (nc_s i7 (by decide)).2]; omega) (by rw [ev, (nc_s i7 (by decide)).2]; omega))
    refine s_br (fun _ => ?_) (fun nn => ?_)
    · refine s_q (fun v1 e1 => ?_)
      exact tbx_142 hF hp T r0 I i4 (by rw [e1]; exact gq_one j4 i1 i2 (Or.inr rfl) qs q1) (by rw [e1]; exact mvx_one j4 i1 i2 (Or.inr rfl) lq l1 l2 (Or.inl rfl)) nx
    · refine s_q (fun v1 e1 => ?_)
      exact tbx_142 hF hp T r0 I i4 (by rw [e1]; exact gq_one j4 i1 i2 (Or.inl (rg_nlo nn i4 (rg_b rfl : Rg (-1) (-1) (-1 : Int32)))) qs q1) (by rw [e1]; exact mvx_one j4 i1 i2 (Or.inl (rg_nlo nn i4 (rg_b rfl : Rg (-1) (-1) (-1 : Int32)))) lq l1 l2 (Or.inr l4)) nx
theorem tbx_out {x1 x2 x3 : Int32} (hF : 700000 ≤ F) (hp : ∀ k w i, SZ rE rW k w i = true → cPm c k w i = true) (r0 : ρ x0 = 7) (i1 : Rg 0 63 x1) (q1 : SqB (c.2.1 50) x1) (i2 : Rg 0 11 x2) (i3 : Rg 0 23 x3) (l1 : x1.toInt < n) (l2 : x2.toInt < m) : ∀ (f : Nat) {h : Hp} {x4 : Int32}, TH ρ c h → RIX ρ c x0 W b3 n m h → -1 ≤ x4.toInt → (13 - x4.toInt).toNat < f → Sat (sX6_takeBack_15 F f h x0 x1 x2 x3 x4) (fun o => TH ρ c o ∧ RIX ρ c x0 W b3 n m o) := by
  intro f
  induction f with
  | zero => intros; omega
  | succ f ih =>
    intro h x4 T I a4 hf
    rw [sX6_takeBack_15]
    obtain ⟨L, eL, rL⟩ := thR T r0 (i := 0) (k2 := 2) rfl (by decide)
    have mL := thI T rL (k := 2) (i := 3) (lo := 0) (hi := 12) rfl
    refine s_ref eL ?_
    refine s_br (fun _ => s_some ⟨T, I⟩) (fun n1 => ?_)
    have l4 := nle_i n1
    have wL : cw c L = 2102 := kid_w T r0 (i := 0) (w := 2102) rfl (by decide) eL
    have lm4 : x4.toInt < m := by have := (I.1.2.2.2 L rL wL).2; omega
    have i4 : Rg (-1) 11 x4 := ⟨a4, by have := mL.2; omega⟩
    have ev1 : (x4 + (1 : Int32)).toInt = x4.toInt + 1 := by
      rw [ti_add i4 (rg_b rfl : Rg 1 1 (1 : Int32)) (by decide)]; rfl
    have b65 : ∀ {t : Int32}, Rg 0 1 t → Sat (sX6_takeBack_65 F (sX6_takeBack_15 F f) h x0 x1 x2 x3 x4 t x1 x3 W) (fun o => TH ρ c o ∧ RIX ρ c x0 W b3 n m o) := fun {t} it => by
      unfold sX6_takeBack_65
      refine s_ref I.1.1.1 ?_
      have rb : ρ b3 = 4 := rr T (thR T r0 (i := 3) (k2 := 4) rfl (by decide)) I.1.1.1
      have rW' : ρ W = 11 := rr T (thR T r0 (i := 1) (k2 := 11) rfl (by decide)) I.1.1.2.2.2.1
      refine s_dJ0 (zX3_occupied hF T rb) (fun o2 _ q2 => ?_)
      rw [q2]
      refine s_dJ0 (zX10_origins hF T rW' i3 i1 it) (fun o3 e3 q3 => ?_)
      rw [q3]
      obtain ⟨a3, ea3, qa3⟩ := thR T rW' (i := 3) (k2 := 53) rfl (by decide)
      have sub := or_sub ea3 e3
      have lx : ((x3 * (64 : Int32)) + x1).toNatClampNeg < 1536 := by
        have := rg_clamp (n := 1535) (rg_add (rg_mulc i3 (rg_b rfl : Rg 64 64 (64 : Int32)) (by decide) : Rg 0 1472 (x3 * (64 : Int32))) i1 (by decide) : Rg 0 1535 _) (by decide)
        omega
      exact tbx_in hF hp r0 i1 q1 i2 i4 l1 l2 lm4 (fun T I ev => ih T I (by omega) (by have := i4.2; omega)) F T I (fun s hs => ⟨I.1.1.2.2.2.2.1 a3 ea3 _ lx s (sub s hs), fun h64 => I.1.2.2.1 a3 ea3 _ lx s h64 (sub s hs)⟩) (by decide) (by show (64 - (0 : Int)).toNat < F; omega)
    have b48 : Sat (sX6_takeBack_48 F (sX6_takeBack_15 F f) h x0 x1 x2 x3 x4) (fun o => TH ρ c o ∧ RIX ρ c x0 W b3 n m o) := by
      unfold sX6_takeBack_48
      refine s_ref I.1.1.2.2.2.1 ?_
      exact s_br (fun _ => b65 (rg_b rfl)) (fun _ => b65 (rg_b rfl))
    refine s_br (fun _ => b48) (fun _ => ?_)
    refine s_ref eL ?_
    refine s_br (fun _ => ?_) (fun _ => b48)
    unfold sX6_takeBack_179
    exact s_q (fun v ev => ih T I (by rw [ev]; omega) (by rw [ev]; have := i4.2; omega))
theorem takeBack_x {x1 x2 : Int32} (hF : 700000 ≤ F) (hp : ∀ k w i, SZ rE rW k w i = true → cPm c k w i = true) (T : TH ρ c h) (r0 : ρ x0 = 7) (i1 : Rg 0 63 x1) (q1 : SqB (c.2.1 50) x1) (i2 : Rg 0 11 x2) (l1 : x1.toInt < n) (l2 : x2.toInt < m) (I : RIX ρ c x0 W b3 n m h) : Sat (sX6_takeBack F h x0 x1 x2) (fun o => TH ρ c o ∧ RIX ρ c x0 W b3 n m o) := by
  unfold sX6_takeBack
  refine s_ref I.1.1.1 ?_
  have rb : ρ b3 = 4 := rr T (thR T r0 (i := 3) (k2 := 4) rfl (by decide)) I.1.1.1
  refine s_q (fun v ev => ?_)
  have iv : Rg 0 23 v := by
    rw [ev]
    exact rg_add (rg_mulc' (rg_b rfl : Rg 2 2 (2 : Int32)) i2 (by decide) : Rg 0 22 _) (thI T rb (k := 4) (i := 5) (lo := 0) (hi := 1) rfl) (by decide)
  exact tbx_out hF hp r0 i1 q1 i2 iv l1 l2 F T I (by decide) (by show (13 - (-1 : Int)).toNat < F; omega)
end
