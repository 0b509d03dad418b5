section
variable {ρ : Nat → Nat} {c : Cm} {h o : Hp} {E : Nat → Nat → Bool} {wp : Nat → Bool} {x0 x1 b3 W w i F : Nat} {x2 : Int32}
theorem zX6_layP {wx : Nat} (hF : 700000 ≤ F) (hO : pmO c wx ppL) (T : TH ρ c h) (r0 : ρ x0 = 7) (r1 : ρ x1 = 4) (w1 : cw c x1 = wx) (n1 : ¬ wx = 1603) (gx : GMq (c.2.1 50) x2) (eb : hR h x0 3 = some b3) (P : RyP ρ c b3 h) : Sat (sX6_lay F h x0 x1 x2) (fun o => TH ρ c o ∧ RyP ρ c x1 o ∧ hJ o x1 9 = hJ h b3 9 ∧ (∀ b, ρ b = 4 → ¬ b = x1 → RyP ρ c b h → RyP ρ c b o) ∧ ∀ a i, hR o a i = hR h a i) := by
  unfold sX6_lay
  refine s_ref eb ?_
  have rb : ρ b3 = 4 := rr T (thR T r0 (i := 3) (k2 := 4) rfl (by decide)) eb
  have wb : cw c b3 = 1603 := th_id T r0 (w := 1603) eb rfl (by decide)
  obtain ⟨o2, e2, T2⟩ := zX3_copyFrom (x0 := x1) (x1 := b3) hF (by rw [w1]; exact pmO_s hO rfl) T r1 rb
  refine s_val e2 ?_
  have P2 := ry_copy T r1 rb e2 P
  have J2 := cf9 T r1 rb e2
  obtain ⟨a0, f0, ra0⟩ := thR T r1 (i := 2) (k2 := 36) rfl (by decide)
  obtain ⟨a1, f1, ra1⟩ := thR T rb (i := 2) (k2 := 36) rfl (by decide)
  have R2 := (cf_all T r1 rb f0 f1 e2).1
  refine s_cI0 (zX6_takenIn hF T2 r0 (rg_top _) gx) (fun o3 e3 i3 => ?_)
  rw [e3]
  obtain ⟨L, eL, rL⟩ := thR T2 r0 (i := 0) (k2 := 2) rfl (by decide)
  have wL : cw c L = 2102 := th_id T2 r0 (w := 2102) eL rfl (by decide)
  refine s_ref eL ?_
  have hO' : pmO c wx [(34, 999), (35, 999), (36, 999), (4, 7)] := pmO_s hO rfl
  have e9 : fS [] [(wx, [(34, 999), (35, 999), (36, 999), (4, 7)])] 4 (cw c x1) 9 = false := by rw [w1]; rfl
  have put : ∀ {g : Hp} {s k : Int32}, TH ρ c g → RyP ρ c x1 g → Rg (-2) 23 k → (0 ≤ k.toInt → SqB (c.2.1 50) s) → ∃ o, sX3_put g x1 s k (hI g L 4) = some o ∧ TH ρ c o ∧ RyC ρ c g o ∧ hJ o x1 9 = hJ g x1 9 ∧ ∀ a i, hR o a i = hR g a i := fun {g s k} Tg Pg ik sq => by
    obtain ⟨og, eg, Tg'⟩ := zX3_put (c := cat c (fS [] [(wx, [(34, 999), (35, 999), (36, 999), (4, 7)])]) g) (x0 := x1) (x1 := s) (x2 := k) (x3 := hI g L 4) hF (by rw [show cw (cat c (fS [] [(wx, [(34, 999), (35, 999), (36, 999), (4, 7)])]) g) x1 = wx from w1]; exact fs_o (.head _)) (th_in _ Tg) r1 (rg_top _) ik (rg_top _) sq
    have fg := fr_u Tg Tg'.2.2
    obtain ⟨on, fo, ron⟩ := thR Tg r1 (i := 0) (k2 := 34) rfl (by decide)
    obtain ⟨ra, fra, rra⟩ := thR Tg r1 (i := 2) (k2 := 36) rfl (by decide)
    refine ⟨og, eg, th_out Tg (fs_sub pmA_n (fs_c hO' fs_n)) Tg', rc_put Tg r1 rL wL ik eg, (fg.1 x1 9 (by rw [r1]; decide) (by rw [r1]; exact e9)).2.1, (pu_all ron rra fo fra eg).1⟩
  obtain ⟨o5, e5, T5, C5, J5, R5⟩ := put (s := (x2 >>> ((6 : Int32) &&& 31)) &&& (63 : Int32)) (k := o3.1) T2 P2 (rg_m i3 (by decide)) (fun _ => gx.2.2)
  refine s_val e5 ?_
  have P5 := C5 x1 r1 P2
  have eb5 : hR o5 x0 3 = some b3 := by rw [R5, R2]; exact eb
  have eL5 : hR o5 x0 0 = some L := by rw [R5]; exact eL
  refine s_ref eb5 ?_
  refine s_ref eL5 ?_
  have im : Rg 0 11 ((x2 >>> ((12 : Int32) &&& 31)) &&& (15 : Int32)) := gx.1.1
  have ic : Rg 0 23 (((2 : Int32) * ((x2 >>> ((12 : Int32) &&& 31)) &&& (15 : Int32))) + (hI o5 b3 5)) := rg_add (rg_mulc' (rg_b rfl : Rg 2 2 (2 : Int32)) im (by decide) : Rg 0 22 _) (thI T5 rb (k := 4) (i := 5) (lo := 0) (hi := 1) rfl) (by decide)
  obtain ⟨o8, e8, T8, C8, J8, R8⟩ := put (s := x2 &&& (63 : Int32)) T5 P5 (rg_m ic (by decide)) (fun _ => gx.2.1)
  refine s_val e8 ?_
  refine s_some ⟨T8, C8 x1 r1 P5, by rw [J8, J5, J2], fun b rb' nb Pb => C8 b rb' (C5 b rb' (ry_copyo T r1 rb rb' nb e2 Pb)), fun a i => by rw [R8, R5, R2]⟩
/-- what the search for positions before keeps -/
def RI (ρ : Nat → Nat) (c : Cm) (x0 W b3 : Nat) (h : Hp) : Prop := hR h x0 3 = some b3 ∧ RyP ρ c b3 h ∧ hJ h b3 9 = 0 ∧ hR h x0 1 = some W ∧ FmT (c.2.1 50) W h ∧ LwR ρ c h
def rE : Nat → Nat → Bool := fun k i => k == 48 || (k == 7 && (i == 6 || i == 7))
theorem niceC_r : niceC rE := by
  refine ⟨fun k i hk => ?_, rfl, rfl, rfl, rfl, rfl, rfl, fun _ => rfl⟩
  unfold rE
  rw [bq_ne (show k ≠ 48 by omega), bq_ne (show k ≠ 7 by omega)]; rfl
theorem ri_sz (n : niceC E) (n1 : E 7 1 = false) (n3 : E 7 3 = false) (n11 : E 11 3 = false) (n53 : ∀ i, E 53 i = false) (hb : wp 1603 = false) (T : TH ρ c h) (r0 : ρ x0 = 7) (f : Fr ρ (cat c (SZ E wp) h) h o) (P : RI ρ c x0 W b3 h) : RI ρ c x0 W b3 o := by
  obtain ⟨e3, P3, J3, eW, fm, lw⟩ := P
  have rb : ρ b3 = 4 := rr T (thR T r0 (i := 3) (k2 := 4) rfl (by decide)) e3
  have wb : cw c b3 = 1603 := th_id T r0 (w := 1603) e3 rfl (by decide)
  have rW : ρ W = 11 := rr T (thR T r0 (i := 1) (k2 := 11) rfl (by decide)) eW
  refine ⟨?_, ry_sz n T rb wb hb f P3, ?_, ?_, fm_fr T rW f (fun _ => sz_f n11 rfl (Or.inl rfl)) (fun _ i => sz_f (n53 i) rfl (Or.inl rfl)) fm, lw_sz n T f lw⟩
  · rw [(fr_RI f r0 (by decide) (fun _ => sz_f n3 rfl (Or.inl rfl))).2.2]; exact e3
  · rw [(f.1 b3 9 (by rw [rb]; decide) (by rw [rb]; show SZ E wp 4 (cw c b3) 9 = false; rw [wb]; exact sz_f (n.1 _ _ (by omega)) rfl (Or.inr hb))).2.1]; exact J3
  · rw [(fr_RI f r0 (by decide) (fun _ => sz_f n1 rfl (Or.inl rfl))).2.2]; exact eW
def rW : Nat → Bool := fun w => w == 1503 || w == 1604
theorem tb_142 {one taken : Int32} {k : Hp → Option Hp} {Q : Hp → Prop} (hF : 700000 ≤ F) (hp : ∀ k w i, SZ rE rW k w i = true → cPm c k w i = true) (T : TH ρ c h) (r0 : ρ x0 = 7) (I : RI ρ c x0 W b3 h) (it : Rg (-1) 11 taken) (gx : GMq (c.2.1 50) one) (H : ∀ g, TH ρ c g → RI ρ c x0 W b3 g → Sat (k g) Q) : Sat (cl (hR h x0 4) fun r_2 => cl (sX6_lay F h x0 r_2 one) fun o_3 => cl (sX6_isBefore F o_3 x0 taken) fun o_4 => br (o_4.1 = 0) (k o_4.2) (cl (sX6_keep F o_4.2 x0 one) fun o_6 => k o_6)) Q := by
  obtain ⟨bd, ebd, rbd⟩ := thR T r0 (i := 4) (k2 := 4) rfl (by decide)
  have wbd : cw c bd = 1604 := th_id T r0 (w := 1604) ebd rfl (by decide)
  refine s_ref ebd ?_
  have hs : ∀ k w i, SZ noE (is 1604) k w i = true → cPm c k w i = true := fun k w i m => hp k w i (sz_sub (fun _ _ z => noE_f z) (fun w z => by rw [is_e z]; rfl) m)
  obtain ⟨o3, e3, T3', P3, J3, _, R3⟩ := zX6_layP (c := cat c (SZ noE (is 1604)) h) (x2 := one) (wx := 1604) hF (szP (sx_c _) is_s) (th_in _ T) r0 rbd wbd (by decide) gx I.1 I.2.1
  have T3 := th_out T hs T3'
  have f3 := fr_u T T3'.2.2
  have I3 := ri_sz niceC_0 rfl rfl rfl (fun _ => rfl) rfl T r0 f3 I
  refine s_val e3 ?_
  have bk : BkP ρ c x0 o3 := fun b eb' => by
    rw [R3] at eb'
    have : b = bd := r_eq ebd eb'
    subst this
    exact ⟨by rw [J3, I.2.2.1]; rfl, P3⟩
  have hs4 : ∀ k w i, SZ noE (is 1503) k w i = true → cPm c k w i = true := fun k w i m => hp k w i (sz_sub (fun _ _ z => noE_f z) (fun w z => by rw [is_e z]; rfl) m)
  refine s_cIf T3 hs4 (zX6_isBefore hF (pmA_s (szA (sx_c _)) rfl) (pmO_s (szP (sx_c _) is_s) rfl) (th_in _ T3) r0 it I3.2.2.2.2.2 bk) (fun o4 T4 i4 f4 => ?_)
  have I4 := ri_sz niceC_0 rfl rfl rfl (fun _ => rfl) rfl T3 r0 f4 I3
  refine s_br (fun _ => H _ T4 I4) (fun _ => ?_)
  have hs5 : ∀ k w i, SZ rE no k w i = true → cPm c k w i = true := fun k w i m => hp k w i (sz_sub (fun _ _ z => z) (fun _ z => no_f z) m)
  refine s_cVf T4 hs5 (zX6_keep hF (fun w k i m => sx_c _ k w i (by
      have : ((48 == k && (999 == 999 || 999 == i)) || ((7 == k && (6 == 999 || 6 == i)) || ((7 == k && (7 == 999 || 7 == i)) || false))) = true := m
      have q : rE k i = true := by
        unfold rE
        rw [Bool.or_eq_true, Bool.or_eq_true, Bool.or_false, Bool.and_eq_true, Bool.and_eq_true, Bool.and_eq_true, beq_iff_eq, beq_iff_eq] at this
        rcases this with ⟨a, _⟩ | ⟨a, b⟩ | ⟨a, b⟩
        · rw [← a]; rfl
        · rw [← a]
          have : (6 == i) = true := b
          rw [beq_iff_eq] at this
          rw [← this]; rfl
        · rw [← a]
          have : (7 == i) = true := b
          rw [beq_iff_eq] at this
          rw [← this]; rfl
      unfold SZ; rw [q]; rfl)) (th_in _ T4) r0 (rg_top _) gx) (fun o6 T6 f6 => ?_)
  exact H _ T6 (ri_sz niceC_r rfl rfl rfl (fun _ => rfl) rfl T4 r0 f6 I4)
theorem tb_in {x1 x3 : Int32} {x2 x4 : Int32} {K : Hp → Nat → Int32 → Int32 → Int32 → Int32 → Option Hp} (hF : 700000 ≤ F) (hp : ∀ k w i, SZ rE rW k w i = true → cPm c k w i = true) (r0 : ρ x0 = 7) (i1 : Rg 0 63 x1) (q1 : SqB (c.2.1 50) x1) (i2 : Rg 0 11 x2) (i4 : Rg (-1) 11 x4) (R : ∀ {h : Hp} {v : Int32}, TH ρ c h → RI ρ c x0 W b3 h → v.toInt = x4.toInt + 1 → Sat (K h x0 x1 x2 x3 v) (fun o => TH ρ c o ∧ RI ρ c x0 W b3 o)) : ∀ (f : Nat) {h : Hp} {x5 : Int64} {x7 : Int32}, TH ρ c h → RI ρ c x0 W b3 h → (∀ s, bitJ x5 s = true → SqN (c.2.1 50) s) → 0 ≤ x7.toInt → (64 - x7.toInt).toNat < f → Sat (sX6_takeBack_80 F K f h x0 x1 x2 x3 x4 x5 x7) (fun o => TH ρ c o ∧ RI ρ c x0 W b3 o) := by
  intro f
  induction f with
  | zero => intros; omega
  | succ f ih =>
    intro h x5 x7 T I b5 a7 hf
    rw [sX6_takeBack_80]
    unfold sX6_takeBack_179 sX6_takeBack_142 sX6_takeBack_173
    have up : Sat (nm (x4 + (1 : Int32)) fun v_1 => K h x0 x1 x2 x3 v_1) (fun o => TH ρ c o ∧ RI ρ c x0 W b3 o) := s_q (fun v ev => R T I (by
      rw [ev, ti_add i4 (rg_b rfl : Rg 1 1 (1 : Int32)) (by decide)]; rfl))
    refine s_br (fun _ => up) (fun n1 => ?_)
    refine s_br (fun _ => up) (fun n2 => ?_)
    refine s_br (fun _ => ?_) (fun _ => up)
    have l7 : x7.toInt < 64 := nle_i n1
    have i7 : Rg 0 63 x7 := ⟨a7, by omega⟩
    refine s_dI0 (zX11_lowest hF T) (fun o4 e4 q4 j4 => ?_)
    rw [q4]
    have lb := b5 _ (low_in e4 n2)
    have qs : SqB (c.2.1 50) o4.1 := sq_n lb (by have := nc_i j4.1; omega)
    refine s_q (fun v5 e5 => ?_)
    have b5' : ∀ s, bitJ v5 s = true → SqN (c.2.1 50) s := fun s hs => b5 s (by rw [e5, bj_and, Bool.and_eq_true] at hs; exact hs.1)
    have nx : ∀ g, TH ρ c g → RI ρ c x0 W b3 g → Sat (nm (x7 + (1 : Int32)) fun v_1 => sX6_takeBack_80 F K f g x0 x1 x2 x3 x4 v5 v_1) (fun o => TH ρ c o ∧ RI ρ c x0 W b3 o) := fun g Tg Ig => s_q (fun v ev => ih Tg Ig b5' (by rw [ev, (nc_s i7 (by decide)).2]; omega) (by rw [ev, (nc_s i7 (by decide)).2]; omega))
    refine s_br (fun _ => ?_) (fun n => ?_)
    · refine s_q (fun v1 e1 => ?_)
      exact tb_142 hF hp T r0 I i4 (by rw [e1]; exact gq_one j4 i1 i2 (Or.inr rfl) qs q1) nx
    · refine s_q (fun v1 e1 => ?_)
      exact tb_142 hF hp T r0 I i4 (by rw [e1]; exact gq_one j4 i1 i2 (Or.inl (rg_nlo n i4 (rg_b rfl : Rg (-1) (-1) (-1 : Int32)))) qs q1) nx
theorem tb_out {x1 x2 x3 : Int32} (hF : 700000 ≤ F) (hp : ∀ k w i, SZ rE rW k w i = true → cPm c k w i = true) (r0 : ρ x0 = 7) (i1 : Rg 0 63 x1) (q1 : SqB (c.2.1 50) x1) (i2 : Rg 0 11 x2) (i3 : Rg 0 23 x3) : ∀ (f : Nat) {h : Hp} {x4 : Int32}, TH ρ c h → RI ρ c x0 W b3 h → -1 ≤ x4.toInt → (13 - x4.toInt).toNat < f → Sat (sX6_takeBack_15 F f h x0 x1 x2 x3 x4) (fun o => TH ρ c o ∧ RI ρ c x0 W b3 o) := by
  intro f
  induction f with
  | zero => intros; omega
  | succ f ih =>
    intro h x4 T I a4 hf
    rw [sX6_takeBack_15]
    obtain ⟨L, eL, rL⟩ := thR T r0 (i := 0) (k2 := 2) rfl (by decide)
    have mL := thI T rL (k := 2) (i := 3) (lo := 0) (hi := 12) rfl
    refine s_ref eL ?_
    refine s_br (fun _ => s_some ⟨T, I⟩) (fun n1 => ?_)
    have l4 := nle_i n1
    have i4 : Rg (-1) 11 x4 := ⟨a4, by have := mL.2; omega⟩
    have ev1 : (x4 + (1 : Int32)).toInt = x4.toInt + 1 := by
      rw [ti_add i4 (rg_b rfl : Rg 1 1 (1 : Int32)) (by decide)]; rfl
    have b65 : ∀ {t : Int32}, Rg 0 1 t → Sat (sX6_takeBack_65 F (sX6_takeBack_15 F f) h x0 x1 x2 x3 x4 t x1 x3 W) (fun o => TH ρ c o ∧ RI ρ c x0 W b3 o) := fun {t} it => by
      unfold sX6_takeBack_65
      refine s_ref I.1 ?_
      have rb : ρ b3 = 4 := rr T (thR T r0 (i := 3) (k2 := 4) rfl (by decide)) I.1
      have rW' : ρ W = 11 := rr T (thR T r0 (i := 1) (k2 := 11) rfl (by decide)) I.2.2.2.1
      refine s_dJ0 (zX3_occupied hF T rb) (fun o2 _ q2 => ?_)
      rw [q2]
      refine s_dJ0 (zX10_origins hF T rW' i3 i1 it) (fun o3 e3 q3 => ?_)
      rw [q3]
      obtain ⟨a3, ea3, qa3⟩ := thR T rW' (i := 3) (k2 := 53) rfl (by decide)
      have sub := or_sub ea3 e3
      have lx : ((x3 * (64 : Int32)) + x1).toNatClampNeg < 1536 := by
        have := rg_clamp (n := 1535) (rg_add (rg_mulc i3 (rg_b rfl : Rg 64 64 (64 : Int32)) (by decide) : Rg 0 1472 (x3 * (64 : Int32))) i1 (by decide) : Rg 0 1535 _) (by decide)
        omega
      exact tb_in hF hp r0 i1 q1 i2 i4 (fun T I ev => ih T I (by omega) (by have := i4.2; omega)) F T I (fun s hs => I.2.2.2.2.1 a3 ea3 _ lx s (sub s hs)) (by decide) (by show (64 - (0 : Int)).toNat < F; omega)
    have b48 : Sat (sX6_takeBack_48 F (sX6_takeBack_15 F f) h x0 x1 x2 x3 x4) (fun o => TH ρ c o ∧ RI ρ c x0 W b3 o) := by
      unfold sX6_takeBack_48
      refine s_ref I.2.2.2.1 ?_
      exact s_br (fun _ => b65 (rg_b rfl)) (fun _ => b65 (rg_b rfl))
    refine s_br (fun _ => b48) (fun _ => ?_)
    refine s_ref eL ?_
    refine s_br (fun _ => ?_) (fun _ => b48)
    unfold sX6_takeBack_179
    exact s_q (fun v ev => ih T I (by rw [ev]; omega) (by rw [ev]; have := i4.2; omega))
theorem zX6_takeBack {x1 x2 : Int32} (hF : 700000 ≤ F) (hp : ∀ k w i, SZ rE rW k w i = true → cPm c k w i = true) (T : TH ρ c h) (r0 : ρ x0 = 7) (i1 : Rg 0 63 x1) (q1 : SqB (c.2.1 50) x1) (i2 : Rg 0 11 x2) (I : RI ρ c x0 W b3 h) : Sat (sX6_takeBack F h x0 x1 x2) (fun o => TH ρ c o ∧ RI ρ c x0 W b3 o) := by
  unfold sX6_takeBack
  refine s_ref I.1 ?_
  have rb : ρ b3 = 4 := rr T (thR T r0 (i := 3) (k2 := 4) rfl (by decide)) I.1
  refine s_q (fun v ev => ?_)
  have iv : Rg 0 23 v := by
    rw [ev]
    exact rg_add (rg_mulc' (rg_b rfl : Rg 2 2 (2 : Int32)) i2 (by decide) : Rg 0 22 _) (thI T rb (k := 4) (i := 5) (lo := 0) (hi := 1) rfl) (by decide)
  exact tb_out hF hp r0 i1 q1 i2 iv F T I (by decide) (by show (13 - (-1 : Int)).toNat < F; omega)
end
