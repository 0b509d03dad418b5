-- the law's board: files of its squares
def GeoS (x0 : Nat) (h : Hp) : Prop := ∀ fo, hR h x0 19 = some fo → (57 < (hI h x0 2).toInt ∨ ((hI h x0 0).toInt = 8 ∧ (hI h x0 1).toInt = 8)) → ∀ i : Nat, i < 64 → (i : Int) ≤ 56 + (hI h fo i).toInt
def RdL (x0 x2 : Nat) (h : Hp) : Prop := hR h x0 1 = some x2
theorem rl_w {h h2 : Hp} {x0 x2 : Nat} (e : h2 = wR h x0 1 (some x2)) : RdL x0 x2 h2 := by
  unfold RdL
  rw [e, r_R, if_pos ⟨rfl, rfl⟩]
def GeoR (x0 : Nat) (h : Hp) : Prop := ∀ L, hR h x0 1 = some L → GeoS L h
def GeoA (ρ : Nat → Nat) (h : Hp) : Prop := ∀ L, ρ L = 2 → GeoS L h
def SbI (x0 : Nat) (a b : Int32) (n : Int) (h : Hp) : Prop := hI h x0 0 = a ∧ hI h x0 1 = b ∧ (hI h x0 2).toInt = n ∧ ∀ fo, hR h x0 19 = some fo → ∀ i : Nat, 57 ≤ i → (i : Int) < n → (i : Int) ≤ 56 + (hI h fo i).toInt
def RkP (x0 : Nat) (x : Int32) (h : Hp) : Prop := ∀ L, hR h x0 0 = some L → x.toInt < (hI h L 1).toInt
def FlP (x0 : Nat) (x : Int32) (h : Hp) : Prop := ∀ L, hR h x0 0 = some L → x.toInt < (hI h L 0).toInt
def HereI (ρ : Nat → Nat) (c : Cm) (x0 : Nat) (x : Int64) (h : Hp) : Prop := ∀ b, hR h x0 4 = some b → ¬ cw c b = 1503 ∧ (∀ on s, hR h b 0 = some on → s < 64 → bitJ x s = true → 0 ≤ (hI h on s).toInt ∧ SqN (c.2.1 50) s) ∧ ∀ ra, hR h b 2 = some ra → ∀ i, i < 2 → 0 ≤ (hI h ra i).toInt → ∀ L, ρ L = 2 → cw c L = 2102 → 0 ≤ (hI h L 4).toInt
/-- where a royal man stands, one is told -/
def RyP (ρ : Nat → Nat) (c : Cm) (x1 : Nat) (h : Hp) : Prop := ∀ ra, hR h x1 2 = some ra → ∀ i, i < 2 → 0 ≤ (hI h ra i).toInt → ∀ L, ρ L = 2 → cw c L = 2102 → 0 ≤ (hI h L 4).toInt
def PlP (ρ : Nat → Nat) (c : Cm) (x0 : Nat) (h : Hp) : Prop := ∀ r u, hR h x0 13 = some r → hR h x0 14 = some u → ∀ i, i < 60 → ¬ hI h u i = 0 → ∀ b, hR h r i = some b → RyP ρ c b h
def HasR (ρ : Nat → Nat) (c : Cm) (x0 : Nat) (x1 : Int32) (h : Hp) : Prop := x1.toNatClampNeg < 60 ∧ ∀ r, hR h x0 13 = some r → ∀ b, hR h r x1.toNatClampNeg = some b → RyP ρ c b h
section
variable {ρ : Nat → Nat} {c : Cm} {h : Hp}
theorem kid_w (T : TH ρ c h) {a i r k w : Nat} (e : ρ a = k) (hk : kid k i = w) (h0 : w ≠ 0) (hr : hR h a i = some r) : cw c r = w := by
  have z := T.2.1.2.1 a i r (by rw [e, hk]; exact h0) hr
  rw [e, hk] at z
  exact z
theorem sb_28 {F : Nat} {w0 : Nat} {Q : Hp → Prop} {k : Hp → Nat → Int32 → Option Hp} (hO : pmO c w0 [(32, 999), (33, 999), (2, 0), (2, 1), (2, 2)]) {x0 : Nat} {x3 a b : Int32} (ow : cw c x0 = w0) (r0 : ρ x0 = 2) (i3 : Rg 0 7 x3) (ia : Rg 3 8 a) (hm : x3.toInt * a.toInt ≤ 56 ∧ 0 ≤ x3.toInt * a.toInt)
    (hk : ∀ {h : Hp} {v : Int32}, TH ρ c h → v.toInt = x3.toInt + 1 → SbI x0 a b (x3.toInt * a.toInt + a.toInt) h → Sat (k h x0 v) Q) : ∀ (f : Nat) {h : Hp} {x4 : Int32}, TH ρ c h → Rg 0 8 x4 → x4.toInt ≤ a.toInt → SbI x0 a b (x3.toInt * a.toInt + x4.toInt) h → (a.toInt - x4.toInt).toNat < f → Sat (sX1_setBoard_28 F k f h x0 x3 x4) Q := by
  intro f
  induction f with
  | zero => intros; omega
  | succ f ih =>
    intro h x4 T i4 le I hf
    obtain ⟨I0, I1, I2, I3⟩ := I
    rw [sX1_setBoard_28]
    unfold sX1_setBoard_83
    have a1 := i4.1
    have a2 := i4.2
    have a3 := ia.1
    have a4 := ia.2
    refine s_br (fun c1 => ?_) (fun c1 => ?_)
    · rw [I0] at c1
      have c1' := le_i c1
      refine s_q (fun v e => hk T (by rw [e]; exact ti_add i3 (rg_b rfl : Rg 1 1 (1 : Int32)) (by decide)) ⟨I0, I1, by omega, fun fo ef i h1 h2 => I3 fo ef i h1 (by omega)⟩)
    · rw [I0] at c1
      have c1' := nle_i c1
      refine s_br (fun c2 => ?_) (fun c2 => ?_)
      · have := le_i c2
        have t : (64 : Int32).toInt = 64 := rfl
        omega
      · have is : Rg 0 63 (hI h x0 2) := ⟨by omega, by omega⟩
        obtain ⟨fo, ef, rf⟩ := thR T r0 (i := 19) (k2 := 32) rfl (by decide)
        obtain ⟨ro, er, rr⟩ := thR T r0 (i := 20) (k2 := 33) rfl (by decide)
        refine s_ref ef ?_
        refine s_gd (by rw [thN T rf (k := 32) (n := 64) rfl (by decide)]; exact rg_inB is (by decide)) ?_
        refine s_hq (th_wI T rf (k := 32) (lo := 0) (hi := 7) rfl ⟨by omega, by omega⟩ (by decide) (by decide) (pm_o hO (th_ih T r0 rfl ef ow) rfl) (rpD2 is ⟨by omega, by omega⟩)) (fun h5 T5 e5 => ?_)
        have s5 : hI h5 x0 2 = hI h x0 2 := by rw [e5, r_I, if_neg (fun q => absurd (r0.symm.trans (by rw [q.1, rf])) (by decide))]
        refine s_ref (hr_w e5 er) ?_
        rw [s5]
        refine s_gd (by rw [thN T5 rr (k := 33) (n := 64) rfl (by decide)]; exact rg_inB is (by decide)) ?_
        refine s_hq (th_wI T5 rr (k := 33) (lo := 0) (hi := 7) rfl i3 (by decide) (by decide) (pm_o hO (th_ih T r0 rfl er ow) rfl)) (fun h8 T8 e8 => ?_)
        have s8 : hI h8 x0 2 = hI h x0 2 := by rw [e8, r_I, if_neg (fun q => absurd (r0.symm.trans (by rw [q.1, rr])) (by decide)), s5]
        rw [s8]
        have s1 : ((hI h x0 2) + (1 : Int32)).toInt = (hI h x0 2).toInt + 1 := ti_add is (rg_b rfl : Rg 1 1 (1 : Int32)) (by decide)
        refine s_hq (th_wI T8 r0 (k := 2) (i := 2) (lo := 0) (hi := 64) rfl ⟨by omega, by omega⟩ (by decide) (by decide) (pm_o hO ow rfl)) (fun h9 T9 e9 => ?_)
        refine s_q (fun v e => ?_)
        have vt : v.toInt = x4.toInt + 1 := by rw [e]; exact ti_add i4 (rg_b rfl : Rg 1 1 (1 : Int32)) (by decide)
        have n1 : ¬ x0 = fo := fun q => absurd (r0.symm.trans (by rw [q, rf])) (by decide)
        have n2 : ¬ x0 = ro := fun q => absurd (r0.symm.trans (by rw [q, rr])) (by decide)
        have n3 : ¬ fo = ro := fun q => absurd (rf.symm.trans (by rw [q, rr])) (by decide)
        have g0 : ∀ j, ¬ j = 2 → hI h9 x0 j = hI h x0 j := fun j hj => by
          rw [e9, r_I, if_neg (fun q => hj q.2), e8, r_I, if_neg (fun q => n2 q.1), e5, r_I, if_neg (fun q => n1 q.1)]
        refine ih T9 ⟨by omega, by omega⟩ (by omega) ⟨by rw [g0 0 (by decide)]; exact I0, by rw [g0 1 (by decide)]; exact I1, ?_, fun fo' ef' i h1 h2 => ?_⟩ (by omega)
        · rw [e9, r_I, if_pos ⟨rfl, rfl⟩, s1]; omega
        · have ef2 : hR h9 x0 19 = some fo := hr_w e9 (hr_w e8 (hr_w e5 ef))
          rw [ef2] at ef'
          rw [← Option.some.inj ef', e9, r_I, if_neg (fun q => n1 q.1.symm), e8, r_I, if_neg (fun q => n3 q.1), e5, r_I]
          have ec : ((hI h x0 2).toNatClampNeg : Int) = (hI h x0 2).toInt := by
            have : (hI h x0 2).toNatClampNeg = (hI h x0 2).toInt.toNat := rfl
            have := is.1
            omega
          by_cases w : i = (hI h x0 2).toNatClampNeg
          · rw [if_pos ⟨rfl, w⟩]; omega
          · rw [if_neg (fun q => w q.2)]
            exact I3 fo ef i h1 (by omega)
theorem sb_17 {F : Nat} (hF : 700000 ≤ F) {w0 : Nat} (hO : pmO c w0 [(32, 999), (33, 999), (2, 0), (2, 1), (2, 2)]) {x0 : Nat} {a b : Int32} (ow : cw c x0 = w0) (r0 : ρ x0 = 2) (ia : Rg 3 8 a) (ib : Rg 3 8 b) : ∀ (f : Nat) {h : Hp} {x3 : Int32}, TH ρ c h → Rg 0 8 x3 → x3.toInt ≤ b.toInt → SbI x0 a b (x3.toInt * a.toInt) h → (b.toInt - x3.toInt).toNat < f → Sat (sX1_setBoard_17 F f h x0 x3) (ZQ (ZV ρ c) (fun o => SbI x0 a b (b.toInt * a.toInt) o)) := by
  intro f
  induction f with
  | zero => intros; omega
  | succ f ih =>
    intro h x3 T i3 le I hf
    rw [sX1_setBoard_17]
    have I1 := I.2.1
    have b1 := ib.1
    have b2 := ib.2
    have a1 := ia.1
    have a2 := ia.2
    have k1 := i3.1
    refine s_br (fun c1 => ?_) (fun c1 => ?_)
    · rw [I1] at c1
      have := le_i c1
      have e : x3.toInt = b.toInt := by omega
      rw [e] at I
      exact s_some ⟨T, I⟩
    · rw [I1] at c1
      have c1' := nle_i c1
      have m1 : x3.toInt * a.toInt ≤ 7 * 8 := Int.mul_le_mul (by omega) (by omega) (by omega) (by omega)
      have m0 : 0 ≤ x3.toInt * a.toInt := Int.mul_nonneg (by omega) (by omega)
      have z : (0 : Int32).toInt = 0 := rfl
      refine sb_28 hO ow r0 ⟨by omega, by omega⟩ ia ⟨by omega, m0⟩ (fun T' ev I' => ?_) F T (rg_m (rg_b rfl : Rg 0 0 (0 : Int32)) (by decide)) (by rw [z]; omega) (by rw [z, Int.add_zero]; exact I) (by rw [z]; omega)
      refine ih T' ⟨by omega, by omega⟩ (by omega) ?_ (by omega)
      rw [ev, Int.add_mul, Int.one_mul]
      exact I'
theorem zX1_setBoard0 {F : Nat} {w_x0 : Nat} (hF : 700000 ≤ F) (hO_x0 : pmO c w_x0 [(32, 999), (33, 999), (2, 0), (2, 1), (2, 2)]) {h : Hp} {x0 : Nat} {x1 : Int32} {x2 : Int32} (o_x0 : cw c x0 = w_x0) (T : TH ρ c h) (r_x0 : ρ x0 = 2) (i_x1 : Rg (3) (8) (x1)) (i_x2 : Rg (3) (8) (x2)) : Sat (sX1_setBoard F h x0 x1 x2) (ZQ (ZV ρ c) (fun o => GeoS x0 o)) := by
  unfold sX1_setBoard
  refine s_hq (th_wI T r_x0 (k := 2) (i := 0) (lo := 0) (hi := 8) rfl (rg_m i_x1 (by decide)) (by decide) (by decide) (pm_o hO_x0 o_x0 rfl)) (fun h1 T1 e1 => ?_)
  refine s_hq (th_wI T1 r_x0 (k := 2) (i := 1) (lo := 0) (hi := 8) rfl (rg_m i_x2 (by decide)) (by decide) (by decide) (pm_o hO_x0 o_x0 rfl)) (fun h2 T2 e2 => ?_)
  refine s_hq (th_wI T2 r_x0 (k := 2) (i := 2) (lo := 0) (hi := 64) rfl (rg_m (rg_b rfl : Rg 0 0 (0 : Int32)) (by decide)) (by decide) (by decide) (pm_o hO_x0 o_x0 rfl)) (fun h3 T3 e3 => ?_)
  have z : (0 : Int32).toInt = 0 := rfl
  have f0 : hI h3 x0 0 = x1 := by rw [e3, r_I, if_neg (fun q => absurd q.2 (by decide)), e2, r_I, if_neg (fun q => absurd q.2 (by decide)), e1, r_I, if_pos ⟨rfl, rfl⟩]
  have f1 : hI h3 x0 1 = x2 := by rw [e3, r_I, if_neg (fun q => absurd q.2 (by decide)), e2, r_I, if_pos ⟨rfl, rfl⟩]
  have f2 : (hI h3 x0 2).toInt = 0 := by rw [e3, r_I, if_pos ⟨rfl, rfl⟩]; rfl
  have b1 := i_x2.1
  have b2 := i_x2.2
  have a1 := i_x1.1
  have a2 := i_x1.2
  refine s_imp (sb_17 hF hO_x0 o_x0 r_x0 i_x1 i_x2 F T3 (rg_m (rg_b rfl : Rg 0 0 (0 : Int32)) (by decide)) (by rw [z]; omega) ⟨f0, f1, by rw [f2, z, Int.zero_mul], fun fo ef i p q => by rw [z, Int.zero_mul] at q; omega⟩ (by rw [z]; omega)) (fun o ho => ⟨ho.1, fun fo ef hc i li => ?_⟩)
  obtain ⟨To, I0, I1, I2, I3⟩ := ho
  have a8 : x1.toInt = 8 ∧ x2.toInt = 8 := by
    rcases hc with w | w
    · rw [I2] at w
      by_cases u : x1.toInt ≤ 7
      · have : x2.toInt * x1.toInt ≤ 8 * 7 := Int.mul_le_mul (by omega) u (by omega) (by omega)
        omega
      · have e : x1.toInt = 8 := by omega
        rw [e] at w
        exact ⟨e, by omega⟩
    · rw [I0, I1] at w; exact w
  by_cases u : 57 ≤ i
  · exact I3 fo ef i u (by rw [a8.1, a8.2]; omega)
  · obtain ⟨fo2, ef2, rf⟩ := thR To r_x0 (i := 19) (k2 := 32) rfl (by decide)
    rw [ef2] at ef
    have := (thI To rf (k := 32) (i := i) rfl : Rg 0 7 (hI o fo2 i)).1
    rw [← Option.some.inj ef]
    omega
theorem gs_zero {x0 : Nat} (a : (hI h x0 0).toInt = 0) (b : (hI h x0 2).toInt = 0) : GeoS x0 h := fun fo _ hc => by
  rw [a, b] at hc
  omega
theorem ga_upd {h2 : Hp} {S : Nat → Nat → Nat → Bool} {x0 : Nat} (T : TH ρ c h) (f : Fr ρ (cat c S h) h h2) (r0 : ρ x0 = 2) (sS : ∀ w, ¬ w = cw c x0 → S 2 w 0 = false ∧ S 2 w 1 = false ∧ S 2 w 2 = false ∧ S 2 w 19 = false ∧ ∀ i, S 32 w i = false) (P : GeoA ρ h) (g : GeoS x0 h2) : GeoA ρ h2 := fun L rL => by
  by_cases q : cw c L = cw c x0
  · have : L = x0 := T.1.2.2.2.2.2.2.2.2 L x0 (by rw [rL, r0]) (Or.inr ⟨Or.inr rL, q⟩)
    rw [this]
    exact g
  · obtain ⟨s0, s1, s2, s3, s4⟩ := sS _ q
    intro fo ef hc i hi
    have fr := fun j (hj : S 2 (cw c L) j = false) => f.1 L j (by rw [rL]; decide) (by rw [rL]; exact hj)
    rw [(fr 19 s3).2.2] at ef
    rw [(fr 0 s0).1, (fr 1 s1).1, (fr 2 s2).1] at hc
    have rf : ρ fo = 32 := rr T (thR T rL (i := 19) (k2 := 32) rfl (by decide)) ef
    rw [(f.1 fo i (by rw [rf]; decide) (by rw [rf]; show S 32 (cw c fo) i = false; rw [th_ih T rL rfl ef rfl]; exact s4 i)).1]
    exact P L rL fo ef hc i hi
theorem zX1_setBoard {F : Nat} {w_x0 : Nat} (hF : 700000 ≤ F) (hO_x0 : pmO c w_x0 [(32, 999), (33, 999), (2, 0), (2, 1), (2, 2)]) {h : Hp} {x0 : Nat} {x1 : Int32} {x2 : Int32} (o_x0 : cw c x0 = w_x0) (T : TH ρ c h) (r_x0 : ρ x0 = 2) (i_x1 : Rg (3) (8) (x1)) (i_x2 : Rg (3) (8) (x2)) (ga : (GeoA ρ h)) : Sat (sX1_setBoard F h x0 x1 x2) (ZQ (ZV ρ c) (fun o => GeoA ρ o)) :=
  s_imp (zX1_setBoard0 (c := cat c (fS [] [(w_x0, [(32, 999), (33, 999), (2, 0), (2, 1), (2, 2)])]) h) hF (fs_o (.head _)) o_x0 (th_in _ T) r_x0 i_x1 i_x2) (fun o ho => ⟨th_out T (fs_sub pmA_n (fs_c hO_x0 fs_n)) ho.1, ga_upd T (fr_u T ho.1.2.2) r_x0 (fun w hw => ⟨fs_cf (Or.inr (fun z => hw (z.trans o_x0.symm))) rfl, fs_cf (Or.inr (fun z => hw (z.trans o_x0.symm))) rfl, fs_cf (Or.inr (fun z => hw (z.trans o_x0.symm))) rfl, fs_cf (Or.inr (fun z => hw (z.trans o_x0.symm))) rfl, fun i => fs_cf (Or.inr (fun z => hw (z.trans o_x0.symm))) rfl⟩) ga ho.2⟩)
theorem gr_of {x0 L : Nat} (e : hR h x0 1 = some L) (g : GeoS L h) : GeoR x0 h := fun L' e' => by
  rw [e] at e'
  rw [← Option.some.inj e']
  exact g
theorem gs_fr {h2 : Hp} {S : Nat → Nat → Nat → Bool} {x0 : Nat} (T : TH ρ c h) (r0 : ρ x0 = 2) (f : Fr ρ (cat c S h) h h2) (s0 : ∀ w, S 2 w 0 = false) (s1 : ∀ w, S 2 w 1 = false) (s2 : ∀ w, S 2 w 2 = false) (s3 : ∀ w, S 2 w 19 = false) (s4 : ∀ w i, S 32 w i = false) (P : GeoS x0 h) : GeoS x0 h2 := fun fo ef hc i hi => by
  rw [(fr_RI f r0 (by decide) s3).2.2] at ef
  rw [(fr_RI f r0 (by decide) s0).1, (fr_RI f r0 (by decide) s1).1, (fr_RI f r0 (by decide) s2).1] at hc
  have rf : ρ fo = 32 := rr T (thR T r0 (i := 19) (k2 := 32) rfl (by decide)) ef
  rw [(fr_RI f rf (by decide) (fun w => s4 w i)).1]
  exact P fo ef hc i hi
theorem ga_fr {c' : Cm} {h2 : Hp} {S : Nat → Nat → Nat → Bool} (T : TH ρ c' h) (f : Fr ρ (cat c' S h) h h2) (s0 : ∀ w, S 2 w 0 = false) (s1 : ∀ w, S 2 w 1 = false) (s2 : ∀ w, S 2 w 2 = false) (s3 : ∀ w, S 2 w 19 = false) (s4 : ∀ w i, S 32 w i = false) (P : GeoA ρ h) : GeoA ρ h2 := fun L rL => gs_fr T rL f s0 s1 s2 s3 s4 (P L rL)
theorem gr_fr {h2 : Hp} {S : Nat → Nat → Nat → Bool} {x0 : Nat} (T : TH ρ c h) (r0 : ρ x0 = 3) (f : Fr ρ (cat c S h) h h2) (q1 : ∀ w, S 3 w 1 = false) (s0 : ∀ w, S 2 w 0 = false) (s1 : ∀ w, S 2 w 1 = false) (s2 : ∀ w, S 2 w 2 = false) (s3 : ∀ w, S 2 w 19 = false) (s4 : ∀ w i, S 32 w i = false) (P : GeoR x0 h) : GeoR x0 h2 := fun L e => by
  rw [(fr_RI f r0 (by decide) q1).2.2] at e
  exact gs_fr T (thRn T r0 (i := 1) (k2 := 2) rfl (by decide) e) f s0 s1 s2 s3 s4 (P L e)
/-- the law's board is told: a wide one only where all its squares are -/
def LwR (ρ : Nat → Nat) (c : Cm) (h : Hp) : Prop := ∀ L, ρ L = 2 → cw c L = 2102 → (57 < (hI h L 2).toInt ∨ ((hI h L 0).toInt = 8 ∧ (hI h L 1).toInt = 8)) → c.2.1 50 = true
theorem lw_fr {c' : Cm} {h' h2 : Hp} {S : Nat → Nat → Nat → Bool} (_ : TH ρ c' h') (f : Fr ρ (cat c' S h) h h2) (s0 : ∀ w, S 2 w 0 = false) (s1 : ∀ w, S 2 w 1 = false) (s2 : ∀ w, S 2 w 2 = false) (P : LwR ρ c h) : LwR ρ c h2 := fun L r0 w hc => by
  rw [(fr_RI f r0 (by decide) s0).1, (fr_RI f r0 (by decide) s1).1, (fr_RI f r0 (by decide) s2).1] at hc
  exact P L r0 w hc
theorem lw_sq (P : LwR ρ c h) {L : Nat} {x : Int32} (r0 : ρ L = 2) (w : cw c L = 2102) (l : x.toInt < (hI h L 2).toInt) : SqB (c.2.1 50) x := by
  by_cases q : 57 < (hI h L 2).toInt
  · exact Or.inl (P L r0 w (Or.inl q))
  · exact Or.inr (by omega)
theorem lw_fr8 (P : LwR ρ c h) {L : Nat} {x y r : Int32} (r0 : ρ L = 2) (w : cw c L = 2102) (T : TH ρ c h) (ir : Rg 0 7 r) (ix : Rg 0 7 x) (lr : r.toInt < (hI h L 1).toInt) (lx : x.toInt < (hI h L 0).toInt) (ey : y = (r * (hI h L 0)) + x) : SqB (c.2.1 50) y := by
  have iF := (thI T r0 (k := 2) (i := 0) rfl : Rg 0 8 (hI h L 0))
  have iR := (thI T r0 (k := 2) (i := 1) rfl : Rg 0 8 (hI h L 1))
  have a1 := iF.2
  have a2 := iR.2
  have b1 := ir.1
  have b2 := ix.1
  have b3 := ix.2
  have b4 := iF.1
  have mm : r.toInt * (hI h L 0).toInt ≤ 7 * 8 := Int.mul_le_mul ir.2 a1 b4 (by omega)
  have m0 : 0 ≤ r.toInt * (hI h L 0).toInt := Int.mul_nonneg b1 b4
  have e : y.toInt = r.toInt * (hI h L 0).toInt + x.toInt := by
    have tmm := tm (x := r) (y := hI h L 0) ⟨by omega, by omega⟩
    rw [ey, ta (by rw [tmm]; exact ⟨by omega, by omega⟩), tmm]
  by_cases q : (hI h L 0).toInt = 8 ∧ (hI h L 1).toInt = 8
  · exact Or.inl (P L r0 w (Or.inr q))
  · refine Or.inr ?_
    by_cases u : (hI h L 0).toInt ≤ 7
    · have : r.toInt * (hI h L 0).toInt ≤ 7 * 7 := Int.mul_le_mul ir.2 u (by omega) (by omega)
      omega
    · have u8 : (hI h L 0).toInt = 8 := by omega
      rw [u8] at e
      omega
theorem rl_fr {h2 : Hp} {S : Nat → Nat → Nat → Bool} {x0 x2 : Nat} (T : TH ρ c h) (r0 : ρ x0 = 3) (_ : ρ x2 = 2) (f : Fr ρ (cat c S h) h h2) (q1 : ∀ w, S 3 w 1 = false) (P : RdL x0 x2 h) : RdL x0 x2 h2 := by
  unfold RdL
  rw [(fr_RI f r0 (by decide) q1).2.2]
  exact P
theorem ison_post {x0 L : Nat} {x1 x2 : Int32} {o : Int32 × Hp} (e : sX10_isOn h x0 x1 x2 = some o) (e2 : o.2 = h) (n : ¬ o.1 = 0) (eL : hR o.2 x0 7 = some L) : (0 ≤ x1.toInt ∧ x1.toInt < (hI o.2 L 0).toInt) ∧ 0 ≤ x2.toInt ∧ x2.toInt < (hI o.2 L 1).toInt := by
  rw [e2] at eL ⊢
  unfold sX10_isOn sX10_isOn_34 sX10_isOn_35 at e
  have z0 : (0 : Int32).toInt = 0 := rfl
  have no : ∀ {o : Int32 × Hp}, ¬ o.1 = 0 → gd ((0 : Int32) &&& 1 = 0) (some ((0 : Int32), h)) = some o → False := fun n e => by
    obtain ⟨_, e⟩ := gd_s e
    exact n (by rw [← Option.some.inj e])
  rcases br_s e with ⟨_, e⟩ | ⟨c1, e⟩
  · exact absurd (no n e) id
  obtain ⟨L1, e1, e⟩ := cl_s e
  rw [eL] at e1
  have q1 := Option.some.inj e1
  subst q1
  rcases br_s e with ⟨_, e⟩ | ⟨c2, e⟩
  · exact absurd (no n e) id
  rcases br_s e with ⟨_, e⟩ | ⟨c3, e⟩
  · exact absurd (no n e) id
  obtain ⟨L2, e3, e⟩ := cl_s e
  rw [eL] at e3
  have q2 := Option.some.inj e3
  subst q2
  rcases br_s e with ⟨_, e⟩ | ⟨c4, e⟩
  · exact absurd (no n e) id
  have := nlt_i c1
  have := nle_i c2
  have := nlt_i c3
  have := nle_i c4
  exact ⟨⟨by omega, by omega⟩, by omega, by omega⟩
theorem idx8 {v y : Int32} (iv : Rg 0 63 v) (iy : Rg 0 7 y) : ((v * (8 : Int32)) + y).toNatClampNeg / 8 = v.toNatClampNeg := by
  have m := ti_mulc iv (rg_b rfl : Rg 8 8 (8 : Int32)) (by decide)
  have i1 : Rg 0 504 (v * (8 : Int32)) := ⟨by have := iv.1; omega, by have := iv.2; omega⟩
  have a := ti_add i1 iy (by decide)
  have b1 := iv.1
  have b2 := iy.1
  have b3 := iy.2
  have c1 := clamp_i (v := v) b1
  have c2 := clamp_i (v := (v * (8 : Int32)) + y) (by omega)
  omega
theorem rpT {q : Bool} {w : Nat} {x v y : Int32} (iv : Rg 0 63 v) (iy : Rg 0 7 y) (s : SqB q v) : rP q w 56 ((v * (8 : Int32)) + y).toNatClampNeg x := ⟨fun q => absurd q (by decide), fun q => absurd q (by decide), fun q => absurd q (by decide), fun q => absurd q (by decide), fun q => absurd q (by decide), fun _ _ => by rw [idx8 iv iy]; exact sq_b s iv.1, fun q => absurd q (by decide)⟩
theorem sq_times (T : TH ρ c h) {a : Nat} {v y : Int32} (e : ρ a = 56) (iv : Rg 0 63 v) (iy : Rg 0 7 y) (p : ¬ hI h a ((v * (8 : Int32)) + y).toNatClampNeg ≤ 0) : SqB (c.2.1 50) v := by
  have z0 : (0 : Int32).toInt = 0 := rfl
  have := nle_i p
  have := thT T e (i := ((v * (8 : Int32)) + y).toNatClampNeg) (by omega)
  rw [idx8 iv iy] at this
  exact sq_n this (by rw [clamp_i iv.1])
theorem sq_mid {q : Bool} {a b : Int32} (ia : Rg 0 63 a) (ib : Rg 0 63 b) (sa : SqB q a) (sb : SqB q b) : SqB q ((a + b) >>> ((1 : Int32) &&& 31)) := by
  rcases sa with w | w
  · exact Or.inl w
  · rcases sb with u | u
    · exact Or.inl u
    · refine Or.inr ?_
      have i1 : Rg 0 112 (a + b) := by
        have := ti_add ia ib (by decide)
        exact ⟨by have := ia.1; have := ib.1; omega, by omega⟩
      exact rg57 (small (P := fun x => Rg 0 56 (x >>> ((1 : Int32) &&& 31))) (n := 112) i1 (by decide) (fun j => rg_b (by revert j; decide +kernel)))
theorem rk_fr {h2 : Hp} {S : Nat → Nat → Nat → Bool} {x0 : Nat} {x : Int32} (T : TH ρ c h) (r0 : ρ x0 = 8) (f : Fr ρ (cat c S h) h h2) (s1 : ∀ w, S 8 w 0 = false) (s2 : ∀ w, S 2 w 1 = false) (P : RkP x0 x h) : RkP x0 x h2 := fun L e => by
  rw [(fr_RI f r0 (by decide) s1).2.2] at e
  rw [(fr_RI f (rr T (thR T r0 (i := 0) (k2 := 2) rfl (by decide)) e) (by decide) s2).1]
  exact P L e
theorem fl_fr {h2 : Hp} {S : Nat → Nat → Nat → Bool} {x0 : Nat} {x : Int32} (T : TH ρ c h) (r0 : ρ x0 = 8) (f : Fr ρ (cat c S h) h h2) (s1 : ∀ w, S 8 w 0 = false) (s2 : ∀ w, S 2 w 0 = false) (P : FlP x0 x h) : FlP x0 x h2 := fun L e => by
  rw [(fr_RI f r0 (by decide) s1).2.2] at e
  rw [(fr_RI f (rr T (thR T r0 (i := 0) (k2 := 2) rfl (by decide)) e) (by decide) s2).1]
  exact P L e
theorem rk_0 {x0 L : Nat} {v : Int32} (T : TH ρ c h) (rL : ρ L = 2) (e : hR h x0 0 = some L) (ev : v = (hI h L 1) - (1 : Int32)) : RkP x0 v h := fun L' e' => by
  rw [e] at e'
  rw [← Option.some.inj e']
  have i := (thI T rL (k := 2) (i := 1) rfl : Rg 0 8 (hI h L 1))
  have := i.1
  have := i.2
  have t1 : (1 : Int32).toInt = 1 := rfl
  have := ts (x := hI h L 1) (y := (1 : Int32)) (by omega)
  rw [ev]
  omega
theorem rk_d {x0 : Nat} {x v : Int32} (P : RkP x0 x h) (i : Rg 0 7 x) (ev : v = x + (- 1 : Int32)) : RkP x0 v h := fun L e => by
  have := P L e
  have := i.1
  have := i.2
  have t1 : (- 1 : Int32).toInt = -1 := rfl
  have := ta (x := x) (y := (- 1 : Int32)) (by omega)
  rw [ev]
  omega
theorem fl_c {x0 L : Nat} {x : Int32} (e : hR h x0 0 = some L) (n : ¬ hI h L 0 ≤ x) : FlP x0 x h := fun L' e' => by
  rw [e] at e'
  rw [← Option.some.inj e']
  exact nle_i n
theorem pm_occ {x1 : Nat} {o : Int64 × Hp} (T : TH ρ c h) (r1 : ρ x1 = 4) (e : sX3_occupied h x1 = some o) : PosM x1 o.1 h := fun on s eo hs hb => by
  unfold sX3_occupied at e
  obtain ⟨f1, e1, e⟩ := cl_s e
  obtain ⟨_, e⟩ := gd_s e
  obtain ⟨f2, e2, e⟩ := cl_s e
  obtain ⟨_, e⟩ := gd_s e
  have z := Option.some.inj e
  rw [← z] at hb
  have hb' : bitJ (hJ h f1 (0 : Int32).toNatClampNeg ||| hJ h f2 (1 : Int32).toNatClampNeg) s = true := hb
  rw [bj_or, Bool.or_eq_true] at hb'
  rcases hb' with q | q
  · exact (th_ps T r1 eo e1 hs (by decide) q).1
  · exact (th_ps T r1 eo e2 hs (by decide) q).1
theorem lw_mk {L : Nat} (T : TH ρ c h) (rL : ρ L = 2) (w : cw c L = 2102) (ga : GeoA ρ h) : ∃ c', (c' = c ∨ c' = nst c 50) ∧ TH ρ c' h ∧ LwR ρ c' h := by
  by_cases q : 57 < (hI h L 2).toInt ∨ ((hI h L 0).toInt = 8 ∧ (hI h L 1).toInt = 8)
  · refine ⟨nst c 50, Or.inr rfl, th_q T (fun a ra wa i hi => ?_), fun _ _ _ _ => nst_s⟩
    obtain ⟨fo, ef, rf⟩ := thR T rL (i := 19) (k2 := 32) rfl (by decide)
    have : a = fo := T.1.2.2.2.2.2.2.2.2 a fo (by rw [ra, rf]) (Or.inr ⟨Or.inl ra, by rw [wa, th_ih T rL rfl ef w]⟩)
    rw [this]
    exact ga L rL fo ef q i hi
  · refine ⟨c, Or.inl rfl, T, fun L' rL' w' hc => ?_⟩
    have : L' = L := T.1.2.2.2.2.2.2.2.2 L' L (by rw [rL', rL]) (Or.inr ⟨Or.inr rL', by rw [w', w]⟩)
    rw [this] at hc
    exact absurd hc q
theorem pl_k4 (i : Nat) (hi : i < 60) : rfK 57 i = 4 := by
  show (if i < 60 then 4 else 0) = 4
  rw [if_pos hi]
theorem pl_k (i : Nat) (hi : i < 60) : rfK 57 i ≠ 0 := by rw [pl_k4 i hi]; decide
theorem pl_b {r i b : Nat} (T : TH ρ c h) (rr' : ρ r = 57) (hi : i < 60) (eb : hR h r i = some b) : ρ b = 4 := by
  have z := T.1.2.2.1 r i (by rw [rr']; exact pl_k i hi)
  obtain ⟨q, e, k⟩ := z
  rw [e] at eb
  rw [← Option.some.inj eb, k, rr']
  exact pl_k4 i hi
theorem ry_fr {h2 : Hp} {S : Nat → Nat → Nat → Bool} {x1 : Nat} (T : TH ρ c h) (r1 : ρ x1 = 4) (f : Fr ρ (cat c S h) h h2) (s1 : S 4 (cw c x1) 2 = false) (s2 : ∀ i, S 36 (cw c x1) i = false) (s3 : ∀ w, S 2 w 4 = false) (P : RyP ρ c x1 h) : RyP ρ c x1 h2 := fun ra e i hi n L rL wL => by
  rw [(f.1 x1 2 (by rw [r1]; decide) (by rw [r1]; exact s1)).2.2] at e
  have rr' : ρ ra = 36 := rr T (thR T r1 (i := 2) (k2 := 36) rfl (by decide)) e
  rw [(f.1 ra i (by rw [rr']; decide) (by rw [rr']; show S 36 (cw c ra) i = false; rw [th_ih T r1 rfl e rfl]; exact s2 i)).1] at n
  rw [(fr_RI f rL (by decide) s3).1]
  exact P ra e i hi n L rL wL
theorem pl_fr {h2 : Hp} {S : Nat → Nat → Nat → Bool} {x0 : Nat} (T : TH ρ c h) (r0 : ρ x0 = 12) (f : Fr ρ (cat c S h) h h2) (s1 : ∀ w, S 12 w 13 = false) (s2 : ∀ w, S 12 w 14 = false) (s3 : ∀ w i, S 57 w i = false) (s4 : ∀ w i, S 58 w i = false) (s5 : S 4 3200 2 = false) (s6 : ∀ i, S 36 3200 i = false) (s7 : ∀ w, S 2 w 4 = false) (P : PlP ρ c x0 h) : PlP ρ c x0 h2 := fun r u er eu i hi n b eb => by
  rw [(fr_RI f r0 (by decide) s1).2.2] at er
  rw [(fr_RI f r0 (by decide) s2).2.2] at eu
  have rr' := rr T (thR T r0 (i := 13) (k2 := 57) rfl (by decide)) er
  have ru := rr T (thR T r0 (i := 14) (k2 := 58) rfl (by decide)) eu
  rw [(fr_RI f rr' (by decide) (fun w => s3 w i)).2.2] at eb
  rw [(fr_RI f ru (by decide) (fun w => s4 w i)).1] at n
  have wb : cw c b = 3200 := kid_w T rr' (i := i) rfl (by decide) eb
  have rb : ρ b = 4 := pl_b T rr' hi eb
  exact ry_fr T rb f (by rw [wb]; exact s5) (fun j => by rw [wb]; exact s6 j) s7 (P r u er eu i hi n b eb)
theorem hr_fr {h2 : Hp} {S : Nat → Nat → Nat → Bool} {x0 : Nat} {x1 : Int32} (T : TH ρ c h) (r0 : ρ x0 = 12) (f : Fr ρ (cat c S h) h h2) (s1 : ∀ w, S 12 w 13 = false) (s3 : ∀ w i, S 57 w i = false) (s5 : S 4 3200 2 = false) (s6 : ∀ i, S 36 3200 i = false) (s7 : ∀ w, S 2 w 4 = false) (P : HasR ρ c x0 x1 h) : HasR ρ c x0 x1 h2 := ⟨P.1, fun r er b eb => by
  rw [(fr_RI f r0 (by decide) s1).2.2] at er
  have rr' := rr T (thR T r0 (i := 13) (k2 := 57) rfl (by decide)) er
  rw [(fr_RI f rr' (by decide) (fun w => s3 w _)).2.2] at eb
  have wb : cw c b = 3200 := kid_w T rr' (i := x1.toNatClampNeg) rfl (by decide) eb
  refine ry_fr T ?_ f (by rw [wb]; exact s5) (fun j => by rw [wb]; exact s6 j) s7 (P.2 r er b eb)
  exact pl_b T rr' P.1 eb⟩
theorem hr_of {x0 : Nat} {x1 : Int32} {o : Int32 × Hp} (T : TH ρ c h) (r0 : ρ x0 = 12) (P : PlP ρ c x0 h) (e : sX11_isPlace h x0 x1 = some o) (n : ¬ o.1 = 0) : HasR ρ c x0 x1 h := by
  unfold sX11_isPlace sX11_isPlace_23 sX11_isPlace_24 at e
  rcases br_s e with ⟨_, e⟩ | ⟨c1, e⟩
  · exact absurd (by rw [← Option.some.inj (gd_s e).2]) n
  rcases br_s e with ⟨_, e⟩ | ⟨c2, e⟩
  · exact absurd (by rw [← Option.some.inj (gd_s e).2]) n
  obtain ⟨s, es, e⟩ := cl_s e
  replace e := (gd_s e).2
  rcases br_s e with ⟨_, e⟩ | ⟨c3, e⟩
  · exact absurd (by rw [← Option.some.inj (gd_s e).2]) n
  have l1 := nlt_i c1
  have l2 := nle_i c2
  have z0 : (0 : Int32).toInt = 0 := rfl
  have z60 : (60 : Int32).toInt = 60 := rfl
  have l60 : x1.toNatClampNeg < 60 := by have := nc_i (x := x1) (by omega); omega
  exact ⟨l60, fun r er b eb => P r s er es _ l60 c3 b eb⟩
theorem th_dle {a : Nat} {x : Int32} (T : TH ρ c h) (e : ρ a = 32) (x0 : 0 ≤ x.toInt) : (hI h a x.toNatClampNeg).toInt ≤ x.toInt := by
  have z := (thD T e (i := x.toNatClampNeg)).1
  rw [clamp_i x0] at z
  exact z
end
theorem wm_step {u h o v a b s : Int} (w : u ≤ h ∧ u ≤ 180 ∧ 0 ≤ b ∧ b ≤ s ∧ h + b ≤ u + 9 * (7 - a) + s) (s8 : s ≤ 8) (lo : h ≤ o) (up : o ≤ h + b + 1) (ev : v = a - 1) : u ≤ o ∧ u ≤ 180 ∧ o ≤ u + 9 * (7 - v) := by
  subst ev
  omega
theorem he_cp {h h2 : Hp} {a0 sp a dp n b j : Nat} (e : h2 = cpI h a0 sp a dp n) (q : ¬ (b = a ∧ True)) : hI h2 b j = hI h b j := by
  rw [e, cp_at, if_neg (fun z => q ⟨z.1, trivial⟩)]
