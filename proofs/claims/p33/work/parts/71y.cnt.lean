/-! tryAll: the list never runs over -/
/-- how many moves there are so far, against the board -/
def Bd (x0 b l : Nat) (φ : (Nat → Int32) → Int32 → Int → Int → Int → Int → Prop) (h : Hp) : Prop := ∀ M, hR h b 0 = some M → φ (fun i => hI h M i) (hI h b 1) (hI h x0 11).toInt (hI h x0 12).toInt (hI h x0 13).toInt (hI h l 0).toInt
section
variable {ρ : Nat → Nat} {c : Cm} {h h2 o : Hp} {S : Nat → Nat → Nat → Bool} {x0 b l : Nat} {s t v : Int32} {φ ψ : (Nat → Int32) → Int32 → Int → Int → Int → Int → Prop}
theorem bd_fr0 (T : TH ρ c h) (rx : ρ x0 = 16) (rb : ρ b = 13) (f : Fr ρ (cat c S h) h h2) (s1 : ∀ w, S 16 w 11 = false) (s2 : ∀ w, S 16 w 12 = false) (s3 : ∀ w, S 16 w 13 = false) (s4 : ∀ w, S 13 w 0 = false) (s5 : ∀ w, S 13 w 1 = false) (s6 : ∀ w i, S 62 w i = false) (q : ∀ g sd F R sq, 9 ≤ sq ∧ sq ≤ 64 → 3 ≤ F ∧ F ≤ 8 → φ g sd F R sq (hI h l 0).toInt → ψ g sd F R sq (hI h2 l 0).toInt) (P : Bd x0 b l φ h) : Bd x0 b l ψ h2 := fun M e => by
  rw [(fr_RI f rb (by decide) s4).2.2] at e
  obtain ⟨M', e', rM⟩ := thR T rb (i := 0) (k2 := 62) rfl (by decide)
  have := r_eq e' e
  subst this
  rw [(fr_RI f rb (by decide) s5).1, (fr_RI f rx (by decide) s1).1, (fr_RI f rx (by decide) s2).1, (fr_RI f rx (by decide) s3).1]
  have hM : (fun i => hI h2 M i) = fun i => hI h M i := funext fun i => (fr_RI f rM (by decide) (fun w => s6 w i)).1
  rw [hM]
  have i13 : Rg 9 64 (hI h x0 13) := thI T rx rfl
  have iF : Rg 3 8 (hI h x0 11) := thI T rx rfl
  exact q _ _ _ _ _ i13 iF (P M e)
theorem bd_fr (T : TH ρ c h) (rx : ρ x0 = 16) (rb : ρ b = 13) (rl : ρ l = 14) (f : Fr ρ (cat c S h) h h2) (s1 : ∀ w, S 16 w 11 = false) (s2 : ∀ w, S 16 w 12 = false) (s3 : ∀ w, S 16 w 13 = false) (s4 : ∀ w, S 13 w 0 = false) (s5 : ∀ w, S 13 w 1 = false) (s6 : ∀ w i, S 62 w i = false) (s7 : ∀ w, S 14 w 0 = false) (P : Bd x0 b l φ h) : Bd x0 b l φ h2 := bd_fr0 T rx rb f s1 s2 s3 s4 s5 s6 (fun _ _ _ _ _ _ _ p => by rw [(fr_RI f rl (by decide) s7).1]; exact p) P
theorem bd_af (T : TH ρ c h) (rx : ρ x0 = 16) (rb : ρ b = 13) (rl : ρ l = 14) (fr : AFr ρ l h o) (q : ∀ g sd F R sq, 9 ≤ sq ∧ sq ≤ 64 → 3 ≤ F ∧ F ≤ 8 → g = (fun i => hI h ((hR h b 0).getD 0) i) → sd = hI h b 1 → F = (hI h x0 11).toInt → R = (hI h x0 12).toInt → sq = (hI h x0 13).toInt → φ g sd F R sq (hI h l 0).toInt → ψ g sd F R sq (hI o l 0).toInt) (P : Bd x0 b l φ h) : Bd x0 b l ψ o := fun M e => by
  rw [fr.1] at e
  obtain ⟨M', e', rM⟩ := thR T rb (i := 0) (k2 := 62) rfl (by decide)
  have := r_eq e' e
  subst this
  rw [fr.2.2 b 1 (by rw [rb]; decide) (fun q => absurd q.2 (by decide)), fr.2.2 x0 11 (by rw [rx]; decide) (fun q => absurd q.2 (by decide)), fr.2.2 x0 12 (by rw [rx]; decide) (fun q => absurd q.2 (by decide)), fr.2.2 x0 13 (by rw [rx]; decide) (fun q => absurd q.2 (by decide))]
  have hM : (fun i => hI o M i) = fun i => hI h M i := funext fun i => fr.2.2 M i (by rw [rM]; decide) (fun q => absurd (q.1 ▸ rM) (by rw [rl]; decide))
  rw [hM]
  have i13 : Rg 9 64 (hI h x0 13) := thI T rx rfl
  have iF : Rg 3 8 (hI h x0 11) := thI T rx rfl
  exact q _ _ _ _ _ i13 iF (by rw [e]; rfl) rfl rfl rfl rfl (P M e)
theorem bd_i (T : TH ρ c h) (rx : ρ x0 = 16) (q : ∀ g sd F R sq m, 9 ≤ sq ∧ sq ≤ 64 → 3 ≤ F ∧ F ≤ 8 → φ g sd F R sq m → ψ g sd F R sq m) (P : Bd x0 b l φ h) : Bd x0 b l ψ h := fun M e => q _ _ _ _ _ _ (thI T rx (lo := 9) (hi := 64) rfl) (thI T rx (lo := 3) (hi := 8) rfl) (P M e)
end
def cs (s t : Int) : Int := (if s - 2 < t then 1 else 0) + (if s + 2 < t then 1 else 0)
theorem cs_b (s t : Int) : 0 ≤ cs s t ∧ cs s t ≤ 2 ∧ cs s t ≤ cs s (t + 1) := by unfold cs; split <;> split <;> (try split) <;> (try split) <;> omega
def f7 (s : Int32) (g : Nat → Int32) (sd : Int32) (_ _ sq m : Int) : Prop := 0 ≤ s.toInt ∧ s.toInt ≤ sq ∧ m ≤ Kc g sd s.toNatClampNeg * (106 - Kc g sd sq.toNat)
def f114 (s : Int32) (g : Nat → Int32) (sd : Int32) (_ _ sq m : Int) : Prop := 0 ≤ s.toInt ∧ s.toInt < sq ∧ m ≤ Kc g sd (s.toNatClampNeg + 1) * (106 - Kc g sd sq.toNat)
def f50 (s t : Int32) (g : Nat → Int32) (sd : Int32) (F R sq m : Int) : Prop := 0 ≤ s.toInt ∧ s.toInt < sq ∧ ow (g s.toNatClampNeg) sd = true ∧ 0 ≤ t.toInt ∧ t.toInt ≤ sq ∧ m ≤ Kc g sd s.toNatClampNeg * (106 - Kc g sd sq.toNat) + Ac g sd F (lc sd R) t.toNatClampNeg + cs s.toInt t.toInt
def f84 (s t : Int32) (g : Nat → Int32) (sd : Int32) (F R sq m : Int) : Prop := 0 ≤ s.toInt ∧ s.toInt < sq ∧ ow (g s.toNatClampNeg) sd = true ∧ 0 ≤ t.toInt ∧ t.toInt < sq ∧ m ≤ Kc g sd s.toNatClampNeg * (106 - Kc g sd sq.toNat) + Ac g sd F (lc sd R) (t.toNatClampNeg + 1) + cs s.toInt t.toInt
def f108 (s t : Int32) (g : Nat → Int32) (sd : Int32) (F R sq m : Int) : Prop := 0 ≤ s.toInt ∧ s.toInt < sq ∧ ow (g s.toNatClampNeg) sd = true ∧ 0 ≤ t.toInt ∧ t.toInt < sq ∧ m ≤ Kc g sd s.toNatClampNeg * (106 - Kc g sd sq.toNat) + Ac g sd F (lc sd R) (t.toNatClampNeg + 1) + cs s.toInt (t.toInt + 1)
def f122 (t : Int32) (g : Nat → Int32) (sd : Int32) (_ _ sq m : Int) : Prop := 0 ≤ t.toInt ∧ t.toInt ≤ sq ∧ m ≤ Kc g sd sq.toNat * (106 - Kc g sd sq.toNat) + 12 * Oc g t.toNatClampNeg
def f143 (t k : Int32) (g : Nat → Int32) (sd : Int32) (_ _ sq m : Int) : Prop := 0 ≤ t.toInt ∧ t.toInt < sq ∧ 0 ≤ k.toInt ∧ k.toInt ≤ 12 ∧ (k.toInt = 0 ∨ (g t.toNatClampNeg).toInt = 0) ∧ m ≤ Kc g sd sq.toNat * (106 - Kc g sd sq.toNat) + 12 * Oc g t.toNatClampNeg + k.toInt
def f202 (t k : Int32) (g : Nat → Int32) (sd : Int32) (_ _ sq m : Int) : Prop := 0 ≤ t.toInt ∧ t.toInt < sq ∧ 0 ≤ k.toInt ∧ k.toInt < 12 ∧ (g t.toNatClampNeg).toInt = 0 ∧ m ≤ Kc g sd sq.toNat * (106 - Kc g sd sq.toNat) + 12 * Oc g t.toNatClampNeg + k.toInt
def f238 (t k : Int32) (g : Nat → Int32) (sd : Int32) (_ _ sq m : Int) : Prop := 0 ≤ t.toInt ∧ t.toInt < sq ∧ 0 ≤ k.toInt ∧ k.toInt < 12 ∧ (g t.toNatClampNeg).toInt = 0 ∧ m ≤ Kc g sd sq.toNat * (106 - Kc g sd sq.toNat) + 12 * Oc g t.toNatClampNeg + k.toInt + 1
def f244 (t : Int32) (g : Nat → Int32) (sd : Int32) (_ _ sq m : Int) : Prop := 0 ≤ t.toInt ∧ t.toInt < sq ∧ m ≤ Kc g sd sq.toNat * (106 - Kc g sd sq.toNat) + 12 * Oc g (t.toNatClampNeg + 1)
/-- the next number -/
theorem nc_1 {x v : Int32} (h0 : 0 ≤ x.toInt) (h1 : x.toInt ≤ 1000) (e : v = x + (1 : Int32)) : v.toInt = x.toInt + 1 ∧ v.toNatClampNeg = x.toNatClampNeg + 1 := by
  have a : v.toInt = x.toInt + 1 := by rw [e]; exact ta (by show _ ≤ x.toInt + 1 ∧ x.toInt + 1 ≤ _; omega)
  refine ⟨a, ?_⟩
  have := nc_i h0
  have := nc_i (x := v) (by omega)
  omega
theorem own_b {g : Nat → Int32} {sd : Int32} {F cc sq : Int} {s : Int32} (i : 9 ≤ sq ∧ sq ≤ 64) (iF : 3 ≤ F ∧ F ≤ 8) (h0 : 0 ≤ s.toInt) (h1 : s.toInt < sq) (w : ow (g s.toNatClampNeg) sd = true) (n : Nat) (hn : (n : Int) ≤ sq) :
    Kc g sd (s.toNatClampNeg + 1) = Kc g sd s.toNatClampNeg + 1 ∧ Kc g sd s.toNatClampNeg * (106 - Kc g sd sq.toNat) + (106 - Kc g sd sq.toNat) = Kc g sd (s.toNatClampNeg + 1) * (106 - Kc g sd sq.toNat) ∧ Kc g sd (s.toNatClampNeg + 1) * (106 - Kc g sd sq.toNat) ≤ 2809 ∧ Ac g sd F cc n + 2 ≤ 106 - Kc g sd sq.toNat := by
  have c0 := nc_i h0
  have k1 : Kc g sd (s.toNatClampNeg + 1) = Kc g sd s.toNatClampNeg + 1 := by
    rcases kc_1 (g := g) (sd := sd) (n := s.toNatClampNeg) with ⟨_, b⟩ | ⟨a, _⟩
    · exact b
    · exact absurd w a
  have k2 : Kc g sd (s.toNatClampNeg + 1) ≤ Kc g sd sq.toNat := kc_m (by omega)
  have k3 := ke_b (g := g) (sd := sd) sq.toNat
  have k4 := ac_b (g := g) (sd := sd) (cc := cc) (show 0 < F by omega) iF.2 sq.toNat
  have k5 : Ac g sd F cc n ≤ Ac g sd F cc sq.toNat := ac_m (by omega)
  have k6 := kd_b (Kc g sd sq.toNat) k3.1 (by omega)
  have k7 : Kc g sd (s.toNatClampNeg + 1) * (106 - Kc g sd sq.toNat) ≤ Kc g sd sq.toNat * (106 - Kc g sd sq.toNat) := Int.mul_le_mul_of_nonneg_right k2 (by omega)
  refine ⟨k1, ?_, by omega, by omega⟩
  rw [k1, Int.add_mul]; omega
section
variable {ρ : Nat → Nat} {c : Cm} {h h2 o : Hp} {S : Nat → Nat → Nat → Bool} {x0 b l : Nat} {s t v k : Int32}
theorem u50 (T : TH ρ c h) (rx : ρ x0 = 16) (rb : ρ b = 13) (P : Bd x0 b l (f50 s t) h) : (hI h l 0).toInt ≤ 2900 := by
  obtain ⟨M, e, _⟩ := thR T rb (i := 0) (k2 := 62) rfl (by decide)
  obtain ⟨a1, a2, a3, a4, a5, a6⟩ := P M e
  have c0 := nc_i a4
  have := own_b (g := fun i => hI h M i) (sd := hI h b 1) (sq := (hI h x0 13).toInt) (F := (hI h x0 11).toInt) (cc := lc (hI h b 1) (hI h x0 12).toInt) (thI T rx (lo := 9) (hi := 64) (i := 13) rfl) (thI T rx (lo := 3) (hi := 8) (i := 11) rfl) a1 a2 a3 t.toNatClampNeg (by omega)
  have := cs_b s.toInt t.toInt
  omega
theorem u84 (T : TH ρ c h) (rx : ρ x0 = 16) (rb : ρ b = 13) (P : Bd x0 b l (f84 s t) h) : (hI h l 0).toInt ≤ 2900 := by
  obtain ⟨M, e, _⟩ := thR T rb (i := 0) (k2 := 62) rfl (by decide)
  obtain ⟨a1, a2, a3, a4, a5, a6⟩ := P M e
  have c0 := nc_i a4
  have := own_b (g := fun i => hI h M i) (sd := hI h b 1) (sq := (hI h x0 13).toInt) (F := (hI h x0 11).toInt) (cc := lc (hI h b 1) (hI h x0 12).toInt) (thI T rx (lo := 9) (hi := 64) (i := 13) rfl) (thI T rx (lo := 3) (hi := 8) (i := 11) rfl) a1 a2 a3 (t.toNatClampNeg + 1) (by omega)
  have := cs_b s.toInt t.toInt
  omega
theorem u202 (T : TH ρ c h) (rx : ρ x0 = 16) (rb : ρ b = 13) (P : Bd x0 b l (f202 t k) h) : (hI h l 0).toInt ≤ 2977 := by
  obtain ⟨M, e, _⟩ := thR T rb (i := 0) (k2 := 62) rfl (by decide)
  obtain ⟨a1, a2, a3, a4, a5, a6⟩ := P M e
  have c0 := nc_i a1
  have i13 : Rg 9 64 (hI h x0 13) := thI T rx rfl
  have := i13.2
  have k3 := ke_b (g := fun i => hI h M i) (sd := hI h b 1) (hI h x0 13).toInt.toNat
  have k6 := kd_b (Kc (fun i => hI h M i) (hI h b 1) (hI h x0 13).toInt.toNat) k3.1 (by omega)
  have k2 : Oc (fun i => hI h M i) (t.toNatClampNeg + 1) ≤ Oc (fun i => hI h M i) (hI h x0 13).toInt.toNat := ec_m (by omega)
  rcases ec_1 (g := fun i => hI h M i) (n := t.toNatClampNeg) with ⟨_, b⟩ | ⟨a, _⟩
  · omega
  · exact absurd a5 a
theorem t0_7 (T : TH ρ c h) (rx : ρ x0 = 16) (e0 : hI h l 0 = 0) : Bd x0 b l (f7 (0 : Int32)) h := fun M e => by
  have i13 : Rg 9 64 (hI h x0 13) := thI T rx rfl
  refine ⟨by decide, by have := i13.1; show (0 : Int) ≤ _; omega, ?_⟩
  rw [e0]
  show (0 : Int) ≤ Kc _ _ 0 * _
  simp [Kc]
theorem t7_122 (T : TH ρ c h) (rx : ρ x0 = 16) (P : Bd x0 b l (f7 s) h) (c1 : hI h x0 13 ≤ s) : Bd x0 b l (f122 (0 : Int32)) h := fun M e => by
  obtain ⟨a1, a2, a3⟩ := P M e
  have c1 := le_i c1
  have i13 : Rg 9 64 (hI h x0 13) := thI T rx rfl
  refine ⟨by decide, by have := i13.1; show (0 : Int) ≤ _; omega, ?_⟩
  have : s.toNatClampNeg = (hI h x0 13).toInt.toNat := by have := nc_i a1; omega
  rw [this] at a3
  show _ ≤ _ + 12 * Oc _ 0
  simp only [Oc]
  omega
theorem t7_114 {r : Nat} (P : Bd x0 b l (f7 s) h) (c1 : ¬ hI h x0 13 ≤ s) (er : hR h b 0 = some r) (n : hI h r s.toNatClampNeg ≤ 0 ∨ ¬ (hI h r s.toNatClampNeg - (1 : Int32)) &&& (1 : Int32) = hI h b 1) : Bd x0 b l (f114 s) h := fun M e => by
  have := r_eq er e
  subst this
  obtain ⟨a1, a2, a3⟩ := P M e
  have c1 := nle_i c1
  refine ⟨a1, c1, ?_⟩
  rcases kc_1 (g := fun i => hI h M i) (sd := hI h b 1) (n := s.toNatClampNeg) with ⟨a, _⟩ | ⟨_, b⟩
  · exfalso
    unfold ow at a
    rw [Bool.and_eq_true, decide_eq_true_eq, decide_eq_true_eq] at a
    rcases n with n | n
    · have := le_i n
      have : (0 : Int32).toInt = 0 := rfl
      omega
    · exact n a.2
  · rw [b]; exact a3
theorem t7_50 {r : Nat} (P : Bd x0 b l (f7 s) h) (c1 : ¬ hI h x0 13 ≤ s) (er : hR h b 0 = some r) (n1 : ¬ hI h r s.toNatClampNeg ≤ 0) (n2 : (hI h r s.toNatClampNeg - (1 : Int32)) &&& (1 : Int32) = hI h b 1) : Bd x0 b l (f50 s (0 : Int32)) h := fun M e => by
  have := r_eq er e
  subst this
  obtain ⟨a1, a2, a3⟩ := P M e
  have c1 := nle_i c1
  have n1 := nle_i n1
  have z : (0 : Int32).toInt = 0 := rfl
  have := cs_b s.toInt (0 : Int32).toInt
  refine ⟨a1, c1, ?_, by decide, by omega, ?_⟩
  · unfold ow
    rw [Bool.and_eq_true, decide_eq_true_eq, decide_eq_true_eq]
    exact ⟨by show 0 < (hI h M s.toNatClampNeg).toInt; omega, n2⟩
  · show _ ≤ _ + Ac _ _ _ _ 0 + _
    simp only [Ac]
    omega
theorem t50_114 (T : TH ρ c h) (rx : ρ x0 = 16) (P : Bd x0 b l (f50 s t) h) (c1 : hI h x0 13 ≤ t) : Bd x0 b l (f114 s) h := bd_i T rx (fun g sd F R sq m i iF p => by
  obtain ⟨a1, a2, a3, a4, a5, a6⟩ := p
  have c0 := nc_i a4
  have := own_b (cc := lc sd R) i iF a1 a2 a3 t.toNatClampNeg (by omega)
  have := cs_b s.toInt t.toInt
  exact ⟨a1, a2, by omega⟩) P
theorem t50_84 (T : TH ρ c h) (rx : ρ x0 = 16) (P : Bd x0 b l (f50 s t) h) (c1 : ¬ hI h x0 13 ≤ t) : Bd x0 b l (f84 s t) h := fun M e => by
  obtain ⟨a1, a2, a3, a4, a5, a6⟩ := P M e
  have c1 := nle_i c1
  have := ac_m (g := fun i => hI h M i) (sd := hI h b 1) (F := (hI h x0 11).toInt) (cc := lc (hI h b 1) (hI h x0 12).toInt) (n := t.toNatClampNeg) (m := t.toNatClampNeg + 1) (by omega)
  exact ⟨a1, a2, a3, a4, c1, by omega⟩
theorem t84_108 (T : TH ρ c h) (rx : ρ x0 = 16) (P : Bd x0 b l (f84 s t) h) : Bd x0 b l (f108 s t) h := bd_i T rx (fun g sd F R sq m i iF p => by
  obtain ⟨a1, a2, a3, a4, a5, a6⟩ := p
  have := cs_b s.toInt t.toInt
  exact ⟨a1, a2, a3, a4, a5, by omega⟩) P
theorem t84_108c (T : TH ρ c h) (rx : ρ x0 = 16) (rb : ρ b = 13) (f : Fr ρ (cat c S h) h h2) (s1 : ∀ w, S 16 w 11 = false) (s2 : ∀ w, S 16 w 12 = false) (s3 : ∀ w, S 16 w 13 = false) (s4 : ∀ w, S 13 w 0 = false) (s5 : ∀ w, S 13 w 1 = false) (s6 : ∀ w i, S 62 w i = false) (q : (hI h2 l 0).toInt = (hI h l 0).toInt ∨ ((hI h2 l 0).toInt = (hI h l 0).toInt + 1 ∧ (t.toInt = s.toInt + 2 ∨ t.toInt = s.toInt - 2))) (P : Bd x0 b l (f84 s t) h) : Bd x0 b l (f108 s t) h2 := bd_fr0 T rx rb f s1 s2 s3 s4 s5 s6 (fun g sd F R sq i iF p => by
  obtain ⟨a1, a2, a3, a4, a5, a6⟩ := p
  have b1 := cs_b s.toInt t.toInt
  refine ⟨a1, a2, a3, a4, a5, ?_⟩
  rcases q with q | ⟨q, w⟩
  · omega
  · have : cs s.toInt (t.toInt + 1) = cs s.toInt t.toInt + 1 := by
      unfold cs
      rcases w with w | w
      · rw [if_pos (by omega), if_pos (by omega), if_pos (by omega), if_neg (by omega)]; omega
      · rw [if_pos (by omega), if_neg (by omega), if_neg (by omega), if_neg (by omega)]; omega
    omega) P
theorem t108_50 (T : TH ρ c h) (rx : ρ x0 = 16) (P : Bd x0 b l (f108 s t) h) (e : v = t + (1 : Int32)) : Bd x0 b l (f50 s v) h := bd_i T rx (fun g sd F R sq m i iF p => by
  obtain ⟨a1, a2, a3, a4, a5, a6⟩ := p
  obtain ⟨w1, w2⟩ := nc_1 a4 (by omega) e
  unfold f50
  rw [w1, w2]
  exact ⟨a1, a2, a3, by omega, by omega, a6⟩) P
theorem t114_7 (T : TH ρ c h) (rx : ρ x0 = 16) (P : Bd x0 b l (f114 s) h) (e : v = s + (1 : Int32)) : Bd x0 b l (f7 v) h := bd_i T rx (fun g sd F R sq m i iF p => by
  obtain ⟨a1, a2, a3⟩ := p
  obtain ⟨w1, w2⟩ := nc_1 a1 (by omega) e
  unfold f7
  rw [w1, w2]
  exact ⟨by omega, by omega, a3⟩) P
theorem t122_143 (T : TH ρ c h) (rx : ρ x0 = 16) (P : Bd x0 b l (f122 t) h) (c1 : ¬ hI h x0 13 ≤ t) : Bd x0 b l (f143 t (0 : Int32)) h := fun M e => by
  obtain ⟨a1, a2, a3⟩ := P M e
  have c1 := nle_i c1
  have z : (0 : Int32).toInt = 0 := rfl
  exact ⟨a1, c1, by decide, by decide, Or.inl z, by rw [z]; omega⟩
theorem t143_244 (T : TH ρ c h) (rx : ρ x0 = 16) (P : Bd x0 b l (f143 t k) h) : Bd x0 b l (f244 t) h := bd_i T rx (fun g sd F R sq m i iF p => by
  obtain ⟨a1, a2, a3, a4, a5, a6⟩ := p
  refine ⟨a1, a2, ?_⟩
  rcases ec_1 (g := g) (n := t.toNatClampNeg) with ⟨a, b⟩ | ⟨a, b⟩
  · omega
  · rcases a5 with a5 | a5
    · omega
    · exact absurd a5 a) P
theorem t143_202 {r : Nat} (er : hR h b 0 = some r) (P : Bd x0 b l (f143 t k) h) (n : k.toInt < 12) (m : hI h r t.toNatClampNeg = 0) : Bd x0 b l (f202 t k) h := fun M e => by
  have := r_eq er e
  subst this
  obtain ⟨a1, a2, a3, a4, a5, a6⟩ := P M e
  exact ⟨a1, a2, a3, n, by show (hI h M _).toInt = 0; rw [m]; rfl, a6⟩
theorem t202_238 (T : TH ρ c h) (rx : ρ x0 = 16) (P : Bd x0 b l (f202 t k) h) : Bd x0 b l (f238 t k) h := bd_i T rx (fun g sd F R sq m i iF p => by
  obtain ⟨a1, a2, a3, a4, a5, a6⟩ := p
  exact ⟨a1, a2, a3, a4, a5, by omega⟩) P
theorem t238_143 (T : TH ρ c h) (rx : ρ x0 = 16) (P : Bd x0 b l (f238 t k) h) (e : v = k + (1 : Int32)) : Bd x0 b l (f143 t v) h := bd_i T rx (fun g sd F R sq m i iF p => by
  obtain ⟨a1, a2, a3, a4, a5, a6⟩ := p
  obtain ⟨w1, w2⟩ := nc_1 a3 (by omega) e
  unfold f143
  rw [w1]
  exact ⟨a1, a2, by omega, by omega, Or.inr a5, by omega⟩) P
theorem t244_122 (T : TH ρ c h) (rx : ρ x0 = 16) (P : Bd x0 b l (f244 t) h) (e : v = t + (1 : Int32)) : Bd x0 b l (f122 v) h := bd_i T rx (fun g sd F R sq m i iF p => by
  obtain ⟨a1, a2, a3⟩ := p
  obtain ⟨w1, w2⟩ := nc_1 a1 (by omega) e
  unfold f122
  rw [w1, w2]
  exact ⟨by omega, by omega, a3⟩) P
/-- what lead has noted, for the side to move -/
def LedB (x0 b : Nat) (s : Int32) (h : Hp) : Prop := LedOk x0 b s (hI h b 1) h
theorem led_b {F r : Nat} {ct : Int32} (T : TH ρ c h) (rx : ρ x0 = 16) (rb : ρ b = 13) (is : Rg 0 63 s) (pe : PE b h) (er : hR h b 0 = some r) (n2 : (hI h r s.toNatClampNeg - (1 : Int32)) &&& (1 : Int32) = hI h b 1) (f : Fr ρ (cat c S h) h o) (s5 : ∀ w, S 13 w 1 = false) (e : sX15_lead F h x0 b s ct = some o) : LedB x0 b s o := by
  have := lead_post T rx rb is pe e r er
  rw [n2] at this
  unfold LedB
  rw [(fr_RI f rb (by decide) s5).1]
  exact this
theorem lb_fr (T : TH ρ c h) (rx : ρ x0 = 16) (rb : ρ b = 13) (f : Fr ρ (cat c S h) h h2) (s1 : ∀ w, S 16 w 25 = false) (s2 : ∀ w, S 16 w 26 = false) (s3 : ∀ w, S 16 w 4 = false) (s4 : ∀ w, S 16 w 11 = false) (s5 : ∀ w, S 16 w 13 = false) (s6 : ∀ w, S 13 w 0 = false) (s7 : ∀ w, S 13 w 1 = false) (s8 : ∀ w, S 15 w 5 = false) (u1 : ∀ w i, S 87 w i = false) (u2 : ∀ w i, S 88 w i = false) (u3 : ∀ w i, S 62 w i = false) (u4 : ∀ w i, S 75 w i = false) (P : LedB x0 b s h) : LedB x0 b s h2 := by
  intro S1 Fa M R Fl p1 p2 p3 p4 p5
  rw [(fr_RI f rx (by decide) s1).2.2] at p1
  rw [(fr_RI f rx (by decide) s2).2.2] at p2
  rw [(fr_RI f rb (by decide) s6).2.2] at p3
  rw [(fr_RI f rx (by decide) s3).2.2] at p4
  have rR : ρ R = 15 := by obtain ⟨q, a, b⟩ := thR T rx (i := 4) (k2 := 15) rfl (by decide); rw [r_eq a p4]; exact b
  rw [(fr_RI f rR (by decide) s8).2.2] at p5
  have rS : ρ S1 = 87 := by obtain ⟨q, a, b⟩ := thR T rx (i := 25) (k2 := 87) rfl (by decide); rw [r_eq a p1]; exact b
  have rF : ρ Fa = 88 := by obtain ⟨q, a, b⟩ := thR T rx (i := 26) (k2 := 88) rfl (by decide); rw [r_eq a p2]; exact b
  have rM : ρ M = 62 := by obtain ⟨q, a, b⟩ := thR T rb (i := 0) (k2 := 62) rfl (by decide); rw [r_eq a p3]; exact b
  have rFl : ρ Fl = 75 := by obtain ⟨q, a, b⟩ := thR T rR (i := 5) (k2 := 75) rfl (by decide); rw [r_eq a p5]; exact b
  have L := P S1 Fa M R Fl p1 p2 p3 p4 p5
  rw [(fr_RI f rb (by decide) s7).1, (fr_RI f rx (by decide) s4).1, (fr_RI f rx (by decide) s5).1]
  intro t' h1 h3
  rw [(fr_RI f rS (by decide) (fun w => u1 w _)).1] at h3
  have := L t' h1 h3
  rw [(fr_RI f rS (by decide) (fun w => u1 w _)).1, (fr_RI f rM (by decide) (fun w => u3 w _)).1, (fr_RI f rF (by decide) (fun w => u2 w _)).1, (fr_RI f rFl (by decide) (fun w => u4 w _)).1]
  refine ⟨this.1, fun p => ?_⟩
  obtain ⟨dx, dy, w1, w2, w3⟩ := this.2 p
  exact ⟨dx, dy, w1, w2, fun j j1 j2 => by rw [(fr_RI f rM (by decide) (fun w => u3 w _)).1]; exact w3 j j1 j2⟩
theorem pe_fr (T : TH ρ c h) (rb : ρ b = 13) (f : Fr ρ (cat c S h) h h2) (s1 : S 13 (cw c b) 0 = false) (s2 : S 13 (cw c b) 3 = false) (s3 : S 13 (cw c b) 4 = false) (s4 : ∀ i, S 62 (cw c b) i = false) (s5 : ∀ i, S 63 (cw c b) i = false) (P : PE b h) : PE b h2 := by
  have g : ∀ {a k j : Nat}, ρ a = k → k ≠ 0 → S k (cw c a) j = false → hI h2 a j = hI h a j ∧ hR h2 a j = hR h a j := fun {a k j} ha hk hs => by
    have := f.1 a j (by rw [ha]; exact hk) (by rw [ha]; exact hs)
    exact ⟨this.1, this.2.2⟩
  intro M P' p1 p2 k k1 k2
  rw [(g rb (by decide) s1).2] at p1
  rw [(g rb (by decide) s3).2] at p2
  rw [(g rb (by decide) s2).1] at k2
  have rM : ρ M = 62 := by obtain ⟨q, a, b⟩ := thR T rb (i := 0) (k2 := 62) rfl (by decide); rw [r_eq a p1]; exact b
  have rP : ρ P' = 63 := by obtain ⟨q, a, b⟩ := thR T rb (i := 4) (k2 := 63) rfl (by decide); rw [r_eq a p2]; exact b
  rw [(g rM (by decide) (by rw [th_ih T rb (by decide) p1 rfl]; exact s4 _)).1, (g rP (by decide) (by rw [th_ih T rb (by decide) p2 rfl]; exact s5 _)).1]
  exact P M P' p1 p2 k k1 k2
theorem h50 {F : Nat} {m : Int32} (T : TH ρ c h) (rx : ρ x0 = 16) (rb : ρ b = 13) (rl : ρ l = 14) (is : Rg 0 63 s) (it : Rg 0 63 t) (c1 : ¬ hI h x0 13 ≤ t) (P : Bd x0 b l (f50 s t) h) (MV : MvB x0 b l h) (LE : LedB x0 b s h) (st : StepAt x0 t h) (e : sX15_trySteps F h x0 b s t m l = some o) : MvB x0 b l o ∧ Bd x0 b l (f84 s t) o := by
  have u := u50 T rx rb P
  have tq := nle_i c1
  obtain ⟨M, eM, rM⟩ := thR T rb (i := 0) (k2 := 62) rfl (by decide)
  have pp := P M eM
  have w := pp.2.2.1
  unfold ow at w
  rw [Bool.and_eq_true, decide_eq_true_eq, decide_eq_true_eq] at w
  obtain ⟨z1, z2, z3, z4⟩ := ts_post T rx rb rl is it tq pp.2.1 (by omega) MV (fun M' e' => by have := r_eq eM e'; subst this; exact w) LE st e
  refine ⟨z1, bd_af T rx rb rl z2 (fun g sd F R sq i iF g1 g2 g3 g4 g5 p => ?_) P⟩
  obtain ⟨a1, a2, a3, a4, a5, a6⟩ := p
  obtain ⟨S1, e25, rS⟩ := thR T rx (i := 25) (k2 := 87) rfl (by decide)
  obtain ⟨Fa, e26, rFa⟩ := thR T rx (i := 26) (k2 := 88) rfl (by decide)
  obtain ⟨R1, eR, rR⟩ := thR T rx (i := 4) (k2 := 15) rfl (by decide)
  obtain ⟨Fl, eFl, rFl⟩ := thR T rR (i := 5) (k2 := 75) rfl (by decide)
  have L := (LE S1 Fa M R1 Fl e25 e26 eM eR eFl t.toNatClampNeg (by rw [nc_i it.1]; exact tq) (st S1 e25)).1
  have gM : g t.toNatClampNeg = hI h M t.toNatClampNeg := by rw [g1, eM]; rfl
  have no : ¬ ow (g t.toNatClampNeg) sd = true := by
    rw [gM, g2]
    unfold ow
    rw [Bool.and_eq_true, decide_eq_true_eq, decide_eq_true_eq]
    rintro ⟨q1, q2⟩
    rcases L with L | L
    · omega
    · exact L q2
  refine ⟨a1, a2, a3, a4, by omega, ?_⟩
  have c0 := nc_i a4
  rw [← g2, ← g3, ← g4] at z4
  rcases ac_1 (g := g) (sd := sd) (F := F) (cc := lc sd R) (n := t.toNatClampNeg) with ⟨a, _⟩ | ⟨_, p, b⟩ | ⟨_, p, b⟩
  · exact absurd a no
  · omega
  · rw [c0] at p
    rcases z4 with z4 | z4
    · omega
    · exact absurd z4.2 p
/-- a castling's squares -/
def CaP (x0 b : Nat) (s t : Int32) (h : Hp) : Prop := ∀ M, hR h b 0 = some M → 0 ≤ s.toInt ∧ s.toInt < (hI h x0 13).toInt ∧ t.toInt < (hI h x0 13).toInt ∧ 0 < (hI h M s.toNatClampNeg).toInt
theorem ca_fr (T : TH ρ c h) (rx : ρ x0 = 16) (rb : ρ b = 13) (f : Fr ρ (cat c S h) h h2) (s1 : ∀ w, S 16 w 13 = false) (s2 : ∀ w, S 13 w 0 = false) (s3 : ∀ w i, S 62 w i = false) (P : CaP x0 b s t h) : CaP x0 b s t h2 := fun M e => by
  rw [(fr_RI f rb (by decide) s2).2.2] at e
  have rM : ρ M = 62 := by obtain ⟨q, a, b⟩ := thR T rb (i := 0) (k2 := 62) rfl (by decide); rw [r_eq a e]; exact b
  rw [(fr_RI f rx (by decide) s1).1, (fr_RI f rM (by decide) (fun w => s3 w _)).1]
  exact P M e
theorem ca_of (T : TH ρ c h) (P : Bd x0 b l (f84 s t) h) : CaP x0 b s t h := fun M e => by
  obtain ⟨a1, a2, a3, a4, a5, a6⟩ := P M e
  exact ⟨a1, a2, a5, ow_pos a3⟩
theorem ca_add {m bc tk q : Int32} (T : TH ρ c h) (rx : ρ x0 = 16) (rb : ρ b = 13) (rl : ρ l = 14) (lt0 : (hI h l 0).toInt ≤ 2999) (MV : MvB x0 b l h) (P : CaP x0 b s t h) (e : sX13_add h l s t m bc tk (2 : Int32) q = some o) : MvB x0 b l o :=
  mv_add T rx rb rl lt0 MV (fun M H eM eH => by
    obtain ⟨a1, a2, a3, a4⟩ := P M eM
    exact ⟨a3, fun w => absurd w (by decide), fun _ => ⟨a1, a2, a4⟩, fun w => absurd w (by decide)⟩) e
theorem h202 {r : Nat} {f bc tk : Int32} (T : TH ρ c h) (rx : ρ x0 = 16) (rb : ρ b = 13) (rl : ρ l = 14) (P : Bd x0 b l (f202 t k) h) (MV : MvB x0 b l h) (er : hR h b 5 = some r) (hh : ¬ hI h r ((2 : Int32) * k + hI h b 1).toNatClampNeg ≤ 0) (e : sX13_add h l f t k bc tk (3 : Int32) (0 : Int32) = some o) : MvB x0 b l o ∧ Bd x0 b l (f238 t k) o := by
  have u := u202 T rx rb P
  obtain ⟨z1, z2, z3⟩ := mv_add0 T afr_r rx rb rl (thI T rl (lo := 0) (hi := 3000) rfl).1 (by omega) MV (fun M H eM eH => by
    obtain ⟨a1, a2, a3, a4, a5, a6⟩ := P M eM
    have := r_eq er eH
    subst this
    exact ⟨a2, fun _ => nle_i hh, fun w => absurd rfl w, fun w => absurd w (by decide)⟩) e
  refine ⟨z1, bd_af T rx rb rl z2 (fun g sd F R sq i iF g1 g2 g3 g4 g5 p => ?_) P⟩
  obtain ⟨a1, a2, a3, a4, a5, a6⟩ := p
  exact ⟨a1, a2, a3, a4, a5, by omega⟩
end
/-- a call, with its equation -/
theorem s_weq {α : Type} {Z : α → Prop} {m : Option α} (S : Sat m Z) : Sat m (ZQ Z (fun o => m = some o)) := by
  obtain ⟨o, e, z⟩ := S
  exact ⟨o, e, z, e⟩
theorem s_weq2 {α : Type} {Z P : α → Prop} {m : Option α} (S : Sat m (ZQ Z P)) : Sat m (ZQ Z (fun o => P o ∧ m = some o)) := by
  obtain ⟨o, e, z, p⟩ := S
  exact ⟨o, e, z, p, e⟩
section
variable {A : List (Nat × Nat)} {L : List (Nat × List (Nat × Nat))} {B : List (Nat × Nat)} {k w i t : Nat}
theorem fs_nf (a : mS A k i = false) : fS A [] k w i = false := by unfold fS; rw [a]; rfl
theorem fs_cf (b : mS B k i = false ∨ ¬ w = t) (r : fS A L k w i = false) : fS A ((t, B) :: L) k w i = false := by
  unfold fS at r ⊢
  rw [Bool.or_eq_false_iff] at r ⊢
  refine ⟨r.1, ?_⟩
  rw [List.any_cons, Bool.or_eq_false_iff]
  refine ⟨?_, r.2⟩
  rcases b with b | b
  · show (mS B k i && w == t) = false
    rw [b]; rfl
  · show (mS B k i && w == t) = false
    rw [beq_eq_false_iff_ne.mpr b, Bool.and_false]
end
