section
/-! a position that is not wrong can be written -/
theorem bit_tst {a : Int64} {x : Int32} (i : Rg 0 63 x) (b : bitJ a x.toNatClampNeg = true) : lg_cmp ((a >>> (x.toInt64 &&& 63)) &&& (1 : Int64)) (1 : Int64) = 0 := by
  have e : (a >>> (x.toInt64 &&& 63)) &&& (1 : Int64) = (1 : Int64) := by
    apply Int64.toBitVec_inj.mp
    apply BitVec.eq_of_getLsbD_eq
    intro j hj
    show bitJ ((a >>> (x.toInt64 &&& 63)) &&& (1 : Int64)) j = bitJ (1 : Int64) j
    rw [bj_and]
    have all : ∀ j : Fin 64, bitJ (1 : Int64) j.val = true → j.val = 0 := by decide +kernel
    cases q : bitJ (1 : Int64) j with
    | false => rw [Bool.and_false]
    | true =>
      have z : j = 0 := all ⟨j, hj⟩ q
      rw [z, bit_shr i, b]; rfl
  rw [e]
  decide
/-- squares of the first and the last rank, counted -/
def cEd (F R : Nat) : Nat → Nat
  | 0 => 0
  | n + 1 => cEd F R n + if n / F = 0 ∨ n / F + 1 = R then 1 else 0
theorem ce_16 : ∀ F, F < 9 → ∀ R, R < 9 → cEd F R (F * R) ≤ 16 := by decide +kernel
theorem crt_ce {a : Int64} {F R : Nat} : ∀ n, (∀ i, i < n → bitJ a i = true → i / F = 0 ∨ i / F + 1 = R) → cRt a n ≤ cEd F R n := by
  intro n
  induction n with
  | zero => intro _; exact Nat.le_refl _
  | succ n ih =>
    intro k
    rw [cRt, cEd]
    have := ih (fun i hi => k i (by omega))
    cases w : bitJ a n with
    | false => simp; omega
    | true => rw [if_pos rfl, if_pos (k n (by omega) w)]; omega
section
variable {ρ : Nat → Nat} {c : Cm} {h o g h0 : Hp} {x0 b Ro M P R A B Ri F : Nat}
/-- what wrongOf leaves -/
def VF (x0 Ro : Nat) (h o : Hp) : Prop := (∀ a i, hR o a i = hR h a i) ∧ (∀ a i, hJ o a i = hJ h a i) ∧ ∀ a i, ¬ a = Ro → ¬ (a = x0 ∧ (i = 23 ∨ i = 24)) → hI o a i = hI h a i
theorem vf_0 : VF x0 Ro h h := ⟨fun _ _ => rfl, fun _ _ => rfl, fun _ _ _ _ => rfl⟩
theorem vf_t (p : VF x0 Ro h g) (q : VF x0 Ro g o) : VF x0 Ro h o := ⟨fun a i => (q.1 a i).trans (p.1 a i), fun a i => (q.2.1 a i).trans (p.2.1 a i), fun a i n1 n2 => (q.2.2 a i n1 n2).trans (p.2.2 a i n1 n2)⟩
theorem vf_w {i : Nat} {v : Int32} : VF x0 Ro h (wI h Ro i v) := ⟨fun _ _ => rfl, fun _ _ => rfl, fun a i n _ => rI_a n⟩
theorem vf_3 {l : Nat} (k : TF 3 ρ x0 l h o) : VF x0 Ro h o := ⟨k.1, k.2.1, fun a i _ n => k.2.2.2 a i (Or.inl rfl) (Or.inl (by decide)) (Or.inl rfl) n⟩
/-- where things lie, for wrongOf -/
def VP (ρ : Nat → Nat) (x0 b Ro M P R A B Ri : Nat) (h : Hp) : Prop := AP ρ x0 R A B h ∧ (hR h x0 22 = some Ro ∧ hR h b 0 = some M ∧ hR h b 4 = some P ∧ hR h R 8 = some Ri) ∧ (ρ Ro = 86 ∧ ρ b = 13 ∧ ρ M = 62 ∧ ρ P = 63 ∧ ρ R = 15 ∧ ρ Ri = 78) ∧ (∀ i, Rg 0 7 (hI h Ri i)) ∧ (Rg 3 8 (hI h x0 11) ∧ Rg 3 8 (hI h x0 12) ∧ Rg 9 64 (hI h x0 13) ∧ SqOk x0 h) ∧ ∀ i, Rg 0 24 (hI h M i)
theorem vp_k (k : VF x0 Ro h o) (Q : VP ρ x0 b Ro M P R A B Ri h) : VP ρ x0 b Ro M P R A B Ri o := by
  obtain ⟨⟨⟨a1, a2, a3⟩, ⟨b1, b2, b3⟩, c1, c2⟩, ⟨e1, e2, e3, e4⟩, ⟨r1, r2, r3, r4, r5, r6⟩, ri, ⟨f1, f2, f3, f4⟩, mr⟩ := Q
  have kI : ∀ {a q : Nat} (i : Nat), ρ a = q → q ≠ 86 → q ≠ 16 → hI o a i = hI h a i := fun {a q} i ra n1 n2 => k.2.2 a i (fun z => n1 (by rw [← ra, z]; exact r1)) (fun z => n2 (by rw [← ra, z.1]; exact b1))
  have nx : ¬ x0 = Ro := fun z => by rw [z, r1] at b1; exact absurd b1 (by decide)
  have kx : ∀ i, ¬ (i = 23 ∨ i = 24) → hI o x0 i = hI h x0 i := fun i n => k.2.2 x0 i nx (fun z => n z.2)
  refine ⟨⟨⟨by rw [k.1]; exact a1, by rw [k.1]; exact a2, by rw [k.1]; exact a3⟩, ⟨b1, b2, b3⟩, fun i => by rw [kI i b2 (by decide) (by decide)]; exact c1 i, fun i => by rw [kI i b3 (by decide) (by decide)]; exact c2 i⟩, ⟨by rw [k.1]; exact e1, by rw [k.1]; exact e2, by rw [k.1]; exact e3, by rw [k.1]; exact e4⟩, ⟨r1, r2, r3, r4, r5, r6⟩, fun i => by rw [kI i r6 (by decide) (by decide)]; exact ri i, ⟨by rw [kx 11 (by decide)]; exact f1, by rw [kx 12 (by decide)]; exact f2, by rw [kx 13 (by decide)]; exact f3, ?_⟩, fun i => by rw [kI i r3 (by decide) (by decide)]; exact mr i⟩
  unfold SqOk
  rw [kx 11 (by decide), kx 12 (by decide), kx 13 (by decide)]
  exact f4
theorem v_rk {q s : Int32} {o : Int32 × Hp} (Q : VP ρ x0 b Ro M P R A B Ri h) (hq : 0 ≤ q.toInt) (hl : q.toInt < (hI h x0 13).toInt) (e : sX15_rankFor h x0 q s = some o) (e1 : o.1 = (1 : Int32)) : q.toNatClampNeg / (hI h x0 11).toNatClampNeg = 0 ∨ q.toNatClampNeg / (hI h x0 11).toNatClampNeg + 1 = (hI h x0 12).toNatClampNeg := by
  obtain ⟨_, _, _, _, ⟨⟨f1, f1'⟩, ⟨f2, f2'⟩, ⟨f3, f3'⟩, f4⟩, _⟩ := Q
  have z1 : (1 : Int32).toInt = 1 := rfl
  have cq := nc_i hq
  have cf := nc_i (x := hI h x0 11) (by omega)
  have cr := nc_i (x := hI h x0 12) (by omega)
  have dv : (q / hI h x0 11).toInt = q.toInt / (hI h x0 11).toInt := td (a := 0) (b := 63) (c := 3) (d := 8) ⟨hq, by omega⟩ ⟨f1, f1'⟩ (by decide)
  have dn : ((q.toNatClampNeg / (hI h x0 11).toNatClampNeg : Nat) : Int) = q.toInt / (hI h x0 11).toInt := by
    rw [Int.natCast_ediv, cq, cf]
  have d0 : 0 ≤ q.toInt / (hI h x0 11).toInt := Int.ediv_nonneg hq (by omega)
  have d64 : q.toInt / (hI h x0 11).toInt ≤ 63 := Int.le_trans (Int.ediv_le_self _ hq) (by omega)
  rcases (rank_post e).2 with w | w
  · rw [w] at e1
    have := congrArg Int32.toInt e1
    rw [ta (by rw [dv, z1]; omega), dv, z1] at this
    exact Or.inl (by omega)
  · rw [w] at e1
    have := congrArg Int32.toInt e1
    rw [ts (by rw [dv]; omega), dv, z1] at this
    exact Or.inr (by omega)
theorem v_right {q : Int32} {o : Int32 × Hp} (Q : VP ρ x0 b Ro M P R A B Ri h) (hq : 0 ≤ q.toInt) (hl : q.toInt < (hI h x0 13).toInt) (e : sX15_isRight F h x0 b q = some o) : o.2 = h ∧ (o.1 = 0 ∨ q.toNatClampNeg / (hI h x0 11).toNatClampNeg = 0 ∨ q.toNatClampNeg / (hI h x0 11).toNatClampNeg + 1 = (hI h x0 12).toNatClampNeg) := by
  unfold sX15_isRight sX15_isRight_49 sX15_isRight_86 sX15_isRight_87 at e
  simp only [nm] at e
  replace e := cl_s e; obtain ⟨_, _, e⟩ := e
  replace e := (gd_s e).2
  replace e := br_s e; rcases e with ⟨_, e⟩ | ⟨_, e⟩
  · rw [← Option.some.inj e]; exact ⟨rfl, Or.inl rfl⟩
  replace e := cl_s e; obtain ⟨_, _, e⟩ := e
  replace e := br_s e; rcases e with ⟨_, e⟩ | ⟨_, e⟩
  · rw [← Option.some.inj e]; exact ⟨rfl, Or.inl rfl⟩
  replace e := cl_s e; obtain ⟨o7, e7, e⟩ := e
  unfold sX15_manOf at e7
  have := Option.some.inj e7; subst this
  dsimp only at e
  replace e := cl_s e; obtain ⟨_, _, e⟩ := e
  replace e := br_s e; rcases e with ⟨_, e⟩ | ⟨_, e⟩
  · replace e := cl_s e; obtain ⟨o10, e10, e⟩ := e
    unfold sX15_sideOf at e10
    have := Option.some.inj e10; subst this
    dsimp only at e
    replace e := cl_s e; obtain ⟨o11, e11, e⟩ := e
    rw [(rank_post e11).1] at e
    replace e := br_s e; rcases e with ⟨r1, e⟩ | ⟨_, e⟩
    · have fin := v_rk Q hq hl e11 r1
      replace e := cl_s e; obtain ⟨o13, e13, e⟩ := e
      unfold sX15_sideOf at e13
      have := Option.some.inj e13; subst this
      dsimp only at e
      replace e := cl_s e; obtain ⟨o14, e14, e⟩ := e
      rw [roy_h e14] at e
      replace e := br_s e; rcases e with ⟨_, e⟩ | ⟨_, e⟩
      · rw [← Option.some.inj (gd_s e).2]; exact ⟨rfl, Or.inr fin⟩
      replace e := cl_s e; obtain ⟨o16, e16, e⟩ := e
      unfold sX15_sideOf at e16
      have := Option.some.inj e16; subst this
      dsimp only at e
      replace e := cl_s e; obtain ⟨o17, e17, e⟩ := e
      rw [(rank_post e17).1] at e
      replace e := br_s e; rcases e with ⟨_, e⟩ | ⟨_, e⟩
      · rw [← Option.some.inj (gd_s e).2]; exact ⟨rfl, Or.inr fin⟩
      · rw [← Option.some.inj (gd_s e).2]; exact ⟨rfl, Or.inr fin⟩
    · rw [← Option.some.inj e]; exact ⟨rfl, Or.inl rfl⟩
  · rw [← Option.some.inj e]; exact ⟨rfl, Or.inl rfl⟩
theorem v_by {x2 x3 x4 : Int32} {o : Int32 × Hp} (Q : VP ρ x0 b Ro M P R A B Ri h) (e : sX15_isPassBy F h x0 b x2 x3 x4 = some o) : o.2 = h ∧ (o.1 = 0 ∨ (hI h b 3).toInt ≤ 7) := by
  have lp : ∀ (f : Nat) {g : Hp} {x5 x6 x7 : Int32}, sX15_isPassBy_86 F f g x0 b x5 x6 x7 = some o → o.2 = g := by
    intro f
    induction f with
    | zero => intro g x5 x6 x7 e; exact absurd e (by simp [sX15_isPassBy_86])
    | succ f ih =>
      intro g x5 x6 x7 e
      unfold sX15_isPassBy_86 at e
      simp only [nm] at e
      replace e := br_s e; rcases e with ⟨_, e⟩ | ⟨_, e⟩
      · rw [← Option.some.inj e]
      replace e := cl_s e; obtain ⟨o2, e2, e⟩ := e
      rw [onw_h e2] at e
      replace e := cl_s e; obtain ⟨_, _, e⟩ := e
      replace e := (gd_s e).2
      replace e := br_s e; rcases e with ⟨_, e⟩ | ⟨_, e⟩
      · exact ih e
      · rw [← Option.some.inj e]
  unfold sX15_isPassBy sX15_isPassBy_81 sX15_isPassBy_83 at e
  simp only [nm] at e
  replace e := cl_s e; obtain ⟨R', er, e⟩ := e
  have y : R' = R := r_eq Q.1.1.1 er
  subst y
  replace e := cl_s e; obtain ⟨Ri', eri, e⟩ := e
  have y : Ri' = Ri := r_eq Q.2.1.2.2.2 eri
  subst y
  replace e := (gd_s e).2
  replace e := br_s e; rcases e with ⟨le, e⟩ | ⟨_, e⟩
  · have le := le_i le
    have l7 : (hI h b 3).toInt ≤ 7 := by have := (Q.2.2.2.1 x3.toNatClampNeg).2; omega
    replace e := cl_s e; obtain ⟨o6, e6, e⟩ := e
    rw [onw_h e6] at e
    replace e := br_s e; rcases e with ⟨_, e⟩ | ⟨_, e⟩
    · rw [← Option.some.inj e]; exact ⟨rfl, Or.inl rfl⟩
    replace e := cl_s e; obtain ⟨_, _, e⟩ := e
    replace e := (gd_s e).2
    replace e := br_s e; rcases e with ⟨_, e⟩ | ⟨_, e⟩
    · rw [← Option.some.inj e]; exact ⟨rfl, Or.inl rfl⟩
    replace e := cl_s e; obtain ⟨_, _, e⟩ := e
    replace e := cl_s e; obtain ⟨_, _, e⟩ := e
    replace e := (gd_s e).2
    replace e := br_s e; rcases e with ⟨_, e⟩ | ⟨_, e⟩
    · exact ⟨lp F e, Or.inr l7⟩
    replace e := cl_s e; obtain ⟨o15, e15, e⟩ := e
    rw [(rank_post e15).1] at e
    replace e := cl_s e; obtain ⟨_, _, e⟩ := e
    replace e := cl_s e; obtain ⟨_, _, e⟩ := e
    replace e := (gd_s e).2
    replace e := br_s e; rcases e with ⟨_, e⟩ | ⟨_, e⟩
    · exact ⟨lp F e, Or.inr l7⟩
    · rw [← Option.some.inj e]; exact ⟨rfl, Or.inl rfl⟩
  · rw [← Option.some.inj e]; exact ⟨rfl, Or.inl rfl⟩
theorem v_107 {K : Hp → Nat → Nat → Int32 → Int32 → Int32 → Int32 → Option (Int32 × Hp)} {x2 x3 x4 x5 x6 : Int32} {o : Int32 × Hp} (hK : ∀ {g : Hp} {y : Int32}, VP ρ x0 b Ro M P R A B Ri g → K g x0 b x2 x3 x4 y = some o → VF x0 Ro g o.2 ∧ (o.1 = 0 ∨ (hI g b 3).toInt ≤ 7)) : ∀ (f : Nat) {h : Hp} {x7 : Int32}, VP ρ x0 b Ro M P R A B Ri h → sX15_isPass_107 F K f h x0 b x2 x3 x4 x5 x6 x7 = some o → VF x0 Ro h o.2 ∧ (o.1 = 0 ∨ (hI h b 3).toInt ≤ 7) := by
  intro f
  induction f with
  | zero => intro h x7 _ e; exact absurd e (by simp [sX15_isPass_107])
  | succ f ih =>
    intro h x7 Q e
    unfold sX15_isPass_107 sX15_isPass_164 sX15_isPass_158 at e
    simp only [nm] at e
    replace e := br_s e; rcases e with ⟨_, e⟩ | ⟨_, e⟩
    · exact hK Q e
    replace e := cl_s e; obtain ⟨_, _, e⟩ := e
    replace e := cl_s e; obtain ⟨_, _, e⟩ := e
    replace e := (gd_s e).2
    replace e := br_s e; rcases e with ⟨_, e⟩ | ⟨_, e⟩
    · exact hK Q e
    replace e := cl_s e; obtain ⟨o6, e6, e⟩ := e
    have k6 : VF x0 Ro h o6.2 := vf_3 (hv_z (l := 0) Q.1 e6)
    have Q6 := vp_k k6 Q
    have b3 : hI o6.2 b 3 = hI h b 3 := k6.2.2 b 3 (fun z => by have := Q.2.2.1; rw [z, this.1] at this; exact absurd this.2.1 (by decide)) (fun z => by have := Q.2.2.1.2.1; rw [z.1, Q.1.2.1.1] at this; exact absurd this (by decide))
    have up : VF x0 Ro o6.2 o.2 ∧ (o.1 = 0 ∨ (hI o6.2 b 3).toInt ≤ 7) → VF x0 Ro h o.2 ∧ (o.1 = 0 ∨ (hI h b 3).toInt ≤ 7) := fun w => ⟨vf_t k6 w.1, by rw [← b3]; exact w.2⟩
    replace e := br_s e; rcases e with ⟨_, e⟩ | ⟨_, e⟩
    · exact up (ih Q6 e)
    replace e := cl_s e; obtain ⟨o8, e8, e⟩ := e
    obtain ⟨h8, w8⟩ := v_by Q6 e8
    rw [h8] at e
    replace e := br_s e; rcases e with ⟨_, e⟩ | ⟨n8, e⟩
    · exact up (ih Q6 e)
    · rw [← Option.some.inj e] at up ⊢
      exact up ⟨vf_0, Or.inr (w8.resolve_left n8)⟩
theorem v_pass {o : Int32 × Hp} (Q : VP ρ x0 b Ro M P R A B Ri h) (e : sX15_isPass F h x0 b = some o) : VF x0 Ro h o.2 ∧ (o.1 = 0 ∨ ((hI h b 3).toInt ≤ 7 ∧ 0 < (hI h M (hI h P 0).toNatClampNeg).toInt ∧ ¬ (hI h M (hI h P 0).toNatClampNeg - (1 : Int32)) &&& (1 : Int32) = hI h b 1)) := by
  have b75 : ∀ (f : Nat) {g : Hp} {x2 x3 x4 x5 : Int32}, VP ρ x0 b Ro M P R A B Ri g → sX15_isPass_75 F f g x0 b x2 x3 x4 x5 = some o → VF x0 Ro g o.2 ∧ (o.1 = 0 ∨ (hI g b 3).toInt ≤ 7) := by
    intro f
    induction f with
    | zero => intro g x2 x3 x4 x5 _ e; exact absurd e (by simp [sX15_isPass_75])
    | succ f ih =>
      intro g x2 x3 x4 x5 Q e
      unfold sX15_isPass_75 sX15_manOf at e
      simp only [nm] at e
      replace e := cl_s e; obtain ⟨_, _, e⟩ := e
      replace e := cl_s e; obtain ⟨_, _, e⟩ := e
      replace e := cl_s e; obtain ⟨o3, e3, e⟩ := e
      have := Option.some.inj e3; subst this
      dsimp only at e
      replace e := (gd_s e).2
      replace e := br_s e; rcases e with ⟨_, e⟩ | ⟨_, e⟩
      · rw [← Option.some.inj e]; exact ⟨vf_0, Or.inl rfl⟩
      replace e := cl_s e; obtain ⟨o6, e6, e⟩ := e
      have := Option.some.inj e6; subst this
      dsimp only at e
      exact v_107 (fun Q e => ih Q e) F Q e
  have b34 : ∀ (f : Nat) {x2 x3 x4 : Int32}, sX15_isPass_34 F f h x0 b x2 x3 x4 = some o → VF x0 Ro h o.2 ∧ (o.1 = 0 ∨ (hI h b 3).toInt ≤ 7) := by
    intro f
    induction f with
    | zero => intro x2 x3 x4 e; exact absurd e (by simp [sX15_isPass_34])
    | succ f ih =>
      intro x2 x3 x4 e
      unfold sX15_isPass_34 sX15_sideOf at e
      simp only [nm] at e
      replace e := br_s e; rcases e with ⟨_, e⟩ | ⟨_, e⟩
      · replace e := cl_s e; obtain ⟨o2, e2, e⟩ := e
        have := Option.some.inj e2; subst this
        dsimp only at e
        exact b75 F Q e
      replace e := cl_s e; obtain ⟨_, _, e⟩ := e
      replace e := cl_s e; obtain ⟨_, _, e⟩ := e
      replace e := (gd_s e).2
      replace e := (gd_s e).2
      replace e := br_s e; rcases e with ⟨_, e⟩ | ⟨_, e⟩
      · exact ih e
      · rw [← Option.some.inj e]; exact ⟨vf_0, Or.inl rfl⟩
  unfold sX15_isPass sX15_isPass_29 sX15_sideOf at e
  simp only [nm] at e
  replace e := cl_s e; obtain ⟨P', ep, e⟩ := e
  have y : P' = P := r_eq Q.2.1.2.2.1 ep
  subst y
  replace e := (gd_s e).2
  replace e := cl_s e; obtain ⟨M', em, e⟩ := e
  have y : M' = M := r_eq Q.2.1.2.1 em
  subst y
  replace e := (gd_s e).2
  have z0 : (0 : Int32).toNatClampNeg = 0 := rfl
  rw [z0] at e
  replace e := br_s e; rcases e with ⟨_, e⟩ | ⟨n0, e⟩
  · rw [← Option.some.inj e]; exact ⟨vf_0, Or.inl rfl⟩
  replace e := cl_s e; obtain ⟨o8, e8, e⟩ := e
  have := Option.some.inj e8; subst this
  dsimp only at e
  replace e := br_s e; rcases e with ⟨_, e⟩ | ⟨ns, e⟩
  · rw [← Option.some.inj e]; exact ⟨vf_0, Or.inl rfl⟩
  obtain ⟨k, w⟩ := b34 F e
  refine ⟨k, w.imp id (fun l7 => ⟨l7, ?_, ns⟩)⟩
  have m0 := (Q.2.2.2.2.2 (hI h P' 0).toNatClampNeg).1
  have : ¬ (hI h M' (hI h P' 0).toNatClampNeg).toInt = 0 := fun z => n0 (Int32.toInt_inj.mp z)
  omega
end
end
section
/-! wrongOf by its equation: rights, passes -/
section
variable {ρ : Nat → Nat} {c : Cm} {h o g h0 : Hp} {x0 b Ro M P R A B Ri F : Nat}
/-- what a position that is not wrong has -/
def VR (x0 b M P : Nat) (h : Hp) : Prop := cRt (hJ h b 2) (hI h x0 13).toNatClampNeg ≤ 16 ∧ (hI h b 3).toInt ≤ 8 ∧ (0 < (hI h b 3).toInt → 0 < (hI h M (hI h P 0).toNatClampNeg).toInt ∧ ¬ (hI h M (hI h P 0).toNatClampNeg - (1 : Int32)) &&& (1 : Int32) = hI h b 1)
theorem npos {x : Int32} {g : Hp} {o : Int32 × Hp} (e : some (x, g) = some o) (le : o.1 ≤ 0) (p : 0 < x.toInt) : False := by
  rw [← Option.some.inj e] at le
  have := le_i le
  have z0 : (0 : Int32).toInt = 0 := rfl
  have : x.toInt ≤ (0 : Int32).toInt := this
  omega
theorem w_242 {o : Int32 × Hp} (le : o.1 ≤ 0) : ∀ (f : Nat) {h : Hp} {x4 : Int32}, VP ρ x0 b Ro M P R A B Ri h → 0 ≤ x4.toInt → (∀ i : Nat, (i : Int) < x4.toInt → bitJ (hJ h b 2) i = true → i / (hI h x0 11).toNatClampNeg = 0 ∨ i / (hI h x0 11).toNatClampNeg + 1 = (hI h x0 12).toNatClampNeg) → sX15_wrongOf_242 F f h x0 b x4 = some o → VR x0 b M P h := by
  have z0 : (0 : Int32).toInt = 0 := rfl
  have z1 : (1 : Int32).toInt = 1 := rfl
  intro f
  induction f with
  | zero => intro h x4 _ _ _ e; exact absurd e (by simp [sX15_wrongOf_242])
  | succ f ih =>
    intro h x4 Q a4 C e
    unfold sX15_wrongOf_242 sX15_wrongOf_277 at e
    simp only [nm] at e
    obtain ⟨⟨f1, f1'⟩, ⟨f2, f2'⟩, ⟨f3, f3'⟩, f4⟩ := Q.2.2.2.2.1
    replace e := br_s e; rcases e with ⟨l4, e⟩ | ⟨l4, e⟩
    · have l4 := le_i l4
      have cs := nc_i (x := hI h x0 13) (by omega)
      have cf := nc_i (x := hI h x0 11) (by omega)
      have cr := nc_i (x := hI h x0 12) (by omega)
      have es : (hI h x0 13).toNatClampNeg = (hI h x0 11).toNatClampNeg * (hI h x0 12).toNatClampNeg := by
        have : (((hI h x0 11).toNatClampNeg * (hI h x0 12).toNatClampNeg : Nat) : Int) = (hI h x0 11).toInt * (hI h x0 12).toInt := by rw [Int.natCast_mul, cf, cr]
        have f4' : (hI h x0 13).toInt = (hI h x0 11).toInt * (hI h x0 12).toInt := f4
        omega
      have r16 : cRt (hJ h b 2) (hI h x0 13).toNatClampNeg ≤ 16 := by
        refine Nat.le_trans (crt_ce (F := (hI h x0 11).toNatClampNeg) (R := (hI h x0 12).toNatClampNeg) _ (fun i hi bi => C i (by omega) bi)) ?_
        rw [es]
        exact ce_16 _ (by omega) _ (by omega)
      replace e := br_s e; rcases e with ⟨p0, e⟩ | ⟨p0, e⟩
      · have p0 := le_i p0
        exact ⟨r16, by omega, fun n => by omega⟩
      · replace e := cl_s e; obtain ⟨o3, e3, e⟩ := e
        obtain ⟨k3, w3⟩ := v_pass Q e3
        replace e := br_s e; rcases e with ⟨_, e⟩ | ⟨n3, e⟩
        · exact (npos e le (by decide)).elim
        · obtain ⟨u1, u2, u3⟩ := w3.resolve_left n3
          exact ⟨r16, by omega, fun _ => ⟨u2, u3⟩⟩
    have l4 := nle_i l4
    have t4 : (x4 + (1 : Int32)).toInt = x4.toInt + 1 := ta (by rw [z1]; omega)
    have c4 := nc_i a4
    replace e := br_s e; rcases e with ⟨_, e⟩ | ⟨nb, e⟩
    · replace e := cl_s e; obtain ⟨o6, e6, e⟩ := e
      obtain ⟨h6, w6⟩ := v_right Q a4 l4 e6
      rw [h6] at e
      replace e := br_s e; rcases e with ⟨_, e⟩ | ⟨n6, e⟩
      · exact (npos e le (by decide)).elim
      · refine ih Q (by omega) (fun i hi bi => ?_) e
        by_cases z : i = x4.toNatClampNeg
        · rw [z]; exact w6.resolve_left n6
        · exact C i (by omega) bi
    · refine ih Q (by omega) (fun i hi bi => ?_) e
      by_cases z : i = x4.toNatClampNeg
      · exact absurd (bit_tst (x := x4) ⟨a4, by omega⟩ (by rw [← z]; exact bi)) nb
      · exact C i (by omega) bi
theorem vr_k (k : VF x0 Ro h g) (Q : VP ρ x0 b Ro M P R A B Ri h) (V : VR x0 b M P g) : VR x0 b M P h := by
  obtain ⟨⟨_, ⟨b1, _, _⟩, _, _⟩, _, ⟨r1, r2, r3, r4, r5, r6⟩, _⟩ := Q
  have kI : ∀ {a q : Nat} (i : Nat), ρ a = q → q ≠ 86 → q ≠ 16 → hI g a i = hI h a i := fun {a q} i ra n1 n2 => k.2.2 a i (fun z => n1 (by rw [← ra, z]; exact r1)) (fun z => n2 (by rw [← ra, z.1]; exact b1))
  have nx : ¬ x0 = Ro := fun z => by rw [z, r1] at b1; exact absurd b1 (by decide)
  have kx : hI g x0 13 = hI h x0 13 := k.2.2 x0 13 nx (fun z => by rcases z.2 with w | w <;> exact absurd w (by decide))
  unfold VR at V ⊢
  rw [k.2.1, kx, kI 3 r2 (by decide) (by decide), kI 0 r4 (by decide) (by decide), kI _ r3 (by decide) (by decide), kI 1 r2 (by decide) (by decide)] at V
  exact V
theorem w_165 {x2 t0 : Int32} {o : Int32 × Hp} (le : o.1 ≤ 0) (Q : VP ρ x0 b Ro M P R A B Ri h) (e : sX15_wrongOf_165 F h x0 b x2 t0 = some o) : VR x0 b M P h := by
  unfold sX15_wrongOf_165 sX15_wrongOf_231 sX15_wrongOf_233 at e
  have go : ∀ {x2 : Int32}, br (x2 = 0) (sX15_wrongOf_242 F F h x0 b (0 : Int32)) (some ((3 : Int32), h)) = some o → VR x0 b M P h := fun {x2} e => by
    replace e := br_s e; rcases e with ⟨_, e⟩ | ⟨_, e⟩
    · exact w_242 le F Q (by decide) (fun i hi => absurd hi (by show ¬ (i : Int) < 0; omega)) e
    · exact (npos e le (by decide)).elim
  replace e := cl_s e; obtain ⟨_, _, e⟩ := e
  replace e := (gd_s e).2
  replace e := br_s e; rcases e with ⟨_, e⟩ | ⟨_, e⟩
  · exact (npos e le (by decide)).elim
  replace e := cl_s e; obtain ⟨_, _, e⟩ := e
  replace e := (gd_s e).2
  replace e := br_s e; rcases e with ⟨_, e⟩ | ⟨_, e⟩
  · exact (npos e le (by decide)).elim
  replace e := br_s e; rcases e with ⟨_, e⟩ | ⟨_, e⟩
  · replace e := cl_s e; obtain ⟨_, _, e⟩ := e
    replace e := br_s e; rcases e with ⟨_, e⟩ | ⟨_, e⟩
    · exact go e
    replace e := cl_s e; obtain ⟨_, _, e⟩ := e
    replace e := br_s e; rcases e with ⟨_, e⟩ | ⟨_, e⟩
    · exact go e
    replace e := cl_s e; obtain ⟨_, _, e⟩ := e
    replace e := (gd_s e).2
    replace e := br_s e; rcases e with ⟨_, e⟩ | ⟨_, e⟩
    · replace e := cl_s e; obtain ⟨_, _, e⟩ := e
      replace e := (gd_s e).2
      replace e := br_s e; rcases e with ⟨_, e⟩ | ⟨_, e⟩
      · exact go e
      · exact (npos e le (by decide)).elim
    · exact (npos e le (by decide)).elim
  · exact (npos e le (by decide)).elim
theorem w_18 {o : Int32 × Hp} (le : o.1 ≤ 0) : ∀ (f : Nat) {h : Hp} {x2 x3 : Int32}, VP ρ x0 b Ro M P R A B Ri h → sX15_wrongOf_18 F f h x0 b x2 x3 = some o → VR x0 b M P h := by
  intro f
  induction f with
  | zero => intro h x2 x3 _ e; exact absurd e (by simp [sX15_wrongOf_18])
  | succ f ih =>
    intro h x2 x3 Q e
    unfold sX15_wrongOf_18 sX15_wrongOf_109 sX15_wrongOf_164 at e
    simp only [nm] at e
    have b70 : ∀ {x2 x4 t0 t1 t2 : Int32}, sX15_wrongOf_70 F (sX15_wrongOf_18 F f) h x0 b x2 x3 x4 t0 t1 t2 Ro = some o → VR x0 b M P h := fun {x2 x4 t0 t1 t2} e => by
      unfold sX15_wrongOf_70 sX15_wrongOf_106 sX15_wrongOf_107 sX15_wrongOf_109 sX15_manOf sX15_sideOf at e
      replace e := (gd_s e).2
      replace e := nm_s e; obtain ⟨h2, w2, e⟩ := e
      have k2 : VF x0 Ro h h2 := by rw [w2]; exact vf_w
      have Q2 := vp_k k2 Q
      simp only [nm] at e
      replace e := cl_s e; obtain ⟨o3, e3, e⟩ := e
      have := Option.some.inj e3; subst this
      dsimp only at e
      replace e := cl_s e; obtain ⟨o4, e4, e⟩ := e
      rw [oth_post e4] at e
      replace e := br_s e; rcases e with ⟨_, e⟩ | ⟨_, e⟩
      · exact vr_k k2 Q (ih Q2 e)
      replace e := cl_s e; obtain ⟨o6, e6, e⟩ := e
      have := Option.some.inj e6; subst this
      dsimp only at e
      replace e := cl_s e; obtain ⟨o7, e7, e⟩ := e
      rw [(rank_post e7).1] at e
      replace e := br_s e; rcases e with ⟨_, e⟩ | ⟨_, e⟩
      · exact vr_k k2 Q (ih Q2 e)
      · exact vr_k k2 Q (ih Q2 e)
    replace e := br_s e; rcases e with ⟨_, e⟩ | ⟨_, e⟩
    · replace e := cl_s e; obtain ⟨_, _, e⟩ := e
      replace e := br_s e; rcases e with ⟨_, e⟩ | ⟨_, e⟩
      · exact w_165 le Q e
      replace e := cl_s e; obtain ⟨_, _, e⟩ := e
      replace e := cl_s e; obtain ⟨_, _, e⟩ := e
      replace e := (gd_s e).2
      replace e := cl_s e; obtain ⟨_, _, e⟩ := e
      replace e := cl_s e; obtain ⟨_, _, e⟩ := e
      replace e := (gd_s e).2
      replace e := br_s e; rcases e with ⟨_, e⟩ | ⟨_, e⟩
      · exact w_165 le Q e
      · exact w_165 le Q e
    replace e := cl_s e; obtain ⟨_, _, e⟩ := e
    replace e := (gd_s e).2
    replace e := br_s e; rcases e with ⟨_, e⟩ | ⟨_, e⟩
    · exact ih Q e
    replace e := cl_s e; obtain ⟨r15, e15, e⟩ := e
    have y : r15 = Ro := r_eq Q.2.1.1 e15
    subst y
    replace e := cl_s e; obtain ⟨o16, e16, e⟩ := e
    unfold sX15_sideOf at e16
    have := Option.some.inj e16; subst this
    dsimp only at e
    replace e := (gd_s e).2
    replace e := cl_s e; obtain ⟨o18, e18, e⟩ := e
    unfold sX15_manOf at e18
    have := Option.some.inj e18; subst this
    dsimp only at e
    replace e := cl_s e; obtain ⟨_, _, e⟩ := e
    replace e := br_s e; rcases e with ⟨_, e⟩ | ⟨_, e⟩
    · exact b70 e
    · exact b70 e
/-- a position that is not wrong: few rights, few squares gone over -/
theorem wrong_w {o : Int32 × Hp} (T : TH ρ c h) (r0 : ρ x0 = 16) (rb : ρ b = 13) (sq : SqOk x0 h) (eM : hR h b 0 = some M) (eP : hR h b 4 = some P) (e : sX15_wrongOf F h x0 b = some o) (le : o.1 ≤ 0) : VR x0 b M P h := by
  obtain ⟨Ro, eRo, rRo⟩ := thR T r0 (i := 22) (k2 := 86) rfl (by decide)
  obtain ⟨R, eR, rR⟩ := thR T r0 (i := 4) (k2 := 15) rfl (by decide)
  obtain ⟨A, eA, rA⟩ := thR T rR (i := 6) (k2 := 76) rfl (by decide)
  obtain ⟨B, eB, rB⟩ := thR T rR (i := 7) (k2 := 77) rfl (by decide)
  obtain ⟨Ri, eRi, rRi⟩ := thR T rR (i := 8) (k2 := 78) rfl (by decide)
  have rM := rr T (thR T rb (i := 0) (k2 := 62) rfl (by decide)) eM
  have rP := rr T (thR T rb (i := 4) (k2 := 63) rfl (by decide)) eP
  have Q : VP ρ x0 b Ro M P R A B Ri h := ⟨⟨⟨eR, eA, eB⟩, ⟨r0, rA, rB⟩, fun i => thI T rA rfl, fun i => thI T rB rfl⟩, ⟨eRo, eM, eP, eRi⟩, ⟨rRo, rb, rM, rP, rR, rRi⟩, fun i => thI T rRi rfl, ⟨thI T r0 rfl, thI T r0 rfl, thI T r0 rfl, sq⟩, fun i => thI T rM rfl⟩
  unfold sX15_wrongOf at e
  simp only [nm] at e
  replace e := cl_s e; obtain ⟨r1, e1, e⟩ := e
  have y : r1 = Ro := r_eq eRo e1
  subst y
  replace e := (gd_s e).2
  replace e := cl_s e; obtain ⟨r4, e4, e⟩ := e
  have y : r4 = r1 := r_eq eRo e4
  subst y
  replace e := (gd_s e).2
  have k : VF x0 r4 h (wI (wI h r4 (0 : Int32).toNatClampNeg (0 : Int32)) r4 (1 : Int32).toNatClampNeg (0 : Int32)) := vf_t vf_w vf_w
  exact vr_k k Q (w_18 le F (vp_k k Q) e)
/-- hands as they are read -/
theorem rh_18 {H : Nat} : ∀ (f : Nat) {h : Hp} {x2 : Int32} {o : Int32 × Hp}, hR h b 5 = some H → hN h H = 24 → ¬ H = x0 → 0 ≤ x2.toInt → x2.toInt ≤ 32 → (∀ i, 0 ≤ (hI h H i).toInt) → (∀ i, (hI h H i).toInt ≤ 16) → sH h H 0 12 + sH h H 1 12 = x2.toInt → sX15_readHands_18 F f h x0 b x2 = some o → sH o.2 H 0 12 + sH o.2 H 1 12 ≤ 32 := by
  have z0 : (0 : Int32).toInt = 0 := rfl
  have z1 : (1 : Int32).toInt = 1 := rfl
  have look_h : ∀ {h : Hp} {o : Int32 × Hp}, sX15_look h x0 = some o → o.2 = h := fun {h o} e => by
    unfold sX15_look sX15_look_24 at e
    replace e := br_s e; rcases e with ⟨_, e⟩ | ⟨_, e⟩
    · rw [← Option.some.inj e]
    replace e := cl_s e; obtain ⟨_, _, e⟩ := e
    replace e := (gd_s e).2
    rw [← Option.some.inj e]
  have man_h : ∀ (f : Nat) {h : Hp} {x y : Int32} {o : Int32 × Hp}, sX15_manLetter_2 F f h x0 x y = some o → o.2 = h := by
    intro f
    induction f with
    | zero => intro h x y o e; exact absurd e (by simp [sX15_manLetter_2])
    | succ f ih =>
      intro h x y o e
      unfold sX15_manLetter_2 sX15_valueOf at e
      simp only [nm] at e
      replace e := cl_s e; obtain ⟨_, _, e⟩ := e
      replace e := br_s e; rcases e with ⟨_, e⟩ | ⟨_, e⟩
      · rw [← Option.some.inj e]
      replace e := cl_s e; obtain ⟨_, _, e⟩ := e
      replace e := cl_s e; obtain ⟨_, _, e⟩ := e
      replace e := (gd_s e).2
      replace e := br_s e; rcases e with ⟨_, e⟩ | ⟨_, e⟩
      · replace e := cl_s e; obtain ⟨o3, e3, e⟩ := e
        have := Option.some.inj e3; subst this
        rw [← Option.some.inj e]
      replace e := cl_s e; obtain ⟨_, _, e⟩ := e
      replace e := cl_s e; obtain ⟨_, _, e⟩ := e
      replace e := (gd_s e).2
      replace e := br_s e; rcases e with ⟨_, e⟩ | ⟨_, e⟩
      · replace e := cl_s e; obtain ⟨o3, e3, e⟩ := e
        have := Option.some.inj e3; subst this
        rw [← Option.some.inj e]
      · exact ih e
  intro f
  induction f with
  | zero => intro h x2 o _ _ _ _ _ _ _ _ e; exact absurd e (by simp [sX15_readHands_18])
  | succ f ih =>
    intro h x2 o eH nH nx a2 l2 pos l16 su e
    have b31 : sX15_readHands_31 F (sX15_readHands_18 F f) h x0 b x2 = some o → sH o.2 H 0 12 + sH o.2 H 1 12 ≤ 32 := fun e => by
      unfold sX15_readHands_31 sX15_readHands_63 sX15_manLetter at e
      simp only [nm] at e
      replace e := cl_s e; obtain ⟨o1, e1, e⟩ := e
      rw [look_h e1] at e
      replace e := cl_s e; obtain ⟨o2, e2, e⟩ := e
      rw [man_h F e2] at e
      replace e := br_s e; rcases e with ⟨_, e⟩ | ⟨_, e⟩
      · rw [← Option.some.inj e]; show sH h H 0 12 + sH h H 1 12 ≤ 32; omega
      replace e := br_s e; rcases e with ⟨_, e⟩ | ⟨n32, e⟩
      · rw [← Option.some.inj e]; show sH h H 0 12 + sH h H 1 12 ≤ 32; omega
      replace e := cl_s e; obtain ⟨H', eh, e⟩ := e
      have y : H' = H := r_eq eH eh
      subst y
      have gi := (gd_s e).1
      rw [nH] at gi
      have gb := inb_r gi
      have cq := nc_i gb.1
      replace e := (gd_s e).2
      replace e := br_s e; rcases e with ⟨_, e⟩ | ⟨n16, e⟩
      · rw [← Option.some.inj e]; show sH h H' 0 12 + sH h H' 1 12 ≤ 32; omega
      replace e := cl_s e; obtain ⟨H'', eh', e⟩ := e
      have y : H'' = H' := r_eq eH eh'
      subst y
      replace e := (gd_s e).2
      replace e := (gd_s e).2
      obtain ⟨j, hj⟩ : ∃ j, j = (o2.1 - (1 : Int32)).toNatClampNeg := ⟨_, rfl⟩
      rw [← hj] at e n16 cq
      have vj := l16 j
      have pj := pos j
      have o16 : (16 : Int32).toInt = 16 := rfl
      have v15 : ¬ (hI h H'' j).toInt = 16 := fun z => n16 (Int32.toInt_inj.mp (by rw [z, o16]))
      have tv : (hI h H'' j + (1 : Int32)).toInt = (hI h H'' j).toInt + 1 := by rw [ta (by rw [z1]; omega), z1]
      have x32 : ¬ x2.toInt = 32 := fun z => n32 (Int32.toInt_inj.mp z)
      have t2 : (x2 + (1 : Int32)).toInt = x2.toInt + 1 := by rw [ta (by rw [z1]; omega), z1]
      have kH : ∀ i, hI (wI (wI h H'' j (hI h H'' j + (1 : Int32))) x0 19 (hI (wI h H'' j (hI h H'' j + (1 : Int32))) x0 19 + (1 : Int32))) H'' i = if i = j then hI h H'' j + (1 : Int32) else hI h H'' i := fun i => by
        rw [rI_a nx, r_I]
        by_cases z : i = j
        · rw [if_pos ⟨rfl, z⟩, if_pos z]
        · rw [if_neg (fun w => z w.2), if_neg z]
      have tt := tot_H (M := x0 + H'' + 1) (h := h) (o := wI (wI h H'' j (hI h H'' j + (1 : Int32))) x0 19 (hI (wI h H'' j (hI h H'' j + (1 : Int32))) x0 19 + (1 : Int32))) (by omega) (fun i => by rw [rI_a (by omega), rI_a (by omega)]) kH
      refine ih (h := wI (wI h H'' j (hI h H'' j + (1 : Int32))) x0 19 (hI (wI h H'' j (hI h H'' j + (1 : Int32))) x0 19 + (1 : Int32))) (x2 := x2 + (1 : Int32)) eH nH nx (by omega) (by omega) (fun i => ?_) (fun i => ?_) ?_ e
      · rw [kH]
        by_cases z : i = j
        · rw [if_pos z, tv]; omega
        · rw [if_neg z]; exact pos i
      · rw [kH]
        by_cases z : i = j
        · rw [if_pos z, tv]; omega
        · rw [if_neg z]; exact l16 i
      · unfold tot at tt
        rw [mc_eq (g := hI h (x0 + H'' + 1)) 64 (fun i _ => by rw [rI_a (by omega), rI_a (by omega)]), tv] at tt
        omega
    unfold sX15_readHands_18 at e
    replace e := br_s e; rcases e with ⟨_, e⟩ | ⟨_, e⟩
    · exact b31 e
    replace e := cl_s e; obtain ⟨o2, e2, e⟩ := e
    rw [look_h e2] at e
    replace e := br_s e; rcases e with ⟨_, e⟩ | ⟨_, e⟩
    · replace e := cl_s e; obtain ⟨o4, e4, e⟩ := e
      replace e := (gd_s e).2
      have k4 : ∀ i, hI o4.2 H i = hI h H i := fun i => by
        unfold sX15_reads at e4
        replace e4 := cl_s e4; obtain ⟨o1, e1, e4⟩ := e4
        rw [look_h e1] at e4
        replace e4 := br_s e4; rcases e4 with ⟨_, e4⟩ | ⟨_, e4⟩
        · replace e4 := nm_s e4; obtain ⟨h3, w3, e4⟩ := e4
          rw [← Option.some.inj e4]
          show hI h3 H i = _
          rw [w3, rI_a nx]
        · rw [← Option.some.inj e4]
      rw [← Option.some.inj e]
      show sH o4.2 H 0 12 + sH o4.2 H 1 12 ≤ 32
      rw [sh_eq (h := h) 12 (fun i _ => k4 _), sh_eq (h := h) 12 (fun i _ => k4 _)]
      omega
    · exact b31 e
end
end
section
/-! positions that are read can be written -/
section
variable {zq : Nat} {ρ : Nat → Nat} {c : Cm} {h o g : Hp} {x0 x1 x3 b H F w : Nat} {Bq : Nat × Nat} {x2 : Int32}
/-- clear: nobody in hand -/
theorem clear_h (T : TH ρ c h) (rb : ρ b = 13) (eH : hR h b 5 = some H) (e : sX12_clear F h b = some o) : hR o b 5 = some H ∧ ∀ i, i < 24 → hI o H i = 0 := by
  have rH := rr T (thR T rb (i := 5) (k2 := 64) rfl (by decide)) eH
  obtain ⟨M, eM, rM⟩ := thR T rb (i := 0) (k2 := 62) rfl (by decide)
  obtain ⟨C, eC, rC⟩ := thR T rb (i := 6) (k2 := 65) rfl (by decide)
  have ne : ∀ {a d p q : Nat}, ρ a = p → ρ d = q → p ≠ q → ¬ a = d := fun ha hd hpq z => hpq (by rw [← ha, z]; exact hd)
  have z24 : (24 : Int32).toInt = 24 := rfl
  have z1 : (1 : Int32).toInt = 1 := rfl
  have b38 : ∀ (f : Nat) {g : Hp} {y : Int32}, (∀ i, hR g b i = hR h b i) → 0 ≤ y.toInt → y.toInt ≤ 24 → (∀ i : Nat, (i : Int) < y.toInt → hI g H i = 0) → sX12_clear_38 F f g b y = some o → hR o b 5 = some H ∧ ∀ i, i < 24 → hI o H i = 0 := by
    intro f
    induction f with
    | zero => intro g y _ _ _ _ e; exact absurd e (by simp [sX12_clear_38])
    | succ f ih =>
      intro g y kR a1 a2 C0 e
      unfold sX12_clear_38 at e
      simp only [nm] at e
      replace e := br_s e; rcases e with ⟨l, e⟩ | ⟨l, e⟩
      · have l := le_i l
        replace e := cl_s e; obtain ⟨r2, e2, e⟩ := e
        have y2 : r2 = C := r_eq eC (by rw [kR] at e2; exact e2)
        subst y2
        replace e := (gd_s e).2
        replace e := cl_s e; obtain ⟨r5, e5, e⟩ := e
        have y5 : r5 = r2 := r_eq eC (by have e5' : hR g b 6 = some r5 := e5; rw [kR] at e5'; exact e5')
        subst y5
        replace e := (gd_s e).2
        rw [← Option.some.inj e]
        refine ⟨by show hR g b 5 = some H; rw [kR]; exact eH, fun i hi => ?_⟩
        rw [rI_a (ne rH rb (by decide)), rI_a (ne rH rC (by decide)), rI_a (ne rH rC (by decide))]
        exact C0 i (by omega)
      have l := nle_i l
      replace e := cl_s e; obtain ⟨r9, e9, e⟩ := e
      have y9 : r9 = H := r_eq eH (by rw [kR] at e9; exact e9)
      subst y9
      replace e := (gd_s e).2
      have cy := nc_i a1
      have ty : (y + (1 : Int32)).toInt = y.toInt + 1 := by rw [ta (by rw [z1]; omega), z1]
      refine ih (g := wI g r9 y.toNatClampNeg (0 : Int32)) (fun i => kR i) (by omega) (by omega) (fun i hi => ?_) e
      rw [r_I]
      by_cases z : i = y.toNatClampNeg
      · rw [if_pos ⟨rfl, z⟩]
      · rw [if_neg (fun w => z w.2)]; exact C0 i (by omega)
  have b2 : ∀ (f : Nat) {g : Hp} {y : Int32}, (∀ i, hR g b i = hR h b i) → sX12_clear_2 F f g b y = some o → hR o b 5 = some H ∧ ∀ i, i < 24 → hI o H i = 0 := by
    intro f
    induction f with
    | zero => intro g y _ e; exact absurd e (by simp [sX12_clear_2])
    | succ f ih =>
      intro g y kR e
      unfold sX12_clear_2 at e
      simp only [nm] at e
      replace e := br_s e; rcases e with ⟨_, e⟩ | ⟨_, e⟩
      · exact b38 F (g := wI (wJ (wI g b 1 (0 : Int32)) b 2 (0 : Int64)) b 3 (0 : Int32)) (y := (0 : Int32)) (fun i => kR i) (by decide) (by decide) (fun i hi => absurd hi (by show ¬ (i : Int) < 0; omega)) e
      replace e := cl_s e; obtain ⟨r5, e5, e⟩ := e
      replace e := (gd_s e).2
      exact ih (g := wI g r5 y.toNatClampNeg (0 : Int32)) (fun i => kR i) e
  unfold sX12_clear at e
  exact b2 F (fun _ => rfl) e
theorem hands_w (T : TH ρ c h) (r0 : ρ x0 = 16) (rb : ρ b = 13) (eH : hR h b 5 = some H) (z : ∀ i, i < 24 → hI h H i = 0) {o : Int32 × Hp} (e : sX15_readHands F h x0 b = some o) : sH o.2 H 0 12 + sH o.2 H 1 12 ≤ 32 := by
  have rH := rr T (thR T rb (i := 5) (k2 := 64) rfl (by decide)) eH
  have nx : ¬ H = x0 := fun q => by rw [q, r0] at rH; exact absurd rH (by decide)
  have s0 : ∀ {g : Hp}, (∀ i, hI g H i = hI h H i) → ∀ d n, d < 2 → n ≤ 12 → sH g H d n = 0 := fun {g} k d n hd => by
    induction n with
    | zero => intro _; rfl
    | succ n ih => intro hn; rw [sH, ih (by omega), k, z _ (by omega)]; rfl
  have rk : ∀ {h : Hp} {y : Int32} {o : Int32 × Hp}, sX15_reads h x0 y = some o → (∀ i, hI o.2 H i = hI h H i) ∧ (∀ a i, hR o.2 a i = hR h a i) ∧ (∀ a, hN o.2 a = hN h a) := fun {h y o} e => by
    unfold sX15_reads sX15_look sX15_look_24 at e
    replace e := cl_s e; obtain ⟨o1, e1, e⟩ := e
    have h1 : o1.2 = h := by
      replace e1 := br_s e1; rcases e1 with ⟨_, e1⟩ | ⟨_, e1⟩
      · rw [← Option.some.inj e1]
      replace e1 := cl_s e1; obtain ⟨_, _, e1⟩ := e1
      rw [← Option.some.inj (gd_s e1).2]
    rw [h1] at e
    replace e := br_s e; rcases e with ⟨_, e⟩ | ⟨_, e⟩
    · replace e := nm_s e; obtain ⟨h3, w3, e⟩ := e
      rw [← Option.some.inj e]
      exact ⟨fun i => by show hI h3 H i = _; rw [w3, rI_a nx], fun a i => by show hR h3 a i = _; rw [w3]; rfl, fun a => by show hN h3 a = _; rw [w3]; rfl⟩
    · rw [← Option.some.inj e]; exact ⟨fun _ => rfl, fun _ _ => rfl, fun _ => rfl⟩
  unfold sX15_readHands at e
  replace e := cl_s e; obtain ⟨o1, e1, e⟩ := e
  obtain ⟨k1, kR, kN⟩ := rk e1
  replace e := br_s e; rcases e with ⟨_, e⟩ | ⟨_, e⟩
  · refine rh_18 F (by rw [kR]; exact eH) (by rw [kN]; exact thN T rH rfl (by decide)) nx (by decide) (by decide) (fun i => by rw [k1]; exact (thI T rH rfl : Rg 0 16 (hI h H i)).1) (fun i => by rw [k1]; exact (thI T rH rfl : Rg 0 16 (hI h H i)).2) ?_ e
    rw [s0 k1 0 12 (by decide) (by decide), s0 k1 1 12 (by decide) (by decide)]; rfl
  · replace e := cl_s e; obtain ⟨o3, e3, e⟩ := e
    replace e := (gd_s e).2
    obtain ⟨k3, _, _⟩ := rk e3
    rw [← Option.some.inj e]
    show sH o3.2 H 0 12 + sH o3.2 H 1 12 ≤ 32
    have kk : ∀ i, hI o3.2 H i = hI h H i := fun i => (k3 i).trans (k1 i)
    rw [s0 kk 0 12 (by decide) (by decide), s0 kk 1 12 (by decide) (by decide)]; decide
/-- rights beyond the law's squares are off -/
def BO (x0 b : Nat) (h : Hp) : Prop := ∀ i, (hI h x0 13).toNatClampNeg ≤ i → i < 64 → bitJ (hJ h b 2) i = false
theorem boz_k (e13 : hI o x0 13 = hI h x0 13) (eJ : hJ o b 2 = hJ h b 2) (P : BO x0 b h) : BO x0 b o := fun i h1 h2 => by
  rw [e13] at h1
  rw [eJ]
  exact P i h1 h2
theorem crt_hi {a : Int64} {n : Nat} : ∀ m, n ≤ m → (∀ i, n ≤ i → i < m → bitJ a i = false) → cRt a m = cRt a n := by
  intro m
  induction m with
  | zero => intro h _; have : n = 0 := by omega
            rw [this]
  | succ m ih =>
    intro h k
    by_cases z : n = m + 1
    · rw [z]
    · rw [cRt, ih (by omega) (fun i a b => k i a (by omega)), k m (by omega) (by omega)]; simp
theorem look15_h {o : Int32 × Hp} (e : sX15_look h x0 = some o) : o.2 = h := by
  unfold sX15_look sX15_look_24 at e
  replace e := br_s e; rcases e with ⟨_, e⟩ | ⟨_, e⟩
  · rw [← Option.some.inj e]
  replace e := cl_s e; obtain ⟨_, _, e⟩ := e
  replace e := (gd_s e).2
  rw [← Option.some.inj e]
/-- what reading leaves of the object -/
def RQ (x0 : Nat) (h o : Hp) : Prop := (∀ a i, hJ o a i = hJ h a i) ∧ ∀ i, ¬ i = 19 → ¬ i = 20 → hI o x0 i = hI h x0 i
theorem rq_w {i : Nat} {v : Int32} (hi : i = 19 ∨ i = 20) : RQ x0 h (wI h x0 i v) := ⟨fun _ _ => rfl, fun j n1 n2 => rI_o (by rcases hi with z | z <;> rw [z]; exact n1; exact n2)⟩
theorem rq_t (p : RQ x0 h g) (q : RQ x0 g o) : RQ x0 h o := ⟨fun a i => (q.1 a i).trans (p.1 a i), fun i n1 n2 => (q.2 i n1 n2).trans (p.2 i n1 n2)⟩
theorem rq_0 : RQ x0 h h := ⟨fun _ _ => rfl, fun _ _ _ => rfl⟩
theorem rs_q {y : Int32} {o : Int32 × Hp} (iF : Rg 3 8 (hI h x0 11)) (iR : Rg 3 8 (hI h x0 12)) (sq : SqOk x0 h) (e : sX15_readSquare h x0 y = some o) : RQ x0 h o.2 ∧ (o.1 = 0 ∨ (0 ≤ (hI o.2 x0 20).toInt ∧ (hI o.2 x0 20).toInt < (hI h x0 13).toInt)) := by
  have z0 : (0 : Int32).toInt = 0 := rfl
  unfold sX15_readSquare sX15_readSquare_28 sX15_readSquare_68 at e
  replace e := cl_s e; obtain ⟨o1, e1, e⟩ := e
  rw [look15_h e1] at e
  replace e := nm_s e; obtain ⟨v2, w2, e⟩ := e
  replace e := cl_s e; obtain ⟨o3, e3, e⟩ := e
  rw [look15_h e3] at e
  replace e := br_s e; rcases e with ⟨_, e⟩ | ⟨_, e⟩
  · rw [← Option.some.inj e]; exact ⟨rq_0, Or.inl rfl⟩
  replace e := br_s e; rcases e with ⟨_, e⟩ | ⟨n2, e⟩
  · rw [← Option.some.inj e]; exact ⟨rq_0, Or.inl rfl⟩
  have n2 := nlt_i n2
  replace e := br_s e; rcases e with ⟨l2, e⟩ | ⟨_, e⟩
  · have l2 := lt_i l2
    replace e := nm_s e; obtain ⟨h7, w7, e⟩ := e
    have k7 : RQ x0 h h7 := by rw [w7]; exact rq_w (Or.inl rfl)
    replace e := cl_s e; obtain ⟨o8, e8, e⟩ := e
    rw [look15_h e8] at e
    replace e := nm_s e; obtain ⟨v9, w9, e⟩ := e
    replace e := cl_s e; obtain ⟨o10, e10, e⟩ := e
    rw [look15_h e10] at e
    replace e := br_s e; rcases e with ⟨_, e⟩ | ⟨_, e⟩
    · rw [← Option.some.inj e]; exact ⟨k7, Or.inl rfl⟩
    replace e := br_s e; rcases e with ⟨_, e⟩ | ⟨n9, e⟩
    · rw [← Option.some.inj e]; exact ⟨k7, Or.inl rfl⟩
    have n9 := nlt_i n9
    replace e := br_s e; rcases e with ⟨l9, e⟩ | ⟨_, e⟩
    · have l9 := lt_i l9
      rw [k7.2 12 (by decide) (by decide)] at l9
      replace e := nm_s e; obtain ⟨h14, w14, e⟩ := e
      have k14 : RQ x0 h h14 := rq_t k7 (by rw [w14]; exact rq_w (Or.inr rfl))
      have v14 : hI h14 x0 20 = v9 * hI h x0 11 + v2 := by rw [w14, rI_s, k7.2 11 (by decide) (by decide)]
      obtain ⟨a1, a2⟩ := iF
      obtain ⟨b1, b2⟩ := iR
      have m0 : 0 ≤ v9.toInt * (hI h x0 11).toInt := Int.mul_nonneg (by omega) (by omega)
      have m1 : v9.toInt * (hI h x0 11).toInt ≤ ((hI h x0 12).toInt - 1) * (hI h x0 11).toInt := Int.mul_le_mul_of_nonneg_right (by omega) (by omega)
      have m2 : ((hI h x0 12).toInt - 1) * (hI h x0 11).toInt = (hI h x0 11).toInt * (hI h x0 12).toInt - (hI h x0 11).toInt := by rw [Int.sub_mul, Int.one_mul, Int.mul_comm]
      have m3 : (hI h x0 11).toInt * (hI h x0 12).toInt ≤ 8 * 8 := Int.mul_le_mul a2 b2 (by omega) (by omega)
      have sq' : (hI h x0 13).toInt = (hI h x0 11).toInt * (hI h x0 12).toInt := sq
      have t1 : (v9 * hI h x0 11).toInt = v9.toInt * (hI h x0 11).toInt := tm (by omega)
      have t2 : (v9 * hI h x0 11 + v2).toInt = v9.toInt * (hI h x0 11).toInt + v2.toInt := by rw [ta (by rw [t1]; omega), t1]
      have in14 : 0 ≤ (hI h14 x0 20).toInt ∧ (hI h14 x0 20).toInt < (hI h x0 13).toInt := by rw [v14, t2]; omega
      replace e := br_s e; rcases e with ⟨_, e⟩ | ⟨_, e⟩
      · replace e := nm_s e; obtain ⟨h16, w16, e⟩ := e
        rw [← Option.some.inj e]
        refine ⟨rq_t k14 (by show RQ x0 h14 h16; rw [w16]; exact rq_w (Or.inl rfl)), Or.inr ?_⟩
        show 0 ≤ (hI h16 x0 20).toInt ∧ (hI h16 x0 20).toInt < _
        rw [w16, rI_o (by decide)]
        exact in14
      · replace e := nm_s e; obtain ⟨h17, w17, e⟩ := e
        rw [← Option.some.inj e]
        exact ⟨rq_t k14 (by show RQ x0 h14 h17; rw [w17]; exact rq_w (Or.inl rfl)), Or.inl rfl⟩
    · rw [← Option.some.inj e]; exact ⟨k7, Or.inl rfl⟩
  · rw [← Option.some.inj e]; exact ⟨rq_0, Or.inl rfl⟩
theorem rds_q {y : Int32} {o : Int32 × Hp} (e : sX15_reads h x0 y = some o) : RQ x0 h o.2 := by
  unfold sX15_reads at e
  replace e := cl_s e; obtain ⟨o1, e1, e⟩ := e
  rw [look15_h e1] at e
  replace e := br_s e; rcases e with ⟨_, e⟩ | ⟨_, e⟩
  · replace e := nm_s e; obtain ⟨h3, w3, e⟩ := e
    rw [← Option.some.inj e]
    show RQ x0 h h3
    rw [w3]; exact rq_w (Or.inl rfl)
  · rw [← Option.some.inj e]; exact rq_0
theorem bo_rq (k : RQ x0 h o) (P : BO x0 b h) : BO x0 b o := boz_k (k.2 13 (by decide) (by decide)) (k.1 b 2) P
theorem rr_18 : ∀ (f : Nat) {h : Hp} {y : Int32} {o : Int32 × Hp}, Rg 3 8 (hI h x0 11) → Rg 3 8 (hI h x0 12) → Rg 9 64 (hI h x0 13) → SqOk x0 h → BO x0 b h → sX15_readRights_18 F f h x0 b y = some o → BO x0 b o.2 := by
  intro f
  induction f with
  | zero => intro h y o _ _ _ _ _ e; exact absurd e (by simp [sX15_readRights_18])
  | succ f ih =>
    intro h y o iF iR iS sq P e
    have b32 : sX15_readRights_32 F (sX15_readRights_18 F f) h x0 b y = some o → BO x0 b o.2 := fun e => by
      unfold sX15_readRights_32 at e
      replace e := cl_s e; obtain ⟨o1, e1, e⟩ := e
      obtain ⟨k1, w1⟩ := rs_q iF iR sq e1
      have P1 := bo_rq k1 P
      replace e := br_s e; rcases e with ⟨_, e⟩ | ⟨n1, e⟩
      · rw [← Option.some.inj e]; exact P1
      obtain ⟨u1, u2⟩ := w1.resolve_left n1
      replace e := nm_s e; obtain ⟨v3, w3, e⟩ := e
      replace e := nm_s e; obtain ⟨h4, w4, e⟩ := e
      have kI : ∀ i, hI h4 x0 i = hI o1.2 x0 i := fun i => by rw [w4]; rfl
      have k13 : hI o1.2 x0 13 = hI h x0 13 := k1.2 13 (by decide) (by decide)
      have k11 : hI o1.2 x0 11 = hI h x0 11 := k1.2 11 (by decide) (by decide)
      have k12 : hI o1.2 x0 12 = hI h x0 12 := k1.2 12 (by decide) (by decide)
      have i63 := iS.2
      have iv : Rg 0 63 v3 := by rw [w3]; exact ⟨u1, by omega⟩
      refine ih (h := h4) (by rw [kI, k11]; exact iF) (by rw [kI, k12]; exact iR) (by rw [kI, k13]; exact iS) (by unfold SqOk; rw [kI, kI, kI, k11, k12, k13]; exact sq) (fun i h1 h2 => ?_) e
      rw [kI] at h1
      rw [w4, r_J, if_pos ⟨rfl, rfl⟩, bj_or, P1 i h1 h2, bj_one iv, Bool.false_or]
      rw [k13] at h1
      have c3 := nc_i iv.1
      have c13 := nc_i (x := hI h x0 13) (by have := iS.1; omega)
      rw [← w3] at u2
      exact decide_eq_false (by omega)
    unfold sX15_readRights_18 at e
    replace e := br_s e; rcases e with ⟨_, e⟩ | ⟨_, e⟩
    · exact b32 e
    replace e := cl_s e; obtain ⟨o2, e2, e⟩ := e
    rw [look15_h e2] at e
    replace e := br_s e; rcases e with ⟨_, e⟩ | ⟨_, e⟩
    · replace e := cl_s e; obtain ⟨o4, e4, e⟩ := e
      replace e := (gd_s e).2
      rw [← Option.some.inj e]
      exact bo_rq (rds_q e4) P
    · exact b32 e
theorem rr_q {o : Int32 × Hp} (T : TH ρ c h) (r0 : ρ x0 = 16) (sq : SqOk x0 h) (P : BO x0 b h) (e : sX15_readRights F h x0 b = some o) : BO x0 b o.2 := by
  unfold sX15_readRights at e
  replace e := cl_s e; obtain ⟨o1, e1, e⟩ := e
  have k1 := rds_q e1
  have P1 := bo_rq k1 P
  replace e := br_s e; rcases e with ⟨_, e⟩ | ⟨_, e⟩
  · refine rr_18 F (by rw [k1.2 11 (by decide) (by decide)]; exact thI T r0 rfl) (by rw [k1.2 12 (by decide) (by decide)]; exact thI T r0 rfl) (by rw [k1.2 13 (by decide) (by decide)]; exact thI T r0 rfl) (by unfold SqOk; rw [k1.2 11 (by decide) (by decide), k1.2 12 (by decide) (by decide), k1.2 13 (by decide) (by decide)]; exact sq) P1 e
  · replace e := cl_s e; obtain ⟨o3, e3, e⟩ := e
    replace e := (gd_s e).2
    rw [← Option.some.inj e]
    exact bo_rq (rds_q e3) P1
/-- clear: no rights -/
theorem clear_j (e : sX12_clear F h b = some o) : hJ o b 2 = 0 := by
  have b38 : ∀ (f : Nat) {g : Hp} {y : Int32}, hJ g b 2 = 0 → sX12_clear_38 F f g b y = some o → hJ o b 2 = 0 := by
    intro f
    induction f with
    | zero => intro g y _ e; exact absurd e (by simp [sX12_clear_38])
    | succ f ih =>
      intro g y z e
      unfold sX12_clear_38 at e
      simp only [nm] at e
      replace e := br_s e; rcases e with ⟨_, e⟩ | ⟨_, e⟩
      · replace e := cl_s e; obtain ⟨_, _, e⟩ := e
        replace e := (gd_s e).2
        replace e := cl_s e; obtain ⟨_, _, e⟩ := e
        replace e := (gd_s e).2
        rw [← Option.some.inj e]; exact z
      replace e := cl_s e; obtain ⟨r9, _, e⟩ := e
      replace e := (gd_s e).2
      exact ih (g := wI g r9 y.toNatClampNeg (0 : Int32)) z e
  have b2 : ∀ (f : Nat) {g : Hp} {y : Int32}, sX12_clear_2 F f g b y = some o → hJ o b 2 = 0 := by
    intro f
    induction f with
    | zero => intro g y e; exact absurd e (by simp [sX12_clear_2])
    | succ f ih =>
      intro g y e
      unfold sX12_clear_2 at e
      simp only [nm] at e
      replace e := br_s e; rcases e with ⟨_, e⟩ | ⟨_, e⟩
      · exact b38 F (g := wI (wJ (wI g b 1 (0 : Int32)) b 2 (0 : Int64)) b 3 (0 : Int32)) (y := (0 : Int32)) (by show hJ (wJ (wI g b 1 (0 : Int32)) b 2 (0 : Int64)) b 2 = 0; rw [r_J, if_pos ⟨rfl, rfl⟩]) e
      replace e := cl_s e; obtain ⟨r5, _, e⟩ := e
      replace e := (gd_s e).2
      exact ih (g := wI g r5 y.toNatClampNeg (0 : Int32)) e
  unfold sX12_clear at e
  exact b2 F e
def rdA : List (Nat × Nat) := [(16, 17), (16, 18), (16, 19), (16, 20)]
theorem isPos_w {w_x3 : Nat} (hF : 700000 ≤ F) (hA : pmA c [(16, 17), (16, 18), (16, 19), (16, 20)]) (hO_x3 : pmO c w_x3 [(62, 999), (63, 999), (64, 999), (65, 999), (13, 1), (13, 2), (13, 3), (13, 7)]) (o_x3 : cw c x3 = w_x3) (T : TH ρ c h) (r_x0 : ρ x0 = 16) (r_x1 : ρ x1 = 82) (i_x2 : Rg (0) (1200) (x2)) (r_x3 : ρ x3 = 13) (sq : SqOk x0 h) : Sat (sX15_isPosition F h x0 x1 x2 x3) (ZQ (ZI ρ c 0 1) (fun o => o.1 = 0 ∨ ∃ H, hR o.2 x3 5 = some H ∧ sH o.2 H 0 12 + sH o.2 H 1 12 ≤ 32 ∧ BO x0 x3 o.2)) := by
  unfold sX15_isPosition sX15_isPosition_71 sX15_isPosition_72
  have bad : ∀ {g : Hp}, TH ρ (nst c 7) g → Sat (gd ((0 : Int32) &&& 1 = 0) <| some ((0 : Int32), g)) (ZQ (ZI ρ c 0 1) (fun o => o.1 = 0 ∨ ∃ H, hR o.2 x3 5 = some H ∧ sH o.2 H 0 12 + sH o.2 H 1 12 ≤ 32 ∧ BO x0 x3 o.2)) := fun T' => s_gd (rg_bool (rg_m (rg_b rfl : Rg (0) (0) ((0 : Int32))) (by decide))) (s_some ⟨⟨th_un T', rg_m (rg_b rfl : Rg (0) (0) ((0 : Int32))) (by decide)⟩, Or.inl rfl⟩)
  refine s_hq (th_wR T r_x0 (k := 16) (i := 17) (j := 7) (k2 := 82) rfl (by decide) rfl (by decide) r_x1 rfl nid_7 (by decide) (by decide) rfl rfl (fun z => absurd rfl z) (pm_a hA rfl)) (fun h_1 T_1 w_2 => ?_)
  refine s_hq (th_wI T_1 r_x0 (k := 16) (lo := (0)) (hi := (1200)) rfl (i_x2 : Rg (0) (1200) (x2)) (by decide) (by decide) (pm_a hA rfl)) (fun h_2 T_3 w_4 => ?_)
  refine s_hq (th_wI T_3 r_x0 (k := 16) (lo := (0)) (hi := (1200)) rfl ((rg_m (rg_b rfl : Rg (0) (0) ((0 : Int32))) (by decide)) : Rg (0) (1200) ((0 : Int32))) (by decide) (by decide) (pm_a hA rfl)) (fun h_3 T_5 w_6 => ?_)
  have m7c : ∀ (S : Nat → Nat → Nat → Bool) (g : Hp), (cat (nst c 7) S g).2.1 7 = true := fun _ _ => (nst_s : (nst c 7).2.1 7 = true)
  obtain ⟨H, eH, rH⟩ := thR T_5 r_x3 (i := 5) (k2 := 64) rfl (by decide)
  refine s_dd (zX12_clear (c := (nst c 7)) hF (pmO_s hO_x3 rfl) o_x3 T_5 r_x3) (fun o_4 e_4 T_7 => ?_)
  obtain ⟨eH4, z4⟩ := clear_h T_5 r_x3 eH e_4
  have j4 : BO x0 x3 o_4 := fun i _ _ => by rw [clear_j e_4]; exact bj_zero i
  have sq3 : SqOk x0 h_3 := by
    unfold SqOk
    rw [w_6, rI_o (by decide), rI_o (by decide), rI_o (by decide), w_4, rI_o (by decide), rI_o (by decide), rI_o (by decide), w_2]
    exact sq
  have sq4 : SqOk x0 o_4 := by
    obtain ⟨_, oB, _⟩ := clear_q T_5 r_x3 (M := (thR T_5 r_x3 (i := 0) (k2 := 62) rfl (by decide)).choose) (thR T_5 r_x3 (i := 0) (k2 := 62) rfl (by decide)).choose_spec.1 e_4
    have q : ∀ i, hI o_4 x0 i = hI h_3 x0 i := fun i => oB x0 i (by unfold OB; rw [r_x0]; decide)
    unfold SqOk
    rw [q, q, q]; exact sq3
  refine s_cIf (S := fS [(16, 19)] [(w_x3, [(62, 999)])]) T_7 (fs_sub (pmA_s hA rfl) (fs_c (pmO_s hO_x3 rfl) fs_n)) (zX15_readMen hF (m7c _ _) fs_a (fs_o (.head _)) o_x3 (th_in _ T_7) r_x0 r_x3) (fun o_5 T_8 i_o_5 f_5 => ?_)
  refine s_br (fun _ => bad T_8) (fun c_9 => ?_)
  have kb : ∀ {S : Nat → Nat → Nat → Bool} {g g' : Hp}, Fr ρ (cat (nst c 7) S g) g g' → (∀ w, S 13 w 5 = false) → (∀ w i, S 64 w i = false) → hR g x3 5 = some H → (∀ i, i < 24 → hI g H i = 0) → hR g' x3 5 = some H ∧ ∀ i, i < 24 → hI g' H i = 0 := fun f s1 s2 e z => ⟨by rw [(fr_RI f r_x3 (by decide) s1).2.2]; exact e, fun i hi => by rw [(fr_RI f rH (by decide) (fun w => s2 w i)).1]; exact z i hi⟩
  obtain ⟨eH5, z5⟩ := kb f_5 (fun _ => rfl) (fun _ _ => rfl) eH4 z4
  have kq : ∀ {S : Nat → Nat → Nat → Bool} {g g' : Hp}, TH ρ (nst c 7) g → Fr ρ (cat (nst c 7) S g) g g' → (∀ w, S 16 w 11 = false) → (∀ w, S 16 w 12 = false) → (∀ w, S 16 w 13 = false) → SqOk x0 g → SqOk x0 g' := fun Tg f s1 s2 s3 q => sq_fr Tg r_x0 f s1 s2 s3 q
  have kj : ∀ {S : Nat → Nat → Nat → Bool} {g g' : Hp}, Fr ρ (cat (nst c 7) S g) g g' → (∀ w, S 16 w 13 = false) → (∀ w, S 13 w 2 = false) → BO x0 x3 g → BO x0 x3 g' := fun f s1 s2 q => boz_k (fr_RI f r_x0 (by decide) s1).1 (fr_RI f r_x3 (by decide) s2).2.1 q
  have sq5 := kq T_7 f_5 (fun _ => rfl) (fun _ => rfl) (fun _ => rfl) sq4
  have j5 := kj f_5 (fun _ => rfl) (fun _ => rfl) j4
  refine s_cIf (S := fS [(16, 19)] [(w_x3, [(13, 1)])]) T_8 (fs_sub (pmA_s hA rfl) (fs_c (pmO_s hO_x3 rfl) fs_n)) (zX15_readSide (F := F) hF (m7c _ _) fs_a (fs_o (.head _)) o_x3 (th_in _ T_8) r_x0 r_x3) (fun o_7 T_12 i_o_7 f_7 => ?_)
  refine s_br (fun _ => bad T_12) (fun c_13 => ?_)
  obtain ⟨eH7, z7⟩ := kb f_7 (fun _ => rfl) (fun _ _ => rfl) eH5 z5
  have sq7 := kq T_8 f_7 (fun _ => rfl) (fun _ => rfl) (fun _ => rfl) sq5
  have j7 := kj f_7 (fun _ => rfl) (fun _ => rfl) j5
  refine s_cIfq (S := fS [(16, 19), (16, 20)] [(w_x3, [(13, 2)])]) T_12 (fs_sub (pmA_s hA rfl) (fs_c (pmO_s hO_x3 rfl) fs_n)) (s_weq (zX15_readRights hF (m7c _ _) fs_a (fs_o (.head _)) o_x3 (th_in _ T_12) r_x0 r_x3)) (fun o_9 T_16 i_o_9 f_9 e_9 => ?_)
  refine s_br (fun _ => bad T_16) (fun c_17 => ?_)
  obtain ⟨eH9, z9⟩ := kb f_9 (fun _ => rfl) (fun _ _ => rfl) eH7 z7
  have j9 := rr_q T_12 r_x0 sq7 j7 e_9
  refine s_cIf (S := fS [(16, 19), (16, 20)] [(w_x3, [(63, 999), (13, 3)])]) T_16 (fs_sub (pmA_s hA rfl) (fs_c (pmO_s hO_x3 rfl) fs_n)) (zX15_readPass hF (m7c _ _) fs_a (fs_o (.head _)) o_x3 (th_in _ T_16) r_x0 r_x3) (fun o_11 T_20 i_o_11 f_11 => ?_)
  refine s_br (fun _ => bad T_20) (fun c_21 => ?_)
  obtain ⟨eH11, z11⟩ := kb f_11 (fun _ => rfl) (fun _ _ => rfl) eH9 z9
  have j11 := kj f_11 (fun _ => rfl) (fun _ => rfl) j9
  refine s_cIfq (S := fS [(16, 19)] [(w_x3, [(64, 999)])]) T_20 (fs_sub (pmA_s hA rfl) (fs_c (pmO_s hO_x3 rfl) fs_n)) (s_weq (zX15_readHands hF (m7c _ _) fs_a (fs_o (.head _)) o_x3 (th_in _ T_20) r_x0 r_x3)) (fun o_13 T_24 i_o_13 f_13 e_13 => ?_)
  refine s_br (fun _ => bad T_24) (fun c_25 => ?_)
  have s13 := hands_w T_20 r_x0 r_x3 eH11 z11 e_13
  have j13 := kj f_13 (fun _ => rfl) (fun _ => rfl) j11
  have eH13 : hR o_13.2 x3 5 = some H := by rw [(fr_RI f_13 r_x3 (by decide) (fun _ => rfl)).2.2]; exact eH11
  refine s_cIf (S := fS [(16, 19)] [(w_x3, [(65, 999), (13, 7)])]) T_24 (fs_sub (pmA_s hA rfl) (fs_c (pmO_s hO_x3 rfl) fs_n)) (zX15_readRest hF (m7c _ _) fs_a (fs_o (.head _)) o_x3 (th_in _ T_24) r_x0 r_x3) (fun o_15 T_28 i_o_15 f_15 => ?_)
  refine s_br (fun _ => bad T_28) (fun c_29 => ?_)
  have k15 : ∀ i, hI o_15.2 H i = hI o_13.2 H i := fun i => (fr_RI f_15 rH (by decide) (fun _ => rfl)).1
  refine s_gd (rg_bool (rg_m (rg_b rfl : Rg (1) (1) ((1 : Int32))) (by decide))) ?_
  exact s_some ⟨⟨th_un T_28, rg_m (rg_b rfl : Rg (1) (1) ((1 : Int32))) (by decide)⟩, Or.inr ⟨H, by rw [(fr_RI f_15 r_x3 (by decide) (fun _ => rfl)).2.2]; exact eH13, by rw [sh_eq (h := o_13.2) 12 (fun i _ => k15 _), sh_eq (h := o_13.2) 12 (fun i _ => k15 _)]; exact s13, kj f_15 (fun _ => rfl) (fun _ => rfl) j13⟩⟩
theorem position_w (hF : 700000 ≤ F) (hA : pmA c [(84, 999), (85, 999), (86, 999), (16, 1), (16, 16), (16, 17), (16, 18), (16, 19), (16, 20), (16, 23), (16, 24)]) (hi_2521 : pmO c 2521 [(62, 999), (63, 999), (64, 999), (65, 999), (13, 1), (13, 2), (13, 3), (13, 7)]) (hi_3400 : pmO c 3400 [(62, 999), (63, 999), (64, 999), (65, 999), (13, 1), (13, 2), (13, 3), (13, 7)]) (T : TH ρ c h) (r0 : ρ x0 = 16) (bd : BdY zq Bq x0 h) (sq : SqOk x0 h) (hz : zq = 64) : Sat (sX15_position F h x0) (MkI ρ c (-1400) 59 (BdY zq Bq x0)) := by
  unfold sX15_position
  refine s_q (fun v ev => ?_)
  have iv : Rg 0 1200 v := by rw [ev]; exact thI T r0 rfl
  refine s_hq (th_wI T r0 (k := 16) (lo := 0) (hi := 1200) rfl (rg_m (rg_b rfl : Rg 0 0 (0 : Int32)) (by decide)) (by decide) (by decide) (pm_a hA rfl)) (fun h2 T2 w2 => ?_)
  have f2 := fr1I (c := c) (A := [(16, 1)]) (k := 16) r0 rfl w2
  have kp : ∀ {A : List (Nat × Nat)} {Bs : List (Nat × List (Nat × Nat))} {g g' : Hp}, TH ρ c g → TH ρ c g' → Fr ρ (cat c (fS A Bs) g) g g' → (∀ w i, i = 14 ∨ i = 15 ∨ i = 11 ∨ i = 12 ∨ i = 13 → fS A Bs 16 w i = false) → (∀ k w i, k = 84 ∨ k = 85 → fS A Bs k w i = false) → (∀ k i, k = 13 ∨ k = 62 ∨ k = 63 ∨ k = 64 → fS A Bs k 3400 i = false) → BdY zq Bq x0 g ∧ SqOk x0 g ∧ zq = 64 → BdY zq Bq x0 g' ∧ SqOk x0 g' ∧ zq = 64 := fun {A Bs g g'} Tg Tg' f s1 s2 s3 K => ⟨bdy_fr Tg r0 f (fun w => s1 w 14 (by omega)) (fun w => s1 w 15 (by omega)) (fun w i => s2 84 w i (by omega)) (fun w i => s2 85 w i (by omega)) (fun i _ => s3 13 i (by omega)) (fun i => s3 62 i (by omega)) (fun i => s3 63 i (by omega)) (fun i => s3 64 i (by omega)) K.1 Tg', sq_fr Tg r0 f (fun w => s1 w 11 (by omega)) (fun w => s1 w 12 (by omega)) (fun w => s1 w 13 (by omega)) K.2.1, K.2.2⟩
  have K2 := kp T T2 f2 (fun w i hi => by rcases hi with z | z | z | z | z <;> subst z <;> rfl) (fun k w i hk => by rcases hk with z | z <;> subst z <;> rfl) (fun k i hk => by rcases hk with z | z | z | z <;> subst z <;> rfl) ⟨bd, sq, hz⟩
  refine s_dI0 (zX15_freePlace hF T2 r0) (fun o3 e3 e3' i3 => ?_)
  rw [e3']
  unfold sX15_position_14
  refine s_br (fun _ => s_some ⟨ρ, c, ex_0, T2, rg_b rfl, K2.1⟩) (fun _ => ?_)
  obtain ⟨t, et, qt⟩ := thR T2 r0 (i := 0) (k2 := 82) rfl (by decide)
  refine s_ref et ?_
  obtain ⟨b, eb, qb⟩ := thR T2 r0 (i := 21) (k2 := 13) rfl (by decide)
  refine s_ref eb ?_
  have wb : cw c b = 2521 := th_id T2 r0 (w := 2521) eb rfl (by decide)
  refine s_cIfq (S := fS [(16, 17), (16, 18), (16, 19), (16, 20)] [(2521, [(62, 999), (63, 999), (64, 999), (65, 999), (13, 1), (13, 2), (13, 3), (13, 7)])]) T2 (fs_sub (pmA_s hA rfl) (fs_c hi_2521 fs_n)) (isPos_w hF fs_a (fs_o (.head _)) wb (th_in _ T2) r0 qt iv qb K2.2.1) (fun o4 T4 i4 f4 P4 => ?_)
  have K4 := kp T2 T4 f4 (fun w i hi => by rcases hi with z | z | z | z | z <;> subst z <;> rfl) (fun k w i hk => by rcases hk with z | z <;> subst z <;> rfl) (fun k i hk => by rcases hk with z | z | z | z <;> subst z <;> exact fs_cf (Or.inr (by decide)) (fs_nf rfl)) K2
  unfold sX15_position_34
  refine s_br (fun _ => ?_) (fun n4 => ?_)
  · refine s_some ⟨ρ, c, ex_0, T4, ?_, K4.1⟩
    exact rg_m (rg_sub (rg_b rfl : Rg (-200) (-200) (-200 : Int32)) (thI T4 r0 (i := 19) rfl : Rg 0 1200 (hI o4.2 x0 19)) (by decide) : Rg (-1400) (-200) ((-200 : Int32) - hI o4.2 x0 19)) (by decide)
  obtain ⟨H, eH, sH4, jO⟩ := P4.resolve_left n4
  have eb4 : hR o4.2 x0 21 = some b := by rw [(fr_RI f4 r0 (by decide) (fun _ => rfl)).2.2]; exact eb
  refine s_ref eb4 ?_
  refine s_cIfq (S := fS [(86, 999), (16, 23), (16, 24)] []) T4 (fs_sub (pmA_s hA rfl) fs_n) (s_weq2 (zX15_wrongOf hF fs_a wb (th_in _ T4) r0 qb)) (fun o5 T5 i5 f5 P5 => ?_)
  have K5 := kp T4 T5 f5 (fun w i hi => by rcases hi with z | z | z | z | z <;> subst z <;> rfl) (fun k w i hk => by rcases hk with z | z <;> subst z <;> rfl) (fun k i hk => by rcases hk with z | z | z | z <;> subst z <;> rfl) K4
  unfold sX15_position_54 sX15_position_73
  refine s_br (fun l5 => ?_) (fun n5 => ?_)
  · have eb5 : hR o5.2 x0 21 = some b := by rw [(fr_RI f5 r0 (by decide) (fun _ => rfl)).2.2]; exact eb4
    refine s_ref eb5 ?_
    obtain ⟨M, eM, rM⟩ := thR T4 qb (i := 0) (k2 := 62) rfl (by decide)
    obtain ⟨P, eP, rP⟩ := thR T4 qb (i := 4) (k2 := 63) rfl (by decide)
    have V := wrong_w T4 r0 qb K4.2.1 eM eP P5.2 l5
    unfold VR at V
    have c13 : (hI o4.2 x0 13).toNatClampNeg ≤ 64 := by
      have i13 := thI T4 r0 (k := 16) (i := 13) (lo := 9) (hi := 64) rfl
      have := nc_i (x := hI o4.2 x0 13) (by have := i13.1; omega)
      have := i13.2
      omega
    rw [← crt_hi 64 c13 jO, ← K4.2.2] at V
    have W4 : WrE zq b o4.2 := ⟨fun M' H' m1 m2 => by
      have y : H' = H := r_eq eH m2
      subst y
      have := mc_le (hI o4.2 M') 64
      unfold tot
      omega, V.1, V.2.1, fun n M' P' m1 m2 => by
      have y1 : M' = M := r_eq eM m1
      have y2 : P' = P := r_eq eP m2
      subst y1; subst y2
      exact V.2.2 n⟩
    have W5 : WrE zq b o5.2 := wr_fr T4 qb f5 (fun _ _ => rfl) (fun _ => rfl) (fun _ => rfl) (fun _ => rfl) W4
    have pe5 : PE b o5.2 := P5.1 (by have := le_i l5; have z0 : (0 : Int32).toInt = 0 := rfl; have := i5.1; omega)
    obtain ⟨o7, e7, ρ7, c7, X7, T7, j7, bd7⟩ := keep_y (F := F) hF (pmA_s hA rfl) hi_3400 wb T5 r0 qb K5.1 ⟨pe5, W5⟩
    exact s_val e7 (s_some ⟨ρ7, c7, X7, T7, rg_m j7 (by decide), bd7⟩)
  · refine s_some ⟨ρ, c, ex_0, T5, ?_, K5.1⟩
    exact rg_m (rg_sub (rg_b rfl : Rg 0 0 (0 : Int32)) i5 (by decide) : Rg (-8) 0 ((0 : Int32) - o5.1)) (by decide)
end
end
