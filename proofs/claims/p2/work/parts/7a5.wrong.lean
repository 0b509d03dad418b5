/-! a position that is not wrong can be written -/
theorem bit_tst {a : Int64} {x : Int32} (i : Rg 0 63 x) (b : bitJ a x.toNatClampNeg = true) : lg_cmp ((a >>> (x.toInt64 &&& 63)) &&& (1 : Int64)) (1 : Int64) = 0 := by
  have e : (a >>> (x.toInt64 &&& 63)) &&& (1 : Int64) = (1 : Int64) := by
    apply Int64.toBitVec_inj.mp
    apply BitVec.eq_of_getLsbD_eq
    intro j hj
    show bitJ ((a >>> (x.toInt64 &&& 63)) &&& (1 : Int64)) j = bitJ (1 : Int64) j
    rw [bj_and]
    have all : ∀ j : Fin 64, bitJ (1 : Int64) j.val = true → j.val = 0 := by decide +kernel
    cases q : bitJ (1 : Int64) j with
    | false => rw [Bool.and_false]
    | true =>
      have z : j = 0 := all ⟨j, hj⟩ q
      rw [z, bit_shr i, b]; rfl
  rw [e]
  decide
/-- squares of the first and the last rank, counted -/
def cEd (F R : Nat) : Nat → Nat
  | 0 => 0
  | n + 1 => cEd F R n + if n / F = 0 ∨ n / F + 1 = R then 1 else 0
theorem ce_16 : ∀ F, F < 9 → ∀ R, R < 9 → cEd F R (F * R) ≤ 16 := by decide +kernel
theorem crt_ce {a : Int64} {F R : Nat} : ∀ n, (∀ i, i < n → bitJ a i = true → i / F = 0 ∨ i / F + 1 = R) → cRt a n ≤ cEd F R n := by
  intro n
  induction n with
  | zero => intro _; exact Nat.le_refl _
  | succ n ih =>
    intro k
    rw [cRt, cEd]
    have := ih (fun i hi => k i (by omega))
    cases w : bitJ a n with
    | false => simp; omega
    | true => rw [if_pos rfl, if_pos (k n (by omega) w)]; omega
section
variable {ρ : Nat → Nat} {c : Cm} {h o g h0 : Hp} {x0 b Ro M P R A B Ri F : Nat}
/-- what wrongOf leaves -/
def VF (x0 Ro : Nat) (h o : Hp) : Prop := (∀ a i, hR o a i = hR h a i) ∧ (∀ a i, hJ o a i = hJ h a i) ∧ ∀ a i, ¬ a = Ro → ¬ (a = x0 ∧ (i = 23 ∨ i = 24)) → hI o a i = hI h a i
theorem vf_0 : VF x0 Ro h h := ⟨fun _ _ => rfl, fun _ _ => rfl, fun _ _ _ _ => rfl⟩
theorem vf_t (p : VF x0 Ro h g) (q : VF x0 Ro g o) : VF x0 Ro h o := ⟨fun a i => (q.1 a i).trans (p.1 a i), fun a i => (q.2.1 a i).trans (p.2.1 a i), fun a i n1 n2 => (q.2.2 a i n1 n2).trans (p.2.2 a i n1 n2)⟩
theorem vf_w {i : Nat} {v : Int32} : VF x0 Ro h (wI h Ro i v) := ⟨fun _ _ => rfl, fun _ _ => rfl, fun a i n _ => rI_a n⟩
theorem vf_3 {l : Nat} (k : TF 3 ρ x0 l h o) : VF x0 Ro h o := ⟨k.1, k.2.1, fun a i _ n => k.2.2.2 a i (Or.inl rfl) (Or.inl (by decide)) (Or.inl rfl) n⟩
/-- where things lie, for wrongOf -/
def VP (ρ : Nat → Nat) (x0 b Ro M P R A B Ri : Nat) (h : Hp) : Prop := AP ρ x0 R A B h ∧ (hR h x0 22 = some Ro ∧ hR h b 0 = some M ∧ hR h b 4 = some P ∧ hR h R 8 = some Ri) ∧ (ρ Ro = 86 ∧ ρ b = 13 ∧ ρ M = 62 ∧ ρ P = 63 ∧ ρ R = 15 ∧ ρ Ri = 78) ∧ (∀ i, Rg 0 7 (hI h Ri i)) ∧ (Rg 3 8 (hI h x0 11) ∧ Rg 3 8 (hI h x0 12) ∧ Rg 9 64 (hI h x0 13) ∧ SqOk x0 h) ∧ ∀ i, Rg 0 24 (hI h M i)
theorem vp_k (k : VF x0 Ro h o) (Q : VP ρ x0 b Ro M P R A B Ri h) : VP ρ x0 b Ro M P R A B Ri o := by
  obtain ⟨⟨⟨a1, a2, a3⟩, ⟨b1, b2, b3⟩, c1, c2⟩, ⟨e1, e2, e3, e4⟩, ⟨r1, r2, r3, r4, r5, r6⟩, ri, ⟨f1, f2, f3, f4⟩, mr⟩ := Q
  have kI : ∀ {a q : Nat} (i : Nat), ρ a = q → q ≠ 86 → q ≠ 16 → hI o a i = hI h a i := fun {a q} i ra n1 n2 => k.2.2 a i (fun z => n1 (by rw [← ra, z]; exact r1)) (fun z => n2 (by rw [← ra, z.1]; exact b1))
  have nx : ¬ x0 = Ro := fun z => by rw [z, r1] at b1; exact absurd b1 (by decide)
  have kx : ∀ i, ¬ (i = 23 ∨ i = 24) → hI o x0 i = hI h x0 i := fun i n => k.2.2 x0 i nx (fun z => n z.2)
  refine ⟨⟨⟨by rw [k.1]; exact a1, by rw [k.1]; exact a2, by rw [k.1]; exact a3⟩, ⟨b1, b2, b3⟩, fun i => by rw [kI i b2 (by decide) (by decide)]; exact c1 i, fun i => by rw [kI i b3 (by decide) (by decide)]; exact c2 i⟩, ⟨by rw [k.1]; exact e1, by rw [k.1]; exact e2, by rw [k.1]; exact e3, by rw [k.1]; exact e4⟩, ⟨r1, r2, r3, r4, r5, r6⟩, fun i => by rw [kI i r6 (by decide) (by decide)]; exact ri i, ⟨by rw [kx 11 (by decide)]; exact f1, by rw [kx 12 (by decide)]; exact f2, by rw [kx 13 (by decide)]; exact f3, ?_⟩, fun i => by rw [kI i r3 (by decide) (by decide)]; exact mr i⟩
  unfold SqOk
  rw [kx 11 (by decide), kx 12 (by decide), kx 13 (by decide)]
  exact f4
theorem v_rk {q s : Int32} {o : Int32 × Hp} (Q : VP ρ x0 b Ro M P R A B Ri h) (hq : 0 ≤ q.toInt) (hl : q.toInt < (hI h x0 13).toInt) (e : sX15_rankFor h x0 q s = some o) (e1 : o.1 = (1 : Int32)) : q.toNatClampNeg / (hI h x0 11).toNatClampNeg = 0 ∨ q.toNatClampNeg / (hI h x0 11).toNatClampNeg + 1 = (hI h x0 12).toNatClampNeg := by
  obtain ⟨_, _, _, _, ⟨⟨f1, f1'⟩, ⟨f2, f2'⟩, ⟨f3, f3'⟩, f4⟩, _⟩ := Q
  have z1 : (1 : Int32).toInt = 1 := rfl
  have cq := nc_i hq
  have cf := nc_i (x := hI h x0 11) (by omega)
  have cr := nc_i (x := hI h x0 12) (by omega)
  have dv : (q / hI h x0 11).toInt = q.toInt / (hI h x0 11).toInt := td (a := 0) (b := 63) (c := 3) (d := 8) ⟨hq, by omega⟩ ⟨f1, f1'⟩ (by decide)
  have dn : ((q.toNatClampNeg / (hI h x0 11).toNatClampNeg : Nat) : Int) = q.toInt / (hI h x0 11).toInt := by
    rw [Int.natCast_ediv, cq, cf]
  have d0 : 0 ≤ q.toInt / (hI h x0 11).toInt := Int.ediv_nonneg hq (by omega)
  have d64 : q.toInt / (hI h x0 11).toInt ≤ 63 := Int.le_trans (Int.ediv_le_self _ hq) (by omega)
  rcases (rank_post e).2 with w | w
  · rw [w] at e1
    have := congrArg Int32.toInt e1
    rw [ta (by rw [dv, z1]; omega), dv, z1] at this
    exact Or.inl (by omega)
  · rw [w] at e1
    have := congrArg Int32.toInt e1
    rw [ts (by rw [dv]; omega), dv, z1] at this
    exact Or.inr (by omega)
theorem v_right {q : Int32} {o : Int32 × Hp} (Q : VP ρ x0 b Ro M P R A B Ri h) (hq : 0 ≤ q.toInt) (hl : q.toInt < (hI h x0 13).toInt) (e : sX15_isRight F h x0 b q = some o) : o.2 = h ∧ (o.1 = 0 ∨ q.toNatClampNeg / (hI h x0 11).toNatClampNeg = 0 ∨ q.toNatClampNeg / (hI h x0 11).toNatClampNeg + 1 = (hI h x0 12).toNatClampNeg) := by
  unfold sX15_isRight sX15_isRight_49 sX15_isRight_86 sX15_isRight_87 at e
  simp only [nm] at e
  replace e := cl_s e; obtain ⟨_, _, e⟩ := e
  replace e := (gd_s e).2
  replace e := br_s e; rcases e with ⟨_, e⟩ | ⟨_, e⟩
  · rw [← Option.some.inj e]; exact ⟨rfl, Or.inl rfl⟩
  replace e := cl_s e; obtain ⟨_, _, e⟩ := e
  replace e := br_s e; rcases e with ⟨_, e⟩ | ⟨_, e⟩
  · rw [← Option.some.inj e]; exact ⟨rfl, Or.inl rfl⟩
  replace e := cl_s e; obtain ⟨o7, e7, e⟩ := e
  unfold sX15_manOf at e7
  have := Option.some.inj e7; subst this
  dsimp only at e
  replace e := cl_s e; obtain ⟨_, _, e⟩ := e
  replace e := br_s e; rcases e with ⟨_, e⟩ | ⟨_, e⟩
  · replace e := cl_s e; obtain ⟨o10, e10, e⟩ := e
    unfold sX15_sideOf at e10
    have := Option.some.inj e10; subst this
    dsimp only at e
    replace e := cl_s e; obtain ⟨o11, e11, e⟩ := e
    rw [(rank_post e11).1] at e
    replace e := br_s e; rcases e with ⟨r1, e⟩ | ⟨_, e⟩
    · have fin := v_rk Q hq hl e11 r1
      replace e := cl_s e; obtain ⟨o13, e13, e⟩ := e
      unfold sX15_sideOf at e13
      have := Option.some.inj e13; subst this
      dsimp only at e
      replace e := cl_s e; obtain ⟨o14, e14, e⟩ := e
      rw [roy_h e14] at e
      replace e := br_s e; rcases e with ⟨_, e⟩ | ⟨_, e⟩
      · rw [← Option.some.inj (gd_s e).2]; exact ⟨rfl, Or.inr fin⟩
      replace e := cl_s e; obtain ⟨o16, e16, e⟩ := e
      unfold sX15_sideOf at e16
      have := Option.some.inj e16; subst this
      dsimp only at e
      replace e := cl_s e; obtain ⟨o17, e17, e⟩ := e
      rw [(rank_post e17).1] at e
      replace e := br_s e; rcases e with ⟨_, e⟩ | ⟨_, e⟩
      · rw [← Option.some.inj (gd_s e).2]; exact ⟨rfl, Or.inr fin⟩
      · rw [← Option.some.inj (gd_s e).2]; exact ⟨rfl, Or.inr fin⟩
    · rw [← Option.some.inj e]; exact ⟨rfl, Or.inl rfl⟩
  · rw [← Option.some.inj e]; exact ⟨rfl, Or.inl rfl⟩
theorem v_by {x2 x3 x4 : Int32} {o : Int32 × Hp} (Q : VP ρ x0 b Ro M P R A B Ri h) (e : sX15_isPassBy F h x0 b x2 x3 x4 = some o) : o.2 = h ∧ (o.1 = 0 ∨ (hI h b 3).toInt ≤ 7) := by
  have lp : ∀ (f : Nat) {g : Hp} {x5 x6 x7 : Int32}, sX15_isPassBy_86 F f g x0 b x5 x6 x7 = some o → o.2 = g := by
    intro f
    induction f with
    | zero => intro g x5 x6 x7 e; exact absurd e (by simp [sX15_isPassBy_86])
    | succ f ih =>
      intro g x5 x6 x7 e
      unfold sX15_isPassBy_86 at e
      simp only [nm] at e
      replace e := br_s e; rcases e with ⟨_, e⟩ | ⟨_, e⟩
      · rw [← Option.some.inj e]
      replace e := cl_s e; obtain ⟨o2, e2, e⟩ := e
      rw [onw_h e2] at e
      replace e := cl_s e; obtain ⟨_, _, e⟩ := e
      replace e := (gd_s e).2
      replace e := br_s e; rcases e with ⟨_, e⟩ | ⟨_, e⟩
      · exact ih e
      · rw [← Option.some.inj e]
  unfold sX15_isPassBy sX15_isPassBy_81 sX15_isPassBy_83 at e
  simp only [nm] at e
  replace e := cl_s e; obtain ⟨R', er, e⟩ := e
  have y : R' = R := r_eq Q.1.1.1 er
  subst y
  replace e := cl_s e; obtain ⟨Ri', eri, e⟩ := e
  have y : Ri' = Ri := r_eq Q.2.1.2.2.2 eri
  subst y
  replace e := (gd_s e).2
  replace e := br_s e; rcases e with ⟨le, e⟩ | ⟨_, e⟩
  · have le := le_i le
    have l7 : (hI h b 3).toInt ≤ 7 := by have := (Q.2.2.2.1 x3.toNatClampNeg).2; omega
    replace e := cl_s e; obtain ⟨o6, e6, e⟩ := e
    rw [onw_h e6] at e
    replace e := br_s e; rcases e with ⟨_, e⟩ | ⟨_, e⟩
    · rw [← Option.some.inj e]; exact ⟨rfl, Or.inl rfl⟩
    replace e := cl_s e; obtain ⟨_, _, e⟩ := e
    replace e := (gd_s e).2
    replace e := br_s e; rcases e with ⟨_, e⟩ | ⟨_, e⟩
    · rw [← Option.some.inj e]; exact ⟨rfl, Or.inl rfl⟩
    replace e := cl_s e; obtain ⟨_, _, e⟩ := e
    replace e := cl_s e; obtain ⟨_, _, e⟩ := e
    replace e := (gd_s e).2
    replace e := br_s e; rcases e with ⟨_, e⟩ | ⟨_, e⟩
    · exact ⟨lp F e, Or.inr l7⟩
    replace e := cl_s e; obtain ⟨o15, e15, e⟩ := e
    rw [(rank_post e15).1] at e
    replace e := cl_s e; obtain ⟨_, _, e⟩ := e
    replace e := cl_s e; obtain ⟨_, _, e⟩ := e
    replace e := (gd_s e).2
    replace e := br_s e; rcases e with ⟨_, e⟩ | ⟨_, e⟩
    · exact ⟨lp F e, Or.inr l7⟩
    · rw [← Option.some.inj e]; exact ⟨rfl, Or.inl rfl⟩
  · rw [← Option.some.inj e]; exact ⟨rfl, Or.inl rfl⟩
theorem v_107 {K : Hp → Nat → Nat → Int32 → Int32 → Int32 → Int32 → Option (Int32 × Hp)} {x2 x3 x4 x5 x6 : Int32} {o : Int32 × Hp} (hK : ∀ {g : Hp} {y : Int32}, VP ρ x0 b Ro M P R A B Ri g → K g x0 b x2 x3 x4 y = some o → VF x0 Ro g o.2 ∧ (o.1 = 0 ∨ (hI g b 3).toInt ≤ 7)) : ∀ (f : Nat) {h : Hp} {x7 : Int32}, VP ρ x0 b Ro M P R A B Ri h → sX15_isPass_107 F K f h x0 b x2 x3 x4 x5 x6 x7 = some o → VF x0 Ro h o.2 ∧ (o.1 = 0 ∨ (hI h b 3).toInt ≤ 7) := by
  intro f
  induction f with
  | zero => intro h x7 _ e; exact absurd e (by simp [sX15_isPass_107])
  | succ f ih =>
    intro h x7 Q e
    unfold sX15_isPass_107 sX15_isPass_164 sX15_isPass_158 at e
    simp only [nm] at e
    replace e := br_s e; rcases e with ⟨_, e⟩ | ⟨_, e⟩
    · exact hK Q e
    replace e := cl_s e; obtain ⟨_, _, e⟩ := e
    replace e := cl_s e; obtain ⟨_, _, e⟩ := e
    replace e := (gd_s e).2
    replace e := br_s e; rcases e with ⟨_, e⟩ | ⟨_, e⟩
    · exact hK Q e
    replace e := cl_s e; obtain ⟨o6, e6, e⟩ := e
    have k6 : VF x0 Ro h o6.2 := vf_3 (hv_z (l := 0) Q.1 e6)
    have Q6 := vp_k k6 Q
    have b3 : hI o6.2 b 3 = hI h b 3 := k6.2.2 b 3 (fun z => by have := Q.2.2.1; rw [z, this.1] at this; exact absurd this.2.1 (by decide)) (fun z => by have := Q.2.2.1.2.1; rw [z.1, Q.1.2.1.1] at this; exact absurd this (by decide))
    have up : VF x0 Ro o6.2 o.2 ∧ (o.1 = 0 ∨ (hI o6.2 b 3).toInt ≤ 7) → VF x0 Ro h o.2 ∧ (o.1 = 0 ∨ (hI h b 3).toInt ≤ 7) := fun w => ⟨vf_t k6 w.1, by rw [← b3]; exact w.2⟩
    replace e := br_s e; rcases e with ⟨_, e⟩ | ⟨_, e⟩
    · exact up (ih Q6 e)
    replace e := cl_s e; obtain ⟨o8, e8, e⟩ := e
    obtain ⟨h8, w8⟩ := v_by Q6 e8
    rw [h8] at e
    replace e := br_s e; rcases e with ⟨_, e⟩ | ⟨n8, e⟩
    · exact up (ih Q6 e)
    · rw [← Option.some.inj e] at up ⊢
      exact up ⟨vf_0, Or.inr (w8.resolve_left n8)⟩
theorem v_pass {o : Int32 × Hp} (Q : VP ρ x0 b Ro M P R A B Ri h) (e : sX15_isPass F h x0 b = some o) : VF x0 Ro h o.2 ∧ (o.1 = 0 ∨ ((hI h b 3).toInt ≤ 7 ∧ 0 < (hI h M (hI h P 0).toNatClampNeg).toInt ∧ ¬ (hI h M (hI h P 0).toNatClampNeg - (1 : Int32)) &&& (1 : Int32) = hI h b 1)) := by
  have b75 : ∀ (f : Nat) {g : Hp} {x2 x3 x4 x5 : Int32}, VP ρ x0 b Ro M P R A B Ri g → sX15_isPass_75 F f g x0 b x2 x3 x4 x5 = some o → VF x0 Ro g o.2 ∧ (o.1 = 0 ∨ (hI g b 3).toInt ≤ 7) := by
    intro f
    induction f with
    | zero => intro g x2 x3 x4 x5 _ e; exact absurd e (by simp [sX15_isPass_75])
    | succ f ih =>
      intro g x2 x3 x4 x5 Q e
      unfold sX15_isPass_75 sX15_manOf at e
      simp only [nm] at e
      replace e := cl_s e; obtain ⟨_, _, e⟩ := e
      replace e := cl_s e; obtain ⟨_, _, e⟩ := e
      replace e := cl_s e; obtain ⟨o3, e3, e⟩ := e
      have := Option.some.inj e3; subst this
      dsimp only at e
      replace e := (gd_s e).2
      replace e := br_s e; rcases e with ⟨_, e⟩ | ⟨_, e⟩
      · rw [← Option.some.inj e]; exact ⟨vf_0, Or.inl rfl⟩
      replace e := cl_s e; obtain ⟨o6, e6, e⟩ := e
      have := Option.some.inj e6; subst this
      dsimp only at e
      exact v_107 (fun Q e => ih Q e) F Q e
  have b34 : ∀ (f : Nat) {x2 x3 x4 : Int32}, sX15_isPass_34 F f h x0 b x2 x3 x4 = some o → VF x0 Ro h o.2 ∧ (o.1 = 0 ∨ (hI h b 3).toInt ≤ 7) := by
    intro f
    induction f with
    | zero => intro x2 x3 x4 e; exact absurd e (by simp [sX15_isPass_34])
    | succ f ih =>
      intro x2 x3 x4 e
      unfold sX15_isPass_34 sX15_sideOf at e
      simp only [nm] at e
      replace e := br_s e; rcases e with ⟨_, e⟩ | ⟨_, e⟩
      · replace e := cl_s e; obtain ⟨o2, e2, e⟩ := e
        have := Option.some.inj e2; subst this
        dsimp only at e
        exact b75 F Q e
      replace e := cl_s e; obtain ⟨_, _, e⟩ := e
      replace e := cl_s e; obtain ⟨_, _, e⟩ := e
      replace e := (gd_s e).2
      replace e := (gd_s e).2
      replace e := br_s e; rcases e with ⟨_, e⟩ | ⟨_, e⟩
      · exact ih e
      · rw [← Option.some.inj e]; exact ⟨vf_0, Or.inl rfl⟩
  unfold sX15_isPass sX15_isPass_29 sX15_sideOf at e
  simp only [nm] at e
  replace e := cl_s e; obtain ⟨P', ep, e⟩ := e
  have y : P' = P := r_eq Q.2.1.2.2.1 ep
  subst y
  replace e := (gd_s e).2
  replace e := cl_s e; obtain ⟨M', em, e⟩ := e
  have y : M' = M := r_eq Q.2.1.2.1 em
  subst y
  replace e := (gd_s e).2
  have z0 : (0 : Int32).toNatClampNeg = 0 := rfl
  rw [z0] at e
  replace e := br_s e; rcases e with ⟨_, e⟩ | ⟨n0, e⟩
  · rw [← Option.some.inj e]; exact ⟨vf_0, Or.inl rfl⟩
  replace e := cl_s e; obtain ⟨o8, e8, e⟩ := e
  have := Option.some.inj e8; subst this
  dsimp only at e
  replace e := br_s e; rcases e with ⟨_, e⟩ | ⟨ns, e⟩
  · rw [← Option.some.inj e]; exact ⟨vf_0, Or.inl rfl⟩
  obtain ⟨k, w⟩ := b34 F e
  refine ⟨k, w.imp id (fun l7 => ⟨l7, ?_, ns⟩)⟩
  have m0 := (Q.2.2.2.2.2 (hI h P' 0).toNatClampNeg).1
  have : ¬ (hI h M' (hI h P' 0).toNatClampNeg).toInt = 0 := fun z => n0 (Int32.toInt_inj.mp z)
  omega
end
