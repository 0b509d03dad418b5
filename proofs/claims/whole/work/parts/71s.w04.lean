section
/-- an element of a row that may hold nulls is set to an object of its kind and holder -/
theorem th_wRe {ρ : Nat → Nat} {c : Cm} {h : Hp} (T : TH ρ c h) {a k i k2 q : Nat} (e : ρ a = k) (h2 : rfN k i = k2) (h3 : k2 ≠ 0) (hq : ρ q = k2) (n1 : k ≠ 10) (n2 : k ≠ 4) (n3 : rfK k i = 0) (n6 : nid k i = 0) (n4 : inh k = false) (hk : cw c q = kid k i) (hw : cPm c k (cw c a) i = true) : TH ρ c (wR h a i (some q)) := by
  obtain ⟨⟨t1, t2, t3, t4, t5, t6, t7, t8, t9⟩, ⟨o1, o2, o3, o4⟩, f⟩ := T
  refine ⟨⟨t1, t2, fun b l hb => ?_, fun b l hb r hr => ?_, t5, fun t tb ht hr => ?_, ⟨fun p q' i' a' hi' hp hq' h1 h2 => ?_, fun p on of hp ho hf => ?_⟩, fun b l hb hm => ?_, t9⟩, ⟨fun b l r hb hr => ?_, fun b l r hb hr => ?_, o3, fun b l r hb hr => ?_⟩, fr_wR f e hw⟩
  · rw [r_R, if_neg (fun w => hb (by rw [w.1, w.2, e, n3]))]
    exact t3 b l hb
  · rw [r_R] at hr
    by_cases w : b = a ∧ l = i
    · rw [if_pos w] at hr
      rw [← Option.some.inj hr, w.1, w.2, e, h2, hq]
    · rw [if_neg w] at hr
      exact t4 b l hb r hr
  · rw [r_R, if_neg (fun w => n1 (by rw [← e, ← w.1, ht]))] at hr
    exact t6 t tb ht hr
  · rw [r_R, if_neg (fun w => n2 (by rw [← e, ← w.1, hp]))] at h1
    rw [r_R, if_neg (fun w => n2 (by rw [← e, ← w.1, hq']))] at h2
    exact t7.1 p q' i' a' hi' hp hq' h1 h2
  · rw [r_R, if_neg (fun w => n2 (by rw [← e, ← w.1, hp]))] at ho hf
    exact t7.2 p on of hp ho hf
  · rw [r_R, if_neg (fun w => hb (by rw [w.1, w.2, e, n6]))]
    exact t8 b l hb hm
  · rw [r_R, if_neg (fun w => by rw [w.1, e, n4] at hb; exact absurd hb (by decide))] at hr
    exact o1 b l r hb hr
  · rw [r_R] at hr
    by_cases w : b = a ∧ l = i
    · rw [if_pos w] at hr
      rw [← Option.some.inj hr, w.1, w.2, e]
      exact hk
    · rw [if_neg w] at hr
      exact o2 b l r hb hr
  · rw [r_R] at hr
    by_cases w : b = a ∧ l = i
    · rw [if_pos w] at hr
      rw [← Option.some.inj hr]
      exact o3 q (by rw [hq]; exact h3)
    · rw [if_neg w] at hr
      exact o4 b l r hb hr
/-- an address without a role may hold what it likes -/
theorem th_w0 {ρ : Nat → Nat} {c : Cm} {h : Hp} (T : TH ρ c h) {a i : Nat} {v : Int32} (e : ρ a = 0) : TH ρ c (wI h a i v) := by
  obtain ⟨t, o, f⟩ := T
  refine ⟨th_wI0 t e (lo := -2147483648) (hi := 2147483647) rfl (rg_top v) (by decide) (by decide) (rp0 rfl), o, f.1, fun b j l hb hs => ?_, f.2.2⟩
  rw [r_I, if_neg (fun q => hb (by rw [q.1]; exact e))]
  exact f.2.1 b j l hb hs
section
variable {ρ : Nat → Nat} {c : Cm} {β : Type} {Q : β → Prop} {h : Hp} {S : Nat → Nat → Nat → Bool}
/-- a call that makes things -/
theorem s_mk {α : Type} {g : α → Hp} {P : α → (Nat → Nat) → Cm → Prop} {m : Option α} {k : α → Option β} (T : TH ρ c h) (hs : ∀ k w i, S k w i = true → cPm c k w i = true) (Z : Sat m (fun o => ∃ ρ' c', Ext ρ (cat c S h) ρ' c' ∧ TH ρ' c' (g o) ∧ P o ρ' c')) (up : ∀ o ρ' c' c2, c2.2.2.1 = c'.2.2.1 → P o ρ' c' → P o ρ' c2) (H : ∀ o ρ1 c1, Ext ρ c ρ1 c1 → TH ρ1 c1 (g o) → Fr ρ (cat c S h) h (g o) → P o ρ1 c1 → Sat (k o) Q) : Sat (cl m k) Q := by
  refine s_cl (s_imp Z fun o ho => ?_)
  obtain ⟨ρ1, c1, X, T1, p⟩ := ho
  obtain ⟨X2, T2⟩ := ex_o T hs X T1
  exact H o ρ1 _ X2 T2 (ex_f T X T1) (up o ρ1 c1 _ rfl p)
end
theorem s_tail {β : Type} {Q : β → Prop} {m : Option β} (S : Sat (cl m fun o => some o) Q) : Sat m Q := by
  cases m with
  | none => exact S
  | some o => exact S
/-- an array for the while -/
theorem scr {ρ : Nat → Nat} {c : Cm} {h h2 : Hp} {a k n z : Nat} (T : TH ρ c h) (ea : a = hS h) (eh : h2 = nC h k n z) : ∃ c', Ext ρ c ρ c' ∧ TH ρ c' h2 ∧ ρ a = 0 ∧ hN h2 a = n ∧ ∀ S, Fr ρ (cat c S h) h h2 := by
  have t1 : h.1 = c.1 := T.1.1
  have lt : ∀ b, ρ b ≠ 0 → b < h.1.1 := fun b hb => by rw [t1]; exact T.2.1.2.2.1 b hb
  have z0 : ∀ b, h.1.1 ≤ b → ρ b = 0 := fun b hb => by
    by_cases q : ρ b = 0
    · exact q
    · have := lt b q; omega
  have eS : hS h = h.1.1 := rfl
  have O : Old h h2 := fun b hb => by
    have nb : ¬ b = hS h := by rw [eS]; omega
    rw [eh]
    exact ⟨fun i => by rw [nC_I, if_neg nb], fun i => by rw [nC_J, if_neg nb], fun i => by rw [nC_R, if_neg nb], by rw [nC_N, if_neg nb]⟩
  have o1 : h2.1.1 = h.1.1 + 1 := by rw [eh]; rfl
  have TT := adopt T O ρ (cw c) (by omega) (fun _ _ => rfl) (fun b hb => z0 b (by omega)) (fun _ _ => rfl)
    (fun b i hb => by rw [z0 b hb]; exact ⟨rg_top _, rp0 rfl⟩)
    (fun b i hb hk => by rw [z0 b hb] at hk; exact absurd rfl hk)
    (fun b i hb => by rw [z0 b hb]; rfl)
    (fun b hb hk => by rw [z0 b hb] at hk; exact absurd rfl hk)
    (fun b hb => by rw [z0 b hb]; decide)
    (fun p i r hb hp => by rw [z0 p hb] at hp; exact absurd hp (by decide))
    (fun p q i r hb _ hp => by rw [z0 p hb] at hp; exact absurd hp (by decide))
    (fun b i hb => by rw [z0 b hb]; rfl)
    (fun b hb => by rw [z0 b hb]; rfl)
    (fun b i r hb hi => by rw [z0 b hb] at hi; exact absurd hi (by decide))
    (fun b i hb => by rw [z0 b hb]; rfl)
    (fun b i r hb h0 => absurd (z0 b hb) h0)
  refine ⟨(h2.1, (c.2.1, (cw c, c.2.2.2))), ⟨fun _ _ => ⟨rfl, rfl⟩, rfl, rfl, ?_, fun _ _ => rfl⟩, TT, z0 a (by rw [ea, eS]; exact Nat.le_refl _), by rw [eh, nC_N, if_pos ea], fun S => ⟨fun b i hb _ => ?_, fun b hb => (O b (lt b hb)).2.2.2⟩⟩
  · show c.1.1 ≤ h2.1.1
    rw [o1, ← t1]; omega
  · exact ⟨(O b (lt b hb)).1 i, (O b (lt b hb)).2.1 i, (O b (lt b hb)).2.2.1 i⟩
end
section
/-! boards of games: see 73g -/
end
section
/-- the board at a depth: made, with its list of moves, where it is wanting -/
theorem zX15_deepBoard {ρ : Nat → Nat} {c : Cm} {h : Hp} {x0 : Nat} {x1 : Int32} (hA : pmA c [(90, 999), (91, 999)]) (T : TH ρ c h) (r0 : ρ x0 = 16) (i1 : Rg 0 9 x1) : Sat (sX15_deepBoard h x0 x1) (fun o => ∃ ρ' c', Ext ρ c ρ' c' ∧ TH ρ' c' o.2 ∧ ρ' o.1 = 13 ∧ cw c' o.1 = 3500 + x1.toNatClampNeg) := by
  unfold sX15_deepBoard
  obtain ⟨r, er, qr⟩ := thR T r0 (i := 33) (k2 := 90) rfl (by decide)
  obtain ⟨m, em, qm⟩ := thR T r0 (i := 34) (k2 := 91) rfl (by decide)
  refine s_ref er ?_
  refine s_gd (by rw [thN T qr (k := 90) (n := 10) rfl (by decide)]; exact rg_inB i1 (by decide)) ?_
  have t1 : h.1 = c.1 := T.1.1
  cases q : hR h r x1.toNatClampNeg with
  | none =>
    show Sat (cl (hR h x0 33) _) _
    refine s_ref er ?_
    refine s_q (fun a ea => ?_)
    refine s_q (fun h8 e8 => ?_)
    subst ea
    subst e8
    unfold sX15_deepBoard_17 sX15_deepBoard_21 sX15_deepBoard_30 sX15_deepBoard_34 sX15_deepBoard_35
    refine s_cl (s_imp (newBoard T (3500 + x1.toNatClampNeg)) (fun o1 ho => ?_))
    obtain ⟨ρ1, c1, X1, T1, a1, w1, O1⟩ := ho
    have r01 := ex_r X1 r0 (by decide)
    have qr1 := ex_r X1 qr (by decide)
    have qm1 := ex_r X1 qm (by decide)
    have lt0 : x0 < h.1.1 := by rw [t1]; exact T.2.1.2.2.1 x0 (by rw [r0]; decide)
    have er1 : hR o1 x0 33 = some r := by rw [(O1 x0 lt0).2.2.1]; exact er
    have em1 : hR o1 x0 34 = some m := by rw [(O1 x0 lt0).2.2.1]; exact em
    refine s_gd (by rw [thN T1 qr1 (k := 90) (n := 10) rfl (by decide)]; exact rg_inB i1 (by decide)) ?_
    refine s_q (fun h2 e2 => ?_)
    have T2 : TH ρ1 c1 h2 := by
      rw [e2]
      exact th_wRe T1 qr1 (k2 := 13) rfl (by decide) a1 (by decide) (by decide) rfl rfl rfl w1 (ex_p X1 (pm_a hA rfl))
    have er2 : hR h2 x0 33 = some r := by rw [e2, r_R, if_neg (ne_r r01 qr1 (by decide))]; exact er1
    have em2 : hR h2 x0 34 = some m := by rw [e2, r_R, if_neg (ne_r r01 qr1 (by decide))]; exact em1
    have ee2 : hR h2 r x1.toNatClampNeg = some (hS h) := by rw [e2, r_R, if_pos ⟨rfl, rfl⟩]
    refine s_ref em2 ?_
    refine s_q (fun b eb => ?_)
    refine s_q (fun h5 e5 => ?_)
    subst eb
    subst e5
    refine s_cl (s_imp (newMoves T2 (3600 + x1.toNatClampNeg)) (fun o3 ho3 => ?_))
    obtain ⟨ρ3, c3, X3, T3, a3, w3, O3⟩ := ho3
    have r03 := ex_r X3 r01 (by decide)
    have qr3 := ex_r X3 qr1 (by decide)
    have qm3 := ex_r X3 qm1 (by decide)
    have b3 := ex_r X3 a1 (by decide)
    have v3 := ex_w X3 a1 (by decide) w1
    have t2 : h2.1 = c1.1 := T2.1.1
    have lt2 : ∀ x k, ρ1 x = k → k ≠ 0 → x < h2.1.1 := fun x k hx hk => by rw [t2]; exact T2.2.1.2.2.1 x (by rw [hx]; exact hk)
    have er3 : hR o3 x0 33 = some r := by rw [(O3 x0 (lt2 x0 _ r01 (by decide))).2.2.1]; exact er2
    have ee3 : hR o3 r x1.toNatClampNeg = some (hS h) := by rw [(O3 r (lt2 r _ qr1 (by decide))).2.2.1]; exact ee2
    refine s_gd (by rw [thN T3 qm3 (k := 91) (n := 10) rfl (by decide)]; exact rg_inB i1 (by decide)) ?_
    refine s_q (fun h6 e6 => ?_)
    have T6 : TH ρ3 c3 h6 := by
      rw [e6]
      exact th_wRe T3 qm3 (k2 := 14) rfl (by decide) a3 (by decide) (by decide) rfl rfl rfl w3 (ex_p (ex_t X1 X3) (pm_a hA rfl))
    have er6 : hR h6 x0 33 = some r := by rw [e6, r_R, if_neg (ne_r r03 qm3 (by decide))]; exact er3
    have ee6 : hR h6 r x1.toNatClampNeg = some (hS h) := by rw [e6, r_R, if_neg (ne_r qr3 qm3 (by decide))]; exact ee3
    refine s_ref er6 ?_
    refine s_gd (by rw [thN T6 qr3 (k := 90) (n := 10) rfl (by decide)]; exact rg_inB i1 (by decide)) ?_
    exact s_ref ee6 (s_some ⟨ρ3, c3, ex_t X1 X3, T6, b3, v3⟩)
  | some r4 =>
    show Sat (sX15_deepBoard_35 h x0 x1) _
    unfold sX15_deepBoard_35
    refine s_ref er ?_
    refine s_gd (by rw [thN T qr (k := 90) (n := 10) rfl (by decide)]; exact rg_inB i1 (by decide)) ?_
    exact s_ref q (s_some ⟨ρ, c, ex_0, T, thRn T qr (k2 := 13) rfl (by decide) q, th_id T qr (w := 3500 + x1.toNatClampNeg) q rfl (by omega)⟩)
end
section
/-! what a call that ended has done (partial correctness): helpers, and the squares that a man of the reference is led to -/
theorem cl_s {α β : Type} {x : Option α} {k : α → Option β} {o : β} (e : cl x k = some o) : ∃ y, x = some y ∧ k y = some o := by
  cases x with
  | none => exact absurd e (by simp [cl])
  | some y => exact ⟨y, rfl, e⟩
theorem gd_s {β : Type} {c : Prop} [Decidable c] {k : Option β} {o : β} (e : gd c k = some o) : c ∧ k = some o := by
  unfold gd at e
  split at e
  · exact ⟨‹_›, e⟩
  · exact absurd e (by simp)
theorem br_s {β : Type} {c : Prop} [Decidable c] {a b : Option β} {o : β} (e : br c a b = some o) : (c ∧ a = some o) ∨ (¬ c ∧ b = some o) := by
  unfold br at e
  split at e
  · exact Or.inl ⟨‹_›, e⟩
  · exact Or.inr ⟨‹_›, e⟩
theorem r_eq {h : Hp} {a i r q : Nat} (e : hR h a i = some r) (g : hR h a i = some q) : q = r := by
  rw [e] at g; exact (Option.some.inj g).symm
theorem ta {x y : Int32} (h : -2147483648 ≤ x.toInt + y.toInt ∧ x.toInt + y.toInt ≤ 2147483647) : (x + y).toInt = x.toInt + y.toInt := ti_add ⟨Int.le_refl _, Int.le_refl _⟩ ⟨Int.le_refl _, Int.le_refl _⟩ h
theorem ts {x y : Int32} (h : -2147483648 ≤ x.toInt - y.toInt ∧ x.toInt - y.toInt ≤ 2147483647) : (x - y).toInt = x.toInt - y.toInt := ti_sub ⟨Int.le_refl _, Int.le_refl _⟩ ⟨Int.le_refl _, Int.le_refl _⟩ h
theorem tm {x y : Int32} (h : -2147483648 ≤ x.toInt * y.toInt ∧ x.toInt * y.toInt ≤ 2147483647) : (x * y).toInt = x.toInt * y.toInt := by
  have ex : x = Int32.ofInt x.toInt := (Int32.ofInt_toInt x).symm
  have ey : y = Int32.ofInt y.toInt := (Int32.ofInt_toInt y).symm
  rw [ex, ey, ← Int32.ofInt_mul, ti_ofInt h.1 h.2, ← ex, ← ey]
theorem td {x y : Int32} {a b c d : Int} (hx : Rg a b x) (hy : Rg c d y) (e : 0 ≤ a ∧ 1 ≤ c) : (x / y).toInt = x.toInt / y.toInt := by
  have := hx.1
  rw [Int32.toInt_div_of_ne_right x y (rg_ne1 hy e.2), Int.tdiv_eq_ediv_of_nonneg (by omega)]
theorem tr {x y : Int32} {a b c d : Int} (hx : Rg a b x) (hy : Rg c d y) (e : 0 ≤ a ∧ 1 ≤ c) : (x - x / y * y).toInt = x.toInt % y.toInt := by
  have := hx.1
  rw [irem_eq_mod, Int32.toInt_mod, Int.tmod_eq_emod_of_nonneg (by omega)]
/-- a number times one of -7 .. 7 -/
theorem mb {k d n m : Int} (h1 : -m ≤ k ∧ k ≤ m) (h2 : -n ≤ d ∧ d ≤ n) (hm : 0 ≤ m) : -(m * n) ≤ k * d ∧ k * d ≤ m * n := by
  have hn : 0 ≤ n := by omega
  constructor
  · by_cases q : 0 ≤ k
    · have : k * (-n) ≤ k * d := Int.mul_le_mul_of_nonneg_left h2.1 q
      have : k * n ≤ m * n := Int.mul_le_mul_of_nonneg_right h1.2 hn
      have e : k * (-n) = -(k * n) := Int.mul_neg k n
      omega
    · have : (-k) * d ≤ (-k) * n := Int.mul_le_mul_of_nonneg_left h2.2 (by omega)
      have : (-k) * n ≤ m * n := Int.mul_le_mul_of_nonneg_right (by omega) hn
      have e : (-k) * d = -(k * d) := Int.neg_mul k d
      omega
  · by_cases q : 0 ≤ k
    · have : k * d ≤ k * n := Int.mul_le_mul_of_nonneg_left h2.2 q
      have : k * n ≤ m * n := Int.mul_le_mul_of_nonneg_right h1.2 hn
      omega
    · have : (-k) * (-n) ≤ (-k) * d := Int.mul_le_mul_of_nonneg_left h2.1 (by omega)
      have : (-k) * n ≤ m * n := Int.mul_le_mul_of_nonneg_right (by omega) hn
      have e : (-k) * d = -(k * d) := Int.neg_mul k d
      have e2 : (-k) * (-n) = -((-k) * n) := Int.mul_neg _ _
      omega
/-- the square k vectors on -/
theorem on_post {h : Hp} {x0 : Nat} {s k : Int32} {o : Int32 × Hp} (is : Rg 0 63 s) (ik : Rg (-8) 8 k) (iF : Rg 3 8 (hI h x0 11)) (iR : Rg 3 8 (hI h x0 12)) (ix : Rg (-7) 7 (hI h x0 23)) (iy : Rg (-7) 7 (hI h x0 24)) (e : sX15_onward h x0 s k = some o) :
    o.2 = h ∧ (o.1 = (-1 : Int32) ∨ ∃ f r : Int, f = s.toInt % (hI h x0 11).toInt + k.toInt * (hI h x0 23).toInt ∧ r = s.toInt / (hI h x0 11).toInt + k.toInt * (hI h x0 24).toInt ∧ 0 ≤ f ∧ f < (hI h x0 11).toInt ∧ 0 ≤ r ∧ r < (hI h x0 12).toInt ∧ o.1.toInt = r * (hI h x0 11).toInt + f) := by
  have p1 := mb (n := 7) (m := 8) (k := k.toInt) (d := (hI h x0 23).toInt) ⟨ik.1, ik.2⟩ ⟨ix.1, ix.2⟩ (by decide)
  have p2 := mb (n := 7) (m := 8) (k := k.toInt) (d := (hI h x0 24).toInt) ⟨ik.1, ik.2⟩ ⟨iy.1, iy.2⟩ (by decide)
  have m1 := tm (x := k) (y := hI h x0 23) ⟨by omega, by omega⟩
  have m2 := tm (x := k) (y := hI h x0 24) ⟨by omega, by omega⟩
  have q1 := rg_rem is iF (hi := 63) ⟨by decide, by decide, by omega⟩
  have q2 := rg_divv is iF ⟨by decide, by decide⟩
  have t1 := tr is iF ⟨by decide, by decide⟩
  have t2 := td is iF ⟨by decide, by decide⟩
  have a1 := ta (x := s - s / hI h x0 11 * hI h x0 11) (y := k * hI h x0 23) (by rw [m1]; exact ⟨by have := q1.1; omega, by have := q1.2; omega⟩)
  have a2 := ta (x := s / hI h x0 11) (y := k * hI h x0 24) (by rw [m2]; exact ⟨by have := q2.1; omega, by have := q2.2; omega⟩)
  rw [m1, t1] at a1
  rw [m2, t2] at a2
  unfold sX15_onward sX15_onward_55 sX15_onward_68 at e
  replace e := (gd_s e).2
  simp only [nm] at e
  replace e := (gd_s e).2
  replace e := br_s e; rcases e with ⟨_, e⟩ | ⟨c1, e⟩
  · have := Option.some.inj e; exact ⟨by rw [← this], Or.inl (by rw [← this])⟩
  replace e := br_s e; rcases e with ⟨_, e⟩ | ⟨c2, e⟩
  · have := Option.some.inj e; exact ⟨by rw [← this], Or.inl (by rw [← this])⟩
  replace e := br_s e; rcases e with ⟨_, e⟩ | ⟨c3, e⟩
  · have := Option.some.inj e; exact ⟨by rw [← this], Or.inl (by rw [← this])⟩
  replace e := br_s e; rcases e with ⟨c4, e⟩ | ⟨_, e⟩
  · have w := Option.some.inj e
    have d1 := nlt_i c1
    have d2 := nle_i c2
    have d3 := nlt_i c3
    have d4 := lt_i c4
    rw [a1] at d1 d2
    rw [a2] at d3 d4
    have z : (0 : Int32).toInt = 0 := rfl
    have F1 := iF.1
    have F2 := iF.2
    have R2 := iR.2
    refine ⟨by rw [← w], Or.inr ⟨_, _, rfl, rfl, by omega, d2, by omega, d4, ?_⟩⟩
    have b1 := mb (n := 8) (m := 8) (k := s.toInt / (hI h x0 11).toInt + k.toInt * (hI h x0 24).toInt) (d := (hI h x0 11).toInt) ⟨by omega, by omega⟩ ⟨by omega, by omega⟩ (by decide)
    have b2 := tm (x := s / hI h x0 11 + k * hI h x0 24) (y := hI h x0 11) (by rw [a2]; exact ⟨by omega, by omega⟩)
    rw [a2] at b2
    rw [← w]
    show (_ + _ : Int32).toInt = _
    rw [ta (by rw [b2, a1]; exact ⟨by omega, by omega⟩), b2, a1]
  · have := Option.some.inj e; exact ⟨by rw [← this], Or.inl (by rw [← this])⟩
theorem free_post {h : Hp} {fl full : Int32} {o : Int32 × Hp} (e : sX15_isFree h fl full = some o) : o.2 = h ∧ (o.1 = 0 ∨ (fl &&& (8 : Int32) = 0 ∧ full = 0) ∨ ¬ fl &&& (8 : Int32) = 0) := by
  unfold sX15_isFree sX15_isFree_29 at e
  replace e := br_s e; rcases e with ⟨c1, e⟩ | ⟨c1, e⟩
  · replace e := br_s e; rcases e with ⟨c2, e⟩ | ⟨c2, e⟩
    · have := Option.some.inj (gd_s e).2; exact ⟨by rw [← this], Or.inr (Or.inl ⟨c1, c2⟩)⟩
    · have := Option.some.inj (gd_s e).2; exact ⟨by rw [← this], Or.inl (by rw [← this])⟩
  · replace e := br_s e; rcases e with ⟨c2, e⟩ | ⟨c2, e⟩
    · have := Option.some.inj (gd_s e).2; exact ⟨by rw [← this], Or.inr (Or.inr c1)⟩
    · have := Option.some.inj (gd_s e).2; exact ⟨by rw [← this], Or.inl (by rw [← this])⟩
/-- the squares gone over are empty -/
def PE (b : Nat) (h : Hp) : Prop := ∀ M P, hR h b 0 = some M → hR h b 4 = some P → ∀ k : Nat, 1 ≤ k → (k : Int) < (hI h b 3).toInt → (hI h M (hI h P k).toNatClampNeg).toInt ≤ 0
theorem nc_i {x : Int32} (h : 0 ≤ x.toInt) : (x.toNatClampNeg : Int) = x.toInt := by
  show ((x.toInt.toNat : Nat) : Int) = x.toInt
  omega
theorem go_loop {h : Hp} {b P F : Nat} {t : Int32} (eP : hR h b 4 = some P) (ip : Rg 0 64 (hI h b 3)) : ∀ (f : Nat) (x3 : Int32) (o : Int32 × Hp), 1 ≤ x3.toInt → sX15_isGoneOver_2 F f h b t x3 = some o → o.2 = h ∧ (o.1 = 0 ∨ ∃ k : Nat, 1 ≤ k ∧ (k : Int) < (hI h b 3).toInt ∧ hI h P k = t) := by
  intro f
  induction f with
  | zero => intro x3 o _ e; exact absurd e (by simp [sX15_isGoneOver_2])
  | succ f ih =>
    intro x3 o h1 e
    unfold sX15_isGoneOver_2 at e
    replace e := br_s e; rcases e with ⟨_, e⟩ | ⟨c1, e⟩
    · have := Option.some.inj e; exact ⟨by rw [← this], Or.inl (by rw [← this])⟩
    replace e := cl_s e; obtain ⟨r, er, e⟩ := e
    have : r = P := r_eq eP er
    subst this
    replace e := (gd_s e).2
    have l1 := nle_i c1
    replace e := br_s e; rcases e with ⟨c2, e⟩ | ⟨c2, e⟩
    · have := Option.some.inj e
      exact ⟨by rw [← this], Or.inr ⟨x3.toNatClampNeg, by have := nc_i (x := x3) (by omega); omega, by have := nc_i (x := x3) (by omega); omega, c2⟩⟩
    · simp only [nm] at e
      exact ih _ o (by rw [ta (by have := ip.2; show _ ≤ x3.toInt + 1 ∧ x3.toInt + 1 ≤ _; omega)]; show 1 ≤ x3.toInt + 1; omega) e
theorem gone_over {h : Hp} {x0 b M P F : Nat} {t : Int32} {o : Int32 × Hp} (eM : hR h b 0 = some M) (eP : hR h b 4 = some P) (ip : Rg 0 64 (hI h b 3)) (pe : PE b h) (e : sX15_isGoneOver F h x0 b t = some o) : o.2 = h ∧ (o.1 = 0 ∨ (hI h M t.toNatClampNeg).toInt ≤ 0) := by
  unfold sX15_isGoneOver at e
  obtain ⟨q, w⟩ := go_loop eP ip F _ o (by decide) e
  refine ⟨q, ?_⟩
  rcases w with w | ⟨k, k1, k2, k3⟩
  · exact Or.inl w
  · exact Or.inr (by rw [← k3]; exact pe M P eM eP k k1 k2)
/-- not an own man -/
def nOwn (sd v : Int32) : Prop := v.toInt ≤ 0 ∨ ¬ (v - (1 : Int32)) &&& (1 : Int32) = sd
/-- on the way from s to t in k steps all squares between are empty -/
def WayE (F : Int) (M : Nat) (h0 : Hp) (s t k : Int) : Prop := ∃ dx dy : Int, t / F = s / F + k * dy ∧ t % F = s % F + k * dx ∧ ∀ j : Int, 1 ≤ j → j < k → (hI h0 M ((s / F + j * dy) * F + (s % F + j * dx)).toNat).toInt ≤ 0
theorem dm {F r f : Int} (hF : 0 < F) (f0 : 0 ≤ f) (f1 : f < F) : (r * F + f) / F = r ∧ (r * F + f) % F = f := by
  have e : r * F + f = f + F * r := by rw [Int.mul_comm]; omega
  rw [e, Int.add_mul_ediv_left _ _ (by omega), Int.add_mul_emod_self_left, Int.ediv_eq_zero_of_lt f0 f1, Int.emod_eq_of_lt f0 f1]
  exact ⟨by omega, rfl⟩
/-- what lead leaves as it is -/
def LFr (ρ : Nat → Nat) (x0 : Nat) (h o : Hp) : Prop := (∀ a i, hR o a i = hR h a i) ∧ (∀ a, hN o a = hN h a) ∧ ∀ a i, ρ a ≠ 87 → ρ a ≠ 88 → ρ a ≠ 89 → ¬ (a = x0 ∧ (i = 23 ∨ i = 24)) → hI o a i = hI h a i
section
variable {ρ : Nat → Nat} {x0 : Nat} {h h1 o : Hp}
theorem lfr_r : LFr ρ x0 h h := ⟨fun _ _ => rfl, fun _ => rfl, fun _ _ _ _ _ _ => rfl⟩
theorem lfr_t (p : LFr ρ x0 h h1) (q : LFr ρ x0 h1 o) : LFr ρ x0 h o := ⟨fun a i => (q.1 a i).trans (p.1 a i), fun a => (q.2.1 a).trans (p.2.1 a), fun a i n1 n2 n3 n4 => (q.2.2 a i n1 n2 n3 n4).trans (p.2.2 a i n1 n2 n3 n4)⟩
theorem lfr_w {a i : Nat} {v : Int32} (p : LFr ρ x0 h h1) (e : ρ a = 87 ∨ ρ a = 88 ∨ ρ a = 89 ∨ (a = x0 ∧ (i = 23 ∨ i = 24))) : LFr ρ x0 h (wI h1 a i v) := lfr_t p ⟨fun _ _ => rfl, fun _ => rfl, fun b j n1 n2 n3 n4 => by
  rw [r_I, if_neg]
  rintro ⟨q1, q2⟩
  subst q1; subst q2
  rcases e with e | e | e | e
  · exact n1 e
  · exact n2 e
  · exact n3 e
  · exact n4 e⟩
end
def LedN (S Fa M Fl : Nat) (F sq : Int) (s sd : Int32) (h0 h : Hp) : Prop := ∀ t : Nat, (t : Int) < sq → 0 ≤ (hI h S t).toInt → nOwn sd (hI h0 M t) ∧ (¬ (hI h0 Fl (hI h S t).toNatClampNeg) &&& (16 : Int32) = 0 → WayE F M h0 s.toInt t (hI h Fa t).toInt)
theorem led_w {S Fa M Fl Ct : Nat} {F sq : Int} {s sd : Int32} {h0 h : Hp} {t st k z : Int32} (n1 : S ≠ Fa) (n2 : S ≠ Ct) (n3 : Fa ≠ Ct) (L : LedN S Fa M Fl F sq s sd h0 h) (ht : 0 ≤ t.toInt) (no : nOwn sd (hI h0 M t.toNatClampNeg)) (g : ¬ (hI h0 Fl st.toNatClampNeg) &&& (16 : Int32) = 0 → WayE F M h0 s.toInt t.toInt k.toInt) :
    LedN S Fa M Fl F sq s sd h0 (wI (wI (wI h S t.toNatClampNeg st) Fa t.toNatClampNeg k) Ct t.toNatClampNeg z) := by
  intro t' h1 h2
  have eS : hI (wI (wI (wI h S t.toNatClampNeg st) Fa t.toNatClampNeg k) Ct t.toNatClampNeg z) S t' = if t' = t.toNatClampNeg then st else hI h S t' := by
    rw [r_I, if_neg (fun q => n2 q.1), r_I, if_neg (fun q => n1 q.1), r_I]
    by_cases q : t' = t.toNatClampNeg
    · rw [if_pos ⟨rfl, q⟩, if_pos q]
    · rw [if_neg (fun w => q w.2), if_neg q]
  have eF : hI (wI (wI (wI h S t.toNatClampNeg st) Fa t.toNatClampNeg k) Ct t.toNatClampNeg z) Fa t' = if t' = t.toNatClampNeg then k else hI h Fa t' := by
    rw [r_I, if_neg (fun q => n3 q.1), r_I]
    by_cases q : t' = t.toNatClampNeg
    · rw [if_pos ⟨rfl, q⟩, if_pos q]
    · rw [if_neg (fun w => q w.2), if_neg q, r_I, if_neg (fun w => n1 w.1.symm)]
  rw [eS] at h2 ⊢
  rw [eF]
  by_cases q : t' = t.toNatClampNeg
  · rw [if_pos q, if_pos q]
    subst q
    refine ⟨no, fun p => ?_⟩
    rw [nc_i ht]
    exact g p
  · rw [if_neg q] at h2
    rw [if_neg q, if_neg q]
    exact L t' h1 h2
theorem lb_loop {ρ : Nat → Nat} {x0 b S Fa Ct M P R Fl Ri : Nat} {h0 : Hp} {s sd st ct fl : Int32} {F : Nat}
    (rx : ρ x0 = 16) (rb : ρ b = 13) (rS : ρ S = 87) (rFa : ρ Fa = 88) (rCt : ρ Ct = 89) (rM : ρ M = 62) (rPa : ρ P = 63) (rR : ρ R = 15) (rRi : ρ Ri = 78)
    (e25 : hR h0 x0 25 = some S) (e26 : hR h0 x0 26 = some Fa) (e27 : hR h0 x0 27 = some Ct) (eM : hR h0 b 0 = some M) (eP : hR h0 b 4 = some P) (eR : hR h0 x0 4 = some R) (eRi : hR h0 R 8 = some Ri)
    (pe : PE b h0) (iF : Rg 3 8 (hI h0 x0 11)) (iR : Rg 3 8 (hI h0 x0 12)) (ip : Rg 0 64 (hI h0 b 3)) (is : Rg 0 63 s) (iri : ∀ i, Rg 0 7 (hI h0 Ri i)) (gf : FL (hI h0 Fl st.toNatClampNeg)) (efl : fl = hI h0 Fl st.toNatClampNeg) {sq : Int} :
    ∀ (f : Nat) (h : Hp) (x7 x8 : Int32) (o : Hp), LFr ρ x0 h0 h → Rg (-7) 7 (hI h x0 23) → Rg (-7) 7 (hI h x0 24) → LedN S Fa M Fl (hI h0 x0 11).toInt sq s sd h0 h → (x7.toInt = 0 → ∀ j : Int, 1 ≤ j → j < x8.toInt → (hI h0 M ((s.toInt / (hI h0 x0 11).toInt + j * (hI h x0 24).toInt) * (hI h0 x0 11).toInt + (s.toInt % (hI h0 x0 11).toInt + j * (hI h x0 23).toInt)).toNat).toInt ≤ 0) → 0 ≤ x7.toInt → x7.toInt ≤ 2 → 1 ≤ x8.toInt → x8.toInt ≤ 8 → sX15_leadBy_18 F f h x0 b s sd st ct fl x7 x8 = some o → LFr ρ x0 h0 o ∧ LedN S Fa M Fl (hI h0 x0 11).toInt sq s sd h0 o ∧ hI o x0 23 = hI h x0 23 ∧ hI o x0 24 = hI h x0 24 := by
  intro f
  induction f with
  | zero => intro h x7 x8 o _ _ _ _ _ _ _ _ _ e; exact absurd e (by simp [sX15_leadBy_18])
  | succ f ih =>
    intro h x7 x8 o fr ix iy L way a1 a2 b1 b2 e
    have k11 : hI h x0 11 = hI h0 x0 11 := fr.2.2 x0 11 (by rw [rx]; decide) (by rw [rx]; decide) (by rw [rx]; decide) (by simp)
    have k12 : hI h x0 12 = hI h0 x0 12 := fr.2.2 x0 12 (by rw [rx]; decide) (by rw [rx]; decide) (by rw [rx]; decide) (by simp)
    have kM : ∀ i, hI h M i = hI h0 M i := fun i => fr.2.2 M i (by rw [rM]; decide) (by rw [rM]; decide) (by rw [rM]; decide) (fun q => absurd (q.1 ▸ rM) (by rw [rx]; decide))
    have kRi : ∀ i, hI h Ri i = hI h0 Ri i := fun i => fr.2.2 Ri i (by rw [rRi]; decide) (by rw [rRi]; decide) (by rw [rRi]; decide) (fun q => absurd (q.1 ▸ rRi) (by rw [rx]; decide))
    have kP : ∀ i, hI h P i = hI h0 P i := fun i => fr.2.2 P i (by rw [rPa]; decide) (by rw [rPa]; decide) (by rw [rPa]; decide) (fun q => absurd (q.1 ▸ rPa) (by rw [rx]; decide))
    have kb : ∀ i, hI h b i = hI h0 b i := fun i => fr.2.2 b i (by rw [rb]; decide) (by rw [rb]; decide) (by rw [rb]; decide) (fun q => absurd (q.1 ▸ rb) (by rw [rx]; decide))
    have peh : PE b h := fun M' P' m1 m2 k k1 k2 => by
      rw [fr.1] at m1 m2
      have q1 := r_eq eM m1
      have q2 := r_eq eP m2
      subst q1; subst q2
      rw [kP, kM]
      rw [kb] at k2
      exact pe _ _ eM eP k k1 k2
    unfold sX15_leadBy_18 at e
    replace e := cl_s e; obtain ⟨R', er, e⟩ := e
    rw [fr.1] at er
    have := r_eq eR er
    subst this
    replace e := cl_s e; obtain ⟨Ri', eri, e⟩ := e
    rw [fr.1] at eri
    have := r_eq eRi eri
    subst this
    replace e := (gd_s e).2
    replace e := br_s e; rcases e with ⟨_, e⟩ | ⟨c1, e⟩
    · unfold sX15_leadBy_216 at e
      have := Option.some.inj e
      subst this
      exact ⟨fr, L, rfl, rfl⟩
    replace c1 := nlt_i c1
    rw [kRi] at c1
    have hr := (iri st.toNatClampNeg).2
    replace e := br_s e; rcases e with ⟨_, e⟩ | ⟨c2, e⟩
    · unfold sX15_leadBy_216 at e
      have := Option.some.inj e
      subst this
      exact ⟨fr, L, rfl, rfl⟩
    have c2 : x7.toInt < 2 := nle_i c2
    replace e := cl_s e; obtain ⟨o6, e6, e⟩ := e
    obtain ⟨h6, w6⟩ := on_post is ⟨by omega, by omega⟩ (k11 ▸ iF) (k12 ▸ iR) ix iy e6
    obtain ⟨t, g6⟩ := o6
    have : g6 = h := h6
    subst this
    replace e := br_s e; rcases e with ⟨_, e⟩ | ⟨c3, e⟩
    · have := Option.some.inj e
      subst this
      exact ⟨fr, L, rfl, rfl⟩
    replace c3 : ¬ t = (-1 : Int32) := c3
    rcases w6 with w6 | ⟨ff, rr, e1, e2, f0, f1, r0, r1, et⟩
    · exact absurd w6 c3
    replace et : t.toInt = rr * (hI g6 x0 11).toInt + ff := et
    have Fp : 0 < (hI h0 x0 11).toInt := by have := iF.1; omega
    rw [k11] at e1 e2 f1 et
    have t0 : 0 ≤ t.toInt := by
      have := Int.mul_nonneg r0 (Int.le_of_lt Fp)
      omega
    have one8 : (x8 + (1 : Int32)).toInt = x8.toInt + 1 := ta (by show _ ≤ x8.toInt + 1 ∧ x8.toInt + 1 ≤ _; omega)
    replace e := cl_s e; obtain ⟨M', em, e⟩ := e
    rw [fr.1] at em
    have := r_eq eM em
    subst this
    replace e := (gd_s e).2
    simp only [nm] at e
    replace e := cl_s e; obtain ⟨o11, e11, e⟩ := e
    obtain ⟨h11, w11⟩ := free_post e11
    obtain ⟨fr11, g11⟩ := o11
    have : g11 = g6 := h11
    subst this
    -- behind the square
    have tail : ∀ h', LFr ρ x0 h0 h' → hI h' x0 23 = hI g11 x0 23 → hI h' x0 24 = hI g11 x0 24 → LedN S Fa M' Fl (hI h0 x0 11).toInt sq s sd h0 h' → sX15_leadBy_195 F (sX15_leadBy_18 F f) h' x0 b s sd st ct fl x7 x8 (hI g11 M' t.toNatClampNeg) = some o → LFr ρ x0 h0 o ∧ LedN S Fa M' Fl (hI h0 x0 11).toInt sq s sd h0 o ∧ hI o x0 23 = hI g11 x0 23 ∧ hI o x0 24 = hI g11 x0 24 := by
      intro h' fr' kx ky L' e'
      unfold sX15_leadBy_195 sX15_leadBy_207 at e'
      simp only [nm] at e'
      replace e' := br_s e'; rcases e' with ⟨c, e'⟩ | ⟨c, e'⟩
      · replace c := le_i c
        have s0 : (x7 + (0 : Int32)).toInt = x7.toInt := by rw [ta (by show _ ≤ x7.toInt + 0 ∧ x7.toInt + 0 ≤ _; omega)]; show x7.toInt + 0 = _; omega
        obtain ⟨z1, z2, z3, z4⟩ := ih h' _ _ o fr' (kx ▸ ix) (ky ▸ iy) L' (by
          rw [s0, one8, kx, ky]
          intro q j j1 j2
          by_cases jk : j < x8.toInt
          · exact way q j j1 jk
          · have jk : j = x8.toInt := by omega
            rw [kM] at c
            have et' : (s.toInt / (hI h0 x0 11).toInt + j * (hI g11 x0 24).toInt) * (hI h0 x0 11).toInt + (s.toInt % (hI h0 x0 11).toInt + j * (hI g11 x0 23).toInt) = t.toInt := by
              rw [jk, et, e1, e2]
            rw [et']
            exact c) (by rw [s0]; exact a1) (by rw [s0]; exact a2) (by rw [one8]; omega) (by rw [one8]; omega) e'
        exact ⟨z1, z2, z3.trans kx, z4.trans ky⟩
      · have s1 : (x7 + (1 : Int32)).toInt = x7.toInt + 1 := ta (by show _ ≤ x7.toInt + 1 ∧ x7.toInt + 1 ≤ _; omega)
        obtain ⟨z1, z2, z3, z4⟩ := ih h' _ _ o fr' (kx ▸ ix) (ky ▸ iy) L' (by rw [s1]; intro q; omega) (by rw [s1]; omega) (by rw [s1]; omega) (by rw [one8]; omega) (by rw [one8]; omega) e'
        exact ⟨z1, z2, z3.trans kx, z4.trans ky⟩
    replace e := br_s e; rcases e with ⟨_, e⟩ | ⟨c4, e⟩
    · exact tail _ fr rfl rfl L e
    replace c4 : ¬ fr11 = 0 := c4
    -- where the step is noted
    have note : ∀ z : Int32, nOwn sd (hI h0 M' t.toNatClampNeg) → sX15_leadBy_168 F (sX15_leadBy_18 F f) g11 x0 b s sd st ct fl x7 x8 t (hI g11 M' t.toNatClampNeg) z = some o → LFr ρ x0 h0 o ∧ LedN S Fa M' Fl (hI h0 x0 11).toInt sq s sd h0 o ∧ hI o x0 23 = hI g11 x0 23 ∧ hI o x0 24 = hI g11 x0 24 := by
      intro z no e'
      unfold sX15_leadBy_168 at e'
      simp only [nm] at e'
      replace e' := cl_s e'; obtain ⟨S', es, e'⟩ := e'
      rw [fr.1] at es
      have := r_eq e25 es
      subst this
      replace e' := (gd_s e').2
      replace e' := cl_s e'; obtain ⟨F', ef, e'⟩ := e'
      replace ef : hR g11 x0 26 = some F' := ef
      rw [fr.1] at ef
      have := r_eq e26 ef
      subst this
      replace e' := (gd_s e').2
      replace e' := cl_s e'; obtain ⟨C', ec, e'⟩ := e'
      replace ec : hR g11 x0 27 = some C' := ec
      rw [fr.1] at ec
      have := r_eq e27 ec
      subst this
      replace e' := (gd_s e').2
      have nS : S' ≠ F' := fun q => absurd (q ▸ rS) (by rw [rFa]; decide)
      have nC : S' ≠ C' := fun q => absurd (q ▸ rS) (by rw [rCt]; decide)
      have nF : F' ≠ C' := fun q => absurd (q ▸ rFa) (by rw [rCt]; decide)
      refine tail _ (lfr_w (lfr_w (lfr_w fr (Or.inl rS)) (Or.inr (Or.inl rFa))) (Or.inr (Or.inr (Or.inl rCt)))) ?_ ?_ (led_w nS nC nF L t0 no ?_) e'
      · rw [r_I, if_neg (fun q => absurd (q.1 ▸ rx) (by rw [rCt]; decide)), r_I, if_neg (fun q => absurd (q.1 ▸ rx) (by rw [rFa]; decide)), r_I, if_neg (fun q => absurd (q.1 ▸ rx) (by rw [rS]; decide))]
      · rw [r_I, if_neg (fun q => absurd (q.1 ▸ rx) (by rw [rCt]; decide)), r_I, if_neg (fun q => absurd (q.1 ▸ rx) (by rw [rFa]; decide)), r_I, if_neg (fun q => absurd (q.1 ▸ rx) (by rw [rS]; decide))]
      · intro p
        have z7 : x7 = 0 := by
          rcases w11 with w | w | w
          · exact absurd w c4
          · exact w.2
          · rw [efl] at w
            rcases gf with g | g
            · exact absurd g w
            · exact absurd g p
        obtain ⟨y1, y2⟩ := dm (r := rr) Fp f0 f1
        exact ⟨_, _, by rw [et, y1, e2], by rw [et, y2, e1], fun j j1 j2 => way (by rw [z7]; rfl) j j1 j2⟩
    have both : ∀ z g : Int32, (¬ z = 0 → (hI h0 M' t.toNatClampNeg).toInt ≤ 0) → (¬ g = 0 → nOwn sd (hI h0 M' t.toNatClampNeg)) → sX15_leadBy_156 F (sX15_leadBy_18 F f) g11 x0 b s sd st ct fl x7 x8 t (hI g11 M' t.toNatClampNeg) z g = some o → LFr ρ x0 h0 o ∧ LedN S Fa M' Fl (hI h0 x0 11).toInt sq s sd h0 o ∧ hI o x0 23 = hI g11 x0 23 ∧ hI o x0 24 = hI g11 x0 24 := by
      intro z g hz hg e'
      unfold sX15_leadBy_156 at e'
      replace e' := br_s e'; rcases e' with ⟨_, e'⟩ | ⟨c, e'⟩
      · replace e' := br_s e'; rcases e' with ⟨_, e'⟩ | ⟨c, e'⟩
        · exact tail _ fr rfl rfl L e'
        · exact note z (hg c) e'
      · exact note z (Or.inl (hz c)) e'
    have by_ : ∀ z : Int32, (¬ z = 0 → (hI h0 M' t.toNatClampNeg).toInt ≤ 0) → sX15_leadBy_113 F (sX15_leadBy_18 F f) g11 x0 b s sd st ct fl x7 x8 t (hI g11 M' t.toNatClampNeg) z = some o → LFr ρ x0 h0 o ∧ LedN S Fa M' Fl (hI h0 x0 11).toInt sq s sd h0 o ∧ hI o x0 23 = hI g11 x0 23 ∧ hI o x0 24 = hI g11 x0 24 := by
      intro z hz e'
      unfold sX15_leadBy_113 sX15_leadBy_140 at e'
      replace e' := br_s e'; rcases e' with ⟨c, e'⟩ | ⟨c, e'⟩
      · replace c := le_i c
        rw [kM] at c
        replace e' := br_s e'; rcases e' with ⟨_, e'⟩ | ⟨_, e'⟩
        · exact both z _ hz (fun _ => Or.inl c) e'
        · exact both z _ hz (fun _ => Or.inl c) e'
      · replace e' := cl_s e'; obtain ⟨o3, e3, e'⟩ := e'
        unfold sX15_sideOf at e3
        have := Option.some.inj e3
        subst this
        replace e' := br_s e'; rcases e' with ⟨_, e'⟩ | ⟨c', e'⟩
        · exact both z _ hz (fun q => absurd rfl q) e'
        · replace c' : ¬ (hI g11 M' t.toNatClampNeg - (1 : Int32)) &&& (1 : Int32) = sd := c'
          rw [kM] at c'
          replace e' := br_s e'; rcases e' with ⟨_, e'⟩ | ⟨_, e'⟩
          · exact both z _ hz (fun _ => Or.inr c') e'
          · exact both z _ hz (fun q => absurd rfl q) e'
    replace e := cl_s e; obtain ⟨S', es, e⟩ := e
    rw [fr.1] at es
    have := r_eq e25 es
    subst this
    replace e := (gd_s e).2
    replace e := br_s e; rcases e with ⟨_, e⟩ | ⟨_, e⟩
    · unfold sX15_leadBy_112 at e
      replace e := br_s e; rcases e with ⟨_, e⟩ | ⟨_, e⟩
      · exact by_ _ (fun q => absurd rfl q) e
      replace e := br_s e; rcases e with ⟨_, e⟩ | ⟨_, e⟩
      · exact by_ _ (fun q => absurd rfl q) e
      replace e := cl_s e; obtain ⟨o18, e18, e⟩ := e
      obtain ⟨h18, w18⟩ := gone_over (by rw [fr.1]; exact eM) (by rw [fr.1]; exact eP) (kb 3 ▸ ip) peh e18
      obtain ⟨v18, g18⟩ := o18
      have : g18 = g11 := h18
      subst this
      replace e := br_s e; rcases e with ⟨_, e⟩ | ⟨c6, e⟩
      · exact by_ _ (fun q => absurd rfl q) e
      · exact by_ _ (fun _ => by
          rcases w18 with w | w
          · exact absurd w c6
          · rw [kM] at w; exact w) e
    · exact tail _ fr rfl rfl L e
theorem led_c {S Fa M Fl : Nat} {F sq : Int} {s sd : Int32} {h0 h h' : Hp} (L : LedN S Fa M Fl F sq s sd h0 h) (k1 : ∀ t, hI h' S t = hI h S t) (k2 : ∀ t, hI h' Fa t = hI h Fa t) : LedN S Fa M Fl F sq s sd h0 h' := fun t h1 h2 => by
  rw [k1] at h2 ⊢
  rw [k2]
  exact L t h1 h2
theorem rank_post {h : Hp} {x0 : Nat} {q sd : Int32} {o : Int32 × Hp} (e : sX15_rankFor h x0 q sd = some o) : o.2 = h ∧ (o.1 = (q / (hI h x0 11)) + (1 : Int32) ∨ o.1 = (hI h x0 12) - (q / (hI h x0 11))) := by
  unfold sX15_rankFor sX15_rankFor_26 at e
  replace e := br_s e; rcases e with ⟨_, e⟩ | ⟨_, e⟩
  · have := Option.some.inj (gd_s e).2; exact ⟨by rw [← this], Or.inl (by rw [← this])⟩
  · have := Option.some.inj (gd_s e).2; exact ⟨by rw [← this], Or.inr (by rw [← this])⟩
theorem from_post {h : Hp} {x0 : Nat} {st q sd : Int32} {o : Int32 × Hp} (e : sX15_isFrom h x0 st q sd = some o) : o.2 = h := by
  unfold sX15_isFrom sX15_isFrom_30 sX15_isFrom_35 at e
  replace e := cl_s e; obtain ⟨_, _, e⟩ := e
  replace e := cl_s e; obtain ⟨_, _, e⟩ := e
  replace e := (gd_s e).2
  replace e := br_s e; rcases e with ⟨_, e⟩ | ⟨_, e⟩
  · rw [← Option.some.inj (gd_s e).2]
  replace e := cl_s e; obtain ⟨_, _, e⟩ := e
  replace e := cl_s e; obtain ⟨_, _, e⟩ := e
  replace e := (gd_s e).2
  replace e := cl_s e; obtain ⟨o8, e8, e⟩ := e
  have q := (rank_post e8).1
  replace e := br_s e; rcases e with ⟨_, e⟩ | ⟨_, e⟩
  · rw [← Option.some.inj (gd_s e).2]; exact q
  · rw [← Option.some.inj (gd_s e).2]; exact q
section
variable {h : Hp} {x0 : Nat} {o : Int32 × Hp}
theorem hv_170 {x4 x5 x6 : Int32} (e : sX15_hasVector_170 h x4 x5 x6 = some o) : o.2 = h := by
  unfold sX15_hasVector_170 sX15_hasVector_188 sX15_hasVector_192 sX15_hasVector_193 at e
  replace e := br_s e; rcases e with ⟨_, e⟩ | ⟨_, e⟩
  · rw [← Option.some.inj (gd_s e).2]
  replace e := br_s e; rcases e with ⟨_, e⟩ | ⟨_, e⟩
  · rw [← Option.some.inj (gd_s e).2]
  · rw [← Option.some.inj (gd_s e).2]
theorem hv_159 {x2 x4 x5 x6 x8 : Int32} (e : sX15_hasVector_159 h x2 x4 x5 x6 x8 = some o) : o.2 = h := by
  unfold sX15_hasVector_159 at e
  replace e := br_s e; rcases e with ⟨_, e⟩ | ⟨_, e⟩
  · exact hv_170 e
  replace e := br_s e; rcases e with ⟨_, e⟩ | ⟨_, e⟩
  · unfold sX15_hasVector_192 sX15_hasVector_193 at e
    rw [← Option.some.inj (gd_s e).2]
  · exact hv_170 e
theorem hv_145 {x2 x4 x5 x6 x7 x8 t0 : Int32} {t1 : Nat} (e : sX15_hasVector_145 h x2 x4 x5 x6 x7 x8 t0 t1 = some o) : o.2 = wI h t1 24 t0 := by
  unfold sX15_hasVector_145 at e
  simp only [nm] at e
  replace e := br_s e; rcases e with ⟨_, e⟩ | ⟨_, e⟩
  · exact hv_159 e
  replace e := br_s e; rcases e with ⟨_, e⟩ | ⟨_, e⟩
  · unfold sX15_hasVector_192 sX15_hasVector_193 at e
    rw [← Option.some.inj (gd_s e).2]
  · exact hv_159 e
theorem rg_n7 {x : Int32} (i : Rg (-7) 7 x) : Rg (-7) 7 ((0 : Int32) - x) := rg_sub (a := 0) (b := 0) (rg_b rfl) i (by decide)
theorem hv_94 {x2 x4 x5 x6 t0 : Int32} (i4 : Rg (-7) 7 x4) (i5 : Rg (-7) 7 x5) (i0 : Rg (-7) 7 t0) (e : sX15_hasVector_94 h x0 x2 x4 x5 x6 t0 = some o) : ∃ d1 d2, o.2 = wI (wI h x0 23 d1) x0 24 d2 ∧ Rg (-7) 7 d1 ∧ Rg (-7) 7 d2 := by
  have fin : ∀ t x7, Rg (-7) 7 t → Rg (-7) 7 x7 → sX15_hasVector_108 h x0 x2 x4 x5 x6 x7 t = some o → ∃ d1 d2, o.2 = wI (wI h x0 23 d1) x0 24 d2 ∧ Rg (-7) 7 d1 ∧ Rg (-7) 7 d2 := by
    intro t x7 it i7 e
    unfold sX15_hasVector_108 sX15_hasVector_126 at e
    simp only [nm] at e
    replace e := br_s e; rcases e with ⟨_, e⟩ | ⟨_, e⟩
    · replace e := br_s e; rcases e with ⟨_, e⟩ | ⟨_, e⟩
      · exact ⟨_, _, hv_145 e, i7, it⟩
      · exact ⟨_, _, hv_145 e, i7, rg_n7 it⟩
    · replace e := br_s e; rcases e with ⟨_, e⟩ | ⟨_, e⟩
      · exact ⟨_, _, hv_145 e, rg_n7 i7, it⟩
      · exact ⟨_, _, hv_145 e, rg_n7 i7, rg_n7 it⟩
  unfold sX15_hasVector_94 at e
  replace e := br_s e; rcases e with ⟨_, e⟩ | ⟨_, e⟩
  · exact fin _ _ i5 i0 e
  · exact fin _ _ i4 i0 e
theorem hv_post {R A B : Nat} {st d sd : Int32} (eR : hR h x0 4 = some R) (eA : hR h R 6 = some A) (eB : hR h R 7 = some B) (iA : ∀ i, Rg (-7) 7 (hI h A i)) (iB : ∀ i, Rg (-7) 7 (hI h B i)) (e : sX15_hasVector h x0 st d sd = some o) : ∃ d1 d2, o.2 = wI (wI h x0 23 d1) x0 24 d2 ∧ Rg (-7) 7 d1 ∧ Rg (-7) 7 d2 := by
  unfold sX15_hasVector at e
  simp only [nm] at e
  replace e := cl_s e; obtain ⟨R', e1, e⟩ := e
  have := r_eq eR e1
  subst this
  replace e := cl_s e; obtain ⟨A', e2, e⟩ := e
  have := r_eq eA e2
  subst this
  replace e := (gd_s e).2
  replace e := cl_s e; obtain ⟨R2, e3, e⟩ := e
  have := r_eq e1 e3
  subst this
  replace e := cl_s e; obtain ⟨B', e4, e⟩ := e
  have := r_eq eB e4
  subst this
  replace e := (gd_s e).2
  replace e := cl_s e; obtain ⟨_, _, e⟩ := e
  replace e := cl_s e; obtain ⟨_, _, e⟩ := e
  replace e := (gd_s e).2
  replace e := br_s e; rcases e with ⟨_, e⟩ | ⟨_, e⟩
  · unfold sX15_hasVector_80 at e
    rcases br_s e with ⟨_, e⟩ | ⟨_, e⟩ <;> rcases br_s e with ⟨_, e⟩ | ⟨_, e⟩
    · exact hv_94 (iA _) (iB _) (iA _) e
    · exact hv_94 (iA _) (iB _) (iB _) e
    · exact hv_94 (iA _) (iB _) (iA _) e
    · exact hv_94 (iA _) (iB _) (iB _) e
  · unfold sX15_hasVector_56 sX15_hasVector_68 at e
    simp only [nm] at e
    rcases br_s e with ⟨_, e⟩ | ⟨_, e⟩ <;> rcases br_s e with ⟨_, e⟩ | ⟨_, e⟩
    · exact ⟨_, _, by rw [← Option.some.inj (gd_s e).2], iA _, iB _⟩
    · exact ⟨_, _, by rw [← Option.some.inj (gd_s e).2], iA _, iB _⟩
    · exact ⟨_, _, by rw [← Option.some.inj (gd_s e).2], iA _, rg_n7 (iB _)⟩
    · exact ⟨_, _, by rw [← Option.some.inj (gd_s e).2], iA _, rg_n7 (iB _)⟩
end
/-- where a step of the man on s leads: no own man stands there, and with pass all squares between are empty -/
def LedOk (x0 b : Nat) (s sd : Int32) (h : Hp) : Prop := ∀ S Fa M R Fl, hR h x0 25 = some S → hR h x0 26 = some Fa → hR h b 0 = some M → hR h x0 4 = some R → hR h R 5 = some Fl → LedN S Fa M Fl (hI h x0 11).toInt (hI h x0 13).toInt s sd h h
theorem lead_post {ρ : Nat → Nat} {c : Cm} {F x0 b : Nat} {h0 : Hp} {s ct : Int32} {o : Hp} (T : TH ρ c h0) (rx : ρ x0 = 16) (rb : ρ b = 13) (is : Rg 0 63 s) (pe : PE b h0) (e : sX15_lead F h0 x0 b s ct = some o) :
    ∀ M, hR h0 b 0 = some M → LedOk x0 b s ((hI h0 M s.toNatClampNeg - (1 : Int32)) &&& (1 : Int32)) o := by
  intro M eM
  obtain ⟨S, e25, rS⟩ := thR T rx (i := 25) (k2 := 87) rfl (by decide)
  obtain ⟨Fa, e26, rFa⟩ := thR T rx (i := 26) (k2 := 88) rfl (by decide)
  obtain ⟨Ct, e27, rCt⟩ := thR T rx (i := 27) (k2 := 89) rfl (by decide)
  obtain ⟨M', eM', rM⟩ := thR T rb (i := 0) (k2 := 62) rfl (by decide)
  have := r_eq eM' eM
  subst this
  obtain ⟨P, eP, rP'⟩ := thR T rb (i := 4) (k2 := 63) rfl (by decide)
  obtain ⟨R, eR, rR⟩ := thR T rx (i := 4) (k2 := 15) rfl (by decide)
  obtain ⟨Fl, eFl, rFl⟩ := thR T rR (i := 5) (k2 := 75) rfl (by decide)
  obtain ⟨A, eA, rA⟩ := thR T rR (i := 6) (k2 := 76) rfl (by decide)
  obtain ⟨B, eB, rB⟩ := thR T rR (i := 7) (k2 := 77) rfl (by decide)
  obtain ⟨Ri, eRi, rRi⟩ := thR T rR (i := 8) (k2 := 78) rfl (by decide)
  have iF : Rg 3 8 (hI h0 x0 11) := thI T rx rfl
  have iR : Rg 3 8 (hI h0 x0 12) := thI T rx rfl
  have i13 : Rg 9 64 (hI h0 x0 13) := thI T rx rfl
  have ip : Rg 0 64 (hI h0 b 3) := thI T rb rfl
  have iri : ∀ i, Rg 0 7 (hI h0 Ri i) := fun i => thI T rRi rfl
  have iA : ∀ i, Rg (-7) 7 (hI h0 A i) := fun i => thI T rA rfl
  have iB : ∀ i, Rg (-7) 7 (hI h0 B i) := fun i => thI T rB rfl
  have gf : ∀ i, FL (hI h0 Fl i) := fun i => thF T rFl
  have nxS : S ≠ x0 := fun q => absurd (q ▸ rS) (by rw [rx]; decide)
  have nxF : Fa ≠ x0 := fun q => absurd (q ▸ rFa) (by rw [rx]; decide)
  unfold sX15_lead at e
  replace e := cl_s e; obtain ⟨M2, em, e⟩ := e
  have := r_eq eM em
  subst this
  replace e := (gd_s e).2
  simp only [nm] at e
  replace e := cl_s e; obtain ⟨o4, e4, e⟩ := e
  unfold sX15_sideOf at e4
  have := Option.some.inj e4
  subst this
  replace e : sX15_lead_18 F F h0 x0 b s ct (hI h0 M2 s.toNatClampNeg) ((hI h0 M2 s.toNatClampNeg - (1 : Int32)) &&& (1 : Int32)) (0 : Int32) = some o := e
  generalize (hI h0 M2 s.toNatClampNeg - (1 : Int32)) &&& (1 : Int32) = sd at e ⊢
  generalize hI h0 M2 s.toNatClampNeg = v at e
  -- the steps
  have dirs : ∀ (k44 : Hp → Nat → Nat → Int32 → Int32 → Int32 → Int32 → Int32 → Option Hp) (x6 x7 : Int32), (∀ h x6', LFr ρ x0 h0 h → Rg (-7) 7 (hI h x0 23) → Rg (-7) 7 (hI h x0 24) → LedN S Fa M2 Fl (hI h0 x0 11).toInt (hI h0 x0 13).toInt s sd h0 h → k44 h x0 b s ct v sd x6' = some o → LFr ρ x0 h0 o ∧ LedN S Fa M2 Fl (hI h0 x0 11).toInt (hI h0 x0 13).toInt s sd h0 o) → ∀ (f : Nat) (h : Hp) (x8 : Int32), LFr ρ x0 h0 h → Rg (-7) 7 (hI h x0 23) → Rg (-7) 7 (hI h x0 24) → LedN S Fa M2 Fl (hI h0 x0 11).toInt (hI h0 x0 13).toInt s sd h0 h → sX15_lead_78 F k44 f h x0 b s ct v sd x6 x7 x8 = some o → LFr ρ x0 h0 o ∧ LedN S Fa M2 Fl (hI h0 x0 11).toInt (hI h0 x0 13).toInt s sd h0 o := by
    intro k44 x6 x7 hk f
    induction f with
    | zero => intro h x8 _ _ _ _ e; exact absurd e (by simp [sX15_lead_78])
    | succ f ih =>
      intro h x8 fr ix iy L e
      unfold sX15_lead_78 at e
      replace e := br_s e; rcases e with ⟨_, e⟩ | ⟨_, e⟩
      · unfold sX15_lead_127 at e
        simp only [nm] at e
        exact hk _ _ fr ix iy L e
      replace e := cl_s e; obtain ⟨o2, e2, e⟩ := e
      have h2 := from_post e2
      obtain ⟨v2, g2⟩ := o2
      have : g2 = h := h2
      subst this
      replace e := br_s e; rcases e with ⟨_, e⟩ | ⟨_, e⟩
      · unfold sX15_lead_127 at e
        simp only [nm] at e
        exact hk _ _ fr ix iy L e
      replace e := cl_s e; obtain ⟨o4, e4, e⟩ := e
      obtain ⟨d1, d2, w, i1, i2⟩ := hv_post (h := g2) (R := R) (A := A) (B := B) (by rw [fr.1]; exact eR) (by rw [fr.1]; exact eA) (by rw [fr.1]; exact eB) (fun i => by rw [fr.2.2 A i (by rw [rA]; decide) (by rw [rA]; decide) (by rw [rA]; decide) (fun q => absurd (q.1 ▸ rA) (by rw [rx]; decide))]; exact iA i) (fun i => by rw [fr.2.2 B i (by rw [rB]; decide) (by rw [rB]; decide) (by rw [rB]; decide) (fun q => absurd (q.1 ▸ rB) (by rw [rx]; decide))]; exact iB i) e4
      obtain ⟨v4, g4⟩ := o4
      replace w : g4 = _ := w
      have fr4 : LFr ρ x0 h0 g4 := by rw [w]; exact lfr_w (lfr_w fr (Or.inr (Or.inr (Or.inr ⟨rfl, Or.inl rfl⟩)))) (Or.inr (Or.inr (Or.inr ⟨rfl, Or.inr rfl⟩)))
      have j1 : Rg (-7) 7 (hI g4 x0 23) := by rw [w, r_I, if_neg (by simp), r_I, if_pos ⟨rfl, rfl⟩]; exact i1
      have j2 : Rg (-7) 7 (hI g4 x0 24) := by rw [w, r_I, if_pos ⟨rfl, rfl⟩]; exact i2
      have L4 : LedN S Fa M2 Fl (hI h0 x0 11).toInt (hI h0 x0 13).toInt s sd h0 g4 := led_c L (fun t => by rw [w, r_I, if_neg (fun q => nxS q.1), r_I, if_neg (fun q => nxS q.1)]) (fun t => by rw [w, r_I, if_neg (fun q => nxF q.1), r_I, if_neg (fun q => nxF q.1)])
      replace e := br_s e; rcases e with ⟨_, e⟩ | ⟨_, e⟩
      · unfold sX15_lead_121 at e
        simp only [nm] at e
        exact ih _ _ fr4 j1 j2 L4 e
      replace e := cl_s e; obtain ⟨o6, e6, e⟩ := e
      unfold sX15_leadBy at e6
      replace e6 := cl_s e6; obtain ⟨R', q1, e6⟩ := e6
      replace q1 : hR g4 x0 4 = some R' := q1
      rw [fr4.1] at q1
      have := r_eq eR q1
      subst this
      replace e6 := cl_s e6; obtain ⟨Fl', q2, e6⟩ := e6
      replace q2 : hR g4 R' 5 = some Fl' := q2
      rw [fr4.1] at q2
      have := r_eq eFl q2
      subst this
      replace e6 := (gd_s e6).2
      simp only [nm] at e6
      have kFl : hI g4 Fl' x7.toNatClampNeg = hI h0 Fl' x7.toNatClampNeg := fr4.2.2 Fl' _ (by rw [rFl]; decide) (by rw [rFl]; decide) (by rw [rFl]; decide) (fun q => absurd (q.1 ▸ rFl) (by rw [rx]; decide))
      replace e6 : sX15_leadBy_18 F F g4 x0 b s sd x7 ct (hI g4 Fl' x7.toNatClampNeg) (0 : Int32) (1 : Int32) = some o6 := e6
      obtain ⟨z1, z2, z3, z4⟩ := lb_loop (Fl := Fl') rx rb rS rFa rCt rM rP' rR rRi e25 e26 e27 eM eP eR eRi pe iF iR ip is iri (gf _) kFl F g4 _ _ o6 fr4 j1 j2 L4 (fun _ j a b => absurd b (by show ¬ j < 1; omega)) (by decide) (by decide) (by decide) (by decide) e6
      unfold sX15_lead_121 at e
      simp only [nm] at e
      exact ih _ _ z1 (z3 ▸ j1) (z4 ▸ j2) z2 e
  have steps : ∀ (f : Nat) (h : Hp) (x6 : Int32), LFr ρ x0 h0 h → Rg (-7) 7 (hI h x0 23) → Rg (-7) 7 (hI h x0 24) → LedN S Fa M2 Fl (hI h0 x0 11).toInt (hI h0 x0 13).toInt s sd h0 h → sX15_lead_44 F f h x0 b s ct v sd x6 = some o → LFr ρ x0 h0 o ∧ LedN S Fa M2 Fl (hI h0 x0 11).toInt (hI h0 x0 13).toInt s sd h0 o := by
    intro f
    induction f with
    | zero => intro h x6 _ _ _ _ e; exact absurd e (by simp [sX15_lead_44])
    | succ f ih =>
      intro h x6 fr ix iy L e
      unfold sX15_lead_44 at e
      replace e := cl_s e; obtain ⟨_, _, e⟩ := e
      replace e := cl_s e; obtain ⟨_, _, e⟩ := e
      replace e := cl_s e; obtain ⟨o3, e3, e⟩ := e
      unfold sX15_manOf at e3
      have := Option.some.inj e3
      subst this
      replace e := (gd_s e).2
      replace e := br_s e; rcases e with ⟨_, e⟩ | ⟨_, e⟩
      · have := Option.some.inj e
        subst this
        exact ⟨fr, L⟩
      replace e := cl_s e; obtain ⟨o6, e6, e⟩ := e
      unfold sX15_manOf at e6
      have := Option.some.inj e6
      subst this
      simp only [nm] at e
      exact dirs _ x6 _ (fun h x6' a b c d e => ih h x6' a b c d e) F h _ fr ix iy L e
  have clear : ∀ (f : Nat) (h : Hp) (x6 : Int32), LFr ρ x0 h0 h → hI h x0 23 = hI h0 x0 23 → hI h x0 24 = hI h0 x0 24 → 0 ≤ x6.toInt → x6.toInt ≤ 64 → (∀ t : Nat, (t : Int) < x6.toInt → hI h S t = (-1 : Int32)) → sX15_lead_18 F f h x0 b s ct v sd x6 = some o → LFr ρ x0 h0 o ∧ LedN S Fa M2 Fl (hI h0 x0 11).toInt (hI h0 x0 13).toInt s sd h0 o := by
    intro f
    induction f with
    | zero => intro h x6 _ _ _ _ _ _ e; exact absurd e (by simp [sX15_lead_18])
    | succ f ih =>
      intro h x6 fr kx ky a1 a2 cl0 e
      unfold sX15_lead_18 at e
      have k13 : hI h x0 13 = hI h0 x0 13 := fr.2.2 x0 13 (by rw [rx]; decide) (by rw [rx]; decide) (by rw [rx]; decide) (by simp)
      replace e := br_s e; rcases e with ⟨c1, e⟩ | ⟨c1, e⟩
      · replace c1 := le_i c1
        rw [k13] at c1
        refine steps F h _ fr (kx ▸ thI T rx rfl) (ky ▸ thI T rx rfl) (fun t t1 t2 => ?_) e
        rw [cl0 t (by omega)] at t2
        exact absurd t2 (by decide)
      replace c1 := nle_i c1
      rw [k13] at c1
      replace e := cl_s e; obtain ⟨S', es, e⟩ := e
      rw [fr.1] at es
      have := r_eq e25 es
      subst this
      replace e := (gd_s e).2
      simp only [nm] at e
      have i2 := i13.2
      have one : (x6 + (1 : Int32)).toInt = x6.toInt + 1 := ta (by show _ ≤ x6.toInt + 1 ∧ x6.toInt + 1 ≤ _; omega)
      refine ih _ _ (lfr_w fr (Or.inl rS)) (by rw [r_I, if_neg (fun q => nxS q.1.symm)]; exact kx) (by rw [r_I, if_neg (fun q => nxS q.1.symm)]; exact ky) (by rw [one]; omega) (by rw [one]; omega) (fun t ht => ?_) e
      rw [one] at ht
      rw [r_I]
      by_cases q : t = x6.toNatClampNeg
      · rw [if_pos ⟨rfl, q⟩]
      · rw [if_neg (fun w => q w.2)]
        exact cl0 t (by have := nc_i a1; omega)
  obtain ⟨fr, L⟩ := clear F h0 _ lfr_r rfl rfl (by decide) (by decide) (fun t ht => absurd ht (by show ¬ (t : Int) < 0; omega)) e
  intro S1 Fa1 M1 R1 Fl1 p1 p2 p3 p4 p5
  rw [fr.1] at p1 p2 p3 p4 p5
  have q1 := r_eq e25 p1
  have q2 := r_eq e26 p2
  have q3 := r_eq eM p3
  have q4 := r_eq eR p4
  subst q4
  have q5 := r_eq eFl p5
  subst q1; subst q2; subst q3; subst q5
  have kM : ∀ i, hI o M1 i = hI h0 M1 i := fun i => fr.2.2 M1 i (by rw [rM]; decide) (by rw [rM]; decide) (by rw [rM]; decide) (fun q => absurd (q.1 ▸ rM) (by rw [rx]; decide))
  have kFl : ∀ i, hI o Fl1 i = hI h0 Fl1 i := fun i => fr.2.2 Fl1 i (by rw [rFl]; decide) (by rw [rFl]; decide) (by rw [rFl]; decide) (fun q => absurd (q.1 ▸ rFl) (by rw [rx]; decide))
  have k11 : hI o x0 11 = hI h0 x0 11 := fr.2.2 x0 11 (by rw [rx]; decide) (by rw [rx]; decide) (by rw [rx]; decide) (by simp)
  have k13 : hI o x0 13 = hI h0 x0 13 := fr.2.2 x0 13 (by rw [rx]; decide) (by rw [rx]; decide) (by rw [rx]; decide) (by simp)
  intro t t1 t2
  rw [k13] at t1
  have := L t t1 t2
  rw [kM, kFl, k11]
  refine ⟨this.1, fun p => ?_⟩
  obtain ⟨dx, dy, w1, w2, w3⟩ := this.2 p
  exact ⟨dx, dy, w1, w2, fun j j1 j2 => by rw [kM]; exact w3 j j1 j2⟩
end
