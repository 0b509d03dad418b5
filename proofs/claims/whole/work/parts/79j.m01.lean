section
/-! men on the board and in hand, counted -/
def mC (g : Nat → Int32) : Nat → Int
  | 0 => 0
  | n + 1 => mC g n + if 0 < (g n).toInt then 1 else 0
theorem mc_0 (g : Nat → Int32) : ∀ n, 0 ≤ mC g n := by
  intro n
  induction n with
  | zero => exact Int.le_refl _
  | succ n ih => rw [mC]; split <;> omega
theorem mc_le (g : Nat → Int32) : ∀ n, mC g n ≤ n := by
  intro n
  induction n with
  | zero => exact Int.le_refl _
  | succ n ih => rw [mC]; split <;> omega
theorem mc_eq {g g' : Nat → Int32} : ∀ n, (∀ i, i < n → g' i = g i) → mC g' n = mC g n := by
  intro n
  induction n with
  | zero => intro _; rfl
  | succ n ih => intro h; rw [mC, mC, ih (fun i hi => h i (by omega)), h n (by omega)]
theorem mc_up {g g' : Nat → Int32} {q : Nat} : ∀ n, q < n → (∀ i, i < n → ¬ i = q → g' i = g i) → mC g' n = mC g n - (if 0 < (g q).toInt then 1 else 0) + (if 0 < (g' q).toInt then 1 else 0) := by
  intro n
  induction n with
  | zero => intro h _; omega
  | succ n ih =>
    intro hq h
    rw [mC, mC]
    by_cases z : q = n
    · rw [mc_eq n (fun i hi => h i (by omega) (by omega)), z]; omega
    · rw [ih (by omega) (fun i hi => h i (by omega)), h n (by omega) (fun w => z w.symm)]; omega
theorem sh_eq {h o : Hp} {H d : Nat} : ∀ n, (∀ i, i < n → hI o H (2 * i + d) = hI h H (2 * i + d)) → sH o H d n = sH h H d n := by
  intro n
  induction n with
  | zero => intro _; rfl
  | succ n ih => intro k; rw [sH, sH, ih (fun i hi => k i (by omega)), k n (by omega)]
theorem sh_eq2 {h o : Hp} {H H' d : Nat} : ∀ n, (∀ i, i < n → hI o H' (2 * i + d) = hI h H (2 * i + d)) → sH o H' d n = sH h H d n := by
  intro n
  induction n with
  | zero => intro _; rfl
  | succ n ih => intro k; rw [sH, sH, ih (fun i hi => k i (by omega)), k n (by omega)]
theorem sh_up {h o : Hp} {H d q : Nat} : ∀ n, q < n → (∀ i, i < n → ¬ i = q → hI o H (2 * i + d) = hI h H (2 * i + d)) → sH o H d n = sH h H d n - (hI h H (2 * q + d)).toInt + (hI o H (2 * q + d)).toInt := by
  intro n
  induction n with
  | zero => intro h _; omega
  | succ n ih =>
    intro hq k
    rw [sH, sH]
    by_cases z : q = n
    · rw [sh_eq n (fun i hi => k i (by omega) (by omega)), z]; omega
    · rw [ih (by omega) (fun i hi => k i (by omega)), k n (by omega) (fun w => z w.symm)]; omega
/-- all men of a board -/
def tot (M H : Nat) (h : Hp) : Int := mC (hI h M) 64 + sH h H 0 12 + sH h H 1 12
theorem tot_M {h o : Hp} {M H q : Nat} {v : Int32} (hq : q < 64) (kH : ∀ i, hI o H i = hI h H i) (kM : ∀ i, hI o M i = if i = q then v else hI h M i) : tot M H o = tot M H h - (if 0 < (hI h M q).toInt then 1 else 0) + (if 0 < v.toInt then 1 else 0) := by
  unfold tot
  rw [sh_eq 12 (fun i _ => kH _), sh_eq 12 (fun i _ => kH _), mc_up (g := hI h M) (q := q) 64 hq (fun i _ n => by rw [kM, if_neg n]), kM q, if_pos rfl]
  omega
theorem tot_H {h o : Hp} {M H j : Nat} {v : Int32} (hj : j < 24) (kM : ∀ i, hI o M i = hI h M i) (kH : ∀ i, hI o H i = if i = j then v else hI h H i) : tot M H o = tot M H h - (hI h H j).toInt + v.toInt := by
  unfold tot
  rw [mc_eq 64 (fun i _ => kM i)]
  obtain ⟨q, hq⟩ : ∃ q, q = j / 2 := ⟨_, rfl⟩
  have ev : hI o H j = v := by rw [kH, if_pos rfl]
  rcases Nat.mod_two_eq_zero_or_one j with z | z
  · have ej : 2 * q + 0 = j := by omega
    rw [sh_up (d := 0) (q := q) (h := h) 12 (by omega) (fun i _ n => by rw [kH, if_neg (by omega)]), sh_eq (h := h) (d := 1) 12 (fun i _ => by rw [kH, if_neg (by omega)]), ej, ev]; omega
  · have ej : 2 * q + 1 = j := by omega
    rw [sh_up (d := 1) (q := q) (h := h) 12 (by omega) (fun i _ n => by rw [kH, if_neg (by omega)]), sh_eq (h := h) (d := 0) 12 (fun i _ => by rw [kH, if_neg (by omega)]), ej, ev]; omega
theorem crt_sub {a b : Int64} : ∀ n, (∀ i, i < n → bitJ b i = true → bitJ a i = true) → cRt b n ≤ cRt a n := by
  intro n
  induction n with
  | zero => intro _; exact Nat.le_refl _
  | succ n ih =>
    intro k
    rw [cRt, cRt]
    have := ih (fun i hi => k i (by omega))
    have kn := k n (by omega)
    cases w : bitJ b n with
    | false => simp; omega
    | true => rw [kn w]; simp; omega
theorem crt_and (a b : Int64) (n : Nat) : cRt (a &&& b) n ≤ cRt a n := crt_sub n (fun i _ w => by
  rw [bj_and] at w
  simp at w
  exact w.1)
/-- a board that can be written: few men, few rights, few squares gone over; who went over them stands on the first -/
def WrE (zq : Nat) (b : Nat) (h : Hp) : Prop := (∀ M H, hR h b 0 = some M → hR h b 5 = some H → tot M H h ≤ 96) ∧ cRt (hJ h b 2) zq ≤ 16 ∧ (hI h b 3).toInt ≤ 8 ∧ (0 < (hI h b 3).toInt → ∀ M P, hR h b 0 = some M → hR h b 4 = some P → 0 < (hI h M (hI h P 0).toNatClampNeg).toInt ∧ ¬ (hI h M (hI h P 0).toNatClampNeg - (1 : Int32)) &&& (1 : Int32) = hI h b 1)
section
variable {zq : Nat} {ρ : Nat → Nat} {c : Cm} {h o h2 : Hp} {x0 x1 b : Nat} {S : Nat → Nat → Nat → Bool}
theorem wr_fr (T : TH ρ c h) (rb : ρ b = 13) (f : Fr ρ (cat c S h) h h2) (s0 : ∀ i, i < 6 → S 13 (cw c b) i = false) (s4 : ∀ i, S 62 (cw c b) i = false) (s5 : ∀ i, S 63 (cw c b) i = false) (s6 : ∀ i, S 64 (cw c b) i = false) (P : WrE zq b h) : WrE zq b h2 := by
  have g : ∀ {a k j : Nat}, ρ a = k → k ≠ 0 → S k (cw c a) j = false → hI h2 a j = hI h a j ∧ hJ h2 a j = hJ h a j ∧ hR h2 a j = hR h a j := fun {a k j} ha hk hs => f.1 a j (by rw [ha]; exact hk) (by rw [ha]; exact hs)
  have g0 : ∀ {j : Nat}, j < 6 → hI h2 b j = hI h b j ∧ hJ h2 b j = hJ h b j ∧ hR h2 b j = hR h b j := fun hj => g rb (by decide) (s0 _ hj)
  obtain ⟨p1, p2, p3, p4⟩ := P
  have kM : ∀ {M i : Nat}, hR h b 0 = some M → hI h2 M i = hI h M i := fun {M i} e => (g (rr T (thR T rb (i := 0) (k2 := 62) rfl (by decide)) e) (by decide) (by rw [th_ih T rb (by decide) e rfl]; exact s4 _)).1
  have kP : ∀ {M i : Nat}, hR h b 4 = some M → hI h2 M i = hI h M i := fun {M i} e => (g (rr T (thR T rb (i := 4) (k2 := 63) rfl (by decide)) e) (by decide) (by rw [th_ih T rb (by decide) e rfl]; exact s5 _)).1
  have kH : ∀ {M i : Nat}, hR h b 5 = some M → hI h2 M i = hI h M i := fun {M i} e => (g (rr T (thR T rb (i := 5) (k2 := 64) rfl (by decide)) e) (by decide) (by rw [th_ih T rb (by decide) e rfl]; exact s6 _)).1
  refine ⟨fun M H e1 e2 => ?_, ?_, ?_, fun n M P e1 e2 => ?_⟩
  · rw [(g0 (by decide)).2.2] at e1 e2
    have := p1 M H e1 e2
    unfold tot at this ⊢
    rw [mc_eq 64 (fun i _ => kM e1), sh_eq 12 (fun i _ => kH e2), sh_eq 12 (fun i _ => kH e2)]
    exact this
  · rw [(g0 (by decide)).2.1]; exact p2
  · rw [(g0 (by decide)).1]; exact p3
  · rw [(g0 (by decide)).2.2] at e1 e2
    rw [(g0 (by decide)).1] at n
    rw [kP e2, kM e1, (g0 (by decide)).1]
    exact p4 n M P e1 e2
/-- what copy does to rights and lengths -/
theorem cpy_j (e : sX12_copy h x0 x1 = some o) : (∀ i, hJ o x0 2 = hJ h x1 2 ∧ (¬ i = 2 → hJ o x0 i = hJ h x0 i)) ∧ (∀ a i, ¬ a = x0 → hJ o a i = hJ h a i) ∧ (∀ a, hN o a = hN h a) := by
  unfold sX12_copy at e
  simp only [nm] at e
  replace e := cl_s e; obtain ⟨_, _, e⟩ := e
  replace e := cl_s e; obtain ⟨_, _, e⟩ := e
  iterate 5 replace e := (gd_s e).2
  replace e := cl_s e; obtain ⟨_, _, e⟩ := e
  replace e := cl_s e; obtain ⟨_, _, e⟩ := e
  iterate 5 replace e := (gd_s e).2
  replace e := cl_s e; obtain ⟨_, _, e⟩ := e
  replace e := cl_s e; obtain ⟨_, _, e⟩ := e
  iterate 5 replace e := (gd_s e).2
  replace e := cl_s e; obtain ⟨_, _, e⟩ := e
  replace e := cl_s e; obtain ⟨_, _, e⟩ := e
  iterate 2 replace e := (gd_s e).2
  replace e := cl_s e; obtain ⟨_, _, e⟩ := e
  replace e := cl_s e; obtain ⟨_, _, e⟩ := e
  iterate 2 replace e := (gd_s e).2
  have e := Option.some.inj e
  rw [← e]
  have key : ∀ (g : Hp) (v : Int64) (a i : Nat), hJ (wJ g x0 2 v) a i = if a = x0 ∧ i = 2 then v else hJ g a i := fun g v a i => r_J ..
  refine ⟨fun i => ⟨?_, fun n => ?_⟩, fun a i n => ?_, fun a => rfl⟩
  · exact (key _ _ x0 2).trans (if_pos ⟨rfl, rfl⟩)
  · exact (key _ _ x0 i).trans (if_neg (fun w => n w.2))
  · exact (key _ _ a i).trans (if_neg (fun w => n w.1))
theorem wr_copy (T : TH ρ c h) (r0 : ρ x0 = 13) (r1 : ρ x1 = 13) (P : WrE zq x1 h) (e : sX12_copy h x0 x1 = some o) : WrE zq x0 o := by
  obtain ⟨Mb, eMb, rMb⟩ := thR T r1 (i := 0) (k2 := 62) rfl (by decide)
  obtain ⟨Mt, eMt, rMt⟩ := thR T r0 (i := 0) (k2 := 62) rfl (by decide)
  obtain ⟨Pb, ePb, rPb⟩ := thR T r1 (i := 4) (k2 := 63) rfl (by decide)
  obtain ⟨Pt, ePt, rPt⟩ := thR T r0 (i := 4) (k2 := 63) rfl (by decide)
  obtain ⟨Hb, eHb, rHb⟩ := thR T r1 (i := 5) (k2 := 64) rfl (by decide)
  obtain ⟨Ht, eHt, rHt⟩ := thR T r0 (i := 5) (k2 := 64) rfl (by decide)
  obtain ⟨C, eC, rC⟩ := thR T r0 (i := 6) (k2 := 65) rfl (by decide)
  obtain ⟨f1, fM, fH, f3, f4, f5, f6, fo, _⟩ := cpy_post r0 r1 rMb rMt rPb rPt rHb rHt rC eMb eMt ePb ePt eHb eHt eC e
  have j2 := ((cpy_j e).1 0).1
  obtain ⟨p1, p2, p3, p4⟩ := P
  refine ⟨fun M H m1 m2 => ?_, by rw [j2]; exact p2, by rw [f4]; exact p3, fun n M P m1 m2 => ?_⟩
  · rw [f1] at m1 m2
    have y1 := r_eq eMt m1
    have y2 := r_eq eHt m2
    subst y1; subst y2
    have := p1 Mb Hb eMb eHb
    unfold tot at this ⊢
    have u1 : mC (hI o M) 64 = mC (hI h Mb) 64 := mc_eq 64 (fun i hi => fM i hi)
    rw [u1, sh_eq2 (h := h) (H := Hb) 12 (fun i hi => fH _ (by omega)), sh_eq2 (h := h) (H := Hb) 12 (fun i hi => fH _ (by omega))]
    exact this
  · rw [f1] at m1 m2
    have y1 := r_eq eMt m1
    have y2 := r_eq ePt m2
    subst y1; subst y2
    rw [f4] at n
    have c3 := nc_i (x := hI h x1 3) (by omega)
    have ip : Rg 0 63 (hI h Pb 0) := thI T rPb rfl
    rw [f5 0 (by omega), fM _ (by have := rg_clamp (n := 63) ip (by decide); omega), f3]
    exact p4 n Mb Pb eMb ePb
end
end
section
/-! make: no man is won, no right is won -/
theorem val_ps {k sd v : Int32} (hk : Rg 0 11 k) (hs : Rg 0 1 sd) (e : v = ((1 : Int32) + ((2 : Int32) * k)) + sd) : 0 < v.toInt ∧ (v - (1 : Int32)) &&& (1 : Int32) = sd := by
  obtain ⟨k0, k1⟩ := hk
  obtain ⟨s0, s1⟩ := hs
  have z1 : (1 : Int32).toInt = 1 := rfl
  have z2 : (2 : Int32).toInt = 2 := rfl
  have e1 : ((2 : Int32) * k).toInt = 2 * k.toInt := by rw [tm (by rw [z2]; omega), z2]
  have e2 : ((1 : Int32) + ((2 : Int32) * k)).toInt = 1 + 2 * k.toInt := by rw [ta (by rw [z1, e1]; omega), z1, e1]
  have e3 : v.toInt = 1 + 2 * k.toInt + sd.toInt := by rw [e, ta (by rw [e2]; omega), e2]
  have e4 : (v - (1 : Int32)).toInt = 2 * k.toInt + sd.toInt := by rw [ts (by rw [e3, z1]; omega), e3, z1]; omega
  refine ⟨by omega, ?_⟩
  have : ((v - (1 : Int32)) &&& (1 : Int32)).toInt = sd.toInt := by
    have w := and_i (x := v - (1 : Int32)) (y := (1 : Int32)) (m := 1) (by omega) (by decide) rfl
    rw [w, e4]
    show (2 * k.toInt + sd.toInt) % 2 = _
    omega
  exact Int32.toInt_inj.mp this
theorem oth_ne {sd : Int32} (hs : Rg 0 1 sd) : ¬ sd = (1 : Int32) - sd := fun z => by
  obtain ⟨s0, s1⟩ := hs
  have z1 : (1 : Int32).toInt = 1 := rfl
  have : ((1 : Int32) - sd).toInt = 1 - sd.toInt := by rw [ts (by rw [z1]; omega), z1]
  rw [← z] at this
  omega
section
variable {zq : Nat} {ρ : Nat → Nat} {c : Cm} {h o g h0 : Hp} {x0 x1 x2 x4 M P H C R A B P1 lb lx lk lo j F : Nat} {tk kd mo p0 x3 x5 x6 x7 x8 x10 : Int32}
theorem roy_h {y : Int32} {o : Int32 × Hp} {b : Nat} (e : sX15_royalOf F h x0 b y = some o) : o.2 = h := by
  have lp : ∀ (f : Nat) {x3 : Int32}, sX15_royalOf_2 F f h x0 b y x3 = some o → o.2 = h := by
    intro f
    induction f with
    | zero => intro x3 e; exact absurd e (by simp [sX15_royalOf_2])
    | succ f ih =>
      intro x3 e
      unfold sX15_royalOf_2 sX15_royalOf_49 at e
      simp only [nm] at e
      replace e := br_s e; rcases e with ⟨_, e⟩ | ⟨_, e⟩
      · rw [← Option.some.inj e]
      replace e := cl_s e; obtain ⟨_, _, e⟩ := e
      replace e := br_s e; rcases e with ⟨_, e⟩ | ⟨_, e⟩
      · rw [← Option.some.inj e]
      replace e := cl_s e; obtain ⟨_, _, e⟩ := e
      replace e := (gd_s e).2
      replace e := cl_s e; obtain ⟨_, _, e⟩ := e
      replace e := cl_s e; obtain ⟨o7, e7, e⟩ := e
      unfold sX15_valueOf at e7
      have := Option.some.inj e7; subst this
      dsimp only at e
      replace e := br_s e; rcases e with ⟨_, e⟩ | ⟨_, e⟩
      · rw [← Option.some.inj e]
      · exact ih e
  unfold sX15_royalOf at e
  exact lp F e
/-- what make leaves -/
def MfZ (x0 x4 M P H C : Nat) (h o : Hp) : Prop := (∀ a i, hR o a i = hR h a i) ∧ (∀ a, hN o a = hN h a) ∧ ∀ a i, ¬ a = M → ¬ a = P → ¬ a = H → ¬ a = C → ¬ a = x4 → ¬ (a = x0 ∧ (i = 23 ∨ i = 24)) → hI o a i = hI h a i
theorem mfz_0 : MfZ x0 x4 M P H C h h := ⟨fun _ _ => rfl, fun _ => rfl, fun _ _ _ _ _ _ _ _ => rfl⟩
theorem mfz_t (p : MfZ x0 x4 M P H C h g) (q : MfZ x0 x4 M P H C g o) : MfZ x0 x4 M P H C h o := ⟨fun a i => (q.1 a i).trans (p.1 a i), fun a => (q.2.1 a).trans (p.2.1 a), fun a i n1 n2 n3 n4 n5 n6 => (q.2.2 a i n1 n2 n3 n4 n5 n6).trans (p.2.2 a i n1 n2 n3 n4 n5 n6)⟩
theorem mfz_w {a i : Nat} {v : Int32} (e : a = M ∨ a = P ∨ a = H ∨ a = C ∨ a = x4) : MfZ x0 x4 M P H C h (wI h a i v) := ⟨fun _ _ => rfl, fun _ => rfl, fun b k n1 n2 n3 n4 n5 _ => by
  rw [r_I, if_neg]
  rintro ⟨q, _⟩
  subst q
  rcases e with e | e | e | e | e
  · exact n1 e
  · exact n2 e
  · exact n3 e
  · exact n4 e
  · exact n5 e⟩
theorem mfz_J {a i : Nat} {v : Int64} : MfZ x0 x4 M P H C h (wJ h a i v) := ⟨fun _ _ => rfl, fun _ => rfl, fun _ _ _ _ _ _ _ _ => rfl⟩
/-- where things lie, in make -/
def MkZ (ρ : Nat → Nat) (x0 x1 x2 x4 M P H C R A B P1 lb lx lk lo j : Nat) (tk kd mo p0 : Int32) (h : Hp) : Prop := (hR h x4 0 = some M ∧ hR h x4 4 = some P ∧ hR h x4 5 = some H ∧ hR h x4 6 = some C ∧ hR h x1 4 = some P1 ∧ hR h x2 4 = some lb ∧ hR h x2 5 = some lx ∧ hR h x2 6 = some lk ∧ hR h x2 7 = some lo) ∧ (ρ x4 = 13 ∧ ρ M = 62 ∧ ρ P = 63 ∧ ρ H = 64 ∧ ρ C = 65 ∧ ρ P1 = 63 ∧ ρ lb = 69 ∧ ρ lx = 70 ∧ ρ lk = 71 ∧ ρ lo = 72) ∧ ¬ P1 = P ∧ (hN h M = 64 ∧ hN h H = 24) ∧ (hI h lx j = tk ∧ hI h lk j = kd ∧ hI h lo j = mo ∧ hI h P1 0 = p0) ∧ Rg (-1) 11 (hI h lb j) ∧ AP ρ x0 R A B h
theorem mkz_k (k : MfZ x0 x4 M P H C h o) (Q : MkZ ρ x0 x1 x2 x4 M P H C R A B P1 lb lx lk lo j tk kd mo p0 h) : MkZ ρ x0 x1 x2 x4 M P H C R A B P1 lb lx lk lo j tk kd mo p0 o := by
  obtain ⟨⟨a1, a2, a3, a4, a5, a6, a7, a8, a9⟩, ⟨b1, b2, b3, b4, b5, b6, b7, b8, b9, b10⟩, np, ⟨n1, n2⟩, ⟨v1, v2, v3, v4⟩, vb, ⟨⟨c1, c2, c3⟩, ⟨d1, d2, d3⟩, e1, e2⟩⟩ := Q
  have kI : ∀ {a q : Nat} (i : Nat), ρ a = q → q ≠ 62 → q ≠ 63 → q ≠ 64 → q ≠ 65 → q ≠ 13 → q ≠ 16 → hI o a i = hI h a i := fun {a q} i ra y1 y2 y3 y4 y5 y6 => k.2.2 a i (fun z => y1 (by rw [← ra, z]; exact b2)) (fun z => y2 (by rw [← ra, z]; exact b3)) (fun z => y3 (by rw [← ra, z]; exact b4)) (fun z => y4 (by rw [← ra, z]; exact b5)) (fun z => y5 (by rw [← ra, z]; exact b1)) (fun z => y6 (by rw [← ra, z.1]; exact d1))
  have ne : ∀ {a d p q : Nat}, ρ a = p → ρ d = q → p ≠ q → ¬ a = d := fun ha hd hpq z => hpq (by rw [← ha, z]; exact hd)
  have kP : hI o P1 0 = hI h P1 0 := k.2.2 P1 0 (ne b6 b2 (by decide)) np (ne b6 b4 (by decide)) (ne b6 b5 (by decide)) (ne b6 b1 (by decide)) (fun z => ne b6 d1 (by decide) z.1)
  refine ⟨⟨by rw [k.1]; exact a1, by rw [k.1]; exact a2, by rw [k.1]; exact a3, by rw [k.1]; exact a4, by rw [k.1]; exact a5, by rw [k.1]; exact a6, by rw [k.1]; exact a7, by rw [k.1]; exact a8, by rw [k.1]; exact a9⟩, ⟨b1, b2, b3, b4, b5, b6, b7, b8, b9, b10⟩, np, ⟨by rw [k.2.1]; exact n1, by rw [k.2.1]; exact n2⟩, ⟨?_, ?_, ?_, by rw [kP]; exact v4⟩, ?_, ⟨⟨by rw [k.1]; exact c1, by rw [k.1]; exact c2, by rw [k.1]; exact c3⟩, ⟨d1, d2, d3⟩, fun i => ?_, fun i => ?_⟩⟩
  · rw [kI j b8 (by decide) (by decide) (by decide) (by decide) (by decide) (by decide)]; exact v1
  · rw [kI j b9 (by decide) (by decide) (by decide) (by decide) (by decide) (by decide)]; exact v2
  · rw [kI j b10 (by decide) (by decide) (by decide) (by decide) (by decide) (by decide)]; exact v3
  · rw [kI j b7 (by decide) (by decide) (by decide) (by decide) (by decide) (by decide)]; exact vb
  · rw [kI i d2 (by decide) (by decide) (by decide) (by decide) (by decide) (by decide)]; exact e1 i
  · rw [kI i d3 (by decide) (by decide) (by decide) (by decide) (by decide) (by decide)]; exact e2 i
/-- a board on which few men stand, y to move -/
def WrD (zq : Nat) (M P H x4 : Nat) (y : Int32) (h : Hp) : Prop := tot M H h ≤ 96 ∧ cRt (hJ h x4 2) zq ≤ 16 ∧ (hI h x4 3).toInt ≤ 8 ∧ (0 < (hI h x4 3).toInt → 0 < (hI h M (hI h P 0).toNatClampNeg).toInt ∧ ¬ (hI h M (hI h P 0).toNatClampNeg - (1 : Int32)) &&& (1 : Int32) = y)
theorem tot_k {H : Nat} (kM : ∀ i, hI o M i = hI h M i) (kH : ∀ i, hI o H i = hI h H i) : tot M H o = tot M H h := by
  unfold tot
  rw [mc_eq 64 (fun i _ => kM i), sh_eq 12 (fun i _ => kH _), sh_eq 12 (fun i _ => kH _)]
theorem wrd_k {y : Int32} (kM : ∀ i, hI o M i = hI h M i) (kP : ∀ i, hI o P i = hI h P i) (kH : ∀ i, hI o H i = hI h H i) (kJ : hJ o x4 2 = hJ h x4 2) (k3 : hI o x4 3 = hI h x4 3) (W : WrD zq M P H x4 y h) : WrD zq M P H x4 y o := by
  unfold WrD
  rw [tot_k kM kH, kJ, k3, kP, kM]
  exact W
theorem wrd_of (eM : hR h x4 0 = some M) (eP : hR h x4 4 = some P) (eH : hR h x4 5 = some H) (W : WrD zq M P H x4 (hI h x4 1) h) : WrE zq x4 h := by
  obtain ⟨w1, w2, w3, w4⟩ := W
  refine ⟨fun M' H' m1 m2 => ?_, w2, w3, fun n M' P' m1 m2 => ?_⟩
  · have y1 := r_eq eM m1
    have y2 := r_eq eH m2
    subst y1; subst y2; exact w1
  · have y1 := r_eq eM m1
    have y2 := r_eq eP m2
    subst y1; subst y2; exact w4 n
theorem mk_582 {t0 : Int32} (Q : MkZ ρ x0 x1 x2 x4 M P H C R A B P1 lb lx lk lo j tk kd mo p0 h) (W : WrD zq M P H x4 (hI h x4 1) h) (e : sX15_make_582 F h x0 x4 x5 t0 = some o) : WrE zq x4 o := by
  have fin : ∀ {g : Hp}, MkZ ρ x0 x1 x2 x4 M P H C R A B P1 lb lx lk lo j tk kd mo p0 g → WrD zq M P H x4 (hI g x4 1) g → WrE zq x4 g := fun Q W => wrd_of Q.1.1 Q.1.2.1 Q.1.2.2.1 W
  unfold sX15_make_582 sX15_make_626 at e
  simp only [nm] at e
  replace e := br_s e; rcases e with ⟨_, e⟩ | ⟨_, e⟩
  · rw [← Option.some.inj e]; exact fin Q W
  replace e := cl_s e; obtain ⟨o2, e2, e⟩ := e
  have k2 := ias_z (l := 0) Q.2.2.2.2.2.2 e2
  obtain ⟨b1, b2, b3, b4, b5, b6, b7, b8, b9, b10⟩ := Q.2.1
  have d1 := Q.2.2.2.2.2.2.2.1.1
  have kI : ∀ {a q : Nat} (i : Nat), ρ a = q → q ≠ 16 → hI o2.2 a i = hI h a i := fun {a q} i ra n => k2.2.2.2 a i (Or.inl rfl) (Or.inl (by decide)) (Or.inl rfl) (fun z => n (by rw [← ra, z.1]; exact d1))
  have Q2 : MkZ ρ x0 x1 x2 x4 M P H C R A B P1 lb lx lk lo j tk kd mo p0 o2.2 := mkz_k ⟨k2.1, k2.2.2.1, fun a i _ _ _ _ _ n => k2.2.2.2 a i (Or.inl rfl) (Or.inl (by decide)) (Or.inl rfl) n⟩ Q
  have W2 : WrD zq M P H x4 (hI o2.2 x4 1) o2.2 := by
    rw [kI 1 b1 (by decide)]
    exact wrd_k (fun i => kI i b2 (by decide)) (fun i => kI i b3 (by decide)) (fun i => kI i b4 (by decide)) (k2.2.1 _ _) (kI 3 b1 (by decide)) W
  replace e := br_s e; rcases e with ⟨_, e⟩ | ⟨_, e⟩
  · rw [← Option.some.inj e]; exact fin Q2 W2
  replace e := cl_s e; obtain ⟨C', ec, e⟩ := e
  have y : C' = C := r_eq Q2.1.2.2.2.1 ec
  subst y
  replace e := cl_s e; obtain ⟨_, _, e⟩ := e
  replace e := (gd_s e).2
  replace e := (gd_s e).2
  rw [← Option.some.inj e]
  have ne : ∀ {a d p q : Nat}, ρ a = p → ρ d = q → p ≠ q → ¬ a = d := fun ha hd hpq z => hpq (by rw [← ha, z]; exact hd)
  refine fin (mkz_k (mfz_w (Or.inr (Or.inr (Or.inr (Or.inl rfl))))) Q2) ?_
  rw [rI_a (ne b1 b5 (by decide))]
  exact wrd_k (fun i => rI_a (ne b2 b5 (by decide))) (fun i => rI_a (ne b3 b5 (by decide))) (fun i => rI_a (ne b4 b5 (by decide))) rfl (rI_a (ne b1 b5 (by decide))) W2
theorem mk_546 {t0 : Int32} (Q : MkZ ρ x0 x1 x2 x4 M P H C R A B P1 lb lx lk lo j tk kd mo p0 h) (W : WrD zq M P H x4 ((1 : Int32) - x5) h) (e : sX15_make_546 F h x0 x4 x5 t0 x4 = some o) : WrE zq x4 o := by
  unfold sX15_make_546 at e
  replace e := nm_s e; obtain ⟨h1, w1, e⟩ := e
  replace e := nm_s e; obtain ⟨h2, w2, e⟩ := e
  obtain ⟨b1, b2, b3, b4, b5, b6, b7, b8, b9, b10⟩ := Q.2.1
  have ne : ∀ {a d p q : Nat}, ρ a = p → ρ d = q → p ≠ q → ¬ a = d := fun ha hd hpq z => hpq (by rw [← ha, z]; exact hd)
  have k2 : MfZ x0 x4 M P H C h h2 := by
    rw [w2, w1]
    exact mfz_t (mfz_w (Or.inr (Or.inr (Or.inr (Or.inr rfl))))) (mfz_w (Or.inr (Or.inr (Or.inr (Or.inr rfl)))))
  have Q2 := mkz_k k2 Q
  have W2 : WrD zq M P H x4 (hI h2 x4 1) h2 := by
    have e1 : hI h2 x4 1 = (1 : Int32) - x5 := by rw [w2, rI_s]
    rw [e1]
    refine wrd_k (fun i => ?_) (fun i => ?_) (fun i => ?_) ?_ ?_ W
    · rw [w2, w1, rI_a (ne b2 b1 (by decide)), rI_a (ne b2 b1 (by decide))]
    · rw [w2, w1, rI_a (ne b3 b1 (by decide)), rI_a (ne b3 b1 (by decide))]
    · rw [w2, w1, rI_a (ne b4 b1 (by decide)), rI_a (ne b4 b1 (by decide))]
    · rw [w2, w1]; rfl
    · rw [w2, w1, rI_o (by decide), rI_o (by decide)]
  replace e := cl_s e; obtain ⟨_, _, e⟩ := e
  replace e := br_s e; rcases e with ⟨_, e⟩ | ⟨_, e⟩
  · exact mk_582 Q2 W2 e
  replace e := cl_s e; obtain ⟨o5, e5, e⟩ := e
  rw [roy_h e5] at e
  exact mk_582 Q2 W2 e
theorem mk_508 {x9 : Int32} (Q : MkZ ρ x0 x1 x2 x4 M P H C R A B P1 lb lx lk lo j tk kd mo p0 h) (W : WrD zq M P H x4 ((1 : Int32) - x5) h) (e : sX15_make_508 F h x0 x1 x4 x5 x8 x9 x10 = some o) : WrE zq x4 o := by
  unfold sX15_make_508 sX15_make_530 at e
  replace e := br_s e; rcases e with ⟨_, e⟩ | ⟨_, e⟩
  · replace e := br_s e; rcases e with ⟨_, e⟩ | ⟨_, e⟩
    · exact mk_546 Q W e
    replace e := cl_s e; obtain ⟨o3, e3, e⟩ := e
    rw [oth_post e3] at e
    replace e := br_s e; rcases e with ⟨_, e⟩ | ⟨_, e⟩
    · exact mk_546 Q W e
    · exact mk_546 Q W e
  · exact mk_546 Q W e
theorem mk_415 {x9 x11 : Int32} : ∀ (f : Nat) {h : Hp} {x12 : Int32}, MkZ ρ x0 x1 x2 x4 M P H C R A B P1 lb lx lk lo j tk kd mo p0 h → WrD zq M P H x4 ((1 : Int32) - x5) h → 1 ≤ x12.toInt → x12.toInt ≤ 9 → x11.toInt ≤ 8 → sX15_make_415 F f h x0 x1 x4 x5 x6 x7 x8 x9 x10 x11 x12 = some o → WrE zq x4 o := by
  intro f
  induction f with
  | zero => intro h x12 _ _ _ _ _ e; exact absurd e (by simp [sX15_make_415])
  | succ f ih =>
    intro h x12 Q W a1 a9 a8 e
    rw [sX15_make_415] at e
    replace e := br_s e; rcases e with ⟨_, e⟩ | ⟨n, e⟩
    · exact mk_508 Q W e
    have n := nle_i n
    replace e := (gd_s e).2
    replace e := (gd_s e).2
    replace e := (gd_s e).2
    replace e := (gd_s e).2
    replace e := nm_s e; obtain ⟨_, _, e⟩ := e
    replace e := (gd_s e).2
    replace e := (gd_s e).2
    replace e := (gd_s e).2
    replace e := (gd_s e).2
    replace e := nm_s e; obtain ⟨_, _, e⟩ := e
    replace e := cl_s e; obtain ⟨P', ep, e⟩ := e
    have y : P' = P := r_eq Q.1.2.1 ep
    subst y
    replace e := (gd_s e).2
    replace e := nm_s e; obtain ⟨h14, w14, e⟩ := e
    replace e := nm_s e; obtain ⟨v15, w15, e⟩ := e
    have z1 : (1 : Int32).toInt = 1 := rfl
    have t15 : v15.toInt = x12.toInt + 1 := by rw [w15, ta (by rw [z1]; omega), z1]
    obtain ⟨b1, b2, b3, b4, b5, b6, b7, b8, b9, b10⟩ := Q.2.1
    have ne : ∀ {a d p q : Nat}, ρ a = p → ρ d = q → p ≠ q → ¬ a = d := fun ha hd hpq z => hpq (by rw [← ha, z]; exact hd)
    have c12 := nc_i (x := x12) (by omega)
    refine ih (mkz_k (by rw [w14]; exact mfz_w (Or.inr (Or.inl rfl))) Q) ?_ (by omega) (by omega) a8 e
    obtain ⟨q1, q2, q3, q4⟩ := W
    have kM : ∀ i, hI h14 M i = hI h M i := fun i => by rw [w14, rI_a (ne b2 b3 (by decide))]
    have kH : ∀ i, hI h14 H i = hI h H i := fun i => by rw [w14, rI_a (ne b4 b3 (by decide))]
    have k3 : hI h14 x4 3 = hI h x4 3 := by rw [w14, rI_a (ne b1 b3 (by decide))]
    have kP : hI h14 P' 0 = hI h P' 0 := by rw [w14, rI_o (by omega)]
    refine ⟨by rw [tot_k kM kH]; exact q1, by rw [w14]; exact q2, by rw [k3]; exact q3, fun n => ?_⟩
    rw [k3] at n
    rw [kP, kM]
    exact q4 n
/-- the men have gone, the last squares are told -/
def MX (zq : Nat) (M H x4 : Nat) (kd x5 x7 : Int32) (h : Hp) : Prop := tot M H h ≤ 96 ∧ cRt (hJ h x4 2) zq ≤ 16 ∧ hI h x4 3 = 0 ∧ (¬ kd = (2 : Int32) → 0 < (hI h M x7.toNatClampNeg).toInt ∧ (hI h M x7.toNatClampNeg - (1 : Int32)) &&& (1 : Int32) = x5)
theorem mx_d {y : Int32} (X : MX zq M H x4 kd x5 x7 h) : WrD zq M P H x4 y h := by
  have z0 : (0 : Int32).toInt = 0 := rfl
  refine ⟨X.1, X.2.1, by rw [X.2.2.1]; decide, fun n => ?_⟩
  rw [X.2.2.1, z0] at n
  omega
theorem mk_365 {x9 : Int32} (hj : j = x3.toNatClampNeg) (h5 : Rg 0 1 x5) (m8 : kd = (0 : Int32) ∨ kd = (1 : Int32) → mo.toInt ≤ 8) (hk : Rg 0 3 kd) (Q : MkZ ρ x0 x1 x2 x4 M P H C R A B P1 lb lx lk lo j tk kd mo p0 h) (X : MX zq M H x4 kd x5 x7 h) (e : sX15_make_365 F h x0 x1 x2 x3 x4 x5 x6 x7 x8 x9 x10 = some o) : WrE zq x4 o := by
  subst hj
  unfold sX15_make_365 at e
  replace e := cl_s e; obtain ⟨lk', ek, e⟩ := e
  have y : lk' = lk := r_eq Q.1.2.2.2.2.2.2.2.1 ek
  subst y
  replace e := (gd_s e).2
  have vk := Q.2.2.2.2.1.2.1
  have vo := Q.2.2.2.2.1.2.2.1
  rw [vk] at e
  replace e := br_s e; rcases e with ⟨_, e⟩ | ⟨n2, e⟩
  · exact mk_508 Q (mx_d X) e
  have n2 := nle_i n2
  have z2 : (2 : Int32).toInt = 2 := rfl
  have z0 : (0 : Int32).toInt = 0 := rfl
  have z1 : (1 : Int32).toInt = 1 := rfl
  have k01 : kd = (0 : Int32) ∨ kd = (1 : Int32) := by
    have := hk.1
    by_cases w : kd.toInt = 0
    · exact Or.inl (Int32.toInt_inj.mp (by rw [w, z0]))
    · exact Or.inr (Int32.toInt_inj.mp (by rw [z1]; omega))
  have nk : ¬ kd = (2 : Int32) := fun w => by rw [w] at n2; omega
  replace e := cl_s e; obtain ⟨lo', eo, e⟩ := e
  have y : lo' = lo := r_eq Q.1.2.2.2.2.2.2.2.2 eo
  subst y
  replace e := (gd_s e).2
  rw [vo] at e
  replace e := br_s e; rcases e with ⟨_, e⟩ | ⟨n0, e⟩
  · exact mk_508 Q (mx_d X) e
  replace e := cl_s e; obtain ⟨lo'', eo', e⟩ := e
  have y : lo'' = lo' := r_eq eo eo'
  subst y
  replace e := (gd_s e).2
  replace e := nm_s e; obtain ⟨h9, w9, e⟩ := e
  rw [vo] at w9
  replace e := cl_s e; obtain ⟨P', ep, e⟩ := e
  have y : P' = P := r_eq Q.1.2.1 (by rw [w9] at ep; exact ep)
  subst y
  replace e := (gd_s e).2
  replace e := nm_s e; obtain ⟨h12, w12, e⟩ := e
  replace e := cl_s e; obtain ⟨lo3, eo3, e⟩ := e
  have y : lo3 = lo'' := r_eq eo (by rw [w12, w9] at eo3; exact eo3)
  subst y
  replace e := (gd_s e).2
  replace e := nm_s e; obtain ⟨v15, w15, e⟩ := e
  obtain ⟨b1, b2, b3, b4, b5, b6, b7, b8, b9, b10⟩ := Q.2.1
  have ne : ∀ {a d p q : Nat}, ρ a = p → ρ d = q → p ≠ q → ¬ a = d := fun ha hd hpq z => hpq (by rw [← ha, z]; exact hd)
  have k12 : MfZ x0 x4 M P' H C h h12 := by
    rw [w12, w9]
    exact mfz_t (mfz_w (Or.inr (Or.inr (Or.inr (Or.inr rfl))))) (mfz_w (Or.inr (Or.inl rfl)))
  have Q12 := mkz_k k12 Q
  rw [Q12.2.2.2.2.1.2.2.1] at w15
  have kM : ∀ i, hI h12 M i = hI h M i := fun i => by rw [w12, w9, rI_a (ne b2 b3 (by decide)), rI_a (ne b2 b1 (by decide))]
  have kH : ∀ i, hI h12 H i = hI h H i := fun i => by rw [w12, w9, rI_a (ne b4 b3 (by decide)), rI_a (ne b4 b1 (by decide))]
  refine mk_415 F Q12 ⟨by rw [tot_k kM kH]; exact X.1, by rw [w12, w9]; exact X.2.1, ?_, fun _ => ?_⟩ (by decide) (by decide) (by rw [w15]; exact m8 k01) e
  · rw [w12, rI_a (ne b1 b3 (by decide)), w9, rI_s]; exact m8 k01
  · have e0 : hI h12 P' 0 = x7 := by rw [w12]; exact rI_s
    rw [e0, kM]
    obtain ⟨u1, u2⟩ := X.2.2.2 nk
    exact ⟨u1, fun w => oth_ne h5 (u2.symm.trans w)⟩
end
end
section
/-! make: the first blocks -/
section
variable {zq : Nat} {ρ : Nat → Nat} {c : Cm} {h o g h0 : Hp} {x0 x1 x2 x4 M P H C R A B P1 lb lx lk lo j F : Nat} {tk kd mo p0 x3 x5 x6 x7 x8 x10 q v : Int32}
theorem lv_z {y : Nat} (Q : MkZ ρ x0 x1 x2 x4 M P H C R A B P1 lb lx lk lo j tk kd mo p0 h) (e : sX15_leave h y x4 q = some o) : MfZ x0 x4 M P H C h o ∧ q.toNatClampNeg < 64 ∧ (∀ i, hI o M i = if i = q.toNatClampNeg then (0 : Int32) else hI h M i) ∧ (∀ i, hI o H i = hI h H i) ∧ hI o x4 3 = hI h x4 3 ∧ cRt (hJ o x4 2) zq ≤ cRt (hJ h x4 2) zq := by
  unfold sX15_leave at e
  simp only [nm] at e
  replace e := cl_s e; obtain ⟨M', em, e⟩ := e
  have y : M' = M := r_eq Q.1.1 em
  subst y
  have gi := (gd_s e).1
  replace e := (gd_s e).2
  rw [Q.2.2.2.1.1] at gi
  have gb := inb_r gi
  have cq := nc_i gb.1
  obtain ⟨b1, b2, b3, b4, b5, b6, b7, b8, b9, b10⟩ := Q.2.1
  have ne : ∀ {a d p q : Nat}, ρ a = p → ρ d = q → p ≠ q → ¬ a = d := fun ha hd hpq z => hpq (by rw [← ha, z]; exact hd)
  rw [← Option.some.inj e]
  refine ⟨mfz_t (mfz_w (Or.inl rfl)) mfz_J, by omega, fun i => ?_, fun i => ?_, ?_, ?_⟩
  · show hI (wI h M' q.toNatClampNeg (0 : Int32)) M' i = _
    rw [r_I]
    by_cases z : i = q.toNatClampNeg
    · rw [if_pos ⟨rfl, z⟩, if_pos z]
    · rw [if_neg (fun w => z w.2), if_neg z]
  · show hI (wI h M' q.toNatClampNeg (0 : Int32)) H i = _
    rw [rI_a (ne b4 b2 (by decide))]
  · show hI (wI h M' q.toNatClampNeg (0 : Int32)) x4 3 = _
    rw [rI_a (ne b1 b2 (by decide))]
  · have : hJ (wJ (wI h M' q.toNatClampNeg (0 : Int32)) x4 2 ((hJ h x4 2) &&& (((1 : Int64) <<< (q.toInt64 &&& 63)) ^^^ (-1 : Int64)))) x4 2 = (hJ h x4 2) &&& (((1 : Int64) <<< (q.toInt64 &&& 63)) ^^^ (-1 : Int64)) := by rw [r_J, if_pos ⟨rfl, rfl⟩]
    show cRt (hJ (wJ (wI h M' q.toNatClampNeg (0 : Int32)) x4 2 ((hJ h x4 2) &&& (((1 : Int64) <<< (q.toInt64 &&& 63)) ^^^ (-1 : Int64)))) x4 2) zq ≤ _
    rw [this]
    exact crt_and _ _ _
theorem cm_z {y : Nat} (Q : MkZ ρ x0 x1 x2 x4 M P H C R A B P1 lb lx lk lo j tk kd mo p0 h) (e : sX15_come h y x4 q v = some o) : MfZ x0 x4 M P H C h o ∧ q.toNatClampNeg < 64 ∧ (∀ i, hI o M i = if i = q.toNatClampNeg then v else hI h M i) ∧ (∀ i, hI o H i = hI h H i) ∧ hI o x4 3 = hI h x4 3 ∧ cRt (hJ o x4 2) zq ≤ cRt (hJ h x4 2) zq := by
  unfold sX15_come at e
  simp only [nm] at e
  replace e := cl_s e; obtain ⟨M', em, e⟩ := e
  have y : M' = M := r_eq Q.1.1 em
  subst y
  have gi := (gd_s e).1
  replace e := (gd_s e).2
  rw [Q.2.2.2.1.1] at gi
  have gb := inb_r gi
  have cq := nc_i gb.1
  obtain ⟨b1, b2, b3, b4, b5, b6, b7, b8, b9, b10⟩ := Q.2.1
  have ne : ∀ {a d p q : Nat}, ρ a = p → ρ d = q → p ≠ q → ¬ a = d := fun ha hd hpq z => hpq (by rw [← ha, z]; exact hd)
  rw [← Option.some.inj e]
  refine ⟨mfz_t (mfz_w (Or.inl rfl)) mfz_J, by omega, fun i => ?_, fun i => ?_, ?_, ?_⟩
  · show hI (wI h M' q.toNatClampNeg v) M' i = _
    rw [r_I]
    by_cases z : i = q.toNatClampNeg
    · rw [if_pos ⟨rfl, z⟩, if_pos z]
    · rw [if_neg (fun w => z w.2), if_neg z]
  · show hI (wI h M' q.toNatClampNeg v) H i = _
    rw [rI_a (ne b4 b2 (by decide))]
  · show hI (wI h M' q.toNatClampNeg v) x4 3 = _
    rw [rI_a (ne b1 b2 (by decide))]
  · have : hJ (wJ (wI h M' q.toNatClampNeg v) x4 2 ((hJ h x4 2) &&& (((1 : Int64) <<< (q.toInt64 &&& 63)) ^^^ (-1 : Int64)))) x4 2 = (hJ h x4 2) &&& (((1 : Int64) <<< (q.toInt64 &&& 63)) ^^^ (-1 : Int64)) := by rw [r_J, if_pos ⟨rfl, rfl⟩]
    show cRt (hJ (wJ (wI h M' q.toNatClampNeg v) x4 2 ((hJ h x4 2) &&& (((1 : Int64) <<< (q.toInt64 &&& 63)) ^^^ (-1 : Int64)))) x4 2) zq ≤ _
    rw [this]
    exact crt_and _ _ _
theorem lv_t {y : Nat} (Q : MkZ ρ x0 x1 x2 x4 M P H C R A B P1 lb lx lk lo j tk kd mo p0 h) (e : sX15_leave h y x4 q = some o) : tot M H o = tot M H h - (if 0 < (hI h M q.toNatClampNeg).toInt then 1 else 0) := by
  obtain ⟨_, l64, kM, kH, _, _⟩ := lv_z (zq := 0) Q e
  rw [tot_M l64 kH kM, if_neg (show ¬ 0 < (0 : Int32).toInt by decide)]
  omega
theorem cm_t {y : Nat} (Q : MkZ ρ x0 x1 x2 x4 M P H C R A B P1 lb lx lk lo j tk kd mo p0 h) (e : sX15_come h y x4 q v = some o) : tot M H o ≤ tot M H h + 1 := by
  obtain ⟨_, l64, kM, kH, _, _⟩ := cm_z (zq := 0) Q e
  rw [tot_M l64 kH kM]
  split <;> split <;> omega
/-- few men, and no pass -/
def MY (zq : Nat) (M H x4 : Nat) (n : Int) (h : Hp) : Prop := tot M H h ≤ n ∧ cRt (hJ h x4 2) zq ≤ 16 ∧ hI h x4 3 = 0
theorem my_lv {y : Nat} {n : Int} (Q : MkZ ρ x0 x1 x2 x4 M P H C R A B P1 lb lx lk lo j tk kd mo p0 h) (Y : MY zq M H x4 n h) (e : sX15_leave h y x4 q = some o) : MkZ ρ x0 x1 x2 x4 M P H C R A B P1 lb lx lk lo j tk kd mo p0 o ∧ MY zq M H x4 n o := by
  obtain ⟨k, l64, kM, kH, k3, kJ⟩ := lv_z (zq := zq) Q e
  have t := lv_t Q e
  refine ⟨mkz_k k Q, ?_, by have := Y.2.1; omega, by rw [k3]; exact Y.2.2⟩
  have := Y.1
  rw [t]
  split <;> omega
theorem my_d {y : Int32} (X : MY zq M H x4 96 h) : WrD zq M P H x4 y h := by
  have z0 : (0 : Int32).toInt = 0 := rfl
  refine ⟨X.1, X.2.1, by rw [X.2.2]; decide, fun n => ?_⟩
  rw [X.2.2, z0] at n
  omega
theorem bl_8 {n : Int} : ∀ (f : Nat) {h : Hp} {y3 : Int32}, MkZ ρ x0 x1 x2 x4 M P H C R A B P1 lb lx lk lo j tk kd mo p0 h → MY zq M H x4 n h → sX15_blast_8 F f h x0 x4 q y3 = some o → MkZ ρ x0 x1 x2 x4 M P H C R A B P1 lb lx lk lo j tk kd mo p0 o ∧ MY zq M H x4 n o := by
  intro f
  induction f with
  | zero => intro h y3 _ _ e; exact absurd e (by simp [sX15_blast_8])
  | succ f ih =>
    intro h y3 Q Y e
    unfold sX15_blast_8 sX15_blast_60 at e
    have b61 : ∀ {t0 : Int32}, sX15_blast_61 F (sX15_blast_8 F f) h x0 x4 q y3 t0 = some o → MkZ ρ x0 x1 x2 x4 M P H C R A B P1 lb lx lk lo j tk kd mo p0 o ∧ MY zq M H x4 n o := by
      intro t0 e
      unfold sX15_blast_61 sX15_blast_105 at e
      simp only [nm] at e
      replace e := br_s e; rcases e with ⟨_, e⟩ | ⟨_, e⟩
      · exact ih Q Y e
      replace e := cl_s e; obtain ⟨_, _, e⟩ := e
      replace e := (gd_s e).2
      replace e := br_s e; rcases e with ⟨_, e⟩ | ⟨_, e⟩
      · exact ih Q Y e
      replace e := cl_s e; obtain ⟨_, _, e⟩ := e
      replace e := cl_s e; obtain ⟨_, _, e⟩ := e
      replace e := (gd_s e).2
      replace e := cl_s e; obtain ⟨o8, e8, e⟩ := e
      unfold sX15_manOf at e8
      have := Option.some.inj e8; subst this
      dsimp only at e
      replace e := br_s e; rcases e with ⟨_, e⟩ | ⟨_, e⟩
      · replace e := cl_s e; obtain ⟨o10, e10, e⟩ := e
        obtain ⟨Q10, Y10⟩ := my_lv Q Y e10
        exact ih Q10 Y10 e
      · exact ih Q Y e
    replace e := br_s e; rcases e with ⟨_, e⟩ | ⟨_, e⟩
    · rw [← Option.some.inj e]; exact ⟨Q, Y⟩
    replace e := (gd_s e).2
    replace e := (gd_s e).2
    replace e := br_s e; rcases e with ⟨_, e⟩ | ⟨_, e⟩
    · exact b61 e
    replace e := (gd_s e).2
    replace e := (gd_s e).2
    replace e := br_s e; rcases e with ⟨_, e⟩ | ⟨_, e⟩
    · exact b61 e
    · exact b61 e
theorem mk_339 {x9 : Int32} (hj : j = x3.toNatClampNeg) (h5 : Rg 0 1 x5) (m8 : kd = (0 : Int32) ∨ kd = (1 : Int32) → mo.toInt ≤ 8) (hk : Rg 0 3 kd) (Q : MkZ ρ x0 x1 x2 x4 M P H C R A B P1 lb lx lk lo j tk kd mo p0 h) (X : MX zq M H x4 kd x5 x7 h) (e : sX15_make_339 F h x0 x1 x2 x3 x4 x5 x6 x7 x8 x9 x10 = some o) : WrE zq x4 o := by
  unfold sX15_make_339 at e
  replace e := br_s e; rcases e with ⟨_, e⟩ | ⟨_, e⟩
  · exact mk_365 hj h5 m8 hk Q X e
  replace e := cl_s e; obtain ⟨_, _, e⟩ := e
  replace e := br_s e; rcases e with ⟨_, e⟩ | ⟨_, e⟩
  · exact mk_365 hj h5 m8 hk Q X e
  replace e := cl_s e; obtain ⟨o4, e4, e⟩ := e
  unfold sX15_blast at e4
  replace e4 := cl_s e4; obtain ⟨o1, e1, e4⟩ := e4
  obtain ⟨Q1, Y1⟩ := my_lv Q ⟨X.1, X.2.1, X.2.2.1⟩ e1
  obtain ⟨Q4, Y4⟩ := bl_8 F Q1 Y1 e4
  exact mk_508 Q4 (my_d Y4) e
theorem mk_294 {x9 : Int32} (hj : j = x3.toNatClampNeg) (h5 : Rg 0 1 x5) (m8 : kd = (0 : Int32) ∨ kd = (1 : Int32) → mo.toInt ≤ 8) (hk : Rg 0 3 kd) : ∀ (f : Nat) {h : Hp} {x11 : Int32}, MkZ ρ x0 x1 x2 x4 M P H C R A B P1 lb lx lk lo j tk kd mo p0 h → MX zq M H x4 kd x5 x7 h → sX15_make_294 F f h x0 x1 x2 x3 x4 x5 x6 x7 x8 x9 x10 x11 = some o → WrE zq x4 o := by
  intro f
  induction f with
  | zero => intro h x11 _ _ e; exact absurd e (by simp [sX15_make_294])
  | succ f ih =>
    intro h x11 Q X e
    unfold sX15_make_294 sX15_make_333 at e
    replace e := br_s e; rcases e with ⟨_, e⟩ | ⟨_, e⟩
    · exact mk_339 hj h5 m8 hk Q X e
    replace e := cl_s e; obtain ⟨o2, e2, e⟩ := e
    rw [(rank_post e2).1] at e
    replace e := br_s e; rcases e with ⟨_, e⟩ | ⟨_, e⟩
    · replace e := nm_s e; obtain ⟨h4, w4, e⟩ := e
      replace e := nm_s e; obtain ⟨_, _, e⟩ := e
      refine ih (mkz_k (by rw [w4]; exact mfz_J) Q) ?_ e
      have kM : ∀ i, hI h4 M i = hI h M i := fun i => by rw [w4]; rfl
      have kH : ∀ i, hI h4 H i = hI h H i := fun i => by rw [w4]; rfl
      refine ⟨by rw [tot_k kM kH]; exact X.1, ?_, by rw [w4]; exact X.2.2.1, fun n => by rw [kM]; exact X.2.2.2 n⟩
      have := crt_and (hJ h x4 2) (((1 : Int64) <<< (x11.toInt64 &&& 63)) ^^^ (-1 : Int64)) zq
      rw [w4, r_J, if_pos ⟨rfl, rfl⟩]
      have := X.2.1
      omega
    · replace e := nm_s e; obtain ⟨_, _, e⟩ := e
      exact ih Q X e
theorem mk_273 {x9 : Int32} (hj : j = x3.toNatClampNeg) (h5 : Rg 0 1 x5) (m8 : kd = (0 : Int32) ∨ kd = (1 : Int32) → mo.toInt ≤ 8) (hk : Rg 0 3 kd) (Q : MkZ ρ x0 x1 x2 x4 M P H C R A B P1 lb lx lk lo j tk kd mo p0 h) (X : MX zq M H x4 kd x5 x7 h) (e : sX15_make_273 F h x0 x1 x2 x3 x4 x5 x6 x7 x8 x9 x10 = some o) : WrE zq x4 o := by
  unfold sX15_make_273 at e
  replace e := br_s e; rcases e with ⟨_, e⟩ | ⟨_, e⟩
  · exact mk_339 hj h5 m8 hk Q X e
  replace e := cl_s e; obtain ⟨_, _, e⟩ := e
  replace e := br_s e; rcases e with ⟨_, e⟩ | ⟨_, e⟩
  · exact mk_294 hj h5 m8 hk F Q X e
  · exact mk_339 hj h5 m8 hk Q X e
theorem mk_219 {t0 : Int32} (hj : j = x3.toNatClampNeg) (h5 : Rg 0 1 x5) (m8 : kd = (0 : Int32) ∨ kd = (1 : Int32) → mo.toInt ≤ 8) (hk : Rg 0 3 kd) (ht : Rg 0 11 t0) (Q : MkZ ρ x0 x1 x2 x4 M P H C R A B P1 lb lx lk lo j tk kd mo p0 h) (Y : MY zq M H x4 95 h) (hm : kd = (2 : Int32) → 0 < (hI h M mo.toNatClampNeg).toInt) (e : sX15_make_219 F h x0 x1 x2 x3 x4 x5 x6 x7 x8 kd x10 t0 x7 x4 x0 = some o) : WrE zq x4 o := by
  unfold sX15_make_219 at e
  replace e := cl_s e; obtain ⟨o1, e1, e⟩ := e
  unfold sX15_valueOf at e1
  have e1 := Option.some.inj e1
  obtain ⟨v, hv⟩ : ∃ v, v = o1.1 := ⟨_, rfl⟩
  have ev : v = ((1 : Int32) + ((2 : Int32) * t0)) + x5 := by rw [hv, ← e1]
  have eh : o1.2 = h := by rw [← e1]
  rw [eh, ← hv] at e
  obtain ⟨vp, vs⟩ := val_ps ht h5 ev
  replace e := cl_s e; obtain ⟨o2, e2, e⟩ := e
  obtain ⟨k2, l2, kM2, kH2, k32, kJ2⟩ := cm_z (zq := zq) Q e2
  have t2 := cm_t Q e2
  have Q2 := mkz_k k2 Q
  have y1 := Y.1
  have y2 := Y.2.1
  have m7 : hI o2 M x7.toNatClampNeg = v := by rw [kM2, if_pos rfl]
  replace e := br_s e; rcases e with ⟨kz, e⟩ | ⟨kz, e⟩
  · replace e := cl_s e; obtain ⟨_, _, e⟩ := e
    replace e := cl_s e; obtain ⟨lo', eo, e⟩ := e
    have y : lo' = lo := r_eq Q2.1.2.2.2.2.2.2.2.2 eo
    subst y
    replace e := (gd_s e).2
    replace e := (gd_s e).2
    replace e := nm_s e; obtain ⟨v8, w8, e⟩ := e
    replace e := cl_s e; obtain ⟨lo'', eo', e⟩ := e
    have y : lo'' = lo' := r_eq eo eo'
    subst y
    replace e := (gd_s e).2
    rw [← hj, Q2.2.2.2.2.1.2.2.1] at e
    replace e := cl_s e; obtain ⟨o11, e11, e⟩ := e
    obtain ⟨k11, l11, kM11, kH11, k311, kJ11⟩ := lv_z (zq := zq) Q2 e11
    have t11 := lv_t Q2 e11
    have mp : 0 < (hI o2 M mo.toNatClampNeg).toInt := by
      rw [kM2]
      split
      · exact vp
      · exact hm kz
    rw [if_pos mp] at t11
    have Q11 := mkz_k k11 Q2
    replace e := cl_s e; obtain ⟨o12, e12, e⟩ := e
    obtain ⟨k12, l12, kM12, kH12, k312, kJ12⟩ := cm_z (zq := zq) Q11 e12
    have t12 := cm_t Q11 e12
    exact mk_273 hj h5 m8 hk (mkz_k k12 Q11) ⟨by omega, by omega, by rw [k312, k311, k32]; exact Y.2.2, fun n => absurd kz n⟩ e
  · exact mk_273 hj h5 m8 hk Q2 ⟨by omega, by omega, by rw [k32]; exact Y.2.2, fun _ => by rw [m7]; exact ⟨vp, vs⟩⟩ e
theorem mk_193 (hj : j = x3.toNatClampNeg) (h5 : Rg 0 1 x5) (m8 : kd = (0 : Int32) ∨ kd = (1 : Int32) → mo.toInt ≤ 8) (hk : Rg 0 3 kd) (h8 : Rg 0 11 x8) (Q : MkZ ρ x0 x1 x2 x4 M P H C R A B P1 lb lx lk lo j tk kd mo p0 h) (Y : MY zq M H x4 95 h) (hm : kd = (2 : Int32) → 0 < (hI h M mo.toNatClampNeg).toInt) (e : sX15_make_193 F h x0 x1 x2 x3 x4 x5 x6 x7 x8 kd x10 = some o) : WrE zq x4 o := by
  unfold sX15_make_193 at e
  replace e := cl_s e; obtain ⟨lb', eb, e⟩ := e
  have y : lb' = lb := r_eq Q.1.2.2.2.2.2.1 eb
  subst y
  replace e := (gd_s e).2
  replace e := br_s e; rcases e with ⟨_, e⟩ | ⟨n, e⟩
  · exact mk_219 hj h5 m8 hk h8 Q Y hm e
  replace e := cl_s e; obtain ⟨lb'', eb', e⟩ := e
  have y : lb'' = lb' := r_eq eb eb'
  subst y
  replace e := (gd_s e).2
  refine mk_219 hj h5 m8 hk ?_ Q Y hm e
  have r := Q.2.2.2.2.2.1
  rw [hj] at r
  exact rg_nlo n r (rg_b rfl)
/-- before a man is lifted -/
def M0 (zq : Nat) (M H x4 : Nat) (kd mo x5 x6 x8 : Int32) (h : Hp) : Prop := MY zq M H x4 96 h ∧ (kd = (3 : Int32) → 0 < (hI h H (((2 : Int32) * x8) + x5).toNatClampNeg).toInt) ∧ (¬ kd = (3 : Int32) → 0 < (hI h M x6.toNatClampNeg).toInt) ∧ (kd = (2 : Int32) → ¬ mo.toNatClampNeg = x6.toNatClampNeg ∧ 0 < (hI h M mo.toNatClampNeg).toInt)
theorem mk_159 (hj : j = x3.toNatClampNeg) (h5 : Rg 0 1 x5) (m8 : kd = (0 : Int32) ∨ kd = (1 : Int32) → mo.toInt ≤ 8) (hk : Rg 0 3 kd) (h8 : Rg 0 11 x8) (Q : MkZ ρ x0 x1 x2 x4 M P H C R A B P1 lb lx lk lo j tk kd mo p0 h) (Z : M0 zq M H x4 kd mo x5 x6 x8 h) (e : sX15_make_159 F h x0 x1 x2 x3 x4 x5 x6 x7 x8 kd x10 = some o) : WrE zq x4 o := by
  obtain ⟨Y, z1, z2, z3⟩ := Z
  have y1 := Y.1
  have y2 := Y.2.1
  obtain ⟨b1, b2, b3, b4, b5, b6, b7, b8, b9, b10⟩ := Q.2.1
  have ne : ∀ {a d p q : Nat}, ρ a = p → ρ d = q → p ≠ q → ¬ a = d := fun ha hd hpq z => hpq (by rw [← ha, z]; exact hd)
  unfold sX15_make_159 at e
  replace e := br_s e; rcases e with ⟨kz, e⟩ | ⟨kz, e⟩
  · replace e := cl_s e; obtain ⟨H', eh, e⟩ := e
    have y : H' = H := r_eq Q.1.2.2.1 eh
    subst y
    have gi := (gd_s e).1
    rw [Q.2.2.2.1.2] at gi
    have gb := inb_r gi
    have cq := nc_i gb.1
    replace e := (gd_s e).2
    replace e := (gd_s e).2
    replace e := nm_s e; obtain ⟨h6, w6, e⟩ := e
    have hp := z1 kz
    have kM : ∀ i, hI h6 M i = hI h M i := fun i => by rw [w6, rI_a (ne b2 b4 (by decide))]
    have tt : tot M H' h6 = tot M H' h - 1 := by
      have o1 : (1 : Int32).toInt = 1 := rfl
      have tv : (hI h H' (((2 : Int32) * x8) + x5).toNatClampNeg - (1 : Int32)).toInt = (hI h H' (((2 : Int32) * x8) + x5).toNatClampNeg).toInt - 1 := by
        have := (rg_top (hI h H' (((2 : Int32) * x8) + x5).toNatClampNeg)).2
        rw [ts (by rw [o1]; omega), o1]
      rw [tot_H (h := h) (j := (((2 : Int32) * x8) + x5).toNatClampNeg) (by omega) kM (fun i => by
        rw [w6, r_I]
        by_cases z : i = (((2 : Int32) * x8) + x5).toNatClampNeg
        · rw [if_pos ⟨rfl, z⟩, if_pos z]
        · rw [if_neg (fun w => z w.2), if_neg z]), tv]
      omega
    refine mk_193 hj h5 m8 hk h8 (mkz_k (by rw [w6]; exact mfz_w (Or.inr (Or.inr (Or.inl rfl)))) Q) ⟨by omega, by rw [w6]; exact y2, by rw [w6, rI_a (ne b1 b4 (by decide))]; exact Y.2.2⟩ (fun n => ?_) e
    rw [kz] at n
    exact absurd n (by decide)
  · replace e := cl_s e; obtain ⟨o2, e2, e⟩ := e
    obtain ⟨k2, l2, kM2, kH2, k32, kJ2⟩ := lv_z (zq := zq) Q e2
    have t2 := lv_t Q e2
    rw [if_pos (z2 kz)] at t2
    refine mk_193 hj h5 m8 hk h8 (mkz_k k2 Q) ⟨by omega, by omega, by rw [k32]; exact Y.2.2⟩ (fun n => ?_) e
    rw [kM2, if_neg (z3 n).1]
    exact (z3 n).2
theorem mk_92 (hj : j = x3.toNatClampNeg) (h5 : Rg 0 1 x5) (m8 : kd = (0 : Int32) ∨ kd = (1 : Int32) → mo.toInt ≤ 8) (hk : Rg 0 3 kd) (h8 : Rg 0 11 x8) (k01 : kd = (0 : Int32) ∨ kd = (1 : Int32)) (Q : MkZ ρ x0 x1 x2 x4 M P H C R A B P1 lb lx lk lo j tk kd mo p0 h) (Z : M0 zq M H x4 kd mo x5 x6 x8 h) (mq : 0 < (hI h M q.toNatClampNeg).toInt) (nq : ¬ x6.toNatClampNeg = q.toNatClampNeg) (e : sX15_make_92 F h x0 x1 x2 x3 x4 x5 x6 x7 x8 kd x10 q x4 x0 = some o) : WrE zq x4 o := by
  obtain ⟨Y, z1, z2, z3⟩ := Z
  have y1 := Y.1
  have y2 := Y.2.1
  have n3 : ¬ kd = (3 : Int32) := fun z => by rcases k01 with w | w <;> rw [w] at z <;> exact absurd z (by decide)
  have n2 : ¬ kd = (2 : Int32) := fun z => by rcases k01 with w | w <;> rw [w] at z <;> exact absurd z (by decide)
  unfold sX15_make_92 at e
  replace e := cl_s e; obtain ⟨o1, e1, e⟩ := e
  obtain ⟨k1, l1, kM1, kH1, k31, kJ1⟩ := lv_z (zq := zq) Q e1
  have t1 := lv_t Q e1
  rw [if_pos mq] at t1
  have Q1 := mkz_k k1 Q
  have m6 : 0 < (hI o1 M x6.toNatClampNeg).toInt := by rw [kM1, if_neg nq]; exact z2 n3
  have go : sX15_make_159 F o1 x0 x1 x2 x3 x4 x5 x6 x7 x8 kd x10 = some o → WrE zq x4 o := fun e => mk_159 hj h5 m8 hk h8 Q1 ⟨⟨by omega, by omega, by rw [k31]; exact Y.2.2⟩, fun z => absurd z n3, fun _ => m6, fun z => absurd z n2⟩ e
  replace e := cl_s e; obtain ⟨_, _, e⟩ := e
  replace e := (gd_s e).2
  replace e := nm_s e; obtain ⟨v4, w4, e⟩ := e
  replace e := cl_s e; obtain ⟨_, _, e⟩ := e
  replace e := br_s e; rcases e with ⟨_, e⟩ | ⟨_, e⟩
  · exact go e
  replace e := cl_s e; obtain ⟨_, _, e⟩ := e
  replace e := (gd_s e).2
  replace e := cl_s e; obtain ⟨_, _, e⟩ := e
  replace e := br_s e; rcases e with ⟨_, e⟩ | ⟨_, e⟩
  · exact go e
  replace e := cl_s e; obtain ⟨H', eh, e⟩ := e
  have y : H' = H := r_eq Q1.1.2.2.1 eh
  subst y
  have gi := (gd_s e).1
  rw [Q1.2.2.2.1.2] at gi
  have gb := inb_r gi
  have cq := nc_i gb.1
  replace e := (gd_s e).2
  replace e := br_s e; rcases e with ⟨_, e⟩ | ⟨n16, e⟩
  · exact go e
  have n16 := nle_i n16
  have o16 : (16 : Int32).toInt = 16 := rfl
  replace e := cl_s e; obtain ⟨H'', eh', e⟩ := e
  have y : H'' = H' := r_eq eh eh'
  subst y
  replace e := (gd_s e).2
  replace e := (gd_s e).2
  replace e := nm_s e; obtain ⟨h17, w17, e⟩ := e
  obtain ⟨b1, b2, b3, b4, b5, b6, b7, b8, b9, b10⟩ := Q.2.1
  have ne : ∀ {a d p q : Nat}, ρ a = p → ρ d = q → p ≠ q → ¬ a = d := fun ha hd hpq z => hpq (by rw [← ha, z]; exact hd)
  have kM : ∀ i, hI h17 M i = hI o1 M i := fun i => by rw [w17, rI_a (ne b2 b4 (by decide))]
  have tt : tot M H'' h17 = tot M H'' o1 + 1 := by
    have u1 : (1 : Int32).toInt = 1 := rfl
    have tv : (hI o1 H'' v4.toNatClampNeg + (1 : Int32)).toInt = (hI o1 H'' v4.toNatClampNeg).toInt + 1 := by
      have := (rg_top (hI o1 H'' v4.toNatClampNeg)).1
      rw [ta (by rw [u1]; omega), u1]
    rw [tot_H (h := o1) (j := v4.toNatClampNeg) (by omega) kM (fun i => by
      rw [w17, r_I]
      by_cases z : i = v4.toNatClampNeg
      · rw [if_pos ⟨rfl, z⟩, if_pos z]
      · rw [if_neg (fun w => z w.2), if_neg z]), tv]
    omega
  refine mk_159 hj h5 m8 hk h8 (mkz_k (by rw [w17]; exact mfz_w (Or.inr (Or.inr (Or.inl rfl)))) Q1) ⟨⟨by omega, ?_, ?_⟩, fun z => absurd z n3, fun _ => by rw [kM]; exact m6, fun z => absurd z n2⟩ e
  · rw [w17]; show cRt (hJ o1 x4 2) zq ≤ 16; omega
  · rw [w17, rI_a (ne b1 b4 (by decide)), k31]; exact Y.2.2
theorem mk_65 (hj : j = x3.toNatClampNeg) (h5 : Rg 0 1 x5) (m8 : kd = (0 : Int32) ∨ kd = (1 : Int32) → mo.toInt ≤ 8) (hk : Rg 0 3 kd) (h8 : Rg 0 11 x8) (Q : MkZ ρ x0 x1 x2 x4 M P H C R A B P1 lb lx lk lo j tk kd mo p0 h) (Z : M0 zq M H x4 kd mo x5 x6 x8 h) (t1 : ¬ x10 = 0 → kd = (1 : Int32) → 0 < (hI h M p0.toNatClampNeg).toInt ∧ ¬ x6.toNatClampNeg = p0.toNatClampNeg) (t2 : ¬ x10 = 0 → ¬ kd = (1 : Int32) → kd = (0 : Int32) ∧ 0 < (hI h M x7.toNatClampNeg).toInt ∧ ¬ x6.toNatClampNeg = x7.toNatClampNeg) (e : sX15_make_65 F h x0 x1 x2 x3 x4 x5 x6 x7 x8 kd x10 = some o) : WrE zq x4 o := by
  unfold sX15_make_65 at e
  replace e := br_s e; rcases e with ⟨_, e⟩ | ⟨n, e⟩
  · exact mk_159 hj h5 m8 hk h8 Q Z e
  replace e := br_s e; rcases e with ⟨kz, e⟩ | ⟨kz, e⟩
  · replace e := cl_s e; obtain ⟨P', ep, e⟩ := e
    have y : P' = P1 := r_eq Q.1.2.2.2.2.1 ep
    subst y
    replace e := (gd_s e).2
    have z0 : (0 : Int32).toNatClampNeg = 0 := rfl
    rw [z0, Q.2.2.2.2.1.2.2.2] at e
    exact mk_92 hj h5 m8 hk h8 (Or.inr kz) Q Z (t1 n kz).1 (t1 n kz).2 e
  · obtain ⟨k0, u1, u2⟩ := t2 n kz
    exact mk_92 hj h5 m8 hk h8 (Or.inl k0) Q Z u1 u2 e
end
end
section
/-! make: the whole -/
/-- the list's moves fit the board as to who is taken -/
def MvZ (b l : Nat) (h : Hp) : Prop := ∀ M lf lt lx lk lo, hR h b 0 = some M → hR h l 1 = some lf → hR h l 2 = some lt → hR h l 5 = some lx → hR h l 6 = some lk → hR h l 7 = some lo → L2 l lf lt lx lk lo (hI h M) (hI h b 1) (hI h b 3).toInt h
section
variable {zq : Nat} {ρ : Nat → Nat} {c : Cm} {h o : Hp} {x0 x1 x2 x4 F : Nat} {x3 : Int32}
theorem make_z (T : TH ρ c h) (r0 : ρ x0 = 16) (r1 : ρ x1 = 13) (r2 : ρ x2 = 14) (r4 : ρ x4 = 13) (np : ∀ P1 P, hR h x1 4 = some P1 → hR h x4 4 = some P → ¬ P1 = P) (W : WrE zq x1 h) (mv : MvB x0 x1 x2 h) (mz : MvZ x1 x2 h) (i3 : 0 ≤ x3.toInt ∧ x3.toInt < (hI h x2 0).toInt) (e : sX15_make F h x0 x1 x2 x3 x4 = some o) : WrE zq x4 o := by
  obtain ⟨M1, eM1, rM1⟩ := thR T r1 (i := 0) (k2 := 62) rfl (by decide)
  obtain ⟨M, eM, rM⟩ := thR T r4 (i := 0) (k2 := 62) rfl (by decide)
  obtain ⟨P1, eP1, rP1⟩ := thR T r1 (i := 4) (k2 := 63) rfl (by decide)
  obtain ⟨P, eP, rP⟩ := thR T r4 (i := 4) (k2 := 63) rfl (by decide)
  obtain ⟨H1, eH1, rH1⟩ := thR T r1 (i := 5) (k2 := 64) rfl (by decide)
  obtain ⟨H, eH, rH⟩ := thR T r4 (i := 5) (k2 := 64) rfl (by decide)
  obtain ⟨C, eC, rC⟩ := thR T r4 (i := 6) (k2 := 65) rfl (by decide)
  obtain ⟨lf, elf, rlf⟩ := thR T r2 (i := 1) (k2 := 66) rfl (by decide)
  obtain ⟨lt, elt, rlt⟩ := thR T r2 (i := 2) (k2 := 67) rfl (by decide)
  obtain ⟨lm, elm, rlm⟩ := thR T r2 (i := 3) (k2 := 68) rfl (by decide)
  obtain ⟨lb, elb, rlb⟩ := thR T r2 (i := 4) (k2 := 69) rfl (by decide)
  obtain ⟨lx, elx, rlx⟩ := thR T r2 (i := 5) (k2 := 70) rfl (by decide)
  obtain ⟨lk, elk, rlk⟩ := thR T r2 (i := 6) (k2 := 71) rfl (by decide)
  obtain ⟨lo, elo, rlo⟩ := thR T r2 (i := 7) (k2 := 72) rfl (by decide)
  obtain ⟨R, eR, rR⟩ := thR T r0 (i := 4) (k2 := 15) rfl (by decide)
  obtain ⟨A, eA, rA⟩ := thR T rR (i := 6) (k2 := 76) rfl (by decide)
  obtain ⟨B, eB, rB⟩ := thR T rR (i := 7) (k2 := 77) rfl (by decide)
  have nP := np P1 P eP1 eP
  have nM : hN h M = 64 := thN T rM rfl (by decide)
  have nH : hN h H = 24 := thN T rH rfl (by decide)
  obtain ⟨n, hn⟩ : ∃ n, n = x3.toNatClampNeg := ⟨_, rfl⟩
  have cn := nc_i i3.1
  have E := mz M1 lf lt lx lk lo eM1 elf elt elx elk elo n (by omega)
  have N := mv M1 H1 lf lt lm lk lo eM1 eH1 elf elt elm elk elo n (by omega)
  have if' : Rg (-1) 63 (hI h lf n) := thI T rlf rfl
  have it : Rg 0 63 (hI h lt n) := thI T rlt rfl
  have im : Rg 0 11 (hI h lm n) := thI T rlm rfl
  have ib : Rg (-1) 11 (hI h lb n) := thI T rlb rfl
  have ik : Rg 0 3 (hI h lk n) := thI T rlk rfl
  have io : Rg 0 63 (hI h lo n) := thI T rlo rfl
  have is : Rg 0 1 (hI h x1 1) := thI T r1 rfl
  have ip : Rg 0 63 (hI h P1 0) := thI T rP1 rfl
  unfold sX15_make at e
  replace e := cl_s e; obtain ⟨o1, e1, e⟩ := e
  have W1 := wr_copy T r4 r1 W e1
  obtain ⟨f1, fM, fH, f3, f4, f5, f6, fo, fx⟩ := cpy_post r4 r1 rM1 rM rP1 rP rH1 rH rC eM1 eM eP1 eP eH1 eH eC e1
  obtain ⟨_, _, fN⟩ := cpy_j e1
  have kL : ∀ {a q : Nat} (i : Nat), ρ a = q → ¬ (q = 13 ∨ (62 ≤ q ∧ q ≤ 65)) → hI o1 a i = hI h a i := fun {a q} i ra nq => fo a i (by rw [ra]; exact nq)
  have ne : ∀ {a d p q : Nat}, ρ a = p → ρ d = q → p ≠ q → ¬ a = d := fun ha hd hpq z => hpq (by rw [← ha, z]; exact hd)
  replace e := nm_s e; obtain ⟨v2, w2, e⟩ := e
  rw [f6] at w2
  replace e := cl_s e; obtain ⟨a3, q3, e⟩ := e
  have y : a3 = lf := r_eq elf (by rw [f1] at q3; exact q3)
  subst y
  replace e := (gd_s e).2
  replace e := nm_s e; obtain ⟨v5, w5, e⟩ := e
  replace e := cl_s e; obtain ⟨a6, q6, e⟩ := e
  have y : a6 = lt := r_eq elt (by rw [f1] at q6; exact q6)
  subst y
  replace e := (gd_s e).2
  replace e := nm_s e; obtain ⟨v8, w8, e⟩ := e
  replace e := cl_s e; obtain ⟨a9, q9, e⟩ := e
  have y : a9 = lm := r_eq elm (by rw [f1] at q9; exact q9)
  subst y
  replace e := (gd_s e).2
  replace e := nm_s e; obtain ⟨v11, w11, e⟩ := e
  replace e := cl_s e; obtain ⟨a12, q12, e⟩ := e
  have y : a12 = lk := r_eq elk (by rw [f1] at q12; exact q12)
  subst y
  replace e := (gd_s e).2
  replace e := nm_s e; obtain ⟨v14, w14, e⟩ := e
  rw [← hn, kL n rlf (by decide)] at w5
  rw [← hn, kL n rlt (by decide)] at w8
  rw [← hn, kL n rlm (by decide)] at w11
  rw [← hn, kL n rlk (by decide)] at w14
  replace e := nm_s e; obtain ⟨h15, w15, e⟩ := e
  replace e := cl_s e; obtain ⟨a16, q16, e⟩ := e
  have y : a16 = lx := r_eq elx (by rw [w15] at q16; rw [← f1]; exact q16)
  subst y
  have kI : ∀ {a i : Nat}, ¬ a = x4 → hI h15 a i = hI o1 a i := fun {a i} n => by rw [w15, rI_a n]
  have vx : hI h15 a16 n = hI h a16 n := by rw [kI (ne rlx r4 (by decide)), kL n rlx (by decide)]
  replace e := (gd_s e).2
  rw [← hn, vx] at e
  have kR : ∀ a i, hR h15 a i = hR h a i := fun a i => by rw [w15]; exact f1 a i
  have kM : ∀ i, i < 64 → hI h15 M i = hI h M1 i := fun i hi => by rw [kI (ne rM r4 (by decide))]; exact fM i hi
  have kP : hI h15 P1 0 = hI h P1 0 := by rw [kI (ne rP1 r4 (by decide)), fx P1 0 (ne rP1 r4 (by decide)) (ne rP1 rM (by decide)) nP (ne rP1 rH (by decide)) (ne rP1 rC (by decide))]
  have Q : MkZ ρ x0 x1 x2 x4 M P H C R A B P1 lb a16 a12 lo n (hI h a16 n) (hI h a12 n) (hI h lo n) (hI h P1 0) h15 := by
    refine ⟨⟨by rw [kR]; exact eM, by rw [kR]; exact eP, by rw [kR]; exact eH, by rw [kR]; exact eC, by rw [kR]; exact eP1, by rw [kR]; exact elb, by rw [kR]; exact elx, by rw [kR]; exact elk, by rw [kR]; exact elo⟩, ⟨r4, rM, rP, rH, rC, rP1, rlb, rlx, rlk, rlo⟩, nP, ⟨?_, ?_⟩, ⟨vx, ?_, ?_, kP⟩, ?_, ⟨⟨by rw [kR]; exact eR, by rw [kR]; exact eA, by rw [kR]; exact eB⟩, ⟨r0, rA, rB⟩, fun i => ?_, fun i => ?_⟩⟩
    · rw [w15]; show hN o1 M = 64; rw [fN]; exact nM
    · rw [w15]; show hN o1 H = 24; rw [fN]; exact nH
    · rw [kI (ne rlk r4 (by decide)), kL n rlk (by decide)]
    · rw [kI (ne rlo r4 (by decide)), kL n rlo (by decide)]
    · rw [kI (ne rlb r4 (by decide)), kL n rlb (by decide)]; exact ib
    · rw [kI (ne rA r4 (by decide)), kL i rA (by decide)]; exact thI T rA rfl
    · rw [kI (ne rB r4 (by decide)), kL i rB (by decide)]; exact thI T rB rfl
  rw [w2, w5, w8, w11, w14] at e
  obtain ⟨E1, E2', E3, E4, E5⟩ := E
  obtain ⟨N1, N2, N3, N4⟩ := N
  have nc6 : ∀ {x : Int32} {lo' : Int}, Rg lo' 63 x → x.toNatClampNeg < 64 := fun {x lo'} r => by
    by_cases w : 0 ≤ x.toInt
    · have := nc_i w; have := r.2; omega
    · have : x.toNatClampNeg = 0 := by
        show x.toInt.toNat = 0
        omega
      omega
  have W15 : tot M H h15 ≤ 96 := by
    have := W1.1 M H (by rw [f1]; exact eM) (by rw [f1]; exact eH)
    rw [tot_k (h := o1) (fun i => kI (ne rM r4 (by decide))) (fun i => kI (ne rH r4 (by decide)))]
    exact this
  have Z : M0 zq M H x4 (hI h a12 n) (hI h lo n) (hI h x1 1) (hI h a3 n) (hI h a9 n) h15 := by
    refine ⟨⟨W15, by rw [w15]; exact W1.2.1, by rw [w15, rI_s]⟩, fun k3 => ?_, fun k3 => ?_, fun k2 => ?_⟩
    · have hi := N2 (by rw [k3]; rfl)
      have z2 : (2 : Int32).toInt = 2 := rfl
      obtain ⟨m0, m1⟩ := im
      obtain ⟨s0, s1⟩ := is
      have t1 : ((2 : Int32) * hI h a9 n).toInt = 2 * (hI h a9 n).toInt := by rw [tm (by rw [z2]; omega), z2]
      have t2 : ((2 : Int32) * hI h a9 n + hI h x1 1).toInt = 2 * (hI h a9 n).toInt + (hI h x1 1).toInt := by rw [ta (by rw [t1]; omega), t1]
      have := nc_i (x := (2 : Int32) * hI h a9 n + hI h x1 1) (by omega)
      rw [kI (ne rH r4 (by decide)), fH _ (by omega)]
      exact hi
    · rw [kM _ (nc6 if')]; exact (E5 k3).1
    · rw [kM _ (nc6 io)]; exact E3 k2
  have fin : ∀ {x10 : Int32}, (x10 = 0 ∨ ¬ hI h a16 n = (-1 : Int32)) → sX15_make_65 F h15 x0 x1 x2 x3 x4 (hI h x1 1) (hI h a3 n) (hI h a6 n) (hI h a9 n) (hI h a12 n) x10 = some o → WrE zq x4 o := by
    intro x10 hx e
    refine mk_65 hn is E4 ik im Q Z (fun n0 k1 => ?_) (fun n0 k1 => ?_) e
    · have n1 := E2' k1
      obtain ⟨u1, u2⟩ := W.2.2.2 (by omega) M1 P1 eM1 eP1
      refine ⟨by rw [kM _ (nc6 ip)]; exact u1, fun z => u2 ?_⟩
      rw [← z]
      exact (E5 (by rw [k1]; decide)).2
    · obtain ⟨k0, u1, u2⟩ := E1 (hx.resolve_left n0) k1
      exact ⟨k0, by rw [kM _ (nc6 it)]; exact u1, fun z => u2 z.symm⟩
  replace e := br_s e; rcases e with ⟨_, e⟩ | ⟨nx, e⟩
  · exact fin (Or.inl rfl) e
  · exact fin (Or.inr nx) e
end
end
