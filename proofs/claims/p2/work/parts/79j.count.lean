/-! men on the board and in hand, counted -/
def mC (g : Nat → Int32) : Nat → Int
  | 0 => 0
  | n + 1 => mC g n + if 0 < (g n).toInt then 1 else 0
theorem mc_0 (g : Nat → Int32) : ∀ n, 0 ≤ mC g n := by
  intro n
  induction n with
  | zero => exact Int.le_refl _
  | succ n ih => rw [mC]; split <;> omega
theorem mc_le (g : Nat → Int32) : ∀ n, mC g n ≤ n := by
  intro n
  induction n with
  | zero => exact Int.le_refl _
  | succ n ih => rw [mC]; split <;> omega
theorem mc_eq {g g' : Nat → Int32} : ∀ n, (∀ i, i < n → g' i = g i) → mC g' n = mC g n := by
  intro n
  induction n with
  | zero => intro _; rfl
  | succ n ih => intro h; rw [mC, mC, ih (fun i hi => h i (by omega)), h n (by omega)]
theorem mc_up {g g' : Nat → Int32} {q : Nat} : ∀ n, q < n → (∀ i, i < n → ¬ i = q → g' i = g i) → mC g' n = mC g n - (if 0 < (g q).toInt then 1 else 0) + (if 0 < (g' q).toInt then 1 else 0) := by
  intro n
  induction n with
  | zero => intro h _; omega
  | succ n ih =>
    intro hq h
    rw [mC, mC]
    by_cases z : q = n
    · rw [mc_eq n (fun i hi => h i (by omega) (by omega)), z]; omega
    · rw [ih (by omega) (fun i hi => h i (by omega)), h n (by omega) (fun w => z w.symm)]; omega
theorem sh_eq {h o : Hp} {H d : Nat} : ∀ n, (∀ i, i < n → hI o H (2 * i + d) = hI h H (2 * i + d)) → sH o H d n = sH h H d n := by
  intro n
  induction n with
  | zero => intro _; rfl
  | succ n ih => intro k; rw [sH, sH, ih (fun i hi => k i (by omega)), k n (by omega)]
theorem sh_eq2 {h o : Hp} {H H' d : Nat} : ∀ n, (∀ i, i < n → hI o H' (2 * i + d) = hI h H (2 * i + d)) → sH o H' d n = sH h H d n := by
  intro n
  induction n with
  | zero => intro _; rfl
  | succ n ih => intro k; rw [sH, sH, ih (fun i hi => k i (by omega)), k n (by omega)]
theorem sh_up {h o : Hp} {H d q : Nat} : ∀ n, q < n → (∀ i, i < n → ¬ i = q → hI o H (2 * i + d) = hI h H (2 * i + d)) → sH o H d n = sH h H d n - (hI h H (2 * q + d)).toInt + (hI o H (2 * q + d)).toInt := by
  intro n
  induction n with
  | zero => intro h _; omega
  | succ n ih =>
    intro hq k
    rw [sH, sH]
    by_cases z : q = n
    · rw [sh_eq n (fun i hi => k i (by omega) (by omega)), z]; omega
    · rw [ih (by omega) (fun i hi => k i (by omega)), k n (by omega) (fun w => z w.symm)]; omega
/-- all men of a board -/
def tot (M H : Nat) (h : Hp) : Int := mC (hI h M) 64 + sH h H 0 12 + sH h H 1 12
theorem tot_M {h o : Hp} {M H q : Nat} {v : Int32} (hq : q < 64) (kH : ∀ i, hI o H i = hI h H i) (kM : ∀ i, hI o M i = if i = q then v else hI h M i) : tot M H o = tot M H h - (if 0 < (hI h M q).toInt then 1 else 0) + (if 0 < v.toInt then 1 else 0) := by
  unfold tot
  rw [sh_eq 12 (fun i _ => kH _), sh_eq 12 (fun i _ => kH _), mc_up (g := hI h M) (q := q) 64 hq (fun i _ n => by rw [kM, if_neg n]), kM q, if_pos rfl]
  omega
theorem tot_H {h o : Hp} {M H j : Nat} {v : Int32} (hj : j < 24) (kM : ∀ i, hI o M i = hI h M i) (kH : ∀ i, hI o H i = if i = j then v else hI h H i) : tot M H o = tot M H h - (hI h H j).toInt + v.toInt := by
  unfold tot
  rw [mc_eq 64 (fun i _ => kM i)]
  obtain ⟨q, hq⟩ : ∃ q, q = j / 2 := ⟨_, rfl⟩
  have ev : hI o H j = v := by rw [kH, if_pos rfl]
  rcases Nat.mod_two_eq_zero_or_one j with z | z
  · have ej : 2 * q + 0 = j := by omega
    rw [sh_up (d := 0) (q := q) (h := h) 12 (by omega) (fun i _ n => by rw [kH, if_neg (by omega)]), sh_eq (h := h) (d := 1) 12 (fun i _ => by rw [kH, if_neg (by omega)]), ej, ev]; omega
  · have ej : 2 * q + 1 = j := by omega
    rw [sh_up (d := 1) (q := q) (h := h) 12 (by omega) (fun i _ n => by rw [kH, if_neg (by omega)]), sh_eq (h := h) (d := 0) 12 (fun i _ => by rw [kH, if_neg (by omega)]), ej, ev]; omega
theorem crt_sub {a b : Int64} : ∀ n, (∀ i, i < n → bitJ b i = true → bitJ a i = true) → cRt b n ≤ cRt a n := by
  intro n
  induction n with
  | zero => intro _; exact Nat.le_refl _
  | succ n ih =>
    intro k
    rw [cRt, cRt]
    have := ih (fun i hi => k i (by omega))
    have kn := k n (by omega)
    cases w : bitJ b n with
    | false => simp; omega
    | true => rw [kn w]; simp; omega
theorem crt_and (a b : Int64) (n : Nat) : cRt (a &&& b) n ≤ cRt a n := crt_sub n (fun i _ w => by
  rw [bj_and] at w
  simp at w
  exact w.1)
/-- a board that can be written: few men, few rights, few squares gone over; who went over them stands on the first -/
def WrE (zq : Nat) (b : Nat) (h : Hp) : Prop := (∀ M H, hR h b 0 = some M → hR h b 5 = some H → tot M H h ≤ 96) ∧ cRt (hJ h b 2) zq ≤ 16 ∧ (hI h b 3).toInt ≤ 8 ∧ (0 < (hI h b 3).toInt → ∀ M P, hR h b 0 = some M → hR h b 4 = some P → 0 < (hI h M (hI h P 0).toNatClampNeg).toInt ∧ ¬ (hI h M (hI h P 0).toNatClampNeg - (1 : Int32)) &&& (1 : Int32) = hI h b 1)
section
variable {zq : Nat} {ρ : Nat → Nat} {c : Cm} {h o h2 : Hp} {x0 x1 b : Nat} {S : Nat → Nat → Nat → Bool}
theorem wr_fr (T : TH ρ c h) (rb : ρ b = 13) (f : Fr ρ (cat c S h) h h2) (s0 : ∀ i, i < 6 → S 13 (cw c b) i = false) (s4 : ∀ i, S 62 (cw c b) i = false) (s5 : ∀ i, S 63 (cw c b) i = false) (s6 : ∀ i, S 64 (cw c b) i = false) (P : WrE zq b h) : WrE zq b h2 := by
  have g : ∀ {a k j : Nat}, ρ a = k → k ≠ 0 → S k (cw c a) j = false → hI h2 a j = hI h a j ∧ hJ h2 a j = hJ h a j ∧ hR h2 a j = hR h a j := fun {a k j} ha hk hs => f.1 a j (by rw [ha]; exact hk) (by rw [ha]; exact hs)
  have g0 : ∀ {j : Nat}, j < 6 → hI h2 b j = hI h b j ∧ hJ h2 b j = hJ h b j ∧ hR h2 b j = hR h b j := fun hj => g rb (by decide) (s0 _ hj)
  obtain ⟨p1, p2, p3, p4⟩ := P
  have kM : ∀ {M i : Nat}, hR h b 0 = some M → hI h2 M i = hI h M i := fun {M i} e => (g (rr T (thR T rb (i := 0) (k2 := 62) rfl (by decide)) e) (by decide) (by rw [th_ih T rb (by decide) e rfl]; exact s4 _)).1
  have kP : ∀ {M i : Nat}, hR h b 4 = some M → hI h2 M i = hI h M i := fun {M i} e => (g (rr T (thR T rb (i := 4) (k2 := 63) rfl (by decide)) e) (by decide) (by rw [th_ih T rb (by decide) e rfl]; exact s5 _)).1
  have kH : ∀ {M i : Nat}, hR h b 5 = some M → hI h2 M i = hI h M i := fun {M i} e => (g (rr T (thR T rb (i := 5) (k2 := 64) rfl (by decide)) e) (by decide) (by rw [th_ih T rb (by decide) e rfl]; exact s6 _)).1
  refine ⟨fun M H e1 e2 => ?_, ?_, ?_, fun n M P e1 e2 => ?_⟩
  · rw [(g0 (by decide)).2.2] at e1 e2
    have := p1 M H e1 e2
    unfold tot at this ⊢
    rw [mc_eq 64 (fun i _ => kM e1), sh_eq 12 (fun i _ => kH e2), sh_eq 12 (fun i _ => kH e2)]
    exact this
  · rw [(g0 (by decide)).2.1]; exact p2
  · rw [(g0 (by decide)).1]; exact p3
  · rw [(g0 (by decide)).2.2] at e1 e2
    rw [(g0 (by decide)).1] at n
    rw [kP e2, kM e1, (g0 (by decide)).1]
    exact p4 n M P e1 e2
/-- what copy does to rights and lengths -/
theorem cpy_j (e : sX12_copy h x0 x1 = some o) : (∀ i, hJ o x0 2 = hJ h x1 2 ∧ (¬ i = 2 → hJ o x0 i = hJ h x0 i)) ∧ (∀ a i, ¬ a = x0 → hJ o a i = hJ h a i) ∧ (∀ a, hN o a = hN h a) := by
  unfold sX12_copy at e
  simp only [nm] at e
  replace e := cl_s e; obtain ⟨_, _, e⟩ := e
  replace e := cl_s e; obtain ⟨_, _, e⟩ := e
  iterate 5 replace e := (gd_s e).2
  replace e := cl_s e; obtain ⟨_, _, e⟩ := e
  replace e := cl_s e; obtain ⟨_, _, e⟩ := e
  iterate 5 replace e := (gd_s e).2
  replace e := cl_s e; obtain ⟨_, _, e⟩ := e
  replace e := cl_s e; obtain ⟨_, _, e⟩ := e
  iterate 5 replace e := (gd_s e).2
  replace e := cl_s e; obtain ⟨_, _, e⟩ := e
  replace e := cl_s e; obtain ⟨_, _, e⟩ := e
  iterate 2 replace e := (gd_s e).2
  replace e := cl_s e; obtain ⟨_, _, e⟩ := e
  replace e := cl_s e; obtain ⟨_, _, e⟩ := e
  iterate 2 replace e := (gd_s e).2
  have e := Option.some.inj e
  rw [← e]
  have key : ∀ (g : Hp) (v : Int64) (a i : Nat), hJ (wJ g x0 2 v) a i = if a = x0 ∧ i = 2 then v else hJ g a i := fun g v a i => r_J ..
  refine ⟨fun i => ⟨?_, fun n => ?_⟩, fun a i n => ?_, fun a => rfl⟩
  · exact (key _ _ x0 2).trans (if_pos ⟨rfl, rfl⟩)
  · exact (key _ _ x0 i).trans (if_neg (fun w => n w.2))
  · exact (key _ _ a i).trans (if_neg (fun w => n w.1))
theorem wr_copy (T : TH ρ c h) (r0 : ρ x0 = 13) (r1 : ρ x1 = 13) (P : WrE zq x1 h) (e : sX12_copy h x0 x1 = some o) : WrE zq x0 o := by
  obtain ⟨Mb, eMb, rMb⟩ := thR T r1 (i := 0) (k2 := 62) rfl (by decide)
  obtain ⟨Mt, eMt, rMt⟩ := thR T r0 (i := 0) (k2 := 62) rfl (by decide)
  obtain ⟨Pb, ePb, rPb⟩ := thR T r1 (i := 4) (k2 := 63) rfl (by decide)
  obtain ⟨Pt, ePt, rPt⟩ := thR T r0 (i := 4) (k2 := 63) rfl (by decide)
  obtain ⟨Hb, eHb, rHb⟩ := thR T r1 (i := 5) (k2 := 64) rfl (by decide)
  obtain ⟨Ht, eHt, rHt⟩ := thR T r0 (i := 5) (k2 := 64) rfl (by decide)
  obtain ⟨C, eC, rC⟩ := thR T r0 (i := 6) (k2 := 65) rfl (by decide)
  obtain ⟨f1, fM, fH, f3, f4, f5, f6, fo, _⟩ := cpy_post r0 r1 rMb rMt rPb rPt rHb rHt rC eMb eMt ePb ePt eHb eHt eC e
  have j2 := ((cpy_j e).1 0).1
  obtain ⟨p1, p2, p3, p4⟩ := P
  refine ⟨fun M H m1 m2 => ?_, by rw [j2]; exact p2, by rw [f4]; exact p3, fun n M P m1 m2 => ?_⟩
  · rw [f1] at m1 m2
    have y1 := r_eq eMt m1
    have y2 := r_eq eHt m2
    subst y1; subst y2
    have := p1 Mb Hb eMb eHb
    unfold tot at this ⊢
    have u1 : mC (hI o M) 64 = mC (hI h Mb) 64 := mc_eq 64 (fun i hi => fM i hi)
    rw [u1, sh_eq2 (h := h) (H := Hb) 12 (fun i hi => fH _ (by omega)), sh_eq2 (h := h) (H := Hb) 12 (fun i hi => fH _ (by omega))]
    exact this
  · rw [f1] at m1 m2
    have y1 := r_eq eMt m1
    have y2 := r_eq ePt m2
    subst y1; subst y2
    rw [f4] at n
    have c3 := nc_i (x := hI h x1 3) (by omega)
    have ip : Rg 0 63 (hI h Pb 0) := thI T rPb rfl
    rw [f5 0 (by omega), fM _ (by have := rg_clamp (n := 63) ip (by decide); omega), f3]
    exact p4 n Mb Pb eMb ePb
end
