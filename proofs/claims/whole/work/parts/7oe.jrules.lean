/-! RULES, joint -/
section
variable {n j F : Nat} {h : Hp} {o o' : Int32 × Hp}
/-- what SI tells of numbers behind RULES -/
theorem si_rul {L : Nat × Nat} {v : Hp} (k : DyK n v v) (I : SI n (n + 513) L v) : Rg 0 1201 (hI v (n + 21) 2) ∧ Rg 0 12 (hI v (n + 5) 3) ∧ Rg 0 1200 (hI v (n + 513) 7) ∧ XB n (n + 513) v ∧ SqOk (n + 513) v ∧ (hI v (n + 5) 0).toInt * (hI v (n + 5) 1).toInt = (hI v (n + 5) 2).toInt := by
  obtain ⟨ρ, c, T, r0, rm, ci, ri, _, _, _, xb⟩ := I
  have e4 : hR v n 4 = some (n + 21) := dk_e (a := 0) (f := 4) (b := 21) k (by decide +kernel)
  have e2 : hR v n 2 = some (n + 5) := dk_e (a := 0) (f := 2) (b := 5) k (by decide +kernel)
  have q4 : ρ (n + 21) = 3 := rr T (thR T r0 (i := 4) (k2 := 3) rfl (by decide)) e4
  have q2 : ρ (n + 5) = 2 := rr T (thR T r0 (i := 2) (k2 := 2) rfl (by decide)) e2
  have w2 : cw c (n + 5) = 2102 := kid_w T r0 (i := 2) (w := 2102) rfl (by decide) e2
  exact ⟨thI T q4 rfl, thI T q2 rfl, thI T rm rfl, xb, ri.1, ci.2.2.2.2.2.2.2.2.2.2.2.2 _ q2 w2⟩
theorem j_rules {L L' : Nat × Nat} (J : JI n j h) (I' : SI n (n + 513) L' o'.2) (eq : o.1 = o'.1) (e : sX11_rules F h n = some o) (e' : sX15_rules F o.2 (n + 513) = some o') : JI n j o'.2 := by
  have zm : (-1 : Int32).toInt = -1 := rfl
  have z0 : (0 : Int32).toInt = 0 := rfl
  obtain ⟨k, tz, σ, l1, l2, Ok, C, R⟩ := J
  have s6 := dk_610 k
  obtain ⟨kc, cc⟩ := ruc_x k e
  obtain ⟨w0, hw0, e4, e5, _⟩ := R.1
  obtain ⟨w, hw, ww⟩ : ∃ w, (w = 516 ∨ w = 526) ∧ w0 = 1042 - w := ⟨1042 - w0, by omega, by omega⟩
  have w1 : 1042 - w0 = w := by omega
  rw [w1] at e5
  rw [ww] at e4
  have f4 : hR o.2 (n + 513) 4 = some (n + (1042 - w)) := by rw [kc.1.2.2.2.2.2 4 (Or.inl rfl)]; exact e4
  have f5 : hR o.2 (n + 513) 5 = some (n + w) := by rw [kc.1.2.2.2.2.2 5 (Or.inr rfl)]; exact e5
  obtain ⟨kr, rc⟩ := rur_x hw (dk_self kc) f4 f5 e'
  have s6o := dk_610 kc
  obtain ⟨g1, g2, g3, ⟨la, _, mf⟩, so, sq⟩ := si_rul kr I'
  have eqi : o.1.toInt = o'.1.toInt := by rw [eq]
  -- the reference leaves the class's cells
  have FRn : ∀ {W : Nat → Nat → Prop}, FrW W o.2 o'.2 → (∀ a i, W a i → n + 513 ≤ a) → ∀ a i, n ≤ a → a < n + 513 → hI o'.2 a i = hI o.2 a i ∧ hJ o'.2 a i = hJ o.2 a i := fun f w a i _ l => f.2 a i (by omega) (fun c => by have := w a i c; omega)
  have lg1 := lgle (syo_ok (l := l1) Ok)
  have lg2 := lgle (syo_ok (l := l2) Ok)
  have bad : ∀ {x : Int32} {m : Int}, Rg 0 m x → m ≤ 1201 → o.1 = (-1 : Int32) - x → o.1.toInt ≤ -1 := fun {x m} r rm y => by
    have := r.1
    have := r.2
    rw [y, ts (by rw [zm]; omega), zm]; omega
  rcases cc with ⟨c1, fc⟩ | ⟨a, b, c, ⟨ka, Ba, fa⟩, ⟨eb, kb, fb⟩, ⟨kc', fc, u1, u2, u3⟩, oe⟩
  · -- wrong on both sides
    have c1 : o.1.toInt ≤ -1 := by
      have gq : Rg 0 1201 (hI o.2 (n + 21) 2) := by
        rcases rc with ⟨_, _, fr⟩ | ⟨_, _, _, _, _, _, _, fr⟩
        · rw [← (FRn fr (fun a i c => by unfold WIr TwR at c; omega) (n + 21) 2 (by omega) (by omega)).1]; exact g1
        · rw [← (FRn fr (fun a i c => by unfold WIr TwR at c; omega) (n + 21) 2 (by omega) (by omega)).1]; exact g1
      rcases c1 with c1 | c1
      · rw [c1]; have := gq.1; omega
      · exact bad gq (by decide) c1
    rcases rc with ⟨_, kr', fr⟩ | ⟨E, r1, _⟩
    rotate_left
    · have := E.1.1.1
      rw [eqi, r1] at c1
      omega
    have C1 : RelC n o.2 (syOut σ l1) := relc_f k kc fc (fun j i hj c => by
      unfold WRl TwC at c
      rcases hj with hj | hj
      · unfold cFt at hj; omega
      · omega) (fun q a hq e lo hi j f hj c => by unfold WRl TwC at c; omega) lg1 C
    have R1 : RelR n j o.2 (syOut σ l2) := relr_f k kc fc (fun j i hj c => by
      unfold WRl TwC at c
      rcases hj with hj | hj
      · unfold rFt at hj; omega
      · omega) (fun q hq h5 i a hi e lo hi' j f hj c => by unfold WRl TwC at c; omega) lg2 R
    have C2 : RelC n o'.2 (syOut σ l1) := relc_f (dk_self kc) kr' fr (fun j i hj c => by
      unfold WIr TwR at c
      rcases hj with hj | hj
      · unfold cFt at hj; omega
      · omega) (fun q a hq e lo hi j f hj c => by unfold WIr TwR at c; omega) lg1 C1
    have R2 : RelR n j o'.2 (syOut σ l2) := relr_x (dk_self kc) kr' fr (fun w' hw' e4' j i hj c => by
      have y : n + w' = n + (1042 - w) := r_eq f4 e4'
      unfold WIr TwR at c
      omega) (fun j i hj c => by unfold WIr TwR at c; omega) (fun q hq h5 i a hi e lo hi' j f hj c => by unfold WIr TwR at c; omega) lg2 R1
    refine ⟨kr, fun x hx => ?_, σ, l1, l2, Ok, C2, R2⟩
    rw [(FRn fr (fun a i c => by unfold WIr TwR at c; omega) (n + 29) x (by omega) (by omega)).1, (fc.2 (n + 29) x (by omega) (fun c => by unfold WRl TwC at c; omega)).1]
    exact tz x hx
  · -- anew on both sides
    rcases rc with ⟨r1, _, fr⟩ | ⟨E, r1, t4, t5, v1, v2, v3, fr⟩
    · have y1 : o.1.toInt ≤ -1 := bad g3 (by decide) (by rw [eq]; exact r1)
      have y2 : o.1 = hI c (n + 5) 3 := by rw [oe]
      have y3 : hI o'.2 (n + 5) 3 = hI c (n + 5) 3 := by
        rw [(FRn fr (fun a i c => by unfold WIr TwR at c; omega) (n + 5) 3 (by omega) (by omega)).1, oe]
        show hI (wI c (n + 1) 1 0) (n + 5) 3 = _
        rw [rI_a (by omega)]
      rw [y2, ← y3] at y1
      have := g2.1
      omega
    have A := la (n + 5) (n + w) (dk_e (a := 0) (f := 2) (b := 5) kr (by decide +kernel)) t4
    have sa := dk_610 ka
    have sb := dk_610 kb
    have sc := dk_610 kc'
    -- cells of the class's law and board, from a on
    have qr := FRn fr (fun a i c => by unfold WIr TwR at c; omega)
    have oc : ∀ x i, ¬ x = n + 1 → hI o.2 x i = hI c x i ∧ hJ o.2 x i = hJ c x i := fun x i z => by rw [oe]; exact ⟨rI_a z, rfl⟩
    have lawc : ∀ q i, 5 ≤ q → q ≤ 12 → hI o'.2 (n + q) i = hI a (n + q) i ∧ hJ o'.2 (n + q) i = hJ a (n + q) i := fun q i q1 q2 => by
      have y1 := qr (n + q) i (by omega) (by omega)
      have y2 := oc (n + q) i (by omega)
      have y3 := fc.2 (n + q) i (by omega) (fun c => by unfold WFg at c; omega)
      have y4 := fb.2 (n + q) i (by omega) (fun c => by unfold WLy at c; omega)
      exact ⟨y1.1.trans (y2.1.trans (y3.1.trans y4.1)), y1.2.trans (y2.2.trans (y3.2.trans y4.2))⟩
    have Bo : BDc n o'.2 := fun z => by
      have q0 := (lawc 5 0 (by decide) (by decide)).1
      have q1 := (lawc 5 1 (by decide) (by decide)).1
      rw [q0, q1] at z ⊢
      intro s hs
      rw [(lawc 11 s (by decide) (by decide)).1, (lawc 12 s (by decide) (by decide)).1]
      exact Ba z s hs
    have LK := lwk_q hw kr A E
    have CL := clw_q hw kr A sq Bo
    -- the ways
    have Ca : CLq (vK n 0 0 0 0 0 0) a (lwL n w o'.2) := by
      obtain ⟨c1, c2, c3, c4, c5, c6⟩ := CL.1
      refine ⟨?_, ?_, ?_, ?_, fun m hm => ⟨?_, fun i hi => ?_⟩, fun s hs => ⟨?_, ?_⟩⟩
      · show (hI a (n + 5) 0).toInt = _
        rw [← (lawc 5 0 (by decide) (by decide)).1]; exact c1
      · show (hI a (n + 5) 1).toInt = _
        rw [← (lawc 5 1 (by decide) (by decide)).1]; exact c2
      · show (hI a (n + 5) 2).toInt = _
        rw [← (lawc 5 2 (by decide) (by decide)).1]; exact c3
      · show (hI a (n + 5) 3).toInt = _
        rw [← (lawc 5 3 (by decide) (by decide)).1]; exact c4
      · show (hI a (n + 8) m).toInt = _
        rw [← (lawc 8 m (by decide) (by decide)).1]; exact (c5 m hm).1
      · show (hI a (n + 7) (8 * m + i)).toInt = _
        rw [← (lawc 7 _ (by decide) (by decide)).1]; exact (c5 m hm).2 i hi
      · show (hI a (n + 11) s).toInt = _
        rw [← (lawc 11 s (by decide) (by decide)).1]; exact (c6 s hs).1
      · show (hI a (n + 12) s).toInt = _
        rw [← (lawc 12 s (by decide) (by decide)).1]; exact (c6 s hs).2
    have ta : TzN n a := fun x hx => by
      rw [(fa.2 (n + 29) x (by omega) (fun c => by unfold WRl at c; omega)).1]; exact tz x hx
    obtain ⟨Wb, tb⟩ := cwy_q ka kb LK.1 Ca ta eb
    have wayc : ∀ q i, 22 ≤ q → q ≤ 29 → hI o'.2 (n + q) i = hI b (n + q) i ∧ hJ o'.2 (n + q) i = hJ b (n + q) i := fun q i q1 q2 => by
      have y1 := qr (n + q) i (by omega) (by omega)
      have y2 := oc (n + q) i (by omega)
      have y3 := fc.2 (n + q) i (by omega) (fun c => by unfold WFg at c; omega)
      exact ⟨y1.1.trans (y2.1.trans y3.1), y1.2.trans (y2.2.trans y3.2)⟩
    have lawb : ∀ q i, 5 ≤ q → q ≤ 12 → hI o'.2 (n + q) i = hI b (n + q) i ∧ hJ o'.2 (n + q) i = hJ b (n + q) i := fun q i q1 q2 => by
      have y0 := lawc q i q1 q2
      have y4 := fb.2 (n + q) i (by omega) (fun c => by unfold WLy at c; omega)
      exact ⟨y0.1.trans y4.1.symm, y0.2.trans y4.2.symm⟩
    have CLb : ClL n b (lwL n w o'.2) := by
      refine ⟨Wb, ?_⟩
      have M : MkC (vK n 0 0 0 0 0 0) o'.2 (lwL n w o'.2) → CLwC (vK n 0 0 0 0 0 0) b (lwL n w o'.2) := fun M => (cll_e kr kb (fun q i hq => by
        rcases hq with hq | hq
        · exact ⟨(lawb q i hq.1 hq.2).1.symm, (lawb q i hq.1 hq.2).2.symm⟩
        · exact ⟨(wayc q i hq.1 (by omega)).1.symm, (wayc q i hq.1 (by omega)).2.symm⟩) M).2
      refine M ⟨?_, CL⟩
      have e5' : ∀ q, 22 ≤ q → q ≤ 28 → hI o'.2 (n + q) = hI b (n + q) ∧ hJ o'.2 (n + q) = hJ b (n + q) := fun q q1 q2 => ⟨funext fun i => (wayc q i q1 (by omega)).1, funext fun i => (wayc q i q1 (by omega)).2⟩
      obtain ⟨_, _, w3, w4⟩ := Wb
      refine ⟨⟨dk_e (a := 30) (f := 0) (b := 5) kr (by decide +kernel), dk_e (a := 30) (f := 1) (b := 22) kr (by decide +kernel)⟩, ⟨dk_e (a := 22) (f := 0) (b := 23) kr (by decide +kernel), dk_e (a := 22) (f := 1) (b := 24) kr (by decide +kernel), dk_e (a := 22) (f := 2) (b := 25) kr (by decide +kernel), dk_e (a := 22) (f := 3) (b := 26) kr (by decide +kernel), dk_e (a := 22) (f := 4) (b := 27) kr (by decide +kernel), dk_e (a := 22) (f := 5) (b := 28) kr (by decide +kernel)⟩, ?_, ?_⟩
      · have x1 : hI o'.2 (vK n 0 0 0 0 0 0 50) = hI b (vK n 0 0 0 0 0 0 50) := (e5' 23 (by decide) (by decide)).1
        have x2 : hI o'.2 (vK n 0 0 0 0 0 0 51) = hI b (vK n 0 0 0 0 0 0 51) := (e5' 24 (by decide) (by decide)).1
        have x3 : hJ o'.2 (vK n 0 0 0 0 0 0 52) = hJ b (vK n 0 0 0 0 0 0 52) := (e5' 25 (by decide) (by decide)).2
        have x4 : hJ o'.2 (vK n 0 0 0 0 0 0 53) = hJ b (vK n 0 0 0 0 0 0 53) := (e5' 26 (by decide) (by decide)).2
        have x5 : hJ o'.2 (vK n 0 0 0 0 0 0 54) = hJ b (vK n 0 0 0 0 0 0 54) := (e5' 27 (by decide) (by decide)).2
        unfold WyT CellW WyE rowN at w3 ⊢
        rw [x1, x2, x3, x4, x5]
        exact w3
      · have x1 : hJ o'.2 (vK n 0 0 0 0 0 0 55) = hJ b (vK n 0 0 0 0 0 0 55) := (e5' 28 (by decide) (by decide)).2
        unfold AroT at w4 ⊢
        rw [x1]
        exact w4
    have CLo : ClL n o'.2 (lwL n w o'.2) := cll_e kb kr (fun q i hq => by
      rcases hq with hq | hq
      · exact lawb q i hq.1 hq.2
      · exact wayc q i hq.1 (by omega)) CLb
    -- the new state
    have ou : ∀ q i, q = 3 ∨ q = 4 ∨ q = 149 ∨ q = 152 ∨ (q = 48) → hI o'.2 (n + q) i = hI c (n + q) i := fun q i hq => by
      rw [(qr (n + q) i (by omega) (by omega)).1, (oc (n + q) i (by omega)).1]
    have oh : ∀ q i, q = 3 ∨ q = 4 → hI o'.2 (n + q) i = hI h (n + q) i := fun q i hq => by
      rw [ou q i (by omega), (fc.2 (n + q) i (by omega) (fun c => by unfold WFg at c; omega)).1, (fb.2 (n + q) i (by omega) (fun c => by unfold WLy at c; omega)).1, (fa.2 (n + q) i (by omega) (fun c => by unfold WRl at c; omega)).1]
    have ch : ∀ x i, n + 513 ≤ x → x < n + 610 → hI o.2 x i = hI h x i := fun x i l l' => by
      rw [(oc x i (by omega)).1, (fc.2 x i (by omega) (fun c => by unfold WFg at c; omega)).1, (fb.2 x i (by omega) (fun c => by unfold WLy at c; omega)).1, (fa.2 x i (by omega) (fun c => by unfold WRl at c; omega)).1]
    refine ⟨kr, fun x hx => by rw [(wayc 29 x (by decide) (by decide)).1]; exact tb x hx, (lwL n w o'.2, fun _ => none, fun _ => -1, syQ σ, syMv σ, [], []), l1, l2, ⟨LK, (fun p _ P e => nomatch e), fun g _ => ⟨⟨Int.le_refl _, show (-1 : Int) ≤ 300 by decide⟩, fun k hk => by have hk : (k : Int) ≤ -1 := hk; omega⟩, ⟨Nat.zero_le _, fun P hP => absurd hP (List.not_mem_nil)⟩, ltd_q hw E, (fun p _ P e => nomatch e), (fun g _ k hk => by have hk : (k : Int) ≤ -1 := hk; omega), fun P hP => absurd hP (List.not_mem_nil)⟩, ⟨CLo, fun p hp => Or.inl ⟨rfl, by rw [ou 149 p (by omega)]; exact u1 p hp⟩, fun g hg => ⟨by rw [ou 152 g (by omega), u3 g hg]; rfl, fun k hk => by have hk : (k : Int) ≤ -1 := hk; omega⟩, ⟨by rw [ou 48 6 (by omega), u2]; rfl, Or.inl rfl⟩, ?_, fun i hi => ?_⟩, ⟨w, hw, t4, t5, rfl_q hw kr t4 mf so⟩, fun p hp => Or.inl ⟨rfl, v1 p hp⟩, fun g hg => ⟨by rw [v2 g hg]; rfl, fun k hk => by have hk : (k : Int) ≤ -1 := hk; omega⟩, ⟨by rw [v3]; rfl, fun k hk => absurd hk (Nat.not_lt_zero _)⟩, ⟨?_, fun i hi => ?_⟩, ?_⟩
    · rw [oh 3 1 (by omega)]; exact C.2.2.2.2.1
    · rw [oh 4 i (by omega)]; exact C.2.2.2.2.2 i hi
    · rw [(fr.2 (n + 513) 3 (by omega) (fun c => by unfold WIr TwR at c; omega)).1, ch _ _ (by omega) (by omega)]; exact R.2.2.2.2.1.1
    · rw [(fr.2 (n + 515) i (by omega) (fun c => by unfold WIr TwR at c; omega)).1, ch _ _ (by omega) (by omega)]; exact R.2.2.2.2.1.2 i hi
    · obtain ⟨y1, y2, y3⟩ := R.2.2.2.2.2
      have : hI o'.2 (n + 513) 16 = hI h (n + 513) 16 := by
        rw [(fr.2 (n + 513) 16 (by omega) (fun c => by unfold WIr TwR at c; omega)).1, ch _ _ (by omega) (by omega)]
      exact ⟨by rw [this]; exact y1, by rw [this]; exact y2, y3⟩
end
