/-! the last pieces of the steps -/
section
variable {n j F : Nat} {h : Hp} {o o' : Int32 × Hp}
theorem ouq_position {L : Nat × Nat} (hF : 700000 ≤ F) (J : JP n j h) (O : OuE n h) (j1 : j < 100000) (I : SI n (n + 513) L h) (e : sX11_position F h n = some o) (e' : sX15_position F o.2 (n + 513) = some o') : OuE n o'.2 := by
  obtain ⟨k, tz, σ, l1, l2, pb, Ok, C, R, Pc, Pr, Po⟩ := J
  have el := oue_l O C R
  subst el
  obtain ⟨i1, i2, i3, i4, i5, i6⟩ := si_psn k I
  obtain ⟨a, σ', Ok', C', R', k1, k2, f1, f2, sn, fx1, fx2⟩ := psn_k (σ := syOut σ l1) (l := l1) k (syo_ok Ok) C R j1 i1 i2 i3 i4 i5 i6 e e'
  obtain ⟨ρ, c, T, r0, rm, I1, _⟩ := I
  have Z := sat_e (zX11_position (c := cat c (fS [(58, 999), (8, 1), (8, 2)] [(2100, [(10, 1)]), (3200, SHL)]) h) hF fs_a (fs_o (.head _)) (fs_o (.tail _ (.head _))) (th_in _ T) r0 I1.1) e
  have f := fr_u T Z.1.2.2
  have e1 : hR h n 1 = some (n + 3) := dk_e (a := 0) (f := 1) (b := 3) k (by decide +kernel)
  have e4 : hR h (n + 3) 0 = some (n + 4) := dk_e (a := 3) (f := 0) (b := 4) k (by decide +kernel)
  have q3 : ρ (n + 3) = 10 := rr T (thR T r0 (i := 1) (k2 := 10) rfl (by decide)) e1
  have w3 : cw c (n + 3) = 2101 := kid_w T r0 (i := 1) (w := 2101) rfl (by decide) e1
  have q4 : ρ (n + 4) = 49 := rr T (thR T q3 (i := 0) (k2 := 49) rfl (by decide)) e4
  have c3 : hI o.2 (n + 3) 1 = hI h (n + 3) 1 := (frx f q3 (by decide) w3 rfl).1
  have c4 : ∀ i, hI o.2 (n + 4) i = hI h (n + 4) i := fun i => (fr_RI f q4 (by decide) (fun w => fs_cf (Or.inl rfl) (fs_cf (Or.inl rfl) (fs_nf rfl)))).1
  have Co : COu n o.2 (syOut σ l1) := ⟨by rw [c3]; exact C.2.2.2.2.1, fun i hi => by rw [c4]; exact C.2.2.2.2.2 i hi⟩
  have B0 := frzr_o (dk_self k1) f2 (fun a i c => by unfold TwR at c; omega)
  have Cn : COu n o.2 (syOut σ' (syO σ')) := C'.2.2.2.2
  have ey : l1 = syO σ' := cou_u Co Cn
  have C2 := relc_r (dk_self k1) k2 B0 (lgle Ok') C'
  have D : COu n o'.2 (syOut σ' (syO σ')) := C2.2.2.2.2
  rw [← ey] at D
  exact ⟨σ', l1, D, R'.2.2.2.2.1⟩
theorem r62_rules {L' : Nat × Nat} (J : JP n j h) (I' : SI n (n + 513) L' o'.2) (eq : o.1 = o'.1) (e : sX11_rules F h n = some o) (e' : sX15_rules F o.2 (n + 513) = some o') : hR o'.2 (n + 62) 11 = hR h (n + 62) 11 := by
  have zm : (-1 : Int32).toInt = -1 := rfl
  have z0 : (0 : Int32).toInt = 0 := rfl
  obtain ⟨k, tz, σ, l1, l2, pb, Ok, C, R, Pc, Pr, Po⟩ := J
  have s6 := dk_610 k
  obtain ⟨kc, cc⟩ := ruc_x k e
  obtain ⟨w0, hw0, e4, e5, _⟩ := R.1
  obtain ⟨w, hw, ww⟩ : ∃ w, (w = 516 ∨ w = 526) ∧ w0 = 1042 - w := ⟨1042 - w0, by omega, by omega⟩
  have w1 : 1042 - w0 = w := by omega
  rw [w1] at e5
  rw [ww] at e4
  have f4 : hR o.2 (n + 513) 4 = some (n + (1042 - w)) := by rw [kc.1.2.2.2.2.2 4 (Or.inl rfl)]; exact e4
  have f5 : hR o.2 (n + 513) 5 = some (n + w) := by rw [kc.1.2.2.2.2.2 5 (Or.inr rfl)]; exact e5
  obtain ⟨kr, rc⟩ := rur_x hw (dk_self kc) f4 f5 e'
  have s6o := dk_610 kc
  obtain ⟨g1, g2, g3, _⟩ := si_rul kr I'
  have eqi : o.1.toInt = o'.1.toInt := by rw [eq]
  have FRn : ∀ {W : Nat → Nat → Prop}, FrW W o.2 o'.2 → (∀ a i, W a i → n + 513 ≤ a) → ∀ a i, n ≤ a → a < n + 513 → hI o'.2 a i = hI o.2 a i ∧ hJ o'.2 a i = hJ o.2 a i := fun f w a i _ l => f.2 a i (by omega) (fun c => by have := w a i c; omega)
  have lg1 := lgle (syo_ok (l := l1) Ok)
  have lg2 := lgle (syo_ok (l := l2) Ok)
  have bad : ∀ {x : Int32} {m : Int}, Rg 0 m x → m ≤ 1201 → o.1 = (-1 : Int32) - x → o.1.toInt ≤ -1 := fun {x m} r rm y => by
    have := r.1
    have := r.2
    rw [y, ts (by rw [zm]; omega), zm]; omega
  have gq : Rg 0 1201 (hI o.2 (n + 21) 2) := by
    rcases rc with ⟨_, _, fr⟩ | ⟨_, _, _, _, _, _, _, fr⟩
    · rw [← (FRn fr (fun a i c => by unfold WIr TwR at c; omega) (n + 21) 2 (by omega) (by omega)).1]; exact g1
    · rw [← (FRn fr (fun a i c => by unfold WIr TwR at c; omega) (n + 21) 2 (by omega) (by omega)).1]; exact g1
  rcases cc with ⟨c1, fc⟩ | ⟨a, b, c, ⟨ka, Ba, fa⟩, ⟨eb, kb, fb⟩, ⟨kc', fc, u1, u2, u3⟩, oe⟩
  · -- wrong on both sides
    have c1 : o.1.toInt ≤ -1 := by
      rcases c1 with c1 | c1
      · rw [c1]; have := gq.1; omega
      · exact bad gq (by decide) c1
    rcases rc with ⟨_, kr', fr⟩ | ⟨E, r1, _⟩
    rotate_left
    · have := E.1.1.1
      rw [eqi, r1] at c1
      omega
    exact r62_2 k kc kr'
  · -- anew on both sides
    rcases rc with ⟨r1, _, fr⟩ | ⟨E, r1, t4, t5, v1, v2, v3, fr⟩
    · have y1 : o.1.toInt ≤ -1 := bad g3 (by decide) (by rw [eq]; exact r1)
      have y2 : o.1 = hI c (n + 5) 3 := by rw [oe]
      have y3 : hI o'.2 (n + 5) 3 = hI c (n + 5) 3 := by
        rw [(FRn fr (fun a i c => by unfold WIr TwR at c; omega) (n + 5) 3 (by omega) (by omega)).1, oe]
        show hI (wI c (n + 1) 1 0) (n + 5) 3 = _
        rw [rI_a (by omega)]
      rw [y2, ← y3] at y1
      have := g2.1
      omega
    have pos : ¬ o.1.toInt ≤ -1 := fun c1 => by
      have := E.1.1.1
      rw [eqi, r1] at c1
      omega
    have qr := FRn fr (fun a i c => by unfold WIr TwR at c; omega)
    obtain ⟨r62, _⟩ := (rur_l hw (dk_self kc) f4 f5 e').resolve_left (fun y => pos (bad g3 (by decide) (by rw [eq]; exact y)))
    exact (r62 11).trans ((kc.2.2.2 (by omega)).1 11)
theorem jp_up (J : JP n j h) (j1 : j < 100000) : JP n (j + 1) h := by
  obtain ⟨k, tz, σ, l1, l2, pb, Ok, C, ⟨r1, r2, r3, r4, r5, s1, s2, s3⟩, Pc, Pr, Po⟩ := J
  exact ⟨k, tz, σ, l1, l2, pb, Ok, C, ⟨r1, r2, r3, r4, r5, s1, by omega, by omega⟩, Pc, Pr, Po⟩
/-- all that holds between calls -/
def TI (n j : Nat) (L : Nat × Nat) (h : Hp) : Prop := SI n (n + 513) L h ∧ JP n j h ∧ EnJ n h ∧ L73 n h ∧ OuE n h
theorem l73_s {v : Hp} (k : DyK n h h) (H : HnP n h v) (r : hR v (n + 62) 11 = some (n + 73) → hR h (n + 62) 11 = some (n + 73)) (l : L73 n h) : L73 n v := fun z => by
  have y := r z
  have e10 : hR h n 10 = some (n + 62) := dk_e (a := 0) (f := 10) (b := 62) k (by decide +kernel)
  rw [H (n + 62) (n + 73) e10 y]
  exact l y
/-- one pair of calls -/
theorem tj_g {A B : Hp → Option (Int32 × Hp)} {L L' : Nat × Nat} (T : TI n j L h) (j1 : j < 100000) (s : Sf A B h (SI n (n + 513) L')) (q : ∀ o o', A h = some o → B o.2 = some o' → SI n (n + 513) L' o'.2 → o.1 = o'.1 ∧ (JP n j o'.2 ∨ JP n (j + 1) o'.2) ∧ EnJ n o'.2 ∧ OuE n o'.2 ∧ (hR o'.2 (n + 62) 11 = some (n + 73) → hR h (n + 62) 11 = some (n + 73)) ∧ HnP n h o'.2) : St A B h (TI n (j + 1) L') := by
  obtain ⟨a, b, h1, h2, e1, e2, I2⟩ := s
  obtain ⟨q1, q2, q3, q4, q5, q6⟩ := q (a, h1) (b, h2) e1 e2 I2
  have q1 : a = b := q1
  refine ⟨a, h1, h2, e1, by rw [q1]; exact e2, I2, ?_, q3, l73_s T.2.1.1 q6 q5 T.2.2.2.1, q4⟩
  rcases q2 with z | z
  · exact jp_up z j1
  · exact z
end
