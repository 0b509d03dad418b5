section
variable {zq : Nat} {Bq : Nat × Nat} {ρ : Nat → Nat} {c : Cm} {h o : Hp} {x0 b g i F : Nat} {n : Int} {x1 x2 x3 x4 x5 x6 : Int32}
theorem s_foundY {Q : Int32 × Hp → Prop} {k : Nat} {t : Int32} (hA : pmA c [(95, 999)]) (T : TH ρ c h) (r0 : ρ x0 = 16) (i4 : Rg 0 2999 (hI h x0 44)) (ek : (hI h x0 44).toNatClampNeg = k) (FP : FbPY zq Bq x0 h) (H : ∀ g ρ1 c1 b, Ext ρ c ρ1 c1 → TH ρ1 c1 g → Fr ρ (cat c (fS [(95, 999)] []) h) h g → FbPY zq Bq x0 g → Fb x0 k b g → (∀ j b, Fb x0 j b h → Fb x0 j b g) → Sat (sX15_findsRoom_168 F g x0 x1 x2 t) Q) : Sat (cl (hR h x0 40) fun r_3 => gd (inB (hI h x0 44) (hN h r_3)) <| onr (hR h r_3 (hI h x0 44).toNatClampNeg) (cl (hR h x0 40) fun r_7 => nm (hS h) fun a_8 => nm (nC h 12 0 8) fun h_9 => sX15_findsRoom_163 F h_9 x0 x1 x2 t a_8 (hI h x0 44) r_7) (fun r_5 => sX15_findsRoom_168 F h x0 x1 x2 t)) Q := by
  subst ek
  have iv : Rg 0 2999 (hI h x0 44) := i4
  obtain ⟨r, er, qr⟩ := thR T r0 (i := 40) (k2 := 95) rfl (by decide)
  refine s_ref er ?_
  refine s_gd (by rw [thN T qr (k := 95) (n := 3000) rfl (by decide)]; exact rg_inB iv (by decide)) ?_
  refine s_onr (fun q => ?_) (fun r5 q => H h ρ c r5 ex_0 T ⟨fun _ _ _ _ => ⟨rfl, rfl, rfl⟩, fun _ _ => rfl⟩ FP ⟨r, er, q⟩ (fun _ _ B => B))
  refine s_ref er ?_
  refine s_q (fun a ea => ?_)
  refine s_q (fun h8 e8 => ?_)
  subst ea
  subst e8
  unfold sX15_findsRoom_163 sX15_findsRoom_167
  have T' : TH ρ (cat c (fS [(95, 999)] []) h) h := th_in _ T
  have t1 : h.1 = (cat c (fS [(95, 999)] []) h).1 := T'.1.1
  obtain ⟨o1, eo1, ρ1, c1, X1, T1, a1, w1, O1⟩ := newBoard T' (11000 + (hI h x0 44).toNatClampNeg)
  refine s_val eo1 ?_
  have ob : o1 = boH h := by rw [boH_v] at eo1; exact (Option.some.inj eo1).symm
  have z3 : hI o1 (hS h) 3 = 0 := by rw [ob]; exact boH_I h 0 3 (by decide)
  have r01 := ex_r X1 r0 (by decide)
  have qr1 := ex_r X1 qr (by decide)
  have lt : ∀ a, ρ a ≠ 0 → a < h.1.1 := fun a ha => by rw [t1]; exact T'.2.1.2.2.1 a ha
  have lt0 : x0 < h.1.1 := lt x0 (by rw [r0]; decide)
  have ltr : r < h.1.1 := lt r (by rw [qr]; decide)
  have er1 : hR o1 x0 40 = some r := by rw [(O1 x0 lt0).2.2.1]; exact er
  refine s_gd (by rw [thN T1 qr1 (k := 95) (n := 3000) rfl (by decide)]; exact rg_inB iv (by decide)) ?_
  refine s_q (fun h2 e2 => ?_)
  have T2 : TH ρ1 c1 h2 := by
    rw [e2]
    exact th_wRe T1 qr1 (k2 := 13) rfl (by decide) a1 (by decide) (by decide) rfl rfl rfl w1 (ex_p X1 (fs_a _ _ _ rfl))
  have er2 : hR h2 x0 40 = some r := by rw [e2, r_R, if_neg (ne_r r01 qr1 (by decide))]; exact er1
  have ee : hR h2 r (hI h x0 44).toNatClampNeg = some (hS h) := by rw [e2, r_R, if_pos ⟨rfl, rfl⟩]
  have kp : ∀ j b, Fb x0 j b h → Fb x0 j b h2 := fun j b ⟨r', g1, g2⟩ => by
    have : r' = r := r_eq er g1
    subst this
    have z : j ≠ (hI h x0 44).toNatClampNeg := fun z => by rw [z, q] at g2; exact absurd g2 (by simp)
    exact ⟨r', er2, by rw [e2, r_R, if_neg (fun y => z y.2), (O1 r' ltr).2.2.1]; exact g2⟩
  have FP2 : FbPY zq Bq x0 h2 := ⟨fun j b B => by
    obtain ⟨r', g1, g2⟩ := B
    have : r' = r := r_eq er2 g1
    subst this
    by_cases z : j = (hI h x0 44).toNatClampNeg
    · rw [z, ee] at g2
      rw [← Option.some.inj g2]
      have hS0 : hS h = h.1.1 := rfl
      have a1' : ¬ hS h = r' := fun w => by rw [w] at a1; rw [a1] at qr1; exact absurd qr1 (by decide)
      have nn : ∀ k i, k < 5 → hI h2 (h.1.1 + k) i = 0 := fun k i hk => by rw [e2]; show hI o1 (h.1.1 + k) i = 0; rw [ob]; exact boH_I h k i hk
      have nRR : ∀ i, hR h2 (hS h) i = hR (boH h) h.1.1 i := fun i => by rw [e2, r_R, if_neg (fun w => a1' w.1), ob, hS0]
      have n3 : hI h2 (hS h) 3 = 0 := by rw [e2]; exact z3
      refine ⟨pe_0 (by rw [n3]; rfl), fun M H m1 m2 => ?_, ?_, by rw [n3]; decide, fun n => by rw [n3] at n; exact absurd n (by decide)⟩
      · rw [nRR, boH_R] at m1 m2
        have y1 : h.1.1 + 1 = M := Option.some.inj m1
        have y2 : h.1.1 + 3 = H := Option.some.inj m2
        subst y1; subst y2
        exact tot_0 (fun i => nn 1 i (by decide)) (fun i => nn 3 i (by decide))
      · have : hJ h2 (hS h) 2 = 0 := by rw [e2]; show hJ o1 (hS h) 2 = 0; rw [ob]; exact boH_J h 0 2 (by decide)
        rw [this, crt_0]
        decide
    · rw [e2, r_R, if_neg (fun y => z y.2), (O1 r' ltr).2.2.1] at g2
      have P := FP.1 j b ⟨r', er, g2⟩
      have rb := thRn T qr (k2 := 13) rfl (by decide) g2
      have kI : ∀ {x k : Nat}, ρ x = k → k ≠ 0 → ∀ i, hI h2 x i = hI h x i := fun {x k} hx h0 i => by
        rw [e2]
        show hI o1 x i = _
        exact (O1 x (lt x (by rw [hx]; exact h0))).1 i
      have ltb := lt b (by rw [rb]; decide)
      refine pz_eq (fun i => ?_) ?_ (kI rb (by decide) 1) (kI rb (by decide) 3) (fun M m => kI (rr T (thR T rb (i := 0) (k2 := 62) rfl (by decide)) m) (by decide)) (fun M m => kI (rr T (thR T rb (i := 4) (k2 := 63) rfl (by decide)) m) (by decide)) (fun M m => kI (rr T (thR T rb (i := 5) (k2 := 64) rfl (by decide)) m) (by decide)) P
      · rw [e2, r_R, if_neg (ne_r (ex_r X1 rb (by decide)) qr1 (by decide)), (O1 b ltb).2.2.1]
      · rw [e2]
        show hJ o1 b 2 = _
        exact (O1 b ltb).2.1 2, fun r' p1 => by
    have y1 : r' = r := r_eq er2 p1
    subst y1
    have l60 := clamp_i iv.1
    have i59 := iv.2
    have cc := nuC_set q ee (fun i hi => by rw [e2, r_R, if_neg (fun y => hi y.2), (O1 r' ltr).2.2.1]) 3000 (by omega)
    have pb := FP.2 r' er
    have h21 : h2.1 = (h.1.1 + 5, h.1.2 + 162) := by rw [e2]; show o1.1 = _; rw [ob]; exact boH_1 h
    rw [h21]
    show h.1.1 + 5 + 5 * nuC h2 r' 3000 ≤ Bq.1 ∧ h.1.2 + 162 + 162 * nuC h2 r' 3000 ≤ Bq.2
    omega⟩
  exact s_mk1 (k := fun g => sX15_findsRoom_168 F g x0 x1 x2 t) (P := fun o => FbPY zq Bq x0 o ∧ Fb x0 (hI h x0 44).toNatClampNeg (hS h) o ∧ ∀ j b, Fb x0 j b h → Fb x0 j b o) T (fs_sub hA fs_n) X1 T2 ⟨FP2, ⟨r, er2, ee⟩, kp⟩ (fun ρ1 c1 X T1 f p => H h2 ρ1 c1 (hS h) X T1 f p.1 p.2.1 p.2.2)
end
