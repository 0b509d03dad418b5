theorem s_mk1 {ρ : Nat → Nat} {c : Cm} {h h2 : Hp} {S : Nat → Nat → Nat → Bool} {β : Type} {Q : β → Prop} {P : Hp → Prop} {k : Hp → Option β} (T : TH ρ c h) (hs : ∀ k w i, S k w i = true → cPm c k w i = true) {ρ' : Nat → Nat} {c' : Cm} (X : Ext ρ (cat c S h) ρ' c') (T2 : TH ρ' c' h2) (p : P h2) (H : ∀ ρ1 c1, Ext ρ c ρ1 c1 → TH ρ1 c1 h2 → Fr ρ (cat c S h) h h2 → P h2 → Sat (k h2) Q) : Sat (k h2) Q := by
  show Sat (cl (some h2) k) Q
  refine s_mk (g := fun (o : Hp) => o) (P := fun (o : Hp) (_ : Nat → Nat) (_ : Cm) => o = h2 ∧ P o) T hs (s_some ⟨ρ', c', X, T2, rfl, p⟩) (fun _ _ _ _ _ p => p) (fun o ρ1 c1 X T1 f p => ?_)
  obtain ⟨e, p⟩ := p
  subst e
  exact H ρ1 c1 X T1 f p
section
variable {ρ : Nat → Nat} {c : Cm} {h o : Hp} {x0 b g i F : Nat} {n : Int} {x1 x2 x3 x4 x5 x6 : Int32}
/-- the board that the next find goes to: made where it is wanting -/
theorem s_found {Q : Int32 × Hp → Prop} {k : Nat} {t : Int32} (hA : pmA c [(95, 999)]) (T : TH ρ c h) (r0 : ρ x0 = 16) (i4 : Rg 0 2999 (hI h x0 44)) (ek : (hI h x0 44).toNatClampNeg = k) (FP : FbP x0 h) (H : ∀ g ρ1 c1 b, Ext ρ c ρ1 c1 → TH ρ1 c1 g → Fr ρ (cat c (fS [(95, 999)] []) h) h g → FbP x0 g → Fb x0 k b g → (∀ j b, Fb x0 j b h → Fb x0 j b g) → Sat (sX15_findsRoom_168 F g x0 x1 x2 t) Q) : Sat (cl (hR h x0 40) fun r_3 => gd (inB (hI h x0 44) (hN h r_3)) <| onr (hR h r_3 (hI h x0 44).toNatClampNeg) (cl (hR h x0 40) fun r_7 => nm (hS h) fun a_8 => nm (nC h 12 0 8) fun h_9 => sX15_findsRoom_163 F h_9 x0 x1 x2 t a_8 (hI h x0 44) r_7) (fun r_5 => sX15_findsRoom_168 F h x0 x1 x2 t)) Q := by
  subst ek
  have iv : Rg 0 2999 (hI h x0 44) := i4
  obtain ⟨r, er, qr⟩ := thR T r0 (i := 40) (k2 := 95) rfl (by decide)
  refine s_ref er ?_
  refine s_gd (by rw [thN T qr (k := 95) (n := 3000) rfl (by decide)]; exact rg_inB iv (by decide)) ?_
  refine s_onr (fun q => ?_) (fun r5 q => H h ρ c r5 ex_0 T ⟨fun _ _ _ _ => ⟨rfl, rfl, rfl⟩, fun _ _ => rfl⟩ FP ⟨r, er, q⟩ (fun _ _ B => B))
  refine s_ref er ?_
  refine s_q (fun a ea => ?_)
  refine s_q (fun h8 e8 => ?_)
  subst ea
  subst e8
  unfold sX15_findsRoom_163 sX15_findsRoom_167
  have T' : TH ρ (cat c (fS [(95, 999)] []) h) h := th_in _ T
  have t1 : h.1 = (cat c (fS [(95, 999)] []) h).1 := T'.1.1
  obtain ⟨o1, eo1, ρ1, c1, X1, T1, a1, w1, O1⟩ := newBoard T' (11000 + (hI h x0 44).toNatClampNeg)
  refine s_val eo1 ?_
  have ob : o1 = boH h := by rw [boH_v] at eo1; exact (Option.some.inj eo1).symm
  have z3 : hI o1 (hS h) 3 = 0 := by rw [ob]; exact boH_I h 0 3 (by decide)
  have r01 := ex_r X1 r0 (by decide)
  have qr1 := ex_r X1 qr (by decide)
  have lt : ∀ a, ρ a ≠ 0 → a < h.1.1 := fun a ha => by rw [t1]; exact T'.2.1.2.2.1 a ha
  have lt0 : x0 < h.1.1 := lt x0 (by rw [r0]; decide)
  have ltr : r < h.1.1 := lt r (by rw [qr]; decide)
  have er1 : hR o1 x0 40 = some r := by rw [(O1 x0 lt0).2.2.1]; exact er
  refine s_gd (by rw [thN T1 qr1 (k := 95) (n := 3000) rfl (by decide)]; exact rg_inB iv (by decide)) ?_
  refine s_q (fun h2 e2 => ?_)
  have T2 : TH ρ1 c1 h2 := by
    rw [e2]
    exact th_wRe T1 qr1 (k2 := 13) rfl (by decide) a1 (by decide) (by decide) rfl rfl rfl w1 (ex_p X1 (fs_a _ _ _ rfl))
  have er2 : hR h2 x0 40 = some r := by rw [e2, r_R, if_neg (ne_r r01 qr1 (by decide))]; exact er1
  have ee : hR h2 r (hI h x0 44).toNatClampNeg = some (hS h) := by rw [e2, r_R, if_pos ⟨rfl, rfl⟩]
  have kp : ∀ j b, Fb x0 j b h → Fb x0 j b h2 := fun j b ⟨r', g1, g2⟩ => by
    have : r' = r := r_eq er g1
    subst this
    have z : j ≠ (hI h x0 44).toNatClampNeg := fun z => by rw [z, q] at g2; exact absurd g2 (by simp)
    exact ⟨r', er2, by rw [e2, r_R, if_neg (fun y => z y.2), (O1 r' ltr).2.2.1]; exact g2⟩
  have FP2 : FbP x0 h2 := fun j b B => by
    obtain ⟨r', g1, g2⟩ := B
    have : r' = r := r_eq er2 g1
    subst this
    by_cases z : j = (hI h x0 44).toNatClampNeg
    · rw [z, ee] at g2
      rw [← Option.some.inj g2]
      exact pe_0 (by rw [e2]; show (hI o1 (hS h) 3).toInt = 0; rw [z3]; rfl)
    · rw [e2, r_R, if_neg (fun y => z y.2), (O1 r' ltr).2.2.1] at g2
      have P := FP j b ⟨r', er, g2⟩
      have rb := thRn T qr (k2 := 13) rfl (by decide) g2
      have ltb := lt b (by rw [rb]; decide)
      intro M Pa m1 m2 k k1 k2
      have x1' : hR h2 b 0 = hR h b 0 := by rw [e2, r_R, if_neg (ne_r (ex_r X1 rb (by decide)) qr1 (by decide)), (O1 b ltb).2.2.1]
      have x2' : hR h2 b 4 = hR h b 4 := by rw [e2, r_R, if_neg (ne_r (ex_r X1 rb (by decide)) qr1 (by decide)), (O1 b ltb).2.2.1]
      rw [x1'] at m1
      rw [x2'] at m2
      obtain ⟨M', f1, s1⟩ := thR T rb (i := 0) (k2 := 62) rfl (by decide)
      obtain ⟨P', f2, s2⟩ := thR T rb (i := 4) (k2 := 63) rfl (by decide)
      have ltM := lt M (by rw [r_eq f1 m1, s1]; decide)
      have ltP := lt Pa (by rw [r_eq f2 m2, s2]; decide)
      have i3 : hI h2 b 3 = hI h b 3 := by rw [e2]; exact (O1 b ltb).1 3
      have iP : hI h2 Pa k = hI h Pa k := by rw [e2]; exact (O1 Pa ltP).1 k
      have iM : ∀ n, hI h2 M n = hI h M n := fun n => by rw [e2]; exact (O1 M ltM).1 n
      rw [i3] at k2
      rw [iP, iM]
      exact P M Pa m1 m2 k k1 k2
  exact s_mk1 (k := fun g => sX15_findsRoom_168 F g x0 x1 x2 t) (P := fun o => FbP x0 o ∧ Fb x0 (hI h x0 44).toNatClampNeg (hS h) o ∧ ∀ j b, Fb x0 j b h → Fb x0 j b o) T (fs_sub hA fs_n) X1 T2 ⟨FP2, ⟨r, er2, ee⟩, kp⟩ (fun ρ1 c1 X T1 f p => H h2 ρ1 c1 (hS h) X T1 f p.1 p.2.1 p.2.2)
end
