section
def FbPY (zq : Nat) (Bq : Nat × Nat) (x0 : Nat) (h : Hp) : Prop := (∀ k b, Fb x0 k b h → PZ zq b h) ∧ Pay 40 3000 5 162 Bq x0 h
theorem th1e {ρ : Nat → Nat} {c : Cm} {h o : Hp} (T : TH ρ c h) (T' : TH ρ c o) : o.1 = h.1 := T'.1.1.trans T.1.1.symm
def FdPY (zq : Nat) (Bq : Nat × Nat) (x0 : Nat) (h : Hp) : Prop := OrP x0 h ∧ FbE x0 (hI h x0 44).toInt h ∧ FbPY zq Bq x0 h ∧ TxA x0 h
def fdBY (S : Nat → Nat → Nat → Bool) : Prop := (∀ w, S 16 w 40 = false) ∧ (∀ w i, S 95 w i = false) ∧ ∀ j, (∀ i, i < 6 → S 13 (11000 + j) i = false) ∧ (∀ i, S 62 (11000 + j) i = false) ∧ (∀ i, S 63 (11000 + j) i = false) ∧ ∀ i, S 64 (11000 + j) i = false
section
variable {zq : Nat} {Bq : Nat × Nat} {ρ : Nat → Nat} {c : Cm} {h o : Hp} {S : Nat → Nat → Nat → Bool} {x0 b i F : Nat} {n : Int}
theorem fbp_frY (T : TH ρ c h) (r0 : ρ x0 = 16) (f : Fr ρ (cat c S h) h o) (s : fdBY S) (P : FbPY zq Bq x0 h) (q1 : o.1 = h.1 := by first | assumption | (apply th1e <;> assumption)) : FbPY zq Bq x0 o := ⟨fun k b B => by
  have B0 := (fbo_fr T r0 f s.1 (fun w => s.2.1 w k)).mpr B
  obtain ⟨k1, k2⟩ := fbo_r T r0 B0
  obtain ⟨a1, a2, a3, a4⟩ := s.2.2 k
  exact pz_fr T k1 f (fun i hi => by rw [k2]; exact a1 i hi) (fun i => by rw [k2]; exact a2 i) (fun i => by rw [k2]; exact a3 i) (fun i => by rw [k2]; exact a4 i) (P.1 k b B0), pay_k0 T r0 (k2 := 95) rfl (by decide) q1 (fr_RI f r0 (by decide) s.1).2.2 (fun r i qr => (fr_RI f qr (by decide) (fun w => s.2.1 w i)).2.2) P.2⟩
theorem fd_frY (T : TH ρ c h) (r0 : ρ x0 = 16) (f : Fr ρ (cat c S h) h o) (s : fdBY S) (s2 : fdO S) (s3 : fdT S) (s4 : ∀ w, S 16 w 44 = false) (P : FdPY zq Bq x0 h) (q1 : o.1 = h.1 := by first | assumption | (apply th1e <;> assumption)) : FdPY zq Bq x0 o :=
  ⟨or_fr T r0 f s2 s4 P.1, by rw [(fr_RI f r0 (by decide) s4).1]; exact fbe_fr T r0 f s.1 s.2.1 P.2.1, fbp_frY T r0 f s P.2.2.1, tx_fr T r0 f s3 P.2.2.2⟩
end
section
variable {zq : Nat} {Bq : Nat × Nat} {ρ : Nat → Nat} {c : Cm} {h o : Hp} {S : Nat → Nat → Nat → Bool} {x0 b g i F : Nat} {n : Int} {x1 x2 x3 x4 x5 x6 : Int32}
theorem fB83Y : fdBY (fS [(83, 999), (16, 3)] []) := ⟨fun _ => rfl, fun _ _ => rfl, fun _ => ⟨fun _ _ => rfl, fun _ => rfl, fun _ => rfl, fun _ => rfl⟩⟩
theorem fB97Y : fdBY (fS [(97, 999)] []) := ⟨fun _ => rfl, fun _ _ => rfl, fun _ => ⟨fun _ _ => rfl, fun _ => rfl, fun _ => rfl, fun _ => rfl⟩⟩
theorem fB96Y : fdBY (fS [(96, 999)] []) := ⟨fun _ => rfl, fun _ _ => rfl, fun _ => ⟨fun _ _ => rfl, fun _ => rfl, fun _ => rfl, fun _ => rfl⟩⟩
theorem fB98Y : fdBY (fS [(98, 999)] []) := ⟨fun _ => rfl, fun _ _ => rfl, fun _ => ⟨fun _ _ => rfl, fun _ => rfl, fun _ => rfl, fun _ => rfl⟩⟩
theorem fB44Y : fdBY (fS [(16, 44)] []) := ⟨fun _ => rfl, fun _ _ => rfl, fun _ => ⟨fun _ _ => rfl, fun _ => rfl, fun _ => rfl, fun _ => rfl⟩⟩
theorem fd_280Y (hA : pmA c fdL) (T : TH ρ c h) (r0 : ρ x0 = 16) (i1 : Rg 0 256 x1) (i5 : Rg 0 1 x5) (P : FdPY zq Bq x0 h) : Sat (sX15_findsRoom_280 F h x0 x1 x5) (fun o => TH ρ c o.2 ∧ Rg 0 1 o.1 ∧ FdPY zq Bq x0 o.2) := by
  unfold sX15_findsRoom_280 sX15_findsRoom_294
  obtain ⟨r1, e1, q1⟩ := thR T r0 (i := 43) (k2 := 98) rfl (by decide)
  refine s_ref e1 ?_
  obtain ⟨r2, e2, q2⟩ := thR T r0 (i := 2) (k2 := 83) rfl (by decide)
  refine s_ref e2 ?_
  refine s_gd (by decide) (s_gd (by decide) (s_gd (rg_nneg i1 (by decide)) ?_))
  refine s_gd (g_len (rg_b rfl : Rg (0) (0) ((0 : Int32))) i1 (thN T q1 (k := 98) (n := 256) rfl (by decide)) (by decide)) ?_
  refine s_gd (g_len (rg_b rfl : Rg (0) (0) ((0 : Int32))) i1 (thN T q2 (k := 83) (n := 256) rfl (by decide)) (by decide)) ?_
  refine s_gd (fun i _ => fits_b (rg_m (thI T q1 (k := 98) (lo := (-128)) (hi := (127)) rfl) (by decide))) ?_
  refine s_hq (th_cpI T q1 q2 (k0 := 98) (k := 83) (lo0 := (-128)) (hi0 := (127)) (lo := (-128)) (hi := (127)) (fun _ => rfl) (fun _ => rfl) (by decide) (by decide) (by decide) (fun _ => (pm_a hA rfl))) (fun h9 T9 e9 => ?_)
  have P9 := fd_frY T r0 (fr1C (A := [(83, 999)]) q2 rfl e9) ⟨fun _ => rfl, fun _ _ => rfl, fun _ => ⟨fun _ _ => rfl, fun _ => rfl, fun _ => rfl, fun _ => rfl⟩⟩ ⟨fun _ => rfl, fun _ _ => rfl⟩ ⟨fun _ => rfl, fun _ _ => rfl⟩ (fun _ => rfl) P
  refine s_hq (th_wI T9 r0 (k := 16) (lo := (0)) (hi := (256)) rfl i1 (by decide) (by decide) (pm_a hA rfl)) (fun h10 T10 e10 => ?_)
  have P10 := fd_frY T9 r0 (fr1I (A := [(16, 3)]) r0 rfl e10) ⟨fun _ => rfl, fun _ _ => rfl, fun _ => ⟨fun _ _ => rfl, fun _ => rfl, fun _ => rfl, fun _ => rfl⟩⟩ ⟨fun _ => rfl, fun _ _ => rfl⟩ ⟨fun _ => rfl, fun _ _ => rfl⟩ (fun _ => rfl) P9
  exact s_gd (rg_bool i5) (s_some ⟨T10, i5, P10⟩)
theorem fd_228Y (hA : pmA c fdL) (T : TH ρ c h) (r0 : ρ x0 = 16) (i1 : Rg 0 256 x1) (i5 : Rg 0 1 x5) (en : (hI h x0 44).toInt = n) (l0 : 0 ≤ n) (ln : n < 3000) (ou : (hI h x0 3).toInt ≤ 87) (O : ∀ r, hR h x0 42 = some r → ∀ i : Nat, (i : Int) ≤ n → (hI h r i).toInt ≤ n) (E : FbE x0 (n + 1) h) (FP : FbPY zq Bq x0 h) (TX : TxA x0 h) : Sat (sX15_findsRoom_228 F h x0 x1 x5) (fun o => TH ρ c o.2 ∧ Rg 0 1 o.1 ∧ FdPY zq Bq x0 o.2) := by
  unfold sX15_findsRoom_228 sX15_findsRoom_270
  have in4 : Rg 0 2999 (hI h x0 44) := ⟨by omega, by omega⟩
  have e96 : (96 : Int32).toInt = 96 := rfl
  have em : ((96 : Int32) * (hI h x0 44)).toInt = 96 * n := by rw [tm (by rw [e96]; omega), e96, en]
  have im : Rg 0 287904 ((96 : Int32) * (hI h x0 44)) := ⟨by omega, by omega⟩
  have cm := clamp_i im.1
  obtain ⟨r1, e1, q1⟩ := thR T r0 (i := 41) (k2 := 96) rfl (by decide)
  refine s_ref e1 ?_
  refine s_gd (by rw [thN T q1 (k := 96) (n := 288000) rfl (by decide)]; exact rg_inB im (by decide)) ?_
  have io := thI T r0 (k := 16) (i := 3) (lo := 0) (hi := 256) rfl
  refine s_hq (th_wI T q1 (k := 96) (lo := -128) (hi := 127) rfl (rg_narb (rg_y _) (by decide)) (by decide) (by decide) (pm_a hA rfl)) (fun h3 T3 w3 => ?_)
  have f3 := fr1I (c := c) (A := [(96, 999)]) q1 rfl w3
  have e44 : hI h3 x0 44 = hI h x0 44 := (fr_RI f3 r0 (by decide) (fun _ => rfl)).1
  have e3 : hI h3 x0 3 = hI h x0 3 := (fr_RI f3 r0 (by decide) (fun _ => rfl)).1
  have E3 := fbe_fr T r0 f3 fB96Y.1 fB96Y.2.1 E
  have FP3 := fbp_frY T r0 f3 fB96Y FP
  have O3 : ∀ r, hR h3 x0 42 = some r → ∀ i : Nat, (i : Int) ≤ n → (hI h3 r i).toInt ≤ n := fun r er i hi => by
    rw [(fr_RI f3 r0 (by decide) (fun _ => rfl)).2.2] at er
    have rr' : ρ r = 97 := rr T (thR T r0 (i := 42) (k2 := 97) rfl (by decide)) er
    rw [(fr_RI f3 rr' (by decide) (fun _ => rfl)).1]
    exact O r er i hi
  have TX3 : TxA x0 h3 := fun r er k hk => by
    rw [w3] at er
    have hz := r_eq e1 (show hR h x0 41 = some r from er)
    subst hz
    rw [w3, r_I]
    by_cases z : 96 * k = ((96 : Int32) * (hI h x0 44)).toNatClampNeg
    · rw [if_pos ⟨rfl, z⟩]
      exact nar95 ⟨io.1, ou⟩
    · rw [if_neg (fun y => z y.2)]
      exact TX r er k hk
  obtain ⟨r4, e4, q4⟩ := thR T3 r0 (i := 2) (k2 := 83) rfl (by decide)
  refine s_ref e4 ?_
  obtain ⟨r5, e5, q5⟩ := thR T3 r0 (i := 41) (k2 := 96) rfl (by decide)
  refine s_ref e5 ?_
  rw [e44, e3]
  have e1' : (1 : Int32).toInt = 1 := rfl
  have ea : (((96 : Int32) * (hI h x0 44)) + (1 : Int32)).toInt = 96 * n + 1 := by rw [ta (by rw [em, e1']; omega), em, e1']
  have ia : Rg 0 287905 (((96 : Int32) * (hI h x0 44)) + (1 : Int32)) := ⟨by omega, by omega⟩
  have ca := clamp_i ia.1
  have io2 : Rg 0 87 (hI h x0 3) := ⟨io.1, ou⟩
  have co := clamp_i io2.1
  refine s_gd (by decide) (s_gd (rg_nneg ia (by decide)) (s_gd (rg_nneg io2 (by decide)) ?_))
  refine s_gd (g_len (rg_b rfl : Rg (0) (0) ((0 : Int32))) io2 (thN T3 q4 (k := 83) (n := 256) rfl (by decide)) (by decide)) ?_
  refine s_gd (g_len ia io2 (thN T3 q5 (k := 96) (n := 288000) rfl (by decide)) (by decide)) ?_
  refine s_gd (fun i _ => fits_b (rg_m (thI T3 q4 (k := 83) (lo := (-128)) (hi := (127)) rfl) (by decide))) ?_
  refine s_hq (th_cpI T3 q4 q5 (k0 := 83) (k := 96) (lo0 := (-128)) (hi0 := (127)) (lo := (-128)) (hi := (127)) (fun _ => rfl) (fun _ => rfl) (by decide) (by decide) (by decide) (fun _ => (pm_a hA rfl))) (fun h12 T12 w12 => ?_)
  have f12 := fr1C (c := c) (A := [(96, 999)]) q5 rfl w12
  have E12 := fbe_fr T3 r0 f12 fB96Y.1 fB96Y.2.1 E3
  have FP12 := fbp_frY T3 r0 f12 fB96Y FP3
  have O12 : ∀ r, hR h12 x0 42 = some r → ∀ i : Nat, (i : Int) ≤ n → (hI h12 r i).toInt ≤ n := fun r er i hi => by
    rw [(fr_RI f12 r0 (by decide) (fun _ => rfl)).2.2] at er
    have rr' : ρ r = 97 := rr T3 (thR T3 r0 (i := 42) (k2 := 97) rfl (by decide)) er
    rw [(fr_RI f12 rr' (by decide) (fun _ => rfl)).1]
    exact O3 r er i hi
  have TX12 : TxA x0 h12 := fun r er k hk => by
    rw [w12] at er
    have er' : hR h3 x0 41 = some r := er
    have hz := r_eq e5 er'
    subst hz
    rw [w12, cp_at, if_neg (fun y => by have := y.2.1; have := y.2.2; omega)]
    exact TX3 r er' k hk
  have e44' : hI h12 x0 44 = hI h x0 44 := by rw [(fr_RI f12 r0 (by decide) (fun _ => rfl)).1]; exact e44
  rw [e44']
  have es : ((hI h x0 44) + (1 : Int32)).toInt = n + 1 := by rw [ta (by rw [en, e1']; omega), en, e1']
  refine s_hq (th_wI T12 r0 (k := 16) (lo := 0) (hi := 3000) rfl ⟨by omega, by omega⟩ (by decide) (by decide) (pm_a hA rfl)) (fun h13 T13 w13 => ?_)
  have f13 := fr1I (c := c) (A := [(16, 44)]) r0 rfl w13
  have n13 : (hI h13 x0 44).toInt = n + 1 := by rw [he_s w13]; exact es
  refine fd_280Y hA T13 r0 i1 i5 ⟨fun r er i hi => ?_, ?_, fbp_frY T12 r0 f13 fB44Y FP12, tx_fr T12 r0 f13 ⟨fun _ => rfl, fun _ _ => rfl⟩ TX12⟩
  · rw [n13] at hi ⊢
    rw [(fr_RI f13 r0 (by decide) (fun _ => rfl)).2.2] at er
    have rr' : ρ r = 97 := rr T12 (thR T12 r0 (i := 42) (k2 := 97) rfl (by decide)) er
    rw [(fr_RI f13 rr' (by decide) (fun _ => rfl)).1]
    have := O12 r er i (by omega)
    omega
  · rw [n13]
    exact fbe_fr T12 r0 f13 fB44Y.1 fB44Y.2.1 E12
end
end
section
section
variable {zq : Nat} {Bq : Nat × Nat} {ρ : Nat → Nat} {c : Cm} {h o : Hp} {x0 b g i F : Nat} {n : Int} {x1 x2 x3 x4 x5 x6 : Int32}
theorem s_foundY {Q : Int32 × Hp → Prop} {k : Nat} {t : Int32} (hA : pmA c [(95, 999)]) (T : TH ρ c h) (r0 : ρ x0 = 16) (i4 : Rg 0 2999 (hI h x0 44)) (ek : (hI h x0 44).toNatClampNeg = k) (FP : FbPY zq Bq x0 h) (H : ∀ g ρ1 c1 b, Ext ρ c ρ1 c1 → TH ρ1 c1 g → Fr ρ (cat c (fS [(95, 999)] []) h) h g → FbPY zq Bq x0 g → Fb x0 k b g → (∀ j b, Fb x0 j b h → Fb x0 j b g) → Sat (sX15_findsRoom_168 F g x0 x1 x2 t) Q) : Sat (cl (hR h x0 40) fun r_3 => gd (inB (hI h x0 44) (hN h r_3)) <| onr (hR h r_3 (hI h x0 44).toNatClampNeg) (cl (hR h x0 40) fun r_7 => nm (hS h) fun a_8 => nm (nC h 12 0 8) fun h_9 => sX15_findsRoom_163 F h_9 x0 x1 x2 t a_8 (hI h x0 44) r_7) (fun r_5 => sX15_findsRoom_168 F h x0 x1 x2 t)) Q := by
  subst ek
  have iv : Rg 0 2999 (hI h x0 44) := i4
  obtain ⟨r, er, qr⟩ := thR T r0 (i := 40) (k2 := 95) rfl (by decide)
  refine s_ref er ?_
  refine s_gd (by rw [thN T qr (k := 95) (n := 3000) rfl (by decide)]; exact rg_inB iv (by decide)) ?_
  refine s_onr (fun q => ?_) (fun r5 q => H h ρ c r5 ex_0 T ⟨fun _ _ _ _ => ⟨rfl, rfl, rfl⟩, fun _ _ => rfl⟩ FP ⟨r, er, q⟩ (fun _ _ B => B))
  refine s_ref er ?_
  refine s_q (fun a ea => ?_)
  refine s_q (fun h8 e8 => ?_)
  subst ea
  subst e8
  unfold sX15_findsRoom_163 sX15_findsRoom_167
  have T' : TH ρ (cat c (fS [(95, 999)] []) h) h := th_in _ T
  have t1 : h.1 = (cat c (fS [(95, 999)] []) h).1 := T'.1.1
  obtain ⟨o1, eo1, ρ1, c1, X1, T1, a1, w1, O1⟩ := newBoard T' (11000 + (hI h x0 44).toNatClampNeg)
  refine s_val eo1 ?_
  have ob : o1 = boH h := by rw [boH_v] at eo1; exact (Option.some.inj eo1).symm
  have z3 : hI o1 (hS h) 3 = 0 := by rw [ob]; exact boH_I h 0 3 (by decide)
  have r01 := ex_r X1 r0 (by decide)
  have qr1 := ex_r X1 qr (by decide)
  have lt : ∀ a, ρ a ≠ 0 → a < h.1.1 := fun a ha => by rw [t1]; exact T'.2.1.2.2.1 a ha
  have lt0 : x0 < h.1.1 := lt x0 (by rw [r0]; decide)
  have ltr : r < h.1.1 := lt r (by rw [qr]; decide)
  have er1 : hR o1 x0 40 = some r := by rw [(O1 x0 lt0).2.2.1]; exact er
  refine s_gd (by rw [thN T1 qr1 (k := 95) (n := 3000) rfl (by decide)]; exact rg_inB iv (by decide)) ?_
  refine s_q (fun h2 e2 => ?_)
  have T2 : TH ρ1 c1 h2 := by
    rw [e2]
    exact th_wRe T1 qr1 (k2 := 13) rfl (by decide) a1 (by decide) (by decide) rfl rfl rfl w1 (ex_p X1 (fs_a _ _ _ rfl))
  have er2 : hR h2 x0 40 = some r := by rw [e2, r_R, if_neg (ne_r r01 qr1 (by decide))]; exact er1
  have ee : hR h2 r (hI h x0 44).toNatClampNeg = some (hS h) := by rw [e2, r_R, if_pos ⟨rfl, rfl⟩]
  have kp : ∀ j b, Fb x0 j b h → Fb x0 j b h2 := fun j b ⟨r', g1, g2⟩ => by
    have : r' = r := r_eq er g1
    subst this
    have z : j ≠ (hI h x0 44).toNatClampNeg := fun z => by rw [z, q] at g2; exact absurd g2 (by simp)
    exact ⟨r', er2, by rw [e2, r_R, if_neg (fun y => z y.2), (O1 r' ltr).2.2.1]; exact g2⟩
  have FP2 : FbPY zq Bq x0 h2 := ⟨fun j b B => by
    obtain ⟨r', g1, g2⟩ := B
    have : r' = r := r_eq er2 g1
    subst this
    by_cases z : j = (hI h x0 44).toNatClampNeg
    · rw [z, ee] at g2
      rw [← Option.some.inj g2]
      have hS0 : hS h = h.1.1 := rfl
      have a1' : ¬ hS h = r' := fun w => by rw [w] at a1; rw [a1] at qr1; exact absurd qr1 (by decide)
      have nn : ∀ k i, k < 5 → hI h2 (h.1.1 + k) i = 0 := fun k i hk => by rw [e2]; show hI o1 (h.1.1 + k) i = 0; rw [ob]; exact boH_I h k i hk
      have nRR : ∀ i, hR h2 (hS h) i = hR (boH h) h.1.1 i := fun i => by rw [e2, r_R, if_neg (fun w => a1' w.1), ob, hS0]
      have n3 : hI h2 (hS h) 3 = 0 := by rw [e2]; exact z3
      refine ⟨pe_0 (by rw [n3]; rfl), fun M H m1 m2 => ?_, ?_, by rw [n3]; decide, fun n => by rw [n3] at n; exact absurd n (by decide)⟩
      · rw [nRR, boH_R] at m1 m2
        have y1 : h.1.1 + 1 = M := Option.some.inj m1
        have y2 : h.1.1 + 3 = H := Option.some.inj m2
        subst y1; subst y2
        exact tot_0 (fun i => nn 1 i (by decide)) (fun i => nn 3 i (by decide))
      · have : hJ h2 (hS h) 2 = 0 := by rw [e2]; show hJ o1 (hS h) 2 = 0; rw [ob]; exact boH_J h 0 2 (by decide)
        rw [this, crt_0]
        decide
    · rw [e2, r_R, if_neg (fun y => z y.2), (O1 r' ltr).2.2.1] at g2
      have P := FP.1 j b ⟨r', er, g2⟩
      have rb := thRn T qr (k2 := 13) rfl (by decide) g2
      have kI : ∀ {x k : Nat}, ρ x = k → k ≠ 0 → ∀ i, hI h2 x i = hI h x i := fun {x k} hx h0 i => by
        rw [e2]
        show hI o1 x i = _
        exact (O1 x (lt x (by rw [hx]; exact h0))).1 i
      have ltb := lt b (by rw [rb]; decide)
      refine pz_eq (fun i => ?_) ?_ (kI rb (by decide) 1) (kI rb (by decide) 3) (fun M m => kI (rr T (thR T rb (i := 0) (k2 := 62) rfl (by decide)) m) (by decide)) (fun M m => kI (rr T (thR T rb (i := 4) (k2 := 63) rfl (by decide)) m) (by decide)) (fun M m => kI (rr T (thR T rb (i := 5) (k2 := 64) rfl (by decide)) m) (by decide)) P
      · rw [e2, r_R, if_neg (ne_r (ex_r X1 rb (by decide)) qr1 (by decide)), (O1 b ltb).2.2.1]
      · rw [e2]
        show hJ o1 b 2 = _
        exact (O1 b ltb).2.1 2, fun r' p1 => by
    have y1 : r' = r := r_eq er2 p1
    subst y1
    have l60 := clamp_i iv.1
    have i59 := iv.2
    have cc := nuC_set q ee (fun i hi => by rw [e2, r_R, if_neg (fun y => hi y.2), (O1 r' ltr).2.2.1]) 3000 (by omega)
    have pb := FP.2 r' er
    have h21 : h2.1 = (h.1.1 + 5, h.1.2 + 162) := by rw [e2]; show o1.1 = _; rw [ob]; exact boH_1 h
    rw [h21]
    show h.1.1 + 5 + 5 * nuC h2 r' 3000 ≤ Bq.1 ∧ h.1.2 + 162 + 162 * nuC h2 r' 3000 ≤ Bq.2
    omega⟩
  exact s_mk1 (k := fun g => sX15_findsRoom_168 F g x0 x1 x2 t) (P := fun o => FbPY zq Bq x0 o ∧ Fb x0 (hI h x0 44).toNatClampNeg (hS h) o ∧ ∀ j b, Fb x0 j b h → Fb x0 j b o) T (fs_sub hA fs_n) X1 T2 ⟨FP2, ⟨r, er2, ee⟩, kp⟩ (fun ρ1 c1 X T1 f p => H h2 ρ1 c1 (hS h) X T1 f p.1 p.2.1 p.2.2)
end
end
section
section
variable {zq : Nat} {Bq : Nat × Nat} {ρ : Nat → Nat} {c : Cm} {h o : Hp} {x0 b g i F : Nat} {n : Int} {x1 x2 x3 x4 x5 x6 : Int32}
def FSY (zq : Nat) (Bq : Nat × Nat) (x0 g : Nat) (n : Int) (h : Hp) : Prop := (hI h x0 44).toInt = n ∧ FbE x0 (n + 1) h ∧ FbPY zq Bq x0 h ∧ TxA x0 h ∧ hR h x0 45 = some g ∧ PZ zq g h ∧ (hI h x0 3).toInt ≤ 87
theorem fs_97Y (T : TH ρ c h) (r0 : ρ x0 = 16) (f : Fr ρ (cat c (fS [(97, 999)] []) h) h o) (P : FSY zq Bq x0 g n h) (q1 : o.1 = h.1 := by first | assumption | (apply th1e <;> assumption)) : FSY zq Bq x0 g n o := by
  obtain ⟨p1, p2, p3, p4, p5, p6, p7⟩ := P
  have rg : ρ g = 13 := rr T (thR T r0 (i := 45) (k2 := 13) rfl (by decide)) p5
  refine ⟨?_, fbe_fr T r0 f fB97Y.1 fB97Y.2.1 p2, fbp_frY T r0 f fB97Y p3, tx_fr T r0 f ⟨fun _ => rfl, fun _ _ => rfl⟩ p4, ?_, pz_fr T rg f (fun _ _ => rfl) (fun _ => rfl) (fun _ => rfl) (fun _ => rfl) p6, ?_⟩
  · rw [(fr_RI f r0 (by decide) (fun _ => rfl)).1]; exact p1
  · rw [(fr_RI f r0 (by decide) (fun _ => rfl)).2.2]; exact p5
  · rw [(fr_RI f r0 (by decide) (fun _ => rfl)).1]; exact p7
theorem fd_174Y (hF : 700000 ≤ F) (hA : pmA c fdL) (hW : ∀ j, j ≤ 2999 → pmO c (11000 + j) bpL) (r0 : ρ x0 = 16) (i1 : Rg 0 256 x1) (i5 : Rg 0 1 x5) (l0 : 0 ≤ n) (ln : n < 3000) (a2 : 0 ≤ x2.toInt) : ∀ (f : Nat) {h : Hp} {x6 : Int32}, TH ρ c h → FSY zq Bq x0 g n h → x2.toInt ≤ x6.toInt → x6.toInt ≤ n → (∀ r, hR h x0 42 = some r → ∀ i : Nat, (i : Int) ≤ n → (i : Int) ≠ x6.toInt → (hI h r i).toInt < n) → x6.toInt.toNat < f → Sat (sX15_findsRoom_174 F f h x0 x1 x2 x5 x6) (fun o => TH ρ c o.2 ∧ Rg 0 1 o.1 ∧ FdPY zq Bq x0 o.2) := by
  intro f
  induction f with
  | zero => intros; omega
  | succ f ih =>
    intro h x6 T P a6 b6 O hf
    rw [sX15_findsRoom_174]
    obtain ⟨p1, p2, p3, p4, p5, p6, p7⟩ := P
    have i6 : Rg 0 2999 x6 := ⟨by omega, by omega⟩
    have i2 : Rg 0 2999 x2 := ⟨by omega, by omega⟩
    have in4 : Rg 0 2999 (hI h x0 44) := ⟨by omega, by omega⟩
    have c6 := clamp_i i6.1
    have c2 := clamp_i i2.1
    have c4 := clamp_i in4.1
    obtain ⟨r, er, qr⟩ := thR T r0 (i := 42) (k2 := 97) rfl (by decide)
    refine s_br (fun l1 => ?_) (fun n1 => ?_)
    · have l6 := le_i l1
      refine s_ref er ?_
      refine s_gd (by rw [thN T qr (k := 97) (n := 3000) rfl (by decide)]; exact rg_inB i2 (by decide)) ?_
      refine s_hq (th_wI T qr (k := 97) (lo := 0) (hi := 2999) rfl in4 (by decide) (by decide) (pm_a hA rfl)) (fun h4 T4 w4 => ?_)
      have f4 := fr1I (c := c) (A := [(97, 999)]) qr rfl w4
      obtain ⟨p1', p2', p3', p4', p5', p6', p7'⟩ := fs_97Y T r0 f4 ⟨p1, p2, p3, p4, p5, p6, p7⟩
      have O4 : ∀ r, hR h4 x0 42 = some r → ∀ i : Nat, (i : Int) ≤ n → (hI h4 r i).toInt ≤ n := fun r' er' i hi => by
        rw [w4] at er'
        have hz := r_eq er (show hR h x0 42 = some r' from er')
        subst hz
        rw [w4, r_I]
        by_cases z : i = x2.toNatClampNeg
        · rw [if_pos ⟨rfl, z⟩]; omega
        · rw [if_neg (fun y => z y.2)]
          have := O r' er i hi (by omega)
          omega
      have in4' : Rg 0 2999 (hI h4 x0 44) := ⟨by omega, by omega⟩
      have c4' := clamp_i in4'.1
      have le29 : (hI h4 x0 44).toNatClampNeg ≤ 2999 := by omega
      have lt1 : ((hI h4 x0 44).toNatClampNeg : Int) < n + 1 := by omega
      obtain ⟨r5, e5, q5⟩ := thR T4 r0 (i := 40) (k2 := 95) rfl (by decide)
      refine s_ref e5 ?_
      refine s_gd (by rw [thN T4 q5 (k := 95) (n := 3000) rfl (by decide)]; exact rg_inB in4' (by decide)) ?_
      obtain ⟨b, B⟩ := p2' (hI h4 x0 44).toNatClampNeg lt1
      obtain ⟨rb, wb⟩ := fbo_r T4 r0 B
      have B' := B
      obtain ⟨r', s1, s2⟩ := B
      have hz := r_eq e5 s1
      subst hz
      refine s_ref s2 ?_
      refine s_ref p5' ?_
      have rg : ρ g = 13 := rr T4 (thR T4 r0 (i := 45) (k2 := 13) rfl (by decide)) p5'
      have wg : cw c g = 2545 := kid_w T4 r0 (i := 45) rfl (by decide) p5'
      refine s_cVfq (S := fS [] [(11000 + (hI h4 x0 44).toNatClampNeg, bpL)]) T4 (fs_sub pmA_n (fs_c (hW _ le29) fs_n)) (s_weq (zX12_copy hF (pmO_s (fs_o (.head _)) rfl) wb wg (th_in _ T4) rb rg)) (fun o9 T9 f9 e9 => ?_)
      have z9 : ∀ k i w, mS bpL k i = false → fS [] [(11000 + (hI h4 x0 44).toNatClampNeg, bpL)] k w i = false := fun k i w m => fs_cf (Or.inl m) (by unfold fS; rfl)
      have P9 : PZ zq b o9 := ⟨pe_copy T4 rb rg p6'.1 e9, wr_copy T4 rb rg p6'.2 e9⟩
      refine fd_228Y (n := n) hA T9 r0 i1 i5 ?_ l0 ln ?_ ?_ ?_ ?_ ?_
      · rw [(fr_RI f9 r0 (by decide) (fun w => z9 _ _ w rfl)).1]; exact p1'
      · rw [(fr_RI f9 r0 (by decide) (fun w => z9 _ _ w rfl)).1]; exact p7'
      · intro r'' er'' i hi
        rw [(fr_RI f9 r0 (by decide) (fun w => z9 _ _ w rfl)).2.2] at er''
        have rr' : ρ r'' = 97 := rr T4 (thR T4 r0 (i := 42) (k2 := 97) rfl (by decide)) er''
        rw [(fr_RI f9 rr' (by decide) (fun w => z9 _ _ w rfl)).1]
        exact O4 r'' er'' i hi
      · exact fbe_fr T4 r0 f9 (fun w => z9 _ _ w rfl) (fun w i => z9 _ _ w rfl) p2'
      · refine ⟨?_, pay_k0 T4 r0 (k2 := 95) rfl (by decide) (th1e T4 T9) (fr_RI f9 r0 (by decide) (fun w => z9 _ _ w rfl)).2.2 (fun r i qr => (fr_RI f9 qr (by decide) (fun w => z9 _ _ w rfl)).2.2) p3'.2⟩
        intro k b2 B2
        have B0 := (fbo_fr T4 r0 f9 (fun w => z9 _ _ w rfl) (fun w => z9 _ _ w rfl)).mpr B2
        by_cases z : k = (hI h4 x0 44).toNatClampNeg
        · subst z
          obtain ⟨ra, t1, t2⟩ := B0
          obtain ⟨rc, t3, t4⟩ := B'
          rw [r_eq t3 t1] at t2
          rw [r_eq t4 t2]; exact P9
        · obtain ⟨k1, k2⟩ := fbo_r T4 r0 B0
          have y : ∀ kk ii, fS [] [(11000 + (hI h4 x0 44).toNatClampNeg, bpL)] kk (cw c b2) ii = false := fun kk ii => fs_cf (Or.inr (by rw [k2]; exact fun q => z (Nat.add_left_cancel q))) (by unfold fS; rfl)
          exact pz_fr T4 k1 f9 (fun _ _ => y _ _) (fun _ => y _ _) (fun _ => y _ _) (fun _ => y _ _) (p3'.1 k b2 B0)
      · exact tx_fr T4 r0 f9 ⟨fun w => z9 _ _ w rfl, fun w i => z9 _ _ w rfl⟩ p4'
    · have l6 := nle_i n1
      refine s_ref er ?_
      refine s_ref er ?_
      have ed := rg_decs i6 (by decide)
      have id : Rg 0 2999 (x6 - (1 : Int32)) := ⟨by omega, by omega⟩
      have cd := clamp_i id.1
      refine s_gd (by rw [thN T qr (k := 97) (n := 3000) rfl (by decide)]; exact rg_inB id (by decide)) ?_
      refine s_gd (by rw [thN T qr (k := 97) (n := 3000) rfl (by decide)]; exact rg_inB i6 (by decide)) ?_
      refine s_hq (th_wI T qr (k := 97) (lo := 0) (hi := 2999) rfl (thI T qr (k := 97) (lo := 0) (hi := 2999) rfl) (by decide) (by decide) (pm_a hA rfl)) (fun h4 T4 w4 => ?_)
      have f4 := fr1I (c := c) (A := [(97, 999)]) qr rfl w4
      refine s_q (fun v ev => ?_)
      have ev2 : v.toInt = x6.toInt - 1 := by rw [ev]; exact rg_dec i6 (by decide)
      clear ev
      refine ih T4 (fs_97Y T r0 f4 ⟨p1, p2, p3, p4, p5, p6, p7⟩) (by omega) (by omega) (fun r' er' i hi ni => ?_) (by omega)
      rw [w4] at er'
      have hz := r_eq er (show hR h x0 42 = some r' from er')
      subst hz
      rw [w4, r_I]
      by_cases z : i = x6.toNatClampNeg
      · rw [if_pos ⟨rfl, z⟩]
        exact O r' er _ (by omega) (by omega)
      · rw [if_neg (fun y => z y.2)]
        exact O r' er i hi (by omega)
end
end
section
section
variable {zq : Nat} {Bq : Nat × Nat} {ρ : Nat → Nat} {c : Cm} {h o : Hp} {x0 b g i F s : Nat} {n : Int} {x1 x2 x3 x4 x5 x6 : Int32}
def FRY (zq : Nat) (Bq : Nat × Nat) (x0 g : Nat) (n : Int) (h : Hp) : Prop := (hI h x0 44).toInt = n ∧ FdPY zq Bq x0 h ∧ hR h x0 45 = some g ∧ PZ zq g h ∧ (hI h x0 3).toInt ≤ 87
theorem fd_128Y {t0 : Int32} (hF : 700000 ≤ F) (hA : pmA c fdL) (hW : ∀ j, j ≤ 2999 → pmO c (11000 + j) bpL) (T : TH ρ c h) (r0 : ρ x0 = 16) (i1 : Rg 0 256 x1) (i0 : Rg 0 1 t0) (P : FRY zq Bq x0 g n h) (a2 : 0 ≤ x2.toInt) (b2 : x2.toInt ≤ n) (hn : x4 = 0 → ¬ t0 = 0 → n < 3000) : Sat (sX15_findsRoom_128 F h x0 x1 x2 x4 t0) (MkI ρ c 0 1 (FdPY zq Bq x0)) := by
  unfold sX15_findsRoom_128
  obtain ⟨p1, p2, p3, p4, p5⟩ := P
  have ex : Sat (sX15_findsRoom_280 F h x0 x1 t0) (MkI ρ c 0 1 (FdPY zq Bq x0)) := s_imp (fd_280Y hA T r0 i1 i0 p2) (fun o ⟨a, b, d⟩ => ⟨ρ, c, ex_0, a, b, d⟩)
  refine s_br (fun z4 => s_br (fun _ => ex) (fun nz => ?_)) (fun _ => ex)
  have ln := hn z4 nz
  have i4 : Rg 0 2999 (hI h x0 44) := ⟨by omega, by omega⟩
  have c4 := clamp_i i4.1
  refine s_foundY (pmA_s hA rfl) T r0 i4 rfl p2.2.2.1 (fun o ρ1 c1 b X T1 f FP B kp => ?_)
  unfold sX15_findsRoom_168
  have r1 := ex_r X r0 (by decide)
  have rg : ρ g = 13 := rr T (thR T r0 (i := 45) (k2 := 13) rfl (by decide)) p3
  have e44 : hI o x0 44 = hI h x0 44 := (fr_RI f r0 (by decide) (fun _ => rfl)).1
  have E1 : FbE x0 (n + 1) o := fun k hk => by
    by_cases z : k = (hI h x0 44).toNatClampNeg
    · exact ⟨b, by rw [z]; exact B⟩
    · obtain ⟨b', B'⟩ := p2.2.1 k (by omega)
      exact ⟨b', kp k b' B'⟩
  have S1 : FSY zq Bq x0 g n o := ⟨by rw [e44]; exact p1, E1, FP, tx_fr T r0 f ⟨fun _ => rfl, fun _ _ => rfl⟩ p2.2.2.2, by rw [(fr_RI f r0 (by decide) (fun _ => rfl)).2.2]; exact p3, pz_fr T rg f (fun _ _ => rfl) (fun _ => rfl) (fun _ => rfl) (fun _ => rfl) p4, by rw [(fr_RI f r0 (by decide) (fun _ => rfl)).1]; exact p5⟩
  refine s_q (fun v ev => ?_)
  have ev2 : v.toInt = n := by rw [ev, e44]; exact p1
  clear ev
  have O1 := or_fr T r0 f ⟨fun _ => rfl, fun _ _ => rfl⟩ (fun _ => rfl) p2.1
  have n1 : (hI o x0 44).toInt = n := S1.1
  refine s_imp (fd_174Y hF (fun w k i m => ex_p X (hA w k i m)) (fun j hj k i m => ex_p X (hW j hj k i m)) r1 i1 i0 (by omega) ln a2 F T1 S1 (by omega) (by omega) (fun r er i hi ni => ?_) (by omega)) (fun q ⟨a, b, d⟩ => ⟨ρ1, c1, X, a, b, d⟩)
  have := O1 r er i (by omega)
  omega
theorem fd_108Y (hF : 700000 ≤ F) (hA : pmA c fdL) (hW : ∀ j, j ≤ 2999 → pmO c (11000 + j) bpL) (T : TH ρ c h) (r0 : ρ x0 = 16) (i1 : Rg 0 256 x1) (P : FRY zq Bq x0 g n h) (a2 : 0 ≤ x2.toInt) (b2 : x2.toInt ≤ n) : Sat (sX15_findsRoom_108 F h x0 x1 x2 x4) (MkI ρ c 0 1 (FdPY zq Bq x0)) := by
  unfold sX15_findsRoom_108 sX15_findsRoom_123
  have p1 := P.1
  refine s_br (fun _ => s_br (fun _ => ?_) (fun n1 => ?_)) (fun n4 => ?_)
  · exact fd_128Y hF hA hW T r0 i1 (rg_b rfl) P a2 b2 (fun _ z => absurd rfl z)
  · have l3 : (hI h x0 44).toInt < 3000 := nle_i n1
    exact fd_128Y hF hA hW T r0 i1 (rg_b rfl) P a2 b2 (fun _ _ => by omega)
  · exact fd_128Y hF hA hW T r0 i1 (rg_b rfl) P a2 b2 (fun z _ => absurd z n4)
theorem fd_42Y (hF : 700000 ≤ F) (hA : pmA c fdL) (hW : ∀ j, j ≤ 2999 → pmO c (11000 + j) bpL) (T : TH ρ c h) (r0 : ρ x0 = 16) (i1 : Rg 0 256 x1) (P : FRY zq Bq x0 g n h) : ∀ (f : Nat) {x2 x3 x4 : Int32}, 0 ≤ x2.toInt → x2.toInt ≤ x3.toInt → x3.toInt ≤ n → 0 < f → (x4 = 0 → (x3.toInt - x2.toInt).toNat + 1 < f) → Sat (sX15_findsRoom_42 F f h x0 x1 x2 x3 x4) (MkI ρ c 0 1 (FdPY zq Bq x0)) := by
  intro f
  induction f with
  | zero => intros; omega
  | succ f ih =>
    intro x2 x3 x4 a2 b2 b3 _ hf
    rw [sX15_findsRoom_42]
    unfold sX15_findsRoom_70 sX15_findsRoom_82 sX15_findsRoom_105
    have ex : Sat (sX15_findsRoom_108 F h x0 x1 x2 x4) (MkI ρ c 0 1 (FdPY zq Bq x0)) := fd_108Y hF hA hW T r0 i1 P a2 (by omega)
    have in4 := thI T r0 (k := 16) (i := 44) (lo := 0) (hi := 3000) rfl
    have p1 := P.1
    have n3 : n ≤ 3000 := by have := in4.2; omega
    refine s_br (fun _ => ex) (fun n1 => ?_)
    have l3 := nle_i n1
    refine s_br (fun z4 => ?_) (fun _ => ex)
    have hf' := hf z4
    refine s_q (fun v ev => ?_)
    have i23 : Rg 0 6000 (x2 + x3) := ⟨by rw [ta ⟨by omega, by omega⟩]; omega, by rw [ta ⟨by omega, by omega⟩]; omega⟩
    have e23 : (x2 + x3).toInt = x2.toInt + x3.toInt := ta ⟨by omega, by omega⟩
    have ev2 : v.toInt = (x2.toInt + x3.toInt) / 2 := by
      rw [ev, td i23 (rg_b rfl : Rg 2 2 (2 : Int32)) (by decide), e23]; rfl
    clear ev
    have iv : Rg 0 2999 v := ⟨by omega, by omega⟩
    obtain ⟨r, er, qr⟩ := thR T r0 (i := 42) (k2 := 97) rfl (by decide)
    refine s_ref er ?_
    refine s_gd (by rw [thN T qr (k := 97) (n := 3000) rfl (by decide)]; exact rg_inB iv (by decide)) ?_
    have ik := thI T qr (k := 97) (i := v.toNatClampNeg) (lo := 0) (hi := 2999) rfl
    have tl : TxL x0 (hI h r v.toNatClampNeg) h := fun r' er' => by
      have ck := clamp_i ik.1
      have e96 : (96 : Int32).toInt = 96 := rfl
      have em : ((96 : Int32) * (hI h r v.toNatClampNeg)).toInt = 96 * (hI h r v.toNatClampNeg).toInt := by rw [tm (by rw [e96]; have := ik.1; have := ik.2; omega), e96]
      have cm := clamp_i (v := (96 : Int32) * (hI h r v.toNatClampNeg)) (by rw [em]; have := ik.1; omega)
      have en : ((96 : Int32) * (hI h r v.toNatClampNeg)).toNatClampNeg = 96 * (hI h r v.toNatClampNeg).toNatClampNeg := by omega
      rw [en]
      exact P.2.1.2.2.2 r' er' _ (by have := ik.2; omega)
    refine s_cI0 (zX15_compare hF T r0 ik tl) (fun o6 e6 j6 => ?_)
    rw [show o6.2 = h from e6]
    have go : ∀ {t : Int32}, (t = 0 → ¬ o6.1 = 0) → Sat (br (0 ≤ o6.1) (br (o6.1 ≤ 0) (sX15_findsRoom_42 F f h x0 x1 x2 x3 t) (nm (v + (1 : Int32)) fun v_3 => sX15_findsRoom_42 F f h x0 x1 v_3 x3 t)) (sX15_findsRoom_42 F f h x0 x1 x2 v t)) (MkI ρ c 0 1 (FdPY zq Bq x0)) := fun {t} ht => by
      refine s_br (fun g1 => s_br (fun g2 => ?_) (fun g2 => ?_)) (fun g1 => ?_)
      · have q1 : 0 ≤ o6.1.toInt := le_i g1
        have q2 : o6.1.toInt ≤ 0 := le_i g2
        have q0 : o6.1 = 0 := Int32.toInt_inj.mp (by show o6.1.toInt = 0; omega)
        exact ih a2 b2 b3 (by omega) (fun z => absurd q0 (ht z))
      · refine s_q (fun y ey => ?_)
        have ey2 : y.toInt = v.toInt + 1 := by rw [ey]; exact (nc_s iv (by decide)).2
        clear ey
        exact ih (by omega) (by omega) b3 (by omega) (fun z => by omega)
      · exact ih a2 (by omega) (by omega) (by omega) (fun z => by omega)
    exact s_br (fun _ => go (fun z => absurd z (by decide))) (fun nz => go (fun _ => nz))
theorem zX15_findsRoomY (hF : 700000 ≤ F) (hA : pmA c fdL) (hW : ∀ j, j ≤ 2999 → pmO c (11000 + j) bpL) (T : TH ρ c h) (r0 : ρ x0 = 16) (P : FdPY zq Bq x0 h) (G : GZ x0 g h) : Sat (sX15_findsRoom F h x0) (MkI ρ c 0 1 (FdPY zq Bq x0)) := by
  unfold sX15_findsRoom sX15_findsRoom_19 sX15_findsRoom_32
  refine s_q (fun v ev => ?_)
  have iv : Rg 0 256 v := by rw [ev]; exact thI T r0 (k := 16) (i := 3) (lo := 0) (hi := 256) rfl
  clear ev
  obtain ⟨r2, e2, q2⟩ := thR T r0 (i := 2) (k2 := 83) rfl (by decide)
  refine s_ref e2 ?_
  obtain ⟨r1, e1, q1⟩ := thR T r0 (i := 43) (k2 := 98) rfl (by decide)
  refine s_ref e1 ?_
  refine s_gd (by decide) (s_gd (by decide) (s_gd (rg_nneg iv (by decide)) ?_))
  refine s_gd (g_len (rg_b rfl : Rg (0) (0) ((0 : Int32))) iv (thN T q2 (k := 83) (n := 256) rfl (by decide)) (by decide)) ?_
  refine s_gd (g_len (rg_b rfl : Rg (0) (0) ((0 : Int32))) iv (thN T q1 (k := 98) (n := 256) rfl (by decide)) (by decide)) ?_
  refine s_gd (fun i _ => fits_b (rg_m (thI T q2 (k := 83) (lo := (-128)) (hi := (127)) rfl) (by decide))) ?_
  refine s_hq (th_cpI T q2 q1 (k0 := 83) (k := 98) (lo0 := (-128)) (hi0 := (127)) (lo := (-128)) (hi := (127)) (fun _ => rfl) (fun _ => rfl) (by decide) (by decide) (by decide) (fun _ => (pm_a hA rfl))) (fun h3 T3 w3 => ?_)
  have f3 := fr1C (c := c) (A := [(98, 999)]) q1 rfl w3
  refine s_hq (th_wI T3 r0 (k := 16) (lo := (0)) (hi := (256)) rfl (rg_b rfl) (by decide) (by decide) (pm_a hA rfl)) (fun h4 T4 w4 => ?_)
  have f4 := fr1I (c := c) (A := [(16, 3)]) r0 rfl w4
  obtain ⟨g1, g2, g3, g4⟩ := G
  have rg : ρ g = 13 := rr T (thR T r0 (i := 45) (k2 := 13) rfl (by decide)) g1
  have P3 := fd_frY T r0 f3 fB98Y ⟨fun _ => rfl, fun _ _ => rfl⟩ ⟨fun _ => rfl, fun _ _ => rfl⟩ (fun _ => rfl) P
  have P4 := fd_frY T3 r0 f4 ⟨fun _ => rfl, fun _ _ => rfl, fun _ => ⟨fun _ _ => rfl, fun _ => rfl, fun _ => rfl, fun _ => rfl⟩⟩ ⟨fun _ => rfl, fun _ _ => rfl⟩ ⟨fun _ => rfl, fun _ _ => rfl⟩ (fun _ => rfl) P3
  have g1' : hR h4 x0 45 = some g := by rw [(fr_RI f4 r0 (by decide) (fun _ => rfl)).2.2, (fr_RI f3 r0 (by decide) (fun _ => rfl)).2.2]; exact g1
  have g2' : hJ h4 g 2 = 0 := by rw [(fr_RI f4 rg (by decide) (fun _ => rfl)).2.1, (fr_RI f3 rg (by decide) (fun _ => rfl)).2.1]; exact g2
  have g3' : hI h4 g 3 = 0 := by rw [(fr_RI f4 rg (by decide) (fun _ => rfl)).1, (fr_RI f3 rg (by decide) (fun _ => rfl)).1]; exact g3
  have g4' : ∀ H, hR h4 g 5 = some H → ∀ j : Nat, j < 24 → (hI h4 H j).toInt ≤ 0 := fun H eH j hj => by
    rw [(fr_RI f4 rg (by decide) (fun _ => rfl)).2.2, (fr_RI f3 rg (by decide) (fun _ => rfl)).2.2] at eH
    have rH : ρ H = 64 := rr T (thR T rg (i := 5) (k2 := 64) rfl (by decide)) eH
    rw [(fr_RI f4 rH (by decide) (fun _ => rfl)).1, (fr_RI f3 rH (by decide) (fun _ => rfl)).1]
    exact g4 H eH j hj
  refine s_ref g1' ?_
  obtain ⟨H, eH, qH⟩ := thR T4 rg (i := 5) (k2 := 64) rfl (by decide)
  have z0 := sH_z (g4' H eH) (Nat.zero_le 1) 12 (Nat.le_refl _)
  have z1 := sH_z (g4' H eH) (Nat.le_refl 1) 12 (Nat.le_refl _)
  have o0 : (hI h4 x0 3).toInt = 0 := by rw [he_s w4]; rfl
  have zz : (0 : Int32).toInt = 0 := rfl
  refine s_cVfq (S := wrF) (P := fun o => (hI o x0 3).toInt ≤ 87) T4 (fs_sub (pmA_s hA rfl) fs_n) (zX15_writeAll (s := 64) (v := 87) hF fs_a (th_in _ T4) r0 rg (by decide) (by rw [o0]; decide) (Nat.le_refl _) (thI T4 r0 (k := 16) (i := 13) (lo := 9) (hi := 64) rfl).2 eH (by rw [o0, g2', g3', cRt_0, zz]; omega)) (fun o5 T5 f5 u5 => ?_)
  have P5 := fd_frY T4 r0 f5 fB83Y ⟨fun _ => rfl, fun _ _ => rfl⟩ ⟨fun _ => rfl, fun _ _ => rfl⟩ (fun _ => rfl) P4
  have W5 : PZ zq g o5 := by
    have k3 : hI o5 g 3 = 0 := by rw [(fr_RI f5 rg (by decide) (fun _ => rfl)).1, g3']
    refine ⟨pe_0 (by rw [k3]; rfl), fun M H' m1 m2 => ?_, ?_, by rw [k3]; decide, fun n => by rw [k3] at n; exact absurd n (by decide)⟩
    · rw [(fr_RI f5 rg (by decide) (fun _ => rfl)).2.2] at m2
      have y : H' = H := r_eq eH m2
      subst y
      have kH : ∀ i, hI o5 H' i = hI h4 H' i := fun i => (fr_RI f5 qH (by decide) (fun _ => rfl)).1
      have := mc_le (hI o5 M) 64
      unfold tot
      rw [sh_eq (h := h4) 12 (fun i _ => kH _), sh_eq (h := h4) 12 (fun i _ => kH _)]
      omega
    · have : hJ o5 g 2 = 0 := by rw [(fr_RI f5 rg (by decide) (fun _ => rfl)).2.1, g2']
      rw [this, crt_0]
      decide
  have R5 : FRY zq Bq x0 g (hI o5 x0 44).toInt o5 := ⟨rfl, P5, by rw [(fr_RI f5 r0 (by decide) (fun _ => rfl)).2.2]; exact g1', W5, u5⟩
  have i44 := thI T5 r0 (k := 16) (i := 44) (lo := 0) (hi := 3000) rfl
  refine s_q (fun y ey => ?_)
  have ey2 : y.toInt = (hI o5 x0 44).toInt := by rw [ey]
  clear ey
  exact fd_42Y hF hA hW T5 r0 iv R5 F (by decide) (by rw [zz, ey2]; exact i44.1) (by omega) (by omega) (fun _ => by rw [zz]; have := i44.2; omega)
end
end
section
def KSY (S : Nat → Nat → Nat → Bool) : Prop := fdBY S ∧ fdO S ∧ fdT S ∧ (∀ w, S 16 w 44 = false) ∧ (∀ w, S 16 w 4 = false) ∧ (∀ w, S 15 w 15 = false) ∧ (∀ w, S 16 w 11 = false) ∧ (∀ w, S 16 w 12 = false) ∧ (∀ w, S 16 w 13 = false) ∧ ∀ w, S 16 w 45 = false
theorem ks_cY {A : List (Nat × Nat)} {L : List (Nat × List (Nat × Nat))} {B : List (Nat × Nat)} {t : Nat} (hB : ∀ k i, (k = 16 ∨ k = 15 ∨ k = 95 ∨ k = 96 ∨ k = 97) → mS B k i = false) (ht : t < 11000) (P : KSY (fS A L)) : KSY (fS A ((t, B) :: L)) := by
  obtain ⟨⟨a1, a2, a3⟩, ⟨b1, b2⟩, ⟨c1, c2⟩, d1, d2, d3, d4, d5, d6, d7⟩ := P
  refine ⟨⟨fun w => fs_cf (Or.inl (hB _ _ (by omega))) (a1 w), fun w i => fs_cf (Or.inl (hB _ _ (by omega))) (a2 w i), fun j => ?_⟩, ⟨fun w => fs_cf (Or.inl (hB _ _ (by omega))) (b1 w), fun w i => fs_cf (Or.inl (hB _ _ (by omega))) (b2 w i)⟩, ⟨fun w => fs_cf (Or.inl (hB _ _ (by omega))) (c1 w), fun w i => fs_cf (Or.inl (hB _ _ (by omega))) (c2 w i)⟩, fun w => fs_cf (Or.inl (hB _ _ (by omega))) (d1 w), fun w => fs_cf (Or.inl (hB _ _ (by omega))) (d2 w), fun w => fs_cf (Or.inl (hB _ _ (by omega))) (d3 w), fun w => fs_cf (Or.inl (hB _ _ (by omega))) (d4 w), fun w => fs_cf (Or.inl (hB _ _ (by omega))) (d5 w), fun w => fs_cf (Or.inl (hB _ _ (by omega))) (d6 w), fun w => fs_cf (Or.inl (hB _ _ (by omega))) (d7 w)⟩
  obtain ⟨e1, e2, e3, e4⟩ := a3 j
  have n : ¬ 11000 + j = t := by omega
  exact ⟨fun i hi => fs_cf (Or.inr n) (e1 i hi), fun i => fs_cf (Or.inr n) (e2 i), fun i => fs_cf (Or.inr n) (e3 i), fun i => fs_cf (Or.inr n) (e4 i)⟩
theorem ks_n0Y : KSY (fS [] []) := ⟨⟨fun _ => rfl, fun _ _ => rfl, fun _ => ⟨fun _ _ => rfl, fun _ => rfl, fun _ => rfl, fun _ => rfl⟩⟩, ⟨fun _ => rfl, fun _ _ => rfl⟩, ⟨fun _ => rfl, fun _ _ => rfl⟩, fun _ => rfl, fun _ => rfl, fun _ => rfl, fun _ => rfl, fun _ => rfl, fun _ => rfl, fun _ => rfl⟩
theorem ks_45Y : KSY (fS [] [(2545, bpL)]) := ks_cY bp_no (by decide) ks_n0Y
theorem ks_mcY : KSY (fS mcL []) := ⟨⟨fun _ => rfl, fun _ _ => rfl, fun _ => ⟨fun _ _ => rfl, fun _ => rfl, fun _ => rfl, fun _ => rfl⟩⟩, ⟨fun _ => rfl, fun _ _ => rfl⟩, ⟨fun _ => rfl, fun _ _ => rfl⟩, fun _ => rfl, fun _ => rfl, fun _ => rfl, fun _ => rfl, fun _ => rfl, fun _ => rfl, fun _ => rfl⟩
theorem ks_ld0Y : KSY (fS ldL []) := ⟨⟨fun _ => rfl, fun _ _ => rfl, fun _ => ⟨fun _ _ => rfl, fun _ => rfl, fun _ => rfl, fun _ => rfl⟩⟩, ⟨fun _ => rfl, fun _ _ => rfl⟩, ⟨fun _ => rfl, fun _ _ => rfl⟩, fun _ => rfl, fun _ => rfl, fun _ => rfl, fun _ => rfl, fun _ => rfl, fun _ => rfl, fun _ => rfl⟩
theorem ks_ldY : KSY ldS := ks_cY bp_no (by decide) (ks_cY mp_no (by decide) (ks_cY bp_no (by decide) ks_ld0Y))
def GIY (zq : Nat) (Bq : Nat × Nat) (x0 : Nat) (h : Hp) : Prop := SqOk x0 h ∧ FdPY zq Bq x0 h ∧ ∃ r, hR h x0 4 = some r ∧ hI h r 15 = 0
section
variable {zq : Nat} {Bq : Nat × Nat} {ρ : Nat → Nat} {c : Cm} {h o : Hp} {S : Nat → Nat → Nat → Bool} {x0 b g w i F : Nat} {n : Int} {x1 x2 x3 x4 x5 x6 : Int32}
theorem gi_frY (T : TH ρ c h) (r0 : ρ x0 = 16) (f : Fr ρ (cat c S h) h o) (s : KSY S) (P : GIY zq Bq x0 h) (q1 : o.1 = h.1 := by first | assumption | (apply th1e <;> assumption)) : GIY zq Bq x0 o := by
  obtain ⟨s1, s2, s3, s4, s5, s6, s7, s8, s9, s10⟩ := s
  obtain ⟨p1, p2, r, p3, p4⟩ := P
  refine ⟨sq_fr T r0 f s7 s8 s9 p1, fd_frY T r0 f s1 s2 s3 s4 p2, r, ?_, ?_⟩
  · rw [(fr_RI f r0 (by decide) s5).2.2]; exact p3
  · rw [(fr_RI f (rr T (thR T r0 (i := 4) (k2 := 15) rfl (by decide)) p3) (by decide) s6).1]; exact p4
theorem gs_110Y {k3 : Hp → Nat → Nat → Int32 → Int32 → Int32 → Int32 → Option (Int32 × Hp)} {t0 : Int32} {M : Nat} (hF : 700000 ≤ F) (P : GPm c) (T : TH ρ c h) (r0 : ρ x0 = 16) (rb : ρ b = 13) (i2 : Rg 0 63 x2) (i3 : Rg 0 63 x3) (i5 : Rg 0 12 x5) (I : GIY zq Bq x0 h) (B : GBd x0 g h) (eM : hR h g 0 = some M) (it : Rg 1 24 t0)
    (K : ∀ o ρ1 c1 y, Ext ρ c ρ1 c1 → TH ρ1 c1 o → GIY zq Bq x0 o → y.toInt = x5.toInt + 1 → Sat (k3 o x0 b x2 x3 x4 y) (MkI ρ1 c1 0 1 (GIY zq Bq x0))) : Sat (sX15_guesses_110 F k3 h x0 b x2 x3 x4 x5 t0 x3 M) (MkI ρ c 0 1 (GIY zq Bq x0)) := by
  unfold sX15_guesses_110 sX15_guesses_117 sX15_guesses_125 sX15_guesses_132
  obtain ⟨rg, wg⟩ := g45_r T r0 B.1
  have rM : ρ M = 62 := rr T (thR T rg (i := 0) (k2 := 62) rfl (by decide)) eM
  have wM : cw c M = 2545 := th_ih T rg (k := 13) rfl eM wg
  have stop : ∀ {o : Hp} {ρ1 : Nat → Nat} {c1 : Cm}, Ext ρ c ρ1 c1 → TH ρ1 c1 o → GIY zq Bq x0 o → Sat (sX15_guesses_137 F k3 o x0 b x2 x3 x4 x5) (MkI ρ c 0 1 (GIY zq Bq x0)) := fun {o ρ1 c1} X To Io => by
    unfold sX15_guesses_137
    refine s_q (fun y ey => ?_)
    have ey2 : y.toInt = x5.toInt + 1 := by rw [ey]; exact (nc_s i5 (by decide)).2
    clear ey
    exact mI_ext X (K o ρ1 c1 y X To Io ey2)
  refine s_gd (by rw [thN T rM (k := 62) (n := 64) rfl (by decide)]; exact rg_inB i3 (by decide)) ?_
  refine s_hq (th_wI T rM (k := 62) (lo := 0) (hi := 24) rfl (rg_m it (by decide)) (by decide) (by decide) (by rw [wM]; exact P.2.2.2.2.1 _ _ rfl)) (fun h2 T2 w2 => ?_)
  have f2 := fr1Io (c := c) (B := bpL) rM wM rfl w2
  have I2 := gi_frY T r0 f2 ks_45Y I
  have B2 : GBd x0 g h2 := by
    obtain ⟨p1, p2, p3⟩ := B
    refine ⟨by rw [w2]; exact p1, by rw [w2]; exact p2, ?_⟩
    rw [w2, r_I, if_neg (ne_r rg rM (by decide))]; exact p3
  have gs : GsM x0 x3 h2 := fun b' m e1 e2 => by
    have hz := r_eq B2.1 e1
    subst hz
    have e2' : hR h b' 0 = some m := by rw [w2] at e2; exact e2
    have hz := r_eq eM e2'
    subst hz
    rw [he_s w2]
    exact it.1
  refine s_cIf T2 (fs_sub (pmA_s P.1 rfl) fs_n) (zX15_mayCome (c := cat c (fS mcL []) h2) hF fs_a (th_in _ T2) r0 i3 i2 gs) (fun o3 T3 i3' f3 => ?_)
  have I3 := gi_frY T2 r0 f3 ks_mcY I2
  have B3 := gbd_fr T2 r0 f3 (fun _ => rfl) rfl rfl B2
  refine s_br (fun _ => stop ex_0 T3 I3) (fun _ => ?_)
  refine s_cIfq (P := fun o => sX15_leadsTo F o3.2 x0 b = some o) T3 (S := ldS) (fs_sub (pmA_s P.1 rfl) (fs_c P.2.1 (fs_c P.2.2.1 (fs_c P.2.2.2.1 fs_n)))) (s_weq (zX15_leadsTo hF fs_a (fs_o (.head _)) (fs_o (.tail _ (.head _))) (fs_o (.tail _ (.tail _ (.head _)))) rfl (th_in _ T3) r0 rb I3.1)) (fun o4 T4 i4 f4 e4 => ?_)
  have I4 := gi_frY T3 r0 f4 ks_ldY I3
  have B4 := gbd_fr T3 r0 f4 (ks_ldY.2.2.2.2.2.2.2.2.2) rfl rfl B3
  refine s_br (fun _ => stop ex_0 T4 I4) (fun nz => ?_)
  have hz3 := leads_hz hF T3 r0 e4 nz g B3.1
  obtain ⟨rg3, wg3⟩ := g45_r T3 r0 B3.1
  have hz4 := (hz_fr T3 r0 rg3 wg3 f4 ks_ldY.2.2.2.2.1 ks_ldY.2.2.2.2.2.1 rfl (fun _ => rfl)).mp hz3
  obtain ⟨r, er, e15⟩ := I4.2.2
  have G4 : GZ x0 g o4.2 := ⟨B4.1, B4.2.1, B4.2.2, fun H eH j hj => hz4 r H er e15 eH j hj⟩
  refine s_mI (S := frS) T4 (frs_p P) (zX15_findsRoomY hF (fun w k i m => by show (mS fdL k i || (mS bpL k i && fdW w)) = true; rw [m]; rfl) (fun j hj k i m => by show (mS fdL k i || (mS bpL k i && fdW (11000 + j))) = true; rw [m, fdW_t hj, Bool.and_true, Bool.or_true]) (th_in _ T4) r0 I4.2.1 G4) (fun o5 ρ5 c5 X5 T5 f5 j5 P5 => ?_)
  have I5 : GIY zq Bq x0 o5.2 := ⟨sq_fr T4 r0 f5 (fun _ => rfl) (fun _ => rfl) (fun _ => rfl) I4.1, P5, r, by rw [(fr_RI f5 r0 (by decide) (fun _ => rfl)).2.2]; exact er, by rw [(fr_RI f5 (rr T4 (thR T4 r0 (i := 4) (k2 := 15) rfl (by decide)) er) (by decide) (fun _ => rfl)).1]; exact e15⟩
  exact s_br (fun _ => s_some ⟨ρ5, c5, X5, T5, rg_b rfl, I5⟩) (fun _ => stop X5 T5 I5)
end
end
section
section
variable {zq : Nat} {Bq : Nat × Nat} {ρ : Nat → Nat} {c : Cm} {h o : Hp} {S : Nat → Nat → Nat → Bool} {x0 b g w i F : Nat} {n : Int} {x1 x2 x3 x4 x5 x6 : Int32}
theorem gs_3Y (hF : 700000 ≤ F) : ∀ (f : Nat) {ρ : Nat → Nat} {c : Cm} {h : Hp} {x5 : Int32}, GPm c → TH ρ c h → ρ x0 = 16 → ρ b = 13 → cw c b = 3400 → Rg 0 63 x2 → Rg 0 63 x3 → Rg 0 11 x4 → GIY zq Bq x0 h → 0 ≤ x5.toInt → (14 - x5.toInt).toNat < f → Sat (sX15_guesses_3 F f h x0 b x2 x3 x4 x5) (MkI ρ c 0 1 (GIY zq Bq x0)) := by
  intro f
  induction f with
  | zero => intros; omega
  | succ f ih =>
    intro ρ c h x5 P T r0 rb wb i2 i3 i4 I a5 hf
    rw [sX15_guesses_3]
    obtain ⟨r1, e1, q1⟩ := thR T r0 (i := 4) (k2 := 15) rfl (by decide)
    refine s_ref e1 ?_
    have c12 := thI T q1 (k := 15) (i := 2) (lo := 0) (hi := 12) rfl
    refine s_br (fun _ => s_some ⟨ρ, c, ex_0, T, rg_b rfl, I⟩) (fun n1 => ?_)
    have z1 : (1 : Int32).toInt = 1 := rfl
    have l5 : x5.toInt < 1 + (hI h r1 2).toInt := by
      have := nle_i n1
      rw [ta (by rw [z1]; have := c12.1; have := c12.2; omega), z1] at this
      exact this
    have i5 : Rg 0 12 x5 := ⟨a5, by have := c12.2; omega⟩
    have b5 := i5.2
    clear n1
    obtain ⟨g, eg, _⟩ := thR T r0 (i := 45) (k2 := 13) rfl (by decide)
    obtain ⟨rg, wg⟩ := g45_r T r0 eg
    refine s_ref eg ?_
    refine s_cVf (S := fS [] [(2545, bpL)]) T (fs_sub pmA_n (fs_c P.2.2.2.2.1 fs_n)) (zX12_copy hF (pmO_s (fs_o (.head _)) rfl) wg wb (th_in _ T) rg rb) (fun o4 T4 f4 => ?_)
    have I4 := gi_frY T r0 f4 ks_45Y I
    have eg4 : hR o4 x0 45 = some g := by rw [(fr_RI f4 r0 (by decide) ks_45Y.2.2.2.2.2.2.2.2.2).2.2]; exact eg
    have pg : ∀ i, mS bpL 13 i = true → cPm c 13 (cw c g) i = true := fun i m => by rw [wg]; exact P.2.2.2.2.1 _ _ m
    unfold sX15_guesses_25
    refine s_ref eg4 ?_
    refine s_hq (th_wJ T4 rg (by decide) (pg _ rfl)) (fun h5 T5 w5 => ?_)
    have f5 := fr1Jo (c := c) (B := bpL) rg wg rfl w5
    have I5 := gi_frY T4 r0 f5 ks_45Y I4
    have eg5 : hR h5 x0 45 = some g := by rw [w5]; exact eg4
    refine s_ref eg5 ?_
    refine s_hq (th_wI T5 rg (k := 13) (lo := 0) (hi := 64) rfl (rg_b rfl) (by decide) (by decide) (pg _ rfl)) (fun h6 T6 w6 => ?_)
    have f6 := fr1Io (c := c) (B := bpL) rg wg rfl w6
    have I6 := gi_frY T5 r0 f6 ks_45Y I5
    have eg6 : hR h6 x0 45 = some g := by rw [w6]; exact eg5
    refine s_ref eg6 ?_
    refine s_hq (th_wI T6 rg (k := 13) (lo := 0) (hi := 999) rfl (rg_b rfl) (by decide) (by decide) (pg _ rfl)) (fun h7 T7 w7 => ?_)
    have f7 := fr1Io (c := c) (B := bpL) rg wg rfl w7
    have I7 := gi_frY T6 r0 f7 ks_45Y I6
    have eg7 : hR h7 x0 45 = some g := by rw [w7]; exact eg6
    refine s_ref eg7 ?_
    have sd7 := thI T7 rb (k := 13) (i := 1) (lo := 0) (hi := 1) rfl
    refine s_hq (th_wI T7 rg (k := 13) (lo := 0) (hi := 1) rfl (one_sub sd7) (by decide) (by decide) (pg _ rfl)) (fun h8 T8 w8 => ?_)
    have f8 := fr1Io (c := c) (B := bpL) rg wg rfl w8
    have I8 := gi_frY T7 r0 f8 ks_45Y I7
    have eg8 : hR h8 x0 45 = some g := by rw [w8]; exact eg7
    have B8 : GBd x0 g h8 := by
      refine ⟨eg8, ?_, ?_⟩
      · rw [w8, w7, w6, w5]
        show hJ (wJ o4 g 2 0) g 2 = 0
        rw [r_J, if_pos ⟨rfl, rfl⟩]
      · rw [w8, r_I, if_neg (fun y => absurd y.2 (by decide)), w7, r_I, if_neg (fun y => absurd y.2 (by decide)), w6, r_I, if_pos ⟨rfl, rfl⟩]
    refine s_ref eg8 ?_
    obtain ⟨M, eM, rM⟩ := thR T8 rg (i := 0) (k2 := 62) rfl (by decide)
    have wM : cw c M = 2545 := th_ih T8 rg (k := 13) rfl eM wg
    refine s_ref eM ?_
    have sd8 := thI T8 rb (k := 13) (i := 1) (lo := 0) (hi := 1) rfl
    have go : ∀ {t : Int32}, Rg 0 24 t → Sat (sX15_guesses_90 F (sX15_guesses_3 F f) h8 x0 b x2 x3 x4 x5 t x2 M) (MkI ρ c 0 1 (GIY zq Bq x0)) := fun {t} it => by
      unfold sX15_guesses_90 sX15_valueOf
      refine s_gd (by rw [thN T8 rM (k := 62) (n := 64) rfl (by decide)]; exact rg_inB i2 (by decide)) ?_
      refine s_hq (th_wI T8 rM (k := 62) (lo := 0) (hi := 24) rfl it (by decide) (by decide) (by rw [wM]; exact P.2.2.2.2.1 _ _ rfl)) (fun h9 T9 w9 => ?_)
      have f9 := fr1Io (c := c) (B := bpL) rM wM rfl w9
      have I9 := gi_frY T8 r0 f9 ks_45Y I8
      have B9 : GBd x0 g h9 := by
        obtain ⟨p1, p2, p3⟩ := B8
        refine ⟨by rw [w9]; exact p1, by rw [w9]; exact p2, ?_⟩
        rw [w9, r_I, if_neg (ne_r rg rM (by decide))]; exact p3
      have eM9 : hR h9 g 0 = some M := by rw [w9]; exact eM
      refine s_ref B9.1 ?_
      refine s_ref eM9 ?_
      refine s_cl (s_some ?_)
      have sd9 := thI T9 rb (k := 13) (i := 1) (lo := 0) (hi := 1) rfl
      exact gs_110Y hF P T9 r0 rb i2 i3 i5 I9 B9 eM9 (val_r i4 (one_sub sd9)) (fun o ρ1 c1 y X To Io ey => ih (gp_x X P) To (ex_r X r0 (by decide)) (ex_r X rb (by decide)) ((X.1 b (by rw [rb]; decide)).2.trans wb) i2 i3 i4 Io (by omega) (by omega))
    refine s_br (fun _ => go (rg_b rfl)) (fun n5 => ?_)
    unfold sX15_valueOf
    refine s_cl (s_some ?_)
    have i6 : Rg 1 12 x5 := rg_nlo n5 i5 (rg_b rfl : Rg 0 0 (0 : Int32))
    have i7 : Rg 0 11 (x5 - (1 : Int32)) := rg_sub i6 (rg_b rfl : Rg 1 1 (1 : Int32)) (by decide)
    exact go (rg_m (val_r i7 sd8) (by decide))
theorem zX15_guessesY (hF : 700000 ≤ F) (P : GPm c) (T : TH ρ c h) (r0 : ρ x0 = 16) (rb : ρ b = 13) (wb : cw c b = 3400) (i2 : Rg 0 63 x2) (i3 : Rg 0 63 x3) (i4 : Rg 0 11 x4) (I : GIY zq Bq x0 h) : Sat (sX15_guesses F h x0 b x2 x3 x4) (MkI ρ c 0 1 (GIY zq Bq x0)) := by
  unfold sX15_guesses
  have z0 : (0 : Int32).toInt = 0 := rfl
  exact gs_3Y hF F P T r0 rb wb i2 i3 i4 I (by decide) (by rw [z0]; omega)
theorem ga_118Y {k21 : Hp → Nat → Nat → Int32 → Int32 → Int32 → Int32 → Option (Int32 × Hp)} (hF : 700000 ≤ F) (i2 : Rg 0 63 x2) (i5 : Rg 0 11 x5) : ∀ (f : Nat) {ρ : Nat → Nat} {c : Cm} {h : Hp} {x7 : Int32}, GPm c → TH ρ c h → ρ x0 = 16 → ρ b = 13 → cw c b = 3400 → GIY zq Bq x0 h → 0 ≤ x7.toInt → (65 - x7.toInt).toNat < f →
    (∀ o ρ1 c1 y, Ext ρ c ρ1 c1 → TH ρ1 c1 o → GIY zq Bq x0 o → y.toInt = x5.toInt + 1 → Sat (k21 o x0 b x2 x3 x4 y) (MkI ρ1 c1 0 1 (GIY zq Bq x0))) → Sat (sX15_guessesAll_118 F k21 f h x0 b x2 x3 x4 x5 x6 x7) (MkI ρ c 0 1 (GIY zq Bq x0)) := by
  intro f
  induction f with
  | zero => intros; omega
  | succ f ih =>
    intro ρ c h x7 P T r0 rb wb I a7 hf K
    rw [sX15_guessesAll_118]
    unfold sX15_guessesAll_163 sX15_guessesAll_152 sX15_guessesAll_157
    have ex : Sat (nm (x5 + (1 : Int32)) fun v_1 => k21 h x0 b x2 x3 x4 v_1) (MkI ρ c 0 1 (GIY zq Bq x0)) := by
      refine s_q (fun y ey => ?_)
      have ey2 : y.toInt = x5.toInt + 1 := by rw [ey]; exact (nc_s i5 (by decide)).2
      clear ey
      exact K h ρ c y ex_0 T I ey2
    refine s_br (fun _ => ex) (fun n1 => s_br (fun _ => ex) (fun _ => ?_))
    have l7 := nle_i n1
    have s64 := thI T r0 (k := 16) (i := 13) (lo := 9) (hi := 64) rfl
    have i7 : Rg 0 63 x7 := ⟨a7, by have := s64.2; omega⟩
    have b7 := i7.2
    obtain ⟨r, e, q⟩ := thR T rb (i := 0) (k2 := 62) rfl (by decide)
    refine s_ref e ?_
    refine s_gd (by rw [thN T q (k := 62) (n := 64) rfl (by decide)]; exact rg_inB i7 (by decide)) ?_
    have go : ∀ {o : Hp} {ρ1 : Nat → Nat} {c1 : Cm}, Ext ρ c ρ1 c1 → TH ρ1 c1 o → GIY zq Bq x0 o → Sat (nm (x7 + (1 : Int32)) fun v_1 => sX15_guessesAll_118 F k21 f o x0 b x2 x3 x4 x5 x6 v_1) (MkI ρ c 0 1 (GIY zq Bq x0)) := fun {o ρ1 c1} X To Io => by
      refine s_q (fun y ey => ?_)
      have ey2 : y.toInt = x7.toInt + 1 := by rw [ey]; exact (nc_s i7 (by decide)).2
      clear ey
      exact mI_ext X (ih (gp_x X P) To (ex_r X r0 (by decide)) (ex_r X rb (by decide)) ((X.1 b (by rw [rb]; decide)).2.trans wb) Io (by omega) (by omega) (fun o' ρ2 c2 y' X' => K o' ρ2 c2 y' (ex_t X X')))
    refine s_br (fun _ => ?_) (fun _ => go ex_0 T I)
    refine s_cl (s_imp (zX15_guessesY hF P T r0 rb wb i2 i7 i5 I) (fun o5 ⟨ρ5, c5, X5, T5, j5, I5⟩ => ?_))
    exact s_br (fun _ => s_some ⟨ρ5, c5, X5, T5, rg_b rfl, I5⟩) (fun _ => go X5 T5 I5)
theorem ga_50Y {k21 : Hp → Nat → Nat → Int32 → Int32 → Int32 → Int32 → Option (Int32 × Hp)} (hF : 700000 ≤ F) (P : GPm c) (T : TH ρ c h) (r0 : ρ x0 = 16) (rb : ρ b = 13) (wb : cw c b = 3400) (i2 : Rg 0 63 x2) (i3 : Rg 0 1 x3) (i5 : Rg 0 11 x5) (I : GIY zq Bq x0 h)
    (K : ∀ o ρ1 c1 y, Ext ρ c ρ1 c1 → TH ρ1 c1 o → GIY zq Bq x0 o → y.toInt = x5.toInt + 1 → Sat (k21 o x0 b x2 x3 x4 y) (MkI ρ1 c1 0 1 (GIY zq Bq x0))) : ∀ (f : Nat) {x6 x7 : Int32}, 0 ≤ x7.toInt → (7 - x7.toInt).toNat < f → Sat (sX15_guessesAll_50 F k21 f h x0 b x2 x3 x4 x5 x6 x7) (MkI ρ c 0 1 (GIY zq Bq x0)) := by
  intro f
  induction f with
  | zero => intros; omega
  | succ f ih =>
    intro x6 x7 a7 hf
    rw [sX15_guessesAll_50]
    unfold sX15_guessesAll_94 sX15_guessesAll_105 sX15_guessesAll_106
    obtain ⟨r1, e1, q1⟩ := thR T r0 (i := 4) (k2 := 15) rfl (by decide)
    refine s_ref e1 ?_
    obtain ⟨r2, e2, q2⟩ := thR T q1 (i := 14) (k2 := 81) rfl (by decide)
    refine s_ref e2 ?_
    refine s_gd (by rw [thN T q2 (k := 81) (n := 12) rfl (by decide)]; exact rg_inB i5 (by decide)) ?_
    have m6 := thI T q2 (k := 81) (i := x5.toNatClampNeg) (lo := 0) (hi := 6) rfl
    have z0 : (0 : Int32).toInt = 0 := rfl
    refine s_br (fun _ => ga_118Y hF i2 i5 F P T r0 rb wb I (by decide) (by rw [z0]; omega) K) (fun n1 => ?_)
    have l7 := nle_i n1
    have i7 : Rg 0 5 x7 := ⟨a7, by have := m6.2; omega⟩
    have b7 := i7.2
    refine s_ref e1 ?_
    obtain ⟨r6, e6, q6⟩ := thR T q1 (i := 13) (k2 := 80) rfl (by decide)
    refine s_ref e6 ?_
    have im : Rg 0 66 ((6 : Int32) * x5) := by
      have e4 : (6 : Int32).toInt = 6 := rfl
      have := i5.1
      have := i5.2
      exact ⟨by rw [tm (by rw [e4]; omega), e4]; omega, by rw [tm (by rw [e4]; omega), e4]; omega⟩
    refine s_gd (by rw [thN T q6 (k := 80) (n := 72) rfl (by decide)]; exact rg_inB (rg_add im i7 (by decide) : Rg 0 71 _) (by decide)) ?_
    have go : ∀ {t0 t1 : Int32}, Sat (nm (t1 ||| t0) fun v_1 => nm (x7 + (1 : Int32)) fun v_2 => sX15_guessesAll_50 F k21 f h x0 b x2 x3 x4 x5 v_1 v_2) (MkI ρ c 0 1 (GIY zq Bq x0)) := fun {t0 t1} => by
      refine s_q (fun u _ => ?_)
      refine s_q (fun y ey => ?_)
      have ey2 : y.toInt = x7.toInt + 1 := by rw [ey]; exact (nc_s i7 (by decide)).2
      clear ey
      exact ih (by omega) (by omega)
    refine s_br (fun _ => ?_) (fun _ => go)
    refine s_cI0 (zX15_rankFor hF T r0 i2 i3) (fun o9 e9 _ => ?_)
    rw [show o9.2 = h from e9]
    exact s_br (fun _ => go) (fun _ => go)
theorem ga_21Y (hF : 700000 ≤ F) (i2 : Rg 0 63 x2) (i3 : Rg 0 1 x3) : ∀ (f : Nat) {ρ : Nat → Nat} {c : Cm} {h : Hp} {x5 : Int32}, GPm c → TH ρ c h → ρ x0 = 16 → ρ b = 13 → cw c b = 3400 → GIY zq Bq x0 h → 0 ≤ x5.toInt → (13 - x5.toInt).toNat < f → Sat (sX15_guessesAll_21 F f h x0 b x2 x3 x4 x5) (MkI ρ c 0 1 (GIY zq Bq x0)) := by
  intro f
  induction f with
  | zero => intros; omega
  | succ f ih =>
    intro ρ c h x5 P T r0 rb wb I a5 hf
    rw [sX15_guessesAll_21]
    unfold sX15_guessesAll_45
    obtain ⟨r1, e1, q1⟩ := thR T r0 (i := 4) (k2 := 15) rfl (by decide)
    refine s_ref e1 ?_
    have c12 := thI T q1 (k := 15) (i := 2) (lo := 0) (hi := 12) rfl
    refine s_br (fun _ => s_some ⟨ρ, c, ex_0, T, rg_b rfl, I⟩) (fun n1 => ?_)
    have l5 := nle_i n1
    have i5 : Rg 0 11 x5 := ⟨a5, by have := c12.2; omega⟩
    have b5 := i5.2
    have z0 : (0 : Int32).toInt = 0 := rfl
    have go : ∀ {t : Int32}, Sat (sX15_guessesAll_50 F (sX15_guessesAll_21 F f) F h x0 b x2 x3 x4 x5 t (0 : Int32)) (MkI ρ c 0 1 (GIY zq Bq x0)) := fun {t} => ga_50Y hF P T r0 rb wb i2 i3 i5 I (fun o ρ1 c1 y X To Io ey => ih (gp_x X P) To (ex_r X r0 (by decide)) (ex_r X rb (by decide)) ((X.1 b (by rw [rb]; decide)).2.trans wb) Io (by omega) (by omega)) F (by decide) (by rw [z0]; omega)
    exact s_br (fun _ => go) (fun _ => go)
theorem zX15_guessesAllY (hF : 700000 ≤ F) (P : GPm c) (T : TH ρ c h) (r0 : ρ x0 = 16) (rb : ρ b = 13) (wb : cw c b = 3400) (i2 : Rg 0 63 x2) (I : GIY zq Bq x0 h) : Sat (sX15_guessesAll F h x0 b x2) (MkI ρ c 0 1 (GIY zq Bq x0)) := by
  unfold sX15_guessesAll sX15_guessesAll_16 sX15_manOf
  refine s_q (fun v ev => ?_)
  have iv : Rg 0 1 v := by rw [ev]; exact one_sub (thI T rb (k := 13) (i := 1) (lo := 0) (hi := 1) rfl)
  clear ev
  obtain ⟨r, e, q⟩ := thR T rb (i := 0) (k2 := 62) rfl (by decide)
  refine s_ref e ?_
  refine s_gd (by rw [thN T q (k := 62) (n := 64) rfl (by decide)]; exact rg_inB i2 (by decide)) ?_
  refine s_cl (s_some ?_)
  have z0 : (0 : Int32).toInt = 0 := rfl
  exact ga_21Y hF i2 iv F P T r0 rb wb I (by decide) (by rw [z0]; omega)
end
end
section
section
variable {zq : Nat} {Bq : Nat × Nat} {ρ : Nat → Nat} {c : Cm} {h o : Hp} {S : Nat → Nat → Nat → Bool} {x0 b g w i F : Nat} {n : Int} {x1 x2 x3 x4 x5 x6 : Int32}
theorem fd_noneY (T : TH ρ c h) (r0 : ρ x0 = 16) (P : FdPY zq Bq x0 h) (e : o = wI h x0 44 0) : FdPY zq Bq x0 o := by
  have f := fr1I (c := c) (A := [(16, 44)]) r0 rfl e
  have z : (hI o x0 44).toInt = 0 := by rw [he_s e]; rfl
  exact ⟨fun r er i hi => by rw [z] at hi; omega, fun k hk => by rw [z] at hk; omega, fbp_frY T r0 f fB44Y P.2.2.1 (by rw [e]; rfl), tx_fr T r0 f ⟨fun _ => rfl, fun _ _ => rfl⟩ P.2.2.2⟩
theorem gi_noneY (T : TH ρ c h) (r0 : ρ x0 = 16) (P : GIY zq Bq x0 h) (e : o = wI h x0 44 0) : GIY zq Bq x0 o := by
  have f := fr1I (c := c) (A := [(16, 44)]) r0 rfl e
  obtain ⟨p1, p2, r, p3, p4⟩ := P
  refine ⟨sq_fr T r0 f (fun _ => rfl) (fun _ => rfl) (fun _ => rfl) p1, fd_noneY T r0 p2 e, r, by rw [e]; exact p3, ?_⟩
  rw [(fr_RI f (rr T (thR T r0 (i := 4) (k2 := 15) rfl (by decide)) p3) (by decide) (fun _ => rfl)).1]; exact p4
theorem be_58Y (hF : 700000 ≤ F) : ∀ (f : Nat) {ρ : Nat → Nat} {c : Cm} {h : Hp} {x3 : Int32}, GPm c → TH ρ c h → ρ x0 = 16 → ρ b = 13 → cw c b = 3400 → GIY zq Bq x0 h → 0 ≤ x3.toInt → (65 - x3.toInt).toNat < f → Sat (sX15_before_58 F f h x0 b x3) (MkI ρ c (-104) 3000 (GIY zq Bq x0)) := by
  intro f
  induction f with
  | zero => intros; omega
  | succ f ih =>
    intro ρ c h x3 P T r0 rb wb I a3 hf
    rw [sX15_before_58]
    unfold sX15_before_108 sX15_before_84 sX15_before_97 sX15_before_108 sX15_sideOf
    have s64 := thI T r0 (k := 16) (i := 13) (lo := 9) (hi := 64) rfl
    refine s_br (fun _ => s_some ⟨ρ, c, ex_0, T, rg_m (thI T r0 (k := 16) (i := 44) (lo := 0) (hi := 3000) rfl) (by decide), I⟩) (fun n1 => ?_)
    have l3 := nle_i n1
    have i3 : Rg 0 63 x3 := ⟨a3, by have := s64.2; omega⟩
    have b3 := i3.2
    obtain ⟨r, e, q⟩ := thR T rb (i := 0) (k2 := 62) rfl (by decide)
    have gb : inB x3 (hN h r) := by rw [thN T q (k := 62) (n := 64) rfl (by decide)]; exact rg_inB i3 (by decide)
    have go : ∀ {o : Hp} {ρ1 : Nat → Nat} {c1 : Cm}, Ext ρ c ρ1 c1 → TH ρ1 c1 o → GIY zq Bq x0 o → Sat (nm (x3 + (1 : Int32)) fun v_1 => sX15_before_58 F f o x0 b v_1) (MkI ρ c (-104) 3000 (GIY zq Bq x0)) := fun {o ρ1 c1} X To Io => by
      refine s_q (fun y ey => ?_)
      have ey2 : y.toInt = x3.toInt + 1 := by rw [ey]; exact (nc_s i3 (by decide)).2
      clear ey
      exact mI_ext X (ih (gp_x X P) To (ex_r X r0 (by decide)) (ex_r X rb (by decide)) ((X.1 b (by rw [rb]; decide)).2.trans wb) Io (by omega) (by omega))
    refine s_ref e (s_gd gb ?_)
    refine s_br (fun _ => go ex_0 T I) (fun _ => ?_)
    refine s_ref e (s_gd gb ?_)
    refine s_cl (s_some ?_)
    refine s_br (fun _ => go ex_0 T I) (fun _ => ?_)
    refine s_cl (s_imp (zX15_guessesAllY hF P T r0 rb wb i3 I) (fun o5 ⟨ρ5, c5, X5, T5, j5, I5⟩ => ?_))
    have r5 := ex_r X5 r0 (by decide)
    refine s_br (fun _ => ?_) (fun _ => go X5 T5 I5)
    refine s_hq (th_wI T5 r5 (k := 16) (lo := 0) (hi := 3000) rfl (rg_b rfl) (by decide) (by decide) (pm_a (gp_x X5 P).1 rfl)) (fun h6 T6 w6 => ?_)
    exact s_some ⟨ρ5, c5, X5, T6, rg_b rfl, gi_noneY T5 r5 I5 w6⟩
theorem zX15_beforeY (hF : 700000 ≤ F) (P : GPm c) (T : TH ρ c h) (r0 : ρ x0 = 16) (bd : BdP x0 h) (sq : SqOk x0 h) (fd : FdPY zq Bq x0 h) : Sat (sX15_before F h x0 x1) (MkI ρ c (-104) 3000 (fun o => SqOk x0 o ∧ FdPY zq Bq x0 o)) := by
  unfold sX15_before
  refine s_dP0 (zX15_has hF T r0 (rg_top _)) (fun oo eb e ii pp => ?_)
  rw [e]
  unfold sX15_before_5 sX15_before_41
  have ex : ∀ {v : Int32}, Rg (-104) 3000 v → Sat (some (v, h)) (MkI ρ c (-104) 3000 (fun o => SqOk x0 o ∧ FdPY zq Bq x0 o)) := fun {v} iv => s_some ⟨ρ, c, ex_0, T, iv, sq, fd⟩
  refine s_br (fun _ => ex (rg_b rfl)) (fun nz => ?_)
  have i1 := pp nz
  obtain ⟨b, B⟩ := bk_of T r0 (hb_of T r0 bd eb nz)
  obtain ⟨rb, wb⟩ := bk_r T r0 B
  obtain ⟨r1, e1, q1⟩ := thR T r0 (i := 4) (k2 := 15) rfl (by decide)
  refine s_ref e1 ?_
  refine s_br (fun z15 => ?_) (fun _ => ex (rg_b rfl))
  refine s_ref e1 ?_
  refine s_br (fun _ => ?_) (fun _ => ex (rg_b rfl))
  refine s_ref e1 ?_
  refine s_br (fun _ => ?_) (fun _ => ex (rg_b rfl))
  refine s_hq (th_wI T r0 (k := 16) (lo := 0) (hi := 3000) rfl (rg_b rfl) (by decide) (by decide) (pm_a P.1 rfl)) (fun h6 T6 w6 => ?_)
  have I6 := gi_noneY T r0 ⟨sq, fd, r1, e1, z15⟩ w6
  have B6 : BK x0 x1.toNatClampNeg b h6 := by
    obtain ⟨r, s1, s2, s3⟩ := B
    have f6 := fr1I (c := c) (A := [(16, 44)]) r0 rfl w6
    exact ⟨r, by rw [w6]; exact s1, by rw [w6]; exact s2, pe_fr T rb f6 rfl rfl rfl (fun _ => rfl) (fun _ => rfl) s3⟩
  refine s_bk T6 r0 i1 B6 ?_
  have z0 : (0 : Int32).toInt = 0 := rfl
  exact s_imp (be_58Y hF F P T6 r0 rb wb I6 (by decide) (by rw [z0]; omega)) (fun o ⟨ρ1, c1, X, To, j, Io⟩ => ⟨ρ1, c1, X, To, j, Io.1, Io.2.1⟩)
theorem ks_kpY : KSY (fS kpL [(3400, bpL)]) := ks_cY bp_no (by decide) ⟨⟨fun _ => rfl, fun _ _ => rfl, fun _ => ⟨fun _ _ => rfl, fun _ => rfl, fun _ => rfl, fun _ => rfl⟩⟩, ⟨fun _ => rfl, fun _ _ => rfl⟩, ⟨fun _ => rfl, fun _ _ => rfl⟩, fun _ => rfl, fun _ => rfl, fun _ => rfl, fun _ => rfl, fun _ => rfl, fun _ => rfl, fun _ => rfl⟩
end
end
section
/-! beforeAt and write of the reference -/
section
variable {zq : Nat} {Bq Bk : Nat × Nat} {ρ : Nat → Nat} {c : Cm} {h o : Hp} {S : Nat → Nat → Nat → Bool} {x0 b g w i F : Nat} {n : Int} {x1 x2 x3 : Int32}
/-- found boards over calls that make other things -/
theorem fdy_ex (T : TH ρ c h) (r0 : ρ x0 = 16) (f : Fr ρ (cat c S h) h o) (s : fdBY S) (s2 : fdO S) (s3 : fdT S) (s4 : ∀ w, S 16 w 44 = false) (P : FdPY zq Bq x0 h) : ∃ B, FdPY zq B x0 o := by
  obtain ⟨r, er, qr⟩ := thR T r0 (i := 40) (k2 := 95) rfl (by decide)
  have er' : hR o x0 40 = some r := by rw [(fr_RI f r0 (by decide) s.1).2.2]; exact er
  refine ⟨(o.1.1 + 5 * nuC o r 3000, o.1.2 + 162 * nuC o r 3000), or_fr T r0 f s2 s4 P.1, by rw [(fr_RI f r0 (by decide) s4).1]; exact fbe_fr T r0 f s.1 s.2.1 P.2.1, ⟨fun k b B => ?_, fun r' e' => ?_⟩, tx_fr T r0 f s3 P.2.2.2⟩
  · have B0 := (fbo_fr T r0 f s.1 (fun w => s.2.1 w k)).mpr B
    obtain ⟨k1, k2⟩ := fbo_r T r0 B0
    obtain ⟨a1, a2, a3, a4⟩ := s.2.2 k
    exact pz_fr T k1 f (fun i hi => by rw [k2]; exact a1 i hi) (fun i => by rw [k2]; exact a2 i) (fun i => by rw [k2]; exact a3 i) (fun i => by rw [k2]; exact a4 i) (P.2.2.1.1 k b B0)
  · have : r' = r := r_eq er' e'
    subst this
    exact ⟨Nat.le_refl _, Nat.le_refl _⟩
theorem beforeAt_w (hF : 700000 ≤ F) (hA : pmA c kpL) (h34 : pmO c 3400 bpL) (T : TH ρ c h) (r0 : ρ x0 = 16) (bd : BdY zq Bk x0 h) (fd : FdPY zq Bq x0 h) : Sat (sX15_beforeAt F h x0 x1) (MkI ρ c (-104) 59 (fun o => BdY zq Bk x0 o ∧ ∃ B, FdPY zq B x0 o)) := by
  unfold sX15_beforeAt sX15_beforeAt_12 sX15_beforeAt_32
  have ex : Sat (some ((-102 : Int32), h)) (MkI ρ c (-104) 59 (fun o => BdY zq Bk x0 o ∧ ∃ B, FdPY zq B x0 o)) := s_some ⟨ρ, c, ex_0, T, rg_b rfl, bd, Bq, fd⟩
  refine s_br (fun _ => ex) (fun n1 => ?_)
  refine s_br (fun l1 => ?_) (fun _ => ex)
  have a1 : 0 ≤ x1.toInt := nlt_i n1
  have b1 := lt_i l1
  have i44 := thI T r0 (k := 16) (i := 44) (lo := 0) (hi := 3000) rfl
  have i1 : Rg 0 2999 x1 := ⟨a1, by have := i44.2; omega⟩
  have c1' := clamp_i a1
  obtain ⟨r3, e3, q3⟩ := thR T r0 (i := 40) (k2 := 95) rfl (by decide)
  refine s_ref e3 ?_
  obtain ⟨r4, e4, q4⟩ := thR T r0 (i := 42) (k2 := 97) rfl (by decide)
  refine s_ref e4 ?_
  refine s_gd (by rw [thN T q4 (k := 97) (n := 3000) rfl (by decide)]; exact rg_inB i1 (by decide)) ?_
  have iv := thI T q4 (k := 97) (i := x1.toNatClampNeg) (lo := 0) (hi := 2999) rfl
  refine s_gd (by rw [thN T q3 (k := 95) (n := 3000) rfl (by decide)]; exact rg_inB iv (by decide)) ?_
  have lv := fd.1 r4 e4 x1.toNatClampNeg (by omega)
  have cv := clamp_i iv.1
  obtain ⟨b, B⟩ := fd.2.1 (hI h r4 x1.toNatClampNeg).toNatClampNeg (by omega)
  have PB := fd.2.2.1.1 _ b B
  obtain ⟨rb, wb⟩ := fbo_r T r0 B
  obtain ⟨r', s1, s2⟩ := B
  have hz := r_eq e3 s1
  subst hz
  refine s_ref s2 ?_
  refine s_mI (S := fS kpL [(3400, bpL)]) (lo := -104) (hi := 59) (P := BdY zq Bk x0) T (fs_sub hA (fs_c h34 fs_n)) (keep_y hF fs_a (pmO_s (fs_o (.head _)) rfl) rfl (th_in _ T) r0 rb bd PB) (fun o8 ρ8 c8 X8 T8 f8 j8 P8 => ?_)
  exact s_some ⟨ρ8, c8, X8, T8, j8, P8, fdy_ex T r0 f8 ks_kpY.1 ks_kpY.2.1 ks_kpY.2.2.1 ks_kpY.2.2.2.1 fd⟩
/-- write: at most 256 letters -/
theorem write_w (hF : 700000 ≤ F) (hA : pmA c [(83, 999), (16, 3)]) (T : TH ρ c h) (r0 : ρ x0 = 16) (bd : BdY zq Bk x0 h) (hz : zq = 64) : Sat (sX15_write F h x0 x1) (ZI ρ c (-102) 256) := by
  unfold sX15_write
  refine s_dP0 (zX15_has hF T r0 (rg_top _)) (fun o1 eb1 e1 ii1 pp1 => ?_)
  rw [e1]
  refine s_br (fun _ => s_some ⟨T, rg_b rfl⟩) (fun nz => ?_)
  have i1 := pp1 nz
  obtain ⟨b, BKb, PZb⟩ := bw_of T r0 bd eb1 nz
  obtain ⟨kb, wb'⟩ := bk_r T r0 BKb
  refine s_hq (th_wI T r0 (k := 16) (lo := (0)) (hi := (256)) rfl (rg_b rfl) (by decide) (by decide) (pm_a hA rfl)) (fun h3 T3 w3 => ?_)
  have f3 := fr1I (c := c) (A := [(16, 3)]) r0 rfl w3
  have BK3 : BK x0 x1.toNatClampNeg b h3 := by
    obtain ⟨r, s1, s2, s3⟩ := BKb
    exact ⟨r, by rw [w3]; exact s1, by rw [w3]; exact s2, pe_fr T kb f3 rfl rfl rfl (fun _ => rfl) (fun _ => rfl) s3⟩
  have W3 : WrE zq b h3 := wr_fr T kb f3 (fun _ _ => rfl) (fun _ => rfl) (fun _ => rfl) (fun _ => rfl) PZb.2
  refine s_bk T3 r0 i1 BK3 ?_
  obtain ⟨H, eH, qH⟩ := thR T3 kb (i := 5) (k2 := 64) rfl (by decide)
  obtain ⟨M, eM, qM⟩ := thR T3 kb (i := 0) (k2 := 62) rfl (by decide)
  have o0 : (hI h3 x0 3).toInt = 0 := by rw [he_s w3]; rfl
  have k13 : hI h3 x0 13 = hI h x0 13 := (fr_RI f3 r0 (by decide) (fun _ => rfl)).1
  have i13 := thI T3 r0 (k := 16) (i := 13) (lo := 9) (hi := 64) rfl
  have c13 := nc_i (x := hI h3 x0 13) (by have := i13.1; omega)
  rw [k13] at c13 i13
  obtain ⟨t1, t2, t3, _⟩ := W3
  have tt := t1 M H eM eH
  have m0 := mc_0 (hI h3 M) 64
  unfold tot at tt
  have i132 := i13.2
  refine s_cl (s_imp (zX15_writeAll (s := zq) (v := 256) hF hA T3 r0 kb (by decide) (by rw [o0]; decide) (by omega) (by rw [k13, hz]; exact i132) eH (by rw [o0]; omega)) (fun o7 w7 => ?_))
  exact s_some ⟨w7.1, by have := (thI w7.1 r0 (k := 16) (i := 3) (lo := 0) (hi := 256) rfl).1; show -102 ≤ (hI o7 x0 3).toInt; omega, w7.2⟩
end
end
