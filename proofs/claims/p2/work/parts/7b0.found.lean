def FbPY (zq : Nat) (Bq : Nat × Nat) (x0 : Nat) (h : Hp) : Prop := (∀ k b, Fb x0 k b h → PZ zq b h) ∧ Pay 40 3000 5 162 Bq x0 h
theorem th1e {ρ : Nat → Nat} {c : Cm} {h o : Hp} (T : TH ρ c h) (T' : TH ρ c o) : o.1 = h.1 := T'.1.1.trans T.1.1.symm
def FdPY (zq : Nat) (Bq : Nat × Nat) (x0 : Nat) (h : Hp) : Prop := OrP x0 h ∧ FbE x0 (hI h x0 44).toInt h ∧ FbPY zq Bq x0 h ∧ TxA x0 h
def fdBY (S : Nat → Nat → Nat → Bool) : Prop := (∀ w, S 16 w 40 = false) ∧ (∀ w i, S 95 w i = false) ∧ ∀ j, (∀ i, i < 6 → S 13 (11000 + j) i = false) ∧ (∀ i, S 62 (11000 + j) i = false) ∧ (∀ i, S 63 (11000 + j) i = false) ∧ ∀ i, S 64 (11000 + j) i = false
section
variable {zq : Nat} {Bq : Nat × Nat} {ρ : Nat → Nat} {c : Cm} {h o : Hp} {S : Nat → Nat → Nat → Bool} {x0 b i F : Nat} {n : Int}
theorem fbp_frY (T : TH ρ c h) (r0 : ρ x0 = 16) (f : Fr ρ (cat c S h) h o) (s : fdBY S) (P : FbPY zq Bq x0 h) (q1 : o.1 = h.1 := by first | assumption | (apply th1e <;> assumption)) : FbPY zq Bq x0 o := ⟨fun k b B => by
  have B0 := (fbo_fr T r0 f s.1 (fun w => s.2.1 w k)).mpr B
  obtain ⟨k1, k2⟩ := fbo_r T r0 B0
  obtain ⟨a1, a2, a3, a4⟩ := s.2.2 k
  exact pz_fr T k1 f (fun i hi => by rw [k2]; exact a1 i hi) (fun i => by rw [k2]; exact a2 i) (fun i => by rw [k2]; exact a3 i) (fun i => by rw [k2]; exact a4 i) (P.1 k b B0), pay_k0 T r0 (k2 := 95) rfl (by decide) q1 (fr_RI f r0 (by decide) s.1).2.2 (fun r i qr => (fr_RI f qr (by decide) (fun w => s.2.1 w i)).2.2) P.2⟩
theorem fd_frY (T : TH ρ c h) (r0 : ρ x0 = 16) (f : Fr ρ (cat c S h) h o) (s : fdBY S) (s2 : fdO S) (s3 : fdT S) (s4 : ∀ w, S 16 w 44 = false) (P : FdPY zq Bq x0 h) (q1 : o.1 = h.1 := by first | assumption | (apply th1e <;> assumption)) : FdPY zq Bq x0 o :=
  ⟨or_fr T r0 f s2 s4 P.1, by rw [(fr_RI f r0 (by decide) s4).1]; exact fbe_fr T r0 f s.1 s.2.1 P.2.1, fbp_frY T r0 f s P.2.2.1, tx_fr T r0 f s3 P.2.2.2⟩
end
section
variable {zq : Nat} {Bq : Nat × Nat} {ρ : Nat → Nat} {c : Cm} {h o : Hp} {S : Nat → Nat → Nat → Bool} {x0 b g i F : Nat} {n : Int} {x1 x2 x3 x4 x5 x6 : Int32}
theorem fB83Y : fdBY (fS [(83, 999), (16, 3)] []) := ⟨fun _ => rfl, fun _ _ => rfl, fun _ => ⟨fun _ _ => rfl, fun _ => rfl, fun _ => rfl, fun _ => rfl⟩⟩
theorem fB97Y : fdBY (fS [(97, 999)] []) := ⟨fun _ => rfl, fun _ _ => rfl, fun _ => ⟨fun _ _ => rfl, fun _ => rfl, fun _ => rfl, fun _ => rfl⟩⟩
theorem fB96Y : fdBY (fS [(96, 999)] []) := ⟨fun _ => rfl, fun _ _ => rfl, fun _ => ⟨fun _ _ => rfl, fun _ => rfl, fun _ => rfl, fun _ => rfl⟩⟩
theorem fB98Y : fdBY (fS [(98, 999)] []) := ⟨fun _ => rfl, fun _ _ => rfl, fun _ => ⟨fun _ _ => rfl, fun _ => rfl, fun _ => rfl, fun _ => rfl⟩⟩
theorem fB44Y : fdBY (fS [(16, 44)] []) := ⟨fun _ => rfl, fun _ _ => rfl, fun _ => ⟨fun _ _ => rfl, fun _ => rfl, fun _ => rfl, fun _ => rfl⟩⟩
theorem fd_280Y (hA : pmA c fdL) (T : TH ρ c h) (r0 : ρ x0 = 16) (i1 : Rg 0 256 x1) (i5 : Rg 0 1 x5) (P : FdPY zq Bq x0 h) : Sat (sX15_findsRoom_280 F h x0 x1 x5) (fun o => TH ρ c o.2 ∧ Rg 0 1 o.1 ∧ FdPY zq Bq x0 o.2) := by
  unfold sX15_findsRoom_280 sX15_findsRoom_294
  obtain ⟨r1, e1, q1⟩ := thR T r0 (i := 43) (k2 := 98) rfl (by decide)
  refine s_ref e1 ?_
  obtain ⟨r2, e2, q2⟩ := thR T r0 (i := 2) (k2 := 83) rfl (by decide)
  refine s_ref e2 ?_
  refine s_gd (by decide) (s_gd (by decide) (s_gd (rg_nneg i1 (by decide)) ?_))
  refine s_gd (g_len (rg_b rfl : Rg (0) (0) ((0 : Int32))) i1 (thN T q1 (k := 98) (n := 256) rfl (by decide)) (by decide)) ?_
  refine s_gd (g_len (rg_b rfl : Rg (0) (0) ((0 : Int32))) i1 (thN T q2 (k := 83) (n := 256) rfl (by decide)) (by decide)) ?_
  refine s_gd (fun i _ => fits_b (rg_m (thI T q1 (k := 98) (lo := (-128)) (hi := (127)) rfl) (by decide))) ?_
  refine s_hq (th_cpI T q1 q2 (k0 := 98) (k := 83) (lo0 := (-128)) (hi0 := (127)) (lo := (-128)) (hi := (127)) (fun _ => rfl) (fun _ => rfl) (by decide) (by decide) (by decide) (fun _ => (pm_a hA rfl))) (fun h9 T9 e9 => ?_)
  have P9 := fd_frY T r0 (fr1C (A := [(83, 999)]) q2 rfl e9) ⟨fun _ => rfl, fun _ _ => rfl, fun _ => ⟨fun _ _ => rfl, fun _ => rfl, fun _ => rfl, fun _ => rfl⟩⟩ ⟨fun _ => rfl, fun _ _ => rfl⟩ ⟨fun _ => rfl, fun _ _ => rfl⟩ (fun _ => rfl) P
  refine s_hq (th_wI T9 r0 (k := 16) (lo := (0)) (hi := (256)) rfl i1 (by decide) (by decide) (pm_a hA rfl)) (fun h10 T10 e10 => ?_)
  have P10 := fd_frY T9 r0 (fr1I (A := [(16, 3)]) r0 rfl e10) ⟨fun _ => rfl, fun _ _ => rfl, fun _ => ⟨fun _ _ => rfl, fun _ => rfl, fun _ => rfl, fun _ => rfl⟩⟩ ⟨fun _ => rfl, fun _ _ => rfl⟩ ⟨fun _ => rfl, fun _ _ => rfl⟩ (fun _ => rfl) P9
  exact s_gd (rg_bool i5) (s_some ⟨T10, i5, P10⟩)
theorem fd_228Y (hA : pmA c fdL) (T : TH ρ c h) (r0 : ρ x0 = 16) (i1 : Rg 0 256 x1) (i5 : Rg 0 1 x5) (en : (hI h x0 44).toInt = n) (l0 : 0 ≤ n) (ln : n < 3000) (ou : (hI h x0 3).toInt ≤ 87) (O : ∀ r, hR h x0 42 = some r → ∀ i : Nat, (i : Int) ≤ n → (hI h r i).toInt ≤ n) (E : FbE x0 (n + 1) h) (FP : FbPY zq Bq x0 h) (TX : TxA x0 h) : Sat (sX15_findsRoom_228 F h x0 x1 x5) (fun o => TH ρ c o.2 ∧ Rg 0 1 o.1 ∧ FdPY zq Bq x0 o.2) := by
  unfold sX15_findsRoom_228 sX15_findsRoom_270
  have in4 : Rg 0 2999 (hI h x0 44) := ⟨by omega, by omega⟩
  have e96 : (96 : Int32).toInt = 96 := rfl
  have em : ((96 : Int32) * (hI h x0 44)).toInt = 96 * n := by rw [tm (by rw [e96]; omega), e96, en]
  have im : Rg 0 287904 ((96 : Int32) * (hI h x0 44)) := ⟨by omega, by omega⟩
  have cm := clamp_i im.1
  obtain ⟨r1, e1, q1⟩ := thR T r0 (i := 41) (k2 := 96) rfl (by decide)
  refine s_ref e1 ?_
  refine s_gd (by rw [thN T q1 (k := 96) (n := 288000) rfl (by decide)]; exact rg_inB im (by decide)) ?_
  have io := thI T r0 (k := 16) (i := 3) (lo := 0) (hi := 256) rfl
  refine s_hq (th_wI T q1 (k := 96) (lo := -128) (hi := 127) rfl (rg_narb (rg_y _) (by decide)) (by decide) (by decide) (pm_a hA rfl)) (fun h3 T3 w3 => ?_)
  have f3 := fr1I (c := c) (A := [(96, 999)]) q1 rfl w3
  have e44 : hI h3 x0 44 = hI h x0 44 := (fr_RI f3 r0 (by decide) (fun _ => rfl)).1
  have e3 : hI h3 x0 3 = hI h x0 3 := (fr_RI f3 r0 (by decide) (fun _ => rfl)).1
  have E3 := fbe_fr T r0 f3 fB96Y.1 fB96Y.2.1 E
  have FP3 := fbp_frY T r0 f3 fB96Y FP
  have O3 : ∀ r, hR h3 x0 42 = some r → ∀ i : Nat, (i : Int) ≤ n → (hI h3 r i).toInt ≤ n := fun r er i hi => by
    rw [(fr_RI f3 r0 (by decide) (fun _ => rfl)).2.2] at er
    have rr' : ρ r = 97 := rr T (thR T r0 (i := 42) (k2 := 97) rfl (by decide)) er
    rw [(fr_RI f3 rr' (by decide) (fun _ => rfl)).1]
    exact O r er i hi
  have TX3 : TxA x0 h3 := fun r er k hk => by
    rw [w3] at er
    have hz := r_eq e1 (show hR h x0 41 = some r from er)
    subst hz
    rw [w3, r_I]
    by_cases z : 96 * k = ((96 : Int32) * (hI h x0 44)).toNatClampNeg
    · rw [if_pos ⟨rfl, z⟩]
      exact nar95 ⟨io.1, ou⟩
    · rw [if_neg (fun y => z y.2)]
      exact TX r er k hk
  obtain ⟨r4, e4, q4⟩ := thR T3 r0 (i := 2) (k2 := 83) rfl (by decide)
  refine s_ref e4 ?_
  obtain ⟨r5, e5, q5⟩ := thR T3 r0 (i := 41) (k2 := 96) rfl (by decide)
  refine s_ref e5 ?_
  rw [e44, e3]
  have e1' : (1 : Int32).toInt = 1 := rfl
  have ea : (((96 : Int32) * (hI h x0 44)) + (1 : Int32)).toInt = 96 * n + 1 := by rw [ta (by rw [em, e1']; omega), em, e1']
  have ia : Rg 0 287905 (((96 : Int32) * (hI h x0 44)) + (1 : Int32)) := ⟨by omega, by omega⟩
  have ca := clamp_i ia.1
  have io2 : Rg 0 87 (hI h x0 3) := ⟨io.1, ou⟩
  have co := clamp_i io2.1
  refine s_gd (by decide) (s_gd (rg_nneg ia (by decide)) (s_gd (rg_nneg io2 (by decide)) ?_))
  refine s_gd (g_len (rg_b rfl : Rg (0) (0) ((0 : Int32))) io2 (thN T3 q4 (k := 83) (n := 256) rfl (by decide)) (by decide)) ?_
  refine s_gd (g_len ia io2 (thN T3 q5 (k := 96) (n := 288000) rfl (by decide)) (by decide)) ?_
  refine s_gd (fun i _ => fits_b (rg_m (thI T3 q4 (k := 83) (lo := (-128)) (hi := (127)) rfl) (by decide))) ?_
  refine s_hq (th_cpI T3 q4 q5 (k0 := 83) (k := 96) (lo0 := (-128)) (hi0 := (127)) (lo := (-128)) (hi := (127)) (fun _ => rfl) (fun _ => rfl) (by decide) (by decide) (by decide) (fun _ => (pm_a hA rfl))) (fun h12 T12 w12 => ?_)
  have f12 := fr1C (c := c) (A := [(96, 999)]) q5 rfl w12
  have E12 := fbe_fr T3 r0 f12 fB96Y.1 fB96Y.2.1 E3
  have FP12 := fbp_frY T3 r0 f12 fB96Y FP3
  have O12 : ∀ r, hR h12 x0 42 = some r → ∀ i : Nat, (i : Int) ≤ n → (hI h12 r i).toInt ≤ n := fun r er i hi => by
    rw [(fr_RI f12 r0 (by decide) (fun _ => rfl)).2.2] at er
    have rr' : ρ r = 97 := rr T3 (thR T3 r0 (i := 42) (k2 := 97) rfl (by decide)) er
    rw [(fr_RI f12 rr' (by decide) (fun _ => rfl)).1]
    exact O3 r er i hi
  have TX12 : TxA x0 h12 := fun r er k hk => by
    rw [w12] at er
    have er' : hR h3 x0 41 = some r := er
    have hz := r_eq e5 er'
    subst hz
    rw [w12, cp_at, if_neg (fun y => by have := y.2.1; have := y.2.2; omega)]
    exact TX3 r er' k hk
  have e44' : hI h12 x0 44 = hI h x0 44 := by rw [(fr_RI f12 r0 (by decide) (fun _ => rfl)).1]; exact e44
  rw [e44']
  have es : ((hI h x0 44) + (1 : Int32)).toInt = n + 1 := by rw [ta (by rw [en, e1']; omega), en, e1']
  refine s_hq (th_wI T12 r0 (k := 16) (lo := 0) (hi := 3000) rfl ⟨by omega, by omega⟩ (by decide) (by decide) (pm_a hA rfl)) (fun h13 T13 w13 => ?_)
  have f13 := fr1I (c := c) (A := [(16, 44)]) r0 rfl w13
  have n13 : (hI h13 x0 44).toInt = n + 1 := by rw [he_s w13]; exact es
  refine fd_280Y hA T13 r0 i1 i5 ⟨fun r er i hi => ?_, ?_, fbp_frY T12 r0 f13 fB44Y FP12, tx_fr T12 r0 f13 ⟨fun _ => rfl, fun _ _ => rfl⟩ TX12⟩
  · rw [n13] at hi ⊢
    rw [(fr_RI f13 r0 (by decide) (fun _ => rfl)).2.2] at er
    have rr' : ρ r = 97 := rr T12 (thR T12 r0 (i := 42) (k2 := 97) rfl (by decide)) er
    rw [(fr_RI f13 rr' (by decide) (fun _ => rfl)).1]
    have := O12 r er i (by omega)
    omega
  · rw [n13]
    exact fbe_fr T12 r0 f13 fB44Y.1 fB44Y.2.1 E12
end
