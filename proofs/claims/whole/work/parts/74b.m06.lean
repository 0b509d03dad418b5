section
/-! the boards that the search backwards has found -/
def Fb (x0 i b : Nat) (h : Hp) : Prop := ∃ r, hR h x0 40 = some r ∧ hR h r i = some b
def OrP (x0 : Nat) (h : Hp) : Prop := ∀ r, hR h x0 42 = some r → ∀ i : Nat, (i : Int) < (hI h x0 44).toInt → (hI h r i).toInt < (hI h x0 44).toInt
def FbE (x0 : Nat) (n : Int) (h : Hp) : Prop := ∀ k : Nat, (k : Int) < n → ∃ b, Fb x0 k b h
def FbP (x0 : Nat) (h : Hp) : Prop := ∀ k b, Fb x0 k b h → PE b h
def TxA (x0 : Nat) (h : Hp) : Prop := ∀ r, hR h x0 41 = some r → ∀ k : Nat, k < 3000 → (hI h r (96 * k)).toInt ≤ 95
def FdP (x0 : Nat) (h : Hp) : Prop := OrP x0 h ∧ FbE x0 (hI h x0 44).toInt h ∧ FbP x0 h ∧ TxA x0 h
/-- what leaves the found boards alone -/
def fdB (S : Nat → Nat → Nat → Bool) : Prop := (∀ w, S 16 w 40 = false) ∧ (∀ w i, S 95 w i = false) ∧ ∀ j, S 13 (11000 + j) 0 = false ∧ S 13 (11000 + j) 3 = false ∧ S 13 (11000 + j) 4 = false ∧ (∀ i, S 62 (11000 + j) i = false) ∧ ∀ i, S 63 (11000 + j) i = false
def fdO (S : Nat → Nat → Nat → Bool) : Prop := (∀ w, S 16 w 42 = false) ∧ ∀ w i, S 97 w i = false
def fdT (S : Nat → Nat → Nat → Bool) : Prop := (∀ w, S 16 w 41 = false) ∧ ∀ w i, S 96 w i = false
section
variable {ρ : Nat → Nat} {c : Cm} {h o : Hp} {S : Nat → Nat → Nat → Bool} {x0 b i F : Nat} {n : Int}
theorem fbo_r (T : TH ρ c h) (r0 : ρ x0 = 16) (B : Fb x0 i b h) : ρ b = 13 ∧ cw c b = 11000 + i := by
  obtain ⟨r, e1, e2⟩ := B
  obtain ⟨q1, f1, g1⟩ := thR T r0 (i := 40) (k2 := 95) rfl (by decide)
  have h1 : ρ r = 95 := by rw [r_eq f1 e1]; exact g1
  exact ⟨thRn T h1 (k2 := 13) rfl (by decide) e2, th_id T h1 (w := 11000 + i) e2 rfl (by omega)⟩
theorem fbo_fr (T : TH ρ c h) (r0 : ρ x0 = 16) (f : Fr ρ (cat c S h) h o) (s1 : ∀ w, S 16 w 40 = false) (s2 : ∀ w, S 95 w i = false) : Fb x0 i b h ↔ Fb x0 i b o := by
  obtain ⟨q1, f1, g1⟩ := thR T r0 (i := 40) (k2 := 95) rfl (by decide)
  have a1 := (fr_RI f r0 (by decide) s1 : hI o x0 40 = _ ∧ _).2.2
  have a2 := (fr_RI f g1 (by decide) s2 : hI o q1 i = _ ∧ _).2.2
  constructor
  · rintro ⟨r, e1, e2⟩
    have : r = q1 := r_eq f1 e1
    subst this
    exact ⟨r, by rw [a1]; exact e1, by rw [a2]; exact e2⟩
  · rintro ⟨r, e1, e2⟩
    rw [a1] at e1
    have : r = q1 := r_eq f1 e1
    subst this
    rw [a2] at e2
    exact ⟨r, e1, e2⟩
theorem fbp_fr (T : TH ρ c h) (r0 : ρ x0 = 16) (f : Fr ρ (cat c S h) h o) (s : fdB S) (P : FbP x0 h) : FbP x0 o := fun k b B => by
  have B0 := (fbo_fr T r0 f s.1 (fun w => s.2.1 w k)).mpr B
  obtain ⟨k1, k2⟩ := fbo_r T r0 B0
  obtain ⟨a1, a2, a3, a4, a5⟩ := s.2.2 k
  exact pe_fr T k1 f (by rw [k2]; exact a1) (by rw [k2]; exact a2) (by rw [k2]; exact a3) (fun i => by rw [k2]; exact a4 i) (fun i => by rw [k2]; exact a5 i) (P k b B0)
theorem fbe_fr (T : TH ρ c h) (r0 : ρ x0 = 16) (f : Fr ρ (cat c S h) h o) (s1 : ∀ w, S 16 w 40 = false) (s2 : ∀ w i, S 95 w i = false) (P : FbE x0 n h) : FbE x0 n o := fun k hk => by
  obtain ⟨b, B⟩ := P k hk
  exact ⟨b, (fbo_fr T r0 f s1 (fun w => s2 w k)).mp B⟩
theorem tx_fr (T : TH ρ c h) (r0 : ρ x0 = 16) (f : Fr ρ (cat c S h) h o) (s : fdT S) (P : TxA x0 h) : TxA x0 o := fun r er k hk => by
  rw [(fr_RI f r0 (by decide) s.1).2.2] at er
  have rr' : ρ r = 96 := rr T (thR T r0 (i := 41) (k2 := 96) rfl (by decide)) er
  rw [(fr_RI f rr' (by decide) (fun w => s.2 w _)).1]
  exact P r er k hk
theorem or_fr (T : TH ρ c h) (r0 : ρ x0 = 16) (f : Fr ρ (cat c S h) h o) (s : fdO S) (s4 : ∀ w, S 16 w 44 = false) (P : OrP x0 h) : OrP x0 o := fun r er i hi => by
  rw [(fr_RI f r0 (by decide) s.1).2.2] at er
  rw [(fr_RI f r0 (by decide) s4).1] at hi ⊢
  have rr' : ρ r = 97 := rr T (thR T r0 (i := 42) (k2 := 97) rfl (by decide)) er
  rw [(fr_RI f rr' (by decide) (fun w => s.2 w _)).1]
  exact P r er i hi
theorem fd_fr (T : TH ρ c h) (r0 : ρ x0 = 16) (f : Fr ρ (cat c S h) h o) (s : fdB S) (s2 : fdO S) (s3 : fdT S) (s4 : ∀ w, S 16 w 44 = false) (P : FdP x0 h) : FdP x0 o :=
  ⟨or_fr T r0 f s2 s4 P.1, by rw [(fr_RI f r0 (by decide) s4).1]; exact fbe_fr T r0 f s.1 s.2.1 P.2.1, fbp_fr T r0 f s P.2.2.1, tx_fr T r0 f s3 P.2.2.2⟩
end
def fdL : List (Nat × Nat) := [(83, 999), (98, 999), (96, 999), (97, 999), (95, 999), (16, 3), (16, 44)]
def fdW : Nat → Bool := fun w => decide (11000 ≤ w) && decide (w ≤ 13999)
theorem fdW_t {j : Nat} (h : j ≤ 2999) : fdW (11000 + j) = true := by
  unfold fdW
  rw [decide_eq_true (show 11000 ≤ 11000 + j by omega), decide_eq_true (show 11000 + j ≤ 13999 by omega)]
  rfl
section
variable {ρ : Nat → Nat} {c : Cm} {h o : Hp} {S : Nat → Nat → Nat → Bool} {x0 b g i F : Nat} {n : Int} {x1 x2 x3 x4 x5 x6 : Int32}
theorem fB83 : fdB (fS [(83, 999), (16, 3)] []) := ⟨fun _ => rfl, fun _ _ => rfl, fun _ => ⟨rfl, rfl, rfl, fun _ => rfl, fun _ => rfl⟩⟩
theorem fB97 : fdB (fS [(97, 999)] []) := ⟨fun _ => rfl, fun _ _ => rfl, fun _ => ⟨rfl, rfl, rfl, fun _ => rfl, fun _ => rfl⟩⟩
theorem fB96 : fdB (fS [(96, 999)] []) := ⟨fun _ => rfl, fun _ _ => rfl, fun _ => ⟨rfl, rfl, rfl, fun _ => rfl, fun _ => rfl⟩⟩
theorem fB98 : fdB (fS [(98, 999)] []) := ⟨fun _ => rfl, fun _ _ => rfl, fun _ => ⟨rfl, rfl, rfl, fun _ => rfl, fun _ => rfl⟩⟩
theorem fB44 : fdB (fS [(16, 44)] []) := ⟨fun _ => rfl, fun _ _ => rfl, fun _ => ⟨rfl, rfl, rfl, fun _ => rfl, fun _ => rfl⟩⟩
/-- the text is put back -/
theorem fd_280 (hA : pmA c fdL) (T : TH ρ c h) (r0 : ρ x0 = 16) (i1 : Rg 0 256 x1) (i5 : Rg 0 1 x5) (P : FdP x0 h) : Sat (sX15_findsRoom_280 F h x0 x1 x5) (fun o => TH ρ c o.2 ∧ Rg 0 1 o.1 ∧ FdP x0 o.2) := by
  unfold sX15_findsRoom_280 sX15_findsRoom_294
  obtain ⟨r1, e1, q1⟩ := thR T r0 (i := 43) (k2 := 98) rfl (by decide)
  refine s_ref e1 ?_
  obtain ⟨r2, e2, q2⟩ := thR T r0 (i := 2) (k2 := 83) rfl (by decide)
  refine s_ref e2 ?_
  refine s_gd (by decide) (s_gd (by decide) (s_gd (rg_nneg i1 (by decide)) ?_))
  refine s_gd (g_len (rg_b rfl : Rg (0) (0) ((0 : Int32))) i1 (thN T q1 (k := 98) (n := 256) rfl (by decide)) (by decide)) ?_
  refine s_gd (g_len (rg_b rfl : Rg (0) (0) ((0 : Int32))) i1 (thN T q2 (k := 83) (n := 256) rfl (by decide)) (by decide)) ?_
  refine s_gd (fun i _ => fits_b (rg_m (thI T q1 (k := 98) (lo := (-128)) (hi := (127)) rfl) (by decide))) ?_
  refine s_hq (th_cpI T q1 q2 (k0 := 98) (k := 83) (lo0 := (-128)) (hi0 := (127)) (lo := (-128)) (hi := (127)) (fun _ => rfl) (fun _ => rfl) (by decide) (by decide) (by decide) (fun _ => (pm_a hA rfl))) (fun h9 T9 e9 => ?_)
  have P9 := fd_fr T r0 (fr1C (A := [(83, 999)]) q2 rfl e9) ⟨fun _ => rfl, fun _ _ => rfl, fun _ => ⟨rfl, rfl, rfl, fun _ => rfl, fun _ => rfl⟩⟩ ⟨fun _ => rfl, fun _ _ => rfl⟩ ⟨fun _ => rfl, fun _ _ => rfl⟩ (fun _ => rfl) P
  refine s_hq (th_wI T9 r0 (k := 16) (lo := (0)) (hi := (256)) rfl i1 (by decide) (by decide) (pm_a hA rfl)) (fun h10 T10 e10 => ?_)
  have P10 := fd_fr T9 r0 (fr1I (A := [(16, 3)]) r0 rfl e10) ⟨fun _ => rfl, fun _ _ => rfl, fun _ => ⟨rfl, rfl, rfl, fun _ => rfl, fun _ => rfl⟩⟩ ⟨fun _ => rfl, fun _ _ => rfl⟩ ⟨fun _ => rfl, fun _ _ => rfl⟩ (fun _ => rfl) P9
  exact s_gd (rg_bool i5) (s_some ⟨T10, i5, P10⟩)
theorem nar95 {x : Int32} (i : Rg 0 87 x) : (vp_nar .byte (x.toInt8.toInt32)).toInt ≤ 95 := by
  obtain ⟨j, ej, tj, hj⟩ := rg_nI i (Int.le_refl 0)
  have j64 : j < 88 := by have := i.2; omega
  have all : ∀ j : Fin 88, (vp_nar .byte ((nI j.val).toInt8.toInt32)).toInt ≤ 95 := by decide +kernel
  rw [ej]
  exact all ⟨j, j64⟩
/-- the text of what was found is kept -/
theorem fd_228 (hA : pmA c fdL) (T : TH ρ c h) (r0 : ρ x0 = 16) (i1 : Rg 0 256 x1) (i5 : Rg 0 1 x5) (en : (hI h x0 44).toInt = n) (l0 : 0 ≤ n) (ln : n < 3000) (ou : (hI h x0 3).toInt ≤ 87) (O : ∀ r, hR h x0 42 = some r → ∀ i : Nat, (i : Int) ≤ n → (hI h r i).toInt ≤ n) (E : FbE x0 (n + 1) h) (FP : FbP x0 h) (TX : TxA x0 h) : Sat (sX15_findsRoom_228 F h x0 x1 x5) (fun o => TH ρ c o.2 ∧ Rg 0 1 o.1 ∧ FdP x0 o.2) := by
  unfold sX15_findsRoom_228 sX15_findsRoom_270
  have in4 : Rg 0 2999 (hI h x0 44) := ⟨by omega, by omega⟩
  have e96 : (96 : Int32).toInt = 96 := rfl
  have em : ((96 : Int32) * (hI h x0 44)).toInt = 96 * n := by rw [tm (by rw [e96]; omega), e96, en]
  have im : Rg 0 287904 ((96 : Int32) * (hI h x0 44)) := ⟨by omega, by omega⟩
  have cm := clamp_i im.1
  obtain ⟨r1, e1, q1⟩ := thR T r0 (i := 41) (k2 := 96) rfl (by decide)
  refine s_ref e1 ?_
  refine s_gd (by rw [thN T q1 (k := 96) (n := 288000) rfl (by decide)]; exact rg_inB im (by decide)) ?_
  have io := thI T r0 (k := 16) (i := 3) (lo := 0) (hi := 256) rfl
  refine s_hq (th_wI T q1 (k := 96) (lo := -128) (hi := 127) rfl (rg_narb (rg_y _) (by decide)) (by decide) (by decide) (pm_a hA rfl)) (fun h3 T3 w3 => ?_)
  have f3 := fr1I (c := c) (A := [(96, 999)]) q1 rfl w3
  have e44 : hI h3 x0 44 = hI h x0 44 := (fr_RI f3 r0 (by decide) (fun _ => rfl)).1
  have e3 : hI h3 x0 3 = hI h x0 3 := (fr_RI f3 r0 (by decide) (fun _ => rfl)).1
  have E3 := fbe_fr T r0 f3 fB96.1 fB96.2.1 E
  have FP3 := fbp_fr T r0 f3 fB96 FP
  have O3 : ∀ r, hR h3 x0 42 = some r → ∀ i : Nat, (i : Int) ≤ n → (hI h3 r i).toInt ≤ n := fun r er i hi => by
    rw [(fr_RI f3 r0 (by decide) (fun _ => rfl)).2.2] at er
    have rr' : ρ r = 97 := rr T (thR T r0 (i := 42) (k2 := 97) rfl (by decide)) er
    rw [(fr_RI f3 rr' (by decide) (fun _ => rfl)).1]
    exact O r er i hi
  have TX3 : TxA x0 h3 := fun r er k hk => by
    rw [w3] at er
    have hz := r_eq e1 (show hR h x0 41 = some r from er)
    subst hz
    rw [w3, r_I]
    by_cases z : 96 * k = ((96 : Int32) * (hI h x0 44)).toNatClampNeg
    · rw [if_pos ⟨rfl, z⟩]
      exact nar95 ⟨io.1, ou⟩
    · rw [if_neg (fun y => z y.2)]
      exact TX r er k hk
  obtain ⟨r4, e4, q4⟩ := thR T3 r0 (i := 2) (k2 := 83) rfl (by decide)
  refine s_ref e4 ?_
  obtain ⟨r5, e5, q5⟩ := thR T3 r0 (i := 41) (k2 := 96) rfl (by decide)
  refine s_ref e5 ?_
  rw [e44, e3]
  have e1' : (1 : Int32).toInt = 1 := rfl
  have ea : (((96 : Int32) * (hI h x0 44)) + (1 : Int32)).toInt = 96 * n + 1 := by rw [ta (by rw [em, e1']; omega), em, e1']
  have ia : Rg 0 287905 (((96 : Int32) * (hI h x0 44)) + (1 : Int32)) := ⟨by omega, by omega⟩
  have ca := clamp_i ia.1
  have io2 : Rg 0 87 (hI h x0 3) := ⟨io.1, ou⟩
  have co := clamp_i io2.1
  refine s_gd (by decide) (s_gd (rg_nneg ia (by decide)) (s_gd (rg_nneg io2 (by decide)) ?_))
  refine s_gd (g_len (rg_b rfl : Rg (0) (0) ((0 : Int32))) io2 (thN T3 q4 (k := 83) (n := 256) rfl (by decide)) (by decide)) ?_
  refine s_gd (g_len ia io2 (thN T3 q5 (k := 96) (n := 288000) rfl (by decide)) (by decide)) ?_
  refine s_gd (fun i _ => fits_b (rg_m (thI T3 q4 (k := 83) (lo := (-128)) (hi := (127)) rfl) (by decide))) ?_
  refine s_hq (th_cpI T3 q4 q5 (k0 := 83) (k := 96) (lo0 := (-128)) (hi0 := (127)) (lo := (-128)) (hi := (127)) (fun _ => rfl) (fun _ => rfl) (by decide) (by decide) (by decide) (fun _ => (pm_a hA rfl))) (fun h12 T12 w12 => ?_)
  have f12 := fr1C (c := c) (A := [(96, 999)]) q5 rfl w12
  have E12 := fbe_fr T3 r0 f12 fB96.1 fB96.2.1 E3
  have FP12 := fbp_fr T3 r0 f12 fB96 FP3
  have O12 : ∀ r, hR h12 x0 42 = some r → ∀ i : Nat, (i : Int) ≤ n → (hI h12 r i).toInt ≤ n := fun r er i hi => by
    rw [(fr_RI f12 r0 (by decide) (fun _ => rfl)).2.2] at er
    have rr' : ρ r = 97 := rr T3 (thR T3 r0 (i := 42) (k2 := 97) rfl (by decide)) er
    rw [(fr_RI f12 rr' (by decide) (fun _ => rfl)).1]
    exact O3 r er i hi
  have TX12 : TxA x0 h12 := fun r er k hk => by
    rw [w12] at er
    have er' : hR h3 x0 41 = some r := er
    have hz := r_eq e5 er'
    subst hz
    rw [w12, cp_at, if_neg (fun y => by have := y.2.1; have := y.2.2; omega)]
    exact TX3 r er' k hk
  have e44' : hI h12 x0 44 = hI h x0 44 := by rw [(fr_RI f12 r0 (by decide) (fun _ => rfl)).1]; exact e44
  rw [e44']
  have es : ((hI h x0 44) + (1 : Int32)).toInt = n + 1 := by rw [ta (by rw [en, e1']; omega), en, e1']
  refine s_hq (th_wI T12 r0 (k := 16) (lo := 0) (hi := 3000) rfl ⟨by omega, by omega⟩ (by decide) (by decide) (pm_a hA rfl)) (fun h13 T13 w13 => ?_)
  have f13 := fr1I (c := c) (A := [(16, 44)]) r0 rfl w13
  have n13 : (hI h13 x0 44).toInt = n + 1 := by rw [he_s w13]; exact es
  refine fd_280 hA T13 r0 i1 i5 ⟨fun r er i hi => ?_, ?_, fbp_fr T12 r0 f13 fB44 FP12, tx_fr T12 r0 f13 ⟨fun _ => rfl, fun _ _ => rfl⟩ TX12⟩
  · rw [n13] at hi ⊢
    rw [(fr_RI f13 r0 (by decide) (fun _ => rfl)).2.2] at er
    have rr' : ρ r = 97 := rr T12 (thR T12 r0 (i := 42) (k2 := 97) rfl (by decide)) er
    rw [(fr_RI f13 rr' (by decide) (fun _ => rfl)).1]
    have := O12 r er i (by omega)
    omega
  · rw [n13]
    exact fbe_fr T12 r0 f13 fB44.1 fB44.2.1 E12
end
end
section
theorem s_mk1 {ρ : Nat → Nat} {c : Cm} {h h2 : Hp} {S : Nat → Nat → Nat → Bool} {β : Type} {Q : β → Prop} {P : Hp → Prop} {k : Hp → Option β} (T : TH ρ c h) (hs : ∀ k w i, S k w i = true → cPm c k w i = true) {ρ' : Nat → Nat} {c' : Cm} (X : Ext ρ (cat c S h) ρ' c') (T2 : TH ρ' c' h2) (p : P h2) (H : ∀ ρ1 c1, Ext ρ c ρ1 c1 → TH ρ1 c1 h2 → Fr ρ (cat c S h) h h2 → P h2 → Sat (k h2) Q) : Sat (k h2) Q := by
  show Sat (cl (some h2) k) Q
  refine s_mk (g := fun (o : Hp) => o) (P := fun (o : Hp) (_ : Nat → Nat) (_ : Cm) => o = h2 ∧ P o) T hs (s_some ⟨ρ', c', X, T2, rfl, p⟩) (fun _ _ _ _ _ p => p) (fun o ρ1 c1 X T1 f p => ?_)
  obtain ⟨e, p⟩ := p
  subst e
  exact H ρ1 c1 X T1 f p
section
variable {ρ : Nat → Nat} {c : Cm} {h o : Hp} {x0 b g i F : Nat} {n : Int} {x1 x2 x3 x4 x5 x6 : Int32}
/-- the board that the next find goes to: made where it is wanting -/
theorem s_found {Q : Int32 × Hp → Prop} {k : Nat} {t : Int32} (hA : pmA c [(95, 999)]) (T : TH ρ c h) (r0 : ρ x0 = 16) (i4 : Rg 0 2999 (hI h x0 44)) (ek : (hI h x0 44).toNatClampNeg = k) (FP : FbP x0 h) (H : ∀ g ρ1 c1 b, Ext ρ c ρ1 c1 → TH ρ1 c1 g → Fr ρ (cat c (fS [(95, 999)] []) h) h g → FbP x0 g → Fb x0 k b g → (∀ j b, Fb x0 j b h → Fb x0 j b g) → Sat (sX15_findsRoom_168 F g x0 x1 x2 t) Q) : Sat (cl (hR h x0 40) fun r_3 => gd (inB (hI h x0 44) (hN h r_3)) <| onr (hR h r_3 (hI h x0 44).toNatClampNeg) (cl (hR h x0 40) fun r_7 => nm (hS h) fun a_8 => nm (nC h 12 0 8) fun h_9 => sX15_findsRoom_163 F h_9 x0 x1 x2 t a_8 (hI h x0 44) r_7) (fun r_5 => sX15_findsRoom_168 F h x0 x1 x2 t)) Q := by
  subst ek
  have iv : Rg 0 2999 (hI h x0 44) := i4
  obtain ⟨r, er, qr⟩ := thR T r0 (i := 40) (k2 := 95) rfl (by decide)
  refine s_ref er ?_
  refine s_gd (by rw [thN T qr (k := 95) (n := 3000) rfl (by decide)]; exact rg_inB iv (by decide)) ?_
  refine s_onr (fun q => ?_) (fun r5 q => H h ρ c r5 ex_0 T ⟨fun _ _ _ _ => ⟨rfl, rfl, rfl⟩, fun _ _ => rfl⟩ FP ⟨r, er, q⟩ (fun _ _ B => B))
  refine s_ref er ?_
  refine s_q (fun a ea => ?_)
  refine s_q (fun h8 e8 => ?_)
  subst ea
  subst e8
  unfold sX15_findsRoom_163 sX15_findsRoom_167
  have T' : TH ρ (cat c (fS [(95, 999)] []) h) h := th_in _ T
  have t1 : h.1 = (cat c (fS [(95, 999)] []) h).1 := T'.1.1
  obtain ⟨o1, eo1, ρ1, c1, X1, T1, a1, w1, O1⟩ := newBoard T' (11000 + (hI h x0 44).toNatClampNeg)
  refine s_val eo1 ?_
  have ob : o1 = boH h := by rw [boH_v] at eo1; exact (Option.some.inj eo1).symm
  have z3 : hI o1 (hS h) 3 = 0 := by rw [ob]; exact boH_I h 0 3 (by decide)
  have r01 := ex_r X1 r0 (by decide)
  have qr1 := ex_r X1 qr (by decide)
  have lt : ∀ a, ρ a ≠ 0 → a < h.1.1 := fun a ha => by rw [t1]; exact T'.2.1.2.2.1 a ha
  have lt0 : x0 < h.1.1 := lt x0 (by rw [r0]; decide)
  have ltr : r < h.1.1 := lt r (by rw [qr]; decide)
  have er1 : hR o1 x0 40 = some r := by rw [(O1 x0 lt0).2.2.1]; exact er
  refine s_gd (by rw [thN T1 qr1 (k := 95) (n := 3000) rfl (by decide)]; exact rg_inB iv (by decide)) ?_
  refine s_q (fun h2 e2 => ?_)
  have T2 : TH ρ1 c1 h2 := by
    rw [e2]
    exact th_wRe T1 qr1 (k2 := 13) rfl (by decide) a1 (by decide) (by decide) rfl rfl rfl w1 (ex_p X1 (fs_a _ _ _ rfl))
  have er2 : hR h2 x0 40 = some r := by rw [e2, r_R, if_neg (ne_r r01 qr1 (by decide))]; exact er1
  have ee : hR h2 r (hI h x0 44).toNatClampNeg = some (hS h) := by rw [e2, r_R, if_pos ⟨rfl, rfl⟩]
  have kp : ∀ j b, Fb x0 j b h → Fb x0 j b h2 := fun j b ⟨r', g1, g2⟩ => by
    have : r' = r := r_eq er g1
    subst this
    have z : j ≠ (hI h x0 44).toNatClampNeg := fun z => by rw [z, q] at g2; exact absurd g2 (by simp)
    exact ⟨r', er2, by rw [e2, r_R, if_neg (fun y => z y.2), (O1 r' ltr).2.2.1]; exact g2⟩
  have FP2 : FbP x0 h2 := fun j b B => by
    obtain ⟨r', g1, g2⟩ := B
    have : r' = r := r_eq er2 g1
    subst this
    by_cases z : j = (hI h x0 44).toNatClampNeg
    · rw [z, ee] at g2
      rw [← Option.some.inj g2]
      exact pe_0 (by rw [e2]; show (hI o1 (hS h) 3).toInt = 0; rw [z3]; rfl)
    · rw [e2, r_R, if_neg (fun y => z y.2), (O1 r' ltr).2.2.1] at g2
      have P := FP j b ⟨r', er, g2⟩
      have rb := thRn T qr (k2 := 13) rfl (by decide) g2
      have ltb := lt b (by rw [rb]; decide)
      intro M Pa m1 m2 k k1 k2
      have x1' : hR h2 b 0 = hR h b 0 := by rw [e2, r_R, if_neg (ne_r (ex_r X1 rb (by decide)) qr1 (by decide)), (O1 b ltb).2.2.1]
      have x2' : hR h2 b 4 = hR h b 4 := by rw [e2, r_R, if_neg (ne_r (ex_r X1 rb (by decide)) qr1 (by decide)), (O1 b ltb).2.2.1]
      rw [x1'] at m1
      rw [x2'] at m2
      obtain ⟨M', f1, s1⟩ := thR T rb (i := 0) (k2 := 62) rfl (by decide)
      obtain ⟨P', f2, s2⟩ := thR T rb (i := 4) (k2 := 63) rfl (by decide)
      have ltM := lt M (by rw [r_eq f1 m1, s1]; decide)
      have ltP := lt Pa (by rw [r_eq f2 m2, s2]; decide)
      have i3 : hI h2 b 3 = hI h b 3 := by rw [e2]; exact (O1 b ltb).1 3
      have iP : hI h2 Pa k = hI h Pa k := by rw [e2]; exact (O1 Pa ltP).1 k
      have iM : ∀ n, hI h2 M n = hI h M n := fun n => by rw [e2]; exact (O1 M ltM).1 n
      rw [i3] at k2
      rw [iP, iM]
      exact P M Pa m1 m2 k k1 k2
  exact s_mk1 (k := fun g => sX15_findsRoom_168 F g x0 x1 x2 t) (P := fun o => FbP x0 o ∧ Fb x0 (hI h x0 44).toNatClampNeg (hS h) o ∧ ∀ j b, Fb x0 j b h → Fb x0 j b o) T (fs_sub hA fs_n) X1 T2 ⟨FP2, ⟨r, er2, ee⟩, kp⟩ (fun ρ1 c1 X T1 f p => H h2 ρ1 c1 (hS h) X T1 f p.1 p.2.1 p.2.2)
end
end
section
section
variable {ρ : Nat → Nat} {c : Cm} {h o : Hp} {x0 b g i F : Nat} {n : Int} {x1 x2 x3 x4 x5 x6 : Int32}
/-- what holds while a find is put in its place -/
def FS (x0 g : Nat) (n : Int) (h : Hp) : Prop := (hI h x0 44).toInt = n ∧ FbE x0 (n + 1) h ∧ FbP x0 h ∧ TxA x0 h ∧ hR h x0 45 = some g ∧ PE g h ∧ (hI h x0 3).toInt ≤ 87
theorem fs_97 (T : TH ρ c h) (r0 : ρ x0 = 16) (f : Fr ρ (cat c (fS [(97, 999)] []) h) h o) (P : FS x0 g n h) : FS x0 g n o := by
  obtain ⟨p1, p2, p3, p4, p5, p6, p7⟩ := P
  have rg : ρ g = 13 := rr T (thR T r0 (i := 45) (k2 := 13) rfl (by decide)) p5
  refine ⟨?_, fbe_fr T r0 f fB97.1 fB97.2.1 p2, fbp_fr T r0 f fB97 p3, tx_fr T r0 f ⟨fun _ => rfl, fun _ _ => rfl⟩ p4, ?_, pe_fr T rg f rfl rfl rfl (fun _ => rfl) (fun _ => rfl) p6, ?_⟩
  · rw [(fr_RI f r0 (by decide) (fun _ => rfl)).1]; exact p1
  · rw [(fr_RI f r0 (by decide) (fun _ => rfl)).2.2]; exact p5
  · rw [(fr_RI f r0 (by decide) (fun _ => rfl)).1]; exact p7
theorem fd_174 (hF : 700000 ≤ F) (hA : pmA c fdL) (hW : ∀ j, j ≤ 2999 → pmO c (11000 + j) bpL) (r0 : ρ x0 = 16) (i1 : Rg 0 256 x1) (i5 : Rg 0 1 x5) (l0 : 0 ≤ n) (ln : n < 3000) (a2 : 0 ≤ x2.toInt) : ∀ (f : Nat) {h : Hp} {x6 : Int32}, TH ρ c h → FS x0 g n h → x2.toInt ≤ x6.toInt → x6.toInt ≤ n → (∀ r, hR h x0 42 = some r → ∀ i : Nat, (i : Int) ≤ n → (i : Int) ≠ x6.toInt → (hI h r i).toInt < n) → x6.toInt.toNat < f → Sat (sX15_findsRoom_174 F f h x0 x1 x2 x5 x6) (fun o => TH ρ c o.2 ∧ Rg 0 1 o.1 ∧ FdP x0 o.2) := by
  intro f
  induction f with
  | zero => intros; omega
  | succ f ih =>
    intro h x6 T P a6 b6 O hf
    rw [sX15_findsRoom_174]
    obtain ⟨p1, p2, p3, p4, p5, p6, p7⟩ := P
    have i6 : Rg 0 2999 x6 := ⟨by omega, by omega⟩
    have i2 : Rg 0 2999 x2 := ⟨by omega, by omega⟩
    have in4 : Rg 0 2999 (hI h x0 44) := ⟨by omega, by omega⟩
    have c6 := clamp_i i6.1
    have c2 := clamp_i i2.1
    have c4 := clamp_i in4.1
    obtain ⟨r, er, qr⟩ := thR T r0 (i := 42) (k2 := 97) rfl (by decide)
    refine s_br (fun l1 => ?_) (fun n1 => ?_)
    · have l6 := le_i l1
      refine s_ref er ?_
      refine s_gd (by rw [thN T qr (k := 97) (n := 3000) rfl (by decide)]; exact rg_inB i2 (by decide)) ?_
      refine s_hq (th_wI T qr (k := 97) (lo := 0) (hi := 2999) rfl in4 (by decide) (by decide) (pm_a hA rfl)) (fun h4 T4 w4 => ?_)
      have f4 := fr1I (c := c) (A := [(97, 999)]) qr rfl w4
      obtain ⟨p1', p2', p3', p4', p5', p6', p7'⟩ := fs_97 T r0 f4 ⟨p1, p2, p3, p4, p5, p6, p7⟩
      have O4 : ∀ r, hR h4 x0 42 = some r → ∀ i : Nat, (i : Int) ≤ n → (hI h4 r i).toInt ≤ n := fun r' er' i hi => by
        rw [w4] at er'
        have hz := r_eq er (show hR h x0 42 = some r' from er')
        subst hz
        rw [w4, r_I]
        by_cases z : i = x2.toNatClampNeg
        · rw [if_pos ⟨rfl, z⟩]; omega
        · rw [if_neg (fun y => z y.2)]
          have := O r' er i hi (by omega)
          omega
      have in4' : Rg 0 2999 (hI h4 x0 44) := ⟨by omega, by omega⟩
      have c4' := clamp_i in4'.1
      have le29 : (hI h4 x0 44).toNatClampNeg ≤ 2999 := by omega
      have lt1 : ((hI h4 x0 44).toNatClampNeg : Int) < n + 1 := by omega
      obtain ⟨r5, e5, q5⟩ := thR T4 r0 (i := 40) (k2 := 95) rfl (by decide)
      refine s_ref e5 ?_
      refine s_gd (by rw [thN T4 q5 (k := 95) (n := 3000) rfl (by decide)]; exact rg_inB in4' (by decide)) ?_
      obtain ⟨b, B⟩ := p2' (hI h4 x0 44).toNatClampNeg lt1
      obtain ⟨rb, wb⟩ := fbo_r T4 r0 B
      have B' := B
      obtain ⟨r', s1, s2⟩ := B
      have hz := r_eq e5 s1
      subst hz
      refine s_ref s2 ?_
      refine s_ref p5' ?_
      have rg : ρ g = 13 := rr T4 (thR T4 r0 (i := 45) (k2 := 13) rfl (by decide)) p5'
      have wg : cw c g = 2545 := kid_w T4 r0 (i := 45) rfl (by decide) p5'
      refine s_cVfq (S := fS [] [(11000 + (hI h4 x0 44).toNatClampNeg, bpL)]) T4 (fs_sub pmA_n (fs_c (hW _ le29) fs_n)) (s_weq (zX12_copy hF (pmO_s (fs_o (.head _)) rfl) wb wg (th_in _ T4) rb rg)) (fun o9 T9 f9 e9 => ?_)
      have z9 : ∀ k i w, mS bpL k i = false → fS [] [(11000 + (hI h4 x0 44).toNatClampNeg, bpL)] k w i = false := fun k i w m => fs_cf (Or.inl m) (by unfold fS; rfl)
      have P9 := pe_copy T4 rb rg p6' e9
      refine fd_228 (n := n) hA T9 r0 i1 i5 ?_ l0 ln ?_ ?_ ?_ ?_ ?_
      · rw [(fr_RI f9 r0 (by decide) (fun w => z9 _ _ w rfl)).1]; exact p1'
      · rw [(fr_RI f9 r0 (by decide) (fun w => z9 _ _ w rfl)).1]; exact p7'
      · intro r'' er'' i hi
        rw [(fr_RI f9 r0 (by decide) (fun w => z9 _ _ w rfl)).2.2] at er''
        have rr' : ρ r'' = 97 := rr T4 (thR T4 r0 (i := 42) (k2 := 97) rfl (by decide)) er''
        rw [(fr_RI f9 rr' (by decide) (fun w => z9 _ _ w rfl)).1]
        exact O4 r'' er'' i hi
      · exact fbe_fr T4 r0 f9 (fun w => z9 _ _ w rfl) (fun w i => z9 _ _ w rfl) p2'
      · intro k b2 B2
        have B0 := (fbo_fr T4 r0 f9 (fun w => z9 _ _ w rfl) (fun w => z9 _ _ w rfl)).mpr B2
        by_cases z : k = (hI h4 x0 44).toNatClampNeg
        · subst z
          obtain ⟨ra, t1, t2⟩ := B0
          obtain ⟨rc, t3, t4⟩ := B'
          rw [r_eq t3 t1] at t2
          rw [r_eq t4 t2]; exact P9
        · obtain ⟨k1, k2⟩ := fbo_r T4 r0 B0
          have y : ∀ kk ii, fS [] [(11000 + (hI h4 x0 44).toNatClampNeg, bpL)] kk (cw c b2) ii = false := fun kk ii => fs_cf (Or.inr (by rw [k2]; exact fun q => z (Nat.add_left_cancel q))) (by unfold fS; rfl)
          exact pe_fr T4 k1 f9 (y _ _) (y _ _) (y _ _) (fun _ => y _ _) (fun _ => y _ _) (p3' k b2 B0)
      · exact tx_fr T4 r0 f9 ⟨fun w => z9 _ _ w rfl, fun w i => z9 _ _ w rfl⟩ p4'
    · have l6 := nle_i n1
      refine s_ref er ?_
      refine s_ref er ?_
      have ed := rg_decs i6 (by decide)
      have id : Rg 0 2999 (x6 - (1 : Int32)) := ⟨by omega, by omega⟩
      have cd := clamp_i id.1
      refine s_gd (by rw [thN T qr (k := 97) (n := 3000) rfl (by decide)]; exact rg_inB id (by decide)) ?_
      refine s_gd (by rw [thN T qr (k := 97) (n := 3000) rfl (by decide)]; exact rg_inB i6 (by decide)) ?_
      refine s_hq (th_wI T qr (k := 97) (lo := 0) (hi := 2999) rfl (thI T qr (k := 97) (lo := 0) (hi := 2999) rfl) (by decide) (by decide) (pm_a hA rfl)) (fun h4 T4 w4 => ?_)
      have f4 := fr1I (c := c) (A := [(97, 999)]) qr rfl w4
      refine s_q (fun v ev => ?_)
      have ev2 : v.toInt = x6.toInt - 1 := by rw [ev]; exact rg_dec i6 (by decide)
      clear ev
      refine ih T4 (fs_97 T r0 f4 ⟨p1, p2, p3, p4, p5, p6, p7⟩) (by omega) (by omega) (fun r' er' i hi ni => ?_) (by omega)
      rw [w4] at er'
      have hz := r_eq er (show hR h x0 42 = some r' from er')
      subst hz
      rw [w4, r_I]
      by_cases z : i = x6.toNatClampNeg
      · rw [if_pos ⟨rfl, z⟩]
        exact O r' er _ (by omega) (by omega)
      · rw [if_neg (fun y => z y.2)]
        exact O r' er i hi (by omega)
end
end
section
section
variable {ρ : Nat → Nat} {c : Cm} {h o : Hp} {x0 b g i F s : Nat} {n : Int} {x1 x2 x3 x4 x5 x6 : Int32}
theorem cRt_0 : ∀ n, cRt 0 n = 0 := by
  intro n
  induction n with
  | zero => rfl
  | succ n ih =>
    have z : bitJ 0 n = false := by unfold bitJ; simp
    show cRt 0 n + (if bitJ 0 n then 1 else 0) = 0
    rw [ih, z]; rfl
theorem sH_z {H d : Nat} (p : ∀ j, j < 24 → (hI h H j).toInt ≤ 0) (hd : d ≤ 1) : ∀ n, n ≤ 12 → sH h H d n ≤ 0 := by
  intro n
  induction n with
  | zero => intro _; exact Int.le_refl _
  | succ n ih =>
    intro hn
    have a := ih (by omega)
    have b := p (2 * n + d) (by omega)
    show sH h H d n + _ ≤ 0
    omega
/-- what holds before a find is put in its place -/
def FR (x0 g : Nat) (n : Int) (h : Hp) : Prop := (hI h x0 44).toInt = n ∧ FdP x0 h ∧ hR h x0 45 = some g ∧ PE g h ∧ (hI h x0 3).toInt ≤ 87
theorem fd_128 {t0 : Int32} (hF : 700000 ≤ F) (hA : pmA c fdL) (hW : ∀ j, j ≤ 2999 → pmO c (11000 + j) bpL) (T : TH ρ c h) (r0 : ρ x0 = 16) (i1 : Rg 0 256 x1) (i0 : Rg 0 1 t0) (P : FR x0 g n h) (a2 : 0 ≤ x2.toInt) (b2 : x2.toInt ≤ n) (hn : x4 = 0 → ¬ t0 = 0 → n < 3000) : Sat (sX15_findsRoom_128 F h x0 x1 x2 x4 t0) (MkI ρ c 0 1 (FdP x0)) := by
  unfold sX15_findsRoom_128
  obtain ⟨p1, p2, p3, p4, p5⟩ := P
  have ex : Sat (sX15_findsRoom_280 F h x0 x1 t0) (MkI ρ c 0 1 (FdP x0)) := s_imp (fd_280 hA T r0 i1 i0 p2) (fun o ⟨a, b, d⟩ => ⟨ρ, c, ex_0, a, b, d⟩)
  refine s_br (fun z4 => s_br (fun _ => ex) (fun nz => ?_)) (fun _ => ex)
  have ln := hn z4 nz
  have i4 : Rg 0 2999 (hI h x0 44) := ⟨by omega, by omega⟩
  have c4 := clamp_i i4.1
  refine s_found (pmA_s hA rfl) T r0 i4 rfl p2.2.2.1 (fun o ρ1 c1 b X T1 f FP B kp => ?_)
  unfold sX15_findsRoom_168
  have r1 := ex_r X r0 (by decide)
  have rg : ρ g = 13 := rr T (thR T r0 (i := 45) (k2 := 13) rfl (by decide)) p3
  have e44 : hI o x0 44 = hI h x0 44 := (fr_RI f r0 (by decide) (fun _ => rfl)).1
  have E1 : FbE x0 (n + 1) o := fun k hk => by
    by_cases z : k = (hI h x0 44).toNatClampNeg
    · exact ⟨b, by rw [z]; exact B⟩
    · obtain ⟨b', B'⟩ := p2.2.1 k (by omega)
      exact ⟨b', kp k b' B'⟩
  have S1 : FS x0 g n o := ⟨by rw [e44]; exact p1, E1, FP, tx_fr T r0 f ⟨fun _ => rfl, fun _ _ => rfl⟩ p2.2.2.2, by rw [(fr_RI f r0 (by decide) (fun _ => rfl)).2.2]; exact p3, pe_fr T rg f rfl rfl rfl (fun _ => rfl) (fun _ => rfl) p4, by rw [(fr_RI f r0 (by decide) (fun _ => rfl)).1]; exact p5⟩
  refine s_q (fun v ev => ?_)
  have ev2 : v.toInt = n := by rw [ev, e44]; exact p1
  clear ev
  have O1 := or_fr T r0 f ⟨fun _ => rfl, fun _ _ => rfl⟩ (fun _ => rfl) p2.1
  have n1 : (hI o x0 44).toInt = n := S1.1
  refine s_imp (fd_174 hF (fun w k i m => ex_p X (hA w k i m)) (fun j hj k i m => ex_p X (hW j hj k i m)) r1 i1 i0 (by omega) ln a2 F T1 S1 (by omega) (by omega) (fun r er i hi ni => ?_) (by omega)) (fun q ⟨a, b, d⟩ => ⟨ρ1, c1, X, a, b, d⟩)
  have := O1 r er i (by omega)
  omega
theorem fd_108 (hF : 700000 ≤ F) (hA : pmA c fdL) (hW : ∀ j, j ≤ 2999 → pmO c (11000 + j) bpL) (T : TH ρ c h) (r0 : ρ x0 = 16) (i1 : Rg 0 256 x1) (P : FR x0 g n h) (a2 : 0 ≤ x2.toInt) (b2 : x2.toInt ≤ n) : Sat (sX15_findsRoom_108 F h x0 x1 x2 x4) (MkI ρ c 0 1 (FdP x0)) := by
  unfold sX15_findsRoom_108 sX15_findsRoom_123
  have p1 := P.1
  refine s_br (fun _ => s_br (fun _ => ?_) (fun n1 => ?_)) (fun n4 => ?_)
  · exact fd_128 hF hA hW T r0 i1 (rg_b rfl) P a2 b2 (fun _ z => absurd rfl z)
  · have l3 : (hI h x0 44).toInt < 3000 := nle_i n1
    exact fd_128 hF hA hW T r0 i1 (rg_b rfl) P a2 b2 (fun _ _ => by omega)
  · exact fd_128 hF hA hW T r0 i1 (rg_b rfl) P a2 b2 (fun z _ => absurd z n4)
theorem fd_42 (hF : 700000 ≤ F) (hA : pmA c fdL) (hW : ∀ j, j ≤ 2999 → pmO c (11000 + j) bpL) (T : TH ρ c h) (r0 : ρ x0 = 16) (i1 : Rg 0 256 x1) (P : FR x0 g n h) : ∀ (f : Nat) {x2 x3 x4 : Int32}, 0 ≤ x2.toInt → x2.toInt ≤ x3.toInt → x3.toInt ≤ n → 0 < f → (x4 = 0 → (x3.toInt - x2.toInt).toNat + 1 < f) → Sat (sX15_findsRoom_42 F f h x0 x1 x2 x3 x4) (MkI ρ c 0 1 (FdP x0)) := by
  intro f
  induction f with
  | zero => intros; omega
  | succ f ih =>
    intro x2 x3 x4 a2 b2 b3 _ hf
    rw [sX15_findsRoom_42]
    unfold sX15_findsRoom_70 sX15_findsRoom_82 sX15_findsRoom_105
    have ex : Sat (sX15_findsRoom_108 F h x0 x1 x2 x4) (MkI ρ c 0 1 (FdP x0)) := fd_108 hF hA hW T r0 i1 P a2 (by omega)
    have in4 := thI T r0 (k := 16) (i := 44) (lo := 0) (hi := 3000) rfl
    have p1 := P.1
    have n3 : n ≤ 3000 := by have := in4.2; omega
    refine s_br (fun _ => ex) (fun n1 => ?_)
    have l3 := nle_i n1
    refine s_br (fun z4 => ?_) (fun _ => ex)
    have hf' := hf z4
    refine s_q (fun v ev => ?_)
    have i23 : Rg 0 6000 (x2 + x3) := ⟨by rw [ta ⟨by omega, by omega⟩]; omega, by rw [ta ⟨by omega, by omega⟩]; omega⟩
    have e23 : (x2 + x3).toInt = x2.toInt + x3.toInt := ta ⟨by omega, by omega⟩
    have ev2 : v.toInt = (x2.toInt + x3.toInt) / 2 := by
      rw [ev, td i23 (rg_b rfl : Rg 2 2 (2 : Int32)) (by decide), e23]; rfl
    clear ev
    have iv : Rg 0 2999 v := ⟨by omega, by omega⟩
    obtain ⟨r, er, qr⟩ := thR T r0 (i := 42) (k2 := 97) rfl (by decide)
    refine s_ref er ?_
    refine s_gd (by rw [thN T qr (k := 97) (n := 3000) rfl (by decide)]; exact rg_inB iv (by decide)) ?_
    have ik := thI T qr (k := 97) (i := v.toNatClampNeg) (lo := 0) (hi := 2999) rfl
    have tl : TxL x0 (hI h r v.toNatClampNeg) h := fun r' er' => by
      have ck := clamp_i ik.1
      have e96 : (96 : Int32).toInt = 96 := rfl
      have em : ((96 : Int32) * (hI h r v.toNatClampNeg)).toInt = 96 * (hI h r v.toNatClampNeg).toInt := by rw [tm (by rw [e96]; have := ik.1; have := ik.2; omega), e96]
      have cm := clamp_i (v := (96 : Int32) * (hI h r v.toNatClampNeg)) (by rw [em]; have := ik.1; omega)
      have en : ((96 : Int32) * (hI h r v.toNatClampNeg)).toNatClampNeg = 96 * (hI h r v.toNatClampNeg).toNatClampNeg := by omega
      rw [en]
      exact P.2.1.2.2.2 r' er' _ (by have := ik.2; omega)
    refine s_cI0 (zX15_compare hF T r0 ik tl) (fun o6 e6 j6 => ?_)
    rw [show o6.2 = h from e6]
    have go : ∀ {t : Int32}, (t = 0 → ¬ o6.1 = 0) → Sat (br (0 ≤ o6.1) (br (o6.1 ≤ 0) (sX15_findsRoom_42 F f h x0 x1 x2 x3 t) (nm (v + (1 : Int32)) fun v_3 => sX15_findsRoom_42 F f h x0 x1 v_3 x3 t)) (sX15_findsRoom_42 F f h x0 x1 x2 v t)) (MkI ρ c 0 1 (FdP x0)) := fun {t} ht => by
      refine s_br (fun g1 => s_br (fun g2 => ?_) (fun g2 => ?_)) (fun g1 => ?_)
      · have q1 : 0 ≤ o6.1.toInt := le_i g1
        have q2 : o6.1.toInt ≤ 0 := le_i g2
        have q0 : o6.1 = 0 := Int32.toInt_inj.mp (by show o6.1.toInt = 0; omega)
        exact ih a2 b2 b3 (by omega) (fun z => absurd q0 (ht z))
      · refine s_q (fun y ey => ?_)
        have ey2 : y.toInt = v.toInt + 1 := by rw [ey]; exact (nc_s iv (by decide)).2
        clear ey
        exact ih (by omega) (by omega) b3 (by omega) (fun z => by omega)
      · exact ih a2 (by omega) (by omega) (by omega) (fun z => by omega)
    exact s_br (fun _ => go (fun z => absurd z (by decide))) (fun nz => go (fun _ => nz))
/-- a guess: no rights, no passes, nobody in hand -/
def GZ (x0 g : Nat) (h : Hp) : Prop := hR h x0 45 = some g ∧ hJ h g 2 = 0 ∧ hI h g 3 = 0 ∧ ∀ H, hR h g 5 = some H → ∀ j : Nat, j < 24 → (hI h H j).toInt ≤ 0
theorem zX15_findsRoom (hF : 700000 ≤ F) (hA : pmA c fdL) (hW : ∀ j, j ≤ 2999 → pmO c (11000 + j) bpL) (T : TH ρ c h) (r0 : ρ x0 = 16) (P : FdP x0 h) (G : GZ x0 g h) : Sat (sX15_findsRoom F h x0) (MkI ρ c 0 1 (FdP x0)) := by
  unfold sX15_findsRoom sX15_findsRoom_19 sX15_findsRoom_32
  refine s_q (fun v ev => ?_)
  have iv : Rg 0 256 v := by rw [ev]; exact thI T r0 (k := 16) (i := 3) (lo := 0) (hi := 256) rfl
  clear ev
  obtain ⟨r2, e2, q2⟩ := thR T r0 (i := 2) (k2 := 83) rfl (by decide)
  refine s_ref e2 ?_
  obtain ⟨r1, e1, q1⟩ := thR T r0 (i := 43) (k2 := 98) rfl (by decide)
  refine s_ref e1 ?_
  refine s_gd (by decide) (s_gd (by decide) (s_gd (rg_nneg iv (by decide)) ?_))
  refine s_gd (g_len (rg_b rfl : Rg (0) (0) ((0 : Int32))) iv (thN T q2 (k := 83) (n := 256) rfl (by decide)) (by decide)) ?_
  refine s_gd (g_len (rg_b rfl : Rg (0) (0) ((0 : Int32))) iv (thN T q1 (k := 98) (n := 256) rfl (by decide)) (by decide)) ?_
  refine s_gd (fun i _ => fits_b (rg_m (thI T q2 (k := 83) (lo := (-128)) (hi := (127)) rfl) (by decide))) ?_
  refine s_hq (th_cpI T q2 q1 (k0 := 83) (k := 98) (lo0 := (-128)) (hi0 := (127)) (lo := (-128)) (hi := (127)) (fun _ => rfl) (fun _ => rfl) (by decide) (by decide) (by decide) (fun _ => (pm_a hA rfl))) (fun h3 T3 w3 => ?_)
  have f3 := fr1C (c := c) (A := [(98, 999)]) q1 rfl w3
  refine s_hq (th_wI T3 r0 (k := 16) (lo := (0)) (hi := (256)) rfl (rg_b rfl) (by decide) (by decide) (pm_a hA rfl)) (fun h4 T4 w4 => ?_)
  have f4 := fr1I (c := c) (A := [(16, 3)]) r0 rfl w4
  obtain ⟨g1, g2, g3, g4⟩ := G
  have rg : ρ g = 13 := rr T (thR T r0 (i := 45) (k2 := 13) rfl (by decide)) g1
  have P3 := fd_fr T r0 f3 fB98 ⟨fun _ => rfl, fun _ _ => rfl⟩ ⟨fun _ => rfl, fun _ _ => rfl⟩ (fun _ => rfl) P
  have P4 := fd_fr T3 r0 f4 ⟨fun _ => rfl, fun _ _ => rfl, fun _ => ⟨rfl, rfl, rfl, fun _ => rfl, fun _ => rfl⟩⟩ ⟨fun _ => rfl, fun _ _ => rfl⟩ ⟨fun _ => rfl, fun _ _ => rfl⟩ (fun _ => rfl) P3
  have g1' : hR h4 x0 45 = some g := by rw [(fr_RI f4 r0 (by decide) (fun _ => rfl)).2.2, (fr_RI f3 r0 (by decide) (fun _ => rfl)).2.2]; exact g1
  have g2' : hJ h4 g 2 = 0 := by rw [(fr_RI f4 rg (by decide) (fun _ => rfl)).2.1, (fr_RI f3 rg (by decide) (fun _ => rfl)).2.1]; exact g2
  have g3' : hI h4 g 3 = 0 := by rw [(fr_RI f4 rg (by decide) (fun _ => rfl)).1, (fr_RI f3 rg (by decide) (fun _ => rfl)).1]; exact g3
  have g4' : ∀ H, hR h4 g 5 = some H → ∀ j : Nat, j < 24 → (hI h4 H j).toInt ≤ 0 := fun H eH j hj => by
    rw [(fr_RI f4 rg (by decide) (fun _ => rfl)).2.2, (fr_RI f3 rg (by decide) (fun _ => rfl)).2.2] at eH
    have rH : ρ H = 64 := rr T (thR T rg (i := 5) (k2 := 64) rfl (by decide)) eH
    rw [(fr_RI f4 rH (by decide) (fun _ => rfl)).1, (fr_RI f3 rH (by decide) (fun _ => rfl)).1]
    exact g4 H eH j hj
  refine s_ref g1' ?_
  obtain ⟨H, eH, qH⟩ := thR T4 rg (i := 5) (k2 := 64) rfl (by decide)
  have z0 := sH_z (g4' H eH) (Nat.zero_le 1) 12 (Nat.le_refl _)
  have z1 := sH_z (g4' H eH) (Nat.le_refl 1) 12 (Nat.le_refl _)
  have o0 : (hI h4 x0 3).toInt = 0 := by rw [he_s w4]; rfl
  have zz : (0 : Int32).toInt = 0 := rfl
  refine s_cVfq (S := wrF) (P := fun o => (hI o x0 3).toInt ≤ 87) T4 (fs_sub (pmA_s hA rfl) fs_n) (zX15_writeAll (s := 64) (v := 87) hF fs_a (th_in _ T4) r0 rg (by decide) (by rw [o0]; decide) (Nat.le_refl _) (thI T4 r0 (k := 16) (i := 13) (lo := 9) (hi := 64) rfl).2 eH (by rw [o0, g2', g3', cRt_0, zz]; omega)) (fun o5 T5 f5 u5 => ?_)
  have P5 := fd_fr T4 r0 f5 fB83 ⟨fun _ => rfl, fun _ _ => rfl⟩ ⟨fun _ => rfl, fun _ _ => rfl⟩ (fun _ => rfl) P4
  have R5 : FR x0 g (hI o5 x0 44).toInt o5 := ⟨rfl, P5, by rw [(fr_RI f5 r0 (by decide) (fun _ => rfl)).2.2]; exact g1', pe_0 (by rw [(fr_RI f5 rg (by decide) (fun _ => rfl)).1, g3']; rfl), u5⟩
  have i44 := thI T5 r0 (k := 16) (i := 44) (lo := 0) (hi := 3000) rfl
  refine s_q (fun y ey => ?_)
  have ey2 : y.toInt = (hI o5 x0 44).toInt := by rw [ey]
  clear ey
  exact fd_42 hF hA hW T5 r0 iv R5 F (by decide) (by rw [zz, ey2]; exact i44.1) (by omega) (by omega) (fun _ => by rw [zz]; have := i44.2; omega)
end
end
section
/-! guesses of the search backwards -/
def gsL : List (Nat × Nat) := [(83, 999), (98, 999), (96, 999), (97, 999), (95, 999), (16, 3), (16, 44), (86, 999), (87, 999), (88, 999), (89, 999), (16, 23), (16, 24), (16, 29)]
/-- what a guess may write -/
def GPm (c : Cm) : Prop := pmA c gsL ∧ pmO c 2528 bpL ∧ pmO c 2530 mpL ∧ pmO c 2532 bpL ∧ pmO c 2545 bpL ∧ ∀ j, j ≤ 2999 → pmO c (11000 + j) bpL
theorem gp_x {ρ ρ1 : Nat → Nat} {c c1 : Cm} (X : Ext ρ c ρ1 c1) (P : GPm c) : GPm c1 :=
  ⟨fun w k i m => ex_p X (P.1 w k i m), fun k i m => ex_p X (P.2.1 k i m), fun k i m => ex_p X (P.2.2.1 k i m), fun k i m => ex_p X (P.2.2.2.1 k i m), fun k i m => ex_p X (P.2.2.2.2.1 k i m), fun j hj k i m => ex_p X (P.2.2.2.2.2 j hj k i m)⟩
def KS (S : Nat → Nat → Nat → Bool) : Prop := fdB S ∧ fdO S ∧ fdT S ∧ (∀ w, S 16 w 44 = false) ∧ (∀ w, S 16 w 4 = false) ∧ (∀ w, S 15 w 15 = false) ∧ (∀ w, S 16 w 11 = false) ∧ (∀ w, S 16 w 12 = false) ∧ (∀ w, S 16 w 13 = false) ∧ ∀ w, S 16 w 45 = false
theorem ks_c {A : List (Nat × Nat)} {L : List (Nat × List (Nat × Nat))} {B : List (Nat × Nat)} {t : Nat} (hB : ∀ k i, (k = 16 ∨ k = 15 ∨ k = 95 ∨ k = 96 ∨ k = 97) → mS B k i = false) (ht : t < 11000) (P : KS (fS A L)) : KS (fS A ((t, B) :: L)) := by
  obtain ⟨⟨a1, a2, a3⟩, ⟨b1, b2⟩, ⟨c1, c2⟩, d1, d2, d3, d4, d5, d6, d7⟩ := P
  refine ⟨⟨fun w => fs_cf (Or.inl (hB _ _ (by omega))) (a1 w), fun w i => fs_cf (Or.inl (hB _ _ (by omega))) (a2 w i), fun j => ?_⟩, ⟨fun w => fs_cf (Or.inl (hB _ _ (by omega))) (b1 w), fun w i => fs_cf (Or.inl (hB _ _ (by omega))) (b2 w i)⟩, ⟨fun w => fs_cf (Or.inl (hB _ _ (by omega))) (c1 w), fun w i => fs_cf (Or.inl (hB _ _ (by omega))) (c2 w i)⟩, fun w => fs_cf (Or.inl (hB _ _ (by omega))) (d1 w), fun w => fs_cf (Or.inl (hB _ _ (by omega))) (d2 w), fun w => fs_cf (Or.inl (hB _ _ (by omega))) (d3 w), fun w => fs_cf (Or.inl (hB _ _ (by omega))) (d4 w), fun w => fs_cf (Or.inl (hB _ _ (by omega))) (d5 w), fun w => fs_cf (Or.inl (hB _ _ (by omega))) (d6 w), fun w => fs_cf (Or.inl (hB _ _ (by omega))) (d7 w)⟩
  obtain ⟨e1, e2, e3, e4, e5⟩ := a3 j
  have n : ¬ 11000 + j = t := by omega
  exact ⟨fs_cf (Or.inr n) e1, fs_cf (Or.inr n) e2, fs_cf (Or.inr n) e3, fun i => fs_cf (Or.inr n) (e4 i), fun i => fs_cf (Or.inr n) (e5 i)⟩
theorem mS_no {B : List (Nat × Nat)} {k i : Nat} (h : ∀ p ∈ B, p.1 ≠ k) : mS B k i = false := by
  induction B with
  | nil => rfl
  | cons p B ih =>
    show ((p.1 == k && (p.2 == 999 || p.2 == i)) || mS B k i) = false
    rw [bq_ne (h p (.head _)), ih (fun q m => h q (.tail _ m))]; rfl
theorem bp_no : ∀ k i, (k = 16 ∨ k = 15 ∨ k = 95 ∨ k = 96 ∨ k = 97) → mS bpL k i = false := fun k i hk => mS_no (fun p hp => by
  have : p.1 < 66 := by
    have all : bpL.all (fun p => decide (p.1 < 66)) = true := rfl
    exact of_decide_eq_true (List.all_eq_true.mp all p hp)
  have : p.1 ≠ 16 ∧ p.1 ≠ 15 := by
    have all : bpL.all (fun p => decide (p.1 ≠ 16 ∧ p.1 ≠ 15)) = true := rfl
    exact of_decide_eq_true (List.all_eq_true.mp all p hp)
  omega)
theorem mp_no : ∀ k i, (k = 16 ∨ k = 15 ∨ k = 95 ∨ k = 96 ∨ k = 97) → mS mpL k i = false := fun k i hk => mS_no (fun p hp => by
  have : p.1 < 73 := by
    have all : mpL.all (fun p => decide (p.1 < 73)) = true := rfl
    exact of_decide_eq_true (List.all_eq_true.mp all p hp)
  have : p.1 ≠ 16 ∧ p.1 ≠ 15 := by
    have all : mpL.all (fun p => decide (p.1 ≠ 16 ∧ p.1 ≠ 15)) = true := rfl
    exact of_decide_eq_true (List.all_eq_true.mp all p hp)
  omega)
theorem ks_n0 : KS (fS [] []) := ⟨⟨fun _ => rfl, fun _ _ => rfl, fun _ => ⟨rfl, rfl, rfl, fun _ => rfl, fun _ => rfl⟩⟩, ⟨fun _ => rfl, fun _ _ => rfl⟩, ⟨fun _ => rfl, fun _ _ => rfl⟩, fun _ => rfl, fun _ => rfl, fun _ => rfl, fun _ => rfl, fun _ => rfl, fun _ => rfl, fun _ => rfl⟩
theorem ks_45 : KS (fS [] [(2545, bpL)]) := ks_c bp_no (by decide) ks_n0
abbrev mcL : List (Nat × Nat) := [(87, 999), (88, 999), (89, 999), (16, 23), (16, 24)]
theorem ks_mc : KS (fS mcL []) := ⟨⟨fun _ => rfl, fun _ _ => rfl, fun _ => ⟨rfl, rfl, rfl, fun _ => rfl, fun _ => rfl⟩⟩, ⟨fun _ => rfl, fun _ _ => rfl⟩, ⟨fun _ => rfl, fun _ _ => rfl⟩, fun _ => rfl, fun _ => rfl, fun _ => rfl, fun _ => rfl, fun _ => rfl, fun _ => rfl, fun _ => rfl⟩
abbrev ldL : List (Nat × Nat) := [(86, 999), (87, 999), (88, 999), (89, 999), (16, 23), (16, 24), (16, 29)]
abbrev ldS : Nat → Nat → Nat → Bool := fS ldL [(2528, bpL), (2530, mpL), (2532, bpL)]
theorem ks_ld0 : KS (fS ldL []) := ⟨⟨fun _ => rfl, fun _ _ => rfl, fun _ => ⟨rfl, rfl, rfl, fun _ => rfl, fun _ => rfl⟩⟩, ⟨fun _ => rfl, fun _ _ => rfl⟩, ⟨fun _ => rfl, fun _ _ => rfl⟩, fun _ => rfl, fun _ => rfl, fun _ => rfl, fun _ => rfl, fun _ => rfl, fun _ => rfl, fun _ => rfl⟩
theorem ks_ld : KS ldS := ks_c bp_no (by decide) (ks_c mp_no (by decide) (ks_c bp_no (by decide) ks_ld0))
abbrev frS : Nat → Nat → Nat → Bool := fun k w i => mS fdL k i || (mS bpL k i && fdW w)
theorem frs_p {c : Cm} (P : GPm c) : ∀ k w i, frS k w i = true → cPm c k w i = true := fun k w i m => by
  have m' : (mS fdL k i || (mS bpL k i && fdW w)) = true := m
  rw [Bool.or_eq_true, Bool.and_eq_true] at m'
  rcases m' with a | ⟨a, b⟩
  · exact (pmA_s P.1 rfl : pmA c fdL) w k i a
  · unfold fdW at b
    rw [Bool.and_eq_true, decide_eq_true_eq, decide_eq_true_eq] at b
    have e : w = 11000 + (w - 11000) := by omega
    rw [e]
    exact P.2.2.2.2.2 (w - 11000) (by omega) k i a
/-- what holds through the search -/
def GI (x0 : Nat) (h : Hp) : Prop := SqOk x0 h ∧ FdP x0 h ∧ ∃ r, hR h x0 4 = some r ∧ hI h r 15 = 0
def GBd (x0 g : Nat) (h : Hp) : Prop := hR h x0 45 = some g ∧ hJ h g 2 = 0 ∧ hI h g 3 = 0
section
variable {ρ : Nat → Nat} {c : Cm} {h o : Hp} {S : Nat → Nat → Nat → Bool} {x0 b g w i F : Nat} {n : Int} {x1 x2 x3 x4 x5 x6 : Int32}
theorem gi_fr (T : TH ρ c h) (r0 : ρ x0 = 16) (f : Fr ρ (cat c S h) h o) (s : KS S) (P : GI x0 h) : GI x0 o := by
  obtain ⟨s1, s2, s3, s4, s5, s6, s7, s8, s9, s10⟩ := s
  obtain ⟨p1, p2, r, p3, p4⟩ := P
  refine ⟨sq_fr T r0 f s7 s8 s9 p1, fd_fr T r0 f s1 s2 s3 s4 p2, r, ?_, ?_⟩
  · rw [(fr_RI f r0 (by decide) s5).2.2]; exact p3
  · rw [(fr_RI f (rr T (thR T r0 (i := 4) (k2 := 15) rfl (by decide)) p3) (by decide) s6).1]; exact p4
theorem g45_r (T : TH ρ c h) (r0 : ρ x0 = 16) (e : hR h x0 45 = some g) : ρ g = 13 ∧ cw c g = 2545 := ⟨rr T (thR T r0 (i := 45) (k2 := 13) rfl (by decide)) e, kid_w T r0 (i := 45) rfl (by decide) e⟩
theorem gbd_fr (T : TH ρ c h) (r0 : ρ x0 = 16) (f : Fr ρ (cat c S h) h o) (s : ∀ w, S 16 w 45 = false) (s2 : S 13 2545 2 = false) (s3 : S 13 2545 3 = false) (P : GBd x0 g h) : GBd x0 g o := by
  obtain ⟨p1, p2, p3⟩ := P
  obtain ⟨rg, wg⟩ := g45_r T r0 p1
  refine ⟨?_, ?_, ?_⟩
  · rw [(fr_RI f r0 (by decide) s).2.2]; exact p1
  · have := (f.1 g 2 (by rw [rg]; decide) (by rw [rg]; show S 13 (cw c g) 2 = false; rw [wg]; exact s2)).2.1
    rw [this]; exact p2
  · rw [fr_I f rg (by decide) wg s3]; exact p3
theorem val_r (i1 : Rg 0 11 x1) (i2 : Rg 0 1 x2) : Rg 1 24 (((1 : Int32) + ((2 : Int32) * x1)) + x2) := by
  have e2 : (2 : Int32).toInt = 2 := rfl
  have e1 : (1 : Int32).toInt = 1 := rfl
  have e4 : ((2 : Int32) * x1).toInt = 2 * x1.toInt := by rw [tm (by rw [e2]; have := i1.1; have := i1.2; omega), e2]
  have e6 : ((1 : Int32) + ((2 : Int32) * x1)).toInt = 1 + 2 * x1.toInt := by rw [ta (by rw [e4, e1]; have := i1.1; have := i1.2; omega), e4, e1]
  have e7 : (((1 : Int32) + ((2 : Int32) * x1)) + x2).toInt = 1 + 2 * x1.toInt + x2.toInt := by rw [ta (by rw [e6]; have := i1.1; have := i1.2; have := i2.1; have := i2.2; omega), e6]
  exact ⟨by rw [e7]; have := i1.1; have := i2.1; omega, by rw [e7]; have := i1.2; have := i2.2; omega⟩
/-- from the men on: may he come, does it lead there, is there room -/
theorem gs_110 {k3 : Hp → Nat → Nat → Int32 → Int32 → Int32 → Int32 → Option (Int32 × Hp)} {t0 : Int32} {M : Nat} (hF : 700000 ≤ F) (P : GPm c) (T : TH ρ c h) (r0 : ρ x0 = 16) (rb : ρ b = 13) (i2 : Rg 0 63 x2) (i3 : Rg 0 63 x3) (i5 : Rg 0 12 x5) (I : GI x0 h) (B : GBd x0 g h) (eM : hR h g 0 = some M) (it : Rg 1 24 t0)
    (K : ∀ o ρ1 c1 y, Ext ρ c ρ1 c1 → TH ρ1 c1 o → GI x0 o → y.toInt = x5.toInt + 1 → Sat (k3 o x0 b x2 x3 x4 y) (MkI ρ1 c1 0 1 (GI x0))) : Sat (sX15_guesses_110 F k3 h x0 b x2 x3 x4 x5 t0 x3 M) (MkI ρ c 0 1 (GI x0)) := by
  unfold sX15_guesses_110 sX15_guesses_117 sX15_guesses_125 sX15_guesses_132
  obtain ⟨rg, wg⟩ := g45_r T r0 B.1
  have rM : ρ M = 62 := rr T (thR T rg (i := 0) (k2 := 62) rfl (by decide)) eM
  have wM : cw c M = 2545 := th_ih T rg (k := 13) rfl eM wg
  have stop : ∀ {o : Hp} {ρ1 : Nat → Nat} {c1 : Cm}, Ext ρ c ρ1 c1 → TH ρ1 c1 o → GI x0 o → Sat (sX15_guesses_137 F k3 o x0 b x2 x3 x4 x5) (MkI ρ c 0 1 (GI x0)) := fun {o ρ1 c1} X To Io => by
    unfold sX15_guesses_137
    refine s_q (fun y ey => ?_)
    have ey2 : y.toInt = x5.toInt + 1 := by rw [ey]; exact (nc_s i5 (by decide)).2
    clear ey
    exact mI_ext X (K o ρ1 c1 y X To Io ey2)
  refine s_gd (by rw [thN T rM (k := 62) (n := 64) rfl (by decide)]; exact rg_inB i3 (by decide)) ?_
  refine s_hq (th_wI T rM (k := 62) (lo := 0) (hi := 24) rfl (rg_m it (by decide)) (by decide) (by decide) (by rw [wM]; exact P.2.2.2.2.1 _ _ rfl)) (fun h2 T2 w2 => ?_)
  have f2 := fr1Io (c := c) (B := bpL) rM wM rfl w2
  have I2 := gi_fr T r0 f2 ks_45 I
  have B2 : GBd x0 g h2 := by
    obtain ⟨p1, p2, p3⟩ := B
    refine ⟨by rw [w2]; exact p1, by rw [w2]; exact p2, ?_⟩
    rw [w2, r_I, if_neg (ne_r rg rM (by decide))]; exact p3
  have gs : GsM x0 x3 h2 := fun b' m e1 e2 => by
    have hz := r_eq B2.1 e1
    subst hz
    have e2' : hR h b' 0 = some m := by rw [w2] at e2; exact e2
    have hz := r_eq eM e2'
    subst hz
    rw [he_s w2]
    exact it.1
  refine s_cIf T2 (fs_sub (pmA_s P.1 rfl) fs_n) (zX15_mayCome (c := cat c (fS mcL []) h2) hF fs_a (th_in _ T2) r0 i3 i2 gs) (fun o3 T3 i3' f3 => ?_)
  have I3 := gi_fr T2 r0 f3 ks_mc I2
  have B3 := gbd_fr T2 r0 f3 (fun _ => rfl) rfl rfl B2
  refine s_br (fun _ => stop ex_0 T3 I3) (fun _ => ?_)
  refine s_cIfq (P := fun o => sX15_leadsTo F o3.2 x0 b = some o) T3 (S := ldS) (fs_sub (pmA_s P.1 rfl) (fs_c P.2.1 (fs_c P.2.2.1 (fs_c P.2.2.2.1 fs_n)))) (s_weq (zX15_leadsTo hF fs_a (fs_o (.head _)) (fs_o (.tail _ (.head _))) (fs_o (.tail _ (.tail _ (.head _)))) rfl (th_in _ T3) r0 rb I3.1)) (fun o4 T4 i4 f4 e4 => ?_)
  have I4 := gi_fr T3 r0 f4 ks_ld I3
  have B4 := gbd_fr T3 r0 f4 (ks_ld.2.2.2.2.2.2.2.2.2) rfl rfl B3
  refine s_br (fun _ => stop ex_0 T4 I4) (fun nz => ?_)
  have hz3 := leads_hz hF T3 r0 e4 nz g B3.1
  obtain ⟨rg3, wg3⟩ := g45_r T3 r0 B3.1
  have hz4 := (hz_fr T3 r0 rg3 wg3 f4 ks_ld.2.2.2.2.1 ks_ld.2.2.2.2.2.1 rfl (fun _ => rfl)).mp hz3
  obtain ⟨r, er, e15⟩ := I4.2.2
  have G4 : GZ x0 g o4.2 := ⟨B4.1, B4.2.1, B4.2.2, fun H eH j hj => hz4 r H er e15 eH j hj⟩
  refine s_mI (S := frS) T4 (frs_p P) (zX15_findsRoom hF (fun w k i m => by show (mS fdL k i || (mS bpL k i && fdW w)) = true; rw [m]; rfl) (fun j hj k i m => by show (mS fdL k i || (mS bpL k i && fdW (11000 + j))) = true; rw [m, fdW_t hj, Bool.and_true, Bool.or_true]) (th_in _ T4) r0 I4.2.1 G4) (fun o5 ρ5 c5 X5 T5 f5 j5 P5 => ?_)
  have I5 : GI x0 o5.2 := ⟨sq_fr T4 r0 f5 (fun _ => rfl) (fun _ => rfl) (fun _ => rfl) I4.1, P5, r, by rw [(fr_RI f5 r0 (by decide) (fun _ => rfl)).2.2]; exact er, by rw [(fr_RI f5 (rr T4 (thR T4 r0 (i := 4) (k2 := 15) rfl (by decide)) er) (by decide) (fun _ => rfl)).1]; exact e15⟩
  exact s_br (fun _ => s_some ⟨ρ5, c5, X5, T5, rg_b rfl, I5⟩) (fun _ => stop X5 T5 I5)
end
end
section
section
variable {ρ : Nat → Nat} {c : Cm} {h o : Hp} {S : Nat → Nat → Nat → Bool} {x0 b g w i F : Nat} {n : Int} {x1 x2 x3 x4 x5 x6 : Int32}
theorem one_sub (i : Rg 0 1 x1) : Rg 0 1 ((1 : Int32) - x1) := rg_sub (rg_b rfl : Rg 1 1 (1 : Int32)) i (by decide)
theorem gs_3 (hF : 700000 ≤ F) : ∀ (f : Nat) {ρ : Nat → Nat} {c : Cm} {h : Hp} {x5 : Int32}, GPm c → TH ρ c h → ρ x0 = 16 → ρ b = 13 → cw c b = 3400 → Rg 0 63 x2 → Rg 0 63 x3 → Rg 0 11 x4 → GI x0 h → 0 ≤ x5.toInt → (14 - x5.toInt).toNat < f → Sat (sX15_guesses_3 F f h x0 b x2 x3 x4 x5) (MkI ρ c 0 1 (GI x0)) := by
  intro f
  induction f with
  | zero => intros; omega
  | succ f ih =>
    intro ρ c h x5 P T r0 rb wb i2 i3 i4 I a5 hf
    rw [sX15_guesses_3]
    obtain ⟨r1, e1, q1⟩ := thR T r0 (i := 4) (k2 := 15) rfl (by decide)
    refine s_ref e1 ?_
    have c12 := thI T q1 (k := 15) (i := 2) (lo := 0) (hi := 12) rfl
    refine s_br (fun _ => s_some ⟨ρ, c, ex_0, T, rg_b rfl, I⟩) (fun n1 => ?_)
    have z1 : (1 : Int32).toInt = 1 := rfl
    have l5 : x5.toInt < 1 + (hI h r1 2).toInt := by
      have := nle_i n1
      rw [ta (by rw [z1]; have := c12.1; have := c12.2; omega), z1] at this
      exact this
    have i5 : Rg 0 12 x5 := ⟨a5, by have := c12.2; omega⟩
    have b5 := i5.2
    clear n1
    obtain ⟨g, eg, _⟩ := thR T r0 (i := 45) (k2 := 13) rfl (by decide)
    obtain ⟨rg, wg⟩ := g45_r T r0 eg
    refine s_ref eg ?_
    refine s_cVf (S := fS [] [(2545, bpL)]) T (fs_sub pmA_n (fs_c P.2.2.2.2.1 fs_n)) (zX12_copy hF (pmO_s (fs_o (.head _)) rfl) wg wb (th_in _ T) rg rb) (fun o4 T4 f4 => ?_)
    have I4 := gi_fr T r0 f4 ks_45 I
    have eg4 : hR o4 x0 45 = some g := by rw [(fr_RI f4 r0 (by decide) ks_45.2.2.2.2.2.2.2.2.2).2.2]; exact eg
    have pg : ∀ i, mS bpL 13 i = true → cPm c 13 (cw c g) i = true := fun i m => by rw [wg]; exact P.2.2.2.2.1 _ _ m
    unfold sX15_guesses_25
    refine s_ref eg4 ?_
    refine s_hq (th_wJ T4 rg (by decide) (pg _ rfl)) (fun h5 T5 w5 => ?_)
    have f5 := fr1Jo (c := c) (B := bpL) rg wg rfl w5
    have I5 := gi_fr T4 r0 f5 ks_45 I4
    have eg5 : hR h5 x0 45 = some g := by rw [w5]; exact eg4
    refine s_ref eg5 ?_
    refine s_hq (th_wI T5 rg (k := 13) (lo := 0) (hi := 64) rfl (rg_b rfl) (by decide) (by decide) (pg _ rfl)) (fun h6 T6 w6 => ?_)
    have f6 := fr1Io (c := c) (B := bpL) rg wg rfl w6
    have I6 := gi_fr T5 r0 f6 ks_45 I5
    have eg6 : hR h6 x0 45 = some g := by rw [w6]; exact eg5
    refine s_ref eg6 ?_
    refine s_hq (th_wI T6 rg (k := 13) (lo := 0) (hi := 999) rfl (rg_b rfl) (by decide) (by decide) (pg _ rfl)) (fun h7 T7 w7 => ?_)
    have f7 := fr1Io (c := c) (B := bpL) rg wg rfl w7
    have I7 := gi_fr T6 r0 f7 ks_45 I6
    have eg7 : hR h7 x0 45 = some g := by rw [w7]; exact eg6
    refine s_ref eg7 ?_
    have sd7 := thI T7 rb (k := 13) (i := 1) (lo := 0) (hi := 1) rfl
    refine s_hq (th_wI T7 rg (k := 13) (lo := 0) (hi := 1) rfl (one_sub sd7) (by decide) (by decide) (pg _ rfl)) (fun h8 T8 w8 => ?_)
    have f8 := fr1Io (c := c) (B := bpL) rg wg rfl w8
    have I8 := gi_fr T7 r0 f8 ks_45 I7
    have eg8 : hR h8 x0 45 = some g := by rw [w8]; exact eg7
    have B8 : GBd x0 g h8 := by
      refine ⟨eg8, ?_, ?_⟩
      · rw [w8, w7, w6, w5]
        show hJ (wJ o4 g 2 0) g 2 = 0
        rw [r_J, if_pos ⟨rfl, rfl⟩]
      · rw [w8, r_I, if_neg (fun y => absurd y.2 (by decide)), w7, r_I, if_neg (fun y => absurd y.2 (by decide)), w6, r_I, if_pos ⟨rfl, rfl⟩]
    refine s_ref eg8 ?_
    obtain ⟨M, eM, rM⟩ := thR T8 rg (i := 0) (k2 := 62) rfl (by decide)
    have wM : cw c M = 2545 := th_ih T8 rg (k := 13) rfl eM wg
    refine s_ref eM ?_
    have sd8 := thI T8 rb (k := 13) (i := 1) (lo := 0) (hi := 1) rfl
    have go : ∀ {t : Int32}, Rg 0 24 t → Sat (sX15_guesses_90 F (sX15_guesses_3 F f) h8 x0 b x2 x3 x4 x5 t x2 M) (MkI ρ c 0 1 (GI x0)) := fun {t} it => by
      unfold sX15_guesses_90 sX15_valueOf
      refine s_gd (by rw [thN T8 rM (k := 62) (n := 64) rfl (by decide)]; exact rg_inB i2 (by decide)) ?_
      refine s_hq (th_wI T8 rM (k := 62) (lo := 0) (hi := 24) rfl it (by decide) (by decide) (by rw [wM]; exact P.2.2.2.2.1 _ _ rfl)) (fun h9 T9 w9 => ?_)
      have f9 := fr1Io (c := c) (B := bpL) rM wM rfl w9
      have I9 := gi_fr T8 r0 f9 ks_45 I8
      have B9 : GBd x0 g h9 := by
        obtain ⟨p1, p2, p3⟩ := B8
        refine ⟨by rw [w9]; exact p1, by rw [w9]; exact p2, ?_⟩
        rw [w9, r_I, if_neg (ne_r rg rM (by decide))]; exact p3
      have eM9 : hR h9 g 0 = some M := by rw [w9]; exact eM
      refine s_ref B9.1 ?_
      refine s_ref eM9 ?_
      refine s_cl (s_some ?_)
      have sd9 := thI T9 rb (k := 13) (i := 1) (lo := 0) (hi := 1) rfl
      exact gs_110 hF P T9 r0 rb i2 i3 i5 I9 B9 eM9 (val_r i4 (one_sub sd9)) (fun o ρ1 c1 y X To Io ey => ih (gp_x X P) To (ex_r X r0 (by decide)) (ex_r X rb (by decide)) ((X.1 b (by rw [rb]; decide)).2.trans wb) i2 i3 i4 Io (by omega) (by omega))
    refine s_br (fun _ => go (rg_b rfl)) (fun n5 => ?_)
    unfold sX15_valueOf
    refine s_cl (s_some ?_)
    have i6 : Rg 1 12 x5 := rg_nlo n5 i5 (rg_b rfl : Rg 0 0 (0 : Int32))
    have i7 : Rg 0 11 (x5 - (1 : Int32)) := rg_sub i6 (rg_b rfl : Rg 1 1 (1 : Int32)) (by decide)
    exact go (rg_m (val_r i7 sd8) (by decide))
theorem zX15_guesses (hF : 700000 ≤ F) (P : GPm c) (T : TH ρ c h) (r0 : ρ x0 = 16) (rb : ρ b = 13) (wb : cw c b = 3400) (i2 : Rg 0 63 x2) (i3 : Rg 0 63 x3) (i4 : Rg 0 11 x4) (I : GI x0 h) : Sat (sX15_guesses F h x0 b x2 x3 x4) (MkI ρ c 0 1 (GI x0)) := by
  unfold sX15_guesses
  have z0 : (0 : Int32).toInt = 0 := rfl
  exact gs_3 hF F P T r0 rb wb i2 i3 i4 I (by decide) (by rw [z0]; omega)
theorem ga_118 {k21 : Hp → Nat → Nat → Int32 → Int32 → Int32 → Int32 → Option (Int32 × Hp)} (hF : 700000 ≤ F) (i2 : Rg 0 63 x2) (i5 : Rg 0 11 x5) : ∀ (f : Nat) {ρ : Nat → Nat} {c : Cm} {h : Hp} {x7 : Int32}, GPm c → TH ρ c h → ρ x0 = 16 → ρ b = 13 → cw c b = 3400 → GI x0 h → 0 ≤ x7.toInt → (65 - x7.toInt).toNat < f →
    (∀ o ρ1 c1 y, Ext ρ c ρ1 c1 → TH ρ1 c1 o → GI x0 o → y.toInt = x5.toInt + 1 → Sat (k21 o x0 b x2 x3 x4 y) (MkI ρ1 c1 0 1 (GI x0))) → Sat (sX15_guessesAll_118 F k21 f h x0 b x2 x3 x4 x5 x6 x7) (MkI ρ c 0 1 (GI x0)) := by
  intro f
  induction f with
  | zero => intros; omega
  | succ f ih =>
    intro ρ c h x7 P T r0 rb wb I a7 hf K
    rw [sX15_guessesAll_118]
    unfold sX15_guessesAll_163 sX15_guessesAll_152 sX15_guessesAll_157
    have ex : Sat (nm (x5 + (1 : Int32)) fun v_1 => k21 h x0 b x2 x3 x4 v_1) (MkI ρ c 0 1 (GI x0)) := by
      refine s_q (fun y ey => ?_)
      have ey2 : y.toInt = x5.toInt + 1 := by rw [ey]; exact (nc_s i5 (by decide)).2
      clear ey
      exact K h ρ c y ex_0 T I ey2
    refine s_br (fun _ => ex) (fun n1 => s_br (fun _ => ex) (fun _ => ?_))
    have l7 := nle_i n1
    have s64 := thI T r0 (k := 16) (i := 13) (lo := 9) (hi := 64) rfl
    have i7 : Rg 0 63 x7 := ⟨a7, by have := s64.2; omega⟩
    have b7 := i7.2
    obtain ⟨r, e, q⟩ := thR T rb (i := 0) (k2 := 62) rfl (by decide)
    refine s_ref e ?_
    refine s_gd (by rw [thN T q (k := 62) (n := 64) rfl (by decide)]; exact rg_inB i7 (by decide)) ?_
    have go : ∀ {o : Hp} {ρ1 : Nat → Nat} {c1 : Cm}, Ext ρ c ρ1 c1 → TH ρ1 c1 o → GI x0 o → Sat (nm (x7 + (1 : Int32)) fun v_1 => sX15_guessesAll_118 F k21 f o x0 b x2 x3 x4 x5 x6 v_1) (MkI ρ c 0 1 (GI x0)) := fun {o ρ1 c1} X To Io => by
      refine s_q (fun y ey => ?_)
      have ey2 : y.toInt = x7.toInt + 1 := by rw [ey]; exact (nc_s i7 (by decide)).2
      clear ey
      exact mI_ext X (ih (gp_x X P) To (ex_r X r0 (by decide)) (ex_r X rb (by decide)) ((X.1 b (by rw [rb]; decide)).2.trans wb) Io (by omega) (by omega) (fun o' ρ2 c2 y' X' => K o' ρ2 c2 y' (ex_t X X')))
    refine s_br (fun _ => ?_) (fun _ => go ex_0 T I)
    refine s_cl (s_imp (zX15_guesses hF P T r0 rb wb i2 i7 i5 I) (fun o5 ⟨ρ5, c5, X5, T5, j5, I5⟩ => ?_))
    exact s_br (fun _ => s_some ⟨ρ5, c5, X5, T5, rg_b rfl, I5⟩) (fun _ => go X5 T5 I5)
theorem ga_50 {k21 : Hp → Nat → Nat → Int32 → Int32 → Int32 → Int32 → Option (Int32 × Hp)} (hF : 700000 ≤ F) (P : GPm c) (T : TH ρ c h) (r0 : ρ x0 = 16) (rb : ρ b = 13) (wb : cw c b = 3400) (i2 : Rg 0 63 x2) (i3 : Rg 0 1 x3) (i5 : Rg 0 11 x5) (I : GI x0 h)
    (K : ∀ o ρ1 c1 y, Ext ρ c ρ1 c1 → TH ρ1 c1 o → GI x0 o → y.toInt = x5.toInt + 1 → Sat (k21 o x0 b x2 x3 x4 y) (MkI ρ1 c1 0 1 (GI x0))) : ∀ (f : Nat) {x6 x7 : Int32}, 0 ≤ x7.toInt → (7 - x7.toInt).toNat < f → Sat (sX15_guessesAll_50 F k21 f h x0 b x2 x3 x4 x5 x6 x7) (MkI ρ c 0 1 (GI x0)) := by
  intro f
  induction f with
  | zero => intros; omega
  | succ f ih =>
    intro x6 x7 a7 hf
    rw [sX15_guessesAll_50]
    unfold sX15_guessesAll_94 sX15_guessesAll_105 sX15_guessesAll_106
    obtain ⟨r1, e1, q1⟩ := thR T r0 (i := 4) (k2 := 15) rfl (by decide)
    refine s_ref e1 ?_
    obtain ⟨r2, e2, q2⟩ := thR T q1 (i := 14) (k2 := 81) rfl (by decide)
    refine s_ref e2 ?_
    refine s_gd (by rw [thN T q2 (k := 81) (n := 12) rfl (by decide)]; exact rg_inB i5 (by decide)) ?_
    have m6 := thI T q2 (k := 81) (i := x5.toNatClampNeg) (lo := 0) (hi := 6) rfl
    have z0 : (0 : Int32).toInt = 0 := rfl
    refine s_br (fun _ => ga_118 hF i2 i5 F P T r0 rb wb I (by decide) (by rw [z0]; omega) K) (fun n1 => ?_)
    have l7 := nle_i n1
    have i7 : Rg 0 5 x7 := ⟨a7, by have := m6.2; omega⟩
    have b7 := i7.2
    refine s_ref e1 ?_
    obtain ⟨r6, e6, q6⟩ := thR T q1 (i := 13) (k2 := 80) rfl (by decide)
    refine s_ref e6 ?_
    have im : Rg 0 66 ((6 : Int32) * x5) := by
      have e4 : (6 : Int32).toInt = 6 := rfl
      have := i5.1
      have := i5.2
      exact ⟨by rw [tm (by rw [e4]; omega), e4]; omega, by rw [tm (by rw [e4]; omega), e4]; omega⟩
    refine s_gd (by rw [thN T q6 (k := 80) (n := 72) rfl (by decide)]; exact rg_inB (rg_add im i7 (by decide) : Rg 0 71 _) (by decide)) ?_
    have go : ∀ {t0 t1 : Int32}, Sat (nm (t1 ||| t0) fun v_1 => nm (x7 + (1 : Int32)) fun v_2 => sX15_guessesAll_50 F k21 f h x0 b x2 x3 x4 x5 v_1 v_2) (MkI ρ c 0 1 (GI x0)) := fun {t0 t1} => by
      refine s_q (fun u _ => ?_)
      refine s_q (fun y ey => ?_)
      have ey2 : y.toInt = x7.toInt + 1 := by rw [ey]; exact (nc_s i7 (by decide)).2
      clear ey
      exact ih (by omega) (by omega)
    refine s_br (fun _ => ?_) (fun _ => go)
    refine s_cI0 (zX15_rankFor hF T r0 i2 i3) (fun o9 e9 _ => ?_)
    rw [show o9.2 = h from e9]
    exact s_br (fun _ => go) (fun _ => go)
theorem ga_21 (hF : 700000 ≤ F) (i2 : Rg 0 63 x2) (i3 : Rg 0 1 x3) : ∀ (f : Nat) {ρ : Nat → Nat} {c : Cm} {h : Hp} {x5 : Int32}, GPm c → TH ρ c h → ρ x0 = 16 → ρ b = 13 → cw c b = 3400 → GI x0 h → 0 ≤ x5.toInt → (13 - x5.toInt).toNat < f → Sat (sX15_guessesAll_21 F f h x0 b x2 x3 x4 x5) (MkI ρ c 0 1 (GI x0)) := by
  intro f
  induction f with
  | zero => intros; omega
  | succ f ih =>
    intro ρ c h x5 P T r0 rb wb I a5 hf
    rw [sX15_guessesAll_21]
    unfold sX15_guessesAll_45
    obtain ⟨r1, e1, q1⟩ := thR T r0 (i := 4) (k2 := 15) rfl (by decide)
    refine s_ref e1 ?_
    have c12 := thI T q1 (k := 15) (i := 2) (lo := 0) (hi := 12) rfl
    refine s_br (fun _ => s_some ⟨ρ, c, ex_0, T, rg_b rfl, I⟩) (fun n1 => ?_)
    have l5 := nle_i n1
    have i5 : Rg 0 11 x5 := ⟨a5, by have := c12.2; omega⟩
    have b5 := i5.2
    have z0 : (0 : Int32).toInt = 0 := rfl
    have go : ∀ {t : Int32}, Sat (sX15_guessesAll_50 F (sX15_guessesAll_21 F f) F h x0 b x2 x3 x4 x5 t (0 : Int32)) (MkI ρ c 0 1 (GI x0)) := fun {t} => ga_50 hF P T r0 rb wb i2 i3 i5 I (fun o ρ1 c1 y X To Io ey => ih (gp_x X P) To (ex_r X r0 (by decide)) (ex_r X rb (by decide)) ((X.1 b (by rw [rb]; decide)).2.trans wb) Io (by omega) (by omega)) F (by decide) (by rw [z0]; omega)
    exact s_br (fun _ => go) (fun _ => go)
theorem zX15_guessesAll (hF : 700000 ≤ F) (P : GPm c) (T : TH ρ c h) (r0 : ρ x0 = 16) (rb : ρ b = 13) (wb : cw c b = 3400) (i2 : Rg 0 63 x2) (I : GI x0 h) : Sat (sX15_guessesAll F h x0 b x2) (MkI ρ c 0 1 (GI x0)) := by
  unfold sX15_guessesAll sX15_guessesAll_16 sX15_manOf
  refine s_q (fun v ev => ?_)
  have iv : Rg 0 1 v := by rw [ev]; exact one_sub (thI T rb (k := 13) (i := 1) (lo := 0) (hi := 1) rfl)
  clear ev
  obtain ⟨r, e, q⟩ := thR T rb (i := 0) (k2 := 62) rfl (by decide)
  refine s_ref e ?_
  refine s_gd (by rw [thN T q (k := 62) (n := 64) rfl (by decide)]; exact rg_inB i2 (by decide)) ?_
  refine s_cl (s_some ?_)
  have z0 : (0 : Int32).toInt = 0 := rfl
  exact ga_21 hF i2 iv F P T r0 rb wb I (by decide) (by rw [z0]; omega)
end
end
section
section
variable {ρ : Nat → Nat} {c : Cm} {h o : Hp} {S : Nat → Nat → Nat → Bool} {x0 b g w i F : Nat} {n : Int} {x1 x2 x3 x4 x5 x6 : Int32}
/-- none is found -/
theorem fd_none (T : TH ρ c h) (r0 : ρ x0 = 16) (P : FdP x0 h) (e : o = wI h x0 44 0) : FdP x0 o := by
  have f := fr1I (c := c) (A := [(16, 44)]) r0 rfl e
  have z : (hI o x0 44).toInt = 0 := by rw [he_s e]; rfl
  exact ⟨fun r er i hi => by rw [z] at hi; omega, fun k hk => by rw [z] at hk; omega, fbp_fr T r0 f fB44 P.2.2.1, tx_fr T r0 f ⟨fun _ => rfl, fun _ _ => rfl⟩ P.2.2.2⟩
theorem gi_none (T : TH ρ c h) (r0 : ρ x0 = 16) (P : GI x0 h) (e : o = wI h x0 44 0) : GI x0 o := by
  have f := fr1I (c := c) (A := [(16, 44)]) r0 rfl e
  obtain ⟨p1, p2, r, p3, p4⟩ := P
  refine ⟨sq_fr T r0 f (fun _ => rfl) (fun _ => rfl) (fun _ => rfl) p1, fd_none T r0 p2 e, r, by rw [e]; exact p3, ?_⟩
  rw [(fr_RI f (rr T (thR T r0 (i := 4) (k2 := 15) rfl (by decide)) p3) (by decide) (fun _ => rfl)).1]; exact p4
theorem be_58 (hF : 700000 ≤ F) : ∀ (f : Nat) {ρ : Nat → Nat} {c : Cm} {h : Hp} {x3 : Int32}, GPm c → TH ρ c h → ρ x0 = 16 → ρ b = 13 → cw c b = 3400 → GI x0 h → 0 ≤ x3.toInt → (65 - x3.toInt).toNat < f → Sat (sX15_before_58 F f h x0 b x3) (MkI ρ c (-104) 3000 (GI x0)) := by
  intro f
  induction f with
  | zero => intros; omega
  | succ f ih =>
    intro ρ c h x3 P T r0 rb wb I a3 hf
    rw [sX15_before_58]
    unfold sX15_before_108 sX15_before_84 sX15_before_97 sX15_before_108 sX15_sideOf
    have s64 := thI T r0 (k := 16) (i := 13) (lo := 9) (hi := 64) rfl
    refine s_br (fun _ => s_some ⟨ρ, c, ex_0, T, rg_m (thI T r0 (k := 16) (i := 44) (lo := 0) (hi := 3000) rfl) (by decide), I⟩) (fun n1 => ?_)
    have l3 := nle_i n1
    have i3 : Rg 0 63 x3 := ⟨a3, by have := s64.2; omega⟩
    have b3 := i3.2
    obtain ⟨r, e, q⟩ := thR T rb (i := 0) (k2 := 62) rfl (by decide)
    have gb : inB x3 (hN h r) := by rw [thN T q (k := 62) (n := 64) rfl (by decide)]; exact rg_inB i3 (by decide)
    have go : ∀ {o : Hp} {ρ1 : Nat → Nat} {c1 : Cm}, Ext ρ c ρ1 c1 → TH ρ1 c1 o → GI x0 o → Sat (nm (x3 + (1 : Int32)) fun v_1 => sX15_before_58 F f o x0 b v_1) (MkI ρ c (-104) 3000 (GI x0)) := fun {o ρ1 c1} X To Io => by
      refine s_q (fun y ey => ?_)
      have ey2 : y.toInt = x3.toInt + 1 := by rw [ey]; exact (nc_s i3 (by decide)).2
      clear ey
      exact mI_ext X (ih (gp_x X P) To (ex_r X r0 (by decide)) (ex_r X rb (by decide)) ((X.1 b (by rw [rb]; decide)).2.trans wb) Io (by omega) (by omega))
    refine s_ref e (s_gd gb ?_)
    refine s_br (fun _ => go ex_0 T I) (fun _ => ?_)
    refine s_ref e (s_gd gb ?_)
    refine s_cl (s_some ?_)
    refine s_br (fun _ => go ex_0 T I) (fun _ => ?_)
    refine s_cl (s_imp (zX15_guessesAll hF P T r0 rb wb i3 I) (fun o5 ⟨ρ5, c5, X5, T5, j5, I5⟩ => ?_))
    have r5 := ex_r X5 r0 (by decide)
    refine s_br (fun _ => ?_) (fun _ => go X5 T5 I5)
    refine s_hq (th_wI T5 r5 (k := 16) (lo := 0) (hi := 3000) rfl (rg_b rfl) (by decide) (by decide) (pm_a (gp_x X5 P).1 rfl)) (fun h6 T6 w6 => ?_)
    exact s_some ⟨ρ5, c5, X5, T6, rg_b rfl, gi_none T5 r5 I5 w6⟩
theorem zX15_before (hF : 700000 ≤ F) (P : GPm c) (T : TH ρ c h) (r0 : ρ x0 = 16) (bd : BdP x0 h) (sq : SqOk x0 h) (fd : FdP x0 h) : Sat (sX15_before F h x0 x1) (MkI ρ c (-104) 3000 (fun o => SqOk x0 o ∧ FdP x0 o)) := by
  unfold sX15_before
  refine s_dP0 (zX15_has hF T r0 (rg_top _)) (fun oo eb e ii pp => ?_)
  rw [e]
  unfold sX15_before_5 sX15_before_41
  have ex : ∀ {v : Int32}, Rg (-104) 3000 v → Sat (some (v, h)) (MkI ρ c (-104) 3000 (fun o => SqOk x0 o ∧ FdP x0 o)) := fun {v} iv => s_some ⟨ρ, c, ex_0, T, iv, sq, fd⟩
  refine s_br (fun _ => ex (rg_b rfl)) (fun nz => ?_)
  have i1 := pp nz
  obtain ⟨b, B⟩ := bk_of T r0 (hb_of T r0 bd eb nz)
  obtain ⟨rb, wb⟩ := bk_r T r0 B
  obtain ⟨r1, e1, q1⟩ := thR T r0 (i := 4) (k2 := 15) rfl (by decide)
  refine s_ref e1 ?_
  refine s_br (fun z15 => ?_) (fun _ => ex (rg_b rfl))
  refine s_ref e1 ?_
  refine s_br (fun _ => ?_) (fun _ => ex (rg_b rfl))
  refine s_ref e1 ?_
  refine s_br (fun _ => ?_) (fun _ => ex (rg_b rfl))
  refine s_hq (th_wI T r0 (k := 16) (lo := 0) (hi := 3000) rfl (rg_b rfl) (by decide) (by decide) (pm_a P.1 rfl)) (fun h6 T6 w6 => ?_)
  have I6 := gi_none T r0 ⟨sq, fd, r1, e1, z15⟩ w6
  have B6 : BK x0 x1.toNatClampNeg b h6 := by
    obtain ⟨r, s1, s2, s3⟩ := B
    have f6 := fr1I (c := c) (A := [(16, 44)]) r0 rfl w6
    exact ⟨r, by rw [w6]; exact s1, by rw [w6]; exact s2, pe_fr T rb f6 rfl rfl rfl (fun _ => rfl) (fun _ => rfl) s3⟩
  refine s_bk T6 r0 i1 B6 ?_
  have z0 : (0 : Int32).toInt = 0 := rfl
  exact s_imp (be_58 hF F P T6 r0 rb wb I6 (by decide) (by rw [z0]; omega)) (fun o ⟨ρ1, c1, X, To, j, Io⟩ => ⟨ρ1, c1, X, To, j, Io.1, Io.2.1⟩)
abbrev kpL : List (Nat × Nat) := [(84, 999), (85, 999), (16, 16)]
theorem ks_kp : KS (fS kpL [(3400, bpL)]) := ks_c bp_no (by decide) ⟨⟨fun _ => rfl, fun _ _ => rfl, fun _ => ⟨rfl, rfl, rfl, fun _ => rfl, fun _ => rfl⟩⟩, ⟨fun _ => rfl, fun _ _ => rfl⟩, ⟨fun _ => rfl, fun _ _ => rfl⟩, fun _ => rfl, fun _ => rfl, fun _ => rfl, fun _ => rfl, fun _ => rfl, fun _ => rfl, fun _ => rfl⟩
theorem zX15_beforeAt (hF : 700000 ≤ F) (hA : pmA c kpL) (h34 : pmO c 3400 bpL) (T : TH ρ c h) (r0 : ρ x0 = 16) (bd : BdP x0 h) (fd : FdP x0 h) : Sat (sX15_beforeAt F h x0 x1) (MkI ρ c (-104) 59 (fun o => BdP x0 o ∧ FdP x0 o)) := by
  unfold sX15_beforeAt sX15_beforeAt_12 sX15_beforeAt_32
  have ex : Sat (some ((-102 : Int32), h)) (MkI ρ c (-104) 59 (fun o => BdP x0 o ∧ FdP x0 o)) := s_some ⟨ρ, c, ex_0, T, rg_b rfl, bd, fd⟩
  refine s_br (fun _ => ex) (fun n1 => ?_)
  refine s_br (fun l1 => ?_) (fun _ => ex)
  have a1 : 0 ≤ x1.toInt := nlt_i n1
  have b1 := lt_i l1
  have i44 := thI T r0 (k := 16) (i := 44) (lo := 0) (hi := 3000) rfl
  have i1 : Rg 0 2999 x1 := ⟨a1, by have := i44.2; omega⟩
  have c1' := clamp_i a1
  obtain ⟨r3, e3, q3⟩ := thR T r0 (i := 40) (k2 := 95) rfl (by decide)
  refine s_ref e3 ?_
  obtain ⟨r4, e4, q4⟩ := thR T r0 (i := 42) (k2 := 97) rfl (by decide)
  refine s_ref e4 ?_
  refine s_gd (by rw [thN T q4 (k := 97) (n := 3000) rfl (by decide)]; exact rg_inB i1 (by decide)) ?_
  have iv := thI T q4 (k := 97) (i := x1.toNatClampNeg) (lo := 0) (hi := 2999) rfl
  refine s_gd (by rw [thN T q3 (k := 95) (n := 3000) rfl (by decide)]; exact rg_inB iv (by decide)) ?_
  have lv := fd.1 r4 e4 x1.toNatClampNeg (by omega)
  have cv := clamp_i iv.1
  obtain ⟨b, B⟩ := fd.2.1 (hI h r4 x1.toNatClampNeg).toNatClampNeg (by omega)
  have PB := fd.2.2.1 _ b B
  obtain ⟨rb, wb⟩ := fbo_r T r0 B
  obtain ⟨r', s1, s2⟩ := B
  have hz := r_eq e3 s1
  subst hz
  refine s_ref s2 ?_
  refine s_mI (S := fS kpL [(3400, bpL)]) (lo := -104) (hi := 59) (P := BdP x0) T (fs_sub hA (fs_c h34 fs_n)) (zX15_keep hF fs_a (pmO_s (fs_o (.head _)) rfl) rfl (th_in _ T) r0 rb bd PB) (fun o8 ρ8 c8 X8 T8 f8 j8 P8 => ?_)
  exact s_some ⟨ρ8, c8, X8, T8, j8, P8, fd_fr T r0 f8 ks_kp.1 ks_kp.2.1 ks_kp.2.2.1 ks_kp.2.2.2.1 fd⟩
end
end
