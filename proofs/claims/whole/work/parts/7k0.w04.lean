section
/-! the reference: make -/
theorem tdx {x y : Int32} {k z : Int} (ey : y.toInt = k) (k1 : 1 ≤ k) (ex : x.toInt = k * z) : (x / y).toInt = z := by
  have i : Rg k k y := ⟨by omega, by omega⟩
  rw [Int32.toInt_div_of_ne_right x y (rg_ne1 i k1), ex, ey, Int.mul_tdiv_cancel_left _ (by omega)]
/-- the board that is written is this position -/
def RbT (V : Nat → Nat) (h : Hp) (T : Pz) : Prop := (hR h (V 213) 0 = some (V 262) ∧ hR h (V 213) 4 = some (V 263) ∧ hR h (V 213) 5 = some (V 264) ∧ hR h (V 213) 6 = some (V 265)) ∧ (∀ s, s < 64 → (hI h (V 262) s).toInt = T.1 s) ∧ (hI h (V 213) 1).toInt = (pzS T : Int) ∧ (∀ q, q < 64 → bitJ (hJ h (V 213) 2) q = pzR T q) ∧ (hI h (V 213) 3).toInt = (pzN T : Int) ∧ (∀ i, i < pzN T → (hI h (V 263) i).toInt = (pzQ T i : Int)) ∧ (∀ d, d < 24 → (hI h (V 264) d).toInt = pzH T d) ∧ (∀ d, d < 2 → (hI h (V 265) d).toInt = pzC T d) ∧ (hI h (V 213) 7).toInt = pzK T
def RW0 (V : Nat → Nat) (h : Hp) (L : Nat → Nat → Int) : Prop := WRf V h ∧ GRf V h L
abbrev wmk : List (Nat × Nat) := [(213, 1), (213, 2), (213, 3), (213, 7), (262, 999), (263, 999), (264, 999), (265, 999), (16, 23), (16, 24)]
/-- what holds of the other things while a move is made -/
def MkW (V : Nat → Nat) (h : Hp) (L : Nat → Nat → Int) (P : Pz) (v : MvT) (i : Nat) : Prop := RW0 V h L ∧ WMf V h ∧ rowM V h i = v ∧ RbP V h P
def ckP (L : Nat → Nat → Int) (M : Nat → Int) (sd d : Nat) : Prop := d = sd ∧ 0 < L 20 0 ∧ RyH L M (1 - sd)
noncomputable def zFin (L : Nat → Nat → Int) (T : Pz) (sd : Nat) (k : Int) : Pz := (T.1, 1 - sd, pzR T, pzN T, pzQ T, pzH T, (fun d => if prB' (ckP L T.1 sd d) = true then (if pzC T d + 1 < 9 then pzC T d + 1 else 9) else pzC T d), k)
def zCm (T : Pz) (x : Nat) (v : Int) : Pz := (updM T.1 x v, pzS T, (fun q => pzR T q && !decide (q = x)), pzN T, pzQ T, pzH T, pzC T, pzK T)
def zHd (T : Pz) (d : Nat) (x : Int) : Pz := (T.1, pzS T, pzR T, pzN T, pzQ T, (fun e => if e = d then x else pzH T e), pzC T, pzK T)
noncomputable def zRy (L : Nat → Nat → Int) (T : Pz) (sd : Nat) : Pz := (T.1, pzS T, (fun q => pzR T q && !prB' ((q : Int) < L 0 0 * L 1 0 ∧ rkF L q sd = 1)), pzN T, pzQ T, pzH T, pzC T, pzK T)
noncomputable def zBl (L : Nat → Nat → Int) (T : Pz) (t : Nat) : Pz := (blM L T.1 t, pzS T, (fun q => pzR T q && !prB' (BlS L T.1 t q)), pzN T, pzQ T, pzH T, pzC T, pzK T)
def zPs (T : Pz) (n : Nat) (q : Nat → Nat) : Pz := (T.1, pzS T, pzR T, n, q, pzH T, pzC T, pzK T)
/-- squares of PASS that a move makes -/
def psQ (v : MvT) (i : Nat) : Nat := if i = 0 then v.2.1.toNat else (v.1 + i * ((v.2.1 - v.1) / v.2.2.2.2.2.2)).toNat
def PsL (L : Nat → Nat → Int) (v : MvT) : Prop := v.2.2.2.2.2.2 ≤ 7 ∧ ∃ X Y : Int, (-7 ≤ X ∧ X ≤ 7) ∧ (-7 ≤ Y ∧ Y ≤ 7) ∧ onK (L 0 0) (L 1 0) v.1 X Y v.2.2.2.2.2.2 ∧ v.2.1 = tgt (L 0 0) v.1 X Y v.2.2.2.2.2.2
section
variable {F : Nat} {V : Nat → Nat} {L : Nat → Nat → Int} {h o : Hp} {T P : Pz} {v : MvT} {Ls : List (Nat × Nat)}
theorem rbt_i : RbP (vR V) h T ↔ RbT V h T := Iff.rfl
theorem rw0_f (D : VD V) (W : RW0 V h L) (A : FrV V (wl Ls) h o) (n : ∀ p, p ∈ Ls → p.1 ∈ vql ∧ ¬ p.1 = 15 ∧ ¬ (73 ≤ p.1 ∧ p.1 ≤ 81)) (n11 : wl Ls 16 11 = false) (n12 : wl Ls 16 12 = false) (n13 : wl Ls 16 13 = false) : RW0 V o L := by
  obtain ⟨w, g1, g2, g3, g4⟩ := W
  have hL : ∀ p, p ∈ Ls → p.1 ∈ vql := fun p hp => (n p hp).1
  exact ⟨wrf_f w A, by rw [lwr_g D A n]; exact g1, by rw [fvi D A 16 11 n11 (by decide) hL]; exact g2, by rw [fvi D A 16 12 n12 (by decide) hL]; exact g3, by rw [fvi D A 16 13 n13 (by decide) hL]; exact g4⟩
theorem rw0_m (D : VD V) (W : RW0 V h L) (A : FrV V (wl wmk) h o) : RW0 V o L := rw0_f D W A (by decide) rfl rfl rfl
theorem mkw_f (D : VD V) {i : Nat} (W : MkW V h L P v i) (A : FrV V (wl wmk) h o) : MkW V o L P v i := by
  refine ⟨rw0_m D W.1 A, wmf_f W.2.1 A, ?_, rbp_f D W.2.2.2 A (by decide)⟩
  rw [← W.2.2.1]
  unfold rowM
  rw [fvI D A 66 i, fvI D A 67 i, fvI D A 68 i, fvI D A 69 i, fvI D A 70 i, fvI D A 71 i, fvI D A 72 i]
theorem swr_hi {k : Nat} (h : 73 ≤ k ∧ k ≤ 81) : swR k = k := by
  unfold swR
  repeat' split
  all_goals omega
theorem lwr_vr : lwR (vR V) h = lwR V h := by
  funext k i
  unfold lwR
  by_cases c : k < 30
  · rw [if_pos c, if_pos c]; rfl
  · rw [if_neg c, if_neg c]
    by_cases d : 73 ≤ k ∧ k ≤ 81
    · rw [if_pos d, if_pos d]
      show (hI h (V (swR k)) i).toInt = _
      rw [swr_hi d]
    · rw [if_neg d, if_neg d]; rfl
theorem rwd_t (W : RW0 V h L) (R : RbT V h T) : RWd (vR V) h L T.1 := ⟨W.1, ⟨by rw [lwr_vr]; exact W.2.1, W.2.2⟩, R.1.1, R.2.1⟩
theorem rwd_b (W : RW0 V h L) (R : RbP V h P) : RWd V h L P.1 := ⟨W.1, W.2, R.1.1, R.2.1⟩
theorem rbt_c {T' : Pz} (R : RbT V h T) (a : ∀ s, s < 64 → T.1 s = T'.1 s) (b : pzS T = pzS T') (c : ∀ q, q < 64 → pzR T q = pzR T' q) (d : pzN T = pzN T') (e : ∀ i, i < pzN T → pzQ T i = pzQ T' i) (f : ∀ d, d < 24 → pzH T d = pzH T' d) (g : ∀ d, d < 2 → pzC T d = pzC T' d) (k : pzK T = pzK T') : RbT V h T' :=
  ⟨R.1, fun s hs => by rw [← a s hs]; exact R.2.1 s hs, by rw [← b]; exact R.2.2.1, fun q hq => by rw [← c q hq]; exact R.2.2.2.1 q hq, by rw [← d]; exact R.2.2.2.2.1, fun i hi => by rw [← d] at hi; rw [← e i hi]; exact R.2.2.2.2.2.1 i hi, fun q hq => by rw [← f q hq]; exact R.2.2.2.2.2.2.1 q hq, fun q hq => by rw [← g q hq]; exact R.2.2.2.2.2.2.2.1 q hq, by rw [← k]; exact R.2.2.2.2.2.2.2.2⟩
theorem bl_iff {a b : Bool} (e : a = true ↔ b = true) : a = b := Bool.eq_iff_iff.mpr e
theorem rb_cm (D : VD V) {y : Nat} {x v : Int32} (W : RW0 V h L) (R : RbT V h T) (ix : Rg 0 63 x) (e : sX15_come h y (V 213) x v = some o) : FrV V (wl wmk) h o ∧ RbT V o (zCm T x.toNatClampNeg v.toInt) := by
  have Rs : RSh V h L T.1 := ⟨W.1, W.2, R.1.1, R.2.1⟩
  obtain ⟨A, Ro, b⟩ := cm_r D Rs ix e
  refine ⟨fv_s A (by decide), ⟨by rw [A.1]; exact R.1.1, by rw [A.1]; exact R.1.2.1, by rw [A.1]; exact R.1.2.2.1, by rw [A.1]; exact R.1.2.2.2⟩, Ro.2.2.2, by rw [fvi D A 213 1]; exact R.2.2.1, fun q hq => ?_, by rw [fvi D A 213 3]; exact R.2.2.2.2.1, fun i hi => by rw [fvI D A 263 i]; exact R.2.2.2.2.2.1 i hi, fun d hd => by rw [fvI D A 264 d]; exact R.2.2.2.2.2.2.1 d hd, fun d hd => by rw [fvI D A 265 d]; exact R.2.2.2.2.2.2.2.1 d hd, by rw [fvi D A 213 7]; exact R.2.2.2.2.2.2.2.2⟩
  have b' := b q hq
  rw [R.2.2.2.1 q hq] at b'
  show bitJ (hJ o (V 213) 2) q = (pzR T q && !decide (q = x.toNatClampNeg))
  apply bl_iff
  rw [b', Bool.and_eq_true, Bool.not_eq_true', decide_eq_false_iff_not]
theorem rb_lv (D : VD V) {y : Nat} {x : Int32} (W : RW0 V h L) (R : RbT V h T) (ix : Rg 0 63 x) (e : sX15_leave h y (V 213) x = some o) : FrV V (wl wmk) h o ∧ RbT V o (zCm T x.toNatClampNeg 0) := rb_cm (y := y) (v := 0) D W R ix e
/-- a man in hand more, or less -/
theorem rb_hd (D : VD V) {d : Nat} {x : Int32} (R : RbT V h T) : FrV V (wl wmk) h (wI h (V 264) d x) ∧ RbT V (wI h (V 264) d x) (zHd T d x.toInt) := by
  have A : FrV V (wl [(264, 999)]) h (wI h (V 264) d x) := fv_w (wl_9 (by decide))
  refine ⟨fv_s A (by decide), R.1, fun s hs => by rw [fvI D A 262 s]; exact R.2.1 s hs, by rw [fvI D A 213 1]; exact R.2.2.1, fun q hq => by rw [fvJ D A 213 2]; exact R.2.2.2.1 q hq, by rw [fvI D A 213 3]; exact R.2.2.2.2.1, fun i hi => by rw [fvI D A 263 i]; exact R.2.2.2.2.2.1 i hi, fun e he => ?_, fun d hd => by rw [fvI D A 265 d]; exact R.2.2.2.2.2.2.2.1 d hd, by rw [fvI D A 213 7]; exact R.2.2.2.2.2.2.2.2⟩
  show _ = (if e = d then x.toInt else pzH T e)
  rw [r_I]
  by_cases c : e = d
  · rw [if_pos ⟨rfl, c⟩, if_pos c]
  · rw [if_neg (fun z => c z.2), if_neg c]
    exact R.2.2.2.2.2.2.1 e he
/-- count, side, checks -/
theorem mkr_546 (D : VD V) {x5 t0 : Int32} {sd : Nat} (H : LOk L) (K : -1 ≤ L 10 0 ∧ L 10 0 ≤ 11) (W : RW0 V h L) (R : RbT V h T) (HT : MOk L T.1) (U : UnM T.1 (L 10 0)) (isd : sd < 2) (e5 : x5.toInt = (sd : Int)) (cb : ∀ d, d < 2 → 0 ≤ pzC T d ∧ pzC T d ≤ 9) (e : sX15_make_546 F h (V 16) (V 213) x5 t0 (V 213) = some o) : FrV V (wl wmk) h o ∧ RbT V o (zFin L T sd t0.toInt) := by
  have z0 : (0 : Int32).toInt = 0 := rfl
  have z1 : (1 : Int32).toInt = 1 := rfl
  have z9 : (9 : Int32).toInt = 9 := rfl
  have c5 : x5.toNatClampNeg = sd := by have := nc_i (x := x5) (by omega); omega
  have s5 : ((1 : Int32) - x5).toInt = ((1 - sd : Nat) : Int) := by rw [ts (by rw [z1, e5]; omega), z1, e5]; omega
  unfold sX15_make_546 sX15_make_582 sX15_make_626 at e
  replace e := nm_s e; obtain ⟨h1, u1, e⟩ := e
  replace e := nm_s e; obtain ⟨h2, u2, e⟩ := e
  have A1 : FrV V (wl [(213, 7)]) h h1 := by rw [u1]; exact fv_w rfl
  have A2 : FrV V (wl [(213, 1)]) h1 h2 := by rw [u2]; exact fv_w rfl
  have A : FrV V (wl [(213, 7), (213, 1)]) h h2 := fv_t (fv_s A1 (by decide)) (fv_s A2 (by decide))
  have Am : FrV V (wl wmk) h h2 := fv_s A (by decide)
  have R2 : RbT V h2 (T.1, 1 - sd, pzR T, pzN T, pzQ T, pzH T, pzC T, t0.toInt) := by
    refine ⟨⟨by rw [A.1]; exact R.1.1, by rw [A.1]; exact R.1.2.1, by rw [A.1]; exact R.1.2.2.1, by rw [A.1]; exact R.1.2.2.2⟩, fun s hs => by rw [fvI D A 262 s]; exact R.2.1 s hs, ?_, fun q hq => by rw [fvj D A 213 2]; exact R.2.2.2.1 q hq, by rw [fvi D A 213 3]; exact R.2.2.2.2.1, fun i hi => by rw [fvI D A 263 i]; exact R.2.2.2.2.2.1 i hi, fun d hd => by rw [fvI D A 264 d]; exact R.2.2.2.2.2.2.1 d hd, fun d hd => by rw [fvI D A 265 d]; exact R.2.2.2.2.2.2.2.1 d hd, ?_⟩
    · rw [u2, r_I, if_pos ⟨rfl, rfl⟩, s5]
    · rw [fvi D A2 213 7, u1, r_I, if_pos ⟨rfl, rfl⟩]
  have W2 := rw0_m D W Am
  have Wd := rwd_t W2 R2
  have l20 : (hI h2 (V 15) 20).toInt = L 20 0 := lw_0 Wd (by decide) 0
  -- no check
  have non : ∀ {g : Hp}, FrV V (wl [(16, 23), (16, 24)]) h2 g → ¬ (0 < L 20 0 ∧ RyH L T.1 (1 - sd)) → some g = some o → FrV V (wl wmk) h o ∧ RbT V o (zFin L T sd t0.toInt) := fun {g} G n u => by
    rw [so_e u]
    refine ⟨fv_t Am (fv_s G (by decide)), ⟨by rw [G.1]; exact R2.1.1, by rw [G.1]; exact R2.1.2.1, by rw [G.1]; exact R2.1.2.2.1, by rw [G.1]; exact R2.1.2.2.2⟩, fun s hs => by rw [fvI D G 262 s]; exact R2.2.1 s hs, by rw [fvI D G 213 1]; exact R2.2.2.1, fun q hq => by rw [fvJ D G 213 2]; exact R2.2.2.2.1 q hq, by rw [fvI D G 213 3]; exact R2.2.2.2.2.1, fun i hi => by rw [fvI D G 263 i]; exact R2.2.2.2.2.2.1 i hi, fun d hd => by rw [fvI D G 264 d]; exact R2.2.2.2.2.2.2.1 d hd, fun d hd => ?_, by rw [fvI D G 213 7]; exact R2.2.2.2.2.2.2.2.2⟩
    rw [fvI D G 265 d]
    show _ = (if prB' (ckP L T.1 sd d) = true then _ else _)
    rw [if_neg (fun z => n (prb_e.mp z).2)]
    exact R2.2.2.2.2.2.2.2.1 d hd
  replace e := ce_e W2.1.1 e
  rcases br_s e with ⟨c, e⟩ | ⟨c, e⟩
  · have c := le_i c
    rw [l20, z0] at c
    exact non fv_0 (fun z => by have := z.1; omega) (bp_e rfl e)
  have c := nle_i c
  rw [l20, z0] at c
  replace e := cl_s e; obtain ⟨o5, eo5, e⟩ := e
  obtain ⟨w5, ro⟩ := roy_r H HT Wd K s5 (by omega) eo5
  rw [w5] at e
  rcases br_s e with ⟨y, e⟩ | ⟨y, e⟩
  · refine non fv_0 (fun z => ?_) e
    obtain ⟨_, s, hs, r0, ms, _⟩ := z
    rcases ro with ⟨_, a⟩ | ⟨a, _⟩
    · exact a s hs r0 ms
    · rw [y] at a; exact absurd a.1 (by decide)
  rcases ro with ⟨a, _⟩ | ⟨a1, a2, a3⟩
  · exact absurd a y
  replace e := cl_s e; obtain ⟨o6, eo6, e⟩ := e
  obtain ⟨G, q⟩ := att_r (vd_r D) H HT a1.1 ⟨by omega, by omega⟩ Wd eo6
  have G : FrV V (wl [(16, 23), (16, 24)]) h2 o6.2 := fv_s (fv_sr G) (by decide)
  have ca := nc_i a1.1
  have a63 := a1.2
  have sd1 : (1 : Int) - ((1 - sd : Nat) : Int) = (sd : Int) := by omega
  rcases br_s e with ⟨y', e⟩ | ⟨y', e⟩
  · refine non G (fun z => ?_) e
    obtain ⟨_, s, hs, r0, ms, at'⟩ := z
    rcases q with ⟨_, q⟩ | ⟨q, _⟩
    · have es := U r0 (1 - sd) s _ (by omega) hs (by omega) ms a3
      rw [es, sd1, ← e5] at at'
      exact q at'
    · rw [q] at y'; exact absurd y' (by decide)
  have ry : RyH L T.1 (1 - sd) := by
    rcases q with ⟨q, _⟩ | ⟨_, q⟩
    · exact absurd q y'
    · exact ⟨_, by omega, a2, a3, by rw [sd1, ← e5]; exact q⟩
  replace e := ce_e (by rw [G.1]; exact R2.1.2.2.2) e
  replace e := ce_e (by rw [G.1]; exact R2.1.2.2.2) e
  replace e := gg_e e
  replace e := gg_e e
  rw [c5] at e
  replace e := nm_s e; obtain ⟨h8, u8, e⟩ := e
  rw [so_e e]
  have B : FrV V (wl [(265, 999)]) o6.2 h8 := by rw [u8]; exact fv_w (wl_9 (by decide))
  have C : FrV V (wl [(16, 23), (16, 24), (265, 999)]) h2 h8 := fv_t (fv_s G (by decide)) (fv_s B (by decide))
  refine ⟨fv_t Am (fv_s C (by decide)), ⟨by rw [C.1]; exact R2.1.1, by rw [C.1]; exact R2.1.2.1, by rw [C.1]; exact R2.1.2.2.1, by rw [C.1]; exact R2.1.2.2.2⟩, fun s hs => by rw [fvI D C 262 s]; exact R2.2.1 s hs, by rw [fvI D C 213 1]; exact R2.2.2.1, fun q hq => by rw [fvJ D C 213 2]; exact R2.2.2.2.1 q hq, by rw [fvI D C 213 3]; exact R2.2.2.2.2.1, fun i hi => by rw [fvI D C 263 i]; exact R2.2.2.2.2.2.1 i hi, fun d hd => by rw [fvI D C 264 d]; exact R2.2.2.2.2.2.2.1 d hd, fun d hd => ?_, by rw [fvI D C 213 7]; exact R2.2.2.2.2.2.2.2.2⟩
  show _ = (if prB' (ckP L T.1 sd d) = true then (if pzC T d + 1 < 9 then pzC T d + 1 else 9) else pzC T d)
  have g5 : ∀ d, d < 2 → (hI o6.2 (V 265) d).toInt = pzC T d := fun d hd => by rw [fvI D G 265 d]; exact R2.2.2.2.2.2.2.2.1 d hd
  rw [u8, r_I]
  by_cases w : d = sd
  · have cs := cb sd isd
    have gs := g5 sd isd
    have t9 : ((hI o6.2 (V 265) sd) + (1 : Int32)).toInt = pzC T sd + 1 := by rw [ta (by rw [gs, z1]; omega), gs, z1]
    rw [if_pos ⟨rfl, w⟩, if_pos (prb_e.mpr ⟨w, c, ry⟩), w]
    by_cases y9 : ((hI o6.2 (V 265) sd) + (1 : Int32)) < (9 : Int32)
    · have y9' := lt_i y9
      rw [t9, z9] at y9'
      rw [if_pos y9, if_pos y9', t9]
    · have y9' : ¬ pzC T sd + 1 < 9 := fun z => y9 (Int32.lt_iff_toInt_lt.mpr (by rw [t9, z9]; exact z))
      rw [if_neg y9, if_neg y9', z9]
  · rw [if_neg (fun z => w z.2), if_neg (fun z => w (prb_e.mp z).1)]
    exact g5 d hd
/-- the count -/
theorem mkr_508 (D : VD V) {x5 x8 x9 x10 : Int32} {sd m i : Nat} (H : LOk L) (K : -1 ≤ L 10 0 ∧ L 10 0 ≤ 11) (W : MkW V h L P v i) (R : RbT V h T) (HT : MOk L T.1) (U : UnM T.1 (L 10 0)) (isd : sd < 2) (e5 : x5.toInt = (sd : Int)) (cb : ∀ d, d < 2 → 0 ≤ pzC T d ∧ pzC T d ≤ 9) (kb : 0 ≤ pzK P ∧ pzK P ≤ 200) (e8 : x8.toInt = (m : Int)) (e : sX15_make_508 F h (V 16) (V 13) (V 213) x5 x8 x9 x10 = some o) : FrV V (wl wmk) h o ∧ RbT V o (zFin L T sd (if ¬ x10 = 0 ∨ x9 = 3 ∨ 0 < L 81 m then 0 else if pzK P + 1 < 200 then pzK P + 1 else 200)) := by
  have z0 : (0 : Int32).toInt = 0 := rfl
  have z1 : (1 : Int32).toInt = 1 := rfl
  have z2 : (200 : Int32).toInt = 200 := rfl
  have c8 : x8.toNatClampNeg = m := by have := nc_i (x := x8) (by omega); omega
  have k7 := W.2.2.2.2.2.2.2.2.2.2.2
  unfold sX15_make_508 sX15_make_530 at e
  rcases br_s e with ⟨c, e⟩ | ⟨c, e⟩
  · rcases br_s e with ⟨y, e⟩ | ⟨y, e⟩
    · rw [if_pos (Or.inr (Or.inl y))]
      exact mkr_546 D H K W.1 R HT U isd e5 cb e
    · replace e := cl_s e; obtain ⟨o3, eo3, e⟩ := e
      obtain ⟨w3, b3⟩ := beo_v (rwd_t W.1 R) eo3
      rw [c8] at b3
      rw [w3] at e
      rcases br_s e with ⟨y', e⟩ | ⟨y', e⟩
      · have nb : ¬ 0 < L 81 m := by
          rcases b3 with ⟨_, b⟩ | ⟨b, _⟩
          · exact b
          · rw [b] at y'; exact absurd y' (by decide)
        rw [if_neg (fun z => by
          rcases z with z | z | z
          · exact z c
          · exact y z
          · exact nb z)]
        have := mkr_546 D H K W.1 R HT U isd e5 cb e
        have t7 : ((hI h (V 13) 7) + (1 : Int32)).toInt = pzK P + 1 := by rw [ta (by rw [k7, z1]; omega), k7, z1]
        by_cases y9 : ((hI h (V 13) 7) + (1 : Int32)) < (200 : Int32)
        · have y9' := lt_i y9
          rw [t7, z2] at y9'
          rw [if_pos y9, t7] at this
          rw [if_pos y9']
          exact this
        · have y9' : ¬ pzK P + 1 < 200 := fun z => y9 (Int32.lt_iff_toInt_lt.mpr (by rw [t7, z2]; exact z))
          rw [if_neg y9, z2] at this
          rw [if_neg y9']
          exact this
      · have b : 0 < L 81 m := by
          rcases b3 with ⟨b, _⟩ | ⟨_, b⟩
          · exact absurd b y'
          · exact b
        rw [if_pos (Or.inr (Or.inr b))]
        exact mkr_546 D H K W.1 R HT U isd e5 cb e
  · rw [if_pos (Or.inl c)]
    exact mkr_546 D H K W.1 R HT U isd e5 cb e
end
end
section
/-! the reference: make, PASS and blast -/
theorem onk_md {fi ra s X Y k : Int} (f0 : 0 < fi) (s0 : 0 ≤ s) (o : onK fi ra s X Y k) : tgt fi s X Y k % fi = s % fi + k * X ∧ tgt fi s X Y k / fi = s / fi + k * Y := (tgt_on f0 o).2.2
theorem ofI {n : Nat} {k : Int} (k0 : 0 ≤ k) : (n < k.toNat) ↔ (n : Int) < k := by omega
section
variable {F : Nat} {V : Nat → Nat} {L : Nat → Nat → Int} {h o : Hp} {T P : Pz} {v : MvT}
/-- the squares gone over -/
theorem mkr_415 (D : VD V) {x5 x6 x7 x8 x9 x10 x11 : Int32} {X Y : Int} (H : LOk L) (W : RW0 V h L) (R4 : hR h (V 213) 4 = some (V 263)) (e6 : x6.toInt = v.1) (s0 : 0 ≤ v.1) (sL : v.1 < L 0 0 * L 1 0) (e7 : x7.toInt = v.2.1) (e11 : x11.toInt = v.2.2.2.2.2.2) (k0 : 1 ≤ v.2.2.2.2.2.2 ∧ v.2.2.2.2.2.2 ≤ 7) (iX : -7 ≤ X ∧ X ≤ 7) (iY : -7 ≤ Y ∧ Y ≤ 7) (on : onK (L 0 0) (L 1 0) v.1 X Y v.2.2.2.2.2.2) (et : v.2.1 = tgt (L 0 0) v.1 X Y v.2.2.2.2.2.2) : ∀ (f : Nat) {g : Hp} {x12 : Int32} {n : Nat}, x12.toInt = (n : Int) → 1 ≤ n → (n : Int) ≤ v.2.2.2.2.2.2 → FrV V (wl [(263, 999)]) h g → (∀ i, i < n → (hI g (V 263) i).toInt = (psQ v i : Int)) → sX15_make_415 F f g (V 16) (V 13) (V 213) x5 x6 x7 x8 x9 x10 x11 x12 = some o → ∃ g', FrV V (wl [(263, 999)]) h g' ∧ (∀ i, i < v.2.2.2.2.2.2.toNat → (hI g' (V 263) i).toInt = (psQ v i : Int)) ∧ sX15_make_508 F g' (V 16) (V 13) (V 213) x5 x8 x9 x10 = some o := by
  have z1 : (1 : Int32).toInt = 1 := rfl
  have sq := sq_64 H
  have fi := H.1
  have ra := H.2.1
  obtain ⟨m1, m2⟩ := onk_md (show 0 < L 0 0 by omega) s0 on
  obtain ⟨t0, t1, _⟩ := tgt_on (show 0 < L 0 0 by omega) on
  rw [← et] at m1 m2 t0 t1
  have stp : (v.2.1 - v.1) / v.2.2.2.2.2.2 = Y * L 0 0 + X := by
    have : v.2.1 - v.1 = v.2.2.2.2.2.2 * (Y * L 0 0 + X) := by rw [et, tgt_s]; omega
    rw [this, Int.mul_ediv_cancel_left _ (by omega)]
  intro f
  induction f with
  | zero => intro g x12 n _ _ _ _ _ e; exact absurd e (by rw [sX15_make_415]; exact fun z => nomatch z)
  | succ f ih =>
    intro g x12 n e12 n1 nk A Q e
    rw [sX15_make_415] at e
    rcases br_s e with ⟨c, e⟩ | ⟨c, e⟩
    · have c := le_i c
      rw [e11, e12] at c
      exact ⟨g, A, fun i hi => Q i (by omega), e⟩
    have c := nle_i c
    rw [e11, e12] at c
    have f11 : (hI g (V 16) 11).toInt = L 0 0 := by rw [fvI D A 16 11]; exact W.2.2.1
    have r11 : Rg 3 8 (hI g (V 16) 11) := ⟨by omega, by omega⟩
    have i6 : Rg 0 63 x6 := ⟨by omega, by omega⟩
    have i7 : Rg 0 63 x7 := ⟨by omega, by omega⟩
    have M6 := tr i6 r11 ⟨by decide, by decide⟩
    have M7 := tr i7 r11 ⟨by decide, by decide⟩
    have D6 := td i6 r11 ⟨by decide, by decide⟩
    have D7 := td i7 r11 ⟨by decide, by decide⟩
    rw [f11, e6] at M6 D6
    rw [f11, e7] at M7 D7
    have b6 : 0 ≤ v.1 % L 0 0 ∧ v.1 % L 0 0 < L 0 0 := ⟨Int.emod_nonneg _ (by omega), Int.emod_lt_of_pos _ (by omega)⟩
    have b7 : 0 ≤ v.2.1 % L 0 0 ∧ v.2.1 % L 0 0 < L 0 0 := ⟨Int.emod_nonneg _ (by omega), Int.emod_lt_of_pos _ (by omega)⟩
    have q6 : 0 ≤ v.1 / L 0 0 ∧ v.1 / L 0 0 ≤ 63 := ⟨Int.ediv_nonneg s0 (by omega), by have := Int.ediv_le_self (L 0 0) s0; omega⟩
    have q7 : 0 ≤ v.2.1 / L 0 0 ∧ v.2.1 / L 0 0 ≤ 63 := ⟨Int.ediv_nonneg t0 (by omega), by have := Int.ediv_le_self (L 0 0) t0; omega⟩
    have aX : ((((x7 - x7 / (hI g (V 16) 11) * (hI g (V 16) 11)) - (x6 - x6 / (hI g (V 16) 11) * (hI g (V 16) 11))) / x11)).toInt = X := tdx e11 k0.1 (by
      rw [ts (by rw [M7, M6]; omega), M7, M6, m1]
      omega)
    have aY : (((x7 / (hI g (V 16) 11)) - (x6 / (hI g (V 16) 11))) / x11).toInt = Y := tdx e11 k0.1 (by
      rw [ts (by rw [D7, D6]; omega), D7, D6, m2]
      omega)
    have mid := onk_mid (show 0 < L 0 0 by omega) s0 sL on (j := (n : Int)) ⟨by omega, by omega⟩
    obtain ⟨w1, w2, w3, w4⟩ := mid
    have rX : -56 ≤ X * (n : Int) ∧ X * (n : Int) ≤ 56 := by
      rw [Int.mul_comm]; omega
    have rY : -126 ≤ Y * (n : Int) ∧ Y * (n : Int) ≤ 126 := by
      rw [Int.mul_comm]; omega
    iterate 4 replace e := gg_e e
    replace e := nm_s e; obtain ⟨v6, u6, e⟩ := e
    iterate 4 replace e := gg_e e
    replace e := nm_s e; obtain ⟨v11, u11, e⟩ := e
    have k6 : v6.toInt = v.1 % L 0 0 + n * X := by
      have : ((((x7 - x7 / (hI g (V 16) 11) * (hI g (V 16) 11)) - (x6 - x6 / (hI g (V 16) 11) * (hI g (V 16) 11))) / x11) * x12).toInt = X * n := by rw [tm (by rw [aX, e12]; omega), aX, e12]
      rw [u6, ta (by rw [M6, this]; omega), M6, this, Int.mul_comm]
    have k11 : v11.toInt = v.1 / L 0 0 + n * Y := by
      have : ((((x7 / (hI g (V 16) 11)) - (x6 / (hI g (V 16) 11))) / x11) * x12).toInt = Y * n := by rw [tm (by rw [aY, e12]; omega), aY, e12]
      rw [u11, ta (by rw [D6, this]; omega), D6, this, Int.mul_comm]
    have kk : ((v11 * (hI g (V 16) 11)) + v6).toInt = (psQ v n : Int) := by
      have mm : 0 ≤ (v.1 / L 0 0 + n * Y) * L 0 0 ∧ (v.1 / L 0 0 + n * Y) * L 0 0 ≤ 64 := by
        have a := Int.mul_nonneg w3 (show 0 ≤ L 0 0 by omega)
        have b := Int.mul_le_mul (show v.1 / L 0 0 + n * Y ≤ 8 by omega) (show L 0 0 ≤ 8 by omega) (by omega) (by omega)
        omega
      rw [ta (by rw [tm (by rw [k11, f11]; omega), k11, f11, k6]; omega), tm (by rw [k11, f11]; omega), k11, f11, k6]
      unfold psQ
      rw [if_neg (by omega), stp]
      have tg : (v.1 / L 0 0 + n * Y) * L 0 0 + (v.1 % L 0 0 + n * X) = v.1 + n * (Y * L 0 0 + X) := tgt_s (fi := L 0 0) (s := v.1) (x := X) (y := Y) (k := (n : Int))
      rw [tg]
      have := (tgt_on (show 0 < L 0 0 by omega) (k := (n : Int)) ⟨w1, w2, w3, w4⟩).1
      rw [tgt_s] at this
      omega
    replace e := ce_e (by rw [A.1]; exact R4) e
    replace e := gg_e e
    replace e := nm_s e; obtain ⟨g', ug, e⟩ := e
    have c12 : x12.toNatClampNeg = n := by have := nc_i (x := x12) (by omega); omega
    rw [c12] at ug
    have t12 : (x12 + (1 : Int32)).toInt = ((n + 1 : Nat) : Int) := by rw [ta (by rw [z1]; omega), z1, e12]; omega
    refine ih (g := g') (n := n + 1) t12 (by omega) (by omega) (fv_t A (by rw [ug]; exact fv_w (wl_9 (by decide)))) (fun i hi => ?_) (nx_e e)
    rw [ug, r_I]
    by_cases w : i = n
    · rw [if_pos ⟨rfl, w⟩, kk, w]
    · rw [if_neg (fun z => w z.2)]
      exact Q i (by omega)
/-- PASS behind the move -/
noncomputable def zPass (T : Pz) (v : MvT) : Pz := if v.2.2.2.2.2.1 < 2 ∧ 0 < v.2.2.2.2.2.2 then zPs T v.2.2.2.2.2.2.toNat (psQ v) else T
theorem row_e {i : Nat} (e : rowM V h i = v) : (hI h (V 66) i).toInt = v.1 ∧ (hI h (V 67) i).toInt = v.2.1 ∧ (hI h (V 68) i).toInt = v.2.2.1 ∧ (hI h (V 69) i).toInt = v.2.2.2.1 ∧ (hI h (V 70) i).toInt = v.2.2.2.2.1 ∧ (hI h (V 71) i).toInt = v.2.2.2.2.2.1 ∧ (hI h (V 72) i).toInt = v.2.2.2.2.2.2 := by
  rw [← e]
  exact ⟨rfl, rfl, rfl, rfl, rfl, rfl, rfl⟩
theorem mkr_365 (D : VD V) {x3 x5 x6 x7 x8 x9 x10 : Int32} {sd m : Nat} (H : LOk L) (K : -1 ≤ L 10 0 ∧ L 10 0 ≤ 11) (W : MkW V h L P v x3.toNatClampNeg) (R : RbT V h T) (HT : MOk L T.1) (U : UnM T.1 (L 10 0)) (isd : sd < 2) (e5 : x5.toInt = (sd : Int)) (cb : ∀ d, d < 2 → 0 ≤ pzC T d ∧ pzC T d ≤ 9) (kb : 0 ≤ pzK P ∧ pzK P ≤ 200) (e8 : x8.toInt = (m : Int)) (e6 : v.2.2.2.2.2.1 < 2 → x6.toInt = v.1 ∧ 0 ≤ v.1 ∧ v.1 < L 0 0 * L 1 0) (e7 : x7.toInt = v.2.1) (ps : v.2.2.2.2.2.1 < 2 → 0 < v.2.2.2.2.2.2 → PsL L v) (e : sX15_make_365 F h (V 16) (V 13) (V 14) x3 (V 213) x5 x6 x7 x8 x9 x10 = some o) : FrV V (wl wmk) h o ∧ RbT V o (zFin L (zPass T v) sd (if ¬ x10 = 0 ∨ x9 = 3 ∨ 0 < L 81 m then 0 else if pzK P + 1 < 200 then pzK P + 1 else 200)) := by
  have z0 : (0 : Int32).toInt = 0 := rfl
  have z2 : (2 : Int32).toInt = 2 := rfl
  have n0 : (0 : Int32).toNatClampNeg = 0 := rfl
  obtain ⟨r1, r2, r3, r4, r5, r6, r7⟩ := row_e W.2.2.1
  have wm := W.2.1
  unfold sX15_make_365 at e
  replace e := ce_e wm.2.2.2.2.2.1 e
  replace e := gg_e e
  have non : ¬ (v.2.2.2.2.2.1 < 2 ∧ 0 < v.2.2.2.2.2.2) → sX15_make_508 F h (V 16) (V 13) (V 213) x5 x8 x9 x10 = some o → FrV V (wl wmk) h o ∧ RbT V o (zFin L (zPass T v) sd (if ¬ x10 = 0 ∨ x9 = 3 ∨ 0 < L 81 m then 0 else if pzK P + 1 < 200 then pzK P + 1 else 200)) := fun n u => by
    unfold zPass
    rw [if_neg n]
    exact mkr_508 D H K W R HT U isd e5 cb kb e8 u
  rcases br_s e with ⟨c, e⟩ | ⟨c, e⟩
  · have c := le_i c
    rw [r6, z2] at c
    exact non (fun z => by have := z.1; omega) e
  have c := nle_i c
  rw [r6, z2] at c
  replace e := ce_e wm.2.2.2.2.2.2 e
  replace e := gg_e e
  rcases br_s e with ⟨y, e⟩ | ⟨y, e⟩
  · have y := le_i y
    rw [r7, z0] at y
    exact non (fun z => by have := z.2; omega) e
  have y := nle_i y
  rw [r7, z0] at y
  obtain ⟨k7, X, Y, iX, iY, on, et⟩ := ps c y
  obtain ⟨e6, s0, sL⟩ := e6 c
  have fi := H.1
  have t0 := (tgt_on (show 0 < L 0 0 by omega) on).1
  rw [← et] at t0
  replace e := ce_e wm.2.2.2.2.2.2 e
  replace e := gg_e e
  replace e := nm_s e; obtain ⟨h9, u9, e⟩ := e
  have A9 : FrV V (wl [(213, 3)]) h h9 := by rw [u9]; exact fv_w rfl
  replace e := ce_e (by rw [A9.1]; exact R.1.2.1) e
  replace e := gg_e e
  replace e := nm_s e; obtain ⟨h12, u12, e⟩ := e
  rw [n0] at u12
  have A12 : FrV V (wl [(263, 999)]) h9 h12 := by rw [u12]; exact fv_w (wl_9 (by decide))
  have B : FrV V (wl [(213, 3), (263, 999)]) h h12 := fv_t (fv_s A9 (by decide)) (fv_s A12 (by decide))
  replace e := ce_e (by rw [B.1]; exact wm.2.2.2.2.2.2) e
  replace e := gg_e e
  replace e := nm_s e; obtain ⟨v15, u15, e⟩ := e
  have e15 : v15.toInt = v.2.2.2.2.2.2 := by rw [u15, fvI D B 72 x3.toNatClampNeg]; exact r7
  have W12 := mkw_f D W (fv_s B (by decide))
  obtain ⟨g, G, Q, e⟩ := mkr_415 D H (h := h12) W12.1 (by rw [B.1]; exact R.1.2.1) e6 s0 sL e7 e15 ⟨by omega, k7⟩ iX iY on et F (n := 1) rfl (by decide) (by omega) fv_0 (fun i hi => by
    have i0 : i = 0 := by omega
    rw [u12, r_I, if_pos ⟨rfl, i0⟩, e7, i0]
    unfold psQ
    rw [if_pos rfl]
    omega) e
  have C : FrV V (wl [(213, 3), (263, 999)]) h g := fv_t B (fv_s G (by decide))
  have Cm : FrV V (wl wmk) h g := fv_s C (by decide)
  have Rg' : RbT V g (zPs T v.2.2.2.2.2.2.toNat (psQ v)) := by
    refine ⟨⟨by rw [C.1]; exact R.1.1, by rw [C.1]; exact R.1.2.1, by rw [C.1]; exact R.1.2.2.1, by rw [C.1]; exact R.1.2.2.2⟩, fun s hs => by rw [fvI D C 262 s]; exact R.2.1 s hs, by rw [fvi D C 213 1]; exact R.2.2.1, fun q hq => by rw [fvj D C 213 2]; exact R.2.2.2.1 q hq, ?_, fun i hi => Q i hi, fun d hd => by rw [fvI D C 264 d]; exact R.2.2.2.2.2.2.1 d hd, fun d hd => by rw [fvI D C 265 d]; exact R.2.2.2.2.2.2.2.1 d hd, by rw [fvi D C 213 7]; exact R.2.2.2.2.2.2.2.2⟩
    show _ = ((v.2.2.2.2.2.2.toNat : Nat) : Int)
    rw [fvI D G 213 3, fvI D A12 213 3, u9, r_I, if_pos ⟨rfl, rfl⟩, r7]
    omega
  obtain ⟨X', Z'⟩ := mkr_508 (T := zPs T v.2.2.2.2.2.2.toNat (psQ v)) D H K (mkw_f D W Cm) Rg' HT U isd e5 cb kb e8 e
  refine ⟨fv_t Cm X', ?_⟩
  unfold zPass
  rw [if_pos ⟨c, y⟩]
  exact Z'
/-- blast, or PASS -/
noncomputable def zB (L : Nat → Nat → Int) (T : Pz) (v : MvT) : Pz := if L 18 0 = 0 ∨ v.2.2.2.2.1 = -1 then zPass T v else zBl L T v.2.1.toNat
theorem mok_bl {M : Nat → Int} {t : Nat} (HM : MOk L M) : MOk L (blM L M t) := fun s hs => by
  by_cases b : BlS L M t s
  · rw [blm_y b]
    exact ⟨Int.le_refl _, fun z => absurd z (by decide)⟩
  · rw [blm_n b]
    exact HM s hs
theorem un_bl {M : Nat → Int} {t : Nat} {ro : Int} (U : UnM M ro) : UnM (blM L M t) ro := fun r d s q hd hs hq a b => by
  by_cases c : BlS L M t s
  · rw [blm_y c] at a; omega
  · by_cases c' : BlS L M t q
    · rw [blm_y c'] at b; omega
    · rw [blm_n c] at a
      rw [blm_n c'] at b
      exact U r d s q hd hs hq a b
theorem mkr_339 (D : VD V) {x3 x5 x6 x7 x8 x9 x10 : Int32} {sd m : Nat} (H : LOk L) (K : -1 ≤ L 10 0 ∧ L 10 0 ≤ 11) (W : MkW V h L P v x3.toNatClampNeg) (R : RbT V h T) (HT : MOk L T.1) (U : UnM T.1 (L 10 0)) (isd : sd < 2) (e5 : x5.toInt = (sd : Int)) (cb : ∀ d, d < 2 → 0 ≤ pzC T d ∧ pzC T d ≤ 9) (kb : 0 ≤ pzK P ∧ pzK P ≤ 200) (e8 : x8.toInt = (m : Int)) (e6 : v.2.2.2.2.2.1 < 2 → x6.toInt = v.1 ∧ 0 ≤ v.1 ∧ v.1 < L 0 0 * L 1 0) (e7 : x7.toInt = v.2.1) (t0 : 0 ≤ v.2.1 ∧ v.2.1 < L 0 0 * L 1 0) (ps : v.2.2.2.2.2.1 < 2 → 0 < v.2.2.2.2.2.2 → PsL L v) (e10 : x10 = 0 ↔ v.2.2.2.2.1 = -1) (e : sX15_make_339 F h (V 16) (V 13) (V 14) x3 (V 213) x5 x6 x7 x8 x9 x10 = some o) : FrV V (wl wmk) h o ∧ RbT V o (zFin L (zB L T v) sd (if ¬ x10 = 0 ∨ x9 = 3 ∨ 0 < L 81 m then 0 else if pzK P + 1 < 200 then pzK P + 1 else 200)) := by
  have z0 : (0 : Int32).toInt = 0 := rfl
  have sq := sq_64 H
  have L2 := H.2.2.1
  have l18 : (hI h (V 15) 18).toInt = L 18 0 := lw_0 (rwd_t W.1 R) (by decide) 0
  unfold sX15_make_339 at e
  have non : (L 18 0 = 0 ∨ v.2.2.2.2.1 = -1) → sX15_make_365 F h (V 16) (V 13) (V 14) x3 (V 213) x5 x6 x7 x8 x9 x10 = some o → FrV V (wl wmk) h o ∧ RbT V o (zFin L (zB L T v) sd (if ¬ x10 = 0 ∨ x9 = 3 ∨ 0 < L 81 m then 0 else if pzK P + 1 < 200 then pzK P + 1 else 200)) := fun n u => by
    unfold zB
    rw [if_pos n]
    exact mkr_365 D H K W R HT U isd e5 cb kb e8 e6 e7 ps u
  rcases br_s e with ⟨c, e⟩ | ⟨c, e⟩
  · exact non (Or.inr (e10.mp c)) e
  replace e := ce_e W.1.1.1 e
  rcases br_s e with ⟨y, e⟩ | ⟨y, e⟩
  · rw [y, z0] at l18
    exact non (Or.inl l18.symm) e
  have n18 : ¬ (L 18 0 = 0 ∨ v.2.2.2.2.1 = -1) := fun z => by
    rcases z with z | z
    · exact y (Int32.toInt_inj.mp (by rw [l18, z, z0]))
    · exact c (e10.mpr z)
  replace e := cl_s e; obtain ⟨g, eg, e⟩ := e
  obtain ⟨t, et⟩ : ∃ t : Nat, v.2.1 = (t : Int) := ⟨v.2.1.toNat, by omega⟩
  have tt : v.2.1.toNat = t := by omega
  have rm : ∀ q, q < 64 → 0 ≤ T.1 q ∧ T.1 q ≤ 24 := fun q hq => by
    have a := HT q hq
    by_cases p : 0 < T.1 q
    · have := (a.2 p).2; omega
    · omega
  obtain ⟨A, Ro, b⟩ := bl_r D H (t := t) (by rw [e7, et]) (by omega) (show RSh V h L T.1 from ⟨W.1.1, W.1.2, R.1.1, R.2.1⟩) rm eg
  have Am : FrV V (wl wmk) h g := fv_s A (by decide)
  have Rg' : RbT V g (zBl L T t) := by
    refine ⟨⟨by rw [A.1]; exact R.1.1, by rw [A.1]; exact R.1.2.1, by rw [A.1]; exact R.1.2.2.1, by rw [A.1]; exact R.1.2.2.2⟩, Ro.2.2.2, by rw [fvi D A 213 1]; exact R.2.2.1, fun q hq => ?_, by rw [fvi D A 213 3]; exact R.2.2.2.2.1, fun i hi => by rw [fvI D A 263 i]; exact R.2.2.2.2.2.1 i hi, fun d hd => by rw [fvI D A 264 d]; exact R.2.2.2.2.2.2.1 d hd, fun d hd => by rw [fvI D A 265 d]; exact R.2.2.2.2.2.2.2.1 d hd, by rw [fvi D A 213 7]; exact R.2.2.2.2.2.2.2.2⟩
    have b' := b q hq
    rw [R.2.2.2.1 q hq] at b'
    show bitJ (hJ g (V 213) 2) q = (pzR T q && !prB' (BlS L T.1 t q))
    apply bl_iff
    rw [b', Bool.and_eq_true, Bool.not_eq_true', prb_f]
  obtain ⟨X', Z'⟩ := mkr_508 (T := zBl L T t) D H K (mkw_f D W Am) Rg' (mok_bl HT) (un_bl U) isd e5 cb kb e8 e
  refine ⟨fv_t Am X', ?_⟩
  unfold zB
  rw [if_neg n18, tt]
  exact Z'
end
end
section
/-! the reference: make, men -/
noncomputable def zRn (L : Nat → Nat → Int) (T : Pz) (sd : Nat) (n : Int) : Pz := (T.1, pzS T, (fun q => pzR T q && !prB' ((q : Int) < n ∧ rkF L q sd = 1)), pzN T, pzQ T, pzH T, pzC T, pzK T)
noncomputable def zRoy (L : Nat → Nat → Int) (T : Pz) (sd : Nat) (v : MvT) : Pz := if ¬ v.2.2.2.2.2.1 = 3 ∧ v.2.2.1 = L 10 0 then zRy L T sd else T
/-- castling: the other man -/
def zCs (M : Nat → Int) (v : MvT) (T : Pz) : Pz := if v.2.2.2.2.2.1 = 2 then zCm (zCm T v.2.2.2.2.2.2.toNat 0) ((v.1 + v.2.1) / 2).toNat (M v.2.2.2.2.2.2.toNat) else T
/-- he leaves a square, or the hand -/
def zLv (T : Pz) (v : MvT) (sd : Nat) : Pz := if v.2.2.2.2.2.1 = 3 then zHd T (2 * v.2.2.1.toNat + sd) (pzH T (2 * v.2.2.1.toNat + sd) - 1) else zCm T v.1.toNat 0
/-- one is taken -/
def zTk (L : Nat → Nat → Int) (T : Pz) (v : MvT) (sd p0 : Nat) : Pz := if ¬ L 15 0 = 0 ∧ ¬ v.2.2.2.2.1 = L 10 0 ∧ pzH T (2 * v.2.2.2.2.1.toNat + sd) < 16 then zHd (zCm T (if v.2.2.2.2.2.1 = 1 then p0 else v.2.1.toNat) 0) (2 * v.2.2.2.2.1.toNat + sd) (pzH T (2 * v.2.2.2.2.1.toNat + sd) + 1) else zCm T (if v.2.2.2.2.2.1 = 1 then p0 else v.2.1.toNat) 0
def zTk0 (L : Nat → Nat → Int) (T : Pz) (v : MvT) (sd p0 : Nat) : Pz := if v.2.2.2.2.1 = -1 then T else zTk L T v sd p0
def zCnt (L : Nat → Nat → Int) (P : Pz) (v : MvT) : Int := if ¬ v.2.2.2.2.1 = -1 ∨ v.2.2.2.2.2.1 = 3 ∨ 0 < L 81 v.2.2.1.toNat then 0 else if pzK P + 1 < 200 then pzK P + 1 else 200
section
variable {F : Nat} {V : Nat → Nat} {L : Nat → Nat → Int} {h o : Hp} {T P : Pz} {v : MvT}
/-- what is known of the move while it is made -/
def MkX (V : Nat → Nat) (L : Nat → Nat → Int) (P : Pz) (v : MvT) (x3 x5 x6 x7 x8 x9 x10 : Int32) (sd : Nat) : Prop := (LOk L ∧ -1 ≤ L 10 0 ∧ L 10 0 ≤ 11) ∧ (sd < 2 ∧ x5.toInt = (sd : Int)) ∧ (∀ d, d < 2 → 0 ≤ pzC P d ∧ pzC P d ≤ 9) ∧ (0 ≤ pzK P ∧ pzK P ≤ 200) ∧ (x8.toInt = v.2.2.1 ∧ 0 ≤ v.2.2.1 ∧ v.2.2.1 ≤ 11) ∧ (x7.toInt = v.2.1 ∧ 0 ≤ v.2.1 ∧ v.2.1 < L 0 0 * L 1 0) ∧ (x9.toInt = v.2.2.2.2.2.1 ∧ 0 ≤ v.2.2.2.2.2.1 ∧ v.2.2.2.2.2.1 ≤ 3) ∧ (¬ v.2.2.2.2.2.1 = 3 → x6.toInt = v.1 ∧ 0 ≤ v.1 ∧ v.1 < L 0 0 * L 1 0) ∧ (x10 = 0 ↔ v.2.2.2.2.1 = -1) ∧ (v.2.2.2.2.2.1 < 2 → 0 < v.2.2.2.2.2.2 → PsL L v) ∧ (v.2.2.2.2.2.1 = 2 → 0 ≤ v.2.2.2.2.2.2 ∧ v.2.2.2.2.2.2 < 64) ∧ (v.2.2.2.1 = -1 ∨ (0 ≤ v.2.2.2.1 ∧ v.2.2.2.1 ≤ 11)) ∧ (v.2.2.2.2.1 = -1 ∨ (0 ≤ v.2.2.2.2.1 ∧ v.2.2.2.2.1 ≤ 11)) ∧ ∀ d, d < 24 → 0 ≤ pzH P d ∧ pzH P d ≤ 16
theorem mkr_339x (D : VD V) {x3 x5 x6 x7 x8 x9 x10 : Int32} {sd : Nat} (X : MkX V L P v x3 x5 x6 x7 x8 x9 x10 sd) (W : MkW V h L P v x3.toNatClampNeg) (R : RbT V h T) (HT : MOk L T.1) (U : UnM T.1 (L 10 0)) (eC : pzC T = pzC P) (e : sX15_make_339 F h (V 16) (V 13) (V 14) x3 (V 213) x5 x6 x7 x8 x9 x10 = some o) : FrV V (wl wmk) h o ∧ RbT V o (zFin L (zB L T v) sd (zCnt L P v)) := by
  have z3 : (3 : Int32).toInt = 3 := rfl
  obtain ⟨⟨H, K⟩, ⟨isd, e5⟩, cb, kb, ⟨e8, m0, m1⟩, ⟨e7, t0⟩, ⟨e9, _⟩, e6, e10, ps, _⟩ := X
  have r := mkr_339 D (m := v.2.2.1.toNat) H K W R HT U isd e5 (by rw [eC]; exact cb) kb (by rw [e8]; omega) (fun z => e6 (by omega)) e7 t0 ps e10 e
  have e9' : x9 = 3 ↔ v.2.2.2.2.2.1 = 3 := by
    rw [← e9, ← z3]
    exact Int32.toInt_inj.symm
  have ec : (if ¬ x10 = 0 ∨ x9 = 3 ∨ 0 < L 81 v.2.2.1.toNat then 0 else if pzK P + 1 < 200 then pzK P + 1 else 200) = zCnt L P v := by
    unfold zCnt
    by_cases q : ¬ x10 = 0 ∨ x9 = 3 ∨ 0 < L 81 v.2.2.1.toNat
    · have q' : ¬ v.2.2.2.2.1 = -1 ∨ v.2.2.2.2.2.1 = 3 ∨ 0 < L 81 v.2.2.1.toNat := by rw [← e10, ← e9']; exact q
      rw [if_pos q, if_pos q']
    · have q' : ¬ (¬ v.2.2.2.2.1 = -1 ∨ v.2.2.2.2.2.1 = 3 ∨ 0 < L 81 v.2.2.1.toNat) := by rw [← e10, ← e9']; exact q
      rw [if_neg q, if_neg q']
  rw [ec] at r
  exact r
/-- the ROYAL man has moved -/
theorem mkr_294 (D : VD V) {x3 x5 x6 x7 x8 x9 x10 : Int32} {sd : Nat} (X : MkX V L P v x3 x5 x6 x7 x8 x9 x10 sd) (HT : MOk L T.1) (U : UnM T.1 (L 10 0)) (eC : pzC T = pzC P) : ∀ (f : Nat) {h : Hp} {x11 : Int32} {n : Nat}, x11.toInt = (n : Int) → (n : Int) ≤ L 0 0 * L 1 0 → MkW V h L P v x3.toNatClampNeg → RbT V h (zRn L T sd n) → sX15_make_294 F f h (V 16) (V 13) (V 14) x3 (V 213) x5 x6 x7 x8 x9 x10 x11 = some o → FrV V (wl wmk) h o ∧ RbT V o (zFin L (zB L (zRy L T sd) v) sd (zCnt L P v)) := by
  have z1 : (1 : Int32).toInt = 1 := rfl
  have H := X.1.1
  have isd := X.2.1.1
  have e5 := X.2.1.2
  have sq := sq_64 H
  intro f
  induction f with
  | zero => intro h x11 n _ _ _ _ e; exact absurd e (by rw [sX15_make_294]; exact fun z => nomatch z)
  | succ f ih =>
    intro h x11 n e11 nL W R e
    have f13 := W.1.2.2.2.2
    rw [sX15_make_294] at e
    unfold sX15_make_333 at e
    rcases br_s e with ⟨c, e⟩ | ⟨c, e⟩
    · have c := le_i c
      rw [f13, e11] at c
      have en : (n : Int) = L 0 0 * L 1 0 := by omega
      rw [en] at R
      exact mkr_339x D X W R HT U eC e
    have c := nle_i c
    rw [f13, e11] at c
    have i11 : Rg 0 63 x11 := ⟨by omega, by omega⟩
    have c11 : x11.toNatClampNeg = n := by have := nc_i (x := x11) (by omega); omega
    have t11 : (x11 + (1 : Int32)).toInt = ((n + 1 : Nat) : Int) := by rw [ta (by rw [z1]; omega), z1, e11]; omega
    replace e := cl_s e; obtain ⟨o2, eo2, e⟩ := e
    obtain ⟨w2, r2⟩ := rkf_v H (rwd_t W.1 R) (by omega) (by omega) eo2
    rw [c11, e5] at r2
    rw [w2] at e
    rcases br_s e with ⟨y, e⟩ | ⟨y, e⟩
    · have rk : rkF L n sd = 1 := by rw [← r2, y, z1]
      replace e := nm_s e; obtain ⟨g, ug, e⟩ := e
      have A : FrV V (wl [(213, 2)]) h g := by rw [ug]; exact fv_j rfl
      have Am : FrV V (wl wmk) h g := fv_s A (by decide)
      obtain ⟨B, Z⟩ := ih (n := n + 1) t11 (by omega) (mkw_f D W Am) (by
        refine ⟨⟨by rw [A.1]; exact R.1.1, by rw [A.1]; exact R.1.2.1, by rw [A.1]; exact R.1.2.2.1, by rw [A.1]; exact R.1.2.2.2⟩, fun s hs => by rw [fvI D A 262 s]; exact R.2.1 s hs, by rw [fvi D A 213 1]; exact R.2.2.1, fun q hq => ?_, by rw [fvi D A 213 3]; exact R.2.2.2.2.1, fun i hi => by rw [fvI D A 263 i]; exact R.2.2.2.2.2.1 i hi, fun d hd => by rw [fvI D A 264 d]; exact R.2.2.2.2.2.2.1 d hd, fun d hd => by rw [fvI D A 265 d]; exact R.2.2.2.2.2.2.2.1 d hd, by rw [fvi D A 213 7]; exact R.2.2.2.2.2.2.2.2⟩
        have r4 : bitJ (hJ h (V 213) 2) q = (pzR T q && !prB' ((q : Int) < (n : Int) ∧ rkF L q sd = 1)) := R.2.2.2.1 q hq
        show _ = (pzR T q && !prB' ((q : Int) < ((n + 1 : Nat) : Int) ∧ rkF L q sd = 1))
        rw [ug, r_J, if_pos ⟨rfl, rfl⟩, bj_and, bj_not _ hq, bj_one i11, c11, r4]
        apply bl_iff
        rw [Bool.and_eq_true, Bool.and_eq_true, Bool.and_eq_true, Bool.not_eq_true', Bool.not_eq_true', Bool.not_eq_true', decide_eq_false_iff_not, prb_f, prb_f]
        constructor
        · rintro ⟨⟨a, b⟩, d⟩
          exact ⟨a, fun z => b ⟨by have := z.1; omega, z.2⟩⟩
        · rintro ⟨a, b⟩
          refine ⟨⟨a, fun z => b ⟨by have := z.1; omega, z.2⟩⟩, fun z => b ?_⟩
          rw [← z]
          exact ⟨by omega, rk⟩) (nx_e e)
      exact ⟨fv_t Am B, Z⟩
    · have rk : ¬ rkF L n sd = 1 := fun z => y (Int32.toInt_inj.mp (by rw [r2, z, z1]))
      refine ih (n := n + 1) t11 (by omega) W (rbt_c R (fun _ _ => rfl) rfl (fun q hq => ?_) rfl (fun _ _ => rfl) (fun _ _ => rfl) (fun _ _ => rfl) rfl) (nx_e e)
      show (pzR T q && !prB' ((q : Int) < (n : Int) ∧ rkF L q sd = 1)) = (pzR T q && !prB' ((q : Int) < ((n + 1 : Nat) : Int) ∧ rkF L q sd = 1))
      apply bl_iff
      rw [Bool.and_eq_true, Bool.and_eq_true, Bool.not_eq_true', Bool.not_eq_true', prb_f, prb_f]
      constructor
      · rintro ⟨a, b⟩
        refine ⟨a, fun z => ?_⟩
        by_cases w : q = n
        · rw [w] at z; exact rk z.2
        · exact b ⟨by have := z.1; omega, z.2⟩
      · rintro ⟨a, b⟩
        exact ⟨a, fun z => b ⟨by have := z.1; omega, z.2⟩⟩
theorem mkr_273 (D : VD V) {x3 x5 x6 x7 x8 x9 x10 : Int32} {sd : Nat} (X : MkX V L P v x3 x5 x6 x7 x8 x9 x10 sd) (W : MkW V h L P v x3.toNatClampNeg) (R : RbT V h T) (HT : MOk L T.1) (U : UnM T.1 (L 10 0)) (eC : pzC T = pzC P) (e : sX15_make_273 F h (V 16) (V 13) (V 14) x3 (V 213) x5 x6 x7 x8 x9 x10 = some o) : FrV V (wl wmk) h o ∧ RbT V o (zFin L (zB L (zRoy L T sd v) v) sd (zCnt L P v)) := by
  have z0 : (0 : Int32).toInt = 0 := rfl
  have z3 : (3 : Int32).toInt = 3 := rfl
  have sq := sq_64 X.1.1
  have l10 : (hI h (V 15) 10).toInt = L 10 0 := lw_0 (rwd_t W.1 R) (by decide) 0
  have e8 := X.2.2.2.2.1.1
  have e9 := X.2.2.2.2.2.2.1.1
  unfold sX15_make_273 at e
  unfold zRoy
  rcases br_s e with ⟨c, e⟩ | ⟨c, e⟩
  · rw [c, z3] at e9
    rw [if_neg (fun z => z.1 e9.symm)]
    exact mkr_339x D X W R HT U eC e
  have n3 : ¬ v.2.2.2.2.2.1 = 3 := fun z => c (Int32.toInt_inj.mp (by rw [e9, z, z3]))
  replace e := ce_e W.1.1.1 e
  rcases br_s e with ⟨y, e⟩ | ⟨y, e⟩
  · rw [if_pos ⟨n3, by rw [← e8, y, l10]⟩]
    refine mkr_294 D X HT U eC F (n := 0) z0 (by omega) W (rbt_c R (fun _ _ => rfl) rfl (fun q hq => ?_) rfl (fun _ _ => rfl) (fun _ _ => rfl) (fun _ _ => rfl) rfl) e
    show pzR T q = (pzR T q && !prB' ((q : Int) < ((0 : Nat) : Int) ∧ rkF L q sd = 1))
    rw [prb_f.mpr (fun z => by have := z.1; omega)]
    simp
  · rw [if_neg (fun z => y (Int32.toInt_inj.mp (by rw [e8, z.2, l10])))]
    exact mkr_339x D X W R HT U eC e
/-- he comes; castling -/
theorem mkr_219 (D : VD V) {x3 x5 x6 x7 x8 x9 x10 t0 : Int32} {sd : Nat} {nm' : Int} (X : MkX V L P v x3 x5 x6 x7 x8 x9 x10 sd) (W : MkW V h L P v x3.toNatClampNeg) (R : RbT V h T) (et : t0.toInt = nm') (nb : 0 ≤ nm' ∧ nm' ≤ 11) (HT : MOk L (zCs P.1 v (zCm T v.2.1.toNat (cdV nm' sd))).1) (U : UnM (zCs P.1 v (zCm T v.2.1.toNat (cdV nm' sd))).1 (L 10 0)) (eC : pzC T = pzC P) (e : sX15_make_219 F h (V 16) (V 13) (V 14) x3 (V 213) x5 x6 x7 x8 x9 x10 t0 x7 (V 213) (V 16) = some o) : FrV V (wl wmk) h o ∧ RbT V o (zFin L (zB L (zRoy L (zCs P.1 v (zCm T v.2.1.toNat (cdV nm' sd))) sd v) v) sd (zCnt L P v)) := by
  have z1 : (1 : Int32).toInt = 1 := rfl
  have z2 : (2 : Int32).toInt = 2 := rfl
  have sq := sq_64 X.1.1
  have isd := X.2.1.1
  have e5 := X.2.1.2
  obtain ⟨e7, t0', t1'⟩ := X.2.2.2.2.2.1
  have e9 := X.2.2.2.2.2.2.1.1
  have c7 : x7.toNatClampNeg = v.2.1.toNat := by have := nc_i (x := x7) (by omega); omega
  have q2 : ((2 : Int32) * t0).toInt = 2 * nm' := by rw [tm (by rw [z2, et]; omega), z2, et]
  have q3 : ((1 : Int32) + ((2 : Int32) * t0)).toInt = 1 + 2 * nm' := by rw [ta (by rw [z1, q2]; omega), z1, q2]
  have q4 : (((1 : Int32) + ((2 : Int32) * t0)) + x5).toInt = cdV nm' sd := by rw [ta (by rw [q3, e5]; omega), q3, e5]; rfl
  unfold sX15_make_219 sX15_valueOf at e
  replace e := cl_s e; obtain ⟨o1, eo1, e⟩ := e
  rw [so_e eo1] at e
  replace e := cl_s e; obtain ⟨g, eg, e⟩ := e
  obtain ⟨A, Rg'⟩ := rb_cm D W.1 R (x := x7) ⟨by omega, by omega⟩ eg
  rw [c7] at Rg'
  have Rg' : RbT V g (zCm T v.2.1.toNat (cdV nm' sd)) := by rw [← q4]; exact Rg'
  have Wg := mkw_f D W A
  rcases br_s e with ⟨c, e⟩ | ⟨c, e⟩
  · rw [c, z2] at e9
    have k2 := e9.symm
    obtain ⟨p0, p1⟩ := X.2.2.2.2.2.2.2.2.2.2.1 k2
    obtain ⟨e6, s0, s1⟩ := X.2.2.2.2.2.2.2.1 (by rw [k2]; decide)
    obtain ⟨_, _, _, _, _, _, r7⟩ := row_e Wg.2.2.1
    have cp : (hI g (V 72) x3.toNatClampNeg).toNatClampNeg = v.2.2.2.2.2.2.toNat := by have := nc_i (x := hI g (V 72) x3.toNatClampNeg) (by omega); omega
    unfold zCs at HT U ⊢
    rw [if_pos k2] at HT U ⊢
    replace e := ce_e Wg.2.2.2.1.1 e
    replace e := ce_e Wg.2.1.2.2.2.2.2.2 e
    replace e := gg_e e
    replace e := gg_e e
    replace e := nm_s e; obtain ⟨v8, u8, e⟩ := e
    rw [cp] at u8
    have m8 : v8.toInt = P.1 v.2.2.2.2.2.2.toNat := by rw [u8]; exact Wg.2.2.2.2.1 _ (by omega)
    replace e := ce_e Wg.2.1.2.2.2.2.2.2 e
    replace e := gg_e e
    replace e := cl_s e; obtain ⟨g2, eg2, e⟩ := e
    obtain ⟨A2, R2⟩ := rb_lv D Wg.1 Rg' (x := hI g (V 72) x3.toNatClampNeg) ⟨by omega, by omega⟩ eg2
    rw [cp] at R2
    have W2 := mkw_f D Wg A2
    replace e := cl_s e; obtain ⟨g3, eg3, e⟩ := e
    have s67 : (x6 + x7).toInt = v.1 + v.2.1 := by rw [ta (by rw [e6, e7]; omega), e6, e7]
    have d67 : ((x6 + x7) / (2 : Int32)).toInt = (v.1 + v.2.1) / 2 := by
      have := td (x := x6 + x7) (y := 2) (a := 0) (b := 126) (c := 2) (d := 2) ⟨by omega, by omega⟩ ⟨by decide, by decide⟩ ⟨by decide, by decide⟩
      rw [this, s67, z2]
    have c67 : ((x6 + x7) / (2 : Int32)).toNatClampNeg = ((v.1 + v.2.1) / 2).toNat := by have := nc_i (x := (x6 + x7) / (2 : Int32)) (by omega); omega
    obtain ⟨A3, R3⟩ := rb_cm D W2.1 R2 (x := (x6 + x7) / (2 : Int32)) ⟨by omega, by omega⟩ eg3
    rw [c67, m8] at R3
    have W3 := mkw_f D W2 A3
    obtain ⟨B, Z⟩ := mkr_273 D X W3 R3 HT U eC e
    exact ⟨fv_t A (fv_t A2 (fv_t A3 B)), Z⟩
  · have k2 : ¬ v.2.2.2.2.2.1 = 2 := fun z => c (Int32.toInt_inj.mp (by rw [e9, z, z2]))
    unfold zCs at HT U ⊢
    rw [if_neg k2] at HT U ⊢
    obtain ⟨B, Z⟩ := mkr_273 D X Wg Rg' HT U eC e
    exact ⟨fv_t A B, Z⟩
/-- men behind him that comes -/
def zNew (P T : Pz) (v : MvT) (sd : Nat) : Pz := zCs P.1 v (zCm T v.2.1.toNat (nwV sd v))
theorem mkr_193 (D : VD V) {x3 x5 x6 x7 x8 x9 x10 : Int32} {sd : Nat} (X : MkX V L P v x3 x5 x6 x7 x8 x9 x10 sd) (W : MkW V h L P v x3.toNatClampNeg) (R : RbT V h T) (HT : MOk L (zNew P T v sd).1) (U : UnM (zNew P T v sd).1 (L 10 0)) (eC : pzC T = pzC P) (e : sX15_make_193 F h (V 16) (V 13) (V 14) x3 (V 213) x5 x6 x7 x8 x9 x10 = some o) : FrV V (wl wmk) h o ∧ RbT V o (zFin L (zB L (zRoy L (zNew P T v sd) sd v) v) sd (zCnt L P v)) := by
  have zm : (-1 : Int32).toInt = -1 := by decide
  obtain ⟨_, _, _, r4, _, _, _⟩ := row_e W.2.2.1
  obtain ⟨e8, m0, m1⟩ := X.2.2.2.2.1
  have bb := X.2.2.2.2.2.2.2.2.2.2.2.1
  unfold sX15_make_193 at e
  unfold zNew nwV at HT U ⊢
  replace e := ce_e W.2.1.2.2.2.1 e
  replace e := gg_e e
  rcases br_s e with ⟨c, e⟩ | ⟨c, e⟩
  · rw [c, zm] at r4
    rw [if_pos r4.symm] at HT U ⊢
    exact mkr_219 D X W R e8 ⟨m0, m1⟩ HT U eC e
  · have nb : ¬ v.2.2.2.1 = -1 := fun z => c (Int32.toInt_inj.mp (by rw [r4, z, zm]))
    rw [if_neg nb] at HT U ⊢
    replace e := ce_e W.2.1.2.2.2.1 e
    replace e := gg_e e
    exact mkr_219 D X W R r4 (by omega) HT U eC e
theorem mkr_159 (D : VD V) {x3 x5 x6 x7 x8 x9 x10 : Int32} {sd : Nat} (X : MkX V L P v x3 x5 x6 x7 x8 x9 x10 sd) (W : MkW V h L P v x3.toNatClampNeg) (R : RbT V h T) (hb : ∀ d, d < 24 → 0 ≤ pzH T d ∧ pzH T d ≤ 17) (HT : MOk L (zNew P (zLv T v sd) v sd).1) (U : UnM (zNew P (zLv T v sd) v sd).1 (L 10 0)) (eC : pzC T = pzC P) (e : sX15_make_159 F h (V 16) (V 13) (V 14) x3 (V 213) x5 x6 x7 x8 x9 x10 = some o) : FrV V (wl wmk) h o ∧ RbT V o (zFin L (zB L (zRoy L (zNew P (zLv T v sd) v sd) sd v) v) sd (zCnt L P v)) := by
  have z1 : (1 : Int32).toInt = 1 := rfl
  have z2 : (2 : Int32).toInt = 2 := rfl
  have z3 : (3 : Int32).toInt = 3 := rfl
  have sq := sq_64 X.1.1
  have isd := X.2.1.1
  have e5 := X.2.1.2
  have e9 := X.2.2.2.2.2.2.1.1
  obtain ⟨e8, m0, m1⟩ := X.2.2.2.2.1
  have q2 : ((2 : Int32) * x8).toInt = 2 * v.2.2.1 := by rw [tm (by rw [z2, e8]; omega), z2, e8]
  have q3 : (((2 : Int32) * x8) + x5).toInt = 2 * v.2.2.1 + sd := by rw [ta (by rw [q2, e5]; omega), q2, e5]
  have c3 : (((2 : Int32) * x8) + x5).toNatClampNeg = 2 * v.2.2.1.toNat + sd := by have := nc_i (x := ((2 : Int32) * x8) + x5) (by omega); omega
  unfold sX15_make_159 at e
  unfold zLv at HT U ⊢
  rcases br_s e with ⟨c, e⟩ | ⟨c, e⟩
  · rw [c, z3] at e9
    rw [if_pos e9.symm] at HT U ⊢
    replace e := ce_e R.1.2.2.1 e
    replace e := gg_e e
    replace e := gg_e e
    replace e := nm_s e; obtain ⟨g, ug, e⟩ := e
    rw [c3] at ug
    have hv' := R.2.2.2.2.2.2.1 (2 * v.2.2.1.toNat + sd) (by omega)
    have hb' := hb (2 * v.2.2.1.toNat + sd) (by omega)
    have tv : ((hI h (V 264) (2 * v.2.2.1.toNat + sd)) - (1 : Int32)).toInt = pzH T (2 * v.2.2.1.toNat + sd) - 1 := by rw [ts (by rw [hv', z1]; omega), hv', z1]
    obtain ⟨A, Rg'⟩ := rb_hd D (d := 2 * v.2.2.1.toNat + sd) (x := (hI h (V 264) (2 * v.2.2.1.toNat + sd)) - (1 : Int32)) R
    rw [← ug] at A Rg'
    rw [tv] at Rg'
    obtain ⟨B, Z⟩ := mkr_193 D X (mkw_f D W A) Rg' HT U eC e
    exact ⟨fv_t A B, Z⟩
  · have k3 : ¬ v.2.2.2.2.2.1 = 3 := fun z => c (Int32.toInt_inj.mp (by rw [e9, z, z3]))
    rw [if_neg k3] at HT U ⊢
    obtain ⟨e6, s0, s1⟩ := X.2.2.2.2.2.2.2.1 k3
    have c6 : x6.toNatClampNeg = v.1.toNat := by have := nc_i (x := x6) (by omega); omega
    replace e := cl_s e; obtain ⟨g, eg, e⟩ := e
    obtain ⟨A, Rg'⟩ := rb_lv D W.1 R (x := x6) ⟨by omega, by omega⟩ eg
    rw [c6] at Rg'
    obtain ⟨B, Z⟩ := mkr_193 D X (mkw_f D W A) Rg' HT U eC e
    exact ⟨fv_t A B, Z⟩
end
end
section
/-! the reference: make, whole -/
section
variable {F : Nat} {V : Nat → Nat} {L : Nat → Nat → Int} {h o : Hp} {T P : Pz} {v : MvT}
theorem mkr_92 (D : VD V) {x3 x5 x6 x7 x8 x9 x10 t0 : Int32} {sd p0 : Nat} (X : MkX V L P v x3 x5 x6 x7 x8 x9 x10 sd) (W : MkW V h L P v x3.toNatClampNeg) (R : RbT V h T) (tk : ¬ v.2.2.2.2.1 = -1) (et : t0.toInt = (((if v.2.2.2.2.2.1 = 1 then p0 else v.2.1.toNat) : Nat) : Int)) (p64 : v.2.2.2.2.2.1 = 1 → p0 < 64) (hT : pzH T = pzH P) (HT : MOk L (zNew P (zLv (zTk L T v sd p0) v sd) v sd).1) (U : UnM (zNew P (zLv (zTk L T v sd p0) v sd) v sd).1 (L 10 0)) (eC : pzC T = pzC P) (e : sX15_make_92 F h (V 16) (V 13) (V 14) x3 (V 213) x5 x6 x7 x8 x9 x10 t0 (V 213) (V 16) = some o) : FrV V (wl wmk) h o ∧ RbT V o (zFin L (zB L (zRoy L (zNew P (zLv (zTk L T v sd p0) v sd) v sd) sd v) v) sd (zCnt L P v)) := by
  have z0 : (0 : Int32).toInt = 0 := rfl
  have z1 : (1 : Int32).toInt = 1 := rfl
  have z2 : (2 : Int32).toInt = 2 := rfl
  have z16 : (16 : Int32).toInt = 16 := rfl
  have sq := sq_64 X.1.1
  have isd := X.2.1.1
  have e5 := X.2.1.2
  obtain ⟨_, t0', t1'⟩ := X.2.2.2.2.2.1
  have tb := X.2.2.2.2.2.2.2.2.2.2.2.2.1
  have hb := X.2.2.2.2.2.2.2.2.2.2.2.2.2
  have a11 : 0 ≤ v.2.2.2.2.1 ∧ v.2.2.2.2.1 ≤ 11 := by omega
  have s64 : (if v.2.2.2.2.2.1 = 1 then p0 else v.2.1.toNat) < 64 := by
    split
    · rename_i c; exact p64 c
    · omega
  have c0 : t0.toNatClampNeg = (if v.2.2.2.2.2.1 = 1 then p0 else v.2.1.toNat) := by have := nc_i (x := t0) (by omega); omega
  unfold sX15_make_92 at e
  replace e := cl_s e; obtain ⟨g, eg, e⟩ := e
  obtain ⟨A, Rg'⟩ := rb_lv D W.1 R (x := t0) ⟨by omega, by omega⟩ eg
  rw [c0] at Rg'
  have Wg := mkw_f D W A
  obtain ⟨_, _, _, _, r5, _, _⟩ := row_e Wg.2.2.1
  have l15 : (hI g (V 15) 15).toInt = L 15 0 := lw_0 (rwd_t Wg.1 Rg') (by decide) 0
  have l10 : (hI g (V 15) 10).toInt = L 10 0 := lw_0 (rwd_t Wg.1 Rg') (by decide) 0
  replace e := ce_e Wg.2.1.2.2.2.2.1 e
  replace e := gg_e e
  replace e := nm_s e; obtain ⟨v4, u4, e⟩ := e
  have q2 : ((2 : Int32) * (hI g (V 70) x3.toNatClampNeg)).toInt = 2 * v.2.2.2.2.1 := by rw [tm (by rw [z2, r5]; omega), z2, r5]
  have q4 : v4.toInt = 2 * v.2.2.2.2.1 + sd := by rw [u4, ta (by rw [q2, e5]; omega), q2, e5]
  have c4 : v4.toNatClampNeg = 2 * v.2.2.2.2.1.toNat + sd := by have := nc_i (x := v4) (by omega); omega
  have hT' : ∀ d, d < 24 → 0 ≤ pzH T d ∧ pzH T d ≤ 16 := by rw [hT]; exact hb
  -- he is not kept
  have non : ¬ (¬ L 15 0 = 0 ∧ ¬ v.2.2.2.2.1 = L 10 0 ∧ pzH T (2 * v.2.2.2.2.1.toNat + sd) < 16) → sX15_make_159 F g (V 16) (V 13) (V 14) x3 (V 213) x5 x6 x7 x8 x9 x10 = some o → FrV V (wl wmk) h o ∧ RbT V o (zFin L (zB L (zRoy L (zNew P (zLv (zTk L T v sd p0) v sd) v sd) sd v) v) sd (zCnt L P v)) := fun n u => by
    have k : zTk L T v sd p0 = zCm T (if v.2.2.2.2.2.1 = 1 then p0 else v.2.1.toNat) 0 := if_neg n
    rw [k] at HT U ⊢
    obtain ⟨B, Z⟩ := mkr_159 D X Wg Rg' (fun d hd => by have := hT' d hd; exact ⟨this.1, by show pzH T d ≤ 17; omega⟩) HT U eC u
    exact ⟨fv_t A B, Z⟩
  replace e := ce_e Wg.1.1.1 e
  rcases br_s e with ⟨c, e⟩ | ⟨c, e⟩
  · rw [c, z0] at l15
    exact non (fun z => z.1 l15.symm) e
  have n15 : ¬ L 15 0 = 0 := fun z => c (Int32.toInt_inj.mp (by rw [l15, z, z0]))
  replace e := ce_e Wg.2.1.2.2.2.2.1 e
  replace e := gg_e e
  replace e := ce_e Wg.1.1.1 e
  rcases br_s e with ⟨y, e⟩ | ⟨y, e⟩
  · exact non (fun z => z.2.1 (by rw [← r5, y, l10])) e
  have n10 : ¬ v.2.2.2.2.1 = L 10 0 := fun z => y (Int32.toInt_inj.mp (by rw [r5, z, l10]))
  have hv' : (hI g (V 264) (2 * v.2.2.2.2.1.toNat + sd)).toInt = pzH T (2 * v.2.2.2.2.1.toNat + sd) := Rg'.2.2.2.2.2.2.1 _ (by omega)
  replace e := ce_e Rg'.1.2.2.1 e
  replace e := gg_e e
  rcases br_s e with ⟨w, e⟩ | ⟨w, e⟩ <;> rw [c4] at w
  · have w := le_i w
    rw [z16, hv'] at w
    exact non (fun z => by have := z.2.2; omega) e
  have w := nle_i w
  rw [z16, hv'] at w
  have hb' := hT' (2 * v.2.2.2.2.1.toNat + sd) (by omega)
  replace e := ce_e Rg'.1.2.2.1 e
  replace e := gg_e e
  replace e := gg_e e
  rw [c4] at e
  replace e := nm_s e; obtain ⟨g2, ug2, e⟩ := e
  have tv : ((hI g (V 264) (2 * v.2.2.2.2.1.toNat + sd)) + (1 : Int32)).toInt = pzH T (2 * v.2.2.2.2.1.toNat + sd) + 1 := by rw [ta (by rw [hv', z1]; omega), hv', z1]
  obtain ⟨A2, R2⟩ := rb_hd D (d := 2 * v.2.2.2.2.1.toNat + sd) (x := (hI g (V 264) (2 * v.2.2.2.2.1.toNat + sd)) + (1 : Int32)) Rg'
  rw [← ug2] at A2 R2
  rw [tv] at R2
  have k : zTk L T v sd p0 = zHd (zCm T (if v.2.2.2.2.2.1 = 1 then p0 else v.2.1.toNat) 0) (2 * v.2.2.2.2.1.toNat + sd) (pzH T (2 * v.2.2.2.2.1.toNat + sd) + 1) := if_pos ⟨n15, n10, w⟩
  rw [k] at HT U ⊢
  obtain ⟨B, Z⟩ := mkr_159 D X (mkw_f D Wg A2) R2 (fun d hd => by
    show 0 ≤ (if d = 2 * v.2.2.2.2.1.toNat + sd then pzH T (2 * v.2.2.2.2.1.toNat + sd) + 1 else pzH T d) ∧ (if d = 2 * v.2.2.2.2.1.toNat + sd then pzH T (2 * v.2.2.2.2.1.toNat + sd) + 1 else pzH T d) ≤ 17
    have := hT' d hd
    split <;> omega) HT U eC e
  exact ⟨fv_t A (fv_t A2 B), Z⟩
/-- the position behind a move, as the reference makes it -/
noncomputable def zAll (L : Nat → Nat → Int) (P : Pz) (v : MvT) : Pz := zFin L (zB L (zRoy L (zNew P (zLv (zTk0 L (P.1, pzS P, pzR P, 0, pzQ P, pzH P, pzC P, pzK P) v (pzS P) (pzQ P 0)) v (pzS P)) v (pzS P)) (pzS P) v) v) (pzS P) (zCnt L P v)
/-- men behind it, blast aside -/
def zMen (P : Pz) (v : MvT) : Nat → Int := (zNew P (zLv (if v.2.2.2.2.1 = -1 then P else zCm P (if v.2.2.2.2.2.1 = 1 then pzQ P 0 else v.2.1.toNat) 0) v (pzS P)) v (pzS P)).1
theorem men_hd {T : Pz} {d : Nat} {x : Int} : (zHd T d x).1 = T.1 := rfl
theorem znew_m {P T T' : Pz} {v : MvT} {sd : Nat} (e : T.1 = T'.1) : (zNew P T v sd).1 = (zNew P T' v sd).1 := by
  unfold zNew zCs
  split
  · show updM (updM (updM T.1 _ _) _ _) _ _ = updM (updM (updM T'.1 _ _) _ _) _ _
    rw [e]
  · show updM T.1 _ _ = updM T'.1 _ _
    rw [e]
theorem zlv_m {T T' : Pz} {v : MvT} {sd : Nat} (e : T.1 = T'.1) : (zLv T v sd).1 = (zLv T' v sd).1 := by
  unfold zLv
  split
  · exact e
  · show updM T.1 _ _ = updM T'.1 _ _
    rw [e]
theorem ztk_m {T : Pz} {v : MvT} {sd p0 : Nat} : (zTk L T v sd p0).1 = (zCm T (if v.2.2.2.2.2.1 = 1 then p0 else v.2.1.toNat) 0).1 := by
  unfold zTk
  split <;> rfl
theorem ztk_C {T : Pz} {v : MvT} {sd p0 : Nat} : pzC (zTk L T v sd p0) = pzC T := by
  unfold zTk
  split <;> rfl
theorem mk_r (D : VD V) {x3 : Int32} (H : LOk L) (K : -1 ≤ L 10 0 ∧ L 10 0 ≤ 11) (W : MkW V h L P v x3.toNatClampNeg) (Tp : VPr (vR V) h) (isd : pzS P < 2) (cb : ∀ d, d < 2 → 0 ≤ pzC P d ∧ pzC P d ≤ 9) (kb : 0 ≤ pzK P ∧ pzK P ≤ 200) (hb : ∀ d, d < 24 → 0 ≤ pzH P d ∧ pzH P d ≤ 16) (m8 : 0 ≤ v.2.2.1 ∧ v.2.2.1 ≤ 11) (m7 : 0 ≤ v.2.1 ∧ v.2.1 < L 0 0 * L 1 0) (m9 : 0 ≤ v.2.2.2.2.2.1 ∧ v.2.2.2.2.2.1 ≤ 3) (m6 : ¬ v.2.2.2.2.2.1 = 3 → 0 ≤ v.1 ∧ v.1 < L 0 0 * L 1 0) (ps : v.2.2.2.2.2.1 < 2 → 0 < v.2.2.2.2.2.2 → PsL L v) (cs : v.2.2.2.2.2.1 = 2 → 0 ≤ v.2.2.2.2.2.2 ∧ v.2.2.2.2.2.2 < 64) (bb : v.2.2.2.1 = -1 ∨ (0 ≤ v.2.2.2.1 ∧ v.2.2.2.1 ≤ 11)) (tb : v.2.2.2.2.1 = -1 ∨ (0 ≤ v.2.2.2.2.1 ∧ v.2.2.2.2.1 ≤ 11)) (pp : v.2.2.2.2.2.1 = 1 → 0 < pzN P ∧ pzQ P 0 < 64) (HT : MOk L (zMen P v)) (U : UnM (zMen P v) (L 10 0)) (e : sX15_make F h (V 16) (V 13) (V 14) x3 (V 213) = some o) : FrV V (wl wmk) h o ∧ RbT V o (zAll L P v) := by
  have zm : (-1 : Int32).toInt = -1 := by decide
  have z1 : (1 : Int32).toInt = 1 := rfl
  have n0 : (0 : Int32).toNatClampNeg = 0 := rfl
  unfold sX15_make at e
  replace e := cl_s e; obtain ⟨g, eg, e⟩ := e
  obtain ⟨A, Rg', _⟩ := cp_r D W.2.2.2 Tp eg
  have Rg' : RbT V g P := Rg'
  have Am : FrV V (wl wmk) h g := fv_s A (by decide)
  have Wg := mkw_f D W Am
  obtain ⟨r1, r2, r3, r4, r5, r6, r7⟩ := row_e Wg.2.2.1
  have wm := Wg.2.1
  have e5 := Wg.2.2.2.2.2.1
  replace e := nm_s e; obtain ⟨v2, u2, e⟩ := e
  replace e := ce_e wm.1 e
  replace e := gg_e e
  replace e := nm_s e; obtain ⟨v5, u5, e⟩ := e
  replace e := ce_e wm.2.1 e
  replace e := gg_e e
  replace e := nm_s e; obtain ⟨v8, u8, e⟩ := e
  replace e := ce_e wm.2.2.1 e
  replace e := gg_e e
  replace e := nm_s e; obtain ⟨v11, u11, e⟩ := e
  replace e := ce_e wm.2.2.2.2.2.1 e
  replace e := gg_e e
  replace e := nm_s e; obtain ⟨v14, u14, e⟩ := e
  replace e := nm_s e; obtain ⟨h15, u15, e⟩ := e
  have B : FrV V (wl [(213, 3)]) g h15 := by rw [u15]; exact fv_w rfl
  have Bm : FrV V (wl wmk) h h15 := fv_t Am (fv_s B (by decide))
  have W15 := mkw_f D W Bm
  have R15 : RbT V h15 (P.1, pzS P, pzR P, 0, pzQ P, pzH P, pzC P, pzK P) := by
    refine ⟨⟨by rw [B.1]; exact Rg'.1.1, by rw [B.1]; exact Rg'.1.2.1, by rw [B.1]; exact Rg'.1.2.2.1, by rw [B.1]; exact Rg'.1.2.2.2⟩, fun s hs => by rw [fvI D B 262 s]; exact Rg'.2.1 s hs, by rw [fvi D B 213 1]; exact Rg'.2.2.1, fun q hq => by rw [fvj D B 213 2]; exact Rg'.2.2.2.1 q hq, ?_, fun i hi => absurd hi (Nat.not_lt_zero _), fun d hd => by rw [fvI D B 264 d]; exact Rg'.2.2.2.2.2.2.1 d hd, fun d hd => by rw [fvI D B 265 d]; exact Rg'.2.2.2.2.2.2.2.1 d hd, by rw [fvi D B 213 7]; exact Rg'.2.2.2.2.2.2.2.2⟩
    rw [u15, r_I, if_pos ⟨rfl, rfl⟩]
    rfl
  rw [← u2] at e5
  have X : ∀ {x10 : Int32}, (x10 = 0 ↔ v.2.2.2.2.1 = -1) → MkX V L P v x3 v2 v5 v8 v11 v14 x10 (pzS P) := fun {x10} h10 => ⟨⟨H, K⟩, ⟨isd, e5⟩, cb, kb, ⟨by rw [u11]; exact r3, m8⟩, ⟨by rw [u8]; exact r2, m7⟩, ⟨by rw [u14]; exact r6, m9⟩, fun z => ⟨by rw [u5]; exact r1, m6 z⟩, h10, ps, cs, bb, tb, hb⟩
  replace e := ce_e W15.2.1.2.2.2.2.1 e
  replace e := gg_e e
  have r5' : (hI h15 (V 70) x3.toNatClampNeg).toInt = v.2.2.2.2.1 := by rw [fvI D B 70 x3.toNatClampNeg]; exact r5
  unfold sX15_make_65 at e
  unfold zAll zTk0
  rcases br_s e with ⟨c, e⟩ | ⟨c, e⟩
  · rw [c, zm] at r5'
    have k := r5'.symm
    unfold zMen at HT U
    rw [if_pos k] at HT U ⊢
    obtain ⟨C, Z⟩ := mkr_159 D (X ⟨fun _ => k, fun _ => rfl⟩) W15 R15 (fun d hd => by have := hb d hd; exact ⟨this.1, by show pzH P d ≤ 17; omega⟩) (by rw [znew_m (zlv_m (T := (P.1, pzS P, pzR P, 0, pzQ P, pzH P, pzC P, pzK P)) (T' := P) rfl)]; exact HT) (by rw [znew_m (zlv_m (T := (P.1, pzS P, pzR P, 0, pzQ P, pzH P, pzC P, pzK P)) (T' := P) rfl)]; exact U) rfl (bp_e rfl e)
    exact ⟨fv_t Bm C, Z⟩
  · have k : ¬ v.2.2.2.2.1 = -1 := fun z => c (Int32.toInt_inj.mp (by rw [r5', z, zm]))
    unfold zMen at HT U
    rw [if_neg k] at HT U ⊢
    replace e := bn_e (show ¬ (1 : Int32) = 0 by decide) e
    have X1 := X (x10 := 1) ⟨fun z => absurd z (by decide), fun z => absurd z k⟩
    have hm : ∀ {Q : (Nat → Int) → Prop}, Q (zNew P (zLv (zCm P (if v.2.2.2.2.2.1 = 1 then pzQ P 0 else v.2.1.toNat) 0) v (pzS P)) v (pzS P)).1 → Q (zNew P (zLv (zTk L (P.1, pzS P, pzR P, 0, pzQ P, pzH P, pzC P, pzK P) v (pzS P) (pzQ P 0)) v (pzS P)) v (pzS P)).1 := fun {Q} q => by
      rw [znew_m (zlv_m (T' := zCm P (if v.2.2.2.2.2.1 = 1 then pzQ P 0 else v.2.1.toNat) 0) (by rw [ztk_m]; rfl))]
      exact q
    rcases br_s e with ⟨y, e⟩ | ⟨y, e⟩
    · have k1 : v.2.2.2.2.2.1 = 1 := by rw [← r6, ← u14, y, z1]
      obtain ⟨p0, p1⟩ := pp k1
      replace e := ce_e W15.2.2.2.1.2.1 e
      replace e := gg_e e
      rw [n0] at e
      obtain ⟨C, Z⟩ := mkr_92 D X1 W15 R15 k (p0 := pzQ P 0) (by
        rw [if_pos k1]
        exact W15.2.2.2.2.2.2.2.2.1 0 p0) (fun _ => p1) rfl (hm HT) (hm (Q := fun M => UnM M (L 10 0)) U) rfl e
      exact ⟨fv_t Bm C, Z⟩
    · have k1 : ¬ v.2.2.2.2.2.1 = 1 := fun z => y (Int32.toInt_inj.mp (by rw [u14, r6, z, z1]))
      obtain ⟨C, Z⟩ := mkr_92 D X1 W15 R15 k (p0 := pzQ P 0) (by
        rw [if_neg k1, u8, r2]
        omega) (fun z => absurd z k1) rfl (hm HT) (hm (Q := fun M => UnM M (L 10 0)) U) rfl e
      exact ⟨fv_t Bm C, Z⟩
end
end
