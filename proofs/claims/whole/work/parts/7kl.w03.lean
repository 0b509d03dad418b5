section
/-! the class: make, men and hands -/
section
variable {F : Nat} {V : Nat → Nat} {L : Nat → Nat → Int} {h o : Hp} {P : Pz} {v : MvT} {x : Int32}
/-- men in hand -/
theorem mkc_102 (D : VD V) {x3 x4 x5 x6 : Int32} (H : LOk L) (K : LawK L) (O : PzOk L P) (G : MvGd L P v) (M' : MvC x v) (C : MkC V h L) (Pc : VPc V h) (R : PosC h (V 34) (V 35) (V 36) (mkM L P v) (L 10 0)) (e3 : x3.toInt = (pzS P : Int)) (e4 : x4.toInt = v.2.2.1) (e5 : x5.toInt = v.2.2.2.2.2.1) (e6 : x6.toInt = v.2.2.2.2.1) (rt : ∀ q, q < 64 → bitJ (hJ h (V 4) 8) q = pzR (zAll L P v) q) (hd : (∀ s, s < 2 → HdB (hJ h (V 37) s)) ∧ ∀ d, d < 24 → ((hv (hJ h (V 37) (d % 2)) (d / 2) : Nat) : Int) = (if v.2.2.2.2.2.1 = 3 ∧ d = 2 * v.2.2.1.toNat + pzS P then pzH P d - 1 else pzH P d)) (ck : ∀ d, d < 2 → (hI h (V 38) d).toInt = pzC P d) (cl' : (hI h (V 4) 6).toInt = pzK P) (e : sX5_make_102 F h (V 6) (V 4) x x3 x4 x5 x6 = some o) : FrV V (wl wmc) h o ∧ CpP V o (L 10 0) (zAll L P v) := by
  have zm : (-1 : Int32).toInt = -1 := by decide
  have z16 : (16 : Int32).toInt = 16 := rfl
  have L2 := H.2.2.1
  have isd := O.2.2.1
  have b1 := C.2.2.1.2.1.1
  have r4 := C.2.2.2.1.1
  have c3 : x3.toNatClampNeg = pzS P := by have := nc_i (x := x3) (by omega); omega
  have tb := G.2.2.1
  unfold sX5_make_102 at e
  -- none is kept
  have non : ¬ (¬ v.2.2.2.2.1 = -1 ∧ (¬ L 15 0 = 0 ∧ ¬ v.2.2.2.2.1 = L 10 0 ∧ pzH P (2 * v.2.2.2.2.1.toNat + pzS P) < 16)) → sX5_make_151 F h (V 6) (V 4) x x3 x4 x5 x6 = some o → FrV V (wl wmc) h o ∧ CpP V o (L 10 0) (zAll L P v) := fun n u => mkc_151 D H K O G M' C Pc R e3 e4 e5 e6 rt ⟨hd.1, fun d hd' => by
    have nn : ¬ (¬ v.2.2.2.2.1 = -1 ∧ (¬ L 15 0 = 0 ∧ ¬ v.2.2.2.2.1 = L 10 0 ∧ pzH P (2 * v.2.2.2.2.1.toNat + pzS P) < 16) ∧ d = 2 * v.2.2.2.2.1.toNat + pzS P) := fun z => n ⟨z.1, z.2.1⟩
    rw [hd.2 d hd', zall_h, if_neg nn]⟩ ck cl' u
  replace e := ce_e C.1.1.1 e
  replace e := cl_s e; obtain ⟨o2, eo2, e⟩ := e
  obtain ⟨w2, q2⟩ := has_v eo2
  rw [w2] at e
  rcases q2 with ⟨q, y⟩ | ⟨q, y⟩
  · exact non (fun z => z.2.1 (b1.mp y)) (bp_e q e)
  have n15 : ¬ L 15 0 = 0 := fun z => y (b1.mpr z)
  replace e := bn_e (by rw [q]; decide) e
  rcases br_s e with ⟨c, e⟩ | ⟨c, e⟩
  · rw [c, zm] at e6
    exact non (fun z => z.1 e6.symm) e
  have n1 : ¬ v.2.2.2.2.1 = -1 := fun z => c (Int32.toInt_inj.mp (by rw [e6, z, zm]))
  have a11 : 0 ≤ v.2.2.2.2.1 ∧ v.2.2.2.2.1 ≤ 11 := by omega
  have k3 : ¬ v.2.2.2.2.2.1 = 3 := fun z => n1 (G.2.2.2.2.2.2.1 z).2.1
  replace e := ce_e C.1.1.1 e
  rcases br_s e with ⟨w, e⟩ | ⟨w, e⟩
  · exact non (fun z => z.2.2.1 (by rw [← e6, w, r4])) e
  have n10 : ¬ v.2.2.2.2.1 = L 10 0 := fun z => w (Int32.toInt_inj.mp (by rw [e6, z, r4]))
  have c6 : x6.toNatClampNeg = v.2.2.2.2.1.toNat := by have := nc_i (x := x6) (by omega); omega
  have hv' : ((hv (hJ h (V 37) (pzS P)) v.2.2.2.2.1.toNat : Nat) : Int) = pzH P (2 * v.2.2.2.2.1.toNat + pzS P) := by
    have := hd.2 (2 * v.2.2.2.2.1.toNat + pzS P) (by omega)
    rw [if_neg (fun z => k3 z.1), show (2 * v.2.2.2.2.1.toNat + pzS P) % 2 = pzS P by omega, show (2 * v.2.2.2.2.1.toNat + pzS P) / 2 = v.2.2.2.2.1.toNat by omega] at this
    exact this
  replace e := cl_s e; obtain ⟨o7, eo7, e⟩ := e
  obtain ⟨w7, q7⟩ := inh_v (man := x6) Pc.2.2.2.1 ⟨by omega, by omega⟩ eo7
  rw [c3, c6] at q7
  rw [w7] at e
  rcases br_s e with ⟨y', e⟩ | ⟨y', e⟩
  · have y' := le_i y'
    rw [z16, q7, hv'] at y'
    exact non (fun z => by have := z.2.2.2; omega) e
  have y' := nle_i y'
  rw [z16, q7, hv'] at y'
  have hO := O.2.2.2.2.2.1.1 (2 * v.2.2.2.2.1.toNat + pzS P) (by omega)
  replace e := cl_s e; obtain ⟨g, eg, e⟩ := e
  obtain ⟨X, ug, HX, hX⟩ := adh_v (man := x6) Pc.2.2.2.1 ⟨by omega, by omega⟩ (by rw [c3]; exact hd.1 _ isd) (by rw [c3, c6]; omega) eg
  rw [c3] at ug hX
  rw [c6] at hX
  have A : FrV V (wl [(37, 999)]) h g := by rw [ug]; exact fv_j (wl_9 (by decide))
  have j37 : ∀ s, hJ g (V 37) s = if s = pzS P then X else hJ h (V 37) s := fun s => by
    rw [ug, r_J]
    by_cases w : s = pzS P
    · rw [if_pos ⟨rfl, w⟩, if_pos w]
    · rw [if_neg (fun z => w z.2), if_neg w]
  have Pg : VPc V g := ⟨by rw [A.1]; exact Pc.1, by rw [A.1]; exact Pc.2.1, by rw [A.1]; exact Pc.2.2.1, by rw [A.1]; exact Pc.2.2.2.1, by rw [A.1]; exact Pc.2.2.2.2⟩
  obtain ⟨B, Z⟩ := mkc_151 D H K O G M' (mkc_f D C A (by decide)) Pg (posc_k R (fun i => fvI D A 34 i) (fun i => fvI D A 36 i) (fun i => fvJ D A 35 i) (fun _ _ => rfl)) e3 e4 e5 e6 (fun q hq => by rw [fvJ D A 4 8]; exact rt q hq) ⟨fun s hs => by
    rw [j37 s]
    split
    · exact HX
    · exact hd.1 s hs, fun d hd' => by
    have hd2 := hd.2 d hd'
    rw [if_neg (fun z => k3 z.1)] at hd2
    rw [zall_h, if_neg (fun z => k3 z.1), j37 (d % 2)]
    by_cases w : d % 2 = pzS P
    · rw [if_pos w, hX]
      rw [w] at hd2
      by_cases w2 : d / 2 = v.2.2.2.2.1.toNat
      · rw [if_pos w2, if_pos ⟨n1, ⟨n15, n10, y'⟩, by omega⟩]
        omega
      · rw [if_neg w2, if_neg (fun z => w2 (by have := z.2.2; omega))]
        omega
    · rw [if_neg w, if_neg (fun z => w (by have := z.2.2; omega))]
      exact hd2⟩ (fun d hd' => by rw [fvI D A 38 d]; exact ck d hd') (by rw [fvI D A 4 6]; exact cl') e
  exact ⟨fv_t (fv_s A (by decide)) B, Z⟩
/-- touched squares lose their rights -/
theorem mkc_54 (D : VD V) {x3 x4 x5 x6 : Int32} (H : LOk L) (K : LawK L) (O : PzOk L P) (G : MvGd L P v) (M' : MvC x v) (C : MkC V h L) (Pc : VPc V h) (R : PosC h (V 34) (V 35) (V 36) P.1 (L 10 0)) (es : (hI h (V 4) 5).toInt = (pzS P : Int)) (e3 : x3.toInt = (pzS P : Int)) (e4 : x4.toInt = v.2.2.1) (e5 : x5.toInt = v.2.2.2.2.2.1) (e6 : x6.toInt = v.2.2.2.2.1) (rt : ∀ q, q < 64 → (bitJ (hJ h (V 4) 8) q = true ↔ (pzR P q = true ∧ ¬ (¬ v.2.2.2.2.2.1 = 3 ∧ v.2.2.1 = L 10 0 ∧ (q : Int) < L 0 0 * L 1 0 ∧ rkF L q (pzS P) = 1)))) (ps : Pw (hJ h (V 4) 9) (pzN P) (pzQ P)) (hd : (∀ s, s < 2 → HdB (hJ h (V 37) s)) ∧ ∀ d, d < 24 → ((hv (hJ h (V 37) (d % 2)) (d / 2) : Nat) : Int) = pzH P d) (ck : ∀ d, d < 2 → (hI h (V 38) d).toInt = pzC P d) (cl' : (hI h (V 4) 6).toInt = pzK P) (e : sX5_make_54 F h (V 6) (V 4) x x3 x4 x5 x6 = some o) : FrV V (wl wmc) h o ∧ CpP V o (L 10 0) (zAll L P v) := by
  have z3 : (3 : Int32).toInt = 3 := rfl
  have L2 := H.2.2.1
  have isd := O.2.2.1
  have mg := G.1.2.1
  have c3 : x3.toNatClampNeg = pzS P := by have := nc_i (x := x3) (by omega); omega
  have c4 : x4.toNatClampNeg = v.2.2.1.toNat := by have := nc_i (x := x4) (by omega); omega
  unfold sX5_make_54 at e
  replace e := nm_s e; obtain ⟨h1, u1, e⟩ := e
  have A1 : FrV V (wl [(4, 7)]) h h1 := by rw [u1]; exact fv_j rfl
  have t1 : hJ h1 (V 4) 7 = 0 := by rw [u1, r_J, if_pos ⟨rfl, rfl⟩]
  have C1 := mkc_f D C A1 (by decide)
  have P1 : VPc V h1 := ⟨by rw [A1.1]; exact Pc.1, by rw [A1.1]; exact Pc.2.1, by rw [A1.1]; exact Pc.2.2.1, by rw [A1.1]; exact Pc.2.2.2.1, by rw [A1.1]; exact Pc.2.2.2.2⟩
  have R1 : PosC h1 (V 34) (V 35) (V 36) P.1 (L 10 0) := posc_k R (fun i => fvI D A1 34 i) (fun i => fvI D A1 36 i) (fun i => fvJ D A1 35 i) (fun _ _ => rfl)
  have S1 : ShW V h1 L P.1 (pzS P) := ⟨C1.1.1.1, P1, R1, O.2.1, C1.2.2.2.1.1, C1.2.2.2.1.2.2.1, by rw [fvi D A1 4 5]; exact es⟩
  have B1 : ShB V h1 L := ⟨C1.2.2.2.2.1.1, C1.2.1.1, fun s hs => (C1.2.1.2.2.2.2.2 s hs).1⟩
  replace e := cl_s e; obtain ⟨h2, e2, e⟩ := e
  obtain ⟨A2, S2, T2⟩ := sh_c D (p0 := pzQ P 0) H O.1 S1 B1 (isd_i O) M' G.1 (fun k => ⟨pzN P, pzQ P, by rw [fvj D A1 4 9]; exact ps, by have := (G.2.2.2.2.1 k).1; omega, rfl⟩) (fun k => (p0_ne O G k).1) e2
  have C2 := mkc_f D C1 A2 (by decide)
  replace e := cl_s e; obtain ⟨h3, e3', e⟩ := e
  obtain ⟨A3, S3, T3⟩ := bl_c D H S2 C2.1.2.2.2 C2.1.1.2 C2.1.2.1.2.2.2.2.2 C2.2.2.2.1.2.2.2.2.2.2 C2.2.2.1.2.1.2.2.2 M' G.1.1 (by have := G.2.2.1; omega) e3'
  have C3 := mkc_f D C2 A3 (by decide)
  have A13 : FrV V (wl wmc) h h3 := fv_t (fv_s A1 (by decide)) (fv_t (fv_s A2 (by decide)) (fv_s A3 (by decide)))
  have tch : ∀ q, q < 64 → (bitJ (hJ h3 (V 4) 7) q = true ↔ tcQ L P v q) := fun q hq => by
    rw [T3 q hq, T2 q hq, t1, bj_zero]
    unfold tcQ
    have b : BlS L (shM P.1 (pzQ P 0) (L 12 0) (pzS P) v) v.2.1.toNat q ↔ BlS L (zMen P v) v.2.1.toNat q := by
      unfold BlS
      rw [zmen_e H G q hq]
    rw [b]
    constructor
    · rintro ((z | z) | z)
      · exact absurd z (by decide)
      · exact Or.inl z
      · exact Or.inr z
    · rintro (z | z)
      · exact Or.inl (Or.inr z)
      · exact Or.inr z
  replace e := nm_s e; obtain ⟨h4, u4, e⟩ := e
  have A4 : FrV V (wl [(4, 8)]) h3 h4 := by rw [u4]; exact fv_j rfl
  have A14 : FrV V (wl wmc) h h4 := fv_t A13 (fv_s A4 (by decide))
  have C4 := mkc_f D C3 A4 (by decide)
  have P4 : VPc V h4 := ⟨by rw [A14.1]; exact Pc.1, by rw [A14.1]; exact Pc.2.1, by rw [A14.1]; exact Pc.2.2.1, by rw [A14.1]; exact Pc.2.2.2.1, by rw [A14.1]; exact Pc.2.2.2.2⟩
  have R4 : PosC h4 (V 34) (V 35) (V 36) (mkM L P v) (L 10 0) := posc_k (posc_c S3.2.2.1 (fun s hs => mkm_sh H G hs)) (fun i => fvI D A4 34 i) (fun i => fvI D A4 36 i) (fun i => fvJ D A4 35 i) (fun _ _ => rfl)
  have r8 : ∀ q, q < 64 → bitJ (hJ h4 (V 4) 8) q = pzR (zAll L P v) q := fun q hq => by
    apply bl_iff
    rw [u4, r_J, if_pos ⟨rfl, rfl⟩, bj_and, bj_not _ hq, Bool.and_eq_true, Bool.not_eq_true', fvj D A3 4 8, fvj D A2 4 8, fvj D A1 4 8, rt q hq, zall_r H G hq, ← Bool.not_eq_true, tch q hq]
    exact ⟨fun z => ⟨z.1.1, z.2, z.1.2⟩, fun z => ⟨⟨z.1, z.2.2⟩, z.2.1⟩⟩
  have k37 : ∀ s, hJ h4 (V 37) s = hJ h (V 37) s := fun s => by rw [fvJ D A4 37 s, fvJ D A3 37 s, fvJ D A2 37 s, fvJ D A1 37 s]
  have k38 : ∀ d, d < 2 → (hI h4 (V 38) d).toInt = pzC P d := fun d hd' => by rw [fvI D A4 38 d, fvI D A3 38 d, fvI D A2 38 d, fvI D A1 38 d]; exact ck d hd'
  have k6 : (hI h4 (V 4) 6).toInt = pzK P := by rw [fvi D A4 4 6, fvi D A3 4 6, fvi D A2 4 6, fvi D A1 4 6]; exact cl'
  rcases br_s e with ⟨c, e⟩ | ⟨c, e⟩
  rotate_left
  · have n3 : ¬ v.2.2.2.2.2.1 = 3 := fun z => c (Int32.toInt_inj.mp (by rw [e5, z, z3]))
    obtain ⟨B, Z⟩ := mkc_102 D H K O G M' C4 P4 R4 e3 e4 e5 e6 r8 ⟨fun s hs => by rw [k37]; exact hd.1 s hs, fun d hd' => by rw [k37, if_neg (fun z => n3 z.1)]; exact hd.2 d hd'⟩ k38 k6 e
    exact ⟨fv_t A14 B, Z⟩
  have k3 : v.2.2.2.2.2.1 = 3 := by rw [← e5, c, z3]
  have g3 := G.2.2.2.2.2.2.1 k3
  have hp := g3.2.2.2.2.2
  have hv' : ((hv (hJ h (V 37) (pzS P)) v.2.2.1.toNat : Nat) : Int) = pzH P (2 * v.2.2.1.toNat + pzS P) := by
    have := hd.2 (2 * v.2.2.1.toNat + pzS P) (by omega)
    rw [show (2 * v.2.2.1.toNat + pzS P) % 2 = pzS P by omega, show (2 * v.2.2.1.toNat + pzS P) / 2 = v.2.2.1.toNat by omega] at this
    exact this
  replace e := cl_s e; obtain ⟨g, eg, e⟩ := e
  obtain ⟨X, ug, HX, hX⟩ := adh_m (man := x4) P4.2.2.2.1 ⟨by omega, by omega⟩ (by rw [c3, k37]; exact hd.1 _ isd) (by rw [c3, c4, k37]; omega) eg
  rw [c3] at ug hX
  rw [c4, k37] at hX
  have A5 : FrV V (wl [(37, 999)]) h4 g := by rw [ug]; exact fv_j (wl_9 (by decide))
  have j37 : ∀ s, hJ g (V 37) s = if s = pzS P then X else hJ h (V 37) s := fun s => by
    rw [ug, r_J]
    by_cases w : s = pzS P
    · rw [if_pos ⟨rfl, w⟩, if_pos w]
    · rw [if_neg (fun z => w z.2), if_neg w, k37]
  have Pg : VPc V g := ⟨by rw [A5.1]; exact P4.1, by rw [A5.1]; exact P4.2.1, by rw [A5.1]; exact P4.2.2.1, by rw [A5.1]; exact P4.2.2.2.1, by rw [A5.1]; exact P4.2.2.2.2⟩
  obtain ⟨B, Z⟩ := mkc_102 D H K O G M' (mkc_f D C4 A5 (by decide)) Pg (posc_k R4 (fun i => fvI D A5 34 i) (fun i => fvI D A5 36 i) (fun i => fvJ D A5 35 i) (fun _ _ => rfl)) e3 e4 e5 e6 (fun q hq => by rw [fvJ D A5 4 8]; exact r8 q hq) ⟨fun s hs => by
    rw [j37 s]
    split
    · exact HX
    · exact hd.1 s hs, fun d hd' => by
    have hd2 := hd.2 d hd'
    rw [j37 (d % 2)]
    by_cases w : d % 2 = pzS P
    · have hXd := hX (d / 2)
      rw [w] at hd2
      rw [if_pos w]
      by_cases w2 : d / 2 = v.2.2.1.toNat
      · rw [if_pos w2] at hXd
        rw [if_pos ⟨k3, by omega⟩]
        omega
      · rw [if_neg w2] at hXd
        rw [if_neg (fun z => w2 (by have := z.2; omega))]
        omega
    · rw [if_neg w, if_neg (fun z => w (by have := z.2; omega))]
      exact hd2⟩ (fun d hd' => by rw [fvI D A5 38 d]; exact k38 d hd') (by rw [fvI D A5 4 6]; exact k6) e
  exact ⟨fv_t A14 (fv_t (fv_s A5 (by decide)) B), Z⟩
/-- make -/
theorem mkc_c (D : VD V) (H : LOk L) (K : LawK L) (O : PzOk L P) (G : MvGd L P v) (M' : MvC x v) (C : MkC V h L) (Cp : CpP V h (L 10 0) P) (e : sX5_make F h (V 6) (V 4) x = some o) : FrV V (wl wmc) h o ∧ CpP V o (L 10 0) (zAll L P v) := by
  have isd := O.2.2.1
  have ra := H.2.1
  have fi := H.1
  have sq := sq_64 H
  obtain ⟨Pc, R, es, rt, ⟨p1, p2⟩, hd, ck, cl'⟩ := Cp
  have r4 := C.2.2.2.1.1
  unfold sX5_make at e
  replace e := nm_s e; obtain ⟨v1, u1, e⟩ := e
  have t1 : v1.toInt = (pzS P : Int) := by rw [u1]; exact es
  have c1 : v1.toNatClampNeg = pzS P := by have := nc_i (x := v1) (by omega); omega
  replace e := cl_s e; obtain ⟨o2, eo2, e⟩ := e
  have w2 : o2.2 = h := by unfold sX5_manOf at eo2; rw [so_e eo2]
  rw [w2] at e
  replace e := cl_s e; obtain ⟨o3, eo3, e⟩ := e
  have w3 : o3.2 = h := by unfold sX5_kindOf at eo3; rw [so_e eo3]
  rw [w3] at e
  replace e := cl_s e; obtain ⟨o4, eo4, e⟩ := e
  obtain ⟨⟨_, f2⟩, ⟨_, f3⟩, ⟨w4, f4⟩⟩ := mk_fd G H M' eo2 eo3 eo4
  rw [w4] at e
  -- where rights lie
  have own : ∀ q, q < 64 → pzR P q = true → ((0 < P.1 q ∧ (P.1 q - 1) % 2 = (pzS P : Int)) ↔ ((q : Int) < L 0 0 * L 1 0 ∧ rkF L q (pzS P) = 1)) := fun q hq r => by
    obtain ⟨c0, d, hd', mc, rk⟩ := O.2.2.2.1 q hq r
    have mp : 0 < P.1 q := by rw [mc]; unfold cdV; omega
    have qL := ((O.1 q hq).2 mp).1
    constructor
    · rintro ⟨_, z⟩
      rw [mc] at z
      unfold cdV at z
      have : d = pzS P := by omega
      rw [← this]
      exact ⟨qL, rk⟩
    · rintro ⟨_, z⟩
      refine ⟨mp, ?_⟩
      have : d = pzS P := by
        by_cases w : d = pzS P
        · exact w
        · unfold rkF at rk z
          have q0 : 0 ≤ (q : Int) / L 0 0 := Int.ediv_nonneg (by omega) (by omega)
          by_cases s0 : pzS P = 0
          · have d1 : d = 1 := by omega
            rw [if_pos (by rw [s0]; rfl)] at z
            rw [if_neg (by rw [d1]; decide)] at rk
            omega
          · have d0 : d = 0 := by omega
            rw [if_neg (by omega)] at z
            rw [if_pos (by rw [d0]; rfl)] at rk
            omega
      rw [mc, this]
      unfold cdV
      omega
  replace e := ce_e C.1.1.1 e
  rcases br_s e with ⟨c, e⟩ | ⟨c, e⟩
  · have mr : v.2.2.1 = L 10 0 := by rw [← f2, c, r4]
    have k3 : ¬ v.2.2.2.2.2.1 = 3 := fun z => by
      rcases G.1.2.2.2.1 with y | y
      · exact y.2 mr
      · omega
    replace e := ce_e Pc.2.1 e
    replace e := gg_e e
    rw [c1] at e
    replace e := nm_s e; obtain ⟨g, ug, e⟩ := e
    have A : FrV V (wl [(4, 8)]) h g := by rw [ug]; exact fv_j rfl
    have Pg : VPc V g := ⟨by rw [A.1]; exact Pc.1, by rw [A.1]; exact Pc.2.1, by rw [A.1]; exact Pc.2.2.1, by rw [A.1]; exact Pc.2.2.2.1, by rw [A.1]; exact Pc.2.2.2.2⟩
    obtain ⟨B, Z⟩ := mkc_54 D H K O G M' (mkc_f D C A (by decide)) Pg (posc_k R (fun i => fvI D A 34 i) (fun i => fvI D A 36 i) (fun i => fvJ D A 35 i) (fun _ _ => rfl)) (by rw [fvi D A 4 5]; exact es) t1 f2 f3 f4 (fun q hq => by
      rw [ug, r_J, if_pos ⟨rfl, rfl⟩, bj_and, bj_not _ hq, Bool.and_eq_true, Bool.not_eq_true', ← Bool.not_eq_true, rt q hq, R.2.1 (pzS P) isd q hq]
      constructor
      · rintro ⟨a, b⟩
        exact ⟨a, fun z => b ((own q hq a).mpr z.2.2)⟩
      · rintro ⟨a, b⟩
        exact ⟨a, fun z => b ⟨k3, mr, (own q hq a).mp z⟩⟩) (by rw [fvj D A 4 9]; exact p1) ⟨fun s hs => by rw [fvJ D A 37 s]; exact hd.1 s hs, fun d hd' => by rw [fvJ D A 37 (d % 2)]; exact hd.2 d hd'⟩ (fun d hd' => by rw [fvI D A 38 d]; exact ck d hd') (by rw [fvi D A 4 6]; exact cl') e
    exact ⟨fv_t (fv_s A (by decide)) B, Z⟩
  · have mr : ¬ v.2.2.1 = L 10 0 := fun z => c (Int32.toInt_inj.mp (by rw [f2, z, r4]))
    exact mkc_54 D H K O G M' C Pc R es t1 f2 f3 f4 (fun q hq => by
      rw [rt q hq]
      exact ⟨fun a => ⟨a, fun z => mr z.2.1⟩, fun a => a.1⟩) p1 hd ck cl' e
end
end
section
/-! how a position ends: both -/
section
variable {F : Nat} {V : Nat → Nat} {L : Nat → Nat → Int} {h : Hp} {P : Pz} {o : Int32 × Hp}
abbrev wen : List (Nat × Nat) := [(16, 29), (16, 23), (16, 24)]
/-- the reference -/
theorem en_r (D : VD V) {x2 : Int32} (H : LOk L) (K : LawK L) (O : PzOk L P) (W : RW0 V h L) (R : RbP V h P) (e2 : x2.toInt = ((lgL L P).length : Int)) (e : sX15_endedBy F h (V 16) (V 13) x2 = some o) : FrV V (wl wen) h o.2 ∧ o.1.toInt = (enE L P).1 ∧ (0 < (enE L P).1 → (hI o.2 (V 16) 29).toInt = (enE L P).2) := by
  have z0 : (0 : Int32).toInt = 0 := rfl
  have z1 : (1 : Int32).toInt = 1 := rfl
  have L2 := H.2.2.1
  have isd := O.2.2.1
  have kr : -1 ≤ L 10 0 ∧ L 10 0 ≤ 11 := ⟨K.2.1.1, by have := K.2.1.2; omega⟩
  unfold sX15_endedBy sX15_endedBy_14 at e
  replace e := cl_s e; obtain ⟨o1, eo1, e⟩ := e
  obtain ⟨A1, q1, w1⟩ := er_r H K O W R eo1
  have Al : FrV V (wl wen) h o1.2 := fv_s A1 (by decide)
  unfold enE
  rcases br_s e with ⟨c, e⟩ | ⟨c, e⟩
  · have c := lt_i c
    rw [q1, z0] at c
    rw [if_pos c, so_e e]
    exact ⟨Al, q1, w1⟩
  have c := nlt_i c
  rw [q1, z0] at c
  rw [if_neg (by omega)]
  rcases br_s e with ⟨y, e⟩ | ⟨y, e⟩
  rotate_left
  · have y := nle_i y
    rw [z0, e2] at y
    have ne : ¬ lgL L P = [] := fun z => by rw [z] at y; exact absurd y (by decide)
    rw [if_pos ne, so_e e]
    refine ⟨Al, ?_, fun z => absurd z (by decide)⟩
    rw [q1]
    have := (er1_n (L := L) (P := P)).1
    show _ = (0 : Int)
    omega
  have y := le_i y
  rw [z0, e2] at y
  have ne : lgL L P = [] := List.length_eq_zero_iff.mp (by omega)
  rw [if_neg (fun z => z ne)]
  have W1 := rw0_f D W A1 (by decide) rfl rfl rfl
  have R1 := rbp_f D R A1 (by decide)
  have bs := R1.2.2.1
  have s1 : ∀ {g : Hp}, (hI g (V 13) 1).toInt = (pzS P : Int) → ((1 : Int32) - (hI g (V 13) 1)).toInt = ((1 - pzS P : Nat) : Int) := fun {g} b => by rw [ts (by rw [z1, b]; omega), z1, b]; omega
  replace e := cl_s e; obtain ⟨o4, eo4, e⟩ := e
  obtain ⟨w4, ro⟩ := roy_r H O.1 (rwd_b W1 R1) kr bs isd eo4
  rw [w4] at e
  -- no check
  have st : ∀ {g : Hp}, FrV V (wl wdx) o1.2 g → ¬ RyH L P.1 (pzS P) → sX15_endedBy_61 F g (V 16) (V 13) = some o → FrV V (wl wen) h o.2 ∧ o.1.toInt = (if prB' (RyH L P.1 (pzS P)) = true then ((5 : Int), ((1 - pzS P : Nat) : Int)) else (6, if L 22 0 = 0 then 2 else if L 22 0 = 1 then (pzS P : Int) else ((1 - pzS P : Nat) : Int))).1 ∧ (0 < (if prB' (RyH L P.1 (pzS P)) = true then ((5 : Int), ((1 - pzS P : Nat) : Int)) else (6, if L 22 0 = 0 then 2 else if L 22 0 = 1 then (pzS P : Int) else ((1 - pzS P : Nat) : Int))).1 → (hI o.2 (V 16) 29).toInt = (if prB' (RyH L P.1 (pzS P)) = true then ((5 : Int), ((1 - pzS P : Nat) : Int)) else (6, if L 22 0 = 0 then 2 else if L 22 0 = 1 then (pzS P : Int) else ((1 - pzS P : Nat) : Int))).2) := fun {g} G n u => by
    rw [if_neg (fun z => n (prb_e.mp z))]
    have Wg := rw0_f D W1 G (by decide) rfl rfl rfl
    have Rg' := rbp_f D R1 G (by decide)
    have l22 : (hI g (V 15) 22).toInt = L 22 0 := lw_0 (rwd_b Wg Rg') (by decide) 0
    have bg := Rg'.2.2.1
    unfold sX15_endedBy_61 sX15_endedBy_100 at u
    have fin : ∀ {t : Int32} {r : Int}, t.toInt = r → (nm (wI g (V 16) 29 t) fun h_1 => some ((6 : Int32), h_1)) = some o → FrV V (wl wen) h o.2 ∧ o.1.toInt = (6 : Int) ∧ ((0 : Int) < 6 → (hI o.2 (V 16) 29).toInt = r) := fun {t r} ht y => by
      replace y := nm_s y; obtain ⟨g2, ug2, y⟩ := y
      rw [so_e y]
      refine ⟨fv_t Al (fv_t (fv_s G (by decide)) ?_), rfl, fun _ => ?_⟩
      · show FrV V (wl wen) g g2
        rw [ug2]; exact fv_w rfl
      · show (hI g2 (V 16) 29).toInt = r
        rw [ug2, r_I, if_pos ⟨rfl, rfl⟩, ht]
    replace u := ce_e Wg.1.1 u
    rcases br_s u with ⟨q, u⟩ | ⟨q, u⟩
    · rw [q, z0] at l22
      rw [if_pos l22.symm]
      exact fin rfl u
    have n0 : ¬ L 22 0 = 0 := fun z => q (Int32.toInt_inj.mp (by rw [l22, z, z0]))
    rw [if_neg n0]
    replace u := ce_e Wg.1.1 u
    rcases br_s u with ⟨q', u⟩ | ⟨q', u⟩
    · rw [q', z1] at l22
      rw [if_pos l22.symm]
      exact fin bg u
    · have n1 : ¬ L 22 0 = 1 := fun z => q' (Int32.toInt_inj.mp (by rw [l22, z, z1]))
      rw [if_neg n1]
      exact fin (s1 bg) u
  rcases roa_e ro with ⟨a1, a2⟩ | ⟨a1, a2, a3, a4, _⟩
  · exact st fv_0 (ryh_n a2) (bp_e a1 e)
  replace e := bn_e a1 e
  replace e := cl_s e; obtain ⟨o6, eo6, e⟩ := e
  obtain ⟨A6, q6⟩ := ryh_b D H O.1 O.2.1 W1 R1 (d := pzS P) isd a2 a3 a4 (by rw [s1 bs]; omega) eo6
  rcases q6 with ⟨a, b⟩ | ⟨a, b⟩
  · exact st A6 b (bp_e a e)
  · replace e := bn_e (by rw [a]; decide) e
    rw [if_pos (prb_e.mpr b)]
    replace e := nm_s e; obtain ⟨g2, ug2, e⟩ := e
    rw [so_e e]
    refine ⟨fv_t Al (fv_t (fv_s A6 (by decide)) ?_), rfl, fun _ => ?_⟩
    · show FrV V (wl wen) o6.2 g2
      rw [ug2]; exact fv_w rfl
    · show (hI g2 (V 16) 29).toInt = _
      rw [ug2, r_I, if_pos ⟨rfl, rfl⟩]
      exact s1 (by rw [fvI D A6 13 1]; exact bs)
/-- the class -/
theorem en_c (D : VD V) (H : LOk L) (K : LawK L) (O : PzOk L P) (C : CcB V h L P) (w2 : hR h (V 6) 2 = some (V 47)) (e : sX5_endOf F h (V 6) (V 4) = some o) : (o.2 = h ∨ FrV V (wl wcq) (bgH V h) o.2) ∧ o.1.toInt = (enE L P).1 := by
  have z0 : (0 : Int32).toInt = 0 := rfl
  have isd := O.2.2.1
  unfold sX5_endOf sX5_endOf_45 at e
  replace e := cl_s e; obtain ⟨o1, eo1, e⟩ := e
  obtain ⟨w1, q1⟩ := ee_c K O C.1.1.1 C.2.1 C.2.2.1 eo1
  rw [w1] at e
  have en := er1_n (L := L) (P := P)
  unfold enE
  rcases br_s e with ⟨c, e⟩ | ⟨c, e⟩
  rotate_left
  · have : ¬ (er1 L P).1 = 0 := fun z => c (Int32.toInt_inj.mp (by rw [q1, z, z0]))
    rw [so_e e, if_pos (by omega)]
    exact ⟨Or.inl rfl, q1⟩
  rw [c, z0] at q1
  rw [if_neg (by omega)]
  replace e := ce_e w2 e
  replace e := cl_s e; obtain ⟨o4, eo4, e⟩ := e
  obtain ⟨A, n, q⟩ := co_one D H K O C eo4
  rcases q with ⟨a, b⟩ | ⟨a, b⟩
  · replace e := bp_e (ii_le.mpr (by rw [z0]; exact a)) e
    rw [if_neg (fun z => z b)]
    have Cg := ccw_q D (ccb_w D C) A n
    replace e := cl_s e; obtain ⟨o6, eo6, e⟩ := e
    obtain ⟨w6, q6⟩ := ryh_c (d := pzS P) H O.1 O.2.1 Cg.1.1.2 Cg.1.2.1 Cg.1.2.2.1 Cg.2.2.1.1 Cg.2.2.1.2.1 Cg.2.2.1.2.2.1 isd eo6
    rw [w6] at e
    rcases q6 with ⟨x, y⟩ | ⟨x, y⟩
    · replace e := bp_e x e
      rw [so_e e, if_neg (fun z => y (prb_e.mp z))]
      exact ⟨Or.inr A, rfl⟩
    · replace e := bn_e (by rw [x]; decide) e
      rw [so_e e, if_pos (prb_e.mpr y)]
      exact ⟨Or.inr A, rfl⟩
  · replace e := bn_e (fun z => by have z := le_i z; rw [z0] at z; omega) e
    rw [so_e e, if_pos b]
    exact ⟨Or.inr A, rfl⟩
/-- who wins: the class -/
theorem win_c (O : PzOk L P) (z22 : 0 ≤ L 22 0 ∧ L 22 0 ≤ 2) (w0 : hR h (V 6) 0 = some (V 2)) (lw : CLwC V h L) (C : CpP V h (L 10 0) P) {x2 : Int32} (e2 : x2.toInt = (enE L P).1) (e : sX5_winnerOf h (V 6) (V 4) x2 = some o) : o.2 = h ∧ o.1.toInt = (if 0 < (enE L P).1 then (enE L P).2 else -1) := by
  have zm : (-1 : Int32).toInt = -1 := by decide
  have z0 : (0 : Int32).toInt = 0 := rfl
  have z1 : (1 : Int32).toInt = 1 := rfl
  have z2 : (2 : Int32).toInt = 2 := rfl
  have z3 : (3 : Int32).toInt = 3 := rfl
  have z4 : (4 : Int32).toInt = 4 := rfl
  have z5 : (5 : Int32).toInt = 5 := rfl
  have z6 : (6 : Int32).toInt = 6 := rfl
  have isd := O.2.2.1
  have r7 := lw.2.2.1.2.2.2.1
  have r8 := lw.2.2.1.2.2.2.2.1
  have r9 := lw.2.2.1.2.2.2.2.2.1
  unfold sX5_winnerOf sX5_winnerOf_64 sX5_winnerOf_81 sX5_winnerOf_105 sX5_winnerOf_121 sX5_winnerOf_143 sX5_winnerOf_179 at e
  replace e := nm_s e; obtain ⟨v1, u1, e⟩ := e
  replace e := nm_s e; obtain ⟨v2, u2, e⟩ := e
  have t1 : v1.toInt = (pzS P : Int) := by rw [u1]; exact C.2.2.1
  have t2 : v2.toInt = ((1 - pzS P : Nat) : Int) := by rw [u2, ts (by rw [z1, t1]; omega), z1, t1]; omega
  have c1 : v1.toNatClampNeg = pzS P := by have := nc_i (x := v1) (by omega); omega
  have c2 : v2.toNatClampNeg = 1 - pzS P := by have := nc_i (x := v2) (by omega); omega
  have ne : ∀ {k : Int32} {j : Int}, k.toInt = j → ¬ (enE L P).1 = j → ¬ x2 = k := fun hk hn z => hn (by rw [← e2, z, hk])
  have en := er1_n (L := L) (P := P)
  by_cases q0 : 0 < (er1 L P).1
  rotate_left
  · have E : enE L P = if ¬ lgL L P = [] then (0, 0) else if prB' (RyH L P.1 (pzS P)) = true then (5, ((1 - pzS P : Nat) : Int)) else (6, if L 22 0 = 0 then 2 else if L 22 0 = 1 then (pzS P : Int) else ((1 - pzS P : Nat) : Int)) := if_neg q0
    by_cases ql : ¬ lgL L P = []
    · rw [if_pos ql] at E
      rw [E] at e2 ne ⊢
      replace e := bn_e (ne z1 (by decide)) e
      replace e := bn_e (ne z2 (by decide)) e
      replace e := bn_e (ne z3 (by decide)) e
      replace e := bn_e (ne z4 (by decide)) e
      replace e := bn_e (ne z5 (by decide)) e
      replace e := bn_e (ne z6 (by decide)) e
      rw [so_e e]
      exact ⟨rfl, zm⟩
    rw [if_neg ql] at E
    by_cases qr : prB' (RyH L P.1 (pzS P)) = true
    · rw [if_pos qr] at E
      rw [E] at e2 ne ⊢
      replace e := bn_e (ne z1 (show ¬ (5 : Int) = 1 by decide)) e
      replace e := bn_e (ne z2 (show ¬ (5 : Int) = 2 by decide)) e
      replace e := bn_e (ne z3 (show ¬ (5 : Int) = 3 by decide)) e
      replace e := bn_e (ne z4 (show ¬ (5 : Int) = 4 by decide)) e
      replace e := bp_e (Int32.toInt_inj.mp (by rw [e2, z5])) e
      rw [so_e e, if_pos (show (0 : Int) < 5 by decide)]
      exact ⟨rfl, t2⟩
    rw [if_neg qr] at E
    rw [E] at e2 ne ⊢
    replace e := bn_e (ne z1 (show ¬ (6 : Int) = 1 by decide)) e
    replace e := bn_e (ne z2 (show ¬ (6 : Int) = 2 by decide)) e
    replace e := bn_e (ne z3 (show ¬ (6 : Int) = 3 by decide)) e
    replace e := bn_e (ne z4 (show ¬ (6 : Int) = 4 by decide)) e
    replace e := bn_e (ne z5 (show ¬ (6 : Int) = 5 by decide)) e
    replace e := bp_e (Int32.toInt_inj.mp (by rw [e2, z6])) e
    rw [if_pos (show (0 : Int) < 6 by decide)]
    replace e := ce_e w0 e
    rcases br_s e with ⟨y, e⟩ | ⟨y, e⟩
    · rw [y, z1] at r8
      rw [so_e e]
      refine ⟨rfl, ?_⟩
      show v1.toInt = if L 22 0 = 0 then 2 else if L 22 0 = 1 then (pzS P : Int) else ((1 - pzS P : Nat) : Int)
      rw [if_neg (by omega), if_pos r8.symm, t1]
    have n1 : ¬ L 22 0 = 1 := fun z => y (Int32.toInt_inj.mp (by rw [r8, z, z1]))
    replace e := ce_e w0 e
    rcases br_s e with ⟨y', e⟩ | ⟨y', e⟩
    · rw [y', z2] at r8
      rw [so_e e]
      refine ⟨rfl, ?_⟩
      show v2.toInt = if L 22 0 = 0 then 2 else if L 22 0 = 1 then (pzS P : Int) else ((1 - pzS P : Nat) : Int)
      rw [if_neg (by omega), if_neg n1, t2]
    · have n2 : ¬ L 22 0 = 2 := fun z => y' (Int32.toInt_inj.mp (by rw [r8, z, z2]))
      rw [so_e e]
      refine ⟨rfl, ?_⟩
      show (2 : Int32).toInt = if L 22 0 = 0 then 2 else if L 22 0 = 1 then (pzS P : Int) else ((1 - pzS P : Nat) : Int)
      rw [if_pos (by omega), z2]
  have E : enE L P = er1 L P := if_pos q0
  rw [E] at e2 ne ⊢
  rw [if_pos q0]
  clear E
  have ro := C.2.1.2.2.1
  -- the four of them
  unfold er1 at e2 ne q0 ⊢
  by_cases a1 : prB' ((¬ L 18 0 = 0 ∧ 0 ≤ L 10 0) ∧ ¬ RyE L P.1 (pzS P)) = true
  · rw [if_pos a1] at e2 ⊢
    replace e := bp_e (Int32.toInt_inj.mp (by rw [e2, z1])) e
    replace e := ce_e C.1.2.2.1 e
    replace e := gg_e e
    rw [c1] at e
    rcases roa_e (ro (pzS P) isd) with ⟨x, _⟩ | ⟨_, _, _, _, x⟩
    · replace e := bp_e x e
      rw [so_e e]
      exact ⟨rfl, t2⟩
    · exact absurd x (prb_e.mp a1).2
  rw [if_neg a1] at e2 ne q0 ⊢
  by_cases a2 : prB' ((¬ L 18 0 = 0 ∧ 0 ≤ L 10 0) ∧ ¬ RyE L P.1 (1 - pzS P)) = true
  · rw [if_pos a2] at e2 ⊢
    replace e := bp_e (Int32.toInt_inj.mp (by rw [e2, z1])) e
    replace e := ce_e C.1.2.2.1 e
    replace e := gg_e e
    rw [c1] at e
    rcases roa_e (ro (pzS P) isd) with ⟨_, x⟩ | ⟨x, _⟩
    · exact absurd (prb_e.mpr ⟨(prb_e.mp a2).1, x⟩) a1
    · replace e := bn_e x e
      rw [so_e e]
      exact ⟨rfl, t1⟩
  rw [if_neg a2] at e2 ne q0 ⊢
  clear a1 a2
  unfold er2 at e2 ne q0 ⊢
  by_cases b1 : prB' (OnH L P.1 (1 - pzS P)) = true
  · rw [if_pos b1] at e2 ne ⊢
    replace e := bn_e (ne z1 (show ¬ (2 : Int) = 1 by decide)) e
    replace e := bp_e (Int32.toInt_inj.mp (by rw [e2, z2])) e
    replace e := cl_s e; obtain ⟨o7, eo7, e⟩ := e
    obtain ⟨w7, q7⟩ := onh_c O w0 lw C (d := 1 - pzS P) t2 (by omega) eo7
    rw [w7] at e
    rcases q7 with ⟨_, y⟩ | ⟨x, _⟩
    · exact absurd (prb_e.mp b1) y
    · replace e := bn_e (by rw [x]; decide) e
      rw [so_e e]
      exact ⟨rfl, t2⟩
  rw [if_neg b1] at e2 ne q0 ⊢
  by_cases b2 : prB' (OnH L P.1 (pzS P)) = true
  · rw [if_pos b2] at e2 ne ⊢
    replace e := bn_e (ne z1 (show ¬ (2 : Int) = 1 by decide)) e
    replace e := bp_e (Int32.toInt_inj.mp (by rw [e2, z2])) e
    replace e := cl_s e; obtain ⟨o7, eo7, e⟩ := e
    obtain ⟨w7, q7⟩ := onh_c O w0 lw C (d := 1 - pzS P) t2 (by omega) eo7
    rw [w7] at e
    rcases q7 with ⟨x, _⟩ | ⟨_, y⟩
    · replace e := bp_e x e
      rw [so_e e]
      exact ⟨rfl, t1⟩
    · exact absurd (prb_e.mpr y) b1
  rw [if_neg b2] at e2 ne q0 ⊢
  clear b1 b2
  unfold er3 at e2 ne q0 ⊢
  have cv := C.2.2.2.2.2.2.1 (1 - pzS P) (by omega)
  by_cases d1 : 0 < L 20 0 ∧ L 20 0 ≤ pzC P (1 - pzS P)
  · rw [if_pos d1] at e2 ne ⊢
    replace e := bn_e (ne z1 (show ¬ (3 : Int) = 1 by decide)) e
    replace e := bn_e (ne z2 (show ¬ (3 : Int) = 2 by decide)) e
    replace e := bp_e (Int32.toInt_inj.mp (by rw [e2, z3])) e
    replace e := ce_e C.1.2.2.2.2 e
    replace e := gg_e e
    replace e := ce_e w0 e
    rw [c2] at e
    replace e := bn_e (fun z => by have z := lt_i z; rw [cv, r7] at z; have := d1.2; omega) e
    rw [so_e e]
    exact ⟨rfl, t2⟩
  rw [if_neg d1] at e2 ne q0 ⊢
  by_cases d2 : 0 < L 20 0 ∧ L 20 0 ≤ pzC P (pzS P)
  · rw [if_pos d2] at e2 ne ⊢
    replace e := bn_e (ne z1 (show ¬ (3 : Int) = 1 by decide)) e
    replace e := bn_e (ne z2 (show ¬ (3 : Int) = 2 by decide)) e
    replace e := bp_e (Int32.toInt_inj.mp (by rw [e2, z3])) e
    replace e := ce_e C.1.2.2.2.2 e
    replace e := gg_e e
    replace e := ce_e w0 e
    rw [c2] at e
    replace e := bp_e (ii_lt.mpr (by rw [cv, r7]; have := d2.1; omega)) e
    rw [so_e e]
    exact ⟨rfl, t1⟩
  rw [if_neg d2] at e2 ne q0 ⊢
  clear d1 d2
  -- who is bare
  have bb : ∀ {t : Int32} {d : Nat}, t.toInt = (d : Int) → d < 2 → (cl (hR h (V 6) 0) fun r_1 => br ((hI h r_1 9) = (1 : Int32)) (some (t, h)) (some ((1 : Int32) - t, h))) = some o → o.2 = h ∧ o.1.toInt = erB L d := fun {t d} ht hd u => by
    replace u := ce_e w0 u
    unfold erB
    rcases br_s u with ⟨y, u⟩ | ⟨y, u⟩
    · have r := r9
      rw [y, z1] at r
      rw [so_e u, if_pos r.symm]
      exact ⟨rfl, ht⟩
    · have n1 : ¬ L 23 0 = 1 := fun z => y (Int32.toInt_inj.mp (by rw [r9, z, z1]))
      rw [so_e u, if_neg n1]
      exact ⟨rfl, by show ((1 : Int32) - t).toInt = _; rw [ts (by rw [z1, ht]; omega), z1, ht]⟩
  unfold er4 at e2 ne q0 ⊢
  by_cases f1 : prB' (BrE P (pzS P)) = true
  · rw [if_pos f1] at e2 ne ⊢
    replace e := bn_e (ne z1 (show ¬ (4 : Int) = 1 by decide)) e
    replace e := bn_e (ne z2 (show ¬ (4 : Int) = 2 by decide)) e
    replace e := bn_e (ne z3 (show ¬ (4 : Int) = 3 by decide)) e
    replace e := bp_e (Int32.toInt_inj.mp (by rw [e2, z4])) e
    replace e := cl_s e; obtain ⟨o7, eo7, e⟩ := e
    obtain ⟨w7, q7⟩ := bar_c O C t1 isd eo7
    rw [w7] at e
    rcases q7 with ⟨_, y⟩ | ⟨x, _⟩
    · exact absurd (prb_e.mp f1) y
    · replace e := bn_e (by rw [x]; decide) e
      exact bb t1 isd e
  rw [if_neg f1] at e2 ne q0 ⊢
  by_cases f2 : prB' (BrE P (1 - pzS P)) = true
  · rw [if_pos f2] at e2 ne ⊢
    replace e := bn_e (ne z1 (show ¬ (4 : Int) = 1 by decide)) e
    replace e := bn_e (ne z2 (show ¬ (4 : Int) = 2 by decide)) e
    replace e := bn_e (ne z3 (show ¬ (4 : Int) = 3 by decide)) e
    replace e := bp_e (Int32.toInt_inj.mp (by rw [e2, z4])) e
    replace e := cl_s e; obtain ⟨o7, eo7, e⟩ := e
    obtain ⟨w7, q7⟩ := bar_c O C t1 isd eo7
    rw [w7] at e
    rcases q7 with ⟨x, _⟩ | ⟨_, y⟩
    · replace e := bp_e x e
      exact bb t2 (by omega) e
    · exact absurd (prb_e.mpr y) f1
  rw [if_neg f2] at q0
  exact absurd q0 (by decide)
end
end
section
/-! what is wrong with a position: pure, and the reference -/
def rcF (L : Nat → Nat → Int) (M : Nat → Int) (d s : Nat) : Nat := if 0 ≤ L 10 0 ∧ M s = 1 + 2 * L 10 0 + d then 1 else 0
/-- how many ROYAL men a side has -/
def rcL (L : Nat → Nat → Int) (M : Nat → Int) (d n : Nat) : Nat := sN (rcF L M d) n
def F2p (L : Nat → Nat → Int) (P : Pz) : Prop := 0 ≤ L 10 0 ∧ ∃ d : Nat, d < 2 ∧ (1 < rcL L P.1 d 64 ∨ (¬ L 18 0 = 0 ∧ rcL L P.1 d 64 = 0) ∨ 0 < pzH P (2 * (L 10 0).toNat + d))
def F3a (L : Nat → Nat → Int) (M : Nat → Int) (s : Nat) : Prop := 0 < M s ∧ 0 < L 81 (mnO (M s)) ∧ rkF L s ((M s - 1) % 2) = L 1 0
def F3p (L : Nat → Nat → Int) (P : Pz) : Prop := ∃ s : Nat, s < 64 ∧ F3a L P.1 s
def RgA (L : Nat → Nat → Int) (M : Nat → Int) (s : Nat) : Prop := 0 < M s ∧ 0 ≤ L 12 0 ∧ ((mnO (M s) : Nat) : Int) = L 12 0 ∧ rkF L s ((M s - 1) % 2) = 1 ∧ ∃ r : Nat, r < 64 ∧ 0 ≤ L 10 0 ∧ M r = 1 + 2 * L 10 0 + (M s - 1) % 2 ∧ rkF L r ((M s - 1) % 2) = 1
def F4p (L : Nat → Nat → Int) (P : Pz) : Prop := ∃ s : Nat, (s : Int) < L 0 0 * L 1 0 ∧ pzR P s = true ∧ ¬ RgA L P.1 s
/-- a PASS that a man may have made -/
def PsB (L : Nat → Nat → Int) (P : Pz) (i s : Nat) : Prop := fbt (L 75 (8 * mnO (P.1 (pzQ P 0)) + i)) 4 = true ∧ RchL L (8 * mnO (P.1 (pzQ P 0)) + i) ((P.1 (pzQ P 0) - 1) % 2) s (pzQ P 0) (pzN P) ∧ ¬ 0 < P.1 s ∧ ∀ j : Nat, 1 ≤ j → j < pzN P → (pzQ P j : Int) = (s : Int) + j * (((pzQ P 0 : Int) - s) / (pzN P : Int))
def PsA (L : Nat → Nat → Int) (P : Pz) : Prop := 0 < P.1 (pzQ P 0) ∧ ¬ (P.1 (pzQ P 0) - 1) % 2 = (pzS P : Int) ∧ (∀ k, 1 ≤ k → k < pzN P → ¬ 0 < P.1 (pzQ P k)) ∧ ∃ i s : Nat, (i : Int) < L 74 (mnO (P.1 (pzQ P 0))) ∧ (s : Int) < L 0 0 * L 1 0 ∧ PsB L P i s
def F5p (L : Nat → Nat → Int) (P : Pz) : Prop := 0 < pzN P ∧ ¬ PsA L P
def F7p (L : Nat → Nat → Int) (P : Pz) : Prop := L 20 0 = 0 ∧ 0 < pzC P 0 + pzC P 1
def F8p (L : Nat → Nat → Int) (P : Pz) : Prop := L 15 0 = 0 ∧ ∃ d : Nat, d < 24 ∧ 0 < pzH P d
noncomputable def wr7 (L : Nat → Nat → Int) (P : Pz) : Int := if prB' (F7p L P) = true then 7 else if prB' (F8p L P) = true then 8 else 0
noncomputable def wr6 (L : Nat → Nat → Int) (P : Pz) : Int := if prB' (RyH L P.1 (1 - pzS P)) = true then 6 else wr7 L P
noncomputable def wr5 (L : Nat → Nat → Int) (P : Pz) : Int := if prB' (F5p L P) = true then 5 else wr6 L P
noncomputable def wr4 (L : Nat → Nat → Int) (P : Pz) : Int := if prB' (F4p L P) = true then 4 else wr5 L P
noncomputable def wr3 (L : Nat → Nat → Int) (P : Pz) : Int := if prB' (F3p L P) = true then 3 else wr4 L P
noncomputable def wrN (L : Nat → Nat → Int) (P : Pz) : Int := if prB' (F2p L P) = true then 2 else wr3 L P
/-- a position as it is read -/
def PzR (L : Nat → Nat → Int) (P : Pz) : Prop := MOk L P.1 ∧ pzS P < 2 ∧ (pzN P = 0 ∨ (2 ≤ pzN P ∧ pzN P ≤ 64 ∧ ∀ i, i < pzN P → (pzQ P i : Int) < L 0 0 * L 1 0)) ∧ (∀ d, d < 24 → 0 ≤ pzH P d ∧ pzH P d ≤ 16) ∧ (∀ d, d < 2 → 0 ≤ pzC P d ∧ pzC P d ≤ 9)
theorem sn_two {f : Nat → Nat} {s t n : Nat} (st : s < t) (tn : t < n) (a : f s = 1) (b : f t = 1) : 2 ≤ sN f n := by
  have h1 : sN f (s + 1) = sN f s + f s := rfl
  have h2 : sN f (t + 1) = sN f t + f t := rfl
  have h3 := sn_mo (f := f) t (show s + 1 ≤ t by omega)
  have h4 := sn_mo (f := f) n (show t + 1 ≤ n by omega)
  omega
theorem rc_un {L : Nat → Nat → Int} {M : Nat → Int} (h : ∀ d, d < 2 → rcL L M d 64 ≤ 1) : UnM M (L 10 0) := fun r d s t hd hs ht a b => by
  have c := h d hd
  have fs : rcF L M d s = 1 := if_pos ⟨r, a⟩
  have ft : rcF L M d t = 1 := if_pos ⟨r, b⟩
  by_cases st : s < t
  · have := sn_two (n := 64) st ht fs ft
    unfold rcL at c
    omega
  · by_cases ts' : t < s
    · have := sn_two (n := 64) ts' hs ft fs
      unfold rcL at c
      omega
    · omega
theorem rc_s {L : Nat → Nat → Int} {M : Nat → Int} {d n : Nat} : rcL L M d (n + 1) = rcL L M d n + rcF L M d n := rfl
theorem rcl_le {L : Nat → Nat → Int} {M : Nat → Int} {d n : Nat} : rcL L M d n ≤ n := by
  have := sn_le (f := rcF L M d) (g := fun _ => 1) n (fun t _ => by unfold rcF; split <;> omega)
  rw [sn_k] at this
  unfold rcL
  omega
/-- squares beyond the board are empty -/
theorem rc_64 {L : Nat → Nat → Int} {M : Nat → Int} {d n : Nat} (HM : MOk L M) (hn : (n : Int) = L 0 0 * L 1 0) : ∀ k, n ≤ k → k ≤ 64 → rcL L M d k = rcL L M d n := fun k => by
  induction k with
  | zero =>
    intro h _
    have : n = 0 := by omega
    rw [this]
  | succ k ih =>
    intro h1 h2
    by_cases c : n = k + 1
    · rw [c]
    · rw [rc_s, ih (by omega) (by omega)]
      have : rcF L M d k = 0 := if_neg (fun z => by
        have m := HM k (by omega)
        have := m.2 (by omega)
        omega)
      rw [this]
      rfl
abbrev wwr : List (Nat × Nat) := [(222, 999), (16, 23), (16, 24)]
section
variable {F : Nat} {V : Nat → Nat} {L : Nat → Nat → Int} {h : Hp} {P : Pz} {o : Int32 × Hp}
/-- hands -/
theorem wr_368 (W : RW0 V h L) (R : RbP V h P) (O : PzR L P) (n7 : ¬ F7p L P) : ∀ (f : Nat) {x5 : Int32} {n : Nat}, x5.toInt = (n : Int) → n ≤ 24 → (∀ d, d < n → ¬ 0 < pzH P d) → sX15_wrongOf_368 F f h (V 16) (V 13) x5 = some o → o.2 = h ∧ o.1.toInt = wr7 L P := by
  have z0 : (0 : Int32).toInt = 0 := rfl
  have z1 : (1 : Int32).toInt = 1 := rfl
  have z24 : (24 : Int32).toInt = 24 := rfl
  have l15 : (hI h (V 15) 15).toInt = L 15 0 := lw_0 (rwd_b W R) (by decide) 0
  intro f
  induction f with
  | zero => intro x5 n _ _ _ e; exact absurd e (by rw [sX15_wrongOf_368]; exact fun z => nomatch z)
  | succ f ih =>
    intro x5 n e5 n24 no e
    rw [sX15_wrongOf_368] at e
    unfold sX15_wrongOf_404 at e
    have non : ¬ F8p L P → some ((0 : Int32), h) = some o → o.2 = h ∧ o.1.toInt = wr7 L P := fun n8 u => by
      unfold wr7
      rw [so_e u, if_neg (fun z => n7 (prb_e.mp z)), if_neg (fun z => n8 (prb_e.mp z))]
      exact ⟨rfl, rfl⟩
    rcases br_s e with ⟨c, e⟩ | ⟨c, e⟩
    · have c := le_i c
      rw [z24, e5] at c
      exact non (fun ⟨_, d, hd, z⟩ => no d (by omega) z) e
    have c := nle_i c
    rw [z24, e5] at c
    replace e := ce_e W.1.1 e
    rcases br_s e with ⟨y, e⟩ | ⟨y, e⟩
    rotate_left
    · exact non (fun z => y (Int32.toInt_inj.mp (by rw [l15, z.1, z0]))) e
    rw [y, z0] at l15
    have c5 : x5.toNatClampNeg = n := by have := nc_i (x := x5) (by omega); omega
    have hv' := R.2.2.2.2.2.2.1 n (by omega)
    replace e := ce_e R.1.2.2.1 e
    replace e := gg_e e
    rcases br_s e with ⟨w, e⟩ | ⟨w, e⟩ <;> rw [c5] at w
    · have w := le_i w
      rw [hv', z0] at w
      refine ih (n := n + 1) (by rw [ta (by rw [z1]; omega), z1, e5]; omega) (by omega) (fun d hd => ?_) (nx_e e)
      by_cases q : d = n
      · rw [q]; omega
      · exact no d (by omega)
    · have w := nle_i w
      rw [hv', z0] at w
      unfold wr7
      rw [so_e e, if_neg (fun z => n7 (prb_e.mp z)), if_pos (prb_e.mpr ⟨l15.symm, n, by omega, w⟩)]
      exact ⟨rfl, rfl⟩
/-- checks, hands -/
theorem wr_336 (W : RW0 V h L) (R : RbP V h P) (O : PzR L P) (e : sX15_wrongOf_336 F h (V 16) (V 13) = some o) : o.2 = h ∧ o.1.toInt = wr7 L P := by
  have z0 : (0 : Int32).toInt = 0 := rfl
  have n0 : (0 : Int32).toNatClampNeg = 0 := rfl
  have n1 : (1 : Int32).toNatClampNeg = 1 := rfl
  have l20 : (hI h (V 15) 20).toInt = L 20 0 := lw_0 (rwd_b W R) (by decide) 0
  unfold sX15_wrongOf_336 sX15_wrongOf_365 at e
  replace e := ce_e W.1.1 e
  rcases br_s e with ⟨c, e⟩ | ⟨c, e⟩
  rotate_left
  · exact wr_368 W R O (fun z => c (Int32.toInt_inj.mp (by rw [l20, z.1, z0]))) F (n := 0) rfl (by decide) (fun d hd => absurd hd (Nat.not_lt_zero _)) e
  rw [c, z0] at l20
  have c0 := R.2.2.2.2.2.2.2.1 0 (by decide)
  have c1 := R.2.2.2.2.2.2.2.1 1 (by decide)
  have b0 := O.2.2.2.2 0 (by decide)
  have b1 := O.2.2.2.2 1 (by decide)
  replace e := ce_e R.1.2.2.2 e
  replace e := gg_e e
  replace e := ce_e R.1.2.2.2 e
  replace e := gg_e e
  have sm : ((hI h (V 65) 0) + (hI h (V 65) 1)).toInt = pzC P 0 + pzC P 1 := by rw [ta (by rw [c0, c1]; omega), c0, c1]
  rcases br_s e with ⟨y, e⟩ | ⟨y, e⟩ <;> rw [n0, n1] at y
  · have y := le_i y
    rw [sm, z0] at y
    exact wr_368 W R O (fun z => by have := z.2; omega) F (n := 0) rfl (by decide) (fun d hd => absurd hd (Nat.not_lt_zero _)) e
  · have y := nle_i y
    rw [sm, z0] at y
    unfold wr7
    rw [so_e e, if_pos (prb_e.mpr ⟨l20.symm, y⟩)]
    exact ⟨rfl, rfl⟩
theorem wr_300 (D : VD V) (H : LOk L) (kr : -1 ≤ L 10 0 ∧ L 10 0 ≤ 11) (U : UnM P.1 (L 10 0)) (W : RW0 V h L) (R : RbP V h P) (O : PzR L P) (e : sX15_wrongOf_300 F h (V 16) (V 13) = some o) : FrV V (wl wwr) h o.2 ∧ o.1.toInt = wr6 L P := by
  have z1 : (1 : Int32).toInt = 1 := rfl
  have isd := O.2.1
  have bs := R.2.2.1
  have s1 : ((1 : Int32) - (hI h (V 13) 1)).toInt = ((1 - pzS P : Nat) : Int) := by rw [ts (by rw [z1, bs]; omega), z1, bs]; omega
  unfold sX15_wrongOf_300 at e
  replace e := cl_s e; obtain ⟨o1, eo1, e⟩ := e
  obtain ⟨w1, ro⟩ := roy_r H O.1 (rwd_b W R) kr s1 (by omega) eo1
  rw [w1] at e
  have non : ∀ {g : Hp}, FrV V (wl wdx) h g → ¬ RyH L P.1 (1 - pzS P) → sX15_wrongOf_336 F g (V 16) (V 13) = some o → FrV V (wl wwr) h o.2 ∧ o.1.toInt = wr6 L P := fun {g} G n u => by
    obtain ⟨w, q⟩ := wr_336 (rw0_f D W G (by decide) rfl rfl rfl) (rbp_f D R G (by decide)) O u
    unfold wr6
    rw [if_neg (fun z => n (prb_e.mp z)), w]
    exact ⟨fv_s G (by decide), q⟩
  rcases roa_e ro with ⟨a1, a2⟩ | ⟨a1, a2, a3, a4, _⟩
  · exact non fv_0 (ryh_n a2) (bp_e a1 e)
  replace e := bn_e a1 e
  replace e := cl_s e; obtain ⟨o3, eo3, e⟩ := e
  obtain ⟨A3, q3⟩ := ryh_b D H O.1 U W R (d := 1 - pzS P) (by omega) a2 a3 a4 (by rw [bs]; omega) eo3
  rcases q3 with ⟨a, b⟩ | ⟨a, b⟩
  · exact non A3 b (bp_e a e)
  · replace e := bn_e (by rw [a]; decide) e
    unfold wr6
    rw [so_e e, if_pos (prb_e.mpr b)]
    exact ⟨fv_s A3 (by decide), rfl⟩
/-- one right -/
theorem rgt_r {x2 : Int32} {s : Nat} (H : LOk L) (K : LawK L) (U : UnM P.1 (L 10 0)) (W : RW0 V h L) (R : RbP V h P) (HM : MOk L P.1) (e2 : x2.toInt = (s : Int)) (sL : (s : Int) < L 0 0 * L 1 0) (e : sX15_isRight F h (V 16) (V 13) x2 = some o) : o.2 = h ∧ ((o.1 = 0 ∧ ¬ RgA L P.1 s) ∨ (o.1 = 1 ∧ RgA L P.1 s)) := by
  have zm : (-1 : Int32).toInt = -1 := by decide
  have z0 : (0 : Int32).toInt = 0 := rfl
  have z1 : (1 : Int32).toInt = 1 := rfl
  have sq := sq_64 H
  have L2 := H.2.2.1
  have kr : -1 ≤ L 10 0 ∧ L 10 0 ≤ 11 := ⟨K.2.1.1, by have := K.2.1.2; omega⟩
  have Wb := rwd_b W R
  have l12 : (hI h (V 15) 12).toInt = L 12 0 := lw_0 Wb (by decide) 0
  have c2 : x2.toNatClampNeg = s := by have := nc_i (x := x2) (by omega); omega
  unfold sX15_isRight sX15_isRight_49 sX15_isRight_86 sX15_isRight_87 sX15_manOf sX15_sideOf at e
  have no : ¬ RgA L P.1 s → some ((0 : Int32), h) = some o → o.2 = h ∧ ((o.1 = 0 ∧ ¬ RgA L P.1 s) ∨ (o.1 = 1 ∧ RgA L P.1 s)) := fun n u => by
    rw [so_e u]
    exact ⟨rfl, Or.inl ⟨rfl, n⟩⟩
  replace e := ce_e R.1.1 e
  replace e := gg_e e
  replace e := nm_s e; obtain ⟨v3, u3, e⟩ := e
  rw [c2] at u3
  have mv : v3.toInt = P.1 s := by rw [u3]; exact R.2.1 s (by omega)
  rcases br_s e with ⟨c, e⟩ | ⟨c, e⟩
  · rw [c, z0] at mv
    exact no (fun z => by have := z.1; omega) e
  have mp : 0 < P.1 s := by
    have := (HM s (by omega)).1
    have : ¬ P.1 s = 0 := fun z => c (Int32.toInt_inj.mp (by rw [mv, z, z0]))
    omega
  have vL := ((HM s (by omega)).2 mp).2
  replace e := ce_e W.1.1 e
  rcases br_s e with ⟨y, e⟩ | ⟨y, e⟩
  · rw [y, zm] at l12
    exact no (fun z => by have := z.2.1; omega) e
  have n12 : ¬ L 12 0 = -1 := fun z => y (Int32.toInt_inj.mp (by rw [l12, z, zm]))
  have c12 : 0 ≤ L 12 0 := by have := K.2.2.1.1; omega
  have tv : (v3 - (1 : Int32)).toInt = P.1 s - 1 := by rw [ts (by rw [z1]; omega), z1, mv]
  have sdv : ((v3 - (1 : Int32)) &&& (1 : Int32)).toInt = (P.1 s - 1) % 2 := by rw [and1_i (by omega), tv]
  have sh : ((v3 - (1 : Int32)) >>> ((1 : Int32) &&& 31)).toInt = ((mnO (P.1 s) : Nat) : Int) := by
    rw [shr_i 1 (by decide), tv, (mno_lt (L := L) mp vL).2]
    rfl
  obtain ⟨d, ed⟩ : ∃ d : Nat, (P.1 s - 1) % 2 = (d : Int) := ⟨((P.1 s - 1) % 2).toNat, by omega⟩
  have d2 : d < 2 := by omega
  rw [ed] at sdv
  replace e := cl_s e; obtain ⟨o7, eo7, e⟩ := e
  rw [so_e eo7] at e
  replace e := ce_e W.1.1 e
  rcases br_s e with ⟨w, e⟩ | ⟨w, e⟩
  rotate_left
  · have w : ¬ ((v3 - (1 : Int32)) >>> ((1 : Int32) &&& 31)) = hI h (V 15) 12 := w
    exact no (fun z => w (Int32.toInt_inj.mp (by rw [sh, z.2.2.1, l12]))) e
  have w : ((v3 - (1 : Int32)) >>> ((1 : Int32) &&& 31)) = hI h (V 15) 12 := w
  have em : ((mnO (P.1 s) : Nat) : Int) = L 12 0 := by rw [← sh, w, l12]
  replace e := cl_s e; obtain ⟨o10, eo10, e⟩ := e
  rw [so_e eo10] at e
  replace e := cl_s e; obtain ⟨o11, eo11, e⟩ := e
  obtain ⟨w11, r11⟩ := rkf_v H Wb (by omega) (by omega) eo11
  have r11 : o11.1.toInt = rkF L s d := by
    rw [r11, c2]
    show rkF L s ((v3 - (1 : Int32)) &&& (1 : Int32)).toInt = _
    rw [sdv]
  rw [w11] at e
  rcases br_s e with ⟨q, e⟩ | ⟨q, e⟩
  rotate_left
  · exact no (fun z => q (Int32.toInt_inj.mp (by rw [r11, ← ed, z.2.2.2.1, z1]))) e
  have rk : rkF L s ((P.1 s - 1) % 2) = 1 := by rw [ed, ← r11, q, z1]
  replace e := cl_s e; obtain ⟨o13, eo13, e⟩ := e
  rw [so_e eo13] at e
  replace e := cl_s e; obtain ⟨o14, eo14, e⟩ := e
  obtain ⟨w14, ro⟩ := roy_r H HM Wb kr (d := d) sdv d2 eo14
  rw [w14] at e
  rcases roa_e ro with ⟨a1, a2⟩ | ⟨a1, a2, a3, a4, _⟩
  · replace e := bp_e a1 e
    rw [so_e (gg_e e)]
    exact ⟨rfl, Or.inl ⟨rfl, fun z => by
      obtain ⟨r, r64, r0, mr, _⟩ := z.2.2.2.2
      exact a2 ⟨r, r64, r0, by rw [mr, ed]⟩⟩⟩
  replace e := bn_e a1 e
  have ca := nc_i a2.1
  have a63 := a2.2
  have aL := ((HM o14.1.toNatClampNeg (by omega)).2 (by omega)).1
  replace e := cl_s e; obtain ⟨o16, eo16, e⟩ := e
  rw [so_e eo16] at e
  replace e := cl_s e; obtain ⟨o17, eo17, e⟩ := e
  obtain ⟨w17, r17⟩ := rkf_v H Wb a2.1 (by omega) eo17
  have r17 : o17.1.toInt = rkF L o14.1.toNatClampNeg d := by
    rw [r17]
    show rkF L _ ((v3 - (1 : Int32)) &&& (1 : Int32)).toInt = _
    rw [sdv]
  rw [w17] at e
  rcases br_s e with ⟨q', e⟩ | ⟨q', e⟩
  · rw [so_e (gg_e e)]
    exact ⟨rfl, Or.inr ⟨rfl, mp, c12, em, rk, o14.1.toNatClampNeg, by omega, a3, by rw [a4, ed], by rw [ed, ← r17, q', z1]⟩⟩
  · rw [so_e (gg_e e)]
    refine ⟨rfl, Or.inl ⟨rfl, fun z => ?_⟩⟩
    obtain ⟨r, r64, r0, mr, rr⟩ := z.2.2.2.2
    rw [ed] at mr rr
    have := U r0 d r o14.1.toNatClampNeg d2 r64 (by omega) mr a4
    rw [this] at rr
    exact q' (Int32.toInt_inj.mp (by rw [r17, rr, z1]))
end
end
