section
/-! what both sides stand for -/
/-- RULES; positions; games: lengths, positions, moves made; what was found; the text given out -/
abbrev Sy := (Nat → Nat → Int) × (Nat → Option Pz) × (Nat → Int) × (Nat → Pz) × (Nat → Int) × List Pz × List Int
abbrev syL (σ : Sy) : Nat → Nat → Int := σ.1
abbrev syP (σ : Sy) : Nat → Option Pz := σ.2.1
abbrev syG (σ : Sy) : Nat → Int := σ.2.2.1
abbrev syQ (σ : Sy) : Nat → Pz := σ.2.2.2.1
abbrev syMv (σ : Sy) : Nat → Int := σ.2.2.2.2.1
abbrev syF (σ : Sy) : List Pz := σ.2.2.2.2.2.1
abbrev syO (σ : Sy) : List Int := σ.2.2.2.2.2.2
/-- what it keeps to -/
def LwOk (L : Nat → Nat → Int) : Prop := LOk L ∧ LawK L ∧ LtO L ∧ (0 ≤ L 22 0 ∧ L 22 0 ≤ 2) ∧ (-1 ≤ L 11 0 ∧ L 11 0 < L 2 0)
/-- letters of men differ; no STEP with catch, no blast; what a position keeps to besides -/
def LtD (L : Nat → Nat → Int) : Prop := (∀ m q : Nat, (m : Int) < L 2 0 → q < m → ¬ L 73 m = L 73 q) ∧ ∀ m q : Nat, m < 12 → (q : Int) < L 81 m → L 81 (L 80 (6 * m + q)).toNat = 0 ∧ ∀ u : Nat, u < q → ¬ L 80 (6 * m + q) = L 80 (6 * m + u)
def NcL (L : Nat → Nat → Int) : Prop := L 18 0 = 0 ∧ ∀ m i : Nat, (m : Int) < L 2 0 → (i : Int) < L 74 m → fbt (L 75 (8 * m + i)) 5 = false
def PzE (L : Nat → Nat → Int) (P : Pz) : Prop := ¬ F3p L P ∧ (NcL L → ¬ RyH L P.1 (1 - pzS P)) ∧ (L 20 0 = 0 → ∀ d, d < 2 → pzC P d = 0)
def SyE (σ : Sy) : Prop := LtD (syL σ) ∧ (∀ p, p < 60 → ∀ P, syP σ p = some P → PzE (syL σ) P) ∧ (∀ g, g < 8 → ∀ k : Nat, (k : Int) ≤ syG σ g → PzE (syL σ) (syQ σ (301 * g + k))) ∧ ∀ P, P ∈ syF σ → PzE (syL σ) P
def SyOk (σ : Sy) : Prop := LwOk (syL σ) ∧ (∀ p, p < 60 → ∀ P, syP σ p = some P → PzOk (syL σ) P) ∧ (∀ g, g < 8 → (-1 ≤ syG σ g ∧ syG σ g ≤ 300) ∧ ∀ k : Nat, (k : Int) ≤ syG σ g → PzOk (syL σ) (syQ σ (301 * g + k))) ∧ ((syF σ).length ≤ 3000 ∧ ∀ P, P ∈ syF σ → PzOk (syL σ) P) ∧ SyE σ
/-- men of a position, laid out of a found number: the square left, the one come to, the man, the man taken -/
def FdC (L : Nat → Nat → Int) (B : Pz) (x : Int32) (P : Pz) : Prop := ∃ s t m a : Nat, s < 64 ∧ t < 64 ∧ m < 12 ∧ (a < 12 ∨ a = 15) ∧ (¬ s = t ∧ B.1 s = 0 ∧ UnM B.1 (L 10 0)) ∧ x.toInt = s + 64 * t + 4096 * m + 65536 * a ∧ P = (updM (updM B.1 t (if a = 15 then 0 else cdV a (1 - (pzS B : Int)))) s (cdV m (pzS B)), pzS B, (fun _ => false), 0, pzQ B, (fun _ => 0), (fun _ => 0), 0)
def BareC (B : Pz) : Prop := (∀ q, q < 64 → pzR B q = false) ∧ pzN B = 0 ∧ (∀ d, d < 24 → pzH B d = 0) ∧ (∀ d, d < 2 → pzC B d = 0) ∧ pzK B = 0 ∧ pzS B < 2
section
variable {n j : Nat} {h o g : Hp} {σ : Sy}
def CPi (n : Nat) (h : Hp) (σ : Sy) (p : Nat) : Prop := (syP σ p = none ∧ hI h (n + 149) p = 0) ∨ ∃ P, syP σ p = some P ∧ hI h (n + 149) p = 1 ∧ CpA h (n + (153 + 6 * p)) (syL σ 10 0) P
def CPl (n : Nat) (h : Hp) (σ : Sy) : Prop := ∀ p, p < 60 → CPi n h σ p
def CGi (n : Nat) (h : Hp) (σ : Sy) (g : Nat) : Prop := (hI h (n + 152) g).toInt = syG σ g ∧ ∀ k : Nat, (k : Int) ≤ syG σ g → (∃ a, hR h (n + 150) (301 * g + k) = some a ∧ CpA h a (syL σ 10 0) (syQ σ (301 * g + k))) ∧ ((k : Int) < syG σ g → (hI h (n + 151) (301 * g + k)).toInt = syMv σ (301 * g + k))
def CGm (n : Nat) (h : Hp) (σ : Sy) : Prop := ∀ g, g < 8 → CGi n h σ g
def CFd (n : Nat) (h : Hp) (σ : Sy) : Prop := (hI h (n + 48) 6).toInt = ((syF σ).length : Int) ∧ (syF σ = [] ∨ ∃ B, BareC B ∧ CpA h (n + 49) (syL σ 10 0) B ∧ ∀ k, k < (syF σ).length → ∃ P, (syF σ)[k]? = some P ∧ FdC (syL σ) B (hI h (n + 61) k) P)
def COu (n : Nat) (h : Hp) (σ : Sy) : Prop := (hI h (n + 3) 1).toInt = ((syO σ).length : Int) ∧ ∀ i, i < (syO σ).length → (syO σ)[i]? = some (hI h (n + 4) i).toInt
def RelC (n : Nat) (h : Hp) (σ : Sy) : Prop := ClL n h (syL σ) ∧ CPl n h σ ∧ CGm n h σ ∧ CFd n h σ ∧ COu n h σ
def RPi (n : Nat) (h : Hp) (σ : Sy) (p : Nat) : Prop := (syP σ p = none ∧ hI h (n + 537) p = 0) ∨ ∃ P a, syP σ p = some P ∧ 0 < (hI h (n + 537) p).toInt ∧ hR h (n + 536) p = some a ∧ RbA h a P
def RPl (n : Nat) (h : Hp) (σ : Sy) : Prop := ∀ p, p < 60 → RPi n h σ p
def RGi (n : Nat) (h : Hp) (σ : Sy) (g : Nat) : Prop := (hI h (n + 582) g).toInt = syG σ g ∧ ∀ k : Nat, (k : Int) ≤ syG σ g → (∃ a, hR h (n + 580) (301 * g + k) = some a ∧ RbA h a (syQ σ (301 * g + k))) ∧ ((k : Int) < syG σ g → (hI h (n + 581) (301 * g + k)).toInt = syMv σ (301 * g + k))
def RGm (n : Nat) (h : Hp) (σ : Sy) : Prop := ∀ g, g < 8 → RGi n h σ g
def RFd (n : Nat) (h : Hp) (σ : Sy) : Prop := (hI h (n + 513) 44).toInt = ((syF σ).length : Int) ∧ ∀ k, k < (syF σ).length → ∃ P a, (syF σ)[k]? = some P ∧ (0 ≤ (hI h (n + 585) k).toInt ∧ (hI h (n + 585) k).toInt < 3000) ∧ hR h (n + 583) (hI h (n + 585) k).toNatClampNeg = some a ∧ RbA h a P
def ROu (n : Nat) (h : Hp) (σ : Sy) : Prop := (hI h (n + 513) 3).toInt = ((syO σ).length : Int) ∧ ∀ i, i < (syO σ).length → (syO σ)[i]? = some (hI h (n + 515) i).toInt
def RSe (n j : Nat) (h : Hp) : Prop := 0 ≤ (hI h (n + 513) 16).toInt ∧ (hI h (n + 513) 16).toInt ≤ (j : Int) ∧ j ≤ 100000
def RLw (n : Nat) (h : Hp) (L : Nat → Nat → Int) : Prop := ∃ w, (w = 516 ∨ w = 526) ∧ hR h (n + 513) 4 = some (n + w) ∧ hR h (n + 513) 5 = some (n + (1042 - w)) ∧ RfL n h (n + w) L
def RelR (n j : Nat) (h : Hp) (σ : Sy) : Prop := RLw n h (syL σ) ∧ RPl n h σ ∧ RGm n h σ ∧ RFd n h σ ∧ ROu n h σ ∧ RSe n j h
/-- a position whose cells stay -/
theorem cpa_f {b : Nat} {ro : Int} {P : Pz} (C : CpA h b ro P) (R : ∀ p, p ∈ fsP → hR o b p.1 = some (b + p.2)) (I : ∀ j i, j < 6 → hI o (b + j) i = hI h (b + j) i ∧ hJ o (b + j) i = hJ h (b + j) i) : CpA o b ro P := by
  obtain ⟨_, c2, c3, c4, c5, c6, c7, c8⟩ := C
  have e0 : ∀ i, hI o (b + 0) i = hI h (b + 0) i := fun i => (I 0 i (by decide)).1
  have j0 : ∀ i, hJ o (b + 0) i = hJ h (b + 0) i := fun i => (I 0 i (by decide)).2
  have e1 : ∀ i, hI o (b + 1) i = hI h (b + 1) i := fun i => (I 1 i (by decide)).1
  have j2 : ∀ i, hJ o (b + 2) i = hJ h (b + 2) i := fun i => (I 2 i (by decide)).2
  have e3 : ∀ i, hI o (b + 3) i = hI h (b + 3) i := fun i => (I 3 i (by decide)).1
  have j4 : ∀ i, hJ o (b + 4) i = hJ h (b + 4) i := fun i => (I 4 i (by decide)).2
  have e5 : ∀ i, hI o (b + 5) i = hI h (b + 5) i := fun i => (I 5 i (by decide)).1
  refine ⟨⟨R (0, 1) (by decide), R (1, 2) (by decide), R (2, 3) (by decide), R (3, 4) (by decide), R (4, 5) (by decide)⟩, posc_kk c2 (fun s _ => e1 s) (fun d _ => j2 d) (fun d _ => e3 d), ?_, fun q hq => ?_, ⟨?_, ?_⟩, ⟨fun s hs => ?_, fun d hd => ?_⟩, fun d hd => ?_, ?_⟩
  · show (hI o (b + 0) 5).toInt = _
    rw [e0]; exact c3
  · show bitJ (hJ o (b + 0) 8) q = _
    rw [j0]; exact c4 q hq
  · show Pw (hJ o (b + 0) 9) _ _
    rw [j0]; exact c5.1
  · show OvN (hJ o (b + 0) 10) _ _
    rw [j0]; exact c5.2
  · show HdB (hJ o (b + 4) s)
    rw [j4]; exact c6.1 s hs
  · show ((hv (hJ o (b + 4) (d % 2)) (d / 2) : Nat) : Int) = _
    rw [j4]; exact c6.2 d hd
  · show (hI o (b + 5) d).toInt = _
    rw [e5]; exact c7 d hd
  · show (hI o (b + 0) 6).toInt = _
    rw [e0]; exact c8
theorem rba_f {b : Nat} {P : Pz} (C : RbA h b P) (R : ∀ p, p ∈ fsB → hR o b p.1 = some (b + p.2)) (I : ∀ j i, j < 5 → hI o (b + j) i = hI h (b + j) i ∧ hJ o (b + j) i = hJ h (b + j) i) : RbA o b P := by
  obtain ⟨_, c2, c3, c4, c5, c6, c7, c8, c9⟩ := C
  have e0 : ∀ i, hI o (b + 0) i = hI h (b + 0) i := fun i => (I 0 i (by decide)).1
  have j0 : ∀ i, hJ o (b + 0) i = hJ h (b + 0) i := fun i => (I 0 i (by decide)).2
  have e1 : ∀ i, hI o (b + 1) i = hI h (b + 1) i := fun i => (I 1 i (by decide)).1
  have e2 : ∀ i, hI o (b + 2) i = hI h (b + 2) i := fun i => (I 2 i (by decide)).1
  have e3 : ∀ i, hI o (b + 3) i = hI h (b + 3) i := fun i => (I 3 i (by decide)).1
  have e4 : ∀ i, hI o (b + 4) i = hI h (b + 4) i := fun i => (I 4 i (by decide)).1
  refine ⟨⟨R (0, 1) (by decide), R (4, 2) (by decide), R (5, 3) (by decide), R (6, 4) (by decide)⟩, fun s hs => ?_, ?_, fun q hq => ?_, ?_, fun i hi => ?_, fun d hd => ?_, fun d hd => ?_, ?_⟩
  · show (hI o (b + 1) s).toInt = _
    rw [e1]; exact c2 s hs
  · show (hI o (b + 0) 1).toInt = _
    rw [e0]; exact c3
  · show bitJ (hJ o (b + 0) 2) q = _
    rw [j0]; exact c4 q hq
  · show (hI o (b + 0) 3).toInt = _
    rw [e0]; exact c5
  · show (hI o (b + 2) i).toInt = _
    rw [e2]; exact c6 i hi
  · show (hI o (b + 3) d).toInt = _
    rw [e3]; exact c7 d hd
  · show (hI o (b + 4) d).toInt = _
    rw [e4]; exact c8 d hd
  · show (hI o (b + 0) 7).toInt = _
    rw [e0]; exact c9
theorem pl_R {p : Nat} (k : DyK n g h) (hp : p < 60) : ∀ q, q ∈ fsP → hR h (n + (153 + 6 * p)) q.1 = some (n + (153 + 6 * p) + q.2) := fun q hq => (k.1.2.1.2.1 p hp).2 q hq
/-- references of rows that were there stay -/
theorem ks_r (k : DyK n h o) {q : Nat × Nat × Nat × Nat × List (Nat × Nat)} (hq : q ∈ fam) {i a : Nat} (e : hR h (n + q.1) i = some a) : hR o (n + q.1) i = some a := k.1.2.2.2.2.1 q hq i a e
theorem mkc_i {V : Nat → Nat} {L : Nat → Nat → Int} (C : MkC V h L) (i2 : hI o (V 2) = hI h (V 2)) (i27 : hI o (V 27) = hI h (V 27)) (i28 : hI o (V 28) = hI h (V 28)) (i29 : hI o (V 29) = hI h (V 29)) (i30 : hI o (V 30) = hI h (V 30)) (i31 : hI o (V 31) = hI h (V 31)) (i32 : hI o (V 32) = hI h (V 32)) (i33 : hI o (V 33) = hI h (V 33)) (i50 : hI o (V 50) = hI h (V 50)) (i51 : hI o (V 51) = hI h (V 51)) (j2 : hJ o (V 2) = hJ h (V 2)) (j52 : hJ o (V 52) = hJ h (V 52)) (j53 : hJ o (V 53) = hJ h (V 53)) (j54 : hJ o (V 54) = hJ h (V 54)) (j55 : hJ o (V 55) = hJ h (V 55)) (r60 : hR o (V 6) 0 = hR h (V 6) 0) (r61 : hR o (V 6) 1 = hR h (V 6) 1) (r110 : hR o (V 11) 0 = hR h (V 11) 0) (r111 : hR o (V 11) 1 = hR h (V 11) 1) (r112 : hR o (V 11) 2 = hR h (V 11) 2) (r113 : hR o (V 11) 3 = hR h (V 11) 3) (r114 : hR o (V 11) 4 = hR h (V 11) 4) (r115 : hR o (V 11) 5 = hR h (V 11) 5) (r214 : hR o (V 2) 14 = hR h (V 2) 14) (r217 : hR o (V 2) 17 = hR h (V 2) 17) (r218 : hR o (V 2) 18 = hR h (V 2) 18) (r219 : hR o (V 2) 19 = hR h (V 2) 19) (r220 : hR o (V 2) 20 = hR h (V 2) 20) : MkC V o L := by
  unfold MkC CWy CLwC CLq CLx WCf WyT AroT CellW WyE rowN at C ⊢
  simp only [i2, i27, i28, i29, i30, i31, i32, i33, i50, i51, j2, j52, j53, j54, j55, r60, r61, r110, r111, r112, r113, r114, r115, r214, r217, r218, r219, r220]
  exact C
/-- RULES of the class: cells 5 .. 12, 22 .. 28 -/
theorem cll_f {L : Nat → Nat → Int} (k : DyK n g h) (k' : DyK n h o) (I : ∀ j i, (5 ≤ j ∧ j ≤ 12) ∨ (22 ≤ j ∧ j ≤ 28) → hI o (n + j) i = hI h (n + j) i ∧ hJ o (n + j) i = hJ h (n + j) i) (C : ClL n h L) : ClL n o L := by
  have R : ∀ a f b, (a, f, b) ∈ edL → hR o (n + a) f = hR h (n + a) f := fun a f b m => by rw [dk_e k' m, dk_e k m]
  have e : ∀ j, (5 ≤ j ∧ j ≤ 12) ∨ (22 ≤ j ∧ j ≤ 28) → hI o (n + j) = hI h (n + j) := fun j hj => funext fun i => (I j i hj).1
  have e' : ∀ j, (5 ≤ j ∧ j ≤ 12) ∨ (22 ≤ j ∧ j ≤ 28) → hJ o (n + j) = hJ h (n + j) := fun j hj => funext fun i => (I j i hj).2
  exact mkc_i (V := vK n 0 0 0 0 0 0) C (e 5 (by decide)) (e 6 (by decide)) (e 7 (by decide)) (e 8 (by decide)) (e 9 (by decide)) (e 10 (by decide)) (e 11 (by decide)) (e 12 (by decide)) (e 23 (by decide)) (e 24 (by decide)) (e' 5 (by decide)) (e' 25 (by decide)) (e' 26 (by decide)) (e' 27 (by decide)) (e' 28 (by decide)) (R 30 0 5 (by decide +kernel)) (R 30 1 22 (by decide +kernel)) (R 22 0 23 (by decide +kernel)) (R 22 1 24 (by decide +kernel)) (R 22 2 25 (by decide +kernel)) (R 22 3 26 (by decide +kernel)) (R 22 4 27 (by decide +kernel)) (R 22 5 28 (by decide +kernel)) (R 5 14 6 (by decide +kernel)) (R 5 17 9 (by decide +kernel)) (R 5 18 10 (by decide +kernel)) (R 5 19 11 (by decide +kernel)) (R 5 20 12 (by decide +kernel))
/-- places of the class that count, positions and games aside -/
def cFt (j : Nat) : Prop := (3 ≤ j ∧ j ≤ 12) ∨ (22 ≤ j ∧ j ≤ 28) ∨ (48 ≤ j ∧ j ≤ 54) ∨ j = 61
/-- of the reference -/
def rFt (j i : Nat) : Prop := (j = 513 ∧ (i = 3 ∨ i = 11 ∨ i = 12 ∨ i = 13 ∨ i = 44)) ∨ j = 515 ∨ (516 ≤ j ∧ j ≤ 535) ∨ j = 585
/-- one position stays -/
theorem cpi_f {W : Nat → Nat → Prop} {p : Nat} (k : DyK n g h) (k' : DyK n h o) (F : FrW W h o) (hp : p < 60) (d1 : ¬ W (n + 149) p) (d2 : ∀ j i, j < 6 → ¬ W (n + (153 + 6 * p) + j) i) (R : CPi n h σ p) : CPi n o σ p := by
  have s6 := dk_610 k
  have e1 := (F.2 (n + 149) p (by omega) d1).1
  rcases R with ⟨a, b⟩ | ⟨P, a, b, c⟩
  · exact Or.inl ⟨a, by rw [e1]; exact b⟩
  · exact Or.inr ⟨P, a, by rw [e1]; exact b, cpa_f c (pl_R k' hp) (fun j i hj => F.2 _ _ (by omega) (d2 j i hj))⟩
/-- a page stays -/
theorem dy_lo {q : Nat × Nat × Nat × Nat × List (Nat × Nat)} {i a : Nat} (k : DyK n g h) (hq : q ∈ fam) (hi : i < q.2.1) (e : hR h (n + q.1) i = some a) : n + 610 ≤ a ∧ a + q.2.2.1 ≤ hS h := by
  obtain ⟨own, Dw⟩ := k.1.1
  obtain ⟨a1, a2, _⟩ := bk_dy Dw hq hi e
  exact ⟨a1, a2.1⟩
theorem pag_f {W : Nat → Nat → Prop} {i a : Nat} {ro : Int} {P : Pz} (k : DyK n g h) (k' : DyK n h o) (F : FrW W h o) (hi : i < 2408) (e : hR h (n + 150) i = some a) (dd : ∀ j f, j < 6 → ¬ W (a + j) f) (c : CpA h a ro P) : hR o (n + 150) i = some a ∧ CpA o a ro P := by
  have e' := ks_r k' (q := (150, 2408, 6, 1000, fsP)) (by decide) e
  obtain ⟨own', Dw'⟩ := k'.1.1
  obtain ⟨_, a2⟩ := dy_lo k (q := (150, 2408, 6, 1000, fsP)) (by decide) hi e
  obtain ⟨b1, b2, b3⟩ := bk_dy Dw' (q := (150, 2408, 6, 1000, fsP)) (by decide) hi e'
  have a2 : a + 6 ≤ hS h := a2
  exact ⟨e', cpa_f c b3 (fun j f hj => F.2 _ _ (by omega) (dd j f hj))⟩
/-- one game stays -/
theorem cgi_f {W : Nat → Nat → Prop} {g' : Nat} (k : DyK n g h) (k' : DyK n h o) (F : FrW W h o) (hg : g' < 8) (lg : syG σ g' ≤ 300) (d1 : ¬ W (n + 152) g') (d2 : ∀ q, q ≤ 300 → ¬ W (n + 151) (301 * g' + q)) (dd : ∀ q a, q ≤ 300 → hR h (n + 150) (301 * g' + q) = some a → n + 610 ≤ a → a + 6 ≤ hS h → ∀ j f, j < 6 → ¬ W (a + j) f) (R : CGi n h σ g') : CGi n o σ g' := by
  have s6 := dk_610 k
  refine ⟨by rw [(F.2 _ _ (by omega) d1).1]; exact R.1, fun q hq => ?_⟩
  obtain ⟨⟨a, ea, ca⟩, m⟩ := R.2 q hq
  obtain ⟨lo, hi⟩ := dy_lo k (q := (150, 2408, 6, 1000, fsP)) (i := 301 * g' + q) (by decide) (by show _ < 2408; omega) ea
  obtain ⟨x1, x2⟩ := pag_f k k' F (i := 301 * g' + q) (by omega) ea (dd q a (by omega) ea lo hi) ca
  exact ⟨⟨a, x1, x2⟩, fun l => by rw [(F.2 _ _ (by omega) (d2 q (by omega))).1]; exact m l⟩
/-- the rest stays -/
theorem relc_g {W : Nat → Nat → Prop} (k : DyK n g h) (k' : DyK n h o) (F : FrW W h o) (dj : ∀ j i, cFt j → ¬ W (n + j) i) (R1 : ClL n h (syL σ)) (R4 : CFd n h σ) (R5 : COu n h σ) : ClL n o (syL σ) ∧ CFd n o σ ∧ COu n o σ := by
  have s6 := dk_610 k
  have I : ∀ j i, cFt j → hI o (n + j) i = hI h (n + j) i ∧ hJ o (n + j) i = hJ h (n + j) i := fun j i hj => F.2 _ _ (by unfold cFt at hj; omega) (dj j i hj)
  refine ⟨cll_f k k' (fun j i hj => I j i (by unfold cFt; omega)) R1, ⟨?_, ?_⟩, ?_, fun i hi => ?_⟩
  · rw [(I 48 6 (by unfold cFt; omega)).1]; exact R4.1
  · rcases R4.2 with z | ⟨B, b1, b2, b3⟩
    · exact Or.inl z
    · refine Or.inr ⟨B, b1, cpa_f b2 (fun q hq => ?_) (fun j i hj => ?_), fun q hq => ?_⟩
      · have : ∀ q, q ∈ fsP → (49, q.1, 49 + q.2) ∈ edL := by decide +kernel
        have := dk_e k' (this q hq)
        rw [show n + (49 + q.2) = n + 49 + q.2 by omega] at this
        exact this
      · have := I (49 + j) i (by unfold cFt; omega)
        rw [show n + (49 + j) = n + 49 + j by omega] at this
        exact this
      · obtain ⟨P, p1, p2⟩ := b3 q hq
        exact ⟨P, p1, by rw [(I 61 q (by unfold cFt; omega)).1]; exact p2⟩
  · rw [(I 3 1 (by unfold cFt; omega)).1]; exact R5.1
  · rw [(I 4 i (by unfold cFt; omega)).1]; exact R5.2 i hi
/-- all stays -/
theorem relc_f {W : Nat → Nat → Prop} (k : DyK n g h) (k' : DyK n h o) (F : FrW W h o) (dj : ∀ j i, cFt j ∨ (149 ≤ j ∧ j ≤ 512 ∧ ¬ j = 150) → ¬ W (n + j) i) (dd : ∀ q a, q < 2408 → hR h (n + 150) q = some a → n + 610 ≤ a → a + 6 ≤ hS h → ∀ j f, j < 6 → ¬ W (a + j) f) (lg : ∀ g, g < 8 → syG σ g ≤ 300) (R : RelC n h σ) : RelC n o σ := by
  obtain ⟨R1, R2, R3, R4, R5⟩ := R
  obtain ⟨x1, x2, x3⟩ := relc_g k k' F (fun j i hj => dj j i (Or.inl hj)) R1 R4 R5
  refine ⟨x1, fun p hp => cpi_f k k' F hp (dj 149 p (Or.inr ⟨by omega, by omega, by omega⟩)) (fun j i hj => ?_) (R2 p hp), fun g' hg => cgi_f k k' F hg (lg g' hg) (dj 152 g' (Or.inr ⟨by omega, by omega, by omega⟩)) (fun q hq => dj 151 _ (Or.inr ⟨by omega, by omega, by omega⟩)) (fun q a hq e lo hi => dd _ a (by omega) e lo hi) (R3 g' hg), x2, x3⟩
  have := dj (153 + 6 * p + j) i (Or.inr ⟨by omega, by omega, by omega⟩)
  rw [show n + (153 + 6 * p + j) = n + (153 + 6 * p) + j by omega] at this
  exact this
theorem rw0_i {V : Nat → Nat} {L : Nat → Nat → Int} (C : RW0 V h L) (i15 : hI o (V 15) = hI h (V 15)) (j15 : hJ o (V 15) 21 = hJ h (V 15) 21) (ir : ∀ k, 73 ≤ k → k ≤ 81 → hI o (V k) = hI h (V k)) (a : hI o (V 16) 11 = hI h (V 16) 11) (b : hI o (V 16) 12 = hI h (V 16) 12) (c : hI o (V 16) 13 = hI h (V 16) 13) (R : WRf V o) : RW0 V o L := by
  obtain ⟨_, c2, c3, c4, c5⟩ := C
  refine ⟨R, ?_, by rw [a]; exact c3, by rw [b]; exact c4, by rw [c]; exact c5⟩
  rw [← c2]
  funext k i
  unfold lwR
  by_cases z : k < 30
  · rw [if_pos z, if_pos z, i15]
  · rw [if_neg z, if_neg z]
    by_cases z2 : 73 ≤ k ∧ k ≤ 81
    · rw [if_pos z2, if_pos z2, ir k z2.1 z2.2]
    · rw [if_neg z2, if_neg z2, j15]
/-- a board stays -/
theorem brd_f {W : Nat → Nat → Prop} {q : Nat × Nat × Nat × Nat × List (Nat × Nat)} {i a : Nat} {P : Pz} (k : DyK n g h) (k' : DyK n h o) (F : FrW W h o) (hq : q ∈ fam) (f5 : q.2.2.2.2 = fsB) (w5 : q.2.2.1 = 5) (hi : i < q.2.1) (e : hR h (n + q.1) i = some a) (dd : ∀ j f, j < 5 → ¬ W (a + j) f) (c : RbA h a P) : hR o (n + q.1) i = some a ∧ RbA o a P := by
  have e' := ks_r k' hq e
  obtain ⟨own', Dw'⟩ := k'.1.1
  obtain ⟨_, a2⟩ := dy_lo k hq hi e
  obtain ⟨b1, b2, b3⟩ := bk_dy Dw' hq hi e'
  rw [f5] at b3
  rw [w5] at a2
  exact ⟨e', rba_f c b3 (fun j f hj => F.2 _ _ (by omega) (dd j f hj))⟩
theorem rpi_f {W : Nat → Nat → Prop} {p : Nat} (k : DyK n g h) (k' : DyK n h o) (F : FrW W h o) (hp : p < 60) (d1 : ¬ W (n + 537) p) (dd : ∀ a, hR h (n + 536) p = some a → n + 610 ≤ a → a + 5 ≤ hS h → ∀ j f, j < 5 → ¬ W (a + j) f) (R : RPi n h σ p) : RPi n o σ p := by
  have s6 := dk_610 k
  have e1 := (F.2 (n + 537) p (by omega) d1).1
  rcases R with ⟨a, b⟩ | ⟨P, a, p1, p2, p3, p4⟩
  · exact Or.inl ⟨a, by rw [e1]; exact b⟩
  · obtain ⟨lo, hi⟩ := dy_lo k (q := (536, 60, 5, 4000, fsB)) (by decide) hp p3
    obtain ⟨x1, x2⟩ := brd_f k k' F (q := (536, 60, 5, 4000, fsB)) (by decide) rfl rfl hp p3 (dd a p3 lo hi) p4
    exact Or.inr ⟨P, a, p1, by rw [e1]; exact p2, x1, x2⟩
theorem rgi_f {W : Nat → Nat → Prop} {g' : Nat} (k : DyK n g h) (k' : DyK n h o) (F : FrW W h o) (hg : g' < 8) (lg : syG σ g' ≤ 300) (d1 : ¬ W (n + 582) g') (d2 : ∀ q, q ≤ 300 → ¬ W (n + 581) (301 * g' + q)) (dd : ∀ q a, q ≤ 300 → hR h (n + 580) (301 * g' + q) = some a → n + 610 ≤ a → a + 5 ≤ hS h → ∀ j f, j < 5 → ¬ W (a + j) f) (R : RGi n h σ g') : RGi n o σ g' := by
  have s6 := dk_610 k
  refine ⟨by rw [(F.2 _ _ (by omega) d1).1]; exact R.1, fun q hq => ?_⟩
  obtain ⟨⟨a, ea, ca⟩, m⟩ := R.2 q hq
  obtain ⟨lo, hi⟩ := dy_lo k (q := (580, 2408, 5, 5000, fsB)) (i := 301 * g' + q) (by decide) (by show _ < 2408; omega) ea
  obtain ⟨x1, x2⟩ := brd_f k k' F (q := (580, 2408, 5, 5000, fsB)) (by decide) rfl rfl (i := 301 * g' + q) (by show _ < 2408; omega) ea (dd q a (by omega) ea lo hi) ca
  exact ⟨⟨a, x1, x2⟩, fun l => by rw [(F.2 _ _ (by omega) (d2 q (by omega))).1]; exact m l⟩
/-- the rest stays -/
theorem relr_g {W : Nat → Nat → Prop} (k : DyK n g h) (k' : DyK n h o) (F : FrW W h o) (dj : ∀ j i, rFt j i → ¬ W (n + j) i) (dd : ∀ q a, q < 3000 → hR h (n + 583) q = some a → n + 610 ≤ a → a + 5 ≤ hS h → ∀ j f, j < 5 → ¬ W (a + j) f) (R1 : RLw n h (syL σ)) (R4 : RFd n h σ) (R5 : ROu n h σ) : RLw n o (syL σ) ∧ RFd n o σ ∧ ROu n o σ := by
  have s6 := dk_610 k
  have I : ∀ j i, rFt j i → hI o (n + j) i = hI h (n + j) i ∧ hJ o (n + j) i = hJ h (n + j) i := fun j i hj => F.2 _ _ (by unfold rFt at hj; omega) (dj j i hj)
  refine ⟨?_, ⟨?_, fun q hq => ?_⟩, ⟨?_, fun i hi => ?_⟩⟩
  · obtain ⟨w, hw, e4, e5, C⟩ := R1
    have f4 := k'.1.2.2.2.2.2 4 (Or.inl rfl)
    have f5 := k'.1.2.2.2.2.2 5 (Or.inr rfl)
    refine ⟨w, hw, by rw [f4]; exact e4, by rw [f5]; exact e5, ?_⟩
    have e : ∀ j i, j < 10 → hI o (n + w + j) i = hI h (n + w + j) i ∧ hJ o (n + w + j) i = hJ h (n + w + j) i := fun j i hj => by
      have := I (w + j) i (by unfold rFt; omega)
      rw [show n + (w + j) = n + w + j by omega] at this
      exact this
    have Rw : ∀ p, p ∈ ([(3, 1), (4, 2), (5, 3), (6, 4), (7, 5), (8, 6), (9, 7), (13, 8), (14, 9)] : List (Nat × Nat)) → hR o (n + w) p.1 = some (n + w + p.2) := fun p hp => by
      rcases hw with z | z <;> subst z
      · have : ∀ q, q ∈ ([(3, 1), (4, 2), (5, 3), (6, 4), (7, 5), (8, 6), (9, 7), (13, 8), (14, 9)] : List (Nat × Nat)) → (516, q.1, 516 + q.2) ∈ edL := by decide +kernel
        have := dk_e k' (this p hp)
        rw [show n + (516 + p.2) = n + 516 + p.2 by omega] at this
        exact this
      · have : ∀ q, q ∈ ([(3, 1), (4, 2), (5, 3), (6, 4), (7, 5), (8, 6), (9, 7), (13, 8), (14, 9)] : List (Nat × Nat)) → (526, q.1, 526 + q.2) ∈ edL := by decide +kernel
        have := dk_e k' (this p hp)
        rw [show n + (526 + p.2) = n + 526 + p.2 by omega] at this
        exact this
    refine rw0_i (V := vM n 0 0 0 0 0 (n + w)) C (funext fun i => (e 0 i (by decide)).1) (e 0 21 (by decide)).2 (fun q q1 q2 => ?_) (I 513 11 (by unfold rFt; omega)).1 (I 513 12 (by unfold rFt; omega)).1 (I 513 13 (by unfold rFt; omega)).1 ⟨f4.trans e4, Rw (3, 1) (by decide), Rw (4, 2) (by decide), Rw (5, 3) (by decide), Rw (6, 4) (by decide), Rw (7, 5) (by decide), Rw (8, 6) (by decide), Rw (9, 7) (by decide), Rw (13, 8) (by decide), Rw (14, 9) (by decide)⟩
    have : q = 73 ∨ q = 74 ∨ q = 75 ∨ q = 76 ∨ q = 77 ∨ q = 78 ∨ q = 79 ∨ q = 80 ∨ q = 81 := by omega
    rcases this with z | z | z | z | z | z | z | z | z <;> subst z
    · exact funext fun i => (e 1 i (by decide)).1
    · exact funext fun i => (e 2 i (by decide)).1
    · exact funext fun i => (e 3 i (by decide)).1
    · exact funext fun i => (e 4 i (by decide)).1
    · exact funext fun i => (e 5 i (by decide)).1
    · exact funext fun i => (e 6 i (by decide)).1
    · exact funext fun i => (e 7 i (by decide)).1
    · exact funext fun i => (e 8 i (by decide)).1
    · exact funext fun i => (e 9 i (by decide)).1
  · rw [(I 513 44 (by unfold rFt; omega)).1]; exact R4.1
  · obtain ⟨P, a, p1, p2, p3, p4⟩ := R4.2 q hq
    have i5 := (I 585 q (by unfold rFt; omega)).1
    have nc := nc_i p2.1
    have lt : (hI h (n + 585) q).toNatClampNeg < 3000 := by omega
    obtain ⟨lo, hi⟩ := dy_lo k (q := (583, 3000, 5, 8000, fsB)) (by decide) lt p3
    obtain ⟨x1, x2⟩ := brd_f k k' F (q := (583, 3000, 5, 8000, fsB)) (by decide) rfl rfl lt p3 (dd _ a lt p3 lo hi) p4
    exact ⟨P, a, p1, by rw [i5]; exact p2, by rw [i5]; exact x1, x2⟩
  · rw [(I 513 3 (by unfold rFt; omega)).1]; exact R5.1
  · rw [(I 515 i (by unfold rFt; omega)).1]; exact R5.2 i hi
theorem rse_f {W : Nat → Nat → Prop} (k : DyK n g h) (F : FrW W h o) (d : ¬ W (n + 513) 16) (R : RSe n j h) : RSe n j o := by
  have s6 := dk_610 k
  obtain ⟨s1, s2, s3⟩ := R
  have := (F.2 (n + 513) 16 (by omega) d).1
  exact ⟨by rw [this]; exact s1, by rw [this]; exact s2, s3⟩
/-- all stays -/
theorem relr_f {W : Nat → Nat → Prop} (k : DyK n g h) (k' : DyK n h o) (F : FrW W h o) (dj : ∀ j i, rFt j i ∨ (j = 513 ∧ i = 16) ∨ j = 537 ∨ j = 581 ∨ j = 582 → ¬ W (n + j) i) (dd : ∀ q, q ∈ fam → 536 ≤ q.1 → ∀ i a, i < q.2.1 → hR h (n + q.1) i = some a → n + 610 ≤ a → a + q.2.2.1 ≤ hS h → ∀ j f, j < q.2.2.1 → ¬ W (a + j) f) (lg : ∀ g, g < 8 → syG σ g ≤ 300) (R : RelR n j h σ) : RelR n j o σ := by
  obtain ⟨R1, R2, R3, R4, R5, R6⟩ := R
  obtain ⟨x1, x2, x3⟩ := relr_g k k' F (fun j i hj => dj j i (Or.inl hj)) (fun q a hq e lo hi => dd (583, 3000, 5, 8000, fsB) (by decide) (by decide) q a hq e lo hi) R1 R4 R5
  exact ⟨x1, fun p hp => rpi_f k k' F hp (dj 537 p (Or.inr (Or.inr (Or.inl rfl)))) (fun a e lo hi => dd (536, 60, 5, 4000, fsB) (by decide) (by decide) p a hp e lo hi) (R2 p hp), fun g' hg => rgi_f k k' F hg (lg g' hg) (dj 582 g' (Or.inr (Or.inr (Or.inr (Or.inr rfl))))) (fun q hq => dj 581 _ (Or.inr (Or.inr (Or.inr (Or.inl rfl))))) (fun q a hq e lo hi => dd (580, 2408, 5, 5000, fsB) (by decide) (by decide) _ a (by show _ < 2408; omega) e lo hi) (R3 g' hg), x2, x3, rse_f k F (dj 513 16 (Or.inr (Or.inl ⟨rfl, rfl⟩))) R6⟩
/-- what a call of the class leaves; what a call of the reference leaves -/
def SmC (h o : Hp) (a i : Nat) : Prop := hI o a i = hI h a i ∧ hJ o a i = hJ h a i
def FrC0 (n : Nat) (h o : Hp) : Prop := hS h ≤ hS o ∧ (∀ a i, n + 513 ≤ a → a < n + 610 → SmC h o a i) ∧ ∀ q, q ∈ fam → 536 ≤ q.1 → ∀ i b, i < q.2.1 → hR h (n + q.1) i = some b → ∀ j f, j < q.2.2.1 → SmC h o (b + j) f
def FrR0 (n : Nat) (h o : Hp) : Prop := hS h ≤ hS o ∧ (∀ a i, n ≤ a → a < n + 513 → SmC h o a i) ∧ ∀ i b, i < 2408 → hR h (n + 150) i = some b → ∀ j f, j < 6 → SmC h o (b + j) f
theorem smc_t {v : Hp} {a i : Nat} (A : SmC h o a i) (B : SmC o v a i) : SmC h v a i := ⟨B.1.trans A.1, B.2.trans A.2⟩
theorem frc_w0 {W : Nat → Nat → Prop} (k : DyK n g h) (F : FrW W h o) (w : ∀ a i, W a i → a < hS h → a < n + 513 ∨ ∃ q b, q < 2408 ∧ hR h (n + 150) q = some b ∧ b ≤ a ∧ a < b + 6) : FrC0 n h o := by
  have s6 := dk_610 k
  obtain ⟨own, Dw⟩ := k.1.1
  have tg : ∀ {q b a : Nat}, q < 2408 → hR h (n + 150) q = some b → b ≤ a → a < b + 6 → n + 610 ≤ a ∧ own a = 1000 + q := fun {q b a} hq e l l' => by
    obtain ⟨b1, b2, _⟩ := bk_dy Dw (q := (150, 2408, 6, 1000, fsP)) (by decide) hq e
    have u : own (b + (a - b)) = 1000 + q := b2.2 (a - b) (by show a - b < 6; omega)
    rw [show b + (a - b) = a by omega] at u
    exact ⟨by omega, u⟩
  refine ⟨F.1, fun a i l l' => F.2 a i (by omega) (fun c => ?_), fun q hq h5 i b hi e j f hj => ?_⟩
  · rcases w a i c (by omega) with c | ⟨q, b, hq, e, c⟩
    · omega
    · have := tg hq e c.1 c.2
      omega
  · obtain ⟨b1, b2, _⟩ := bk_dy Dw hq hi e
    have lt : b + j < hS h := by have := b2.1; omega
    refine F.2 _ _ lt (fun c => ?_)
    have t1 := b2.2 j hj
    have fx : ∀ u, u ∈ fam → 536 ≤ u.1 → 4000 ≤ u.2.2.2.1 := by decide +kernel
    have := fx q hq h5
    rcases w _ _ c lt with c | ⟨q', b', hq', e', c⟩
    · omega
    · have := tg hq' e' c.1 c.2
      omega
theorem frr_w0 {W : Nat → Nat → Prop} (k : DyK n g h) (F : FrW W h o) (w : ∀ a i, W a i → a < hS h → (n + 513 ≤ a ∧ a < n + 610) ∨ ∃ q, q ∈ fam ∧ 536 ≤ q.1 ∧ ∃ i b, i < q.2.1 ∧ hR h (n + q.1) i = some b ∧ b ≤ a ∧ a < b + q.2.2.1) : FrR0 n h o := by
  have s6 := dk_610 k
  obtain ⟨own, Dw⟩ := k.1.1
  have fx : ∀ u, u ∈ fam → 536 ≤ u.1 → 4000 ≤ u.2.2.2.1 := by decide +kernel
  have tg : ∀ {q : Nat × Nat × Nat × Nat × List (Nat × Nat)} {i b a : Nat}, q ∈ fam → 536 ≤ q.1 → i < q.2.1 → hR h (n + q.1) i = some b → b ≤ a → a < b + q.2.2.1 → n + 610 ≤ a ∧ 4000 ≤ own a := fun {q i b a} hq h5 hi e l l' => by
    obtain ⟨b1, b2, _⟩ := bk_dy Dw hq hi e
    have u := b2.2 (a - b) (by omega)
    rw [show b + (a - b) = a by omega] at u
    have := fx q hq h5
    exact ⟨by omega, by omega⟩
  refine ⟨F.1, fun a i l l' => F.2 a i (by omega) (fun c => ?_), fun i b hi e j f hj => ?_⟩
  · rcases w a i c (by omega) with c | ⟨q, hq, h5, i', b, hi, e, c⟩
    · omega
    · have := tg hq h5 hi e c.1 c.2
      omega
  · obtain ⟨b1, b2, _⟩ := bk_dy Dw (q := (150, 2408, 6, 1000, fsP)) (by decide) hi e
    have b21 : b + 6 ≤ hS h := b2.1
    have lt : b + j < hS h := by omega
    refine F.2 _ _ lt (fun c => ?_)
    have t1 : own (b + j) = 1000 + i := b2.2 j hj
    rcases w _ _ c lt with c | ⟨q', hq', h5, i', b', hi', e', c⟩
    · omega
    · have := tg hq' h5 hi' e' c.1 c.2
      omega
/-- what a call of the class may write: all but the tape, the endings and the problem set -/
def CW (n : Nat) (h : Hp) (a _i : Nat) : Prop := ((n + 3 ≤ a ∧ a < n + 62 ∧ ¬ a = n + 29) ∨ (n + 77 ≤ a ∧ a < n + 87) ∨ (n + 93 ≤ a ∧ a < n + 513)) ∨ ∃ q b, q < 2408 ∧ hR h (n + 150) q = some b ∧ b ≤ a ∧ a < b + 6
/-- what a call of the reference may write -/
def RWr (n : Nat) (h : Hp) (a i : Nat) : Prop := ((a = n + 513 ∧ ¬ (i = 1 ∨ i = 49 ∨ i = 50 ∨ i = 59 ∨ (64 ≤ i ∧ i ≤ 68) ∨ i = 70)) ∨ (n + 515 ≤ a ∧ a < n + 592) ∨ (n + 602 ≤ a ∧ a < n + 607)) ∨ ∃ q, q ∈ fam ∧ 536 ≤ q.1 ∧ ∃ i b, i < q.2.1 ∧ hR h (n + q.1) i = some b ∧ b ≤ a ∧ a < b + q.2.2.1
def FrC (n : Nat) (h o : Hp) : Prop := FrW (CW n h) h o
/-- serials: none is forgotten, a new one is greater than all before -/
def SerN (n : Nat) (h o : Hp) : Prop := (hI h (n + 513) 16).toInt ≤ (hI o (n + 513) 16).toInt ∧ ∀ p, p < 60 → hI o (n + 537) p = hI h (n + 537) p ∨ (hI h (n + 537) p = 0 ∧ (hI h (n + 513) 16).toInt < (hI o (n + 537) p).toInt ∧ (hI o (n + 537) p).toInt ≤ (hI o (n + 513) 16).toInt)
theorem ser_0 : SerN n h h := ⟨Int.le_refl _, fun _ _ => Or.inl rfl⟩
theorem ser_t {v : Hp} (A : SerN n h o) (B : SerN n o v) : SerN n h v := ⟨Int.le_trans A.1 B.1, fun p hp => by
  have a1 := A.1
  have b0 := B.1
  rcases B.2 p hp with b | ⟨b1, b2, b3⟩
  · rcases A.2 p hp with a | ⟨a2, a3, a4⟩
    · exact Or.inl (b.trans a)
    · exact Or.inr ⟨a2, by rw [b]; exact a3, by rw [b]; omega⟩
  · rcases A.2 p hp with a | ⟨a2, _⟩
    · exact Or.inr ⟨by rw [← a]; exact b1, by omega, b3⟩
    · exact Or.inr ⟨a2, by omega, b3⟩⟩
theorem ser_w {W : Nat → Nat → Prop} (k : DyK n g h) (F : FrW W h o) (w : ∀ a i, W a i → ¬ (a = n + 537 ∨ (a = n + 513 ∧ i = 16))) : SerN n h o := by
  have s6 := dk_610 k
  have q : ∀ a i, a = n + 537 ∨ (a = n + 513 ∧ i = 16) → hI o a i = hI h a i := fun a i hh => (F.2 a i (by omega) (fun c => w a i c hh)).1
  exact ⟨by rw [q _ _ (Or.inr ⟨rfl, rfl⟩)]; exact Int.le_refl _, fun p _ => Or.inl (q _ _ (Or.inl rfl))⟩
def FrR (n : Nat) (h o : Hp) : Prop := FrW (RWr n h) h o ∧ SerN n h o
theorem frc_0 : FrC n h h := fw_0
theorem frr_0 : FrR n h h := ⟨fw_0, ser_0⟩
theorem frc_w {W : Nat → Nat → Prop} (_k : DyK n g h) (F : FrW W h o) (w : ∀ a i, W a i → a < hS h → CW n h a i) : FrC n h o := ⟨F.1, fun a i l nc => F.2 a i l (fun c => nc (w a i c l))⟩
theorem fw_r {W : Nat → Nat → Prop} (F : FrW W h o) (w : ∀ a i, W a i → a < hS h → RWr n h a i) : FrW (RWr n h) h o := ⟨F.1, fun a i l nc => F.2 a i l (fun c => nc (w a i c l))⟩
theorem frr_w {W : Nat → Nat → Prop} (k : DyK n g h) (F : FrW W h o) (w : ∀ a i, W a i → a < hS h → RWr n h a i) (s : ∀ a i, W a i → ¬ (a = n + 537 ∨ (a = n + 513 ∧ i = 16)) := by (intro a i c z; first | (unfold RS at c; omega) | omega)) : FrR n h o := ⟨fw_r F w, ser_w k F s⟩
theorem cw_t {a i : Nat} (k : DyK n h o) (l : a < hS h) (c : CW n o a i) : CW n h a i := by
  rcases c with c | ⟨q, b, hq, e, c⟩
  · exact Or.inl c
  · rcases k.2.2.1 (150, 2408, 6, 1000, fsP) (by decide) q b e with e | e
    · exact Or.inr ⟨q, b, hq, e, c⟩
    · omega
theorem rw_t {a i : Nat} (k : DyK n h o) (l : a < hS h) (c : RWr n o a i) : RWr n h a i := by
  rcases c with c | ⟨q, hq, h5, i', b, hi, e, c⟩
  · exact Or.inl c
  · rcases k.2.2.1 q hq i' b e with e | e
    · exact Or.inr ⟨q, hq, h5, i', b, hi, e, c⟩
    · omega
theorem frc_t {v : Hp} (k : DyK n h o) (A : FrC n h o) (B : FrC n o v) : FrC n h v := ⟨Nat.le_trans A.1 B.1, fun a i l nc => by
  have x := A.2 a i l nc
  have y := B.2 a i (Nat.lt_of_lt_of_le l A.1) (fun c => nc (cw_t k l c))
  exact ⟨y.1.trans x.1, y.2.trans x.2⟩⟩
theorem frr_t {v : Hp} (k : DyK n h o) (A : FrR n h o) (B : FrR n o v) : FrR n h v := ⟨⟨Nat.le_trans A.1.1 B.1.1, fun a i l nc => by
  have x := A.1.2 a i l nc
  have y := B.1.2 a i (Nat.lt_of_lt_of_le l A.1.1) (fun c => nc (rw_t k l c))
  exact ⟨y.1.trans x.1, y.2.trans x.2⟩⟩, ser_t A.2 B.2⟩
theorem frc_o (k : DyK n g h) (A : FrC n h o) : FrC0 n h o := frc_w0 k A (fun a i c _ => c.elim (fun c => Or.inl (by omega)) Or.inr)
theorem frr_o (k : DyK n g h) (A : FrR n h o) : FrR0 n h o := frr_w0 k A.1 (fun a i c _ => c.elim (fun c => Or.inl (by omega)) Or.inr)
/-- a call of the class leaves what the reference stands for -/
theorem relr_c (k : DyK n g h) (k' : DyK n h o) (A : FrC0 n h o) (lg : ∀ g, g < 8 → syG σ g ≤ 300) (R : RelR n j h σ) : RelR n j o σ := by
  refine relr_f (W := fun a i => ¬ SmC h o a i) k k' ⟨A.1, fun a i _ nw => Classical.not_not.mp nw⟩ (fun j i hj c => c (A.2.1 _ _ ?_ ?_)) (fun q hq h5 i a hi e _ _ j f hj c => c (A.2.2 q hq h5 i a hi e j f hj)) lg R
  · have : 513 ≤ j := by
      rcases hj with hj | hj | hj | hj | hj
      · unfold rFt at hj; omega
      · omega
      · omega
      · omega
      · omega
    omega
  · have : j < 610 := by
      rcases hj with hj | hj | hj | hj | hj
      · unfold rFt at hj; omega
      · omega
      · omega
      · omega
      · omega
    omega
/-- a call of the reference leaves what the class stands for -/
theorem relc_r (k : DyK n g h) (k' : DyK n h o) (A : FrR0 n h o) (lg : ∀ g, g < 8 → syG σ g ≤ 300) (R : RelC n h σ) : RelC n o σ := by
  refine relc_f (W := fun a i => ¬ SmC h o a i) k k' ⟨A.1, fun a i _ nw => Classical.not_not.mp nw⟩ (fun j i hj c => c (A.2.1 _ _ (by omega) ?_)) (fun q a hq e _ _ j f hj c => c (A.2.2 q a hq e j f hj)) lg R
  have : j < 513 := by
    rcases hj with hj | hj
    · unfold cFt at hj; omega
    · omega
  omega
end
end
section
/-! calls of the class that only look -/
/-- a call of the class that writes Z besides -/
def CaZ (n : Nat) (h : Hp) (σ' : Sy) (Z : Nat → Nat → Prop) (o : Int32 × Hp) (a : Int) : Prop := o.1.toInt = a ∧ RelC n o.2 σ' ∧ DyK n h o.2 ∧ FrW (fun a i => CW n h a i ∨ Z a i) h o.2
def CaO (n : Nat) (h : Hp) (σ' : Sy) (o : Int32 × Hp) (a : Int) : Prop := o.1.toInt = a ∧ RelC n o.2 σ' ∧ DyK n h o.2 ∧ FrC n h o.2
/-- the position at a place -/
def sPl (σ : Sy) (x : Int32) : Option Pz := if 0 ≤ x.toInt ∧ x.toInt < 60 then syP σ x.toNatClampNeg else none
def plE (σ : Sy) (x : Int32) (d : Int) (f : Pz → Int) : Int := match sPl σ x with
  | none => d
  | some P => f P
theorem ple_n {σ : Sy} {x : Int32} {d : Int} {f : Pz → Int} (e : sPl σ x = none) : plE σ x d f = d := by unfold plE; rw [e]
theorem ple_s {σ : Sy} {x : Int32} {d : Int} {f : Pz → Int} {P : Pz} (e : sPl σ x = some P) : plE σ x d f = f P := by unfold plE; rw [e]
def sqI (σ : Sy) (x : Int32) : Prop := 0 ≤ x.toInt ∧ x.toInt < syL σ 0 0 * syL σ 1 0
def sdI (x : Int32) : Prop := x = 0 ∨ x = 1
section
variable {n F : Nat} {h : Hp} {σ : Sy} {o : Int32 × Hp} {x1 x2 x3 : Int32}
theorem lgle (Ok : SyOk σ) : ∀ g, g < 8 → syG σ g ≤ 300 := fun g hg => ((Ok.2.2.1 g hg).1).2
theorem relc_cs {h' : Hp} (k : DyK n h h) (Ok : SyOk σ) (R : RelC n h σ) (F : FrW (CSc n) h h') (k' : DyK n h h') : RelC n h' σ := relc_f k k' F (fun j i hj c => by unfold cFt at hj; unfold CSc at c; omega) (fun q a hq e lo hi j f hj c => by unfold CSc at c; omega) (lgle Ok) R
theorem cs_c {a i : Nat} (c : CSc n a i) : (n + 3 ≤ a ∧ a < n + 62 ∧ ¬ a = n + 29) ∨ (n + 77 ≤ a ∧ a < n + 87) ∨ (n + 93 ≤ a ∧ a < n + 513) := by
  unfold CSc at c
  omega
theorem cao_0 {a : Int} (k : DyK n h h) (R : RelC n h σ) (e : o.2 = h) (ea : o.1.toInt = a) : CaO n h σ o a := ⟨ea, by rw [e]; exact R, by rw [e]; exact k, by rw [e]; exact frc_0⟩
theorem cao_s {a : Int} (k : DyK n h h) (Ok : SyOk σ) (R : RelC n h σ) (F : FrW (CSc n) h o.2) (k' : DyK n h o.2) (ea : o.1.toInt = a) : CaO n h σ o a := ⟨ea, relc_cs k Ok R F k', k', frc_w k F (fun a i c _ => Or.inl (cs_c c))⟩
theorem spl_b {P : Pz} (e : sPl σ x1 = some P) : 0 ≤ x1.toInt ∧ x1.toInt < 60 ∧ x1.toNatClampNeg < 60 ∧ syP σ x1.toNatClampNeg = some P := by
  unfold sPl at e
  by_cases c : 0 ≤ x1.toInt ∧ x1.toInt < 60
  · rw [if_pos c] at e
    have := nc_i c.1
    exact ⟨c.1, c.2, by omega, e⟩
  · rw [if_neg c] at e
    exact nomatch e
theorem spl_ok {P : Pz} (Ok : SyOk σ) (e : sPl σ x1 = some P) : PzOk (syL σ) P := Ok.2.1 _ (spl_b e).2.2.1 P (spl_b e).2.2.2
theorem spl_pe {P : Pz} (Ok : SyOk σ) (e : sPl σ x1 = some P) : PzE (syL σ) P := Ok.2.2.2.2.2.1 _ (spl_b e).2.2.1 P (spl_b e).2.2.2
theorem cpl_p {P : Pz} (R : CPl n h σ) (e : sPl σ x1 = some P) : CpA h (n + (153 + 6 * x1.toNatClampNeg)) (syL σ 10 0) P := by
  obtain ⟨_, _, c, d⟩ := spl_b e
  rcases R _ c with ⟨a, _⟩ | ⟨Q, a, _, b⟩
  · rw [a] at d; exact nomatch d
  · rw [a] at d
    rw [← Option.some.inj d]
    exact b
theorem isp_c {g : Hp} (k : DyK n g h) (R : CPl n h σ) (e : sX11_isPlace h n x1 = some o) : o.2 = h ∧ ((o.1 = 0 ∧ sPl σ x1 = none) ∨ (¬ o.1 = 0 ∧ ∃ P, sPl σ x1 = some P)) := by
  have z0 : (0 : Int32).toInt = 0 := rfl
  have z60 : (60 : Int32).toInt = 60 := rfl
  unfold sX11_isPlace sX11_isPlace_23 sX11_isPlace_24 at e
  rcases br_s e with ⟨c, e⟩ | ⟨c, e⟩
  · rw [so_e (gg_e e)]
    have := lt_i c
    exact ⟨rfl, Or.inl ⟨rfl, if_neg (by omega)⟩⟩
  have c := nlt_i c
  rcases br_s e with ⟨c2, e⟩ | ⟨c2, e⟩
  · rw [so_e (gg_e e)]
    have := le_i c2
    exact ⟨rfl, Or.inl ⟨rfl, if_neg (by omega)⟩⟩
  have c2 := nle_i c2
  obtain ⟨r3, e3, e⟩ := cl_s e
  have y3 := dk_ed (a := 0) (b := 149) k (by decide +kernel) e3
  subst y3
  replace e := gg_e e
  have nc := nc_i (x := x1) (by omega)
  have sp : sPl σ x1 = syP σ x1.toNatClampNeg := if_pos ⟨by omega, by omega⟩
  rcases R x1.toNatClampNeg (by omega) with ⟨a, b⟩ | ⟨P, a, b, _⟩
  · rw [so_e (gg_e (bp_e b e))]
    exact ⟨rfl, Or.inl ⟨rfl, by rw [sp]; exact a⟩⟩
  · rw [so_e (gg_e (bn_e (by rw [b]; decide) e))]
    exact ⟨rfl, Or.inr ⟨by show ¬ (1 : Int32) = 0; decide, P, by rw [sp]; exact a⟩⟩
theorem pl_at {g : Hp} {p r : Nat} (k : DyK n g h) (hp : p < 60) (e : hR h (n + 148) p = some r) : r = n + (153 + 6 * p) := Option.some.inj (e.symm.trans (k.1.2.1.2.1 p hp).1)
theorem isq_c {g : Hp} (k : DyK n g h) (C : ClL n h (syL σ)) (e : sX11_isSquare h n x1 = some o) : o.2 = h ∧ ((o.1 = 0 ∧ ¬ sqI σ x1) ∨ (¬ o.1 = 0 ∧ sqI σ x1)) := by
  have z0 : (0 : Int32).toInt = 0 := rfl
  have c2 : (hI h (n + 5) 2).toInt = syL σ 0 0 * syL σ 1 0 := C.2.1.2.2.1
  unfold sX11_isSquare sX11_isSquare_19 sX11_isSquare_20 at e
  rcases br_s e with ⟨c, e⟩ | ⟨c, e⟩
  · rw [so_e (gg_e e)]
    have := lt_i c
    exact ⟨rfl, Or.inl ⟨rfl, fun z => by unfold sqI at z; omega⟩⟩
  have c := nlt_i c
  obtain ⟨r2, e2, e⟩ := cl_s e
  have y2 := dk_ed (a := 0) (b := 5) k (by decide +kernel) e2
  subst y2
  rcases br_s e with ⟨c3, e⟩ | ⟨c3, e⟩
  · rw [so_e (gg_e e)]
    have := le_i c3
    exact ⟨rfl, Or.inl ⟨rfl, fun z => by unfold sqI at z; omega⟩⟩
  · rw [so_e (gg_e e)]
    have := nle_i c3
    exact ⟨rfl, Or.inr ⟨by show ¬ (1 : Int32) = 0; decide, by omega, by omega⟩⟩
theorem isd_c (e : sX11_isSide h x1 = some o) : o.2 = h ∧ ((o.1 = 0 ∧ ¬ sdI x1) ∨ (¬ o.1 = 0 ∧ sdI x1)) := by
  unfold sX11_isSide sX11_isSide_9 sX11_isSide_14 at e
  rcases br_s e with ⟨c, e⟩ | ⟨c, e⟩
  · rw [so_e (gg_e e)]
    exact ⟨rfl, Or.inr ⟨by show ¬ (1 : Int32) = 0; decide, Or.inl c⟩⟩
  rcases br_s e with ⟨c2, e⟩ | ⟨c2, e⟩
  · rw [so_e (gg_e e)]
    exact ⟨rfl, Or.inr ⟨by show ¬ (1 : Int32) = 0; decide, Or.inr c2⟩⟩
  · rw [so_e (gg_e e)]
    exact ⟨rfl, Or.inl ⟨rfl, fun z => by rcases z with z | z; exact c z; exact c2 z⟩⟩
/-- at -/
noncomputable def anAt (σ : Sy) (x1 x2 : Int32) : Int := if prB' (sqI σ x2) = true then plE σ x1 (-102) (fun P => P.1 x2.toNatClampNeg - 1) else -101
theorem ca_at (k : DyK n h h) (Ok : SyOk σ) (R : RelC n h σ) (e : sX11_at h n x1 x2 = some o) : CaO n h σ o (anAt σ x1 x2) := by
  unfold sX11_at sX11_at_35 at e
  obtain ⟨o1, e1, e⟩ := cl_s e
  obtain ⟨q1, c1⟩ := isq_c k R.1 e1
  rw [q1] at e
  unfold anAt
  rcases c1 with ⟨d1, d2⟩ | ⟨d1, d2⟩
  · rw [so_e (bp_e d1 e)]
    exact cao_0 k R rfl (by rw [prb_f.mpr d2, if_neg (by decide)]; rfl)
  replace e := bn_e d1 e
  rw [prb_e.mpr d2, if_pos rfl]
  obtain ⟨o3, e3, e⟩ := cl_s e
  obtain ⟨q3, c3⟩ := isp_c k R.2.1 e3
  rw [q3] at e
  rcases c3 with ⟨d3, d4⟩ | ⟨d3, P, d4⟩
  · rw [so_e (bp_e d3 e), ple_n d4]
    exact cao_0 k R rfl rfl
  replace e := bn_e d3 e
  rw [ple_s d4]
  obtain ⟨_, _, b3, _⟩ := spl_b d4
  have A := cpl_p R.2.1 d4
  obtain ⟨r5, e5, e⟩ := cl_s e
  have y5 := dk_ed (a := 0) (b := 148) k (by decide +kernel) e5
  subst y5
  replace e := gg_e e
  obtain ⟨r7, e7, e⟩ := cl_s e
  have y7 := pl_at k b3 e7
  subst y7
  obtain ⟨r8, e8, e⟩ := cl_s e
  have y8 := r_eq (pl_R k b3 (0, 1) (by decide)) e8
  subst y8
  replace e := gg_e e
  rw [so_e e]
  have s64 := (sq_64 Ok.1.1).2
  have nc := nc_i d2.1
  have l2 := d2.2
  exact cao_0 k R rfl (A.2.1.1 x2.toNatClampNeg (by omega))
/-- attacked -/
noncomputable def anHit (σ : Sy) (x1 x2 x3 : Int32) : Int := if prB' (sqI σ x2 ∧ sdI x3) = true then plE σ x1 (-102) (fun P => if prB' (AttP (syL σ) P.1 x3.toInt x2.toNatClampNeg) = true then 1 else 0) else -101
theorem sdi_r (d : sdI x1) : Rg 0 1 x1 := by
  rcases d with z | z <;> (rw [z]; exact ⟨by decide, by decide⟩)
theorem ca_hit (k : DyK n h h) (Ok : SyOk σ) (R : RelC n h σ) (e : sX11_attacked F h n x1 x2 x3 = some o) : CaO n h σ o (anHit σ x1 x2 x3) := by
  unfold sX11_attacked sX11_attacked_15 sX11_attacked_52 at e
  obtain ⟨o1, e1, e⟩ := cl_s e
  obtain ⟨q1, c1⟩ := isq_c k R.1 e1
  rw [q1] at e
  unfold anHit
  rcases c1 with ⟨d1, d2⟩ | ⟨d1, d2⟩
  · rw [so_e (bp_e d1 e)]
    exact cao_0 k R rfl (by rw [prb_f.mpr (fun z => d2 z.1), if_neg (by decide)]; rfl)
  replace e := bn_e d1 e
  obtain ⟨o2, e2, e⟩ := cl_s e
  obtain ⟨q2, c2⟩ := isd_c e2
  rw [q2] at e
  rcases c2 with ⟨d3, d4⟩ | ⟨d3, d4⟩
  · rw [so_e (bp_e d3 e)]
    exact cao_0 k R rfl (by rw [prb_f.mpr (fun z => d4 z.2), if_neg (by decide)]; rfl)
  replace e := bn_e d3 e
  rw [prb_e.mpr ⟨d2, d4⟩, if_pos rfl]
  obtain ⟨o3, e3, e⟩ := cl_s e
  obtain ⟨q3, c3⟩ := isp_c k R.2.1 e3
  rw [q3] at e
  rcases c3 with ⟨d5, d6⟩ | ⟨d5, P, d6⟩
  · rw [so_e (bp_e d5 e), ple_n d6]
    exact cao_0 k R rfl rfl
  replace e := bn_e d5 e
  rw [ple_s d6]
  obtain ⟨_, _, b3, _⟩ := spl_b d6
  have A := cpl_p R.2.1 d6
  have Oz := spl_ok Ok d6
  obtain ⟨r7, e7, e⟩ := cl_s e
  have y7 := dk_ed (a := 0) (b := 30) k (by decide +kernel) e7
  subst y7
  obtain ⟨r8, e8, e⟩ := cl_s e
  have y8 := dk_ed (a := 0) (b := 148) k (by decide +kernel) e8
  subst y8
  replace e := gg_e e
  obtain ⟨r10, e10, e⟩ := cl_s e
  have y10 := pl_at k b3 e10
  subst y10
  obtain ⟨o11, e11, e⟩ := cl_s e
  have s64 := (sq_64 Ok.1.1).2
  have nc := nc_i d2.1
  have l2 := d2.2
  have M : MkC (vK n (hS h) (n + (153 + 6 * x1.toNatClampNeg)) 0 0 0 0) h (syL σ) := cll_k.mpr R.1
  obtain ⟨q11, c11⟩ := hit_c (V := vK n (hS h) (n + (153 + 6 * x1.toNatClampNeg)) 0 0 0 0) Ok.1.1 Oz.1 M.1.1.2 M.1.2.1 M.1.2.2.1 A.1 A.2.1 d2.1 (by omega) (sdi_r d4) e11
  rw [q11] at e
  rcases c11 with ⟨d7, d8⟩ | ⟨d7, d8⟩
  · rw [so_e (bp_e d7 e)]
    exact cao_0 k R rfl (by rw [prb_f.mpr d8, if_neg (by decide)]; rfl)
  · rw [so_e (bn_e (by rw [d7]; decide) e)]
    exact cao_0 k R rfl (by rw [prb_e.mpr d8, if_pos rfl]; rfl)
/-- sees -/
noncomputable def anSee (σ : Sy) (x1 x2 x3 : Int32) : Int := if prB' (sqI σ x3 ∧ sdI x2) = true then plE σ x1 (-102) (fun P => if prB' (SeeM (syL σ) P x2.toInt.toNat 64 x3.toNatClampNeg) = true then 1 else 0) else -101
theorem sdi_n (d : sdI x1) : x1.toInt = ((x1.toInt.toNat : Nat) : Int) ∧ x1.toInt.toNat < 2 := by
  rcases d with z | z <;> (rw [z]; exact ⟨by decide, by decide⟩)
theorem ca_see (k : DyK n h h) (Ok : SyOk σ) (R : RelC n h σ) (e : sX11_sees F h n x1 x2 x3 = some o) : CaO n h σ o (anSee σ x1 x2 x3) := by
  unfold sX11_sees sX11_sees_15 sX11_sees_57 at e
  obtain ⟨o1, e1, e⟩ := cl_s e
  obtain ⟨q1, c1⟩ := isq_c k R.1 e1
  rw [q1] at e
  unfold anSee
  rcases c1 with ⟨d1, d2⟩ | ⟨d1, d2⟩
  · rw [so_e (bp_e d1 e)]
    exact cao_0 k R rfl (by rw [prb_f.mpr (fun z => d2 z.1), if_neg (by decide)]; rfl)
  replace e := bn_e d1 e
  obtain ⟨o2, e2, e⟩ := cl_s e
  obtain ⟨q2, c2⟩ := isd_c e2
  rw [q2] at e
  rcases c2 with ⟨d3, d4⟩ | ⟨d3, d4⟩
  · rw [so_e (bp_e d3 e)]
    exact cao_0 k R rfl (by rw [prb_f.mpr (fun z => d4 z.2), if_neg (by decide)]; rfl)
  replace e := bn_e d3 e
  rw [prb_e.mpr ⟨d2, d4⟩, if_pos rfl]
  obtain ⟨o3, e3, e⟩ := cl_s e
  obtain ⟨q3, c3⟩ := isp_c k R.2.1 e3
  rw [q3] at e
  rcases c3 with ⟨d5, d6⟩ | ⟨d5, P, d6⟩
  · rw [so_e (bp_e d5 e), ple_n d6]
    exact cao_0 k R rfl rfl
  replace e := bn_e d5 e
  rw [ple_s d6]
  obtain ⟨_, _, b3, _⟩ := spl_b d6
  have A := cpl_p R.2.1 d6
  have Oz := spl_ok Ok d6
  obtain ⟨r7, e7, e⟩ := cl_s e
  have y7 := dk_ed (a := 0) (b := 30) k (by decide +kernel) e7
  subst y7
  obtain ⟨r8, e8, e⟩ := cl_s e
  have y8 := dk_ed (a := 0) (b := 148) k (by decide +kernel) e8
  subst y8
  replace e := gg_e e
  obtain ⟨r10, e10, e⟩ := cl_s e
  have y10 := pl_at k b3 e10
  subst y10
  obtain ⟨o11, e11, e⟩ := cl_s e
  have s64 := (sq_64 Ok.1.1).2
  have nc := nc_i d2.1
  have l2 := d2.2
  have M : MkC (vK n (hS h) (n + (153 + 6 * x1.toNatClampNeg)) 0 0 0 0) h (syL σ) := cll_k.mpr R.1
  obtain ⟨q11, c11⟩ := se_c (V := vK n (hS h) (n + (153 + 6 * x1.toNatClampNeg)) 0 0 0 0) Ok.1.1 Oz M.1 (cpa_k.mpr A) (sdi_n d4).1 (sdi_n d4).2 e11
  rw [q11] at e
  have b := c11 x3.toNatClampNeg (by omega)
  have ix : Rg 0 63 x3 := ⟨by omega, by omega⟩
  rcases br_s e with ⟨d7, e⟩ | ⟨d7, e⟩
  · rw [so_e e]
    have nn : ¬ SeeM (syL σ) P x2.toInt.toNat 64 x3.toNatClampNeg := fun z => by
      have z := b.mpr z
      have := j_zero.mp (cmp_eq d7) 0 (by decide)
      rw [bj_and, ush_bit ix, z, Bool.true_and] at this
      exact absurd this (by decide)
    exact cao_0 k R rfl (by rw [prb_f.mpr nn, if_neg (by decide)]; rfl)
  · rw [so_e e]
    exact cao_0 k R rfl (by rw [prb_e.mpr (b.mp (bit_set ix d7)), if_pos rfl]; rfl)
end
end
section
/-! calls of the class that collect moves -/
section
variable {n F : Nat} {h : Hp} {σ : Sy} {o : Int32 × Hp} {x1 x2 x3 : Int32}
/-- the LEGAL moves at a place, in the class's list -/
theorem lm_c' (k : DyK n h h) (Ok : SyOk σ) (R : RelC n h σ) (e : sX11_listMoves F h n x1 = some o) : (sPl σ x1 = none ∧ o.2 = h ∧ o.1 = 0) ∨ ∃ P, sPl σ x1 = some P ∧ FrW (CSc n) h o.2 ∧ DyK n h o.2 ∧ ClM n o.2 (n + 147) (lgL (syL σ) P) ∧ o.1.toInt = ((lgL (syL σ) P).length : Int) := by
  unfold sX11_listMoves sX11_listMoves_32 at e
  obtain ⟨o1, e1, e⟩ := cl_s e
  obtain ⟨q1, c1⟩ := isp_c k R.2.1 e1
  rw [q1] at e
  rcases c1 with ⟨d1, d2⟩ | ⟨d1, P, d2⟩
  · rw [so_e (bp_e d1 e)]
    exact Or.inl ⟨d2, rfl, rfl⟩
  replace e := bn_e d1 e
  obtain ⟨_, _, b3, _⟩ := spl_b d2
  obtain ⟨r3, e3, e⟩ := cl_s e
  have y3 := dk_ed (a := 0) (b := 30) k (by decide +kernel) e3
  subst y3
  obtain ⟨r4, e4, e⟩ := cl_s e
  have y4 := dk_ed (a := 0) (b := 148) k (by decide +kernel) e4
  subst y4
  replace e := gg_e e
  obtain ⟨r6, e6, e⟩ := cl_s e
  have y6 := pl_at k b3 e6
  subst y6
  obtain ⟨r7, e7, e⟩ := cl_s e
  have y7 := dk_ed (a := 0) (b := 147) k (by decide +kernel) e7
  subst y7
  obtain ⟨o8, e8, e⟩ := cl_s e
  obtain ⟨own, O, _⟩ := k.1.1
  obtain ⟨f, k8, m, y⟩ := col_k k O (bk_pl O b3) (bk_list O) (by omega) (Or.inr (Or.inr rfl)) Ok.1.1 Ok.1.2.1 (spl_ok Ok d2) R.1 (cpl_p R.2.1 d2) (ln_d k.1 (a := 147) (w := 4096) (by decide)) e8
  rw [so_e e]
  exact Or.inr ⟨P, d2, f, k8, m, y⟩
/-- moves -/
noncomputable def anMvs (σ : Sy) (x1 : Int32) : Int := plE σ x1 (-102) (fun P => ((lgL (syL σ) P).length : Int))
theorem ca_moves (k : DyK n h h) (Ok : SyOk σ) (R : RelC n h σ) (e : sX11_moves F h n x1 = some o) : CaO n h σ o (anMvs σ x1) := by
  unfold sX11_moves sX11_moves_18 at e
  obtain ⟨o1, e1, e⟩ := cl_s e
  obtain ⟨q1, c1⟩ := isp_c k R.2.1 e1
  rw [q1] at e
  unfold anMvs
  rcases c1 with ⟨d1, d2⟩ | ⟨d1, P, d2⟩
  · rw [so_e (bp_e d1 e), ple_n d2]
    exact cao_0 k R rfl rfl
  replace e := bn_e d1 e
  rw [ple_s d2]
  obtain ⟨o3, e3, e⟩ := cl_s e
  rcases lm_c' k Ok R e3 with ⟨z, _⟩ | ⟨P', z, f, k8, m, y⟩
  · rw [d2] at z; exact nomatch z
  · rw [d2] at z
    have z := Option.some.inj z
    subst z
    rw [so_e e]
    exact cao_s k Ok R f k8 y
/-- move i of a position, if there is one -/
noncomputable def mvI (σ : Sy) (x1 x2 : Int32) : Option MvT := match sPl σ x1 with
  | none => none
  | some P => if 0 ≤ x2.toInt then (lgL (syL σ) P)[x2.toNatClampNeg]? else none
theorem mvi_n (e : sPl σ x1 = none) : mvI σ x1 x2 = none := by unfold mvI; rw [e]
theorem mvi_s {P : Pz} (e : sPl σ x1 = some P) (l : 0 ≤ x2.toInt) : mvI σ x1 x2 = (lgL (syL σ) P)[x2.toNatClampNeg]? := by unfold mvI; rw [e]; exact if_pos l
theorem mvi_l (l : ¬ 0 ≤ x2.toInt) : mvI σ x1 x2 = none := by
  unfold mvI
  cases sPl σ x1 with
  | none => rfl
  | some P => exact if_neg l
def mvF (v : MvT) (w : Int) : Int := if w = 0 then v.1 else if w = 1 then v.2.1 else if w = 2 then v.2.2.1 else if w = 3 then v.2.2.2.1 else if w = 4 then v.2.2.2.2.1 else v.2.2.2.2.2.1
noncomputable def anMov (σ : Sy) (x1 x2 x3 : Int32) : Int := if 0 ≤ x3.toInt ∧ x3.toInt ≤ 5 then (match mvI σ x1 x2 with
  | none => -102
  | some v => mvF v x3.toInt) else -101
theorem lg_gd {L : Nat → Nat → Int} {P : Pz} {v : MvT} {i : Nat} (H : LOk L) (K : LawK L) (O : PzOk L P) (e : (lgL L P)[i]? = some v) : MvGd L P v := mo_g H K O (lg_mo (List.mem_of_getElem? e))
/-- the class's numbers of a move -/
theorem mv_fd {L : Nat → Nat → Int} {P : Pz} {v : MvT} {x : Int32} (H : LOk L) (G : MvGd L P v) (M : MvC x v) : (∀ o, sX5_kindOf h x = some o → o.2 = h ∧ o.1.toInt = v.2.2.2.2.2.1) ∧ (∀ o, sX5_leftBy h x = some o → o.2 = h ∧ o.1.toInt = (if v.2.2.2.2.2.1 = 3 then 0 else v.1)) ∧ (∀ o, sX5_comeTo h x = some o → o.2 = h ∧ o.1.toInt = v.2.1) ∧ (∀ o, sX5_manOf h x = some o → o.2 = h ∧ o.1.toInt = v.2.2.1) ∧ (∀ o, sX5_becomes h x = some o → o.2 = h ∧ o.1.toInt = v.2.2.2.1) ∧ (∀ o, sX5_takenBy h x = some o → o.2 = h ∧ o.1.toInt = v.2.2.2.2.1) := by
  have fd := pk_fd M
  have L12 := H.2.2.1
  have g1 := G.2.1
  have g2 := G.2.2.1
  refine ⟨fun o e => ?_, fun o e => ?_, fun o e => ?_, fun o e => ?_, fun o e => ?_, fun o e => ?_⟩
  · unfold sX5_kindOf at e
    rw [so_e e]
    exact ⟨rfl, fd.2.2.2.2.2.1⟩
  · unfold sX5_leftBy at e
    rw [so_e e]
    exact ⟨rfl, fd.2.1⟩
  · unfold sX5_comeTo at e
    rw [so_e e]
    exact ⟨rfl, fd.1⟩
  · unfold sX5_manOf at e
    rw [so_e e]
    exact ⟨rfl, fd.2.2.1⟩
  · obtain ⟨a, b⟩ := bec_v M e
    refine ⟨a, b.trans ?_⟩
    by_cases c : v.2.2.2.1 = -1
    · rw [if_pos c, if_pos rfl, c]
    · rw [if_neg c, if_neg (by omega)]
  · obtain ⟨a, b⟩ := tak_v M e
    refine ⟨a, b.trans ?_⟩
    by_cases c : v.2.2.2.2.1 = -1
    · rw [if_pos c, if_pos rfl, c]
    · rw [if_neg c, if_neg (by omega)]
theorem csd_k {L : Nat → Nat → Int} {M : Nat → Int} {rt : Nat → Prop} {sd d : Int} {s t : Nat} {v : MvT} (hv : v ∈ csD L M rt sd s d t) : v.2.2.2.2.2.1 = 2 := by
  unfold csD at hv
  split at hv
  · rw [List.mem_singleton] at hv
    rw [hv]; rfl
  · exact absurd hv (List.not_mem_nil)
theorem sta_k {L : Nat → Nat → Int} {M : Nat → Int} {ov : Nat → Prop} {p0 : Nat} {sd : Int} {m s t : Nat} {v : MvT} (hv : v ∈ stA L M ov p0 sd m s t) : v.2.2.2.2.2.1 < 2 := by
  cases q : ldF (ldD L M ov true sd m s) t with
  | none =>
    rw [sta_none q] at hv
    exact absurd hv (List.not_mem_nil)
  | some w =>
    rw [sta_some q] at hv
    unfold mvL at hv
    split at hv
    · rw [List.mem_map] at hv
      obtain ⟨j, _, hj⟩ := hv
      rw [← hj]
      show (if _ then (1 : Int) else 0) < 2
      split <;> decide
    · rw [List.mem_singleton] at hv
      rw [hv]
      show (if _ then (1 : Int) else 0) < 2
      split <;> decide
theorem drop_m {L : Nat → Nat → Int} {P : Pz} {v : MvT} (hv : v ∈ moP L P) (c : v.2.2.2.2.2.1 = 3) : v.1 = -1 := by
  unfold moP moA at hv
  rw [List.mem_append] at hv
  rcases hv with hv | hv
  · rw [List.mem_flatMap] at hv
    obtain ⟨s, _, hv⟩ := hv
    unfold moF at hv
    split at hv
    · rw [List.mem_flatMap] at hv
      obtain ⟨t, _, hv⟩ := hv
      unfold moS at hv
      rw [List.mem_append] at hv
      rcases hv with hv | hv
      · have := sta_k hv
        omega
      · split at hv
        · rw [List.mem_append] at hv
          rcases hv with hv | hv <;> (have := csd_k hv; omega)
        · exact absurd hv (List.not_mem_nil)
    · exact absurd hv (List.not_mem_nil)
  · unfold moD at hv
    split at hv
    · exact absurd hv (List.not_mem_nil)
    · rw [List.mem_flatMap] at hv
      obtain ⟨t, _, hv⟩ := hv
      unfold drL at hv
      split at hv
      · rw [List.mem_flatMap] at hv
        obtain ⟨m, _, hv⟩ := hv
        unfold drM at hv
        split at hv
        · rw [List.mem_singleton] at hv
          rw [hv]
        · exact absurd hv (List.not_mem_nil)
      · exact absurd hv (List.not_mem_nil)
theorem drop_s {L : Nat → Nat → Int} {P : Pz} {v : MvT} {i : Nat} (e : (lgL L P)[i]? = some v) (c : v.2.2.2.2.2.1 = 3) : v.1 = -1 := drop_m (lg_mo (List.mem_of_getElem? e)) c
theorem ca_move (k : DyK n h h) (Ok : SyOk σ) (R : RelC n h σ) (e : sX11_move F h n x1 x2 x3 = some o) : CaO n h σ o (anMov σ x1 x2 x3) := by
  have z0 : (0 : Int32).toInt = 0 := rfl
  have z5 : (5 : Int32).toInt = 5 := rfl
  unfold sX11_move sX11_move_9 sX11_move_25 sX11_move_90 at e
  unfold anMov
  rcases br_s e with ⟨c, e⟩ | ⟨c, e⟩
  · have := lt_i c
    rw [so_e e, if_neg (by omega)]
    exact cao_0 k R rfl rfl
  have c := nlt_i c
  rcases br_s e with ⟨c2, e⟩ | ⟨c2, e⟩
  rotate_left
  · have := nle_i c2
    rw [so_e e, if_neg (by omega)]
    exact cao_0 k R rfl rfl
  have c2 := le_i c2
  rw [if_pos ⟨by omega, by omega⟩]
  rcases br_s e with ⟨c3, e⟩ | ⟨c3, e⟩
  · have := lt_i c3
    rw [so_e e, mvi_l (by omega)]
    exact cao_0 k R rfl rfl
  have c3 := nlt_i c3
  have nc := nc_i (x := x2) (by omega)
  obtain ⟨o4, e4, e⟩ := cl_s e
  rcases lm_c' k Ok R e4 with ⟨z, y1, y2⟩ | ⟨P, z, f, k4, m, y⟩
  · rw [y2, y1] at e
    rcases br_s e with ⟨c4, e⟩ | ⟨c4, e⟩
    · have := lt_i c4
      omega
    · rw [so_e e, mvi_n z]
      exact cao_0 k R rfl rfl
  rw [mvi_s z (by omega)]
  rcases br_s e with ⟨c4, e⟩ | ⟨c4, e⟩
  rotate_left
  · have := nlt_i c4
    rw [so_e e, List.getElem?_eq_none (by omega)]
    exact cao_s k Ok R f k4 rfl
  have c4 := lt_i c4
  obtain ⟨v, ev, mv⟩ := m x2.toNatClampNeg (by omega)
  rw [ev]
  have G := lg_gd Ok.1.1 Ok.1.2.1 (spl_ok Ok z) ev
  obtain ⟨r6, e6, e⟩ := cl_s e
  have y6 := dk_ed (a := 0) (b := 147) k4 (by decide +kernel) e6
  subst y6
  replace e := gg_e e
  replace e := nx_e e
  have fd := mv_fd (h := o4.2) Ok.1.1 G mv
  show CaO n h σ o (mvF v x3.toInt)
  unfold mvF
  have cx : x3.toInt = 0 ∨ x3.toInt = 1 ∨ x3.toInt = 2 ∨ x3.toInt = 3 ∨ x3.toInt = 4 ∨ x3.toInt = 5 := by omega
  have xe : ∀ {w : Int32} {i : Int}, x3.toInt = i → w.toInt = i → x3 = w := fun a b => Int32.toInt_inj.mp (a.trans b.symm)
  rcases cx with q | q | q | q | q | q
  · replace e := bp_e (xe q rfl) e
    rw [if_pos q]
    obtain ⟨o9, e9, e⟩ := cl_s e
    obtain ⟨p1, p2⟩ := fd.1 o9 e9
    rw [p1] at e
    rcases br_s e with ⟨d, e⟩ | ⟨d, e⟩
    · rw [so_e e]
      have d : o9.1.toInt = 3 := by rw [d]; rfl
      exact cao_s k Ok R f k4 (by rw [drop_s ev (by omega)]; rfl)
    · obtain ⟨o11, e11, e⟩ := cl_s e
      obtain ⟨p3, p4⟩ := fd.2.1 o11 e11
      have d := ne_i d
      have z3 : (3 : Int32).toInt = 3 := rfl
      rw [p3] at e
      rw [so_e e]
      exact cao_s k Ok R f k4 (by rw [p4, if_neg (by omega)])
  · replace e := bp_e (xe q rfl) (bn_e (fun w => by rw [w] at q; exact absurd q (by decide)) e)
    rw [if_neg (by omega), if_pos q]
    obtain ⟨o9, e9, e⟩ := cl_s e
    obtain ⟨p1, p2⟩ := fd.2.2.1 o9 e9
    rw [so_e e]
    exact cao_s k Ok R (by rw [p1]; exact f) (by rw [p1]; exact k4) p2
  · replace e := bp_e (xe q rfl) (bn_e (fun w => by rw [w] at q; exact absurd q (by decide)) (bn_e (fun w => by rw [w] at q; exact absurd q (by decide)) e))
    rw [if_neg (by omega), if_neg (by omega), if_pos q]
    obtain ⟨o9, e9, e⟩ := cl_s e
    obtain ⟨p1, p2⟩ := fd.2.2.2.1 o9 e9
    rw [so_e e]
    exact cao_s k Ok R (by rw [p1]; exact f) (by rw [p1]; exact k4) p2
  · replace e := bp_e (xe q rfl) (bn_e (fun w => by rw [w] at q; exact absurd q (by decide)) (bn_e (fun w => by rw [w] at q; exact absurd q (by decide)) (bn_e (fun w => by rw [w] at q; exact absurd q (by decide)) e)))
    rw [if_neg (by omega), if_neg (by omega), if_neg (by omega), if_pos q]
    obtain ⟨o9, e9, e⟩ := cl_s e
    obtain ⟨p1, p2⟩ := fd.2.2.2.2.1 o9 e9
    rw [so_e e]
    exact cao_s k Ok R (by rw [p1]; exact f) (by rw [p1]; exact k4) p2
  · replace e := bp_e (xe q rfl) (bn_e (fun w => by rw [w] at q; exact absurd q (by decide)) (bn_e (fun w => by rw [w] at q; exact absurd q (by decide)) (bn_e (fun w => by rw [w] at q; exact absurd q (by decide)) (bn_e (fun w => by rw [w] at q; exact absurd q (by decide)) e))))
    rw [if_neg (by omega), if_neg (by omega), if_neg (by omega), if_neg (by omega), if_pos q]
    obtain ⟨o9, e9, e⟩ := cl_s e
    obtain ⟨p1, p2⟩ := fd.2.2.2.2.2 o9 e9
    rw [so_e e]
    exact cao_s k Ok R (by rw [p1]; exact f) (by rw [p1]; exact k4) p2
  · replace e := bn_e (fun w => by rw [w] at q; exact absurd q (by decide)) (bn_e (fun w => by rw [w] at q; exact absurd q (by decide)) (bn_e (fun w => by rw [w] at q; exact absurd q (by decide)) (bn_e (fun w => by rw [w] at q; exact absurd q (by decide)) (bn_e (fun w => by rw [w] at q; exact absurd q (by decide)) e))))
    rw [if_neg (by omega), if_neg (by omega), if_neg (by omega), if_neg (by omega), if_neg (by omega)]
    obtain ⟨o9, e9, e⟩ := cl_s e
    obtain ⟨p1, p2⟩ := fd.1 o9 e9
    rw [so_e e]
    exact cao_s k Ok R (by rw [p1]; exact f) (by rw [p1]; exact k4) p2
end
end
