/-! men of a position: the class's rows against a board of values (0, or 1 + 2 man + side) -/
def updM (M : Nat → Int) (s : Nat) (v : Int) : Nat → Int := fun t => if t = s then v else M t
def RoA (x : Int32) (M : Nat → Int) (ro : Int) (d : Nat) : Prop := (x = (-1 : Int32) ∧ ∀ s, s < 64 → 0 ≤ ro → ¬ M s = 1 + 2 * ro + d) ∨ (Rg 0 63 x ∧ 0 ≤ ro ∧ M x.toNatClampNeg = 1 + 2 * ro + d)
def Bts (x : Int64) (M : Nat → Int) (d : Nat) : Prop := ∀ s, s < 64 → (bitJ x s = true ↔ (0 < M s ∧ (M s - 1) % 2 = (d : Int)))
def PosC (h : Hp) (on of ra : Nat) (M : Nat → Int) (ro : Int) : Prop := (∀ s, s < 64 → (hI h on s).toInt = M s - 1) ∧ (∀ d, d < 2 → Bts (hJ h of d) M d) ∧ (∀ d, d < 2 → RoA (hI h ra d) M ro d) ∧ ∀ s, s < 64 → 0 ≤ M s ∧ M s ≤ 24
def UnM (M : Nat → Int) (ro : Int) : Prop := 0 ≤ ro → ∀ d s t : Nat, d < 2 → s < 64 → t < 64 → M s = 1 + 2 * ro + d → M t = 1 + 2 * ro + d → s = t
theorem upm_s {M : Nat → Int} {s : Nat} {v : Int} : updM M s v s = v := if_pos rfl
theorem upm_o {M : Nat → Int} {s t : Nat} {v : Int} (n : ¬ t = s) : updM M s v t = M t := if_neg n
theorem roa_c {x : Int32} {M M' : Nat → Int} {ro : Int} {d : Nat} (R : RoA x M ro d) (c : ∀ s, s < 64 → M' s = M s) : RoA x M' ro d := by
  rcases R with ⟨a, b⟩ | ⟨a, b, e⟩
  · exact Or.inl ⟨a, fun s hs z y => b s hs z (by rw [← c s hs]; exact y)⟩
  · refine Or.inr ⟨a, b, ?_⟩
    rw [c _ (by have := a.1; have := a.2; have := nc_i a.1; omega)]
    exact e
section
variable {h g o : Hp} {p on of ra : Nat} {x1 x2 x3 : Int32} {M : Nat → Int}
/-- a man comes (or none) -/
theorem put_cb (e0 : hR g p 0 = some on) (e1 : hR g p 1 = some of) (e2 : hR g p 2 = some ra) (n1 : ¬ on = ra) (n2 : ¬ of = p) (i1 : Rg 0 63 x1) (i2 : Rg (-1) 23 x2) (g1 : ∀ s, s < 64 → ¬ s = x1.toNatClampNeg → (hI g on s).toInt = M s - 1) (g2 : ∀ d, d < 2 → Bts (hJ g of d) (updM M x1.toNatClampNeg 0) d) (g3 : ∀ d, d < 2 → RoA (hI g ra d) (updM M x1.toNatClampNeg 0) x3.toInt d) (g4 : ∀ s, s < 64 → 0 ≤ M s ∧ M s ≤ 24) (e : sX3_put_70 g p x1 x2 x3 ((1 : Int64) <<< (x1.toInt64 &&& 63)) = some o) : PosC o on of ra (updM M x1.toNatClampNeg (x2.toInt + 1)) x3.toInt ∧ (∀ a i, hR o a i = hR g a i) ∧ (∀ a i, ¬ a = on → ¬ a = ra → hI o a i = hI g a i) ∧ (∀ a i, ¬ a = of → ¬ (a = p ∧ i = 7) → hJ o a i = hJ g a i) ∧ ∀ s, bitJ (hJ o p 7) s = (bitJ (hJ g p 7) s || decide (x1.toNatClampNeg = s)) := by
  have z0 : (0 : Int32).toInt = 0 := rfl
  have i20 := i2.1
  have i21 := i2.2
  have i10 := i1.1
  have i11 := i1.2
  have c1 := nc_i i10
  have up : ∀ s, s < 64 → 0 ≤ updM M x1.toNatClampNeg (x2.toInt + 1) s ∧ updM M x1.toNatClampNeg (x2.toInt + 1) s ≤ 24 := fun s hs => by
    by_cases c : s = x1.toNatClampNeg
    · rw [c, upm_s]; exact ⟨by omega, by omega⟩
    · rw [upm_o c]; exact g4 s hs
  unfold sX3_put_70 sX3_put_111 at e
  replace e := ce_e e0 e
  replace e := gg_e e
  rw [nar8 ⟨by omega, by omega⟩] at e
  replace e := nm_s e; obtain ⟨h3, w3, e⟩ := e
  have on3 : ∀ s, s < 64 → (hI h3 on s).toInt = updM M x1.toNatClampNeg (x2.toInt + 1) s - 1 := fun s hs => by
    by_cases c : s = x1.toNatClampNeg
    · rw [c, upm_s, w3, rI_s]; omega
    · rw [upm_o c, w3, rI_o c]; exact g1 s hs c
  have I3 : ∀ a i, ¬ a = on → hI h3 a i = hI g a i := fun a i n => by rw [w3, rI_a n]
  have R3 : ∀ a i, hR h3 a i = hR g a i := fun a i => by rw [w3]; rfl
  have J3 : ∀ a i, hJ h3 a i = hJ g a i := fun a i => by rw [w3]; rfl
  have rn : ¬ ra = on := fun z => n1 z.symm
  rcases br_s e with ⟨l, e⟩ | ⟨l, e⟩
  · have l := lt_i l
    rw [z0] at l
    have x2m : x2.toInt + 1 = 0 := by omega
    rw [x2m] at on3 up ⊢
    rw [so_e (nx_e e)]
    refine ⟨⟨on3, fun d hd s hs => ?_, fun d hd => ?_, up⟩, R3, fun a i n _ => I3 a i n, fun a i n m => ?_, fun s => ?_⟩
    · rw [r_J, if_neg (fun z => n2 z.1), J3]; exact g2 d hd s hs
    · show RoA (hI h3 ra d) _ _ _
      rw [I3 _ _ rn]; exact g3 d hd
    · rw [r_J, if_neg (fun z => m ⟨z.1, z.2⟩), J3]
    · rw [r_J, if_pos ⟨rfl, rfl⟩, bj_or, bj_one i1, J3]
  · have l := nlt_i l
    rw [z0] at l
    have i2' : Rg 0 23 x2 := ⟨l, i21⟩
    have a1 := and1_i (x := x2) l
    have na := nc_i (x := x2 &&& (1 : Int32)) (by rw [a1]; omega)
    have s1 : (x2 >>> ((1 : Int32) &&& 31)).toInt = x2.toInt / 2 := shr_i 1 (by decide)
    replace e := ce_e ((R3 _ _).trans e1) e
    replace e := gg_e e
    replace e := gg_e e
    replace e := nm_s e; obtain ⟨h8, w8, e⟩ := e
    have I8 : ∀ a i, hI h8 a i = hI h3 a i := fun a i => by rw [w8]; rfl
    have R8 : ∀ a i, hR h8 a i = hR g a i := fun a i => by rw [w8]; exact R3 a i
    have J8 : ∀ a i, ¬ a = of → hJ h8 a i = hJ g a i := fun a i n => by rw [w8, r_J, if_neg (fun z => n z.1), J3]
    have bt : ∀ d, d < 2 → Bts (hJ h8 of d) (updM M x1.toNatClampNeg (x2.toInt + 1)) d := fun d hd s hs => by
      have old := g2 d hd s hs
      by_cases q : d = (x2 &&& (1 : Int32)).toNatClampNeg
      · rw [w8, r_J, if_pos ⟨rfl, q⟩, bj_or, bj_one i1, Bool.or_eq_true, decide_eq_true_eq, ← q, J3]
        by_cases c : s = x1.toNatClampNeg
        · rw [c, upm_s]
          exact ⟨fun _ => ⟨by omega, by omega⟩, fun _ => Or.inr rfl⟩
        · rw [upm_o c]
          rw [upm_o c] at old
          exact ⟨fun z => z.elim old.mp (fun y => absurd y.symm c), fun z => Or.inl (old.mpr z)⟩
      · rw [w8, r_J, if_neg (fun z => q z.2), J3]
        by_cases c : s = x1.toNatClampNeg
        · rw [c, upm_s]
          rw [c, upm_s] at old
          exact ⟨fun z => absurd (old.mp z).1 (by omega), fun z => absurd z.2 (by omega)⟩
        · rw [upm_o c]
          rw [upm_o c] at old
          exact old
    -- the ROYAL man's square, where it stays
    have ry : ∀ d, d < 2 → ¬ (d = (x2 &&& (1 : Int32)).toNatClampNeg ∧ x2 >>> ((1 : Int32) &&& 31) = x3) → RoA (hI g ra d) (updM M x1.toNatClampNeg (x2.toInt + 1)) x3.toInt d := fun d hd n => by
      rcases g3 d hd with ⟨a, b⟩ | ⟨a, b, k⟩
      · refine Or.inl ⟨a, fun s hs z y => ?_⟩
        by_cases c : s = x1.toNatClampNeg
        · rw [c, upm_s] at y
          exact n ⟨by omega, Int32.toInt_inj.mp (by rw [s1]; omega)⟩
        · rw [upm_o c] at y
          exact b s hs z (by rw [upm_o c]; exact y)
      · refine Or.inr ⟨a, b, ?_⟩
        by_cases c : (hI g ra d).toNatClampNeg = x1.toNatClampNeg
        · rw [c, upm_s] at k
          omega
        · rw [upm_o c]
          rw [upm_o c] at k
          exact k
    replace e := br_s e
    rcases e with ⟨q, e⟩ | ⟨q, e⟩
    · replace e := ce_e ((R8 _ _).trans e2) e
      replace e := gg_e e
      replace e := nm_s e; obtain ⟨h12, w12, e⟩ := e
      have j12 : ∀ a i, hJ h12 a i = hJ h8 a i := fun a i => by rw [w12]; rfl
      have qi : x3.toInt = x2.toInt / 2 := by rw [← q, s1]
      rw [so_e (nx_e e)]
      refine ⟨⟨fun s hs => ?_, fun d hd s hs => ?_, fun d hd => ?_, up⟩, fun a i => ?_, fun a i n m => ?_, fun a i n m => ?_, fun s => ?_⟩
      · show (hI h12 on s).toInt = _
        rw [w12, rI_a n1, I8]; exact on3 s hs
      · rw [r_J, if_neg (fun z => n2 z.1), j12]; exact bt d hd s hs
      · show RoA (hI h12 ra d) _ _ _
        by_cases c : d = (x2 &&& (1 : Int32)).toNatClampNeg
        · rw [w12, c, rI_s]
          refine Or.inr ⟨i1, by omega, ?_⟩
          rw [upm_s]
          omega
        · rw [w12, rI_o c, I8, I3 _ _ rn]
          exact ry d hd (fun z => c z.1)
      · show hR h12 a i = _
        rw [w12]; exact R8 a i
      · show hI h12 a i = _
        rw [w12, rI_a m, I8, I3 _ _ n]
      · rw [r_J, if_neg (fun z => m ⟨z.1, z.2⟩), j12, J8 _ _ n]
      · rw [r_J, if_pos ⟨rfl, rfl⟩, bj_or, bj_one i1, j12, J8 _ _ (fun z => n2 z.symm)]
    · rw [so_e (nx_e e)]
      refine ⟨⟨fun s hs => ?_, fun d hd s hs => ?_, fun d hd => ?_, up⟩, R8, fun a i n m => ?_, fun a i n m => ?_, fun s => ?_⟩
      · show (hI h8 on s).toInt = _
        rw [I8]; exact on3 s hs
      · rw [r_J, if_neg (fun z => n2 z.1)]; exact bt d hd s hs
      · show RoA (hI h8 ra d) _ _ _
        rw [I8, I3 _ _ rn]
        exact ry d hd (fun z => q z.2)
      · show hI h8 a i = _
        rw [I8, I3 _ _ n]
      · rw [r_J, if_neg (fun z => m ⟨z.1, z.2⟩), J8 _ _ n]
      · rw [r_J, if_pos ⟨rfl, rfl⟩, bj_or, bj_one i1, J8 _ _ (fun z => n2 z.symm)]
/-- put -/
theorem put_c (e0 : hR h p 0 = some on) (e1 : hR h p 1 = some of) (e2 : hR h p 2 = some ra) (n1 : ¬ on = ra) (n2 : ¬ of = p) (i1 : Rg 0 63 x1) (i2 : Rg (-1) 23 x2) (P : PosC h on of ra M x3.toInt) (U : M x1.toNatClampNeg = 0 ∨ UnM M x3.toInt) (e : sX3_put h p x1 x2 x3 = some o) : PosC o on of ra (updM M x1.toNatClampNeg (x2.toInt + 1)) x3.toInt ∧ (∀ a i, hR o a i = hR h a i) ∧ (∀ a i, ¬ a = on → ¬ a = ra → hI o a i = hI h a i) ∧ (∀ a i, ¬ a = of → ¬ (a = p ∧ i = 7) → hJ o a i = hJ h a i) ∧ ∀ s, bitJ (hJ o p 7) s = (bitJ (hJ h p 7) s || decide (x1.toNatClampNeg = s)) := by
  have z0 : (0 : Int32).toInt = 0 := rfl
  have z64 : (64 : Int32).toInt = 64 := rfl
  have i10 := i1.1
  have i11 := i1.2
  have c1 := nc_i i10
  have s64 : x1.toNatClampNeg < 64 := by omega
  obtain ⟨p1, p2, p3, p4⟩ := P
  have old := p1 _ s64
  obtain ⟨m0, m24⟩ := p4 _ s64
  unfold sX3_put at e
  replace e := bn_e (fun z => by have := lt_i z; rw [z0] at this; omega) e
  replace e := bp_e (ii_lt.mpr (by rw [z64]; omega)) e
  replace e := nx_e e
  replace e := ce_e e0 e
  replace e := gg_e e
  replace e := nx_e e
  replace e := br_s e
  rcases e with ⟨l, e⟩ | ⟨l, e⟩
  · have l := lt_i l
    rw [z0] at l
    have mz : M x1.toNatClampNeg = 0 := by omega
    have cc : ∀ s, updM M x1.toNatClampNeg 0 s = M s := fun s => by
      by_cases c : s = x1.toNatClampNeg
      · rw [c, upm_s, mz]
      · exact upm_o c
    exact put_cb e0 e1 e2 n1 n2 i1 i2 (fun s hs _ => p1 s hs) (fun d hd s hs => by rw [cc]; exact p2 d hd s hs) (fun d hd => roa_c (p3 d hd) (fun s _ => cc s)) p4 e
  · have l := nlt_i l
    rw [z0] at l
    have U' : UnM M x3.toInt := by
      rcases U with u | u
      · omega
      · exact u
    have a1 := and1_i l
    have na := nc_i (x := (hI h on x1.toNatClampNeg) &&& (1 : Int32)) (by rw [a1]; omega)
    have d2 : ((hI h on x1.toNatClampNeg) &&& (1 : Int32)).toNatClampNeg < 2 := by omega
    replace e := ce_e e1 e
    replace e := gg_e e
    replace e := gg_e e
    replace e := nm_s e; obtain ⟨h11, w11, e⟩ := e
    have R11 : ∀ a i, hR h11 a i = hR h a i := fun a i => by rw [w11]; rfl
    have I11 : ∀ a i, hI h11 a i = hI h a i := fun a i => by rw [w11]; rfl
    have J11 : ∀ a i, ¬ a = of → hJ h11 a i = hJ h a i := fun a i n => by rw [w11, r_J, if_neg (fun z => n z.1)]
    have bt : ∀ d, d < 2 → Bts (hJ h11 of d) (updM M x1.toNatClampNeg 0) d := fun d hd s hs => by
      have ol := p2 d hd s hs
      by_cases q : d = ((hI h on x1.toNatClampNeg) &&& (1 : Int32)).toNatClampNeg
      · rw [w11, r_J, if_pos ⟨rfl, q⟩, bj_and, bj_not _ hs, bj_one i1, Bool.and_eq_true, ← q]
        by_cases c : s = x1.toNatClampNeg
        · rw [c, upm_s]
          exact ⟨fun z => absurd z.2 (by simp), fun z => absurd z.1 (by decide)⟩
        · rw [upm_o c]
          have : (!decide (x1.toNatClampNeg = s)) = true := by simp; exact fun z => c z.symm
          exact ⟨fun z => ol.mp z.1, fun z => ⟨ol.mpr z, this⟩⟩
      · rw [w11, r_J, if_neg (fun z => q z.2)]
        by_cases c : s = x1.toNatClampNeg
        · rw [c, upm_s]
          rw [c] at ol
          exact ⟨fun z => absurd (ol.mp z).2 (by omega), fun z => absurd z.1 (by decide)⟩
        · rw [upm_o c]; exact ol
    have ry : ∀ d, d < 2 → ¬ (d = ((hI h on x1.toNatClampNeg) &&& (1 : Int32)).toNatClampNeg ∧ hI h ra d = x1) → RoA (hI h ra d) (updM M x1.toNatClampNeg 0) x3.toInt d := fun d hd n => by
      rcases p3 d hd with ⟨a, b⟩ | ⟨a, b, k⟩
      · refine Or.inl ⟨a, fun s hs z y => ?_⟩
        by_cases c : s = x1.toNatClampNeg
        · rw [c, upm_s] at y
          omega
        · rw [upm_o c] at y
          exact b s hs z y
      · refine Or.inr ⟨a, b, ?_⟩
        by_cases c : (hI h ra d).toNatClampNeg = x1.toNatClampNeg
        · have a0 := nc_i a.1
          rw [c] at k
          exact absurd ⟨by omega, Int32.toInt_inj.mp (by omega)⟩ n
        · rw [upm_o c]; exact k
    replace e := ce_e ((R11 _ _).trans e2) e
    replace e := gg_e e
    rw [I11] at e
    replace e := br_s e
    rcases e with ⟨q, e⟩ | ⟨q, e⟩
    · replace e := ce_e ((R11 _ _).trans e2) e
      replace e := gg_e e
      replace e := nm_s e; obtain ⟨h17, w17, e⟩ := e
      have R17 : ∀ a i, hR h17 a i = hR h a i := fun a i => by rw [w17]; exact R11 a i
      have J17 : ∀ a i, hJ h17 a i = hJ h11 a i := fun a i => by rw [w17]; rfl
      obtain ⟨r1, r2, r3, r4, r5⟩ := put_cb (M := M) ((R17 _ _).trans e0) ((R17 _ _).trans e1) ((R17 _ _).trans e2) n1 n2 i1 i2 (fun s hs _ => by rw [w17, rI_a n1, I11]; exact p1 s hs) (fun d hd s hs => by rw [J17]; exact bt d hd s hs) (fun d hd => by
        by_cases c : d = ((hI h on x1.toNatClampNeg) &&& (1 : Int32)).toNatClampNeg
        · rw [w17, c, rI_s]
          refine Or.inl ⟨rfl, fun s hs z y => ?_⟩
          by_cases c' : s = x1.toNatClampNeg
          · rw [c', upm_s] at y
            omega
          · rw [upm_o c'] at y
            rcases p3 _ d2 with ⟨a, _⟩ | ⟨_, _, k⟩
            · rw [a] at q
              rw [← q] at i10
              exact absurd i10 (by decide)
            · rw [q] at k
              exact c' (U' z _ s _ d2 hs s64 y k)
        · rw [w17, rI_o c, I11]
          exact ry d hd (fun z => c z.1)) p4 e
      exact ⟨r1, fun a i => (r2 a i).trans (R17 a i), fun a i n m => by rw [r3 a i n m, w17, rI_a m, I11], fun a i n m => by rw [r4 a i n m, J17, J11 _ _ n], fun s => by rw [r5, J17, J11 _ _ (fun z => n2 z.symm)]⟩
    · obtain ⟨r1, r2, r3, r4, r5⟩ := put_cb (M := M) ((R11 _ _).trans e0) ((R11 _ _).trans e1) ((R11 _ _).trans e2) n1 n2 i1 i2 (fun s hs _ => by rw [I11]; exact p1 s hs) bt (fun d hd => by
        rw [I11]
        refine ry d hd (fun z => q ?_)
        rw [← z.1]; exact z.2) p4 e
      exact ⟨r1, fun a i => (r2 a i).trans (R11 a i), fun a i n m => by rw [r3 a i n m, I11], fun a i n m => by rw [r4 a i n m, J11 _ _ n], fun s => by rw [r5, J11 _ _ (fun z => n2 z.symm)]⟩
end
