section
/-! BEFORE, the class: one code -/
section
variable {n F q : Nat} {g h : Hp}
theorem lay_d {p tp : Nat} {L : Nat → Nat → Int} {B P : Pz} {x : Int32} {o : Hp} (k : DyK n g h) (lp : n + 55 ≤ p) (pT : ∀ own, DnS n h own → BkE own h p 2 tp) (t2 : ¬ 3 = tp ∧ tp < 20000) (pe : ∀ {h' : Hp}, DyK n g h' → ∀ u, u ∈ fsP → hR h' p u.1 = some (p + u.2)) (Bb : BareC B) (Ab : CpA h (n + 49) (L 10 0) B) (l4 : (hI h (n + 5) 4).toInt = L 10 0) (Fd : FdC L B x P) (e : sX6_lay F h (n + 48) p x = some o) : FrW (fun a _ => p ≤ a ∧ a < p + 6) h o ∧ DyK n g o ∧ CpA o p (L 10 0) P := by
  have z1 : (1 : Int32).toInt = 1 := rfl
  have z2 : (2 : Int32).toInt = 2 := rfl
  have z15 : (15 : Int32).toInt = 15 := rfl
  have zm : (-1 : Int32).toInt = -1 := rfl
  have s6 := dk_610 k
  obtain ⟨s, t, m, a, ls, lt, lm, la, ⟨st, Bs, Un⟩, ex, eP⟩ := Fd
  obtain ⟨b1, b2, b3, b4, b5, b6⟩ := Bb
  have x0 : 0 ≤ x.toInt := by omega
  have s16 : (x >>> ((16 : Int32) &&& 31)).toInt = x.toInt / 65536 := shr_i (s := 16) 16 rfl
  have s12 : (x >>> ((12 : Int32) &&& 31)).toInt = x.toInt / 4096 := shr_i (s := 12) 12 rfl
  have va : ((x >>> ((16 : Int32) &&& 31)) &&& (15 : Int32)).toInt = (a : Int) := by
    rw [and_i (m := 4) (by rw [s16]; omega) (by decide) rfl, s16]; omega
  have vm : ((x >>> ((12 : Int32) &&& 31)) &&& (15 : Int32)).toInt = (m : Int) := by
    rw [and_i (m := 4) (by rw [s12]; omega) (by decide) rfl, s12]; omega
  have vt : ((x >>> ((6 : Int32) &&& 31)) &&& (63 : Int32)).toInt = (t : Int) := by
    rw [and63_i (by rw [shr6_i]; omega), shr6_i]; omega
  have vs : (x &&& (63 : Int32)).toInt = (s : Int) := by rw [and63_i x0]; omega
  have nt : ((x >>> ((6 : Int32) &&& 31)) &&& (63 : Int32)).toNatClampNeg = t := by have := nc_i (x := (x >>> ((6 : Int32) &&& 31)) &&& (63 : Int32)) (by omega); omega
  have ns : (x &&& (63 : Int32)).toNatClampNeg = s := by have := nc_i (x := x &&& (63 : Int32)) (by omega); omega
  unfold sX6_lay at e
  replace e := ce_e (dk_e (a := 48) (f := 3) (b := 49) k (by decide +kernel)) e
  obtain ⟨h2, e2, e⟩ := cl_s e
  obtain ⟨own, Dw⟩ := k.1.1
  obtain ⟨f2, k2, A2⟩ := cpy_k k Dw.1 (Or.inl ⟨bk_st (t := 3) Dw.1 (by decide) (by decide), by decide, by decide⟩) (pT own Dw) ⟨t2.1, by decide, t2.2⟩ Ab (pe k) e2
  have sd2 : (hI h2 (n + 49) 5).toInt = (pzS B : Int) := by
    rw [(f2.2 (n + 49) 5 (by omega) (fun c => by omega)).1]; exact Ab.2.2.1
  have l42 : (hI h2 (n + 5) 4).toInt = L 10 0 := by
    rw [(f2.2 (n + 5) 4 (by omega) (fun c => by omega)).1]; exact l4
  obtain ⟨o3, e3, e⟩ := cl_s e
  have q3 : o3.2 = h2 ∧ o3.1.toInt + 1 = (if a = 15 then 0 else cdV a (1 - (pzS B : Int))) ∧ Rg (-1) 23 o3.1 := by
    unfold sX6_takenIn sX6_takenIn_31 at e3
    replace e3 := nx_e e3
    rcases br_s e3 with ⟨c, e3⟩ | ⟨c, e3⟩
    · have c : ((x >>> ((16 : Int32) &&& 31)) &&& (15 : Int32)) = 15 := c
      rw [c] at va
      rw [so_e e3, if_pos (by omega)]
      exact ⟨rfl, rfl, show (-1 : Int) ≤ (-1 : Int32).toInt by decide, show (-1 : Int32).toInt ≤ 23 by decide⟩
    · have c := ne_i c
      have c : ¬ ((x >>> ((16 : Int32) &&& 31)) &&& (15 : Int32)).toInt = 15 := c
      replace e3 := ce_e (dk_e (a := 48) (f := 3) (b := 49) k2 (by decide +kernel)) e3
      rw [so_e e3, if_neg (by omega)]
      have v1 : ((2 : Int32) * ((x >>> ((16 : Int32) &&& 31)) &&& (15 : Int32))).toInt = 2 * (a : Int) := by rw [tm (by rw [z2]; omega), z2, va]
      have v2 : (((2 : Int32) * ((x >>> ((16 : Int32) &&& 31)) &&& (15 : Int32))) + (1 : Int32)).toInt = 2 * (a : Int) + 1 := by rw [ta (by omega), v1, z1]
      have v3 : ((((2 : Int32) * ((x >>> ((16 : Int32) &&& 31)) &&& (15 : Int32))) + (1 : Int32)) - hI h2 (n + 49) 5).toInt = 2 * (a : Int) + 1 - (pzS B : Int) := by rw [ts (by omega), v2, sd2]
      refine ⟨rfl, ?_, ?_, ?_⟩
      · show (_ - hI h2 (n + 49) 5).toInt + 1 = _
        rw [v3]
        unfold cdV
        omega
      · show (-1 : Int) ≤ (_ - hI h2 (n + 49) 5).toInt
        rw [v3]; omega
      · show (_ - hI h2 (n + 49) 5).toInt ≤ 23
        rw [v3]; omega
  obtain ⟨q31, q32, q33⟩ := q3
  rw [q31] at e
  replace e := ce_e (dk_e (a := 48) (f := 0) (b := 5) k2 (by decide +kernel)) e
  obtain ⟨h5, e5, e⟩ := cl_s e
  have c0 : hR h2 p 0 = some (p + 1) := A2.1.1
  have c1 : hR h2 p 1 = some (p + 2) := A2.1.2.1
  have c2 : hR h2 p 2 = some (p + 3) := A2.1.2.2.1
  have PC := A2.2.1
  have PC : PosC h2 (p + 1) (p + 2) (p + 3) B.1 (hI h2 (n + 5) 4).toInt := by rw [l42]; exact PC
  have R2 : ∀ i r, hR h2 p i = some r → hR h5 p i = some r := fun i r u => by
    rw [(put_c (on := p + 1) (of := p + 2) (ra := p + 3) c0 c1 c2 (by omega) (by omega) ⟨by omega, by omega⟩ q33 PC (Or.inr (by rw [l42]; exact Un)) e5).2.1]
    exact u
  obtain ⟨P5, r5, i5, j5, _⟩ := put_c (on := p + 1) (of := p + 2) (ra := p + 3) c0 c1 c2 (by omega) (by omega) ⟨by omega, by omega⟩ q33 PC (Or.inr (by rw [l42]; exact Un)) e5
  rw [nt, q32] at P5
  have k5 : DyK n g h5 := dk_X3_put k2 e5
  replace e := ce_e (dk_e (a := 48) (f := 3) (b := 49) k5 (by decide +kernel)) e
  replace e := ce_e (dk_e (a := 48) (f := 0) (b := 5) k5 (by decide +kernel)) e
  obtain ⟨h8, e8, e⟩ := cl_s e
  have sd5 : (hI h5 (n + 49) 5).toInt = (pzS B : Int) := by rw [i5 (n + 49) 5 (by omega) (by omega)]; exact sd2
  have l45 : (hI h5 (n + 5) 4).toInt = L 10 0 := by rw [i5 (n + 5) 4 (by omega) (by omega)]; exact l42
  have v1 : ((2 : Int32) * ((x >>> ((12 : Int32) &&& 31)) &&& (15 : Int32))).toInt = 2 * (m : Int) := by rw [tm (by rw [z2]; omega), z2, vm]
  have v2 : (((2 : Int32) * ((x >>> ((12 : Int32) &&& 31)) &&& (15 : Int32))) + hI h5 (n + 49) 5).toInt = 2 * (m : Int) + (pzS B : Int) := by rw [ta (by omega), v1, sd5]
  have PC5 : PosC h5 (p + 1) (p + 2) (p + 3) (updM B.1 t (if a = 15 then 0 else cdV a (1 - (pzS B : Int)))) (hI h5 (n + 5) 4).toInt := by rw [l45, ← l42]; exact P5
  obtain ⟨P8, r8, i8, j8, _⟩ := put_c (on := p + 1) (of := p + 2) (ra := p + 3) (R2 0 _ c0) (R2 1 _ c1) (R2 2 _ c2) (by omega) (by omega) ⟨by omega, by omega⟩ ⟨by omega, by omega⟩ PC5 (Or.inl (by rw [ns]; unfold updM; rw [if_neg st]; exact Bs)) e8
  rw [ns, v2, l45] at P8
  have k8 : DyK n g h8 := dk_X3_put k5 e8
  rw [so_e e]
  have fr : FrW (fun a _ => p ≤ a ∧ a < p + 6) h2 h8 := by
    have sz : hS h2 ≤ hS h8 := by
      have x := (dk_X3_put (dk_self k2) e5).1.2.2.2.1
      have y := (dk_X3_put (dk_self k5) e8).1.2.2.2.1
      omega
    exact ⟨sz, fun a i _ nw => ⟨by rw [i8 a i (by omega) (by omega), i5 a i (by omega) (by omega)], by rw [j8 a i (by omega) (by omega), j5 a i (by omega) (by omega)]⟩⟩
  have I : ∀ c i, ¬ c = p + 1 → ¬ c = p + 3 → hI h8 c i = hI h2 c i := fun c i c1 c2 => by rw [i8 c i c1 c2, i5 c i c1 c2]
  have J : ∀ c i, ¬ c = p + 2 → ¬ (c = p ∧ i = 7) → hJ h8 c i = hJ h2 c i := fun c i c1 c2 => by rw [j8 c i c1 c2, j5 c i c1 c2]
  refine ⟨fw_t f2 fr, k8, ?_⟩
  have RR : ∀ u, u ∈ fsP → hR h8 p u.1 = some (p + u.2) := pe k8
  subst eP
  obtain ⟨_, _, a3, a4, a5, a6, a7, a8⟩ := A2
  refine ⟨⟨RR (0, 1) (by decide), RR (1, 2) (by decide), RR (2, 3) (by decide), RR (3, 4) (by decide), RR (4, 5) (by decide)⟩, ?_, ?_, fun u hu => ?_, ⟨?_, ?_⟩, ⟨fun u hu => ?_, fun d hd => ?_⟩, fun d hd => ?_, ?_⟩
  · have e1 : 2 * (m : Int) + (pzS B : Int) + 1 = cdV m (pzS B) := by unfold cdV; omega
    rw [← e1]
    exact P8
  · show (hI h8 (p + 0) 5).toInt = _
    rw [I _ _ (by omega) (by omega)]; exact a3
  · show bitJ (hJ h8 (p + 0) 8) u = false
    rw [J _ _ (by omega) (by omega), ← b1 u hu]; exact a4 u hu
  · have := a5.1
    rw [b2] at this
    show Pw (hJ h8 (p + 0) 9) 0 (pzQ B)
    rw [J _ _ (by omega) (by omega)]; exact this
  · have := a5.2
    rw [b2] at this
    show OvN (hJ h8 (p + 0) 10) 0 (pzQ B)
    rw [J _ _ (by omega) (by omega)]; exact this
  · show HdB (hJ h8 (p + 4) u)
    rw [J _ _ (by omega) (by omega)]; exact a6.1 u hu
  · show ((hv (hJ h8 (p + 4) (d % 2)) (d / 2) : Nat) : Int) = 0
    rw [J _ _ (by omega) (by omega), ← b3 d hd]; exact a6.2 d hd
  · show (hI h8 (p + 5) d).toInt = 0
    rw [I _ _ (by omega) (by omega), ← b4 d hd]; exact a7 d hd
  · show (hI h8 (p + 0) 6).toInt = 0
    rw [I _ _ (by omega) (by omega), ← b5]; exact a8
end
theorem cd_enc {s t m a : Int32} {c : Cd} (K : CdN c) (e1 : s.toInt = (c.1 : Int)) (e2 : t.toInt = (c.2.1 : Int)) (e3 : m.toInt = (c.2.2.1 : Int)) (e4 : a.toInt = (c.2.2.2 : Int)) : (((s ||| (t <<< ((6 : Int32) &&& 31))) ||| (m <<< ((12 : Int32) &&& 31))) ||| (a <<< ((16 : Int32) &&& 31))).toInt = cdI c := by
  obtain ⟨ls, lt, lm, la⟩ := K
  have t6 : (t <<< ((6 : Int32) &&& 31)).toInt = t.toInt * 64 := shl_i (s := 6) (m := 6) rfl (by omega) (by show t.toInt * 64 ≤ _; omega)
  have m12 : (m <<< ((12 : Int32) &&& 31)).toInt = m.toInt * 4096 := shl_i (s := 12) (m := 12) rfl (by omega) (by show m.toInt * 4096 ≤ _; omega)
  have a16 : (a <<< ((16 : Int32) &&& 31)).toInt = a.toInt * 65536 := shl_i (s := 16) (m := 16) rfl (by omega) (by show a.toInt * 65536 ≤ _; omega)
  have v1 : (s ||| (t <<< ((6 : Int32) &&& 31))).toInt = s.toInt + t.toInt * 64 := by
    rw [or_i (m := 6) (z := t.toInt) (by omega) (by show s.toInt < 64; omega) (by omega) (by rw [t6]; rfl) (by omega), t6]
  have v2 : ((s ||| (t <<< ((6 : Int32) &&& 31))) ||| (m <<< ((12 : Int32) &&& 31))).toInt = s.toInt + t.toInt * 64 + m.toInt * 4096 := by
    rw [or_i (m := 12) (z := m.toInt) (by omega) (by rw [v1]; show _ < (4096 : Int); omega) (by omega) (by rw [m12]; rfl) (by omega), m12, v1]
  rw [or_i (m := 16) (z := a.toInt) (by omega) (by rw [v2]; show _ < (65536 : Int); omega) (by omega) (by rw [a16]; rfl) (by omega), a16, v2]
  unfold cdI
  omega
/-- the base of the search: men of a position, the other side to move -/
def bsP (P : Pz) : Pz := (P.1, 1 - pzS P, (fun _ => false), 0, pzQ P, (fun _ => 0), (fun _ => 0), 0)
theorem bs_bare {P : Pz} : BareC (bsP P) := ⟨fun _ _ => rfl, rfl, fun _ _ => rfl, fun _ _ => rfl, rfl, by show 1 - pzS P < 2; omega⟩
abbrev BfD (L : Nat → Nat → Int) (B : Pz) (c : Cd) : Prop := BfC L B c.1 c.2.1 c.2.2.1 c.2.2.2
theorem bfd_k {L : Nat → Nat → Int} {B : Pz} (c : Cd) (b : BfD L B c) : CdK L B c := ⟨b.1, b.2.1.1⟩
/-- what looking for them writes -/
def bfW (n a i : Nat) : Prop := (a = n + 48 ∧ (i = 6 ∨ i = 7)) ∨ (n + 55 ≤ a ∧ a ≤ n + 61) ∨ CSc n a i
/-- RULES, squares, letters as they must be; the base -/
def BfG (L : Nat → Nat → Int) (B : Pz) : Prop := LOk L ∧ LawK L ∧ LtO L ∧ LtD L ∧ MOk L B.1 ∧ UnM B.1 (L 10 0) ∧ pzS B < 2 ∧ BareC B
def BfSt (n : Nat) (g : Hp) (L : Nat → Nat → Int) (B : Pz) (Pr : Cd → Prop) (h : Hp) : Prop := DyK n g h ∧ ClL n h L ∧ CpA h (n + 49) (L 10 0) B ∧ ((hI h (n + 48) 7 = 0 ∧ ∃ N f, N ≤ 3000 ∧ RwC n h N f ∧ SqM L B (BfD L B) Pr N f) ∨ (hI h (n + 48) 7 = 1 ∧ OvB L B (BfD L B)))
section
variable {n F : Nat} {g h o : Hp} {L : Nat → Nat → Int} {B : Pz} {Pr Pr' : Cd → Prop} {c : Cd} {x x1 : Int32}
theorem bfs_w (S : BfSt n g L B Pr h) (a : ∀ x, Pr x → Pr' x) (b : ∀ x, Pr' x → BfD L B x → Pr x) : BfSt n g L B Pr' h := by
  obtain ⟨k, C, A, s⟩ := S
  refine ⟨k, C, A, ?_⟩
  rcases s with ⟨s1, N, f, s2, s3, s4⟩ | s
  · exact Or.inl ⟨s1, N, f, s2, s3, sqm_w s4 a b⟩
  · exact Or.inr s
theorem e55f {g h' : Hp} (k : DyK n g h') : ∀ u, u ∈ fsP → hR h' (n + 55) u.1 = some (n + 55 + u.2) := fun u hu => by
  have : ∀ q, q ∈ fsP → (55, q.1, 55 + q.2) ∈ edL := by decide +kernel
  have := dk_e k (this u hu)
  rw [show n + (55 + u.2) = n + 55 + u.2 by omega] at this
  exact this
theorem e49f {g h' : Hp} (k : DyK n g h') : ∀ u, u ∈ fsP → hR h' (n + 49) u.1 = some (n + 49 + u.2) := fun u hu => by
  have : ∀ q, q ∈ fsP → (49, q.1, 49 + q.2) ∈ edL := by decide +kernel
  have := dk_e k (this u hu)
  rw [show n + (49 + u.2) = n + 49 + u.2 by omega] at this
  exact this
/-- cells of the law and of the base stay -/
theorem bfw_c {o : Hp} (k : DyK n g h) (k' : DyK n h o) (kg : DyK n g o) (f : FrW (bfW n) h o) (C : ClL n h L) (A : CpA h (n + 49) (L 10 0) B) : ClL n o L ∧ CpA o (n + 49) (L 10 0) B := by
  have s6 := dk_610 k
  refine ⟨cll_f k k' (fun j i hj => f.2 _ _ (by omega) (fun c => by unfold bfW CSc at c; omega)) C, cpa_f A (e49f kg) (fun j i hj => f.2 _ _ (by omega) (fun c => by unfold bfW CSc at c; omega))⟩
/-- whether a board may be before -/
theorem isb_k {o : Int32 × Hp} {s t m a : Nat} (G : BfG L B) (O : BfO L B s t m) (A : BfA L a) (k : DyK n g h) (C : ClL n h L) (Ag : CpA h (n + 55) (L 10 0) (gsP B s t m a)) (ex : x1 = (-1 : Int32) ↔ a = 15) (e : sX6_isBefore F h (n + 48) x1 = some o) : FrW (CSc n) h o.2 ∧ DyK n g o.2 ∧ ((o.1 = 0 ∧ ¬ BfI L B s t m a) ∨ (¬ o.1 = 0 ∧ BfI L B s t m a)) := by
  obtain ⟨H, K, T, LD, HM, U, S2, _⟩ := G
  have z0 : (0 : Int32).toInt = 0 := rfl
  have Rd := gs_rd H HM S2 O A
  have kk := dk_X6_isBefore k e
  unfold sX6_isBefore sX6_isBefore_28 sX6_isBefore_46 sX6_isBefore_94 sX6_isBefore_95 at e
  have d2 : ∀ {g h' : Hp}, DyK n g h' → hR h' (n + 48) 2 = some (n + 30) := fun k => dk_e (a := 48) (f := 2) (b := 30) k (by decide +kernel)
  have d4 : ∀ {g h' : Hp}, DyK n g h' → hR h' (n + 48) 4 = some (n + 55) := fun k => dk_e (a := 48) (f := 4) (b := 55) k (by decide +kernel)
  replace e := ce_e (d2 k) e
  replace e := ce_e (d4 k) e
  obtain ⟨o3, e3, e⟩ := cl_s e
  have Cp : CpP (vK n 0 (n + 55) 0 0 0 0) h (L 10 0) (gsP B s t m a) := cpa_k.mpr Ag
  have M : MkC (vK n 0 (n + 55) 0 0 0 0) h L := cll_k.mpr C
  obtain ⟨f1, f2⟩ := ft_c (V := vK n 0 (n + 55) 0 0 0 0) H K Rd.1 M.1 M.2 ⟨Cp.1, Cp.2.1, Cp.2.2.1, Cp.2.2.2.1, Or.inl Cp.2.2.2.2.1, Cp.2.2.2.2.2⟩ e3
  rw [f1] at e
  have no : ∀ {p : Prop}, ¬ p → some ((0 : Int32), h) = some o → FrW (CSc n) h o.2 ∧ ((o.1 = 0 ∧ ¬ p) ∨ (¬ o.1 = 0 ∧ p)) := fun {p} np e => by
    rw [so_e e]; exact ⟨fw_0, Or.inl ⟨rfl, np⟩⟩
  have yes : ∀ {p : Prop}, p → some ((1 : Int32), h) = some o → FrW (CSc n) h o.2 ∧ ((o.1 = 0 ∧ ¬ p) ∨ (¬ o.1 = 0 ∧ p)) := fun {p} np e => by
    rw [so_e e]; exact ⟨fw_0, Or.inr ⟨show ¬ (1 : Int32) = 0 by decide, np⟩⟩
  have re : ∀ {p : Prop}, FrW (CSc n) h o.2 ∧ ((o.1 = 0 ∧ ¬ p) ∨ (¬ o.1 = 0 ∧ p)) → FrW (CSc n) h o.2 ∧ DyK n g o.2 ∧ ((o.1 = 0 ∧ ¬ p) ∨ (¬ o.1 = 0 ∧ p)) := fun z => ⟨z.1, kk, z.2⟩
  refine re ?_
  rcases br_s e with ⟨c3, e⟩ | ⟨c3, e⟩
  rotate_left
  · exact no (fun z => c3 (Int32.toInt_inj.mp (by rw [f2, z.1]; rfl))) e
  have w0 : wrN L (gsP B s t m a) = 0 := by rw [← f2, c3]; rfl
  have Og := wr_ok H K Rd w0
  replace e := ce_e (d2 k) e
  replace e := ce_e (d4 k) e
  obtain ⟨o7, e7, e⟩ := cl_s e
  obtain ⟨g1, g2⟩ := ee_c (V := vK n 0 (n + 55) 0 0 0 0) K Og M.1.1.1 M.2 Cp e7
  rw [g1] at e
  have erp : 0 ≤ (er1 L (gsP B s t m a)).1 := by
    unfold er1 er2 er3 er4
    repeat' split
    all_goals (dsimp only; decide)
  rcases br_s e with ⟨c7, e⟩ | ⟨c7, e⟩
  rotate_left
  · refine no (fun z => c7 (Int32.toInt_inj.mp ?_)) e
    rw [g2, z0]
    have := z.2.1
    omega
  have ne1 : ¬ 0 < (er1 L (gsP B s t m a)).1 := by rw [← g2, c7]; decide
  rcases br_s e with ⟨c8, e⟩ | ⟨c8, e⟩
  rotate_left
  · exact yes ⟨w0, ne1, Or.inl (fun z => c8 (ex.mpr z))⟩ e
  have a15 := ex.mp c8
  replace e := ce_e (dk_e (a := 48) (f := 0) (b := 5) k (by decide +kernel)) e
  obtain ⟨o11, e11, e⟩ := cl_s e
  obtain ⟨h1, h2⟩ := has_v (V := vK n 0 0 0 0 0 0) e11
  rw [h1] at e
  have mu : (hI h (n + 5) 10) &&& (2 : Int32) = 0 ↔ L 16 0 = 0 := C.2.2.1.2.1.2.1
  rcases br_s e with ⟨c11, e⟩ | ⟨c11, e⟩
  · rcases h2 with ⟨_, h2⟩ | ⟨h2, _⟩
    · exact yes ⟨w0, ne1, Or.inr (Or.inl (mu.mp h2))⟩ e
    · rw [h2] at c11; exact absurd c11 (by decide)
  rcases h2 with ⟨h2, _⟩ | ⟨_, h2⟩
  · exact absurd h2 c11
  have nm16 : ¬ L 16 0 = 0 := fun z => h2 (mu.mpr z)
  replace e := ce_e (d2 k) e
  replace e := ce_e (d4 k) e
  replace e := ce_e (d2 k) e
  replace e := ce_e (dk_e (a := 30) (f := 2) (b := 31) k (by decide +kernel)) e
  obtain ⟨o17, e17, e⟩ := cl_s e
  obtain ⟨own, Dw⟩ := k.1.1
  have ks := dk_self k
  obtain ⟨owns, Dws⟩ := ks.1.1
  obtain ⟨q1, q2, q3, q4⟩ := col_k ks Dws.1 (p := n + 55) (l := n + 31) (Or.inl ⟨bk_st (t := 4) Dws.1 (by decide) (by decide), by decide, by decide⟩) (bk_room Dws.1) (by decide) (Or.inl ⟨by omega, by omega⟩) H K Og C Ag (ks.1.2.2.1.1 (31, 4096) (by decide +kernel)) e17
  have fin : ∀ {v : Int32}, o = (v, o17.2) → (v = 0 ∧ ¬ BfI L B s t m a) ∨ (¬ v = 0 ∧ BfI L B s t m a) → FrW (CSc n) h o.2 ∧ ((o.1 = 0 ∧ ¬ BfI L B s t m a) ∨ (¬ o.1 = 0 ∧ BfI L B s t m a)) := fun {v} y z => by
    rw [y]; exact ⟨q1, z⟩
  rcases br_s e with ⟨c17, e⟩ | ⟨c17, e⟩
  · have c17 := le_i c17
    refine fin (so_e (gg_e e)) (Or.inl ⟨rfl, fun z => ?_⟩)
    rcases z.2.2 with y | y | ⟨v, y, _⟩
    · exact y a15
    · exact nm16 y
    · have := List.getElem?_eq_some_iff.mp y
      obtain ⟨l, _⟩ := this
      omega
  have c17 := nle_i c17
  have l0 : 0 < (lgL L (gsP B s t m a)).length := by omega
  obtain ⟨v, v1, v2⟩ := q3 0 l0
  replace e := ce_e (d2 q2) e
  replace e := ce_e (dk_e (a := 30) (f := 2) (b := 31) q2 (by decide +kernel)) e
  replace e := gg_e e
  obtain ⟨o22, e22, e⟩ := cl_s e
  have e22 : sX5_takenBy o17.2 (hI o17.2 (n + 31) 0) = some o22 := e22
  obtain ⟨y1, y2⟩ := (mv_fd (h := o17.2) H (lg_gd H K Og v1) v2).2.2.2.2.2 o22 e22
  rw [y1] at e
  rcases br_s e with ⟨c22, e⟩ | ⟨c22, e⟩
  · refine fin (so_e (gg_e e)) (Or.inr ⟨by decide, w0, ne1, Or.inr (Or.inr ⟨v, v1, ?_⟩)⟩)
    rw [← y2, c22]; rfl
  · refine fin (so_e (gg_e e)) (Or.inl ⟨rfl, fun z => ?_⟩)
    rcases z.2.2 with y | y | ⟨u, y, yt⟩
    · exact y a15
    · exact nm16 y
    · rw [v1] at y
      rw [← Option.some.inj y, ← y2] at yt
      exact c22 (Int32.toInt_inj.mp yt)
/-- one code: laid, looked at, kept -/
theorem one_k {o3 : Hp} {o4 : Int32 × Hp} {P : Hp → Prop} (G : BfG L B) (O : BfO L B c.1 c.2.1 c.2.2.1) (A : BfA L c.2.2.2) (nr : ¬ (c.2.2.2 : Int) = L 10 0) (W : BfW L B c.1 c.2.1 c.2.2.1 c.2.2.2) (Sa : BfS L B) (S : BfSt n g L B Pr h) (ov : hI h (n + 48) 7 = 0) (np : ¬ Pr c) (ex : x.toInt = cdI c) (ex1 : x1 = (-1 : Int32) ↔ c.2.2.2 = 15) (e3 : sX6_lay F h (n + 48) (n + 55) x = some o3) (e4 : sX6_isBefore F o3 (n + 48) x1 = some o4) : (o4.1 = 0 → FrW (bfW n) h o4.2 ∧ BfSt n g L B (fun y => Pr y ∨ y = c) o4.2) ∧ (¬ o4.1 = 0 → ∀ o6, sX6_keep F o4.2 (n + 48) x = some o6 → FrW (bfW n) h o6 ∧ BfSt n g L B (fun y => Pr y ∨ y = c) o6) := by
  obtain ⟨k, C, Ab, st⟩ := S
  have G' := G
  obtain ⟨H, K, T, LD, HM, U, S2, Bb⟩ := G'
  have s6 := dk_610 k
  have CN := cd_n H ⟨O, A⟩
  have l4 : (hI h (n + 5) 4).toInt = L 10 0 := C.2.2.2.1.1
  have Fd : FdC L B x (gsP B c.1 c.2.1 c.2.2.1 c.2.2.2) := ⟨c.1, c.2.1, c.2.2.1, c.2.2.2, CN.1, CN.2.1, CN.2.2.1, CN.2.2.2, ⟨bf_ne O, O.1.2.2, U⟩, ex, rfl⟩
  obtain ⟨f3, k3, A3⟩ := lay_d (p := n + 55) (tp := 4) k (by omega) (fun own Dw => bk_12 (Or.inl ⟨bk_st (t := 4) Dw.1 (by decide) (by decide), by decide, by decide⟩) (by decide)) (by decide) (fun k => e55f k) Bb Ab l4 Fd e3
  have F3 : FrW (bfW n) h o3 := fw_s f3 (fun a i z => Or.inr (Or.inl (by omega)))
  have k3' : DyK n h o3 := dk_X6_lay (dk_self k) e3
  obtain ⟨C3, B3⟩ := bfw_c k k3' k3 F3 C Ab
  obtain ⟨f4, k4, v4⟩ := isb_k (s := c.1) (t := c.2.1) (m := c.2.2.1) (a := c.2.2.2) G O A k3 C3 A3 ex1 e4
  have F4 : FrW (bfW n) h o4.2 := fw_t F3 (fw_s f4 (fun a i z => Or.inr (Or.inr z)))
  have k4' : DyK n h o4.2 := dk_X6_isBefore k3' e4
  obtain ⟨C4, B4⟩ := bfw_c k k4' k4 F4 C Ab
  have f34 : FrW (fun a i => (n + 55 ≤ a ∧ a ≤ n + 60) ∨ CSc n a i) h o4.2 := fw_t (fw_s f3 (fun a i z => Or.inl (by omega))) (fw_s f4 (fun a i z => Or.inr z))
  have i48 : ∀ i, hI o4.2 (n + 48) i = hI h (n + 48) i := fun i => (f34.2 _ _ (by omega) (fun z => by unfold CSc at z; omega)).1
  have i61 : ∀ i, hI o4.2 (n + 61) i = hI h (n + 61) i := fun i => (f34.2 _ _ (by omega) (fun z => by unfold CSc at z; omega)).1
  obtain ⟨N, f, N3, Rw, Sq⟩ : ∃ N f, N ≤ 3000 ∧ RwC n h N f ∧ SqM L B (BfD L B) Pr N f := by
    rcases st with ⟨_, st⟩ | ⟨z, _⟩
    · exact st
    · rw [ov] at z; exact absurd z (by decide)
  have Rw4 : RwC n o4.2 N f := ⟨by rw [i48]; exact Rw.1, fun k hk => by rw [i61]; exact Rw.2 k hk⟩
  refine ⟨fun z => ⟨F4, k4, C4, B4, Or.inl ⟨by rw [i48]; exact ov, N, f, N3, Rw4, sqm_skip Sq (fun y => ?_)⟩⟩, fun z o6 e6 => ?_⟩
  · rcases v4 with ⟨_, v4⟩ | ⟨v4, _⟩
    · exact v4 y.2.2.2.2
    · exact v4 z
  · have bi : BfI L B c.1 c.2.1 c.2.2.1 c.2.2.2 := by
      rcases v4 with ⟨v4, _⟩ | ⟨_, v4⟩
      · exact absurd v4 z
      · exact v4
    have bc : BfD L B c := ⟨O, ⟨A, nr⟩, W, Sa, bi⟩
    have k6 : DyK n g o6 := dk_X6_keep k4 e6
    have k6' : DyK n h o6 := dk_X6_keep k4' e6
    rcases kp_k H T LD HM S2 bfd_k k4 C4 B4 Sq np bc Rw4 ex N3 e6 with ⟨l, fk, lo, l1, l2, l3, l4⟩ | ⟨l, eo⟩
    · have F6 : FrW (bfW n) h o6 := fw_t F4 (fw_s fk (fun a i z => by
        rcases z with z | z
        · exact Or.inr (Or.inl (by omega))
        · exact Or.inl ⟨z.1, Or.inl z.2⟩))
      obtain ⟨C6, B6⟩ := bfw_c k k6' k6 F6 C Ab
      have s64 := dk_610 k4
      refine ⟨F6, k6, C6, B6, Or.inl ⟨?_, N + 1, insF f lo c, by omega, l4, sqm_add Sq bc l1 l2 l3⟩⟩
      rw [(fk.2 (n + 48) 7 (by omega) (fun z => by omega)).1, i48]; exact ov
    · have fk : FrW (fun a i => a = n + 48 ∧ i = 7) o4.2 o6 := by rw [eo]; exact fw_wI fw_0 ⟨rfl, rfl⟩
      have F6 : FrW (bfW n) h o6 := fw_t F4 (fw_s fk (fun a i z => Or.inl ⟨z.1, Or.inr z.2⟩))
      obtain ⟨C6, B6⟩ := bfw_c k k6' k6 F6 C Ab
      rw [l] at Sq
      exact ⟨F6, k6, C6, B6, Or.inr ⟨by rw [eo, rI_s], ovb_of H T LD HM S2 bfd_k Sq np bc⟩⟩
end
end
section
/-! BEFORE, the class: all codes -/
section
variable {n F : Nat} {g h o : Hp} {L : Nat → Nat → Int} {B : Pz} {Pr Pr' : Cd → Prop}
theorem bfs_o (S : BfSt n g L B Pr h) (z : ¬ hI h (n + 48) 7 = 0) : BfSt n g L B Pr' h := by
  obtain ⟨k, C, A, s⟩ := S
  rcases s with ⟨s, _⟩ | s
  · exact absurd s z
  · exact ⟨k, C, A, Or.inr s⟩
def FmB (n : Nat) (h : Hp) (L : Nat → Nat → Int) : Prop := ∀ i, i < 1536 → ∀ s, s < 64 → bitJ (hJ h (n + 26) i) s = true → (s : Int) < L 0 0 * L 1 0
theorem fmb_f (k : DyK n g h) (f : FrW (bfW n) h o) (A : FmB n h L) : FmB n o L := fun i hi s hs b => by
  have s6 := dk_610 k
  rw [(f.2 (n + 26) i (by omega) (fun z => by unfold bfW CSc at z; omega)).2] at b
  exact A i hi s hs b
/-- one man taken: all squares that he may have come from -/
theorem tb_80 {K : Hp → Nat → Int32 → Int32 → Int32 → Int32 → Option Hp} {PrA : Cd → Prop} {Q : Hp → Prop} {t m a : Nat} {x1 x2 x3 x4 : Int32} (G : BfG L B) (Sa : BfS L B) (bo : ∀ s : Nat, s < 64 → (s : Int) < L 0 0 * L 1 0 → B.1 s = 0 → BfO L B s t m) (A : BfA L a) (nr : ¬ (a : Int) = L 10 0) (e1 : x1.toInt = (t : Int)) (e2 : x2.toInt = (m : Int)) (e4 : (x4 = (-1 : Int32) ∧ a = 15) ∨ (¬ x4 = (-1 : Int32) ∧ x4.toInt = (a : Int) ∧ a < 12)) (npA : ∀ c, PrA c → ¬ (c.2.1 = t ∧ c.2.2.1 = m ∧ c.2.2.2 = a)) (hK : ∀ {h' : Hp}, FrW (bfW n) h h' → BfSt n g L B (fun c => PrA c ∨ (c.2.1 = t ∧ c.2.2.1 = m ∧ c.2.2.2 = a)) h' → K h' (n + 48) x1 x2 x3 (x4 + (1 : Int32)) = some o → Q o) : ∀ (f : Nat) {h' : Hp} {x5 : Int64} {x7 : Int32}, FrW (bfW n) h h' → BfSt n g L B (fun c => PrA c ∨ (c.2.1 = t ∧ c.2.2.1 = m ∧ c.2.2.2 = a ∧ ¬ (c.1 < 64 ∧ bitJ x5 c.1 = true))) h' → (∀ s : Nat, s < 64 → bitJ x5 s = true → (s : Int) < L 0 0 * L 1 0 ∧ B.1 s = 0 ∧ BfW L B s t m a) → 0 ≤ x7.toInt → (∀ s : Nat, s < 64 → (s : Int) < x7.toInt → bitJ x5 s = false) → sX6_takeBack_80 F K f h' (n + 48) x1 x2 x3 x4 x5 x7 = some o → Q o := by
  have z1 : (1 : Int32).toInt = 1 := rfl
  have z64 : (64 : Int32).toInt = 64 := rfl
  intro f
  induction f with
  | zero => intro h' x5 x7 _ _ _ _ _ e; exact absurd e (by rw [sX6_takeBack_80]; exact fun z => nomatch z)
  | succ f ih =>
    intro h' x5 x7 fr S B5 a7 lo e
    rw [sX6_takeBack_80] at e
    unfold sX6_takeBack_179 at e
    have all : (∀ s, s < 64 → bitJ x5 s = false) → BfSt n g L B (fun c => PrA c ∨ (c.2.1 = t ∧ c.2.2.1 = m ∧ c.2.2.2 = a)) h' := fun z => bfs_w S (fun c y => by
      rcases y with y | y
      · exact Or.inl y
      · exact Or.inr ⟨y.1, y.2.1, y.2.2.1⟩) (fun c y _ => by
      rcases y with y | y
      · exact Or.inl y
      · exact Or.inr ⟨y.1, y.2.1, y.2.2, fun w => by rw [z _ w.1] at w; exact absurd w.2 (by decide)⟩)
    rcases br_s e with ⟨l, e⟩ | ⟨l, e⟩
    · have l := le_i l
      rw [z64] at l
      replace e := nx_e e
      exact hK fr (all (fun s hs => lo s hs (by omega))) e
    have l := nle_i l
    rw [z64] at l
    rcases br_s e with ⟨z, e⟩ | ⟨z, e⟩
    · replace e := nx_e e
      exact hK fr (all (j_zero.mp (cmp_eq z))) e
    rcases br_s e with ⟨ov, e⟩ | ⟨ov, e⟩
    rotate_left
    · replace e := nx_e e
      exact hK fr (bfs_o S ov) e
    obtain ⟨o4, e4', e⟩ := cl_s e
    obtain ⟨lh, k, hk, vk, pk, kl, rest⟩ := low_v e4' z
    rw [lh] at e
    replace e := nm_s e; obtain ⟨v5, u5, e⟩ := e
    rw [← u5] at rest
    obtain ⟨kL, k0, kW⟩ := B5 k hk pk
    have O := bo k hk kL k0
    have N := cd_n (c := (k, t, m, a)) G.1 ⟨O, A⟩
    have nxt : ∀ {h2 : Hp}, FrW (bfW n) h' h2 → BfSt n g L B (fun y => (PrA y ∨ (y.2.1 = t ∧ y.2.2.1 = m ∧ y.2.2.2 = a ∧ ¬ (y.1 < 64 ∧ bitJ x5 y.1 = true))) ∨ y = (k, t, m, a)) h2 → sX6_takeBack_80 F K f h2 (n + 48) x1 x2 x3 x4 v5 (x7 + (1 : Int32)) = some o → Q o := fun {h2} f2 S2 e => by
      refine ih (fw_t fr f2) (bfs_w S2 (fun c y => ?_) (fun c y _ => ?_)) (fun s hs b => B5 s hs (by
        rw [rest s hs, Bool.and_eq_true] at b
        exact b.1)) (by rw [ta (by omega), z1]; omega) (fun s hs ls => ?_) e
      · rcases y with (y | ⟨y1, y2, y3, y4⟩) | y
        · exact Or.inl y
        · refine Or.inr ⟨y1, y2, y3, fun w => y4 ⟨w.1, ?_⟩⟩
          have := w.2
          rw [rest _ w.1, Bool.and_eq_true] at this
          exact this.1
        · rw [y]
          refine Or.inr ⟨rfl, rfl, rfl, fun w => ?_⟩
          have := w.2
          rw [rest _ hk, decide_eq_true rfl, Bool.not_true, Bool.and_false] at this
          exact absurd this (by decide)
      · rcases y with y | ⟨y1, y2, y3, y4⟩
        · exact Or.inl (Or.inl y)
        · by_cases w : c.1 = k
          · exact Or.inr (Prod.ext w (Prod.ext y1 (Prod.ext y2 y3)))
          · refine Or.inl (Or.inr ⟨y1, y2, y3, fun u => y4 ⟨u.1, ?_⟩⟩)
            rw [rest _ u.1, u.2, decide_eq_false (fun v => w v.symm)]; rfl
      · rw [ta (by omega), z1] at ls
        rw [rest s hs]
        by_cases c : s < k
        · rw [kl s c]; rfl
        · by_cases d : k = s
          · rw [decide_eq_true d]; cases bitJ x5 s <;> rfl
          · have : (k : Int) < x7.toInt := by omega
            rw [lo k hk this] at pk
            exact absurd pk (by decide)
    have np : ¬ (PrA (k, t, m, a) ∨ ((k, t, m, a).2.1 = t ∧ (k, t, m, a).2.2.1 = m ∧ (k, t, m, a).2.2.2 = a ∧ ¬ ((k, t, m, a).1 < 64 ∧ bitJ x5 (k, t, m, a).1 = true))) := fun y => by
      rcases y with y | ⟨_, _, _, y⟩
      · exact npA _ y ⟨rfl, rfl, rfl⟩
      · exact y ⟨hk, pk⟩
    have body : ∀ {t0 : Int32}, t0.toInt = (a : Int) → sX6_takeBack_142 F K (sX6_takeBack_80 F K f) h' (n + 48) x1 x2 x3 x4 v5 x7 t0 ((o4.1 ||| (x1 <<< ((6 : Int32) &&& 31))) ||| (x2 <<< ((12 : Int32) &&& 31))) = some o → Q o := fun {t0} et e => by
      unfold sX6_takeBack_142 sX6_takeBack_173 at e
      obtain ⟨v1, w1, e⟩ := nm_s e
      have ec : v1.toInt = cdI (k, t, m, a) := by rw [w1]; exact cd_enc N vk e1 e2 et
      replace e := ce_e (dk_e (a := 48) (f := 4) (b := 55) S.1 (by decide +kernel)) e
      obtain ⟨o3, e3, e⟩ := cl_s e
      obtain ⟨o5, e5, e⟩ := cl_s e
      obtain ⟨r1, r2⟩ := one_k (P := fun _ => True) (c := (k, t, m, a)) (x1 := x4) G O A nr kW Sa S ov np ec (by
        rcases e4 with ⟨q1, q2⟩ | ⟨q1, q2, q3⟩
        · exact ⟨fun _ => q2, fun _ => q1⟩
        · refine ⟨fun w => absurd w q1, fun w => ?_⟩
          have w : a = 15 := w
          omega) e3 e5
      rcases br_s e with ⟨c5, e⟩ | ⟨c5, e⟩
      · replace e := nx_e e
        exact nxt (r1 c5).1 (r1 c5).2 e
      · obtain ⟨o6, e6, e⟩ := cl_s e
        replace e := nx_e e
        obtain ⟨s1, s2⟩ := r2 c5 o6 e6
        exact nxt s1 s2 e
    rcases br_s e with ⟨cm, e⟩ | ⟨cm, e⟩
    · rcases e4 with ⟨_, q2⟩ | ⟨q1, _⟩
      · exact body (by rw [q2]; rfl) e
      · exact absurd cm q1
    · rcases e4 with ⟨q1, _⟩ | ⟨_, q2, _⟩
      · exact absurd q1 cm
      · exact body q2 e
/-- men taken that were tried -/
def dnA (x : Int) (a : Nat) : Prop := (a = 15 ∧ 0 ≤ x) ∨ (a < 12 ∧ (a : Int) < x)
theorem tb_15 {t m : Nat} {x1 x2 x3 : Int32} (G : BfG L B) (Sa : BfS L B) (fb : FmB n h L) (k0 : DyK n g h) (tt : t < 64) (mm : (m : Int) < L 2 0) (bo : ∀ s : Nat, s < 64 → (s : Int) < L 0 0 * L 1 0 → B.1 s = 0 → BfO L B s t m) (e1 : x1.toInt = (t : Int)) (e2 : x2.toInt = (m : Int)) (e3 : x3.toInt = 2 * (m : Int) + (pzS B : Int)) (np : ∀ c, Pr c → ¬ (c.2.1 = t ∧ c.2.2.1 = m)) : ∀ (f : Nat) {h' : Hp} {x4 : Int32}, FrW (bfW n) h h' → BfSt n g L B (fun c => Pr c ∨ (c.2.1 = t ∧ c.2.2.1 = m ∧ dnA x4.toInt c.2.2.2)) h' → -1 ≤ x4.toInt → sX6_takeBack_15 F f h' (n + 48) x1 x2 x3 x4 = some o → FrW (bfW n) h o ∧ BfSt n g L B (fun c => Pr c ∨ (c.2.1 = t ∧ c.2.2.1 = m)) o := by
  have z1 : (1 : Int32).toInt = 1 := rfl
  have zm : (-1 : Int32).toInt = -1 := rfl
  have G' := G
  obtain ⟨H, K, T, LD, HM, U, S2, Bb⟩ := G'
  have L2 := H.2.2.1
  have kr := K.2.1
  intro f
  induction f with
  | zero => intro h' x4 _ _ _ e; exact absurd e (by rw [sX6_takeBack_15]; exact fun z => nomatch z)
  | succ f ih =>
    intro h' x4 fr S l4 e
    obtain ⟨k, C, Ab, st⟩ := S
    have S : BfSt n g L B (fun c => Pr c ∨ (c.2.1 = t ∧ c.2.2.1 = m ∧ dnA x4.toInt c.2.2.2)) h' := ⟨k, C, Ab, st⟩
    rw [sX6_takeBack_15] at e
    have m3 : (hI h' (n + 5) 3).toInt = L 2 0 := C.2.1.2.2.2.1
    have m4 : (hI h' (n + 5) 4).toInt = L 10 0 := C.2.2.2.1.1
    replace e := ce_e (dk_e (a := 48) (f := 0) (b := 5) k (by decide +kernel)) e
    rcases br_s e with ⟨c1, e⟩ | ⟨c1, e⟩
    · have c1 := le_i c1
      rw [so_e e]
      refine ⟨fr, bfs_w S (fun c y => ?_) (fun c y b => ?_)⟩
      · rcases y with y | y
        · exact Or.inl y
        · exact Or.inr ⟨y.1, y.2.1⟩
      · rcases y with y | y
        · exact Or.inl y
        · refine Or.inr ⟨y.1, y.2, ?_⟩
          rcases b.2.1.1 with w | w
          · exact Or.inl ⟨w, by omega⟩
          · exact Or.inr ⟨by omega, by omega⟩
    have c1 := nle_i c1
    have v4 : (x4 + (1 : Int32)).toInt = x4.toInt + 1 := by rw [ta (by omega), z1]
    -- one of them
    have body : ∀ {a : Nat}, BfA L a → ¬ (a : Int) = L 10 0 → ((x4 = (-1 : Int32) ∧ a = 15) ∨ (¬ x4 = (-1 : Int32) ∧ x4.toInt = (a : Int) ∧ a < 12)) → sX6_takeBack_48 F (sX6_takeBack_15 F f) h' (n + 48) x1 x2 x3 x4 = some o → FrW (bfW n) h o ∧ BfSt n g L B (fun c => Pr c ∨ (c.2.1 = t ∧ c.2.2.1 = m)) o := fun {a} A nr e4 e => by
      have nd : ¬ dnA x4.toInt a := fun y => by
        rcases e4 with ⟨q1, q2⟩ | ⟨q1, q2, q3⟩
        · rw [q1, zm] at y
          rcases y with y | y
          · omega
          · omega
        · rcases y with y | y
          · omega
          · omega
      have dn : ∀ b, dnA (x4 + (1 : Int32)).toInt b ↔ (dnA x4.toInt b ∨ b = a) := fun b => by
        rw [v4]
        unfold dnA
        rcases e4 with ⟨q1, q2⟩ | ⟨q1, q2, q3⟩
        · rw [q1, zm]; omega
        · have q1' := ne_i q1
          rw [zm] at q1'
          omega
      have in65 : ∀ {t0 : Int32}, (if t0 = 0 then 1 else 0 : Nat) = (if a = 15 then 1 else 0) → sX6_takeBack_65 F (sX6_takeBack_15 F f) h' (n + 48) x1 x2 x3 x4 t0 x1 x3 (n + 22) = some o → FrW (bfW n) h o ∧ BfSt n g L B (fun c => Pr c ∨ (c.2.1 = t ∧ c.2.2.1 = m)) o := fun {t0} et e => by
        unfold sX6_takeBack_65 at e
        replace e := ce_e (dk_e (a := 48) (f := 3) (b := 49) k (by decide +kernel)) e
        obtain ⟨o2, e2', e⟩ := cl_s e
        unfold sX3_occupied at e2'
        replace e2' := ce_e Ab.1.2.1 e2'
        replace e2' := gg_e e2'
        replace e2' := ce_e Ab.1.2.1 e2'
        replace e2' := gg_e e2'
        have y2 := so_e e2'
        have oc : ∀ q, q < 64 → (bitJ o2.1 q = true ↔ 0 < B.1 q) := fun q hq => by
          rw [y2]
          have c0 : (0 : Int32).toNatClampNeg = 0 := rfl
          have c1 : (1 : Int32).toNatClampNeg = 1 := rfl
          show bitJ (hJ h' _ (0 : Int32).toNatClampNeg ||| hJ h' _ (1 : Int32).toNatClampNeg) q = true ↔ _
          rw [bj_or, Bool.or_eq_true, c0, c1]
          have b0 := Ab.2.1.2.1 0 (by decide) q hq
          have b1 := Ab.2.1.2.1 1 (by decide) q hq
          have mq := HM q hq
          constructor
          · rintro (z | z)
            · exact (b0.mp z).1
            · exact (b1.mp z).1
          · intro z
            by_cases w : (B.1 q - 1) % 2 = 0
            · exact Or.inl (b0.mpr ⟨z, w⟩)
            · exact Or.inr (b1.mpr ⟨z, by omega⟩)
        have h2 : o2.2 = h' := by rw [y2]
        rw [h2] at e
        obtain ⟨o3, e3', e⟩ := cl_s e
        obtain ⟨r1, r2⟩ := or_c (V := vK n 0 0 0 0 0 0) (M := B.1) (c := 2 * m + pzS B) (t := t) H C.1.2.1 C.1.2.2.1 (fmb_f k0 fr fb) oc (by omega) tt (by omega) e1 e3'
        rw [r1] at e
        have cd2 : (2 * m + pzS B) / 2 = m := by omega
        have cm2 : (2 * m + pzS B) % 2 = pzS B := by omega
        have r2' : ∀ s, s < 64 → (bitJ o3.1 s = true ↔ ((s : Int) < L 0 0 * L 1 0 ∧ ¬ 0 < B.1 s ∧ BfW L B s t m a)) := fun s hs => by
          rw [r2 s hs, et]
          unfold OrS BfW
          rw [cd2, cm2]
        refine tb_80 (PrA := fun c => Pr c ∨ (c.2.1 = t ∧ c.2.2.1 = m ∧ dnA x4.toInt c.2.2.2)) (Q := fun o => FrW (bfW n) h o ∧ BfSt n g L B (fun c => Pr c ∨ (c.2.1 = t ∧ c.2.2.1 = m)) o) G Sa bo A nr e1 e2 e4 (fun c y w => ?_) (fun {h2} f2 s2 e => ih f2 (bfs_w s2 (fun c y => ?_) (fun c y _ => ?_)) (by omega) e) F fr (bfs_w S (fun c y => Or.inl y) (fun c y b => ?_)) (fun s hs b => ?_) (by decide) (fun s _ ls => by have : (0 : Int32).toInt = 0 := rfl; omega) e
        · rcases y with y | y
          · exact np c y ⟨w.1, w.2.1⟩
          · rw [w.2.2] at y; exact nd y.2.2
        · rcases y with (y | y) | y
          · exact Or.inl y
          · exact Or.inr ⟨y.1, y.2.1, (dn _).mpr (Or.inl y.2.2)⟩
          · exact Or.inr ⟨y.1, y.2.1, (dn _).mpr (Or.inr y.2.2)⟩
        · rcases y with y | y
          · exact Or.inl (Or.inl y)
          · rcases (dn _).mp y.2.2 with w | w
            · exact Or.inl (Or.inr ⟨y.1, y.2.1, w⟩)
            · exact Or.inr ⟨y.1, y.2.1, w⟩
        · rcases y with y | ⟨y1, y2, y3, y4⟩
          · exact y
          · refine absurd ⟨b.1.1.1, (r2' _ b.1.1.1).mpr ⟨b.1.1.2.1, by rw [b.1.1.2.2]; decide, ?_⟩⟩ y4
            have := b.2.2.1
            rw [y1, y2, y3] at this
            exact this
        · obtain ⟨b1, b2, b3⟩ := (r2' s hs).mp b
          have := HM s hs
          exact ⟨b1, by omega, b3⟩
      unfold sX6_takeBack_48 at e
      replace e := ce_e (dk_e (a := 48) (f := 1) (b := 22) k (by decide +kernel)) e
      rcases br_s e with ⟨cm, e⟩ | ⟨cm, e⟩
      · rcases e4 with ⟨_, q2⟩ | ⟨q1, _⟩
        · exact in65 (by rw [if_pos rfl, if_pos q2]) e
        · exact absurd cm q1
      · rcases e4 with ⟨q1, _⟩ | ⟨_, _, q3⟩
        · exact absurd q1 cm
        · exact in65 (by rw [if_neg (by decide), if_neg (by omega)]) e
    rcases br_s e with ⟨c2, e⟩ | ⟨c2, e⟩
    · exact body (a := 15) (Or.inl rfl) (by omega) (Or.inl ⟨c2, rfl⟩) e
    have c2' := ne_i c2
    rw [zm] at c2'
    replace e := ce_e (dk_e (a := 48) (f := 0) (b := 5) k (by decide +kernel)) e
    rcases br_s e with ⟨c3, e⟩ | ⟨c3, e⟩
    · unfold sX6_takeBack_179 at e
      replace e := nx_e e
      refine ih fr (bfs_w S (fun c y => ?_) (fun c y b => ?_)) (by omega) e
      · rcases y with y | y
        · exact Or.inl y
        · refine Or.inr ⟨y.1, y.2.1, ?_⟩
          rw [v4]
          rcases y.2.2 with w | w
          · exact Or.inl ⟨w.1, by omega⟩
          · exact Or.inr ⟨w.1, by omega⟩
      · rcases y with y | y
        · exact Or.inl y
        · refine Or.inr ⟨y.1, y.2.1, ?_⟩
          have yd := y.2.2
          rw [v4] at yd
          rcases yd with w | w
          · exact Or.inl ⟨w.1, by omega⟩
          · refine Or.inr ⟨w.1, ?_⟩
            have br := b.2.1.2
            rw [c3] at c1 w ⊢
            rw [m4] at w ⊢
            omega
    · have c3' := ne_i c3
      have n4 := nc_i (x := x4) (by omega)
      exact body (a := x4.toNatClampNeg) (Or.inr (by omega)) (by omega) (Or.inr ⟨c2, n4.symm, by omega⟩) e
theorem tbk_k {t m : Nat} {x1 x2 : Int32} (G : BfG L B) (Sa : BfS L B) (fb : FmB n h L) (k0 : DyK n g h) (tt : t < 64) (mm : (m : Int) < L 2 0) (bo : ∀ s : Nat, s < 64 → (s : Int) < L 0 0 * L 1 0 → B.1 s = 0 → BfO L B s t m) (e1 : x1.toInt = (t : Int)) (e2 : x2.toInt = (m : Int)) (np : ∀ c, Pr c → ¬ (c.2.1 = t ∧ c.2.2.1 = m)) (S : BfSt n g L B Pr h) (e : sX6_takeBack F h (n + 48) x1 x2 = some o) : FrW (bfW n) h o ∧ BfSt n g L B (fun c => Pr c ∨ (c.2.1 = t ∧ c.2.2.1 = m)) o := by
  have z2 : (2 : Int32).toInt = 2 := rfl
  have zm : (-1 : Int32).toInt = -1 := rfl
  have L2 := G.1.2.2.1
  have S2 := G.2.2.2.2.2.2.1
  obtain ⟨k, C, Ab, st⟩ := id S
  have sd : (hI h (n + 49) 5).toInt = (pzS B : Int) := Ab.2.2.1
  unfold sX6_takeBack at e
  replace e := ce_e (dk_e (a := 48) (f := 3) (b := 49) k (by decide +kernel)) e
  obtain ⟨v2, w2, e⟩ := nm_s e
  have m2 : ((2 : Int32) * x2).toInt = 2 * (m : Int) := by rw [tm (by rw [z2, e2]; omega), z2, e2]
  refine tb_15 G Sa fb k0 tt mm bo e1 e2 (by rw [w2, ta (by omega), m2, sd]) np F fw_0 (bfs_w S (fun c y => Or.inl y) (fun c y _ => ?_)) (by rw [zm]; omega) e
  rcases y with y | ⟨_, _, y⟩
  · exact y
  · rw [zm] at y
    rcases y with y | y
    · omega
    · omega
end
end
