/-! both sides behind their constructors: what stands where, and what it stands for -/
def noA (q : Qs) (a : Nat) : Bool := (cg q a).2.2.2.2.all fun p => decide (p.2 = none)
def ckSA (q : Qs) : Bool := ckR q edC && (((List.range 60).all fun p => decide (cR q 148 p = some (153 + 6 * p)) && fsP.all fun e => decide (cR q (153 + 6 * p) e.1 = some (153 + 6 * p + e.2))) && (((List.range 9).all fun d => decide (cR q 77 d = some (93 + 6 * d)) && fsP.all fun e => decide (cR q (93 + 6 * d) e.1 = some (93 + 6 * d + e.2))) && (((List.range 8).all fun d => decide (cR q 78 d = some (79 + d)) && decide (cN q (79 + d) = 4096)) && ((lnL.all fun e => Nat.ble 513 e.1 || decide (cN q e.1 = e.2)) && (noA q 150 && ((List.range 64).all fun i => decide ((cI q 11 i).toInt = (i : Int) % 8) && decide ((cI q 12 i).toInt = (i : Int) / 8)))))))
def ckLE (f : Nat → Nat → Int32) (t : Int32) : Bool := decide ((0 ≤ (f 0 2).toInt ∧ (f 0 2).toInt ≤ 12) ∧ (-1 ≤ (f 0 10).toInt ∧ (f 0 10).toInt < (f 0 2).toInt) ∧ (-1 ≤ (f 0 11).toInt ∧ (f 0 11).toInt < (f 0 2).toInt) ∧ ((f 0 12).toInt = -1 ∨ (0 ≤ (f 0 12).toInt ∧ (f 0 12).toInt < (f 0 2).toInt ∧ 0 ≤ (f 0 10).toInt ∧ ¬ (f 0 12).toInt = (f 0 10).toInt)) ∧ (0 ≤ (f 0 22).toInt ∧ (f 0 22).toInt ≤ 2) ∧ ((f 0 10).toInt = -1 ∨ ((t >>> ((nI 0) &&& 31)) &&& (1 : Int32)) = 1)) && (((List.range 12).all fun l => decide (0 ≤ (f 9 l).toInt ∧ (f 9 l).toInt ≤ 6) && (decide ((f 0 2).toInt ≤ (l : Int) → f 9 l = 0) && (List.range 6).all fun k => decide ((k : Int) < (f 9 l).toInt → 0 ≤ (f 8 (6 * l + k)).toInt ∧ (f 8 (6 * l + k)).toInt < (f 0 2).toInt ∧ ¬ (f 8 (6 * l + k)).toInt = (f 0 10).toInt ∧ f 9 (f 8 (6 * l + k)).toNatClampNeg = 0 ∧ ∀ q : Nat, q < k → ¬ f 8 (6 * l + k) = f 8 (6 * l + q)))) && (List.range 12).all fun l => decide (0 ≤ (f 2 l).toInt ∧ (f 2 l).toInt ≤ 8) && ((decide ((f 0 2).toInt ≤ (l : Int) → f 2 l = 0) && (List.range 12).all fun u => decide ((l : Int) < (f 0 2).toInt → u < l → ¬ f 1 l = f 1 u)) && (List.range 8).all fun i => decide ((i : Int) < (f 2 l).toInt → ¬ (f 4 (8 * l + i) = 0 ∧ f 5 (8 * l + i) = 0) ∧ (f 3 (8 * l + i) &&& (8 : Int32) = 0 ∨ f 3 (8 * l + i) &&& (16 : Int32) = 0))))
def ckSB (q : Qs) : Bool := (edR.all fun e => decide (cR q (e.1 - 513) e.2.1 = some (e.2.2 - 513))) && ((lnL.all fun e => Nat.blt e.1 513 || decide (cN q (e.1 - 513) = e.2)) && ((([23, 60, 61, 67, 70] : List Nat).all fun a => noA q a) && (decide (cI q 0 16 = 0) && ckLE (fun j i => cI q (13 + j) i) (cI q 0 10))))
theorem evSA : okQ (kdX11_init 2000000 (qq0 11 18) 0) ckSA = true := by decide +kernel
theorem evSB : okQ (kcX15_init 2000000 (qq0 15 71) 0) ckSB = true := by decide +kernel
theorem cle_e {f : Nat → Nat → Int32} {t : Int32} {v : Hp} {m lw : Nat} (C : ckLE f t = true) (A : ∀ j i, j < 10 → hI v (lw + j) i = f j i) (B : hI v m 10 = t) : LEi m lw v := by
  unfold ckLE at C
  rw [Bool.and_eq_true, Bool.and_eq_true] at C
  obtain ⟨c1, c2, c3⟩ := C
  have c1 := of_decide_eq_true c1
  have a0 : ∀ i, hI v lw i = f 0 i := fun i => A 0 i (by decide)
  refine ⟨?_, fun l hl => ?_, fun l hl => ?_⟩
  · simp only [a0, B]
    exact c1
  · have y := List.all_eq_true.mp c2 l (List.mem_range.mpr hl)
    rw [Bool.and_eq_true, Bool.and_eq_true] at y
    obtain ⟨y1, y2, y3⟩ := y
    have y1 := of_decide_eq_true y1
    have y2 := of_decide_eq_true y2
    rw [A 9 l (by decide), a0]
    refine ⟨y1, y2, fun k hk => ?_⟩
    have a8 : ∀ i, hI v (lw + 8) i = f 8 i := fun i => A 8 i (by decide)
    have a9 : ∀ i, hI v (lw + 9) i = f 9 i := fun i => A 9 i (by decide)
    unfold LEb
    simp only [a8, a9, a0]
    exact of_decide_eq_true (List.all_eq_true.mp y3 k (List.mem_range.mpr (by omega))) hk
  · have y := List.all_eq_true.mp c3 l (List.mem_range.mpr hl)
    rw [Bool.and_eq_true, Bool.and_eq_true] at y
    rw [Bool.and_eq_true] at y
    obtain ⟨y1, ⟨y2, y4⟩, y3⟩ := y
    have y1 := of_decide_eq_true y1
    have y2 := of_decide_eq_true y2
    rw [A 2 l (by decide), a0]
    refine ⟨y1, ⟨y2, fun z u hu => ?_⟩, fun i hi => ?_⟩
    · rw [A 1 l (by decide), A 1 u (by decide)]
      exact of_decide_eq_true (List.all_eq_true.mp y4 u (List.mem_range.mpr (by omega))) z hu
    unfold LEs
    rw [A 4 _ (by decide), A 5 _ (by decide), A 3 _ (by decide)]
    exact of_decide_eq_true (List.all_eq_true.mp y3 i (List.mem_range.mpr (by omega))) hi
theorem noA_e {q : Qs} {a : Nat} (h : noA q a = true) (i : Nat) : cR q a i = none := lkR_n _ i h
theorem edC_ok : ∀ e, e ∈ edC → e.1 < 513 ∧ ¬ (e.1 = 22 ∧ e.2.1 = 7) := by decide +kernel
theorem edR_ok : ∀ e, e ∈ edR → 513 ≤ e.1 ∧ 513 ≤ e.2.2 := by decide +kernel
/-- the structure -/
theorem s_dyk {n : Nat} {v : Hp} {q b : Qs} (SA : ckSA q = true) (SB : ckSB b = true) (s : hS v = n + 610) (NA : ∀ a, a < 513 → hN v (n + a) = cN q a) (RA : ∀ a i, a < 513 → ¬ (a = 22 ∧ i = 7) → hR v (n + a) i = (cR q a i).map (n + ·)) (NB : ∀ a, hN v (n + (513 + a)) = cN b a) (RB : ∀ a i, hR v (n + (513 + a)) i = (cR b a i).map (n + 513 + ·)) : DyK n v v := by
  unfold ckSA at SA
  unfold ckSB at SB
  simp only [Bool.and_eq_true] at SA SB
  obtain ⟨a1, a2, a3, a4, a5, a6, a7⟩ := SA
  obtain ⟨b1, b2, b3, b4, b5⟩ := SB
  have ra : ∀ {a f c : Nat}, a < 513 → ¬ (a = 22 ∧ f = 7) → cR q a f = some c → hR v (n + a) f = some (n + c) := fun {a f c} l z e => by rw [RA a f l z, e]; rfl
  have nB : ∀ a, a ∈ ([23, 60, 61, 67, 70] : List Nat) → ∀ i, hR v (n + (513 + a)) i = none := fun a ha i => by
    rw [RB, noA_e (List.all_eq_true.mp b3 a ha)]; rfl
  have n150 : ∀ i, hR v (n + 150) i = none := fun i => by rw [RA 150 i (by decide) (by omega), noA_e a6]; rfl
  have fn : ∀ p, p ∈ fam → ∀ i, hR v (n + p.1) i = none := fun p hp i => by
    simp only [fam, List.mem_cons, List.not_mem_nil, or_false] at hp
    rcases hp with rfl | rfl | rfl | rfl | rfl | rfl
    · exact n150 i
    · exact nB 23 (by decide) i
    · exact nB 60 (by decide) i
    · exact nB 61 (by decide) i
    · exact nB 67 (by decide) i
    · exact nB 70 (by decide) i
  have fs5 : ∀ p, p ∈ fsP → p.1 < 5 := by decide
  refine ⟨⟨⟨fun a => sTg (a - n), ⟨fun j hj => by show sTg (n + j - n) = sTg j; rw [show n + j - n = j by omega], by omega⟩, fun p hp i hi a e => ?_⟩, ⟨fun e he => ?_, fun p hp => ?_, fun d hd => ?_, fun d hd => ?_⟩, ⟨fun e he => ?_, fun d hd => ?_⟩, Nat.le_refl _, fun _ _ _ _ e => e, fun _ _ => rfl⟩, fun d hd => ?_, fun _ _ _ _ e => Or.inl e, fun _ => ⟨fun _ => rfl, rfl⟩⟩
  · rw [fn p hp i] at e; exact nomatch e
  · rcases List.mem_append.mp he with he | he
    · obtain ⟨l, z⟩ := edC_ok e he
      exact ra l z (of_decide_eq_true (List.all_eq_true.mp a1 e he))
    · obtain ⟨l, l'⟩ := edR_ok e he
      have y := of_decide_eq_true (List.all_eq_true.mp b1 e he)
      have z := RB (e.1 - 513) e.2.1
      rw [y, show 513 + (e.1 - 513) = e.1 by omega] at z
      rw [z]
      show some (n + 513 + (e.2.2 - 513)) = _
      rw [show n + 513 + (e.2.2 - 513) = n + e.2.2 by omega]
  · have y := List.all_eq_true.mp a2 p (List.mem_range.mpr hp)
    rw [Bool.and_eq_true] at y
    refine ⟨ra (by decide) (by omega) (of_decide_eq_true y.1), fun c hc => ?_⟩
    have := fs5 c hc
    rw [ra (by omega) (by omega) (of_decide_eq_true (List.all_eq_true.mp y.2 c hc))]
    rw [show n + (153 + 6 * p + c.2) = n + (153 + 6 * p) + c.2 by omega]
  · have y := List.all_eq_true.mp a3 d (List.mem_range.mpr hd)
    rw [Bool.and_eq_true] at y
    refine ⟨ra (by decide) (by omega) (of_decide_eq_true y.1), fun c hc => ?_⟩
    have := fs5 c hc
    rw [ra (by omega) (by omega) (of_decide_eq_true (List.all_eq_true.mp y.2 c hc))]
    rw [show n + (93 + 6 * d + c.2) = n + (93 + 6 * d) + c.2 by omega]
  · have y := List.all_eq_true.mp a4 d (List.mem_range.mpr hd)
    rw [Bool.and_eq_true] at y
    exact ra (by decide) (by omega) (of_decide_eq_true y.1)
  · by_cases l : 513 ≤ e.1
    · have y := List.all_eq_true.mp b2 e he
      rw [Bool.or_eq_true] at y
      rcases y with y | y
      · have := Nat.le_of_ble_eq_true y
        omega
      · have z := NB (e.1 - 513)
        rw [show 513 + (e.1 - 513) = e.1 by omega] at z
        rw [z]; exact of_decide_eq_true y
    · have y := List.all_eq_true.mp a5 e he
      rw [Bool.or_eq_true] at y
      rcases y with y | y
      · have := Nat.le_of_ble_eq_true y
        omega
      · rw [NA _ (by omega)]; exact of_decide_eq_true y
  · have y := List.all_eq_true.mp a4 d (List.mem_range.mpr hd)
    rw [Bool.and_eq_true] at y
    rw [NA _ (by omega)]
    exact of_decide_eq_true y.2
  · rw [show n + 573 = n + (513 + 60) by omega, show n + 574 = n + (513 + 61) by omega, nB 60 (by decide) d, nB 61 (by decide) d]
theorem s_joint {n : Nat} {o v : Hp} {L : Nat × Nat} (e1 : sX11_init 2000000 (nC (h00 n) 11 0 18) n = some o) (e2 : sX15_init 2000000 (nC o 15 0 71) (n + 513) = some v) (I : SI n (n + 513) L v) : JI n 0 v := by
  have z0 : (0 : Int32).toInt = 0 := rfl
  obtain ⟨o15, q, ek, el, ei, cf, o1, tp⟩ := c_start n
  have yo : o = wI o15 (n + 1) 1 0 := Option.some.inj (e1.symm.trans ei)
  rw [← yo] at cf o1 tp
  obtain ⟨ck, cI', _, cN', cR'⟩ := cf
  obtain ⟨q', eq', SA⟩ := okQ_e evSA
  have yq : q' = q := Option.some.inj (eq'.symm.trans ek)
  rw [yq] at SA
  obtain ⟨b, eb, SB⟩ := okQ_e evSB
  obtain ⟨b', eb', CB⟩ := okQ_e evB
  have yb : b' = b := Option.some.inj (eb'.symm.trans eb)
  rw [yb] at CB
  have os : hS o = n + 513 := congrArg Prod.fst o1
  -- the reference's heap
  have e0 : nC o 15 0 71 = rel o (qq0 15 71) := by
    have := l_nC o ((0, 0), []) 15 0 71
    rw [← top_rel tp] at this
    exact this
  have e3 := e_X15_init (u := o) (F := 2000000) (h := qq0 15 71) (x0 := 0)
  rw [eb] at e3
  have ev : v = rel o b := by
    have : sX15_init 2000000 (nC o 15 0 71) (hS o) = some (rel o b) := by rw [e0]; exact e3
    rw [os] at this
    exact Option.some.inj (e2.symm.trans this)
  have lo : ∀ {a : Nat}, a < 513 → hN v (n + a) = hN o (n + a) ∧ hI v (n + a) = hI o (n + a) ∧ hJ v (n + a) = hJ o (n + a) ∧ hR v (n + a) = hR o (n + a) := fun {a} l => by
    rw [ev]
    exact (rel_lo o b (b := n + a) (by omega)).2
  have hiI : ∀ a i, hI v (n + (513 + a)) i = cI b a i := fun a i => by
    have := l_I o b a i
    rw [os] at this
    rw [ev, show n + (513 + a) = n + 513 + a by omega]; exact this
  have hiN : ∀ a, hN v (n + (513 + a)) = cN b a := fun a => by
    have := l_N o b a
    rw [os] at this
    rw [ev, show n + (513 + a) = n + 513 + a by omega]; exact this
  have hiR : ∀ a i, hR v (n + (513 + a)) i = (cR b a i).map (n + 513 + ·) := fun a i => by
    have := l_R o b a i
    rw [os] at this
    rw [ev, show n + (513 + a) = n + 513 + a by omega]; exact this
  have sv : hS v = n + 610 := by
    rw [ev]
    show hS o + b.1.1 = _
    rw [os, show b.1.1 = 97 from congrArg Prod.fst (ckB_1 CB)]
  have k : DyK n v v := s_dyk SA SB sv (fun a l => by rw [(lo l).1]; exact cN' a l) (fun a i l z => by rw [(lo l).2.2.2]; exact cR' a i l z) hiN hiR
  unfold ckSA at SA
  unfold ckSB at SB
  simp only [Bool.and_eq_true] at SA SB
  obtain ⟨a1, a2, a3, a4, a5, a6, a7⟩ := SA
  obtain ⟨b1, b2, b3, b4, b5⟩ := SB
  have aI : ∀ a i, a < 513 → ¬ (22 ≤ a ∧ a ≤ 29) → a ≠ 1 → hI v (n + a) i = cI q a i := fun a i l z z' => by
    rw [(lo l).2.1, cI' a l z z']
  have iq : ∀ {a i : Nat} {x : Int32}, (a, i, x) ∈ iA → hI v (n + a) i = x := fun {a i x} hm => by
    obtain ⟨y1, y2, y3⟩ := iA_ok (a, i, x) hm
    rw [aI a i y1 y2 y3]
    exact ckI_e (ckA_I ck) hm
  have ib : ∀ {i : Nat} {x : Int32}, (0, i, x) ∈ iB → hI v (n + 513) i = x := fun {i x} hm => (hiI 0 i).trans (ckI_e (ckB_I CB) hm)
  -- the laws
  obtain ⟨_, _, _, ⟨la, _, mf⟩, so, sq⟩ := si_rul k I
  have r4 : hR v (n + 513) 4 = some (n + 526) := by
    have := hiR 0 4
    rw [ckR_e (ckB_R CB) (a := 0) (i := 4) (b := 13) (by decide)] at this
    exact this
  have r5 : hR v (n + 513) 5 = some (n + 516) := by
    have := hiR 0 5
    rw [ckR_e (ckB_R CB) (a := 0) (i := 5) (b := 3) (by decide)] at this
    exact this
  have A := la (n + 5) (n + 526) (dk_e (a := 0) (f := 2) (b := 5) k (by decide +kernel)) r4
  have E : LEi (n + 513) (n + 526) v := cle_e b5 (fun j i hj => by
    have := hiI (13 + j) i
    rw [show n + (513 + (13 + j)) = n + 526 + j by omega] at this
    exact this) (hiI 0 10)
  have f0 : hI v (n + 5) 0 = 8 := iq (by decide)
  have f1 : hI v (n + 5) 1 = 8 := iq (by decide)
  have B : BDc n v := fun _ => by
    rw [f0, f1]
    intro s hs
    have hs : (s : Int) < 64 := hs
    have y := List.all_eq_true.mp a7 s (List.mem_range.mpr (by omega))
    rw [Bool.and_eq_true] at y
    rw [aI 11 s (by decide) (by decide) (by decide), aI 12 s (by decide) (by decide) (by decide)]
    exact ⟨of_decide_eq_true y.1, of_decide_eq_true y.2⟩
  have LK := lwk_q (Or.inr rfl) k A E
  have CL := clw_q (Or.inr rfl) k A sq B
  -- the ways: laid in the heap before
  have gR : ∀ a i, hR (rel (h00 n) q) (n + a) i = (cR q a i).map (n + ·) := fun a i => l_R (h00 n) q a i
  have gI : ∀ a i, hI (rel (h00 n) q) (n + a) i = cI q a i := fun a i => l_I (h00 n) q a i
  have gN : ∀ a, hN (rel (h00 n) q) (n + a) = cN q a := fun a => l_N (h00 n) q a
  have gr : ∀ {a i c : Nat}, (a, i, c) ∈ rA → hR (rel (h00 n) q) (n + a) i = some (n + c) := fun {a i c} hm => by rw [gR, ckR_e (ckA_R ck) hm]; rfl
  have gv : ∀ a i, a < 513 → ¬ (22 ≤ a ∧ a ≤ 29) → a ≠ 1 → hI (rel (h00 n) q) (n + a) i = hI v (n + a) i := fun a i l z z' => by rw [gI, aI a i l z z']
  generalize hg : rel (h00 n) q = gg at *
  have Cg : CLq (vK n 0 0 0 0 0 0) gg (lwL n 526 v) := by
    obtain ⟨c1, c2, c3, c4, c5, c6⟩ := CL.1
    refine ⟨?_, ?_, ?_, ?_, fun m hm => ⟨?_, fun i hi => ?_⟩, fun s hs => ⟨?_, ?_⟩⟩
    · show (hI gg (n + 5) 0).toInt = _
      rw [gv 5 0 (by decide) (by decide) (by decide)]; exact c1
    · show (hI gg (n + 5) 1).toInt = _
      rw [gv 5 1 (by decide) (by decide) (by decide)]; exact c2
    · show (hI gg (n + 5) 2).toInt = _
      rw [gv 5 2 (by decide) (by decide) (by decide)]; exact c3
    · show (hI gg (n + 5) 3).toInt = _
      rw [gv 5 3 (by decide) (by decide) (by decide)]; exact c4
    · show (hI gg (n + 8) m).toInt = _
      rw [gv 8 m (by decide) (by decide) (by decide)]; exact (c5 m hm).1
    · show (hI gg (n + 7) (8 * m + i)).toInt = _
      rw [gv 7 _ (by decide) (by decide) (by decide)]; exact (c5 m hm).2 i hi
    · show (hI gg (n + 11) s).toInt = _
      rw [gv 11 s (by decide) (by decide) (by decide)]; exact (c6 s hs).1
    · show (hI gg (n + 12) s).toInt = _
      rw [gv 12 s (by decide) (by decide) (by decide)]; exact (c6 s hs).2
  obtain ⟨own, Dw⟩ := k.1.1
  have D : VD (vK n (hS v) (hS v + 1000 * 1) (hS v + 1000 * 2) (hS v + 1000 * 3) (hS v + 1000 * 9) (hS v + 1000 * 10)) := vd_k Dw.1 (bke_o (c := 1)) (bke_o (c := 2)) (bke_o (c := 3)) (bke_o (c := 9)) (bke_o (c := 10)) (by omega)
  have e7 : hR (wR gg (n + 22) 7 (some (n + 5))) (n + 22) 7 = some (n + 5) := by rw [r_R, if_pos ⟨rfl, rfl⟩]
  have Rw : ∀ {a f c : Nat}, (a, f, c) ∈ rA → ¬ (a = 22 ∧ f = 7) → hR (wR gg (n + 22) 7 (some (n + 5))) (n + a) f = some (n + c) := fun {a f c} m z => by
    rw [r_R, if_neg (fun y => z ⟨by omega, y.2⟩)]
    exact gr m
  have W : WLf (vK n (hS v) (hS v + 1000 * 1) (hS v + 1000 * 2) (hS v + 1000 * 3) (hS v + 1000 * 9) (hS v + 1000 * 10)) (wR gg (n + 22) 7 (some (n + 5))) := ⟨Rw (a := 22) (f := 6) (c := 29) (by decide) (by decide), e7, Rw (a := 5) (f := 15) (c := 7) (by decide) (by decide), Rw (a := 5) (f := 16) (c := 8) (by decide) (by decide), Rw (a := 5) (f := 19) (c := 11) (by decide) (by decide), Rw (a := 5) (f := 20) (c := 12) (by decide) (by decide)⟩
  have wc : WCf (vK n (hS v) (hS v + 1000 * 1) (hS v + 1000 * 2) (hS v + 1000 * 3) (hS v + 1000 * 9) (hS v + 1000 * 10)) gg := ⟨gr (a := 22) (i := 0) (c := 23) (by decide), gr (a := 22) (i := 1) (c := 24) (by decide), gr (a := 22) (i := 2) (c := 25) (by decide), gr (a := 22) (i := 3) (c := 26) (by decide), gr (a := 22) (i := 4) (c := 27) (by decide), gr (a := 22) (i := 5) (c := 28) (by decide)⟩
  obtain ⟨y1, y2, y3⟩ := lay_y (V := vK n (hS v) (hS v + 1000 * 1) (hS v + 1000 * 2) (hS v + 1000 * 3) (hS v + 1000 * 9) (hS v + 1000 * 10)) D LK.1 W wc Cg (fun x hx => by
    show hI gg (n + 29) x = 0
    rw [gI]; exact ckA_t ck hx) ((gN 26).trans (ckN_e (ckA_N ck) (a := 26) (n := 1536) (by decide))) ((gN 27).trans (ckN_e (ckA_N ck) (a := 27) (n := 1536) (by decide))) el
  -- cells of the ways from there on
  have ws : ∀ a, 22 ≤ a → a ≤ 29 → hI v (n + a) = hI o15 (n + a) ∧ hJ v (n + a) = hJ o15 (n + a) := fun a l l' => by
    obtain ⟨_, w2, w3, _⟩ := lo (a := a) (by omega)
    rw [w2, w3, yo]
    refine ⟨funext fun i => ?_, rfl⟩
    rw [rI_a (by omega)]
  have CLo : ClL n v (lwL n 526 v) := by
    refine ⟨⟨⟨dk_e (a := 30) (f := 0) (b := 5) k (by decide +kernel), dk_e (a := 30) (f := 1) (b := 22) k (by decide +kernel)⟩, ⟨dk_e (a := 22) (f := 0) (b := 23) k (by decide +kernel), dk_e (a := 22) (f := 1) (b := 24) k (by decide +kernel), dk_e (a := 22) (f := 2) (b := 25) k (by decide +kernel), dk_e (a := 22) (f := 3) (b := 26) k (by decide +kernel), dk_e (a := 22) (f := 4) (b := 27) k (by decide +kernel), dk_e (a := 22) (f := 5) (b := 28) k (by decide +kernel)⟩, ?_, ?_⟩, CL⟩
    · have x1 : hI v (vK n 0 0 0 0 0 0 50) = hI o15 (vK n 0 0 0 0 0 0 50) := (ws 23 (by decide) (by decide)).1
      have x2 : hI v (vK n 0 0 0 0 0 0 51) = hI o15 (vK n 0 0 0 0 0 0 51) := (ws 24 (by decide) (by decide)).1
      have x3 : hJ v (vK n 0 0 0 0 0 0 52) = hJ o15 (vK n 0 0 0 0 0 0 52) := (ws 25 (by decide) (by decide)).2
      have x4 : hJ v (vK n 0 0 0 0 0 0 53) = hJ o15 (vK n 0 0 0 0 0 0 53) := (ws 26 (by decide) (by decide)).2
      have x5 : hJ v (vK n 0 0 0 0 0 0 54) = hJ o15 (vK n 0 0 0 0 0 0 54) := (ws 27 (by decide) (by decide)).2
      have y1 : WyT (lwL n 526 v) (vK n 0 0 0 0 0 0) o15 := y1
      unfold WyT CellW WyE rowN at y1 ⊢
      rw [x1, x2, x3, x4, x5]
      exact y1
    · have x1 : hJ v (vK n 0 0 0 0 0 0 55) = hJ o15 (vK n 0 0 0 0 0 0 55) := (ws 28 (by decide) (by decide)).2
      have y2 : AroT (lwL n 526 v) (vK n 0 0 0 0 0 0) o15 := y2
      unfold AroT at y2 ⊢
      rw [x1]
      exact y2
  refine ⟨k, fun x hx => by rw [(ws 29 (by decide) (by decide)).1]; exact y3 x hx, (lwL n 526 v, fun _ => none, fun _ => -1, fun _ => ((fun _ => 0), 0, (fun _ => false), 0, (fun _ => 0), (fun _ => 0), (fun _ => 0), 0), fun _ => 0, [], []), [], [], ⟨LK, (fun p _ P e => nomatch e), fun g _ => ⟨⟨Int.le_refl _, show (-1 : Int) ≤ 300 by decide⟩, fun k hk => by have hk : (k : Int) ≤ -1 := hk; omega⟩, ⟨Nat.zero_le _, fun P hP => absurd hP (List.not_mem_nil)⟩, ltd_q (Or.inr rfl) E, (fun p _ P e => nomatch e), (fun g _ k hk => by have hk : (k : Int) ≤ -1 := hk; omega), fun P hP => absurd hP (List.not_mem_nil)⟩, ⟨CLo, fun p hp => Or.inl ⟨rfl, by rw [aI 149 p (by decide) (by decide) (by decide)]; exact ckA_z ck hp⟩, fun g hg => ⟨by rw [aI 152 g (by decide) (by decide) (by decide), ckA_p ck hg]; rfl, fun k hk => by have hk : (k : Int) ≤ -1 := hk; omega⟩, ⟨by rw [iq (a := 48) (i := 6) (x := 0) (by decide)]; rfl, Or.inl rfl⟩, by rw [iq (a := 3) (i := 1) (x := 0) (by decide)]; rfl, fun i hi => absurd hi (Nat.not_lt_zero _)⟩, ⟨526, Or.inr rfl, r4, r5, rfl_q (Or.inr rfl) k r4 mf so⟩, fun p hp => Or.inl ⟨rfl, ?_⟩, fun g hg => ⟨?_, fun k hk => by have hk : (k : Int) ≤ -1 := hk; omega⟩, ⟨by rw [ib (i := 44) (x := 0) (by decide)]; rfl, fun k hk => absurd hk (Nat.not_lt_zero _)⟩, ⟨by rw [ib (i := 3) (x := 0) (by decide)]; rfl, fun i hi => absurd hi (Nat.not_lt_zero _)⟩, ?_⟩
  · have := hiI 24 p
    rw [ckB_z CB hp] at this
    exact this
  · have := hiI 69 g
    rw [ckB_p CB hg] at this
    show (hI v (n + (513 + 69)) g).toInt = _
    rw [this]; rfl
  · have y := (hiI 0 16).trans (of_decide_eq_true b4)
    have y : hI v (n + 513) 16 = 0 := y
    exact ⟨by rw [y, z0]; exact Int.le_refl _, by rw [y, z0]; exact Int.le_refl _, by decide⟩
