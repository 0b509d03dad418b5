section
/-! calls of the reference: move, ended, result, keep, go -/
section
variable {n j F : Nat} {h : Hp} {σ : Sy} {o : Int32 × Hp} {x1 x2 x3 : Int32}
theorem ne102 {a : Int32} {k : Nat} (e : a.toInt = (k : Int)) : ¬ a = (-102 : Int32) := fun z => by
  have : (-102 : Int32).toInt = -102 := rfl
  rw [z, this] at e
  omega
/-- move -/
theorem ra_move (k : DyK n h h) (Ok : SyOk σ) (R : RelR n j h σ) (e : sX15_move F h (n + 513) x1 x2 x3 = some o) : RaO n j h σ o (anMov σ x1 x2 x3) := by
  have z0 : (0 : Int32).toInt = 0 := rfl
  have z5 : (5 : Int32).toInt = 5 := rfl
  unfold sX15_move sX15_move_9 sX15_move_37 sX15_move_133 at e
  unfold anMov
  rcases br_s e with ⟨c, e⟩ | ⟨c, e⟩
  · have := lt_i c
    rw [so_e e, if_neg (by omega)]
    exact rao_0 k R rfl rfl
  have c := nlt_i c
  rcases br_s e with ⟨c2, e⟩ | ⟨c2, e⟩
  rotate_left
  · have := nle_i c2
    rw [so_e e, if_neg (by omega)]
    exact rao_0 k R rfl rfl
  have c2 := le_i c2
  rw [if_pos ⟨by omega, by omega⟩]
  obtain ⟨o3, e3, e⟩ := cl_s e
  rcases mvs_r k Ok R e3 with ⟨z, y⟩ | ⟨P, z, f, k3, m, y⟩
  · rw [y] at e
    rw [so_e (bp_e rfl e), mvi_n z]
    exact rao_0 k R rfl rfl
  replace e := bn_e (ne102 y) e
  rcases br_s e with ⟨c3, e⟩ | ⟨c3, e⟩
  · have := lt_i c3
    rw [so_e e, mvi_l (by omega)]
    exact rao_s k Ok R f k3 rfl
  have c3 := nlt_i c3
  have nc := nc_i (x := x2) (by omega)
  rw [mvi_s z (by omega)]
  obtain ⟨r6, e6, e⟩ := cl_s e
  have y6 := dk_ed (a := 513) (b := 552) k3 (by decide +kernel) e6
  subst y6
  have m0 : (hI o3.2 (n + 552) 0).toInt = ((lgL (syL σ) P).length : Int) := m.1
  rcases br_s e with ⟨c4, e⟩ | ⟨c4, e⟩
  rotate_left
  · have := nlt_i c4
    rw [so_e e, List.getElem?_eq_none (by omega)]
    exact rao_s k Ok R f k3 rfl
  have c4 := lt_i c4
  have ev := m.2 x2.toNatClampNeg (by omega)
  rw [ev]
  show RaO n j h σ o (mvF (rowM (fun k => n + 552 + kof k) o3.2 x2.toNatClampNeg) x3.toInt)
  unfold mvF
  have cx : x3.toInt = 0 ∨ x3.toInt = 1 ∨ x3.toInt = 2 ∨ x3.toInt = 3 ∨ x3.toInt = 4 ∨ x3.toInt = 5 := by omega
  have xe : ∀ {w : Int32} {i : Int}, x3.toInt = i → w.toInt = i → x3 = w := fun a b => Int32.toInt_inj.mp (a.trans b.symm)
  have T := lst_T k3
  have W : hR o3.2 (n + 513) 30 = some (n + 552) := dk_e (a := 513) (f := 30) (b := 552) k3 (by decide +kernel)
  rcases cx with q | q | q | q | q | q
  · replace e := bp_e (xe q rfl) e
    rw [if_pos q]
    replace e := ce_e W e
    replace e := ce_e (T (1, 1) (by decide)) e
    rw [so_e (gg_e e)]
    exact rao_s k Ok R f k3 rfl
  · replace e := bp_e (xe q rfl) (bn_e (fun w => by rw [w] at q; exact absurd q (by decide)) e)
    rw [if_neg (by omega), if_pos q]
    replace e := ce_e W e
    replace e := ce_e (T (2, 2) (by decide)) e
    rw [so_e (gg_e e)]
    exact rao_s k Ok R f k3 rfl
  · replace e := bp_e (xe q rfl) (bn_e (fun w => by rw [w] at q; exact absurd q (by decide)) (bn_e (fun w => by rw [w] at q; exact absurd q (by decide)) e))
    rw [if_neg (by omega), if_neg (by omega), if_pos q]
    replace e := ce_e W e
    replace e := ce_e (T (3, 3) (by decide)) e
    rw [so_e (gg_e e)]
    exact rao_s k Ok R f k3 rfl
  · replace e := bp_e (xe q rfl) (bn_e (fun w => by rw [w] at q; exact absurd q (by decide)) (bn_e (fun w => by rw [w] at q; exact absurd q (by decide)) (bn_e (fun w => by rw [w] at q; exact absurd q (by decide)) e)))
    rw [if_neg (by omega), if_neg (by omega), if_neg (by omega), if_pos q]
    replace e := ce_e W e
    replace e := ce_e (T (4, 4) (by decide)) e
    rw [so_e (gg_e e)]
    exact rao_s k Ok R f k3 rfl
  · replace e := bp_e (xe q rfl) (bn_e (fun w => by rw [w] at q; exact absurd q (by decide)) (bn_e (fun w => by rw [w] at q; exact absurd q (by decide)) (bn_e (fun w => by rw [w] at q; exact absurd q (by decide)) (bn_e (fun w => by rw [w] at q; exact absurd q (by decide)) e))))
    rw [if_neg (by omega), if_neg (by omega), if_neg (by omega), if_neg (by omega), if_pos q]
    replace e := ce_e W e
    replace e := ce_e (T (5, 5) (by decide)) e
    rw [so_e (gg_e e)]
    exact rao_s k Ok R f k3 rfl
  · replace e := bn_e (fun w => by rw [w] at q; exact absurd q (by decide)) (bn_e (fun w => by rw [w] at q; exact absurd q (by decide)) (bn_e (fun w => by rw [w] at q; exact absurd q (by decide)) (bn_e (fun w => by rw [w] at q; exact absurd q (by decide)) (bn_e (fun w => by rw [w] at q; exact absurd q (by decide)) e))))
    rw [if_neg (by omega), if_neg (by omega), if_neg (by omega), if_neg (by omega), if_neg (by omega)]
    replace e := ce_e W e
    replace e := ce_e (T (6, 6) (by decide)) e
    rw [so_e (gg_e e)]
    exact rao_s k Ok R f k3 rfl
/-- how a board at b ends -/
theorem end_m {b t w : Nat} {own : Nat → Nat} {L : Nat → Nat → Int} {P : Pz} {g : Hp} (k : DyK n g h) (O : OwS n h own) (hw : w = 516 ∨ w = 526) (bb : BkE own h b 4 t) (nt : 102 ≤ t ∧ t < 20000) (H : LOk L) (K : LawK L) (Oz : PzOk L P) (C : RfL n h (n + w) L) (A : RbA h b P) (e2 : x2.toInt = ((lgL L P).length : Int)) (e : sX15_endedBy F h (n + 513) b x2 = some o) : FrW (RS n) h o.2 ∧ DyK n g o.2 ∧ o.1.toInt = (enE L P).1 ∧ (0 < (enE L P).1 → (hI o.2 (n + 513) 29).toInt = (enE L P).2) := by
  have D : VD (vM n (hS h) b (hS h + 1000 * 5) (hS h + 1000 * 6) (hS h + 1000 * 7) (n + w)) := vd_m O bb (bke_o (c := 5)) (bke_o (c := 6)) (bke_o (c := 7)) (bk_lw O hw) (by split <;> omega)
  have W0 : RW0 (vM n (hS h) b (hS h + 1000 * 5) (hS h + 1000 * 6) (hS h + 1000 * 7) (n + w)) h L := rfl_m.mpr C
  obtain ⟨f, c1, c2⟩ := en_r D H K Oz W0 (rba_m.mpr A) e2 e
  have k3 := dk_X15_endedBy (dk_self k) e
  exact ⟨fw_v (W := RS n) (sb := rsB) (cs := []) f (hs_g k3.1) (by decide +kernel) (fun j f i z y => rsb_c z y) (fun c hc => absurd hc (List.not_mem_nil)), dk_X15_endedBy k e, c1, c2⟩
theorem ra_ended (k : DyK n h h) (Ok : SyOk σ) (R : RelR n j h σ) (e : sX15_ended F h (n + 513) x1 = some o) : RaO n j h σ o (anEnd σ x1) := by
  unfold sX15_ended sX15_ended_32 at e
  unfold anEnd
  obtain ⟨o1, e1, e⟩ := cl_s e
  rcases mvs_r k Ok R e1 with ⟨z, y⟩ | ⟨P, z, f, k1, m, y⟩
  · rw [y] at e
    rw [so_e (bp_e rfl e), ple_n z]
    exact rao_0 k R rfl rfl
  replace e := bn_e (ne102 y) e
  rw [ple_s z]
  have R1 := relr_rs k Ok R f k1
  obtain ⟨_, _, b3, _⟩ := spl_b z
  obtain ⟨b, eb, A⟩ := rpl_p R1.2.1 z
  obtain ⟨r3, e3, e⟩ := cl_s e
  have y3 := dk_ed (a := 513) (b := 536) k1 (by decide +kernel) e3
  subst y3
  replace e := gg_e e
  replace e := ce_e eb e
  replace e := ce_e (dk_e (a := 513) (f := 30) (b := 552) k1 (by decide +kernel)) e
  obtain ⟨o7, e7, e⟩ := cl_s e
  obtain ⟨own, Dw⟩ := k1.1.1
  obtain ⟨w, hw, _, _, C⟩ := R1.1
  obtain ⟨f7, k7, c7, _⟩ := end_m k1 Dw.1 hw (bke_p Dw b3 eb) (by omega) Ok.1.1 Ok.1.2.1 (spl_ok Ok z) C A m.1 e7
  rw [so_e e]
  exact rao_s k Ok R (fw_t f f7) k7 c7
theorem ene_b {L : Nat → Nat → Int} {P : Pz} : 0 ≤ (enE L P).1 := by
  unfold enE
  split
  · exact er1_n.1
  · split
    · decide
    · split
      · exact (show (0 : Int) ≤ 5 by decide)
      · exact (show (0 : Int) ≤ 6 by decide)
theorem ra_result (k : DyK n h h) (Ok : SyOk σ) (R : RelR n j h σ) (e : sX15_result F h (n + 513) x1 = some o) : RaO n j h σ o (anRes σ x1) := by
  have z0 : (0 : Int32).toInt = 0 := rfl
  unfold sX15_result sX15_result_43 at e
  unfold anRes
  obtain ⟨o1, e1, e⟩ := cl_s e
  rcases mvs_r k Ok R e1 with ⟨z, y⟩ | ⟨P, z, f, k1, m, y⟩
  · rw [y] at e
    rw [so_e (bp_e rfl e), ple_n z]
    exact rao_0 k R rfl rfl
  replace e := bn_e (ne102 y) e
  rw [ple_s z]
  have R1 := relr_rs k Ok R f k1
  obtain ⟨_, _, b3, _⟩ := spl_b z
  obtain ⟨b, eb, A⟩ := rpl_p R1.2.1 z
  obtain ⟨r3, e3, e⟩ := cl_s e
  have y3 := dk_ed (a := 513) (b := 536) k1 (by decide +kernel) e3
  subst y3
  replace e := gg_e e
  replace e := ce_e eb e
  replace e := ce_e (dk_e (a := 513) (f := 30) (b := 552) k1 (by decide +kernel)) e
  obtain ⟨o7, e7, e⟩ := cl_s e
  obtain ⟨own, Dw⟩ := k1.1.1
  obtain ⟨w, hw, _, _, C⟩ := R1.1
  obtain ⟨f7, k7, c7, c8⟩ := end_m k1 Dw.1 hw (bke_p Dw b3 eb) (by omega) Ok.1.1 Ok.1.2.1 (spl_ok Ok z) C A m.1 e7
  have nn := ene_b (L := syL σ) (P := P)
  rcases br_s e with ⟨d, e⟩ | ⟨d, e⟩
  · rw [so_e e]
    have d : o7.1.toInt = 0 := by rw [d]; rfl
    rw [if_neg (by omega)]
    exact rao_s k Ok R (fw_t f f7) k7 rfl
  · rw [so_e e]
    have d := ne_i d
    rw [if_pos (by omega)]
    exact rao_s k Ok R (fw_t f f7) k7 (c8 (by omega))
/-- a copy of a board: from src to dst -/
theorem cpy_m {src dst t1 t2 : Nat} {own : Nat → Nat} {P : Pz} {g o : Hp} (k : DyK n g h) (O : OwS n h own) (b1 : BkE own h src 4 t1) (b2 : BkE own h dst 4 t2) (nt : ¬ t1 = t2 ∧ t1 < 20000 ∧ t2 < 20000) (A : RbA h src P) (T : ∀ q, q ∈ fsB → hR h dst q.1 = some (dst + q.2)) (e : sX12_copy h dst src = some o) : FrW (fun a _ => dst ≤ a ∧ a < dst + 5) h o ∧ DyK n g o ∧ RbA o dst P := by
  have D : VD (vM n (hS h) src dst (hS h + 1000 * 6) (hS h + 1000 * 7) (hS h + 1000 * 8)) := vd_m O b1 (bk_45 b2 (by omega)) (bke_o (c := 6)) (bke_o (c := 7)) (bke_o (c := 8)) (by omega)
  obtain ⟨f, c, _⟩ := cp_r D (rba_m.mpr A) ⟨T (0, 1) (by decide), T (4, 2) (by decide), T (5, 3) (by decide), T (6, 4) (by decide)⟩ e
  have k3 := dk_X12_copy (dk_self k) e
  refine ⟨fw_v (sb := fun _ _ => false) (cs := [5]) f (hs_g k3.1) (by decide +kernel) (fun _ _ _ z => nomatch z) (fun c hc j i hj => ?_), dk_X12_copy k e, rba_2.mp c⟩
  simp only [List.mem_cons, List.not_mem_nil, or_false] at hc
  subst hc
  have hj : j < 5 := hj
  exact ⟨by show dst ≤ dst + j; omega, by show dst + j < dst + 5; omega⟩
/-- a move is made: from a board at b to one at c -/
theorem mk_m {b c t t' v tv w : Nat} {own : Nat → Nat} {L : Nat → Nat → Int} {P : Pz} {u : MvT} {g o : Hp} (k : DyK n g h) (O : OwS n h own) (hw : w = 516 ∨ w = 526) (bb : BkE own h b 4 t) (bc : BkE own h c 4 t') (bv : BkE own h v 7 tv) (nt : 102 ≤ t ∧ t < 20000 ∧ 102 ≤ t' ∧ t' < 20000 ∧ ¬ t = t' ∧ 108 ≤ tv ∧ tv < 20000 ∧ ¬ t = tv ∧ ¬ t' = tv) (H : LOk L) (K : LawK L) (Oz : PzOk L P) (G : MvGd L P u) (C : RfL n h (n + w) L) (A : RbA h b P) (T : ∀ p, p ∈ fsM → hR h v p.1 = some (v + p.2)) (T' : ∀ q, q ∈ fsB → hR h c q.1 = some (c + q.2)) (row : rwA h v x2.toNatClampNeg = u) (e : sX15_make F h (n + 513) b v x2 c = some o) : FrW (fun a i => RS n a i ∨ (c ≤ a ∧ a < c + 5)) h o ∧ DyK n g o ∧ RbA o c (zAll L P u) := by
  have D : VD (vM n (hS h) b c (hS h + 1000 * 6) v (n + w)) := vd_m O bb (bk_45 bc (by omega)) (bke_o (c := 6)) bv (bk_lw O hw) (by split <;> omega)
  have W0 : RW0 (vM n (hS h) b c (hS h + 1000 * 6) v (n + w)) h L := rfl_m.mpr C
  obtain ⟨f, r⟩ := mkg_r D H K Oz G ⟨W0, ⟨T (1, 1) (by decide), T (2, 2) (by decide), T (3, 3) (by decide), T (4, 4) (by decide), T (5, 5) (by decide), T (6, 6) (by decide), T (7, 7) (by decide)⟩, row, rba_m.mpr A⟩ ⟨T' (0, 1) (by decide), T' (4, 2) (by decide), T' (5, 3) (by decide), T' (6, 4) (by decide)⟩ e
  have k3 := dk_X15_make (dk_self k) e
  refine ⟨fw_v (sb := rsB) (cs := [5]) f (hs_g k3.1) (by decide +kernel) (fun j f i z y => Or.inl (rsb_c z y)) (fun c' hc j i hj => ?_), dk_X15_make k e, rba_2.mp (rbt_i.mpr r)⟩
  simp only [List.mem_cons, List.not_mem_nil, or_false] at hc
  subst hc
  have hj : j < 5 := hj
  exact Or.inr ⟨by show c ≤ c + j; omega, by show c + j < c + 5; omega⟩
end
end
section
/-! the reference: a board comes to a place; go -/
section
variable {n j F : Nat} {h : Hp} {σ : Sy} {o : Int32 × Hp} {x1 x2 x3 : Int32}
theorem rfp_2 {g : Hp} (k : DyK n g h) (R : RPl n h σ) : ∀ (f : Nat) {x1 : Int32} {i : Nat}, x1.toInt = (i : Int) → i ≤ 60 → sX15_freePlace_2 F f h (n + 513) x1 = some o → o.2 = h ∧ o.1.toInt = frE σ (60 - i) := by
  have z60 : (60 : Int32).toInt = 60 := rfl
  have z1 : (1 : Int32).toInt = 1 := rfl
  have z0 : (0 : Int32).toInt = 0 := rfl
  intro f
  induction f with
  | zero => intro x1 i _ _ e; exact absurd e (by rw [sX15_freePlace_2]; exact fun z => nomatch z)
  | succ f ih =>
    intro x1 i e1 l e
    rw [sX15_freePlace_2] at e
    rcases br_s e with ⟨c, e⟩ | ⟨c, e⟩
    · have := le_i c
      rw [so_e e, show 60 - i = 0 by omega]
      exact ⟨rfl, rfl⟩
    have c := nle_i c
    obtain ⟨r2, e2, e⟩ := cl_s e
    have y2 := dk_ed (a := 513) (b := 537) k (by decide +kernel) e2
    subst y2
    replace e := gg_e e
    have nc : x1.toNatClampNeg = i := by have := nc_i (x := x1) (by omega); omega
    rw [nc] at e
    rw [show 60 - i = (59 - i) + 1 by omega]
    show o.2 = h ∧ o.1.toInt = (if syP σ (59 - (59 - i)) = none then ((59 - (59 - i) : Nat) : Int) else frE σ (59 - i))
    rw [show 59 - (59 - i) = i by omega]
    rcases R i (by omega) with ⟨a, b⟩ | ⟨P, _, a, b, _⟩
    · rw [so_e (bp_e b e), if_pos a]
      exact ⟨rfl, e1⟩
    · replace e := nx_e (bn_e (fun z => by rw [z] at b; exact absurd b (by decide)) e)
      rw [if_neg (by rw [a]; exact fun z => nomatch z)]
      have := ih (x1 := x1 + 1) (i := i + 1) (by rw [ta (by rw [z1]; omega), z1, e1]; omega) (by omega) e
      rw [show 60 - (i + 1) = 59 - i by omega] at this
      exact this
theorem rfp_r {g : Hp} (k : DyK n g h) (R : RPl n h σ) (e : sX15_freePlace F h (n + 513) = some o) : o.2 = h ∧ o.1.toInt = frE σ 60 := rfp_2 k R F (i := 0) rfl (by decide) e
/-- a thing of a row, found or made: what stays -/
theorem got_w {arr i w r : Nat} {g o : Hp} {W : Nat → Nat → Prop} (G : Got n g h o arr i w r) : FrW W h o := by
  rcases G.2.2 with ⟨_, e⟩ | ⟨_, _, N⟩
  · rw [e]; exact fw_0
  · exact ⟨by rw [N.2.2.1]; omega, fun a i l _ => N.2.2.2.1 a i l⟩
/-- behind writes to one place, and what is looked with -/
theorem relr_pl {p j' : Nat} {h' : Hp} {P : Option Pz} {W : Nat → Nat → Prop} (k : DyK n h h) (Ok : SyOk σ) (R : RelR n j h σ) (hp : p < 60) (F : FrW W h h') (k' : DyK n h h') (w : ∀ a i, W a i → a < hS h → RS n a i ∨ (a = n + 513 ∧ i = 16) ∨ (a = n + 537 ∧ i = p) ∨ ∃ r, hR h (n + 536) p = some r ∧ r ≤ a ∧ a < r + 5) (N : RPi n h' (syPut σ p P) p) (S : RSe n j' h') : RelR n j' h' (syPut σ p P) := by
  obtain ⟨R1, R2, R3, R4, R5, R6⟩ := R
  have s6 := dk_610 k
  have dyn : ∀ {q : Nat × Nat × Nat × Nat × List (Nat × Nat)} {i a : Nat}, q ∈ fam → 536 ≤ q.1 → i < q.2.1 → hR h (n + q.1) i = some a → n + 610 ≤ a → a + q.2.2.1 ≤ hS h → ¬ (q.2.2.2.1 + i = 4000 + p) → ∀ j f, j < q.2.2.1 → ¬ W (a + j) f := fun {q i a} hq h5 hi e lo hi' nt j f hj c => by
    rcases w _ f c (by omega) with c | c | c | ⟨r, er, c⟩
    · unfold RS at c; omega
    · omega
    · omega
    · obtain ⟨own, Dw⟩ := k.1.1
      obtain ⟨_, b2, _⟩ := bk_dy Dw (q := (536, 60, 5, 4000, fsB)) (by decide) hp er
      obtain ⟨_, d2, _⟩ := bk_dy Dw hq hi e
      have u : own (r + (a + j - r)) = 4000 + p := b2.2 (a + j - r) (by show a + j - r < 5; omega)
      rw [show r + (a + j - r) = a + j by omega] at u
      have u2 := d2.2 j hj
      omega
  have nst : ∀ j i, j < 610 → ¬ RS n (n + j) i → ¬ (j = 513 ∧ i = 16) → ¬ (j = 537 ∧ i = p) → ¬ W (n + j) i := fun j i l c1 c2 c3 c => by
    rcases w _ _ c (by omega) with c | c | c | ⟨r, er, c⟩
    · exact c1 c
    · exact c2 ⟨by omega, c.2⟩
    · exact c3 ⟨by omega, c.2⟩
    · obtain ⟨own, Dw⟩ := k.1.1
      obtain ⟨b1, _, _⟩ := bk_dy Dw (q := (536, 60, 5, 4000, fsB)) (by decide) hp er
      omega
  obtain ⟨x1, x2, x3⟩ := relr_g k k' F (fun j i hj => nst j i (by unfold rFt at hj; omega) (fun c => by unfold rFt at hj; unfold RS at c; omega) (fun c => by unfold rFt at hj; omega) (fun c => by unfold rFt at hj; omega)) (fun q a hq e lo hi => dyn (q := (583, 3000, 5, 8000, fsB)) (by decide) (by decide) hq e lo hi (by show ¬ 8000 + q = 4000 + p; omega)) R1 R4 R5
  refine ⟨x1, fun q hq => ?_, fun g' hg => rgi_f k k' F hg (lgle Ok g' hg) (nst 582 g' (by omega) (fun c => by unfold RS at c; omega) (by omega) (by omega)) (fun q hq => nst 581 _ (by omega) (fun c => by unfold RS at c; omega) (by omega) (by omega)) (fun q a hq e lo hi => dyn (q := (580, 2408, 5, 5000, fsB)) (by decide) (by decide) (by show _ < 2408; omega) e lo hi (by show ¬ 5000 + _ = 4000 + p; omega)) (R3 g' hg), x2, x3, S⟩
  by_cases z : q = p
  · rw [z]; exact N
  · have y := rpi_f k k' F hq (nst 537 q (by omega) (fun c => by unfold RS at c; omega) (by omega) (by omega)) (fun a e lo hi => dyn (q := (536, 60, 5, 4000, fsB)) (by decide) (by decide) hq e lo hi (by show ¬ 4000 + q = 4000 + p; omega)) (R2 q hq)
    have e : syP (syPut σ p P) q = syP σ q := if_neg z
    rcases y with ⟨a, b⟩ | ⟨Q, a, p1, p2, p3, p4⟩
    · exact Or.inl ⟨by rw [e]; exact a, b⟩
    · exact Or.inr ⟨Q, a, by rw [e]; exact p1, p2, p3, p4⟩
/-- keep: a board at b comes to the least free place -/
theorem kp_m {b t : Nat} {P : Pz} (k : DyK n h h) (Ok : SyOk σ) (R : RelR n j h σ) (j1 : j < 100000) (bb : ∀ h', DyK n h h' → ∀ own, DnS n h' own → BkE own h' b 4 t) (nt : ¬ (4000 ≤ t ∧ t < 4060) ∧ t < 20000) (A : RbA h b P) (e : sX15_keep F h (n + 513) b = some o) : (frE σ 60 = -1 ∧ o = ((-104 : Int32), h)) ∨ ∃ p : Nat, p < 60 ∧ frE σ 60 = (p : Int) ∧ RaO n (j + 1) h (syPut σ p (some P)) o (p : Int) := by
  have zm : (-1 : Int32).toInt = -1 := rfl
  have z1 : (1 : Int32).toInt = 1 := rfl
  unfold sX15_keep at e
  obtain ⟨o1, e1, e⟩ := cl_s e
  obtain ⟨p1, p2⟩ := rfp_r k R.2.1 e1
  rw [p1] at e
  by_cases c : o1.1 = (-1 : Int32)
  · unfold sX15_keep_4 at e
    refine Or.inl ⟨by rw [← p2, c]; rfl, so_e (bp_e c e)⟩
  have c' := ne_i c
  rw [zm] at c'
  right
  rcases fre_b (σ := σ) 60 (by decide) with w | ⟨p, hp, w, wn⟩
  · omega
  have np : o1.1.toNatClampNeg = p := by have := nc_i (x := o1.1) (by omega); omega
  refine ⟨p, hp, w, ?_⟩
  obtain ⟨_, _, o2, r, G, e⟩ := kp_g k.1 c e
  rw [np] at G
  have k2 : DyK n h o2 := dk_got k (by decide) G
  have s6 := dk_610 k
  have FG : FrW (fun _ _ => False) h o2 := got_w G
  obtain ⟨own0, Dw0⟩ := k.1.1
  have tb := bb h k own0 Dw0
  have bl : b + 5 ≤ hS h := by
    rcases tb with ⟨y, _⟩ | ⟨_, y⟩
    · exact y.1
    · omega
  have Tb : ∀ q, q ∈ fsB → hR o2 b q.1 = hR h b q.1 := fun q hq => by
    rcases G.2.2 with ⟨_, e⟩ | ⟨_, _, N⟩
    · rw [e]
    · refine N.2.2.2.2 _ _ (by omega) (fun z => ?_)
      -- the row of places is no board
      have y := A.1.1
      have z1 : b = n + 536 := z.1
      rcases tb with ⟨y, y2, _⟩ | ⟨_, y⟩
      · have := y.2 0 (by decide)
        rw [z1] at this
        have h0 := Dw0.1.1 536 (by decide)
        have this : own0 (n + 536 + 0) = t := this
        rw [show n + 536 + 0 = n + 536 by omega, h0] at this
        have : sTg 536 = 0 := by decide
        omega
      · omega
  have A2 : RbA o2 b P := rba_f A (fun q hq => by
    rw [Tb q hq]
    have V := A.1
    have : q = (0, 1) ∨ q = (4, 2) ∨ q = (5, 3) ∨ q = (6, 4) := by simpa using hq
    rcases this with z | z | z | z <;> subst z
    · exact V.1
    · exact V.2.1
    · exact V.2.2.1
    · exact V.2.2.2) (fun j i hj => FG.2 _ _ (by omega) (fun z => z))
  unfold sX15_keep_35 at e
  obtain ⟨r1, f1, e⟩ := cl_s e
  have g1 := dk_ed (a := 513) (b := 536) k2 (by decide +kernel) f1
  subst g1
  replace e := gg_e e
  rw [np] at e
  replace e := ce_e G.2.1 e
  obtain ⟨o4, e4, e⟩ := cl_s e
  obtain ⟨own, Dw⟩ := k2.1.1
  have br : BkE own o2 r 4 (4000 + p) := bke_p Dw hp G.2.1
  obtain ⟨_, _, Tr⟩ := bk_dy Dw (q := (536, 60, 5, 4000, fsB)) (by decide) hp G.2.1
  obtain ⟨F4, k4, A4⟩ := cpy_m k2 Dw.1 (bb o2 k2 own Dw) br (by omega) A2 Tr e4
  unfold sX15_keep_45 at e
  obtain ⟨h5, w5, e⟩ := nm_s e
  have k5 : DyK n h h5 := by rw [w5]; exact dk_wI k4
  obtain ⟨r2, f2, e⟩ := cl_s e
  have g2 := dk_ed (a := 513) (b := 537) k5 (by decide +kernel) f2
  subst g2
  replace e := gg_e e
  rw [np] at e
  obtain ⟨h6, w6, e⟩ := nm_s e
  have k6 : DyK n h h6 := by rw [w6]; exact dk_wI k5
  rw [so_e e]
  have k46 : DyK n o2 h6 := by
    rw [w6, w5]
    exact dk_wI (dk_wI (dk_X12_copy (dk_self k2) e4))
  have rl : r + 5 ≤ hS o2 := by
    obtain ⟨_, y, _⟩ := bk_dy Dw (q := (536, 60, 5, 4000, fsB)) (by decide) hp G.2.1
    exact y.1
  have rn : n + 610 ≤ r := (bk_dy Dw (q := (536, 60, 5, 4000, fsB)) (by decide) hp G.2.1).1
  have s4 : hS o4 = hS o2 ∨ hS o2 ≤ hS o4 := Or.inr F4.1
  have F5 : FrW (fun a i => a = n + 513 ∧ i = 16) o4 h5 := ⟨by rw [w5]; exact Nat.le_refl _, fun a i _ nw => by rw [w5]; exact ⟨by rw [r_I, if_neg nw], rfl⟩⟩
  have F6 : FrW (fun a i => a = n + 537 ∧ i = p) h5 h6 := ⟨by rw [w6]; exact Nat.le_refl _, fun a i _ nw => by rw [w6]; exact ⟨by rw [r_I, if_neg nw], rfl⟩⟩
  have FF : FrW (fun a i => (a = n + 513 ∧ i = 16) ∨ (a = n + 537 ∧ i = p) ∨ (r ≤ a ∧ a < r + 5)) h h6 := fw_t (fw_s FG (fun a i c => c.elim)) (fw_t (fw_s F4 (fun a i c => Or.inr (Or.inr c))) (fw_t (fw_s F5 (fun a i c => Or.inl c)) (fw_s F6 (fun a i c => Or.inr (Or.inl c)))))
  have s16 : hI o4 (n + 513) 16 = hI h (n + 513) 16 := by
    rw [(F4.2 (n + 513) 16 (by have := FG.1; omega) (fun z => by omega)).1, (FG.2 (n + 513) 16 (by omega) (fun z => z)).1]
  obtain ⟨r1, r2, r3⟩ := R.2.2.2.2.2
  have v5 : (hI h5 (n + 513) 16).toInt = (hI h (n + 513) 16).toInt + 1 := by
    rw [w5, r_I, if_pos ⟨rfl, rfl⟩, s16, ta (by rw [z1]; omega), z1]
  have v6 : hI h6 (n + 537) p = hI h5 (n + 513) 16 := by rw [w6, r_I, if_pos ⟨rfl, rfl⟩]
  have v7 : hI h6 (n + 513) 16 = hI h5 (n + 513) 16 := by rw [w6, r_I, if_neg (fun z => by omega)]
  have A6 : RbA h6 r P := rba_f A4 (fun q hq => by
    obtain ⟨own6, Dw6⟩ := k6.1.1
    exact (bk_dy Dw6 (q := (536, 60, 5, 4000, fsB)) (by decide) hp (ks_r k46 (q := (536, 60, 5, 4000, fsB)) (by decide) G.2.1)).2.2 q hq) (fun j' i hj => by
    have y5 := F5.2 (r + j') i (by have := F4.1; omega) (fun z => by omega)
    have y6 := F6.2 (r + j') i (by have := F4.1; have := F5.1; omega) (fun z => by omega)
    exact ⟨y6.1.trans y5.1, y6.2.trans y5.2⟩)
  have ser : SerN n h h6 := ⟨by rw [v7]; omega, fun q hq => by
    by_cases z : q = p
    · rw [z]
      refine Or.inr ⟨?_, by rw [v6]; omega, by rw [v6, v7]; exact Int.le_refl _⟩
      rcases R.2.1 p hp with ⟨_, y⟩ | ⟨_, _, y, _⟩
      · exact y
      · rw [wn] at y; exact nomatch y
    · exact Or.inl (FF.2 (n + 537) q (by omega) (fun c => by omega)).1⟩
  refine ⟨by show o1.1.toInt = (p : Int); omega, relr_pl k Ok R hp FF k6 (fun a i c la => ?_) (Or.inr ⟨P, r, if_pos rfl, by rw [v6]; omega, ks_r k46 (q := (536, 60, 5, 4000, fsB)) (by decide) G.2.1, A6⟩) ⟨by rw [v7]; omega, by rw [v7]; omega, by omega⟩, k6, fw_r FF (fun a i c la => ?_), ser⟩
  · rcases c with c | c | c
    · exact Or.inr (Or.inl c)
    · exact Or.inr (Or.inr (Or.inl c))
    · rcases G.2.2 with ⟨e, _⟩ | ⟨_, e, _⟩
      · exact Or.inr (Or.inr (Or.inr ⟨r, e, c⟩))
      · omega
  · rcases c with c | c | c
    · exact Or.inl (by omega)
    · exact Or.inl (by omega)
    · rcases G.2.2 with ⟨e, _⟩ | ⟨_, e, _⟩
      · exact Or.inr ⟨(536, 60, 5, 4000, fsB), by decide, by decide, p, r, hp, e, c⟩
      · omega
/-- made: a board that was made at the start -/
theorem bb_st {b t : Nat} (l : b + 5 ≤ 610) (e : ∀ j, j < 5 → sTg (b + j) = t) (t0 : 0 < t ∧ t < 20000) : ∀ h', DyK n h h' → ∀ own, DnS n h' own → BkE own h' (n + b) 4 t := fun h' _ own Dw => Or.inl ⟨bk_st Dw.1 l e, t0.1, t0.2⟩
theorem st_T {g : Hp} {b : Nat} (k : DyK n g h) (m : ∀ q, q ∈ fsB → (b, q.1, b + q.2) ∈ edL) : ∀ q, q ∈ fsB → hR h (n + b) q.1 = some (n + b + q.2) := fun q hq => by
  have := dk_e k (m q hq)
  rw [show n + (b + q.2) = n + b + q.2 by omega] at this
  exact this
theorem ra_mono {σ' : Sy} {a : Int} {j' : Nat} {h0 : Hp} (k : DyK n h0 h) (f : FrR n h0 h) (R : RaO n j' h σ' o a) : RaO n j' h0 σ' o a := ⟨R.1, R.2.1, dk_t k R.2.2.1, frr_t k f R.2.2.2⟩
end
end
section
/-! the reference: go; both: drop, told, out -/
section
variable {n j F : Nat} {h : Hp} {σ : Sy} {o : Int32 × Hp} {x1 x2 x3 : Int32}
theorem rse_m (R : RelR n j h σ) {j' : Nat} (l : j ≤ j') (l2 : j' ≤ 100000) : RelR n j' h σ := ⟨R.1, R.2.1, R.2.2.1, R.2.2.2.1, R.2.2.2.2.1, R.2.2.2.2.2.1, by have := R.2.2.2.2.2.2.1; omega, l2⟩
theorem rao_m {a : Int} {σ' : Sy} (R : RaO n j h σ' o a) {j' : Nat} (l : j ≤ j') (l2 : j' ≤ 100000) : RaO n j' h σ' o a := ⟨R.1, rse_m R.2.1 l l2, R.2.2⟩
theorem ra_go (k : DyK n h h) (Ok : SyOk σ) (R : RelR n j h σ) (j1 : j < 100000) (e : sX15_go F h (n + 513) x1 x2 = some o) : RaO n (j + 1) h (syGo σ x1 x2) o (anGo σ x1 x2) := by
  have zm : (-1 : Int32).toInt = -1 := rfl
  have z0 : (0 : Int32).toInt = 0 := rfl
  have syn : mvI σ x1 x2 = none → syGo σ x1 x2 = σ := fun z => by
    unfold syGo
    rw [z]
    cases sPl σ x1 <;> rfl
  unfold sX15_go sX15_go_5 sX15_go_25 at e
  unfold anGo
  obtain ⟨o1, e1, e⟩ := cl_s e
  rcases mvs_r k Ok R e1 with ⟨z, y⟩ | ⟨P, z, f, k1, m, y⟩
  · rw [y] at e
    have q : mvI σ x1 x2 = none := mvi_n z
    rw [so_e (bp_e rfl e), q, syn q]
    exact rao_m (j := j) (j' := j + 1) (rao_0 k R rfl rfl) (by omega) (by omega)
  replace e := bn_e (ne102 y) e
  rcases br_s e with ⟨c3, e⟩ | ⟨c3, e⟩
  · have := lt_i c3
    have q : mvI σ x1 x2 = none := mvi_l (by omega)
    rw [so_e e, q, syn q]
    exact rao_m (j := j) (j' := j + 1) (o := ((-102 : Int32), o1.2)) (a := -102) (rao_s k Ok R f k1 rfl) (by omega) (by omega)
  have c3 := nlt_i c3
  have nc := nc_i (x := x2) (by omega)
  have m0 : (hI o1.2 (n + 552) 0).toInt = ((lgL (syL σ) P).length : Int) := m.1
  replace e := ce_e (dk_e (a := 513) (f := 30) (b := 552) k1 (by decide +kernel)) e
  rcases br_s e with ⟨c4, e⟩ | ⟨c4, e⟩
  rotate_left
  · have := nlt_i c4
    have q : mvI σ x1 x2 = none := by rw [mvi_s z (by omega)]; exact List.getElem?_eq_none (by omega)
    rw [so_e e, q, syn q]
    exact rao_m (j := j) (j' := j + 1) (o := ((-102 : Int32), o1.2)) (a := -102) (rao_s k Ok R f k1 rfl) (by omega) (by omega)
  have c4 := lt_i c4
  have ev := m.2 x2.toNatClampNeg (by omega)
  generalize hv : rowM (fun k => n + 552 + kof k) o1.2 x2.toNatClampNeg = v at ev
  have q : mvI σ x1 x2 = some v := by rw [mvi_s z (by omega)]; exact ev
  rw [q]
  have Oz := spl_ok Ok z
  have G := lg_gd Ok.1.1 Ok.1.2.1 Oz ev
  have R1 := relr_rs k Ok R f k1
  obtain ⟨_, _, b3, spe⟩ := spl_b z
  have yes : syGo σ x1 x2 = if frE σ 60 = -1 then σ else syPut σ (frE σ 60).toNat (some (zAll (syL σ) P v)) := by
    unfold syGo
    rw [z, q]
  rw [yes]
  show RaO n (j + 1) h _ o (if frE σ 60 = -1 then -104 else frE σ 60)
  obtain ⟨o5, e5, e⟩ := cl_s e
  obtain ⟨p1, p2⟩ := rfp_r k1 R1.2.1 e5
  rw [p1] at e
  unfold sX15_go_32 at e
  rcases br_s e with ⟨c5, e⟩ | ⟨c5, e⟩
  · have c5 : o5.1.toInt = -1 := by rw [c5]; rfl
    rw [so_e e, if_pos (by omega), if_pos (by omega)]
    exact rao_m (j := j) (j' := j + 1) (o := ((-104 : Int32), o1.2)) (a := -104) (rao_s k Ok R f k1 rfl) (by omega) (by omega)
  have c5 := ne_i c5
  rw [zm] at c5
  rw [if_neg (by omega), if_neg (by omega)]
  obtain ⟨b, eb, A⟩ := rpl_p R1.2.1 z
  replace e := ce_e (dk_e (a := 513) (f := 14) (b := 536) k1 (by decide +kernel)) e
  replace e := gg_e e
  replace e := ce_e eb e
  replace e := ce_e (dk_e (a := 513) (f := 30) (b := 552) k1 (by decide +kernel)) e
  replace e := ce_e (dk_e (a := 513) (f := 32) (b := 568) k1 (by decide +kernel)) e
  obtain ⟨o7, e7, e⟩ := cl_s e
  obtain ⟨own, Dw⟩ := k1.1.1
  obtain ⟨w, hw, _, _, C⟩ := R1.1
  obtain ⟨F7, k7, A7⟩ := mk_m k1 Dw.1 hw (bke_p Dw b3 eb) (bk_made Dw.1) (bk_ml Dw.1) (by omega) Ok.1.1 Ok.1.2.1 Oz G C A (lst_T k1) (st_T k1 (by decide +kernel)) hv e7
  have F7' : FrW (RS n) o1.2 o7 := fw_s F7 (fun a i c => by
    rcases c with c | c
    · exact c
    · exact Or.inr (Or.inl ⟨by omega, by omega⟩))
  have k77 : DyK n o1.2 o7 := dk_X15_make (dk_self k1) e7
  have R7 := relr_rs (dk_self k1) Ok R1 F7' k77
  unfold sX15_go_58 sX15_go_66 at e
  replace e := ce_e (dk_e (a := 513) (f := 32) (b := 568) k7 (by decide +kernel)) e
  obtain ⟨o8, e8, e⟩ := cl_s e
  rw [so_e e]
  rcases kp_m (dk_self k7) Ok R7 j1 (bb_st (b := 568) (t := 104) (by decide) (by decide) (by decide)) (by omega) A7 e8 with ⟨u, _⟩ | ⟨p, hp, u, X⟩
  · omega
  · rw [u, show (p : Int).toNat = p by omega]
    exact ra_mono k7 (frr_t k1 (frr_w k f (fun a i c _ => Or.inl (rs_c c))) (frr_w k1 F7' (fun a i c _ => Or.inl (rs_c c)))) X
/-- drop -/
def anDrop (σ : Sy) (x1 : Int32) : Int := plE σ x1 (-102) (fun _ => 1)
def syDrop (σ : Sy) (x1 : Int32) : Sy := match sPl σ x1 with
  | none => σ
  | some _ => syPut σ x1.toNatClampNeg none
theorem sydrop_n (e : sPl σ x1 = none) : syDrop σ x1 = σ := by unfold syDrop; rw [e]
theorem sydrop_s {P : Pz} (e : sPl σ x1 = some P) : syDrop σ x1 = syPut σ x1.toNatClampNeg none := by unfold syDrop; rw [e]
theorem ra_drop (k : DyK n h h) (Ok : SyOk σ) (R : RelR n j h σ) (e : sX15_drop h (n + 513) x1 = some o) : o.1.toInt = anDrop σ x1 ∧ RelR n j o.2 (syDrop σ x1) ∧ DyK n h o.2 ∧ FrW (RWr n h) h o.2 := by
  have s6 := dk_610 k
  unfold sX15_drop at e
  unfold anDrop
  obtain ⟨o1, e1, e⟩ := cl_s e
  obtain ⟨q1, c1⟩ := has_r k R.2.1 e1
  rw [q1] at e
  rcases c1 with ⟨d1, d2⟩ | ⟨d1, P, d2⟩
  · rw [so_e (bp_e d1 e), ple_n d2, sydrop_n d2]
    exact ⟨rfl, R, k, fw_0⟩
  replace e := bn_e d1 e
  rw [ple_s d2, sydrop_s d2]
  obtain ⟨_, _, b3, _⟩ := spl_b d2
  replace e := ce_e (dk_e (a := 513) (f := 15) (b := 537) k (by decide +kernel)) e
  replace e := gg_e e
  replace e := nx_e e
  rw [so_e e]
  generalize hp : x1.toNatClampNeg = p at b3
  have F : FrW (fun a i => a = n + 537 ∧ i = p) h (wI h (n + 537) p 0) := ⟨Nat.le_refl _, fun a i _ nw => ⟨by rw [r_I, if_neg nw], rfl⟩⟩
  refine ⟨rfl, relr_pl k Ok R b3 F (dk_wI k) (fun a i c _ => Or.inr (Or.inr (Or.inl c))) (Or.inl ⟨if_pos rfl, by rw [r_I, if_pos ⟨rfl, rfl⟩]⟩) (rse_f k F (fun c => by omega) R.2.2.2.2.2), dk_wI k, fw_r F (fun a i c _ => Or.inl (by omega))⟩
theorem forg_c {x : Nat} {h' : Hp} (e : sX4_forget h x x1 = some h') : hS h' = hS h ∧ ∀ a i, ¬ a = x → hI h' a i = hI h a i ∧ hJ h' a i = hJ h a i := by
  unfold sX4_forget at e
  rcases br_s e with ⟨_, e⟩ | ⟨_, e⟩
  · first
    | (rw [so_e (nx_e (nx_e (nx_e e)))]; exact ⟨rfl, fun a i c => ⟨by rw [rI_a c, rI_a c, rI_a c], rfl⟩⟩)
    | (unfold sX4_forget_23 at e; rw [so_e e]; exact ⟨rfl, fun _ _ _ => ⟨rfl, rfl⟩⟩)
  · first
    | (rw [so_e (nx_e (nx_e (nx_e e)))]; exact ⟨rfl, fun a i c => ⟨by rw [rI_a c, rI_a c, rI_a c], rfl⟩⟩)
    | (unfold sX4_forget_23 at e; rw [so_e e]; exact ⟨rfl, fun _ _ _ => ⟨rfl, rfl⟩⟩)
theorem caz_o {Z : Nat → Nat → Prop} {a : Int} {σ' : Sy} (C : CaO n h σ' o a) : CaZ n h σ' Z o a := ⟨C.1, C.2.1, C.2.2.1, fw_s C.2.2.2 (fun _ _ c => Or.inl c)⟩
theorem ca_drop (k : DyK n h h) (Ok : SyOk σ) (R : RelC n h σ) (e : sX11_drop h n x1 = some o) : CaZ n h (syDrop σ x1) (fun a _ => a = n + 76) o (anDrop σ x1) := by
  have s6 := dk_610 k
  have kk := dk_X11_drop k e
  unfold sX11_drop at e
  unfold anDrop
  obtain ⟨o1, e1, e⟩ := cl_s e
  obtain ⟨q1, c1⟩ := isp_c k R.2.1 e1
  rw [q1] at e
  rcases c1 with ⟨d1, d2⟩ | ⟨d1, P, d2⟩
  · rw [so_e (bp_e d1 e), ple_n d2, sydrop_n d2]
    exact caz_o (cao_0 k R rfl rfl)
  replace e := bn_e d1 e
  rw [ple_s d2, sydrop_s d2]
  obtain ⟨_, _, b3, _⟩ := spl_b d2
  replace e := ce_e (dk_e (a := 0) (f := 14) (b := 149) k (by decide +kernel)) e
  replace e := gg_e e
  generalize hp : x1.toNatClampNeg = p at b3 e
  obtain ⟨h5, w5, e⟩ := nm_s e
  rw [nar_0] at w5
  have k5 : DyK n h h5 := by rw [w5]; exact dk_wI k
  replace e := ce_e (dk_e (a := 0) (f := 11) (b := 76) k5 (by decide +kernel)) e
  obtain ⟨o7, e7, e⟩ := cl_s e
  obtain ⟨s7, f7⟩ := forg_c e7
  have eo := so_e e
  have F5 : FrW (fun a i => a = n + 149 ∧ i = p) h h5 := ⟨by rw [w5]; exact Nat.le_refl _, fun a i _ nw => by rw [w5]; exact ⟨by rw [r_I, if_neg nw], rfl⟩⟩
  have F7 : FrW (fun a _ => a = n + 76) h5 o7 := ⟨by rw [s7]; exact Nat.le_refl _, fun a i _ nw => f7 a i nw⟩
  have FF : FrW (fun a i => (a = n + 149 ∧ i = p) ∨ a = n + 76) h o7 := fw_t (fw_s F5 (fun _ _ c => Or.inl c)) (fw_s F7 (fun _ _ c => Or.inr c))
  have k7 : DyK n h o7 := by rw [eo] at kk; exact kk
  rw [eo]
  obtain ⟨R1, R2, R3, R4, R5⟩ := R
  obtain ⟨x1', x2', x3'⟩ := relc_g k k7 FF (fun j i hj c => by unfold cFt at hj; omega) R1 R4 R5
  refine ⟨rfl, ⟨x1', fun q hq => ?_, fun g' hg => cgi_f k k7 FF hg (lgle Ok g' hg) (fun c => by omega) (fun q hq c => by omega) (fun q a hq e lo hi j f hj c => by omega) (R3 g' hg), x2', x3'⟩, k7, fw_s FF (fun a i c => c.elim (fun c => Or.inl (Or.inl (by omega))) Or.inr)⟩
  by_cases z : q = p
  · refine Or.inl ⟨by rw [z]; exact if_pos rfl, ?_⟩
    rw [(F7.2 (n + 149) q (by have := F5.1; omega) (fun c => by omega)).1, w5, z, r_I, if_pos ⟨rfl, rfl⟩]
  · have y := cpi_f k k7 FF hq (fun c => by omega) (fun j i hj c => by omega) (R2 q hq)
    have e : syP (syPut σ p none) q = syP σ q := if_neg z
    rcases y with ⟨a, b⟩ | ⟨Q, a, b, c⟩
    · exact Or.inl ⟨by rw [e]; exact a, b⟩
    · exact Or.inr ⟨Q, by rw [e]; exact a, b, c⟩
end
end
section
/-! games, the class: back, played, start, now -/
def gmI (x : Int32) : Prop := 0 ≤ x.toInt ∧ x.toInt < 8
/-- a game has another length; a position; a move -/
def syGl (σ : Sy) (g : Nat) (l : Int) : Sy := (syL σ, syP σ, (fun q => if q = g then l else syG σ q), syQ σ, syMv σ, syF σ, syO σ)
def syGq (σ : Sy) (i : Nat) (P : Pz) : Sy := (syL σ, syP σ, syG σ, (fun q => if q = i then P else syQ σ q), syMv σ, syF σ, syO σ)
def syGm (σ : Sy) (i : Nat) (m : Int) : Sy := (syL σ, syP σ, syG σ, syQ σ, (fun q => if q = i then m else syMv σ q), syF σ, syO σ)
section
variable {n F : Nat} {h : Hp} {σ : Sy} {o : Int32 × Hp} {x1 x2 x3 : Int32}
theorem isg_c (e : sX11_isGame h x1 = some o) : o.2 = h ∧ ((o.1 = 0 ∧ ¬ gmI x1) ∨ (¬ o.1 = 0 ∧ gmI x1)) := by
  have z0 : (0 : Int32).toInt = 0 := rfl
  have z8 : (8 : Int32).toInt = 8 := rfl
  unfold sX11_isGame sX11_isGame_14 sX11_isGame_15 at e
  rcases br_s e with ⟨c, e⟩ | ⟨c, e⟩
  · rw [so_e (gg_e e)]
    have := lt_i c
    exact ⟨rfl, Or.inl ⟨rfl, fun z => by unfold gmI at z; omega⟩⟩
  have c := nlt_i c
  rcases br_s e with ⟨c2, e⟩ | ⟨c2, e⟩
  · rw [so_e (gg_e e)]
    have := le_i c2
    exact ⟨rfl, Or.inl ⟨rfl, fun z => by unfold gmI at z; omega⟩⟩
  · rw [so_e (gg_e e)]
    have := nle_i c2
    exact ⟨rfl, Or.inr ⟨by show ¬ (1 : Int32) = 0; decide, by omega, by omega⟩⟩
theorem gmi_n (d : gmI x1) : x1.toNatClampNeg < 8 ∧ (x1.toNatClampNeg : Int) = x1.toInt := by
  have := nc_i d.1
  have := d.2
  omega
/-- the place of a page -/
theorem ix_g {y : Int32} {q : Nat} (d : gmI x1) (e : y.toInt = (q : Int)) (l : q ≤ 301) : ((x1 * (301 : Int32)) + y).toInt = ((301 * x1.toNatClampNeg + q : Nat) : Int) ∧ ((x1 * (301 : Int32)) + y).toNatClampNeg = 301 * x1.toNatClampNeg + q := by
  have z : (301 : Int32).toInt = 301 := rfl
  obtain ⟨a, b⟩ := gmi_n d
  have m : (x1 * (301 : Int32)).toInt = x1.toInt * 301 := by rw [tm (by rw [z]; omega), z]
  have t : ((x1 * (301 : Int32)) + y).toInt = ((301 * x1.toNatClampNeg + q : Nat) : Int) := by
    rw [ta (by rw [m]; omega), m]; omega
  refine ⟨t, ?_⟩
  have := nc_i (x := (x1 * (301 : Int32)) + y) (by rw [t]; omega)
  omega
/-- what is written of one game -/
theorem relc_gm {g' : Nat} {h' : Hp} {σ' : Sy} {W : Nat → Nat → Prop} (k : DyK n h h) (Ok : SyOk σ) (R : RelC n h σ) (hg : g' < 8) (F : FrW W h h') (k' : DyK n h h') (sl : syL σ' = syL σ) (sp : syP σ' = syP σ) (sf : syF σ' = syF σ) (so : syO σ' = syO σ) (sg : ∀ q, q < 8 → ¬ q = g' → syG σ' q = syG σ q ∧ ∀ i, i ≤ 300 → syQ σ' (301 * q + i) = syQ σ (301 * q + i) ∧ syMv σ' (301 * q + i) = syMv σ (301 * q + i)) (w : ∀ a i, W a i → a < hS h → CSc n a i ∨ (a = n + 152 ∧ i = g') ∨ (a = n + 151 ∧ 301 * g' ≤ i ∧ i ≤ 301 * g' + 300) ∨ ∃ q r, q ≤ 300 ∧ hR h (n + 150) (301 * g' + q) = some r ∧ r ≤ a ∧ a < r + 6) (N : CGi n h' σ' g') : RelC n h' σ' := by
  have s6 := dk_610 k
  obtain ⟨R1, R2, R3, R4, R5⟩ := R
  have st : ∀ j i, j < 610 → ¬ CSc n (n + j) i → ¬ j = 152 → ¬ j = 151 → ¬ W (n + j) i := fun j i l c1 c2 c3 c => by
    rcases w _ _ c (by omega) with c | c | c | ⟨q, r, hq, er, c⟩
    · exact c1 c
    · omega
    · omega
    · have := dy_lo k (q := (150, 2408, 6, 1000, fsP)) (by decide) (show 301 * g' + q < 2408 by omega) er
      omega
  obtain ⟨x1, x2, x3⟩ := relc_g k k' F (fun j i hj => st j i (by unfold cFt at hj; omega) (fun c => by unfold cFt at hj; unfold CSc at c; omega) (by unfold cFt at hj; omega) (by unfold cFt at hj; omega)) R1 R4 R5
  refine ⟨by rw [sl]; exact x1, fun p hp => ?_, fun q hq => ?_, ?_, ?_⟩
  · have y := cpi_f k k' F hp (st 149 p (by decide) (fun c => by unfold CSc at c; omega) (by decide) (by decide)) (fun j i hj => by
      have := st (153 + 6 * p + j) i (by omega) (fun c => by unfold CSc at c; omega) (by omega) (by omega)
      rw [show n + (153 + 6 * p + j) = n + (153 + 6 * p) + j by omega] at this
      exact this) (R2 p hp)
    unfold CPi
    rw [sl, sp]
    exact y
  · by_cases z : q = g'
    · rw [z]; exact N
    · obtain ⟨g1, g2⟩ := sg q hq z
      have lg := lgle Ok q hq
      have y := cgi_f k k' F hq lg (fun c => by
        rcases w _ _ c (by omega) with c | c | c | ⟨q', r, hq', er, c⟩
        · unfold CSc at c; omega
        · omega
        · omega
        · have := dy_lo k (q := (150, 2408, 6, 1000, fsP)) (by decide) (show 301 * g' + q' < 2408 by omega) er
          omega) (fun i hi c => by
        rcases w _ _ c (by omega) with c | c | c | ⟨q', r, hq', er, c⟩
        · unfold CSc at c; omega
        · omega
        · omega
        · have := dy_lo k (q := (150, 2408, 6, 1000, fsP)) (by decide) (show 301 * g' + q' < 2408 by omega) er
          omega) (fun i a hi e lo hi' j f hj c => by
        rcases w _ _ c (by omega) with c | c | c | ⟨q', r, hq', er, c⟩
        · unfold CSc at c; omega
        · omega
        · omega
        · obtain ⟨own, Dw⟩ := k.1.1
          obtain ⟨_, d2, _⟩ := bk_dy Dw (q := (150, 2408, 6, 1000, fsP)) (by decide) (show 301 * g' + q' < 2408 by omega) er
          obtain ⟨_, b2, _⟩ := bk_dy Dw (q := (150, 2408, 6, 1000, fsP)) (by decide) (show 301 * q + i < 2408 by omega) e
          have u : own (r + (a + j - r)) = 1000 + (301 * g' + q') := d2.2 (a + j - r) (by show a + j - r < 6; omega)
          rw [show r + (a + j - r) = a + j by omega] at u
          have u2 : own (a + j) = 1000 + (301 * q + i) := b2.2 j hj
          omega) (R3 q hq)
      refine ⟨by rw [g1]; exact y.1, fun i hi => ?_⟩
      rw [g1] at hi
      obtain ⟨⟨a, ea, ca⟩, m⟩ := y.2 i hi
      obtain ⟨u1, u2⟩ := g2 i (by omega)
      exact ⟨⟨a, ea, by rw [sl, u1]; exact ca⟩, fun l => by rw [u2]; exact m (by rw [g1] at l; exact l)⟩
  · unfold CFd
    rw [sl, sf]
    exact x2
  · unfold COu
    rw [so]
    exact x3
/-- back -/
noncomputable def anBack (σ : Sy) (x1 : Int32) : Int := if prB' (gmI x1) = true then (if syG σ x1.toNatClampNeg = -1 then -102 else if syG σ x1.toNatClampNeg = 0 then -103 else syG σ x1.toNatClampNeg - 1) else -101
noncomputable def syBack (σ : Sy) (x1 : Int32) : Sy := if prB' (gmI x1) = true then (if syG σ x1.toNatClampNeg = -1 then σ else if syG σ x1.toNatClampNeg = 0 then σ else syGl σ x1.toNatClampNeg (syG σ x1.toNatClampNeg - 1)) else σ
theorem ca_back (k : DyK n h h) (Ok : SyOk σ) (R : RelC n h σ) (e : sX11_back h n x1 = some o) : CaO n h (syBack σ x1) o (anBack σ x1) := by
  have z0 : (0 : Int32).toInt = 0 := rfl
  have z1 : (1 : Int32).toInt = 1 := rfl
  have zm : (-1 : Int32).toInt = -1 := rfl
  have s6 := dk_610 k
  unfold sX11_back at e
  unfold anBack syBack
  obtain ⟨o1, e1, e⟩ := cl_s e
  obtain ⟨q1, c1⟩ := isg_c e1
  rw [q1] at e
  rcases c1 with ⟨d1, d2⟩ | ⟨d1, d2⟩
  · rw [so_e (bp_e d1 e), prb_f.mpr d2, if_neg (by decide), if_neg (by decide)]
    exact cao_0 k R rfl rfl
  replace e := bn_e d1 e
  rw [prb_e.mpr d2, if_pos rfl, if_pos rfl]
  obtain ⟨g8, gn⟩ := gmi_n d2
  have G := (R.2.2.1 x1.toNatClampNeg g8)
  have Gb := (Ok.2.2.1 x1.toNatClampNeg g8).1
  have W := dk_e (a := 0) (f := 17) (b := 152) k (by decide +kernel)
  replace e := ce_e W e
  replace e := gg_e e
  rcases br_s e with ⟨c, e⟩ | ⟨c, e⟩
  · have c : (hI h (n + 152) x1.toNatClampNeg).toInt = -1 := by
      have : hI h (n + 152) x1.toNatClampNeg = -1 := c
      rw [this]; rfl
    rw [so_e e, if_pos (by rw [← G.1]; exact c), if_pos (by rw [← G.1]; exact c)]
    exact cao_0 k R rfl rfl
  have c := ne_i c
  have c : ¬ (hI h (n + 152) x1.toNatClampNeg).toInt = -1 := c
  rw [G.1] at c
  rw [if_neg c, if_neg c]
  replace e := ce_e W e
  replace e := gg_e e
  rcases br_s e with ⟨c2, e⟩ | ⟨c2, e⟩
  · have c2 : (hI h (n + 152) x1.toNatClampNeg).toInt = 0 := by
      have : hI h (n + 152) x1.toNatClampNeg = 0 := c2
      rw [this]; rfl
    rw [so_e e, if_pos (by rw [← G.1]; exact c2), if_pos (by rw [← G.1]; exact c2)]
    exact cao_0 k R rfl rfl
  have c2 := ne_i c2
  have c2 : ¬ (hI h (n + 152) x1.toNatClampNeg).toInt = 0 := c2
  rw [G.1] at c2
  rw [if_neg c2, if_neg c2]
  replace e := ce_e W e
  replace e := gg_e e
  replace e := gg_e e
  obtain ⟨h12, w12, e⟩ := nm_s e
  have k12 : DyK n h h12 := by rw [w12]; exact dk_wI k
  replace e := ce_e (dk_e (a := 0) (f := 17) (b := 152) k12 (by decide +kernel)) e
  replace e := gg_e e
  have v : (hI h12 (n + 152) x1.toNatClampNeg).toInt = syG σ x1.toNatClampNeg - 1 := by
    rw [w12, r_I, if_pos ⟨rfl, rfl⟩, ts (by rw [z1, G.1]; omega), z1, G.1]
  have FF : FrW (fun a i => a = n + 152 ∧ i = x1.toNatClampNeg) h h12 := ⟨by rw [w12]; exact Nat.le_refl _, fun a i _ nw => by rw [w12]; exact ⟨by rw [r_I, if_neg nw], rfl⟩⟩
  rw [so_e e]
  have gl : syG (syGl σ x1.toNatClampNeg (syG σ x1.toNatClampNeg - 1)) x1.toNatClampNeg = syG σ x1.toNatClampNeg - 1 := if_pos rfl
  refine ⟨v, relc_gm k Ok R g8 FF k12 rfl rfl rfl rfl (fun q hq nq => ⟨if_neg nq, fun _ _ => ⟨rfl, rfl⟩⟩) (fun a i c _ => Or.inr (Or.inl c)) ⟨by rw [gl]; exact v, fun i hi => ?_⟩, k12, frc_w k FF (fun a i c _ => Or.inl (by omega))⟩
  rw [gl] at hi
  obtain ⟨⟨a, ea, ca⟩, m⟩ := G.2 i (by omega)
  obtain ⟨lo, hi'⟩ := dy_lo k (q := (150, 2408, 6, 1000, fsP)) (by decide) (show 301 * x1.toNatClampNeg + i < 2408 by omega) ea
  obtain ⟨u1, u2⟩ := pag_f k k12 FF (show 301 * x1.toNatClampNeg + i < 2408 by omega) ea (fun j f hj c => by omega) ca
  refine ⟨⟨a, u1, u2⟩, fun l => ?_⟩
  rw [(FF.2 (n + 151) _ (by omega) (fun c => by omega)).1]
  exact m (by omega)
/-- played -/
noncomputable def anPld (σ : Sy) (x1 x2 : Int32) : Int := if prB' (gmI x1) = true then (if 0 ≤ x2.toInt ∧ x2.toInt < syG σ x1.toNatClampNeg then syMv σ (301 * x1.toNatClampNeg + x2.toNatClampNeg) else -102) else -101
theorem ca_played (k : DyK n h h) (Ok : SyOk σ) (R : RelC n h σ) (e : sX11_played h n x1 x2 = some o) : CaO n h σ o (anPld σ x1 x2) := by
  have z0 : (0 : Int32).toInt = 0 := rfl
  unfold sX11_played sX11_played_39 sX11_played_41 at e
  unfold anPld
  obtain ⟨o1, e1, e⟩ := cl_s e
  obtain ⟨q1, c1⟩ := isg_c e1
  rw [q1] at e
  rcases c1 with ⟨d1, d2⟩ | ⟨d1, d2⟩
  · rw [so_e (bp_e d1 e), prb_f.mpr d2, if_neg (by decide)]
    exact cao_0 k R rfl rfl
  replace e := bn_e d1 e
  rw [prb_e.mpr d2, if_pos rfl]
  obtain ⟨g8, gn⟩ := gmi_n d2
  have G := (R.2.2.1 _ g8)
  have Gb := (Ok.2.2.1 _ g8).1
  rcases br_s e with ⟨c, e⟩ | ⟨c, e⟩
  · have := lt_i c
    rw [so_e e, if_neg (by omega)]
    exact cao_0 k R rfl rfl
  have c := nlt_i c
  have nc := nc_i (x := x2) (by omega)
  replace e := ce_e (dk_e (a := 0) (f := 17) (b := 152) k (by decide +kernel)) e
  replace e := gg_e e
  rcases br_s e with ⟨c2, e⟩ | ⟨c2, e⟩
  · have c2 : (hI h (n + 152) x1.toNatClampNeg).toInt ≤ x2.toInt := le_i c2
    rw [G.1] at c2
    rw [so_e e, if_neg (by omega)]
    exact cao_0 k R rfl rfl
  have c2 : x2.toInt < (hI h (n + 152) x1.toNatClampNeg).toInt := nle_i c2
  rw [G.1] at c2
  rw [if_pos ⟨by omega, c2⟩]
  replace e := ce_e (dk_e (a := 0) (f := 16) (b := 151) k (by decide +kernel)) e
  replace e := gg_e e
  rw [so_e e]
  have ix := (ix_g d2 (y := x2) (q := x2.toNatClampNeg) (by omega) (by omega)).2
  refine cao_0 k R rfl ?_
  show (hI h (n + 151) ((x1 * (301 : Int32)) + x2).toNatClampNeg).toInt = _
  rw [ix]
  exact (G.2 x2.toNatClampNeg (by omega)).2 (by omega)
end
end
section
/-! games, the class: start, now, add -/
section
variable {n F : Nat} {h : Hp} {σ : Sy} {o : Int32 × Hp} {x1 x2 x3 : Int32}
theorem ca_mono {σ' : Sy} {a : Int} {h0 : Hp} (k : DyK n h0 h) (f : FrC n h0 h) (R : CaO n h σ' o a) : CaO n h0 σ' o a := ⟨R.1, R.2.1, dk_t k R.2.2.1, frc_t k f R.2.2.2⟩
/-- a page, found or made -/
theorem got_c {i r : Nat} {o2 : Hp} (k : DyK n h h) (Ok : SyOk σ) (R : RelC n h σ) (G : Got n h h o2 150 i 6 r) : DyK n h o2 ∧ RelC n o2 σ ∧ FrC n h o2 := by
  have k2 : DyK n h o2 := dk_got k (by decide) G
  have F : FrW (fun _ _ => False) h o2 := got_w G
  exact ⟨k2, relc_f k k2 F (fun _ _ _ c => c) (fun _ _ _ _ _ _ _ _ _ c => c) (lgle Ok) R, frc_w k F (fun _ _ c _ => c.elim)⟩
theorem bke_g {own : Nat → Nat} {i a : Nat} (D : DnS n h own) (hi : i < 2408) (e : hR h (n + 150) i = some a) : BkE own h a 1 (1000 + i) := by
  obtain ⟨_, a2, _⟩ := bk_dy D (q := (150, 2408, 6, 1000, fsP)) (by decide) hi e
  exact Or.inl ⟨a2, by omega, by omega⟩
theorem pg_T {g : Hp} {i a : Nat} (k : DyK n g h) (hi : i < 2408) (e : hR h (n + 150) i = some a) : ∀ q, q ∈ fsP → hR h a q.1 = some (a + q.2) := by
  obtain ⟨own, Dw⟩ := k.1.1
  exact (bk_dy Dw (q := (150, 2408, 6, 1000, fsP)) (by decide) hi e).2.2
/-- start -/
noncomputable def anSta (σ : Sy) (x1 x2 : Int32) : Int := if prB' (gmI x1) = true then plE σ x2 (-102) (fun _ => 0) else -101
noncomputable def sySta (σ : Sy) (x1 x2 : Int32) : Sy := if prB' (gmI x1) = true then (match sPl σ x2 with
  | none => σ
  | some P => syGl (syGq σ (301 * x1.toNatClampNeg) P) x1.toNatClampNeg 0) else σ
theorem ca_start (k : DyK n h h) (Ok : SyOk σ) (R : RelC n h σ) (e : sX11_start F h n x1 x2 = some o) : CaO n h (sySta σ x1 x2) o (anSta σ x1 x2) := by
  have z0 : (0 : Int32).toInt = 0 := rfl
  unfold sX11_start sX11_start_4 sX11_start_15 at e
  unfold anSta sySta
  obtain ⟨o1, e1, e⟩ := cl_s e
  obtain ⟨q1, c1⟩ := isg_c e1
  rw [q1] at e
  rcases c1 with ⟨d1, d2⟩ | ⟨d1, d2⟩
  · rw [so_e (bp_e d1 e), prb_f.mpr d2, if_neg (by decide), if_neg (by decide)]
    exact cao_0 k R rfl rfl
  replace e := bn_e d1 e
  rw [prb_e.mpr d2, if_pos rfl, if_pos rfl]
  obtain ⟨g8, gn⟩ := gmi_n d2
  obtain ⟨o2, e2, e⟩ := cl_s e
  obtain ⟨q2, c2⟩ := isp_c k R.2.1 e2
  rw [q2] at e
  rcases c2 with ⟨d3, d4⟩ | ⟨d3, P, d4⟩
  · rw [so_e (bp_e d3 e), ple_n d4, d4]
    exact cao_0 k R rfl rfl
  replace e := bn_e d3 e
  rw [ple_s d4, d4]
  show CaO n h (syGl (syGq σ (301 * x1.toNatClampNeg) P) x1.toNatClampNeg 0) o 0
  obtain ⟨_, _, b3, _⟩ := spl_b d4
  obtain ⟨o3, e3, e⟩ := cl_s e
  obtain ⟨_, _, G⟩ := pg_g k.1 e3
  have ix := (ix_g d2 (y := (0 : Int32)) (q := 0) rfl (by decide)).2
  rw [ix, Nat.add_zero] at G
  have i24 : 301 * x1.toNatClampNeg < 2408 := by omega
  obtain ⟨k3, R3, f3⟩ := got_c k Ok R G
  refine ca_mono k3 f3 ?_
  have k3' := dk_self k3
  have s3 := dk_610 k3
  unfold sX11_start_27 at e
  replace e := ce_e (dk_e (a := 0) (f := 13) (b := 148) k3 (by decide +kernel)) e
  replace e := gg_e e
  obtain ⟨r3, f4, e⟩ := cl_s e
  have g4 := pl_at k3 b3 f4
  subst g4
  obtain ⟨o4, e4, e⟩ := cl_s e
  obtain ⟨own, Dw⟩ := k3.1.1
  obtain ⟨lo, hi⟩ := dy_lo k3 (q := (150, 2408, 6, 1000, fsP)) (by decide) i24 G.2.1
  have hi : o3.1 + 6 ≤ hS o3.2 := hi
  obtain ⟨F4, k4, A4⟩ := cpy_k k3' Dw.1 (bk_pl Dw.1 b3) (bk_12 (bke_g Dw i24 G.2.1) (by omega)) (by omega) (cpl_p R3.2.1 d4) (pg_T k3 i24 G.2.1) e4
  unfold sX11_start_36 at e
  replace e := ce_e (dk_e (a := 0) (f := 17) (b := 152) k4 (by decide +kernel)) e
  replace e := gg_e e
  obtain ⟨h5, w5, e⟩ := nm_s e
  have k5 : DyK n o3.2 h5 := by rw [w5]; exact dk_wI k4
  rw [so_e e]
  have F5 : FrW (fun a i => a = n + 152 ∧ i = x1.toNatClampNeg) o4 h5 := ⟨by rw [w5]; exact Nat.le_refl _, fun a i _ nw => by rw [w5]; exact ⟨by rw [r_I, if_neg nw], rfl⟩⟩
  have FF : FrW (fun a i => (a = n + 152 ∧ i = x1.toNatClampNeg) ∨ (o3.1 ≤ a ∧ a < o3.1 + 6)) o3.2 h5 := fw_t (fw_s F4 (fun _ _ c => Or.inr c)) (fw_s F5 (fun _ _ c => Or.inl c))
  have gl : syG (syGl (syGq σ (301 * x1.toNatClampNeg) P) x1.toNatClampNeg 0) x1.toNatClampNeg = 0 := if_pos rfl
  refine ⟨rfl, relc_gm (σ' := syGl (syGq σ (301 * x1.toNatClampNeg) P) x1.toNatClampNeg 0) k3' Ok R3 g8 FF k5 rfl rfl rfl rfl (fun q hq nq => ⟨if_neg nq, fun i hi => ⟨if_neg (by omega), rfl⟩⟩) (fun a i c _ => ?_) ⟨?_, fun i hi => ?_⟩, k5, frc_w k3' FF (fun a i c _ => ?_)⟩
  · rcases c with c | c
    · exact Or.inr (Or.inl c)
    · exact Or.inr (Or.inr (Or.inr ⟨0, o3.1, by decide, G.2.1, c⟩))
  · rw [gl, w5, r_I, if_pos ⟨rfl, rfl⟩]; rfl
  · rw [gl] at hi ⊢
    have i0 : i = 0 := by omega
    subst i0
    have ks := ks_r k5 (q := (150, 2408, 6, 1000, fsP)) (by decide) G.2.1
    refine ⟨⟨o3.1, ks, ?_⟩, fun l => by omega⟩
    have sq : syQ (syGl (syGq σ (301 * x1.toNatClampNeg) P) x1.toNatClampNeg 0) (301 * x1.toNatClampNeg + 0) = P := if_pos rfl
    rw [sq]
    exact cpa_f A4 (pg_T k5 i24 ks) (fun j f hj => F5.2 _ _ (by have := F4.1; omega) (fun c => by omega))
  · rcases c with c | c
    · exact Or.inl (by omega)
    · exact Or.inr ⟨_, o3.1, i24, G.2.1, c⟩
/-- now -/
noncomputable def anNow (σ : Sy) (x1 : Int32) : Int := if prB' (gmI x1) = true then (if syG σ x1.toNatClampNeg = -1 then -102 else if frE σ 60 = -1 then -104 else frE σ 60) else -101
noncomputable def syNow (σ : Sy) (x1 : Int32) : Sy := if prB' (gmI x1) = true then (if syG σ x1.toNatClampNeg = -1 then σ else if frE σ 60 = -1 then σ else syPut σ (frE σ 60).toNat (some (syQ σ (301 * x1.toNatClampNeg + (syG σ x1.toNatClampNeg).toNat)))) else σ
/-- the last page of a game that is there -/
theorem pg_l {y : Int32} {o : Nat × Hp} {g' q : Nat} {P : Pz} (k : DyK n h h) (d2 : gmI x1) (eg : x1.toNatClampNeg = g') (ey : y.toInt = (q : Int)) (lq : q ≤ 301) {a : Nat} (ea : hR h (n + 150) (301 * g' + q) = some a) (e : sX11_page F h n x1 y = some o) : o = (a, h) := by
  obtain ⟨_, _, G⟩ := pg_g k.1 e
  have ix := (ix_g d2 (y := y) (q := q) ey lq).2
  rw [ix, eg] at G
  rcases G.2.2 with ⟨u, v⟩ | ⟨u, _⟩
  · rw [ea] at u
    exact Prod.ext (Option.some.inj u).symm v
  · rw [ea] at u; exact nomatch u
theorem ca_now (k : DyK n h h) (Ok : SyOk σ) (R : RelC n h σ) (e : sX11_now F h n x1 = some o) : CaO n h (syNow σ x1) o (anNow σ x1) := by
  have zm : (-1 : Int32).toInt = -1 := rfl
  have s6 := dk_610 k
  unfold sX11_now sX11_now_4 at e
  unfold anNow syNow
  obtain ⟨o1, e1, e⟩ := cl_s e
  obtain ⟨q1, c1⟩ := isg_c e1
  rw [q1] at e
  rcases c1 with ⟨d1, d2⟩ | ⟨d1, d2⟩
  · rw [so_e (bp_e d1 e), prb_f.mpr d2, if_neg (by decide), if_neg (by decide)]
    exact cao_0 k R rfl rfl
  replace e := bn_e d1 e
  rw [prb_e.mpr d2, if_pos rfl, if_pos rfl]
  obtain ⟨g8, gn⟩ := gmi_n d2
  have G := R.2.2.1 _ g8
  have Gb := (Ok.2.2.1 _ g8).1
  have W := dk_e (a := 0) (f := 17) (b := 152) k (by decide +kernel)
  replace e := ce_e W e
  replace e := gg_e e
  rcases br_s e with ⟨c, e⟩ | ⟨c, e⟩
  · have c : (hI h (n + 152) x1.toNatClampNeg).toInt = -1 := by
      have : hI h (n + 152) x1.toNatClampNeg = -1 := c
      rw [this]; rfl
    rw [so_e e, if_pos (by rw [← G.1]; exact c), if_pos (by rw [← G.1]; exact c)]
    exact cao_0 k R rfl rfl
  have c := ne_i c
  have c : ¬ (hI h (n + 152) x1.toNatClampNeg).toInt = -1 := c
  rw [G.1] at c
  rw [if_neg c, if_neg c]
  obtain ⟨o4, e4, e⟩ := cl_s e
  obtain ⟨p1, p2⟩ := fp_c k R.2.1 e4
  rw [p1] at e
  unfold sX11_now_27 at e
  rcases br_s e with ⟨c5, e⟩ | ⟨c5, e⟩
  · have c5 : o4.1.toInt = -1 := by rw [c5]; rfl
    rw [so_e e, if_pos (by omega), if_pos (by omega)]
    exact cao_0 k R rfl rfl
  have c5 := ne_i c5
  rw [zm] at c5
  rw [if_neg (by omega), if_neg (by omega)]
  rcases fre_b (σ := σ) 60 (by decide) with w | ⟨p, hp, w, wn⟩
  · omega
  have np : o4.1.toNatClampNeg = p := by have := nc_i (x := o4.1) (by omega); omega
  rw [w, show (p : Int).toNat = p by omega]
  replace e := ce_e W e
  replace e := gg_e e
  obtain ⟨lq, hlq⟩ : ∃ q : Nat, syG σ x1.toNatClampNeg = (q : Int) := ⟨(syG σ x1.toNatClampNeg).toNat, by omega⟩
  obtain ⟨⟨a, ea, A⟩, _⟩ := G.2 lq (by omega)
  have i24 : 301 * x1.toNatClampNeg + lq < 2408 := by omega
  rw [show (syG σ x1.toNatClampNeg).toNat = lq by omega]
  obtain ⟨o6, e6, e⟩ := cl_s e
  have y6 := pg_l (P := (syQ σ 0)) k d2 rfl (show (hI h (n + 152) x1.toNatClampNeg).toInt = (lq : Int) by rw [G.1]; exact hlq) (by omega) ea e6
  subst y6
  unfold sX11_now_49 sX11_now_52 at e
  obtain ⟨o9, e9, e⟩ := cl_s e
  rw [so_e e]
  unfold sX11_settle at e9
  replace e9 := ce_e (dk_e (a := 0) (f := 14) (b := 149) k (by decide +kernel)) e9
  replace e9 := gg_e e9
  obtain ⟨h3, w3, e9⟩ := nm_s e9
  rw [np, nar_1] at w3
  have k3 : DyK n h h3 := by rw [w3]; exact dk_wI k
  replace e9 := ce_e (dk_e (a := 0) (f := 13) (b := 148) k3 (by decide +kernel)) e9
  replace e9 := gg_e e9
  rw [np] at e9
  obtain ⟨s6', f6, e9⟩ := cl_s e9
  have g6 := pl_at k3 hp f6
  subst g6
  obtain ⟨o7, f7, e9⟩ := cl_s e9
  have e9 := so_e e9
  subst e9
  have F3 : FrW (fun a i => a = n + 149 ∧ i = p) h h3 := ⟨by rw [w3]; exact Nat.le_refl _, fun a i l nw => by rw [w3]; exact ⟨by rw [r_I, if_neg nw], rfl⟩⟩
  obtain ⟨lo, hi⟩ := dy_lo k (q := (150, 2408, 6, 1000, fsP)) (by decide) i24 ea
  obtain ⟨ea3, A3⟩ := pag_f k k3 F3 i24 ea (fun j f hj c => by omega) A
  obtain ⟨own, Dw⟩ := k3.1.1
  obtain ⟨F7, k7, A7⟩ := cpy_k k3 Dw.1 (bke_g Dw i24 ea3) (bk_12 (bk_pl Dw.1 hp) (by omega)) (by omega) A3 (pl_R k3 hp) f7
  have FF : FrW (fun a i => (a = n + 149 ∧ i = p) ∨ (n + (153 + 6 * p) ≤ a ∧ a < n + (153 + 6 * p) + 6)) h o9 := fw_t (fw_s F3 (fun _ _ c => Or.inl c)) (fw_s F7 (fun _ _ c => Or.inr c))
  have u1 : hI o9 (n + 149) p = 1 := by
    rw [(F7.2 (n + 149) p (by have := F3.1; omega) (fun u => by omega)).1, w3, r_I, if_pos ⟨rfl, rfl⟩]
  exact ⟨by show o4.1.toInt = (p : Int); omega, relc_pl k Ok R hp FF k7 (fun _ _ c => Or.inr c) (Or.inr ⟨_, if_pos rfl, u1, A7⟩), k7, frc_w k FF (fun a i c _ => Or.inl (by omega))⟩
end
end
