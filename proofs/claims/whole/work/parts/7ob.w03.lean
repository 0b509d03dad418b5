section
/-! the class's board, as it is told: files and ranks of its squares -/
def BTb (n : Nat) (W c : Int) (h : Hp) : Prop := ∀ s : Nat, (s : Int) < c → (hI h (n + 11) s).toInt = (s : Int) % W ∧ (hI h (n + 12) s).toInt = (s : Int) / W
def BDc (n : Nat) (h : Hp) : Prop := (3 ≤ (hI h (n + 5) 0).toInt ∧ (hI h (n + 5) 0).toInt ≤ 8 ∧ 3 ≤ (hI h (n + 5) 1).toInt ∧ (hI h (n + 5) 1).toInt ≤ 8) → BTb n (hI h (n + 5) 0).toInt ((hI h (n + 5) 0).toInt * (hI h (n + 5) 1).toInt) h
section
variable {n F : Nat} {g h : Hp}
theorem wdm {W r f : Int} (hW : 0 < W) (f0 : 0 ≤ f) (f1 : f < W) : (r * W + f) % W = f ∧ (r * W + f) / W = r := by
  refine ⟨?_, ?_⟩
  · rw [Int.add_comm, Int.add_mul_emod_self_right, Int.emod_eq_of_lt f0 f1]
  · rw [Int.add_comm, Int.add_mul_ediv_right _ _ (by omega), Int.ediv_eq_zero_of_lt f0 f1]
    omega
theorem sbx_28 {Q : Hp → Prop} {K : Hp → Nat → Int32 → Option Hp} {o : Hp} {x3 a b : Int32} {W H r : Int} (hW : 3 ≤ W ∧ W ≤ 8) (hH : H ≤ 8) (ea : a.toInt = W) (i3 : x3.toInt = r) (r0 : 0 ≤ r) (rH : r < H) (hK : ∀ {h : Hp} {v : Int32}, DyK n g h → hI h (n + 5) 0 = a → hI h (n + 5) 1 = b → v.toInt = r + 1 → (hI h (n + 5) 2).toInt = (r + 1) * W → BTb n W ((r + 1) * W) h → K h (n + 5) v = some o → Q o) : ∀ (f : Nat) {h : Hp} {x4 : Int32} {c : Int}, DyK n g h → hI h (n + 5) 0 = a → hI h (n + 5) 1 = b → x4.toInt = c → 0 ≤ c → c ≤ W → (hI h (n + 5) 2).toInt = r * W + c → BTb n W (r * W + c) h → sX1_setBoard_28 F K f h (n + 5) x3 x4 = some o → Q o := by
  have z1 : (1 : Int32).toInt = 1 := rfl
  have z64 : (64 : Int32).toInt = 64 := rfl
  have m1 : r * W ≤ 7 * 8 := Int.mul_le_mul (by omega) hW.2 (by omega) (by decide)
  have m0 : 0 ≤ r * W := Int.mul_nonneg r0 (by omega)
  have ad : (r + 1) * W = r * W + W := by rw [Int.add_mul, Int.one_mul]
  intro f
  induction f with
  | zero => intro h x4 c _ _ _ _ _ _ _ _ e; exact absurd e (by rw [sX1_setBoard_28]; exact fun z => nomatch z)
  | succ f ih =>
    intro h x4 c k h0 h1 i4 c0 cW i2 T e
    rw [sX1_setBoard_28, h0] at e
    unfold sX1_setBoard_83 at e
    rcases br_s e with ⟨c4, e⟩ | ⟨c4, e⟩
    · have c4 := le_i c4
      have cc : c = W := by omega
      replace e := nx_e e
      exact hK k h0 h1 (by rw [ta (by omega), z1, i3]) (by rw [ad, i2, cc]) (by rw [ad]; rw [cc] at T; exact T) e
    have c4 := nle_i c4
    rcases br_s e with ⟨c5, e⟩ | ⟨_, e⟩
    · have c5 := le_i c5
      omega
    have sn := nc_i (x := hI h (n + 5) 2) (by omega)
    replace e := ce_e (dk_e (a := 5) (f := 19) (b := 11) k (by decide +kernel)) e
    replace e := gg_e e
    obtain ⟨h5, w5, e⟩ := nm_s e
    have k5 : DyK n g h5 := by rw [w5]; exact dk_wI k
    have y5 : hI h5 (n + 5) 2 = hI h (n + 5) 2 := by rw [w5, rI_a (by omega)]
    replace e := ce_e (dk_e (a := 5) (f := 20) (b := 12) k5 (by decide +kernel)) e
    replace e := gg_e e
    obtain ⟨h8, w8, e⟩ := nm_s e
    have k8 : DyK n g h8 := by rw [w8]; exact dk_wI k5
    rw [y5] at w8
    have y8 : hI h8 (n + 5) 2 = hI h (n + 5) 2 := by rw [w8, rI_a (by omega), y5]
    obtain ⟨h9, w9, e⟩ := nm_s e
    have k9 : DyK n g h9 := by rw [w9]; exact dk_wI k8
    rw [y8] at w9
    replace e := nx_e e
    have q5 : ∀ i, ¬ i = 2 → hI h9 (n + 5) i = hI h (n + 5) i := fun i z => by rw [w9, rI_o z, w8, rI_a (by omega), w5, rI_a (by omega)]
    refine ih (c := c + 1) k9 (by rw [q5 _ (by decide)]; exact h0) (by rw [q5 _ (by decide)]; exact h1) (by rw [ta (by omega), z1, i4]) (by omega) (by omega) (by rw [w9, rI_s, ta (by omega), z1, i2]; omega) (fun s hs => ?_) e
    have e11 : hI h9 (n + 11) s = if s = (hI h (n + 5) 2).toNatClampNeg then x4 else hI h (n + 11) s := by
      rw [w9, rI_a (by omega), w8, rI_a (by omega), w5, r_I]
      by_cases y : s = (hI h (n + 5) 2).toNatClampNeg
      · rw [if_pos ⟨rfl, y⟩, if_pos y]
      · rw [if_neg (fun z => y z.2), if_neg y]
    have e12 : hI h9 (n + 12) s = if s = (hI h (n + 5) 2).toNatClampNeg then x3 else hI h (n + 12) s := by
      rw [w9, rI_a (by omega), w8, r_I, w5]
      by_cases y : s = (hI h (n + 5) 2).toNatClampNeg
      · rw [if_pos ⟨rfl, y⟩, if_pos y]
      · rw [if_neg (fun z => y z.2), if_neg y, rI_a (by omega)]
    by_cases y : s = (hI h (n + 5) 2).toNatClampNeg
    · rw [e11, e12, if_pos y, if_pos y]
      have sv : (s : Int) = r * W + c := by omega
      obtain ⟨d1, d2⟩ := wdm (W := W) (r := r) (f := c) (by omega) c0 (by omega)
      rw [sv, d1, d2]
      exact ⟨i4, i3⟩
    · rw [e11, e12, if_neg y, if_neg y]
      exact T s (by omega)
theorem sbx_17 {o : Hp} {a b : Int32} {W H : Int} (hW : 3 ≤ W ∧ W ≤ 8) (hH : H ≤ 8) (ea : a.toInt = W) (eb : b.toInt = H) : ∀ (f : Nat) {h : Hp} {x3 : Int32} {r : Int}, DyK n g h → hI h (n + 5) 0 = a → hI h (n + 5) 1 = b → x3.toInt = r → 0 ≤ r → r ≤ H → (hI h (n + 5) 2).toInt = r * W → BTb n W (r * W) h → sX1_setBoard_17 F f h (n + 5) x3 = some o → (hI o (n + 5) 0 = a ∧ hI o (n + 5) 1 = b) ∧ BTb n W (H * W) o := by
  intro f
  induction f with
  | zero => intro h x3 r _ _ _ _ _ _ _ _ e; exact absurd e (by rw [sX1_setBoard_17]; exact fun z => nomatch z)
  | succ f ih =>
    intro h x3 r k h0 h1 i3 r0 rH i2 T e
    rw [sX1_setBoard_17, h1] at e
    rcases br_s e with ⟨c, e⟩ | ⟨c, e⟩
    · have c := le_i c
      have rr : r = H := by omega
      rw [so_e e, ← rr]
      exact ⟨⟨h0, h1⟩, T⟩
    have c := nle_i c
    exact sbx_28 (Q := fun o => (hI o (n + 5) 0 = a ∧ hI o (n + 5) 1 = b) ∧ BTb n W (H * W) o) hW hH ea i3 r0 (by omega) (fun k h0 h1 v i2 T e => ih k h0 h1 v (by omega) (by omega) i2 T e) F (c := 0) k h0 h1 rfl (Int.le_refl _) (by omega) (by omega) (by rw [Int.add_zero]; exact T) e
/-- without a premise on the numbers: what they are -/
theorem sb_any {o : Hp} {a b : Int32} (k : DyK n g h) (e : sX1_setBoard F h (n + 5) a b = some o) : hI o (n + 5) 0 = a ∧ hI o (n + 5) 1 = b := (sbf (L := n + 5) (a := n + 11) (b := n + 12) (dk_e (a := 5) (f := 19) (b := 11) k (by decide +kernel)) (dk_e (a := 5) (f := 20) (b := 12) k (by decide +kernel)) (by omega) (by omega) e).1
theorem sb_x {o : Hp} {a b : Int32} (k : DyK n g h) (e : sX1_setBoard F h (n + 5) a b = some o) : BDc n o := fun z => by
  obtain ⟨ea, eb⟩ := sb_any k e
  rw [ea, eb] at z ⊢
  have z0 : (0 : Int32).toInt = 0 := rfl
  unfold sX1_setBoard at e
  iterate 3 replace e := nx_e e
  have := (sbx_17 (a := a) (b := b) (W := a.toInt) (H := b.toInt) ⟨z.1, z.2.1⟩ z.2.2.2 rfl rfl F (r := 0) (dk_wI (dk_wI (dk_wI k))) (by rw [rI_o (by decide), rI_o (by decide), rI_s]) (by rw [rI_o (by decide), rI_s]) rfl (Int.le_refl _) (by omega) (by rw [rI_s, Int.zero_mul]; rfl) (fun s hs => by rw [Int.zero_mul] at hs; omega) e).2
  rw [Int.mul_comm]
  exact this
theorem bdc_k {o : Hp} (k : DyK n g h) (f : FrW (WRm n) h o) (B : BDc n h) : BDc n o := by
  have s6 := dk_610 k
  have q : ∀ a i, a < n + 610 → ¬ WRm n a i → hI o a i = hI h a i := fun a i l z => (f.2 a i (by omega) z).1
  have e0 := q (n + 5) 0 (by omega) (fun c => by unfold WRm at c; omega)
  have e1 := q (n + 5) 1 (by omega) (fun c => by unfold WRm at c; omega)
  intro z
  rw [e0, e1] at z ⊢
  intro s hs
  rw [q (n + 11) s (by omega) (fun c => by unfold WRm at c; omega), q (n + 12) s (by omega) (fun c => by unfold WRm at c; omega)]
  exact B z s hs
theorem wrm_l {a i : Nat} (c : WRm n a i) : WRl n 5 a i := by
  unfold WRm at c
  unfold WRl
  omega
theorem bdc_0 (z : hI h (n + 5) 0 = 0) : BDc n h := fun y => by
  rw [z] at y
  exact absurd y.1 (by decide)
theorem tb_x {o : Int32 × Hp} (k : DyX n xlL g h) (z : hI h (n + 5) 0 = 0) (e : sX2_takeBoard F h (n + 21) = some o) : DyX n xlL g o.2 ∧ BDc n o.2 ∧ FrW (WRl n 5) h o.2 := by
  unfold sX2_takeBoard at e
  have wk : ∀ {u v : Hp}, FrW (WRm n) u v → FrW (WRl n 5) u v := fun f => fw_s f (fun _ _ c => wrm_l c)
  obtain ⟨o1, e1, e⟩ := cl_s e
  obtain ⟨k1, f1⟩ := wz_X2_isWord k e1
  rcases br_s e with ⟨_, e⟩ | ⟨_, e⟩
  · rw [so_e e]; exact ⟨k1, bdc_k k.1 f1 (bdc_0 z), wk f1⟩
  obtain ⟨o3, e3, e⟩ := cl_s e
  obtain ⟨k3, f3⟩ := wz_X2_advance k1 e3
  obtain ⟨o4, e4, e⟩ := cl_s e
  obtain ⟨k4, f4⟩ := wz_X2_isNumber k3 e4
  have f4 := fw_t f1 (fw_t f3 f4)
  rcases br_s e with ⟨_, e⟩ | ⟨_, e⟩
  · rw [so_e e]; exact ⟨k4, bdc_k k.1 f4 (bdc_0 z), wk f4⟩
  replace e := nx_e e
  obtain ⟨o7, e7, e⟩ := cl_s e
  obtain ⟨k7, f7⟩ := wz_X2_advance k4 e7
  obtain ⟨o8, e8, e⟩ := cl_s e
  obtain ⟨k8, f8⟩ := wz_X2_isNumber k7 e8
  have f8 := fw_t f4 (fw_t f7 f8)
  rcases br_s e with ⟨_, e⟩ | ⟨_, e⟩
  · rw [so_e e]; exact ⟨k8, bdc_k k.1 f8 (bdc_0 z), wk f8⟩
  obtain ⟨r10, e10, e⟩ := cl_s e
  have y10 := dx_xd (a := 21) (b := 5) k8 (by decide) e10
  subst y10
  obtain ⟨o11, e11, e⟩ := cl_s e
  obtain ⟨k11, f11⟩ := wr_X1_setBoard k8 e11
  have B11 := sb_x k8.1 e11
  obtain ⟨o12, e12, e⟩ := cl_s e
  obtain ⟨k12, f12⟩ := wz_X2_advance k11 e12
  obtain ⟨o13, e13, e⟩ := cl_s e
  obtain ⟨k13, f13⟩ := wz_X2_takeEnd k12 e13
  rw [so_e (gg_e e)]
  exact ⟨k13, bdc_k k12.1 f13 (bdc_k k11.1 f12 B11), fw_t (wk f8) (fw_t f11 (wk (fw_t f12 f13)))⟩
theorem cl_x {o : Hp} (k : DyX n xlL g h) (e : sX1_clear F h (n + 5) = some o) : hI o (n + 5) 0 = 0 := by
  have s6 := dk_610 k.1
  unfold sX1_clear at e
  iterate 14 replace e := nx_e e
  obtain ⟨r15, e15, e⟩ := cl_s e
  have k14 : DyX n xlL g (wJ (wI (wI (wI (wI (wI (wI (wI (wI (wI (wI (wI (wI (wI h (n + 5) 12 0) (n + 5) 11 0) (n + 5) 10 0) (n + 5) 9 0) (n + 5) 8 0) (n + 5) 7 0) (n + 5) 3 0) (n + 5) 2 0) (n + 5) 1 0) (n + 5) 0 0) (n + 5) 6 (-1)) (n + 5) 5 (-1)) (n + 5) 4 (-1)) (n + 5) 13 0) := dx_wJ (dx_wI (dx_wI (dx_wI (dx_wI (dx_wI (dx_wI (dx_wI (dx_wI (dx_wI (dx_wI (dx_wI (dx_wI (dx_wI k)))))))))))))
  have y15 := dx_ed (a := 5) (b := 8) k14 (by decide +kernel) e15
  subst y15
  obtain ⟨o16, e16, e⟩ := cl_s e
  obtain ⟨k16, f16⟩ := wz_J7_fill_53178 (fun i => by unfold WRm; omega) k14 e16
  obtain ⟨r17, e17, e⟩ := cl_s e
  have y17 := dx_ed (a := 5) (b := 10) k16 (by decide +kernel) e17
  subst y17
  obtain ⟨o18, e18, e⟩ := cl_s e
  obtain ⟨k18, f18⟩ := wz_J7_fill_53178 (fun i => by unfold WRm; omega) k16 e18
  rw [so_e e, ((fw_t f16 f18).2 (n + 5) 0 (by have := dk_610 k14.1; omega) (fun c => by unfold WRm at c; omega)).1]
  show hI (wI (wI (wI (wI _ (n + 5) 0 0) (n + 5) 6 (-1)) (n + 5) 5 (-1)) (n + 5) 4 (-1)) (n + 5) 0 = 0
  rw [rI_o (by decide), rI_o (by decide), rI_o (by decide), rI_s]
/-- reading into the law -/
theorem rdl_x {o : Int32 × Hp} (k : DyK n g h) (e : sX2_read F h (n + 21) (n + 1) (n + 5) = some o) : DyK n g o.2 ∧ BDc n o.2 ∧ FrW (WRl n 5) h o.2 := by
  unfold sX2_read at e
  replace e := nx_e e
  replace e := nx_e e
  have k2 : DyX n xlL g (wR (wR h (n + 21) 0 (some (n + 1))) (n + 21) 1 (some (n + 5))) := by
    refine ⟨dk_yc (dk_yc k (Or.inl rfl)) (Or.inl rfl), fun e he => ?_⟩
    have : e = (21, 0, 1) ∨ e = (21, 1, 5) := by simpa using he
    rcases this with z | z <;> rw [z]
    · show hR (wR (wR h (n + 21) 0 (some (n + 1))) (n + 21) 1 (some (n + 5))) (n + 21) 0 = _
      rw [r_R, if_neg (fun z => absurd z.2 (by decide)), r_R, if_pos ⟨rfl, rfl⟩]
    · show hR (wR (wR h (n + 21) 0 (some (n + 1))) (n + 21) 1 (some (n + 5))) (n + 21) 1 = _
      rw [r_R, if_pos ⟨rfl, rfl⟩]
  obtain ⟨r3, e3, e⟩ := cl_s e
  have y3 := dx_xd (a := 21) (b := 5) k2 (by decide) e3
  subst y3
  obtain ⟨o4, e4, e⟩ := cl_s e
  obtain ⟨k4, f4⟩ := wr_X1_clear k2 e4
  have z4 := cl_x k2 e4
  obtain ⟨h5, w5, e⟩ := nm_s e
  obtain ⟨h6, w6, e⟩ := nm_s e
  have k6 : DyX n xlL g h6 := by rw [w6, w5]; exact dx_wI (dx_wI k4)
  have f6 : FrW (WRm n) o4 h6 := by rw [w6, w5]; exact fw_wI (fw_wI fw_0 (Or.inl rfl)) (Or.inl rfl)
  have z6 : hI h6 (n + 5) 0 = 0 := by rw [w6, rI_a (by omega), w5, rI_a (by omega)]; exact z4
  obtain ⟨o7, e7, e⟩ := cl_s e
  obtain ⟨k7, f7⟩ := wz_X2_advance k6 e7
  have z7 : hI o7 (n + 5) 0 = 0 := by
    rw [(f7.2 (n + 5) 0 (by have := dk_610 k6.1; omega) (fun c => by unfold WRm at c; omega)).1]; exact z6
  obtain ⟨o8, e8, e⟩ := cl_s e
  obtain ⟨k8, B8, f8⟩ := tb_x k7 z7 e8
  obtain ⟨k9, f9⟩ := wz_X2_read_39 F k8 e
  have wk : ∀ {u v : Hp}, FrW (WRm n) u v → FrW (WRl n 5) u v := fun f => fw_s f (fun _ _ c => wrm_l c)
  have f0 : FrW (WRl n 5) h (wR (wR h (n + 21) 0 (some (n + 1))) (n + 21) 1 (some (n + 5))) := fw_wR (fw_wR fw_0)
  exact ⟨k9.1, bdc_k k8.1 f9 B8, fw_t f0 (fw_t f4 (fw_t (wk f6) (fw_t (wk f7) (fw_t f8 (wk f9)))))⟩
/-- reading on trial -/
theorem rdt_x {o : Int32 × Hp} (k : DyK n g h) (e : sX2_read F h (n + 21) (n + 1) (n + 13) = some o) : DyK n g o.2 ∧ FrW (WRl n 13) h o.2 := by
  unfold sX2_read at e
  replace e := nx_e e
  replace e := nx_e e
  have k2 : DyX n xlT g (wR (wR h (n + 21) 0 (some (n + 1))) (n + 21) 1 (some (n + 13))) := by
    refine ⟨dk_yc (dk_yc k (Or.inl rfl)) (Or.inl rfl), fun e he => ?_⟩
    have : e = (21, 0, 1) ∨ e = (21, 1, 13) := by simpa using he
    rcases this with z | z <;> rw [z]
    · show hR (wR (wR h (n + 21) 0 (some (n + 1))) (n + 21) 1 (some (n + 13))) (n + 21) 0 = _
      rw [r_R, if_neg (fun z => absurd z.2 (by decide)), r_R, if_pos ⟨rfl, rfl⟩]
    · show hR (wR (wR h (n + 21) 0 (some (n + 1))) (n + 21) 1 (some (n + 13))) (n + 21) 1 = _
      rw [r_R, if_pos ⟨rfl, rfl⟩]
  obtain ⟨r3, e3, e⟩ := cl_s e
  have y3 := dx_xd (a := 21) (b := 13) k2 (by decide) e3
  subst y3
  obtain ⟨o4, e4, e⟩ := cl_s e
  obtain ⟨k4, f4⟩ := wq_X1_clear k2 e4
  obtain ⟨h5, w5, e⟩ := nm_s e
  obtain ⟨h6, w6, e⟩ := nm_s e
  have k6 : DyX n xlT g h6 := by rw [w6, w5]; exact dx_wI (dx_wI k4)
  have f6 : FrW (WRl n 13) o4 h6 := by rw [w6, w5]; exact fw_wI (fw_wI fw_0 (Or.inl rfl)) (Or.inl rfl)
  obtain ⟨o7, e7, e⟩ := cl_s e
  obtain ⟨k7, f7⟩ := wq_X2_advance k6 e7
  obtain ⟨o8, e8, e⟩ := cl_s e
  obtain ⟨k8, f8⟩ := wq_X2_takeBoard k7 e8
  obtain ⟨k9, f9⟩ := wq_X2_read_39 F k8 e
  have f0 : FrW (WRl n 13) h (wR (wR h (n + 21) 0 (some (n + 1))) (n + 21) 1 (some (n + 13))) := fw_wR (fw_wR fw_0)
  exact ⟨k9.1, fw_t f0 (fw_t f4 (fw_t f6 (fw_t f7 (fw_t f8 f9))))⟩
/-- laying ways -/
theorem lay_x {o : Hp} (k : DyK n g h) (e : sX10_lay F h (n + 22) (n + 5) = some o) : DyK n g o ∧ FrW (WLy n) h o := by
  unfold sX10_lay at e
  replace e := nx_e e
  replace e := nx_e e
  have k1 : DyX n xlY g (wI (wR h (n + 22) 7 (some (n + 5))) (n + 22) 8 0) := by
    refine dx_wI ⟨dk_yc k (Or.inr ⟨rfl, rfl⟩), fun e he => ?_⟩
    have : e = (22, 7, 5) := by simpa using he
    rw [this]
    show hR (wR h (n + 22) 7 (some (n + 5))) (n + 22) 7 = _
    rw [r_R, if_pos ⟨rfl, rfl⟩]
  have f1 : FrW (WLy n) h (wI (wR h (n + 22) 7 (some (n + 5))) (n + 22) 8 0) := fw_wI (fw_wR fw_0) (by unfold WLy; omega)
  obtain ⟨r3, e3, e⟩ := cl_s e
  have y3 := dx_ed (a := 22) (b := 26) k1 (by decide +kernel) e3
  subst y3
  obtain ⟨o4, e4, e⟩ := cl_s e
  obtain ⟨k4, f4⟩ := wy_J7_fill_d0a16 (fun i => by unfold WLy; omega) k1 e4
  obtain ⟨r5, e5, e⟩ := cl_s e
  have y5 := dx_ed (a := 22) (b := 27) k4 (by decide +kernel) e5
  subst y5
  obtain ⟨o6, e6, e⟩ := cl_s e
  obtain ⟨k6, f6⟩ := wy_J7_fill_d0a16 (fun i => by unfold WLy; omega) k4 e6
  obtain ⟨k7, f7⟩ := wy_X10_lay_28 F k6 e
  exact ⟨k7.1, fw_t f1 (fw_t f4 (fw_t f6 f7))⟩
end
end
section
/-! both laws as one, out of what their readers leave -/
section
variable {n w F : Nat} {g v : Hp}
abbrev lwL (n w : Nat) (v : Hp) : Nat → Nat → Int := lwR (vM n 0 0 0 0 0 (n + w)) v
theorem lw_100 {V : Nat → Nat} {h : Hp} {q : Nat} : lwR V h 100 q = 1 ↔ bitJ (hJ h (V 15) 21) q = true := by
  unfold lwR
  rw [if_neg (by decide), if_neg (by decide)]
  by_cases c : bitJ (hJ h (V 15) 21) q = true
  · rw [if_pos ⟨rfl, c⟩]; exact ⟨fun _ => c, fun _ => rfl⟩
  · rw [if_neg (fun z => c z.2)]; exact ⟨fun z => absurd z (by decide), fun z => absurd z c⟩
theorem sw4_a : ∀ y : Fin 16, (nI y.val &&& (1 : Int32) = 0 ↔ ¬ Bq (nI y.val) 0) ∧ (nI y.val &&& (2 : Int32) = 0 ↔ ¬ Bq (nI y.val) 1) ∧ (nI y.val &&& (4 : Int32) = 0 ↔ ¬ Bq (nI y.val) 2) ∧ (nI y.val &&& (8 : Int32) = 0 ↔ ¬ Bq (nI y.val) 3) := by unfold Bq; decide +kernel
theorem sw_x {x : Int32} (i : Rg 0 15 x) : (x &&& (1 : Int32) = 0 ↔ ¬ Bq x 0) ∧ (x &&& (2 : Int32) = 0 ↔ ¬ Bq x 1) ∧ (x &&& (4 : Int32) = 0 ↔ ¬ Bq x 2) ∧ (x &&& (8 : Int32) = 0 ↔ ¬ Bq x 3) := by
  have i1 := i.1
  have i2 := i.2
  have nx := nc_i i.1
  have xe : x = nI x.toNatClampNeg := Int32.toInt_inj.mp (by rw [z_toInt (by omega)]; omega)
  have := sw4_a ⟨x.toNatClampNeg, by omega⟩
  rw [xe]
  exact this
/-- where the rows of both stand -/
theorem za_q {Z : Nat → Nat} (hw : w = 516 ∨ w = 526) (k : DyK n g v) (A : ZA Z (n + 5) (n + w) v v) : (Z 2 = n + 5 ∧ Z 27 = n + 6 ∧ Z 28 = n + 7 ∧ Z 29 = n + 8 ∧ Z 30 = n + 9 ∧ Z 31 = n + 10) ∧ (Z 15 = n + w ∧ Z 73 = n + w + 1 ∧ Z 74 = n + w + 2 ∧ Z 75 = n + w + 3 ∧ Z 76 = n + w + 4 ∧ Z 77 = n + w + 5 ∧ Z 78 = n + w + 6 ∧ Z 79 = n + w + 7 ∧ Z 80 = n + w + 8 ∧ Z 81 = n + w + 9) ∧ Z 997 = 0 ∧ Z 998 = 0 := by
  obtain ⟨⟨a1, a2, a3, a4, a5, a6⟩, ⟨b1, b2, b3, b4, b5, b6, b7, b8, b9, b10⟩, c1, c2, c3⟩ := A
  exact ⟨⟨a1, r_eq (dk_e (a := 5) (f := 14) (b := 6) k (by decide +kernel)) a2, r_eq (dk_e (a := 5) (f := 15) (b := 7) k (by decide +kernel)) a3, r_eq (dk_e (a := 5) (f := 16) (b := 8) k (by decide +kernel)) a4, r_eq (dk_e (a := 5) (f := 17) (b := 9) k (by decide +kernel)) a5, r_eq (dk_e (a := 5) (f := 18) (b := 10) k (by decide +kernel)) a6⟩, ⟨b1, r_eq (lx_e k hw (f := 3) (b := 1) (by decide)) b2, r_eq (lx_e k hw (f := 4) (b := 2) (by decide)) b3, r_eq (lx_e k hw (f := 5) (b := 3) (by decide)) b4, r_eq (lx_e k hw (f := 6) (b := 4) (by decide)) b5, r_eq (lx_e k hw (f := 7) (b := 5) (by decide)) b6, r_eq (lx_e k hw (f := 8) (b := 6) (by decide)) b7, r_eq (lx_e k hw (f := 9) (b := 7) (by decide)) b8, r_eq (lx_e k hw (f := 13) (b := 8) (by decide)) b9, r_eq (lx_e k hw (f := 14) (b := 9) (by decide)) b10⟩, c2, c3⟩
theorem clw_q (hw : w = 516 ∨ w = 526) (k : DyK n g v) (A : LawR (n + 5) (n + w) v v) (sq : (hI v (n + 5) 0).toInt * (hI v (n + 5) 1).toInt = (hI v (n + 5) 2).toInt) (B : BDc n v) : CLwC (vK n 0 0 0 0 0 0) v (lwL n w v) := by
  obtain ⟨Z, za, p1, p2, p3, t1, t2, t3, p4, t4, t5, t6, t7⟩ := A
  obtain ⟨⟨z2, z27, z28, z29, z30, z31⟩, ⟨z15, z73, z74, z75, z76, z77, z78, z79, z80, z81⟩, z997, z998⟩ := za_q hw k za
  have pr : ∀ {a b : Nat}, (a, b) ∈ prs → (hI v (n + 5) a).toInt = (hI v (n + w) b).toInt := fun {a b} m => by
    have := p1 (a, b) m
    rw [z2, z15] at this
    show _ = _
    rw [show hI v (n + 5) a = hI v (n + w) b from this]
  have e0 := pr (a := 0) (b := 0) (by decide)
  have e1 := pr (a := 1) (b := 1) (by decide)
  have em := pr (a := 3) (b := 2) (by decide)
  rw [z2] at p4
  have b := B ⟨p4.1.1, p4.1.2, p4.2.1.1, p4.2.1.2⟩
  refine ⟨⟨e0, e1, ?_, em, fun m hm => ⟨?_, fun i hi => ?_⟩, fun s hs => ?_⟩, ⟨fun m hm => ?_, ?_, dk_e (a := 5) (f := 17) (b := 9) k (by decide +kernel), dk_e (a := 5) (f := 18) (b := 10) k (by decide +kernel)⟩, ⟨pr (a := 4) (b := 10) (by decide), pr (a := 5) (b := 11) (by decide), pr (a := 6) (b := 12) (by decide), pr (a := 7) (b := 20) (by decide), pr (a := 8) (b := 22) (by decide), pr (a := 9) (b := 23) (by decide), pr (a := 11) (b := 19) (by decide)⟩, ⟨dk_e (a := 5) (f := 19) (b := 11) k (by decide +kernel), dk_e (a := 5) (f := 20) (b := 12) k (by decide +kernel)⟩, fun q hq => ?_, dk_e (a := 5) (f := 14) (b := 6) k (by decide +kernel), fun m hm => ?_⟩
  · show (hI v (n + 5) 2).toInt = (hI v (n + w) 0).toInt * (hI v (n + w) 1).toInt
    rw [← sq, e0, e1]
  · have hm : (m : Int) < (hI v (n + w) 2).toInt := hm
    have y := (t6 m (by rw [z15]; exact hm)).1 (by omega)
    rw [z29, z74] at y
    show (hI v (n + 8) m).toInt = (hI v (n + w + 2) m).toInt
    rw [y.1]
  · have hm : (m : Int) < (hI v (n + w) 2).toInt := hm
    have hi : (i : Int) < (hI v (n + w + 2) m).toInt := hi
    have y := (t6 m (by rw [z15]; exact hm)).1 (by omega)
    rw [z29, z74] at y
    have s := y.2.2 i (by rw [y.1]; exact hi)
    unfold SXs at s
    rw [z28, z75, z76, z77, z78, z79] at s
    exact s.2
  · have hs : (s : Int) < (hI v (n + w) 0).toInt * (hI v (n + w) 1).toInt := hs
    have := b s (by rw [e0, e1]; exact hs)
    rw [e0] at this
    exact this
  · have y := t2 m hm
    rw [z31, z81, z30, z80] at y
    obtain ⟨y1, y2, y3⟩ := y
    show (hI v (n + 10) m).toInt = (hI v (n + w + 9) m).toInt ∧ (0 ≤ (hI v (n + w + 9) m).toInt ∧ (hI v (n + w + 9) m).toInt ≤ 6) ∧ ∀ q : Nat, (q : Int) < (hI v (n + w + 9) m).toInt → (hI v (n + 9) (6 * m + q)).toInt = (hI v (n + w + 8) (6 * m + q)).toInt ∧ 0 ≤ (hI v (n + w + 8) (6 * m + q)).toInt ∧ (hI v (n + w + 8) (6 * m + q)).toInt ≤ 11
    refine ⟨by rw [y1], by rw [← y1]; exact y2, fun q hq => ?_⟩
    obtain ⟨u1, u2⟩ := y3 q (by rw [y1]; exact hq)
    exact ⟨by rw [u1], u2.1, u2.2⟩
  · rw [LT5, z2] at t5
    obtain ⟨s1, s2, s3, s4⟩ := sw_x t5.1
    have br : ∀ q : Nat, q < 4 → (¬ Bq (hI v (n + 5) 10) q ↔ (hI v (n + w) (15 + q)).toInt = 0) := fun q hq => by
      have y := t5.2 q hq (by omega)
      rw [z15] at y
      rw [y, Classical.not_not]
      exact ⟨fun z => by rw [z]; rfl, fun z => Int32.toInt_inj.mp z⟩
    exact ⟨s1.trans (br 0 (by decide)), s2.trans (br 1 (by decide)), s3.trans (br 2 (by decide)), s4.trans (br 3 (by decide))⟩
  · rw [z2, z15] at p2
    refine Iff.trans ?_ lw_100.symm
    show bitJ (hJ v (n + 5) 13) q = true ↔ bitJ (hJ v (n + w) 21) q = true
    rw [p2]
  · have hm : (m : Int) < (hI v (n + w) 2).toInt := hm
    have y := (t1 m (by rw [z2, em]; exact hm)).1
    rw [z27, z73] at y
    show (hI v (n + 6) m).toInt = (hI v (n + w + 1) m).toInt
    rw [y]
theorem lwk_q (hw : w = 516 ∨ w = 526) (k : DyK n g v) (A : LawR (n + 5) (n + w) v v) (E : LEi (n + 513) (n + w) v) : LwOk (lwL n w v) := by
  obtain ⟨Z, za, p1, p2, p3, t1, t2, t3, p4, t4, t5, t6, t7⟩ := A
  obtain ⟨⟨z2, z27, z28, z29, z30, z31⟩, ⟨z15, z73, z74, z75, z76, z77, z78, z79, z80, z81⟩, z997, z998⟩ := za_q hw k za
  have pr : ∀ {a b : Nat}, (a, b) ∈ prs → (hI v (n + 5) a).toInt = (hI v (n + w) b).toInt := fun {a b} m => by
    have := p1 (a, b) m
    rw [z2, z15] at this
    rw [show hI v (n + 5) a = hI v (n + w) b from this]
  have e0 := pr (a := 0) (b := 0) (by decide)
  have e1 := pr (a := 1) (b := 1) (by decide)
  have em := pr (a := 3) (b := 2) (by decide)
  have er := pr (a := 4) (b := 10) (by decide)
  rw [z2] at p4
  obtain ⟨⟨q0, q1⟩, ⟨q2, q3⟩, _⟩ := p4
  obtain ⟨⟨m1, r1, pl1, ca1, st1, _⟩, Bb, Cc⟩ := E
  have zI : ∀ {x : Int32}, x.toInt = 0 → x = 0 := fun z => Int32.toInt_inj.mp z
  have stp : ∀ m i : Nat, (m : Int) < (hI v (n + w) 2).toInt → (i : Int) < (hI v (n + w + 2) m).toInt → StE (hI v (n + 7) (8 * m + i)) (hI v (n + w + 3) (8 * m + i)) (hI v (n + w + 4) (8 * m + i)) (hI v (n + w + 5) (8 * m + i)) (hI v (n + w + 6) (8 * m + i)) (hI v (n + w + 7) (8 * m + i)) ∧ LEs (n + w) v (8 * m + i) := fun m i hm hi => by
    have y := (t6 m (by rw [z15]; exact hm)).1 (by omega)
    rw [z29, z74] at y
    have s := y.2.2 i (by rw [y.1]; exact hi)
    unfold SXs at s
    rw [z28, z75, z76, z77, z78, z79] at s
    exact ⟨s, (Cc m (by omega)).2.2 i hi⟩
  refine ⟨⟨⟨?_, ?_⟩, ⟨?_, ?_⟩, m1, fun m hm => ⟨?_, fun i hi => ?_⟩⟩, ⟨fun m hm => ?_, r1, ?_, fun m i hm hi c => ?_, fun c => ?_⟩, fun m hm => ?_, st1, pl1⟩
  · show 3 ≤ (hI v (n + w) 0).toInt
    omega
  · show (hI v (n + w) 0).toInt ≤ 8
    omega
  · show 3 ≤ (hI v (n + w) 1).toInt
    omega
  · show (hI v (n + w) 1).toInt ≤ 8
    omega
  · have hm : (m : Int) < (hI v (n + w) 2).toInt := hm
    have y := (t6 m (by rw [z15]; exact hm)).1 (by omega)
    rw [z29, z74] at y
    show 1 ≤ (hI v (n + w + 2) m).toInt ∧ (hI v (n + w + 2) m).toInt ≤ 8
    rw [← y.1]
    exact y.2.1
  · obtain ⟨⟨⟨s1, s2, s3, s4, s5⟩, _⟩, l1, _⟩ := stp m i hm hi
    exact ⟨s1, s2, s3, fun z => l1 ⟨zI z.1, zI z.2⟩, s4, s5⟩
  · obtain ⟨b1, _, b3⟩ := Bb m hm
    exact ⟨b1, fun q hq => by
      obtain ⟨c1, c2, c3⟩ := b3 q hq
      exact ⟨⟨c1, c2⟩, c3.1⟩⟩
  · show -1 ≤ (hI v (n + w) 12).toInt ∧ (hI v (n + w) 12).toInt < (hI v (n + w) 2).toInt ∧ (0 ≤ (hI v (n + w) 12).toInt → 0 ≤ (hI v (n + w) 10).toInt ∧ ¬ (hI v (n + w) 12).toInt = (hI v (n + w) 10).toInt)
    rcases ca1 with z | ⟨c1, c2, c3, c4⟩
    · exact ⟨by omega, by omega, fun y => by omega⟩
    · exact ⟨by omega, c2, fun _ => ⟨c3, c4⟩⟩
  · obtain ⟨⟨⟨s1, _⟩, _⟩, _, l2⟩ := stp m i hm hi
    obtain ⟨_, _, _, f3, f4, _⟩ := fb_e s1
    rcases l2 with z | z
    · have := f3.mp z
      rw [show fbt (lwL n w v 75 (8 * m + i)) 3 = false from this] at c
      exact absurd c.1 (by decide)
    · have := f4.mp z
      rw [show fbt (lwL n w v 75 (8 * m + i)) 4 = false from this] at c
      exact absurd c.2 (by decide)
  · have c : 0 ≤ (hI v (n + w) 10).toInt := c
    show (hI v (n + w + 9) (hI v (n + w) 10).toInt.toNat).toInt = 0
    have l12 : (hI v (n + w) 10).toInt.toNat < 12 := by omega
    have y := t7 _ l12 (by rw [z2, er]; omega)
    have y2 := (t2 _ l12).1
    rw [z31, z81] at y2
    rw [z31] at y
    rw [← y2, y]; rfl
  · have hm : (m : Int) < (hI v (n + w) 2).toInt := hm
    have y := t1 m (by rw [z2, em]; exact hm)
    rw [z27, z73] at y
    show 97 ≤ (hI v (n + w + 1) m).toInt ∧ (hI v (n + w + 1) m).toInt ≤ 122
    rw [← y.1]
    exact y.2
theorem ltd_q (hw : w = 516 ∨ w = 526) (E : LEi (n + 513) (n + w) v) : LtD (lwL n w v) := ⟨fun m q hm hq c => by
  have hm : (m : Int) < (hI v (n + w) 2).toInt := hm
  have c : (hI v (n + w + 1) m).toInt = (hI v (n + w + 1) q).toInt := c
  have m12 := E.1.1.2
  exact (E.2.2 m (by omega)).2.1.2 hm q hq (Int32.toInt_inj.mp c), fun m q hm hq => by
  have hq : (q : Int) < (hI v (n + w + 9) m).toInt := hq
  obtain ⟨y1, y2, y3, y4, y5⟩ := (E.2.1 m hm).2.2 q hq
  have nx := nc_i y1
  have tx : (hI v (n + w + 8) (6 * m + q)).toInt.toNat = (hI v (n + w + 8) (6 * m + q)).toNatClampNeg := by omega
  refine ⟨?_, fun u hu c => y5 u hu (Int32.toInt_inj.mp c)⟩
  show (hI v (n + w + 9) (hI v (n + w + 8) (6 * m + q)).toInt.toNat).toInt = 0
  rw [tx, y4]; rfl⟩
theorem rfl_q (hw : w = 516 ∨ w = 526) (k : DyK n g v) (e4 : hR v (n + 513) 4 = some (n + w)) (mf : MFq (n + 513) v) (sq : SqOk (n + 513) v) : RfL n v (n + w) (lwL n w v) := by
  obtain ⟨m1, m2⟩ := mf _ e4
  refine ⟨⟨e4, lx_e k hw (f := 3) (b := 1) (by decide), lx_e k hw (f := 4) (b := 2) (by decide), lx_e k hw (f := 5) (b := 3) (by decide), lx_e k hw (f := 6) (b := 4) (by decide), lx_e k hw (f := 7) (b := 5) (by decide), lx_e k hw (f := 8) (b := 6) (by decide), lx_e k hw (f := 9) (b := 7) (by decide), lx_e k hw (f := 13) (b := 8) (by decide), lx_e k hw (f := 14) (b := 9) (by decide)⟩, rfl, ?_, ?_, ?_⟩
  · show (hI v (n + 513) 11).toInt = (hI v (n + w) 0).toInt
    rw [m1]
  · show (hI v (n + 513) 12).toInt = (hI v (n + w) 1).toInt
    rw [m2]
  · show (hI v (n + 513) 13).toInt = (hI v (n + w) 0).toInt * (hI v (n + w) 1).toInt
    rw [sq, m1, m2]
end
/-- the ways, out of laying them -/
theorem cwy_q {n F : Nat} {g h o : Hp} {L : Nat → Nat → Int} (k : DyK n g h) (k' : DyK n g o) (H : LOk L) (C : CLq (vK n 0 0 0 0 0 0) h L) (T : TzN n h) (e : sX10_lay F h (n + 22) (n + 5) = some o) : CWy (vK n 0 0 0 0 0 0) o L ∧ TzN n o := by
  obtain ⟨own, Dw⟩ := k.1.1
  have D : VD (vK n (hS h) (hS h + 1000 * 1) (hS h + 1000 * 2) (hS h + 1000 * 3) (hS h + 1000 * 9) (hS h + 1000 * 10)) := vd_k Dw.1 (bke_o (c := 1)) (bke_o (c := 2)) (bke_o (c := 3)) (bke_o (c := 9)) (bke_o (c := 10)) (by omega)
  have e7 : hR (wR h (n + 22) 7 (some (n + 5))) (n + 22) 7 = some (n + 5) := by rw [r_R, if_pos ⟨rfl, rfl⟩]
  have Rw : ∀ {a f b : Nat}, (a, f, b) ∈ edL → ¬ (a = 22 ∧ f = 7) → hR (wR h (n + 22) 7 (some (n + 5))) (n + a) f = some (n + b) := fun {a f b} m z => by
    rw [r_R, if_neg (fun y => z ⟨by omega, y.2⟩)]
    exact dk_e k m
  have W : WLf (vK n (hS h) (hS h + 1000 * 1) (hS h + 1000 * 2) (hS h + 1000 * 3) (hS h + 1000 * 9) (hS h + 1000 * 10)) (wR h (n + 22) 7 (some (n + 5))) := ⟨Rw (a := 22) (f := 6) (b := 29) (by decide +kernel) (by decide), e7, Rw (a := 5) (f := 15) (b := 7) (by decide +kernel) (by decide), Rw (a := 5) (f := 16) (b := 8) (by decide +kernel) (by decide), Rw (a := 5) (f := 19) (b := 11) (by decide +kernel) (by decide), Rw (a := 5) (f := 20) (b := 12) (by decide +kernel) (by decide)⟩
  have wc : WCf (vK n (hS h) (hS h + 1000 * 1) (hS h + 1000 * 2) (hS h + 1000 * 3) (hS h + 1000 * 9) (hS h + 1000 * 10)) h := ⟨dk_e (a := 22) (f := 0) (b := 23) k (by decide +kernel), dk_e (a := 22) (f := 1) (b := 24) k (by decide +kernel), dk_e (a := 22) (f := 2) (b := 25) k (by decide +kernel), dk_e (a := 22) (f := 3) (b := 26) k (by decide +kernel), dk_e (a := 22) (f := 4) (b := 27) k (by decide +kernel), dk_e (a := 22) (f := 5) (b := 28) k (by decide +kernel)⟩
  obtain ⟨y1, y2, y3⟩ := lay_y (V := vK n (hS h) (hS h + 1000 * 1) (hS h + 1000 * 2) (hS h + 1000 * 3) (hS h + 1000 * 9) (hS h + 1000 * 10)) D H W wc C T (ln_d k.1 (a := 26) (w := 1536) (by decide)) (ln_d k.1 (a := 27) (w := 1536) (by decide)) e
  exact ⟨⟨⟨dk_e (a := 30) (f := 0) (b := 5) k' (by decide +kernel), dk_e (a := 30) (f := 1) (b := 22) k' (by decide +kernel)⟩, ⟨dk_e (a := 22) (f := 0) (b := 23) k' (by decide +kernel), dk_e (a := 22) (f := 1) (b := 24) k' (by decide +kernel), dk_e (a := 22) (f := 2) (b := 25) k' (by decide +kernel), dk_e (a := 22) (f := 3) (b := 26) k' (by decide +kernel), dk_e (a := 22) (f := 4) (b := 27) k' (by decide +kernel), dk_e (a := 22) (f := 5) (b := 28) k' (by decide +kernel)⟩, y1, y2⟩, y3⟩
end
section
/-! RULES of both sides -/
section
variable {n F : Nat} {g h : Hp} {o : Int32 × Hp}
/-- forgetting: flags are off, no game, nothing found -/
theorem fgx_10 : ∀ (f : Nat) {h o : Hp} {x1 : Int32} {c : Nat}, DyK n g h → x1.toInt = (c : Int) → c ≤ 60 → (∀ p, p < c → hI h (n + 149) p = 0) → sX11_forgetAll_10 F f h n x1 = some o → (∀ p, p < 60 → hI o (n + 149) p = 0) ∧ hI o (n + 48) 6 = 0 ∧ ∀ i, hI o (n + 152) i = hI h (n + 152) i := by
  have z60 : (60 : Int32).toInt = 60 := rfl
  have z1 : (1 : Int32).toInt = 1 := rfl
  have zb : vp_nar .boolean (0 : Int32) = 0 := by decide
  intro f
  induction f with
  | zero => intro h o x1 c _ _ _ _ e; exact absurd e (by rw [sX11_forgetAll_10]; exact fun z => nomatch z)
  | succ f ih =>
    intro h o x1 c k i1 c60 A e
    rw [sX11_forgetAll_10] at e
    rcases br_s e with ⟨c1, e⟩ | ⟨c1, e⟩
    · have c1 := le_i c1
      replace e := ce_e (dk_e (a := 0) (f := 9) (b := 48) k (by decide +kernel)) e
      replace e := nx_e e
      replace e := ce_e (dk_e (a := 0) (f := 10) (b := 62) (dk_wI k) (by decide +kernel)) e
      replace e := nx_e e
      rw [so_e e]
      exact ⟨fun p hp => by rw [rI_a (by omega), rI_a (by omega)]; exact A p (by omega), by rw [rI_a (by omega), rI_s], fun i => by rw [rI_a (by omega), rI_a (by omega)]⟩
    have c1 := nle_i c1
    have cn := nc_i (x := x1) (by omega)
    have cn : x1.toNatClampNeg = c := by omega
    replace e := ce_e (dk_e (a := 0) (f := 14) (b := 149) k (by decide +kernel)) e
    replace e := gg_e e
    obtain ⟨h8, w8, e⟩ := nm_s e
    rw [cn, zb] at w8
    have k8 : DyK n g h8 := by rw [w8]; exact dk_wI k
    replace e := ce_e (dk_e (a := 0) (f := 11) (b := 76) k8 (by decide +kernel)) e
    obtain ⟨o10, e10, e⟩ := cl_s e
    have q10 : DyK n g o10 ∧ ∀ a i, ¬ a = n + 76 → hI o10 a i = hI h8 a i := by
      unfold sX4_forget sX4_forget_23 at e10
      rcases br_s e10 with ⟨_, e10⟩ | ⟨_, e10⟩
      · iterate 3 replace e10 := nx_e e10
        rw [so_e e10]
        exact ⟨dk_wI (dk_wI (dk_wI k8)), fun a i z => by rw [rI_a z, rI_a z, rI_a z]⟩
      · rw [so_e e10]; exact ⟨k8, fun _ _ _ => rfl⟩
    replace e := nx_e e
    obtain ⟨r1, r2, r3⟩ := ih (c := c + 1) q10.1 (by rw [ta (by omega), z1, i1]; omega) (by omega) (fun p hp => by
      rw [q10.2 _ _ (by omega), w8]
      by_cases y : p = c
      · rw [y, rI_s]
      · rw [rI_o y]; exact A p (by omega)) e
    exact ⟨r1, r2, fun i => by rw [r3, q10.2 _ _ (by omega), w8, rI_a (by omega)]⟩
theorem fg_x {o : Hp} (k : DyK n g h) (e : sX11_forgetAll F h n = some o) : DyK n g o ∧ FrW (WFg n) h o ∧ (∀ p, p < 60 → hI o (n + 149) p = 0) ∧ hI o (n + 48) 6 = 0 ∧ ∀ i, i < 8 → hI o (n + 152) i = (-1 : Int32) := by
  obtain ⟨a, b⟩ := wt_X11_forgetAll (dx_0 k) e
  refine ⟨a.1, b, ?_⟩
  unfold sX11_forgetAll at e
  replace e := ce_e (dk_e (a := 0) (f := 17) (b := 152) k (by decide +kernel)) e
  obtain ⟨o2, e2, e⟩ := cl_s e
  have l8 : hN h (n + 152) = 8 := ln_d k.1 (a := 152) (w := 8) (by decide)
  have k2 := (wt_J7_fill_53178 (dx_0 k) e2).1.1
  unfold sJ7_fill_53178 at e2
  replace e2 := nx_e e2
  rw [l8] at e2
  obtain ⟨_, _, _, f4⟩ := fI (n := 8) (by decide) F (show (0 : Int) ≤ (0 : Int32).toInt by decide) e2
  obtain ⟨r1, r2, r3⟩ := fgx_10 (c := 0) F k2 rfl (by decide) (fun p hp => absurd hp (Nat.not_lt_zero _)) e
  exact ⟨r1, r2, fun i hi => by rw [r3, f4 i (by have : (0 : Int32).toInt = 0 := rfl; omega) hi]⟩
/-- the class: a text that is wrong; or all anew -/
theorem ruc_x (k : DyK n h h) (e : sX11_rules F h n = some o) : DyK n h o.2 ∧ ((o.1.toInt = -1 - (hI o.2 (n + 21) 2).toInt ∨ o.1 = (-1 : Int32) - hI o.2 (n + 21) 2) ∧ FrW (fun a i => WRl n 13 a i ∨ TwC n a i) h o.2 ∨ ∃ a b c : Hp, (DyK n h a ∧ BDc n a ∧ FrW (fun x i => WRl n 13 x i ∨ WRl n 5 x i) h a) ∧ (sX10_lay F a (n + 22) (n + 5) = some b ∧ DyK n h b ∧ FrW (WLy n) a b) ∧ (DyK n h c ∧ FrW (WFg n) b c ∧ (∀ p, p < 60 → hI c (n + 149) p = 0) ∧ hI c (n + 48) 6 = 0 ∧ ∀ i, i < 8 → hI c (n + 152) i = (-1 : Int32)) ∧ o = (hI c (n + 5) 3, wI c (n + 1) 1 0)) := by
  unfold sX11_rules at e
  replace e := ce_e (dk_e (a := 0) (f := 4) (b := 21) k (by decide +kernel)) e
  replace e := ce_e (dk_e (a := 0) (f := 0) (b := 1) k (by decide +kernel)) e
  replace e := ce_e (dk_e (a := 0) (f := 3) (b := 13) k (by decide +kernel)) e
  obtain ⟨o4, e4, e⟩ := cl_s e
  obtain ⟨k4, f4⟩ := rdt_x k e4
  replace e := ce_e (dk_e (a := 0) (f := 4) (b := 21) k4 (by decide +kernel)) e
  unfold sX2_faultPlace at e
  replace e := ce_e rfl e
  obtain ⟨v7, w7, e⟩ := nm_s e
  unfold sX11_rules_69 sX9_clear at e
  rcases br_s e with ⟨_, e⟩ | ⟨_, e⟩
  · replace e := ce_e (dk_e (a := 0) (f := 0) (b := 1) k4 (by decide +kernel)) e
    obtain ⟨u, eu, e⟩ := cl_s e
    replace eu := so_e (nx_e eu)
    rw [so_e e, eu]
    refine ⟨dk_wI k4, Or.inl ⟨Or.inr ?_, fw_wI (fw_s f4 (fun _ _ c => Or.inl c)) (Or.inr (Or.inl rfl))⟩⟩
    show v7 = (-1 : Int32) - hI (wI o4.2 (n + 1) 1 0) (n + 21) 2
    rw [rI_a (by omega), w7]
  · replace e := ce_e (dk_e (a := 0) (f := 4) (b := 21) k4 (by decide +kernel)) e
    replace e := ce_e (dk_e (a := 0) (f := 0) (b := 1) k4 (by decide +kernel)) e
    replace e := ce_e (dk_e (a := 0) (f := 2) (b := 5) k4 (by decide +kernel)) e
    obtain ⟨o12, e12, e⟩ := cl_s e
    obtain ⟨k12, B12, f12⟩ := rdl_x k4 e12
    replace e := ce_e (dk_e (a := 0) (f := 5) (b := 22) k12 (by decide +kernel)) e
    replace e := ce_e (dk_e (a := 0) (f := 2) (b := 5) k12 (by decide +kernel)) e
    obtain ⟨o15, e15, e⟩ := cl_s e
    obtain ⟨k15, f15⟩ := lay_x k12 e15
    obtain ⟨o16, e16, e⟩ := cl_s e
    obtain ⟨k16, f16, r1, r2, r3⟩ := fg_x k15 e16
    replace e := ce_e (dk_e (a := 0) (f := 2) (b := 5) k16 (by decide +kernel)) e
    replace e := nx_e e
    replace e := ce_e (dk_e (a := 0) (f := 0) (b := 1) k16 (by decide +kernel)) e
    obtain ⟨u, eu, e⟩ := cl_s e
    replace eu := so_e (nx_e eu)
    rw [so_e e, eu]
    exact ⟨dk_wI k16, Or.inr ⟨o12.2, o15, o16, ⟨k12, B12, fw_t (fw_s f4 (fun _ _ c => Or.inl c)) (fw_s f12 (fun _ _ c => Or.inr c))⟩, ⟨e15, k15, f15⟩, ⟨k16, f16, r1, r2, r3⟩, rfl⟩⟩
/-- the reference: its loops behind a good reading -/
theorem rur_56 {lw : Nat} : ∀ (f : Nat) {h : Hp} {x2 : Int32} {c : Nat}, DyK n g h → hR h (n + 513) 4 = some lw → x2.toInt = (c : Int) → c ≤ 8 → (∀ p, p < c → hI h (n + 582) p = (-1 : Int32)) → sX15_rules_56 F f h (n + 513) x2 = some o → (∀ a i, hR o.2 a i = hR h a i) ∧ DyK n g o.2 ∧ (∀ p, p < 8 → hI o.2 (n + 582) p = (-1 : Int32)) ∧ hI o.2 (n + 513) 44 = 0 ∧ FrW (fun a i => a = n + 582 ∨ (a = n + 513 ∧ (i = 50 ∨ i = 44 ∨ i = 65))) h o.2 ∧ o.1 = hI o.2 lw 2 := by
  have z8 : (8 : Int32).toInt = 8 := rfl
  have z1 : (1 : Int32).toInt = 1 := rfl
  intro f
  induction f with
  | zero => intro h x2 c _ _ _ _ _ e; exact absurd e (by rw [sX15_rules_56]; exact fun z => nomatch z)
  | succ f ih =>
    intro h x2 c k e4 i2 c8 A e
    rw [sX15_rules_56] at e
    rcases br_s e with ⟨c1, e⟩ | ⟨c1, e⟩
    · have c1 := le_i c1
      iterate 3 replace e := nx_e e
      replace e := ce_e e4 e
      rw [so_e e]
      refine ⟨fun _ _ => rfl, dk_wI (dk_wI (dk_wI k)), fun p hp => ?_, ?_, ?_, rfl⟩
      · show hI (wI (wI (wI h (n + 513) 50 0) (n + 513) 44 0) (n + 513) 65 0) (n + 582) p = _
        rw [rI_a (by omega), rI_a (by omega), rI_a (by omega)]; exact A p (by omega)
      · show hI (wI (wI (wI h (n + 513) 50 0) (n + 513) 44 0) (n + 513) 65 0) (n + 513) 44 = _
        rw [rI_o (by decide), rI_s]
      · exact fw_wI (fw_wI (fw_wI fw_0 (Or.inr ⟨rfl, Or.inl rfl⟩)) (Or.inr ⟨rfl, Or.inr (Or.inl rfl)⟩)) (Or.inr ⟨rfl, Or.inr (Or.inr rfl)⟩)
    have c1 := nle_i c1
    have cn := nc_i (x := x2) (by omega)
    have cn : x2.toNatClampNeg = c := by omega
    replace e := ce_e (dk_e (a := 513) (f := 39) (b := 582) k (by decide +kernel)) e
    replace e := gg_e e
    obtain ⟨h8, w8, e⟩ := nm_s e
    rw [cn] at w8
    have k8 : DyK n g h8 := by rw [w8]; exact dk_wI k
    replace e := nx_e e
    obtain ⟨r1, r2, r3, r4, r5, r6⟩ := ih (c := c + 1) k8 (by rw [w8]; exact e4) (by rw [ta (by omega), z1, i2]; omega) (by omega) (fun p hp => by
      rw [w8]
      by_cases y : p = c
      · rw [y, rI_s]
      · rw [rI_o y]; exact A p (by omega)) e
    have f8 : FrW (fun a i => a = n + 582 ∨ (a = n + 513 ∧ (i = 50 ∨ i = 44 ∨ i = 65))) h h8 := by rw [w8]; exact fw_wI fw_0 (Or.inl rfl)
    exact ⟨fun a i => (r1 a i).trans (by rw [w8]; rfl), r2, r3, r4, fw_t f8 r5, r6⟩
theorem rur_35 {lw : Nat} : ∀ (f : Nat) {h : Hp} {x2 : Int32} {c : Nat}, DyK n g h → hR h (n + 513) 4 = some lw → x2.toInt = (c : Int) → c ≤ 60 → (∀ p, p < c → hI h (n + 537) p = 0) → sX15_rules_35 F f h (n + 513) x2 = some o → (∀ a i, hR o.2 a i = hR h a i) ∧ DyK n g o.2 ∧ (∀ p, p < 60 → hI o.2 (n + 537) p = 0) ∧ (∀ p, p < 8 → hI o.2 (n + 582) p = (-1 : Int32)) ∧ hI o.2 (n + 513) 44 = 0 ∧ FrW (fun a i => a = n + 537 ∨ a = n + 582 ∨ (a = n + 513 ∧ (i = 50 ∨ i = 44 ∨ i = 65))) h o.2 ∧ o.1 = hI o.2 lw 2 := by
  have z60 : (60 : Int32).toInt = 60 := rfl
  have z1 : (1 : Int32).toInt = 1 := rfl
  intro f
  induction f with
  | zero => intro h x2 c _ _ _ _ _ e; exact absurd e (by rw [sX15_rules_35]; exact fun z => nomatch z)
  | succ f ih =>
    intro h x2 c k e4 i2 c60 A e
    rw [sX15_rules_35] at e
    rcases br_s e with ⟨c1, e⟩ | ⟨c1, e⟩
    · have c1 := le_i c1
      have s6 := dk_610 k
      obtain ⟨r1, r2, r3, r4, r5, r6⟩ := rur_56 (c := 0) F k e4 rfl (by decide) (fun p hp => absurd hp (Nat.not_lt_zero _)) e
      refine ⟨r1, r2, fun p hp => ?_, r3, r4, fw_s r5 (fun _ _ c => Or.inr c), r6⟩
      rw [(r5.2 (n + 537) p (by omega) (fun c => by omega)).1]
      exact A p (by omega)
    have c1 := nle_i c1
    have cn := nc_i (x := x2) (by omega)
    have cn : x2.toNatClampNeg = c := by omega
    replace e := ce_e (dk_e (a := 513) (f := 15) (b := 537) k (by decide +kernel)) e
    replace e := gg_e e
    obtain ⟨h8, w8, e⟩ := nm_s e
    rw [cn] at w8
    have k8 : DyK n g h8 := by rw [w8]; exact dk_wI k
    replace e := nx_e e
    obtain ⟨r1, r2, r3, r4, r5, r6, r7⟩ := ih (c := c + 1) k8 (by rw [w8]; exact e4) (by rw [ta (by omega), z1, i2]; omega) (by omega) (fun p hp => by
      rw [w8]
      by_cases y : p = c
      · rw [y, rI_s]
      · rw [rI_o y]; exact A p (by omega)) e
    have f8 : FrW (fun a i => a = n + 537 ∨ a = n + 582 ∨ (a = n + 513 ∧ (i = 50 ∨ i = 44 ∨ i = 65))) h h8 := by rw [w8]; exact fw_wI fw_0 (Or.inl rfl)
    exact ⟨fun a i => (r1 a i).trans (by rw [w8]; rfl), r2, r3, r4, r5, fw_t f8 r6, r7⟩
/-- frames of a reading, whichever law is the fresh one -/
theorem irf_x {w : Nat} {x2 : Int32} (hw : w = 516 ∨ w = 526) (eg : hR g (n + 513) 5 = some (n + w)) (k : DyK n g h) (e : sX15_isRules F h (n + 513) (n + 514) x2 = some o) : DyK n g o.2 ∧ FrW (WIr n w) h o.2 := by
  rcases hw with z | z <;> subst z
  · obtain ⟨a, b⟩ := wu_X15_isRules (dxu k eg) e
    exact ⟨a.1, b⟩
  · obtain ⟨a, b⟩ := wv_X15_isRules (dxv k eg) e
    exact ⟨a.1, b⟩
theorem rur_x {w : Nat} (hw : w = 516 ∨ w = 526) (k : DyK n h h) (e4 : hR h (n + 513) 4 = some (n + (1042 - w))) (e5 : hR h (n + 513) 5 = some (n + w)) (e : sX15_rules F h (n + 513) = some o) : DyK n o.2 o.2 ∧ ((o.1 = (-1 : Int32) - hI o.2 (n + 513) 7 ∧ DyK n h o.2 ∧ FrW (fun a i => WIr n w a i ∨ TwR n a i) h o.2) ∨ (LEi (n + 513) (n + w) o.2 ∧ o.1 = hI o.2 (n + w) 2 ∧ hR o.2 (n + 513) 4 = some (n + w) ∧ hR o.2 (n + 513) 5 = some (n + (1042 - w)) ∧ (∀ p, p < 60 → hI o.2 (n + 537) p = 0) ∧ (∀ p, p < 8 → hI o.2 (n + 582) p = (-1 : Int32)) ∧ hI o.2 (n + 513) 44 = 0 ∧ FrW (fun a i => WIr n w a i ∨ TwR n a i ∨ a = n + 537 ∨ a = n + 582 ∨ (a = n + 513 ∧ (i = 11 ∨ i = 12 ∨ i = 13 ∨ i = 50 ∨ i = 44 ∨ i = 65))) h o.2)) := by
  unfold sX15_rules at e
  replace e := nx_e e
  replace e := nx_e e
  have k1 : DyK n h (wI h (n + 513) 1 0) := dk_wI k
  have f1 : FrW (TwR n) h (wI h (n + 513) 1 0) := fw_wI fw_0 (Or.inl ⟨rfl, rfl⟩)
  replace e := ce_e (dk_e (a := 513) (f := 0) (b := 514) k1 (by decide +kernel)) e
  obtain ⟨o4, e4', e⟩ := cl_s e
  obtain ⟨k4, f4⟩ := irf_x hw e5 k1 e4'
  have R := iru_r hw e5 k1 e4'
  have F4 : FrW (fun a i => WIr n w a i ∨ TwR n a i) h o4.2 := fw_t (fw_s f1 (fun _ _ c => Or.inr c)) (fw_s f4 (fun _ _ c => Or.inl c))
  rcases br_s e with ⟨_, e⟩ | ⟨c, e⟩
  · rw [so_e e]
    exact ⟨dk_self k4, Or.inl ⟨rfl, k4, F4⟩⟩
  have E4 := R.2 c
  have r4 : hR o4.2 (n + 513) 4 = some (n + (1042 - w)) := by rw [k4.1.2.2.2.2.2 4 (Or.inl rfl)]; exact e4
  have r5 := lx_5 k4 e5
  obtain ⟨o6, e6, e⟩ := cl_s e
  unfold sX15_take at e6
  replace e6 := ce_e r4 e6
  replace e6 := ce_e r5 e6
  obtain ⟨h3, w3, e6⟩ := nm_s e6
  obtain ⟨h4, w4, e6⟩ := nm_s e6
  have t4 : hR h4 (n + 513) 4 = some (n + w) := by rw [w4, r_R, if_neg (fun z => absurd z.2 (by decide)), w3, r_R, if_pos ⟨rfl, rfl⟩]
  have t5 : hR h4 (n + 513) 5 = some (n + (1042 - w)) := by rw [w4, r_R, if_pos ⟨rfl, rfl⟩]
  have kk3 : DyK n h3 h3 := by rw [w3]; exact dk_y k4 (Or.inr (Or.inr ⟨rfl, Or.inl rfl⟩))
  have kk4 : DyK n h4 h4 := by rw [w4]; exact dk_y kk3 (Or.inr (Or.inr ⟨rfl, Or.inr rfl⟩))
  replace e6 := ce_e t4 e6
  obtain ⟨h6, w6, e6⟩ := nm_s e6
  replace e6 := ce_e (show hR h6 (n + 513) 4 = some (n + w) by rw [w6]; exact t4) e6
  obtain ⟨h8, w8, e6⟩ := nm_s e6
  obtain ⟨h9, w9, e6⟩ := nm_s e6
  rw [so_e e6] at e
  have kk9 : DyK n h4 h9 := by rw [w9, w8, w6]; exact dk_wI (dk_wI (dk_wI kk4))
  have q9 : ∀ a i, ¬ (a = n + 513 ∧ (i = 11 ∨ i = 12 ∨ i = 13)) → hI h9 a i = hI o4.2 a i ∧ hJ h9 a i = hJ o4.2 a i := fun a i z => by
    refine ⟨?_, by rw [w9, w8, w6, w4, w3]; rfl⟩
    rw [w9, r_I, if_neg (fun y => z ⟨y.1, Or.inr (Or.inr y.2)⟩), w8, r_I, if_neg (fun y => z ⟨y.1, Or.inr (Or.inl y.2)⟩), w6, r_I, if_neg (fun y => z ⟨y.1, Or.inl y.2⟩), w4, w3]
    rfl
  have s9 : hS h9 = hS o4.2 := by rw [w9, w8, w6, w4, w3]; rfl
  obtain ⟨r1, r2, r3, r3', r4', r5', r6⟩ := rur_35 (c := 0) F kk9 (by rw [w9, w8, w6]; exact t4) rfl (by decide) (fun p hp => absurd hp (Nat.not_lt_zero _)) e
  have s6 := dk_610 k4
  have s6' := dk_610 kk9
  have hw' : 516 ≤ w ∧ w ≤ 526 := by omega
  refine ⟨dk_self r2, Or.inr ⟨?_, r6, by rw [r1, w9, w8, w6]; exact t4, by rw [r1, w9, w8, w6]; exact t5, r3, r3', r4', ?_⟩⟩
  · have q : ∀ a i, a < n + 610 → ¬ (a = n + 513 ∧ (i = 11 ∨ i = 12 ∨ i = 13)) → ¬ (a = n + 537 ∨ a = n + 582 ∨ (a = n + 513 ∧ (i = 50 ∨ i = 44 ∨ i = 65))) → hI o.2 a i = hI o4.2 a i := fun a i l z z' => by
      rw [(r5'.2 a i (by omega) z').1, (q9 a i z).1]
    exact lei_c E4 (fun i hi => q _ _ (by omega) (fun c => by omega) (fun c => by omega)) (fun z => by rw [q _ _ (by omega) (fun c => by omega) (fun c => by omega)]; exact z) (fun l _ => q _ _ (by omega) (fun c => by omega) (fun c => by omega)) (fun l k _ _ => q _ _ (by omega) (fun c => by omega) (fun c => by omega)) (fun l _ => q _ _ (by omega) (fun c => by omega) (fun c => by omega)) (fun l _ => q _ _ (by omega) (fun c => by omega) (fun c => by omega)) (fun l i _ _ z => les_k (q _ _ (by omega) (fun c => by omega) (fun c => by omega)) (q _ _ (by omega) (fun c => by omega) (fun c => by omega)) (q _ _ (by omega) (fun c => by omega) (fun c => by omega)) z)
  · refine fw_t (fw_s F4 (fun _ _ c => c.elim Or.inl (fun c => Or.inr (Or.inl c)))) (fw_t (o := h9) ⟨by rw [s9]; exact Nat.le_refl _, fun a i _ nw => q9 a i (fun c => nw (Or.inr (Or.inr (Or.inr (Or.inr ⟨c.1, by omega⟩)))))⟩ (fw_s r5' (fun a i c => ?_)))
    rcases c with c | c | c
    · exact Or.inr (Or.inr (Or.inl c))
    · exact Or.inr (Or.inr (Or.inr (Or.inl c)))
    · exact Or.inr (Or.inr (Or.inr (Or.inr ⟨c.1, by omega⟩)))
end
/-! what the reference stands for, while another law is read -/
section
variable {n j : Nat} {g h o : Hp} {σ : Sy}
theorem relr_x {W : Nat → Nat → Prop} (k : DyK n g h) (k' : DyK n h o) (F : FrW W h o) (dl : ∀ w, (w = 516 ∨ w = 526) → hR h (n + 513) 4 = some (n + w) → ∀ j i, j < 10 → ¬ W (n + w + j) i) (dj : ∀ j i, (j = 513 ∧ (i = 3 ∨ i = 11 ∨ i = 12 ∨ i = 13 ∨ i = 44 ∨ i = 16)) ∨ j = 515 ∨ j = 585 ∨ j = 537 ∨ j = 581 ∨ j = 582 → ¬ W (n + j) i) (dd : ∀ q, q ∈ fam → 536 ≤ q.1 → ∀ i a, i < q.2.1 → hR h (n + q.1) i = some a → n + 610 ≤ a → a + q.2.2.1 ≤ hS h → ∀ j f, j < q.2.2.1 → ¬ W (a + j) f) (lg : ∀ g, g < 8 → syG σ g ≤ 300) (R : RelR n j h σ) : RelR n j o σ := by
  have s6 := dk_610 k
  have I : ∀ j i, (j = 513 ∧ (i = 3 ∨ i = 11 ∨ i = 12 ∨ i = 13 ∨ i = 44 ∨ i = 16)) ∨ j = 515 ∨ j = 585 ∨ j = 537 ∨ j = 581 ∨ j = 582 → hI o (n + j) i = hI h (n + j) i ∧ hJ o (n + j) i = hJ h (n + j) i := fun j i hj => F.2 _ _ (by omega) (dj j i hj)
  obtain ⟨R1, R2, R3, R4, R5, R6⟩ := R
  refine ⟨?_, fun p hp => rpi_f k k' F hp (dj 537 p (by omega)) (fun a e lo hi => dd (536, 60, 5, 4000, fsB) (by decide) (by decide) p a hp e lo hi) (R2 p hp), fun g' hg => rgi_f k k' F hg (lg g' hg) (dj 582 g' (by omega)) (fun q hq => dj 581 _ (by omega)) (fun q a hq e lo hi => dd (580, 2408, 5, 5000, fsB) (by decide) (by decide) _ a (by show _ < 2408; omega) e lo hi) (R3 g' hg), ⟨?_, fun q hq => ?_⟩, ⟨?_, fun i hi => ?_⟩, rse_f k F (dj 513 16 (by omega)) R6⟩
  · obtain ⟨w, hw, e4, e5, C⟩ := R1
    have f4 := k'.1.2.2.2.2.2 4 (Or.inl rfl)
    have f5 := k'.1.2.2.2.2.2 5 (Or.inr rfl)
    refine ⟨w, hw, by rw [f4]; exact e4, by rw [f5]; exact e5, ?_⟩
    have e : ∀ j i, j < 10 → hI o (n + w + j) i = hI h (n + w + j) i ∧ hJ o (n + w + j) i = hJ h (n + w + j) i := fun j i hj => F.2 _ _ (by omega) (dl w hw e4 j i hj)
    refine rw0_i (V := vM n 0 0 0 0 0 (n + w)) C (funext fun i => (e 0 i (by decide)).1) (e 0 21 (by decide)).2 (fun q q1 q2 => ?_) (I 513 11 (by omega)).1 (I 513 12 (by omega)).1 (I 513 13 (by omega)).1 ⟨f4.trans e4, lx_e k' hw (f := 3) (b := 1) (by decide), lx_e k' hw (f := 4) (b := 2) (by decide), lx_e k' hw (f := 5) (b := 3) (by decide), lx_e k' hw (f := 6) (b := 4) (by decide), lx_e k' hw (f := 7) (b := 5) (by decide), lx_e k' hw (f := 8) (b := 6) (by decide), lx_e k' hw (f := 9) (b := 7) (by decide), lx_e k' hw (f := 13) (b := 8) (by decide), lx_e k' hw (f := 14) (b := 9) (by decide)⟩
    have : q = 73 ∨ q = 74 ∨ q = 75 ∨ q = 76 ∨ q = 77 ∨ q = 78 ∨ q = 79 ∨ q = 80 ∨ q = 81 := by omega
    rcases this with z | z | z | z | z | z | z | z | z <;> subst z
    · exact funext fun i => (e 1 i (by decide)).1
    · exact funext fun i => (e 2 i (by decide)).1
    · exact funext fun i => (e 3 i (by decide)).1
    · exact funext fun i => (e 4 i (by decide)).1
    · exact funext fun i => (e 5 i (by decide)).1
    · exact funext fun i => (e 6 i (by decide)).1
    · exact funext fun i => (e 7 i (by decide)).1
    · exact funext fun i => (e 8 i (by decide)).1
    · exact funext fun i => (e 9 i (by decide)).1
  · rw [(I 513 44 (by omega)).1]; exact R4.1
  · obtain ⟨P, a, p1, p2, p3, p4⟩ := R4.2 q hq
    have i5 := (I 585 q (by omega)).1
    have nc := nc_i p2.1
    have lt : (hI h (n + 585) q).toNatClampNeg < 3000 := by omega
    obtain ⟨lo, hi⟩ := dy_lo k (q := (583, 3000, 5, 8000, fsB)) (by decide) lt p3
    obtain ⟨x1, x2⟩ := brd_f k k' F (q := (583, 3000, 5, 8000, fsB)) (by decide) rfl rfl lt p3 (dd (583, 3000, 5, 8000, fsB) (by decide) (by decide) _ a lt p3 lo hi) p4
    exact ⟨P, a, p1, by rw [i5]; exact p2, by rw [i5]; exact x1, x2⟩
  · rw [(I 513 3 (by omega)).1]; exact R5.1
  · rw [(I 515 i (by omega)).1]; exact R5.2 i hi
end
end
