section
/-! ROWS of the reference: room, and the call -/
section
variable {n d F D p : Nat} {g h : Hp} {L : Nat → Nat → Int} {P Q : Pz} {v : MvT} {o : Int32 × Hp} {x1 x2 x3 x4 : Int32} {ser : Bool} {σ : Sy} {j : Nat}
/-- the board of a place stays, wherever deep boards are written -/
theorem plc_d {b : Nat} {o : Hp} (k : DyK n g h) (k' : DyK n h o) (F : FrD n 0 h o) (hp : p < 60) (eb : hR h (n + 536) p = some b) (A : RbA h b P) : hR o (n + 536) p = some b ∧ RbA o b P := by
  obtain ⟨own, D⟩ := k.1.1
  obtain ⟨x1, ⟨x2, x3⟩, _⟩ := bk_dy D (q := (536, 60, 5, 4000, fsB)) (by decide) hp eb
  refine brd_f (q := (536, 60, 5, 4000, fsB)) k k' F (by decide) rfl rfl hp eb (fun j f hj => nrd D (by have x1 : n + 610 ≤ b := x1; omega) (fun e _ he => ?_)) A
  have x3 : own (b + j) = 4000 + p := x3 j hj
  omega
theorem cp_d {b c : Nat} {o : Hp} (k : DyK n g h) (hp : p < 60) (eb : hR h (n + 536) p = some b) (A : RbA h b P) (ec : hR h (n + 573) 0 = some c) (e : sX12_copy h c b = some o) : DyK n g o ∧ DyK n h o ∧ FrD n 0 h o ∧ RbD n o 0 P := by
  obtain ⟨own, D⟩ := k.1.1
  obtain ⟨f, k1, A1⟩ := cpy_m k D.1 (bke_p D hp eb) (dp_bk D (by decide) ec) (by omega) A (dp_T D (by decide) ec) e
  obtain ⟨_, k2, _⟩ := cpy_m (dk_self k) D.1 (bke_p D hp eb) (dp_bk D (by decide) ec) (by omega) A (dp_T D (by decide) ec) e
  exact ⟨k1, k2, fw_s f (fun a i c' => Or.inr ⟨0, c, Nat.le_refl _, by decide, Or.inl ⟨ec, c'.1, c'.2⟩⟩), c, ks_r k2 (q := (573, 10, 5, 4100, fsB)) (by decide) ec, A1⟩
/-- is there room for all ROWS up to k moves -/
theorem rm_3 {b k : Nat} {h0 : Hp} (OK : LwOk L) (Oz : PzOk L P) (k8 : k ≤ 8) (hp : p < 60) (i2 : x2.toInt = (k : Int)) : ∀ (f : Nat) {u : Hp} {x4 : Int32} {j : Nat}, DyK n h0 u → FrD n 0 h0 u → RLw n u L → hR u (n + 536) p = some b → RbA u b P → x4.toInt = (j : Int) → 1 ≤ j → j ≤ k + 1 → (∀ q, 1 ≤ q → q < j → rwN L ser q P ≤ 100000) → sX15_isRoom_3 F f u (n + 513) b x2 (if ser = true then 1 else 0) x4 = some o → DyK n h0 o.2 ∧ FrD n 0 h0 o.2 ∧ ((o.1 = 0 ∧ ovR L ser k P) ∨ (¬ o.1 = 0 ∧ ¬ ovR L ser k P)) := by
  have z1 : (1 : Int32).toInt = 1 := rfl
  have zM : (100000 : Int32).toInt = 100000 := rfl
  intro f
  induction f with
  | zero => intro u x4 j _ _ _ _ _ _ _ _ _ e; exact absurd e (by rw [sX15_isRoom_3]; exact fun z => nomatch z)
  | succ f ih =>
    intro u x4 j ku fu Ru eb Au i4 j1 jk al e
    rw [sX15_isRoom_3] at e
    rcases br_s e with ⟨c, e⟩ | ⟨c, e⟩
    · have c := lt_i c
      rw [so_e e]
      exact ⟨ku, fu, Or.inr ⟨show ¬ (1 : Int32) = 0 by decide, fun ⟨q, q1, q2, q3⟩ => by have := al q q1 (by omega); omega⟩⟩
    have c := nlt_i c
    obtain ⟨o2, e2, e⟩ := cl_s e
    obtain ⟨⟨d10, _⟩, k2, k2', f2, ec, _⟩ := db_d (d := 0) ku rfl e2
    obtain ⟨eb2, A2⟩ := plc_d ku k2' (frn_d f2) hp eb Au
    have F2 : FrD n 0 h0 o2.2 := frd_t ku fu (frn_d f2)
    have R2 := rlw_d (d := 0) ku k2' (frn_d f2) Ru
    unfold sX15_isRoom_14 sX15_isRoom_18 sX15_isRoom_26 at e
    obtain ⟨o3, e3, e⟩ := cl_s e
    obtain ⟨k3, k3', f3, B3⟩ := cp_d k2 hp eb2 A2 ec e3
    obtain ⟨eb3, A3⟩ := plc_d k2 k3' f3 hp eb2 A2
    have F3 : FrD n 0 h0 o3 := frd_t k2 F2 f3
    have R3 := rlw_d k2 k3' f3 R2
    obtain ⟨o4, e4, e⟩ := cl_s e
    obtain ⟨k4, f4, C4⟩ := cr_all (n := n) (F := F) (ser := ser) OK 40 (dk_self k3) R3 B3 Oz (d := 0) (k := j) (by omega) rfl i4 e4
    obtain ⟨eb4, A4⟩ := plc_d k3 k4 f4 hp eb3 A3
    rcases br_s e with ⟨c4, e⟩ | ⟨c4, e⟩
    · have c4 := le_i c4
      replace e := nx_e e
      have le : rwN L ser j P ≤ 100000 := by
        rcases Nat.lt_or_ge 100000 (rwN L ser j P) with z | z
        · have := C4.2.2.2 z; omega
        · exact z
      refine ih (j := j + 1) (dk_t k3 k4) (frd_t k3 F3 f4) (rlw_d k3 k4 f4 R3) eb4 A4 (by rw [ta (by omega), i4, z1]; omega) (by omega) (by omega) (fun q q1 q2 => ?_) e
      rcases Nat.lt_or_ge q j with z | z
      · exact al q q1 z
      · rw [show q = j by omega]; exact le
    · have c4 := nle_i c4
      rw [so_e e]
      refine ⟨dk_t k3 k4, frd_t k3 F3 f4, Or.inl ⟨rfl, j, j1, by omega, ?_⟩⟩
      rcases Nat.lt_or_ge 100000 (rwN L ser j P) with z | z
      · exact z
      · have := C4.2.2.1 z; omega
theorem rm_r {b k : Nat} (OK : LwOk L) (Oz : PzOk L P) (k8 : k ≤ 8) (hp : p < 60) (i2 : x2.toInt = (k : Int)) (kh : DyK n g h) (R : RLw n h L) (eb : hR h (n + 536) p = some b) (A : RbA h b P) (e : sX15_isRoom F h (n + 513) b x2 (if ser = true then 1 else 0) = some o) : DyK n h o.2 ∧ FrD n 0 h o.2 ∧ ((o.1 = 0 ∧ ovR L ser k P) ∨ (¬ o.1 = 0 ∧ ¬ ovR L ser k P)) := by
  unfold sX15_isRoom at e
  exact rm_3 OK Oz k8 hp i2 F (j := 1) (dk_self kh) frd_0 R eb A rfl (Nat.le_refl _) (by omega) (fun q q1 q2 => by omega) e
theorem rao_d {a : Int} (k : DyK n h h) (Ok : SyOk σ) (R : RelR n j h σ) (F : FrD n 0 h o.2) (k' : DyK n h o.2) (ea : o.1.toInt = a) : RaO n j h σ o a :=
  ⟨ea, relr_d k k' F (fun g hg => (Ok.2.2.1 g hg).1.2) R, k', frr_d k F⟩
theorem ra_rows (k : DyK n h h) (Ok : SyOk σ) (R : RelR n j h σ) (e : sX15_rows F h (n + 513) x1 x2 = some o) : RaO n j h σ o (anRow σ x1 x2) := by
  have z6 : (6 : Int32).toInt = 6 := rfl
  have z0 : (0 : Int32).toInt = 0 := rfl
  unfold sX15_rows sX15_rows_10 at e
  unfold anRow
  rcases br_s e with ⟨c, e⟩ | ⟨c, e⟩
  · have := lt_i c
    rw [so_e e, if_neg (by omega)]
    exact rao_0 k R rfl rfl
  have c := nlt_i c
  rcases br_s e with ⟨c2, e⟩ | ⟨c2, e⟩
  rotate_left
  · have := nle_i c2
    rw [so_e e, if_neg (by omega)]
    exact rao_0 k R rfl rfl
  have c2 := le_i c2
  rw [if_pos (by omega)]
  have n2 := nc_i (x := x2) (by omega)
  unfold sX15_rows_18 sX15_rows_36 at e
  obtain ⟨o3, e3, e⟩ := cl_s e
  obtain ⟨q3, c3⟩ := has_r k R.2.1 e3
  rw [q3] at e
  rcases c3 with ⟨d3, d4⟩ | ⟨d3, P, d4⟩
  · rw [so_e (bp_e d3 e), ple_n d4]
    exact rao_0 k R rfl rfl
  replace e := bn_e d3 e
  rw [ple_s d4]
  obtain ⟨_, _, b3, _⟩ := spl_b d4
  obtain ⟨b, eb, A⟩ := rpl_p R.2.1 d4
  have Oz := spl_ok Ok d4
  obtain ⟨r5, e5, e⟩ := cl_s e
  have y5 := dk_ed (a := 513) (b := 536) k (by decide +kernel) e5
  subst y5
  replace e := gg_e e
  replace e := ce_e eb e
  obtain ⟨o6, e6, e⟩ := cl_s e
  obtain ⟨k6, f6, y6⟩ := rm_r (ser := false) Ok.1 Oz (k := x2.toNatClampNeg) (by omega) b3 (by omega) k R.1 eb A e6
  rcases y6 with ⟨y6, y7⟩ | ⟨y6, y7⟩
  · rw [so_e (bp_e y6 e), prb_e.mpr y7, if_pos rfl]
    exact rao_d k Ok R f6 k6 rfl
  replace e := bn_e y6 e
  rw [prb_f.mpr y7, if_neg (by decide)]
  obtain ⟨eb6, A6⟩ := plc_d k k6 f6 b3 eb A
  have R6 := rlw_d k k6 f6 R.1
  obtain ⟨o7, e7, e⟩ := cl_s e
  obtain ⟨_, k7, k7', f7, ec, _⟩ := db_d (d := 0) k6 rfl e7
  obtain ⟨eb7, A7⟩ := plc_d k6 k7' (frn_d f7) b3 eb6 A6
  have R7 := rlw_d (d := 0) k6 k7' (frn_d f7) R6
  unfold sX15_rows_47 sX15_rows_56 sX15_rows_63 at e
  obtain ⟨r8, e8, e⟩ := cl_s e
  have y8 := dk_ed (a := 513) (b := 536) k7 (by decide +kernel) e8
  subst y8
  replace e := gg_e e
  replace e := ce_e eb7 e
  obtain ⟨o9, e9, e⟩ := cl_s e
  obtain ⟨k9, k9', f9, B9⟩ := cp_d k7 b3 eb7 A7 ec e9
  obtain ⟨o10, e10, e⟩ := cl_s e
  obtain ⟨k10, f10, C10⟩ := cr_all (n := n) (F := F) (ser := false) Ok.1 40 (dk_self k9) (rlw_d k7 k9' f9 R7) B9 Oz (d := 0) (k := x2.toNatClampNeg) (by omega) rfl (by omega) e10
  rw [so_e e]
  refine rao_d k Ok R (frd_t k9 (frd_t k7 (frd_t k6 f6 (frn_d f7)) f9) f10) (dk_t k9 k10) ?_
  have le : rwN (syL σ) false x2.toNatClampNeg P ≤ 100000 := by
    rcases Nat.lt_or_ge 100000 (rwN (syL σ) false x2.toNatClampNeg P) with z | z
    · refine absurd ⟨x2.toNatClampNeg, ?_, Nat.le_refl _, z⟩ y7
      rcases Nat.eq_zero_or_pos x2.toNatClampNeg with y | y
      · rw [y] at z; exact absurd z (by show ¬ 100000 < 1; decide)
      · exact y
    · exact z
  exact C10.2.2.1 le
end
end
section
/-! PROBLEM of the reference: is it a move that forces -/
/-- the position at depth d, and its LEGAL moves -/
def RxD (n : Nat) (L : Nat → Nat → Int) (h : Hp) (d : Nat) (P : Pz) : Prop := RbD n h d P ∧ RlD n h d (lgL L P)
/-- how many moves more, behind a move of the side that asks -/
def rK (K : Int) (N : Nat) : Nat := if K = 0 then 2 * N - 2 else 2 * N - 1
section
variable {n d F D p : Nat} {g h : Hp} {L : Nat → Nat → Int} {P Q : Pz} {v : MvT} {o : Int32 × Hp} {x1 x2 x3 x4 x5 : Int32} {K G : Int}
theorem rxd_f {d' : Nat} {o : Hp} (k : DyK n g h) (k' : DyK n h o) (F : FrD n d' h o) (l : d < d') (hd : d < 10) (A : RxD n L h d P) : RxD n L o d P := ⟨rbd_f k k' F l hd A.1, rld_f k k' F l hd A.2⟩
theorem lgx_d {o : Hp} {x : Int32} {b : Nat} (OK : LwOk L) (Oz : PzOk L P) (k : DyK n g h) (R : RLw n h L) (ix : x.toInt = (d : Int)) (d10 : d < 10) (eb : hR h (n + 573) d = some b) (A : RbD n h d P) (e : (cl (hR h (n + 513) 34) fun r_1 => gd (inB x (hN h r_1)) <| cl (hR h r_1 x.toNatClampNeg) fun r_3 => sX15_legal F h (n + 513) b r_3) = some o) : DyK n h o ∧ FrD n d h o ∧ RxD n L o d P := by
  replace e := ce_e (dk_e (a := 513) (f := 34) (b := 574) k (by decide +kernel)) e
  replace e := gg_e e
  have xd : x.toNatClampNeg = d := by have := nc_i (x := x) (by omega); omega
  obtain ⟨l, el, e⟩ := cl_s e
  rw [xd] at el
  obtain ⟨b', eb', A'⟩ := A
  have y := r_eq eb eb'
  subst y
  obtain ⟨_, k4', f4, M4, B4⟩ := leg_d OK Oz k R d10 eb A' el e
  exact ⟨k4', f4, B4, M4⟩
/-- step: a move from depth d to depth d + 1, and what is LEGAL there -/
theorem st_d {i : Nat} {o : Hp} (OK : LwOk L) (Oz : PzOk L P) (k : DyK n g h) (R : RLw n h L) (A : RxD n L h d P) (d9 : d ≤ 8) (i1 : x1.toInt = (d : Int)) (i2 : x2.toInt = (i : Int)) (ev : (lgL L P)[i]? = some v) (e : sX15_step F h (n + 513) x1 x2 = some o) : DyK n h o ∧ FrD n (d + 1) h o ∧ RxD n L o (d + 1) (zAll L P v) ∧ RxD n L o d P := by
  have k := dk_self k
  have z1 : (1 : Int32).toInt = 1 := rfl
  have i1' : (x1 + (1 : Int32)).toInt = ((d + 1 : Nat) : Int) := by rw [ta (by omega), i1, z1]; omega
  have xd : x1.toNatClampNeg = d := by have := nc_i (x := x1) (by omega); omega
  have x2i : x2.toNatClampNeg = i := by have := nc_i (x := x2) (by omega); omega
  have Gv := lg_gd OK.1 OK.2.1 Oz ev
  have Oq := pz_ok OK.1 OK.2.1 Oz Gv
  unfold sX15_step sX15_step_6 sX15_step_20 sX15_step_23 sX15_step_31 sX15_step_42 at e
  obtain ⟨o1, e1, e⟩ := cl_s e
  obtain ⟨_, k1, k1', f1, eb1, _⟩ := db_d k i1 e1
  have A1 := rxd_f k k1' (frn_d (d := d + 1) f1) (by omega) (by omega) A
  have R1 := rlw_d (d := d) k k1' (frn_d f1) R
  replace e := ce_e (dk_e (a := 513) (f := 34) (b := 574) k1 (by decide +kernel)) e
  replace e := gg_e e
  obtain ⟨l, el, e⟩ := cl_s e
  rw [xd] at el
  obtain ⟨o4, e4, e⟩ := cl_s e
  obtain ⟨⟨d10, _⟩, k4, k4', f4, ec, _⟩ := db_d k1 i1' e4
  have A4 := rxd_f k1 k4' (frn_d (d := d + 1) f4) (by omega) (by omega) A1
  have R4 := rlw_d (d := d) k1 k4' (frn_d f4) R1
  have eb4 := ks_r k4' (q := (573, 10, 5, 4100, fsB)) (by decide) eb1
  have el4 := ks_r k4' (q := (574, 10, 8, 4200, fsM)) (by decide) el
  obtain ⟨⟨b, eb, Ab⟩, l', el', Al⟩ := A4
  have yb := r_eq eb4 eb
  subst yb
  have yl := r_eq el4 el'
  subst yl
  obtain ⟨o5, e5, e⟩ := cl_s e
  obtain ⟨k5, k5', f5, B5⟩ := mk_d OK Oz k4 R4 d10 eb Ab el' Al ec x2i ev e5
  have A5 := rxd_f k4 k5' f5 (d := d) (by omega) (by omega) ⟨⟨_, eb, Ab⟩, _, el', Al⟩
  have R5 := rlw_d k4 k5' f5 R4
  obtain ⟨o6, e6, e⟩ := cl_s e
  obtain ⟨_, k6, k6', f6, ec6, _⟩ := db_d k5 i1' e6
  have A6 := rxd_f k5 k6' (frn_d (d := d + 1) f6) (by omega) (by omega) A5
  have R6 := rlw_d (d := d) k5 k6' (frn_d f6) R5
  have B6 := rbd_n k5 k6' f6 d10 B5
  have e' : (cl (hR o6.2 (n + 513) 34) fun r_1 => gd (inB (x1 + (1 : Int32)) (hN o6.2 r_1)) <| cl (hR o6.2 r_1 (x1 + (1 : Int32)).toNatClampNeg) fun r_3 => sX15_legal F o6.2 (n + 513) o6.1 r_3) = some o := by
    have q := dk_e (a := 513) (f := 34) (b := 574) k6 (by decide +kernel)
    rw [q] at e ⊢
    obtain ⟨g1, e⟩ := gd_s (show gd _ _ = some o from e)
    obtain ⟨r3, er, e⟩ := cl_s e
    obtain ⟨o7, e7, e⟩ := cl_s e
    show gd _ _ = some o
    unfold gd
    rw [if_pos g1, er]
    show sX15_legal F o6.2 (n + 513) o6.1 r3 = some o
    rw [e7]
    exact congrArg some (so_e e).symm
  obtain ⟨k7, f7, X7⟩ := lgx_d OK Oq k6 R6 i1' d10 ec6 B6 e'
  refine ⟨dk_t k1' (dk_t k4' (dk_t k5' (dk_t k6' k7))), ?_, X7, rxd_f k6 k7 f7 (by omega) (by omega) A6⟩
  exact frd_t k6 (frd_t k5 (frd_t k4 (frd_t k1 (frn_d f1) (frn_d f4)) f5) (frn_d f6)) f7
/-- how the position at depth d ends, and nothing else is written -/
theorem en_x {x : Int32} {b : Nat} {Y : Int32 × Hp → Option (Int32 × Hp)} (OK : LwOk L) (Oz : PzOk L P) (k : DyK n g h) (R : RLw n h L) (A : RxD n L h d P) (ix : x.toInt = (d : Int)) (d10 : d < 10) (eb : hR h (n + 573) d = some b) (e : (cl (hR h (n + 513) 34) fun r_1 => gd (inB x (hN h r_1)) <| cl (hR h r_1 x.toNatClampNeg) fun r_3 => cl (sX15_endedBy F h (n + 513) b (hI h r_3 0)) Y) = some o) : ∃ o4, Y o4 = some o ∧ DyK n h o4.2 ∧ FrD n 10 h o4.2 ∧ o4.1.toInt = (enE L P).1 ∧ (0 < (enE L P).1 → (hI o4.2 (n + 513) 29).toInt = (enE L P).2) ∧ hI o4.2 b 1 = hI h b 1 ∧ (hI h b 1).toInt = (pzS P : Int) := by
  have k := dk_self k
  replace e := ce_e (dk_e (a := 513) (f := 34) (b := 574) k (by decide +kernel)) e
  replace e := gg_e e
  have xd : x.toNatClampNeg = d := by have := nc_i (x := x) (by omega); omega
  obtain ⟨l, el, e⟩ := cl_s e
  rw [xd] at el
  obtain ⟨⟨b', eb', Ab⟩, l', el', Al⟩ := A
  have yb := r_eq eb eb'
  subst yb
  have yl := r_eq el el'
  subst yl
  obtain ⟨o4, e4, e⟩ := cl_s e
  obtain ⟨_, k4, f4, v4, w4⟩ := end_d OK Oz k R d10 eb Ab el Al e4
  obtain ⟨own, D⟩ := k.1.1
  obtain ⟨t1, t2, t3⟩ := dp_tag D d10 eb
  exact ⟨o4, e, k4, frd_s f4, v4, w4, (f4.2 b' 1 (by omega) (fun c => by unfold RS at c; omega)).1, Ab.2.2.1⟩
theorem he_d (OK : LwOk L) (Oz : PzOk L P) (k : DyK n g h) (R : RLw n h L) (A : RxD n L h d P) (ix : x1.toInt = (d : Int)) (e : sX15_hasEnded F h (n + 513) x1 = some o) : DyK n h o.2 ∧ FrD n 10 h o.2 ∧ ((o.1 = 0 ∧ (enE L P).1 = 0) ∨ (¬ o.1 = 0 ∧ 0 < (enE L P).1)) := by
  have k := dk_self k
  have z0 : (0 : Int32).toInt = 0 := rfl
  unfold sX15_hasEnded sX15_hasEnded_6 sX15_hasEnded_18 sX15_hasEnded_26 at e
  obtain ⟨o1, e1, e⟩ := cl_s e
  obtain ⟨⟨d10, _⟩, k1, k1', f1, eb1, _⟩ := db_d k ix e1
  have A1 := rxd_f k k1' (frn_d (d := d + 1) f1) (by omega) (by omega) A
  have R1 := rlw_d (d := d) k k1' (frn_d f1) R
  obtain ⟨o4, e, k4, f4, v4, _⟩ := en_x OK Oz k1 R1 A1 ix d10 eb1 e
  have b0 := ene_b (L := L) (P := P)
  have F4 : FrD n 10 h o4.2 := frd_t k1 (frn_d f1) f4
  rcases br_s e with ⟨c, e⟩ | ⟨c, e⟩
  · have c := le_i c
    replace e := gg_e e
    rw [so_e e]
    exact ⟨dk_t k1' k4, F4, Or.inl ⟨rfl, by omega⟩⟩
  · have c := nle_i c
    replace e := gg_e e
    rw [so_e e]
    exact ⟨dk_t k1' k4, F4, Or.inr ⟨show ¬ (1 : Int32) = 0 by decide, by omega⟩⟩
theorem gl_d (OK : LwOk L) (Oz : PzOk L P) (k : DyK n g h) (R : RLw n h L) (A : RxD n L h d P) (ix : x1.toInt = (d : Int)) (ig : x2.toInt = G) (e : sX15_isGoal F h (n + 513) x1 x2 = some o) : DyK n h o.2 ∧ FrD n 10 h o.2 ∧ ((o.1 = 0 ∧ glB L G P = false) ∨ (¬ o.1 = 0 ∧ glB L G P = true)) := by
  have k := dk_self k
  have z0 : (0 : Int32).toInt = 0 := rfl
  have z1 : (1 : Int32).toInt = 1 := rfl
  have z5 : (5 : Int32).toInt = 5 := rfl
  have z6 : (6 : Int32).toInt = 6 := rfl
  unfold sX15_isGoal sX15_isGoal_5 sX15_isGoal_20 sX15_isGoal_82 sX15_isGoal_83 at e
  obtain ⟨o1, e1, e⟩ := cl_s e
  obtain ⟨⟨d10, _⟩, k1, k1', f1, eb1, _⟩ := db_d k ix e1
  have A1 := rxd_f k k1' (frn_d (d := d + 1) f1) (by omega) (by omega) A
  have R1 := rlw_d (d := d) k k1' (frn_d f1) R
  obtain ⟨o4, e, k4, f4, v4, w4, s4, s1⟩ := en_x OK Oz k1 R1 A1 ix d10 eb1 e
  have b0 := ene_b (L := L) (P := P)
  have F4 : FrD n 10 h o4.2 := frd_t k1 (frn_d f1) f4
  have yes : glB L G P = true → (gd ((1 : Int32) &&& 1 = 1) <| some ((1 : Int32), o4.2)) = some o → DyK n h o.2 ∧ FrD n 10 h o.2 ∧ ((o.1 = 0 ∧ glB L G P = false) ∨ (¬ o.1 = 0 ∧ glB L G P = true)) := fun y e => by
    replace e := gg_e e
    rw [so_e e]
    exact ⟨dk_t k1' k4, F4, Or.inr ⟨show ¬ (1 : Int32) = 0 by decide, y⟩⟩
  have no : glB L G P = false → (gd ((0 : Int32) &&& 1 = 0) <| some ((0 : Int32), o4.2)) = some o → DyK n h o.2 ∧ FrD n 10 h o.2 ∧ ((o.1 = 0 ∧ glB L G P = false) ∨ (¬ o.1 = 0 ∧ glB L G P = true)) := fun y e => by
    replace e := gg_e e
    rw [so_e e]
    exact ⟨dk_t k1' k4, F4, Or.inl ⟨rfl, y⟩⟩
  have g0 : G = 0 → glB L G P = decide ((enE L P).1 = 5) := fun z => by unfold glB; rw [if_pos z]
  have g1 : ¬ G = 0 → G = 1 → glB L G P = decide ((enE L P).1 = 6) := fun z z' => by unfold glB; rw [if_neg z, if_pos z']
  have g2 : ¬ G = 0 → ¬ G = 1 → glB L G P = decide (0 < (enE L P).1 ∧ (enE L P).2 = ((1 - pzS P : Nat) : Int)) := fun z z' => by unfold glB; rw [if_neg z, if_neg z']
  have i32 : ∀ {a b : Int32}, ¬ a = b → ¬ a.toInt = b.toInt := fun z y => z (Int32.toInt_inj.mp y)
  rcases br_s e with ⟨c, e⟩ | ⟨c, e⟩
  · have c : G = 0 := by rw [← ig, c]; rfl
    rcases br_s e with ⟨c2, e⟩ | ⟨c2, e⟩
    · exact yes (by rw [g0 c, decide_eq_true_eq, ← v4, c2]; rfl) e
    · exact no (by rw [g0 c, decide_eq_false_iff_not, ← v4]; exact i32 c2) e
  have c : ¬ G = 0 := by rw [← ig]; exact i32 c
  rcases br_s e with ⟨c1, e⟩ | ⟨c1, e⟩
  · have c1 : G = 1 := by rw [← ig, c1]; rfl
    rcases br_s e with ⟨c2, e⟩ | ⟨c2, e⟩
    · exact yes (by rw [g1 c c1, decide_eq_true_eq, ← v4, c2]; rfl) e
    · exact no (by rw [g1 c c1, decide_eq_false_iff_not, ← v4]; exact i32 c2) e
  have c1 : ¬ G = 1 := by rw [← ig]; exact i32 c1
  rcases br_s e with ⟨c2, e⟩ | ⟨c2, e⟩
  · have c2 := le_i c2
    exact no (by rw [g2 c c1, decide_eq_false_iff_not]; omega) e
  have c2 := nle_i c2
  have sd := Oz.2.2.1
  have w4 := w4 (by omega)
  have vs : ((1 : Int32) - hI o4.2 o1.1 1).toInt = ((1 - pzS P : Nat) : Int) := by rw [s4, ts (by rw [s1, z1]; omega), s1, z1]; omega
  rcases br_s e with ⟨c3, e⟩ | ⟨c3, e⟩
  · exact yes (by rw [g2 c c1, decide_eq_true_eq, ← w4, ← vs, c3]; exact ⟨by omega, rfl⟩) e
  · exact no (by rw [g2 c c1, decide_eq_false_iff_not, ← w4, ← vs]; exact fun z => i32 c3 z.2) e
theorem glb_e {G : Int} (y : glB L G P = true) : 0 < (enE L P).1 := by
  unfold glB at y
  split at y
  · rw [decide_eq_true_eq] at y; omega
  · split at y
    · rw [decide_eq_true_eq] at y; omega
    · rw [decide_eq_true_eq] at y; exact y.1
end
end
section
/-! isMove and isAnswered of the reference -/
section
variable {n F D : Nat} {L : Nat → Nat → Int} {K G : Int}
noncomputable def mvV (L : Nat → Nat → Int) (K G : Int) (r : Nat) (e : Bool) (P : Pz) (v : MvT) : Nat := brV L K G (fun e Q => trV L K G r e Q) r e P v
theorem mvv_t (k1 : K ≤ 1) {r : Nat} {P : Pz} {v : MvT} : mvV L K G r true P v = if ((enE L (zAll L P v)).1 = 0 ∧ 0 < r ∧ trV L K G r false (zAll L P v) = 0) ∨ (¬ (enE L (zAll L P v)).1 = 0 ∧ K = 0 ∧ glB L G (zAll L P v) = true) then 1 else 0 := by
  unfold mvV brV
  rw [if_pos k1, if_pos rfl]
  by_cases c : (enE L (zAll L P v)).1 = 0
  · rw [if_pos c]
    by_cases c2 : 0 < r ∧ trV L K G r false (zAll L P v) = 0
    · rw [if_pos (Or.inl ⟨c, c2⟩), if_pos (by rw [Bool.and_eq_true, decide_eq_true_eq, decide_eq_true_eq]; exact c2)]
    · rw [if_neg (by rw [Bool.and_eq_true, decide_eq_true_eq, decide_eq_true_eq]; exact c2), if_neg (fun z => z.elim (fun z => c2 z.2) (fun z => z.1 c))]
  · rw [if_neg c]
    by_cases c2 : K = 0 ∧ glB L G (zAll L P v) = true
    · rw [if_pos (Or.inr ⟨c, c2⟩), if_pos (by rw [Bool.and_eq_true, decide_eq_true_eq]; exact c2)]
    · rw [if_neg (by rw [Bool.and_eq_true, decide_eq_true_eq]; exact c2), if_neg (fun z => z.elim (fun z => c z.1) (fun z => c2 z.2))]
theorem mvv_f (k1 : K ≤ 1) {r : Nat} {P : Pz} {v : MvT} : mvV L K G r false P v = if (0 < r ∧ 0 < trV L K G r true (zAll L P v)) ∨ (K = 1 ∧ glB L G (zAll L P v) = true) then 0 else 1 := by
  unfold mvV brV
  rw [if_pos k1, if_neg (by decide)]
  by_cases c : (0 < r ∧ 0 < trV L K G r true (zAll L P v)) ∨ (K = 1 ∧ glB L G (zAll L P v) = true)
  · rw [if_pos c, if_pos (by rw [Bool.or_eq_true, Bool.and_eq_true, Bool.and_eq_true, decide_eq_true_eq, decide_eq_true_eq, decide_eq_true_eq]; exact c)]
  · rw [if_neg c, if_neg (by rw [Bool.or_eq_true, Bool.and_eq_true, Bool.and_eq_true, decide_eq_true_eq, decide_eq_true_eq, decide_eq_true_eq]; exact c)]
theorem trv_s (k3 : ¬ K = 4) {r : Nat} {e : Bool} {P : Pz} : trV L K G (r + 1) e P = smT (mvG L P (mvV L K G r e P)) (lgL L P).length := by
  show (if K = 4 ∧ r = 0 then (lgL L P).length else smT (mvG L P (brV L K G (fun e Q => trV L K G r e Q) r e P)) (lgL L P).length) = _
  rw [if_neg (fun z => k3 z.1)]
  rfl
theorem smt_0 {f : Nat → Nat} : ∀ {m : Nat}, (∀ i, i < m → f i = 0) → smT f m = 0
  | 0, _ => rfl
  | m + 1, h => by
    show smT f m + f m = 0
    rw [smt_0 (fun i hi => h i (by omega)), h m (by omega)]
theorem smt_p {f : Nat → Nat} {i m : Nat} (hi : i < m) (p : 0 < f i) : 0 < smT f m := by
  have : smT f (i + 1) ≤ smT f m := smt_m hi
  have : smT f (i + 1) = smT f i + f i := rfl
  omega
def MvOK (n F : Nat) (L : Nat → Nat → Int) (K G : Int) (D : Nat) : Prop := ∀ {h : Hp} {P : Pz} {v : MvT} {d N i : Nat} {x1 x2 x3 x4 x5 : Int32} {o : Int32 × Hp}, DyK n h h → RLw n h L → RxD n L h d P → PzOk L P → 1 ≤ N → d + 2 * N ≤ 9 → x1.toInt = (d : Int) → x2.toInt = (i : Int) → (lgL L P)[i]? = some v → x3.toInt = (N : Int) → x4.toInt = K → x5.toInt = G → (qX15_isAnswered F D).2 h (n + 513) x1 x2 x3 x4 x5 = some o → DyK n h o.2 ∧ FrD n (d + 1) h o.2 ∧ ((o.1 = 0 ∧ mvV L K G (rK K N) true P v = 0) ∨ (¬ o.1 = 0 ∧ mvV L K G (rK K N) true P v = 1))
def AnOK (n F : Nat) (L : Nat → Nat → Int) (K G : Int) (D : Nat) : Prop := ∀ {h : Hp} {P : Pz} {v : MvT} {d N i : Nat} {x1 x2 x3 x4 x5 : Int32} {o : Int32 × Hp}, DyK n h h → RLw n h L → RxD n L h d P → PzOk L P → 1 ≤ N → d + 2 * N ≤ 10 → x1.toInt = (d : Int) → x2.toInt = (i : Int) → (lgL L P)[i]? = some v → x3.toInt = (N : Int) → x4.toInt = K → x5.toInt = G → (qX15_isAnswered F D).1 h (n + 513) x1 x2 x3 x4 x5 = some o → DyK n h o.2 ∧ FrD n (d + 1) h o.2 ∧ ((o.1 = 0 ∧ mvV L K G (rK K N - 1) false P v = 1) ∨ (¬ o.1 = 0 ∧ mvV L K G (rK K N - 1) false P v = 0))
/-- every reply is answered -/
theorem im_50 {h0 : Hp} {P Q : Pz} {d N : Nat} {x1 x3 x4 x5 : Int32} {o : Int32 × Hp} (OK : LwOk L) (C : AnOK n F L K G D) (Oq : PzOk L Q) (n1 : 1 ≤ N) (hd : d + 2 * N ≤ 9) (i1 : x1.toInt = (d : Int)) (i3 : x3.toInt = (N : Int)) (i4 : x4.toInt = K) (i5 : x5.toInt = G) : ∀ (f : Nat) {u : Hp} {x6 : Int32} {i : Nat}, DyK n h0 u → FrD n (d + 1) h0 u → RLw n u L → RxD n L u (d + 1) Q → x6.toInt = (i : Int) → i ≤ (lgL L Q).length → (∀ q, q < i → mvG L Q (mvV L K G (rK K N - 1) false Q) q = 0) → sX15_isMove_50 F (qX15_isAnswered F D).1 (qX15_isAnswered F D).2 f u (n + 513) x1 x3 x4 x5 x6 = some o → DyK n h0 o.2 ∧ FrD n (d + 1) h0 o.2 ∧ ((o.1 = 0 ∧ 0 < smT (mvG L Q (mvV L K G (rK K N - 1) false Q)) (lgL L Q).length) ∨ (¬ o.1 = 0 ∧ smT (mvG L Q (mvV L K G (rK K N - 1) false Q)) (lgL L Q).length = 0)) := by
  have z1 : (1 : Int32).toInt = 1 := rfl
  have i1' : (x1 + (1 : Int32)).toInt = ((d + 1 : Nat) : Int) := by rw [ta (by omega), i1, z1]; omega
  have xd : (x1 + (1 : Int32)).toNatClampNeg = d + 1 := by have := nc_i (x := x1 + (1 : Int32)) (by omega); omega
  have ln := lgl_le OK.1 OK.2.1 Oq
  intro f
  induction f with
  | zero => intro u x6 i _ _ _ _ _ _ _ e; exact absurd e (by rw [sX15_isMove_50]; exact fun z => nomatch z)
  | succ f ih =>
    intro u x6 i ku fu Ru Xu i6 il al e
    rw [sX15_isMove_50] at e
    unfold sX15_isMove_80 at e
    replace e := ce_e (dk_e (a := 513) (f := 34) (b := 574) ku (by decide +kernel)) e
    replace e := gg_e e
    obtain ⟨l, el, Al⟩ := Xu.2
    replace e := ce_e (show hR u (n + 574) (x1 + (1 : Int32)).toNatClampNeg = some l by rw [xd]; exact el) e
    have m0 : (hI u l 0).toInt = ((lgL L Q).length : Int) := Al.1
    rcases br_s e with ⟨c, e⟩ | ⟨c, e⟩
    · have c := le_i c
      have ii : i = (lgL L Q).length := by omega
      rw [so_e e]
      exact ⟨ku, fu, Or.inr ⟨show ¬ (1 : Int32) = 0 by decide, smt_0 (fun q hq => al q (by omega))⟩⟩
    have c := nle_i c
    have li : i < (lgL L Q).length := by omega
    obtain ⟨v, ev⟩ : ∃ v, (lgL L Q)[i]? = some v := ⟨_, List.getElem?_eq_getElem li⟩
    obtain ⟨o5, e5, e⟩ := cl_s e
    obtain ⟨k5, f5, y5⟩ := C (dk_self ku) Ru Xu Oq n1 (by omega) i1' i6 ev i3 i4 i5 e5
    have F5 : FrD n (d + 1) h0 o5.2 := frd_t ku fu (frd_m (by omega) f5)
    have mv : mvG L Q (mvV L K G (rK K N - 1) false Q) i = mvV L K G (rK K N - 1) false Q v := mvg_s ev
    rcases y5 with ⟨y1, y2⟩ | ⟨y1, y2⟩
    · rw [so_e (bp_e y1 e)]
      exact ⟨dk_t ku k5, F5, Or.inl ⟨rfl, smt_p li (by omega)⟩⟩
    · replace e := nx_e (bn_e y1 e)
      refine ih (i := i + 1) (dk_t ku k5) F5 (rlw_d ku k5 f5 Ru) (rxd_f ku k5 f5 (by omega) (by omega) Xu) (by rw [ta (by omega), i6, z1]; omega) (by omega) (fun q hq => ?_) e
      rcases Nat.lt_or_ge q i with z | z
      · exact al q z
      · rw [show q = i by omega, mv]; exact y2
/-- some move forces -/
theorem ia_46 {h0 : Hp} {P Q : Pz} {d N : Nat} {x1 x3 x4 x5 : Int32} {o : Int32 × Hp} (OK : LwOk L) (C : MvOK n F L K G D) (Oq : PzOk L Q) (n1 : 2 ≤ N) (hd : d + 2 * N ≤ 10) (i1 : x1.toInt = (d : Int)) (i3 : x3.toInt = (N : Int)) (i4 : x4.toInt = K) (i5 : x5.toInt = G) : ∀ (f : Nat) {u : Hp} {x6 : Int32} {i : Nat}, DyK n h0 u → FrD n (d + 1) h0 u → RLw n u L → RxD n L u (d + 1) Q → x6.toInt = (i : Int) → i ≤ (lgL L Q).length → (∀ q, q < i → mvG L Q (mvV L K G (rK K (N - 1)) true Q) q = 0) → sX15_isAnswered_46 F (qX15_isAnswered F D).1 (qX15_isAnswered F D).2 f u (n + 513) x1 x3 x4 x5 x6 = some o → DyK n h0 o.2 ∧ FrD n (d + 1) h0 o.2 ∧ ((o.1 = 0 ∧ smT (mvG L Q (mvV L K G (rK K (N - 1)) true Q)) (lgL L Q).length = 0) ∨ (¬ o.1 = 0 ∧ 0 < smT (mvG L Q (mvV L K G (rK K (N - 1)) true Q)) (lgL L Q).length)) := by
  have z1 : (1 : Int32).toInt = 1 := rfl
  have i1' : (x1 + (1 : Int32)).toInt = ((d + 1 : Nat) : Int) := by rw [ta (by omega), i1, z1]; omega
  have i3' : (x3 - (1 : Int32)).toInt = ((N - 1 : Nat) : Int) := by rw [ts (by omega), i3, z1]; omega
  have xd : (x1 + (1 : Int32)).toNatClampNeg = d + 1 := by have := nc_i (x := x1 + (1 : Int32)) (by omega); omega
  have ln := lgl_le OK.1 OK.2.1 Oq
  intro f
  induction f with
  | zero => intro u x6 i _ _ _ _ _ _ _ e; exact absurd e (by rw [sX15_isAnswered_46]; exact fun z => nomatch z)
  | succ f ih =>
    intro u x6 i ku fu Ru Xu i6 il al e
    rw [sX15_isAnswered_46] at e
    unfold sX15_isAnswered_78 at e
    replace e := ce_e (dk_e (a := 513) (f := 34) (b := 574) ku (by decide +kernel)) e
    replace e := gg_e e
    obtain ⟨l, el, Al⟩ := Xu.2
    replace e := ce_e (show hR u (n + 574) (x1 + (1 : Int32)).toNatClampNeg = some l by rw [xd]; exact el) e
    have m0 : (hI u l 0).toInt = ((lgL L Q).length : Int) := Al.1
    rcases br_s e with ⟨c, e⟩ | ⟨c, e⟩
    · have c := le_i c
      have ii : i = (lgL L Q).length := by omega
      rw [so_e e]
      exact ⟨ku, fu, Or.inl ⟨rfl, smt_0 (fun q hq => al q (by omega))⟩⟩
    have c := nle_i c
    have li : i < (lgL L Q).length := by omega
    obtain ⟨v, ev⟩ : ∃ v, (lgL L Q)[i]? = some v := ⟨_, List.getElem?_eq_getElem li⟩
    obtain ⟨o5, e5, e⟩ := cl_s e
    obtain ⟨k5, f5, y5⟩ := C (dk_self ku) Ru Xu Oq (show 1 ≤ N - 1 by omega) (by omega) i1' i6 ev i3' i4 i5 e5
    have F5 : FrD n (d + 1) h0 o5.2 := frd_t ku fu (frd_m (by omega) f5)
    have mv : mvG L Q (mvV L K G (rK K (N - 1)) true Q) i = mvV L K G (rK K (N - 1)) true Q v := mvg_s ev
    rcases y5 with ⟨y1, y2⟩ | ⟨y1, y2⟩
    · replace e := nx_e (bp_e y1 e)
      refine ih (i := i + 1) (dk_t ku k5) F5 (rlw_d ku k5 f5 Ru) (rxd_f ku k5 f5 (by omega) (by omega) Xu) (by rw [ta (by omega), i6, z1]; omega) (by omega) (fun q hq => ?_) e
      rcases Nat.lt_or_ge q i with z | z
      · exact al q z
      · rw [show q = i by omega, mv]; exact y2
    · rw [so_e (bn_e y1 e)]
      exact ⟨dk_t ku k5, F5, Or.inr ⟨show ¬ (1 : Int32) = 0 by decide, smt_p li (by omega)⟩⟩
theorem lg_en {Q : Pz} (h : 0 < (enE L Q).1) : lgL L Q = [] := by
  by_cases c : lgL L Q = []
  · exact c
  · have := ene_0 c; omega
theorem am_all (OK : LwOk L) (k01 : 0 ≤ K ∧ K ≤ 1) : ∀ D, AnOK n F L K G D ∧ MvOK n F L K G D := by
  intro D
  have z0 : (0 : Int32).toInt = 0 := rfl
  have z1 : (1 : Int32).toInt = 1 := rfl
  have i32 : ∀ {a b : Int32}, ¬ a = b → ¬ a.toInt = b.toInt := fun z y => z (Int32.toInt_inj.mp y)
  induction D with
  | zero => exact ⟨(fun {h P v d N i x1 x2 x3 x4 x5 o} _ _ _ _ _ _ _ _ _ _ _ _ e => nomatch e), (fun {h P v d N i x1 x2 x3 x4 x5 o} _ _ _ _ _ _ _ _ _ _ _ _ e => nomatch e)⟩
  | succ D ih =>
    constructor
    · intro h P v d N i x1 x2 x3 x4 x5 o k R A Oz n1 hd i1 i2 ev i3 i4 i5 e
      have e : oX15_isAnswered F (qX15_isAnswered F D).1 (qX15_isAnswered F D).2 h (n + 513) x1 x2 x3 x4 x5 = some o := e
      have i1' : (x1 + (1 : Int32)).toInt = ((d + 1 : Nat) : Int) := by rw [ta (by omega), i1, z1]; omega
      have Oq := pz_ok OK.1 OK.2.1 Oz (lg_gd OK.1 OK.2.1 Oz ev)
      unfold oX15_isAnswered sX15_isAnswered_6 sX15_isAnswered_21 at e
      obtain ⟨o1, e1, e⟩ := cl_s e
      obtain ⟨k1, f1, X1, _⟩ := st_d OK Oz k R A (by omega) i1 i2 ev e1
      have R1 := rlw_d k k1 f1 R
      -- not by the GOAL
      have rest : ∀ {u : Hp}, DyK n h u → FrD n (d + 1) h u → RLw n u L → RxD n L u (d + 1) (zAll L P v) → ¬ (K = 1 ∧ glB L G (zAll L P v) = true) → sX15_isAnswered_26 F (qX15_isAnswered F D).1 (qX15_isAnswered F D).2 u (n + 513) x1 x3 x4 x5 = some o → DyK n h o.2 ∧ FrD n (d + 1) h o.2 ∧ ((o.1 = 0 ∧ mvV L K G (rK K N - 1) false P v = 1) ∨ (¬ o.1 = 0 ∧ mvV L K G (rK K N - 1) false P v = 0)) := fun {u} ku fu Ru Xu ng e => by
        unfold sX15_isAnswered_26 sX15_isAnswered_38 sX15_isAnswered_41 at e
        rw [mvv_f k01.2]
        rcases br_s e with ⟨c, e⟩ | ⟨c, e⟩
        · have : N = 1 := by rw [c, z1] at i3; omega
          have r0 : rK K N - 1 = 0 := by unfold rK; split <;> omega
          rw [so_e e, r0, if_neg (fun z => z.elim (fun z => by omega) ng)]
          exact ⟨ku, fu, Or.inl ⟨rfl, rfl⟩⟩
        have n2 : 2 ≤ N := by have := i32 c; omega
        have rk : rK K N - 1 = rK K (N - 1) + 1 := by unfold rK; split <;> omega
        obtain ⟨o2, e2, e⟩ := cl_s e
        obtain ⟨k2, f2, y2⟩ := he_d OK Oq ku Ru Xu i1' e2
        have F2 : FrD n (d + 1) h o2.2 := frd_t ku fu (frd_m (by omega) f2)
        rw [rk, trv_s (by omega)]
        rcases y2 with ⟨y1, y2⟩ | ⟨y1, y2⟩
        · replace e := bp_e y1 e
          obtain ⟨kk, ff, y3⟩ := ia_46 (P := P) (i := 0) OK ih.2 Oq n2 hd i1 i3 i4 i5 F (dk_t ku k2) F2 (rlw_d ku k2 f2 Ru) (rxd_f ku k2 f2 (by omega) (by omega) Xu) rfl (Nat.zero_le _) (fun q hq => absurd hq (Nat.not_lt_zero _)) e
          refine ⟨kk, ff, ?_⟩
          rcases y3 with ⟨y3, y4⟩ | ⟨y3, y4⟩
          · rw [if_neg (fun z => z.elim (fun z => by omega) ng)]
            exact Or.inl ⟨y3, rfl⟩
          · rw [if_pos (Or.inl ⟨by omega, y4⟩)]
            exact Or.inr ⟨y3, rfl⟩
        · rw [so_e (bn_e y1 e), lg_en y2, if_neg (fun z => z.elim (fun z => absurd z.2 (Nat.lt_irrefl 0)) ng)]
          exact ⟨dk_t ku k2, F2, Or.inl ⟨rfl, rfl⟩⟩
      rcases br_s e with ⟨c, e⟩ | ⟨c, e⟩
      · have K1 : K = 1 := by rw [← i4, c]; rfl
        obtain ⟨o2, e2, e⟩ := cl_s e
        obtain ⟨k2, f2, y2⟩ := gl_d OK Oq k1 R1 X1 i1' i5 e2
        have F2 : FrD n (d + 1) h o2.2 := frd_t k1 f1 (frd_m (by omega) f2)
        rcases y2 with ⟨y1, y2⟩ | ⟨y1, y2⟩
        · exact rest (dk_t k1 k2) F2 (rlw_d k1 k2 f2 R1) (rxd_f k1 k2 f2 (by omega) (by omega) X1) (fun z => by rw [y2] at z; exact nomatch z.2) (bp_e y1 e)
        · rw [so_e (bn_e y1 e), mvv_f k01.2, if_pos (Or.inr ⟨K1, y2⟩)]
          exact ⟨dk_t k1 k2, F2, Or.inr ⟨show ¬ (1 : Int32) = 0 by decide, rfl⟩⟩
      · have K1 : ¬ K = 1 := by rw [← i4]; exact i32 c
        exact rest k1 f1 R1 X1 (fun z => K1 z.1) e
    · intro h P v d N i x1 x2 x3 x4 x5 o k R A Oz n1 hd i1 i2 ev i3 i4 i5 e
      have e : oX15_isMove F (qX15_isAnswered F D).1 (qX15_isAnswered F D).2 h (n + 513) x1 x2 x3 x4 x5 = some o := e
      have i1' : (x1 + (1 : Int32)).toInt = ((d + 1 : Nat) : Int) := by rw [ta (by omega), i1, z1]; omega
      have Oq := pz_ok OK.1 OK.2.1 Oz (lg_gd OK.1 OK.2.1 Oz ev)
      unfold oX15_isMove sX15_isMove_6 sX15_isMove_20 at e
      obtain ⟨o1, e1, e⟩ := cl_s e
      obtain ⟨k1, f1, X1, _⟩ := st_d OK Oz k R A (by omega) i1 i2 ev e1
      have R1 := rlw_d k k1 f1 R
      have rest : ∀ {u : Hp}, DyK n h u → FrD n (d + 1) h u → RLw n u L → RxD n L u (d + 1) (zAll L P v) → ¬ (K = 0 ∧ glB L G (zAll L P v) = true) → sX15_isMove_25 F (qX15_isAnswered F D).1 (qX15_isAnswered F D).2 u (n + 513) x1 x3 x4 x5 = some o → DyK n h o.2 ∧ FrD n (d + 1) h o.2 ∧ ((o.1 = 0 ∧ mvV L K G (rK K N) true P v = 0) ∨ (¬ o.1 = 0 ∧ mvV L K G (rK K N) true P v = 1)) := fun {u} ku fu Ru Xu ng e => by
        unfold sX15_isMove_25 sX15_isMove_32 sX15_isMove_45 sX15_isMove_47 at e
        rw [mvv_t k01.2]
        obtain ⟨o2, e2, e⟩ := cl_s e
        obtain ⟨k2, f2, y2⟩ := he_d OK Oq ku Ru Xu i1' e2
        have F2 : FrD n (d + 1) h o2.2 := frd_t ku fu (frd_m (by omega) f2)
        rcases y2 with ⟨y1, y2⟩ | ⟨y1, y2⟩
        · replace e := bp_e y1 e
          have more : 0 < rK K N → sX15_isMove_50 F (qX15_isAnswered F D).1 (qX15_isAnswered F D).2 F o2.2 (n + 513) x1 x3 x4 x5 0 = some o → DyK n h o.2 ∧ FrD n (d + 1) h o.2 ∧ ((o.1 = 0 ∧ (if ((enE L (zAll L P v)).1 = 0 ∧ 0 < rK K N ∧ trV L K G (rK K N) false (zAll L P v) = 0) ∨ (¬ (enE L (zAll L P v)).1 = 0 ∧ K = 0 ∧ glB L G (zAll L P v) = true) then 1 else 0) = 0) ∨ (¬ o.1 = 0 ∧ (if ((enE L (zAll L P v)).1 = 0 ∧ 0 < rK K N ∧ trV L K G (rK K N) false (zAll L P v) = 0) ∨ (¬ (enE L (zAll L P v)).1 = 0 ∧ K = 0 ∧ glB L G (zAll L P v) = true) then 1 else 0) = 1)) := fun r0 e => by
            obtain ⟨kk, ff, y3⟩ := im_50 (P := P) (i := 0) OK ih.1 Oq n1 hd i1 i3 i4 i5 F (dk_t ku k2) F2 (rlw_d ku k2 f2 Ru) (rxd_f ku k2 f2 (by omega) (by omega) Xu) rfl (Nat.zero_le _) (fun q hq => absurd hq (Nat.not_lt_zero _)) e
            have ts : trV L K G (rK K N) false (zAll L P v) = smT (mvG L (zAll L P v) (mvV L K G (rK K N - 1) false (zAll L P v))) (lgL L (zAll L P v)).length := by
              have := trv_s (L := L) (G := G) (show ¬ K = 4 by omega) (r := rK K N - 1) (e := false) (P := zAll L P v)
              rw [show rK K N - 1 + 1 = rK K N by omega] at this
              exact this
            refine ⟨kk, ff, ?_⟩
            rcases y3 with ⟨y3, y4⟩ | ⟨y3, y4⟩
            · rw [if_neg (fun z => z.elim (fun z => by have := z.2.2; omega) (fun z => z.1 y2))]
              exact Or.inl ⟨y3, rfl⟩
            · rw [if_pos (Or.inl ⟨y2, r0, by rw [ts]; exact y4⟩)]
              exact Or.inr ⟨y3, rfl⟩
          rcases br_s e with ⟨c4, e⟩ | ⟨c4, e⟩
          · have K0 : K = 0 := by rw [← i4, c4]; rfl
            rcases br_s e with ⟨c3, e⟩ | ⟨c3, e⟩
            · have N1 : N = 1 := by rw [c3, z1] at i3; omega
              have r0 : rK K N = 0 := by unfold rK; split <;> omega
              rw [so_e e, if_neg (fun z => z.elim (fun z => by omega) (fun z => ng z.2))]
              exact ⟨dk_t ku k2, F2, Or.inl ⟨rfl, rfl⟩⟩
            · have N1 := i32 c3
              exact more (by unfold rK; split <;> omega) e
          · have K0 : ¬ K = 0 := by rw [← i4]; exact i32 c4
            exact more (by unfold rK; split <;> omega) e
        · rw [so_e (bn_e y1 e), if_neg (fun z => z.elim (fun z => by omega) (fun z => ng z.2))]
          exact ⟨dk_t ku k2, F2, Or.inl ⟨rfl, rfl⟩⟩
      rcases br_s e with ⟨c, e⟩ | ⟨c, e⟩
      · have K0 : K = 0 := by rw [← i4, c]; rfl
        obtain ⟨o2, e2, e⟩ := cl_s e
        obtain ⟨k2, f2, y2⟩ := gl_d OK Oq k1 R1 X1 i1' i5 e2
        have F2 : FrD n (d + 1) h o2.2 := frd_t k1 f1 (frd_m (by omega) f2)
        rcases y2 with ⟨y1, y2⟩ | ⟨y1, y2⟩
        · exact rest (dk_t k1 k2) F2 (rlw_d k1 k2 f2 R1) (rxd_f k1 k2 f2 (by omega) (by omega) X1) (fun z => by rw [y2] at z; exact nomatch z.2) (bp_e y1 e)
        · have ee := glb_e y2
          rw [so_e (bn_e y1 e), mvv_t k01.2, if_pos (Or.inr ⟨by omega, K0, y2⟩)]
          exact ⟨dk_t k1 k2, F2, Or.inr ⟨show ¬ (1 : Int32) = 0 by decide, rfl⟩⟩
      · have K0 : ¬ K = 0 := by rw [← i4]; exact i32 c
        exact rest k1 f1 R1 X1 (fun z => K0 z.1) e
end
end
section
/-! goalRows and goalRowsBy of the reference -/
section
variable {n F D : Nat} {L : Nat → Nat → Int} {K G : Int}
theorem mvv_2 (k2 : K = 2 ∨ K = 3) {r : Nat} {e : Bool} {P : Pz} {v : MvT} : mvV L K G r e P v = if r = 0 then (if glB L G (zAll L P v) = true then 1 else 0) else oZ (nxP L (decide (K = 3)) P v) (fun Q => trV L K G r (!e) Q) := by
  unfold mvV brV
  rw [if_neg (by omega)]
  rcases k2 with z | z
  · rw [if_pos z, show nxP L (decide (K = 3)) P v = some (zAll L P v) by unfold nxP; rw [if_neg (by rw [decide_eq_true_eq]; omega)]]
    rfl
  · rw [if_neg (by omega), if_pos z, decide_eq_true z]
def GrOK (n F : Nat) (L : Nat → Nat → Int) (K G : Int) (D : Nat) : Prop := ∀ {h : Hp} {P : Pz} {d r : Nat} {x1 x2 x3 x4 : Int32} {o : Int32 × Hp} {e : Bool}, DyK n h h → RLw n h L → RxD n L h d P → PzOk L P → 1 ≤ r → d + r ≤ 9 → x1.toInt = (d : Int) → x2.toInt = (r : Int) → x3 = (if K = 3 then 1 else 0) → x4.toInt = G → trV L K G r e P ≤ 100000 → (qX15_goalRows F D).1 h (n + 513) x1 x2 x3 x4 = some o → DyK n h o.2 ∧ FrD n (d + 1) h o.2 ∧ o.1.toInt = (trV L K G r e P : Nat)
def GbOK (n F : Nat) (L : Nat → Nat → Int) (K G : Int) (D : Nat) : Prop := ∀ {h : Hp} {P : Pz} {v : MvT} {d r i : Nat} {x1 x2 x3 x4 x5 : Int32} {o : Int32 × Hp} {e : Bool}, DyK n h h → RLw n h L → RxD n L h d P → PzOk L P → 1 ≤ r → d + r ≤ 9 → x1.toInt = (d : Int) → x2.toInt = (i : Int) → (lgL L P)[i]? = some v → x3.toInt = (r : Int) → x4 = (if K = 3 then 1 else 0) → x5.toInt = G → mvV L K G (r - 1) e P v ≤ 100000 → (qX15_goalRows F D).2 h (n + 513) x1 x2 x3 x4 x5 = some o → DyK n h o.2 ∧ FrD n (d + 1) h o.2 ∧ o.1.toInt = (mvV L K G (r - 1) e P v : Nat)
theorem smt_1 {f : Nat → Nat} {i m : Nat} (hi : i < m) : f i ≤ smT f m := by
  have : smT f (i + 1) ≤ smT f m := smt_m hi
  have : smT f (i + 1) = smT f i + f i := rfl
  omega
theorem gr_6 {h0 : Hp} {P : Pz} {d r : Nat} {e0 : Bool} {x1 x2 x3 x4 : Int32} {o : Int32 × Hp} (OK : LwOk L) (C : GbOK n F L K G D) (Oz : PzOk L P) (r1 : 1 ≤ r) (hd : d + r ≤ 9) (i1 : x1.toInt = (d : Int)) (i2 : x2.toInt = (r : Int)) (i3 : x3 = (if K = 3 then 1 else 0)) (i4 : x4.toInt = G) (bd : smT (mvG L P (mvV L K G (r - 1) e0 P)) (lgL L P).length ≤ 100000) : ∀ (f : Nat) {u : Hp} {x5 x6 : Int32} {i : Nat}, DyK n h0 u → FrD n (d + 1) h0 u → RLw n u L → RxD n L u d P → x6.toInt = (i : Int) → i ≤ (lgL L P).length → x5.toInt = (smT (mvG L P (mvV L K G (r - 1) e0 P)) i : Nat) → sX15_goalRows_6 F (qX15_goalRows F D).1 (qX15_goalRows F D).2 f u (n + 513) x1 x2 x3 x4 x5 x6 = some o → DyK n h0 o.2 ∧ FrD n (d + 1) h0 o.2 ∧ o.1.toInt = (smT (mvG L P (mvV L K G (r - 1) e0 P)) (lgL L P).length : Nat) := by
  have z1 : (1 : Int32).toInt = 1 := rfl
  have xd : x1.toNatClampNeg = d := by have := nc_i (x := x1) (by omega); omega
  have ln := lgl_le OK.1 OK.2.1 Oz
  intro f
  induction f with
  | zero => intro u x5 x6 i _ _ _ _ _ _ _ e; exact absurd e (by rw [sX15_goalRows_6]; exact fun z => nomatch z)
  | succ f ih =>
    intro u x5 x6 i ku fu Ru Xu i6 il i5 e
    rw [sX15_goalRows_6] at e
    unfold sX15_goalRows_33 at e
    replace e := ce_e (dk_e (a := 513) (f := 34) (b := 574) ku (by decide +kernel)) e
    replace e := gg_e e
    obtain ⟨l, el, Al⟩ := Xu.2
    replace e := ce_e (show hR u (n + 574) x1.toNatClampNeg = some l by rw [xd]; exact el) e
    have m0 : (hI u l 0).toInt = ((lgL L P).length : Int) := Al.1
    rcases br_s e with ⟨c, e⟩ | ⟨c, e⟩
    · have c := le_i c
      have ii : i = (lgL L P).length := by omega
      rw [so_e e, ← ii]
      exact ⟨ku, fu, i5⟩
    have c := nle_i c
    have li : i < (lgL L P).length := by omega
    obtain ⟨v, ev⟩ : ∃ v, (lgL L P)[i]? = some v := ⟨_, List.getElem?_eq_getElem li⟩
    have mv : mvG L P (mvV L K G (r - 1) e0 P) i = mvV L K G (r - 1) e0 P v := mvg_s ev
    have s1 : smT (mvG L P (mvV L K G (r - 1) e0 P)) (i + 1) = smT (mvG L P (mvV L K G (r - 1) e0 P)) i + mvG L P (mvV L K G (r - 1) e0 P) i := rfl
    have s2 : smT (mvG L P (mvV L K G (r - 1) e0 P)) (i + 1) ≤ smT (mvG L P (mvV L K G (r - 1) e0 P)) (lgL L P).length := smt_m li
    obtain ⟨o5, e5, e⟩ := cl_s e
    obtain ⟨k5, f5, y5⟩ := C (e := e0) (dk_self ku) Ru Xu Oz r1 hd i1 i6 ev i2 i3 i4 (by omega) e5
    replace e := nx_e (nx_e e)
    refine ih (i := i + 1) (dk_t ku k5) (frd_t ku fu f5) (rlw_d ku k5 f5 Ru) (rxd_f ku k5 f5 (by omega) (by omega) Xu) (by rw [ta (by omega), i6, z1]; omega) (by omega) ?_ e
    rw [ta (by omega), i5, y5]
    omega
theorem gr_all (OK : LwOk L) (k23 : K = 2 ∨ K = 3) : ∀ D, GrOK n F L K G D ∧ GbOK n F L K G D := by
  intro D
  have z0 : (0 : Int32).toInt = 0 := rfl
  have z1 : (1 : Int32).toInt = 1 := rfl
  have i32 : ∀ {a b : Int32}, ¬ a = b → ¬ a.toInt = b.toInt := fun z y => z (Int32.toInt_inj.mp y)
  induction D with
  | zero => exact ⟨(fun {h P d r x1 x2 x3 x4 o e} _ _ _ _ _ _ _ _ _ _ _ e => nomatch e), (fun {h P v d r i x1 x2 x3 x4 x5 o e} _ _ _ _ _ _ _ _ _ _ _ _ _ e => nomatch e)⟩
  | succ D ih =>
    constructor
    · intro h P d r x1 x2 x3 x4 o e0 k R A Oz r1 hd i1 i2 i3 i4 bd e
      have e : oX15_goalRows F (qX15_goalRows F D).1 (qX15_goalRows F D).2 h (n + 513) x1 x2 x3 x4 = some o := e
      unfold oX15_goalRows at e
      have ts : trV L K G r e0 P = smT (mvG L P (mvV L K G (r - 1) e0 P)) (lgL L P).length := by
        have := trv_s (L := L) (G := G) (show ¬ K = 4 by omega) (r := r - 1) (e := e0) (P := P)
        rw [show r - 1 + 1 = r by omega] at this
        exact this
      rw [ts] at bd ⊢
      exact gr_6 (i := 0) OK ih.2 Oz r1 hd i1 i2 i3 i4 bd F k frd_0 R A rfl (Nat.zero_le _) rfl e
    · intro h P v d r i x1 x2 x3 x4 x5 o e0 k R A Oz r1 hd i1 i2 ev i3 i4 i5 bd e
      have e : oX15_goalRowsBy F (qX15_goalRows F D).1 (qX15_goalRows F D).2 h (n + 513) x1 x2 x3 x4 x5 = some o := e
      have i1' : (x1 + (1 : Int32)).toInt = ((d + 1 : Nat) : Int) := by rw [ta (by omega), i1, z1]; omega
      have i3' : (x3 - (1 : Int32)).toInt = ((r - 1 : Nat) : Int) := by rw [ts (by omega), i3, z1]; omega
      have Oq := pz_ok OK.1 OK.2.1 Oz (lg_gd OK.1 OK.2.1 Oz ev)
      unfold oX15_goalRowsBy sX15_goalRowsBy_6 sX15_goalRowsBy_20 sX15_goalRowsBy_28 at e
      obtain ⟨o1, e1, e⟩ := cl_s e
      obtain ⟨k1, f1, X1, _⟩ := st_d OK Oz k R A (by omega) i1 i2 ev e1
      have R1 := rlw_d k k1 f1 R
      rw [mvv_2 k23] at bd ⊢
      rcases br_s e with ⟨c, e⟩ | ⟨c, e⟩
      · have r0 : r - 1 = 0 := by rw [c, z1] at i3; omega
        rw [if_pos r0]
        obtain ⟨o2, e2, e⟩ := cl_s e
        obtain ⟨k2, f2, y2⟩ := gl_d OK Oq k1 R1 X1 i1' i5 e2
        have F2 : FrD n (d + 1) h o2.2 := frd_t k1 f1 (frd_m (by omega) f2)
        rcases y2 with ⟨y1, y2⟩ | ⟨y1, y2⟩
        · rw [so_e (bp_e y1 e), y2, if_neg (by decide)]
          exact ⟨dk_t k1 k2, F2, rfl⟩
        · rw [so_e (bn_e y1 e), y2, if_pos rfl]
          exact ⟨dk_t k1 k2, F2, rfl⟩
      have r0 : ¬ r - 1 = 0 := by have := i32 c; omega
      rw [if_neg r0] at bd ⊢
      -- the next moves
      have rest : ∀ {u : Hp} {Q : Pz}, nxP L (decide (K = 3)) P v = some Q → DyK n h u → FrD n (d + 1) h u → RLw n u L → RxD n L u (d + 1) Q → PzOk L Q → sX15_goalRowsBy_65 F (qX15_goalRows F D).1 (qX15_goalRows F D).2 u (n + 513) x1 x3 x4 x5 = some o → DyK n h o.2 ∧ FrD n (d + 1) h o.2 ∧ o.1.toInt = (oZ (nxP L (decide (K = 3)) P v) (fun Q => trV L K G (r - 1) (!e0) Q) : Nat) := fun {u Q} nq ku fu Ru Xu Ou e => by
        unfold sX15_goalRowsBy_65 sX15_goalRowsBy_79 at e
        rw [nq] at bd ⊢
        have bd : trV L K G (r - 1) (!e0) Q ≤ 100000 := bd
        obtain ⟨o2, e2, e⟩ := cl_s e
        obtain ⟨k2, f2, y2⟩ := ih.1 (e := !e0) (dk_self ku) Ru Xu Ou (by omega) (by omega) i1' i3' i4 i5 bd e2
        rw [so_e e]
        exact ⟨dk_t ku k2, frd_t ku fu (frd_m (by omega) f2), y2⟩
      rcases br_s e with ⟨c4, e⟩ | ⟨c4, e⟩
      · have K3 : ¬ K = 3 := fun z => by rw [i4, if_pos z] at c4; exact absurd c4 (by decide)
        refine rest ?_ k1 f1 R1 X1 Oq e
        unfold nxP
        rw [if_neg (by rw [decide_eq_true_eq]; exact K3)]
      · have K3 : K = 3 := by
          rcases Classical.em (K = 3) with z | z
          · exact z
          · rw [if_neg z] at i4; exact absurd i4 c4
        obtain ⟨o3, e3, e⟩ := cl_s e
        obtain ⟨k3, f3, y3⟩ := tb_d OK Oq (dk_self k1) R1 X1.1 i1' e3
        have F3 : FrD n (d + 1) h o3.2 := frd_t k1 f1 f3
        have R3 := rlw_d k1 k3 f3 R1
        unfold sX15_goalRowsBy_41 sX15_goalRowsBy_54 at e
        rcases y3 with ⟨y1, y3⟩ | ⟨y1, y3, y4⟩
        · have nx : nxP L (decide (K = 3)) P v = none := by
            unfold nxP
            rw [if_pos (by rw [decide_eq_true_eq]; exact K3), if_pos (prb_e.mpr y3)]
          rw [so_e (bp_e y1 e), nx]
          exact ⟨dk_t k1 k3, F3, rfl⟩
        · replace e := bn_e y1 e
          have nx : nxP L (decide (K = 3)) P v = some (fl2 (zAll L P v)) := by
            unfold nxP
            rw [if_pos (by rw [decide_eq_true_eq]; exact K3), if_neg (fun z => y3 (prb_e.mp z))]
          have k3h := dk_t k1 k3
          obtain ⟨o4, e4, e⟩ := cl_s e
          obtain ⟨⟨d10, xd'⟩, k4, k4', f4, ec, _⟩ := db_d k3h i1' e4
          have B4 := rbd_n k3h k4' f4 d10 y4
          have R4 := rlw_d (d := d) k3h k4' (frn_d f4) R3
          replace e := ce_e (dk_e (a := 513) (f := 34) (b := 574) k4 (by decide +kernel)) e
          replace e := gg_e e
          obtain ⟨l, el, e⟩ := cl_s e
          rw [xd'] at el
          obtain ⟨b, eb, Ab⟩ := B4
          have yb := r_eq ec eb
          subst yb
          obtain ⟨o5, e5, e⟩ := cl_s e
          obtain ⟨k5, k5', f5, M5, B5⟩ := leg_d OK (fl2_ok Oq) k4 R4 d10 eb Ab el e5
          exact rest nx k5 (frd_t k4 (frd_t k3h F3 (frn_d f4)) f5) (rlw_d k4 k5' f5 R4) ⟨B5, M5⟩ (fl2_ok Oq) e
end
end
section
/-! PROBLEM of the reference -/
/-- what PROBLEM writes besides -/
def PbR (n a i : Nat) : Prop := (a = n + 513 ∧ ((64 ≤ i ∧ i ≤ 68) ∨ i = 70)) ∨ a = n + 608
def FrP (n : Nat) (h o : Hp) : Prop := FrW (fun a i => RdW n h 0 a i ∨ PbR n a i) h o
/-- the first moves kept so far -/
def KrI (n : Nat) (h : Hp) (ks : List Nat) : Prop := (hI h (n + 513) 70).toInt = (ks.length : Int) ∧ ∀ i, i < ks.length → ∃ y, ks[i]? = some y ∧ (hI h (n + 608) i).toInt = (y : Int)
/-- the problem kept by the reference -/
def RPb (n : Nat) (h : Hp) (L : Nat → Nat → Int) : Option Pb → Prop
  | none => (hI h (n + 513) 65).toInt ≤ (hI h (n + 513) 16).toInt ∧ ((hI h (n + 513) 65).toInt ≤ 0 ∨ ((0 ≤ (hI h (n + 513) 64).toInt ∧ (hI h (n + 513) 64).toInt < 60) ∧ ¬ hI h (n + 537) (hI h (n + 513) 64).toNatClampNeg = hI h (n + 513) 65))
  | some (p, P, K, G, N) => p < 60 ∧ (hI h (n + 513) 64).toInt = (p : Int) ∧ hI h (n + 537) p = hI h (n + 513) 65 ∧ 0 < (hI h (n + 513) 65).toInt ∧ (hI h (n + 513) 66).toInt = K ∧ (hI h (n + 513) 67).toInt = G ∧ (hI h (n + 513) 68).toInt = (N : Int) ∧ KrI n h (kyL L K G (lsP K N) P (lgL L P).length)
section
variable {n d F D p j : Nat} {g h : Hp} {L : Nat → Nat → Int} {P Q : Pz} {v : MvT} {o : Int32 × Hp} {x1 x2 x3 x4 x5 : Int32} {K G : Int} {σ : Sy} {pb : Option Pb}
theorem frp_t {o v : Hp} (k : DyK n h o) (A : FrP n h o) (B : FrP n o v) : FrP n h v := ⟨Nat.le_trans A.1 B.1, fun a i l nc => by
  have x := A.2 a i l nc
  have y := B.2 a i (Nat.lt_of_lt_of_le l A.1) (fun c => nc (c.imp (rdw_t k l) id))
  exact ⟨y.1.trans x.1, y.2.trans x.2⟩⟩
theorem frp_d {o : Hp} (A : FrD n d h o) : FrP n h o := fw_s (frd_m (Nat.zero_le d) A) (fun _ _ c => Or.inl c)
theorem frp_lo {a i : Nat} (k : DyK n g h) (l : a < n + 610) (c : RdW n h 0 a i ∨ PbR n a i) : RS n a i ∨ PbR n a i := c.imp (rdw_lo k l) id
theorem ser_p {o : Hp} (k : DyK n g h) (F : FrP n h o) : SerN n h o := by
  have s6 := dk_610 k
  have q : ∀ a i, a = n + 537 ∨ (a = n + 513 ∧ i = 16) → hI o a i = hI h a i := fun a i hh => (F.2 a i (by omega) (fun c => by
    have := frp_lo k (by omega) c
    unfold RS PbR at this
    omega)).1
  exact ⟨by rw [q _ _ (Or.inr ⟨rfl, rfl⟩)]; exact Int.le_refl _, fun p _ => Or.inl (q _ _ (Or.inl rfl))⟩
theorem relr_p {o : Hp} (k : DyK n g h) (k' : DyK n h o) (F : FrP n h o) (lg : ∀ g, g < 8 → syG σ g ≤ 300) (R : RelR n j h σ) : RelR n j o σ := by
  obtain ⟨R1, R2, R3, R4, R5, R6⟩ := R
  obtain ⟨own, D⟩ := k.1.1
  have tg : ∀ {q : Nat × Nat × Nat × Nat × List (Nat × Nat)} {i a : Nat}, q ∈ fam → (q.2.2.2.1 + q.2.1 ≤ 4100 ∨ 5000 ≤ q.2.2.2.1) → i < q.2.1 → hR h (n + q.1) i = some a → ∀ j f, j < q.2.2.1 → ¬ (RdW n h 0 (a + j) f ∨ PbR n (a + j) f) := fun {q i a} hq t hi e j f hj => by
    obtain ⟨x1, ⟨x2, x3⟩, _⟩ := bk_dy D hq hi e
    exact fun c => c.elim (nrd D (by omega) (fun e h1 h2 => by rw [x3 j hj]; omega)) (fun c => by unfold PbR at c; omega)
  obtain ⟨x1, x2, x3⟩ := relr_g k k' F (fun j i hj c => by
    have := frp_lo k (by unfold rFt at hj; omega) c
    unfold RS PbR at this
    unfold rFt at hj
    omega) (fun q a hq e lo hi => tg (q := (583, 3000, 5, 8000, fsB)) (by decide) (by decide) hq e) R1 R4 R5
  exact ⟨x1, fun p hp => rpi_f k k' F hp (fun c => by
    have := frp_lo k (by omega) c
    unfold RS PbR at this
    omega) (fun a e lo hi => tg (q := (536, 60, 5, 4000, fsB)) (by decide) (by decide) hp e) (R2 p hp), fun g' hg => rgi_f k k' F hg (lg g' hg) (fun c => by
    have := frp_lo k (by omega) c
    unfold RS PbR at this
    omega) (fun q hq c => by
    have := frp_lo k (by omega) c
    unfold RS PbR at this
    omega) (fun q a hq e lo hi => tg (q := (580, 2408, 5, 5000, fsB)) (by decide) (by decide) (by show _ < 2408; omega) e) (R3 g' hg), x2, x3, rse_f k F (fun c => by
    have := frp_lo k (by omega) c
    unfold RS PbR at this
    omega) R6⟩
theorem frp_z (F : FrP n h o.2) : FrW (fun a i => RWr n h a i ∨ PbR n a i) h o.2 := fw_s F (fun a i c => by
  rcases c with c | c
  · refine Or.inl ?_
    rcases c with c | ⟨e, b, h1, h2, c⟩
    · exact Or.inl (rs_c c)
    · rcases c with ⟨c1, c2, c3⟩ | ⟨c1, c2, c3⟩
      · exact Or.inr ⟨(573, 10, 5, 4100, fsB), by decide, by decide, e, b, h2, c1, c2, c3⟩
      · exact Or.inr ⟨(574, 10, 8, 4200, fsM), by decide, by decide, e, b, h2, c1, c2, c3⟩
  · exact Or.inr c)
theorem raz_p {a : Int} (k : DyK n h h) (Ok : SyOk σ) (R : RelR n j h σ) (F : FrP n h o.2) (k' : DyK n h o.2) (ea : o.1.toInt = a) : RaZ n j h σ (PbR n) o a :=
  ⟨ea, relr_p k k' F (fun g hg => (Ok.2.2.1 g hg).1.2) R, k', frp_z F⟩
/-- what is kept of the problem stays, where only deep boards are written -/
theorem rpb_c {o : Hp} (c : ∀ a i, (a = n + 513 ∧ ((64 ≤ i ∧ i ≤ 68) ∨ i = 70 ∨ i = 16)) ∨ a = n + 608 ∨ a = n + 537 → hI o a i = hI h a i) (C : RPb n h L pb) : RPb n o L pb := by
  have f16 := c (n + 513) 16 (Or.inl ⟨rfl, by omega⟩)
  have f64 := c (n + 513) 64 (Or.inl ⟨rfl, by omega⟩)
  have f65 := c (n + 513) 65 (Or.inl ⟨rfl, by omega⟩)
  cases pb with
  | none =>
    unfold RPb at C ⊢
    rw [f16, f65, f64, c (n + 537) _ (Or.inr (Or.inr rfl))]
    exact C
  | some q =>
    obtain ⟨p, P, K, G, N⟩ := q
    obtain ⟨c1, c2, c3, c4, c5, c6, c7, c8, c9⟩ := C
    exact ⟨c1, by rw [f64]; exact c2, by rw [f65, c (n + 537) p (Or.inr (Or.inr rfl))]; exact c3, by rw [f65]; exact c4, by rw [c (n + 513) 66 (Or.inl ⟨rfl, by omega⟩)]; exact c5, by rw [c (n + 513) 67 (Or.inl ⟨rfl, by omega⟩)]; exact c6, by rw [c (n + 513) 68 (Or.inl ⟨rfl, by omega⟩)]; exact c7, by rw [c (n + 513) 70 (Or.inl ⟨rfl, by omega⟩)]; exact c8, fun i hi => by rw [c (n + 608) i (Or.inr (Or.inl rfl))]; exact c9 i hi⟩
theorem rpb_d {o : Hp} (k : DyK n g h) (F : FrD n d h o) (C : RPb n h L pb) : RPb n o L pb := rpb_c (fun a i hh => (F.2 a i (by have := dk_610 k; omega) (fun c => by
  have := rdw_lo k (by omega) c
  unfold RS at this
  omega)).1) C
theorem kri_d {o : Hp} {ks : List Nat} (k : DyK n g h) (F : FrD n d h o) (C : KrI n h ks) : KrI n o ks := by
  have q : ∀ a i, (a = n + 513 ∧ i = 70) ∨ a = n + 608 → hI o a i = hI h a i := fun a i hh => (F.2 a i (by have := dk_610 k; omega) (fun c => by
    have := rdw_lo k (by omega) c
    unfold RS at this
    omega)).1
  unfold KrI
  rw [q (n + 513) 70 (Or.inl ⟨rfl, rfl⟩)]
  exact ⟨C.1, fun i hi => by rw [q (n + 608) i (Or.inr rfl)]; exact C.2 i hi⟩
/-- a key is written -/
theorem frp_w {a i : Nat} {y : Int32} {o : Hp} (A : FrP n h o) (c : PbR n a i) : FrP n h (wI o a i y) := fw_wI A (Or.inr c)
theorem rxd_w {a i : Nat} {y : Int32} (k : DyK n g h) (d10 : d < 10) (l : a < n + 610) (A : RxD n L h d P) : RxD n L (wI h a i y) d P := by
  obtain ⟨own, D⟩ := k.1.1
  obtain ⟨⟨b, eb, Ab⟩, m, em, Am⟩ := A
  obtain ⟨x1, _⟩ := dp_tag D d10 eb
  obtain ⟨y1, _⟩ := dl_tag D d10 em
  exact ⟨⟨b, eb, rba_f Ab (dp_T D d10 eb) (fun j f _ => ⟨by rw [r_I, if_neg (fun z => by omega)], rfl⟩)⟩, m, em, rla_f Am (fun j f _ => by rw [r_I, if_neg (fun z => by omega)])⟩
theorem rlw_w {a i : Nat} {y : Int32} (k : DyK n g h) (c : PbR n a i) (R : RLw n h L) : RLw n (wI h a i y) L := rlw_k k (dk_wI (dk_self k)) (W := PbR n) (fw_wI fw_0 c) (fun j i hj c => by unfold PbR at c; omega) R
end
end
