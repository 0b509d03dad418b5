def stE5 : Nat → Nat → Bool := fun k i => (k == 5 && (i == 5 || i == 6 || i == 7 || i == 8 || i == 9)) || (decide (41 ≤ k) && decide (k ≤ 44))
def e5 (j : Nat) : Nat → Nat → Bool := fun k i => k == 5 && i == j
theorem niceC_5 {j : Nat} : niceC (e5 j) := by
  refine ⟨fun k i hk => ?_, rfl, rfl, rfl, rfl, rfl, rfl, fun _ => rfl⟩
  unfold e5
  rw [bq_ne (show k ≠ 5 by omega)]; rfl
section
variable {ρ : Nat → Nat} {c : Cm} {h o : Hp} {E : Nat → Nat → Bool} {wp : Nat → Bool} {x0 y0 b d i F : Nat} {x1 x2 x3 x4 : Int32}
theorem fr_5 {j : Nat} {v : Int32} (r0 : ρ x0 = 5) (e : o = wI h x0 j v) : Fr ρ (cat c (SZ (e5 j) no) h) h o := by
  rw [e]
  exact fu_wI ⟨fun _ _ _ _ => ⟨rfl, rfl, rfl⟩, fun _ _ => rfl⟩ r0 (by show SZ (e5 j) no 5 (cw c x0) j = true; unfold SZ e5; rw [beq_self_eq_true, beq_self_eq_true]; rfl)
/-- a problem is set: its path begins with the position, none is over, no row is counted -/
theorem zX4_setP {y wy : Nat} (hF : 700000 ≤ F) (hp : ∀ k w i, SZ stE5 (is 3100) k w i = true → cPm c k w i = true) (T : TH ρ c h) (r0 : ρ x0 = 5) (ry : ρ y = 4) (wy' : cw c y = wy) (ny : ¬ wy = 3100) (P : RyP ρ c y h) (i2 : Rg 0 4 x2) (i3 : Rg 0 2 x3) (i4 : Rg 0 4 x4) (k1 : x2.toInt = 0 → 1 ≤ x4.toInt) : Sat (sX4_set F h x0 y x2 x3 x4) (fun o => TH ρ c o ∧ (hI o x0 9).toInt = 0 ∧ RcP x0 o ∧ ∃ b, PQ ρ c x0 0 b o) := by
  unfold sX4_set
  refine s_hq (th_wI T r0 (k := 5) (i := 5) (lo := 0) (hi := 4) rfl i2 (by decide) (by decide) (szE hp rfl _)) (fun g1 T1 e1 => ?_)
  have f1 := fr_5 (c := c) r0 e1
  have P1 := ry_sz niceC_5 T ry wy' rfl f1 P
  refine s_hq (th_wI T1 r0 (k := 5) (i := 6) (lo := 0) (hi := 2) rfl i3 (by decide) (by decide) (szE hp rfl _)) (fun g2 T2 e2 => ?_)
  have f2 := fr_5 (c := c) r0 e2
  have P2 := ry_sz niceC_5 T1 ry wy' rfl f2 P1
  have k5 : hI g2 x0 5 = x2 := by rw [e2, r_I, if_neg (fun z => absurd z.2 (by decide)), he_s e1]
  have rest : ∀ {t : Int32}, Rg 0 8 t → Sat (sX4_set_44 F g2 x0 y t x0) (fun o => TH ρ c o ∧ (hI o x0 9).toInt = 0 ∧ RcP x0 o ∧ ∃ b, PQ ρ c x0 0 b o) := fun {t} it => by
    unfold sX4_set_44
    refine s_hq (th_wI T2 r0 (k := 5) (i := 7) (lo := 0) (hi := 8) rfl it (by decide) (by decide) (szE hp rfl _)) (fun g3 T3 e3 => ?_)
    have f3 := fr_5 (c := c) r0 e3
    have P3 := ry_sz niceC_5 T2 ry wy' rfl f3 P2
    refine s_hq (th_wI T3 r0 (k := 5) (i := 9) (lo := 0) (hi := 1) rfl (rg_b rfl) (by decide) (by decide) (szE hp rfl _)) (fun g4 T4 e4 => ?_)
    have f4 := fr_5 (c := c) r0 e4
    have P4 := ry_sz niceC_5 T3 ry wy' rfl f4 P3
    have ov4 : hI g4 x0 9 = 0 := he_s e4
    obtain ⟨rw', erw, qrw⟩ := thR T4 r0 (i := 4) (k2 := 42) rfl (by decide)
    refine s_ref erw ?_
    have hs : ∀ k w i, SZ (eE 42) no k w i = true → cPm c k w i = true := fun k w i m => hp k w i (sz_sub (fun k i z => by unfold eE at z; rw [beq_iff_eq] at z; rw [z]; rfl) (fun _ z => no_f z) m)
    refine s_cVfq T4 hs (s_weq (zJ7_fill_53178 hF (th_in _ T4) qrw (lo := 0) (hi := 200000) (n := 8) (rg_b rfl) (fun _ => rfl) rfl (by decide) (by decide) (by decide) (by decide) (fun i => szE (sx_c (SZ (eE 42) no)) rfl _))) (fun g5 T5 f5 e5' => ?_)
    have P5 := ry_sz (niceC_e (by decide)) T4 ry wy' rfl f5 P4
    have ov5 : hI g5 x0 9 = 0 := by rw [x5I r0 f5 rfl]; exact ov4
    have fill : ∀ j, j < 8 → hI g5 rw' j = 0 := fun j hj => by
      unfold sJ7_fill_53178 at e5'
      have n4 := thN T4 qrw (k := 42) (n := 8) rfl (by decide)
      have e6 : sJ7_fill_53178_5 F F g4 rw' (0 : Int32) (0 : Int32) (nI 8) = some g5 := by rw [← n4]; exact e5'
      exact (fI (by decide) F (by decide) e6).2.2.2 j (by show (0 : Int) ≤ _; omega) hj
    have er5 : hR g5 x0 4 = some rw' := by rw [x5R r0 f5 rfl]; exact erw
    have rc5 : RcP x0 g5 := fun _ r er j hj => by
      rw [r_eq er5 er, fill j hj]; decide
    have i0 : Rg 0 8 (0 : Int32) := rg_b rfl
    refine s_path0 T5 r0 i0 (fun r b a1 a2 kb wb' => ?_)
    have hs6 : ∀ k w i, SZ noE (is 3100) k w i = true → cPm c k w i = true := fun k w i m => hp k w i (sz_sub (fun _ _ z => noE_f z) (fun _ z => z) m)
    have wb0 : cw c b = 3100 := wb'
    refine s_cVfq T5 hs6 (s_weq (zX3_copyFrom hF (by show pmO _ (cw c b) _; rw [wb0]; exact pmO_s (szP (sx_c _) is_s) rfl) (th_in _ T5) kb ry)) (fun g6 T6 f6 e6 => ?_)
    have P6 := ry_copy T5 kb ry e6 P5
    refine s_some ⟨T6, by rw [x5I r0 f6 rfl, ov5]; rfl, rc_sz rfl rfl (fun _ => rfl) T5 r0 f6 rc5, b, r, by rw [x5R r0 f6 rfl]; exact a1, ?_, P6⟩
    rw [(fr_RI f6 (path_r T5 r0 a1) (by decide) (fun _ => sz_f rfl rfl (Or.inl rfl))).2.2]; exact a2
  have b4 := i4.2
  have a4 := i4.1
  have m2 : ((2 : Int32) * x4).toInt = 2 * x4.toInt := ti_mulc' i4 (rg_b rfl : Rg 2 2 (2 : Int32)) (by decide)
  rw [k5]
  refine s_br (fun z => rest ?_) (fun _ => s_br (fun _ => rest (rg_m i4 (by decide))) (fun _ => rest ⟨by omega, by omega⟩))
  have := k1 (eq_i z)
  have m3 : (((2 : Int32) * x4) - (1 : Int32)).toInt = 2 * x4.toInt - 1 := by
    rw [ti_sub (a := 0) (b := 8) (c := 1) (d := 1) ⟨by omega, by omega⟩ (rg_b rfl) (by decide), m2]; rfl
  exact ⟨by omega, by omega⟩
def rwW : Nat → Bool := fun w => w == 1503 || (decide (3100 ≤ w) && decide (w ≤ 3108))
theorem rwW_s : ∀ w, tW 0 w = true → rwW w = true := fun w z => by
  unfold tW at z
  unfold rwW
  rw [Bool.or_eq_true, Bool.and_eq_true, decide_eq_true_eq, decide_eq_true_eq] at z ⊢
  exact z.imp id (fun y => ⟨by omega, y.2⟩)
theorem tE_s : ∀ k i, tE k i = true → stE5 k i = true := fun k i z => by
  unfold tE at z
  unfold stE5
  rw [Bool.or_eq_true, Bool.and_eq_true, Bool.or_eq_true] at z
  rcases z with ⟨a, b | b⟩ | z
  · rw [a, b]; simp
  · rw [a, b]; simp
  · rw [z, Bool.or_true]
theorem niceC_s5 : niceC stE5 := by
  refine ⟨fun k i hk => ?_, rfl, rfl, rfl, rfl, rfl, rfl, fun _ => rfl⟩
  unfold stE5
  rw [bq_ne (show k ≠ 5 by omega)]
  by_cases q : 41 ≤ k
  · omega
  · rw [decide_eq_false q]; rfl
/-- set, then the tree -/
theorem s_setTree {y : Nat} (hF : 700000 ≤ F) (hp : ∀ k w i, SZ stE5 rwW k w i = true → cPm c k w i = true) (T : TH ρ c h) (r0 : ρ x0 = 5) (lw : LwR ρ c h) (rc : RcP x0 h) (ov : (hI h x0 9).toInt = 0) (Q : ∃ b, PQ ρ c x0 0 b h) : Sat (sX4_tree F h x0 (0 : Int32)) (Zt ρ c x0) := by
  obtain ⟨b, P⟩ := Q
  exact zX4_tree hF (fun k w i m => hp k w i (sz_sub tE_s rwW_s m)) T r0 lw ov rc P
theorem zX11_rows (hF : 700000 ≤ F) (hp : ∀ k w i, SZ stE5 rwW k w i = true → cPm c k w i = true) (T : TH ρ c h) (r0 : ρ x0 = 12) (lw : LwR ρ c h) (pl : PlP ρ c x0 h) : Sat (sX11_rows F h x0 x1 x2) (fun o => TH ρ c o.2) := by
  unfold sX11_rows sX11_rows_10 sX11_rows_69
  refine s_br (fun _ => s_some T) (fun n1 => ?_)
  refine s_br (fun n2 => ?_) (fun _ => s_some T)
  refine s_dP0 (zX11_isPlace hF T r0 (rg_top _)) (fun o2 eb2 e2 ii2 pp2 => ?_)
  rw [e2]
  refine s_br (fun _ => s_some T) (fun nz2 => ?_)
  have ip := pp2 nz2
  have l60 : x1.toNatClampNeg < 60 := by have := rg_clamp (n := 59) ip (by decide); omega
  obtain ⟨b, B⟩ := pc_of T r0 (hr_of T r0 pl eb2 nz2)
  refine s_br (fun _ => s_some T) (fun n3 => ?_)
  have z0 : (0 : Int32).toInt = 0 := rfl
  have a2 : 0 ≤ x2.toInt := nlt_i n1
  have b2 : x2.toInt ≤ 6 := le_i n2
  obtain ⟨pr, epr, qpr⟩ := thR T r0 (i := 11) (k2 := 5) rfl (by decide)
  refine s_ref epr ?_
  refine s_pc T r0 ip B ?_
  obtain ⟨kb, wb'⟩ := pc_r T r0 l60 B
  have PB : RyP ρ c b h := by obtain ⟨_, _, _, q⟩ := B; exact q
  have hs : ∀ k w i, SZ stE5 (is 3100) k w i = true → cPm c k w i = true := fun k w i m => hp k w i (sz_sub (fun _ _ z => z) (fun w z => by rw [is_e z]; rfl) m)
  have sr : Sat (sX4_setRows F h pr b x2) (fun o => TH ρ (cat c (SZ stE5 (is 3100)) h) o ∧ (hI o pr 9).toInt = 0 ∧ RcP pr o ∧ ∃ b, PQ ρ c pr 0 b o) := by
    unfold sX4_setRows
    refine s_cl (s_imp (zX4_setP (c := cat c (SZ stE5 (is 3100)) h) (x2 := (4 : Int32)) (x3 := (0 : Int32)) (x4 := (0 : Int32)) hF (sx_c _) (th_in _ T) qpr kb wb' (by decide) PB (rg_b rfl) (rg_b rfl) (rg_b rfl) (fun z => absurd z (by decide))) (fun o1 ⟨T1, ov1, rc1, b1, Q1⟩ => ?_))
    refine s_hq (th_wI T1 qpr (k := 5) (i := 7) (lo := 0) (hi := 8) rfl ⟨a2, by omega⟩ (by decide) (by decide) (szE (sx_c (SZ stE5 (is 3100))) rfl _)) (fun g2 T2 e2 => ?_)
    have f2 := fr_5 (c := cat c (SZ stE5 (is 3100)) h) qpr e2
    exact s_some ⟨T2, by rw [x5I qpr f2 rfl]; exact ov1, rc_sz rfl rfl (fun _ => rfl) T1 qpr f2 rc1, b1, (show PQ ρ (cat c (SZ stE5 (is 3100)) h) pr 0 b1 g2 from pq_sz niceC_5 rfl rfl (by decide) T1 qpr f2 rfl Q1)⟩
  obtain ⟨o1, eo1, T1', ov1, rc1, Q1⟩ := sr
  refine s_val eo1 ?_
  have T1 := th_out T hs T1'
  have f1 := fr_u T T1'.2.2
  have lw1 := lw_sz niceC_s5 T f1 lw
  have ep1 : hR o1 x0 11 = some pr := by rw [x12 r0 f1 rfl]; exact epr
  refine s_ref ep1 ?_
  refine s_zt (S := SZ stE5 rwW) (x0 := pr) T1 hp (s_setTree (c := cat c (SZ stE5 rwW) o1) (y := 0) hF (sx_c _) (th_in _ T1) qpr lw1 rc1 ov1 Q1) (fun o2 T2 f2 rc2 => ?_)
  have ep2 : hR o2.2 x0 11 = some pr := by rw [x12 r0 f2 rfl]; exact ep1
  refine s_ref ep2 ?_
  exact s_br (fun _ => s_some T2) (fun _ => s_some T2)
def kpE5 : Nat → Nat → Bool := fun k i => mS [(45, 999), (46, 999), (5, 14), (5, 15), (5, 16)] k i
theorem zX11_problem (hF : 700000 ≤ F) (hp : ∀ k w i, SZ (fun k i => stE5 k i || kpE5 k i) rwW k w i = true → cPm c k w i = true) (T : TH ρ c h) (r0 : ρ x0 = 12) (lw : LwR ρ c h) (pl : PlP ρ c x0 h) : Sat (sX11_problem F h x0 x1 x2 x3 x4) (fun o => TH ρ c o.2) := by
  unfold sX11_problem sX11_problem_30
  refine s_br (fun _ => s_some T) (fun n1 => ?_)
  refine s_br (fun _ => s_some T) (fun n2 => ?_)
  refine s_br (fun _ => s_some T) (fun n3 => ?_)
  refine s_br (fun _ => s_some T) (fun n4 => ?_)
  refine s_br (fun _ => s_some T) (fun n5 => ?_)
  refine s_br (fun n6 => ?_) (fun _ => s_some T)
  have j2 : Rg 0 3 x2 := ⟨nlt_i n1, nlt_i n2⟩
  have j3 : Rg 0 2 x3 := ⟨nlt_i n3, nlt_i n4⟩
  have j4 : Rg 1 4 x4 := ⟨nlt_i n5, le_i n6⟩
  refine s_dP0 (zX11_isPlace hF T r0 (rg_top _)) (fun o2 eb2 e2 ii2 pp2 => ?_)
  rw [e2]
  refine s_br (fun _ => s_some T) (fun nz2 => ?_)
  have ip := pp2 nz2
  have l60 : x1.toNatClampNeg < 60 := by have := rg_clamp (n := 59) ip (by decide); omega
  obtain ⟨b, B⟩ := pc_of T r0 (hr_of T r0 pl eb2 nz2)
  obtain ⟨kb, wb'⟩ := pc_r T r0 l60 B
  have PB : RyP ρ c b h := by obtain ⟨_, _, _, q⟩ := B; exact q
  obtain ⟨rf, erf, qrf⟩ := thR T r0 (i := 6) (k2 := 6) rfl (by decide)
  refine s_ref erf ?_
  refine s_pc T r0 ip B ?_
  have hp0 : ∀ k w i, SZ stE5 rwW k w i = true → cPm c k w i = true := fun k w i m => hp k w i (sz_sub (fun _ _ z => by rw [z]; rfl) (fun _ z => z) m)
  have hn : ∀ k w i, SZ noE (is 1503) k w i = true → cPm c k w i = true := fun k w i m => hp k w i (sz_sub (fun _ _ z => noE_f z) (fun w z => by rw [is_e z]; rfl) m)
  refine s_cIf T hn (zX5_endOf hF (pmA_s (szA (sx_c _)) rfl) (pmO_s (szP (sx_c _) is_s) rfl) wb' (by decide) (th_in _ T) qrf kb lw PB) (fun o3 T3 i3 f3 => ?_)
  have lw3 := lw_sz niceC_0 T f3 lw
  have B3 := pc_sz niceC_0 l60 T r0 f3 rfl B
  have PB3 : RyP ρ c b o3.2 := by obtain ⟨_, _, _, q⟩ := B3; exact q
  refine s_br (fun _ => ?_) (fun _ => s_some T3)
  obtain ⟨pr, epr, qpr⟩ := thR T3 r0 (i := 11) (k2 := 5) rfl (by decide)
  refine s_ref epr ?_
  refine s_pc T3 r0 ip B3 ?_
  have hs : ∀ k w i, SZ stE5 (is 3100) k w i = true → cPm c k w i = true := fun k w i m => hp0 k w i (sz_sub (fun _ _ z => z) (fun w z => by rw [is_e z]; rfl) m)
  obtain ⟨o1, eo1, T1', ov1, rc1, Q1⟩ := zX4_setP (c := cat c (SZ stE5 (is 3100)) o3.2) (x2 := x2) (x3 := x3) (x4 := x4) hF (sx_c _) (th_in _ T3) qpr kb wb' (by decide) PB3 (rg_m j2 (by decide)) j3 (rg_m j4 (by decide)) (fun _ => j4.1)
  refine s_val eo1 ?_
  have T1 := th_out T3 hs T1'
  have f1 := fr_u T3 T1'.2.2
  have lw1 := lw_sz niceC_s5 T3 f1 lw3
  have ep1 : hR o1 x0 11 = some pr := by rw [x12 r0 f1 rfl]; exact epr
  refine s_ref ep1 ?_
  refine s_zt (S := SZ stE5 rwW) (x0 := pr) T1 hp0 (s_setTree (c := cat c (SZ stE5 rwW) o1) (y := 0) hF (sx_c _) (th_in _ T1) qpr lw1 rc1 ov1 Q1) (fun o2 T2 f2 rc2 => ?_)
  have ep2 : hR o2.2 x0 11 = some pr := by rw [x12 r0 f2 rfl]; exact ep1
  refine s_ref ep2 ?_
  refine s_br (fun _ => ?_) (fun _ => s_some T2)
  refine s_ref ep2 ?_
  exact s_cV (zX4_keep hF (fun w k i m => hp k w i (by show (((stE5 k i || mS [(45, 999), (46, 999), (5, 14), (5, 15), (5, 16)] k i) || mS saC k i) || (mS ppL k i && rwW w)) = true; rw [m, Bool.or_true]; rfl)) T2 qpr ip) (fun o5 T5 => s_some T5)
end
