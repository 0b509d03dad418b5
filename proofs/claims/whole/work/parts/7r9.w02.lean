section
/-! BEFORE, the reference: a board that is found is put in its place -/
def RwR (n : Nat) (h : Hp) (L : Nat → Nat → Int) (B : Pz) (N : Nat) (f : Nat → Cd) : Prop := (hI h (n + 513) 44).toInt = (N : Int) ∧ ∀ k, k < N → ∃ id a, (hI h (n + 585) k).toInt = ((id : Nat) : Int) ∧ id < N ∧ hR h (n + 583) id = some a ∧ RbA h a (cdP B (f k)) ∧ TxF n h (wrTx L (cdP B (f k))) id
section
variable {n F : Nat} {g h : Hp} {L : Nat → Nat → Int} {B : Pz} {N : Nat} {f : Nat → Cd} {o : Int32 × Hp} {x1 x2 x5 : Int32}
/-- one more -/
theorem fd_tag {own : Nat → Nat} {i b : Nat} (D : DnS n h own) (hi : i < 3000) (e : hR h (n + 583) i = some b) : n + 610 ≤ b ∧ b + 5 ≤ hS h ∧ ∀ j, j < 5 → own (b + j) = 8000 + i := by
  obtain ⟨x1, x2, _⟩ := bk_dy D (q := (583, 3000, 5, 8000, fsB)) (by decide) hi e
  exact ⟨x1, x2.1, x2.2⟩
theorem rwr_f {W : Nat → Nat → Prop} {o : Hp} (N3 : N ≤ 3000) (k : DyK n g h) (k' : DyK n h o) (Fr : FrW W h o) (d44 : ¬ W (n + 513) 44) (d85 : ∀ i, ¬ W (n + 585) i) (d84 : ∀ i, ¬ W (n + 584) i) (dd : ∀ i a, i < 3000 → hR h (n + 583) i = some a → n + 610 ≤ a → a + 5 ≤ hS h → ∀ j i, j < 5 → ¬ W (a + j) i) (R : RwR n h L B N f) : RwR n o L B N f := by
  have s6 := dk_610 k
  obtain ⟨R1, R2⟩ := R
  refine ⟨by rw [(Fr.2 _ _ (by omega) d44).1]; exact R1, fun q hq => ?_⟩
  obtain ⟨id, a, e1, e2, e3, e4, e5⟩ := R2 q hq
  obtain ⟨own, Dw⟩ := k.1.1
  obtain ⟨lo, hi, _⟩ := fd_tag Dw (by omega) e3
  obtain ⟨own', Dw'⟩ := k'.1.1
  have e3' := ks_r k' (q := (583, 3000, 5, 8000, fsB)) (by decide) e3
  have T := (bk_dy Dw' (q := (583, 3000, 5, 8000, fsB)) (by decide) (show id < 3000 by omega) e3').2.2
  refine ⟨id, a, by rw [(Fr.2 _ _ (by omega) (d85 _)).1]; exact e1, e2, e3', rba_f e4 T (fun j i hj => Fr.2 _ _ (by omega) (dd id a (by omega) e3 lo hi j i hj)), by rw [(Fr.2 _ _ (by omega) (d84 _)).1]; exact e5.1, fun i hi' => by rw [(Fr.2 _ _ (by omega) (d84 _)).1]; exact e5.2 i hi'⟩
theorem fr_280 (k : DyK n g h) (e : sX15_findsRoom_280 F h (n + 513) x1 x5 = some o) : o = (x5, wI (cpI h (n + 586) 0 (n + 515) 0 x1.toNatClampNeg) (n + 513) 3 x1) ∧ 0 ≤ x1.toInt := by
  unfold sX15_findsRoom_280 sX15_findsRoom_294 at e
  replace e := ce_e (dk_e (a := 513) (f := 43) (b := 586) k (by decide +kernel)) e
  replace e := ce_e (dk_e (a := 513) (f := 2) (b := 515) k (by decide +kernel)) e
  replace e := gg_e e
  replace e := gg_e e
  obtain ⟨c, e⟩ := gd_s e
  have c := nlt_i c
  iterate 3 replace e := gg_e e
  replace e := nx_e e
  replace e := nx_e e
  exact ⟨so_e (gg_e e), c⟩
theorem fr_174 {lo : Nat} {h0 : Hp} (e2 : x2.toInt = (lo : Int)) (loN : lo ≤ N) (N3 : N < 3000) (s0 : n + 610 ≤ hS h0) : ∀ (ff : Nat) {h : Hp} {x6 : Int32} {q : Nat}, DyK n g h → FrW (fun a _ => a = n + 585) h0 h → (∀ a i, hR h a i = hR h0 a i) → x6.toInt = (q : Int) → lo ≤ q → q ≤ N → (∀ k, q < k → k ≤ N → hI h (n + 585) k = hI h0 (n + 585) (k - 1)) → (∀ k, k ≤ q → hI h (n + 585) k = hI h0 (n + 585) k) → sX15_findsRoom_174 F ff h (n + 513) x1 x2 x5 x6 = some o → ∃ h1, DyK n g h1 ∧ FrW (fun a _ => a = n + 585) h0 h1 ∧ (∀ a i, hR h1 a i = hR h0 a i) ∧ (∀ k, lo < k → k ≤ N → hI h1 (n + 585) k = hI h0 (n + 585) (k - 1)) ∧ (∀ k, k ≤ lo → hI h1 (n + 585) k = hI h0 (n + 585) k) ∧ (cl (hR h1 (n + 513) 42) fun r_2 => gd (inB x2 (hN h1 r_2)) <| nm (wI h1 r_2 x2.toNatClampNeg (hI h1 (n + 513) 44)) fun h_4 => cl (hR h_4 (n + 513) 40) fun r_5 => gd (inB (hI h_4 (n + 513) 44) (hN h_4 r_5)) <| cl (hR h_4 r_5 (hI h_4 (n + 513) 44).toNatClampNeg) fun r_7 => cl (hR h_4 (n + 513) 45) fun r_8 => cl (sX12_copy h_4 r_7 r_8) fun o_9 => sX15_findsRoom_228 F o_9 (n + 513) x1 x5) = some o := by
  have z1 : (1 : Int32).toInt = 1 := rfl
  have zm : (-1 : Int32).toInt = -1 := rfl
  intro ff
  induction ff with
  | zero => intro h x6 q _ _ _ _ _ _ _ _ e; exact absurd e (by rw [sX15_findsRoom_174]; exact fun z => nomatch z)
  | succ ff ih =>
    intro h x6 q k Fr RR e6 lq qN up lw e
    rw [sX15_findsRoom_174] at e
    rcases br_s e with ⟨c1, e⟩ | ⟨c1, e⟩
    · have c1 := le_i c1
      have ql : q = lo := by omega
      rw [ql] at up lw
      exact ⟨h, k, Fr, RR, up, lw, e⟩
    · have c1 := nle_i c1
      replace e := ce_e (dk_e (a := 513) (f := 42) (b := 585) k (by decide +kernel)) e
      replace e := ce_e (dk_e (a := 513) (f := 42) (b := 585) k (by decide +kernel)) e
      replace e := gg_e e
      replace e := gg_e e
      have n6 : x6.toNatClampNeg = q := by have := nc_i (x := x6) (by omega); omega
      have v61 : (x6 - (1 : Int32)).toInt = (q : Int) - 1 := by rw [ts (by omega), e6, z1]
      have n61 : (x6 - (1 : Int32)).toNatClampNeg = q - 1 := by have := nc_i (x := x6 - (1 : Int32)) (by omega); omega
      rw [n6, n61] at e
      obtain ⟨h14, w14, e⟩ := nm_s e
      replace e := nx_e e
      refine ih (q := q - 1) (by rw [w14]; exact dk_wI k) (by rw [w14]; exact fw_wI Fr rfl) (fun a i => by rw [w14]; exact RR a i) (by rw [ta (by omega), e6, zm]; omega) (by omega) (by omega) (fun u h1 h2 => ?_) (fun u hu => ?_) e
      · rw [w14]
        by_cases y : u = q
        · rw [y, rI_s]; exact lw (q - 1) (by omega)
        · rw [rI_o y]; exact up u (by omega) h2
      · rw [w14, rI_o (by omega)]; exact lw u (by omega)
/-- its place is looked for -/
theorem fr_42 {c : Cd} {Bf Pr : Cd → Prop} (H : LOk L) (T : LtO L) (D : LtD L) (HM : MOk L B.1) (S2 : pzS B < 2) (bk : ∀ x, Bf x → CdK L B x) (k : DyK n g h) (S : SqM L B Bf Pr N f) (np : ¬ Pr c) (bc : Bf c) (R : RwR n h L B N f) (O : TxO n h (wrTx L (cdP B c))) (N3 : N ≤ 3000) : ∀ (ff : Nat) {x2 x3 : Int32} {lo hi : Nat}, x2.toInt = (lo : Int) → x3.toInt = (hi : Int) → lo ≤ hi → hi ≤ N → (∀ k, k < lo → CdLt L B (f k) c) → (∀ k, hi ≤ k → k < N → CdLt L B c (f k)) → sX15_findsRoom_42 F ff h (n + 513) x1 x2 x3 (0 : Int32) = some o → ∃ (lo : Nat) (y : Int32), lo ≤ N ∧ y.toInt = (lo : Int) ∧ (∀ k, k < lo → CdLt L B (f k) c) ∧ (∀ k, lo ≤ k → k < N → CdLt L B c (f k)) ∧ sX15_findsRoom_108 F h (n + 513) x1 y (0 : Int32) = some o := by
  have z0 : (0 : Int32).toInt = 0 := rfl
  have z1 : (1 : Int32).toInt = 1 := rfl
  have z2 : (2 : Int32).toInt = 2 := rfl
  obtain ⟨R1, R2⟩ := R
  have bb : ∀ {x : Cd}, Bf x → TxB (wrTx L (cdP B x)) ∧ (wrTx L (cdP B x)).length ≤ 85 := fun {x} z => gs_b H T (cd_mok H HM S2 (bk _ z))
  intro ff
  induction ff with
  | zero => intro x2 x3 lo hi _ _ _ _ _ _ e; exact absurd e (by rw [sX15_findsRoom_42]; exact fun z => nomatch z)
  | succ ff ih =>
    intro x2 x3 lo hi e2 e3 lh hN a b e
    rw [sX15_findsRoom_42] at e
    rcases br_s e with ⟨c1, e⟩ | ⟨c1, e⟩
    · have c1 := le_i c1
      have : hi = lo := by omega
      rw [this] at b
      exact ⟨lo, x2, by omega, e2, a, b, e⟩
    have c1 := nle_i c1
    replace e := bp_e rfl e
    obtain ⟨v3, w3, e⟩ := nm_s e
    have vm : v3.toInt = ((lo + hi) / 2 : Nat) := by
      have va : (x2 + x3).toInt = (lo : Int) + hi := by rw [ta (by omega), e2, e3]
      rw [w3, td (a := 0) (b := 6000) (c := 2) (d := 2) ⟨by omega, by omega⟩ ⟨by decide, by decide⟩ (by decide), va, z2]
      omega
    have nm : v3.toNatClampNeg = (lo + hi) / 2 := by have := nc_i (x := v3) (by omega); omega
    replace e := ce_e (dk_e (a := 513) (f := 42) (b := 585) k (by decide +kernel)) e
    replace e := gg_e e
    rw [nm] at e
    have md : (lo + hi) / 2 < N := by omega
    obtain ⟨id, ad, i1, i2, i3, i4, i5⟩ := R2 _ md
    obtain ⟨o6, e6, e⟩ := cl_s e
    obtain ⟨t1, t2, t3⟩ := cmp_k k O i5 (bb bc).1 (bb (sqm_f S md)).1 (by have := (bb (sqm_f S md)).2; omega) (by omega) i1 e6
    rw [t1] at e
    unfold sX15_findsRoom_70 sX15_findsRoom_82 sX15_findsRoom_105 at e
    rcases sqm_tot H T D HM S2 bk S np bc _ md with w | w
    · have p := t3 w
      replace e := bn_e (fun z => by rw [z, z0] at p; omega) e
      replace e := bp_e (ii_le.mpr (by rw [z0]; omega)) e
      replace e := bn_e (fun z => by have := le_i z; omega) e
      replace e := nx_e e
      refine ih (lo := (lo + hi) / 2 + 1) (hi := hi) (by rw [ta (by omega), z1, vm]; omega) e3 (by omega) hN (fun k hk => ?_) b e
      by_cases y : k = (lo + hi) / 2
      · rw [y]; exact w
      · exact cdl_t (S.1 k _ (by omega) md) w
    · have p := t2 w
      replace e := bn_e (fun z => by rw [z, z0] at p; omega) e
      replace e := bn_e (fun z => by have := le_i z; omega) e
      refine ih (lo := lo) (hi := (lo + hi) / 2) e2 vm (by omega) (by omega) a (fun k hk hk' => ?_) e
      by_cases y : k = (lo + hi) / 2
      · rw [y]; exact w
      · exact cdl_t w (S.1 _ k (by omega) hk')
theorem fd_g1 {x1 x2 : Int32} (k : Dy0 n g h) (e : sX15_findsRoom_128 F h (n + 513) x1 x2 (0 : Int32) (1 : Int32) = some o) : (hI h (n + 513) 44).toNatClampNeg < 3000 ∧ ∃ o2 r, Got n g h o2 583 (hI h (n + 513) 44).toNatClampNeg 5 r ∧ sX15_findsRoom_168 F o2 (n + 513) x1 x2 (1 : Int32) = some o := by
  unfold sX15_findsRoom_128 at e
  replace e := bp_e rfl e
  replace e := bn_e (by decide) e
  obtain ⟨r2, e2, e⟩ := cl_s e
  have y2 := d0_ed (a := 513) (b := 583) k (by decide +kernel) e2
  subst y2
  obtain ⟨iv, e⟩ := gd_s e
  rw [ln_d k (a := 583) (w := 3000) (by decide)] at iv
  obtain ⟨v1, v2⟩ := clampN iv
  refine ⟨v1, ?_⟩
  cases q : hR h (n + 583) (hI h (n + 513) 44).toNatClampNeg with
  | none =>
    replace e := onr_n e q
    obtain ⟨r6, e6, e⟩ := cl_s e
    have y6 := d0_ed (a := 513) (b := 583) k (by decide +kernel) e6
    subst y6
    replace e := nx_e e
    replace e := nx_e e
    unfold sX15_findsRoom_163 at e
    obtain ⟨o1, e1, e⟩ := cl_s e
    have N := nw_12 (Nat.lt_succ_self _) e1
    have W := new_o (q := (583, 3000, 5, 8000, fsB)) k (by decide) v1 q N (by decide) (by decide)
    unfold sX15_findsRoom_167 at e
    replace e := gg_e e
    replace e := nx_e e
    exact ⟨_, hS h, ⟨W.1, W.2.1, Or.inr ⟨q, rfl, W⟩⟩, e⟩
  | some r =>
    replace e := onr_s e q
    exact ⟨h, r, ⟨k, q, Or.inl ⟨q, rfl⟩⟩, e⟩
/-- what finding room writes -/
def frW (n : Nat) (h : Hp) (a i : Nat) : Prop := (a = n + 513 ∧ (i = 3 ∨ i = 44)) ∨ a = n + 515 ∨ (n + 584 ≤ a ∧ a ≤ n + 586) ∨ ∃ q r, q < 3000 ∧ hR h (n + 583) q = some r ∧ r ≤ a ∧ a < r + 5
theorem fr_k {c : Cd} {Bf Pr : Cd → Prop} (H : LOk L) (K : LawK L) (T : LtO L) (D : LtD L) (HM : MOk L B.1) (S2 : pzS B < 2) (bk : ∀ x, Bf x → CdK L B x) (k : DyK n g h) (Rl : RLw n h L) (Og : PzOk L (cdP B c)) (Ag : RbA h (n + 587) (cdP B c)) (S : SqM L B Bf Pr N f) (np : ¬ Pr c) (bc : Bf c) (R : RwR n h L B N f) (N3 : N ≤ 3000) (e : sX15_findsRoom F h (n + 513) = some o) : FrW (frW n h) h o.2 ∧ DyK n g o.2 ∧ hI o.2 (n + 513) 3 = hI h (n + 513) 3 ∧ (∀ i : Nat, (i : Int) < (hI h (n + 513) 3).toInt → hI o.2 (n + 515) i = hI h (n + 515) i) ∧ ((o.1 = 0 ∧ OvB L B Bf) ∨ (¬ o.1 = 0 ∧ N < 3000 ∧ ∃ f', RwR n o.2 L B (N + 1) f' ∧ SqM L B Bf (fun x => Pr x ∨ x = c) (N + 1) f')) := by
  have z0 : (0 : Int32).toInt = 0 := rfl
  have z1 : (1 : Int32).toInt = 1 := rfl
  have z96 : (96 : Int32).toInt = 96 := rfl
  have n0 : (0 : Int32).toNatClampNeg = 0 := rfl
  have s6 := dk_610 k
  unfold sX15_findsRoom sX15_findsRoom_19 sX15_findsRoom_32 at e
  obtain ⟨v1, w1, e⟩ := nm_s e
  replace e := ce_e (dk_e (a := 513) (f := 2) (b := 515) k (by decide +kernel)) e
  replace e := ce_e (dk_e (a := 513) (f := 43) (b := 586) k (by decide +kernel)) e
  replace e := gg_e e
  replace e := gg_e e
  obtain ⟨c1, e⟩ := gd_s e
  have c1 := nlt_i c1
  rw [z0] at c1
  iterate 3 replace e := gg_e e
  rw [n0] at e
  obtain ⟨h10, w10, e⟩ := nm_s e
  have k10 : DyK n g h10 := by rw [w10]; exact dk_cpI k
  have k10h : DyK n h h10 := by rw [w10]; exact dk_cpI (dk_self k)
  have F10 : FrW (fun a _ => a = n + 586) h h10 := ⟨by rw [w10]; exact Nat.le_refl _, fun a i _ nw => by rw [w10]; exact ⟨by rw [cp_at, if_neg (fun z => nw z.1)], rfl⟩⟩
  have kept : ∀ i, i < v1.toNatClampNeg → hI h10 (n + 586) i = hI h (n + 515) i := fun i hi => by
    rw [w10, cp_at, if_pos ⟨rfl, by omega, by omega⟩, show 0 + (i - 0) = i by omega]
  obtain ⟨h1, u1, e⟩ := nm_s e
  have k1 : DyK n g h1 := by rw [u1]; exact dk_wI k10
  have k1h : DyK n h h1 := by rw [u1]; exact dk_wI k10h
  have F1 : FrW (fun a i => a = n + 586 ∨ (a = n + 513 ∧ i = 3)) h h1 := by rw [u1]; exact fw_wI (fw_s F10 (fun _ _ z => Or.inl z)) (Or.inr ⟨rfl, rfl⟩)
  replace e := ce_e (dk_e (a := 513) (f := 45) (b := 587) k1 (by decide +kernel)) e
  obtain ⟨o3, e3, e⟩ := cl_s e
  -- the text
  have tb : ∀ q, q ∈ fsB → (587, q.1, 587 + q.2) ∈ edL := by decide +kernel
  have A1 : RbA h1 (n + 587) (cdP B c) := rba_f Ag (st_T k1 tb) (fun j i hj => F1.2 _ _ (by omega) (fun z => by omega))
  have Rl1 : RLw n h1 L := rlw_k k k1h F1 (fun j i hj z => by omega) Rl
  obtain ⟨own, Dw⟩ := k1.1.1
  obtain ⟨w, hw, _, _, C⟩ := Rl1
  have Dv : VD (vM n (hS h1) (n + 587) (hS h1 + 1000 * 5) (hS h1 + 1000 * 6) (hS h1 + 1000 * 7) (n + w)) := vd_m Dw.1 (bb_st (t := 106) (by decide) (by decide) (by decide) h1 k1 own Dw) (bke_o (c := 5)) (bke_o (c := 6)) (bke_o (c := 7)) (bk_lw Dw.1 hw) (by split <;> omega)
  have W : WrR (vM n (hS h1) (n + 587) (hS h1 + 1000 * 5) (hS h1 + 1000 * 6) (hS h1 + 1000 * 7) (n + w)) h1 L (cdP B c) := ⟨rfl_m.mpr C, rba_m.mpr A1⟩
  have Ou := our_m (s := hS h1) (p := n + 587) (q := hS h1 + 1000 * 5) (r := hS h1 + 1000 * 6) (v := hS h1 + 1000 * 7) (w := n + w) (l := []) k1 (by rw [u1, rI_s]; rfl) (fun i hi => absurd hi (Nat.not_lt_zero _))
  obtain ⟨t1, t2⟩ := wa_r Dv H T Og W Ou e3
  rw [List.nil_append] at t1
  have k3 : DyK n g o3 := dk_X15_writeAll k1 e3
  have k3h : DyK n h o3 := dk_X15_writeAll k1h e3
  have F3 : FrW (WOr n) h1 o3 := fw_wou rfl rfl t2 (dk_X15_writeAll (dk_self k1) e3).1.2.2.2.1
  have FA : FrW (fun a i => a = n + 586 ∨ (a = n + 513 ∧ i = 3) ∨ a = n + 515) h o3 := fw_t (fw_s F1 (fun a i z => by omega)) (fw_s F3 (fun a i z => by unfold WOr at z; omega))
  have O3 : TxO n o3 (wrTx L (cdP B c)) := ⟨t1.2.2.1, t1.2.2.2⟩
  have R3 : RwR n o3 L B N f := rwr_f N3 k k3h FA (fun z => by omega) (fun i z => by omega) (fun i z => by omega) (fun i a hi ea lo hi' j q hj z => by omega) R
  have kp3 : ∀ i, i < v1.toNatClampNeg → hI o3 (n + 586) i = hI h (n + 515) i := fun i hi => by
    rw [(F3.2 (n + 586) i (by have := dk_610 k1; omega) (fun z => by unfold WOr at z; omega)).1, u1, rI_a (by omega)]; exact kept i hi
  have A3 : RbA o3 (n + 587) (cdP B c) := rba_f Ag (st_T k3 tb) (fun j i hj => FA.2 _ _ (by omega) (fun z => by omega))
  have s63 := dk_610 k3
  clear Dv W Ou t1 t2
  -- its place
  replace e := nx_e e
  have f44 : (hI o3 (n + 513) 44).toInt = (N : Int) := R3.1
  obtain ⟨lo, y, loN, ey, la, lb, e⟩ := fr_42 H T D HM S2 bk k3 S np bc R3 O3 N3 F (lo := 0) (hi := N) rfl f44 (Nat.zero_le _) (Nat.le_refl _) (fun k hk => absurd hk (Nat.not_lt_zero _)) (fun k hk hk' => by omega) e
  have v1n := nc_i c1
  have v1e : v1 = hI h (n + 513) 3 := w1
  -- the end: the text that was out comes back
  have fin : ∀ {h6 : Hp} {x5 : Int32}, DyK n g h6 → FrW (frW n h) h h6 → (∀ i, i < v1.toNatClampNeg → hI h6 (n + 586) i = hI h (n + 515) i) → sX15_findsRoom_280 F h6 (n + 513) v1 x5 = some o → o.1 = x5 ∧ FrW (frW n h) h o.2 ∧ FrW (fun a i => a = n + 515 ∨ (a = n + 513 ∧ i = 3)) h6 o.2 ∧ DyK n g o.2 ∧ hI o.2 (n + 513) 3 = hI h (n + 513) 3 ∧ (∀ i : Nat, (i : Int) < (hI h (n + 513) 3).toInt → hI o.2 (n + 515) i = hI h (n + 515) i) := fun {h6 x5} k6 f6 kp6 e => by
    obtain ⟨oe, _⟩ := fr_280 k6 e
    rw [oe]
    have fx : FrW (fun a i => a = n + 515 ∨ (a = n + 513 ∧ i = 3)) h6 (wI (cpI h6 (n + 586) 0 (n + 515) 0 v1.toNatClampNeg) (n + 513) 3 v1) := fw_wI ⟨Nat.le_refl _, fun a i _ nw => ⟨by rw [cp_at, if_neg (fun z => nw (Or.inl z.1))], rfl⟩⟩ (Or.inr ⟨rfl, rfl⟩)
    refine ⟨rfl, fw_t f6 (fw_s fx (fun a i z => ?_)), fx, dk_wI (dk_cpI k6), by rw [rI_s, v1e], fun i hi => ?_⟩
    · rcases z with z | z
      · exact Or.inr (Or.inl z)
      · exact Or.inl ⟨z.1, Or.inl z.2⟩
    · rw [← v1e] at hi
      rw [rI_a (by omega), cp_at, if_pos ⟨rfl, by omega, by omega⟩, show 0 + (i - 0) = i by omega]
      exact kp6 i (by omega)
  have fA : FrW (frW n h) h o3 := fw_s FA (fun a i z => by
    rcases z with z | z | z
    · exact Or.inr (Or.inr (Or.inl (by omega)))
    · exact Or.inl ⟨z.1, Or.inl z.2⟩
    · exact Or.inr (Or.inl z))
  unfold sX15_findsRoom_108 sX15_findsRoom_123 at e
  replace e := bp_e rfl e
  have z3 : (3000 : Int32).toInt = 3000 := rfl
  rcases br_s e with ⟨c2, e⟩ | ⟨c2, e⟩
  · have c2 := le_i c2
    have e : sX15_findsRoom_280 F o3 (n + 513) v1 (0 : Int32) = some o := by
      unfold sX15_findsRoom_128 at e
      exact bp_e rfl (bp_e rfl e)
    obtain ⟨r1, r2, _, r3, r4, r5⟩ := fin k3 fA kp3 e
    have NN : N = 3000 := by omega
    rw [NN] at S
    exact ⟨r2, r3, r4, r5, Or.inl ⟨r1, ovb_of H T D HM S2 bk S np bc⟩⟩
  have c2 := nle_i c2
  obtain ⟨i3, o2, r, G, e⟩ := fd_g1 (dk_self k3).1 e
  have N' : (hI o3 (n + 513) 44).toNatClampNeg = N := by have := nc_i (x := hI o3 (n + 513) 44) (by omega); omega
  rw [N'] at i3 G
  have k32 : DyK n o3 o2 := dk_got (dk_self k3) (by decide) G
  have k2 : DyK n g o2 := dk_t k3 k32
  have FG : FrW (fun _ _ => False) o3 o2 := got_w G
  have s62 := dk_610 k2
  have q2 : ∀ a i, a < n + 610 → hI o2 a i = hI o3 a i := fun a i l => (FG.2 a i (by omega) (fun z => z)).1
  unfold sX15_findsRoom_168 at e
  replace e := nx_e e
  rw [q2 (n + 513) 44 (by omega)] at e
  obtain ⟨h5, k5, F5, RR, up, lw, e⟩ := fr_174 (g := o3) (h0 := o2) ey loN i3 s62 F k32 fw_0 (fun _ _ => rfl) (q := N) f44 loN (Nat.le_refl _) (fun k h1 h2 => by omega) (fun _ _ => rfl) e
  have ny : y.toNatClampNeg = lo := by have := nc_i (x := y) (by omega); omega
  have s65 := dk_610 k5
  replace e := ce_e (dk_e (a := 513) (f := 42) (b := 585) k5 (by decide +kernel)) e
  replace e := gg_e e
  rw [ny] at e
  have f5 : hI h5 (n + 513) 44 = hI o3 (n + 513) 44 := by rw [(F5.2 (n + 513) 44 (by omega) (fun z => by omega)).1]; exact q2 _ _ (by omega)
  rw [f5] at e
  obtain ⟨h4, w4, e⟩ := nm_s e
  have k4 : DyK n o3 h4 := by rw [w4]; exact dk_wI k5
  have F4 : FrW (fun a _ => a = n + 585) o3 h4 := by rw [w4]; exact fw_wI (fw_t (fw_s FG (fun _ _ z => z.elim)) F5) rfl
  have s64 := dk_610 k4
  have f4 : hI h4 (n + 513) 44 = hI o3 (n + 513) 44 := (F4.2 _ _ (by omega) (fun z => by omega)).1
  replace e := ce_e (dk_e (a := 513) (f := 40) (b := 583) k4 (by decide +kernel)) e
  replace e := gg_e e
  rw [f4, N'] at e
  have er : hR h4 (n + 583) N = some r := by
    rw [w4]
    show hR h5 (n + 583) N = some r
    rw [RR]; exact G.2.1
  replace e := ce_e er e
  replace e := ce_e (dk_e (a := 513) (f := 45) (b := 587) k4 (by decide +kernel)) e
  obtain ⟨o9, e9, e⟩ := cl_s e
  obtain ⟨own4, Dw4⟩ := k4.1.1
  obtain ⟨rlo, rhi, rtag⟩ := fd_tag Dw4 i3 er
  have Tr := (bk_dy Dw4 (q := (583, 3000, 5, 8000, fsB)) (by decide) i3 er).2.2
  have A4 : RbA h4 (n + 587) (cdP B c) := rba_f A3 (st_T k4 tb) (fun j i hj => F4.2 _ _ (by omega) (fun z => by omega))
  obtain ⟨F9, k9, A9⟩ := cpy_m k4 Dw4.1 (bb_st (t := 106) (by decide) (by decide) (by decide) h4 k4 own4 Dw4) (bke_b (q := (583, 3000, 5, 8000, fsB)) Dw4 (by decide) rfl (by decide) i3 er) (by show ¬ 106 = 8000 + N ∧ 106 < 20000 ∧ 8000 + N < 20000; omega) A4 Tr e9
  have s69 := dk_610 k9
  have i9 : ∀ a i, a < n + 610 → hI o9 a i = hI h4 a i := fun a i l => (F9.2 a i (by omega) (fun z => by omega)).1
  have o39 : ∀ a i, a < n + 610 → ¬ a = n + 585 → hI o9 a i = hI o3 a i := fun a i l z => by rw [i9 a i l]; exact (F4.2 a i (by omega) z).1
  unfold sX15_findsRoom_228 sX15_findsRoom_270 at e
  replace e := ce_e (dk_e (a := 513) (f := 41) (b := 584) k9 (by decide +kernel)) e
  replace e := gg_e e
  rw [o39 (n + 513) 44 (by omega) (by omega), o39 (n + 513) 3 (by omega) (by omega)] at e
  have lt : (wrTx L (cdP B c)).length ≤ 85 := (gs_b H T (cd_mok H HM S2 (bk _ bc))).2
  have l3 : (hI o3 (n + 513) 3).toInt = ((wrTx L (cdP B c)).length : Int) := O3.1
  have m96 : ((96 : Int32) * hI o3 (n + 513) 44).toInt = 96 * (N : Int) := by rw [tm (by rw [z96, f44]; omega), z96, f44]
  have n96 : ((96 : Int32) * hI o3 (n + 513) 44).toNatClampNeg = 96 * N := by have := nc_i (x := (96 : Int32) * hI o3 (n + 513) 44) (by omega); omega
  rw [n96, nar7 ⟨by omega, by omega⟩] at e
  obtain ⟨ha, wa, e⟩ := nm_s e
  have ka : DyK n o3 ha := by rw [wa]; exact dk_wI k9
  have ia : ∀ a i, ¬ (a = n + 584 ∧ i = 96 * N) → hI ha a i = hI o9 a i := fun a i z => by rw [wa, r_I, if_neg z]
  replace e := ce_e (dk_e (a := 513) (f := 2) (b := 515) ka (by decide +kernel)) e
  replace e := ce_e (dk_e (a := 513) (f := 41) (b := 584) ka (by decide +kernel)) e
  iterate 6 replace e := gg_e e
  rw [ia (n + 513) 44 (fun z => by omega), o39 (n + 513) 44 (by omega) (by omega), ia (n + 513) 3 (fun z => by omega), o39 (n + 513) 3 (by omega) (by omega)] at e
  have a96 : (((96 : Int32) * hI o3 (n + 513) 44) + (1 : Int32)).toInt = 96 * (N : Int) + 1 := by rw [ta (by omega), m96, z1]
  have na96 : (((96 : Int32) * hI o3 (n + 513) 44) + (1 : Int32)).toNatClampNeg = 96 * N + 1 := by have := nc_i (x := ((96 : Int32) * hI o3 (n + 513) 44) + (1 : Int32)) (by omega); omega
  have nl3 : (hI o3 (n + 513) 3).toNatClampNeg = (wrTx L (cdP B c)).length := by have := nc_i (x := hI o3 (n + 513) 3) (by omega); omega
  rw [na96, nl3, n0] at e
  obtain ⟨hb, wb, e⟩ := nm_s e
  have kb : DyK n o3 hb := by rw [wb]; exact dk_cpI ka
  obtain ⟨hc, wc, e⟩ := nm_s e
  have kc : DyK n o3 hc := by rw [wc]; exact dk_wI kb
  have ib : ∀ a i, ¬ a = n + 584 → hI hb a i = hI o9 a i := fun a i z => by rw [wb, cp_at, if_neg (fun y => z y.1), ia a i (fun y => z y.1)]
  have ic : ∀ a i, ¬ a = n + 584 → ¬ (a = n + 513 ∧ i = 44) → hI hc a i = hI o9 a i := fun a i z z' => by rw [wc, r_I, if_neg z', ib a i z]
  have jc : ∀ a i, hJ hc a i = hJ o9 a i := fun a i => by rw [wc, wb, wa]; rfl
  have sc : hS hc = hS o9 := by rw [wc, wb, wa]; rfl
  have s6c := dk_610 kc
  have FC : FrW (fun a i => a = n + 585 ∨ (r ≤ a ∧ a < r + 5) ∨ a = n + 584 ∨ (a = n + 513 ∧ i = 44)) o3 hc := fw_t (fw_s F4 (fun _ _ z => Or.inl z)) (fw_t (fw_s F9 (fun _ _ z => Or.inr (Or.inl z))) ⟨by rw [sc]; exact Nat.le_refl _, fun a i _ nw => ⟨ic a i (fun z => nw (Or.inr (Or.inr (Or.inl z)))) (fun z => nw (Or.inr (Or.inr (Or.inr z)))), jc a i⟩⟩)
  have rin : hR h (n + 583) N = some r ∨ hS h ≤ r := by
    rcases G.2.2 with ⟨x, _⟩ | ⟨_, x, _⟩
    · rcases k3h.2.2.1 (583, 3000, 5, 8000, fsB) (by decide) N r x with y | y
      · exact Or.inl y
      · exact Or.inr y
    · exact Or.inr (by rw [x]; exact FA.1)
  have fC : FrW (frW n h) h hc := ⟨Nat.le_trans fA.1 FC.1, fun a i l nw => by
    have x := fA.2 a i l nw
    have y := FC.2 a i (Nat.lt_of_lt_of_le l fA.1) (fun z => by
      rcases z with z | z | z | z
      · exact nw (Or.inr (Or.inr (Or.inl (by omega))))
      · rcases rin with w | w
        · exact nw (Or.inr (Or.inr (Or.inr ⟨N, r, i3, w, z⟩)))
        · omega
      · exact nw (Or.inr (Or.inr (Or.inl (by omega))))
      · exact nw (Or.inl ⟨z.1, Or.inr z.2⟩))
    exact ⟨y.1.trans x.1, y.2.trans x.2⟩⟩
  obtain ⟨r1, r2, r2', r3, r4, r5⟩ := fin (dk_t k3 kc) fC (fun i hi => by rw [(FC.2 (n + 586) i (by omega) (fun z => by omega)).1]; exact kp3 i hi) e
  refine ⟨r2, r3, r4, r5, Or.inr ⟨by rw [r1]; decide, i3, insF f lo c, ?_, sqm_add S bc loN la lb⟩⟩
  have ko : DyK n hc o.2 := by
    obtain ⟨oe, _⟩ := fr_280 kc e
    rw [oe]
    exact dk_wI (dk_cpI (dk_self kc))
  refine rwr_f (N := N + 1) (by omega) kc ko r2' (fun z => by omega) (fun i z => by omega) (fun i z => by omega) (fun i a hi ea l1 l2 j q hj z => by omega) ⟨?_, fun q hq => ?_⟩
  · rw [wc, rI_s, ib _ _ (by omega), o39 _ _ (by omega) (by omega), ta (by omega), f44, z1]; omega
  have rowq : ∀ q, hI hc (n + 585) q = hI h4 (n + 585) q := fun q => by rw [ic _ _ (by omega) (fun z => by omega)]; exact i9 _ _ (by omega)
  have old : ∀ q', q' < N → (hI hc (n + 585) q).toInt = (hI o3 (n + 585) q').toInt → ∃ id a, (hI hc (n + 585) q).toInt = ((id : Nat) : Int) ∧ id < N + 1 ∧ hR hc (n + 583) id = some a ∧ RbA hc a (cdP B (f q')) ∧ TxF n hc (wrTx L (cdP B (f q'))) id := fun q' hq' eq => by
    obtain ⟨id, a, x1, x2, x3, x4, x5⟩ := R3.2 q' hq'
    have e3' := ks_r kc (q := (583, 3000, 5, 8000, fsB)) (by decide) x3
    have e34 := ks_r k4 (q := (583, 3000, 5, 8000, fsB)) (by decide) x3
    obtain ⟨ownc, Dwc⟩ := kc.1.1
    have Tc := (bk_dy Dwc (q := (583, 3000, 5, 8000, fsB)) (by decide) (show id < 3000 by omega) e3').2.2
    obtain ⟨own3, Dw3⟩ := k3.1.1
    obtain ⟨l1, l2, _⟩ := fd_tag Dw3 (show id < 3000 by omega) x3
    obtain ⟨_, _, l3'⟩ := fd_tag Dw4 (show id < 3000 by omega) e34
    have lx : (wrTx L (cdP B (f q'))).length ≤ 85 := (gs_b H T (cd_mok H HM S2 (bk _ (sqm_f S hq')))).2
    have t4 : ∀ i, i < 96 * N → hI hc (n + 584) i = hI o3 (n + 584) i := fun i hi => by
      rw [wc, rI_a (by omega), wb, cp_at, if_neg (by omega), wa, rI_o (by omega)]
      exact o39 _ _ (by omega) (by omega)
    refine ⟨id, a, by rw [eq]; exact x1, by omega, e3', rba_f x4 Tc (fun j i hj => FC.2 _ _ (by omega) (fun z => ?_)), by rw [t4 _ (by omega)]; exact x5.1, fun i hi => by rw [t4 _ (by omega)]; exact x5.2 i hi⟩
    rcases z with z | z | z | z
    · omega
    · have u1 := l3' j hj
      have u2 := rtag (a + j - r) (by omega)
      rw [show r + (a + j - r) = a + j by omega] at u2
      omega
    · omega
    · omega
  rcases Nat.lt_trichotomy q lo with w | w | w
  · rw [ins_l w]
    refine old q (by omega) ?_
    rw [rowq, w4, rI_o (by omega), lw q (by omega), q2 _ _ (by omega)]
  · rw [w, ins_e]
    have erc := ks_r (dk_t (dk_self k4) (show DyK n h4 hc by
      rw [wc, wb, wa]
      exact dk_wI (dk_cpI (dk_wI (dk_X12_copy (dk_self k4) e9))))) (q := (583, 3000, 5, 8000, fsB)) (by decide) er
    obtain ⟨ownc, Dwc⟩ := kc.1.1
    have Tc := (bk_dy Dwc (q := (583, 3000, 5, 8000, fsB)) (by decide) i3 erc).2.2
    refine ⟨N, r, ?_, by omega, erc, rba_f A9 Tc (fun j i hj => ⟨ic _ _ (by omega) (by omega), jc _ _⟩), ?_, fun i hi => ?_⟩
    · rw [rowq, w4, rI_s]; exact f44
    · rw [wc, rI_a (by omega), wb, cp_at, if_neg (by omega), wa, rI_s]; exact l3
    · rw [wc, rI_a (by omega), wb, cp_at, if_pos ⟨rfl, by omega, by omega⟩, show 0 + (96 * N + 1 + i - (96 * N + 1)) = i by omega, ia _ _ (fun z => by omega), o39 _ _ (by omega) (by omega)]
      exact O3.2 i hi
  · rw [ins_g w]
    refine old (q - 1) (by omega) ?_
    rw [rowq, w4, rI_o (by omega), up q w (by omega), q2 _ _ (by omega)]
end
end
section
/-! BEFORE, the reference: one guess -/
def rs2 (j f : Nat) : Bool := Nat.beq j 513 && (Nat.beq f 23 || Nat.beq f 24)
theorem rs2_c {n j f i : Nat} (e : rs2 j f = true) (z : f = i ∨ f = 999) : n + j = n + 513 ∧ (i = 23 ∨ i = 24) := by
  unfold rs2 at e
  rw [Bool.and_eq_true, Bool.or_eq_true] at e
  have a := Nat.eq_of_beq_eq_true e.1
  rcases e.2 with b | b <;> have b := Nat.eq_of_beq_eq_true b <;> omega
section
variable {n F : Nat} {g h : Hp} {L : Nat → Nat → Int} {x1 x2 x3 : Int32} {o : Int32 × Hp}
theorem mk2_m {b c t t' v tv w : Nat} {own : Nat → Nat} {P : Pz} {u : MvT} {o : Hp} (k : DyK n g h) (O : OwS n h own) (hw : w = 516 ∨ w = 526) (bb : BkE own h b 4 t) (bc : BkE own h c 4 t') (bv : BkE own h v 7 tv) (nt : 102 ≤ t ∧ t < 20000 ∧ 102 ≤ t' ∧ t' < 20000 ∧ ¬ t = t' ∧ 108 ≤ tv ∧ tv < 20000 ∧ ¬ t = tv ∧ ¬ t' = tv) (H : LOk L) (K : LawK L) (Oz : PzOk L P) (G : MvGd L P u) (C : RfL n h (n + w) L) (A : RbA h b P) (T : ∀ p, p ∈ fsM → hR h v p.1 = some (v + p.2)) (T' : ∀ q, q ∈ fsB → hR h c q.1 = some (c + q.2)) (row : rwA h v x2.toNatClampNeg = u) (e : sX15_make F h (n + 513) b v x2 c = some o) : FrW (fun a i => (a = n + 513 ∧ (i = 23 ∨ i = 24)) ∨ (c ≤ a ∧ a < c + 5)) h o ∧ DyK n g o ∧ RbA o c (zAll L P u) := by
  have D : VD (vM n (hS h) b c (hS h + 1000 * 6) v (n + w)) := vd_m O bb (bk_45 bc (by omega)) (bke_o (c := 6)) bv (bk_lw O hw) (by split <;> omega)
  have W0 : RW0 (vM n (hS h) b c (hS h + 1000 * 6) v (n + w)) h L := rfl_m.mpr C
  obtain ⟨f, r⟩ := mkg_r D H K Oz G ⟨W0, ⟨T (1, 1) (by decide), T (2, 2) (by decide), T (3, 3) (by decide), T (4, 4) (by decide), T (5, 5) (by decide), T (6, 6) (by decide), T (7, 7) (by decide)⟩, row, rba_m.mpr A⟩ ⟨T' (0, 1) (by decide), T' (4, 2) (by decide), T' (5, 3) (by decide), T' (6, 4) (by decide)⟩ e
  have k3 := dk_X15_make (dk_self k) e
  refine ⟨fw_v (sb := rs2) (cs := [5]) f (hs_g k3.1) (by decide +kernel) (fun j f i z y => Or.inl (rs2_c z y)) (fun c' hc j i hj => ?_), dk_X15_make k e, rba_2.mp (rbt_i.mpr r)⟩
  simp only [List.mem_cons, List.not_mem_nil, or_false] at hc
  subst hc
  have hj : j < 5 := hj
  exact Or.inr ⟨by show c ≤ c + j; omega, by show c + j < c + 5; omega⟩
theorem e587 {g h' : Hp} (k : DyK n g h') : ∀ q, q ∈ fsB → hR h' (n + 587) q.1 = some (n + 587 + q.2) := st_T k (by decide +kernel)
theorem e568 {g h' : Hp} (k : DyK n g h') : ∀ q, q ∈ fsB → hR h' (n + 568) q.1 = some (n + 568 + q.2) := st_T k (by decide +kernel)
theorem bk587 {own : Nat → Nat} (D : DnS n h own) : BkE own h (n + 587) 4 106 := Or.inl ⟨bk_st D.1 (by decide) (by decide), by decide, by decide⟩
/-- whether a man may come from s to t -/
theorem mc_k {B : Pz} {s t m a : Nat} (H : LOk L) (HM : MOk L B.1) (S2 : pzS B < 2) (O : BfO L B s t m) (Aa : BfA L a) (k : DyK n g h) (Rl : RLw n h L) (A : RbA h (n + 587) (gsP B s t m a)) (e1 : x1.toInt = (s : Int)) (e2 : x2.toInt = (t : Int)) (e : sX15_mayCome F h (n + 513) x1 x2 = some o) : FrW (RS n) h o.2 ∧ DyK n g o.2 ∧ ((o.1 = 0 ∧ ¬ ∃ j k, ldD L (gsP B s t m a).1 (ovP (gsP B s t m a)) false (pzS B) m s j t k) ∨ (¬ o.1 = 0 ∧ ∃ j k, ldD L (gsP B s t m a).1 (ovP (gsP B s t m a)) false (pzS B) m s j t k)) := by
  have kk := dk_X15_mayCome k e
  unfold sX15_mayCome sX15_mayCome_25 at e
  replace e := ce_e (dk_e (a := 513) (f := 45) (b := 587) k (by decide +kernel)) e
  obtain ⟨o2, e3, e⟩ := cl_s e
  obtain ⟨own, Dw⟩ := k.1.1
  obtain ⟨w, hw, _, _, C⟩ := Rl
  have gm := gs_mn (B := B) (m := m) S2
  have ns : x1.toNatClampNeg = s := by have := nc_i (x := x1) (by omega); omega
  have nt : x2.toNatClampNeg = t := by have := nc_i (x := x2) (by omega); omega
  have D : VD (vM n (hS h) (n + 587) (hS h + 1000 * 5) (hS h + 1000 * 6) (hS h + 1000 * 7) (n + w)) := vd_m Dw.1 (bk587 Dw) (bke_o (c := 5)) (bke_o (c := 6)) (bke_o (c := 7)) (bk_lw Dw.1 hw) (by split <;> omega)
  have W0 : RW0 (vM n (hS h) (n + 587) (hS h + 1000 * 5) (hS h + 1000 * 6) (hS h + 1000 * 7) (n + w)) h L := rfl_m.mpr C
  have R0 : RbP (vM n (hS h) (n + 587) (hS h + 1000 * 5) (hS h + 1000 * 6) (hS h + 1000 * 7) (n + w)) h (gsP B s t m a) := rba_m.mpr A
  have W : LdW (vM n (hS h) (n + 587) (hS h + 1000 * 5) (hS h + 1000 * 6) (hS h + 1000 * 7) (n + w)) h L (gsP B s t m a).1 (ovP (gsP B s t m a)) := ⟨⟨W0.1, W0.2, R0.1.1, R0.2.1⟩, ⟨dk_e (a := 513) (f := 25) (b := 544) k (by decide +kernel), dk_e (a := 513) (f := 26) (b := 545) k (by decide +kernel), dk_e (a := 513) (f := 27) (b := 546) k (by decide +kernel)⟩, R0.1.2.1, fun q => ⟨fun ⟨i, i1, i2, _⟩ => by
    have z := R0.2.2.2.2.1
    have z : (hI h (vM n (hS h) (n + 587) (hS h + 1000 * 5) (hS h + 1000 * 6) (hS h + 1000 * 7) (n + w) 13) 3).toInt = 0 := z
    omega, fun z => absurd z gs_ov⟩⟩
  have Mg := (gs_rd H HM S2 O Aa).1.1
  obtain ⟨f, r⟩ := ld_r D (ct := false) H Mg W (by omega) (by rw [e1]; exact O.1.2.1) ⟨fun _ => rfl, fun _ => rfl⟩ (by rw [ns, gs_s]; exact gm.2.2) e3
  have k3 := dk_X15_lead (dk_self k) e3
  have F3 : FrW (RS n) h o2 := fw_v (W := RS n) (sb := rsB) (cs := []) f (hs_g k3.1) (by decide +kernel) (fun j f i z y => rsb_c z y) (fun c hc => absurd hc (List.not_mem_nil))
  have tL := ((HM t O.2.1.1).2 O.2.1.2.1).1
  have rt := r t tL
  have rt : (hI o2 (n + 544) t = (-1 : Int32) ∧ ∀ j k, ¬ ldD L (gsP B s t m a).1 (ovP (gsP B s t m a)) false (pzS B) m s j t k) ∨ ∃ (j : Nat) (k : Int), (hI o2 (n + 544) t).toInt = (j : Int) ∧ ldD L (gsP B s t m a).1 (ovP (gsP B s t m a)) false (pzS B) m s j t k := by
    rw [ns, gs_s, gm.1, gm.2.1] at rt
    rcases rt with ⟨y1, y2⟩ | ⟨j, k, y1, _, _, y2, _⟩
    · exact Or.inl ⟨y1, fun j k z => y2 j k z⟩
    · exact Or.inr ⟨j, k, y1, y2⟩
  replace e := ce_e (dk_e (a := 513) (f := 25) (b := 544) k3 (by decide +kernel)) e
  replace e := gg_e e
  rw [nt] at e
  rcases br_s e with ⟨c1, e⟩ | ⟨c1, e⟩
  · have y := so_e (gg_e e)
    rw [y] at kk ⊢
    refine ⟨F3, kk, Or.inl ⟨rfl, fun ⟨j, k, z⟩ => ?_⟩⟩
    rcases rt with ⟨_, y2⟩ | ⟨j', k', y1, _⟩
    · exact y2 j k z
    · rw [c1] at y1
      have zm : (-1 : Int32).toInt = -1 := rfl
      omega
  · have y := so_e (gg_e e)
    rw [y] at kk ⊢
    refine ⟨F3, kk, Or.inr ⟨show ¬ (1 : Int32) = 0 by decide, ?_⟩⟩
    rcases rt with ⟨y1, _⟩ | ⟨j', k', _, y2⟩
    · exact absurd y1 c1
    · exact ⟨j', k', y2⟩
/-- men of two boards alike -/
theorem lt_73 {K27 : Hp → Nat → Nat → Int32 → Option (Int32 × Hp)} {b : Nat} {P Q : Pz} {Z : Prop} (k : DyK n g h) (sq : (hI h (n + 513) 13).toInt = L 0 0 * L 1 0) (l64 : L 0 0 * L 1 0 ≤ 64) (A : RbA h b P) (A' : RbA h (n + 568) Q) (yes : (∀ q : Nat, (q : Int) < L 0 0 * L 1 0 → Q.1 q = P.1 q) → o = ((1 : Int32), h) → Z) (no : ¬ (∀ q : Nat, (q : Int) < L 0 0 * L 1 0 → Q.1 q = P.1 q) → K27 h (n + 513) b (x2 + (1 : Int32)) = some o → Z) : ∀ (f : Nat) {x3 x4 : Int32} {i : Nat}, x4.toInt = (i : Int) → (i : Int) ≤ L 0 0 * L 1 0 → ((x3 = 0 ∧ ¬ (∀ q : Nat, (q : Int) < L 0 0 * L 1 0 → Q.1 q = P.1 q)) ∨ (x3 = 1 ∧ ∀ q, q < i → Q.1 q = P.1 q)) → sX15_leadsTo_73 F K27 f h (n + 513) b x2 x3 x4 = some o → Z := by
  have z1 : (1 : Int32).toInt = 1 := rfl
  intro f
  induction f with
  | zero => intro x3 x4 i _ _ _ e; exact absurd e (by rw [sX15_leadsTo_73]; exact fun z => nomatch z)
  | succ f ih =>
    intro x3 x4 i i4 il I e
    rw [sX15_leadsTo_73] at e
    unfold sX15_leadsTo_118 sX15_leadsTo_124 sX15_leadsTo_111 at e
    have bad : (x3 = 0 ∧ ¬ (∀ q : Nat, (q : Int) < L 0 0 * L 1 0 → Q.1 q = P.1 q)) → (br (x3 = 0) (nm (x2 + (1 : Int32)) fun v_1 => K27 h (n + 513) b v_1) (some ((1 : Int32), h))) = some o → Z := fun z e => no z.2 (nx_e (bp_e z.1 e))
    rcases br_s e with ⟨c1, e⟩ | ⟨c1, e⟩
    · have c1 := le_i c1
      rcases I with I | ⟨I1, I2⟩
      · exact bad I e
      · replace e := bn_e (by rw [I1]; decide) e
        exact yes (fun q hq => I2 q (by omega)) (so_e e)
    have c1 := nle_i c1
    rcases br_s e with ⟨c2, e⟩ | ⟨c2, e⟩
    · rcases I with I | ⟨I1, _⟩
      · exact bad I e
      · rw [I1] at c2; exact absurd c2 (by decide)
    rcases I with ⟨I1, _⟩ | ⟨I1, I2⟩
    · exact absurd I1 c2
    have n4 : x4.toNatClampNeg = i := by have := nc_i (x := x4) (by omega); omega
    replace e := ce_e (dk_e (a := 513) (f := 32) (b := 568) k (by decide +kernel)) e
    replace e := ce_e A'.1.1 e
    replace e := gg_e e
    replace e := ce_e A.1.1 e
    replace e := gg_e e
    rw [n4] at e
    have v1 : (hI h (n + 568 + 1) i).toInt = Q.1 i := A'.2.1 i (by omega)
    have v2 : (hI h (b + 1) i).toInt = P.1 i := A.2.1 i (by omega)
    have v5 : (x4 + (1 : Int32)).toInt = ((i + 1 : Nat) : Int) := by rw [ta (by omega), z1, i4]; omega
    rcases br_s e with ⟨c3, e⟩ | ⟨c3, e⟩
    · have c3 : hI h (n + 568 + 1) i = hI h (b + 1) i := c3
      replace e := nx_e e
      refine ih v5 (by omega) (Or.inr ⟨rfl, fun q hq => ?_⟩) e
      by_cases y : q = i
      · rw [y, ← v1, ← v2, c3]
      · exact I2 q (by omega)
    · have c3 : ¬ hI h (n + 568 + 1) i = hI h (b + 1) i := c3
      replace e := nx_e e
      exact ih v5 (by omega) (Or.inl ⟨rfl, fun al => c3 (Int32.toInt_inj.mp (by rw [v1, v2]; exact al i (by omega)))⟩) e
theorem lt_27 {b p : Nat} {P G : Pz} {h0 : Hp} (LW : LwOk L) (Og : PzOk L G) (hp : p < 60) : ∀ (f : Nat) {h : Hp} {x2 : Int32} {i : Nat}, DyK n g h → DyK n h0 h → FrW (RS n) h0 h → RLw n h L → (hR h (n + 536) p = some b ∧ RbA h b P) → RbA h (n + 587) G → RlA h (n + 552) (lgL L G) → x2.toInt = (i : Int) → i ≤ (lgL L G).length → (∀ j v, j < i → (lgL L G)[j]? = some v → ¬ (v.2.2.2.2.2.1 < 2 ∧ ∀ q : Nat, (q : Int) < L 0 0 * L 1 0 → (zAll L G v).1 q = P.1 q)) → sX15_leadsTo_27 F f h (n + 513) b x2 = some o → FrW (RS n) h0 o.2 ∧ DyK n g o.2 ∧ ((o.1 = 0 ∧ ¬ ∃ v, v ∈ lgL L G ∧ v.2.2.2.2.2.1 < 2 ∧ ∀ q : Nat, (q : Int) < L 0 0 * L 1 0 → (zAll L G v).1 q = P.1 q) ∨ (¬ o.1 = 0 ∧ ∃ v, v ∈ lgL L G ∧ v.2.2.2.2.2.1 < 2 ∧ ∀ q : Nat, (q : Int) < L 0 0 * L 1 0 → (zAll L G v).1 q = P.1 q)) := by
  have z1 : (1 : Int32).toInt = 1 := rfl
  have z2 : (2 : Int32).toInt = 2 := rfl
  have sq64 := sq_64 LW.1
  intro f
  induction f with
  | zero => intro h x2 i _ _ _ _ _ _ _ _ _ _ e; exact absurd e (by rw [sX15_leadsTo_27]; exact fun z => nomatch z)
  | succ f ih =>
    intro h x2 i k k0 Fr Rl Ab Ag Ml i2 il no e
    obtain ⟨eb, A⟩ := Ab
    rw [sX15_leadsTo_27] at e
    unfold sX15_leadsTo_124 at e
    have s6 := dk_610 k
    have ln : (hI h (n + 552) 0).toInt = ((lgL L G).length : Int) := Ml.1
    have d30 := dk_e (a := 513) (f := 30) (b := 552) k (by decide +kernel)
    replace e := ce_e d30 e
    rcases br_s e with ⟨c1, e⟩ | ⟨c1, e⟩
    · have c1 := le_i c1
      rw [so_e e]
      refine ⟨Fr, k, Or.inl ⟨rfl, fun ⟨v, hv, y⟩ => ?_⟩⟩
      obtain ⟨j, hj, ej⟩ := List.mem_iff_getElem.mp hv
      exact no j v (by omega) (by rw [List.getElem?_eq_getElem hj, ej]) y
    have c1 := nle_i c1
    have lt : i < (lgL L G).length := by omega
    have n2 : x2.toNatClampNeg = i := by have := nc_i (x := x2) (by omega); omega
    have ev := Ml.2 i lt
    have lk : (hI h (n + 558) i).toInt = (rowM (fun k => n + 552 + kof k) h i).2.2.2.2.2.1 := rfl
    replace e := ce_e d30 e
    replace e := ce_e (lst_T k (6, 6) (by decide)) e
    replace e := gg_e e
    rw [n2] at e
    have lmv := lg_gd LW.1 LW.2.1 Og ev
    have ll : (lgL L G).length ≤ 2977 := by
      have := lgl_le LW.1 LW.2.1 Og
      omega
    have v1 : (x2 + (1 : Int32)).toInt = ((i + 1 : Nat) : Int) := by rw [ta (by omega), z1, i2]; omega
    have next : ∀ {h' : Hp}, DyK n g h' → DyK n h0 h' → FrW (RS n) h0 h' → RLw n h' L → (hR h' (n + 536) p = some b ∧ RbA h' b P) → RbA h' (n + 587) G → RlA h' (n + 552) (lgL L G) → ¬ ((rowM (fun k => n + 552 + kof k) h i).2.2.2.2.2.1 < 2 ∧ ∀ q : Nat, (q : Int) < L 0 0 * L 1 0 → (zAll L G (rowM (fun k => n + 552 + kof k) h i)).1 q = P.1 q) → sX15_leadsTo_27 F f h' (n + 513) b (x2 + (1 : Int32)) = some o → FrW (RS n) h0 o.2 ∧ DyK n g o.2 ∧ ((o.1 = 0 ∧ ¬ ∃ v, v ∈ lgL L G ∧ v.2.2.2.2.2.1 < 2 ∧ ∀ q : Nat, (q : Int) < L 0 0 * L 1 0 → (zAll L G v).1 q = P.1 q) ∨ (¬ o.1 = 0 ∧ ∃ v, v ∈ lgL L G ∧ v.2.2.2.2.2.1 < 2 ∧ ∀ q : Nat, (q : Int) < L 0 0 * L 1 0 → (zAll L G v).1 q = P.1 q)) := fun a1 a2 a3 a4 a5 a6 a7 nn e => ih a1 a2 a3 a4 a5 a6 a7 v1 (by omega) (fun j v hj ejv => by
      by_cases y : j = i
      · rw [y, ev] at ejv
        rw [← Option.some.inj ejv]; exact nn
      · exact no j v (by omega) ejv) e
    rcases br_s e with ⟨c2, e⟩ | ⟨c2, e⟩
    · have c2 := le_i c2
      have c2 : 2 ≤ (hI h (n + 558) i).toInt := c2
      replace e := nx_e e
      exact next k k0 Fr Rl ⟨eb, A⟩ Ag Ml (fun z => by rw [← lk] at z; omega) e
    have c2 := nle_i c2
    have c2 : (hI h (n + 558) i).toInt < 2 := c2
    replace e := ce_e (dk_e (a := 513) (f := 45) (b := 587) k (by decide +kernel)) e
    replace e := ce_e d30 e
    replace e := ce_e (dk_e (a := 513) (f := 32) (b := 568) k (by decide +kernel)) e
    obtain ⟨o10, e10, e⟩ := cl_s e
    obtain ⟨own, Dw⟩ := k.1.1
    obtain ⟨w, hw, _, _, C⟩ := id Rl
    obtain ⟨f10, k10, A10⟩ := mk2_m (b := n + 587) (c := n + 568) (v := n + 552) (t := 106) (t' := 104) (tv := 108) k Dw.1 hw (bk587 Dw) (bk_made Dw.1) (bk_ml Dw.1) (by decide) LW.1 LW.2.1 Og lmv C Ag (lst_T k) (e568 k) (by rw [n2]; rfl) e10
    have k10' : DyK n h o10 := dk_X15_make (dk_self k) e10
    have s610 := dk_610 k10
    have F10 : FrW (RS n) h o10 := fw_s f10 (fun a i z => by unfold RS; omega)
    have eb10 := ks_r k10' (q := (536, 60, 5, 4000, fsB)) (by decide) eb
    obtain ⟨blo, bhi⟩ := dy_lo k (q := (536, 60, 5, 4000, fsB)) (by decide) hp eb
    obtain ⟨own', Dw'⟩ := k10.1.1
    have Tb := (bk_dy Dw' (q := (536, 60, 5, 4000, fsB)) (by decide) hp eb10).2.2
    have bhi : b + 5 ≤ hS h := bhi
    have Ab10 : RbA o10 b P := rba_f A Tb (fun j i hj => F10.2 _ _ (by omega) (fun z => by unfold RS at z; omega))
    have Rl10 : RLw n o10 L := rlw_k k k10' F10 (fun j i hj z => by unfold RS at z; omega) Rl
    have Ag10 : RbA o10 (n + 587) G := rba_f Ag (e587 k10) (fun j i hj => F10.2 _ _ (by omega) (fun z => by unfold RS at z; omega))
    have Ml10 : RlA o10 (n + 552) (lgL L G) := rla_f Ml (fun j i hj => (f10.2 _ _ (by omega) (fun z => by omega)).1)
    have sq : (hI o10 (n + 513) 13).toInt = L 0 0 * L 1 0 := by
      obtain ⟨_, _, _, _, C'⟩ := id Rl10
      exact C'.2.2.2.2
    refine lt_73 (Z := FrW (RS n) h0 o.2 ∧ DyK n g o.2 ∧ _) k10 sq sq64.2 Ab10 A10 (fun al oe => ?_) (fun nal e => ?_) F (i := 0) rfl (by omega) (Or.inr ⟨rfl, fun q hq => absurd hq (Nat.not_lt_zero _)⟩) e
    · rw [oe]
      exact ⟨fw_t Fr F10, k10, Or.inr ⟨show ¬ (1 : Int32) = 0 by decide, _, List.mem_of_getElem? ev, by rw [← lk]; exact c2, al⟩⟩
    · exact next k10 (dk_t k0 k10') (fw_t Fr F10) Rl10 ⟨eb10, Ab10⟩ Ag10 Ml10 (fun z => nal z.2) e
theorem lt_k {b p : Nat} {B P : Pz} {s t m a : Nat} (LW : LwOk L) (HM : MOk L B.1) (S2 : pzS B < 2) (eM : B.1 = P.1) (O : BfO L B s t m) (Aa : BfA L a) (hp : p < 60) (k : DyK n g h) (Rl : RLw n h L) (eb : hR h (n + 536) p = some b) (A : RbA h b P) (Ag : RbA h (n + 587) (gsP B s t m a)) (e : sX15_leadsTo F h (n + 513) b = some o) : FrW (RS n) h o.2 ∧ DyK n g o.2 ∧ ((o.1 = 0 ∧ ¬ BfL L B s t m a) ∨ (¬ o.1 = 0 ∧ BfL L B s t m a)) := by
  have z0 : (0 : Int32).toInt = 0 := rfl
  have Rd := gs_rd LW.1 HM S2 O Aa
  have wb := wrn_b (L := L) (P := gsP B s t m a)
  have s6 := dk_610 k
  unfold sX15_leadsTo at e
  replace e := ce_e (dk_e (a := 513) (f := 45) (b := 587) k (by decide +kernel)) e
  obtain ⟨o2, e2, e⟩ := cl_s e
  obtain ⟨own, Dw⟩ := k.1.1
  obtain ⟨w, hw, _, _, C⟩ := id Rl
  have D : VD (vM n (hS h) (n + 587) (hS h + 1000 * 5) (hS h + 1000 * 6) (hS h + 1000 * 7) (n + w)) := vd_m Dw.1 (bk587 Dw) (bke_o (c := 5)) (bke_o (c := 6)) (bke_o (c := 7)) (bk_lw Dw.1 hw) (by split <;> omega)
  obtain ⟨f2, v2⟩ := wr_r D LW.1 LW.2.1 Rd.1 (rfl_m.mpr C) (rba_m.mpr Ag) (dk_e (a := 513) (f := 22) (b := 543) k (by decide +kernel)) e2
  have k2 := dk_X15_wrongOf (dk_self k) e2
  have k2g := dk_X15_wrongOf k e2
  have F2 : FrW (RS n) h o2.2 := fw_v (W := RS n) (sb := rsB) (cs := []) f2 (hs_g k2.1) (by decide +kernel) (fun j f i z y => rsb_c z y) (fun c hc => absurd hc (List.not_mem_nil))
  have brd : ∀ {h' : Hp}, DyK n h h' → FrW (RS n) h h' → RLw n h' L ∧ (hR h' (n + 536) p = some b ∧ RbA h' b P) ∧ RbA h' (n + 587) (gsP B s t m a) := fun {h'} k' f' => by
    have eb' := ks_r k' (q := (536, 60, 5, 4000, fsB)) (by decide) eb
    obtain ⟨blo, bhi⟩ := dy_lo k (q := (536, 60, 5, 4000, fsB)) (by decide) hp eb
    have bhi : b + 5 ≤ hS h := bhi
    obtain ⟨own', Dw'⟩ := k'.1.1
    have Tb := (bk_dy Dw' (q := (536, 60, 5, 4000, fsB)) (by decide) hp eb').2.2
    exact ⟨rlw_k k k' f' (fun j i hj z => by unfold RS at z; omega) Rl, ⟨eb', rba_f A Tb (fun j i hj => f'.2 _ _ (by omega) (fun z => by unfold RS at z; omega))⟩, rba_f Ag (e587 k') (fun j i hj => f'.2 _ _ (by omega) (fun z => by unfold RS at z; omega))⟩
  rcases br_s e with ⟨c2, e⟩ | ⟨c2, e⟩
  rotate_left
  · have c2 := nle_i c2
    rw [z0] at c2
    rw [so_e e]
    exact ⟨F2, k2g, Or.inl ⟨rfl, fun z => by have := z.1; omega⟩⟩
  have c2 := le_i c2
  rw [z0] at c2
  have w0 : wrN L (gsP B s t m a) = 0 := by omega
  have Og := wr_ok LW.1 LW.2.1 Rd w0
  obtain ⟨Rl2, ⟨eb2, A2⟩, Ag2⟩ := brd k2 F2
  replace e := ce_e (dk_e (a := 513) (f := 45) (b := 587) k2 (by decide +kernel)) e
  replace e := ce_e (dk_e (a := 513) (f := 30) (b := 552) k2 (by decide +kernel)) e
  obtain ⟨o6, e6, e⟩ := cl_s e
  obtain ⟨own2, Dw2⟩ := k2.1.1
  obtain ⟨w2, hw2, _, _, C2⟩ := id Rl2
  obtain ⟨f6, k6, M6⟩ := leg_m k2g Dw2.1 hw2 (bk587 Dw2) (bk_ml Dw2.1) (by decide) LW.1 LW.2.1 Og C2 Ag2 (lst_T k2) e6
  have k6' : DyK n h o6 := dk_X15_legal k2 e6
  have F6 : FrW (RS n) h o6 := fw_t F2 (fw_s f6 (fun a i z => by unfold RS at z ⊢; omega))
  obtain ⟨Rl6, Ab6, Ag6⟩ := brd k6' F6
  obtain ⟨r1, r2, r3⟩ := lt_27 (h0 := h) LW Og hp F k6 k6' F6 Rl6 Ab6 Ag6 M6 (i := 0) rfl (Nat.zero_le _) (fun j v hj => absurd hj (Nat.not_lt_zero _)) e
  refine ⟨r1, r2, ?_⟩
  unfold BfL
  rw [eM]
  rcases r3 with ⟨x, y⟩ | ⟨x, y⟩
  · exact Or.inl ⟨x, fun z => y z.2⟩
  · exact Or.inr ⟨x, w0, y⟩
end
end
