section
variable {x0 F N : Nat} {A : Hp → Nat → Int32 → Int32 → Option (Int32 × Hp)} {R G : Hp → Nat → Int32 → Option (Int32 × Hp)} {B : Hp → Nat → Int32 → Int32 → Option (Int32 × Hp)} {Tr : Hp → Nat → Int32 → Option (Int32 × Hp)}
theorem tree_loop (hF : 700000 ≤ F) (I : Five F x0 N A R G B Tr) {ρ : Nat → Nat} {c : Cm} {b d x2 : Nat} {x1 x3 : Int32} (hp : ∀ k w i, SZ tE (tW d) k w i = true → cPm c k w i = true) (r0 : ρ x0 = 5) (ed : x1.toNatClampNeg = d) (i1 : Rg 0 7 x1) (q2 : ρ x2 = 47) (i3 : Rg 0 4096 x3) (hN : 3 * (7 - d) + 3 ≤ N) : ∀ (f : Nat) {h : Hp} {x4 x5 : Int32}, TH ρ c h → LwR ρ c h → RcP x0 h → PQ ρ c x0 d b h → 0 ≤ x5.toInt → (4096 - x5.toInt).toNat < f → Sat (sX4_tree_151 F A R G B Tr f h x0 x1 x2 x3 x4 x5) (Zt ρ c x0) := by
  obtain ⟨s1, s2⟩ := nc_s i1 (by decide)
  rw [ed] at s1
  have cl7 := rg_clamp (n := 7) i1 (by decide)
  have ies : Rg 1 8 (x1 + (1 : Int32)) := rg_add i1 (rg_b rfl : Rg 1 1 (1 : Int32)) (by decide)
  have hd8 : d < 8 := by omega
  intro f
  induction f with
  | zero => intros; omega
  | succ f ih =>
    intro h x4 x5 T lw rc P a5 hf
    rw [sX4_tree_151]
    unfold sX4_tree_268
    refine s_br (fun _ => s_some ⟨T, rc⟩) (fun n1 => ?_)
    refine s_br (fun ov => ?_) (fun _ => s_some ⟨T, rc⟩)
    have lt5 := nle_i n1
    have i5 : Rg 0 4095 x5 := ⟨a5, by have := i3.2; omega⟩
    have ov' : (hI h x0 9).toInt = 0 := eq_i ov
    refine s_path0 T r0 (rg_m ies (by decide)) (fun r b5 e1 e2 k5 w5 => ?_)
    rw [s1] at e2 w5
    have Pd := P
    rw [← ed] at Pd
    refine s_path T r0 (rg_m i1 (by decide)) Pd ?_
    obtain ⟨kb, wb'⟩ := pq_r T r0 (by omega) P
    have PB : RyP ρ c b h := by obtain ⟨_, _, _, q⟩ := P; exact q
    have hs : ∀ k w i, SZ noE (is (3100 + (d + 1))) k w i = true → cPm c k w i = true := fun k w i m => hp k w i (sz_sub (fun _ _ z => noE_f z) (fun w z => by rw [is_e z]; exact tW_t (Nat.lt_succ_self d) (by omega)) m)
    refine s_cVfq T hs (s_weq (zX3_copyFrom hF (by show pmO _ (cw c b5) _; rw [w5]; exact pmO_s (szP (sx_c _) is_s) rfl) (th_in _ T) k5 kb)) (fun o9 T9 f9 e9 => ?_)
    have P9 := ry_copy T k5 kb e9 PB
    have lw9 := lw_sz niceC_0 T f9 lw
    have rc9 := rc_sz rfl rfl (fun _ => rfl) T r0 f9 rc
    have Pd9 := pq_sz niceC_0 rfl rfl (by omega) T r0 f9 (is_f (by omega)) P
    have ov9 : hI o9 x0 9 = hI h x0 9 := x5I r0 f9 rfl
    have Q9 : PQ ρ c x0 (d + 1) b5 o9 := ⟨r, by rw [x5R r0 f9 rfl]; exact e1, by rw [(fr_RI f9 (path_r T r0 e1) (by decide) (fun _ => sz_f rfl rfl (Or.inl rfl))).2.2]; exact e2, P9⟩
    obtain ⟨rf, erf, qrf⟩ := thR T9 r0 (i := 0) (k2 := 6) rfl (by decide)
    refine s_ref erf ?_
    refine s_gd (by rw [thN T9 q2 (k := 47) (n := 4096) rfl (by decide)]; exact rg_inB i5 (by decide)) ?_
    refine s_cVfq T9 hs (zX5_make hF (pmO_s (szP (sx_c _) is_s) rfl) w5 (th_in _ T9) qrf k5 (rg_top _) (thG T9 q2)) (fun oc Tc fc rcc => ?_)
    have lwc := lw_sz niceC_0 T9 fc lw9
    have rc' := rc_sz rfl rfl (fun _ => rfl) T9 r0 fc rc9
    have Pdc := pq_sz niceC_0 rfl rfl (by omega) T9 r0 fc (is_f (by omega)) Pd9
    have ovc : (hI oc x0 9).toInt = 0 := by rw [x5I r0 fc rfl, ov9]; exact ov'
    have Qc : PQ ρ c x0 (d + 1) b5 oc := by
      obtain ⟨r', a1, a2, a3⟩ := Q9
      exact ⟨r', by rw [x5R r0 fc rfl]; exact a1, by rw [(fr_RI fc (path_r T9 r0 a1) (by decide) (fun _ => sz_f rfl rfl (Or.inl rfl))).2.2]; exact a2, rcc _ k5 a3⟩
    have nxt : ∀ {g : Hp} {y : Int32}, TH ρ c g → LwR ρ c g → RcP x0 g → PQ ρ c x0 d b g → Sat (sX4_tree_255 F A R G B Tr (sX4_tree_151 F A R G B Tr f) g x0 x1 x2 x3 x4 x5 y) (Zt ρ c x0) := fun {g y} Tg lg rg Pg => by
      unfold sX4_tree_255
      refine s_q (fun u eu => ?_)
      refine s_q (fun v ev => ?_)
      have ev2 : v.toInt = x5.toInt + 1 := by rw [ev]; exact (nc_s i5 (by decide)).2
      exact ih Tg lg rg Pg (by omega) (by have := i5.2; omega)
    have b233 : ∀ {g : Hp}, TH ρ c g → LwR ρ c g → RcP x0 g → PQ ρ c x0 d b g → PQ ρ c x0 (d + 1) b5 g → (hI g x0 9).toInt = 0 → Sat (sX4_tree_233 F A R G B Tr (sX4_tree_151 F A R G B Tr f) g x0 x1 x2 x3 x4 x5) (Zt ρ c x0) := fun {g} Tg lg rg Pg Qg og => by
      unfold sX4_tree_233
      refine s_zt (S := SZ tE (tW d)) Tg hp (I.2.2.2.1 (c := cat c (SZ tE (tW d)) g) (sx_c _) (th_in _ Tg) r0 ed i1 lg og rg Qg i5 hN) (fun o1 T1 f1 rc1 => ?_)
      have lw1 := lw_sz niceC_t Tg f1 lg
      have P1 := pq_sz niceC_t rfl rfl (by omega) Tg r0 f1 (tW_f (Nat.le_refl _)) Pg
      refine s_br (fun _ => ?_) (fun _ => nxt T1 lw1 rc1 P1)
      obtain ⟨wy, ewy, qwy⟩ := thR T1 r0 (i := 10) (k2 := 43) rfl (by decide)
      refine s_ref ewy ?_
      refine s_gd (by rw [thN T1 qwy (k := 43) (n := 4096) rfl (by decide)]; exact rg_inB i5 (by decide)) ?_
      refine s_hq (th_wI T1 qwy (k := 43) (lo := -2147483648) (hi := 2147483647) rfl (rg_top _) (by decide) (by decide) (szE hp rfl _)) (fun g3 T3 e3 => ?_)
      have f3 := fr_e (c := c) qwy e3
      exact nxt T3 (lw_sz (niceC_e (by decide)) T1 f3 lw1) (rc_sz rfl rfl (fun _ => rfl) T1 r0 f3 rc1) (pq_sz (niceC_e (by decide)) rfl rfl (by omega) T1 r0 f3 rfl P1)
    have b216 : Sat (sX4_tree_216 F A R G B Tr (sX4_tree_151 F A R G B Tr f) oc x0 x1 x2 x3 x4 x5 b5) (Zt ρ c x0) := by
      unfold sX4_tree_216
      obtain ⟨en, een, qen⟩ := thR Tc r0 (i := 3) (k2 := 41) rfl (by decide)
      refine s_ref een ?_
      obtain ⟨rf2, erf2, qrf2⟩ := thR Tc r0 (i := 0) (k2 := 6) rfl (by decide)
      refine s_ref erf2 ?_
      refine s_endP hF hp (by omega) Tc r0 qrf2 lwc rc' Qc (fun o1 T1 j1 f1 lw1 rc1 Q1 => ?_)
      have P1 := pq_sz niceC_0 rfl rfl (by omega) Tc r0 f1 (is_f (by omega)) Pdc
      refine s_gd (by rw [thN T1 qen (k := 41) (n := 9) rfl (by decide)]; exact rg_inB ies (by decide)) ?_
      refine s_hq (th_wI T1 qen (k := 41) (lo := 0) (hi := 6) rfl j1 (by decide) (by decide) (szE hp rfl _)) (fun g3 T3 e3 => ?_)
      have f3 := fr_e (c := c) qen e3
      exact b233 T3 (lw_sz (niceC_e (by decide)) T1 f3 lw1) (rc_sz rfl rfl (fun _ => rfl) T1 r0 f3 rc1) (pq_sz (niceC_e (by decide)) rfl rfl (by omega) T1 r0 f3 rfl P1) (pq_sz (niceC_e (by decide)) rfl rfl (by omega) T1 r0 f3 rfl Q1) (by rw [x5I r0 f3 rfl, x5I r0 f1 rfl]; exact ovc)
    exact s_br (fun _ => b216) (fun _ => s_br (fun _ => b216) (fun _ => b233 Tc lwc rc' Pdc Qc ovc))
theorem five_tree (hF : 700000 ≤ F) (I : Five F x0 N A R G B Tr) {ρ : Nat → Nat} {c : Cm} {h : Hp} {b d : Nat} {x1 : Int32} (hp : ∀ k w i, SZ tE (tW d) k w i = true → cPm c k w i = true) (T : TH ρ c h) (r0 : ρ x0 = 5) (ed : x1.toNatClampNeg = d) (i1 : Rg 0 8 x1) (lw : LwR ρ c h) (ov : (hI h x0 9).toInt = 0) (rc : RcP x0 h) (P : PQ ρ c x0 d b h) (hN : 3 * (8 - d) + 1 ≤ N + 1) : Sat (oX4_tree F A R G B Tr h x0 x1) (Zt ρ c x0) := by
  unfold oX4_tree sX4_tree_18
  refine s_br (fun _ => s_some ⟨T, rc⟩) (fun _ => ?_)
  refine s_br (fun _ => s_some ⟨T, rc⟩) (fun _ => ?_)
  refine s_br (fun n8 => ?_) (fun _ => s_some ⟨T, rc⟩)
  have l8 : x1.toInt < 8 := lt_i n8
  have i7 : Rg 0 7 x1 := ⟨i1.1, by omega⟩
  have cl7 := rg_clamp (n := 7) i7 (by decide)
  refine s_lst T r0 i7 (fun ls qs => ?_)
  obtain ⟨rf, erf, qrf⟩ := thR T r0 (i := 0) (k2 := 6) rfl (by decide)
  refine s_ref erf ?_
  have Pd := P
  rw [← ed] at Pd
  refine s_path T r0 i1 Pd ?_
  refine s_coll (j := 0) hF hp (by omega) T r0 qrf qs lw rc P (fun o1 T1 j1 f1 lw1 rc1 P1 => ?_)
  have ov1 : (hI o1.2 x0 9).toInt = 0 := by rw [x5I r0 f1 rfl]; exact ov
  have b145 : ∀ {g : Hp}, TH ρ c g → LwR ρ c g → RcP x0 g → PQ ρ c x0 d b g → Sat (sX4_tree_145 F A R G B Tr g x0 x1 ls o1.1) (Zt ρ c x0) := fun {g} Tg lg rg Pg => by
    unfold sX4_tree_145
    exact tree_loop hF I hp r0 ed i7 qs j1 (by omega) F Tg lg rg Pg (by decide) (by show (4096 - (0 : Int)).toNat < F; omega)
  have b122 : ∀ {g : Hp} {t : Int32}, TH ρ c g → LwR ρ c g → PQ ρ c x0 d b g → (t = 0 ∨ t = 1) → (t = 0 → ∀ r, hR g x0 4 = some r → ∀ j, j < 8 → (hI g r j).toInt ≤ 100000) → Sat (sX4_tree_122 F A R G B Tr g x0 x1 ls o1.1 t x0) (Zt ρ c x0) := fun {g t} Tg lg Pg ht hr => by
    unfold sX4_tree_122
    refine s_gd (by rcases ht with q | q <;> rw [q] <;> decide) ?_
    refine s_hq (th_wI Tg r0 (k := 5) (i := 9) (lo := 0) (hi := 1) rfl (by rcases ht with q | q <;> rw [q] <;> exact rg_b rfl) (by decide) (by decide) (szE hp rfl _)) (fun g2 T2 e2 => ?_)
    have f2 := fr_9 (c := c) r0 e2
    have lw2 := lw_sz niceC_9 Tg f2 lg
    have P2 := pq_sz niceC_9 rfl rfl (by omega) Tg r0 f2 rfl Pg
    have rc2 : RcP x0 g2 := fun z r er j hj => by
      rw [he_s e2] at z
      have t0 : t = 0 := by
        rcases ht with q | q
        · exact q
        · rw [q] at z; exact absurd z (by decide)
      have er' : hR g x0 4 = some r := by rw [e2] at er; exact er
      obtain ⟨q1, f1', g1⟩ := thR Tg r0 (i := 4) (k2 := 42) rfl (by decide)
      have qr : ρ r = 42 := by rw [r_eq f1' er']; exact g1
      rw [e2, r_I, if_neg (ne_r qr r0 (by decide))]
      exact hr t0 r er' j hj
    exact s_br (fun _ => s_br (fun _ => s_some ⟨T2, rc2⟩) (fun _ => b145 T2 lw2 rc2 P2)) (fun _ => b145 T2 lw2 rc2 P2)
  have b87 : ∀ {g : Hp} {t : Int32} {en : Nat}, TH ρ c g → LwR ρ c g → RcP x0 g → PQ ρ c x0 d b g → (hI g x0 9).toInt = 0 → Rg 0 6 t → ρ en = 41 → Sat (sX4_tree_87 F A R G B Tr g x0 x1 ls o1.1 t x1 en) (Zt ρ c x0) := fun {g t en} Tg lg rg Pg og it qen => by
    unfold sX4_tree_87
    refine s_gd (by rw [thN Tg qen (k := 41) (n := 9) rfl (by decide)]; exact rg_inB i1 (by decide)) ?_
    refine s_hq (th_wI Tg qen (k := 41) (lo := 0) (hi := 6) rfl it (by decide) (by decide) (szE hp rfl _)) (fun g2 T2 e2 => ?_)
    have f2 := fr_e (c := c) qen e2
    have lw2 := lw_sz (niceC_e (by decide)) Tg f2 lg
    have rc2 := rc_sz rfl rfl (fun _ => rfl) Tg r0 f2 rg
    have P2 := pq_sz (niceC_e (by decide)) rfl rfl (by omega) Tg r0 f2 rfl Pg
    have ov2 : (hI g2 x0 9).toInt = 0 := by rw [x5I r0 f2 rfl]; exact og
    obtain ⟨rw', erw, qrw⟩ := thR T2 r0 (i := 4) (k2 := 42) rfl (by decide)
    refine s_ref erw ?_
    refine s_gd (by rw [thN T2 qrw (k := 42) (n := 8) rfl (by decide)]; exact rg_inB i7 (by decide)) ?_
    refine s_gd (by rw [thN T2 qrw (k := 42) (n := 8) rfl (by decide)]; exact rg_inB i7 (by decide)) ?_
    have old : Rg 0 100000 (hI g2 rw' x1.toNatClampNeg) := ⟨(thI T2 qrw (k := 42) (lo := 0) (hi := 200000) rfl).1, rc2 ov2 rw' erw _ (by omega)⟩
    refine s_hq (th_wI T2 qrw (k := 42) (lo := 0) (hi := 200000) rfl (rg_add old j1 (by decide)) (by decide) (by decide) (szE hp rfl _)) (fun g6 T6 e6 => ?_)
    have f6 := fr_e (c := c) qrw e6
    have lw6 := lw_sz (niceC_e (by decide)) T2 f6 lw2
    have P6 := pq_sz (niceC_e (by decide)) rfl rfl (by omega) T2 r0 f6 rfl P2
    have one : Sat (sX4_tree_117 F A R G B Tr g6 x0 x1 ls o1.1 x0) (Zt ρ c x0) := by
      unfold sX4_tree_117
      exact b122 T6 lw6 P6 (Or.inr rfl) (fun z => absurd z (by decide))
    refine s_br (fun _ => ?_) (fun _ => one)
    obtain ⟨rw6, erw6, qrw6⟩ := thR T6 r0 (i := 4) (k2 := 42) rfl (by decide)
    refine s_ref erw6 ?_
    refine s_gd (by rw [thN T6 qrw6 (k := 42) (n := 8) rfl (by decide)]; exact rg_inB i7 (by decide)) ?_
    have erw2 : hR g2 x0 4 = some rw6 := by rw [e6] at erw6; exact erw6
    have : rw6 = rw' := r_eq erw erw2
    subst this
    refine s_br (fun le => b122 T6 lw6 P6 (Or.inl rfl) (fun _ r er j hj => ?_)) (fun _ => one)
    have : r = rw6 := r_eq erw6 er
    subst this
    by_cases z : j = x1.toNatClampNeg
    · rw [z]; exact le_i le
    · rw [e6, r_I, if_neg (fun y => z y.2)]
      exact rc2 ov2 r erw j hj
  have b58 : ∀ {t : Int32}, Rg 0 4096 t → Sat (sX4_tree_58 F A R G B Tr o1.2 x0 x1 ls o1.1 t x0) (Zt ρ c x0) := fun {t} it => by
    unfold sX4_tree_58
    refine s_hq (th_wI T1 r0 (k := 5) (i := 8) (lo := 0) (hi := 4096) rfl it (by decide) (by decide) (szE hp rfl _)) (fun g2 T2 e2 => ?_)
    have f2 := fr_8 (c := c) r0 e2
    have lw2 := lw_sz niceC_8 T1 f2 lw1
    have rc2 := rc_sz rfl rfl (fun _ => rfl) T1 r0 f2 rc1
    have P2 := pq_sz niceC_8 rfl rfl (by omega) T1 r0 f2 rfl P1
    have ov2 : (hI g2 x0 9).toInt = 0 := by rw [x5I r0 f2 rfl]; exact ov1
    obtain ⟨en, een, qen⟩ := thR T2 r0 (i := 3) (k2 := 41) rfl (by decide)
    refine s_ref een ?_
    refine s_br (fun _ => ?_) (fun _ => b87 T2 lw2 rc2 P2 ov2 (rg_b rfl) qen)
    obtain ⟨rf2, erf2, qrf2⟩ := thR T2 r0 (i := 0) (k2 := 6) rfl (by decide)
    refine s_ref erf2 ?_
    have Pd2 := P2
    rw [← ed] at Pd2
    refine s_path T2 r0 i1 Pd2 ?_
    exact s_endP hF hp (by omega) T2 r0 qrf2 lw2 rc2 P2 (fun o3 T3 j3 f3 lw3 rc3 P3 => b87 T3 lw3 rc3 P3 (by rw [x5I r0 f3 rfl]; exact ov2) j3 qen)
  exact s_br (fun _ => b58 j1) (fun _ => b58 (thI T1 r0 (k := 5) (i := 8) (lo := 0) (hi := 4096) rfl))
theorem five_all (hF : 700000 ≤ F) : ∀ N, Five F x0 N (qX4_attempt F N).1 (qX4_attempt F N).2.1 (qX4_attempt F N).2.2.1 (qX4_attempt F N).2.2.2.1 (qX4_attempt F N).2.2.2.2 := by
  intro N
  induction N with
  | zero => exact ⟨fun _ _ _ _ _ _ _ _ _ _ n => by omega, fun _ _ _ _ _ _ _ _ _ n => by omega, fun _ _ _ _ _ _ _ _ _ n => by omega, fun _ _ _ _ _ _ _ _ _ _ n => by omega, fun _ _ _ _ _ _ _ _ _ n => by omega⟩
  | succ N ih => exact ⟨fun hp T r0 ed i1 lw ov rc P i2 n => five_attempt hF ih hp T r0 ed i1 lw ov rc P i2 n, fun hp T r0 ed i1 lw ov rc P n => five_reply hF ih hp T r0 ed i1 lw ov rc P n, fun hp T r0 ed i1 lw ov rc P n => five_goOn hF ih hp T r0 ed i1 lw ov rc P n, fun hp T r0 ed i1 lw ov rc P i2 n => five_branch hF ih hp T r0 ed i1 lw ov rc P i2 n, fun hp T r0 ed i1 lw ov rc P n => five_tree hF ih hp T r0 ed i1 lw ov rc P n⟩
end
section
variable {ρ : Nat → Nat} {c : Cm} {h o : Hp} {x0 b d i F : Nat} {x1 x2 x3 x4 : Int32}
theorem zX4_tree (hF : 700000 ≤ F) (hp : ∀ k w i, SZ tE (tW 0) k w i = true → cPm c k w i = true) (T : TH ρ c h) (r0 : ρ x0 = 5) (lw : LwR ρ c h) (ov : (hI h x0 9).toInt = 0) (rc : RcP x0 h) (P : PQ ρ c x0 0 b h) : Sat (sX4_tree F h x0 (0 : Int32)) (Zt ρ c x0) := (five_all hF 40).2.2.2.2 hp T r0 rfl (rg_b rfl) lw ov rc P (by decide)
end
