abbrev Zt (ρ : Nat → Nat) (c : Cm) (x0 : Nat) : Int32 × Hp → Prop := fun o => TH ρ c o.2 ∧ RcP x0 o.2
def e8 : Nat → Nat → Bool := fun k i => k == 5 && i == 8
theorem niceC_8 : niceC e8 := by
  refine ⟨fun k i hk => ?_, rfl, rfl, rfl, rfl, rfl, rfl, fun _ => rfl⟩
  unfold e8
  rw [bq_ne (show k ≠ 5 by omega)]; rfl
def e9 : Nat → Nat → Bool := fun k i => k == 5 && i == 9
theorem niceC_9 : niceC e9 := by
  refine ⟨fun k i hk => ?_, rfl, rfl, rfl, rfl, rfl, rfl, fun _ => rfl⟩
  unfold e9
  rw [bq_ne (show k ≠ 5 by omega)]; rfl
section
variable {ρ : Nat → Nat} {c : Cm} {h o : Hp} {E : Nat → Nat → Bool} {wp : Nat → Bool} {x0 b d w i F : Nat} {x1 x2 x3 : Int32}
theorem s_zt {β : Type} {Q : β → Prop} {S : Nat → Nat → Nat → Bool} {m : Option (Int32 × Hp)} {k : Int32 × Hp → Option β} (T : TH ρ c h) (hs : ∀ k w i, S k w i = true → cPm c k w i = true) (Z : Sat m (Zt ρ (cat c S h) x0)) (H : ∀ o, TH ρ c o.2 → Fr ρ (cat c S h) h o.2 → RcP x0 o.2 → Sat (k o) Q) : Sat (cl m k) Q := s_cl (s_imp Z fun o ho => H o (th_out T hs ho.1) (fr_u T ho.1.2.2) ho.2)
theorem fr_8 {v : Int32} (r0 : ρ x0 = 5) (e : o = wI h x0 8 v) : Fr ρ (cat c (SZ e8 no) h) h o := by
  rw [e]
  exact fu_wI ⟨fun _ _ _ _ => ⟨rfl, rfl, rfl⟩, fun _ _ => rfl⟩ r0 (by show SZ e8 no 5 (cw c x0) 8 = true; rfl)
theorem fr_9 {v : Int32} (r0 : ρ x0 = 5) (e : o = wI h x0 9 v) : Fr ρ (cat c (SZ e9 no) h) h o := by
  rw [e]
  exact fu_wI ⟨fun _ _ _ _ => ⟨rfl, rfl, rfl⟩, fun _ _ => rfl⟩ r0 (by show SZ e9 no 5 (cw c x0) 9 = true; rfl)
theorem hs1 (hp : ∀ k w i, SZ tE (tW d) k w i = true → cPm c k w i = true) : ∀ k w i, SZ noE (is 1503) k w i = true → cPm c k w i = true := fun k w i m => hp k w i (sz_sub (fun _ _ z => noE_f z) (fun w z => by rw [is_e z]; rfl) m)
/-- a position of the path: moves are listed -/
theorem s_coll {β : Type} {Q : β → Prop} {k : Int32 × Hp → Option β} {rf ls e j : Nat} (hF : 700000 ≤ F) (hp : ∀ k w i, SZ tE (tW e) k w i = true → cPm c k w i = true) (hd : d < 9) (T : TH ρ c h) (r0 : ρ x0 = 5) (qf : ρ rf = 6) (qs : ρ ls = 47) (lw : LwR ρ c h) (rc : RcP x0 h) (B : PQ ρ c x0 d b h) (H : ∀ o, TH ρ c o.2 → Rg 0 4096 o.1 → Fr ρ (cat c (SZ noE (is 1503)) h) h o.2 → LwR ρ c o.2 → RcP x0 o.2 → PQ ρ c x0 d b o.2 → Sat (k o) Q) : Sat (cl (sX5_collect F h rf b ls (4096 : Int32)) k) Q := by
  obtain ⟨k1, w1⟩ := pq_r T r0 hd B
  have P : RyP ρ c b h := by obtain ⟨_, _, _, q⟩ := B; exact q
  refine s_cIf T (hs1 hp) (zX5_collect hF (pmA_s (szA (sx_c _)) rfl) (pmO_s (szP (sx_c _) is_s) rfl) w1 rfl (by omega) (th_in _ T) qf k1 qs (rg_b rfl) lw P) (fun o T1 i1 f1 => ?_)
  exact H o T1 i1 f1 (lw_sz niceC_0 T f1 lw) (rc_sz rfl rfl (fun _ => rfl) T r0 f1 rc) (pq_sz niceC_0 rfl rfl hd T r0 f1 (is_f (by omega)) B)
theorem s_endP {β : Type} {Q : β → Prop} {k : Int32 × Hp → Option β} {rf e : Nat} (hF : 700000 ≤ F) (hp : ∀ k w i, SZ tE (tW e) k w i = true → cPm c k w i = true) (hd : d < 9) (T : TH ρ c h) (r0 : ρ x0 = 5) (qf : ρ rf = 6) (lw : LwR ρ c h) (rc : RcP x0 h) (B : PQ ρ c x0 d b h) (H : ∀ o, TH ρ c o.2 → Rg 0 6 o.1 → Fr ρ (cat c (SZ noE (is 1503)) h) h o.2 → LwR ρ c o.2 → RcP x0 o.2 → PQ ρ c x0 d b o.2 → Sat (k o) Q) : Sat (cl (sX5_endOf F h rf b) k) Q := by
  obtain ⟨k1, w1⟩ := pq_r T r0 hd B
  have P : RyP ρ c b h := by obtain ⟨_, _, _, q⟩ := B; exact q
  refine s_cIf T (hs1 hp) (zX5_endOf hF (pmA_s (szA (sx_c _)) rfl) (pmO_s (szP (sx_c _) is_s) rfl) w1 (by omega) (th_in _ T) qf k1 lw P) (fun o T1 i1 f1 => ?_)
  exact H o T1 i1 f1 (lw_sz niceC_0 T f1 lw) (rc_sz rfl rfl (fun _ => rfl) T r0 f1 rc) (pq_sz niceC_0 rfl rfl hd T r0 f1 (is_f (by omega)) B)
end
/-- the five of the recursion, at a depth of it -/
def Five (F x0 N : Nat) (A : Hp → Nat → Int32 → Int32 → Option (Int32 × Hp)) (R G : Hp → Nat → Int32 → Option (Int32 × Hp)) (B : Hp → Nat → Int32 → Int32 → Option (Int32 × Hp)) (Tr : Hp → Nat → Int32 → Option (Int32 × Hp)) : Prop :=
  (∀ {ρ : Nat → Nat} {c : Cm} {h : Hp} {b d : Nat} {x1 x2 : Int32}, (∀ k w i, SZ tE (tW d) k w i = true → cPm c k w i = true) → TH ρ c h → ρ x0 = 5 → x1.toNatClampNeg = d → Rg 0 7 x1 → LwR ρ c h → (hI h x0 9).toInt = 0 → RcP x0 h → PQ ρ c x0 (d + 1) b h → Rg 0 4095 x2 → 3 * (7 - d) + 2 ≤ N → Sat (A h x0 x1 x2) (Zt ρ c x0)) ∧
  (∀ {ρ : Nat → Nat} {c : Cm} {h : Hp} {b d : Nat} {x1 : Int32}, (∀ k w i, SZ tE (tW d) k w i = true → cPm c k w i = true) → TH ρ c h → ρ x0 = 5 → x1.toNatClampNeg = d → Rg 0 7 x1 → LwR ρ c h → (hI h x0 9).toInt = 0 → RcP x0 h → PQ ρ c x0 (d + 1) b h → 3 * (7 - d) + 2 ≤ N → Sat (R h x0 x1) (Zt ρ c x0)) ∧
  (∀ {ρ : Nat → Nat} {c : Cm} {h : Hp} {b d : Nat} {x1 : Int32}, (∀ k w i, SZ tE (tW d) k w i = true → cPm c k w i = true) → TH ρ c h → ρ x0 = 5 → x1.toNatClampNeg = d → Rg 0 7 x1 → LwR ρ c h → (hI h x0 9).toInt = 0 → RcP x0 h → PQ ρ c x0 (d + 1) b h → 3 * (7 - d) + 2 ≤ N → Sat (G h x0 x1) (Zt ρ c x0)) ∧
  (∀ {ρ : Nat → Nat} {c : Cm} {h : Hp} {b d : Nat} {x1 x2 : Int32}, (∀ k w i, SZ tE (tW d) k w i = true → cPm c k w i = true) → TH ρ c h → ρ x0 = 5 → x1.toNatClampNeg = d → Rg 0 7 x1 → LwR ρ c h → (hI h x0 9).toInt = 0 → RcP x0 h → PQ ρ c x0 (d + 1) b h → Rg 0 4095 x2 → 3 * (7 - d) + 3 ≤ N → Sat (B h x0 x1 x2) (Zt ρ c x0)) ∧
  (∀ {ρ : Nat → Nat} {c : Cm} {h : Hp} {b d : Nat} {x1 : Int32}, (∀ k w i, SZ tE (tW d) k w i = true → cPm c k w i = true) → TH ρ c h → ρ x0 = 5 → x1.toNatClampNeg = d → Rg 0 8 x1 → LwR ρ c h → (hI h x0 9).toInt = 0 → RcP x0 h → PQ ρ c x0 d b h → 3 * (8 - d) + 1 ≤ N → Sat (Tr h x0 x1) (Zt ρ c x0))
section
variable {x0 F N : Nat} {A : Hp → Nat → Int32 → Int32 → Option (Int32 × Hp)} {R G : Hp → Nat → Int32 → Option (Int32 × Hp)} {B : Hp → Nat → Int32 → Int32 → Option (Int32 × Hp)} {Tr : Hp → Nat → Int32 → Option (Int32 × Hp)} {ρ : Nat → Nat} {c : Cm} {h : Hp} {b d : Nat} {x1 x2 : Int32}
/-- the tree of the next depth -/
theorem s_next {β : Type} {Q : β → Prop} {k : Int32 × Hp → Option β} (I : Five F x0 N A R G B Tr) (hp : ∀ k w i, SZ tE (tW d) k w i = true → cPm c k w i = true) (T : TH ρ c h) (r0 : ρ x0 = 5) (ed : x1.toNatClampNeg = d) (i1 : Rg 0 7 x1) (lw : LwR ρ c h) (ov : (hI h x0 9).toInt = 0) (rc : RcP x0 h) (P : PQ ρ c x0 (d + 1) b h) (hN : 3 * (7 - d) + 1 ≤ N) (H : ∀ o, TH ρ c o.2 → LwR ρ c o.2 → RcP x0 o.2 → PQ ρ c x0 (d + 1) b o.2 → Sat (k o) Q) : Sat (cl (Tr h x0 (x1 + (1 : Int32))) k) Q := by
  obtain ⟨s1, s2⟩ := nc_s i1 (by decide)
  rw [ed] at s1
  have ia := i1.1
  have ib := i1.2
  have cl7 := rg_clamp (n := 7) i1 (by decide)
  refine s_zt (S := SZ tE (tW (d + 1))) T (fun k w i m => hp k w i (sz_sub (fun _ _ z => z) (tW_s (Nat.le_succ d)) m)) (I.2.2.2.2 (c := cat c (SZ tE (tW (d + 1))) h) (sx_c _) (th_in _ T) r0 s1 ⟨by omega, by omega⟩ lw ov rc P (by omega)) (fun o T1 f1 rc1 => ?_)
  exact H o T1 (lw_sz niceC_t T f1 lw) rc1 (pq_sz niceC_t rfl rfl (by omega) T r0 f1 (tW_f (Nat.le_refl _)) P)
theorem zgoal {k : Int32 × Hp → Option (Int32 × Hp)} (hF : 700000 ≤ F) (T : TH ρ c h) (r0 : ρ x0 = 5) (i1 : Rg 0 7 x1) (H : ∀ v, Sat (k (v, h)) (Zt ρ c x0)) : Sat (cl (sX4_isGoal h x0 (x1 + (1 : Int32))) k) (Zt ρ c x0) := by
  refine s_cI0 (zX4_isGoal hF T r0 (rg_add i1 (rg_b rfl : Rg 1 1 (1 : Int32)) (by decide))) (fun o e i => ?_)
  obtain ⟨v, g⟩ := o
  have : g = h := e
  subst this
  exact H v
theorem five_attempt (hF : 700000 ≤ F) (I : Five F x0 N A R G B Tr) (hp : ∀ k w i, SZ tE (tW d) k w i = true → cPm c k w i = true) (T : TH ρ c h) (r0 : ρ x0 = 5) (ed : x1.toNatClampNeg = d) (i1 : Rg 0 7 x1) (lw : LwR ρ c h) (ov : (hI h x0 9).toInt = 0) (rc : RcP x0 h) (P : PQ ρ c x0 (d + 1) b h) (i2 : Rg 0 4095 x2) (hN : 3 * (7 - d) + 2 ≤ N + 1) : Sat (oX4_attempt F A R G B Tr h x0 x1 x2) (Zt ρ c x0) := by
  have st : ∀ {g : Hp} {y : Int32}, TH ρ c g → RcP x0 g → Sat (some (y, g)) (Zt ρ c x0) := fun Tg rg => s_some ⟨Tg, rg⟩
  have at74 : ∀ {g : Hp} {y z : Int32}, TH ρ c g → RcP x0 g → Sat (sX4_attempt_74 F A R G B Tr g x0 x1 y z) (Zt ρ c x0) := fun {g y z} Tg rg => by
    unfold sX4_attempt_74 sX4_attempt_98 sX4_attempt_123 sX4_attempt_124 sX4_attempt_136
    have s0 : ∀ {g : Hp} (t : Int32), TH ρ c g → RcP x0 g → Sat (br (t = 0) (some ((0 : Int32), g)) (some ((1 : Int32), g))) (Zt ρ c x0) := fun t Tg rg => s_br (fun _ => st Tg rg) (fun _ => st Tg rg)
    obtain ⟨r, er, qr⟩ := thR Tg r0 (i := 3) (k2 := 41) rfl (by decide)
    refine s_ref er ?_
    refine s_gd (by rw [thN Tg qr (k := 41) (n := 9) rfl (by decide)]; exact rg_inB (rg_add i1 (rg_b rfl : Rg 1 1 (1 : Int32)) (by decide) : Rg 1 8 _) (by decide)) ?_
    refine s_br (fun _ => s_br (fun _ => s0 _ Tg rg) (fun _ => s_br (fun _ => s0 _ Tg rg) (fun _ => s0 _ Tg rg))) (fun _ => ?_)
    refine s_br (fun _ => ?_) (fun _ => s0 _ Tg rg)
    exact zgoal hF Tg r0 i1 (fun v => s_br (fun _ => s0 _ Tg rg) (fun _ => s0 _ Tg rg))
  have at31 : ∀ {g : Hp} {y z : Int32}, TH ρ c g → LwR ρ c g → RcP x0 g → PQ ρ c x0 (d + 1) b g → Sat (sX4_attempt_31 F A R G B Tr g x0 x1 x2 y z) (Zt ρ c x0) := fun {g y z} Tg lg rg Pg => by
    unfold sX4_attempt_31
    refine s_br (fun z0 => ?_) (fun _ => at74 Tg rg)
    have d0 : d = 0 := by rw [← ed, z0]; rfl
    rw [d0] at Pg
    obtain ⟨r, er, qr⟩ := thR Tg r0 (i := 11) (k2 := 44) rfl (by decide)
    refine s_ref er ?_
    have wr : ∀ {g2 : Hp} {v : Int32}, TH ρ c g2 → RcP x0 g2 → Sat (sX4_attempt_73 F A R G B Tr g2 x0 x1 y z v x2 r) (Zt ρ c x0) := fun {g2 v} T2 rc2 => by
      unfold sX4_attempt_73
      refine s_gd (by rw [thN T2 qr (k := 44) (n := 4096) rfl (by decide)]; exact rg_inB i2 (by decide)) ?_
      refine s_hq (th_wI T2 qr (k := 44) (lo := -2147483648) (hi := 2147483647) rfl (rg_top _) (by decide) (by decide) (szE hp rfl _)) (fun g3 T3 e3 => ?_)
      exact at74 T3 (rc_sz rfl rfl (fun _ => rfl) T2 r0 (fr_e qr e3) rc2)
    refine s_br (fun _ => ?_) (fun _ => wr Tg rg)
    obtain ⟨rf, erf, qrf⟩ := thR Tg r0 (i := 0) (k2 := 6) rfl (by decide)
    refine s_ref erf ?_
    refine s_path Tg r0 (x1 := (1 : Int32)) (rg_b rfl) Pg ?_
    refine s_lst Tg r0 (x1 := (1 : Int32)) (rg_b rfl) (fun ls qs => ?_)
    exact s_coll (j := 0) hF hp (by decide) Tg r0 qrf qs lg rg Pg (fun o T1 j1 f1 lw1 rc1 P1 => wr T1 rc1)
  unfold oX4_attempt sX4_attempt_15
  refine s_br (fun _ => ?_) (fun _ => ?_)
  · exact s_br (fun _ => at31 T lw rc P) (fun z => absurd rfl z)
  · refine s_br (fun z => absurd z (by decide)) (fun _ => ?_)
    exact s_next I hp T r0 ed i1 lw ov rc P (by omega) (fun o T1 lw1 rc1 P1 => at31 T1 lw1 rc1 P1)
theorem five_reply (hF : 700000 ≤ F) (I : Five F x0 N A R G B Tr) (hp : ∀ k w i, SZ tE (tW d) k w i = true → cPm c k w i = true) (T : TH ρ c h) (r0 : ρ x0 = 5) (ed : x1.toNatClampNeg = d) (i1 : Rg 0 7 x1) (lw : LwR ρ c h) (ov : (hI h x0 9).toInt = 0) (rc : RcP x0 h) (P : PQ ρ c x0 (d + 1) b h) (hN : 3 * (7 - d) + 2 ≤ N + 1) : Sat (oX4_reply F A R G B Tr h x0 x1) (Zt ρ c x0) := by
  have st : ∀ {g : Hp} {y : Int32}, TH ρ c g → RcP x0 g → Sat (some (y, g)) (Zt ρ c x0) := fun Tg rg => s_some ⟨Tg, rg⟩
  have r25 : ∀ {g : Hp} {t : Int32}, TH ρ c g → RcP x0 g → Sat (sX4_reply_25 F A R G B Tr g x0 x1 t) (Zt ρ c x0) := fun {g t} Tg rg => by
    unfold sX4_reply_25 sX4_reply_48 sX4_reply_52 sX4_reply_53
    refine s_br (fun _ => ?_) (fun _ => st Tg rg)
    refine s_br (fun _ => ?_) (fun _ => st Tg rg)
    exact zgoal hF Tg r0 i1 (fun v => s_br (fun _ => st Tg rg) (fun _ => st Tg rg))
  unfold oX4_reply sX4_reply_24
  refine s_br (fun _ => r25 T rc) (fun _ => ?_)
  exact s_next I hp T r0 ed i1 lw ov rc P (by omega) (fun o T1 lw1 rc1 P1 => s_br (fun _ => r25 T1 rc1) (fun _ => r25 T1 rc1))
theorem five_goOn (hF : 700000 ≤ F) (I : Five F x0 N A R G B Tr) (hp : ∀ k w i, SZ tE (tW d) k w i = true → cPm c k w i = true) (T : TH ρ c h) (r0 : ρ x0 = 5) (ed : x1.toNatClampNeg = d) (i1 : Rg 0 7 x1) (lw : LwR ρ c h) (ov : (hI h x0 9).toInt = 0) (rc : RcP x0 h) (P : PQ ρ c x0 (d + 1) b h) (hN : 3 * (7 - d) + 2 ≤ N + 1) : Sat (oX4_goOn F A R G B Tr h x0 x1) (Zt ρ c x0) := by
  obtain ⟨s1, s2⟩ := nc_s i1 (by decide)
  rw [ed] at s1
  have cl7 := rg_clamp (n := 7) i1 (by decide)
  have ies : Rg 1 8 (x1 + (1 : Int32)) := rg_add i1 (rg_b rfl : Rg 1 1 (1 : Int32)) (by decide)
  unfold oX4_goOn sX4_goOn_35
  have Pb := P
  rw [← s1] at Pb
  refine s_path T r0 (rg_m ies (by decide)) Pb ?_
  obtain ⟨r, er, qr⟩ := thR T r0 (i := 3) (k2 := 41) rfl (by decide)
  refine s_ref er ?_
  refine s_gd (by rw [thN T qr (k := 41) (n := 9) rfl (by decide)]; exact rg_inB ies (by decide)) ?_
  refine s_br (fun _ => ?_) (fun _ => s_some ⟨T, rc⟩)
  obtain ⟨rf, erf, qrf⟩ := thR T r0 (i := 0) (k2 := 6) rfl (by decide)
  refine s_ref erf ?_
  obtain ⟨k1, w1⟩ := pq_r T r0 (by omega) P
  refine s_cI0 (zX5_isRoyalHit hF T qrf k1 (thI T k1 (k := 4) (i := 5) (lo := 0) (hi := 1) rfl)) (fun o2 e2 i2 => ?_)
  rw [e2]
  refine s_br (fun _ => ?_) (fun _ => s_some ⟨T, rc⟩)
  have pm : pmO c (3100 + (d + 1)) ppL := szP hp (tW_t (Nat.lt_succ_self d) (by omega))
  refine s_hq (th_wI T k1 (k := 4) (i := 5) (lo := 0) (hi := 1) rfl (rg_sub (rg_b rfl : Rg 1 1 (1 : Int32)) (thI T k1 (k := 4) (i := 5) (lo := 0) (hi := 1) rfl) (by decide)) (by decide) (by decide) (by rw [w1]; exact pm 4 5 rfl)) (fun g3 T3 e3 => ?_)
  have f3 : Fr ρ (cat c (fS [(4, 5)] []) h) h g3 := fr1I (c := c) (A := [(4, 5)]) (k := 4) (i := 5) k1 rfl e3
  have keep : ∀ {S : Nat → Nat → Nat → Bool} {g1 g2 : Hp}, TH ρ c g1 → Fr ρ (cat c S g1) g1 g2 → (∀ w i, S 5 w i = false) → (∀ w i, S 39 w i = false) → (∀ w i, S 36 w i = false) → (∀ w, S 4 w 2 = false) → (∀ w i, S 2 w i = false) → (∀ w i, S 42 w i = false) → LwR ρ c g1 → RcP x0 g1 → PQ ρ c x0 (d + 1) b g1 → LwR ρ c g2 ∧ RcP x0 g2 ∧ PQ ρ c x0 (d + 1) b g2 ∧ hI g2 x0 9 = hI g1 x0 9 := fun {S g1 g2} T1 f s5 s39 s36 s4 s2' s42 l1 rc1 P1 => by
    refine ⟨lw_fr T1 f (fun _ => s2' _ _) (fun _ => s2' _ _) (fun _ => s2' _ _) l1, fun z r er j hj => ?_, ?_, (fr_RI f r0 (by decide) (fun _ => s5 _ _)).1⟩
    · rw [(fr_RI f r0 (by decide) (fun _ => s5 _ _)).1] at z
      rw [(fr_RI f r0 (by decide) (fun _ => s5 _ _)).2.2] at er
      obtain ⟨q1, f1, g1'⟩ := thR T1 r0 (i := 4) (k2 := 42) rfl (by decide)
      rw [(fr_RI f (show ρ r = 42 by rw [r_eq f1 er]; exact g1') (by decide) (fun _ => s42 _ _)).1]
      exact rc1 z r er j hj
    · obtain ⟨kk, _⟩ := pq_r T1 r0 (by omega) P1
      obtain ⟨r, a1, a2, a3⟩ := P1
      have h1 := path_r T1 r0 a1
      exact ⟨r, by rw [(fr_RI f r0 (by decide) (fun _ => s5 _ _)).2.2]; exact a1, by rw [(fr_RI f h1 (by decide) (fun _ => s39 _ _)).2.2]; exact a2, ry_fr T1 kk f (s4 _) (fun i => s36 _ _) (fun _ => s2' _ _) a3⟩
  obtain ⟨lw3, rc3, P3, ov3⟩ := keep T f3 (fun _ _ => rfl) (fun _ _ => rfl) (fun _ _ => rfl) (fun _ => rfl) (fun _ _ => rfl) (fun _ _ => rfl) lw rc P
  have hs4 : ∀ k w i, fS [(4, 9), (4, 10)] [] k w i = true → True := fun _ _ _ _ => trivial
  refine s_cVf (S := fS [] [(3100 + (d + 1), [(4, 9), (4, 10)])]) T3 (fs_sub pmA_n (fs_c (pmO_s pm rfl) fs_n)) (zX3_clearPass hF (fs_o (.head _)) w1 (th_in _ T3) k1) (fun g4 T4 f4 => ?_)
  obtain ⟨lw4, rc4, P4, ov4⟩ := keep T3 f4 (fun _ _ => rfl) (fun _ _ => rfl) (fun _ _ => rfl) (fun _ => rfl) (fun _ _ => rfl) (fun _ _ => rfl) lw3 rc3 P3
  exact s_next I hp T4 r0 ed i1 lw4 (by rw [ov4, ov3]; exact ov) rc4 P4 (by omega) (fun o T1 lw1 rc1 P1 => s_some ⟨T1, rc1⟩)
theorem five_branch (hF : 700000 ≤ F) (I : Five F x0 N A R G B Tr) (hp : ∀ k w i, SZ tE (tW d) k w i = true → cPm c k w i = true) (T : TH ρ c h) (r0 : ρ x0 = 5) (ed : x1.toNatClampNeg = d) (i1 : Rg 0 7 x1) (lw : LwR ρ c h) (ov : (hI h x0 9).toInt = 0) (rc : RcP x0 h) (P : PQ ρ c x0 (d + 1) b h) (i2 : Rg 0 4095 x2) (hN : 3 * (7 - d) + 3 ≤ N + 1) : Sat (oX4_branch F A R G B Tr h x0 x1 x2) (Zt ρ c x0) := by
  unfold oX4_branch sX4_branch_56 sX4_branch_92 sX4_branch_126
  have st : ∀ {g : Hp} {y : Int32}, TH ρ c g → RcP x0 g → Sat (some (y, g)) (Zt ρ c x0) := fun Tg rg => s_some ⟨Tg, rg⟩
  have ar : Sat (br ((x1 &&& (1 : Int32)) = 0) (cl (A h x0 x1 x2) fun o_3 => some (o_3.1, o_3.2)) (cl (R h x0 x1) fun o_2 => some (o_2.1, o_2.2))) (Zt ρ c x0) := s_br (fun _ => s_cl (s_imp (I.1 hp T r0 ed i1 lw ov rc P i2 (by omega)) (fun o ho => s_some ho))) (fun _ => s_cl (s_imp (I.2.1 hp T r0 ed i1 lw ov rc P (by omega)) (fun o ho => s_some ho)))
  have gl : Sat (cl (sX4_isGoal h x0 (x1 + (1 : Int32))) fun o_10 => br (o_10.1 = 0) (some ((0 : Int32), o_10.2)) (some ((1 : Int32), o_10.2))) (Zt ρ c x0) := zgoal hF T r0 i1 (fun v => s_br (fun _ => st T rc) (fun _ => st T rc))
  have tr : Sat (cl (Tr h x0 (x1 + (1 : Int32))) fun o_12 => some (o_12.1, o_12.2)) (Zt ρ c x0) := s_next I hp T r0 ed i1 lw ov rc P (by omega) (fun o T1 lw1 rc1 P1 => s_some ⟨T1, rc1⟩)
  exact s_br (fun _ => ar) (fun _ => s_br (fun _ => ar) (fun _ => s_br (fun _ => s_br (fun _ => gl) (fun _ => tr)) (fun _ => s_br (fun _ => s_br (fun _ => gl) (fun _ => s_cl (s_imp (I.2.2.1 hp T r0 ed i1 lw ov rc P (by omega)) (fun o ho => s_some ho)))) (fun _ => tr))))
end
