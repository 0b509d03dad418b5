section
section
variable {Bq : Nat × Nat} {ρ : Nat → Nat} {c : Cm} {h o : Hp} {F x0 b l d i : Nat} {x1 x2 x3 x4 : Int32} {p wb wl : Nat → Bool}
theorem s_f16Y {β : Type} {Q : β → Prop} {j : Nat} {v : Int32} {lo hi : Int} {k : Hp → Option β} (hq : cPm c 16 (cw c x0) j = true) (hj : 64 ≤ j) (h9 : j ≠ 999) (hr : rgI 16 j = (lo, hi)) (iv : Rg lo hi v) (hrp : rP (c.2.1 50) (cw c x0) 16 j v) (T : TH ρ c h) (r0 : ρ x0 = 16) (W : DWY Bq x0 h) (B : BK x0 i b h) (H : ∀ g, TH ρ c g → g = wI h x0 j v → DWY Bq x0 g → BK x0 i b g → Sat (k g) Q) : Sat (nm (wI h x0 j v) k) Q := by
  refine s_hq (th_wI T r0 hr iv (by decide) (by decide) hq hrp) (fun g Tg eg => ?_)
  have fg := fr1I (c := c) (A := [(16, j)]) (k := 16) (i := j) r0 (by show ((16 == 16 && (j == 999 || j == j)) || false) = true; simp) eg
  exact H g Tg eg (dw_wY (a16 hj h9) T r0 fg W) (bk_w (a16 hj h9) T r0 fg B)
theorem prob_loopY (hF : 700000 ≤ F) : ∀ (f : Nat) {ρ : Nat → Nat} {c : Cm} {h : Hp} {b l : Nat} {x2 x3 x4 x6 x7 : Int32}, (∀ k w i, SD 1 k w i = true → cPm c k w i = true) → pmA c [(16, 70), (111, 999)] → TH ρ c h → ρ x0 = 16 → Rg 1 4 x4 → DWY Bq x0 h → DQ x0 0 b l h → 1 ≤ (hI h x0 68).toInt → 0 ≤ x7.toInt → (hI h x0 70).toInt ≤ x7.toInt → (3000 - x7.toInt).toNat < f → Sat (sX15_problem_197 F f h x0 x2 x3 x4 x6 x7) (MkI ρ c (-2147483648) 2147483647 (fun o => DWY Bq x0 o ∧ PbP x0 o)) := by
  intro f
  induction f with
  | zero => intros; omega
  | succ f ih =>
    intro ρ c h b l x2 x3 x4 x6 x7 hp hq T r0 i4 W D n68 a7 k7 hf
    rw [sX15_problem_197]
    have i0 : Rg 0 9 (0 : Int32) := rg_b rfl
    have zz : (0 : Int32).toInt = 0 := rfl
    refine s_list T r0 i0 (b := b) (l := l) D.1 ?_
    refine s_br (fun _ => s_some ⟨ρ, c, ex_0, T, rg_top _, W, pb_of n68⟩) (fun n1 => ?_)
    have lt7 := nle_i n1
    obtain ⟨k1, k2, k3, k4⟩ := dp_r T r0 D.1
    have h3000 := thI T k2 (k := 14) (i := 0) (lo := 0) (hi := 3000) rfl
    have ix : Rg 0 2999 x7 := ⟨a7, by have := h3000.2; omega⟩
    have b4 := i4.2
    have a4 := i4.1
    have goon : ∀ {ρ2 : Nat → Nat} {c2 : Cm} {g : Hp} {y : Int32}, Ext ρ c ρ2 c2 → TH ρ2 c2 g → DWY Bq x0 g → DQ x0 0 b l g → hI g x0 68 = hI h x0 68 → hI g x0 70 = hI h x0 70 → Sat (sX15_problem_270 F (sX15_problem_197 F f) g x0 x2 x3 x4 x6 x7 y) (MkI ρ c (-2147483648) 2147483647 (fun o => DWY Bq x0 o ∧ PbP x0 o)) := fun {ρ2 c2 g y} Y T2 W2 D2 e68 e70 => by
      have r2 := ex_r Y r0 (by decide)
      have hq2 := ex_A Y hq
      have hp2 := ex_hp Y hp
      unfold sX15_problem_270 sX15_problem_305
      refine s_q (fun u eu => ?_)
      have nxt : ∀ v : Int32, v = x7 + (1 : Int32) → v.toInt = x7.toInt + 1 := fun v ev => by rw [ev]; exact (nc_s ix (by decide)).2
      refine s_br (fun _ => ?_) (fun _ => ?_)
      · refine s_q (fun v ev => ?_)
        have ev2 := nxt v ev
        exact mI_ext Y (ih hp2 hq2 T2 r2 i4 W2 D2 (by rw [e68]; exact n68) (by omega) (by rw [e70]; omega) (by have := ix.2; omega))
      · obtain ⟨r, er, qr⟩ := thR T2 r2 (i := 69) (k2 := 111) rfl (by decide)
        refine s_ref er ?_
        have g70 := thI T2 r2 (k := 16) (i := 70) (lo := 0) (hi := 3000) rfl
        have j70 : Rg 0 2999 (hI g x0 70) := ⟨g70.1, by rw [e70]; have := ix.2; omega⟩
        refine s_gd (by rw [thN T2 qr (k := 111) (n := 3000) rfl (by decide)]; exact rg_inB j70 (by decide)) ?_
        refine s_hq (th_wI T2 qr (k := 111) (lo := 0) (hi := 2999) rfl ix (by decide) (by decide) (pm_a hq2 rfl)) (fun g5 T5 e5 => ?_)
        have f5 := fr1I (c := c2) (A := [(111, 999)]) (k := 111) qr rfl e5
        have m70 : hI g5 x0 70 = hI g x0 70 := by rw [e5, r_I, if_neg (ne_r r2 qr (by decide))]
        have m68 : hI g5 x0 68 = hI g x0 68 := by rw [e5, r_I, if_neg (ne_r r2 qr (by decide))]
        have W5 := dw_wY a111 T2 r2 f5 W2
        have D5 := dq_w a111 T2 r2 f5 D2
        refine s_hq (th_wI T5 r2 (k := 16) (i := 70) (lo := 0) (hi := 3000) rfl (rg_add (by rw [m70]; exact j70) (rg_b rfl : Rg 1 1 (1 : Int32)) (by decide)) (by decide) (by decide) (pm_a hq2 rfl)) (fun g6 T6 e6 => ?_)
        have f6 := fr1I (c := c2) (A := [(16, 70)]) (k := 16) (i := 70) r2 rfl e6
        have W6 := dw_wY (a16 (by decide) (by decide)) T5 r2 f6 W5
        have D6 := dq_w (a16 (by decide) (by decide)) T5 r2 f6 D5
        have l68 : hI g6 x0 68 = hI h x0 68 := by rw [e6, r_I, if_neg (fun z => absurd z.2 (by decide)), m68, e68]
        have l70 : (hI g6 x0 70).toInt = (hI h x0 70).toInt + 1 := by
          rw [he_s e6, m70, (nc_s j70 (by decide)).2, e70]
        refine s_q (fun v ev => ?_)
        have ev2 := nxt v ev
        exact mI_ext Y (ih hp2 hq2 T6 r2 i4 W6 D6 (by rw [l68]; exact n68) (by omega) (by omega) (by have := ix.2; omega))
    refine s_br (fun _ => ?_) (fun _ => ?_)
    · refine s_mI (S := SD 1) T hp (zX15_isMoveY (d := 0) hF (sx_c _) (th_in _ T) r0 rfl (by decide) (by omega) (by rw [zz]; omega) W D a7 lt7) (fun o1 ρ1 c1 X T1 f1 j1 W1 => ?_)
      obtain ⟨D1, e1⟩ := dq_keep T r0 f1 (by decide) D
      unfold sX15_problem_262
      exact s_br (fun _ => goon X T1 W1 D1 (f68 r0 f1) (f70 r0 f1)) (fun _ => goon X T1 W1 D1 (f68 r0 f1) (f70 r0 f1))
    · have by' : ∀ {k s : Int32}, 1 ≤ k.toInt → k.toInt ≤ 8 → Sat (sX15_problem_244 F (sX15_problem_197 F f) h x0 x2 x3 x4 x6 x7 s k x7 (0 : Int32) x0) (MkI ρ c (-2147483648) 2147483647 (fun o => DWY Bq x0 o ∧ PbP x0 o)) := fun {k s} ka kb => by
        unfold sX15_problem_244 sX15_problem_248
        refine s_mI (S := SD 1) T hp (zX15_goalRowsByY (d := 0) hF (sx_c _) (th_in _ T) r0 rfl (by decide) ka (by rw [zz]; omega) W D a7 lt7) (fun o1 ρ1 c1 X T1 f1 j1 W1 => ?_)
        obtain ⟨D1, e1⟩ := dq_keep T r0 f1 (by decide) D
        exact goon X T1 W1 D1 (f68 r0 f1) (f70 r0 f1)
      have e2 : ((2 : Int32) * x4).toInt = 2 * x4.toInt := ti_mulc' i4 (rg_b rfl : Rg 2 2 (2 : Int32)) (by decide)
      unfold sX15_problem_234
      exact s_br (fun _ => s_br (fun _ => by' (by omega) (by omega)) (fun _ => by' (by omega) (by omega))) (fun _ => s_br (fun _ => by' (by omega) (by omega)) (fun _ => by' (by omega) (by omega)))
theorem zX15_problemY (hF : 700000 ≤ F) (hp : ∀ k w i, SP k w i = true → cPm c k w i = true) (hq : pmA c [(16, 64), (16, 65), (16, 66), (16, 67), (16, 68), (16, 70), (111, 999)]) (T : TH ρ c h) (r0 : ρ x0 = 16) (bd : BdP x0 h) (W : DWY Bq x0 h) (pb : PbP x0 h) : Sat (sX15_problem F h x0 x1 x2 x3 x4) (MkI ρ c (-2147483648) 2147483647 (fun o => DWY Bq x0 o ∧ PbP x0 o)) := by
  unfold sX15_problem sX15_problem_30
  have ex : Sat (some ((-101 : Int32), h)) (MkI ρ c (-2147483648) 2147483647 (fun o => DWY Bq x0 o ∧ PbP x0 o)) := s_some ⟨ρ, c, ex_0, T, rg_top _, W, pb⟩
  refine s_br (fun _ => ex) (fun n1 => ?_)
  refine s_br (fun _ => ex) (fun n2 => ?_)
  refine s_br (fun _ => ex) (fun n3 => ?_)
  refine s_br (fun _ => ex) (fun n4 => ?_)
  refine s_br (fun _ => ex) (fun n5 => ?_)
  refine s_br (fun n6 => ?_) (fun _ => ex)
  have j2 : Rg 0 3 x2 := ⟨nlt_i n1, nlt_i n2⟩
  have j3 : Rg 0 2 x3 := ⟨nlt_i n3, nlt_i n4⟩
  have j4 : Rg 1 4 x4 := ⟨nlt_i n5, le_i n6⟩
  have hp0 : ∀ k w i, SD 0 k w i = true → cPm c k w i = true := fun k w i m => hp k w i (sx_sub (fun _ z => z) (fun _ z => z) (fun _ z => by rw [z]; rfl) m)
  have hs : ∀ k w i, SX no (is 2528) (is 2530) k w i = true → cPm c k w i = true := fun k w i m => hp k w i (sx_sub (fun _ z => no_f z) (fun w z => by rw [is_e z]; rfl) (fun w z => by rw [is_e z]; rfl) m)
  refine s_cIfq T hs (zX15_moves hF (pmA_s (sxA (sx_c _)) rfl) (pmO_s (sxB (sx_c _) rfl) rfl) (pmO_s (sxM (sx_c _) rfl) rfl) (th_in _ T) r0 (rg_top _) bd W.1) (fun o1 T1 i1 f1 p1 => ?_)
  have W1 := dw_keep0Y T r0 f1 W
  have pb1 := pb_keep r0 f1 pb
  unfold sX15_problem_38
  refine s_br (fun _ => s_some ⟨ρ, c, ex_0, T1, rg_top _, W1, pb1⟩) (fun nz => ?_)
  have nz' : ¬ o1.1.toInt = -102 := ne_i nz
  have ip : Rg 0 59 x1 := p1.1.resolve_left nz'
  obtain ⟨b, B1⟩ := bk_of T1 r0 (mp_hb (p1.2 nz'))
  obtain ⟨kb, wb'⟩ := bk_r T1 r0 B1
  refine s_bk T1 r0 ip B1 ?_
  obtain ⟨ls, els, qls⟩ := thR T1 r0 (i := 30) (k2 := 14) rfl (by decide)
  refine s_ref els ?_
  have hn : ∀ k w i, SX no no no k w i = true → cPm c k w i = true := fun k w i m => hp k w i (sx_sub (fun _ z => no_f z) (fun _ z => no_f z) (fun _ z => no_f z) m)
  refine s_cIf T1 hn (zX15_endedBy hF (pmA_s (sxA (sx_c _)) rfl) rfl (th_in _ T1) r0 kb (thI T1 qls (k := 14) (i := 0) (lo := 0) (hi := 3000) rfl)) (fun o2 T2 i2 f2 => ?_)
  have W2 := dw_keep0Y T1 r0 f2 W1
  have pb2 := pb_keep r0 f2 pb1
  have B2 := bk_keep T1 r0 f2 rfl B1
  have main : ∀ {t s : Int32}, t.toInt ≤ 9 → Sat (sX15_problem_117 F o2.2 x0 x1 x2 x3 x4 s t b x0) (MkI ρ c (-2147483648) 2147483647 (fun o => DWY Bq x0 o ∧ PbP x0 o)) := fun {t s} ht => by
    unfold sX15_problem_117
    have PB : PE b o2.2 := by obtain ⟨_, _, _, q⟩ := B2; exact q
    refine s_mI (S := SD 0) T2 hp0 (zX15_isRoomY hF (sx_c _) (th_in _ T2) r0 kb wb' ht W2 PB) (fun o3 ρ3 c3 X3 T3 f3 i3 W3 => ?_)
    have B3 := bk_keep T2 r0 f3 rfl B2
    have r3 := ex_r X3 r0 (by decide)
    have hp3 := ex_hp X3 hp0
    have hq3 := ex_A X3 hq
    unfold sX15_problem_120
    refine s_br (fun _ => s_some ⟨ρ3, c3, X3, T3, rg_top _, W3, pb_keep r0 f3 pb2⟩) (fun _ => ?_)
    refine s_f16Y (lo := 0) (hi := 59) (pm_a hq3 rfl) (by decide) (by decide) rfl ip (rp0 rfl) T3 r3 W3 B3 (fun g4 T4 e4 W4 B4 => ?_)
    obtain ⟨se, ese, qse⟩ := thR T4 r3 (i := 15) (k2 := 85) rfl (by decide)
    refine s_ref ese ?_
    refine s_gd (by rw [thN T4 qse (k := 85) (n := 60) rfl (by decide)]; exact rg_inB ip (by decide)) ?_
    refine s_f16Y (lo := -2147483648) (hi := 2147483647) (pm_a hq3 rfl) (by decide) (by decide) rfl (rg_top _) (rp0 rfl) T4 r3 W4 B4 (fun g5 T5 e5 W5 B5 => ?_)
    refine s_f16Y (lo := 0) (hi := 3) (pm_a hq3 rfl) (by decide) (by decide) rfl j2 (rp0 rfl) T5 r3 W5 B5 (fun g6 T6 e6 W6 B6 => ?_)
    refine s_f16Y (lo := 0) (hi := 2) (pm_a hq3 rfl) (by decide) (by decide) rfl j3 (rp0 rfl) T6 r3 W6 B6 (fun g7 T7 e7 W7 B7 => ?_)
    refine s_f16Y (lo := 0) (hi := 4) (pm_a hq3 rfl) (by decide) (by decide) rfl (rg_m j4 (by decide)) (rp0 rfl) T7 r3 W7 B7 (fun g8 T8 e8 W8 B8 => ?_)
    refine s_f16Y (lo := 0) (hi := 3000) (pm_a hq3 rfl) (by decide) (by decide) rfl (rg_b rfl) (rp0 rfl) T8 r3 W8 B8 (fun g9 T9 e9 W9 B9 => ?_)
    have m68 : hI g9 x0 68 = x4 := by rw [e9, r_I, if_neg (fun z => absurd z.2 (by decide)), he_s e8]
    have m70 : hI g9 x0 70 = 0 := he_s e9
    refine s_deepY hp3 (sdp_t (Nat.zero_le _)) T9 r3 (rg_b rfl) W9 (fun oa ρa ca la Xa Ta fa Wa Da => ?_)
    have Ba := bk_keep T9 r3 fa rfl B9
    have ra := ex_r Xa r3 (by decide)
    have hpa := ex_hp Xa hp3
    have hqa := ex_A Xa hq3
    unfold sX15_problem_167
    refine s_bk Ta ra ip Ba ?_
    refine s_firstY hF hpa rfl Ta ra Wa Da Ba (fun ob Tb fb Wb Db Pb Bb => ?_)
    unfold sX15_problem_176
    refine s_deep0 Tb ra (rg_b rfl) (b := oa.1) (l := la) Db ?_
    unfold sX15_problem_182
    refine s_list Tb ra (rg_b rfl) (b := oa.1) (l := la) Db ?_
    refine s_legalY hF hpa rfl rfl Tb ra Wb Db Pb (fun oc Tc fc Wc Dc Pc Mc => ?_)
    unfold sX15_problem_191
    have n68 : hI oc x0 68 = x4 := by rw [f68 ra fc, f68 ra fb, f68 r3 fa, m68]
    have n70 : hI oc x0 70 = 0 := by rw [f70 ra fc, f70 ra fb, f70 r3 fa, m70]
    exact mI_ext (ex_t X3 Xa) (prob_loopY hF F (fun k w i m => hpa k w i (sd_sub (Nat.zero_le _) m)) (pmA_s hqa rfl) Tc ra j4 Wc ⟨Dc, Pc, Mc⟩ (by rw [n68]; exact j4.1) (by decide) (by rw [n70]; decide) (by show (3000 - (0 : Int)).toNat < F; omega))
  have b4 := j4.2
  have a4 := j4.1
  have e2 : ((2 : Int32) * x4).toInt = 2 * x4.toInt := ti_mulc' j4 (rg_b rfl : Rg 2 2 (2 : Int32)) (by decide)
  have e1 : (((2 : Int32) * x4) - (1 : Int32)).toInt = 2 * x4.toInt - 1 := by
    rw [ti_sub (a := 0) (b := 8) (c := 1) (d := 1) ⟨by omega, by omega⟩ (rg_b rfl) (by decide), e2]; rfl
  have main2 : ∀ {t : Int32}, t.toInt ≤ 9 → Sat (sX15_problem_96 F o2.2 x0 x1 x2 x3 x4 t) (MkI ρ c (-2147483648) 2147483647 (fun o => DWY Bq x0 o ∧ PbP x0 o)) := fun {t} ht => by
    unfold sX15_problem_96
    refine s_bk T2 r0 ip B2 ?_
    exact s_br (fun _ => main ht) (fun _ => main ht)
  unfold sX15_problem_63
  exact s_br (fun _ => s_br (fun _ => main2 (by omega)) (fun _ => s_br (fun _ => main2 (by omega)) (fun _ => main2 (by omega)))) (fun _ => s_some ⟨ρ, c, ex_0, T2, rg_top _, W2, pb2⟩)
theorem ref_loopY (hF : 700000 ≤ F) : ∀ (f : Nat) {ρ : Nat → Nat} {c : Cm} {h : Hp} {b l : Nat} {x2 x3 : Int32}, (∀ k w i, SD 2 k w i = true → cPm c k w i = true) → TH ρ c h → ρ x0 = 16 → DWY Bq x0 h → DQ x0 1 b l h → 1 ≤ (hI h x0 68).toInt → 0 ≤ x3.toInt → (3000 - x3.toInt).toNat < f → Sat (sX15_refutes_107 F f h x0 x2 x3) (MkI ρ c (-2147483648) 2147483647 (DWY Bq x0)) := by
  intro f
  induction f with
  | zero => intros; omega
  | succ f ih =>
    intro ρ c h b l x2 x3 hp T r0 W D n68 a3 hf
    rw [sX15_refutes_107]
    unfold sX15_refutes_139 sX15_refutes_147
    have i1 : Rg 0 9 (1 : Int32) := rg_b rfl
    have one : (1 : Int32).toInt = 1 := rfl
    refine s_list T r0 i1 (b := b) (l := l) D.1 ?_
    refine s_br (fun _ => s_some ⟨ρ, c, ex_0, T, rg_top _, W⟩) (fun n1 => ?_)
    have lt3 := nle_i n1
    obtain ⟨k1, k2, k3, k4⟩ := dp_r T r0 D.1
    have h3000 := thI T k2 (k := 14) (i := 0) (lo := 0) (hi := 3000) rfl
    have ix : Rg 0 2999 x3 := ⟨a3, by have := h3000.2; omega⟩
    have i68 := thI T r0 (k := 16) (i := 68) (lo := 0) (hi := 4) rfl
    refine s_mI (S := SD 2) T hp (zX15_isAnsweredY (d := 1) hF (sx_c _) (th_in _ T) r0 rfl (by decide) n68 (by rw [one]; have := i68.2; omega) W D a3 lt3) (fun o1 ρ1 c1 X T1 f1 j1 W1 => ?_)
    obtain ⟨D1, e1⟩ := dq_keep T r0 f1 (by decide) D
    have go : ∀ t : Int32, Sat (nm (x2 + t) fun v_1 => nm (x3 + (1 : Int32)) fun v_2 => sX15_refutes_107 F f o1.2 x0 v_1 v_2) (MkI ρ c (-2147483648) 2147483647 (DWY Bq x0)) := fun t => by
      refine s_q (fun u eu => ?_)
      refine s_q (fun v ev => ?_)
      have ev2 : v.toInt = x3.toInt + 1 := by rw [ev]; exact (nc_s ix (by decide)).2
      exact mI_ext X (ih (ex_hp X hp) T1 (ex_r X r0 (by decide)) W1 D1 (by rw [f68 r0 f1]; exact n68) (by omega) (by have := ix.2; omega))
    exact s_br (fun _ => go 1) (fun _ => go 0)
theorem zX15_refutesY (hF : 700000 ≤ F) (hp : ∀ k w i, SD 0 k w i = true → cPm c k w i = true) (T : TH ρ c h) (r0 : ρ x0 = 16) (bd : BdP x0 h) (W : DWY Bq x0 h) (pb : PbP x0 h) : Sat (sX15_refutes F h x0 x1) (MkI ρ c (-2147483648) 2147483647 (DWY Bq x0)) := by
  unfold sX15_refutes
  refine s_dI0 (zX15_isProblem hF T r0) (fun o1 e1 q1 i1 => ?_)
  rw [q1]
  unfold sX15_refutes_4 sX15_refutes_15
  have ex : ∀ {y : Int32}, Sat (some (y, h)) (MkI ρ c (-2147483648) 2147483647 (DWY Bq x0)) := s_some ⟨ρ, c, ex_0, T, rg_top _, W⟩
  refine s_br (fun _ => ex) (fun nz => ?_)
  refine s_br (fun _ => ?_) (fun _ => ex)
  -- the problem's place
  have i64 := thI T r0 (k := 16) (i := 64) (lo := 0) (hi := 59) rfl
  have key : 1 ≤ (hI h x0 68).toInt ∧ ∃ b, BK x0 (hI h x0 64).toNatClampNeg b h := by
    unfold sX15_isProblem sX15_isProblem_27 sX15_isProblem_28 at e1
    rcases br_s e1 with ⟨_, e⟩ | ⟨c1, e⟩
    · exact absurd (by rw [← Option.some.inj (gd_s e).2]) nz
    obtain ⟨s, es, e⟩ := cl_s e
    replace e := (gd_s e).2
    rcases br_s e with ⟨c2, e⟩ | ⟨c2, e⟩
    · refine ⟨pb c1, ?_⟩
      obtain ⟨q1, f1, g1⟩ := thR T r0 (i := 14) (k2 := 84) rfl (by decide)
      obtain ⟨b, eb, P⟩ := bd.1 q1 s f1 es (hI h x0 64).toNatClampNeg (by have := nc_i i64.1; have := i64.2; omega) (by rw [c2]; exact c1)
      exact ⟨b, q1, f1, eb, P⟩
    · exact absurd (by rw [← Option.some.inj (gd_s e).2]) nz
  obtain ⟨n68, b, B⟩ := key
  refine s_deepY hp (sdp_t (Nat.zero_le _)) T r0 (rg_b rfl) W (fun o2 ρ2 c2 l2 X2 T2 f2 W2 D2 => ?_)
  have B2 := bk_keep T r0 f2 rfl B
  have r2 := ex_r X2 r0 (by decide)
  have hp2 := ex_hp X2 hp
  rw [← f64 r0 f2] at B2
  unfold sX15_refutes_22
  refine s_bk T2 r2 (by rw [f64 r0 f2]; exact i64) B2 ?_
  refine s_firstY hF hp2 rfl T2 r2 W2 D2 B2 (fun o3 T3 f3 W3 D3 P3 B3 => ?_)
  unfold sX15_refutes_34
  refine s_deep0 T3 r2 (rg_b rfl) (b := o2.1) (l := l2) D3 ?_
  unfold sX15_refutes_40
  refine s_list T3 r2 (rg_b rfl) (b := o2.1) (l := l2) D3 ?_
  refine s_legalY hF hp2 rfl rfl T3 r2 W3 D3 P3 (fun o4 T4 f4 W4 D4 P4 M4 => ?_)
  have k4 : hI o4 x0 68 = hI h x0 68 := by rw [f68 r2 f4, f68 r2 f3, f68 r0 f2]
  unfold sX15_refutes_49 sX15_refutes_66
  refine s_br (fun _ => s_some ⟨ρ2, c2, X2, T4, rg_top _, W4⟩) (fun n1 => ?_)
  refine s_list T4 r2 (rg_b rfl) (b := o2.1) (l := l2) D4 ?_
  refine s_br (fun n2 => ?_) (fun _ => s_some ⟨ρ2, c2, X2, T4, rg_top _, W4⟩)
  have a1 : 0 ≤ x1.toInt := nlt_i n1
  refine s_mV (S := SD 1) T4 (fun k w i m => hp2 k w i (sd_sub (Nat.zero_le _) m)) (zX15_stepY (d := 0) hF (sx_c _) rfl rfl rfl rfl rfl (th_in _ T4) r2 (rg_b rfl) W4 D4 P4 M4 a1 (lt_i n2)) (fun o5 ρ5 c5 X5 T5 f5 ⟨W5, b5, l5, D5⟩ => ?_)
  have r5 := ex_r X5 r2 (by decide)
  have hp5 := ex_hp X5 hp2
  have k5 : hI o5 x0 68 = hI h x0 68 := by rw [f68 r2 f5, k4]
  have X := ex_t X2 X5
  have hn : ∀ k w i, SX no no no k w i = true → cPm c5 k w i = true := fun k w i m => hp5 k w i (sx_sub (fun _ z => no_f z) (fun _ z => no_f z) (fun _ z => no_f z) m)
  have rest : ∀ {g : Hp}, TH ρ5 c5 g → DWY Bq x0 g → DQ x0 1 b5 l5 g → hI g x0 68 = hI h x0 68 → Sat (sX15_refutes_93 F g x0) (MkI ρ c (-2147483648) 2147483647 (DWY Bq x0)) := fun {g} Tg Wg Dg eg => by
    unfold sX15_refutes_93 sX15_refutes_98 sX15_refutes_101
    refine s_cIf Tg hn (zX15_hasEnded hF (sxA (sx_c _)) (th_in _ Tg) r5 (rg_b rfl) (b := b5) (l := l5) Dg.1) (fun o6 T6 i6 f6 => ?_)
    have W6 := dw_keep0Y Tg r5 f6 Wg
    obtain ⟨a1, a2, a3, a4⟩ := dp_keep Tg r5 f6 rfl rfl rfl Dg.1
    refine s_br (fun _ => ?_) (fun _ => s_some ⟨ρ5, c5, X, T6, rg_top _, W6⟩)
    exact mI_ext X (ref_loopY hF F (fun k w i m => hp5 k w i (sd_sub (Nat.zero_le _) m)) T6 r5 W6 ⟨a1, a3 Dg.2.1, a4 Dg.2.2⟩ (by rw [f68 r5 f6, eg]; exact n68) (by decide) (by show (3000 - (0 : Int)).toNat < F; omega))
  unfold sX15_refutes_74 sX15_refutes_90 sX15_refutes_101
  refine s_br (fun _ => ?_) (fun _ => rest T5 W5 D5 k5)
  refine s_cIf T5 hn (zX15_isGoal hF (sxA (sx_c _)) (th_in _ T5) r5 (rg_b rfl) (b := b5) (l := l5) D5.1) (fun o6 T6 i6 f6 => ?_)
  have W6 := dw_keep0Y T5 r5 f6 W5
  obtain ⟨a1, a2, a3, a4⟩ := dp_keep T5 r5 f6 rfl rfl rfl D5.1
  exact s_br (fun _ => rest T6 W6 ⟨a1, a3 D5.2.1, a4 D5.2.2⟩ (by rw [f68 r5 f6, k5])) (fun _ => s_some ⟨ρ5, c5, X, T6, rg_top _, W6⟩)
end
end
section
/-! the reference's invariant -/
def sqN (_ : Nat) (_ : Hp) : Nat := 64
/-- no game's board behind the row's end -/
def NoG (x0 : Nat) (h : Hp) : Prop := ∀ r, hR h x0 37 = some r → ∀ i, 2408 ≤ i → hR h r i = none
def RfI (x0 : Nat) (h : Hp) : Prop := SqOk x0 h ∧ (∃ B, BdY (sqN x0 h) B x0 h) ∧ (∃ B, GaY (sqN x0 h) B x0 h) ∧ DpP x0 h ∧ PbP x0 h ∧ (∃ B, FdPY (sqN x0 h) B x0 h) ∧ EnR x0 h ∧ NoG x0 h
/-- a board's places -/
def bdO (S : Nat → Nat → Nat → Bool) (w : Nat) : Prop := (∀ i, i < 7 → S 13 w i = false) ∧ (∀ i, S 62 w i = false) ∧ (∀ i, S 63 w i = false) ∧ ∀ i, S 64 w i = false
def cB (S : Nat → Nat → Nat → Bool) : Prop := (∀ w, S 16 w 14 = false) ∧ (∀ w, S 16 w 15 = false) ∧ (∀ w i, S 84 w i = false) ∧ (∀ w i, S 85 w i = false) ∧ bdO S 3400
def cG (S : Nat → Nat → Nat → Bool) : Prop := (∀ w, S 16 w 37 = false) ∧ (∀ w i, S 92 w i = false) ∧ ∀ j, j ≤ 2407 → bdO S (5000 + j)
def cD (S : Nat → Nat → Nat → Bool) : Prop := (∀ w, S 16 w 33 = false) ∧ (∀ w, S 16 w 34 = false) ∧ (∀ w i, S 90 w i = false) ∧ ∀ w i, S 91 w i = false
def cP (S : Nat → Nat → Nat → Bool) : Prop := (∀ w, S 16 w 65 = false) ∧ ∀ w, S 16 w 68 = false
def cF (S : Nat → Nat → Nat → Bool) : Prop := fdBY S ∧ fdO S ∧ fdT S ∧ ∀ w, S 16 w 44 = false
def cEn (S : Nat → Nat → Nat → Bool) : Prop := (∀ w, S 16 w 13 = false) ∧ (∀ w, S 16 w 46 = false) ∧ (∀ w, S 16 w 47 = false) ∧ (∀ w, S 16 w 48 = false) ∧ (∀ w, S 16 w 49 = false) ∧ (∀ w, S 16 w 50 = false) ∧ (∀ w, S 16 w 55 = false) ∧ (∀ w, S 16 w 56 = false) ∧ (∀ w, S 16 w 59 = false) ∧ (∀ w i, S 99 w i = false) ∧ (∀ w i, S 100 w i = false) ∧ (∀ w i, S 101 w i = false) ∧ (∀ w i, S 106 w i = false) ∧ ∀ w i, S 107 w i = false
section
variable {zq : Nat} {Bq : Nat × Nat} {ρ : Nat → Nat} {c : Cm} {h o : Hp} {S : Nat → Nat → Nat → Bool} {x0 b k w i F : Nat}
theorem bdy_ex (T : TH ρ c h) (r0 : ρ x0 = 16) (f : Fr ρ (cat c S h) h o) (s : cB S) (P : BdY zq Bq x0 h) : ∃ B, BdY zq B x0 o := by
  obtain ⟨s1, s2, s3, s4, s5, s6, s7, s8⟩ := s
  obtain ⟨r, er, qr⟩ := thR T r0 (i := 14) (k2 := 84) rfl (by decide)
  have er' : hR o x0 14 = some r := by rw [(fr_RI f r0 (by decide) s1).2.2]; exact er
  exact ⟨(o.1.1 + 5 * nuC o r 60, o.1.2 + 162 * nuC o r 60), bdy_x T r0 f s1 s2 s3 s4 s5 s6 s7 s8 P (fun r' e' => by
    have : r' = r := r_eq er' e'
    subst this
    exact ⟨Nat.le_refl _, Nat.le_refl _⟩)⟩
theorem gay_ex (T : TH ρ c h) (r0 : ρ x0 = 16) (f : Fr ρ (cat c S h) h o) (s : cG S) (N : NoG x0 h) (P : GaY zq Bq x0 h) : ∃ B, GaY zq B x0 o := by
  obtain ⟨s1, s2, s3⟩ := s
  obtain ⟨r, er, qr⟩ := thR T r0 (i := 37) (k2 := 92) rfl (by decide)
  have er' : hR o x0 37 = some r := by rw [(fr_RI f r0 (by decide) s1).2.2]; exact er
  refine ⟨(o.1.1 + 5 * nuC o r 2408, o.1.2 + 162 * nuC o r 2408), fun i b B => ?_, fun r' e' => ?_⟩
  · obtain ⟨r', t1, t2⟩ := B
    have : r' = r := r_eq er' t1
    subst this
    rw [(fr_RI f qr (by decide) (fun w => s2 w i)).2.2] at t2
    have B0 : Gb x0 i b h := ⟨r', er, t2⟩
    obtain ⟨k1, k2⟩ := gb_r T r0 B0
    have li : i ≤ 2407 := by
      by_cases z : i ≤ 2407
      · exact z
      · have := N r' er i (by omega)
        rw [this] at t2
        exact absurd t2 (by simp)
    obtain ⟨a1, a2, a3, a4⟩ := s3 i li
    exact pz_fr T k1 f (fun i hi => by rw [k2]; exact a1 i (by omega)) (fun i => by rw [k2]; exact a2 i) (fun i => by rw [k2]; exact a3 i) (fun i => by rw [k2]; exact a4 i) (P.1 i b B0)
  · have : r' = r := r_eq er' e'
    subst this
    exact ⟨Nat.le_refl _, Nat.le_refl _⟩
theorem nog_f (T : TH ρ c h) (r0 : ρ x0 = 16) (f : Fr ρ (cat c S h) h o) (s1 : ∀ w, S 16 w 37 = false) (s2 : ∀ w i, 2408 ≤ i → S 92 w i = false) (N : NoG x0 h) : NoG x0 o := fun r er i hi => by
  rw [(fr_RI f r0 (by decide) s1).2.2] at er
  rw [(fr_RI f (rr T (thR T r0 (i := 37) (k2 := 92) rfl (by decide)) er) (by decide) (fun w => s2 w i hi)).2.2]
  exact N r er i hi
theorem dpp_f (T : TH ρ c h) (r0 : ρ x0 = 16) (f : Fr ρ (cat c S h) h o) (s : cD S) (P : DpP x0 h) : DpP x0 o := fun rb rl e1 e2 d b e3 => by
  rw [(fr_RI f r0 (by decide) s.1).2.2] at e1
  rw [(fr_RI f r0 (by decide) s.2.1).2.2] at e2
  have q1 := rr T (thR T r0 (i := 33) (k2 := 90) rfl (by decide)) e1
  have q2 := rr T (thR T r0 (i := 34) (k2 := 91) rfl (by decide)) e2
  rw [(fr_RI f q1 (by decide) (fun w => s.2.2.1 w d)).2.2] at e3
  obtain ⟨l, el⟩ := P rb rl e1 e2 d b e3
  exact ⟨l, by rw [(fr_RI f q2 (by decide) (fun w => s.2.2.2 w d)).2.2]; exact el⟩
theorem pbp_f (T : TH ρ c h) (r0 : ρ x0 = 16) (f : Fr ρ (cat c S h) h o) (s : cP S) (P : PbP x0 h) : PbP x0 o := fun n => by
  rw [(fr_RI f r0 (by decide) s.1).1] at n
  rw [(fr_RI f r0 (by decide) s.2).1]
  exact P n
theorem enr_f (T : TH ρ c h) (r0 : ρ x0 = 16) (f : Fr ρ (cat c S h) h o) (s : cEn S) (P : EnR x0 h) : EnR x0 o := fun n => by
  obtain ⟨s13, s46, s47, s48, s49, s50, s55, s56, s59, t99, t100, t101, t106, t107⟩ := s
  rw [(fr_RI f r0 (by decide) s50).1] at n
  obtain ⟨⟨p1, p2, p3, p4, p5, p6⟩, q⟩ := P n
  have e13 := (fr_RI f r0 (by decide) s13).1
  have e49 := (fr_RI f r0 (by decide) s49).1
  have e46 := (fr_RI f r0 (by decide) s46).2.2
  have e47 := (fr_RI f r0 (by decide) s47).2.2
  have e48 := (fr_RI f r0 (by decide) s48).2.2
  have e55 := (fr_RI f r0 (by decide) s55).2.2
  have e56 := (fr_RI f r0 (by decide) s56).2.2
  have e59 := (fr_RI f r0 (by decide) s59).2.1
  have am : ∀ {r : Nat}, hR h x0 46 = some r → ∀ k, hI o r k = hI h r k := fun e k => (fr_RI f (rr T (thR T r0 (i := 46) (k2 := 99) rfl (by decide)) e) (by decide) (fun w => t99 w k)).1
  have ae : ∀ {r : Nat}, hR h x0 47 = some r → ∀ k, hI o r k = hI h r k := fun e k => (fr_RI f (rr T (thR T r0 (i := 47) (k2 := 100) rfl (by decide)) e) (by decide) (fun w => t100 w k)).1
  have ab : ∀ {r : Nat}, hR h x0 48 = some r → ∀ k, hI o r k = hI h r k := fun e k => (fr_RI f (rr T (thR T r0 (i := 48) (k2 := 101) rfl (by decide)) e) (by decide) (fun w => t101 w k)).1
  have ak : ∀ {r : Nat}, hR h x0 55 = some r → ∀ k, hI o r k = hI h r k := fun e k => (fr_RI f (rr T (thR T r0 (i := 55) (k2 := 106) rfl (by decide)) e) (by decide) (fun w => t106 w k)).1
  have as : ∀ {r : Nat}, hR h x0 56 = some r → ∀ k, hI o r k = hI h r k := fun e k => (fr_RI f (rr T (thR T r0 (i := 56) (k2 := 107) rfl (by decide)) e) (by decide) (fun w => t107 w k)).1
  refine ⟨⟨fun r er => ?_, ?_, fun rm rb em eb k hk => ?_, fun rs rk rm re es ek em ee j hj hp => ?_, fun rm re em ee k hk i hi => ?_, fun rm rb em eb k hk => ?_⟩, by rw [e49]; exact q⟩
  · rw [e56] at er
    rw [e49, uC_eq 16384 (fun j _ => as er j)]
    exact p1 r er
  · unfold S2; rw [e59]; exact p2
  · rw [e46] at em
    rw [e48] at eb
    rw [e49] at hk
    rw [e13, e59, am em k, ab eb k]
    exact p3 rm rb em eb k hk
  · rw [e56] at es
    rw [e55] at ek
    rw [e46] at em
    rw [e47] at ee
    rw [as es j] at hp ⊢
    rw [ak ek j, e49]
    obtain ⟨q1, q2⟩ := p4 rs rk rm re es ek em ee j hj hp
    refine ⟨q1, ?_⟩
    rw [q2, am em _]
    exact (pkN_eq _ (fun i hi => ae ee _)).symm
  · rw [e46] at em
    rw [e47] at ee
    rw [e49] at hk
    rw [am em k] at hi
    rw [ae ee (5 * k + i)]
    exact p5 rm re em ee k hk i hi
  · rw [e46] at em
    rw [e48] at eb
    rw [e49] at hk
    rw [e13, am em k, ab eb k, ab eb (k + 1)]
    exact p6 rm rb em eb k hk
/-- places that the invariant reads -/
def badR (k w i : Nat) : Bool := (k == 16 && [11, 12, 13, 14, 15, 33, 34, 37, 40, 41, 42, 44, 46, 47, 48, 49, 50, 55, 56, 59, 65, 68].contains i) || ([84, 85, 90, 91, 92, 95, 96, 97, 99, 100, 101, 106, 107].contains k) || (((k == 13 && decide (i < 7)) || [62, 63, 64].contains k) && (w == 3400 || decide (5000 ≤ w)))
theorem bad_b {w : Nat} (hw : (w == 3400 || decide (5000 ≤ w)) = true) (hb : ∀ k w i, badR k w i = true → S k w i = false) : bdO S w := ⟨fun i hi => hb 13 w i (by unfold badR; rw [hw, decide_eq_true hi]; simp), fun i => hb 62 w i (by unfold badR; rw [hw]; simp), fun i => hb 63 w i (by unfold badR; rw [hw]; simp), fun i => hb 64 w i (by unfold badR; rw [hw]; simp)⟩
theorem bad_w {j : Nat} (hj : 5000 ≤ j) : (j == 3400 || decide (5000 ≤ j)) = true := by rw [decide_eq_true hj, Bool.or_true]
theorem bad_k {k : Nat} (hk : [84, 85, 90, 91, 92, 95, 96, 97, 99, 100, 101, 106, 107].contains k = true) (hb : ∀ k w i, badR k w i = true → S k w i = false) : ∀ w i, S k w i = false := fun w i => hb k w i (by unfold badR; rw [hk]; simp)
theorem bad_i {i : Nat} (hi : [11, 12, 13, 14, 15, 33, 34, 37, 40, 41, 42, 44, 46, 47, 48, 49, 50, 55, 56, 59, 65, 68].contains i = true) (hb : ∀ k w i, badR k w i = true → S k w i = false) : ∀ w, S 16 w i = false := fun w => hb 16 w i (by unfold badR; rw [hi]; simp)
theorem cB_of (hb : ∀ k w i, badR k w i = true → S k w i = false) : cB S := ⟨bad_i rfl hb, bad_i rfl hb, bad_k rfl hb, bad_k rfl hb, bad_b rfl hb⟩
theorem cG_of (hb : ∀ k w i, badR k w i = true → S k w i = false) : cG S := ⟨bad_i rfl hb, bad_k rfl hb, fun j _ => bad_b (bad_w (by omega)) hb⟩
theorem cD_of (hb : ∀ k w i, badR k w i = true → S k w i = false) : cD S := ⟨bad_i rfl hb, bad_i rfl hb, bad_k rfl hb, bad_k rfl hb⟩
theorem cP_of (hb : ∀ k w i, badR k w i = true → S k w i = false) : cP S := ⟨bad_i rfl hb, bad_i rfl hb⟩
theorem cF_of (hb : ∀ k w i, badR k w i = true → S k w i = false) : cF S := ⟨⟨bad_i rfl hb, bad_k rfl hb, fun j => by
  obtain ⟨a1, a2, a3, a4⟩ := bad_b (w := 11000 + j) (bad_w (by omega)) hb
  exact ⟨fun i hi => a1 i (by omega), a2, a3, a4⟩⟩, ⟨bad_i rfl hb, bad_k rfl hb⟩, ⟨bad_i rfl hb, bad_k rfl hb⟩, bad_i rfl hb⟩
theorem cEn_of (hb : ∀ k w i, badR k w i = true → S k w i = false) : cEn S := ⟨bad_i rfl hb, bad_i rfl hb, bad_i rfl hb, bad_i rfl hb, bad_i rfl hb, bad_i rfl hb, bad_i rfl hb, bad_i rfl hb, bad_i rfl hb, bad_k rfl hb, bad_k rfl hb, bad_k rfl hb, bad_k rfl hb, bad_k rfl hb⟩
/-- over a frame that leaves all of it -/
theorem rfi_f (T : TH ρ c h) (r0 : ρ x0 = 16) (f : Fr ρ (cat c S h) h o) (hb : ∀ k w i, badR k w i = true → S k w i = false) (P : RfI x0 h) : RfI x0 o := by
  obtain ⟨p1, ⟨B1, p2⟩, ⟨B2, p3⟩, p4, p5, ⟨B3, p6⟩, p7, p8⟩ := P
  have e : sqN x0 o = sqN x0 h := rfl
  obtain ⟨a1, a2, a3, a4⟩ := cF_of hb
  refine ⟨sq_fr T r0 f (bad_i rfl hb) (bad_i rfl hb) (bad_i rfl hb) p1, ?_, ?_, dpp_f T r0 f (cD_of hb) p4, pbp_f T r0 f (cP_of hb) p5, ?_, enr_f T r0 f (cEn_of hb) p7, nog_f T r0 f (bad_i rfl hb) (fun w i _ => bad_k rfl hb w i) p8⟩
  · rw [e]; exact bdy_ex T r0 f (cB_of hb) p2
  · rw [e]; exact gay_ex T r0 f (cG_of hb) p8 p3
  · rw [e]; exact fdy_ex T r0 f a1 a2 a3 a4 p6
end
end
section
/-! calls of the reference that make nothing -/
def okA2 (p : Nat × Nat) : Bool := if p.1 == 16 then (!(p.2 == 999) && ![11, 12, 13, 14, 15, 33, 34, 37, 40, 41, 42, 44, 46, 47, 48, 49, 50, 52, 55, 56, 59, 65, 68].contains p.2) else (![84, 85, 90, 91, 92, 95, 96, 97, 99, 100, 101, 106, 107].contains p.1 && !(p.1 == 13) && ![62, 63, 64].contains p.1)
def okO2 (w : Nat) (p : Nat × Nat) : Bool := !(p.1 == 16) && ![84, 85, 90, 91, 92, 95, 96, 97, 99, 100, 101, 106, 107].contains p.1 && ((!(p.1 == 13) && ![62, 63, 64].contains p.1) || (!(w == 3400) && decide (w < 5000)))
theorem okA_b {k j w i : Nat} (e : okA2 (k, j) = true) (m : j = 999 ∨ j = i) (b : badR k w i = true) : False := by
  unfold okA2 at e
  unfold badR at b
  simp at e b
  split at e
  · omega
  · omega
theorem okO_b {k j w i : Nat} (e : okO2 w (k, j) = true) (b : badR k w i = true) : False := by
  unfold okO2 at e
  unfold badR at b
  simp at e b
  omega
theorem mS_ex {A : List (Nat × Nat)} {k i : Nat} (m : mS A k i = true) : ∃ j, (k, j) ∈ A ∧ (j = 999 ∨ j = i) := by
  unfold mS at m
  rw [List.any_eq_true] at m
  obtain ⟨⟨k', j⟩, hp, hm⟩ := m
  rw [Bool.and_eq_true, beq_iff_eq, Bool.or_eq_true, beq_iff_eq, beq_iff_eq] at hm
  obtain ⟨h1, h2⟩ := hm
  have h1 : k' = k := h1
  subst h1
  exact ⟨j, hp, h2⟩
abbrev okF (A : List (Nat × Nat)) (L : List (Nat × List (Nat × Nat))) : Bool := A.all okA2 && L.all fun q => q.2.all (okO2 q.1)
theorem ok_bad {A : List (Nat × Nat)} {L : List (Nat × List (Nat × Nat))} (e : okF A L = true) : ∀ k w i, badR k w i = true → fS A L k w i = false := fun k w i b => by
  rw [Bool.and_eq_true, List.all_eq_true, List.all_eq_true] at e
  cases z : fS A L k w i with
  | false => rfl
  | true =>
    exfalso
    unfold fS at z
    rw [Bool.or_eq_true, List.any_eq_true] at z
    rcases z with z | ⟨p, hp, hm⟩
    · obtain ⟨j, hj, hi⟩ := mS_ex z
      exact okA_b (e.1 _ hj) hi b
    · rw [Bool.and_eq_true, beq_iff_eq] at hm
      obtain ⟨j, hj, hi⟩ := mS_ex hm.1
      have := List.all_eq_true.mp (e.2 p hp) _ hj
      rw [← hm.2] at this
      exact okO_b this b
theorem ok_52 {A : List (Nat × Nat)} {L : List (Nat × List (Nat × Nat))} (e : okF A L = true) : ∀ w, fS A L 16 w 52 = false := fun w => by
  rw [Bool.and_eq_true, List.all_eq_true, List.all_eq_true] at e
  cases z : fS A L 16 w 52 with
  | false => rfl
  | true =>
    exfalso
    unfold fS at z
    rw [Bool.or_eq_true, List.any_eq_true] at z
    rcases z with z | ⟨p, hp, hm⟩
    · obtain ⟨j, hj, hi⟩ := mS_ex z
      have := e.1 _ hj
      rcases hi with y | y <;> subst y <;> exact absurd this (by decide)
    · rw [Bool.and_eq_true, beq_iff_eq] at hm
      obtain ⟨j, hj, hi⟩ := mS_ex hm.1
      have := List.all_eq_true.mp (e.2 p hp) _ hj
      simp [okO2] at this
/-- room: what is made, and what may still be made by the reference -/
def RmR (x0 : Nat) (B : Nat × Nat) (h : Hp) : Prop := ∀ a d g f, hR h x0 14 = some a → hR h x0 33 = some d → hR h x0 37 = some g → hR h x0 40 = some f → h.1.1 + 5 * nuC h a 60 + 13 * nuC h d 10 + 5 * nuC h g 2408 + 5 * nuC h f 3000 + (if (hR h x0 52).isNone then 1 else 0) ≤ B.1 ∧ h.1.2 + 162 * nuC h a 60 + 21170 * nuC h d 10 + 162 * nuC h g 2408 + 162 * nuC h f 3000 + (if (hR h x0 52).isNone then 1500000 else 0) ≤ B.2
abbrev RP (ρ : Nat → Nat) (c : Cm) (x0 : Nat) (B : Nat × Nat) (Q : Hp → Prop) : Int32 × Hp → Prop := fun o => ∃ ρ' c', Ext ρ c ρ' c' ∧ TH ρ' c' o.2 ∧ RfI x0 o.2 ∧ RmR x0 B o.2 ∧ Q o.2
/-- the tape's length stays -/
def TpR (x0 : Nat) (h o : Hp) : Prop := hI o x0 1 = hI h x0 1
def rfR (k : Nat) : Bool := (decide (13 ≤ k) && decide (k ≤ 16)) || (decide (62 ≤ k) && decide (k ≤ 120))
abbrev hpR (c : Cm) : Prop := ∀ k w i, rfR k = true → cPm c k w i = true
section
variable {ρ ρ1 : Nat → Nat} {c c1 : Cm} {h o g : Hp} {S : Nat → Nat → Nat → Bool} {x0 a b k w i F : Nat} {B : Nat × Nat} {lo hi : Int} {A : List (Nat × Nat)} {L : List (Nat × List (Nat × Nat))} {x1 x2 x3 x4 x5 : Int32}
theorem pA_r (hp : hpR c) (e : (A.all fun p => rfR p.1) = true) : pmA c A := fun w k i m => by
  obtain ⟨j, hj, _⟩ := mS_ex m
  exact hp k w i (List.all_eq_true.mp e _ hj)
theorem pO_r (hp : hpR c) (e : (A.all fun p => rfR p.1) = true) : pmO c w A := fun k i m => pA_r hp e w k i m
theorem fs_r (hp : hpR c) (e : ((A.all fun p => rfR p.1) && L.all fun q => q.2.all fun p => rfR p.1) = true) : ∀ k w i, fS A L k w i = true → cPm c k w i = true := fun k w i z => by
  rw [Bool.and_eq_true, List.all_eq_true] at e
  unfold fS at z
  rw [Bool.or_eq_true, List.any_eq_true] at z
  rcases z with z | ⟨p, hp', hm⟩
  · obtain ⟨j, hj, _⟩ := mS_ex z
    exact hp k w i (e.1 _ hj)
  · rw [Bool.and_eq_true] at hm
    obtain ⟨j, hj, _⟩ := mS_ex hm.1
    exact hp k w i (List.all_eq_true.mp (List.all_eq_true.mp e.2 p hp') _ hj)
theorem rmr_f (T : TH ρ c h) (r0 : ρ x0 = 16) (f : Fr ρ (cat c S h) h o) (e1 : o.1 = h.1) (s14 : ∀ w, S 16 w 14 = false) (s33 : ∀ w, S 16 w 33 = false) (s37 : ∀ w, S 16 w 37 = false) (s40 : ∀ w, S 16 w 40 = false) (s52 : ∀ w, S 16 w 52 = false) (t84 : ∀ w i, S 84 w i = false) (t90 : ∀ w i, S 90 w i = false) (t92 : ∀ w i, S 92 w i = false) (t95 : ∀ w i, S 95 w i = false) (M : RmR x0 B h) : RmR x0 B o := fun a d g f' ea ed eg ef => by
  rw [(fr_RI f r0 (by decide) s14).2.2] at ea
  rw [(fr_RI f r0 (by decide) s33).2.2] at ed
  rw [(fr_RI f r0 (by decide) s37).2.2] at eg
  rw [(fr_RI f r0 (by decide) s40).2.2] at ef
  have qa := rr T (thR T r0 (i := 14) (k2 := 84) rfl (by decide)) ea
  have qd := rr T (thR T r0 (i := 33) (k2 := 90) rfl (by decide)) ed
  have qg := rr T (thR T r0 (i := 37) (k2 := 92) rfl (by decide)) eg
  have qf := rr T (thR T r0 (i := 40) (k2 := 95) rfl (by decide)) ef
  rw [(fr_RI f r0 (by decide) s52).2.2, e1, nuC_eq 60 (fun i _ => (fr_RI f qa (by decide) (fun w => t84 w i)).2.2), nuC_eq 10 (fun i _ => (fr_RI f qd (by decide) (fun w => t90 w i)).2.2), nuC_eq 2408 (fun i _ => (fr_RI f qg (by decide) (fun w => t92 w i)).2.2), nuC_eq 3000 (fun i _ => (fr_RI f qf (by decide) (fun w => t95 w i)).2.2)]
  exact M a d g f' ea ed eg ef
/-- a call that keeps its heap -/
theorem rp_0 {m : Option (Int32 × Hp)} (T : TH ρ c h) (P : RfI x0 h) (M : RmR x0 B h) (Z : Sat m (fun o => o.2 = h)) : Sat m (RP ρ c x0 B (TpR x0 h)) := s_imp Z (fun o e => by
  rw [show o = (o.1, h) from Prod.ext rfl e]
  exact ⟨ρ, c, ex_0, T, P, M, rfl⟩)
/-- a call that writes what the invariant does not read -/
theorem rp_z {m : Option (Int32 × Hp)} {Q : Int32 × Hp → Prop} (hp : hpR c) (ok : okF A L = true) (ok2 : ((A.all fun p => rfR p.1) && L.all fun q => q.2.all fun p => rfR p.1) = true) (T : TH ρ c h) (r0 : ρ x0 = 16) (P : RfI x0 h) (M : RmR x0 B h) (Z : Sat m (ZQ (ZI ρ (cat c (fS A L) h) lo hi) Q)) {R : Hp → Prop} (HR : ∀ o, TH ρ c o.2 → Fr ρ (cat c (fS A L) h) h o.2 → Q o → R o.2) : Sat m (RP ρ c x0 B R) := by
  have hb := ok_bad ok
  obtain ⟨o, eo, ⟨z1, z2⟩, q⟩ := Z
  have T' := th_out T (fs_r hp ok2) z1
  have f := fr_u T z1.2.2
  refine ⟨o, eo, ρ, c, ex_0, T', rfi_f T r0 f hb P, rmr_f T r0 f (T'.1.1.trans T.1.1.symm) (bad_i rfl hb) (bad_i rfl hb) (bad_i rfl hb) (bad_i rfl hb) (ok_52 ok) (bad_k rfl hb) (bad_k rfl hb) (bad_k rfl hb) (bad_k rfl hb) M, HR o T' f q⟩
theorem s_zq {m : Option (Int32 × Hp)} (Z : Sat m (ZI ρ c lo hi)) : Sat m (ZQ (ZI ρ c lo hi) (fun _ => True)) := s_imp Z (fun _ z => ⟨z, trivial⟩)
theorem rp_t {m : Option (Int32 × Hp)} (hp : hpR c) (ok : okF A L = true) (ok2 : ((A.all fun p => rfR p.1) && L.all fun q => q.2.all fun p => rfR p.1) = true) (s1 : ∀ w, fS A L 16 w 1 = false) (T : TH ρ c h) (r0 : ρ x0 = 16) (P : RfI x0 h) (M : RmR x0 B h) (Z : Sat m (ZI ρ (cat c (fS A L) h) lo hi)) : Sat m (RP ρ c x0 B (TpR x0 h)) := rp_z hp ok ok2 T r0 P M (s_zq Z) (fun o _ f _ => (fr_RI f r0 (by decide) s1).1)
theorem rf_b (P : RfI x0 h) : BdP x0 h := by obtain ⟨B, b⟩ := P.2.1; exact bdy_p b
theorem rw_at (hF : 700000 ≤ F) (T : TH ρ c h) (r0 : ρ x0 = 16) (P : RfI x0 h) (M : RmR x0 B h) : Sat (sX15_at h x0 x1 x2) (RP ρ c x0 B (TpR x0 h)) := rp_0 T P M (s_imp (zX15_at hF T r0 (rg_top _) (rg_top _) (rf_b P)) (fun _ z => z.1))
theorem rw_out (hF : 700000 ≤ F) (T : TH ρ c h) (r0 : ρ x0 = 16) (P : RfI x0 h) (M : RmR x0 B h) : Sat (sX15_out h x0 x1) (RP ρ c x0 B (TpR x0 h)) := rp_0 T P M (s_imp (zX15_out hF T r0 (rg_top _)) (fun _ z => z.1))
theorem rw_key (hF : 700000 ≤ F) (T : TH ρ c h) (r0 : ρ x0 = 16) (P : RfI x0 h) (M : RmR x0 B h) : Sat (sX15_key h x0 x1) (RP ρ c x0 B (TpR x0 h)) := rp_0 T P M (s_imp (zX15_key hF T r0 (rg_top _)) (fun _ z => z.1))
theorem rw_played (hF : 700000 ≤ F) (T : TH ρ c h) (r0 : ρ x0 = 16) (P : RfI x0 h) (M : RmR x0 B h) : Sat (sX15_played h x0 x1 x2) (RP ρ c x0 B (TpR x0 h)) := rp_0 T P M (s_imp (zX15_played hF T r0 (rg_top _) (rg_top _)) (fun _ z => z.1))
theorem rw_tally (hF : 700000 ≤ F) (T : TH ρ c h) (r0 : ρ x0 = 16) (P : RfI x0 h) (M : RmR x0 B h) : Sat (sX15_tally F h x0 x1 x2) (RP ρ c x0 B (TpR x0 h)) := rp_0 T P M (s_imp (zX15_tally hF T r0 P.2.2.2.2.2.2.1) (fun _ z => z.1))
theorem rw_attacked (hF : 700000 ≤ F) (hp : hpR c) (T : TH ρ c h) (r0 : ρ x0 = 16) (P : RfI x0 h) (M : RmR x0 B h) : Sat (sX15_attacked F h x0 x1 x2 x3) (RP ρ c x0 B (TpR x0 h)) := rp_t (A := [(16, 23), (16, 24)]) (L := []) hp rfl rfl (fun _ => rfl) T r0 P M (zX15_attacked hF fs_a (th_in _ T) r0 (rg_top _) (rg_top _) (rg_top _) (rf_b P))
theorem rw_back (hF : 700000 ≤ F) (hp : hpR c) (T : TH ρ c h) (r0 : ρ x0 = 16) (P : RfI x0 h) (M : RmR x0 B h) : Sat (sX15_back h x0 x1) (RP ρ c x0 B (TpR x0 h)) := rp_t (A := [(94, 999)]) (L := []) hp rfl rfl (fun _ => rfl) T r0 P M (zX15_back hF fs_a (th_in _ T) r0 (rg_top _))
abbrev saP : List (Nat × Nat) := [(87, 999), (88, 999), (89, 999), (16, 23), (16, 24), (16, 29)]
theorem rw_ended (hF : 700000 ≤ F) (hp : hpR c) (T : TH ρ c h) (r0 : ρ x0 = 16) (P : RfI x0 h) (M : RmR x0 B h) : Sat (sX15_ended F h x0 x1) (RP ρ c x0 B (TpR x0 h)) := rp_t (A := saP) (L := [(2528, bpL), (2530, mpL)]) hp rfl rfl (fun _ => rfl) T r0 P M (zX15_ended hF fs_a (fs_o (.head _)) (fs_o (.tail _ (.head _))) (th_in _ T) r0 (rg_top _) (rf_b P) P.1)
theorem rw_result (hF : 700000 ≤ F) (hp : hpR c) (T : TH ρ c h) (r0 : ρ x0 = 16) (P : RfI x0 h) (M : RmR x0 B h) : Sat (sX15_result F h x0 x1) (RP ρ c x0 B (TpR x0 h)) := rp_t (A := saP) (L := [(2528, bpL), (2530, mpL)]) hp rfl rfl (fun _ => rfl) T r0 P M (zX15_result hF fs_a (fs_o (.head _)) (fs_o (.tail _ (.head _))) (th_in _ T) r0 (rg_top _) (rf_b P) P.1)
theorem rw_move (hF : 700000 ≤ F) (hp : hpR c) (T : TH ρ c h) (r0 : ρ x0 = 16) (P : RfI x0 h) (M : RmR x0 B h) : Sat (sX15_move F h x0 x1 x2 x3) (RP ρ c x0 B (TpR x0 h)) := rp_t (A := saP) (L := [(2528, bpL), (2530, mpL)]) hp rfl rfl (fun _ => rfl) T r0 P M (zX15_move hF fs_a (fs_o (.head _)) (fs_o (.tail _ (.head _))) (th_in _ T) r0 (rg_top _) (rg_top _) (rg_top _) (rf_b P) P.1)
theorem rw_moves (hF : 700000 ≤ F) (hp : hpR c) (T : TH ρ c h) (r0 : ρ x0 = 16) (P : RfI x0 h) (M : RmR x0 B h) : Sat (sX15_moves F h x0 x1) (RP ρ c x0 B (TpR x0 h)) := rp_z (A := saP) (L := [(2528, bpL), (2530, mpL)]) hp rfl rfl T r0 P M (zX15_moves hF fs_a (fs_o (.head _)) (fs_o (.tail _ (.head _))) (th_in _ T) r0 (rg_top _) (rf_b P) P.1) (fun o _ f _ => (fr_RI f r0 (by decide) (fun _ => rfl)).1)
theorem rw_same (hF : 700000 ≤ F) (hp : hpR c) (T : TH ρ c h) (r0 : ρ x0 = 16) (P : RfI x0 h) (M : RmR x0 B h) : Sat (sX15_same F h x0 x1 x2) (RP ρ c x0 B (TpR x0 h)) := rp_t (A := saP) (L := [(2528, bpL), (2531, mpL)]) hp rfl rfl (fun _ => rfl) T r0 P M (zX15_same hF fs_a (fs_o (.head _)) (fs_o (.tail _ (.head _))) (th_in _ T) r0 (rg_top _) (rg_top _) (rf_b P) P.1)
theorem rw_sees (hF : 700000 ≤ F) (hp : hpR c) (T : TH ρ c h) (r0 : ρ x0 = 16) (P : RfI x0 h) (M : RmR x0 B h) : Sat (sX15_sees F h x0 x1 x2 x3) (RP ρ c x0 B (TpR x0 h)) := rp_t (A := [(87, 999), (88, 999), (89, 999), (16, 23), (16, 24)]) (L := []) hp rfl rfl (fun _ => rfl) T r0 P M (zX15_sees hF fs_a (th_in _ T) r0 (rg_top _) (rg_top _) (rg_top _) (rf_b P))
theorem rw_view (hF : 700000 ≤ F) (hp : hpR c) (T : TH ρ c h) (r0 : ρ x0 = 16) (P : RfI x0 h) (M : RmR x0 B h) : Sat (sX15_view F h x0 x1 x2) (RP ρ c x0 B (TpR x0 h)) := rp_t (A := [(83, 999), (87, 999), (88, 999), (89, 999), (16, 3), (16, 23), (16, 24)]) (L := []) hp rfl rfl (fun _ => rfl) T r0 P M (zX15_view hF fs_a (th_in _ T) r0 (rg_top _) (rg_top _) (rf_b P))
theorem rw_write (hF : 700000 ≤ F) (hp : hpR c) (T : TH ρ c h) (r0 : ρ x0 = 16) (P : RfI x0 h) (M : RmR x0 B h) : Sat (sX15_write F h x0 x1) (RP ρ c x0 B (TpR x0 h)) := by
  obtain ⟨B1, b1⟩ := P.2.1
  exact rp_t (A := [(83, 999), (16, 3)]) (L := []) hp rfl rfl (fun _ => rfl) T r0 P M (write_w hF fs_a (th_in _ T) r0 b1 rfl)
end
end
section
/-! calls of the reference that make boards of games, places, boards at a depth -/
section
variable {zq : Nat} {ρ ρ1 : Nat → Nat} {c c1 : Cm} {h o g : Hp} {S : Nat → Nat → Nat → Bool} {E : Nat → Nat → Bool} {wb wl p : Nat → Bool} {x0 a b k w i F : Nat} {B Bq : Nat × Nat} {lo hi : Int} {A : List (Nat × Nat)} {L : List (Nat × List (Nat × Nat))} {x1 x2 x3 x4 x5 : Int32}
theorem cl_id2 {β : Type} (m : Option β) : cl m (fun o => some o) = m := by cases m <;> rfl
/-- a call that makes things -/
theorem rp_m {m : Option (Int32 × Hp)} {K Q : Hp → Prop} (hs : ∀ k w i, S k w i = true → cPm c k w i = true) (T : TH ρ c h) (Z : Sat m (MkI ρ (cat c S h) lo hi K)) (H : ∀ o ρ1 c1, Ext ρ c ρ1 c1 → TH ρ1 c1 o → Fr ρ (cat c S h) h o → K o → RfI x0 o ∧ RmR x0 B o ∧ Q o) : Sat m (RP ρ c x0 B Q) := by
  have y : Sat (cl m (fun o => some o)) (RP ρ c x0 B Q) := s_mI T hs Z (fun o ρ1 c1 X T1 f _ k => by
    obtain ⟨a1, a2, a3⟩ := H o.2 ρ1 c1 X T1 f k
    exact s_some ⟨ρ1, c1, X, T1, a1, a2, a3⟩)
  rw [cl_id2] at y
  exact y
/-- the rest of the invariant, by parts of the frame -/
theorem rfi_p (T : TH ρ c h) (r0 : ρ x0 = 16) (f : Fr ρ (cat c S h) h o) (P : RfI x0 h) (s11 : ∀ w, S 16 w 11 = false) (s12 : ∀ w, S 16 w 12 = false) (s13 : ∀ w, S 16 w 13 = false) (hB : cB S ∨ ∃ B, BdY (sqN x0 h) B x0 o) (hG : cG S ∨ ∃ B, GaY (sqN x0 h) B x0 o) (hD : cD S ∨ DpP x0 o) (hP : cP S ∨ PbP x0 o) (hF : cF S ∨ ∃ B, FdPY (sqN x0 h) B x0 o) (hE : cEn S ∨ EnR x0 o) (hN : NoG x0 o) : RfI x0 o := by
  obtain ⟨p1, ⟨B1, p2⟩, ⟨B2, p3⟩, p4, p5, ⟨B3, p6⟩, p7, p8⟩ := P
  have e : sqN x0 o = sqN x0 h := rfl
  refine ⟨sq_fr T r0 f s11 s12 s13 p1, ?_, ?_, ?_, ?_, ?_, ?_, hN⟩
  · rw [e]; rcases hB with q | q
    · exact bdy_ex T r0 f q p2
    · exact q
  · rw [e]; rcases hG with q | q
    · exact gay_ex T r0 f q p8 p3
    · exact q
  · rcases hD with q | q
    · exact dpp_f T r0 f q p4
    · exact q
  · rcases hP with q | q
    · exact pbp_f T r0 f q p5
    · exact q
  · rw [e]; rcases hF with q | q
    · exact fdy_ex T r0 f q.1 q.2.1 q.2.2.1 q.2.2.2 p6
    · exact q
  · rcases hE with q | q
    · exact enr_f T r0 f q p7
    · exact q
/-- dues, as numbers -/
def dA (x0 : Nat) (h : Hp) (n : Nat) : Prop := ∃ a, hR h x0 14 = some a ∧ nuC h a 60 = n
def dD (x0 : Nat) (h : Hp) (n : Nat) : Prop := ∃ a, hR h x0 33 = some a ∧ nuC h a 10 = n
def dG (x0 : Nat) (h : Hp) (n : Nat) : Prop := ∃ a, hR h x0 37 = some a ∧ nuC h a 2408 = n
def dF (x0 : Nat) (h : Hp) (n : Nat) : Prop := ∃ a, hR h x0 40 = some a ∧ nuC h a 3000 = n
def d52 (x0 : Nat) (h : Hp) : Nat := if (hR h x0 52).isNone then 1 else 0
theorem rm_i {na nd ng nf : Nat} (M : RmR x0 B h) (ha : dA x0 h na) (hd : dD x0 h nd) (hg : dG x0 h ng) (hf : dF x0 h nf) : h.1.1 + 5 * na + 13 * nd + 5 * ng + 5 * nf + d52 x0 h ≤ B.1 ∧ h.1.2 + 162 * na + 21170 * nd + 162 * ng + 162 * nf + 1500000 * d52 x0 h ≤ B.2 := by
  obtain ⟨a, ea, qa⟩ := ha
  obtain ⟨d, ed, qd⟩ := hd
  obtain ⟨g, eg, qg⟩ := hg
  obtain ⟨f, ef, qf⟩ := hf
  have := M a d g f ea ed eg ef
  rw [qa, qd, qg, qf] at this
  unfold d52
  split at this <;> rename_i z <;> simp only [z] <;> simp <;> omega
theorem rm_o {na nd ng nf : Nat} (ha : dA x0 h na) (hd : dD x0 h nd) (hg : dG x0 h ng) (hf : dF x0 h nf) (q : h.1.1 + 5 * na + 13 * nd + 5 * ng + 5 * nf + d52 x0 h ≤ B.1 ∧ h.1.2 + 162 * na + 21170 * nd + 162 * ng + 162 * nf + 1500000 * d52 x0 h ≤ B.2) : RmR x0 B h := fun a d g f ea ed eg ef => by
  obtain ⟨a', ea', qa⟩ := ha
  obtain ⟨d', ed', qd⟩ := hd
  obtain ⟨g', eg', qg⟩ := hg
  obtain ⟨f', ef', qf⟩ := hf
  rw [r_eq ea' ea, r_eq ed' ed, r_eq eg' eg, r_eq ef' ef, qa, qd, qg, qf]
  unfold d52 at q
  split <;> rename_i z <;> simp only [z] at q <;> simp at q <;> omega
theorem da_i (T : TH ρ c h) (r0 : ρ x0 = 16) : ∃ n, dA x0 h n := by
  obtain ⟨a, ea, qa⟩ := thR T r0 (i := 14) (k2 := 84) rfl (by decide)
  exact ⟨_, a, ea, rfl⟩
theorem dd_i (T : TH ρ c h) (r0 : ρ x0 = 16) : ∃ n, dD x0 h n := by
  obtain ⟨a, ea, qa⟩ := thR T r0 (i := 33) (k2 := 90) rfl (by decide)
  exact ⟨_, a, ea, rfl⟩
theorem dg_i (T : TH ρ c h) (r0 : ρ x0 = 16) : ∃ n, dG x0 h n := by
  obtain ⟨a, ea, qa⟩ := thR T r0 (i := 37) (k2 := 92) rfl (by decide)
  exact ⟨_, a, ea, rfl⟩
theorem df_i (T : TH ρ c h) (r0 : ρ x0 = 16) : ∃ n, dF x0 h n := by
  obtain ⟨a, ea, qa⟩ := thR T r0 (i := 40) (k2 := 95) rfl (by decide)
  exact ⟨_, a, ea, rfl⟩
theorem da_f {n : Nat} (T : TH ρ c h) (r0 : ρ x0 = 16) (f : Fr ρ (cat c S h) h o) (s : ∀ w, S 16 w 14 = false) (t : ∀ w i, S 84 w i = false) (d : dA x0 h n) : dA x0 o n := by
  obtain ⟨a, ea, qa⟩ := d
  have q := rr T (thR T r0 (i := 14) (k2 := 84) rfl (by decide)) ea
  exact ⟨a, by rw [(fr_RI f r0 (by decide) s).2.2]; exact ea, by rw [nuC_eq 60 (fun i _ => (fr_RI f q (by decide) (fun w => t w i)).2.2)]; exact qa⟩
theorem dd_f {n : Nat} (T : TH ρ c h) (r0 : ρ x0 = 16) (f : Fr ρ (cat c S h) h o) (s : ∀ w, S 16 w 33 = false) (t : ∀ w i, S 90 w i = false) (d : dD x0 h n) : dD x0 o n := by
  obtain ⟨a, ea, qa⟩ := d
  have q := rr T (thR T r0 (i := 33) (k2 := 90) rfl (by decide)) ea
  exact ⟨a, by rw [(fr_RI f r0 (by decide) s).2.2]; exact ea, by rw [nuC_eq 10 (fun i _ => (fr_RI f q (by decide) (fun w => t w i)).2.2)]; exact qa⟩
theorem dg_f {n : Nat} (T : TH ρ c h) (r0 : ρ x0 = 16) (f : Fr ρ (cat c S h) h o) (s : ∀ w, S 16 w 37 = false) (t : ∀ w i, S 92 w i = false) (d : dG x0 h n) : dG x0 o n := by
  obtain ⟨a, ea, qa⟩ := d
  have q := rr T (thR T r0 (i := 37) (k2 := 92) rfl (by decide)) ea
  exact ⟨a, by rw [(fr_RI f r0 (by decide) s).2.2]; exact ea, by rw [nuC_eq 2408 (fun i _ => (fr_RI f q (by decide) (fun w => t w i)).2.2)]; exact qa⟩
theorem df_f {n : Nat} (T : TH ρ c h) (r0 : ρ x0 = 16) (f : Fr ρ (cat c S h) h o) (s : ∀ w, S 16 w 40 = false) (t : ∀ w i, S 95 w i = false) (d : dF x0 h n) : dF x0 o n := by
  obtain ⟨a, ea, qa⟩ := d
  have q := rr T (thR T r0 (i := 40) (k2 := 95) rfl (by decide)) ea
  exact ⟨a, by rw [(fr_RI f r0 (by decide) s).2.2]; exact ea, by rw [nuC_eq 3000 (fun i _ => (fr_RI f q (by decide) (fun w => t w i)).2.2)]; exact qa⟩
theorem d52_f (r0 : ρ x0 = 16) (f : Fr ρ (cat c S h) h o) (s : ∀ w, S 16 w 52 = false) : d52 x0 o = d52 x0 h := by unfold d52; rw [(fr_RI f r0 (by decide) s).2.2]
-- frames of games
theorem cB_sy (n : nice E) (n84 : ∀ i, E 84 i = false) (n85 : ∀ i, E 85 i = false) (n15 : E 16 15 = false) (hb : wb 3400 = false) : cB (SY E wb wl) := by
  have z : ∀ k i, (k = 13 ∨ k = 14 ∨ (62 ≤ k ∧ k ≤ 72) ∨ k = 15) → mS saL k i = false → mS mpL k i = false → SY E wb wl k 3400 i = false := fun k i a0 a1 a2 => sy_f (n.1 k i a0) a1 (Or.inr hb) (Or.inl a2)
  exact ⟨fun _ => sy_f n.2.2.2.2.2 rfl (Or.inl rfl) (Or.inl rfl), fun _ => sy_f n15 rfl (Or.inl rfl) (Or.inl rfl), fun _ i => sy_f (n84 i) rfl (Or.inl rfl) (Or.inl rfl), fun _ i => sy_f (n85 i) rfl (Or.inl rfl) (Or.inl rfl), fun i _ => z _ _ (by omega) rfl rfl, fun i => z _ _ (by omega) rfl rfl, fun i => z _ _ (by omega) rfl rfl, fun i => z _ _ (by omega) rfl rfl⟩
theorem cG_sy (n : nice E) (n92 : ∀ i, E 92 i = false) (hb : ∀ j, wb (5000 + j) = false) : cG (SY E wb wl) := by
  have z : ∀ j k i, (k = 13 ∨ k = 14 ∨ (62 ≤ k ∧ k ≤ 72) ∨ k = 15) → mS saL k i = false → mS mpL k i = false → SY E wb wl k (5000 + j) i = false := fun j k i a0 a1 a2 => sy_f (n.1 k i a0) a1 (Or.inr (hb j)) (Or.inl a2)
  exact ⟨fun _ => sy_f n.2.2.2.2.1 rfl (Or.inl rfl) (Or.inl rfl), fun _ i => sy_f (n92 i) rfl (Or.inl rfl) (Or.inl rfl), fun j _ => ⟨fun i _ => z _ _ _ (by omega) rfl rfl, fun i => z _ _ _ (by omega) rfl rfl, fun i => z _ _ _ (by omega) rfl rfl, fun i => z _ _ _ (by omega) rfl rfl⟩⟩
theorem cF_sy (n : nice E) (n95 : ∀ k i, k = 95 ∨ k = 96 ∨ k = 97 → E k i = false) (nx : ∀ i, i = 40 ∨ i = 41 ∨ i = 42 ∨ i = 44 → E 16 i = false) (hb : ∀ j, wb (11000 + j) = false) : cF (SY E wb wl) := by
  have z : ∀ j k i, (k = 13 ∨ k = 14 ∨ (62 ≤ k ∧ k ≤ 72) ∨ k = 15) → mS saL k i = false → mS mpL k i = false → SY E wb wl k (11000 + j) i = false := fun j k i a0 a1 a2 => sy_f (n.1 k i a0) a1 (Or.inr (hb j)) (Or.inl a2)
  exact ⟨⟨fun _ => sy_f (nx _ (by omega)) rfl (Or.inl rfl) (Or.inl rfl), fun _ i => sy_f (n95 _ i (by omega)) rfl (Or.inl rfl) (Or.inl rfl), fun j => ⟨fun i _ => z _ _ _ (by omega) rfl rfl, fun i => z _ _ _ (by omega) rfl rfl, fun i => z _ _ _ (by omega) rfl rfl, fun i => z _ _ _ (by omega) rfl rfl⟩⟩, ⟨fun _ => sy_f (nx _ (by omega)) rfl (Or.inl rfl) (Or.inl rfl), fun _ i => sy_f (n95 _ i (by omega)) rfl (Or.inl rfl) (Or.inl rfl)⟩, ⟨fun _ => sy_f (nx _ (by omega)) rfl (Or.inl rfl) (Or.inl rfl), fun _ i => sy_f (n95 _ i (by omega)) rfl (Or.inl rfl) (Or.inl rfl)⟩, fun _ => sy_f (nx _ (by omega)) rfl (Or.inl rfl) (Or.inl rfl)⟩
theorem cEn_sy (nx : ∀ i, i = 13 ∨ i = 46 ∨ i = 47 ∨ i = 48 ∨ i = 49 ∨ i = 50 ∨ i = 55 ∨ i = 56 ∨ i = 59 → E 16 i = false) (n99 : ∀ k i, k = 99 ∨ k = 100 ∨ k = 101 ∨ k = 106 ∨ k = 107 → E k i = false) : cEn (SY E wb wl) := ⟨fun _ => sy_f (nx _ (by omega)) rfl (Or.inl rfl) (Or.inl rfl), fun _ => sy_f (nx _ (by omega)) rfl (Or.inl rfl) (Or.inl rfl), fun _ => sy_f (nx _ (by omega)) rfl (Or.inl rfl) (Or.inl rfl), fun _ => sy_f (nx _ (by omega)) rfl (Or.inl rfl) (Or.inl rfl), fun _ => sy_f (nx _ (by omega)) rfl (Or.inl rfl) (Or.inl rfl), fun _ => sy_f (nx _ (by omega)) rfl (Or.inl rfl) (Or.inl rfl), fun _ => sy_f (nx _ (by omega)) rfl (Or.inl rfl) (Or.inl rfl), fun _ => sy_f (nx _ (by omega)) rfl (Or.inl rfl) (Or.inl rfl), fun _ => sy_f (nx _ (by omega)) rfl (Or.inl rfl) (Or.inl rfl), fun _ i => sy_f (n99 _ i (by omega)) rfl (Or.inl rfl) (Or.inl rfl), fun _ i => sy_f (n99 _ i (by omega)) rfl (Or.inl rfl) (Or.inl rfl), fun _ i => sy_f (n99 _ i (by omega)) rfl (Or.inl rfl) (Or.inl rfl), fun _ i => sy_f (n99 _ i (by omega)) rfl (Or.inl rfl) (Or.inl rfl), fun _ i => sy_f (n99 _ i (by omega)) rfl (Or.inl rfl) (Or.inl rfl)⟩
theorem nice_gm : nice gmE2 := by
  refine ⟨fun k i hk => ?_, rfl, rfl, rfl, rfl, rfl⟩
  unfold gmE2
  rw [bq_ne (show k ≠ 92 by omega), bq_ne (show k ≠ 93 by omega), bq_ne (show k ≠ 94 by omega)]; rfl
theorem gm_f {k i : Nat} (hk : k ≠ 92 ∧ k ≠ 93 ∧ k ≠ 94) : gmE2 k i = false := by
  unfold gmE2
  rw [bq_ne hk.1, bq_ne hk.2.1, bq_ne hk.2.2]; rfl
theorem gm_n {i : Nat} (h : 2408 ≤ i) : gmE2 92 i = false := by
  unfold gmE2
  rw [decide_eq_false (show ¬ i ≤ 2407 by omega)]; rfl
theorem sy_r (hp : hpR c) (hE : ∀ k i, E k i = true → rfR k = true) : ∀ k w i, SY E wb wl k w i = true → cPm c k w i = true := fun k w i m => by
  unfold SY at m
  rw [Bool.or_eq_true, Bool.or_eq_true, Bool.or_eq_true, Bool.and_eq_true, Bool.and_eq_true] at m
  rcases m with (a | a) | (⟨a, _⟩ | ⟨a, _⟩)
  · exact hp k w i (hE k i a)
  · exact pA_r (A := saL) hp rfl w k i a
  · exact pA_r (A := bpL) hp rfl w k i a
  · exact pA_r (A := mpL) hp rfl w k i a
theorem gm_r {k i : Nat} (m : gmE2 k i = true) : rfR k = true := by
  unfold gmE2 at m
  rw [Bool.or_eq_true, Bool.or_eq_true, Bool.and_eq_true, beq_iff_eq, beq_iff_eq, beq_iff_eq] at m
  rcases m with (m | m) | m
  · rw [m.1]; rfl
  · rw [m]; rfl
  · rw [m]; rfl
/-- a call that makes boards of games -/
theorem rp_g {m : Option (Int32 × Hp)} (hp : hpR c) (h34 : wb 3400 = false) (h11 : ∀ j, wb (11000 + j) = false) (T : TH ρ c h) (r0 : ρ x0 = 16) (P : RfI x0 h) (M : RmR x0 B h) (Z : ∀ Bq, GaY (sqN x0 h) Bq x0 h → Sat m (MkI ρ (cat c (SY gmE2 wb wl) h) lo hi (GaY (sqN x0 h) Bq x0))) : Sat m (RP ρ c x0 B (TpR x0 h)) := by
  obtain ⟨na, ha⟩ := da_i T r0
  obtain ⟨nd, hd⟩ := dd_i T r0
  obtain ⟨ng, hg⟩ := dg_i T r0
  obtain ⟨nf, hf⟩ := df_i T r0
  have N := rm_i M ha hd hg hf
  obtain ⟨B2, G2⟩ := P.2.2.1
  have G : GaY (sqN x0 h) (B.1 - (5 * na + 13 * nd + 5 * nf + d52 x0 h), B.2 - (162 * na + 21170 * nd + 162 * nf + 1500000 * d52 x0 h)) x0 h := ⟨G2.1, fun q eq => by
    obtain ⟨g', eg', qg⟩ := hg
    rw [r_eq eg' eq, qg]
    show _ ≤ B.1 - _ ∧ _ ≤ B.2 - _
    omega⟩
  refine rp_m (sy_r hp (fun k i => gm_r)) T (Z _ G) (fun o ρ1 c1 X T1 f K => ?_)
  have z16 : ∀ {i : Nat}, mS saL 16 i = false → ∀ w, SY gmE2 wb wl 16 w i = false := fun {i} hi w => sy_f (gm_f (by decide)) hi (Or.inl rfl) (Or.inl rfl)
  have zk : ∀ {k : Nat}, (k ≠ 92 ∧ k ≠ 93 ∧ k ≠ 94) → (∀ i, mS saL k i = false) → (∀ i, mS bpL k i = false) → (∀ i, mS mpL k i = false) → ∀ w i, SY gmE2 wb wl k w i = false := fun {k} hk a1 a2 a3 w i => sy_f (gm_f hk) (a1 i) (Or.inl (a2 i)) (Or.inl (a3 i))
  refine ⟨rfi_p T r0 f P (z16 rfl) (z16 rfl) (z16 rfl) (Or.inl (cB_sy nice_gm (fun _ => rfl) (fun _ => rfl) rfl h34)) (Or.inr ⟨_, K⟩) (Or.inl ⟨z16 rfl, z16 rfl, zk (by decide) (fun _ => rfl) (fun _ => rfl) (fun _ => rfl), zk (by decide) (fun _ => rfl) (fun _ => rfl) (fun _ => rfl)⟩) (Or.inl ⟨z16 rfl, z16 rfl⟩) (Or.inl (cF_sy nice_gm (fun k i hk => gm_f (by omega)) (fun i hi => gm_f (by decide)) h11)) (Or.inl (cEn_sy (fun i hi => gm_f (by decide)) (fun k i hk => gm_f (by omega)))) (nog_f T r0 f (z16 rfl) (fun w i hi => sy_f (gm_n hi) rfl (Or.inl rfl) (Or.inl rfl)) P.2.2.2.2.2.2.2), ?_, (fr_RI f r0 (by decide) (z16 rfl)).1⟩
  have ha' := da_f T r0 f (z16 rfl) (zk (by decide) (fun _ => rfl) (fun _ => rfl) (fun _ => rfl)) ha
  have hd' := dd_f T r0 f (z16 rfl) (zk (by decide) (fun _ => rfl) (fun _ => rfl) (fun _ => rfl)) hd
  have hf' := df_f T r0 f (z16 rfl) (zk (by decide) (fun _ => rfl) (fun _ => rfl) (fun _ => rfl)) hf
  have h5 := d52_f r0 f (z16 rfl)
  obtain ⟨ng', hg'⟩ := dg_i T1 (ex_r X r0 (by decide))
  refine rm_o ha' hd' hg' hf' ?_
  obtain ⟨g', eg', qg⟩ := hg'
  have k2 := K.2 g' eg'
  rw [qg] at k2
  have k3 : o.1.1 + 5 * ng' ≤ B.1 - (5 * na + 13 * nd + 5 * nf + d52 x0 h) ∧ o.1.2 + 162 * ng' ≤ B.2 - (162 * na + 21170 * nd + 162 * nf + 1500000 * d52 x0 h) := k2
  rw [h5]
  omega
theorem rw_start (hF : 700000 ≤ F) (hp : hpR c) (T : TH ρ c h) (r0 : ρ x0 = 16) (P : RfI x0 h) (M : RmR x0 B h) : Sat (sX15_start h x0 x1 x2) (RP ρ c x0 B (TpR x0 h)) := by
  obtain ⟨B1, b1⟩ := P.2.1
  exact rp_g (wb := fun w => decide (5000 ≤ w) && decide (w ≤ 7407)) (wl := no) hp rfl (fun j => by simp; omega) T r0 P M (fun Bq G => start_w hF (sx_c _) (th_in _ T) r0 b1 G)
theorem rw_add (hF : 700000 ≤ F) (hp : hpR c) (T : TH ρ c h) (r0 : ρ x0 = 16) (P : RfI x0 h) (M : RmR x0 B h) : Sat (sX15_add F h x0 x1 x2) (RP ρ c x0 B (TpR x0 h)) :=
  rp_g (wb := gmB) (wl := is 2530) hp rfl (fun j => by unfold gmB; simp; omega) T r0 P M (fun Bq G => add_w hF (sx_c _) (th_in _ T) r0 P.1 G)
theorem rw_game (hF : 700000 ≤ F) (hp : hpR c) (T : TH ρ c h) (r0 : ρ x0 = 16) (P : RfI x0 h) (M : RmR x0 B h) : Sat (sX15_game F h x0 x1 x2) (RP ρ c x0 B (TpR x0 h)) :=
  rp_g (wb := is 2528) (wl := g2) hp rfl (fun j => is_f (by omega)) T r0 P M (fun Bq G => game_w hF (sx_c _) (th_in _ T) r0 P.1 G)
theorem rw_book (hF : 700000 ≤ F) (hp : hpR c) (T : TH ρ c h) (r0 : ρ x0 = 16) (P : RfI x0 h) (M : RmR x0 B h) : Sat (sX15_book F h x0 x1 x2) (RP ρ c x0 B (TpR x0 h)) :=
  rp_g (wb := is 2528) (wl := g2) hp rfl (fun j => is_f (by omega)) T r0 P M (fun Bq G => book_w hF (sx_c _) (th_in _ T) r0 (rf_b P) P.1 G)
end
end
section
/-! calls of the reference that make places, boards at a depth, found boards -/
section
variable {zq : Nat} {ρ ρ1 : Nat → Nat} {c c1 : Cm} {h o g : Hp} {S : Nat → Nat → Nat → Bool} {E : Nat → Nat → Bool} {wb wl p : Nat → Bool} {x0 a b k w i F : Nat} {B Bq : Nat × Nat} {lo hi : Int} {x1 x2 x3 x4 x5 : Int32}
/-- a call that makes places -/
theorem rp_b {m : Option (Int32 × Hp)} {R : Hp → Prop} (hs : ∀ k w i, S k w i = true → cPm c k w i = true) (s11 : ∀ w, S 16 w 11 = false) (s12 : ∀ w, S 16 w 12 = false) (s13 : ∀ w, S 16 w 13 = false) (s52 : ∀ w, S 16 w 52 = false) (hG : cG S) (hD : cD S) (hP : cP S) (hF : cF S) (hE : cEn S) (T : TH ρ c h) (r0 : ρ x0 = 16) (P : RfI x0 h) (M : RmR x0 B h) (Z : ∀ Bq, BdY (sqN x0 h) Bq x0 h → Sat m (MkI ρ (cat c S h) lo hi (fun o => BdY (sqN x0 h) Bq x0 o ∧ R o))) {Q : Hp → Prop} (HQ : ∀ o, Fr ρ (cat c S h) h o → R o → Q o) : Sat m (RP ρ c x0 B Q) := by
  obtain ⟨na, ha⟩ := da_i T r0
  obtain ⟨nd, hd⟩ := dd_i T r0
  obtain ⟨ng, hg⟩ := dg_i T r0
  obtain ⟨nf, hf⟩ := df_i T r0
  have N := rm_i M ha hd hg hf
  obtain ⟨B2, G2⟩ := P.2.1
  have G : BdY (sqN x0 h) (B.1 - (5 * ng + 13 * nd + 5 * nf + d52 x0 h), B.2 - (162 * ng + 21170 * nd + 162 * nf + 1500000 * d52 x0 h)) x0 h := ⟨G2.1, G2.2.1, fun q eq => by
    obtain ⟨g', eg', qg⟩ := ha
    rw [r_eq eg' eq, qg]
    show _ ≤ B.1 - _ ∧ _ ≤ B.2 - _
    omega⟩
  refine rp_m hs T (Z _ G) (fun o ρ1 c1 X T1 f K => ?_)
  refine ⟨rfi_p T r0 f P s11 s12 s13 (Or.inr ⟨_, K.1⟩) (Or.inl hG) (Or.inl hD) (Or.inl hP) (Or.inl hF) (Or.inl hE) (nog_f T r0 f hG.1 (fun w i _ => hG.2.1 w i) P.2.2.2.2.2.2.2), ?_, HQ o f K.2⟩
  have hg' := dg_f T r0 f hG.1 hG.2.1 hg
  have hd' := dd_f T r0 f hD.1 hD.2.2.1 hd
  have hf' := df_f T r0 f hF.1.1 hF.1.2.1 hf
  have h5 := d52_f r0 f s52
  obtain ⟨na', ha'⟩ := da_i T1 (ex_r X r0 (by decide))
  refine rm_o ha' hd' hg' hf' ?_
  obtain ⟨g', eg', qg⟩ := ha'
  have k2 := K.1.2.2 g' eg'
  rw [qg] at k2
  have k3 : o.1.1 + 5 * na' ≤ B.1 - (5 * ng + 13 * nd + 5 * nf + d52 x0 h) ∧ o.1.2 + 162 * na' ≤ B.2 - (162 * ng + 21170 * nd + 162 * nf + 1500000 * d52 x0 h) := k2
  rw [h5]
  omega
theorem kp_f {k i : Nat} (h1 : k ≠ 84) (h2 : k ≠ 85) (h3 : k ≠ 16 ∨ i ≠ 16) : kpE k i = false := by
  unfold kpE mS
  show ((84 == k && (999 == 999 || 999 == i)) || ((85 == k && (999 == 999 || 999 == i)) || ((16 == k && (16 == 999 || 16 == i)) || false))) = false
  rw [bq_ne (fun z => h1 z.symm), bq_ne (fun z => h2 z.symm)]
  rcases h3 with z | z
  · rw [bq_ne (fun y => z y.symm)]; rfl
  · have : (16 == i) = false := bq_ne (fun y => z y.symm)
    rw [this]; simp
theorem kp_r {k i : Nat} (m : kpE k i = true) : rfR k = true := by
  obtain ⟨j, hj, _⟩ := mS_ex (show mS [(84, 999), (85, 999), (16, 16)] k i = true from m)
  simp at hj
  rcases hj with z | z | z <;> rw [z.1] <;> rfl
theorem cD_sy (n33 : E 16 33 = false) (n34 : E 16 34 = false) (n90 : ∀ i, E 90 i = false) (n91 : ∀ i, E 91 i = false) : cD (SY E wb wl) := ⟨fun _ => sy_f n33 rfl (Or.inl rfl) (Or.inl rfl), fun _ => sy_f n34 rfl (Or.inl rfl) (Or.inl rfl), fun _ i => sy_f (n90 i) rfl (Or.inl rfl) (Or.inl rfl), fun _ i => sy_f (n91 i) rfl (Or.inl rfl) (Or.inl rfl)⟩
theorem cP_sy (n65 : E 16 65 = false) (n68 : E 16 68 = false) : cP (SY E wb wl) := ⟨fun _ => sy_f n65 rfl (Or.inl rfl) (Or.inl rfl), fun _ => sy_f n68 rfl (Or.inl rfl) (Or.inl rfl)⟩
theorem mk_t {m : Option (Int32 × Hp)} {K : Hp → Prop} (Z : Sat m (MkI ρ c lo hi K)) : Sat m (MkI ρ c lo hi (fun o => K o ∧ True)) := s_imp Z (fun o ⟨ρ', c', X, T, r, k⟩ => ⟨ρ', c', X, T, r, k, trivial⟩)
theorem rw_go (hF : 700000 ≤ F) (hp : hpR c) (T : TH ρ c h) (r0 : ρ x0 = 16) (P : RfI x0 h) (M : RmR x0 B h) : Sat (sX15_go F h x0 x1 x2) (RP ρ c x0 B (TpR x0 h)) :=
  rp_b (S := SY kpE goB (is 2530)) (R := fun _ => True) (sy_r hp (fun k i => kp_r)) (fun _ => sy_f rfl rfl (Or.inl rfl) (Or.inl rfl)) (fun _ => sy_f rfl rfl (Or.inl rfl) (Or.inl rfl)) (fun _ => sy_f rfl rfl (Or.inl rfl) (Or.inl rfl)) (fun _ => sy_f rfl rfl (Or.inl rfl) (Or.inl rfl)) (cG_sy nice_kp (fun _ => rfl) (fun j => by unfold goB; simp; omega)) (cD_sy rfl rfl (fun _ => rfl) (fun _ => rfl)) (cP_sy rfl rfl) (cF_sy nice_kp (fun k i hk => kp_f (by omega) (by omega) (Or.inl (by omega))) (fun i hi => kp_f (by decide) (by decide) (Or.inr (by omega))) (fun j => by unfold goB; simp; omega)) (cEn_sy (fun i hi => kp_f (by decide) (by decide) (Or.inr (by omega))) (fun k i hk => kp_f (by omega) (by omega) (Or.inl (by omega)))) T r0 P M (fun Bq G => mk_t (go_w hF (sx_c _) (th_in _ T) r0 G P.1)) (fun o f _ => (fr_RI f r0 (by decide) (fun _ => sy_f rfl rfl (Or.inl rfl) (Or.inl rfl))).1)
theorem rw_beforeAt (hF : 700000 ≤ F) (hp : hpR c) (T : TH ρ c h) (r0 : ρ x0 = 16) (P : RfI x0 h) (M : RmR x0 B h) : Sat (sX15_beforeAt F h x0 x1) (RP ρ c x0 B (TpR x0 h)) := by
  obtain ⟨B6, p6⟩ := P.2.2.2.2.2.1
  have ob : ∀ w, w ≠ 3400 → ∀ k i, (k = 13 ∨ k = 62 ∨ k = 63 ∨ k = 64) → fS kpL [(3400, bpL)] k w i = false := fun w hw k i hk => fs_cf (Or.inr hw) (by rcases hk with z | z | z | z <;> subst z <;> rfl)
  refine rp_b (S := fS kpL [(3400, bpL)]) (R := fun o => ∃ B, FdPY (sqN x0 h) B x0 o) (fs_r hp rfl) (fun _ => rfl) (fun _ => rfl) (fun _ => rfl) (fun _ => rfl) ⟨fun _ => rfl, fun _ _ => rfl, fun j _ => ⟨fun i _ => ob _ (by omega) _ _ (by omega), fun i => ob _ (by omega) _ _ (by omega), fun i => ob _ (by omega) _ _ (by omega), fun i => ob _ (by omega) _ _ (by omega)⟩⟩ ⟨fun _ => rfl, fun _ => rfl, fun _ _ => rfl, fun _ _ => rfl⟩ ⟨fun _ => rfl, fun _ => rfl⟩ ⟨ks_kpY.1, ks_kpY.2.1, ks_kpY.2.2.1, ks_kpY.2.2.2.1⟩ ⟨fun _ => rfl, fun _ => rfl, fun _ => rfl, fun _ => rfl, fun _ => rfl, fun _ => rfl, fun _ => rfl, fun _ => rfl, fun _ => rfl, fun _ _ => rfl, fun _ _ => rfl, fun _ _ => rfl, fun _ _ => rfl, fun _ _ => rfl⟩ T r0 P M (fun Bq G => beforeAt_w hF fs_a (fs_o (.head _)) (th_in _ T) r0 G p6) (fun o f _ => (fr_RI f r0 (by decide) (fun _ => rfl)).1)
/-- now: places and games -/
theorem rw_now (hF : 700000 ≤ F) (hp : hpR c) (T : TH ρ c h) (r0 : ρ x0 = 16) (P : RfI x0 h) (M : RmR x0 B h) : Sat (sX15_now F h x0 x1) (RP ρ c x0 B (TpR x0 h)) := by
  obtain ⟨na, ha⟩ := da_i T r0
  obtain ⟨nd, hd⟩ := dd_i T r0
  obtain ⟨ng, hg⟩ := dg_i T r0
  obtain ⟨nf, hf⟩ := df_i T r0
  have N := rm_i M ha hd hg hf
  have K0 : BG (sqN x0 h) (B.1 - (13 * nd + 5 * nf + d52 x0 h), B.2 - (21170 * nd + 162 * nf + 1500000 * d52 x0 h)) x0 h := ⟨P.2.1, P.2.2.1, fun r q er eq => by
    obtain ⟨a', ea', qa⟩ := ha
    obtain ⟨g', eg', qg⟩ := hg
    rw [r_eq ea' er, r_eq eg' eq, qa, qg]
    show _ ≤ B.1 - _ ∧ _ ≤ B.2 - _
    omega⟩
  have nE : ∀ {k i : Nat}, kpE k i = false → k ≠ 92 → (fun k i => kpE k i || (k == 92 && decide (i ≤ 2407))) k i = false := fun {k i} z n => by show (kpE k i || (k == 92 && decide (i ≤ 2407))) = false; rw [z, bq_ne n]; rfl
  have sy : ∀ {k w i : Nat}, kpE k i = false → k ≠ 92 → mS saL k i = false → (mS bpL k i = false ∨ is 3400 w = false) → mS mpL k i = false → SY (fun k i => kpE k i || (k == 92 && decide (i ≤ 2407))) (is 3400) no k w i = false := fun z n a b c => sy_f (nE z n) a b (Or.inl c)
  have z16 : ∀ {i : Nat}, i ≠ 16 → mS saL 16 i = false → ∀ w, SY (fun k i => kpE k i || (k == 92 && decide (i ≤ 2407))) (is 3400) no 16 w i = false := fun {i} hi m w => sy (kp_f (by decide) (by decide) (Or.inr hi)) (by decide) m (Or.inl rfl) rfl
  have zk : ∀ {k : Nat}, (k ≠ 84 ∧ k ≠ 85 ∧ k ≠ 92 ∧ k ≠ 16) → (∀ i, mS saL k i = false) → (∀ i, mS bpL k i = false) → (∀ i, mS mpL k i = false) → ∀ w i, SY (fun k i => kpE k i || (k == 92 && decide (i ≤ 2407))) (is 3400) no k w i = false := fun {k} hk a1 a2 a3 w i => sy (kp_f hk.1 hk.2.1 (Or.inl hk.2.2.2)) hk.2.2.1 (a1 i) (Or.inl (a2 i)) (a3 i)
  have bo : ∀ w, w ≠ 3400 → bdO (SY (fun k i => kpE k i || (k == 92 && decide (i ≤ 2407))) (is 3400) no) w := fun w hw => ⟨fun i _ => sy (kp_f (by decide) (by decide) (Or.inl (by decide))) (by decide) rfl (Or.inr (is_f hw)) rfl, fun i => sy (kp_f (by decide) (by decide) (Or.inl (by decide))) (by decide) rfl (Or.inr (is_f hw)) rfl, fun i => sy (kp_f (by decide) (by decide) (Or.inl (by decide))) (by decide) rfl (Or.inr (is_f hw)) rfl, fun i => sy (kp_f (by decide) (by decide) (Or.inl (by decide))) (by decide) rfl (Or.inr (is_f hw)) rfl⟩
  refine rp_m (S := SY (fun k i => kpE k i || (k == 92 && decide (i ≤ 2407))) (is 3400) no) (sy_r hp (fun k i z => by
    rw [Bool.or_eq_true, Bool.and_eq_true, beq_iff_eq] at z
    rcases z with z | z
    · exact kp_r z
    · rw [z.1]; rfl)) T (now_w hF (sx_c _) (th_in _ T) r0 K0) (fun o ρ1 c1 X T1 f K => ?_)
  have cd : cD (SY (fun k i => kpE k i || (k == 92 && decide (i ≤ 2407))) (is 3400) no) := ⟨z16 (by decide) rfl, z16 (by decide) rfl, zk (by decide) (fun _ => rfl) (fun _ => rfl) (fun _ => rfl), zk (by decide) (fun _ => rfl) (fun _ => rfl) (fun _ => rfl)⟩
  have cf : cF (SY (fun k i => kpE k i || (k == 92 && decide (i ≤ 2407))) (is 3400) no) := ⟨⟨z16 (by decide) rfl, zk (by decide) (fun _ => rfl) (fun _ => rfl) (fun _ => rfl), fun j => by
    obtain ⟨a1, a2, a3, a4⟩ := bo (11000 + j) (by omega)
    exact ⟨fun i hi => a1 i (by omega), a2, a3, a4⟩⟩, ⟨z16 (by decide) rfl, zk (by decide) (fun _ => rfl) (fun _ => rfl) (fun _ => rfl)⟩, ⟨z16 (by decide) rfl, zk (by decide) (fun _ => rfl) (fun _ => rfl) (fun _ => rfl)⟩, z16 (by decide) rfl⟩
  have ce : cEn (SY (fun k i => kpE k i || (k == 92 && decide (i ≤ 2407))) (is 3400) no) := ⟨z16 (by decide) rfl, z16 (by decide) rfl, z16 (by decide) rfl, z16 (by decide) rfl, z16 (by decide) rfl, z16 (by decide) rfl, z16 (by decide) rfl, z16 (by decide) rfl, z16 (by decide) rfl, zk (by decide) (fun _ => rfl) (fun _ => rfl) (fun _ => rfl), zk (by decide) (fun _ => rfl) (fun _ => rfl) (fun _ => rfl), zk (by decide) (fun _ => rfl) (fun _ => rfl) (fun _ => rfl), zk (by decide) (fun _ => rfl) (fun _ => rfl) (fun _ => rfl), zk (by decide) (fun _ => rfl) (fun _ => rfl) (fun _ => rfl)⟩
  refine ⟨rfi_p T r0 f P (z16 (by decide) rfl) (z16 (by decide) rfl) (z16 (by decide) rfl) (Or.inr K.1) (Or.inr K.2.1) (Or.inl cd) (Or.inl ⟨z16 (by decide) rfl, z16 (by decide) rfl⟩) (Or.inl cf) (Or.inl ce) (nog_f T r0 f (z16 (by decide) rfl) (fun w i hi => sy_f (show (kpE 92 i || (92 == 92 && decide (i ≤ 2407))) = false by rw [decide_eq_false (show ¬ i ≤ 2407 by omega), kp_f (by decide) (by decide) (Or.inl (by decide))]; rfl) rfl (Or.inl rfl) (Or.inl rfl)) P.2.2.2.2.2.2.2), ?_, (fr_RI f r0 (by decide) (z16 (by decide) rfl)).1⟩
  have hd' := dd_f T r0 f cd.1 cd.2.2.1 hd
  have hf' := df_f T r0 f cf.1.1 cf.1.2.1 hf
  have h5 := d52_f r0 f (z16 (by decide) rfl)
  obtain ⟨na', ha'⟩ := da_i T1 (ex_r X r0 (by decide))
  obtain ⟨ng', hg'⟩ := dg_i T1 (ex_r X r0 (by decide))
  refine rm_o ha' hd' hg' hf' ?_
  obtain ⟨a', ea', qa⟩ := ha'
  obtain ⟨g', eg', qg⟩ := hg'
  have k2 := K.2.2 a' g' ea' eg'
  rw [qa, qg] at k2
  have k3 : o.1.1 + 5 * na' + 5 * ng' ≤ B.1 - (13 * nd + 5 * nf + d52 x0 h) ∧ o.1.2 + 162 * na' + 162 * ng' ≤ B.2 - (21170 * nd + 162 * nf + 1500000 * d52 x0 h) := k2
  rw [h5]
  omega
end
end
