section
variable {ρ : Nat → Nat} {c : Cm} {h o : Hp} {F x0 b l d i : Nat} {x1 x2 x3 x4 : Int32} {p wb wl : Nat → Bool}
theorem pb_keep (r0 : ρ x0 = 16) (f : Fr ρ (cat c (SX p wb wl) h) h o) (P : PbP x0 h) : PbP x0 o := by
  unfold PbP
  rw [(fr_RI f r0 (by decide) (fun _ => sx_f (Or.inl rfl) rfl (Or.inl rfl) (Or.inl rfl)) : hI o x0 65 = _ ∧ _).1, (fr_RI f r0 (by decide) (fun _ => sx_f (Or.inl rfl) rfl (Or.inl rfl) (Or.inl rfl)) : hI o x0 68 = _ ∧ _).1]
  exact P
theorem pb_of (e : 1 ≤ (hI h x0 68).toInt) : PbP x0 h := fun _ => e
theorem f68 (r0 : ρ x0 = 16) (f : Fr ρ (cat c (SX p wb wl) h) h o) : hI o x0 68 = hI h x0 68 := (fr_RI f r0 (by decide) (fun _ => sx_f (Or.inl rfl) rfl (Or.inl rfl) (Or.inl rfl))).1
theorem f70 (r0 : ρ x0 = 16) (f : Fr ρ (cat c (SX p wb wl) h) h o) : hI o x0 70 = hI h x0 70 := (fr_RI f r0 (by decide) (fun _ => sx_f (Or.inl rfl) rfl (Or.inl rfl) (Or.inl rfl))).1
theorem f64 (r0 : ρ x0 = 16) (f : Fr ρ (cat c (SX p wb wl) h) h o) : hI o x0 64 = hI h x0 64 := (fr_RI f r0 (by decide) (fun _ => sx_f (Or.inl rfl) rfl (Or.inl rfl) (Or.inl rfl))).1
theorem s_f16 {β : Type} {Q : β → Prop} {j : Nat} {v : Int32} {lo hi : Int} {k : Hp → Option β} (hq : cPm c 16 (cw c x0) j = true) (hj : 64 ≤ j) (h9 : j ≠ 999) (hr : rgI 16 j = (lo, hi)) (iv : Rg lo hi v) (hrp : rP (c.2.1 50) (cw c x0) 16 j v) (T : TH ρ c h) (r0 : ρ x0 = 16) (W : DW x0 h) (B : BK x0 i b h) (H : ∀ g, TH ρ c g → g = wI h x0 j v → DW x0 g → BK x0 i b g → Sat (k g) Q) : Sat (nm (wI h x0 j v) k) Q := by
  refine s_hq (th_wI T r0 hr iv (by decide) (by decide) hq hrp) (fun g Tg eg => ?_)
  have fg := fr1I (c := c) (A := [(16, j)]) (k := 16) (i := j) r0 (by show ((16 == 16 && (j == 999 || j == j)) || false) = true; simp) eg
  exact H g Tg eg (dw_w (a16 hj h9) T r0 fg W) (bk_w (a16 hj h9) T r0 fg B)
theorem prob_loop (hF : 700000 ≤ F) : ∀ (f : Nat) {ρ : Nat → Nat} {c : Cm} {h : Hp} {b l : Nat} {x2 x3 x4 x6 x7 : Int32}, (∀ k w i, SD 1 k w i = true → cPm c k w i = true) → pmA c [(16, 70), (111, 999)] → TH ρ c h → ρ x0 = 16 → Rg 1 4 x4 → DW x0 h → DQ x0 0 b l h → 1 ≤ (hI h x0 68).toInt → 0 ≤ x7.toInt → (hI h x0 70).toInt ≤ x7.toInt → (3000 - x7.toInt).toNat < f → Sat (sX15_problem_197 F f h x0 x2 x3 x4 x6 x7) (MkI ρ c (-2147483648) 2147483647 (fun o => DW x0 o ∧ PbP x0 o)) := by
  intro f
  induction f with
  | zero => intros; omega
  | succ f ih =>
    intro ρ c h b l x2 x3 x4 x6 x7 hp hq T r0 i4 W D n68 a7 k7 hf
    rw [sX15_problem_197]
    have i0 : Rg 0 9 (0 : Int32) := rg_b rfl
    have zz : (0 : Int32).toInt = 0 := rfl
    refine s_list T r0 i0 (b := b) (l := l) D.1 ?_
    refine s_br (fun _ => s_some ⟨ρ, c, ex_0, T, rg_top _, W, pb_of n68⟩) (fun n1 => ?_)
    have lt7 := nle_i n1
    obtain ⟨k1, k2, k3, k4⟩ := dp_r T r0 D.1
    have h3000 := thI T k2 (k := 14) (i := 0) (lo := 0) (hi := 3000) rfl
    have ix : Rg 0 2999 x7 := ⟨a7, by have := h3000.2; omega⟩
    have b4 := i4.2
    have a4 := i4.1
    have goon : ∀ {ρ2 : Nat → Nat} {c2 : Cm} {g : Hp} {y : Int32}, Ext ρ c ρ2 c2 → TH ρ2 c2 g → DW x0 g → DQ x0 0 b l g → hI g x0 68 = hI h x0 68 → hI g x0 70 = hI h x0 70 → Sat (sX15_problem_270 F (sX15_problem_197 F f) g x0 x2 x3 x4 x6 x7 y) (MkI ρ c (-2147483648) 2147483647 (fun o => DW x0 o ∧ PbP x0 o)) := fun {ρ2 c2 g y} Y T2 W2 D2 e68 e70 => by
      have r2 := ex_r Y r0 (by decide)
      have hq2 := ex_A Y hq
      have hp2 := ex_hp Y hp
      unfold sX15_problem_270 sX15_problem_305
      refine s_q (fun u eu => ?_)
      have nxt : ∀ v : Int32, v = x7 + (1 : Int32) → v.toInt = x7.toInt + 1 := fun v ev => by rw [ev]; exact (nc_s ix (by decide)).2
      refine s_br (fun _ => ?_) (fun _ => ?_)
      · refine s_q (fun v ev => ?_)
        have ev2 := nxt v ev
        exact mI_ext Y (ih hp2 hq2 T2 r2 i4 W2 D2 (by rw [e68]; exact n68) (by omega) (by rw [e70]; omega) (by have := ix.2; omega))
      · obtain ⟨r, er, qr⟩ := thR T2 r2 (i := 69) (k2 := 111) rfl (by decide)
        refine s_ref er ?_
        have g70 := thI T2 r2 (k := 16) (i := 70) (lo := 0) (hi := 3000) rfl
        have j70 : Rg 0 2999 (hI g x0 70) := ⟨g70.1, by rw [e70]; have := ix.2; omega⟩
        refine s_gd (by rw [thN T2 qr (k := 111) (n := 3000) rfl (by decide)]; exact rg_inB j70 (by decide)) ?_
        refine s_hq (th_wI T2 qr (k := 111) (lo := 0) (hi := 2999) rfl ix (by decide) (by decide) (pm_a hq2 rfl)) (fun g5 T5 e5 => ?_)
        have f5 := fr1I (c := c2) (A := [(111, 999)]) (k := 111) qr rfl e5
        have m70 : hI g5 x0 70 = hI g x0 70 := by rw [e5, r_I, if_neg (ne_r r2 qr (by decide))]
        have m68 : hI g5 x0 68 = hI g x0 68 := by rw [e5, r_I, if_neg (ne_r r2 qr (by decide))]
        have W5 := dw_w a111 T2 r2 f5 W2
        have D5 := dq_w a111 T2 r2 f5 D2
        refine s_hq (th_wI T5 r2 (k := 16) (i := 70) (lo := 0) (hi := 3000) rfl (rg_add (by rw [m70]; exact j70) (rg_b rfl : Rg 1 1 (1 : Int32)) (by decide)) (by decide) (by decide) (pm_a hq2 rfl)) (fun g6 T6 e6 => ?_)
        have f6 := fr1I (c := c2) (A := [(16, 70)]) (k := 16) (i := 70) r2 rfl e6
        have W6 := dw_w (a16 (by decide) (by decide)) T5 r2 f6 W5
        have D6 := dq_w (a16 (by decide) (by decide)) T5 r2 f6 D5
        have l68 : hI g6 x0 68 = hI h x0 68 := by rw [e6, r_I, if_neg (fun z => absurd z.2 (by decide)), m68, e68]
        have l70 : (hI g6 x0 70).toInt = (hI h x0 70).toInt + 1 := by
          rw [he_s e6, m70, (nc_s j70 (by decide)).2, e70]
        refine s_q (fun v ev => ?_)
        have ev2 := nxt v ev
        exact mI_ext Y (ih hp2 hq2 T6 r2 i4 W6 D6 (by rw [l68]; exact n68) (by omega) (by omega) (by have := ix.2; omega))
    refine s_br (fun _ => ?_) (fun _ => ?_)
    · refine s_mI (S := SD 1) T hp (zX15_isMove (d := 0) hF (sx_c _) (th_in _ T) r0 rfl (by decide) (by omega) (by rw [zz]; omega) W D a7 lt7) (fun o1 ρ1 c1 X T1 f1 j1 W1 => ?_)
      obtain ⟨D1, e1⟩ := dq_keep T r0 f1 (by decide) D
      unfold sX15_problem_262
      exact s_br (fun _ => goon X T1 W1 D1 (f68 r0 f1) (f70 r0 f1)) (fun _ => goon X T1 W1 D1 (f68 r0 f1) (f70 r0 f1))
    · have by' : ∀ {k s : Int32}, 1 ≤ k.toInt → k.toInt ≤ 8 → Sat (sX15_problem_244 F (sX15_problem_197 F f) h x0 x2 x3 x4 x6 x7 s k x7 (0 : Int32) x0) (MkI ρ c (-2147483648) 2147483647 (fun o => DW x0 o ∧ PbP x0 o)) := fun {k s} ka kb => by
        unfold sX15_problem_244 sX15_problem_248
        refine s_mI (S := SD 1) T hp (zX15_goalRowsBy (d := 0) hF (sx_c _) (th_in _ T) r0 rfl (by decide) ka (by rw [zz]; omega) W D a7 lt7) (fun o1 ρ1 c1 X T1 f1 j1 W1 => ?_)
        obtain ⟨D1, e1⟩ := dq_keep T r0 f1 (by decide) D
        exact goon X T1 W1 D1 (f68 r0 f1) (f70 r0 f1)
      have e2 : ((2 : Int32) * x4).toInt = 2 * x4.toInt := ti_mulc' i4 (rg_b rfl : Rg 2 2 (2 : Int32)) (by decide)
      unfold sX15_problem_234
      exact s_br (fun _ => s_br (fun _ => by' (by omega) (by omega)) (fun _ => by' (by omega) (by omega))) (fun _ => s_br (fun _ => by' (by omega) (by omega)) (fun _ => by' (by omega) (by omega)))
def SP : Nat → Nat → Nat → Bool := SX (SDp 0) (SDb 0) (fun w => SDl 0 w || w == 2530)
theorem zX15_problem (hF : 700000 ≤ F) (hp : ∀ k w i, SP k w i = true → cPm c k w i = true) (hq : pmA c [(16, 64), (16, 65), (16, 66), (16, 67), (16, 68), (16, 70), (111, 999)]) (T : TH ρ c h) (r0 : ρ x0 = 16) (bd : BdP x0 h) (W : DW x0 h) (pb : PbP x0 h) : Sat (sX15_problem F h x0 x1 x2 x3 x4) (MkI ρ c (-2147483648) 2147483647 (fun o => DW x0 o ∧ PbP x0 o)) := by
  unfold sX15_problem sX15_problem_30
  have ex : Sat (some ((-101 : Int32), h)) (MkI ρ c (-2147483648) 2147483647 (fun o => DW x0 o ∧ PbP x0 o)) := s_some ⟨ρ, c, ex_0, T, rg_top _, W, pb⟩
  refine s_br (fun _ => ex) (fun n1 => ?_)
  refine s_br (fun _ => ex) (fun n2 => ?_)
  refine s_br (fun _ => ex) (fun n3 => ?_)
  refine s_br (fun _ => ex) (fun n4 => ?_)
  refine s_br (fun _ => ex) (fun n5 => ?_)
  refine s_br (fun n6 => ?_) (fun _ => ex)
  have j2 : Rg 0 3 x2 := ⟨nlt_i n1, nlt_i n2⟩
  have j3 : Rg 0 2 x3 := ⟨nlt_i n3, nlt_i n4⟩
  have j4 : Rg 1 4 x4 := ⟨nlt_i n5, le_i n6⟩
  have hp0 : ∀ k w i, SD 0 k w i = true → cPm c k w i = true := fun k w i m => hp k w i (sx_sub (fun _ z => z) (fun _ z => z) (fun _ z => by rw [z]; rfl) m)
  have hs : ∀ k w i, SX no (is 2528) (is 2530) k w i = true → cPm c k w i = true := fun k w i m => hp k w i (sx_sub (fun _ z => no_f z) (fun w z => by rw [is_e z]; rfl) (fun w z => by rw [is_e z]; rfl) m)
  refine s_cIfq T hs (zX15_moves hF (pmA_s (sxA (sx_c _)) rfl) (pmO_s (sxB (sx_c _) rfl) rfl) (pmO_s (sxM (sx_c _) rfl) rfl) (th_in _ T) r0 (rg_top _) bd W.1) (fun o1 T1 i1 f1 p1 => ?_)
  have W1 := dw_keep0 T r0 f1 W
  have pb1 := pb_keep r0 f1 pb
  unfold sX15_problem_38
  refine s_br (fun _ => s_some ⟨ρ, c, ex_0, T1, rg_top _, W1, pb1⟩) (fun nz => ?_)
  have nz' : ¬ o1.1.toInt = -102 := ne_i nz
  have ip : Rg 0 59 x1 := p1.1.resolve_left nz'
  obtain ⟨b, B1⟩ := bk_of T1 r0 (mp_hb (p1.2 nz'))
  obtain ⟨kb, wb'⟩ := bk_r T1 r0 B1
  refine s_bk T1 r0 ip B1 ?_
  obtain ⟨ls, els, qls⟩ := thR T1 r0 (i := 30) (k2 := 14) rfl (by decide)
  refine s_ref els ?_
  have hn : ∀ k w i, SX no no no k w i = true → cPm c k w i = true := fun k w i m => hp k w i (sx_sub (fun _ z => no_f z) (fun _ z => no_f z) (fun _ z => no_f z) m)
  refine s_cIf T1 hn (zX15_endedBy hF (pmA_s (sxA (sx_c _)) rfl) rfl (th_in _ T1) r0 kb (thI T1 qls (k := 14) (i := 0) (lo := 0) (hi := 3000) rfl)) (fun o2 T2 i2 f2 => ?_)
  have W2 := dw_keep0 T1 r0 f2 W1
  have pb2 := pb_keep r0 f2 pb1
  have B2 := bk_keep T1 r0 f2 rfl B1
  have main : ∀ {t s : Int32}, t.toInt ≤ 9 → Sat (sX15_problem_117 F o2.2 x0 x1 x2 x3 x4 s t b x0) (MkI ρ c (-2147483648) 2147483647 (fun o => DW x0 o ∧ PbP x0 o)) := fun {t s} ht => by
    unfold sX15_problem_117
    have PB : PE b o2.2 := by obtain ⟨_, _, _, q⟩ := B2; exact q
    refine s_mI (S := SD 0) T2 hp0 (zX15_isRoom hF (sx_c _) (th_in _ T2) r0 kb wb' ht W2 PB) (fun o3 ρ3 c3 X3 T3 f3 i3 W3 => ?_)
    have B3 := bk_keep T2 r0 f3 rfl B2
    have r3 := ex_r X3 r0 (by decide)
    have hp3 := ex_hp X3 hp0
    have hq3 := ex_A X3 hq
    unfold sX15_problem_120
    refine s_br (fun _ => s_some ⟨ρ3, c3, X3, T3, rg_top _, W3, pb_keep r0 f3 pb2⟩) (fun _ => ?_)
    refine s_f16 (lo := 0) (hi := 59) (pm_a hq3 rfl) (by decide) (by decide) rfl ip (rp0 rfl) T3 r3 W3 B3 (fun g4 T4 e4 W4 B4 => ?_)
    obtain ⟨se, ese, qse⟩ := thR T4 r3 (i := 15) (k2 := 85) rfl (by decide)
    refine s_ref ese ?_
    refine s_gd (by rw [thN T4 qse (k := 85) (n := 60) rfl (by decide)]; exact rg_inB ip (by decide)) ?_
    refine s_f16 (lo := -2147483648) (hi := 2147483647) (pm_a hq3 rfl) (by decide) (by decide) rfl (rg_top _) (rp0 rfl) T4 r3 W4 B4 (fun g5 T5 e5 W5 B5 => ?_)
    refine s_f16 (lo := 0) (hi := 3) (pm_a hq3 rfl) (by decide) (by decide) rfl j2 (rp0 rfl) T5 r3 W5 B5 (fun g6 T6 e6 W6 B6 => ?_)
    refine s_f16 (lo := 0) (hi := 2) (pm_a hq3 rfl) (by decide) (by decide) rfl j3 (rp0 rfl) T6 r3 W6 B6 (fun g7 T7 e7 W7 B7 => ?_)
    refine s_f16 (lo := 0) (hi := 4) (pm_a hq3 rfl) (by decide) (by decide) rfl (rg_m j4 (by decide)) (rp0 rfl) T7 r3 W7 B7 (fun g8 T8 e8 W8 B8 => ?_)
    refine s_f16 (lo := 0) (hi := 3000) (pm_a hq3 rfl) (by decide) (by decide) rfl (rg_b rfl) (rp0 rfl) T8 r3 W8 B8 (fun g9 T9 e9 W9 B9 => ?_)
    have m68 : hI g9 x0 68 = x4 := by rw [e9, r_I, if_neg (fun z => absurd z.2 (by decide)), he_s e8]
    have m70 : hI g9 x0 70 = 0 := he_s e9
    refine s_deep hp3 (sdp_t (Nat.zero_le _)) T9 r3 (rg_b rfl) W9 (fun oa ρa ca la Xa Ta fa Wa Da => ?_)
    have Ba := bk_keep T9 r3 fa rfl B9
    have ra := ex_r Xa r3 (by decide)
    have hpa := ex_hp Xa hp3
    have hqa := ex_A Xa hq3
    unfold sX15_problem_167
    refine s_bk Ta ra ip Ba ?_
    refine s_first hF hpa rfl Ta ra Wa Da Ba (fun ob Tb fb Wb Db Pb Bb => ?_)
    unfold sX15_problem_176
    refine s_deep0 Tb ra (rg_b rfl) (b := oa.1) (l := la) Db ?_
    unfold sX15_problem_182
    refine s_list Tb ra (rg_b rfl) (b := oa.1) (l := la) Db ?_
    refine s_legal hF hpa rfl rfl Tb ra Wb Db Pb (fun oc Tc fc Wc Dc Pc Mc => ?_)
    unfold sX15_problem_191
    have n68 : hI oc x0 68 = x4 := by rw [f68 ra fc, f68 ra fb, f68 r3 fa, m68]
    have n70 : hI oc x0 70 = 0 := by rw [f70 ra fc, f70 ra fb, f70 r3 fa, m70]
    exact mI_ext (ex_t X3 Xa) (prob_loop hF F (fun k w i m => hpa k w i (sd_sub (Nat.zero_le _) m)) (pmA_s hqa rfl) Tc ra j4 Wc ⟨Dc, Pc, Mc⟩ (by rw [n68]; exact j4.1) (by decide) (by rw [n70]; decide) (by show (3000 - (0 : Int)).toNat < F; omega))
  have b4 := j4.2
  have a4 := j4.1
  have e2 : ((2 : Int32) * x4).toInt = 2 * x4.toInt := ti_mulc' j4 (rg_b rfl : Rg 2 2 (2 : Int32)) (by decide)
  have e1 : (((2 : Int32) * x4) - (1 : Int32)).toInt = 2 * x4.toInt - 1 := by
    rw [ti_sub (a := 0) (b := 8) (c := 1) (d := 1) ⟨by omega, by omega⟩ (rg_b rfl) (by decide), e2]; rfl
  have main2 : ∀ {t : Int32}, t.toInt ≤ 9 → Sat (sX15_problem_96 F o2.2 x0 x1 x2 x3 x4 t) (MkI ρ c (-2147483648) 2147483647 (fun o => DW x0 o ∧ PbP x0 o)) := fun {t} ht => by
    unfold sX15_problem_96
    refine s_bk T2 r0 ip B2 ?_
    exact s_br (fun _ => main ht) (fun _ => main ht)
  unfold sX15_problem_63
  exact s_br (fun _ => s_br (fun _ => main2 (by omega)) (fun _ => s_br (fun _ => main2 (by omega)) (fun _ => main2 (by omega)))) (fun _ => s_some ⟨ρ, c, ex_0, T2, rg_top _, W2, pb2⟩)
theorem ref_loop (hF : 700000 ≤ F) : ∀ (f : Nat) {ρ : Nat → Nat} {c : Cm} {h : Hp} {b l : Nat} {x2 x3 : Int32}, (∀ k w i, SD 2 k w i = true → cPm c k w i = true) → TH ρ c h → ρ x0 = 16 → DW x0 h → DQ x0 1 b l h → 1 ≤ (hI h x0 68).toInt → 0 ≤ x3.toInt → (3000 - x3.toInt).toNat < f → Sat (sX15_refutes_107 F f h x0 x2 x3) (MkI ρ c (-2147483648) 2147483647 (DW x0)) := by
  intro f
  induction f with
  | zero => intros; omega
  | succ f ih =>
    intro ρ c h b l x2 x3 hp T r0 W D n68 a3 hf
    rw [sX15_refutes_107]
    unfold sX15_refutes_139 sX15_refutes_147
    have i1 : Rg 0 9 (1 : Int32) := rg_b rfl
    have one : (1 : Int32).toInt = 1 := rfl
    refine s_list T r0 i1 (b := b) (l := l) D.1 ?_
    refine s_br (fun _ => s_some ⟨ρ, c, ex_0, T, rg_top _, W⟩) (fun n1 => ?_)
    have lt3 := nle_i n1
    obtain ⟨k1, k2, k3, k4⟩ := dp_r T r0 D.1
    have h3000 := thI T k2 (k := 14) (i := 0) (lo := 0) (hi := 3000) rfl
    have ix : Rg 0 2999 x3 := ⟨a3, by have := h3000.2; omega⟩
    have i68 := thI T r0 (k := 16) (i := 68) (lo := 0) (hi := 4) rfl
    refine s_mI (S := SD 2) T hp (zX15_isAnswered (d := 1) hF (sx_c _) (th_in _ T) r0 rfl (by decide) n68 (by rw [one]; have := i68.2; omega) W D a3 lt3) (fun o1 ρ1 c1 X T1 f1 j1 W1 => ?_)
    obtain ⟨D1, e1⟩ := dq_keep T r0 f1 (by decide) D
    have go : ∀ t : Int32, Sat (nm (x2 + t) fun v_1 => nm (x3 + (1 : Int32)) fun v_2 => sX15_refutes_107 F f o1.2 x0 v_1 v_2) (MkI ρ c (-2147483648) 2147483647 (DW x0)) := fun t => by
      refine s_q (fun u eu => ?_)
      refine s_q (fun v ev => ?_)
      have ev2 : v.toInt = x3.toInt + 1 := by rw [ev]; exact (nc_s ix (by decide)).2
      exact mI_ext X (ih (ex_hp X hp) T1 (ex_r X r0 (by decide)) W1 D1 (by rw [f68 r0 f1]; exact n68) (by omega) (by have := ix.2; omega))
    exact s_br (fun _ => go 1) (fun _ => go 0)
theorem zX15_refutes (hF : 700000 ≤ F) (hp : ∀ k w i, SD 0 k w i = true → cPm c k w i = true) (T : TH ρ c h) (r0 : ρ x0 = 16) (bd : BdP x0 h) (W : DW x0 h) (pb : PbP x0 h) : Sat (sX15_refutes F h x0 x1) (MkI ρ c (-2147483648) 2147483647 (DW x0)) := by
  unfold sX15_refutes
  refine s_dI0 (zX15_isProblem hF T r0) (fun o1 e1 q1 i1 => ?_)
  rw [q1]
  unfold sX15_refutes_4 sX15_refutes_15
  have ex : ∀ {y : Int32}, Sat (some (y, h)) (MkI ρ c (-2147483648) 2147483647 (DW x0)) := s_some ⟨ρ, c, ex_0, T, rg_top _, W⟩
  refine s_br (fun _ => ex) (fun nz => ?_)
  refine s_br (fun _ => ?_) (fun _ => ex)
  -- the problem's place
  have i64 := thI T r0 (k := 16) (i := 64) (lo := 0) (hi := 59) rfl
  have key : 1 ≤ (hI h x0 68).toInt ∧ ∃ b, BK x0 (hI h x0 64).toNatClampNeg b h := by
    unfold sX15_isProblem sX15_isProblem_27 sX15_isProblem_28 at e1
    rcases br_s e1 with ⟨_, e⟩ | ⟨c1, e⟩
    · exact absurd (by rw [← Option.some.inj (gd_s e).2]) nz
    obtain ⟨s, es, e⟩ := cl_s e
    replace e := (gd_s e).2
    rcases br_s e with ⟨c2, e⟩ | ⟨c2, e⟩
    · refine ⟨pb c1, ?_⟩
      obtain ⟨q1, f1, g1⟩ := thR T r0 (i := 14) (k2 := 84) rfl (by decide)
      obtain ⟨b, eb, P⟩ := bd.1 q1 s f1 es (hI h x0 64).toNatClampNeg (by have := nc_i i64.1; have := i64.2; omega) (by rw [c2]; exact c1)
      exact ⟨b, q1, f1, eb, P⟩
    · exact absurd (by rw [← Option.some.inj (gd_s e).2]) nz
  obtain ⟨n68, b, B⟩ := key
  refine s_deep hp (sdp_t (Nat.zero_le _)) T r0 (rg_b rfl) W (fun o2 ρ2 c2 l2 X2 T2 f2 W2 D2 => ?_)
  have B2 := bk_keep T r0 f2 rfl B
  have r2 := ex_r X2 r0 (by decide)
  have hp2 := ex_hp X2 hp
  rw [← f64 r0 f2] at B2
  unfold sX15_refutes_22
  refine s_bk T2 r2 (by rw [f64 r0 f2]; exact i64) B2 ?_
  refine s_first hF hp2 rfl T2 r2 W2 D2 B2 (fun o3 T3 f3 W3 D3 P3 B3 => ?_)
  unfold sX15_refutes_34
  refine s_deep0 T3 r2 (rg_b rfl) (b := o2.1) (l := l2) D3 ?_
  unfold sX15_refutes_40
  refine s_list T3 r2 (rg_b rfl) (b := o2.1) (l := l2) D3 ?_
  refine s_legal hF hp2 rfl rfl T3 r2 W3 D3 P3 (fun o4 T4 f4 W4 D4 P4 M4 => ?_)
  have k4 : hI o4 x0 68 = hI h x0 68 := by rw [f68 r2 f4, f68 r2 f3, f68 r0 f2]
  unfold sX15_refutes_49 sX15_refutes_66
  refine s_br (fun _ => s_some ⟨ρ2, c2, X2, T4, rg_top _, W4⟩) (fun n1 => ?_)
  refine s_list T4 r2 (rg_b rfl) (b := o2.1) (l := l2) D4 ?_
  refine s_br (fun n2 => ?_) (fun _ => s_some ⟨ρ2, c2, X2, T4, rg_top _, W4⟩)
  have a1 : 0 ≤ x1.toInt := nlt_i n1
  refine s_mV (S := SD 1) T4 (fun k w i m => hp2 k w i (sd_sub (Nat.zero_le _) m)) (zX15_step (d := 0) hF (sx_c _) rfl rfl rfl rfl rfl (th_in _ T4) r2 (rg_b rfl) W4 D4 P4 M4 a1 (lt_i n2)) (fun o5 ρ5 c5 X5 T5 f5 ⟨W5, b5, l5, D5⟩ => ?_)
  have r5 := ex_r X5 r2 (by decide)
  have hp5 := ex_hp X5 hp2
  have k5 : hI o5 x0 68 = hI h x0 68 := by rw [f68 r2 f5, k4]
  have X := ex_t X2 X5
  have hn : ∀ k w i, SX no no no k w i = true → cPm c5 k w i = true := fun k w i m => hp5 k w i (sx_sub (fun _ z => no_f z) (fun _ z => no_f z) (fun _ z => no_f z) m)
  have rest : ∀ {g : Hp}, TH ρ5 c5 g → DW x0 g → DQ x0 1 b5 l5 g → hI g x0 68 = hI h x0 68 → Sat (sX15_refutes_93 F g x0) (MkI ρ c (-2147483648) 2147483647 (DW x0)) := fun {g} Tg Wg Dg eg => by
    unfold sX15_refutes_93 sX15_refutes_98 sX15_refutes_101
    refine s_cIf Tg hn (zX15_hasEnded hF (sxA (sx_c _)) (th_in _ Tg) r5 (rg_b rfl) (b := b5) (l := l5) Dg.1) (fun o6 T6 i6 f6 => ?_)
    have W6 := dw_keep0 Tg r5 f6 Wg
    obtain ⟨a1, a2, a3, a4⟩ := dp_keep Tg r5 f6 rfl rfl rfl Dg.1
    refine s_br (fun _ => ?_) (fun _ => s_some ⟨ρ5, c5, X, T6, rg_top _, W6⟩)
    exact mI_ext X (ref_loop hF F (fun k w i m => hp5 k w i (sd_sub (Nat.zero_le _) m)) T6 r5 W6 ⟨a1, a3 Dg.2.1, a4 Dg.2.2⟩ (by rw [f68 r5 f6, eg]; exact n68) (by decide) (by show (3000 - (0 : Int)).toNat < F; omega))
  unfold sX15_refutes_74 sX15_refutes_90 sX15_refutes_101
  refine s_br (fun _ => ?_) (fun _ => rest T5 W5 D5 k5)
  refine s_cIf T5 hn (zX15_isGoal hF (sxA (sx_c _)) (th_in _ T5) r5 (rg_b rfl) (b := b5) (l := l5) D5.1) (fun o6 T6 i6 f6 => ?_)
  have W6 := dw_keep0 T5 r5 f6 W5
  obtain ⟨a1, a2, a3, a4⟩ := dp_keep T5 r5 f6 rfl rfl rfl D5.1
  exact s_br (fun _ => rest T6 W6 ⟨a1, a3 D5.2.1, a4 D5.2.2⟩ (by rw [f68 r5 f6, k5])) (fun _ => s_some ⟨ρ5, c5, X, T6, rg_top _, W6⟩)
end
