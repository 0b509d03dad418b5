section
/-! worth of the class -/
/-- men of a position: squares and men of the law alone -/
def PoX (ρ : Nat → Nat) (c : Cm) (b : Nat) (h : Hp) : Prop := ∀ L on s, ρ L = 2 → cw c L = 2102 → hR h b 0 = some on → s < 64 → 0 ≤ (hI h on s).toInt → (s : Int) < (hI h L 2).toInt ∧ (hI h on s).toInt < 2 * (hI h L 3).toInt
def PlX (ρ : Nat → Nat) (c : Cm) (x0 : Nat) (h : Hp) : Prop := ∀ r u, hR h x0 13 = some r → hR h x0 14 = some u → ∀ i, i < 60 → ¬ hI h u i = 0 → ∀ b, hR h r i = some b → PoX ρ c b h
section
variable {ρ : Nat → Nat} {c : Cm} {h : Hp} {x0 x1 b ks st pw L F : Nat} {sq : Int}
theorem pos_px (T : TH ρ c h) (rb : ρ b = 4) (rL : ρ L = 2) (wL : cw c L = 2102) (P : PoX ρ c b h) : PoS (hI h L 2).toInt b h := fun of d ef hd s hs hb => by
  obtain ⟨on, eo, _⟩ := thR T rb (i := 0) (k2 := 34) rfl (by decide)
  exact (P L on s rL wL eo hs (th_ps T rb eo ef hs hd hb).1).1
theorem stp_rm0 {i n : Nat} (T : TH ρ c h) (qp : ρ pw = 22) (Pw : ∀ i : Nat, i ≤ 5 → (hI h pw i).toInt = sq ^ i) (S : StP x0 ks pw st h) (hi : (i : Int) < (hI h x0 9).toInt) (hn : szI (hI h ks i).toInt = n) : 0 ≤ (hI h st i).toInt ∧ (hI h st i).toInt + 2 * sq ^ n ≤ 600000 := by
  have gp : ∀ x, 0 ≤ gK h pw x := fun x => by
    have := (thI T qp (k := 22) (i := szI x.toInt) (lo := 0) (hi := 1073741824) rfl).1
    unfold gK
    omega
  have c9 := clamp_i (v := hI h x0 9) (by omega)
  have e := S.2 i (by omega)
  have sN : sm (fun i => gK h pw (hI h ks i)) (i + 1) ≤ 600000 := by
    have := sm_le (f := fun i => gK h pw (hI h ks i)) (fun i => gp _) (i + 1) ((hI h x0 9).toNatClampNeg - (i + 1))
    have en : i + 1 + ((hI h x0 9).toNatClampNeg - (i + 1)) = (hI h x0 9).toNatClampNeg := by omega
    rw [en] at this
    have := S.1
    omega
  have sn0 := sm_0 (f := fun i => gK h pw (hI h ks i)) (fun i => gp _) i
  have sE : sm (fun i => gK h pw (hI h ks i)) (i + 1) = sm (fun i => gK h pw (hI h ks i)) i + gK h pw (hI h ks i) := rfl
  have gE : gK h pw (hI h ks i) = 2 * (hI h pw (szI (hI h ks i).toInt)).toInt := rfl
  have s5 := sz_le (hI h ks i).toInt
  rw [Pw _ s5, hn] at gE
  omega
theorem num_0 {o : Int32 × Hp} (z : (hI h x0 8).toInt = 0) (e : sX0_numberOf F h x0 (-1 : Int32) = some o) : o.1 = 0 := by
  unfold sX0_numberOf sX0_numberOf_14 at e
  have go : ∀ {t : Int32}, ¬ t = 0 → sX0_numberOf_19 F F h x0 (-1 : Int32) (0 : Int32) (0 : Int32) t (0 : Int32) = some o → o.1 = 0 := fun {t} nt e => by
    cases F with
    | zero => exact absurd e (by rw [sX0_numberOf_19]; exact fun z => nomatch z)
    | succ f =>
      rw [sX0_numberOf_19] at e
      unfold sX0_numberOf_115 at e
      replace e := br_s e
      rcases e with ⟨_, e⟩ | ⟨n, e⟩
      · replace e := br_s e
        rcases e with ⟨w, e⟩ | ⟨_, e⟩
        · exact absurd w nt
        · rw [← Option.some.inj e]
      · have := nle_i n
        have z0 : (0 : Int32).toInt = 0 := rfl
        omega
  replace e := br_s e
  rcases e with ⟨_, e⟩ | ⟨n, e⟩
  · exact go (by decide) e
  · exact absurd rfl n
theorem node_q (hF : 700000 ≤ F) (hA : pmA c RWL) (T : TH ρ c h) (r0 : ρ x0 = 1) (r1 : ρ x1 = 4) (en : EnQ x0 h) (P : PoX ρ c x1 h) : Sat (sX0_nodeOfAll F h x0 x1) (fun o => TH ρ c o.2 ∧ (o.1 = (-1 : Int32) ∨ (Rg 0 599999 o.1 ∧ LenP x0 h))) := by
  unfold sX0_nodeOfAll sX0_nodeOfAll_18 sX0_nodeOfAll_64
  refine s_br (fun _ => s_some ⟨T, Or.inl rfl⟩) (fun n10 => ?_)
  obtain ⟨ln, ks, st, pw, L, e0, e4, e5, e6, Pw, S⟩ := en n10
  have rL : ρ L = 2 := rr T (thR T r0 (i := 0) (k2 := 2) rfl (by decide)) e0
  have wL : cw c L = 2102 := kid_w T r0 (i := 0) (w := 2102) rfl (by decide) e0
  have qk : ρ ks = 20 := rr T (thR T r0 (i := 4) (k2 := 20) rfl (by decide)) e4
  have qs : ρ st = 21 := rr T (thR T r0 (i := 5) (k2 := 21) rfl (by decide)) e5
  have qp : ρ pw = 22 := rr T (thR T r0 (i := 6) (k2 := 22) rfl (by decide)) e6
  obtain ⟨ro, e7, qo⟩ := thR T r0 (i := 7) (k2 := 23) rfl (by decide)
  obtain ⟨sq, esq⟩ : ∃ sq : Int, sq = (hI h L 2).toInt := ⟨_, rfl⟩
  rw [← esq] at Pw
  have B : PoS sq x1 h := by rw [esq]; exact pos_px T r1 rL wL P
  have s64 : sq ≤ 64 := by rw [esq]; exact (thI T rL (k := 2) (i := 2) (lo := 0) (hi := 64) rfl).2
  refine s_dJ0 (zX3_occupied hF T r1) (fun oc eoc qc => ?_)
  rw [qc]
  refine s_cl (s_imp (zJ13_bitCount_95d88 hF T) (fun o3 Z3 => ?_))
  rw [Z3.1]
  refine s_br (fun _ => ?_) (fun _ => s_some ⟨T, Or.inl rfl⟩)
  refine s_cVfq (S := fS RWL []) T (fs_sub (pmA_s hA rfl) fs_n) (gat_q hF fs_a (th_in _ T) r0 r1 e7 (rg_m (rg_b rfl : Rg (-1) (-1) (-1 : Int32)) (by decide)) (rg_m (rg_b rfl : Rg (-1) (-1) (-1 : Int32)) (by decide)) eoc (occ_bts eoc B)) (fun g Tg fg Pg => ?_)
  obtain ⟨R, K⟩ := Pg
  have e7g : hR g x0 7 = some ro := by rw [kfR 7 K r0]; exact e7
  have e6g : hR g x0 6 = some pw := by rw [kfR 6 K r0]; exact e6
  have e5g : hR g x0 5 = some st := by rw [kfR 5 K r0]; exact e5
  have e4g : hR g x0 4 = some ks := by rw [kfR 4 K r0]; exact e4
  have Sg : StP x0 ks pw st g := stp_k T r0 qk qp qs K (P := S)
  have Pwg : ∀ i : Nat, i ≤ 5 → (hI g pw i).toInt = sq ^ i := fun i hi => by rw [kfI i K qp]; exact Pw i hi
  have i8 := thI Tg r0 (k := 1) (i := 8) (lo := 0) (hi := 5) rfl
  have c8 := clamp_i i8.1
  have b8 := i8.2
  refine s_cl (s_imp (keyrow_q hF Tg r0 e7g R) (fun o6 ⟨q6, k6⟩ => ?_))
  rw [q6]
  refine s_cl (s_imp (fset_q hF Tg r0 e4g) (fun o7 ⟨q7, i7, w7⟩ => ?_))
  rw [q7]
  refine s_br (fun _ => s_some ⟨Tg, Or.inl rfl⟩) (fun ne => ?_)
  obtain ⟨a7, b7, w⟩ := w7 ne
  have c7 := clamp_i a7
  have sz := k6.2.2.1
  rw [← w] at sz
  obtain ⟨st0, room⟩ := stp_rm0 (n := (hI g x0 8).toNatClampNeg) Tg qp Pwg Sg (i := o7.1.toNatClampNeg) (by omega) sz
  refine s_ref e5g ?_
  refine s_gd (by rw [thN Tg qs (k := 21) (n := 1025) rfl (by decide)]; exact rg_inB (⟨a7, by have := i7.2; omega⟩ : Rg 0 1024 o7.1) (by decide)) ?_
  refine s_dd (zX0_numberOf hF Tg r0 (rg_top _)) (fun o11 e11 Z11 => ?_)
  have nb : 0 ≤ o11.1.toInt ∧ o11.1.toInt + 1 ≤ sq ^ (hI g x0 8).toNatClampNeg := by
    by_cases s1 : 1 ≤ sq
    · have := sat_e (number_q (sq := sq) (x1 := (-1 : Int32)) (q := 0) hF Tg r0 e6g e7g s1 s64 Pwg (fun i hi => by
        obtain ⟨y1, y2, y3⟩ := R.1 i hi
        rw [and63_i y1]; exact y3) (fun n => absurd rfl n) (by rw [if_pos rfl])) e11
      exact this.2
    · have z8 : (hI g x0 8).toInt = 0 := by
        by_cases z : (hI g x0 8).toInt = 0
        · exact z
        · obtain ⟨y1, y2, y3⟩ := R.1 0 (by omega)
          have : 0 ≤ (hI g ro 0).toInt % 64 := by omega
          omega
      have n8 : (hI g x0 8).toNatClampNeg = 0 := by omega
      rw [num_0 z8 e11, n8, Int.pow_zero]
      decide
  obtain ⟨M, eM⟩ : ∃ M : Int, M = sq ^ (hI g x0 8).toNatClampNeg := ⟨_, rfl⟩
  rw [← eM] at nb room
  obtain ⟨n0, n1⟩ := nb
  rw [Z11.1]
  have is := thI Tg r1 (k := 4) (i := 5) (lo := 0) (hi := 1) rfl
  have is0 := is.1
  have is1 := is.2
  have z2 : (2 : Int32).toInt = 2 := rfl
  have t1 : ((2 : Int32) * o11.1).toInt = 2 * o11.1.toInt := by rw [tm (by rw [z2]; omega), z2]
  have t2 : ((hI g st o7.1.toNatClampNeg) + ((2 : Int32) * o11.1)).toInt = (hI g st o7.1.toNatClampNeg).toInt + 2 * o11.1.toInt := by rw [ta (by rw [t1]; omega), t1]
  have t3 : (((hI g st o7.1.toNatClampNeg) + ((2 : Int32) * o11.1)) + (hI g x1 5)).toInt = (hI g st o7.1.toNatClampNeg).toInt + 2 * o11.1.toInt + (hI g x1 5).toInt := by rw [ta (by rw [t2]; omega), t2]
  exact s_some ⟨Tg, Or.inr ⟨⟨by show 0 ≤ (((hI g st o7.1.toNatClampNeg) + ((2 : Int32) * o11.1)) + (hI g x1 5)).toInt; rw [t3]; omega, by show (((hI g st o7.1.toNatClampNeg) + ((2 : Int32) * o11.1)) + (hI g x1 5)).toInt ≤ _; rw [t3]; omega⟩, ln⟩⟩
theorem zX11_worth {y : Int32} (hF : 700000 ≤ F) (hA : pmA c RWL) (T : TH ρ c h) (r0 : ρ x0 = 12) (en : EnA x0 h) (pl : PlX ρ c x0 h) : Sat (sX11_worth F h x0 y) (ZI ρ c (-2147483648) 2147483647) := by
  unfold sX11_worth sX11_worth_48
  refine s_dd (zX11_isPlace hF T r0 (rg_top _)) (fun o1 e1 Z1 => ?_)
  rw [Z1.1]
  refine s_br (fun _ => s_some ⟨T, rg_top _⟩) (fun n1 => ?_)
  have ip := Z1.2.2 n1
  have l60 : y.toNatClampNeg < 60 := by have := rg_clamp (n := 59) ip (by decide); omega
  obtain ⟨e, ee, re⟩ := thR T r0 (i := 10) (k2 := 1) rfl (by decide)
  obtain ⟨r, er, rr'⟩ := thR T r0 (i := 13) (k2 := 57) rfl (by decide)
  obtain ⟨q, eq, rq⟩ := thR T rr' (i := y.toNatClampNeg) (k2 := 4) (if_pos l60) (by decide)
  refine s_ref ee (s_ref er ?_)
  refine s_gd (by rw [thN T rr' (k := 57) (n := 60) rfl (by decide)]; exact rg_inB ip (by decide)) ?_
  refine s_ref eq ?_
  have px : PoX ρ c q h := by
    unfold sX11_isPlace sX11_isPlace_23 sX11_isPlace_24 at e1
    have no : ∀ {o : Int32 × Hp}, ¬ o.1 = 0 → gd ((0 : Int32) &&& 1 = 0) (some ((0 : Int32), h)) = some o → False := fun n e => by
      obtain ⟨_, e⟩ := gd_s e
      exact n (by rw [← Option.some.inj e])
    replace e1 := br_s e1
    rcases e1 with ⟨_, e1⟩ | ⟨_, e1⟩
    · exact absurd (no n1 e1) id
    replace e1 := br_s e1
    rcases e1 with ⟨_, e1⟩ | ⟨_, e1⟩
    · exact absurd (no n1 e1) id
    replace e1 := cl_s e1
    obtain ⟨u, eu, e1⟩ := e1
    replace e1 := (gd_s e1).2
    replace e1 := br_s e1
    rcases e1 with ⟨_, e1⟩ | ⟨nu, e1⟩
    · exact absurd (no n1 e1) id
    exact pl r u er eu _ l60 nu q eq
  refine s_cl (s_imp (node_q (c := cat c (fS RWL []) h) hF fs_a (th_in _ T) re rq (en e ee).2.2 px) (fun o7 ⟨T7', z7⟩ => ?_))
  have T7 := th_out T (fs_sub (pmA_s hA rfl) fs_n) T7'
  have f7 := fr_u T T7'.2.2
  refine s_br (fun _ => s_some ⟨T7, rg_top _⟩) (fun n7 => ?_)
  rcases z7 with z7 | ⟨i7, ln⟩
  · exact absurd z7 n7
  have K7 : Kf ρ RWL h o7.2 := kf_of f7 rfl
  refine s_ref (by rw [kfR 10 K7 r0]; exact ee) ?_
  obtain ⟨r10, e10, q10⟩ := thR T7 re (i := 11) (k2 := 24) rfl (by decide)
  refine s_ref e10 ?_
  have ln7 := len_fr T re f7 (fun _ => rfl) (fun _ => rfl) (fun _ => rfl) ln
  refine s_gd (by rw [ln7 11 r10 (Or.inl rfl) e10]; exact rg_inB i7 (by decide)) ?_
  exact s_some ⟨T7, rg_top _⟩
end
end
section
/-! ways lead to squares of the law alone -/
theorem shl6_63 (b : Int32) : (b <<< ((6 : Int32) &&& 31)) &&& (63 : Int32) = 0 := by
  apply Int32.toBitVec_inj.mp
  apply BitVec.eq_of_getLsbD_eq
  intro i hi
  show ((b.toBitVec <<< 6) &&& 63#32).getLsbD i = (0#32).getLsbD i
  rw [BitVec.getLsbD_and, BitVec.getLsbD_shiftLeft]
  have a : ∀ j : Fin 32, ¬ j.val < 6 → (63#32).getLsbD j.val = false := by decide
  by_cases z : i < 6
  · simp [z]
  · rw [a ⟨i, hi⟩ z]; simp
theorem shl12_63 (b : Int32) : (b <<< ((12 : Int32) &&& 31)) &&& (63 : Int32) = 0 := by
  apply Int32.toBitVec_inj.mp
  apply BitVec.eq_of_getLsbD_eq
  intro i hi
  show ((b.toBitVec <<< 12) &&& 63#32).getLsbD i = (0#32).getLsbD i
  rw [BitVec.getLsbD_and, BitVec.getLsbD_shiftLeft]
  have a : ∀ j : Fin 32, ¬ j.val < 6 → (63#32).getLsbD j.val = false := by decide
  by_cases z : i < 6
  · have : i < 12 := by omega
    simp [this]
  · rw [a ⟨i, hi⟩ z]; simp
theorem way_63 {t f k : Int32} (i : Rg 0 63 t) : (((t ||| (f <<< ((6 : Int32) &&& 31))) ||| (k <<< ((12 : Int32) &&& 31))) &&& (63 : Int32)).toInt = t.toInt := by
  rw [lo_or, lo_or, shl6_63, shl12_63, or_0, or_0, and63_i i.1]
  have := i.1
  have := i.2
  omega
theorem ush_bit {x : Int64} {k : Int32} (i : Rg 0 63 k) : bitJ ((x.toUInt64 >>> (k.toInt64.toUInt64 &&& Int64.toUInt64 63)).toInt64) 0 = bitJ x k.toNatClampNeg := by
  obtain ⟨j, ej, tj, hj⟩ := rg_nI i (Int.le_refl 0)
  have j64 : j < 64 := by have := i.2; omega
  have all : ∀ j : Fin 64, (((nI j.val).toInt64.toUInt64 &&& Int64.toUInt64 63).toBitVec % 64#64).toNat = j.val := by decide +kernel
  have aj : (((nI j).toInt64.toUInt64 &&& Int64.toUInt64 63).toBitVec % 64#64).toNat = j := all ⟨j, j64⟩
  unfold bitJ
  rw [ej, z_clamp hj]
  show (x.toUInt64 >>> ((nI j).toInt64.toUInt64 &&& Int64.toUInt64 63)).toBitVec.getLsbD 0 = _
  rw [UInt64.toBitVec_shiftRight]
  show (x.toBitVec >>> (((nI j).toInt64.toUInt64 &&& Int64.toUInt64 63).toBitVec % 64#64)).getLsbD 0 = _
  rw [BitVec.ushiftRight_eq', aj, BitVec.getLsbD_ushiftRight]
  simp
theorem bit_set {x : Int64} {k : Int32} (i : Rg 0 63 k) (nb : ¬ lg_cmp (((x.toUInt64 >>> (k.toInt64.toUInt64 &&& Int64.toUInt64 63)).toInt64) &&& (1 : Int64)) (0 : Int64) = 0) : bitJ x k.toNatClampNeg = true := by
  obtain ⟨j, hj, pj, _⟩ := low_bit (cmp0 nb)
  rw [bj_and, Bool.and_eq_true] at pj
  have all : ∀ j : Fin 64, bitJ (1 : Int64) j.val = true → j.val = 0 := by decide +kernel
  have z : j = 0 := all ⟨j, hj⟩ pj.2
  rw [z, ush_bit i] at pj
  exact pj.1
def WyS (x0 a0 a1 : Nat) (n : Int) (C : Nat) (h : Hp) : Prop := 0 ≤ (hI h x0 8).toInt ∧ (∀ w : Nat, (w : Int) < (hI h x0 8).toInt → ((hI h a1 w) &&& (63 : Int32)).toInt < n) ∧ ∀ i : Nat, i < C → (hI h a0 i).toInt ≤ (hI h x0 8).toInt
section
variable {ρ : Nat → Nat} {h o g : Hp} {x0 a0 a1 a3 L F C : Nat} {n : Int}
theorem wy_e (e8 : hI o x0 8 = hI h x0 8) (e0 : ∀ i, hI o a0 i = hI h a0 i) (e1 : ∀ i, hI o a1 i = hI h a1 i) (W : WyS x0 a0 a1 n C h) : WyS x0 a0 a1 n C o := by
  unfold WyS
  rw [e8]
  exact ⟨W.1, fun w hw => by rw [e1]; exact W.2.1 w hw, fun i hi => by rw [e0]; exact W.2.2 i hi⟩
theorem awx_33 {x1 x2 x3 x4 x5 x8 : Int32} (r0 : ρ x0 = 11) (q0 : ρ a0 = 50) (q1 : ρ a1 = 51) (i3 : Rg 0 63 x3) (l3 : x3.toInt < n) : ∀ (f : Nat) {h o : Hp} {x6 : Int64} {x9 : Int32}, WR ρ x0 h → hR h x0 1 = some a1 → (hI h x0 8).toInt < 172032 → WyS x0 a0 a1 n C h → sX10_addWay_33 F f h x0 x1 x2 x3 x4 x5 x6 x8 x9 = some o → WyS x0 a0 a1 n C o := by
  intro f
  induction f with
  | zero => intro h o x6 x9 _ _ _ _ e; exact absurd e (by rw [sX10_addWay_33]; exact fun z => nomatch z)
  | succ f ih =>
    intro h o x6 x9 w e1 l8 W e
    rw [sX10_addWay_33] at e
    unfold sX10_addWay_144 at e
    simp only [nm] at e
    replace e := br_s e
    rcases e with ⟨_, e⟩ | ⟨_, e⟩
    · replace e := cl_s e
      obtain ⟨r2, e2, e⟩ := e
      have y2 : r2 = a1 := r_eq e1 e2
      subst y2
      replace e := (gd_s e).2
      replace e := cl_s e
      obtain ⟨r5, e5, e⟩ := e
      replace e := (gd_s e).2
      replace e := cl_s e
      obtain ⟨r9, e9, e⟩ := e
      replace e := (gd_s (gd_s e).2).2
      have n1 : ¬ x0 = r2 := ne_r' r0 q1 (by decide)
      have n0 : ¬ a0 = r2 := ne_r' q0 q1 (by decide)
      have n2 : ¬ a0 = x0 := ne_r' q0 r0 (by decide)
      have c8 := clamp_i W.1
      have z1 : (1 : Int32).toInt = 1 := rfl
      have key : ∀ {h12 : Hp}, (∀ a i, hI h12 a i = hI (wI (wI h r2 (hI h x0 8).toNatClampNeg ((x3 ||| (x4 <<< ((6 : Int32) &&& 31))) ||| (x5 <<< ((12 : Int32) &&& 31)))) x0 8 ((hI h x0 8) + (1 : Int32))) a i) → WyS x0 a0 r2 n C h12 := fun {h12} E => by
        have k8 : (hI h12 x0 8).toInt = (hI h x0 8).toInt + 1 := by
          rw [E, r_I, if_pos ⟨rfl, rfl⟩, ta (by rw [z1]; omega), z1]
        have k1 : ∀ i, hI h12 r2 i = if i = (hI h x0 8).toNatClampNeg then ((x3 ||| (x4 <<< ((6 : Int32) &&& 31))) ||| (x5 <<< ((12 : Int32) &&& 31))) else hI h r2 i := fun i => by
          rw [E, r_I, if_neg (fun z => n1 z.1.symm), r_I]
          by_cases z : i = (hI h x0 8).toNatClampNeg
          · rw [if_pos ⟨rfl, z⟩, if_pos z]
          · rw [if_neg (fun y => z y.2), if_neg z]
        have k0 : ∀ i, hI h12 a0 i = hI h a0 i := fun i => by
          rw [E, r_I, if_neg (fun z => n2 z.1), r_I, if_neg (fun z => n0 z.1)]
        refine ⟨by rw [k8]; have := W.1; omega, fun w hw => ?_, fun i hi => ?_⟩
        · rw [k1]
          split
          · rw [way_63 i3]; exact l3
          · exact W.2.1 w (by rw [k8] at hw; omega)
        · rw [k0, k8]
          have := W.2.2 i hi
          omega
      have u8 : hI (wJ (wI h r2 (hI h x0 8).toNatClampNeg ((x3 ||| (x4 <<< ((6 : Int32) &&& 31))) ||| (x5 <<< ((12 : Int32) &&& 31)))) r5 (hI (wI h r2 (hI h x0 8).toNatClampNeg ((x3 ||| (x4 <<< ((6 : Int32) &&& 31))) ||| (x5 <<< ((12 : Int32) &&& 31)))) x0 8).toNatClampNeg x6) x0 8 = hI h x0 8 := by
        show hI (wI h r2 _ _) x0 8 = _
        rw [r_I, if_neg (fun z => n1 z.1)]
      rw [u8] at e
      replace e := br_s e
      rcases e with ⟨_, e⟩ | ⟨_, e⟩
      · replace e := cl_s e
        obtain ⟨r14, e14, e⟩ := e
        replace e := (gd_s (gd_s e).2).2
        rw [← Option.some.inj e]
        exact key (fun _ _ => rfl)
      · rw [← Option.some.inj e]
        exact key (fun _ _ => rfl)
    · exact ih w e1 l8 W e
theorem awx_all {x1 x2 x3 x4 x5 : Int32} (r0 : ρ x0 = 11) (q0 : ρ a0 = 50) (q1 : ρ a1 = 51) (i3 : Rg 0 63 x3) (l3 : x3.toInt < n) (w : WR ρ x0 h) (e1 : hR h x0 1 = some a1) (W : WyS x0 a0 a1 n C h) (e : sX10_addWay F h x0 x1 x2 x3 x4 x5 = some o) : WyS x0 a0 a1 n C o := by
  unfold sX10_addWay sX10_addWay_28 at e
  replace e := br_s e
  rcases e with ⟨l, e⟩ | ⟨_, e⟩
  · have l := Int32.lt_iff_toInt_lt.mp l
    have z : (172032 : Int32).toInt = 172032 := rfl
    rw [z] at l
    replace e := br_s e
    rcases e with ⟨_, e⟩ | ⟨_, e⟩
    · exact awx_33 r0 q0 q1 i3 l3 F w e1 l W e
    · exact awx_33 r0 q0 q1 i3 l3 F w e1 l W (gd_s e).2
  · rw [← Option.some.inj e]; exact W
/-- squares on the board -/
def Bo (ρ : Nat → Nat) (L : Nat) (n : Int) (h : Hp) : Prop := ρ L = 2 ∧ Rg 0 8 (hI h L 0) ∧ Rg 0 8 (hI h L 1) ∧ (hI h L 0).toInt * (hI h L 1).toInt = n
theorem bo_k (k : Ks ρ h o) (B : Bo ρ L n h) : Bo ρ L n o := by
  obtain ⟨rL, a, b, c⟩ := B
  unfold Bo
  rw [k.2 L 0 rL, k.2 L 1 rL]
  exact ⟨rL, a, b, c⟩
theorem bo_sq {x13 x14 : Int32} (B : Bo ρ L n h) (f : 0 ≤ x13.toInt ∧ x13.toInt < (hI h L 0).toInt) (r : 0 ≤ x14.toInt ∧ x14.toInt < (hI h L 1).toInt) : Rg 0 63 ((x14 * (hI h L 0)) + x13) ∧ ((x14 * (hI h L 0)) + x13).toInt < n := by
  obtain ⟨_, a, b, c⟩ := B
  have a2 := a.2
  have b2 := b.2
  have m1 : x14.toInt * (hI h L 0).toInt ≤ 7 * 8 := Int.mul_le_mul (by omega) (by omega) (by omega) (by omega)
  have m0 : 0 ≤ x14.toInt * (hI h L 0).toInt := Int.mul_nonneg (by omega) (by omega)
  have m2 : (x14.toInt + 1) * (hI h L 0).toInt ≤ (hI h L 1).toInt * (hI h L 0).toInt := Int.mul_le_mul_of_nonneg_right (by omega) (by omega)
  rw [Int.add_mul, Int.one_mul, Int.mul_comm (hI h L 1).toInt, c] at m2
  have e1 : (x14 * (hI h L 0)).toInt = x14.toInt * (hI h L 0).toInt := tm (by omega)
  have e2 : ((x14 * (hI h L 0)) + x13).toInt = x14.toInt * (hI h L 0).toInt + x13.toInt := by rw [ta (by rw [e1]; omega), e1]
  exact ⟨⟨by omega, by omega⟩, by omega⟩
theorem bts_or {x y : Int64} (P : BtS n x) (Q : BtS n y) : BtS n (x ||| y) := fun s hs hb => by
  rw [bj_or, Bool.or_eq_true] at hb
  exact hb.elim (P s hs) (Q s hs)
theorem bts_one {x : Int32} (i : Rg 0 63 x) (l : x.toInt < n) : BtS n ((1 : Int64) <<< (x.toInt64 &&& 63)) := fun s _ hb => by
  rw [bj_one i, decide_eq_true_eq] at hb
  have := clamp_i i.1
  omega
theorem bts_0 : BtS n (0 : Int64) := fun s _ hb => by rw [bj_zero] at hb; exact absurd hb (by decide)
def Kt (ρ : Nat → Nat) (h o : Hp) : Prop := ∀ a i, ¬ ρ a = 56 → hI o a i = hI h a i
theorem kt_t (p : Kt ρ h g) (q : Kt ρ g o) : Kt ρ h o := fun a i n => (q a i n).trans (p a i n)
theorem ridex_l {x2 x3 x9 x10 : Int32} : ∀ (f : Nat) {h : Hp} {o : Int64 × Hp} {x11 : Int64} {x13 x14 x15 : Int32}, WR ρ x0 h → hR h x0 7 = some L → Bo ρ L n h → BtS n x11 → sX10_ride_158 F f h x0 x2 x3 x9 x10 x11 x13 x14 x15 = some o → BtS n o.1 ∧ Kt ρ h o.2 := by
  intro f
  induction f with
  | zero => intro h o x11 x13 x14 x15 _ _ _ _ e; exact absurd e (by rw [sX10_ride_158]; exact fun z => nomatch z)
  | succ f ih =>
    intro h o x11 x13 x14 x15 w e7 B P e
    rw [sX10_ride_158] at e
    unfold sX10_ride_239 at e
    simp only [nm] at e
    replace e := br_s e
    rcases e with ⟨_, e⟩ | ⟨_, e⟩
    · rw [← Option.some.inj e]; exact ⟨P, fun _ _ _ => rfl⟩
    replace e := cl_s e
    obtain ⟨o2, e2, e⟩ := e
    have q2 := ison_h e2
    replace e := br_s e
    rcases e with ⟨_, e⟩ | ⟨n0, e⟩
    · rw [← Option.some.inj e]
      exact ⟨P, fun a i _ => by show hI o2.2 a i = _; rw [q2]⟩
    have on := ison_post e2 q2 n0 (by rw [q2]; exact e7)
    rw [q2] at e on
    replace e := cl_s e
    obtain ⟨r4, e4, e⟩ := e
    have y4 : r4 = L := r_eq e7 e4
    subst y4
    replace e := cl_s e
    obtain ⟨r6, e6, e⟩ := e
    replace e := (gd_s e).2
    obtain ⟨iv, lv⟩ := bo_sq B on.1 on.2
    have q6 : ρ r6 = 56 := w 6 r6 (by decide) e6
    have k1 : Ks ρ h (wI h r6 (((x14 * (hI h r4 0)) + x13) * (8 : Int32) + x2).toNatClampNeg x15) := ks_I (by rw [q6]; decide)
    have k2 : Kt ρ h (wI h r6 (((x14 * (hI h r4 0)) + x13) * (8 : Int32) + x2).toNatClampNeg x15) := fun a i na => by rw [r_I, if_neg (fun z => na (by rw [z.1]; exact q6))]
    obtain ⟨p1, p2⟩ := ih (wr_k k1 w) (by rw [k1.1]; exact e7) (bo_k k1 B) (bts_or P (bts_one iv lv)) e
    exact ⟨p1, kt_t k2 p2⟩
theorem ridex {x1 x2 x3 x4 x5 : Int32} {o : Int64 × Hp} (w : WR ρ x0 h) (e7 : hR h x0 7 = some L) (B : Bo ρ L n h) (e : sX10_ride F h x0 x1 x2 x3 x4 x5 = some o) : BtS n o.1 ∧ Kt ρ h o.2 := by
  have b124 : ∀ {a b d u v : Int32} {o : Int64 × Hp}, sX10_ride_124 F h x0 a b d u v = some o → BtS n o.1 ∧ Kt ρ h o.2 := fun e => by
    unfold sX10_ride_124 at e
    replace e := cl_s e
    obtain ⟨_, _, e⟩ := e
    replace e := cl_s e
    obtain ⟨_, _, e⟩ := e
    replace e := (gd_s e).2
    replace e := nm_s e
    obtain ⟨_, _, e⟩ := e
    replace e := cl_s e
    obtain ⟨_, _, e⟩ := e
    replace e := cl_s e
    obtain ⟨_, _, e⟩ := e
    replace e := (gd_s e).2
    exact ridex_l F w e7 B bts_0 e
  have b119 : ∀ {a b d u v : Int32} {o : Int64 × Hp}, sX10_ride_119 F h x0 a b d u v = some o → BtS n o.1 ∧ Kt ρ h o.2 := fun e => by
    unfold sX10_ride_119 at e
    exact b124 e
  have b101 : ∀ {a b d p q r u v : Int32} {o : Int64 × Hp}, sX10_ride_101 F h x0 a b d p q r u v = some o → BtS n o.1 ∧ Kt ρ h o.2 := fun e => by
    unfold sX10_ride_101 at e
    replace e := br_s e
    rcases e with ⟨_, e⟩ | ⟨_, e⟩
    · replace e := br_s e
      rcases e with ⟨_, e⟩ | ⟨_, e⟩
      · exact b124 e
      · replace e := br_s e
        rcases e with ⟨_, e⟩ | ⟨_, e⟩
        · exact b119 e
        · exact b124 e
    · exact b119 e
  have b87 : ∀ {a b d p q r u v : Int32} {o : Int64 × Hp}, sX10_ride_87 F h x0 a b d p q r u v = some o → BtS n o.1 ∧ Kt ρ h o.2 := fun e => by
    unfold sX10_ride_87 at e
    replace e := br_s e
    rcases e with ⟨_, e⟩ | ⟨_, e⟩
    · exact b101 e
    · exact b101 e
  have b61 : ∀ {a b d p q r s u v : Int32} {o : Int64 × Hp}, sX10_ride_61 F h x0 a b d p q r s u v = some o → BtS n o.1 ∧ Kt ρ h o.2 := fun e => by
    unfold sX10_ride_61 at e
    replace e := br_s e
    rcases e with ⟨_, e⟩ | ⟨_, e⟩
    · replace e := br_s e
      rcases e with ⟨_, e⟩ | ⟨_, e⟩
      · exact b87 e
      · exact b87 e
    · exact b87 e
  have b35 : ∀ {a b d p q r s u : Int32} {o : Int64 × Hp}, sX10_ride_35 F h x0 a b d p q r s u = some o → BtS n o.1 ∧ Kt ρ h o.2 := fun e => by
    unfold sX10_ride_35 at e
    replace e := br_s e
    rcases e with ⟨_, e⟩ | ⟨_, e⟩
    · replace e := br_s e
      rcases e with ⟨_, e⟩ | ⟨_, e⟩
      · exact b61 e
      · exact b61 e
    · exact b61 e
  unfold sX10_ride at e
  simp only [nm] at e
  replace e := br_s e
  rcases e with ⟨_, e⟩ | ⟨_, e⟩
  · exact b35 e
  · exact b35 e
theorem reachx_in {x1 x2 x3 x6 x7 x10 : Int32} {K : Hp → Nat → Int32 → Int32 → Int32 → Int64 → Int32 → Option (Int64 × Hp)} (R : ∀ {h : Hp} {o : Int64 × Hp} {y : Int64} {v : Int32}, WR ρ x0 h → hR h x0 7 = some L → Bo ρ L n h → BtS n y → K h x0 x1 x2 x3 y v = some o → BtS n o.1 ∧ Kt ρ h o.2) : ∀ (f : Nat) {h : Hp} {o : Int64 × Hp} {x4 : Int64} {x11 : Int32}, WR ρ x0 h → hR h x0 7 = some L → Bo ρ L n h → BtS n x4 → sX10_reach_123 F K f h x0 x1 x2 x3 x4 x6 x7 x10 x11 = some o → BtS n o.1 ∧ Kt ρ h o.2 := by
  intro f
  induction f with
  | zero => intro h o x4 x11 _ _ _ _ e; exact absurd e (by rw [sX10_reach_123]; exact fun z => nomatch z)
  | succ f ih =>
    intro h o x4 x11 w e7 B P e
    rw [sX10_reach_123] at e
    unfold sX10_reach_155 at e
    simp only [nm] at e
    replace e := br_s e
    rcases e with ⟨_, e⟩ | ⟨_, e⟩
    · exact R w e7 B P e
    replace e := cl_s e
    obtain ⟨o2, e2, e⟩ := e
    have k := ride_h w e2
    obtain ⟨u1, u2⟩ := ridex w e7 B e2
    obtain ⟨p1, p2⟩ := ih (wr_k k.1 w) (by rw [k.1.1]; exact e7) (bo_k k.1 B) (bts_or P u1) e
    exact ⟨p1, kt_t u2 p2⟩
theorem reachx_l {x1 x2 x3 : Int32} : ∀ (f : Nat) {h : Hp} {o : Int64 × Hp} {x4 : Int64} {x6 : Int32}, WR ρ x0 h → hR h x0 7 = some L → Bo ρ L n h → BtS n x4 → sX10_reach_10 F f h x0 x1 x2 x3 x4 x6 = some o → BtS n o.1 ∧ Kt ρ h o.2 := by
  intro f
  induction f with
  | zero => intro h o x4 x6 _ _ _ _ e; exact absurd e (by rw [sX10_reach_10]; exact fun z => nomatch z)
  | succ f ih =>
    intro h o x4 x6 w e7 B P e
    rw [sX10_reach_10] at e
    simp only [nm] at e
    replace e := cl_s e
    obtain ⟨_, _, e⟩ := e
    replace e := cl_s e
    obtain ⟨_, _, e⟩ := e
    replace e := (gd_s e).2
    replace e := br_s e
    rcases e with ⟨_, e⟩ | ⟨_, e⟩
    · rw [← Option.some.inj e]; exact ⟨P, fun _ _ _ => rfl⟩
    replace e := cl_s e
    obtain ⟨_, _, e⟩ := e
    replace e := cl_s e
    obtain ⟨_, _, e⟩ := e
    replace e := (gd_s e).2
    have b88 : ∀ {p q r : Int32} {o : Int64 × Hp}, sX10_reach_88 F (sX10_reach_10 F f) h x0 x1 x2 x3 x4 x6 p q r = some o → BtS n o.1 ∧ Kt ρ h o.2 := fun e => by
      unfold sX10_reach_88 sX10_reach_105 sX10_reach_118 sX10_reach_155 at e
      have gg : ∀ {p q : Int32} {o : Int64 × Hp}, sX10_reach_123 F (sX10_reach_10 F f) F h x0 x1 x2 x3 x4 x6 p q 0 = some o → BtS n o.1 ∧ Kt ρ h o.2 := fun e => reachx_in (fun w e7 B P e => ih w e7 B P e) F w e7 B P e
      replace e := br_s e
      rcases e with ⟨_, e⟩ | ⟨_, e⟩
      · replace e := br_s e
        rcases e with ⟨_, e⟩ | ⟨_, e⟩
        · exact gg e
        · exact gg e
      replace e := br_s e
      rcases e with ⟨_, e⟩ | ⟨_, e⟩
      · replace e := br_s e
        rcases e with ⟨_, e⟩ | ⟨_, e⟩
        · exact gg e
        · exact gg e
      · exact ih w e7 B P e
    replace e := br_s e
    rcases e with ⟨_, e⟩ | ⟨_, e⟩
    · replace e := cl_s e
      obtain ⟨_, _, e⟩ := e
      replace e := cl_s e
      obtain ⟨_, _, e⟩ := e
      exact b88 (gd_s e).2
    · replace e := cl_s e
      obtain ⟨_, _, e⟩ := e
      replace e := cl_s e
      obtain ⟨_, _, e⟩ := e
      replace e := cl_s e
      obtain ⟨_, _, e⟩ := e
      exact b88 (gd_s e).2
theorem lfx_in {x1 x2 x5 x6 : Int32} {x3 : Int64} {K : Hp → Nat → Int32 → Int32 → Int64 → Int32 → Int32 → Option Hp} (r0 : ρ x0 = 11) (q0 : ρ a0 = 50) (q1 : ρ a1 = 51) (i2 : Rg 0 63 x2) (i6 : Rg 0 63 x6) (l6 : x6.toInt < n) (R : ∀ {h o : Hp} {v : Int32}, WR ρ x0 h → hR h x0 0 = some a0 → hR h x0 1 = some a1 → hR h x0 3 = some a3 → v.toInt = x6.toInt + 1 → WyS x0 a0 a1 n C h → K h x0 x1 x2 x3 x5 v = some o → WyS x0 a0 a1 n (C + (63 - x6.toInt).toNat) o) : ∀ (f : Nat) {h o : Hp} {x7 : Int32}, WR ρ x0 h → hR h x0 0 = some a0 → hR h x0 1 = some a1 → hR h x0 3 = some a3 → WyS x0 a0 a1 n C h → sX10_layFrom_70 F K f h x0 x1 x2 x3 x5 x6 x7 = some o → WyS x0 a0 a1 n (C + (63 - x6.toInt).toNat) o := by
  intro f
  induction f with
  | zero => intro h o x7 _ _ _ _ _ e; exact absurd e (by rw [sX10_layFrom_70]; exact fun z => nomatch z)
  | succ f ih =>
    intro h o x7 w e0 e1 e3 W e
    rw [sX10_layFrom_70] at e
    unfold sX10_layFrom_154 sX10_layFrom_148 at e
    simp only [nm] at e
    replace e := cl_s e
    obtain ⟨_, _, e⟩ := e
    replace e := cl_s e
    obtain ⟨_, _, e⟩ := e
    replace e := (gd_s e).2
    replace e := br_s e
    rcases e with ⟨_, e⟩ | ⟨_, e⟩
    · exact R w e0 e1 e3 (nc_s i6 (by decide)).2 W e
    replace e := cl_s e
    obtain ⟨r5, e5, e⟩ := e
    replace e := (gd_s e).2
    replace e := br_s e
    rcases e with ⟨_, e⟩ | ⟨_, e⟩
    · exact ih w e0 e1 e3 W e
    replace e := cl_s e
    obtain ⟨_, _, e⟩ := e
    replace e := cl_s e
    obtain ⟨_, _, e⟩ := e
    replace e := (gd_s e).2
    replace e := cl_s e
    obtain ⟨o12, e12, e⟩ := e
    obtain ⟨k1, _⟩ := aw_all r0 i2 w e3 e12
    have W1 := awx_all r0 q0 q1 i6 l6 w e1 W e12
    replace e := cl_s e
    obtain ⟨r13, e13, e⟩ := e
    replace e := (gd_s e).2
    have q13 : ρ r13 = 56 := w 6 r13 (by decide) (by rw [k1.1] at e13; exact e13)
    have k2 : Ks ρ o12 (wI o12 r13 ((x6 * (8 : Int32)) + x7).toNatClampNeg (0 : Int32)) := ks_I (by rw [q13]; decide)
    have kk := ks_t k1 k2
    refine ih (wr_k kk w) (by rw [kk.1]; exact e0) (by rw [kk.1]; exact e1) (by rw [kk.1]; exact e3) (wy_e ?_ (fun i => ?_) (fun i => ?_) W1) e
    · rw [r_I, if_neg (ne_r r0 q13 (by decide))]
    · rw [r_I, if_neg (ne_r q0 q13 (by decide))]
    · rw [r_I, if_neg (ne_r q1 q13 (by decide))]
/-- the beginning of a cell's ways -/
theorem lfx_30 {x1 x2 x5 : Int32} {x3 : Int64} (r0 : ρ x0 = 11) (q0 : ρ a0 = 50) (q1 : ρ a1 = 51) (i1 : Rg 0 23 x1) (i2 : Rg 0 63 x2) (B3 : BtS n x3) : ∀ (f : Nat) {h o : Hp} {x6 : Int32}, WR ρ x0 h → hR h x0 0 = some a0 → hR h x0 1 = some a1 → hR h x0 3 = some a3 → 0 ≤ x6.toInt → x6.toInt ≤ 64 → WyS x0 a0 a1 n ((x1.toInt * 64 + x2.toInt) * 64 + x6.toInt).toNat h → sX10_layFrom_30 F f h x0 x1 x2 x3 x5 x6 = some o → WyS x0 a0 a1 n ((x1.toInt * 64 + x2.toInt) * 64 + 64).toNat o := by
  intro f
  induction f with
  | zero => intro h o x6 _ _ _ _ _ _ _ e; exact absurd e (by rw [sX10_layFrom_30]; exact fun z => nomatch z)
  | succ f ih =>
    intro h o x6 w e0 e1 e3 a6 b6 W e
    rw [sX10_layFrom_30] at e
    unfold sX10_layFrom_154 sX10_cell at e
    simp only [nm] at e
    have z64 : (64 : Int32).toInt = 64 := rfl
    have i10 := i1.1
    have i11 := i1.2
    have i20 := i2.1
    have i21 := i2.2
    replace e := br_s e
    rcases e with ⟨l, e⟩ | ⟨l, e⟩
    · have l := le_i l
      rw [← Option.some.inj e]
      have q : x6.toInt = 64 := by omega
      rw [q] at W
      exact W
    have l := nle_i l
    have i6 : Rg 0 63 x6 := ⟨a6, by omega⟩
    replace e := cl_s e
    obtain ⟨r2, e2, e⟩ := e
    have y2 : r2 = a0 := r_eq e0 e2
    subst y2
    replace e := cl_s e
    obtain ⟨o3, eo, e⟩ := e
    have q3 : o3.2 = h := by rw [← Option.some.inj eo]
    have v3 : o3.1.toInt = (x1.toInt * 64 + x2.toInt) * 64 + x6.toInt := by
      rw [← Option.some.inj eo]
      show ((((x1 * (64 : Int32)) + x2) * (64 : Int32)) + x6).toInt = _
      have t1 : (x1 * (64 : Int32)).toInt = x1.toInt * 64 := by rw [tm (by rw [z64]; omega), z64]
      have t2 : ((x1 * (64 : Int32)) + x2).toInt = x1.toInt * 64 + x2.toInt := by rw [ta (by rw [t1]; omega), t1]
      have t3 : (((x1 * (64 : Int32)) + x2) * (64 : Int32)).toInt = (x1.toInt * 64 + x2.toInt) * 64 := by rw [tm (by rw [z64, t2]; omega), z64, t2]
      rw [ta (by rw [t3]; omega), t3]
    have c3 := clamp_i (v := o3.1) (by omega)
    replace e := (gd_s e).2
    rw [q3] at e
    have k1 : Ks ρ h (wI h r2 o3.1.toNatClampNeg (hI h x0 8)) := ks_I (by rw [q0]; decide)
    have w1 := wr_k k1 w
    have n0 : ¬ x0 = r2 := ne_r' r0 q0 (by decide)
    have n1 : ¬ a1 = r2 := ne_r' q1 q0 (by decide)
    have W1 : WyS x0 r2 a1 n ((x1.toInt * 64 + x2.toInt) * 64 + x6.toInt + 1).toNat (wI h r2 o3.1.toNatClampNeg (hI h x0 8)) := by
      have k8 : hI (wI h r2 o3.1.toNatClampNeg (hI h x0 8)) x0 8 = hI h x0 8 := by rw [r_I, if_neg (fun z => n0 z.1)]
      refine ⟨by rw [k8]; exact W.1, fun ww hw => ?_, fun i hi => ?_⟩
      · rw [r_I, if_neg (fun z => n1 z.1)]
        rw [k8] at hw
        exact W.2.1 ww hw
      · rw [k8, r_I]
        by_cases z : i = o3.1.toNatClampNeg
        · rw [if_pos ⟨rfl, z⟩]; exact Int.le_refl _
        · rw [if_neg (fun y => z y.2)]
          exact W.2.2 i (by omega)
    have t6 : (x6 + (1 : Int32)).toInt = x6.toInt + 1 := (nc_s i6 (by decide)).2
    have nx : ∀ {h o : Hp} {v : Int32}, WR ρ x0 h → hR h x0 0 = some r2 → hR h x0 1 = some a1 → hR h x0 3 = some a3 → v.toInt = x6.toInt + 1 → WyS x0 r2 a1 n ((x1.toInt * 64 + x2.toInt) * 64 + x6.toInt + 1).toNat h → sX10_layFrom_30 F f h x0 x1 x2 x3 x5 v = some o → WyS x0 r2 a1 n (((x1.toInt * 64 + x2.toInt) * 64 + x6.toInt + 1).toNat + (63 - x6.toInt).toNat) o := fun {h o v} w e0 e1 e3 ev W e => by
      have q : ((x1.toInt * 64 + x2.toInt) * 64 + x6.toInt + 1).toNat + (63 - x6.toInt).toNat = ((x1.toInt * 64 + x2.toInt) * 64 + 64).toNat := by omega
      have q2 : (x1.toInt * 64 + x2.toInt) * 64 + x6.toInt + 1 = (x1.toInt * 64 + x2.toInt) * 64 + v.toInt := by omega
      rw [q]
      rw [q2] at W
      exact ih w e0 e1 e3 (by omega) (by omega) W e
    have q : ((x1.toInt * 64 + x2.toInt) * 64 + x6.toInt + 1).toNat + (63 - x6.toInt).toNat = ((x1.toInt * 64 + x2.toInt) * 64 + 64).toNat := by omega
    rw [← q]
    replace e := br_s e
    rcases e with ⟨_, e⟩ | ⟨nb, e⟩
    · exact nx w1 (by rw [k1.1]; exact e0) (by rw [k1.1]; exact e1) (by rw [k1.1]; exact e3) t6 W1 e
    · have l6 : x6.toInt < n := by
        have hb := bit_set i6 nb
        have := B3 x6.toNatClampNeg (by have := clamp_i a6; omega) hb
        have := clamp_i a6
        omega
      exact lfx_in r0 q0 q1 i2 i6 l6 (fun w e0 e1 e3 ev W e => nx w e0 e1 e3 ev W e) F w1 (by rw [k1.1]; exact e0) (by rw [k1.1]; exact e1) (by rw [k1.1]; exact e3) W1 e
theorem lfx_all {x1 x2 : Int32} (r0 : ρ x0 = 11) (q0 : ρ a0 = 50) (q1 : ρ a1 = 51) (i1 : Rg 0 23 x1) (i2 : Rg 0 63 x2) (w : WR ρ x0 h) (e0 : hR h x0 0 = some a0) (e1 : hR h x0 1 = some a1) (e3 : hR h x0 3 = some a3) (e7 : hR h x0 7 = some L) (B : Bo ρ L n h) (W : WyS x0 a0 a1 n ((x1.toInt * 64 + x2.toInt) * 64).toNat h) (e : sX10_layFrom F h x0 x1 x2 = some o) : WyS x0 a0 a1 n ((x1.toInt * 64 + x2.toInt) * 64 + 64).toNat o := by
  unfold sX10_layFrom sX10_layFrom_21 at e
  simp only [nm] at e
  have z : (x1.toInt * 64 + x2.toInt) * 64 = (x1.toInt * 64 + x2.toInt) * 64 + (0 : Int32).toInt := by
    have : (0 : Int32).toInt = 0 := rfl
    omega
  rw [z] at W
  replace e := cl_s e
  obtain ⟨L', eL, e⟩ := e
  replace e := br_s e
  rcases e with ⟨_, e⟩ | ⟨_, e⟩
  · exact lfx_30 r0 q0 q1 i1 i2 bts_0 F w e0 e1 e3 (by decide) (by decide) W e
  · replace e := cl_s e
    obtain ⟨o3, eo, e⟩ := e
    unfold sX10_reach at eo
    have k := reach_l F w eo
    obtain ⟨u1, u2⟩ := reachx_l F w e7 B bts_0 eo
    refine lfx_30 r0 q0 q1 i1 i2 u1 F (wr_k k.1 w) (by rw [k.1.1]; exact e0) (by rw [k.1.1]; exact e1) (by rw [k.1.1]; exact e3) (by decide) (by decide) (wy_e ?_ (fun i => ?_) (fun i => ?_) W) e
    · exact u2 x0 8 (by rw [r0]; decide)
    · exact u2 a0 i (by rw [q0]; decide)
    · exact u2 a1 i (by rw [q1]; decide)
theorem layx_43 {K : Hp → Nat → Int32 → Option Hp} {x2 : Int32} {m : Int} {Q : Hp → Prop} (r0 : ρ x0 = 11) (q0 : ρ a0 = 50) (q1 : ρ a1 = 51) (i2 : Rg 0 23 x2) (R : ∀ {h o : Hp} {v : Int32}, WR ρ x0 h → hR h x0 0 = some a0 → hR h x0 1 = some a1 → hR h x0 3 = some a3 → hR h x0 7 = some L → Bo ρ L n h → (hI h L 3).toInt = m → v.toInt = x2.toInt + 1 → WyS x0 a0 a1 n ((x2.toInt + 1) * 4096).toNat h → K h x0 v = some o → Q o) : ∀ (f : Nat) {h o : Hp} {x3 : Int32}, 0 ≤ x3.toInt → x3.toInt ≤ 64 → WR ρ x0 h → hR h x0 0 = some a0 → hR h x0 1 = some a1 → hR h x0 3 = some a3 → hR h x0 7 = some L → Bo ρ L n h → (hI h L 3).toInt = m → WyS x0 a0 a1 n ((x2.toInt * 64 + x3.toInt) * 64).toNat h → sX10_lay_43 F K f h x0 x2 x3 = some o → Q o := by
  intro f
  induction f with
  | zero => intro h o x3 _ _ _ _ _ _ _ _ _ _ e; exact absurd e (by rw [sX10_lay_43]; exact fun z => nomatch z)
  | succ f ih =>
    intro h o x3 a3' b3 w e0 e1 e3 e7 B eM W e
    rw [sX10_lay_43] at e
    simp only [nm] at e
    have z64 : (64 : Int32).toInt = 64 := rfl
    replace e := br_s e
    rcases e with ⟨l, e⟩ | ⟨l, e⟩
    · have l := le_i l
      have q : (x2.toInt * 64 + x3.toInt) * 64 = (x2.toInt + 1) * 4096 := by omega
      rw [q] at W
      exact R w e0 e1 e3 e7 B eM (nc_s i2 (by decide)).2 W e
    have l := nle_i l
    have i3 : Rg 0 63 x3 := ⟨a3', by omega⟩
    replace e := cl_s e
    obtain ⟨o3, eo, e⟩ := e
    obtain ⟨k1, _⟩ := lf_all r0 i3 w e3 eo
    have W1 := lfx_all r0 q0 q1 i2 i3 w e0 e1 e3 e7 B W eo
    have t3 : (x3 + (1 : Int32)).toInt = x3.toInt + 1 := (nc_s i3 (by decide)).2
    have q : (x2.toInt * 64 + x3.toInt) * 64 + 64 = (x2.toInt * 64 + (x3 + (1 : Int32)).toInt) * 64 := by omega
    rw [q] at W1
    exact ih (by omega) (by omega) (wr_k k1 w) (by rw [k1.1]; exact e0) (by rw [k1.1]; exact e1) (by rw [k1.1]; exact e3) (by rw [k1.1]; exact e7) (bo_k k1 B) (by rw [k1.2 L 3 B.1]; exact eM) W1 e
theorem lai_18 {K : Hp → Nat → Int32 → Option Hp} {x1 : Int32} (R : ∀ {h o : Hp} {v : Int32}, K h x0 v = some o → ∀ a i, hI o a i = hI h a i) : ∀ (f : Nat) {h o : Hp} {x2 : Int64} {x4 : Int32}, sX10_layAround_18 F K f h x0 x1 x2 x4 = some o → ∀ a i, hI o a i = hI h a i := by
  intro f
  induction f with
  | zero => intro h o x2 x4 e; exact absurd e (by rw [sX10_layAround_18]; exact fun z => nomatch z)
  | succ f ih =>
    intro h o x2 x4 e
    rw [sX10_layAround_18] at e
    unfold sX10_layAround_96 at e
    simp only [nm] at e
    replace e := br_s e
    rcases e with ⟨_, e⟩ | ⟨_, e⟩
    · replace e := cl_s e
      obtain ⟨r2, e2, e⟩ := e
      replace e := (gd_s e).2
      exact fun a i => R e a i
    replace e := cl_s e
    obtain ⟨_, _, e⟩ := e
    replace e := cl_s e
    obtain ⟨_, _, e⟩ := e
    replace e := (gd_s e).2
    replace e := cl_s e
    obtain ⟨_, _, e⟩ := e
    replace e := cl_s e
    obtain ⟨_, _, e⟩ := e
    replace e := (gd_s e).2
    replace e := br_s e
    rcases e with ⟨_, e⟩ | ⟨_, e⟩
    · exact ih e
    replace e := cl_s e
    obtain ⟨o15, e15, e⟩ := e
    have q := ison_h e15
    rw [q] at e
    replace e := br_s e
    rcases e with ⟨_, e⟩ | ⟨_, e⟩
    · exact ih e
    replace e := cl_s e
    obtain ⟨_, _, e⟩ := e
    exact ih e
theorem lai_2 : ∀ (f : Nat) {h o : Hp} {x1 : Int32}, sX10_layAround_2 F f h x0 x1 = some o → ∀ a i, hI o a i = hI h a i := by
  intro f
  induction f with
  | zero => intro h o x1 e; exact absurd e (by rw [sX10_layAround_2]; exact fun z => nomatch z)
  | succ f ih =>
    intro h o x1 e
    rw [sX10_layAround_2] at e
    replace e := cl_s e
    obtain ⟨_, _, e⟩ := e
    replace e := br_s e
    rcases e with ⟨_, e⟩ | ⟨_, e⟩
    · rw [← Option.some.inj e]; exact fun _ _ => rfl
    · exact lai_18 (fun e => ih e) F e
theorem layx_28 {m : Int} (r0 : ρ x0 = 11) (q0 : ρ a0 = 50) (q1 : ρ a1 = 51) (m12 : m ≤ 12) : ∀ (f : Nat) {h o : Hp} {x2 : Int32}, 0 ≤ x2.toInt → x2.toInt ≤ 2 * m → WR ρ x0 h → hR h x0 0 = some a0 → hR h x0 1 = some a1 → hR h x0 3 = some a3 → hR h x0 7 = some L → Bo ρ L n h → (hI h L 3).toInt = m → WyS x0 a0 a1 n (x2.toInt * 4096).toNat h → sX10_lay_28 F f h x0 x2 = some o → WyS x0 a0 a1 n (2 * m * 4096 + 1).toNat o := by
  intro f
  induction f with
  | zero => intro h o x2 _ _ _ _ _ _ _ _ _ _ e; exact absurd e (by rw [sX10_lay_28]; exact fun z => nomatch z)
  | succ f ih =>
    intro h o x2 a2 b2 w e0 e1 e3 e7 B eM W e
    rw [sX10_lay_28] at e
    simp only [nm] at e
    have z64 : (64 : Int32).toInt = 64 := rfl
    have z2 : (2 : Int32).toInt = 2 := rfl
    replace e := cl_s e
    obtain ⟨r1, er1, e⟩ := e
    have y1 : r1 = L := r_eq e7 er1
    subst y1
    have t1 : ((2 : Int32) * (hI h r1 3)).toInt = 2 * m := by rw [tm (by rw [z2, eM]; omega), z2, eM]
    replace e := br_s e
    rcases e with ⟨l, e⟩ | ⟨l, e⟩
    · have l := le_i l
      rw [t1] at l
      have q2 : x2.toInt = 2 * m := by omega
      rw [q2] at W
      replace e := cl_s e
      obtain ⟨r3, er3, e⟩ := e
      have y3 : r3 = a0 := r_eq e0 er3
      subst y3
      replace e := cl_s e
      obtain ⟨r4, er4, e⟩ := e
      have y4 : r4 = r1 := r_eq e7 er4
      subst y4
      replace e := (gd_s e).2
      replace e := cl_s e
      obtain ⟨o7, e7', e⟩ := e
      unfold sX10_layAround at e7'
      have ii := lai_2 F e7'
      rw [← Option.some.inj e]
      have t2 : (((2 : Int32) * (hI h r4 3)) * (64 : Int32)).toInt = 2 * m * 64 := by rw [tm (by rw [z64, t1]; omega), z64, t1]
      have t3 : ((((2 : Int32) * (hI h r4 3)) * (64 : Int32)) * (64 : Int32)).toInt = 2 * m * 64 * 64 := by rw [tm (by rw [z64, t2]; omega), z64, t2]
      have c3 := clamp_i (v := (((2 : Int32) * (hI h r4 3)) * (64 : Int32)) * (64 : Int32)) (by omega)
      have n0 : ¬ x0 = r3 := ne_r' r0 q0 (by decide)
      have n1 : ¬ a1 = r3 := ne_r' q1 q0 (by decide)
      have k8 : hI o7 x0 8 = hI h x0 8 := by rw [ii, r_I, if_neg (fun z => n0 z.1)]
      refine ⟨by rw [k8]; exact W.1, fun ww hw => ?_, fun i hi => ?_⟩
      · rw [ii, r_I, if_neg (fun z => n1 z.1)]
        rw [k8] at hw
        exact W.2.1 ww hw
      · rw [k8, ii, r_I]
        by_cases z : i = ((((2 : Int32) * (hI h r4 3)) * (64 : Int32)) * (64 : Int32)).toNatClampNeg
        · rw [if_pos ⟨rfl, z⟩]; exact Int.le_refl _
        · rw [if_neg (fun y => z y.2)]
          exact W.2.2 i (by omega)
    · have l := nle_i l
      rw [t1] at l
      have i2 : Rg 0 23 x2 := ⟨a2, by omega⟩
      have q : x2.toInt * 4096 = (x2.toInt * 64 + (0 : Int32).toInt) * 64 := by
        have : (0 : Int32).toInt = 0 := rfl
        omega
      rw [q] at W
      have rL := B.1
      refine layx_43 (m := m) (Q := WyS x0 a0 a1 n (2 * m * 4096 + 1).toNat) r0 q0 q1 i2 (fun {h2 o2 v} w2 e02 e12 e32 e72 B2 eM2 ev W2 ee => ?_) F (by decide) (by decide) w e0 e1 e3 e7 B eM W e
      rw [← ev] at W2
      exact ih (by omega) (by omega) w2 e02 e12 e32 e72 B2 eM2 W2 ee
end
section
variable {ρ : Nat → Nat} {c : Cm} {h o : Hp} {x0 L F : Nat}
/-- ways of the law's men lead to squares of the law -/
def WyX (x0 : Nat) (n m : Int) (h : Hp) : Prop := ∀ a0 a1, hR h x0 0 = some a0 → hR h x0 1 = some a1 → WyS x0 a0 a1 n (2 * m * 4096 + 1).toNat h
theorem lay_wx (hF : 700000 ≤ F) (T : TH ρ c h) (r0 : ρ x0 = 11) (rL : ρ L = 2) (sq : (hI h L 0).toInt * (hI h L 1).toInt = (hI h L 2).toInt) (e : sX10_lay F h x0 L = some o) : WyX x0 (hI h L 2).toInt (hI h L 3).toInt o := by
  unfold sX10_lay at e
  replace e := nm_s e
  obtain ⟨h1, w1, e⟩ := e
  replace e := nm_s e
  obtain ⟨h2, w2, e⟩ := e
  subst w1
  subst w2
  replace e := cl_s e
  obtain ⟨r3, e3, e⟩ := e
  replace e := cl_s e
  obtain ⟨o4, e4, e⟩ := e
  replace e := cl_s e
  obtain ⟨r5, e5, e⟩ := e
  replace e := cl_s e
  obtain ⟨o6, e6, e⟩ := e
  have w0 : WR ρ x0 (wI (wR h x0 7 (some L)) x0 8 (0 : Int32)) := fun k r hk er => by
    have er' : (if x0 = x0 ∧ k = 7 then some L else hR h x0 k) = some r := by rw [← r_R]; exact er
    by_cases z : k = 7
    · rw [if_pos ⟨rfl, z⟩] at er'
      rw [← Option.some.inj er', z]; exact rL
    · rw [if_neg (fun y => z y.2)] at er'
      have q : ∀ j m, rfK 11 j = m → m ≠ 0 → hR h x0 j = some r → ρ r = m := fun j m h1 h2 h3 => by
        obtain ⟨q1, f1, g1⟩ := thR T r0 (i := j) (k2 := m) h1 h2
        rw [r_eq f1 h3]; exact g1
      have hk7 : k < 7 := by omega
      match k, hk7, er' with
      | 0, _, er' => exact q 0 50 rfl (by decide) er'
      | 1, _, er' => exact q 1 51 rfl (by decide) er'
      | 2, _, er' => exact q 2 52 rfl (by decide) er'
      | 3, _, er' => exact q 3 53 rfl (by decide) er'
      | 4, _, er' => exact q 4 54 rfl (by decide) er'
      | 5, _, er' => exact q 5 55 rfl (by decide) er'
      | 6, _, er' => exact q 6 56 rfl (by decide) er'
  unfold sJ7_fill_d0a16 at e4 e6
  obtain ⟨⟨g4, m4⟩, i4⟩ := fJ F e4
  obtain ⟨⟨g6, m6⟩, i6⟩ := fJ F e6
  have k6 : ∀ a i, hR o6 a i = hR (wI (wR h x0 7 (some L)) x0 8 (0 : Int32)) a i := fun a i => by rw [g6, g4]
  have ii6 : ∀ a i, hI o6 a i = hI (wI (wR h x0 7 (some L)) x0 8 (0 : Int32)) a i := fun a i => by rw [i6, i4]
  have w6 : WR ρ x0 o6 := fun k r hk er => w0 k r hk (by rw [← k6]; exact er)
  obtain ⟨b0, eb0, qb0⟩ := thR T r0 (i := 0) (k2 := 50) rfl (by decide)
  obtain ⟨b1, eb1, qb1⟩ := thR T r0 (i := 1) (k2 := 51) rfl (by decide)
  have rf : ∀ i, ¬ i = 7 → hR o6 x0 i = hR h x0 i := fun i ni => by
    rw [k6]
    show hR (wR h x0 7 (some L)) x0 i = _
    rw [r_R, if_neg (fun z => ni z.2)]
  have e76 : hR o6 x0 7 = some L := by
    rw [k6]
    show hR (wR h x0 7 (some L)) x0 7 = some L
    rw [r_R, if_pos ⟨rfl, rfl⟩]
  have nL : ∀ i, hI o6 L i = hI h L i := fun i => by
    rw [ii6, r_I, if_neg (ne_r rL r0 (by decide))]; rfl
  have Bo6 : Bo ρ L (hI h L 2).toInt o6 := ⟨rL, by rw [nL]; exact thI T rL (k := 2) (i := 0) rfl, by rw [nL]; exact thI T rL (k := 2) (i := 1) rfl, by rw [nL, nL]; exact sq⟩
  have im := thI T rL (k := 2) (i := 3) (lo := 0) (hi := 12) rfl
  have e8 : (hI o6 x0 8).toInt = 0 := by rw [ii6, r_I, if_pos ⟨rfl, rfl⟩]; rfl
  have z0 : (0 : Int32).toInt = 0 := rfl
  have R := layx_28 (m := (hI h L 3).toInt) (a3 := r3) r0 qb0 qb1 im.2 F (x2 := (0 : Int32)) (by decide) (by rw [z0]; have := im.1; omega) w6 (by rw [rf 0 (by decide)]; exact eb0) (by rw [rf 1 (by decide)]; exact eb1) (by rw [k6]; exact e3) e76 Bo6 (by rw [nL]) ⟨by omega, fun w hw => by omega, fun i hi => by rw [z0] at hi; omega⟩ e
  intro a0 a1 ea0 ea1
  obtain ⟨k7, _⟩ := lay_28 (n := hI h L 2) (a3 := r3) r0 rL F w6 (by rw [k6]; exact e3) e76 (nL 2) e
  rw [k7.1, rf 0 (by decide)] at ea0
  rw [k7.1, rf 1 (by decide)] at ea1
  have y0 : a0 = b0 := r_eq eb0 ea0
  have y1 : a1 = b1 := r_eq eb1 ea1
  subst y0; subst y1
  exact R
end
end
section
/-! men of the law alone: put, shift, blast, make -/
/-- men that are changed: gone, or squares and men of the law -/
def kq (k : Nat) : Bool := k == 34 || k == 36 || k == 4 || k == 38
def PxC (ρ : Nat → Nat) (n m : Int) (h o : Hp) : Prop := (∀ a i, hR o a i = hR h a i) ∧ (∀ a i, kq (ρ a) = false → hI o a i = hI h a i) ∧ ∀ a s, ρ a = 34 → hI o a s = hI h a s ∨ (hI o a s).toInt < 0 ∨ ((s : Int) < n ∧ (hI o a s).toInt < 2 * m)
/-- where a position's rows lie -/
def PR (ρ : Nat → Nat) (p : Nat) (h : Hp) : Prop := ρ p = 4 ∧ (∀ r, hR h p 0 = some r → ρ r = 34) ∧ (∀ r, hR h p 2 = some r → ρ r = 36) ∧ ∀ r, hR h p 4 = some r → ρ r = 38
def MvX (n m : Int) (v : Int32) : Prop := (v &&& (63 : Int32)).toInt < n ∧ ((v >>> ((6 : Int32) &&& 31)) &&& (63 : Int32)).toInt < n ∧ ((v >>> ((12 : Int32) &&& 31)) &&& (15 : Int32)).toInt < m ∧ (((v >>> ((16 : Int32) &&& 31)) &&& (15 : Int32)) = 15 ∨ ((v >>> ((16 : Int32) &&& 31)) &&& (15 : Int32)).toInt < m)
section
variable {ρ : Nat → Nat} {c : Cm} {h o g : Hp} {x0 p L F : Nat} {n m : Int} {x1 x2 x3 : Int32}
theorem px_0 : PxC ρ n m h h := ⟨fun _ _ => rfl, fun _ _ _ => rfl, fun _ _ _ => Or.inl rfl⟩
theorem px_t (a : PxC ρ n m h g) (b : PxC ρ n m g o) : PxC ρ n m h o := ⟨fun x i => (b.1 x i).trans (a.1 x i), fun x i r => (b.2.1 x i r).trans (a.2.1 x i r), fun x s r => by
  rcases b.2.2 x s r with z | z
  · rw [z]; exact a.2.2 x s r
  · exact Or.inr z⟩
theorem px_J {a i : Nat} {v : Int64} : PxC ρ n m h (wJ h a i v) := ⟨fun _ _ => rfl, fun _ _ _ => rfl, fun _ _ _ => Or.inl rfl⟩
theorem px_I {a i : Nat} {v : Int32} (n2 : kq (ρ a) = true) (n34 : ¬ ρ a = 34) : PxC ρ n m h (wI h a i v) := ⟨fun _ _ => rfl, fun b j r => by rw [r_I, if_neg (fun z => by rw [z.1, n2] at r; exact absurd r (by decide))], fun b j r => Or.inl (by rw [r_I, if_neg (fun z => n34 (by rw [← z.1]; exact r))])⟩
theorem pxn {a i : Nat} {v : Int32} (r : ρ a = 34) (z : v.toInt < 0 ∨ ((i : Int) < n ∧ v.toInt < 2 * m)) : PxC ρ n m h (wI h a i v) := ⟨fun _ _ => rfl, fun b j rb => by rw [r_I, if_neg (fun z => by rw [z.1, r] at rb; exact absurd rb (by decide))], fun b j rb => by
  rw [r_I]
  by_cases y : b = a ∧ j = i
  · rw [if_pos y, y.2]; exact Or.inr z
  · rw [if_neg y]; exact Or.inl rfl⟩
theorem pr_k (k : ∀ a i, hR o a i = hR h a i) (P : PR ρ p h) : PR ρ p o := ⟨P.1, fun r e => P.2.1 r (by rw [← k]; exact e), fun r e => P.2.2.1 r (by rw [← k]; exact e), fun r e => P.2.2.2 r (by rw [← k]; exact e)⟩
/-- the side is as it was -/
def Sd5 (ρ : Nat → Nat) (h o : Hp) : Prop := ∀ a, ρ a = 4 → hI o a 5 = hI h a 5
theorem sd_t (a : Sd5 ρ h g) (b : Sd5 ρ g o) : Sd5 ρ h o := fun x r => (b x r).trans (a x r)
theorem sd_I {a i : Nat} {v : Int32} (n4 : ¬ ρ a = 4) : Sd5 ρ h (wI h a i v) := fun b r => by rw [r_I, if_neg (fun z => n4 (by rw [← z.1]; exact r))]
theorem put70_x (P : PR ρ p h) (i1 : Rg 0 63 x1) (i2 : Rg (-2) 23 x2) (X : 0 ≤ x2.toInt → x1.toInt < n ∧ x2.toInt < 2 * m) {x4 : Int64} (e : sX3_put_70 h p x1 x2 x3 x4 = some o) : PxC ρ n m h o ∧ Sd5 ρ h o := by
  unfold sX3_put_70 sX3_put_111 at e
  simp only [nm] at e
  replace e := cl_s e
  obtain ⟨on, e1, e⟩ := e
  have qon := P.2.1 on e1
  replace e := (gd_s e).2
  rw [nar8 i2] at e
  have c1 := clamp_i i1.1
  have K1 : PxC ρ n m h (wI h on x1.toNatClampNeg x2) := pxn qon (by
    by_cases z : 0 ≤ x2.toInt
    · exact Or.inr ⟨by have := (X z).1; omega, (X z).2⟩
    · exact Or.inl (by omega))
  have S1 : Sd5 ρ h (wI h on x1.toNatClampNeg x2) := sd_I (by rw [qon]; decide)
  replace e := br_s e
  rcases e with ⟨_, e⟩ | ⟨_, e⟩
  · rw [← Option.some.inj e]
    exact ⟨px_t K1 px_J, fun a r => S1 a r⟩
  replace e := cl_s e
  obtain ⟨of, e5, e⟩ := e
  replace e := (gd_s (gd_s e).2).2
  replace e := br_s e
  rcases e with ⟨_, e⟩ | ⟨_, e⟩
  · replace e := cl_s e
    obtain ⟨ra, e10, e⟩ := e
    replace e := (gd_s e).2
    have qra := P.2.2.1 ra e10
    rw [← Option.some.inj e]
    exact ⟨px_t K1 (px_t px_J (px_t (px_I (by rw [qra]; decide) (by rw [qra]; decide)) px_J)), sd_t S1 (sd_t (fun _ _ => rfl) (sd_t (sd_I (by rw [qra]; decide)) (fun _ _ => rfl)))⟩
  · rw [← Option.some.inj e]
    exact ⟨px_t K1 (px_t px_J px_J), fun a r => S1 a r⟩
theorem put_x (P : PR ρ p h) (i2 : Rg (-2) 23 x2) (X : 0 ≤ x2.toInt → x1.toInt < n ∧ x2.toInt < 2 * m) (e : sX3_put h p x1 x2 x3 = some o) : PxC ρ n m h o ∧ Sd5 ρ h o := by
  unfold sX3_put sX3_put_10 at e
  simp only [nm] at e
  replace e := br_s e
  rcases e with ⟨_, e⟩ | ⟨n0, e⟩
  · rw [← Option.some.inj e]; exact ⟨px_0, fun _ _ => rfl⟩
  replace e := br_s e
  rcases e with ⟨l64, e⟩ | ⟨_, e⟩
  · have i1 : Rg 0 63 x1 := by
      have a := nlt_i n0
      have b := Int32.lt_iff_toInt_lt.mp l64
      have z0 : (0 : Int32).toInt = 0 := rfl
      have z64 : (64 : Int32).toInt = 64 := rfl
      exact ⟨by omega, by omega⟩
    replace e := cl_s e
    obtain ⟨q4, w4, e⟩ := e
    replace e := (gd_s e).2
    have fin : ∀ {g : Hp}, (∀ a i, hR g a i = hR h a i) → PxC ρ n m h g → Sd5 ρ h g → sX3_put_70 g p x1 x2 x3 ((1 : Int64) <<< (x1.toInt64 &&& 63)) = some o → PxC ρ n m h o ∧ Sd5 ρ h o := fun {g} a1 a2 a3 e => by
      obtain ⟨u1, u2⟩ := put70_x (n := n) (m := m) (pr_k a1 P) i1 i2 X e
      exact ⟨px_t a2 u1, sd_t a3 u2⟩
    replace e := br_s e
    rcases e with ⟨_, e⟩ | ⟨_, e⟩
    · exact put70_x P i1 i2 X e
    · replace e := cl_s e
      obtain ⟨q8, w8, e⟩ := e
      replace e := (gd_s (gd_s e).2).2
      replace e := cl_s e
      obtain ⟨q12, w12, e⟩ := e
      replace e := (gd_s e).2
      replace e := br_s e
      rcases e with ⟨_, e⟩ | ⟨_, e⟩
      · replace e := cl_s e
        obtain ⟨q15, w15, e⟩ := e
        have qra := P.2.2.1 q15 w15
        replace e := (gd_s e).2
        refine fin ?_ ?_ ?_ e
        · intro a i; rfl
        · exact px_t px_J (px_I (by rw [qra]; decide) (by rw [qra]; decide))
        · exact sd_t (g := wJ h q8 _ _) (fun _ _ => rfl) (sd_I (by rw [qra]; decide))
      · refine fin ?_ ?_ ?_ e
        · intro a i; rfl
        · exact px_J
        · intro a r; rfl
  · rw [← Option.some.inj e]; exact ⟨px_0, fun _ _ => rfl⟩
theorem near_16 : ∀ (f : Nat) {x4 x5 : Int32} {o : Int32 × Hp}, sX5_nearest_16 F f h x0 p x3 x4 x5 = some o → o.2 = h := by
  intro f
  induction f with
  | zero => intro x4 x5 o e; exact absurd e (by rw [sX5_nearest_16]; exact fun z => nomatch z)
  | succ f ih =>
    intro x4 x5 o e
    rw [sX5_nearest_16] at e
    unfold sX5_nearest_62 at e
    simp only [nm] at e
    replace e := br_s e
    rcases e with ⟨_, e⟩ | ⟨_, e⟩
    · rw [← Option.some.inj e]
    replace e := cl_s e
    obtain ⟨_, _, e⟩ := e
    replace e := br_s e
    rcases e with ⟨_, e⟩ | ⟨_, e⟩
    · rw [← Option.some.inj e]
    replace e := cl_s e
    obtain ⟨_, _, e⟩ := e
    replace e := (gd_s e).2
    replace e := br_s e
    rcases e with ⟨_, e⟩ | ⟨_, e⟩
    · exact ih e
    · rw [← Option.some.inj e]
theorem near_h {o : Int32 × Hp} (e : sX5_nearest F h x0 p x2 x3 = some o) : o.2 = h := by
  unfold sX5_nearest at e
  replace e := cl_s e
  obtain ⟨_, _, e⟩ := e
  replace e := cl_s e
  obtain ⟨_, _, e⟩ := e
  replace e := (gd_s e).2
  exact near_16 F e
/-- what a shift asks: law, side, castle -/
def ShP (ρ : Nat → Nat) (x0 p L : Nat) (m : Int) (h : Hp) : Prop := PR ρ p h ∧ hR h x0 0 = some L ∧ ρ L = 2 ∧ Rg 0 1 (hI h p 5) ∧ Rg (-1) 11 (hI h L 6) ∧ (hI h L 6).toInt < m ∧ m ≤ 12
theorem sh_k (k : PxC ρ n m h o) (s : Sd5 ρ h o) (P : ShP ρ x0 p L m h) : ShP ρ x0 p L m o := by
  obtain ⟨a, b, cL, d, e, f, g⟩ := P
  refine ⟨pr_k k.1 a, by rw [k.1]; exact b, cL, by rw [s p a.1]; exact d, by rw [k.2.1 L 6 (by rw [cL]; rfl)]; exact e, by rw [k.2.1 L 6 (by rw [cL]; rfl)]; exact f, g⟩
theorem code_x {y z : Int32} (iy : Rg (-1) 11 y) (iz : Rg 0 1 z) (l : y.toInt < m) : Rg (-2) 23 (((2 : Int32) * y) + z) ∧ (((2 : Int32) * y) + z).toInt < 2 * m := by
  have a := iy.1
  have b := iy.2
  have c := iz.1
  have d := iz.2
  have z2 : (2 : Int32).toInt = 2 := rfl
  have t1 : ((2 : Int32) * y).toInt = 2 * y.toInt := by rw [tm (by rw [z2]; omega), z2]
  have t2 : (((2 : Int32) * y) + z).toInt = 2 * y.toInt + z.toInt := by rw [ta (by rw [t1]; omega), t1]
  exact ⟨⟨by omega, by omega⟩, by omega⟩
theorem sh_145 {x4 x6 : Int32} (P : ShP ρ x0 p L m h) (M : MvX n m x2) (l4 : x4.toInt < n) (i6 : Rg (-2) 23 x6) (l6 : x6.toInt < 2 * m) (e : sX5_shift_145 F h x0 p x2 x3 x4 x6 = some o) : PxC ρ n m h o ∧ Sd5 ρ h o := by
  unfold sX5_shift_145 sX5_shift_185 at e
  replace e := cl_s e
  obtain ⟨r1, _, e⟩ := e
  replace e := cl_s e
  obtain ⟨o2, e2, e⟩ := e
  obtain ⟨k2, s2⟩ := put_x (n := n) (m := m) P.1 (rg_m (rg_b rfl : Rg (-1) (-1) (-1 : Int32)) (by decide)) (fun z => absurd z (by decide)) e2
  have P2 := sh_k k2 s2 P
  have bec : ∀ {g : Hp} {o : Int32 × Hp}, sX5_becomes g x2 = some o → o.2 = g ∧ (¬ o.1 = (-1 : Int32) → Rg (-1) 11 o.1 ∧ o.1.toInt < m) := fun {g o} e => by
    unfold sX5_becomes sX5_becomes_19 at e
    simp only [nm] at e
    replace e := br_s e
    rcases e with ⟨_, e⟩ | ⟨n15, e⟩
    · rw [← Option.some.inj e]; exact ⟨rfl, fun z => absurd rfl z⟩
    · rw [← Option.some.inj e]
      refine ⟨rfl, fun _ => ?_⟩
      rcases M.2.2.2 with z | z
      · exact absurd z n15
      · have i : Rg 0 15 ((x2 >>> ((16 : Int32) &&& 31)) &&& (15 : Int32)) := rg_and (c := 15) (d := 15) (rg_b rfl) (by decide)
        have := i.1
        have := P.2.2.2.2.2.2
        exact ⟨⟨by show (-1 : Int) ≤ ((x2 >>> ((16 : Int32) &&& 31)) &&& (15 : Int32)).toInt; omega, by show ((x2 >>> ((16 : Int32) &&& 31)) &&& (15 : Int32)).toInt ≤ _; omega⟩, z⟩
  replace e := cl_s e
  obtain ⟨o3, e3, e⟩ := e
  obtain ⟨q3, _⟩ := bec e3
  rw [q3] at e
  replace e := br_s e
  rcases e with ⟨_, e⟩ | ⟨ne, e⟩
  · replace e := cl_s e
    obtain ⟨r1', _, e⟩ := e
    replace e := cl_s e
    obtain ⟨o4, e4, e⟩ := e
    rw [← Option.some.inj e]
    obtain ⟨k4, s4⟩ := put_x (n := n) (m := m) P2.1 i6 (fun _ => ⟨l4, l6⟩) e4
    exact ⟨px_t k2 k4, sd_t s2 s4⟩
  · replace e := cl_s e
    obtain ⟨o5, e5, e⟩ := e
    obtain ⟨q5, b5⟩ := bec e5
    have e35 : o5.1 = o3.1 := by
      rw [e3] at e5
      have := Option.some.inj e5
      rw [← this]
    obtain ⟨ib, lb⟩ := b5 (by rw [e35]; exact ne)
    rw [q5] at e
    replace e := cl_s e
    obtain ⟨r1', _, e⟩ := e
    replace e := cl_s e
    obtain ⟨o4, e4, e⟩ := e
    rw [← Option.some.inj e]
    obtain ⟨ci, cl⟩ := code_x ib P2.2.2.2.1 lb
    obtain ⟨k4, s4⟩ := put_x (n := n) (m := m) P2.1 ci (fun _ => ⟨l4, cl⟩) e4
    exact ⟨px_t k2 k4, sd_t s2 s4⟩
theorem sh_122 {x4 x5 x6 : Int32} (P : ShP ρ x0 p L m h) (M : MvX n m x2) (l4 : x4.toInt < n) (i6 : Rg (-2) 23 x6) (l6 : x6.toInt < 2 * m) (e : sX5_shift_122 F h x0 p x2 x3 x4 x5 x6 = some o) : PxC ρ n m h o ∧ Sd5 ρ h o := by
  unfold sX5_shift_122 at e
  replace e := br_s e
  rcases e with ⟨_, e⟩ | ⟨_, e⟩
  · replace e := cl_s e
    obtain ⟨o2, e2, e⟩ := e
    have q2 : o2.2 = h := by unfold sX3_passSquare at e2; rw [← Option.some.inj e2]
    rw [q2] at e
    replace e := cl_s e
    obtain ⟨r3, _, e⟩ := e
    replace e := cl_s e
    obtain ⟨o4, e4, e⟩ := e
    obtain ⟨k4, s4⟩ := put_x (n := n) (m := m) P.1 (rg_m (rg_b rfl : Rg (-1) (-1) (-1 : Int32)) (by decide)) (fun z => absurd z (by decide)) e4
    obtain ⟨k5, s5⟩ := sh_145 (sh_k k4 s4 P) M l4 i6 l6 e
    exact ⟨px_t k4 k5, sd_t s4 s5⟩
  · exact sh_145 P M l4 i6 l6 e
theorem shift_x (P : ShP ρ x0 p L m h) (M : MvX n m x2) (e : sX5_shift F h x0 p x2 = some o) : PxC ρ n m h o ∧ Sd5 ρ h o := by
  unfold sX5_shift sX5_leftBy sX5_comeTo sX5_kindOf sX5_manOf at e
  simp only [nm] at e
  replace e := cl_s e
  obtain ⟨o1, e1, e⟩ := e
  have y1 := Option.some.inj e1
  subst y1
  replace e := cl_s e
  obtain ⟨o2, e2, e⟩ := e
  have y2 := Option.some.inj e2
  subst y2
  replace e := cl_s e
  obtain ⟨o3, e3, e⟩ := e
  have y3 := Option.some.inj e3
  subst y3
  replace e := cl_s e
  obtain ⟨o4, e4, e⟩ := e
  have y4 := Option.some.inj e4
  subst y4
  have im : Rg 0 15 ((x2 >>> ((12 : Int32) &&& 31)) &&& (15 : Int32)) := rg_and (c := 15) (d := 15) (rg_b rfl) (by decide)
  have im0 := im.1
  have m12 := P.2.2.2.2.2.2
  have lm := M.2.2.1
  obtain ⟨ci, cl⟩ := code_x (m := m) (y := (x2 >>> ((12 : Int32) &&& 31)) &&& (15 : Int32)) ⟨by omega, by omega⟩ P.2.2.2.1 lm
  replace e := br_s e
  rcases e with ⟨_, e⟩ | ⟨_, e⟩
  · replace e := cl_s e
    obtain ⟨r9, _, e⟩ := e
    replace e := cl_s e
    obtain ⟨o10, e10, e⟩ := e
    rw [← Option.some.inj e]
    exact put_x (n := n) (m := m) P.1 ci (fun _ => ⟨M.1, cl⟩) e10
  have b72 : ∀ {d : Int32}, sX5_shift_72 F h x0 p x2 ((x2 >>> ((6 : Int32) &&& 31)) &&& (63 : Int32)) (x2 &&& (63 : Int32)) ((x2 >>> ((24 : Int32) &&& 31)) &&& (3 : Int32)) (((2 : Int32) * ((x2 >>> ((12 : Int32) &&& 31)) &&& (15 : Int32))) + (hI h p 5)) d ((x2 >>> ((6 : Int32) &&& 31)) &&& (63 : Int32)) p x0 = some o → PxC ρ n m h o ∧ Sd5 ρ h o := fun {d} e => by
    unfold sX5_shift_72 at e
    replace e := cl_s e
    obtain ⟨o1, e1, e⟩ := e
    rw [near_h e1] at e
    replace e := cl_s e
    obtain ⟨r2, _, e⟩ := e
    replace e := cl_s e
    obtain ⟨o3, e3, e⟩ := e
    obtain ⟨k3, s3⟩ := put_x (n := n) (m := m) P.1 (rg_m (rg_b rfl : Rg (-1) (-1) (-1 : Int32)) (by decide)) (fun z => absurd z (by decide)) e3
    have P3 := sh_k k3 s3 P
    replace e := cl_s e
    obtain ⟨r4, e4, e⟩ := e
    have y4 : r4 = L := r_eq P3.2.1 e4
    subst y4
    replace e := cl_s e
    obtain ⟨r5, _, e⟩ := e
    replace e := cl_s e
    obtain ⟨o6, e6, e⟩ := e
    obtain ⟨ci2, cl2⟩ := code_x P3.2.2.2.2.1 P3.2.2.2.1 P3.2.2.2.2.2.1
    have ia : Rg 0 63 ((x2 >>> ((6 : Int32) &&& 31)) &&& (63 : Int32)) := rg_and (c := 63) (d := 63) (rg_b rfl) (by decide)
    have ib : Rg 0 63 (x2 &&& (63 : Int32)) := rg_and (c := 63) (d := 63) (rg_b rfl) (by decide)
    have lmid : ((((x2 >>> ((6 : Int32) &&& 31)) &&& (63 : Int32)) + (x2 &&& (63 : Int32))) >>> ((1 : Int32) &&& 31)).toInt < n := by
      have a1 := ia.1
      have a2 := ia.2
      have b1 := ib.1
      have b2 := ib.2
      have m1 := M.1
      have m2 := M.2.1
      rw [ti_shr1, ta (by omega)]
      omega
    obtain ⟨k6, s6⟩ := put_x (n := n) (m := m) P3.1 ci2 (fun _ => ⟨lmid, cl2⟩) e6
    obtain ⟨k7, s7⟩ := sh_122 (sh_k k6 s6 P3) M M.1 ci cl e
    exact ⟨px_t k3 (px_t k6 k7), sd_t s3 (sd_t s6 s7)⟩
  replace e := br_s e
  rcases e with ⟨_, e⟩ | ⟨_, e⟩
  · replace e := br_s e
    rcases e with ⟨_, e⟩ | ⟨_, e⟩
    · exact b72 e
    · exact b72 e
  · exact sh_122 P M M.1 ci cl e
end
end
