/-! worth of the class -/
/-- men of a position: squares and men of the law alone -/
def PoX (ρ : Nat → Nat) (c : Cm) (b : Nat) (h : Hp) : Prop := ∀ L on s, ρ L = 2 → cw c L = 2102 → hR h b 0 = some on → s < 64 → 0 ≤ (hI h on s).toInt → (s : Int) < (hI h L 2).toInt ∧ (hI h on s).toInt < 2 * (hI h L 3).toInt
def PlX (ρ : Nat → Nat) (c : Cm) (x0 : Nat) (h : Hp) : Prop := ∀ r u, hR h x0 13 = some r → hR h x0 14 = some u → ∀ i, i < 60 → ¬ hI h u i = 0 → ∀ b, hR h r i = some b → PoX ρ c b h
section
variable {ρ : Nat → Nat} {c : Cm} {h : Hp} {x0 x1 b ks st pw L F : Nat} {sq : Int}
theorem pos_px (T : TH ρ c h) (rb : ρ b = 4) (rL : ρ L = 2) (wL : cw c L = 2102) (P : PoX ρ c b h) : PoS (hI h L 2).toInt b h := fun of d ef hd s hs hb => by
  obtain ⟨on, eo, _⟩ := thR T rb (i := 0) (k2 := 34) rfl (by decide)
  exact (P L on s rL wL eo hs (th_ps T rb eo ef hs hd hb).1).1
theorem stp_rm0 {i n : Nat} (T : TH ρ c h) (qp : ρ pw = 22) (Pw : ∀ i : Nat, i ≤ 5 → (hI h pw i).toInt = sq ^ i) (S : StP x0 ks pw st h) (hi : (i : Int) < (hI h x0 9).toInt) (hn : szI (hI h ks i).toInt = n) : 0 ≤ (hI h st i).toInt ∧ (hI h st i).toInt + 2 * sq ^ n ≤ 600000 := by
  have gp : ∀ x, 0 ≤ gK h pw x := fun x => by
    have := (thI T qp (k := 22) (i := szI x.toInt) (lo := 0) (hi := 1073741824) rfl).1
    unfold gK
    omega
  have c9 := clamp_i (v := hI h x0 9) (by omega)
  have e := S.2 i (by omega)
  have sN : sm (fun i => gK h pw (hI h ks i)) (i + 1) ≤ 600000 := by
    have := sm_le (f := fun i => gK h pw (hI h ks i)) (fun i => gp _) (i + 1) ((hI h x0 9).toNatClampNeg - (i + 1))
    have en : i + 1 + ((hI h x0 9).toNatClampNeg - (i + 1)) = (hI h x0 9).toNatClampNeg := by omega
    rw [en] at this
    have := S.1
    omega
  have sn0 := sm_0 (f := fun i => gK h pw (hI h ks i)) (fun i => gp _) i
  have sE : sm (fun i => gK h pw (hI h ks i)) (i + 1) = sm (fun i => gK h pw (hI h ks i)) i + gK h pw (hI h ks i) := rfl
  have gE : gK h pw (hI h ks i) = 2 * (hI h pw (szI (hI h ks i).toInt)).toInt := rfl
  have s5 := sz_le (hI h ks i).toInt
  rw [Pw _ s5, hn] at gE
  omega
theorem num_0 {o : Int32 × Hp} (z : (hI h x0 8).toInt = 0) (e : sX0_numberOf F h x0 (-1 : Int32) = some o) : o.1 = 0 := by
  unfold sX0_numberOf sX0_numberOf_14 at e
  have go : ∀ {t : Int32}, ¬ t = 0 → sX0_numberOf_19 F F h x0 (-1 : Int32) (0 : Int32) (0 : Int32) t (0 : Int32) = some o → o.1 = 0 := fun {t} nt e => by
    cases F with
    | zero => exact absurd e (by rw [sX0_numberOf_19]; exact fun z => nomatch z)
    | succ f =>
      rw [sX0_numberOf_19] at e
      unfold sX0_numberOf_115 at e
      replace e := br_s e
      rcases e with ⟨_, e⟩ | ⟨n, e⟩
      · replace e := br_s e
        rcases e with ⟨w, e⟩ | ⟨_, e⟩
        · exact absurd w nt
        · rw [← Option.some.inj e]
      · have := nle_i n
        have z0 : (0 : Int32).toInt = 0 := rfl
        omega
  replace e := br_s e
  rcases e with ⟨_, e⟩ | ⟨n, e⟩
  · exact go (by decide) e
  · exact absurd rfl n
theorem node_q (hF : 700000 ≤ F) (hA : pmA c RWL) (T : TH ρ c h) (r0 : ρ x0 = 1) (r1 : ρ x1 = 4) (en : EnQ x0 h) (P : PoX ρ c x1 h) : Sat (sX0_nodeOfAll F h x0 x1) (fun o => TH ρ c o.2 ∧ (o.1 = (-1 : Int32) ∨ (Rg 0 599999 o.1 ∧ LenP x0 h))) := by
  unfold sX0_nodeOfAll sX0_nodeOfAll_18 sX0_nodeOfAll_64
  refine s_br (fun _ => s_some ⟨T, Or.inl rfl⟩) (fun n10 => ?_)
  obtain ⟨ln, ks, st, pw, L, e0, e4, e5, e6, Pw, S⟩ := en n10
  have rL : ρ L = 2 := rr T (thR T r0 (i := 0) (k2 := 2) rfl (by decide)) e0
  have wL : cw c L = 2102 := kid_w T r0 (i := 0) (w := 2102) rfl (by decide) e0
  have qk : ρ ks = 20 := rr T (thR T r0 (i := 4) (k2 := 20) rfl (by decide)) e4
  have qs : ρ st = 21 := rr T (thR T r0 (i := 5) (k2 := 21) rfl (by decide)) e5
  have qp : ρ pw = 22 := rr T (thR T r0 (i := 6) (k2 := 22) rfl (by decide)) e6
  obtain ⟨ro, e7, qo⟩ := thR T r0 (i := 7) (k2 := 23) rfl (by decide)
  obtain ⟨sq, esq⟩ : ∃ sq : Int, sq = (hI h L 2).toInt := ⟨_, rfl⟩
  rw [← esq] at Pw
  have B : PoS sq x1 h := by rw [esq]; exact pos_px T r1 rL wL P
  have s64 : sq ≤ 64 := by rw [esq]; exact (thI T rL (k := 2) (i := 2) (lo := 0) (hi := 64) rfl).2
  refine s_dJ0 (zX3_occupied hF T r1) (fun oc eoc qc => ?_)
  rw [qc]
  refine s_cl (s_imp (zJ13_bitCount_95d88 hF T) (fun o3 Z3 => ?_))
  rw [Z3.1]
  refine s_br (fun _ => ?_) (fun _ => s_some ⟨T, Or.inl rfl⟩)
  refine s_cVfq (S := fS RWL []) T (fs_sub (pmA_s hA rfl) fs_n) (gat_q hF fs_a (th_in _ T) r0 r1 e7 (rg_m (rg_b rfl : Rg (-1) (-1) (-1 : Int32)) (by decide)) (rg_m (rg_b rfl : Rg (-1) (-1) (-1 : Int32)) (by decide)) eoc (occ_bts eoc B)) (fun g Tg fg Pg => ?_)
  obtain ⟨R, K⟩ := Pg
  have e7g : hR g x0 7 = some ro := by rw [kfR 7 K r0]; exact e7
  have e6g : hR g x0 6 = some pw := by rw [kfR 6 K r0]; exact e6
  have e5g : hR g x0 5 = some st := by rw [kfR 5 K r0]; exact e5
  have e4g : hR g x0 4 = some ks := by rw [kfR 4 K r0]; exact e4
  have Sg : StP x0 ks pw st g := stp_k T r0 qk qp qs K (P := S)
  have Pwg : ∀ i : Nat, i ≤ 5 → (hI g pw i).toInt = sq ^ i := fun i hi => by rw [kfI i K qp]; exact Pw i hi
  have i8 := thI Tg r0 (k := 1) (i := 8) (lo := 0) (hi := 5) rfl
  have c8 := clamp_i i8.1
  have b8 := i8.2
  refine s_cl (s_imp (keyrow_q hF Tg r0 e7g R) (fun o6 ⟨q6, k6⟩ => ?_))
  rw [q6]
  refine s_cl (s_imp (fset_q hF Tg r0 e4g) (fun o7 ⟨q7, i7, w7⟩ => ?_))
  rw [q7]
  refine s_br (fun _ => s_some ⟨Tg, Or.inl rfl⟩) (fun ne => ?_)
  obtain ⟨a7, b7, w⟩ := w7 ne
  have c7 := clamp_i a7
  have sz := k6.2.2.1
  rw [← w] at sz
  obtain ⟨st0, room⟩ := stp_rm0 (n := (hI g x0 8).toNatClampNeg) Tg qp Pwg Sg (i := o7.1.toNatClampNeg) (by omega) sz
  refine s_ref e5g ?_
  refine s_gd (by rw [thN Tg qs (k := 21) (n := 1025) rfl (by decide)]; exact rg_inB (⟨a7, by have := i7.2; omega⟩ : Rg 0 1024 o7.1) (by decide)) ?_
  refine s_dd (zX0_numberOf hF Tg r0 (rg_top _)) (fun o11 e11 Z11 => ?_)
  have nb : 0 ≤ o11.1.toInt ∧ o11.1.toInt + 1 ≤ sq ^ (hI g x0 8).toNatClampNeg := by
    by_cases s1 : 1 ≤ sq
    · have := sat_e (number_q (sq := sq) (x1 := (-1 : Int32)) (q := 0) hF Tg r0 e6g e7g s1 s64 Pwg (fun i hi => by
        obtain ⟨y1, y2, y3⟩ := R.1 i hi
        rw [and63_i y1]; exact y3) (fun n => absurd rfl n) (by rw [if_pos rfl])) e11
      exact this.2
    · have z8 : (hI g x0 8).toInt = 0 := by
        by_cases z : (hI g x0 8).toInt = 0
        · exact z
        · obtain ⟨y1, y2, y3⟩ := R.1 0 (by omega)
          have : 0 ≤ (hI g ro 0).toInt % 64 := by omega
          omega
      have n8 : (hI g x0 8).toNatClampNeg = 0 := by omega
      rw [num_0 z8 e11, n8, Int.pow_zero]
      decide
  obtain ⟨M, eM⟩ : ∃ M : Int, M = sq ^ (hI g x0 8).toNatClampNeg := ⟨_, rfl⟩
  rw [← eM] at nb room
  obtain ⟨n0, n1⟩ := nb
  rw [Z11.1]
  have is := thI Tg r1 (k := 4) (i := 5) (lo := 0) (hi := 1) rfl
  have is0 := is.1
  have is1 := is.2
  have z2 : (2 : Int32).toInt = 2 := rfl
  have t1 : ((2 : Int32) * o11.1).toInt = 2 * o11.1.toInt := by rw [tm (by rw [z2]; omega), z2]
  have t2 : ((hI g st o7.1.toNatClampNeg) + ((2 : Int32) * o11.1)).toInt = (hI g st o7.1.toNatClampNeg).toInt + 2 * o11.1.toInt := by rw [ta (by rw [t1]; omega), t1]
  have t3 : (((hI g st o7.1.toNatClampNeg) + ((2 : Int32) * o11.1)) + (hI g x1 5)).toInt = (hI g st o7.1.toNatClampNeg).toInt + 2 * o11.1.toInt + (hI g x1 5).toInt := by rw [ta (by rw [t2]; omega), t2]
  exact s_some ⟨Tg, Or.inr ⟨⟨by show 0 ≤ (((hI g st o7.1.toNatClampNeg) + ((2 : Int32) * o11.1)) + (hI g x1 5)).toInt; rw [t3]; omega, by show (((hI g st o7.1.toNatClampNeg) + ((2 : Int32) * o11.1)) + (hI g x1 5)).toInt ≤ _; rw [t3]; omega⟩, ln⟩⟩
theorem zX11_worth {y : Int32} (hF : 700000 ≤ F) (hA : pmA c RWL) (T : TH ρ c h) (r0 : ρ x0 = 12) (en : EnA x0 h) (pl : PlX ρ c x0 h) : Sat (sX11_worth F h x0 y) (ZI ρ c (-2147483648) 2147483647) := by
  unfold sX11_worth sX11_worth_48
  refine s_dd (zX11_isPlace hF T r0 (rg_top _)) (fun o1 e1 Z1 => ?_)
  rw [Z1.1]
  refine s_br (fun _ => s_some ⟨T, rg_top _⟩) (fun n1 => ?_)
  have ip := Z1.2.2 n1
  have l60 : y.toNatClampNeg < 60 := by have := rg_clamp (n := 59) ip (by decide); omega
  obtain ⟨e, ee, re⟩ := thR T r0 (i := 10) (k2 := 1) rfl (by decide)
  obtain ⟨r, er, rr'⟩ := thR T r0 (i := 13) (k2 := 57) rfl (by decide)
  obtain ⟨q, eq, rq⟩ := thR T rr' (i := y.toNatClampNeg) (k2 := 4) (if_pos l60) (by decide)
  refine s_ref ee (s_ref er ?_)
  refine s_gd (by rw [thN T rr' (k := 57) (n := 60) rfl (by decide)]; exact rg_inB ip (by decide)) ?_
  refine s_ref eq ?_
  have px : PoX ρ c q h := by
    unfold sX11_isPlace sX11_isPlace_23 sX11_isPlace_24 at e1
    have no : ∀ {o : Int32 × Hp}, ¬ o.1 = 0 → gd ((0 : Int32) &&& 1 = 0) (some ((0 : Int32), h)) = some o → False := fun n e => by
      obtain ⟨_, e⟩ := gd_s e
      exact n (by rw [← Option.some.inj e])
    replace e1 := br_s e1
    rcases e1 with ⟨_, e1⟩ | ⟨_, e1⟩
    · exact absurd (no n1 e1) id
    replace e1 := br_s e1
    rcases e1 with ⟨_, e1⟩ | ⟨_, e1⟩
    · exact absurd (no n1 e1) id
    replace e1 := cl_s e1
    obtain ⟨u, eu, e1⟩ := e1
    replace e1 := (gd_s e1).2
    replace e1 := br_s e1
    rcases e1 with ⟨_, e1⟩ | ⟨nu, e1⟩
    · exact absurd (no n1 e1) id
    exact pl r u er eu _ l60 nu q eq
  refine s_cl (s_imp (node_q (c := cat c (fS RWL []) h) hF fs_a (th_in _ T) re rq (en e ee).2.2 px) (fun o7 ⟨T7', z7⟩ => ?_))
  have T7 := th_out T (fs_sub (pmA_s hA rfl) fs_n) T7'
  have f7 := fr_u T T7'.2.2
  refine s_br (fun _ => s_some ⟨T7, rg_top _⟩) (fun n7 => ?_)
  rcases z7 with z7 | ⟨i7, ln⟩
  · exact absurd z7 n7
  have K7 : Kf ρ RWL h o7.2 := kf_of f7 rfl
  refine s_ref (by rw [kfR 10 K7 r0]; exact ee) ?_
  obtain ⟨r10, e10, q10⟩ := thR T7 re (i := 11) (k2 := 24) rfl (by decide)
  refine s_ref e10 ?_
  have ln7 := len_fr T re f7 (fun _ => rfl) (fun _ => rfl) (fun _ => rfl) ln
  refine s_gd (by rw [ln7 11 r10 (Or.inl rfl) e10]; exact rg_inB i7 (by decide)) ?_
  exact s_some ⟨T7, rg_top _⟩
end
