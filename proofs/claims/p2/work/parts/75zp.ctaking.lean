/-! taken back: squares of the law alone -/
theorem pow_mono {s : Int} (s1 : 1 ≤ s) {m n : Nat} (h : m ≤ n) : s ^ m ≤ s ^ n := by
  obtain ⟨d, rfl⟩ := Nat.exists_eq_add_of_le h
  clear h
  induction d with
  | zero => exact Int.le_refl _
  | succ d ih =>
    have p0 : 0 ≤ s ^ (m + d) := Int.pow_nonneg (by omega)
    have : s ^ (m + d) * 1 ≤ s ^ (m + d) * s := Int.mul_le_mul_of_nonneg_left s1 p0
    rw [← Nat.add_assoc, Int.pow_succ]
    omega
def FmX (x0 : Nat) (sq : Int) (h : Hp) : Prop := ∀ r, hR h x0 3 = some r → ∀ i, i < 1536 → BtS sq (hJ h r i)
def PoS (sq : Int) (b : Nat) (h : Hp) : Prop := ∀ of d, hR h b 1 = some of → d < 2 → BtS sq (hJ h of d)
abbrev TCL : List (Nat × Nat) := [(24, 999), (25, 999), (26, 999), (1, 16)]
abbrev TBL : List (Nat × Nat) := [(23, 999), (1, 8), (24, 999), (25, 999), (26, 999), (1, 16)]
section
variable {ρ : Nat → Nat} {c : Cm} {h o : Hp} {x0 b wy ks st pw ro F : Nat} {sq : Int} {x1 x2 x3 : Int32}
theorem occ_bts {oc : Int64 × Hp} (e : sX3_occupied h b = some oc) (P : PoS sq b h) : BtS sq oc.1 := by
  unfold sX3_occupied at e
  replace e := cl_s e
  obtain ⟨f1, e1, e⟩ := e
  replace e := gd_s e
  obtain ⟨_, e⟩ := e
  replace e := cl_s e
  obtain ⟨f2, e2, e⟩ := e
  replace e := gd_s e
  obtain ⟨_, e⟩ := e
  have z := Option.some.inj e
  rw [← z]
  intro s hs hb
  have hb' : bitJ (hJ h f1 (0 : Int32).toNatClampNeg ||| hJ h f2 (1 : Int32).toNatClampNeg) s = true := hb
  rw [bj_or, Bool.or_eq_true] at hb'
  rcases hb' with q | q
  · exact P f1 0 e1 (by decide) s hs q
  · exact P f2 1 e2 (by decide) s hs q
theorem pos_k {E : List (Nat × Nat)} (T : TH ρ c h) (rb : ρ b = 4) (K : Kf ρ E h o) (y1 : mS E 4 1 = false := by rfl) (y2 : ∀ i, mS E 35 i = false := by intro _; rfl) (P : PoS sq b h) : PoS sq b o := fun of d e hd => by
  rw [kfR 1 K rb (by decide) y1] at e
  rw [kfJ d K (th_of T rb e) (by decide) (y2 d)]
  exact P of d e hd
theorem fmx_k {E : List (Nat × Nat)} (T : TH ρ c h) (rb : ρ wy = 11) (K : Kf ρ E h o) (y1 : mS E 11 3 = false := by rfl) (y2 : ∀ i, mS E 53 i = false := by intro _; rfl) (P : FmX wy sq h) : FmX wy sq o := fun r e i hi => by
  rw [kfR 3 K rb (by decide) y1] at e
  rw [kfJ i K (rr T (thR T rb (i := 3) (k2 := 53) rfl (by decide)) e) (by decide) (y2 i)]
  exact P r e i hi
theorem stp_k {E : List (Nat × Nat)} (T : TH ρ c h) (r0 : ρ x0 = 1) (qk : ρ ks = 20) (qp : ρ pw = 22) (qs : ρ st = 21) (K : Kf ρ E h o) (y1 : mS E 1 9 = false := by rfl) (y2 : ∀ i, mS E 20 i = false := by intro _; rfl) (y3 : ∀ i, mS E 21 i = false := by intro _; rfl) (y4 : ∀ i, mS E 22 i = false := by intro _; rfl) (P : StP x0 ks pw st h) : StP x0 ks pw st o := by
  have k9 := kfI 9 K r0 (by decide) y1
  have gk : ∀ i, gK o pw (hI o ks i) = gK h pw (hI h ks i) := fun i => by
    unfold gK
    rw [kfI i K qk (by decide) (y2 i), kfI _ K qp (by decide) (y4 _)]
  refine ⟨?_, fun i hi => ?_⟩
  · rw [k9, sm_eq (g := fun i => gK h pw (hI h ks i)) _ (fun i _ => gk i)]
    exact P.1
  · rw [k9] at hi
    rw [sm_eq (f := fun i => gK o pw (hI o ks i)) (g := fun i => gK h pw (hI h ks i)) _ (fun i _ => gk i), kfI i K qs (by decide) (y3 i)]
    exact P.2 i hi
/-- the positions of a set lie below 600000 -/
theorem stp_room {i n : Nat} (T : TH ρ c h) (r0 : ρ x0 = 1) (qp : ρ pw = 22) (s1 : 1 ≤ sq) (Pw : ∀ i : Nat, i ≤ 5 → (hI h pw i).toInt = sq ^ i) (S : StP x0 ks pw st h) (hi : (i : Int) < (hI h x0 9).toInt) (hn : n ≤ szI (hI h ks i).toInt) : 0 ≤ (hI h st i).toInt ∧ (hI h st i).toInt + 2 * sq ^ n ≤ 600000 := by
  have gp : ∀ x, 0 ≤ gK h pw x := fun x => by
    have := (thI T qp (k := 22) (i := szI x.toInt) (lo := 0) (hi := 1073741824) rfl).1
    unfold gK
    omega
  have c9 := clamp_i (v := hI h x0 9) (by omega)
  have e := S.2 i (by omega)
  have sN : sm (fun i => gK h pw (hI h ks i)) (i + 1) ≤ 600000 := by
    have := sm_le (f := fun i => gK h pw (hI h ks i)) (fun i => gp _) (i + 1) ((hI h x0 9).toNatClampNeg - (i + 1))
    have en : i + 1 + ((hI h x0 9).toNatClampNeg - (i + 1)) = (hI h x0 9).toNatClampNeg := by omega
    rw [en] at this
    have := S.1
    omega
  have sn0 := sm_0 (f := fun i => gK h pw (hI h ks i)) (fun i => gp _) i
  have sE : sm (fun i => gK h pw (hI h ks i)) (i + 1) = sm (fun i => gK h pw (hI h ks i)) i + gK h pw (hI h ks i) := rfl
  have gE : gK h pw (hI h ks i) = 2 * (hI h pw (szI (hI h ks i).toInt)).toInt := rfl
  have s5 := sz_le (hI h ks i).toInt
  rw [Pw _ s5] at gE
  have mono : sq ^ n ≤ sq ^ szI (hI h ks i).toInt := pow_mono s1 hn
  omega
theorem tbt_q (hF : 700000 ≤ F) (hA : pmA c TBL) (T : TH ρ c h) (r0 : ρ x0 = 1) (e1 : hR h x0 1 = some wy) (e3 : hR h x0 3 = some b) (e4 : hR h x0 4 = some ks) (e5 : hR h x0 5 = some st) (e6 : hR h x0 6 = some pw) (e7 : hR h x0 7 = some ro) (i1 : Rg 0 63 x1) (i2 : Rg 0 23 x2) (i3 : Rg (-1) 23 x3) (ln : LenP x0 h) (s1 : 1 ≤ sq) (s64 : sq ≤ 64) (Pw : ∀ i : Nat, i ≤ 5 → (hI h pw i).toInt = sq ^ i) (S : StP x0 ks pw st h) (B : PoS sq b h) (W : FmX wy sq h) : Sat (sX0_takeBackTaking F h x0 x1 x2 x3) (ZV ρ c) := by
  have qw : ρ wy = 11 := rr T (thR T r0 (i := 1) (k2 := 11) rfl (by decide)) e1
  have qb : ρ b = 4 := rr T (thR T r0 (i := 3) (k2 := 4) rfl (by decide)) e3
  have qk : ρ ks = 20 := rr T (thR T r0 (i := 4) (k2 := 20) rfl (by decide)) e4
  have qs : ρ st = 21 := rr T (thR T r0 (i := 5) (k2 := 21) rfl (by decide)) e5
  have qp : ρ pw = 22 := rr T (thR T r0 (i := 6) (k2 := 22) rfl (by decide)) e6
  have qo : ρ ro = 23 := rr T (thR T r0 (i := 7) (k2 := 23) rfl (by decide)) e7
  unfold sX0_takeBackTaking
  refine s_ref e3 ?_
  obtain ⟨oc, eoc, _⟩ := zX3_occupied hF T qb
  refine s_cVfq (S := fS RWL []) T (fs_sub (pmA_s hA rfl) fs_n) (gat_q hF fs_a (th_in _ T) r0 qb e7 (rg_m i1 (by decide)) i3 eoc (occ_bts eoc B)) (fun g Tg fg Pg => ?_)
  obtain ⟨R, K⟩ := Pg
  have e7g : hR g x0 7 = some ro := by rw [kfR 7 K r0]; exact e7
  have e6g : hR g x0 6 = some pw := by rw [kfR 6 K r0]; exact e6
  have e5g : hR g x0 5 = some st := by rw [kfR 5 K r0]; exact e5
  have e4g : hR g x0 4 = some ks := by rw [kfR 4 K r0]; exact e4
  have e3g : hR g x0 3 = some b := by rw [kfR 3 K r0]; exact e3
  have e1g : hR g x0 1 = some wy := by rw [kfR 1 K r0]; exact e1
  have Sg : StP x0 ks pw st g := stp_k T r0 qk qp qs K (P := S)
  have Pwg : ∀ i : Nat, i ≤ 5 → (hI g pw i).toInt = sq ^ i := fun i hi => by rw [kfI i K qp]; exact Pw i hi
  have Wg : FmX wy sq g := fmx_k T qw K (P := W)
  have lng : LenP x0 g := len_fr T r0 fg (fun _ => rfl) (fun _ => rfl) (fun _ => rfl) ln
  have i8 := thI Tg r0 (k := 1) (i := 8) (lo := 0) (hi := 5) rfl
  have c8 := clamp_i i8.1
  have b8 := i8.2
  have i20 := i2.1
  have i21 := i2.2
  refine s_cl (s_imp (keyrow_q hF Tg r0 e7g R) (fun o3 ⟨q3, k3⟩ => ?_))
  rw [q3]
  obtain ⟨k31, k32, k33, k34, k35⟩ := k3
  by_cases n5 : (hI g x0 8).toNatClampNeg = 5
  · refine s_cl (s_imp (with4_q hF (k35 n5) k31.2 i2) (fun o4 ⟨q4, v4⟩ => ?_))
    rw [q4]
    refine s_cl (s_imp (fset_q hF Tg r0 e4g) (fun o5 ⟨q5, i5, w5⟩ => ?_))
    rw [q5]
    refine s_br (fun _ => s_some Tg) (fun ne => ?_)
    obtain ⟨_, _, w⟩ := w5 ne
    have ik := (thI Tg qk (k := 20) (i := o5.1.toNatClampNeg) (lo := 0) (hi := 33554431) rfl).2
    rw [w] at ik
    omega
  have n4 : (hI g x0 8).toNatClampNeg ≤ 4 := by omega
  refine s_cl (s_imp (with3_q hF k31.1 (k34 n4) k32 i2) (fun o4 ⟨q4, _, _, v4⟩ => ?_))
  rw [q4]
  refine s_cl (s_imp (fset_q hF Tg r0 e4g) (fun o5 ⟨q5, i5, w5⟩ => ?_))
  rw [q5]
  refine s_br (fun _ => s_some Tg) (fun ne => ?_)
  obtain ⟨a5, b5, w⟩ := w5 ne
  rw [k33, ← w] at v4
  have c5 := clamp_i a5
  obtain ⟨st0, room⟩ := stp_room (n := (hI g x0 8).toNatClampNeg + 1) Tg r0 qp s1 Pwg Sg (i := o5.1.toNatClampNeg) (by omega) v4
  obtain ⟨M, eM⟩ : ∃ M : Int, M = sq ^ ((hI g x0 8).toNatClampNeg + 1) := ⟨_, rfl⟩
  rw [← eM] at room
  have M0 : 0 ≤ M := by rw [eM]; exact Int.pow_nonneg (by omega)
  refine s_ref e5g ?_
  refine s_gd (by rw [thN Tg qs (k := 21) (n := 1025) rfl (by decide)]; exact rg_inB (⟨a5, by have := i5.2; omega⟩ : Rg 0 1024 o5.1) (by decide)) ?_
  refine s_q (fun v9 e9 => ?_)
  have a1 := and1 i2
  have ic : Rg 0 1 (x2 &&& (1 : Int32)) := rg_and (rg_b rfl : Rg 1 1 (1 : Int32)) (by decide)
  have ic0 := ic.1
  have ic1 := ic.2
  have t9 : v9.toInt = (hI g st o5.1.toNatClampNeg).toInt + (x2 &&& (1 : Int32)).toInt := by rw [e9, ta (by omega)]
  clear e9
  refine s_dd (zX0_numberOf hF Tg r0 (rg_top _)) (fun o10 e10 Z10 => ?_)
  rw [Z10.1]
  refine s_cl (s_imp (weight_q hF Tg r0 e6g e7g Pwg R i2) (fun o11 ⟨q11, w11⟩ => ?_))
  rw [q11]
  refine s_ref e1g ?_
  have e10' : sX0_numberOf F g x0 (x2 <<< ((6 : Int32) &&& 31)) = some o10 := e10
  have xs : (x2 <<< ((6 : Int32) &&& 31)).toInt = x2.toInt * 64 := shl_i (m := 6) rfl i20 (by show x2.toInt * 64 ≤ _; omega)
  have x63 : ((x2 <<< ((6 : Int32) &&& 31)) &&& (63 : Int32)) = 0 := Int32.toInt_inj.mp (by
    rw [and63_i (by omega), xs]
    show x2.toInt * 64 % 64 = 0
    omega)
  have xn : ¬ (x2 <<< ((6 : Int32) &&& 31)) = (-1 : Int32) := fun z => by
    rw [z] at xs
    have : (-1 : Int32).toInt = -1 := rfl
    omega
  -- the number of a square
  have num : ∀ {s : Int32}, 0 ≤ s.toInt → s.toInt < sq → ¬ o11.1 ≤ 0 → 0 ≤ (o10.1 + (s * o11.1)).toInt ∧ (o10.1 + (s * o11.1)).toInt + 1 ≤ M := fun {s} s0 sl nz => by
    have nz := nle_i nz
    have z0 : (0 : Int32).toInt = 0 := rfl
    rcases w11 with w11 | ⟨k, hk, ek, w1, w2⟩
    · omega
    obtain ⟨u1, u2⟩ := number2_q (k := k) hF Tg r0 e6g e7g s1 s64 Pwg R (by omega) x63 xn hk (fun j hj => by rw [xs]; exact w1 j hj) (fun j hj hn => by rw [xs]; exact w2 j hj hn) e10'
    rw [← eM] at u2
    have pk : 0 ≤ sq ^ k := Int.pow_nonneg (by omega)
    have ml : s.toInt * sq ^ k ≤ (sq - 1) * sq ^ k := Int.mul_le_mul_of_nonneg_right (by omega) pk
    have m0 : 0 ≤ s.toInt * sq ^ k := Int.mul_nonneg s0 pk
    have em : (s * o11.1).toInt = s.toInt * sq ^ k := by rw [tm (by rw [ek]; omega), ek]
    rw [ta (by rw [em]; omega), em]
    omega
  have lp : ∀ (f : Nat) {g2 : Hp} {x8 : Int64} {x10 : Int32}, TH ρ c g2 → Kf ρ TCL g g2 → LenP x0 g2 → BtS sq x8 → 0 ≤ x10.toInt → (65 - x10.toInt).toNat < f → Sat (sX0_takeBackTaking_92 F f g2 x0 x2 x3 v9 o10.1 o11.1 x8 x10) (ZV ρ c) := by
    intro f
    induction f with
    | zero => intros; omega
    | succ f ih =>
      intro g2 x8 x10 T2 K2 ln2 B8 a10 hf
      rw [sX0_takeBackTaking_92]
      unfold sX0_takeBackTaking_178
      refine s_br (fun _ => s_some T2) (fun l => ?_)
      have l := nle_i l
      have z64 : (64 : Int32).toInt = 64 := rfl
      refine s_br (fun _ => s_some T2) (fun nz => ?_)
      refine s_dI0 (zX11_lowest hF T2) (fun o3 eb3 q3 i3' => ?_)
      have c3 := clamp_i i3'.1
      have j30 := i3'.1
      have j31 := i3'.2
      have s3 : o3.1.toInt < sq := by have := B8 o3.1.toNatClampNeg (by omega) (low_in eb3 nz); omega
      refine s_q (fun v4 e4' => ?_)
      have B4 : BtS sq v4 := by rw [e4']; exact bts_and B8
      clear e4'
      rw [q3]
      have b149 : ∀ {t : Int32}, 0 ≤ t.toInt → t.toInt + 1 ≤ M → Sat (sX0_takeBackTaking_149 F (sX0_takeBackTaking_92 F f) g2 x0 x2 x3 v9 o10.1 o11.1 v4 x10 t) (ZV ρ c) := fun {t} t0 t1 => by
        unfold sX0_takeBackTaking_149 sX0_takeBackTaking_169
        have z2 : (2 : Int32).toInt = 2 := rfl
        have e2 : ((2 : Int32) * t).toInt = 2 * t.toInt := by rw [tm (by rw [z2]; omega), z2]
        have en : (v9 + ((2 : Int32) * t)).toInt = v9.toInt + 2 * t.toInt := by rw [ta (by rw [e2]; omega), e2]
        have it : Rg 0 599999 (v9 + ((2 : Int32) * t)) := ⟨by omega, by omega⟩
        have i10 : Rg 0 63 x10 := ⟨a10, by omega⟩
        have ny := nc_s i10 (by decide)
        have go : ∀ {y : Int32}, Rg 0 1 y → Sat (cl (sX0_touch g2 x0 (v9 + ((2 : Int32) * t)) y) fun o_1 => nm (x10 + (1 : Int32)) fun v_2 => sX0_takeBackTaking_92 F f o_1 x0 x2 x3 v9 o10.1 o11.1 v4 v_2) (ZV ρ c) := fun {y} iy => by
          refine s_cVf (S := fS TCL []) T2 (fs_sub (pmA_s hA rfl) fs_n) (zX0_touch hF fs_a (th_in _ T2) r0 it iy ln2) (fun g3 T3 f3 => ?_)
          refine s_q (fun y2 ey => ?_)
          have ty : y2.toInt = x10.toInt + 1 := by rw [ey]; exact ny.2
          clear ey
          exact ih T3 (kf_t K2 (kf_of f3 rfl)) (len_fr T2 r0 f3 (fun _ => rfl) (fun _ => rfl) (fun _ => rfl) ln2) B4 (by omega) (by omega)
        exact s_br (fun _ => go (rg_m (rg_b rfl : Rg 0 0 (0 : Int32)) (by decide))) (fun _ => go (rg_m (rg_b rfl : Rg 1 1 (1 : Int32)) (by decide)))
      refine s_br (fun _ => ?_) (fun nw => ?_)
      · have mi := man_i i2 i3'
        have en8 : hI g2 x0 8 = hI g x0 8 := kfI 8 K2 r0
        have rn : ∀ i, hI g2 ro i = hI g ro i := fun i => kfI i K2 qo
        refine s_cl (s_imp (number_q (sq := sq) (x1 := (x2 <<< ((6 : Int32) &&& 31)) ||| o3.1) (q := 1) hF T2 r0 (by rw [kfR 6 K2 r0]; exact e6g) (by rw [kfR 7 K2 r0]; exact e7g) s1 s64 (fun i hi => by rw [kfI i K2 qp]; exact Pwg i hi) (fun i hi => ?_) (fun _ => ⟨?_, by rw [en8]; omega⟩) (by rw [if_neg]; intro z; rw [z] at mi; have : (-1 : Int32).toInt = -1 := rfl; omega)) (fun o6 ⟨q6, u1, u2⟩ => ?_))
        · rw [rn]
          rw [en8] at hi
          obtain ⟨y1, y2, y3⟩ := R.1 i hi
          rw [and63_i y1]; exact y3
        · rw [and63_i (by omega), mi]; omega
        · rw [q6]
          rw [en8, ← eM] at u2
          exact b149 u1 u2
      · obtain ⟨u1, u2⟩ := num j30 s3 nw
        exact b149 u1 u2
  have b77 : ∀ {t : Int32}, Rg 0 1 t → Sat (sX0_takeBackTaking_77 F g x0 x2 x3 v9 o10.1 o11.1 t x1 x2 wy) (ZV ρ c) := fun {t} it => by
    unfold sX0_takeBackTaking_77
    refine s_ref e3g ?_
    refine s_dJ0 (zX3_occupied hF Tg qb) (fun o2 eb2 q2 => ?_)
    rw [q2]
    refine s_dJ0 (zX10_origins hF Tg qw i2 i1 it) (fun o3 eb3 q3 => ?_)
    rw [q3]
    obtain ⟨rf, er, qr⟩ := thR Tg qw (i := 3) (k2 := 53) rfl (by decide)
    have i10 := i1.1
    have i11 := i1.2
    have z64 : (64 : Int32).toInt = 64 := rfl
    have m64 : (x2 * (64 : Int32)).toInt = x2.toInt * 64 := by rw [tm (by rw [z64]; omega), z64]
    have ix : ((x2 * (64 : Int32)) + x1).toInt = x2.toInt * 64 + x1.toInt := by rw [ta (by rw [m64]; omega), m64]
    have cx := clamp_i (v := (x2 * (64 : Int32)) + x1) (by omega)
    exact lp F Tg kf_r lng (fun s hs hb => Wg rf er _ (by omega) s hs (or_sub er eb3 s hb)) (by decide) (by show (65 - 0 : Int).toNat < F; omega)
  exact s_br (fun _ => b77 (rg_m (rg_b rfl : Rg 0 0 (0 : Int32)) (by decide))) (fun _ => b77 (rg_m (rg_b rfl : Rg 1 1 (1 : Int32)) (by decide)))
end
