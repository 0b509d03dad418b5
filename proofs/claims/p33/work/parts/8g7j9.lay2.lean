/-! the class: ways from one square, and all of them -/
section
variable {F : Nat} {V : Nat → Nat} {L : Nat → Nat → Int} {o : Hp}
def S70 (L : Nat → Nat → Int) (V : Nat → Nat) (h : Hp) (c s t a B I : Nat) : Prop := (WLf V h ∧ CLq V h L ∧ WCf V h) ∧ (LayA L V h (celN c s t) a ∧ rowN h (V 50) (celN c s t) = a ∧ 0 ≤ (hI h (V 50) (celN c s t)).toInt) ∧ LayB L V h (celN c s t) I ∧ CellP L V h c s t a (cntN V h) I ∧ Tst L V (c / 2) ((c % 2 : Nat) : Int) s t I h ∧ 0 ≤ (hI h (V 11) 8).toInt ∧ cntN V h ≤ B + nW L (c / 2) ((c % 2 : Nat) : Int) s t I (L 74 (c / 2)).toNat
abbrev wlL : List (Nat × Nat) := [(11, 8), (50, 999), (51, 999), (52, 999), (53, 999), (54, 999), (56, 999)]
theorem clw_w (D : VD V) {h o' : Hp} (P : CLq V h L) (A : FrV V (wl wlL) h o') : CLq V o' L := clw_f D P A (by decide)
theorem wcf_f {W : Nat → Nat → Bool} {h o' : Hp} (P : WCf V h) (A : FrV V W h o') : WCf V o' := ⟨by rw [A.1]; exact P.1, by rw [A.1]; exact P.2.1, by rw [A.1]; exact P.2.2.1, by rw [A.1]; exact P.2.2.2.1, by rw [A.1]; exact P.2.2.2.2.1, by rw [A.1]; exact P.2.2.2.2.2⟩
theorem hb_f {L : Nat → Nat → Int} {j : Nat} {sd : Int} {s t : Nat} (n : ∀ k, ¬ RchL L j sd s t k) : ¬ hitB L j sd s t = true := fun z => by
  obtain ⟨k, hk⟩ := hb_t.mp z
  exact n k hk
theorem lf_70 (D : VD V) {K : Hp → Nat → Int32 → Int32 → Int64 → Int32 → Int32 → Option Hp} {x1 x2 x5 x6 : Int32} {x3 : Int64} {c s t a B : Nat} (H : LOk L) (i1 : x1.toInt = (c : Int)) (cL : (c : Int) < 2 * L 2 0) (i2 : x2.toInt = (s : Int)) (sL : (s : Int) < L 0 0 * L 1 0) (i6 : x6.toInt = (t : Int)) (ht : t < 64) (i5 : x5.toInt = ((c / 2 : Nat) : Int)) (hB : B ≤ 112 * 1535) : ∀ (f : Nat) {h : Hp} {x7 : Int32} {I : Nat}, x7.toInt = (I : Int) → (I : Int) ≤ L 74 (c / 2) → S70 L V h c s t a B I → sX10_layFrom_70 F K f h (V 11) x1 x2 x3 x5 x6 x7 = some o → ∃ g, S70 L V g c s t a B (L 74 (c / 2)).toNat ∧ sX10_layFrom_154 F K g (V 11) x1 x2 x3 x5 x6 = some o := by
  have z1 : (1 : Int32).toInt = 1 := rfl
  have z0 : (0 : Int32).toInt = 0 := rfl
  have z8 : (8 : Int32).toInt = 8 := rfl
  have sq := sq_64 H
  have L2 := H.2.2.1
  have mL : ((c / 2 : Nat) : Int) < L 2 0 := by omega
  obtain ⟨H74, Hst⟩ := H.2.2.2 _ mL
  have c1 : x1.toNatClampNeg = c := by have := nc_i (x := x1) (by omega); omega
  have c2 : x2.toNatClampNeg = s := by have := nc_i (x := x2) (by omega); omega
  have c5 : x5.toNatClampNeg = c / 2 := by have := nc_i (x := x5) (by omega); omega
  have c6 : x6.toNatClampNeg = t := by have := nc_i (x := x6) (by omega); omega
  intro f
  induction f with
  | zero => intro h x7 I _ _ _ e; exact absurd e (by rw [sX10_layFrom_70]; exact fun z => nomatch z)
  | succ f ih =>
    intro h x7 I i7 bI S e
    obtain ⟨⟨W, P, wc⟩, ⟨LA, eN, e0⟩, LB, CP, TS, cn0, cnB⟩ := S
    have c7 : x7.toNatClampNeg = I := by have := nc_i (x := x7) (by omega); omega
    rw [sX10_layFrom_70] at e
    have l74 := (P.2.2.2.2.1 _ mL).1
    replace e := ce_e W.2.1 e
    replace e := ce_e W.2.2.2.1 e
    replace e := gg_e e
    rw [c5] at e
    rcases br_s e with ⟨l, e⟩ | ⟨l, e⟩
    · have l := le_i l
      rw [l74] at l
      have : I = (L 74 (c / 2)).toNat := by omega
      rw [← this]
      exact ⟨h, ⟨⟨W, P, wc⟩, ⟨LA, eN, e0⟩, LB, CP, TS, cn0, by rw [this]; rw [this] at cnB; exact cnB⟩, e⟩
    have l := nle_i l
    rw [l74] at l
    have IL : (I : Int) < L 74 (c / 2) := by omega
    have J := Hst I IL
    have m8 : (x6 * (8 : Int32)).toInt = x6.toInt * 8 := by rw [tm (by rw [z8]; omega), z8]
    have ix : ((x6 * (8 : Int32)) + x7).toNatClampNeg = t * 8 + I := by
      have a : ((x6 * (8 : Int32)) + x7).toInt = x6.toInt * 8 + x7.toInt := by rw [ta (by rw [m8]; omega), m8]
      have := nc_i (x := (x6 * (8 : Int32)) + x7) (by omega)
      omega
    replace e := ce_e W.1 e
    replace e := gg_e e
    replace e := nm_s e; obtain ⟨v7, u7, e⟩ := e
    rw [ix] at u7
    have tsI := ((TS t I ht (by omega)).2 (by omega)).1 IL
    rw [← u7] at tsI
    have t7 : (x7 + (1 : Int32)).toInt = ((I + 1 : Nat) : Int) := by rw [ta (by rw [z1]; omega), z1]; omega
    rcases br_s e with ⟨zz, e⟩ | ⟨zz, e⟩
    · -- no way by this STEP
      have zz := le_i zz
      rw [z0] at zz
      unfold sX10_layFrom_148 at e
      have no : ∀ k, ¬ RchL L (8 * (c / 2) + I) ((c % 2 : Nat) : Int) s t k := by
        rcases tsI with ⟨_, y⟩ | y
        · exact y
        · have := y.2.1; omega
      have v0 : hI h (V 56) (t * 8 + I) = 0 := by
        rcases tsI with ⟨y, _⟩ | y
        · rw [← u7]; exact Int32.toInt_inj.mp (by rw [y]; rfl)
        · have := y.2.1; omega
      refine ih (I := I + 1) t7 (by omega) ⟨⟨W, P, wc⟩, ⟨LA, eN, e0⟩, lb_n (by omega) ht LB (fun _ => no), cp_n CP (fun _ => no), fun t' i' ht' hi' => ?_, cn0, ?_⟩ (nx_e e)
      · obtain ⟨p, q⟩ := TS t' i' ht' hi'
        by_cases y : t' = t ∧ i' = I
        · rw [y.1, y.2]
          exact ⟨fun _ => v0, fun z => absurd (Or.inr ⟨rfl, by omega⟩) z⟩
        · exact ⟨fun z => p (by omega), fun z => q (by omega)⟩
      · rw [nw_i, if_pos (show I < (L 74 (c / 2)).toNat by omega), if_neg (hb_f no)]
        omega
    · -- one way
      have zz := nle_i zz
      rw [z0] at zz
      have r : RchL L (8 * (c / 2) + I) ((c % 2 : Nat) : Int) s t v7.toInt := by
        rcases tsI with ⟨y, _⟩ | y
        · omega
        · exact y
      have r7 := J.2.2.2.2.1
      have k2 := r.2.2.1
      have k1 := r.2.1
      have m8' : (x5 * (8 : Int32)).toInt = x5.toInt * 8 := by rw [tm (by rw [z8]; omega), z8]
      have ix' : ((x5 * (8 : Int32)) + x7).toNatClampNeg = 8 * (c / 2) + I := by
        have a : ((x5 * (8 : Int32)) + x7).toInt = x5.toInt * 8 + x7.toInt := by rw [ta (by rw [m8']; omega), m8']
        have := nc_i (x := (x5 * (8 : Int32)) + x7) (by omega)
        omega
      replace e := ce_e W.2.1 e
      replace e := ce_e W.2.2.1 e
      replace e := gg_e e
      rw [ix'] at e
      have ew := (P.2.2.2.2.1 _ mL).2 I IL
      have fl := (wrd_e J ew).2.2.2.2.1
      have nwI : nW L (c / 2) ((c % 2 : Nat) : Int) s t (I + 1) (L 74 (c / 2)).toNat = nW L (c / 2) ((c % 2 : Nat) : Int) s t I (L 74 (c / 2)).toNat + 1 := by
        rw [nw_i, if_pos (show I < (L 74 (c / 2)).toNat by omega), if_pos (hb_t.mpr ⟨_, r⟩)]
      have nw14 := nw_le (sd := ((c % 2 : Nat) : Int)) (s := s) (T := t) (i := I + 1) H Hst sL (L 74 (c / 2)).toNat (by omega)
      have cn172 : cntN V h < 172032 := by omega
      have cE : hI h (V 11) 8 = nI (cntN V h) := Int32.toInt_inj.mp (by
        have := nc_i cn0
        rw [z_toInt (by omega)]
        unfold cntN
        omega)
      obtain ⟨dd, _, o1, e1, st, sub⟩ := rch_st r.2
      replace e := cl_s e; obtain ⟨h12, eh12, e⟩ := e
      have aw := aw_q D wc (st := ((t : Int) - s) / v7.toInt) cE cn172 ⟨by omega, by omega⟩ ⟨by omega, by omega⟩ ⟨by omega, by omega⟩ (show Rg 0 63 _ from ⟨by rw [fl]; exact J.1.1, by rw [fl]; exact J.1.2⟩) ⟨by omega, by omega⟩ (by rw [i6, i2, st]; exact sub) (fun j a b => by
        obtain ⟨p, q⟩ := pth_on H sL r (i := j) (by omega) (by omega)
        rw [i2]
        exact ⟨p, by omega⟩) eh12
      rw [c1, c2, c6, fl] at aw
      obtain ⟨A12, a1, a2, a3, a4, a5, a6, a7⟩ := aw
      have A12w : FrV V (wl wlL) h h12 := sub_l A12 (by decide)
      replace e := ce_e (by rw [A12.1]; exact W.1) e
      replace e := gg_e e
      replace e := nm_s e; obtain ⟨h15, u15, e⟩ := e
      rw [ix] at u15
      have A15 : FrV V (wl wlL) h h15 := fv_t A12w (by rw [u15]; exact fv_w (wl_9 (by decide)))
      unfold sX10_layFrom_148 at e
      have I15 : ∀ a i, ¬ a = V 56 → hI h15 a i = hI h12 a i := fun a i n => by rw [u15, rI_a n]
      have J15 : ∀ a i, hJ h15 a i = hJ h12 a i := fun a i => by rw [u15]; rfl
      have k50 : ∀ x, hI h15 (V 50) x = hI h (V 50) x := fun x => by rw [I15 _ _ (vne D)]; exact fvI D A12 50 x
      have k56 : ∀ x, hI h15 (V 56) x = if x = t * 8 + I then 0 else hI h (V 56) x := fun x => by
        rw [u15, r_I]
        by_cases y : x = t * 8 + I
        · rw [if_pos ⟨rfl, y⟩, if_pos y]
        · rw [if_neg (fun z => y z.2), if_neg y]; exact fvI D A12 56 x
      have cn15 : (hI h15 (V 11) 8).toInt = (cntN V h : Int) + 1 := by rw [I15 _ _ (vne D)]; exact a1
      have cnN : cntN V h15 = cntN V h + 1 := by
        have := nc_i (x := hI h15 (V 11) 8) (by omega)
        unfold cntN at *
        omega
      have ka : ∀ w, w < cntN V h → hI h15 (V 51) w = hI h (V 51) w := fun w hw => by rw [I15 _ _ (vne D)]; exact a3 w (by omega)
      have kb : ∀ w, w < cntN V h → hJ h15 (V 52) w = hJ h (V 52) w := fun w hw => by rw [J15]; exact a4 w (by omega)
      have aN : a ≤ cntN V h := CP.1
      refine ih (I := I + 1) t7 (by omega) ⟨⟨wlf_f W A15, clw_w D P A15, wcf_f wc A15⟩, ⟨la_k LA (fun x _ => k50 x) (fun w hw => ka w (by omega)) (fun w hw => kb w (by omega)), by unfold rowN; rw [k50]; exact eN, by rw [k50]; exact e0⟩, lb_w (fl := L 75 (8 * (c / 2) + I)) (by omega) ht sL LB IL rfl r (fun x q => by rw [J15]; exact a6 x q) (fun x q => by rw [J15]; exact a7 x q), ?_, fun t' i' ht' hi' => ?_, by omega, by rw [cnN, nwI]; omega⟩ (nx_e e)
      · rw [cnN]
        refine cp_s CP ka kb IL ⟨v7.toInt, r, ?_, ?_⟩
        · rw [I15 _ _ (vne D), a2]
        · intro q hq
          rw [J15]
          exact a5 q hq
      · obtain ⟨p, q⟩ := TS t' i' ht' hi'
        rw [k56]
        by_cases y : t' * 8 + i' = t * 8 + I
        · have e1 : t' = t := by omega
          have e2 : i' = I := by omega
          rw [if_pos y, e1, e2]
          exact ⟨fun _ => rfl, fun z => absurd (Or.inr ⟨rfl, by omega⟩) z⟩
        · rw [if_neg y]
          exact ⟨fun z => p (by omega), fun z => q (by omega)⟩
theorem nw_m {m T : Nat} {sd : Int} {s : Nat} : ∀ n, nW L m sd s T 0 n ≤ nW L m sd s (T + 1) 0 n
  | 0 => Nat.le_refl _
  | n + 1 => by
    have ih := nw_m (m := m) (T := T) (sd := sd) (s := s) n
    show nW L m sd s T 0 n + gT L (8 * m + n) sd s (if n < 0 then T + 1 else T) ≤ nW L m sd s (T + 1) 0 n + gT L (8 * m + n) sd s (if n < 0 then T + 1 + 1 else T + 1)
    rw [if_neg (Nat.not_lt_zero n), if_neg (Nat.not_lt_zero n)]
    have : gT L (8 * m + n) sd s T ≤ gT L (8 * m + n) sd s (T + 1) := by
      show _ ≤ gT L (8 * m + n) sd s T + _
      omega
    omega
theorem lb_all {h : Hp} {c0 s0 t0 : Nat} (h0 : s0 < 64) (ht0 : t0 < 64) (E : LayB L V h (celN c0 s0 t0) 0) (no : ∀ (n : Nat) (k : Int), (n : Int) < L 74 (c0 / 2) → ¬ RchL L (8 * (c0 / 2) + n) ((c0 % 2 : Nat) : Int) s0 t0 k) : ∀ n, LayB L V h (celN c0 s0 t0) n
  | 0 => E
  | n + 1 => lb_n h0 ht0 (lb_all h0 ht0 E no n) (fun z k => no n k z)
/-- state between squares come to -/
def S30 (L : Nat → Nat → Int) (V : Nat → Nat) (h : Hp) (N : Nat) : Prop := (WLf V h ∧ CLq V h L ∧ WCf V h) ∧ LayA L V h N (cntN V h) ∧ LayB L V h N 0 ∧ 0 ≤ (hI h (V 11) 8).toInt
theorem cel_d {c s t : Nat} (hs : s < 64) (ht : t < 64) : celN c s t / 4096 = c ∧ celN c s t / 64 % 64 = s ∧ celN c s t % 64 = t := by unfold celN; omega
/-- the cell's place is written -/
theorem s30_w (D : VD V) {h : Hp} {N : Nat} {x : Int32} (S : S30 L V h N) (ex : x.toNatClampNeg = N) : S30 L V (wI h (V 50) x.toNatClampNeg (hI h (V 11) 8)) N ∧ rowN (wI h (V 50) x.toNatClampNeg (hI h (V 11) 8)) (V 50) N = cntN V h ∧ 0 ≤ (hI (wI h (V 50) x.toNatClampNeg (hI h (V 11) 8)) (V 50) N).toInt ∧ cntN V (wI h (V 50) x.toNatClampNeg (hI h (V 11) 8)) = cntN V h := by
  obtain ⟨⟨W, P, wc⟩, LA, LB, c0⟩ := S
  rw [ex]
  have A : FrV V (wl wlL) h (wI h (V 50) N (hI h (V 11) 8)) := fv_w (wl_9 (by decide))
  have cn : cntN V (wI h (V 50) N (hI h (V 11) 8)) = cntN V h := by unfold cntN; rw [rI_a (vne D)]
  refine ⟨⟨⟨wlf_f W A, clw_w D P A, wcf_f wc A⟩, ?_, lb_k LB (fun _ => rfl) (fun _ => rfl), by rw [rI_a (vne D)]; exact c0⟩, by unfold rowN; rw [rI_s]; rfl, by rw [rI_s]; exact c0, cn⟩
  rw [cn]
  exact la_k LA (fun y hy => rI_o (by omega)) (fun w _ => rI_a (vne D)) (fun w _ => rfl)
theorem lfy_30 (D : VD V) {x1 x2 x5 : Int32} {x3 : Int64} {c s B : Nat} (H : LOk L) (i1 : x1.toInt = (c : Int)) (cL : (c : Int) < 2 * L 2 0) (i2 : x2.toInt = (s : Int)) (sL : (s : Int) < L 0 0 * L 1 0) (i5 : x5.toInt = ((c / 2 : Nat) : Int)) (hB : B ≤ 112 * 1535) (bits : ∀ t, t < 64 → (bitJ x3 t = true ↔ ∃ (i : Nat) (k : Int), (i : Int) < L 74 (c / 2) ∧ RchL L (8 * (c / 2) + i) ((c % 2 : Nat) : Int) s t k)) : ∀ (f : Nat) {h : Hp} {x6 : Int32} {T : Nat}, x6.toInt = (T : Int) → T ≤ 64 → S30 L V h (celN c s T) → Tst L V (c / 2) ((c % 2 : Nat) : Int) s T 0 h → cntN V h ≤ B + nW L (c / 2) ((c % 2 : Nat) : Int) s T 0 (L 74 (c / 2)).toNat → sX10_layFrom_30 F f h (V 11) x1 x2 x3 x5 x6 = some o → S30 L V o (celN c s 64) ∧ Tz V o ∧ cntN V o ≤ B + 112 := by
  have z1 : (1 : Int32).toInt = 1 := rfl
  have z64 : (64 : Int32).toInt = 64 := rfl
  have sq := sq_64 H
  have L2 := H.2.2.1
  have mL : ((c / 2 : Nat) : Int) < L 2 0 := by omega
  obtain ⟨H74, Hst⟩ := H.2.2.2 _ mL
  intro f
  induction f with
  | zero => intro h x6 T _ _ _ _ _ e; exact absurd e (by rw [sX10_layFrom_30]; exact fun z => nomatch z)
  | succ f ih =>
    intro h x6 T i6 bT S TS cB e
    rw [sX10_layFrom_30] at e
    rcases br_s e with ⟨l, e⟩ | ⟨l, e⟩
    · have l := le_i l
      rw [z64] at l
      have T64 : T = 64 := by omega
      rw [so_e e]
      rw [T64] at S TS cB
      refine ⟨S, fun x hx => ?_, ?_⟩
      · have := (TS (x / 8) (x % 8) (by omega) (by omega)).1 (Or.inl (by omega))
        rw [show x / 8 * 8 + x % 8 = x by omega] at this
        exact this
      · have := nw_le (sd := ((c % 2 : Nat) : Int)) (s := s) (T := 64) (i := 0) H Hst sL (L 74 (c / 2)).toNat (by omega)
        omega
    have l := nle_i l
    rw [z64] at l
    have hT : T < 64 := by omega
    obtain ⟨dc, ds, dt⟩ := cel_d (c := c) (s := s) (t := T) (by omega) hT
    have wc := S.1.2.2
    replace e := ce_e wc.1 e
    unfold sX10_cell at e
    replace e := cl_s e; obtain ⟨o3, eo3, e⟩ := e
    rw [so_e eo3] at e
    have m1 : (x1 * (64 : Int32)).toInt = x1.toInt * 64 := by rw [tm (by rw [z64]; omega), z64]
    have a1 : ((x1 * (64 : Int32)) + x2).toInt = x1.toInt * 64 + x2.toInt := by rw [ta (by rw [m1]; omega), m1]
    have m2 : (((x1 * (64 : Int32)) + x2) * (64 : Int32)).toInt = (x1.toInt * 64 + x2.toInt) * 64 := by rw [tm (by rw [a1, z64]; omega), a1, z64]
    have a2 : ((((x1 * (64 : Int32)) + x2) * (64 : Int32)) + x6).toInt = (x1.toInt * 64 + x2.toInt) * 64 + x6.toInt := by rw [ta (by rw [m2]; omega), m2]
    have ix : ((((x1 * (64 : Int32)) + x2) * (64 : Int32)) + x6).toNatClampNeg = celN c s T := by
      have := nc_i (x := (((x1 * (64 : Int32)) + x2) * (64 : Int32)) + x6) (by omega)
      unfold celN
      omega
    replace e := gg_e e
    replace e := nm_s e; obtain ⟨h5, u5, e⟩ := e
    dsimp only at u5
    obtain ⟨S5, r5, p5, c5⟩ := s30_w D S ix
    rw [← u5] at S5 r5 p5 c5
    have TS5 : Tst L V (c / 2) ((c % 2 : Nat) : Int) s T 0 h5 := fun t i ht hi => by
      rw [u5, rI_a (vne D)]
      exact TS t i ht hi
    have t6 : (x6 + (1 : Int32)).toInt = ((T + 1 : Nat) : Int) := by rw [ta (by rw [z1]; omega), z1]; omega
    have cs : celN c s (T + 1) = celN c s T + 1 := by unfold celN; omega
    have i6' : Rg 0 63 x6 := ⟨by omega, by omega⟩
    have n6 : x6.toNatClampNeg = T := by have := nc_i i6'.1; omega
    rcases br_s e with ⟨bz, e⟩ | ⟨bz, e⟩
    · -- nobody comes there
      have b0 : bitJ x3 T = false := by
        have := congrArg (fun y => bitJ y 0) (cmp_eq bz)
        try dsimp only at this
        rw [bj_and, ush_bit i6', n6, bj_zero] at this
        have one : bitJ (1 : Int64) 0 = true := by decide
        rw [one, Bool.and_true] at this
        exact this
      have no : ∀ (n : Nat) (k : Int), (n : Int) < L 74 (c / 2) → ¬ RchL L (8 * (c / 2) + n) ((c % 2 : Nat) : Int) s T k := fun n k hn z => by
        rw [(bits T hT).mpr ⟨n, k, hn, z⟩] at b0
        exact absurd b0 (by decide)
      unfold sX10_layFrom_154 at e
      obtain ⟨w5, LA5, LB5, p0⟩ := S5
      refine ih (T := T + 1) t6 (by omega) ⟨w5, ?_, ?_, p0⟩ (fun t i ht hi => ?_) ?_ (nx_e e)
      · rw [cs]
        refine la_s LA5 (by rw [r5, c5]) p5 (Nat.le_refl _) (fun _ => ?_)
        rw [dc, ds, dt]
        exact ⟨Nat.le_refl _, fun _ => 0, fun w x y => by omega, fun w w' x y z => by omega, fun i k x y => absurd y (no i k x)⟩
      · rw [cs]
        refine lb_s (lb_all (by omega) hT LB5 no (L 74 (c / 2)).toNat) (fun c' s' t' _ hs' ht' z _ => ?_)
        have : c' = c := by unfold celN at z; omega
        rw [this]; omega
      · obtain ⟨p, q⟩ := TS5 t i ht hi
        by_cases y : t = T
        · refine ⟨fun _ => ?_, fun z => absurd (Or.inl (by omega)) z⟩
          obtain ⟨q1, q2⟩ := q (by omega)
          by_cases y' : (i : Int) < L 74 (c / 2)
          · rcases q1 y' with ⟨w, _⟩ | w
            · exact Int32.toInt_inj.mp (by rw [w]; rfl)
            · rw [y] at w
              exact absurd w (no i _ y')
          · exact q2 (by omega)
        · exact ⟨fun z => p (by omega), fun z => q (by omega)⟩
      · rw [c5]
        have := nw_m (L := L) (m := c / 2) (T := T) (sd := ((c % 2 : Nat) : Int)) (s := s) (L 74 (c / 2)).toNat
        omega
    · obtain ⟨w5, LA5, LB5, p0⟩ := S5
      rw [c5] at LA5
      obtain ⟨g, Sg, e⟩ := lf_70 D H i1 cL i2 sL i6 hT i5 hB F (I := 0) rfl (by omega) ⟨w5, ⟨LA5, r5, p5⟩, LB5, by rw [c5]; exact cp_0, TS5, p0, by rw [c5]; exact cB⟩ e
      obtain ⟨wg, ⟨LAg, rg, pg⟩, LBg, CPg, TSg, p0g, cBg⟩ := Sg
      unfold sX10_layFrom_154 at e
      refine ih (T := T + 1) t6 (by omega) ⟨wg, ?_, ?_, p0g⟩ (fun t i ht hi => ?_) ?_ (nx_e e)
      · rw [cs]
        refine la_s LAg rg pg CPg.1 (fun _ => ?_)
        rw [dc, ds, dt]
        exact cp_w CPg (by omega)
      · rw [cs]
        refine lb_s LBg (fun c' s' t' _ hs' ht' z _ => ?_)
        have : c' = c := by unfold celN at z; omega
        rw [this]; omega
      · obtain ⟨p, q⟩ := TSg t i ht hi
        by_cases y : t = T
        · refine ⟨fun _ => ?_, fun z => absurd (Or.inl (by omega)) z⟩
          by_cases y' : i < (L 74 (c / 2)).toNat
          · exact p (Or.inr ⟨y, y'⟩)
          · exact (q (by omega)).2 (by omega)
        · exact ⟨fun z => p (by omega), fun z => q (by omega)⟩
      · rw [← nw_t (i := (L 74 (c / 2)).toNat) _ (Nat.le_refl _)]
        exact cBg
/-- from squares beyond the board -/
theorem lf_z (D : VD V) {x1 x2 x5 : Int32} {c s : Nat} (H : LOk L) (i1 : x1.toInt = (c : Int)) (cL : (c : Int) < 2 * L 2 0) (i2 : x2.toInt = (s : Int)) (s64 : s < 64) (sL : ¬ (s : Int) < L 0 0 * L 1 0) : ∀ (f : Nat) {h : Hp} {x6 : Int32} {T : Nat}, x6.toInt = (T : Int) → T ≤ 64 → S30 L V h (celN c s T) → Tz V h → sX10_layFrom_30 F f h (V 11) x1 x2 (0 : Int64) x5 x6 = some o → S30 L V o (celN c s 64) ∧ Tz V o ∧ cntN V o = cntN V h := by
  have z1 : (1 : Int32).toInt = 1 := rfl
  have z64 : (64 : Int32).toInt = 64 := rfl
  have L2 := H.2.2.1
  intro f
  induction f with
  | zero => intro h x6 T _ _ _ _ e; exact absurd e (by rw [sX10_layFrom_30]; exact fun z => nomatch z)
  | succ f ih =>
    intro h x6 T i6 bT S TS e
    rw [sX10_layFrom_30] at e
    rcases br_s e with ⟨l, e⟩ | ⟨l, e⟩
    · have l := le_i l
      rw [z64] at l
      have T64 : T = 64 := by omega
      rw [so_e e]
      rw [T64] at S
      exact ⟨S, TS, rfl⟩
    have l := nle_i l
    rw [z64] at l
    have hT : T < 64 := by omega
    obtain ⟨dc, ds, dt⟩ := cel_d (c := c) (s := s) (t := T) s64 hT
    have wc := S.1.2.2
    replace e := ce_e wc.1 e
    unfold sX10_cell at e
    replace e := cl_s e; obtain ⟨o3, eo3, e⟩ := e
    rw [so_e eo3] at e
    have m1 : (x1 * (64 : Int32)).toInt = x1.toInt * 64 := by rw [tm (by rw [z64]; omega), z64]
    have a1 : ((x1 * (64 : Int32)) + x2).toInt = x1.toInt * 64 + x2.toInt := by rw [ta (by rw [m1]; omega), m1]
    have m2 : (((x1 * (64 : Int32)) + x2) * (64 : Int32)).toInt = (x1.toInt * 64 + x2.toInt) * 64 := by rw [tm (by rw [a1, z64]; omega), a1, z64]
    have a2 : ((((x1 * (64 : Int32)) + x2) * (64 : Int32)) + x6).toInt = (x1.toInt * 64 + x2.toInt) * 64 + x6.toInt := by rw [ta (by rw [m2]; omega), m2]
    have ix : ((((x1 * (64 : Int32)) + x2) * (64 : Int32)) + x6).toNatClampNeg = celN c s T := by
      have := nc_i (x := (((x1 * (64 : Int32)) + x2) * (64 : Int32)) + x6) (by omega)
      unfold celN
      omega
    replace e := gg_e e
    replace e := nm_s e; obtain ⟨h5, u5, e⟩ := e
    dsimp only at u5
    obtain ⟨S5, r5, p5, c5⟩ := s30_w D S ix
    rw [← u5] at S5 r5 p5 c5
    have t6 : (x6 + (1 : Int32)).toInt = ((T + 1 : Nat) : Int) := by rw [ta (by rw [z1]; omega), z1]; omega
    have cs : celN c s (T + 1) = celN c s T + 1 := by unfold celN; omega
    have i6' : Rg 0 63 x6 := ⟨by omega, by omega⟩
    have bz : lg_cmp ((((0 : Int64).toUInt64 >>> (x6.toInt64.toUInt64 &&& Int64.toUInt64 63)).toInt64) &&& (1 : Int64)) (0 : Int64) = 0 := by
      have zz : ((((0 : Int64).toUInt64 >>> (x6.toInt64.toUInt64 &&& Int64.toUInt64 63)).toInt64) &&& (1 : Int64)) = 0 := j_zero.mpr (fun q hq => by
        rw [bj_and]
        by_cases y : q = 0
        · rw [y, ush_bit i6', bj_zero]; rfl
        · have : bitJ (1 : Int64) q = false := by
            have all : ∀ q : Fin 64, ¬ q.val = 0 → bitJ (1 : Int64) q.val = false := by decide
            exact all ⟨q, hq⟩ y
          rw [this, Bool.and_false])
      rw [zz]; decide
    replace e := bp_e bz e
    unfold sX10_layFrom_154 at e
    obtain ⟨w5, LA5, LB5, p0⟩ := S5
    have r := ih (T := T + 1) t6 (by omega) (h := h5) ⟨w5, by
      rw [cs]
      exact la_s LA5 (by rw [r5, c5]) p5 (Nat.le_refl _) (fun y => by rw [ds] at y; exact absurd y sL), by
      rw [cs]
      refine lb_s LB5 (fun c' s' t' _ hs' ht' z y => ?_)
      have : s' = s := by unfold celN at z; omega
      rw [this] at y
      exact absurd y sL, p0⟩ (fun x hx => by rw [u5, rI_a (vne D)]; exact TS x hx) (nx_e e)
    exact ⟨r.1, r.2.1, by rw [r.2.2, c5]⟩
theorem lf_q (D : VD V) {h : Hp} {x1 x2 : Int32} {c s : Nat} (H : LOk L) (i1 : x1.toInt = (c : Int)) (cL : (c : Int) < 2 * L 2 0) (i2 : x2.toInt = (s : Int)) (s64 : s < 64) (S : S30 L V h (celN c s 0)) (TZ : Tz V h) (cB : cntN V h ≤ 112 * (c * 64 + s)) (e : sX10_layFrom F h (V 11) x1 x2 = some o) : S30 L V o (celN c s 64) ∧ Tz V o ∧ cntN V o ≤ 112 * (c * 64 + s + 1) := by
  have L2 := H.2.2.1
  have sq := sq_64 H
  have mL : ((c / 2 : Nat) : Int) < L 2 0 := by omega
  obtain ⟨H74, Hst⟩ := H.2.2.2 _ mL
  have i5 : (x1 >>> ((1 : Int32) &&& 31)).toInt = ((c / 2 : Nat) : Int) := by
    have : (x1 >>> ((1 : Int32) &&& 31)).toInt = x1.toInt / 2 := shr_i 1 (by decide)
    rw [this, i1]; omega
  have sdE : x1.toInt % 2 = ((c % 2 : Nat) : Int) := by rw [i1]; omega
  have c2 : x2.toNatClampNeg = s := by have := nc_i (x := x2) (by omega); omega
  unfold sX10_layFrom sX10_layFrom_21 at e
  have W := S.1.1
  have P := S.1.2.1
  replace e := ce_e W.2.1 e
  rcases br_s e with ⟨l, e⟩ | ⟨l, e⟩
  · have l := le_i l
    rw [P.2.2.1, i2] at l
    obtain ⟨r1, r2, r3⟩ := lf_z D H i1 cL i2 s64 (by omega) F (T := 0) rfl (by decide) S TZ (nx_e e)
    exact ⟨r1, r2, by omega⟩
  · have l := nle_i l
    rw [P.2.2.1, i2] at l
    replace e := cl_s e; obtain ⟨o3, eo3, e⟩ := e
    unfold sX10_reach at eo3
    have n0 : (0 : Int32).toNatClampNeg = 0 := rfl
    obtain ⟨r1, r2, r3⟩ := rc_10 (m := c / 2) D H (by omega) (by omega) (by omega) mL i5 F W P (x6 := 0) (by decide) (by
      have : (0 : Int32).toInt = 0 := rfl
      omega) (fun t i ht hi => ⟨fun z => by rw [n0] at z; omega, fun _ => TZ _ (by omega)⟩) (fun t ht => ⟨fun z => by rw [bj_zero] at z; exact absurd z (by decide), fun ⟨i, k, z, _⟩ => by rw [n0] at z; omega⟩) (nx_e eo3)
    rw [sdE, c2] at r2 r3
    have A : FrV V (wl wlL) h o3.2 := sub_l r1 (by decide)
    obtain ⟨w5, LA, LB, p0⟩ := S
    have cn : cntN V o3.2 = cntN V h := by unfold cntN; rw [fvi D r1 11 8]
    refine lfy_30 D H i1 cL i2 l i5 (B := 112 * (c * 64 + s)) (by omega) r3 F (T := 0) rfl (by decide) ⟨⟨wlf_f W A, clw_w D P A, wcf_f w5.2.2 A⟩, ?_, lb_k LB (fun x => fvJ D r1 53 x) (fun x => fvJ D r1 54 x), by rw [fvi D r1 11 8]; exact p0⟩ (fun t i ht hi => ⟨fun z => by omega, fun _ => ⟨fun z => (r2 t i ht hi).1 (by omega), fun z => (r2 t i ht hi).2 (by omega)⟩⟩) (by rw [cn]; omega) (nx_e e)
    rw [cn]
    exact la_k LA (fun x _ => fvI D r1 50 x) (fun w _ => fvI D r1 51 w) (fun w _ => fvJ D r1 52 w)
end
