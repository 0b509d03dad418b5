section
/-! the class: ways from one square, and all of them -/
section
variable {F : Nat} {V : Nat → Nat} {L : Nat → Nat → Int} {o : Hp}
def S70 (L : Nat → Nat → Int) (V : Nat → Nat) (h : Hp) (c s t a B I : Nat) : Prop := (WLf V h ∧ CLq V h L ∧ WCf V h) ∧ (LayA L V h (celN c s t) a ∧ rowN h (V 50) (celN c s t) = a ∧ 0 ≤ (hI h (V 50) (celN c s t)).toInt) ∧ LayB L V h (celN c s t) I ∧ CellP L V h c s t a (cntN V h) I ∧ Tst L V (c / 2) ((c % 2 : Nat) : Int) s t I h ∧ 0 ≤ (hI h (V 11) 8).toInt ∧ cntN V h ≤ B + nW L (c / 2) ((c % 2 : Nat) : Int) s t I (L 74 (c / 2)).toNat
abbrev wlL : List (Nat × Nat) := [(11, 8), (50, 999), (51, 999), (52, 999), (53, 999), (54, 999), (56, 999)]
theorem clw_w (D : VD V) {h o' : Hp} (P : CLq V h L) (A : FrV V (wl wlL) h o') : CLq V o' L := clw_f D P A (by decide)
theorem wcf_f {W : Nat → Nat → Bool} {h o' : Hp} (P : WCf V h) (A : FrV V W h o') : WCf V o' := ⟨by rw [A.1]; exact P.1, by rw [A.1]; exact P.2.1, by rw [A.1]; exact P.2.2.1, by rw [A.1]; exact P.2.2.2.1, by rw [A.1]; exact P.2.2.2.2.1, by rw [A.1]; exact P.2.2.2.2.2⟩
theorem hb_f {L : Nat → Nat → Int} {j : Nat} {sd : Int} {s t : Nat} (n : ∀ k, ¬ RchL L j sd s t k) : ¬ hitB L j sd s t = true := fun z => by
  obtain ⟨k, hk⟩ := hb_t.mp z
  exact n k hk
theorem lf_70 (D : VD V) {K : Hp → Nat → Int32 → Int32 → Int64 → Int32 → Int32 → Option Hp} {x1 x2 x5 x6 : Int32} {x3 : Int64} {c s t a B : Nat} (H : LOk L) (i1 : x1.toInt = (c : Int)) (cL : (c : Int) < 2 * L 2 0) (i2 : x2.toInt = (s : Int)) (sL : (s : Int) < L 0 0 * L 1 0) (i6 : x6.toInt = (t : Int)) (ht : t < 64) (i5 : x5.toInt = ((c / 2 : Nat) : Int)) (hB : B ≤ 112 * 1535) : ∀ (f : Nat) {h : Hp} {x7 : Int32} {I : Nat}, x7.toInt = (I : Int) → (I : Int) ≤ L 74 (c / 2) → S70 L V h c s t a B I → sX10_layFrom_70 F K f h (V 11) x1 x2 x3 x5 x6 x7 = some o → ∃ g, S70 L V g c s t a B (L 74 (c / 2)).toNat ∧ sX10_layFrom_154 F K g (V 11) x1 x2 x3 x5 x6 = some o := by
  have z1 : (1 : Int32).toInt = 1 := rfl
  have z0 : (0 : Int32).toInt = 0 := rfl
  have z8 : (8 : Int32).toInt = 8 := rfl
  have sq := sq_64 H
  have L2 := H.2.2.1
  have mL : ((c / 2 : Nat) : Int) < L 2 0 := by omega
  obtain ⟨H74, Hst⟩ := H.2.2.2 _ mL
  have c1 : x1.toNatClampNeg = c := by have := nc_i (x := x1) (by omega); omega
  have c2 : x2.toNatClampNeg = s := by have := nc_i (x := x2) (by omega); omega
  have c5 : x5.toNatClampNeg = c / 2 := by have := nc_i (x := x5) (by omega); omega
  have c6 : x6.toNatClampNeg = t := by have := nc_i (x := x6) (by omega); omega
  intro f
  induction f with
  | zero => intro h x7 I _ _ _ e; exact absurd e (by rw [sX10_layFrom_70]; exact fun z => nomatch z)
  | succ f ih =>
    intro h x7 I i7 bI S e
    obtain ⟨⟨W, P, wc⟩, ⟨LA, eN, e0⟩, LB, CP, TS, cn0, cnB⟩ := S
    have c7 : x7.toNatClampNeg = I := by have := nc_i (x := x7) (by omega); omega
    rw [sX10_layFrom_70] at e
    have l74 := (P.2.2.2.2.1 _ mL).1
    replace e := ce_e W.2.1 e
    replace e := ce_e W.2.2.2.1 e
    replace e := gg_e e
    rw [c5] at e
    rcases br_s e with ⟨l, e⟩ | ⟨l, e⟩
    · have l := le_i l
      rw [l74] at l
      have : I = (L 74 (c / 2)).toNat := by omega
      rw [← this]
      exact ⟨h, ⟨⟨W, P, wc⟩, ⟨LA, eN, e0⟩, LB, CP, TS, cn0, by rw [this]; rw [this] at cnB; exact cnB⟩, e⟩
    have l := nle_i l
    rw [l74] at l
    have IL : (I : Int) < L 74 (c / 2) := by omega
    have J := Hst I IL
    have m8 : (x6 * (8 : Int32)).toInt = x6.toInt * 8 := by rw [tm (by rw [z8]; omega), z8]
    have ix : ((x6 * (8 : Int32)) + x7).toNatClampNeg = t * 8 + I := by
      have a : ((x6 * (8 : Int32)) + x7).toInt = x6.toInt * 8 + x7.toInt := by rw [ta (by rw [m8]; omega), m8]
      have := nc_i (x := (x6 * (8 : Int32)) + x7) (by omega)
      omega
    replace e := ce_e W.1 e
    replace e := gg_e e
    replace e := nm_s e; obtain ⟨v7, u7, e⟩ := e
    rw [ix] at u7
    have tsI := ((TS t I ht (by omega)).2 (by omega)).1 IL
    rw [← u7] at tsI
    have t7 : (x7 + (1 : Int32)).toInt = ((I + 1 : Nat) : Int) := by rw [ta (by rw [z1]; omega), z1]; omega
    rcases br_s e with ⟨zz, e⟩ | ⟨zz, e⟩
    · -- no way by this STEP
      have zz := le_i zz
      rw [z0] at zz
      unfold sX10_layFrom_148 at e
      have no : ∀ k, ¬ RchL L (8 * (c / 2) + I) ((c % 2 : Nat) : Int) s t k := by
        rcases tsI with ⟨_, y⟩ | y
        · exact y
        · have := y.2.1; omega
      have v0 : hI h (V 56) (t * 8 + I) = 0 := by
        rcases tsI with ⟨y, _⟩ | y
        · rw [← u7]; exact Int32.toInt_inj.mp (by rw [y]; rfl)
        · have := y.2.1; omega
      refine ih (I := I + 1) t7 (by omega) ⟨⟨W, P, wc⟩, ⟨LA, eN, e0⟩, lb_n (by omega) ht LB (fun _ => no), cp_n CP (fun _ => no), fun t' i' ht' hi' => ?_, cn0, ?_⟩ (nx_e e)
      · obtain ⟨p, q⟩ := TS t' i' ht' hi'
        by_cases y : t' = t ∧ i' = I
        · rw [y.1, y.2]
          exact ⟨fun _ => v0, fun z => absurd (Or.inr ⟨rfl, by omega⟩) z⟩
        · exact ⟨fun z => p (by omega), fun z => q (by omega)⟩
      · rw [nw_i, if_pos (show I < (L 74 (c / 2)).toNat by omega), if_neg (hb_f no)]
        omega
    · -- one way
      have zz := nle_i zz
      rw [z0] at zz
      have r : RchL L (8 * (c / 2) + I) ((c % 2 : Nat) : Int) s t v7.toInt := by
        rcases tsI with ⟨y, _⟩ | y
        · omega
        · exact y
      have r7 := J.2.2.2.2.1
      have k2 := r.2.2.1
      have k1 := r.2.1
      have m8' : (x5 * (8 : Int32)).toInt = x5.toInt * 8 := by rw [tm (by rw [z8]; omega), z8]
      have ix' : ((x5 * (8 : Int32)) + x7).toNatClampNeg = 8 * (c / 2) + I := by
        have a : ((x5 * (8 : Int32)) + x7).toInt = x5.toInt * 8 + x7.toInt := by rw [ta (by rw [m8']; omega), m8']
        have := nc_i (x := (x5 * (8 : Int32)) + x7) (by omega)
        omega
      replace e := ce_e W.2.1 e
      replace e := ce_e W.2.2.1 e
      replace e := gg_e e
      rw [ix'] at e
      have ew := (P.2.2.2.2.1 _ mL).2 I IL
      have fl := (wrd_e J ew).2.2.2.2.1
      have nwI : nW L (c / 2) ((c % 2 : Nat) : Int) s t (I + 1) (L 74 (c / 2)).toNat = nW L (c / 2) ((c % 2 : Nat) : Int) s t I (L 74 (c / 2)).toNat + 1 := by
        rw [nw_i, if_pos (show I < (L 74 (c / 2)).toNat by omega), if_pos (hb_t.mpr ⟨_, r⟩)]
      have nw14 := nw_le (sd := ((c % 2 : Nat) : Int)) (s := s) (T := t) (i := I + 1) H Hst sL (L 74 (c / 2)).toNat (by omega)
      have cn172 : cntN V h < 172032 := by omega
      have cE : hI h (V 11) 8 = nI (cntN V h) := Int32.toInt_inj.mp (by
        have := nc_i cn0
        rw [z_toInt (by omega)]
        unfold cntN
        omega)
      obtain ⟨dd, _, o1, e1, st, sub⟩ := rch_st r.2
      replace e := cl_s e; obtain ⟨h12, eh12, e⟩ := e
      have aw := aw_q D wc (st := ((t : Int) - s) / v7.toInt) cE cn172 ⟨by omega, by omega⟩ ⟨by omega, by omega⟩ ⟨by omega, by omega⟩ (show Rg 0 63 _ from ⟨by rw [fl]; exact J.1.1, by rw [fl]; exact J.1.2⟩) ⟨by omega, by omega⟩ (by rw [i6, i2, st]; exact sub) (fun j a b => by
        obtain ⟨p, q⟩ := pth_on H sL r (i := j) (by omega) (by omega)
        rw [i2]
        exact ⟨p, by omega⟩) eh12
      rw [c1, c2, c6, fl] at aw
      obtain ⟨A12, a1, a2, a3, a4, a5, a6, a7⟩ := aw
      have A12w : FrV V (wl wlL) h h12 := sub_l A12 (by decide)
      replace e := ce_e (by rw [A12.1]; exact W.1) e
      replace e := gg_e e
      replace e := nm_s e; obtain ⟨h15, u15, e⟩ := e
      rw [ix] at u15
      have A15 : FrV V (wl wlL) h h15 := fv_t A12w (by rw [u15]; exact fv_w (wl_9 (by decide)))
      unfold sX10_layFrom_148 at e
      have I15 : ∀ a i, ¬ a = V 56 → hI h15 a i = hI h12 a i := fun a i n => by rw [u15, rI_a n]
      have J15 : ∀ a i, hJ h15 a i = hJ h12 a i := fun a i => by rw [u15]; rfl
      have k50 : ∀ x, hI h15 (V 50) x = hI h (V 50) x := fun x => by rw [I15 _ _ (vne D)]; exact fvI D A12 50 x
      have k56 : ∀ x, hI h15 (V 56) x = if x = t * 8 + I then 0 else hI h (V 56) x := fun x => by
        rw [u15, r_I]
        by_cases y : x = t * 8 + I
        · rw [if_pos ⟨rfl, y⟩, if_pos y]
        · rw [if_neg (fun z => y z.2), if_neg y]; exact fvI D A12 56 x
      have cn15 : (hI h15 (V 11) 8).toInt = (cntN V h : Int) + 1 := by rw [I15 _ _ (vne D)]; exact a1
      have cnN : cntN V h15 = cntN V h + 1 := by
        have := nc_i (x := hI h15 (V 11) 8) (by omega)
        unfold cntN at *
        omega
      have ka : ∀ w, w < cntN V h → hI h15 (V 51) w = hI h (V 51) w := fun w hw => by rw [I15 _ _ (vne D)]; exact a3 w (by omega)
      have kb : ∀ w, w < cntN V h → hJ h15 (V 52) w = hJ h (V 52) w := fun w hw => by rw [J15]; exact a4 w (by omega)
      have aN : a ≤ cntN V h := CP.1
      refine ih (I := I + 1) t7 (by omega) ⟨⟨wlf_f W A15, clw_w D P A15, wcf_f wc A15⟩, ⟨la_k LA (fun x _ => k50 x) (fun w hw => ka w (by omega)) (fun w hw => kb w (by omega)), by unfold rowN; rw [k50]; exact eN, by rw [k50]; exact e0⟩, lb_w (fl := L 75 (8 * (c / 2) + I)) (by omega) ht sL LB IL rfl r (fun x q => by rw [J15]; exact a6 x q) (fun x q => by rw [J15]; exact a7 x q), ?_, fun t' i' ht' hi' => ?_, by omega, by rw [cnN, nwI]; omega⟩ (nx_e e)
      · rw [cnN]
        refine cp_s CP ka kb IL ⟨v7.toInt, r, ?_, ?_⟩
        · rw [I15 _ _ (vne D), a2]
        · intro q hq
          rw [J15]
          exact a5 q hq
      · obtain ⟨p, q⟩ := TS t' i' ht' hi'
        rw [k56]
        by_cases y : t' * 8 + i' = t * 8 + I
        · have e1 : t' = t := by omega
          have e2 : i' = I := by omega
          rw [if_pos y, e1, e2]
          exact ⟨fun _ => rfl, fun z => absurd (Or.inr ⟨rfl, by omega⟩) z⟩
        · rw [if_neg y]
          exact ⟨fun z => p (by omega), fun z => q (by omega)⟩
theorem nw_m {m T : Nat} {sd : Int} {s : Nat} : ∀ n, nW L m sd s T 0 n ≤ nW L m sd s (T + 1) 0 n
  | 0 => Nat.le_refl _
  | n + 1 => by
    have ih := nw_m (m := m) (T := T) (sd := sd) (s := s) n
    show nW L m sd s T 0 n + gT L (8 * m + n) sd s (if n < 0 then T + 1 else T) ≤ nW L m sd s (T + 1) 0 n + gT L (8 * m + n) sd s (if n < 0 then T + 1 + 1 else T + 1)
    rw [if_neg (Nat.not_lt_zero n), if_neg (Nat.not_lt_zero n)]
    have : gT L (8 * m + n) sd s T ≤ gT L (8 * m + n) sd s (T + 1) := by
      show _ ≤ gT L (8 * m + n) sd s T + _
      omega
    omega
theorem lb_all {h : Hp} {c0 s0 t0 : Nat} (h0 : s0 < 64) (ht0 : t0 < 64) (E : LayB L V h (celN c0 s0 t0) 0) (no : ∀ (n : Nat) (k : Int), (n : Int) < L 74 (c0 / 2) → ¬ RchL L (8 * (c0 / 2) + n) ((c0 % 2 : Nat) : Int) s0 t0 k) : ∀ n, LayB L V h (celN c0 s0 t0) n
  | 0 => E
  | n + 1 => lb_n h0 ht0 (lb_all h0 ht0 E no n) (fun z k => no n k z)
/-- state between squares come to -/
def S30 (L : Nat → Nat → Int) (V : Nat → Nat) (h : Hp) (N : Nat) : Prop := (WLf V h ∧ CLq V h L ∧ WCf V h) ∧ LayA L V h N (cntN V h) ∧ LayB L V h N 0 ∧ 0 ≤ (hI h (V 11) 8).toInt
theorem cel_d {c s t : Nat} (hs : s < 64) (ht : t < 64) : celN c s t / 4096 = c ∧ celN c s t / 64 % 64 = s ∧ celN c s t % 64 = t := by unfold celN; omega
/-- the cell's place is written -/
theorem s30_w (D : VD V) {h : Hp} {N : Nat} {x : Int32} (S : S30 L V h N) (ex : x.toNatClampNeg = N) : S30 L V (wI h (V 50) x.toNatClampNeg (hI h (V 11) 8)) N ∧ rowN (wI h (V 50) x.toNatClampNeg (hI h (V 11) 8)) (V 50) N = cntN V h ∧ 0 ≤ (hI (wI h (V 50) x.toNatClampNeg (hI h (V 11) 8)) (V 50) N).toInt ∧ cntN V (wI h (V 50) x.toNatClampNeg (hI h (V 11) 8)) = cntN V h := by
  obtain ⟨⟨W, P, wc⟩, LA, LB, c0⟩ := S
  rw [ex]
  have A : FrV V (wl wlL) h (wI h (V 50) N (hI h (V 11) 8)) := fv_w (wl_9 (by decide))
  have cn : cntN V (wI h (V 50) N (hI h (V 11) 8)) = cntN V h := by unfold cntN; rw [rI_a (vne D)]
  refine ⟨⟨⟨wlf_f W A, clw_w D P A, wcf_f wc A⟩, ?_, lb_k LB (fun _ => rfl) (fun _ => rfl), by rw [rI_a (vne D)]; exact c0⟩, by unfold rowN; rw [rI_s]; rfl, by rw [rI_s]; exact c0, cn⟩
  rw [cn]
  exact la_k LA (fun y hy => rI_o (by omega)) (fun w _ => rI_a (vne D)) (fun w _ => rfl)
theorem lfy_30 (D : VD V) {x1 x2 x5 : Int32} {x3 : Int64} {c s B : Nat} (H : LOk L) (i1 : x1.toInt = (c : Int)) (cL : (c : Int) < 2 * L 2 0) (i2 : x2.toInt = (s : Int)) (sL : (s : Int) < L 0 0 * L 1 0) (i5 : x5.toInt = ((c / 2 : Nat) : Int)) (hB : B ≤ 112 * 1535) (bits : ∀ t, t < 64 → (bitJ x3 t = true ↔ ∃ (i : Nat) (k : Int), (i : Int) < L 74 (c / 2) ∧ RchL L (8 * (c / 2) + i) ((c % 2 : Nat) : Int) s t k)) : ∀ (f : Nat) {h : Hp} {x6 : Int32} {T : Nat}, x6.toInt = (T : Int) → T ≤ 64 → S30 L V h (celN c s T) → Tst L V (c / 2) ((c % 2 : Nat) : Int) s T 0 h → cntN V h ≤ B + nW L (c / 2) ((c % 2 : Nat) : Int) s T 0 (L 74 (c / 2)).toNat → sX10_layFrom_30 F f h (V 11) x1 x2 x3 x5 x6 = some o → S30 L V o (celN c s 64) ∧ Tz V o ∧ cntN V o ≤ B + 112 := by
  have z1 : (1 : Int32).toInt = 1 := rfl
  have z64 : (64 : Int32).toInt = 64 := rfl
  have sq := sq_64 H
  have L2 := H.2.2.1
  have mL : ((c / 2 : Nat) : Int) < L 2 0 := by omega
  obtain ⟨H74, Hst⟩ := H.2.2.2 _ mL
  intro f
  induction f with
  | zero => intro h x6 T _ _ _ _ _ e; exact absurd e (by rw [sX10_layFrom_30]; exact fun z => nomatch z)
  | succ f ih =>
    intro h x6 T i6 bT S TS cB e
    rw [sX10_layFrom_30] at e
    rcases br_s e with ⟨l, e⟩ | ⟨l, e⟩
    · have l := le_i l
      rw [z64] at l
      have T64 : T = 64 := by omega
      rw [so_e e]
      rw [T64] at S TS cB
      refine ⟨S, fun x hx => ?_, ?_⟩
      · have := (TS (x / 8) (x % 8) (by omega) (by omega)).1 (Or.inl (by omega))
        rw [show x / 8 * 8 + x % 8 = x by omega] at this
        exact this
      · have := nw_le (sd := ((c % 2 : Nat) : Int)) (s := s) (T := 64) (i := 0) H Hst sL (L 74 (c / 2)).toNat (by omega)
        omega
    have l := nle_i l
    rw [z64] at l
    have hT : T < 64 := by omega
    obtain ⟨dc, ds, dt⟩ := cel_d (c := c) (s := s) (t := T) (by omega) hT
    have wc := S.1.2.2
    replace e := ce_e wc.1 e
    unfold sX10_cell at e
    replace e := cl_s e; obtain ⟨o3, eo3, e⟩ := e
    rw [so_e eo3] at e
    have m1 : (x1 * (64 : Int32)).toInt = x1.toInt * 64 := by rw [tm (by rw [z64]; omega), z64]
    have a1 : ((x1 * (64 : Int32)) + x2).toInt = x1.toInt * 64 + x2.toInt := by rw [ta (by rw [m1]; omega), m1]
    have m2 : (((x1 * (64 : Int32)) + x2) * (64 : Int32)).toInt = (x1.toInt * 64 + x2.toInt) * 64 := by rw [tm (by rw [a1, z64]; omega), a1, z64]
    have a2 : ((((x1 * (64 : Int32)) + x2) * (64 : Int32)) + x6).toInt = (x1.toInt * 64 + x2.toInt) * 64 + x6.toInt := by rw [ta (by rw [m2]; omega), m2]
    have ix : ((((x1 * (64 : Int32)) + x2) * (64 : Int32)) + x6).toNatClampNeg = celN c s T := by
      have := nc_i (x := (((x1 * (64 : Int32)) + x2) * (64 : Int32)) + x6) (by omega)
      unfold celN
      omega
    replace e := gg_e e
    replace e := nm_s e; obtain ⟨h5, u5, e⟩ := e
    dsimp only at u5
    obtain ⟨S5, r5, p5, c5⟩ := s30_w D S ix
    rw [← u5] at S5 r5 p5 c5
    have TS5 : Tst L V (c / 2) ((c % 2 : Nat) : Int) s T 0 h5 := fun t i ht hi => by
      rw [u5, rI_a (vne D)]
      exact TS t i ht hi
    have t6 : (x6 + (1 : Int32)).toInt = ((T + 1 : Nat) : Int) := by rw [ta (by rw [z1]; omega), z1]; omega
    have cs : celN c s (T + 1) = celN c s T + 1 := by unfold celN; omega
    have i6' : Rg 0 63 x6 := ⟨by omega, by omega⟩
    have n6 : x6.toNatClampNeg = T := by have := nc_i i6'.1; omega
    rcases br_s e with ⟨bz, e⟩ | ⟨bz, e⟩
    · -- nobody comes there
      have b0 : bitJ x3 T = false := by
        have := congrArg (fun y => bitJ y 0) (cmp_eq bz)
        try dsimp only at this
        rw [bj_and, ush_bit i6', n6, bj_zero] at this
        have one : bitJ (1 : Int64) 0 = true := by decide
        rw [one, Bool.and_true] at this
        exact this
      have no : ∀ (n : Nat) (k : Int), (n : Int) < L 74 (c / 2) → ¬ RchL L (8 * (c / 2) + n) ((c % 2 : Nat) : Int) s T k := fun n k hn z => by
        rw [(bits T hT).mpr ⟨n, k, hn, z⟩] at b0
        exact absurd b0 (by decide)
      unfold sX10_layFrom_154 at e
      obtain ⟨w5, LA5, LB5, p0⟩ := S5
      refine ih (T := T + 1) t6 (by omega) ⟨w5, ?_, ?_, p0⟩ (fun t i ht hi => ?_) ?_ (nx_e e)
      · rw [cs]
        refine la_s LA5 (by rw [r5, c5]) p5 (Nat.le_refl _) (fun _ => ?_)
        rw [dc, ds, dt]
        exact ⟨Nat.le_refl _, fun _ => 0, fun w x y => by omega, fun w w' x y z => by omega, fun i k x y => absurd y (no i k x)⟩
      · rw [cs]
        refine lb_s (lb_all (by omega) hT LB5 no (L 74 (c / 2)).toNat) (fun c' s' t' _ hs' ht' z _ => ?_)
        have : c' = c := by unfold celN at z; omega
        rw [this]; omega
      · obtain ⟨p, q⟩ := TS5 t i ht hi
        by_cases y : t = T
        · refine ⟨fun _ => ?_, fun z => absurd (Or.inl (by omega)) z⟩
          obtain ⟨q1, q2⟩ := q (by omega)
          by_cases y' : (i : Int) < L 74 (c / 2)
          · rcases q1 y' with ⟨w, _⟩ | w
            · exact Int32.toInt_inj.mp (by rw [w]; rfl)
            · rw [y] at w
              exact absurd w (no i _ y')
          · exact q2 (by omega)
        · exact ⟨fun z => p (by omega), fun z => q (by omega)⟩
      · rw [c5]
        have := nw_m (L := L) (m := c / 2) (T := T) (sd := ((c % 2 : Nat) : Int)) (s := s) (L 74 (c / 2)).toNat
        omega
    · obtain ⟨w5, LA5, LB5, p0⟩ := S5
      rw [c5] at LA5
      obtain ⟨g, Sg, e⟩ := lf_70 D H i1 cL i2 sL i6 hT i5 hB F (I := 0) rfl (by omega) ⟨w5, ⟨LA5, r5, p5⟩, LB5, by rw [c5]; exact cp_0, TS5, p0, by rw [c5]; exact cB⟩ e
      obtain ⟨wg, ⟨LAg, rg, pg⟩, LBg, CPg, TSg, p0g, cBg⟩ := Sg
      unfold sX10_layFrom_154 at e
      refine ih (T := T + 1) t6 (by omega) ⟨wg, ?_, ?_, p0g⟩ (fun t i ht hi => ?_) ?_ (nx_e e)
      · rw [cs]
        refine la_s LAg rg pg CPg.1 (fun _ => ?_)
        rw [dc, ds, dt]
        exact cp_w CPg (by omega)
      · rw [cs]
        refine lb_s LBg (fun c' s' t' _ hs' ht' z _ => ?_)
        have : c' = c := by unfold celN at z; omega
        rw [this]; omega
      · obtain ⟨p, q⟩ := TSg t i ht hi
        by_cases y : t = T
        · refine ⟨fun _ => ?_, fun z => absurd (Or.inl (by omega)) z⟩
          by_cases y' : i < (L 74 (c / 2)).toNat
          · exact p (Or.inr ⟨y, y'⟩)
          · exact (q (by omega)).2 (by omega)
        · exact ⟨fun z => p (by omega), fun z => q (by omega)⟩
      · rw [← nw_t (i := (L 74 (c / 2)).toNat) _ (Nat.le_refl _)]
        exact cBg
/-- from squares beyond the board -/
theorem lf_z (D : VD V) {x1 x2 x5 : Int32} {c s : Nat} (H : LOk L) (i1 : x1.toInt = (c : Int)) (cL : (c : Int) < 2 * L 2 0) (i2 : x2.toInt = (s : Int)) (s64 : s < 64) (sL : ¬ (s : Int) < L 0 0 * L 1 0) : ∀ (f : Nat) {h : Hp} {x6 : Int32} {T : Nat}, x6.toInt = (T : Int) → T ≤ 64 → S30 L V h (celN c s T) → Tz V h → sX10_layFrom_30 F f h (V 11) x1 x2 (0 : Int64) x5 x6 = some o → S30 L V o (celN c s 64) ∧ Tz V o ∧ cntN V o = cntN V h := by
  have z1 : (1 : Int32).toInt = 1 := rfl
  have z64 : (64 : Int32).toInt = 64 := rfl
  have L2 := H.2.2.1
  intro f
  induction f with
  | zero => intro h x6 T _ _ _ _ e; exact absurd e (by rw [sX10_layFrom_30]; exact fun z => nomatch z)
  | succ f ih =>
    intro h x6 T i6 bT S TS e
    rw [sX10_layFrom_30] at e
    rcases br_s e with ⟨l, e⟩ | ⟨l, e⟩
    · have l := le_i l
      rw [z64] at l
      have T64 : T = 64 := by omega
      rw [so_e e]
      rw [T64] at S
      exact ⟨S, TS, rfl⟩
    have l := nle_i l
    rw [z64] at l
    have hT : T < 64 := by omega
    obtain ⟨dc, ds, dt⟩ := cel_d (c := c) (s := s) (t := T) s64 hT
    have wc := S.1.2.2
    replace e := ce_e wc.1 e
    unfold sX10_cell at e
    replace e := cl_s e; obtain ⟨o3, eo3, e⟩ := e
    rw [so_e eo3] at e
    have m1 : (x1 * (64 : Int32)).toInt = x1.toInt * 64 := by rw [tm (by rw [z64]; omega), z64]
    have a1 : ((x1 * (64 : Int32)) + x2).toInt = x1.toInt * 64 + x2.toInt := by rw [ta (by rw [m1]; omega), m1]
    have m2 : (((x1 * (64 : Int32)) + x2) * (64 : Int32)).toInt = (x1.toInt * 64 + x2.toInt) * 64 := by rw [tm (by rw [a1, z64]; omega), a1, z64]
    have a2 : ((((x1 * (64 : Int32)) + x2) * (64 : Int32)) + x6).toInt = (x1.toInt * 64 + x2.toInt) * 64 + x6.toInt := by rw [ta (by rw [m2]; omega), m2]
    have ix : ((((x1 * (64 : Int32)) + x2) * (64 : Int32)) + x6).toNatClampNeg = celN c s T := by
      have := nc_i (x := (((x1 * (64 : Int32)) + x2) * (64 : Int32)) + x6) (by omega)
      unfold celN
      omega
    replace e := gg_e e
    replace e := nm_s e; obtain ⟨h5, u5, e⟩ := e
    dsimp only at u5
    obtain ⟨S5, r5, p5, c5⟩ := s30_w D S ix
    rw [← u5] at S5 r5 p5 c5
    have t6 : (x6 + (1 : Int32)).toInt = ((T + 1 : Nat) : Int) := by rw [ta (by rw [z1]; omega), z1]; omega
    have cs : celN c s (T + 1) = celN c s T + 1 := by unfold celN; omega
    have i6' : Rg 0 63 x6 := ⟨by omega, by omega⟩
    have bz : lg_cmp ((((0 : Int64).toUInt64 >>> (x6.toInt64.toUInt64 &&& Int64.toUInt64 63)).toInt64) &&& (1 : Int64)) (0 : Int64) = 0 := by
      have zz : ((((0 : Int64).toUInt64 >>> (x6.toInt64.toUInt64 &&& Int64.toUInt64 63)).toInt64) &&& (1 : Int64)) = 0 := j_zero.mpr (fun q hq => by
        rw [bj_and]
        by_cases y : q = 0
        · rw [y, ush_bit i6', bj_zero]; rfl
        · have : bitJ (1 : Int64) q = false := by
            have all : ∀ q : Fin 64, ¬ q.val = 0 → bitJ (1 : Int64) q.val = false := by decide
            exact all ⟨q, hq⟩ y
          rw [this, Bool.and_false])
      rw [zz]; decide
    replace e := bp_e bz e
    unfold sX10_layFrom_154 at e
    obtain ⟨w5, LA5, LB5, p0⟩ := S5
    have r := ih (T := T + 1) t6 (by omega) (h := h5) ⟨w5, by
      rw [cs]
      exact la_s LA5 (by rw [r5, c5]) p5 (Nat.le_refl _) (fun y => by rw [ds] at y; exact absurd y sL), by
      rw [cs]
      refine lb_s LB5 (fun c' s' t' _ hs' ht' z y => ?_)
      have : s' = s := by unfold celN at z; omega
      rw [this] at y
      exact absurd y sL, p0⟩ (fun x hx => by rw [u5, rI_a (vne D)]; exact TS x hx) (nx_e e)
    exact ⟨r.1, r.2.1, by rw [r.2.2, c5]⟩
theorem lf_q (D : VD V) {h : Hp} {x1 x2 : Int32} {c s : Nat} (H : LOk L) (i1 : x1.toInt = (c : Int)) (cL : (c : Int) < 2 * L 2 0) (i2 : x2.toInt = (s : Int)) (s64 : s < 64) (S : S30 L V h (celN c s 0)) (TZ : Tz V h) (cB : cntN V h ≤ 112 * (c * 64 + s)) (e : sX10_layFrom F h (V 11) x1 x2 = some o) : S30 L V o (celN c s 64) ∧ Tz V o ∧ cntN V o ≤ 112 * (c * 64 + s + 1) := by
  have L2 := H.2.2.1
  have sq := sq_64 H
  have mL : ((c / 2 : Nat) : Int) < L 2 0 := by omega
  obtain ⟨H74, Hst⟩ := H.2.2.2 _ mL
  have i5 : (x1 >>> ((1 : Int32) &&& 31)).toInt = ((c / 2 : Nat) : Int) := by
    have : (x1 >>> ((1 : Int32) &&& 31)).toInt = x1.toInt / 2 := shr_i 1 (by decide)
    rw [this, i1]; omega
  have sdE : x1.toInt % 2 = ((c % 2 : Nat) : Int) := by rw [i1]; omega
  have c2 : x2.toNatClampNeg = s := by have := nc_i (x := x2) (by omega); omega
  unfold sX10_layFrom sX10_layFrom_21 at e
  have W := S.1.1
  have P := S.1.2.1
  replace e := ce_e W.2.1 e
  rcases br_s e with ⟨l, e⟩ | ⟨l, e⟩
  · have l := le_i l
    rw [P.2.2.1, i2] at l
    obtain ⟨r1, r2, r3⟩ := lf_z D H i1 cL i2 s64 (by omega) F (T := 0) rfl (by decide) S TZ (nx_e e)
    exact ⟨r1, r2, by omega⟩
  · have l := nle_i l
    rw [P.2.2.1, i2] at l
    replace e := cl_s e; obtain ⟨o3, eo3, e⟩ := e
    unfold sX10_reach at eo3
    have n0 : (0 : Int32).toNatClampNeg = 0 := rfl
    obtain ⟨r1, r2, r3⟩ := rc_10 (m := c / 2) D H (by omega) (by omega) (by omega) mL i5 F W P (x6 := 0) (by decide) (by
      have : (0 : Int32).toInt = 0 := rfl
      omega) (fun t i ht hi => ⟨fun z => by rw [n0] at z; omega, fun _ => TZ _ (by omega)⟩) (fun t ht => ⟨fun z => by rw [bj_zero] at z; exact absurd z (by decide), fun ⟨i, k, z, _⟩ => by rw [n0] at z; omega⟩) (nx_e eo3)
    rw [sdE, c2] at r2 r3
    have A : FrV V (wl wlL) h o3.2 := sub_l r1 (by decide)
    obtain ⟨w5, LA, LB, p0⟩ := S
    have cn : cntN V o3.2 = cntN V h := by unfold cntN; rw [fvi D r1 11 8]
    refine lfy_30 D H i1 cL i2 l i5 (B := 112 * (c * 64 + s)) (by omega) r3 F (T := 0) rfl (by decide) ⟨⟨wlf_f W A, clw_w D P A, wcf_f w5.2.2 A⟩, ?_, lb_k LB (fun x => fvJ D r1 53 x) (fun x => fvJ D r1 54 x), by rw [fvi D r1 11 8]; exact p0⟩ (fun t i ht hi => ⟨fun z => by omega, fun _ => ⟨fun z => (r2 t i ht hi).1 (by omega), fun z => (r2 t i ht hi).2 (by omega)⟩⟩) (by rw [cn]; omega) (nx_e e)
    rw [cn]
    exact la_k LA (fun x _ => fvI D r1 50 x) (fun w _ => fvI D r1 51 w) (fun w _ => fvJ D r1 52 w)
end
end
section
/-! the class: lay -/
def AroT (L : Nat → Nat → Int) (V : Nat → Nat) (h : Hp) : Prop := ∀ s q : Nat, (s : Int) < L 0 0 * L 1 0 → q < 64 → (bitJ (hJ h (V 55) s) q = true ↔ ¬ q = s ∧ (q : Int) < L 0 0 * L 1 0 ∧ (-1 ≤ (q : Int) % L 0 0 - (s : Int) % L 0 0 ∧ (q : Int) % L 0 0 - (s : Int) % L 0 0 ≤ 1) ∧ (-1 ≤ (q : Int) / L 0 0 - (s : Int) / L 0 0 ∧ (q : Int) / L 0 0 - (s : Int) / L 0 0 ≤ 1))
section
variable {F : Nat} {V : Nat → Nat} {L : Nat → Nat → Int} {o : Hp}
theorem ly_43 (D : VD V) {K : Hp → Nat → Int32 → Option Hp} {x2 : Int32} {c : Nat} (H : LOk L) (i2 : x2.toInt = (c : Int)) (cL : (c : Int) < 2 * L 2 0) : ∀ (f : Nat) {h : Hp} {x3 : Int32} {s : Nat}, x3.toInt = (s : Int) → s ≤ 64 → S30 L V h (celN c s 0) → Tz V h → cntN V h ≤ 112 * (c * 64 + s) → sX10_lay_43 F K f h (V 11) x2 x3 = some o → ∃ g, S30 L V g (celN (c + 1) 0 0) ∧ Tz V g ∧ cntN V g ≤ 112 * ((c + 1) * 64) ∧ K g (V 11) (x2 + (1 : Int32)) = some o := by
  have z1 : (1 : Int32).toInt = 1 := rfl
  have z64 : (64 : Int32).toInt = 64 := rfl
  intro f
  induction f with
  | zero => intro h x3 s _ _ _ _ _ e; exact absurd e (by rw [sX10_lay_43]; exact fun z => nomatch z)
  | succ f ih =>
    intro h x3 s i3 bs S TZ cB e
    rw [sX10_lay_43] at e
    rcases br_s e with ⟨l, e⟩ | ⟨l, e⟩
    · have l := le_i l
      rw [z64] at l
      have s64 : s = 64 := by omega
      have cc : celN c s 0 = celN (c + 1) 0 0 := by unfold celN; omega
      rw [cc] at S
      exact ⟨h, S, TZ, by omega, nx_e e⟩
    have l := nle_i l
    rw [z64] at l
    replace e := cl_s e; obtain ⟨h3, eh3, e⟩ := e
    obtain ⟨r1, r2, r3⟩ := lf_q D H i2 cL i3 (by omega) S TZ cB eh3
    have cc : celN c s 64 = celN c (s + 1) 0 := by unfold celN; omega
    rw [cc] at r1
    exact ih (s := s + 1) (by rw [ta (by rw [z1]; omega), z1]; omega) (by omega) r1 r2 (by omega) (nx_e e)
/-- the table is whole -/
theorem lay_t {h : Hp} {n : Nat} (H : LOk L) (en : (n : Int) = 2 * L 2 0) (LA : LayA L V h (n * 4096) (cntN V h)) (LB : LayB L V h (n * 4096) 0) (eN : rowN h (V 50) (n * 4096) = cntN V h) (p0 : 0 ≤ (hI h (V 50) (n * 4096)).toInt) : WyT L V h := fun c s t hc hs ht => by
  have sq := sq_64 H
  have s64 : s < 64 := by omega
  have lt : celN c s t < n * 4096 := by unfold celN; omega
  obtain ⟨dc, ds, dt⟩ := cel_d (c := c) (s := s) (t := t) s64 ht
  obtain ⟨nn, _, _, w⟩ := LA _ lt
  rw [dc, ds, dt] at w
  have fs : fstA V h (n * 4096) (cntN V h) (celN c s t + 1) = rowN h (V 50) (celN c s t + 1) ∧ 0 ≤ (hI h (V 50) (celN c s t + 1)).toInt := by
    unfold fstA
    by_cases y : celN c s t + 1 < n * 4096
    · rw [if_pos y]
      exact ⟨rfl, (LA _ y).1⟩
    · rw [if_neg y, show celN c s t + 1 = n * 4096 by omega, eN]
      exact ⟨rfl, p0⟩
  rw [fs.1] at w
  obtain ⟨b1, b2⟩ := LB c s t hc s64 ht
  refine ⟨⟨nn, fs.2⟩, w hs, ?_, ?_⟩
  · rw [b1]
    exact ⟨fun ⟨_, i, k, _, x, y⟩ => ⟨i, k, x, y⟩, fun ⟨i, k, x, y⟩ => ⟨hs, i, k, Or.inl lt, x, y⟩⟩
  · rw [b2]
    exact ⟨fun ⟨_, i, k, _, x, y⟩ => ⟨i, k, x, y⟩, fun ⟨i, k, x, y⟩ => ⟨hs, i, k, Or.inl lt, x, y⟩⟩
theorem wyt_k {h h' : Hp} (T : WyT L V h) (a : ∀ x, hI h' (V 50) x = hI h (V 50) x) (b : ∀ x, hI h' (V 51) x = hI h (V 51) x) (c : ∀ x, hJ h' (V 52) x = hJ h (V 52) x) (d : ∀ x, hJ h' (V 53) x = hJ h (V 53) x) (g : ∀ x, hJ h' (V 54) x = hJ h (V 54) x) : WyT L V h' := fun c' s t hc hs ht => by
  obtain ⟨n, w, p, q⟩ := T c' s t hc hs ht
  have r : ∀ x, rowN h' (V 50) x = rowN h (V 50) x := fun x => by unfold rowN; rw [a]
  rw [r, r, d, g, a, a]
  exact ⟨n, cw_k w (fun w _ => b w) (fun w _ => c w), p, q⟩
/-- over all codes -/
theorem ly_28 (D : VD V) (H : LOk L) : ∀ (f : Nat) {h : Hp} {x2 : Int32} {c : Nat}, x2.toInt = (c : Int) → (c : Int) ≤ 2 * L 2 0 → S30 L V h (celN c 0 0) → Tz V h → cntN V h ≤ 112 * (c * 64) → sX10_lay_28 F f h (V 11) x2 = some o → ∃ g, (WLf V g ∧ CLq V g L ∧ WCf V g) ∧ WyT L V g ∧ Tz V g ∧ sX10_layAround F g (V 11) = some o := by
  have z1 : (1 : Int32).toInt = 1 := rfl
  have z2 : (2 : Int32).toInt = 2 := rfl
  have z64 : (64 : Int32).toInt = 64 := rfl
  have L2 := H.2.2.1
  intro f
  induction f with
  | zero => intro h x2 c _ _ _ _ _ e; exact absurd e (by rw [sX10_lay_28]; exact fun z => nomatch z)
  | succ f ih =>
    intro h x2 c i2 bc S TZ cB e
    rw [sX10_lay_28] at e
    have W := S.1.1
    have P := S.1.2.1
    have wc := S.1.2.2
    have m2 : ((2 : Int32) * (hI h (V 2) 3)).toInt = 2 * L 2 0 := by rw [tm (by rw [z2, P.2.2.2.1]; omega), z2, P.2.2.2.1]
    replace e := ce_e W.2.1 e
    rcases br_s e with ⟨l, e⟩ | ⟨l, e⟩
    · have l := le_i l
      rw [m2, i2] at l
      have ec : (c : Int) = 2 * L 2 0 := by omega
      replace e := ce_e wc.1 e
      replace e := ce_e W.2.1 e
      replace e := gg_e e
      have m3 : (((2 : Int32) * (hI h (V 2) 3)) * (64 : Int32)).toInt = 2 * L 2 0 * 64 := by rw [tm (by rw [m2, z64]; omega), m2, z64]
      have m4 : ((((2 : Int32) * (hI h (V 2) 3)) * (64 : Int32)) * (64 : Int32)).toInt = 2 * L 2 0 * 64 * 64 := by rw [tm (by rw [m3, z64]; omega), m3, z64]
      have ix : ((((2 : Int32) * (hI h (V 2) 3)) * (64 : Int32)) * (64 : Int32)).toNatClampNeg = c * 4096 := by
        have := nc_i (x := (((2 : Int32) * (hI h (V 2) 3)) * (64 : Int32)) * (64 : Int32)) (by omega)
        omega
      replace e := nm_s e; obtain ⟨h6, u6, e⟩ := e
      have cN : celN c 0 0 = c * 4096 := by unfold celN; omega
      rw [cN] at S
      obtain ⟨S6, r6, p6, c6⟩ := s30_w D S ix
      rw [← u6] at S6 r6 p6 c6
      replace e := cl_s e; obtain ⟨o7, eo7, e⟩ := e
      refine ⟨h6, S6.1, lay_t H ec S6.2.1 S6.2.2.1 (by rw [r6, c6]) p6, fun x hx => by rw [u6, rI_a (vne D)]; exact TZ x hx, ?_⟩
      rw [eo7, so_e e]
    · have l := nle_i l
      rw [m2, i2] at l
      obtain ⟨g, Sg, TZg, cBg, e⟩ := ly_43 D H i2 l F (s := 0) rfl (by decide) S TZ (by omega) e
      exact ih (c := c + 1) (by rw [ta (by rw [z1]; omega), z1]; omega) (by omega) Sg TZg (by omega) e
/-- the nine squares around one -/
theorem ar_18 (D : VD V) {K : Hp → Nat → Int32 → Option Hp} {x1 : Int32} {s : Nat} (H : LOk L) (i1 : x1.toInt = (s : Int)) (sL : (s : Int) < L 0 0 * L 1 0) {h : Hp} (W : WLf V h) (w5 : hR h (V 11) 5 = some (V 55)) (P : CLq V h L) : ∀ (f : Nat) {x2 : Int64} {x4 : Int32} {n : Nat}, x4.toInt = (n : Int) → n ≤ 9 → (∀ q : Nat, q < 64 → (bitJ x2 q = true ↔ ∃ i : Nat, i < n ∧ ¬ i = 4 ∧ onK (L 0 0) (L 1 0) s ((i : Int) % 3 - 1) ((i : Int) / 3 - 1) 1 ∧ (q : Int) = tgt (L 0 0) s ((i : Int) % 3 - 1) ((i : Int) / 3 - 1) 1)) → sX10_layAround_18 F K f h (V 11) x1 x2 x4 = some o → ∃ y : Int64, (∀ q : Nat, q < 64 → (bitJ y q = true ↔ ∃ i : Nat, i < 9 ∧ ¬ i = 4 ∧ onK (L 0 0) (L 1 0) s ((i : Int) % 3 - 1) ((i : Int) / 3 - 1) 1 ∧ (q : Int) = tgt (L 0 0) s ((i : Int) % 3 - 1) ((i : Int) / 3 - 1) 1)) ∧ K (wJ h (V 55) x1.toNatClampNeg y) (V 11) (x1 + (1 : Int32)) = some o := by
  have z1 : (1 : Int32).toInt = 1 := rfl
  have z9 : (9 : Int32).toInt = 9 := rfl
  have sq := sq_64 H
  have fi := H.1
  have ra := H.2.1
  have c1 : x1.toNatClampNeg = s := by have := nc_i (x := x1) (by omega); omega
  have ff := P.2.2.2.2.2 s sL
  have m0 : 0 ≤ (s : Int) % L 0 0 := Int.emod_nonneg _ (by omega)
  have m1 : (s : Int) % L 0 0 < L 0 0 := Int.emod_lt_of_pos _ (by omega)
  have d0 : 0 ≤ (s : Int) / L 0 0 := Int.ediv_nonneg (by omega) (by omega)
  have d1 : (s : Int) / L 0 0 < L 1 0 := Int.ediv_lt_of_lt_mul (by omega) (by rw [Int.mul_comm]; exact sL)
  intro f
  induction f with
  | zero => intro x2 x4 n _ _ _ e; exact absurd e (by rw [sX10_layAround_18]; exact fun z => nomatch z)
  | succ f ih =>
    intro x2 x4 n i4 bn bits e
    rw [sX10_layAround_18] at e
    rcases br_s e with ⟨l, e⟩ | ⟨l, e⟩
    · have l := le_i l
      rw [z9] at l
      replace e := ce_e w5 e
      replace e := gg_e e
      replace e := nx_e e
      replace e := nx_e e
      rw [show n = 9 by omega] at bits
      exact ⟨x2, bits, e⟩
    have l := nle_i l
    rw [z9] at l
    have n9 : n < 9 := by omega
    replace e := ce_e W.2.1 e
    replace e := ce_e W.2.2.2.2.1 e
    replace e := gg_e e
    replace e := nm_s e; obtain ⟨v9, u9, e⟩ := e
    replace e := ce_e W.2.1 e
    replace e := ce_e W.2.2.2.2.2 e
    replace e := gg_e e
    replace e := nm_s e; obtain ⟨v13, u13, e⟩ := e
    have i49 : Rg 0 8 x4 := ⟨by omega, by omega⟩
    have r3 : Rg 3 3 (3 : Int32) := ⟨by decide, by decide⟩
    have t3 := tr i49 r3 ⟨by decide, by decide⟩
    have q3 := td i49 r3 ⟨by decide, by decide⟩
    have z3 : (3 : Int32).toInt = 3 := rfl
    rw [z3, i4] at t3 q3
    have t9 : v9.toInt = (s : Int) % L 0 0 + ((n : Int) % 3 - 1) := by
      rw [c1] at u9
      have a : ((hI h (V 32) s) + (x4 - x4 / (3 : Int32) * (3 : Int32))).toInt = (s : Int) % L 0 0 + (n : Int) % 3 := by rw [ta (by rw [ff.1, t3]; omega), ff.1, t3]
      rw [u9, ts (by rw [a, z1]; omega), a, z1]; omega
    have t13 : v13.toInt = (s : Int) / L 0 0 + ((n : Int) / 3 - 1) := by
      rw [c1] at u13
      have a : ((hI h (V 33) s) + (x4 / (3 : Int32))).toInt = (s : Int) / L 0 0 + (n : Int) / 3 := by rw [ta (by rw [ff.2, q3]; omega), ff.2, q3]
      rw [u13, ts (by rw [a, z1]; omega), a, z1]; omega
    have t4 : (x4 + (1 : Int32)).toInt = ((n + 1 : Nat) : Int) := by rw [ta (by rw [z1]; omega), z1]; omega
    unfold sX10_layAround_96 at e
    have skip : ∀ {g : Hp}, g = h → (¬ (¬ n = 4 ∧ onK (L 0 0) (L 1 0) s ((n : Int) % 3 - 1) ((n : Int) / 3 - 1) 1)) → (nm (x4 + (1 : Int32)) fun v_1 => sX10_layAround_18 F K f g (V 11) x1 x2 v_1) = some o → ∃ y : Int64, (∀ q : Nat, q < 64 → (bitJ y q = true ↔ ∃ i : Nat, i < 9 ∧ ¬ i = 4 ∧ onK (L 0 0) (L 1 0) s ((i : Int) % 3 - 1) ((i : Int) / 3 - 1) 1 ∧ (q : Int) = tgt (L 0 0) s ((i : Int) % 3 - 1) ((i : Int) / 3 - 1) 1)) ∧ K (wJ h (V 55) x1.toNatClampNeg y) (V 11) (x1 + (1 : Int32)) = some o := fun {g} eg no u => by
      rw [eg] at u
      refine ih (n := n + 1) t4 (by omega) (fun q hq => ?_) (nx_e u)
      rw [bits q hq]
      constructor
      · rintro ⟨i, a, b⟩
        exact ⟨i, by omega, b⟩
      · rintro ⟨i, a, b, c, d⟩
        by_cases y : i = n
        · rw [y] at b c
          exact absurd ⟨b, c⟩ no
        · exact ⟨i, by omega, b, c, d⟩
    have e4 : x4 = (4 : Int32) ↔ n = 4 := by
      rw [← Int32.toInt_inj, i4]
      show (n : Int) = 4 ↔ _
      omega
    rcases br_s e with ⟨c, e⟩ | ⟨c, e⟩
    · exact skip rfl (fun z => z.1 (e4.mp c)) e
    replace e := cl_s e; obtain ⟨o15, eo15, e⟩ := e
    obtain ⟨w15, on15⟩ := ison_v W.2.1 P eo15
    have onE : (0 ≤ v9.toInt ∧ v9.toInt < L 0 0 ∧ 0 ≤ v13.toInt ∧ v13.toInt < L 1 0) ↔ onK (L 0 0) (L 1 0) s ((n : Int) % 3 - 1) ((n : Int) / 3 - 1) 1 := by
      unfold onK
      rw [t9, t13, Int.one_mul, Int.one_mul]
    rcases br_s e with ⟨d, e⟩ | ⟨d, e⟩
    · refine skip w15 (fun z => ?_) e
      rcases on15 with ⟨_, y⟩ | ⟨y, _⟩
      · exact y (onE.mpr z.2)
      · rw [y] at d; exact absurd d (by decide)
    have on : onK (L 0 0) (L 1 0) s ((n : Int) % 3 - 1) ((n : Int) / 3 - 1) 1 := by
      rcases on15 with ⟨y, _⟩ | ⟨_, y⟩
      · exact absurd y d
      · exact onE.mp y
    rw [w15] at e
    replace e := ce_e W.2.1 e
    replace e := nm_s e; obtain ⟨v18, u18, e⟩ := e
    obtain ⟨p0, p1, _⟩ := tgt_on (show 0 < L 0 0 by omega) on
    have ons := on
    obtain ⟨b0, b1, b2, b3⟩ := ons
    rw [Int.one_mul] at b0 b1 b2 b3
    have bm := mb (n := 8) (m := 8) (k := v13.toInt) (d := (hI h (V 2) 0).toInt) ⟨by omega, by omega⟩ ⟨by rw [P.1]; omega, by rw [P.1]; omega⟩ (by decide)
    have m5 : (v13 * (hI h (V 2) 0)).toInt = v13.toInt * L 0 0 := by rw [tm (by omega), P.1]
    have t5 : ((v13 * (hI h (V 2) 0)) + v9).toInt = tgt (L 0 0) s ((n : Int) % 3 - 1) ((n : Int) / 3 - 1) 1 := by
      rw [ta (by rw [m5]; rw [P.1] at bm; omega), m5, t9, t13]
      unfold tgt
      rw [Int.one_mul, Int.one_mul]
    have i5 : Rg 0 63 ((v13 * (hI h (V 2) 0)) + v9) := ⟨by omega, by omega⟩
    have c5 := nc_i i5.1
    refine ih (n := n + 1) t4 (by omega) (fun q hq => ?_) (nx_e e)
    rw [u18, bj_or, Bool.or_eq_true, bits q hq, bj_one i5, decide_eq_true_eq]
    constructor
    · rintro (⟨i, a, b⟩ | z)
      · exact ⟨i, by omega, b⟩
      · exact ⟨n, by omega, fun z' => c (e4.mpr z'), on, by omega⟩
    · rintro ⟨i, a, b, g, z⟩
      by_cases y : i = n
      · rw [y] at z
        exact Or.inr (by omega)
      · exact Or.inl ⟨i, by omega, b, g, z⟩
theorem ar_e (H : LOk L) {s q : Nat} (sL : (s : Int) < L 0 0 * L 1 0) (hq : q < 64) : (∃ i : Nat, i < 9 ∧ ¬ i = 4 ∧ onK (L 0 0) (L 1 0) s ((i : Int) % 3 - 1) ((i : Int) / 3 - 1) 1 ∧ (q : Int) = tgt (L 0 0) s ((i : Int) % 3 - 1) ((i : Int) / 3 - 1) 1) ↔ ¬ q = s ∧ (q : Int) < L 0 0 * L 1 0 ∧ (-1 ≤ (q : Int) % L 0 0 - (s : Int) % L 0 0 ∧ (q : Int) % L 0 0 - (s : Int) % L 0 0 ≤ 1) ∧ (-1 ≤ (q : Int) / L 0 0 - (s : Int) / L 0 0 ∧ (q : Int) / L 0 0 - (s : Int) / L 0 0 ≤ 1) := by
  have fi := H.1
  have ra := H.2.1
  constructor
  · rintro ⟨i, i9, i4, on, e⟩
    obtain ⟨p0, p1, p2, p3⟩ := tgt_on (show 0 < L 0 0 by omega) on
    rw [← e, Int.one_mul] at p2 p3
    rw [← e] at p1
    refine ⟨fun z => ?_, p1, ?_, ?_⟩
    · rw [z] at p2 p3
      omega
    · omega
    · omega
  · rintro ⟨n, qL, ⟨a, b⟩, c, d⟩
    have hs := Int.mul_ediv_add_emod (s : Int) (L 0 0)
    have hqe := Int.mul_ediv_add_emod (q : Int) (L 0 0)
    have m0 : 0 ≤ (q : Int) % L 0 0 := Int.emod_nonneg _ (by omega)
    have m1 : (q : Int) % L 0 0 < L 0 0 := Int.emod_lt_of_pos _ (by omega)
    have d0 : 0 ≤ (q : Int) / L 0 0 := Int.ediv_nonneg (by omega) (by omega)
    have d1 : (q : Int) / L 0 0 < L 1 0 := Int.ediv_lt_of_lt_mul (by omega) (by rw [Int.mul_comm]; exact qL)
    obtain ⟨x, hx⟩ : ∃ x : Int, x = (q : Int) % L 0 0 - (s : Int) % L 0 0 := ⟨_, rfl⟩
    obtain ⟨y, hy⟩ : ∃ y : Int, y = (q : Int) / L 0 0 - (s : Int) / L 0 0 := ⟨_, rfl⟩
    have nxy : ¬ (x = 0 ∧ y = 0) := fun z => by
      have e1 : (q : Int) % L 0 0 = (s : Int) % L 0 0 := by omega
      have e2 : (q : Int) / L 0 0 = (s : Int) / L 0 0 := by omega
      rw [e1, e2] at hqe
      exact n (by omega)
    refine ⟨((y + 1) * 3 + (x + 1)).toNat, by omega, by omega, ?_, ?_⟩
    · rw [show ((((y + 1) * 3 + (x + 1)).toNat : Nat) : Int) % 3 - 1 = x by omega, show ((((y + 1) * 3 + (x + 1)).toNat : Nat) : Int) / 3 - 1 = y by omega]
      unfold onK
      rw [Int.one_mul, Int.one_mul]
      exact ⟨by omega, by omega, by omega, by omega⟩
    · rw [show ((((y + 1) * 3 + (x + 1)).toNat : Nat) : Int) % 3 - 1 = x by omega, show ((((y + 1) * 3 + (x + 1)).toNat : Nat) : Int) / 3 - 1 = y by omega]
      unfold tgt
      rw [Int.one_mul, Int.one_mul, show (s : Int) / L 0 0 + y = (q : Int) / L 0 0 by omega, show (s : Int) % L 0 0 + x = (q : Int) % L 0 0 by omega, Int.mul_comm]
      exact hqe.symm
theorem ar_2 (D : VD V) (H : LOk L) : ∀ (f : Nat) {h : Hp} {x1 : Int32} {n : Nat}, x1.toInt = (n : Int) → (n : Int) ≤ L 0 0 * L 1 0 → WLf V h → hR h (V 11) 5 = some (V 55) → CLq V h L → (∀ s q : Nat, s < n → q < 64 → (bitJ (hJ h (V 55) s) q = true ↔ ¬ q = s ∧ (q : Int) < L 0 0 * L 1 0 ∧ (-1 ≤ (q : Int) % L 0 0 - (s : Int) % L 0 0 ∧ (q : Int) % L 0 0 - (s : Int) % L 0 0 ≤ 1) ∧ (-1 ≤ (q : Int) / L 0 0 - (s : Int) / L 0 0 ∧ (q : Int) / L 0 0 - (s : Int) / L 0 0 ≤ 1))) → sX10_layAround_2 F f h (V 11) x1 = some o → FrV V (wl [(55, 999)]) h o ∧ AroT L V o := by
  have z1 : (1 : Int32).toInt = 1 := rfl
  have sq := sq_64 H
  intro f
  induction f with
  | zero => intro h x1 n _ _ _ _ _ _ e; exact absurd e (by rw [sX10_layAround_2]; exact fun z => nomatch z)
  | succ f ih =>
    intro h x1 n i1 bn W w5 P R e
    rw [sX10_layAround_2] at e
    replace e := ce_e W.2.1 e
    rcases br_s e with ⟨l, e⟩ | ⟨l, e⟩
    · have l := le_i l
      rw [P.2.2.1, i1] at l
      rw [so_e e]
      exact ⟨fv_0, fun s q hs hq => R s q (by omega) hq⟩
    have l := nle_i l
    rw [P.2.2.1, i1] at l
    obtain ⟨y, by', e⟩ := ar_18 D H i1 l W w5 P F (n := 0) rfl (by decide) (fun q hq => ⟨fun z => by rw [bj_zero] at z; exact absurd z (by decide), fun ⟨i, z, _⟩ => by omega⟩) e
    have c1 : x1.toNatClampNeg = n := by have := nc_i (x := x1) (by omega); omega
    have A : FrV V (wl [(55, 999)]) h (wJ h (V 55) x1.toNatClampNeg y) := fv_j (wl_9 (by decide))
    obtain ⟨r1, r2⟩ := ih (n := n + 1) (by rw [ta (by rw [z1]; omega), z1]; omega) (by omega) (wlf_f W A) (by rw [A.1]; exact w5) (clw_f D P A (by decide)) (fun s q hs hq => by
      rw [r_J, c1]
      by_cases c : s = n
      · rw [if_pos ⟨rfl, c⟩, by' q hq, c, ar_e H l hq]
      · rw [if_neg (fun z => c z.2)]
        exact R s q (by omega) hq) e
    exact ⟨fv_t A r1, r2⟩
/-- lay: the table, the squares around each, and no times left -/
theorem lay_y (D : VD V) {h : Hp} (H : LOk L) (W : WLf V (wR h (V 11) 7 (some (V 2)))) (wc : WCf V h) (P : CLq V h L) (TZ : Tz V h) (l53 : hN h (V 53) = 1536) (l54 : hN h (V 54) = 1536) (e : sX10_lay F h (V 11) (V 2) = some o) : WyT L V o ∧ AroT L V o ∧ Tz V o := by
  have z0 : (0 : Int32).toInt = 0 := rfl
  have L2 := H.2.2.1
  unfold sX10_lay sJ7_fill_d0a16 at e
  replace e := nm_s e; obtain ⟨h1, u1, e⟩ := e
  replace e := nm_s e; obtain ⟨h2, u2, e⟩ := e
  have R1 : ∀ a i, ¬ (a = V 11 ∧ i = 7) → hR h2 a i = hR h a i := fun a i n => by
    rw [u2]
    show hR h1 a i = _
    rw [u1, r_R, if_neg n]
  have R2 : ∀ a i, hR h2 a i = hR (wR h (V 11) 7 (some (V 2))) a i := fun a i => by rw [u2, u1]; rfl
  have I2 : ∀ a i, ¬ (a = V 11 ∧ i = 8) → hI h2 a i = hI h a i := fun a i n => by rw [u2, r_I, if_neg n, u1]; rfl
  have n117 : ∀ {i : Nat}, ¬ i = 7 → ∀ a, ¬ (a = V 11 ∧ i = 7) := fun n a z => n z.2
  replace e := ce_e ((R1 _ _ (n117 (by decide) _)).trans wc.2.2.2.1) e
  replace e := cl_s e; obtain ⟨o4, e4, e⟩ := e
  replace e4 := nx_e e4
  have N2 : ∀ a, hN h2 a = hN h a := fun a => by rw [u2, u1]; rfl
  rw [N2, l53] at e4
  obtain ⟨⟨R4, N4⟩, I4⟩ := fJ F e4
  obtain ⟨J4, _, v4⟩ := fJw (by decide) F (by decide) e4
  replace e := ce_e ((R4 _ _).trans ((R1 _ _ (n117 (by decide) _)).trans wc.2.2.2.2.1)) e
  replace e := cl_s e; obtain ⟨o6, e6, e⟩ := e
  replace e6 := nx_e e6
  rw [N4, N2, l54] at e6
  obtain ⟨⟨R6, N6⟩, I6⟩ := fJ F e6
  obtain ⟨J6, _, v6⟩ := fJw (by decide) F (by decide) e6
  have RR : ∀ a i, hR o6 a i = hR h2 a i := fun a i => by rw [R6, R4]
  have II : ∀ a i, ¬ (a = V 11 ∧ i = 8) → hI o6 a i = hI h a i := fun a i n => by rw [I6, I4, I2 a i n]
  have W6 : WLf V o6 := by
    obtain ⟨a, b, c, d, g, i⟩ := W
    exact ⟨by rw [RR, R2]; exact a, by rw [RR, R2]; exact b, by rw [RR, R2]; exact c, by rw [RR, R2]; exact d, by rw [RR, R2]; exact g, by rw [RR, R2]; exact i⟩
  have wc6 : WCf V o6 := ⟨by rw [RR, R1 _ _ (n117 (by decide) _)]; exact wc.1, by rw [RR, R1 _ _ (n117 (by decide) _)]; exact wc.2.1, by rw [RR, R1 _ _ (n117 (by decide) _)]; exact wc.2.2.1, by rw [RR, R1 _ _ (n117 (by decide) _)]; exact wc.2.2.2.1, by rw [RR, R1 _ _ (n117 (by decide) _)]; exact wc.2.2.2.2.1, by rw [RR, R1 _ _ (n117 (by decide) _)]; exact wc.2.2.2.2.2⟩
  have P6 : CLq V o6 L := by
    have k2 : ∀ i, hI o6 (V 2) i = hI h (V 2) i := fun i => II _ _ (fun z => (vne D : ¬ V 2 = V 11) z.1)
    have k28 : ∀ i, hI o6 (V 28) i = hI h (V 28) i := fun i => II _ _ (fun z => (vne D : ¬ V 28 = V 11) z.1)
    have k29 : ∀ i, hI o6 (V 29) i = hI h (V 29) i := fun i => II _ _ (fun z => (vne D : ¬ V 29 = V 11) z.1)
    have k32 : ∀ i, hI o6 (V 32) i = hI h (V 32) i := fun i => II _ _ (fun z => (vne D : ¬ V 32 = V 11) z.1)
    have k33 : ∀ i, hI o6 (V 33) i = hI h (V 33) i := fun i => II _ _ (fun z => (vne D : ¬ V 33 = V 11) z.1)
    obtain ⟨a, b, c, d, g, i⟩ := P
    exact ⟨by rw [k2]; exact a, by rw [k2]; exact b, by rw [k2]; exact c, by rw [k2]; exact d, fun m hm => ⟨by rw [k29]; exact (g m hm).1, fun i hi => by rw [k28]; exact (g m hm).2 i hi⟩, fun s hs => ⟨by rw [k32]; exact (i s hs).1, by rw [k33]; exact (i s hs).2⟩⟩
  have cn : hI o6 (V 11) 8 = 0 := by rw [I6, I4, u2, rI_s]
  have cN0 : cntN V o6 = 0 := by unfold cntN; rw [cn]; rfl
  have TZ6 : Tz V o6 := fun x hx => by rw [II _ _ (fun z => (vne D : ¬ V 56 = V 11) z.1)]; exact TZ x hx
  have c00 : celN 0 0 0 = 0 := rfl
  obtain ⟨g, ⟨Wg, Pg, wcg⟩, Tg, TZg, e⟩ := ly_28 D H F (c := 0) rfl (by omega) ⟨⟨W6, P6, wc6⟩, fun x hx => absurd hx (by rw [c00]; exact Nat.not_lt_zero x), fun c s t hc hs ht => by
    have j53 : hJ o6 (V 53) (c * 64 + t) = 0 := by rw [J6 _ _ (vne D), v4 _ (by rw [z0]; omega) (by omega)]
    have j54 : hJ o6 (V 54) (c * 64 + t) = 0 := by rw [v6 _ (by rw [z0]; omega) (by omega)]
    rw [j53, j54, bj_zero, c00]
    exact ⟨⟨fun z => absurd z (by decide), fun ⟨_, i, k, z, _⟩ => by omega⟩, ⟨fun z => absurd z (by decide), fun ⟨_, i, k, z, _⟩ => by omega⟩⟩, by rw [cn]; decide⟩ TZ6 (by rw [cN0]; omega) e
  unfold sX10_layAround at e
  obtain ⟨A, B⟩ := ar_2 D H F (n := 0) rfl (by have := sq_64 H; omega) Wg wcg.2.2.2.2.2 Pg (fun s q hs => absurd hs (Nat.not_lt_zero s)) e
  exact ⟨wyt_k Tg (fun x => fvI D A 50 x) (fun x => fvI D A 51 x) (fun x => fvJ D A 52 x) (fun x => fvJ D A 53 x) (fun x => fvJ D A 54 x), B, fun x hx => by rw [fvI D A 56 x]; exact TZg x hx⟩
end
end
