/-! positions: both clears -/
def LnV (V : Nat → Nat) (h : Hp) : Prop := hN h (V 34) = 64 ∧ hN h (V 35) = 2 ∧ hN h (V 36) = 2 ∧ hN h (V 37) = 2 ∧ hN h (V 38) = 2
theorem fJw {F r : Nat} {v : Int64} {n : Nat} (hn : n < 2 ^ 31) : ∀ (f : Nat) {h o : Hp} {x3 : Int32}, 0 ≤ x3.toInt → sJ7_fill_d0a16_6 F f h r v x3 (nI n) = some o → (∀ a i, ¬ a = r → hJ o a i = hJ h a i) ∧ (∀ s : Nat, (s : Int) < x3.toInt → hJ o r s = hJ h r s) ∧ ∀ s : Nat, x3.toInt ≤ s → s < n → hJ o r s = v := by
  intro f
  induction f with
  | zero => intro h o x3 _ e; exact absurd e (by rw [sJ7_fill_d0a16_6]; exact fun z => nomatch z)
  | succ f ih =>
    intro h o x3 l0 e
    rw [sJ7_fill_d0a16_6] at e
    rcases br_s e with ⟨c1, e⟩ | ⟨c1, e⟩
    · have c1 := le_i c1
      rw [z_toInt hn] at c1
      rw [so_e e]
      exact ⟨fun _ _ _ => rfl, fun _ _ => rfl, fun s h1 h2 => by omega⟩
    · have c1 := nle_i c1
      rw [z_toInt hn] at c1
      replace e := gg_e e
      replace e := nx_e e
      replace e := nx_e e
      have t1 : (1 : Int32).toInt = 1 := rfl
      have ev : (x3 + (1 : Int32)).toInt = x3.toInt + 1 := by rw [ta (by omega), t1]
      have ec := nc_i l0
      obtain ⟨p2, p3, p4⟩ := ih (by omega) e
      refine ⟨fun a i ha => ?_, fun s hs => ?_, fun s h1 h2 => ?_⟩
      · rw [p2 a i ha, r_J, if_neg (fun y => ha y.1)]
      · rw [p3 s (by omega), r_J, if_neg (fun y => by have := y.2; omega)]
      · by_cases z : s = x3.toNatClampNeg
        · rw [p3 s (by omega), r_J, if_pos ⟨rfl, z⟩]
        · exact p4 s (by omega) h2
theorem fB_j {F r : Nat} {v x3 : Int32} : ∀ (f : Nat) {h o : Hp} {x2 : Int32}, sJ7_fill_031fb_5 F f h r v x2 x3 = some o → ∀ a i, hJ o a i = hJ h a i := by
  intro f
  induction f with
  | zero => intro h o x2 e; exact absurd e (by rw [sJ7_fill_031fb_5]; exact fun z => nomatch z)
  | succ f ih =>
    intro h o x2 e a i
    rw [sJ7_fill_031fb_5] at e
    rcases br_s e with ⟨c1, e⟩ | ⟨c1, e⟩
    · rw [so_e e]
    · exact ih (nx_e (nx_e (gg_e e))) a i
theorem fI_j {F r : Nat} {v x3 : Int32} : ∀ (f : Nat) {h o : Hp} {x2 : Int32}, sJ7_fill_53178_5 F f h r v x2 x3 = some o → ∀ a i, hJ o a i = hJ h a i := by
  intro f
  induction f with
  | zero => intro h o x2 e; exact absurd e (by rw [sJ7_fill_53178_5]; exact fun z => nomatch z)
  | succ f ih =>
    intro h o x2 e a i
    rw [sJ7_fill_53178_5] at e
    rcases br_s e with ⟨c1, e⟩ | ⟨c1, e⟩
    · rw [so_e e]
    · exact ih (nx_e (nx_e (gg_e e))) a i
abbrev wcZ : List (Nat × Nat) := [(34, 999), (35, 999), (36, 999), (37, 999), (38, 999), (4, 5), (4, 6), (4, 8), (4, 9), (4, 10)]
abbrev wrZ : List (Nat × Nat) := [(62, 999), (64, 999), (65, 999), (13, 1), (13, 2), (13, 3), (13, 7)]
abbrev wrz : List (Nat × Nat) := [(64, 999), (65, 999), (13, 7)]
section
variable {F : Nat} {V : Nat → Nat} {N : Int32} {h o hc hr oc or : Hp} {L L' : List (Nat × Nat)}
theorem wl_9 {k i : Nat} (m : (k, 999) ∈ L) : wl L k i = true := wl_i m (Or.inr rfl)
theorem clear_v (D : VD V) (Pc : VPc V h) (Ln : LnV V h) (e : sX3_clear F h (V 4) = some o) : FrV V (wl wcZ) h o ∧ (∀ s, s < 64 → hI o (V 34) s = (-1 : Int32)) ∧ (∀ d, d < 2 → hJ o (V 35) d = 0) ∧ (∀ d, d < 2 → hI o (V 36) d = (-1 : Int32)) ∧ (∀ d, d < 2 → hJ o (V 37) d = 0) ∧ (∀ d, d < 2 → hI o (V 38) d = 0) ∧ hI o (V 4) 5 = 0 ∧ hI o (V 4) 6 = 0 ∧ hJ o (V 4) 8 = 0 ∧ hJ o (V 4) 9 = 0 ∧ hJ o (V 4) 10 = 0 := by
  have z0 : (0 : Int32).toInt = 0 := rfl
  obtain ⟨c0, c1, c2, c3, c4⟩ := Pc
  obtain ⟨l0, l1, l2, l3, l4⟩ := Ln
  unfold sX3_clear sX3_strip sJ7_fill_031fb sJ7_fill_d0a16 sJ7_fill_53178 at e
  replace e := ce_e c0 e
  replace e := cl_s e; obtain ⟨o2, e2, e⟩ := e
  replace e2 := nx_e e2
  rw [l0] at e2
  obtain ⟨⟨R2, N2⟩, I2, _, v2⟩ := fB (by decide) F (by decide) e2
  have J2 := fB_j F e2
  replace e := ce_e ((R2 _ _).trans c1) e
  replace e := cl_s e; obtain ⟨o4, e4, e⟩ := e
  replace e4 := nx_e e4
  rw [N2, l1] at e4
  obtain ⟨⟨R4, N4⟩, I4⟩ := fJ F e4
  obtain ⟨J4, _, v4⟩ := fJw (by decide) F (by decide) e4
  replace e := ce_e ((R4 _ _).trans ((R2 _ _).trans c2)) e
  replace e := cl_s e; obtain ⟨o6, e6, e⟩ := e
  replace e6 := nx_e e6
  rw [N4, N2, l2] at e6
  obtain ⟨⟨R6, N6⟩, I6, _, v6⟩ := fI (by decide) F (by decide) e6
  have J6 := fI_j F e6
  replace e := nm_s e; obtain ⟨h7, w7, e⟩ := e
  replace e := cl_s e; obtain ⟨o8, e8, e⟩ := e
  replace e8 := nm_s e8; obtain ⟨g1, u1, e8⟩ := e8
  replace e8 := nm_s e8; obtain ⟨g2, u2, e8⟩ := e8
  replace e8 := nm_s e8; obtain ⟨g3, u3, e8⟩ := e8
  have Rg3 : ∀ a i, hR g3 a i = hR h a i := fun a i => by
    rw [u3, u2, u1, w7]
    show hR o6 a i = _
    rw [R6, R4, R2]
  have Ng3 : ∀ a, hN g3 a = hN h a := fun a => by
    rw [u3, u2, u1, w7]
    show hN o6 a = _
    rw [N6, N4, N2]
  have Ig3 : ∀ a i, hI g3 a i = hI h7 a i := fun a i => by rw [u3, u2, u1]; rfl
  replace e8 := ce_e ((Rg3 _ _).trans c3) e8
  replace e8 := cl_s e8; obtain ⟨o10, e10, e8⟩ := e8
  replace e10 := nx_e e10
  rw [Ng3, l3] at e10
  obtain ⟨⟨R10, N10⟩, I10⟩ := fJ F e10
  obtain ⟨J10, _, v10⟩ := fJw (by decide) F (by decide) e10
  replace e8 := ce_e ((R10 _ _).trans ((Rg3 _ _).trans c4)) e8
  replace e8 := cl_s e8; obtain ⟨o12, e12, e8⟩ := e8
  replace e12 := nx_e e12
  rw [N10, Ng3, l4] at e12
  obtain ⟨⟨R12, N12⟩, I12, _, v12⟩ := fI (by decide) F (by decide) e12
  have J12 := fI_j F e12
  replace e8 := nm_s e8; obtain ⟨g8, u8, e8⟩ := e8
  have oe : o = g8 := by rw [so_e e, so_e e8]
  -- ints and longs all the way
  have Ia : ∀ a i, ¬ a = V 38 → ¬ (a = V 4 ∧ i = 6) → hI o a i = hI h7 a i := fun a i n m => by rw [oe, u8, r_I, if_neg m, I12 a i n, I10, Ig3]
  have Ib : ∀ a i, ¬ a = V 38 → ¬ a = V 36 → ¬ a = V 4 → hI o a i = hI o2 a i := fun a i n n' m => by
    rw [Ia a i n (fun z => m z.1), w7, rI_a m, I6 a i n', I4]
  have Jg : ∀ a i, hJ o a i = hJ o10 a i := fun a i => by
    rw [oe, u8]
    show hJ o12 a i = _
    rw [J12]
  have J3 : ∀ a i, ¬ (a = V 4 ∧ (i = 8 ∨ i = 9 ∨ i = 10)) → hJ g3 a i = hJ o4 a i := fun a i n => by
    rw [u3, r_J, if_neg (fun z => n ⟨z.1, Or.inl z.2⟩), u2, r_J, if_neg (fun z => n ⟨z.1, Or.inr (Or.inl z.2)⟩), u1, r_J, if_neg (fun z => n ⟨z.1, Or.inr (Or.inr z.2)⟩), w7]
    show hJ o6 a i = _
    rw [J6]
  refine ⟨⟨fun a i => ?_, fun a i n => ⟨?_, ?_⟩⟩, fun s hs => ?_, fun d hd => ?_, fun d hd => ?_, fun d hd => ?_, fun d hd => ?_, ?_, ?_, ?_, ?_, ?_⟩
  · rw [oe, u8]
    show hR o12 a i = _
    rw [R12, R10, Rg3]
  · have n38 := n 38 (wl_9 (by decide))
    have n36 := n 36 (wl_9 (by decide))
    have n34 := n 34 (wl_9 (by decide))
    rw [Ia a i n38 (fun z => n 4 (by rw [z.2]; rfl) z.1), w7, r_I, if_neg (fun z => n 4 (by rw [z.2]; rfl) z.1), I6 a i n36, I4, I2 a i n34]
  · rw [Jg, J10 a i (n 37 (wl_9 (by decide))), J3 a i (fun z => by
      rcases z.2 with y | y | y <;> exact n 4 (by rw [y]; rfl) z.1), J4 a i (n 35 (wl_9 (by decide))), J2]
  · rw [Ib _ _ (vne D) (vne D) (vne D), v2 s (by rw [z0]; omega) hs]; decide
  · rw [Jg, J10 _ _ (vne D), J3 _ _ (fun z => (vne D : ¬ V 35 = V 4) z.1), v4 d (by rw [z0]; omega) hd]
  · rw [Ia _ _ (vne D) (fun z => (vne D : ¬ V 36 = V 4) z.1), w7, rI_a (vne D), v6 d (by rw [z0]; omega) hd]
  · rw [Jg, v10 d (by rw [z0]; omega) hd]
  · rw [oe, u8, rI_a (vne D), v12 d (by rw [z0]; omega) hd]
  · rw [Ia _ _ (vne D) (fun z => absurd z.2 (by decide)), w7, rI_s]
  · rw [oe, u8, rI_s]
  · rw [Jg, J10 _ _ (vne D), u3, r_J, if_pos ⟨rfl, rfl⟩]
  · rw [Jg, J10 _ _ (vne D), u3, r_J, if_neg (fun z => absurd z.2 (by decide)), u2, r_J, if_pos ⟨rfl, rfl⟩]
  · rw [Jg, J10 _ _ (vne D), u3, r_J, if_neg (fun z => absurd z.2 (by decide)), u2, r_J, if_neg (fun z => absurd z.2 (by decide)), u1, r_J, if_pos ⟨rfl, rfl⟩]
theorem clr_38 (D : VD V) : ∀ (f : Nat) {h : Hp} {x1 : Int32}, VPr V h → 0 ≤ x1.toInt → x1.toInt ≤ 24 → (∀ d : Nat, (d : Int) < x1.toInt → hI h (V 64) d = 0) → sX12_clear_38 F f h (V 13) x1 = some o → FrV V (wl wrz) h o ∧ (∀ d : Nat, d < 24 → hI o (V 64) d = 0) ∧ (∀ d : Nat, d < 2 → hI o (V 65) d = 0) ∧ hI o (V 13) 7 = 0 := by
  have z1 : (1 : Int32).toInt = 1 := rfl
  have z24 : (24 : Int32).toInt = 24 := rfl
  intro f
  induction f with
  | zero => intro h x1 _ _ _ _ e; exact absurd e (by rw [sX12_clear_38]; exact fun z => nomatch z)
  | succ f ih =>
    intro h x1 P a1 b1 Z e
    rw [sX12_clear_38] at e
    rcases br_s e with ⟨l, e⟩ | ⟨l, e⟩
    · have l := le_i l
      rw [z24] at l
      replace e := ce_e P.2.2.2 e
      replace e := gg_e e
      replace e := nm_s e; obtain ⟨h4, w4, e⟩ := e
      replace e := ce_e (show hR h4 (V 13) 6 = some (V 65) by rw [w4]; exact P.2.2.2) e
      replace e := gg_e e
      replace e := nm_s e; obtain ⟨h7, w7, e⟩ := e
      have oe := so_e (nx_e e)
      rw [oe]
      have c0 : (0 : Int32).toNatClampNeg = 0 := rfl
      have c1 : (1 : Int32).toNatClampNeg = 1 := rfl
      refine ⟨fv_t (g2 := h7) (fv_t (g2 := h4) (by rw [w4]; exact fv_w (wl_9 (by decide))) (by rw [w7]; exact fv_w (wl_9 (by decide)))) (fv_w rfl), fun d hd => ?_, fun d hd => ?_, rI_s⟩
      · rw [rI_a (vne D), w7, rI_a (vne D), w4, rI_a (vne D)]
        exact Z d (by omega)
      · rw [rI_a (vne D), w7, c1]
        by_cases c : d = 1
        · rw [c, rI_s]
        · rw [rI_o c, w4, c0, show d = 0 by omega, rI_s]
    · have l := nle_i l
      rw [z24] at l
      replace e := ce_e P.2.2.1 e
      replace e := gg_e e
      replace e := nm_s e; obtain ⟨h11, w11, e⟩ := e
      replace e := nx_e e
      have tx : (x1 + (1 : Int32)).toInt = x1.toInt + 1 := by rw [ta (by rw [z1]; omega), z1]
      have nx := nc_i a1
      have A : FrV V (wl wrz) h h11 := by rw [w11]; exact fv_w (wl_9 (by decide))
      obtain ⟨r1, r2⟩ := ih (vpr_f P A) (by omega) (by omega) (fun d hd => by
        rw [w11]
        by_cases c : d = x1.toNatClampNeg
        · rw [c, rI_s]
        · rw [rI_o c]; exact Z d (by omega)) e
      exact ⟨fv_t A r1, r2⟩
theorem clr_2 (D : VD V) : ∀ (f : Nat) {h : Hp} {x1 : Int32}, VPr V h → 0 ≤ x1.toInt → x1.toInt ≤ 64 → (∀ d : Nat, (d : Int) < x1.toInt → hI h (V 62) d = 0) → sX12_clear_2 F f h (V 13) x1 = some o → FrV V (wl wrZ) h o ∧ (∀ s : Nat, s < 64 → hI o (V 62) s = 0) ∧ (∀ d : Nat, d < 24 → hI o (V 64) d = 0) ∧ (∀ d : Nat, d < 2 → hI o (V 65) d = 0) ∧ hI o (V 13) 1 = 0 ∧ hJ o (V 13) 2 = 0 ∧ hI o (V 13) 3 = 0 ∧ hI o (V 13) 7 = 0 := by
  have z1 : (1 : Int32).toInt = 1 := rfl
  have z64 : (64 : Int32).toInt = 64 := rfl
  intro f
  induction f with
  | zero => intro h x1 _ _ _ _ e; exact absurd e (by rw [sX12_clear_2]; exact fun z => nomatch z)
  | succ f ih =>
    intro h x1 P a1 b1 Z e
    rw [sX12_clear_2] at e
    rcases br_s e with ⟨l, e⟩ | ⟨l, e⟩
    · have l := le_i l
      rw [z64] at l
      replace e := nm_s e; obtain ⟨h2, w2, e⟩ := e
      replace e := nm_s e; obtain ⟨h3, w3, e⟩ := e
      replace e := nm_s e; obtain ⟨h4, w4, e⟩ := e
      have A : FrV V (wl wrZ) h h4 := fv_t (g2 := h3) (fv_t (g2 := h2) (by rw [w2]; exact fv_w rfl) (by rw [w3]; exact fv_j rfl)) (by rw [w4]; exact fv_w rfl)
      obtain ⟨r1, r2, r3, r4⟩ := clr_38 D F (vpr_f P A) (by decide) (by decide) (fun d hd => by
        have : (0 : Int32).toInt = 0 := rfl
        omega) e
      have hz : ∀ p, p ∈ wrz → p.1 ∈ vql := by decide
      refine ⟨fv_t A (sub_l r1 (by decide)), fun s hs => ?_, r2, r3, ?_, ?_, ?_, r4⟩
      · rw [(fv_u D r1 (k := 62) (i := s) (by decide) hz (wl_f (by
          have : ∀ p, p ∈ wrz → ¬ p.1 = 62 := by decide
          exact fun p hp => Or.inl (this p hp)))).1, w4, rI_a (vne D), w3]
        show hI h2 (V 62) s = 0
        rw [w2, rI_a (vne D)]
        exact Z s (by omega)
      · rw [(fv_u D r1 (k := 13) (i := 1) (by decide) hz rfl).1, w4, rI_o (by decide), w3]
        show hI h2 (V 13) 1 = 0
        rw [w2, rI_s]
      · rw [(fv_u D r1 (k := 13) (i := 2) (by decide) hz rfl).2, w4]
        show hJ h3 (V 13) 2 = 0
        rw [w3, r_J, if_pos ⟨rfl, rfl⟩]
      · rw [(fv_u D r1 (k := 13) (i := 3) (by decide) hz rfl).1, w4, rI_s]
    · have l := nle_i l
      rw [z64] at l
      replace e := ce_e P.1 e
      replace e := gg_e e
      replace e := nm_s e; obtain ⟨h7, w7, e⟩ := e
      replace e := nx_e e
      have tx : (x1 + (1 : Int32)).toInt = x1.toInt + 1 := by rw [ta (by rw [z1]; omega), z1]
      have nx := nc_i a1
      have A : FrV V (wl wrZ) h h7 := by rw [w7]; exact fv_w (wl_9 (by decide))
      obtain ⟨r1, r2⟩ := ih (vpr_f P A) (by omega) (by omega) (fun d hd => by
        rw [w7]
        by_cases c : d = x1.toNatClampNeg
        · rw [c, rI_s]
        · rw [rI_o c]; exact Z d (by omega)) e
      exact ⟨fv_t A r1, r2⟩
/-! one position of both -/
def PosV (V : Nat → Nat) (hc hr : Hp) : Prop := PMe V hc hr ∧ PSd V hc hr ∧ PRt V hc hr ∧ PPs V hc hr ∧ PHd V hc hr ∧ PCk V 2 hc hr ∧ PCl V hc hr
theorem fvi (D : VD V) (A : FrV V (wl L) hc oc) (k i : Nat) (n : wl L k i = false := by rfl) (hk : k ∈ vql := by decide) (hL : ∀ p, p ∈ L → p.1 ∈ vql := by decide) : hI oc (V k) i = hI hc (V k) i := (fv_u D A hk hL n).1
theorem fvj (D : VD V) (A : FrV V (wl L) hc oc) (k i : Nat) (n : wl L k i = false := by rfl) (hk : k ∈ vql := by decide) (hL : ∀ p, p ∈ L → p.1 ∈ vql := by decide) : hJ oc (V k) i = hJ hc (V k) i := (fv_u D A hk hL n).2
theorem fvI (D : VD V) (A : FrV V (wl L) hc oc) (k i : Nat) (n : ∀ p, p ∈ L → ¬ p.1 = k := by decide) (hk : k ∈ vql := by decide) (hL : ∀ p, p ∈ L → p.1 ∈ vql := by decide) : hI oc (V k) i = hI hc (V k) i := (fv_u D A hk hL (wl_f (fun p hp => Or.inl (n p hp)))).1
theorem fvJ (D : VD V) (A : FrV V (wl L) hc oc) (k i : Nat) (n : ∀ p, p ∈ L → ¬ p.1 = k := by decide) (hk : k ∈ vql := by decide) (hL : ∀ p, p ∈ L → p.1 ∈ vql := by decide) : hJ oc (V k) i = hJ hc (V k) i := (fv_u D A hk hL (wl_f (fun p hp => Or.inl (n p hp)))).2
theorem pme_k (P : PMe V hc hr) (a : ∀ i, hI oc (V 34) i = hI hc (V 34) i) (b : ∀ i, hI oc (V 36) i = hI hc (V 36) i) (c : ∀ i, hJ oc (V 35) i = hJ hc (V 35) i) (d : hI oc (V 2) 4 = hI hc (V 2) 4) (m : ∀ i, hI or (V 62) i = hI hr (V 62) i) : PMe V oc or := by
  unfold PMe
  rw [d]
  exact posc_k P a b c (fun s _ => by unfold mV; rw [m])
theorem psd_k (P : PSd V hc hr) (a : hI oc (V 4) 5 = hI hc (V 4) 5) (b : hI or (V 13) 1 = hI hr (V 13) 1) : PSd V oc or := by
  unfold PSd; rw [a, b]; exact P
theorem prt_k (P : PRt V hc hr) (a : hJ oc (V 4) 8 = hJ hc (V 4) 8) (b : hJ or (V 13) 2 = hJ hr (V 13) 2) : PRt V oc or := by
  unfold PRt; rw [a, b]; exact P
theorem pcl_k (P : PCl V hc hr) (a : hI oc (V 4) 6 = hI hc (V 4) 6) (b : hI or (V 13) 7 = hI hr (V 13) 7) : PCl V oc or := by
  unfold PCl; rw [a, b]; exact P
theorem pck_k {n : Int} (P : PCk V n hc hr) (a : ∀ i, hI oc (V 38) i = hI hc (V 38) i) (b : ∀ i, hI or (V 65) i = hI hr (V 65) i) : PCk V n oc or := fun i hi => by rw [a, b]; exact P i hi
theorem phd_k (P : PHd V hc hr) (a : ∀ i, hJ oc (V 37) i = hJ hc (V 37) i) (b : ∀ i, hI or (V 64) i = hI hr (V 64) i) : PHd V oc or := ⟨fun s hs => by rw [a]; exact P.1 s hs, fun d hd => by rw [a, b]; exact P.2 d hd⟩
theorem pps_k (P : PPs V hc hr) (a : hJ oc (V 4) 9 = hJ hc (V 4) 9) (b : hJ oc (V 4) 10 = hJ hc (V 4) 10) (c : hI or (V 13) 3 = hI hr (V 13) 3) (d : ∀ i, hI or (V 63) i = hI hr (V 63) i) : PPs V oc or := by
  have rn : rowN or (V 63) = rowN hr (V 63) := funext fun i => by unfold rowN; rw [d]
  unfold PPs PPn
  rw [a, b, c, rn]
  rcases P with P | ⟨P, Q1, Q2⟩
  · exact Or.inl P
  · exact Or.inr ⟨P, fun i hi h => by rw [d]; exact Q1 i hi h, Q2⟩
/-- the place alone goes on -/
theorem pos_at (D : VD V) (P : PosV V hc hr) (A : FrV V (wl [(7, 2)]) hc oc) (B : FrV V (wl [(16, 19)]) hr or) : PosV V oc or := ⟨pme_k P.1 (fun i => fvI D A 34 i) (fun i => fvI D A 36 i) (fun i => fvJ D A 35 i) (fvi D A 2 4) (fun i => fvI D B 62 i), psd_k P.2.1 (fvi D A 4 5) (fvi D B 13 1), prt_k P.2.2.1 (fvj D A 4 8) (fvj D B 13 2), pps_k P.2.2.2.1 (fvj D A 4 9) (fvj D A 4 10) (fvi D B 13 3) (fun i => fvI D B 63 i), phd_k P.2.2.2.2.1 (fun i => fvJ D A 37 i) (fun i => fvI D B 64 i), pck_k P.2.2.2.2.2.1 (fun i => fvI D A 38 i) (fun i => fvI D B 65 i), pcl_k P.2.2.2.2.2.2 (fvi D A 4 6) (fvi D B 13 7)⟩
end
