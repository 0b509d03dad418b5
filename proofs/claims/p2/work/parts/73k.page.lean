/-- filling leaves longs as they are -/
theorem fB_J {F r : Nat} {v x3 : Int32} : ∀ (f : Nat) {h o : Hp} {x2 : Int32}, sJ7_fill_031fb_5 F f h r v x2 x3 = some o → ∀ a i, hJ o a i = hJ h a i := by
  intro f
  induction f with
  | zero => intro h o x2 e; exact absurd e (by rw [sJ7_fill_031fb_5]; exact fun z => nomatch z)
  | succ f ih =>
    intro h o x2 e a i
    rw [sJ7_fill_031fb_5] at e
    rcases br_s e with ⟨_, e⟩ | ⟨_, e⟩
    · rw [← Option.some.inj e]
    · have q := ih (gd_s e).2 a i
      rw [q]; rfl
theorem fI_J {F r : Nat} {v x3 : Int32} : ∀ (f : Nat) {h o : Hp} {x2 : Int32}, sJ7_fill_53178_5 F f h r v x2 x3 = some o → ∀ a i, hJ o a i = hJ h a i := by
  intro f
  induction f with
  | zero => intro h o x2 e; exact absurd e (by rw [sJ7_fill_53178_5]; exact fun z => nomatch z)
  | succ f ih =>
    intro h o x2 e a i
    rw [sJ7_fill_53178_5] at e
    rcases br_s e with ⟨_, e⟩ | ⟨_, e⟩
    · rw [← Option.some.inj e]
    · have q := ih (gd_s e).2 a i
      rw [q]; rfl
/-! pages of the class's games -/
section
variable {ρ ρ1 : Nat → Nat} {c c1 : Cm} {h o g : Hp} {x0 b i : Nat}
/-- the law is one, also behind what was made -/
theorem law_ext (T : TH ρ c h) (r0 : ρ x0 = 12) (X : Ext ρ c ρ1 c1) (T1 : TH ρ1 c1 o) {L : Nat} (hL : ρ1 L = 2) (wL : cw c1 L = 2102) : ρ L = 2 ∧ cw c L = 2102 := by
  obtain ⟨L0, e0, q0⟩ := thR T r0 (i := 2) (k2 := 2) rfl (by decide)
  have w0 : cw c L0 = 2102 := th_id T r0 (w := 2102) e0 rfl (by decide)
  have q1 := ex_r X q0 (by decide)
  have w1 := ex_w X q0 (by decide) w0
  have e : L = L0 := T1.1.2.2.2.2.2.2.2.2 L L0 (by rw [hL, q1]) (Or.inr ⟨Or.inr hL, by rw [wL, w1]⟩)
  rw [e]; exact ⟨q0, w0⟩
theorem ry_x (T : TH ρ c h) (r0 : ρ x0 = 12) (X : Ext ρ c ρ1 c1) (T1 : TH ρ1 c1 o) (P : RyP ρ c b g) : RyP ρ1 c1 b g := fun ra e j hj n L hL wL => by
  obtain ⟨a, w⟩ := law_ext T r0 X T1 hL wL
  exact P ra e j hj n L a w
theorem ry_y (X : Ext ρ c ρ1 c1) (P : RyP ρ1 c1 b g) : RyP ρ c b g := fun ra e j hj n L hL wL => P ra e j hj n L (ex_r X hL (by decide)) (ex_w X hL (by decide) wL)
theorem lw_x (T : TH ρ c h) (r0 : ρ x0 = 12) (X : Ext ρ c ρ1 c1) (T1 : TH ρ1 c1 o) (P : LwR ρ c g) : LwR ρ1 c1 g := fun L hL wL q => by
  obtain ⟨a, w⟩ := law_ext T r0 X T1 hL wL
  rw [X.2.1]; exact P L a w q
theorem lw_y (X : Ext ρ c ρ1 c1) (P : LwR ρ1 c1 g) : LwR ρ c g := fun L hL wL q => by
  have := P L (ex_r X hL (by decide)) (ex_w X hL (by decide) wL) q
  rw [X.2.1] at this; exact this
theorem hr_x {x1 : Int32} (T : TH ρ c h) (r0 : ρ x0 = 12) (X : Ext ρ c ρ1 c1) (T1 : TH ρ1 c1 o) (P : HasR ρ c x0 x1 g) : HasR ρ1 c1 x0 x1 g := ⟨P.1, fun r e b eb => ry_x T r0 X T1 (P.2 r e b eb)⟩
theorem pl_x (T : TH ρ c h) (r0 : ρ x0 = 12) (X : Ext ρ c ρ1 c1) (T1 : TH ρ1 c1 o) (P : PlP ρ c x0 g) : PlP ρ1 c1 x0 g := fun r u e1 e2 i hi n b eb => ry_x T r0 X T1 (P r u e1 e2 i hi n b eb)
theorem pl_y (X : Ext ρ c ρ1 c1) (P : PlP ρ1 c1 x0 g) : PlP ρ c x0 g := fun r u e1 e2 i hi n b eb => ry_y X (P r u e1 e2 i hi n b eb)
def Pg (x0 i b : Nat) (h : Hp) : Prop := ∃ r, hR h x0 15 = some r ∧ hR h r i = some b
theorem pg_r (T : TH ρ c h) (r0 : ρ x0 = 12) (B : Pg x0 i b h) : ρ b = 4 ∧ cw c b = 8000 + i := by
  obtain ⟨r, e1, e2⟩ := B
  obtain ⟨q1, f1, g1⟩ := thR T r0 (i := 15) (k2 := 59) rfl (by decide)
  have h1 : ρ r = 59 := by rw [r_eq f1 e1]; exact g1
  exact ⟨thRn T h1 (k2 := 4) rfl (by decide) e2, th_id T h1 (w := 8000 + i) e2 rfl (by omega)⟩
theorem pg_u {b' : Nat} (B : Pg x0 i b h) (B' : Pg x0 i b' h) : b' = b := by
  obtain ⟨r, s1, s2⟩ := B
  obtain ⟨r', s1', s2'⟩ := B'
  rw [r_eq s1 s1'] at s2'
  exact r_eq s2 s2'
/-- pages of games that stand tell no royal man that the law has not -/
def PgP (ρ : Nat → Nat) (c : Cm) (x0 : Nat) (h : Hp) : Prop := ∀ rl, hR h x0 17 = some rl → ∀ n k : Nat, n < 8 → (k : Int) ≤ (hI h rl n).toInt → ∀ b, Pg x0 (301 * n + k) b h → RyP ρ c b h
end
/-- a new position: no man anywhere -/
theorem newPos {ρ : Nat → Nat} {c : Cm} {F : Nat} {h : Hp} {w : Nat} (hF : 700000 ≤ F) (hO : pmO c w [(34, 999), (36, 999)]) (T : TH ρ c h) : Sat (sX3_init F (nC h 3 0 11) (hS h)) (fun o => ∃ ρ' c', Ext ρ c ρ' c' ∧ TH ρ' c' o ∧ ρ' (hS h) = 4 ∧ cw c' (hS h) = w ∧ Old h o ∧ ∀ ra, hR o (hS h) 2 = some ra → ∀ i, i < 2 → hI o ra i = -1) := by
  obtain ⟨ρ1, c1, X1, T1, a1, w1, O1⟩ := newPosH T w
  have hO1 := ex_O X1 hO
  have e : sX3_init F (nC h 3 0 11) (hS h) = (cl (hR (poH h) (hS h) 0) fun r_2 => cl (sJ7_fill_031fb F (poH h) r_2 (-1 : Int32)) fun o_3 => cl (hR o_3 (hS h) 2) fun r_1 => cl (sJ7_fill_53178 F o_3 r_1 (-1 : Int32)) fun o_2 => some o_2) := rfl
  rw [e]
  obtain ⟨on, k1, p1⟩ := thR T1 a1 (i := 0) (k2 := 34) rfl (by decide)
  obtain ⟨of, k2, p2⟩ := thR T1 a1 (i := 1) (k2 := 35) rfl (by decide)
  obtain ⟨ra, k3, p3⟩ := thR T1 a1 (i := 2) (k2 := 36) rfl (by decide)
  have z : (0 : Int32).toInt = 0 := rfl
  have won : cw c1 on = w := th_ih T1 a1 rfl k1 w1
  have wra : cw c1 ra = w := th_ih T1 a1 rfl k3 w1
  refine s_ref k1 ?_
  have s1 : Sat (sJ7_fill_031fb F (poH h) on (-1 : Int32)) (fun g => THx ρ1 c1 (hS h) g ∧ ∀ a i, hR g a i = hR (poH h) a i) := by
    unfold sJ7_fill_031fb
    refine s_nm ?_
    rw [thN T1 p1 (k := 34) (n := 64) rfl (by decide)]
    exact fillBx5 (fun i => by rw [won]; exact hO1 34 i rfl) a1 p1 F (thx_of T1) k1 ⟨by rw [z]; omega, by rw [z]; omega⟩ (by rw [z]; omega)
  obtain ⟨o3, e3, T3x, g3⟩ := s1
  have e3' := e3
  unfold sJ7_fill_031fb at e3'
  have n1 := thN T1 p1 (k := 34) (n := 64) rfl (by decide)
  have e3'' : sJ7_fill_031fb_5 F F (poH h) on (-1 : Int32) (0 : Int32) (nI 64) = some o3 := by rw [← n1]; exact e3'
  obtain ⟨⟨_, n3⟩, q3, _, _⟩ := fB (by decide) F (by decide) e3''
  have j3 : ∀ a i, hJ o3 a i = hJ (poH h) a i := fun a i => fB_J F e3'' a i
  have hs0 : hS h = h.1.1 := rfl
  have ofn : ∀ d, hJ (poH h) of d = 0 := fun d => by
    have e1 : of = h.1.1 + 2 := r_eq (show hR (poH h) (hS h) 1 = some (h.1.1 + 2) from poH_R h 1) k2
    rw [e1]; exact poH_J h 2 d (by decide)
  have T3 : TH ρ1 c1 o3 := thx_to T3x (fun on' of' ho hf s hs d hd hb => by
    rw [g3, k2] at hf
    rw [← Option.some.inj hf, j3, ofn, bj_zero] at hb
    exact absurd hb (by decide))
  refine s_val e3 ?_
  have k33 : hR o3 (hS h) 2 = some ra := by rw [g3]; exact k3
  refine s_ref k33 ?_
  obtain ⟨o4, e4, T4⟩ := zJ7_fill_53178 hF T3 p3 (lo := -1) (hi := 63) (n := 2) (x1 := (-1 : Int32)) (rg_b rfl) (fun _ => rfl) rfl (by decide) (by decide) (by decide) (by decide) (fun i => by rw [wra]; exact hO1 36 i rfl)
  refine s_val e4 ?_
  have e4' := e4
  unfold sJ7_fill_53178 at e4'
  have n4 := thN T3 p3 (k := 36) (n := 2) rfl (by decide)
  have e4'' : sJ7_fill_53178_5 F F o3 ra (-1 : Int32) (0 : Int32) (nI 2) = some o4 := by rw [← n4]; exact e4'
  obtain ⟨⟨g4, m4⟩, q4, _, v4⟩ := fI (by decide) F (by decide) e4''
  have j4 : ∀ a i, hJ o4 a i = hJ o3 a i := fun a i => fI_J F e4'' a i
  have lon : h.1.1 ≤ on := by
    have e1 : on = h.1.1 + 1 := r_eq (show hR (poH h) (hS h) 0 = some (h.1.1 + 1) from poH_R h 0) k1
    omega
  have lra : h.1.1 ≤ ra := by
    have e1 : ra = h.1.1 + 3 := r_eq (show hR (poH h) (hS h) 2 = some (h.1.1 + 3) from poH_R h 2) k3
    omega
  refine s_some ⟨ρ1, c1, X1, T4, a1, w1, fun a ha => ?_, fun ra' er i hi => ?_⟩
  · obtain ⟨b1, b2, b3, b4⟩ := O1 a ha
    refine ⟨fun i => ?_, fun i => ?_, fun i => ?_, ?_⟩
    · rw [q4 a i (by omega), q3 a i (by omega)]; exact b1 i
    · rw [j4, j3]; exact b2 i
    · rw [g4, g3]; exact b3 i
    · rw [m4, n3]; exact b4
  · rw [g4, k33] at er
    rw [← Option.some.inj er]
    exact v4 i (by rw [z]; omega) hi
