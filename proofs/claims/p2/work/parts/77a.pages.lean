/-! pages of games keep to the law exactly -/
theorem s_weqp {α : Type} {Z P : α → Prop} {m : Option α} (S : Sat m (ZQ Z P)) : Sat m (ZQ Z (fun o => P o ∧ m = some o)) := sat_and S (fun o e z => ⟨z.1, z.2, e⟩)
section
variable {ρ ρ1 : Nat → Nat} {c c1 : Cm} {h o g : Hp} {E : Nat → Nat → Bool} {wp : Nat → Bool} {x0 b w i F L : Nat} {x1 x2 x3 : Int32} {n m : Int}
def RyX (ρ : Nat → Nat) (c : Cm) (b : Nat) (h : Hp) : Prop := RyP ρ c b h ∧ PoX ρ c b h
theorem pox_x (T : TH ρ c h) (r0 : ρ x0 = 12) (X : Ext ρ c ρ1 c1) (T1 : TH ρ1 c1 o) (P : PoX ρ c b g) : PoX ρ1 c1 b g := fun L on s hL wL => by
  obtain ⟨a, w⟩ := law_ext T r0 X T1 hL wL
  exact P L on s a w
theorem pox_y (X : Ext ρ c ρ1 c1) (P : PoX ρ1 c1 b g) : PoX ρ c b g := fun L on s hL wL => P L on s (ex_r X hL (by decide)) (ex_w X hL (by decide) wL)
theorem ryx_x (T : TH ρ c h) (r0 : ρ x0 = 12) (X : Ext ρ c ρ1 c1) (T1 : TH ρ1 c1 o) (P : RyX ρ c b g) : RyX ρ1 c1 b g := ⟨ry_x T r0 X T1 P.1, pox_x T r0 X T1 P.2⟩
theorem ryx_y (X : Ext ρ c ρ1 c1) (P : RyX ρ1 c1 b g) : RyX ρ c b g := ⟨ry_y X P.1, pox_y X P.2⟩
theorem pox_fr {S : Nat → Nat → Nat → Bool} (T : TH ρ c h) (rb : ρ b = 4) (f : Fr ρ (cat c S h) h o) (s4 : S 4 (cw c b) 0 = false) (s34 : ∀ i, S 34 (cw c b) i = false) (s2 : ∀ w, S 2 w 2 = false) (s3 : ∀ w, S 2 w 3 = false) (P : PoX ρ c b h) : PoX ρ c b o := fun L on s rL wL eo hs z => by
  rw [(f.1 b 0 (by rw [rb]; decide) (by rw [rb]; exact s4)).2.2] at eo
  have qo := th_on T rb eo
  have wo : cw c on = cw c b := th_ih T rb rfl eo rfl
  rw [fr_I f qo (by decide) wo (s34 s)] at z ⊢
  rw [(fr_RI f rL (by decide) s2).1, (fr_RI f rL (by decide) s3).1]
  exact P L on s rL wL eo hs z
theorem ryx_sz (n : niceC E) (T : TH ρ c h) (rb : ρ b = 4) (ew : cw c b = w) (hb : wp w = false) (f : Fr ρ (cat c (SZ E wp) h) h o) (P : RyX ρ c b h) : RyX ρ c b o :=
  ⟨ry_sz n T rb ew hb f P.1, pox_fr T rb f (sz_f (n.1 _ _ (by omega)) rfl (Or.inl rfl)) (fun i => sz_f (n.1 _ _ (by omega)) rfl (Or.inr (by rw [ew]; exact hb))) (fun _ => sz_f (n.1 _ _ (by omega)) rfl (Or.inl rfl)) (fun _ => sz_f (n.1 _ _ (by omega)) rfl (Or.inl rfl)) P.2⟩
theorem ryx_w {A : List (Nat × Nat)} (hA : ∀ k i, k = 4 ∨ k = 36 ∨ k = 2 ∨ k = 34 → mS A k i = false) (T : TH ρ c h) (rb : ρ b = 4) (f : Fr ρ (cat c (fS A []) h) h o) (P : RyX ρ c b h) : RyX ρ c b o :=
  ⟨ry_w (fun k i hk => hA k i (by omega)) T rb f P.1, pox_fr T rb f (fs_nf (hA _ _ (by omega))) (fun i => fs_nf (hA _ _ (by omega))) (fun _ => fs_nf (hA _ _ (by omega))) (fun _ => fs_nf (hA _ _ (by omega))) P.2⟩
theorem c61x : ∀ k i, k = 4 ∨ k = 36 ∨ k = 2 ∨ k = 34 → mS [(61, 999)] k i = false := fun k i h1 => by
  show ((61 == k && (999 == 999 || 999 == i)) || false) = false
  rw [bq_ne (show 61 ≠ k by omega)]; rfl
theorem c60x : ∀ k i, k = 4 ∨ k = 36 ∨ k = 2 ∨ k = 34 → mS [(60, 999)] k i = false := fun k i h1 => by
  show ((60 == k && (999 == 999 || 999 == i)) || false) = false
  rw [bq_ne (show 60 ≠ k by omega)]; rfl
/-- a copy of what keeps to the law -/
theorem ryx_copyL {y : Nat} (T : TH ρ c h) (rL : ρ L = 2) (wL : cw c L = 2102) (rb : ρ b = 4) (ry : ρ y = 4) (e : sX3_copyFrom F h b y = some o) (P : RyX ρ c y h) : RyX ρ c b o := by
  refine ⟨ry_copy T rb ry e P.1, ?_⟩
  obtain ⟨on, eo, qo⟩ := thR T ry (i := 0) (k2 := 34) rfl (by decide)
  obtain ⟨ob, eb, qb⟩ := thR T rb (i := 0) (k2 := 34) rfl (by decide)
  have X : OnX (hI h L 2).toInt (hI h L 3).toInt on h := fun s hs z => P.2 L on s rL wL eo hs z
  have k := copy_x (pr_th T rb) eo X e
  have Xb := copy_on (pr_th T rb) eo eb X e
  intro L' on' s rL' wL' eo' hs z
  rw [law_1 T rL wL rL' wL', k.2.1 L 2 (by rw [rL]; rfl), k.2.1 L 3 (by rw [rL]; rfl)]
  rw [k.1] at eo'
  have y5 : on' = ob := r_eq eb eo'
  subst y5
  exact Xb s hs z
theorem ryx_copy {y : Nat} (T : TH ρ c h) (r0 : ρ x0 = 12) (rb : ρ b = 4) (ry : ρ y = 4) (e : sX3_copyFrom F h b y = some o) (P : RyX ρ c y h) : RyX ρ c b o := by
  obtain ⟨L, eL, rL⟩ := thR T r0 (i := 2) (k2 := 2) rfl (by decide)
  exact ryx_copyL T rL (kid_w T r0 (i := 2) (w := 2102) rfl (by decide) eL) rb ry e P
/-- pages of games that stand keep to the law -/
def PgX (ρ : Nat → Nat) (c : Cm) (x0 : Nat) (h : Hp) : Prop := ∀ rl, hR h x0 17 = some rl → ∀ n k : Nat, n < 8 → (k : Int) ≤ (hI h rl n).toInt → ∀ b, Pg x0 (301 * n + k) b h → RyX ρ c b h
theorem pgx_sz (n : niceC E) (n59 : ∀ i, E 59 i = false) (n61 : ∀ i, E 61 i = false) (T : TH ρ c h) (r0 : ρ x0 = 12) (f : Fr ρ (cat c (SZ E wp) h) h o) (hb : ∀ j, wp (8000 + j) = false ∨ ∀ b, Pg x0 j b h → RyX ρ c b h → RyX ρ c b o) (P : PgX ρ c x0 h) : PgX ρ c x0 o := fun rl el m k hm hk b B => by
  rw [x12 r0 f n.2.2.2.2.1] at el
  obtain ⟨q1, f1, g1⟩ := thR T r0 (i := 17) (k2 := 61) rfl (by decide)
  have h1 : ρ rl = 61 := by rw [r_eq f1 el]; exact g1
  rw [(fr_RI f h1 (by decide) (fun _ => sz_f (n61 _) rfl (Or.inl rfl))).1] at hk
  have B0 := (pg_sz n (n59 _) T r0 f).mpr B
  obtain ⟨k1, k2⟩ := pg_r T r0 B0
  have P0 := P rl el m k hm hk b B0
  rcases hb (301 * m + k) with q | q
  · exact ryx_sz n T k1 k2 q f P0
  · exact q b B0 P0
end
/-- a new position: no man anywhere -/
theorem newPosX {ρ : Nat → Nat} {c : Cm} {F : Nat} {h : Hp} {w : Nat} (hF : 700000 ≤ F) (hO : pmO c w [(34, 999), (36, 999)]) (T : TH ρ c h) : Sat (sX3_init F (nC h 3 0 11) (hS h)) (fun o => ∃ ρ' c', Ext ρ c ρ' c' ∧ TH ρ' c' o ∧ ρ' (hS h) = 4 ∧ cw c' (hS h) = w ∧ Old h o ∧ (∀ ra, hR o (hS h) 2 = some ra → ∀ i, i < 2 → hI o ra i = -1) ∧ ∀ on, hR o (hS h) 0 = some on → ∀ s, s < 64 → (hI o on s).toInt < 0) := by
  refine sat_and (newPos hF hO T) (fun o e Z => ?_)
  obtain ⟨ρ', c', z1, z2, z3, z4, z5, z6⟩ := Z
  refine ⟨ρ', c', z1, z2, z3, z4, z5, z6, ?_⟩
  obtain ⟨ρ1, c1, X1, T1, a1, w1, O1⟩ := newPosH T w
  have ei : sX3_init F (nC h 3 0 11) (hS h) = (cl (hR (poH h) (hS h) 0) fun r_2 => cl (sJ7_fill_031fb F (poH h) r_2 (-1 : Int32)) fun o_3 => cl (hR o_3 (hS h) 2) fun r_1 => cl (sJ7_fill_53178 F o_3 r_1 (-1 : Int32)) fun o_2 => some o_2) := rfl
  rw [ei] at e
  replace e := cl_s e
  obtain ⟨on, k1, e⟩ := e
  replace e := cl_s e
  obtain ⟨o3, e3, e⟩ := e
  replace e := cl_s e
  obtain ⟨ra, k3, e⟩ := e
  replace e := cl_s e
  obtain ⟨o4, e4, e⟩ := e
  have z := Option.some.inj e
  subst z
  have p1 : ρ1 on = 34 := rr T1 (thR T1 a1 (i := 0) (k2 := 34) rfl (by decide)) k1
  have n1 := thN T1 p1 (k := 34) (n := 64) rfl (by decide)
  unfold sJ7_fill_031fb at e3
  have e3'' : sJ7_fill_031fb_5 F F (poH h) on (-1 : Int32) (0 : Int32) (nI 64) = some o3 := by rw [← n1]; exact e3
  obtain ⟨⟨g3, n3⟩, q3, _, v3⟩ := fB (by decide) F (by decide) e3''
  have k33 : hR (poH h) (hS h) 2 = some ra := by rw [← g3]; exact k3
  have p3 : ρ1 ra = 36 := rr T1 (thR T1 a1 (i := 2) (k2 := 36) rfl (by decide)) k33
  have n4 : hN o3 ra = 2 := by rw [n3]; exact thN T1 p3 (k := 36) (n := 2) rfl (by decide)
  unfold sJ7_fill_53178 at e4
  have e4'' : sJ7_fill_53178_5 F F o3 ra (-1 : Int32) (0 : Int32) (nI 2) = some o4 := by rw [← n4]; exact e4
  obtain ⟨⟨g4, m4⟩, q4, _, _⟩ := fI (by decide) F (by decide) e4''
  intro on' eon s hs
  rw [g4, g3, k1] at eon
  have y : on' = on := (Option.some.inj eon).symm
  subst y
  have ne : ¬ on' = ra := fun w => by rw [w, p3] at p1; exact absurd p1 (by decide)
  rw [q4 on' s ne, v3 s (by show (0 : Int) ≤ _; omega) hs]
  decide
