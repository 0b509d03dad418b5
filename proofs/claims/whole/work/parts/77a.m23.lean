section
/-! pages of games keep to the law exactly -/
theorem s_weqp {α : Type} {Z P : α → Prop} {m : Option α} (S : Sat m (ZQ Z P)) : Sat m (ZQ Z (fun o => P o ∧ m = some o)) := sat_and S (fun o e z => ⟨z.1, z.2, e⟩)
section
variable {ρ ρ1 : Nat → Nat} {c c1 : Cm} {h o g : Hp} {E : Nat → Nat → Bool} {wp : Nat → Bool} {x0 b w i F L : Nat} {x1 x2 x3 : Int32} {n m : Int}
def RyX (ρ : Nat → Nat) (c : Cm) (b : Nat) (h : Hp) : Prop := RyP ρ c b h ∧ PoX ρ c b h
theorem pox_x (T : TH ρ c h) (r0 : ρ x0 = 12) (X : Ext ρ c ρ1 c1) (T1 : TH ρ1 c1 o) (P : PoX ρ c b g) : PoX ρ1 c1 b g := fun L on s hL wL => by
  obtain ⟨a, w⟩ := law_ext T r0 X T1 hL wL
  exact P L on s a w
theorem pox_y (X : Ext ρ c ρ1 c1) (P : PoX ρ1 c1 b g) : PoX ρ c b g := fun L on s hL wL => P L on s (ex_r X hL (by decide)) (ex_w X hL (by decide) wL)
theorem ryx_x (T : TH ρ c h) (r0 : ρ x0 = 12) (X : Ext ρ c ρ1 c1) (T1 : TH ρ1 c1 o) (P : RyX ρ c b g) : RyX ρ1 c1 b g := ⟨ry_x T r0 X T1 P.1, pox_x T r0 X T1 P.2⟩
theorem ryx_y (X : Ext ρ c ρ1 c1) (P : RyX ρ1 c1 b g) : RyX ρ c b g := ⟨ry_y X P.1, pox_y X P.2⟩
theorem pox_fr {S : Nat → Nat → Nat → Bool} (T : TH ρ c h) (rb : ρ b = 4) (f : Fr ρ (cat c S h) h o) (s4 : S 4 (cw c b) 0 = false) (s34 : ∀ i, S 34 (cw c b) i = false) (s2 : ∀ w, S 2 w 2 = false) (s3 : ∀ w, S 2 w 3 = false) (P : PoX ρ c b h) : PoX ρ c b o := fun L on s rL wL eo hs z => by
  rw [(f.1 b 0 (by rw [rb]; decide) (by rw [rb]; exact s4)).2.2] at eo
  have qo := th_on T rb eo
  have wo : cw c on = cw c b := th_ih T rb rfl eo rfl
  rw [fr_I f qo (by decide) wo (s34 s)] at z ⊢
  rw [(fr_RI f rL (by decide) s2).1, (fr_RI f rL (by decide) s3).1]
  exact P L on s rL wL eo hs z
theorem ryx_sz (n : niceC E) (T : TH ρ c h) (rb : ρ b = 4) (ew : cw c b = w) (hb : wp w = false) (f : Fr ρ (cat c (SZ E wp) h) h o) (P : RyX ρ c b h) : RyX ρ c b o :=
  ⟨ry_sz n T rb ew hb f P.1, pox_fr T rb f (sz_f (n.1 _ _ (by omega)) rfl (Or.inl rfl)) (fun i => sz_f (n.1 _ _ (by omega)) rfl (Or.inr (by rw [ew]; exact hb))) (fun _ => sz_f (n.1 _ _ (by omega)) rfl (Or.inl rfl)) (fun _ => sz_f (n.1 _ _ (by omega)) rfl (Or.inl rfl)) P.2⟩
theorem ryx_w {A : List (Nat × Nat)} (hA : ∀ k i, k = 4 ∨ k = 36 ∨ k = 2 ∨ k = 34 → mS A k i = false) (T : TH ρ c h) (rb : ρ b = 4) (f : Fr ρ (cat c (fS A []) h) h o) (P : RyX ρ c b h) : RyX ρ c b o :=
  ⟨ry_w (fun k i hk => hA k i (by omega)) T rb f P.1, pox_fr T rb f (fs_nf (hA _ _ (by omega))) (fun i => fs_nf (hA _ _ (by omega))) (fun _ => fs_nf (hA _ _ (by omega))) (fun _ => fs_nf (hA _ _ (by omega))) P.2⟩
theorem c61x : ∀ k i, k = 4 ∨ k = 36 ∨ k = 2 ∨ k = 34 → mS [(61, 999)] k i = false := fun k i h1 => by
  show ((61 == k && (999 == 999 || 999 == i)) || false) = false
  rw [bq_ne (show 61 ≠ k by omega)]; rfl
theorem c60x : ∀ k i, k = 4 ∨ k = 36 ∨ k = 2 ∨ k = 34 → mS [(60, 999)] k i = false := fun k i h1 => by
  show ((60 == k && (999 == 999 || 999 == i)) || false) = false
  rw [bq_ne (show 60 ≠ k by omega)]; rfl
/-- a copy of what keeps to the law -/
theorem ryx_copyL {y : Nat} (T : TH ρ c h) (rL : ρ L = 2) (wL : cw c L = 2102) (rb : ρ b = 4) (ry : ρ y = 4) (e : sX3_copyFrom F h b y = some o) (P : RyX ρ c y h) : RyX ρ c b o := by
  refine ⟨ry_copy T rb ry e P.1, ?_⟩
  obtain ⟨on, eo, qo⟩ := thR T ry (i := 0) (k2 := 34) rfl (by decide)
  obtain ⟨ob, eb, qb⟩ := thR T rb (i := 0) (k2 := 34) rfl (by decide)
  have X : OnX (hI h L 2).toInt (hI h L 3).toInt on h := fun s hs z => P.2 L on s rL wL eo hs z
  have k := copy_x (pr_th T rb) eo X e
  have Xb := copy_on (pr_th T rb) eo eb X e
  intro L' on' s rL' wL' eo' hs z
  rw [law_1 T rL wL rL' wL', k.2.1 L 2 (by rw [rL]; rfl), k.2.1 L 3 (by rw [rL]; rfl)]
  rw [k.1] at eo'
  have y5 : on' = ob := r_eq eb eo'
  subst y5
  exact Xb s hs z
theorem ryx_copy {y : Nat} (T : TH ρ c h) (r0 : ρ x0 = 12) (rb : ρ b = 4) (ry : ρ y = 4) (e : sX3_copyFrom F h b y = some o) (P : RyX ρ c y h) : RyX ρ c b o := by
  obtain ⟨L, eL, rL⟩ := thR T r0 (i := 2) (k2 := 2) rfl (by decide)
  exact ryx_copyL T rL (kid_w T r0 (i := 2) (w := 2102) rfl (by decide) eL) rb ry e P
/-- pages of games that stand keep to the law -/
def PgX (ρ : Nat → Nat) (c : Cm) (x0 : Nat) (h : Hp) : Prop := ∀ rl, hR h x0 17 = some rl → ∀ n k : Nat, n < 8 → (k : Int) ≤ (hI h rl n).toInt → ∀ b, Pg x0 (301 * n + k) b h → RyX ρ c b h
theorem pgx_sz (n : niceC E) (n59 : ∀ i, E 59 i = false) (n61 : ∀ i, E 61 i = false) (T : TH ρ c h) (r0 : ρ x0 = 12) (f : Fr ρ (cat c (SZ E wp) h) h o) (hb : ∀ j, wp (8000 + j) = false ∨ ∀ b, Pg x0 j b h → RyX ρ c b h → RyX ρ c b o) (P : PgX ρ c x0 h) : PgX ρ c x0 o := fun rl el m k hm hk b B => by
  rw [x12 r0 f n.2.2.2.2.1] at el
  obtain ⟨q1, f1, g1⟩ := thR T r0 (i := 17) (k2 := 61) rfl (by decide)
  have h1 : ρ rl = 61 := by rw [r_eq f1 el]; exact g1
  rw [(fr_RI f h1 (by decide) (fun _ => sz_f (n61 _) rfl (Or.inl rfl))).1] at hk
  have B0 := (pg_sz n (n59 _) T r0 f).mpr B
  obtain ⟨k1, k2⟩ := pg_r T r0 B0
  have P0 := P rl el m k hm hk b B0
  rcases hb (301 * m + k) with q | q
  · exact ryx_sz n T k1 k2 q f P0
  · exact q b B0 P0
end
/-- a new position: no man anywhere -/
theorem newPosX {ρ : Nat → Nat} {c : Cm} {F : Nat} {h : Hp} {w : Nat} (hF : 700000 ≤ F) (hO : pmO c w [(34, 999), (36, 999)]) (T : TH ρ c h) : Sat (sX3_init F (nC h 3 0 11) (hS h)) (fun o => ∃ ρ' c', Ext ρ c ρ' c' ∧ TH ρ' c' o ∧ ρ' (hS h) = 4 ∧ cw c' (hS h) = w ∧ Old h o ∧ (∀ ra, hR o (hS h) 2 = some ra → ∀ i, i < 2 → hI o ra i = -1) ∧ ∀ on, hR o (hS h) 0 = some on → ∀ s, s < 64 → (hI o on s).toInt < 0) := by
  refine sat_and (newPos hF hO T) (fun o e Z => ?_)
  obtain ⟨ρ', c', z1, z2, z3, z4, z5, z6⟩ := Z
  refine ⟨ρ', c', z1, z2, z3, z4, z5, z6, ?_⟩
  obtain ⟨ρ1, c1, X1, T1, a1, w1, O1⟩ := newPosH T w
  have ei : sX3_init F (nC h 3 0 11) (hS h) = (cl (hR (poH h) (hS h) 0) fun r_2 => cl (sJ7_fill_031fb F (poH h) r_2 (-1 : Int32)) fun o_3 => cl (hR o_3 (hS h) 2) fun r_1 => cl (sJ7_fill_53178 F o_3 r_1 (-1 : Int32)) fun o_2 => some o_2) := rfl
  rw [ei] at e
  replace e := cl_s e
  obtain ⟨on, k1, e⟩ := e
  replace e := cl_s e
  obtain ⟨o3, e3, e⟩ := e
  replace e := cl_s e
  obtain ⟨ra, k3, e⟩ := e
  replace e := cl_s e
  obtain ⟨o4, e4, e⟩ := e
  have z := Option.some.inj e
  subst z
  have p1 : ρ1 on = 34 := rr T1 (thR T1 a1 (i := 0) (k2 := 34) rfl (by decide)) k1
  have n1 := thN T1 p1 (k := 34) (n := 64) rfl (by decide)
  unfold sJ7_fill_031fb at e3
  have e3'' : sJ7_fill_031fb_5 F F (poH h) on (-1 : Int32) (0 : Int32) (nI 64) = some o3 := by rw [← n1]; exact e3
  obtain ⟨⟨g3, n3⟩, q3, _, v3⟩ := fB (by decide) F (by decide) e3''
  have k33 : hR (poH h) (hS h) 2 = some ra := by rw [← g3]; exact k3
  have p3 : ρ1 ra = 36 := rr T1 (thR T1 a1 (i := 2) (k2 := 36) rfl (by decide)) k33
  have n4 : hN o3 ra = 2 := by rw [n3]; exact thN T1 p3 (k := 36) (n := 2) rfl (by decide)
  unfold sJ7_fill_53178 at e4
  have e4'' : sJ7_fill_53178_5 F F o3 ra (-1 : Int32) (0 : Int32) (nI 2) = some o4 := by rw [← n4]; exact e4
  obtain ⟨⟨g4, m4⟩, q4, _, _⟩ := fI (by decide) F (by decide) e4''
  intro on' eon s hs
  rw [g4, g3, k1] at eon
  have y : on' = on := (Option.some.inj eon).symm
  subst y
  have ne : ¬ on' = ra := fun w => by rw [w, p3] at p1; exact absurd p1 (by decide)
  rw [q4 on' s ne, v3 s (by show (0 : Int) ≤ _; omega) hs]
  decide
end
section
/-! a page of a game, exactly -/
section
variable {ρ ρ1 : Nat → Nat} {c c1 : Cm} {h o g : Hp} {E : Nat → Nat → Bool} {wp : Nat → Bool} {x0 b w i F L : Nat} {x1 x2 x3 : Int32} {n m : Int}
theorem pagePX (hF : 700000 ≤ F) (h9 : ∀ w, cPm c 59 w (gi x1 x2) = true) (hO : pmO c (8000 + gi x1 x2) [(34, 999), (36, 999)]) (T : TH ρ c h) (r0 : ρ x0 = 12) (i1 : Rg 0 7 x1) (i2 : Rg 0 300 x2) (P : PgX ρ c x0 h) : Sat (sX11_page F h x0 x1 x2) (fun o => ∃ ρ' c', Ext ρ c ρ' c' ∧ TH ρ' c' o.2 ∧ Pg x0 (gi x1 x2) o.1 o.2 ∧ (∀ j b, Pg x0 j b h → Pg x0 j b o.2 ∧ (RyX ρ c b h → RyX ρ c b o.2)) ∧ PgX ρ c x0 o.2 ∧ (∀ rl, hR h x0 17 = some rl → x2.toInt ≤ (hI h rl x1.toNatClampNeg).toInt → RyX ρ c o.1 o.2) ∧ Kf ρ [(59, 999)] h o.2) := by
  have gv := gi_v i1 i2
  have c1' : x1.toNatClampNeg ≤ 7 := rg_clamp i1 (by decide)
  have nx2 := nc_i i2.1
  unfold sX11_page
  refine s_q (fun v ev => ?_)
  have iv : Rg 0 2407 v := by rw [ev]; exact gi_r i1 i2
  have eg : gi x1 x2 = v.toNatClampNeg := by rw [ev]; rfl
  rw [eg] at h9 hO gv ⊢
  obtain ⟨r, er, qr⟩ := thR T r0 (i := 15) (k2 := 59) rfl (by decide)
  refine s_ref er ?_
  refine s_gd (by rw [thN T qr (k := 59) (n := 2408) rfl (by decide)]; exact rg_inB iv (by decide)) ?_
  have t1 : h.1 = c.1 := T.1.1
  cases q : hR h r v.toNatClampNeg with
  | none =>
    show Sat (cl (hR h x0 15) _) _
    refine s_ref er ?_
    refine s_q (fun a ea => ?_)
    refine s_q (fun h8 e8 => ?_)
    subst ea
    subst e8
    unfold sX11_page_25 sX11_page_29 sX11_page_30
    obtain ⟨o1, eo1, ρ1, c1, X1, T1, a1, w1, O1, M1, N1⟩ := newPosX hF hO T
    refine s_val eo1 ?_
    have r01 := ex_r X1 r0 (by decide)
    have qr1 := ex_r X1 qr (by decide)
    have lt : ∀ a, ρ a ≠ 0 → a < h.1.1 := fun a ha => by rw [t1]; exact T.2.1.2.2.1 a ha
    have lt0 : x0 < h.1.1 := lt x0 (by rw [r0]; decide)
    have ltr : r < h.1.1 := lt r (by rw [qr]; decide)
    have er1 : hR o1 x0 15 = some r := by rw [(O1 x0 lt0).2.2.1]; exact er
    refine s_gd (by rw [thN T1 qr1 (k := 59) (n := 2408) rfl (by decide)]; exact rg_inB iv (by decide)) ?_
    refine s_q (fun h2 e2 => ?_)
    have T2 : TH ρ1 c1 h2 := by
      rw [e2]
      exact th_wRe T1 qr1 (k2 := 4) rfl (by decide) a1 (by decide) (by decide) rfl rfl rfl w1 (ex_p X1 (h9 _))
    have er2 : hR h2 x0 15 = some r := by rw [e2, r_R, if_neg (ne_r r01 qr1 (by decide))]; exact er1
    refine s_ref er2 ?_
    refine s_gd (by rw [thN T2 qr1 (k := 59) (n := 2408) rfl (by decide)]; exact rg_inB iv (by decide)) ?_
    have ee : hR h2 r v.toNatClampNeg = some (hS h) := by rw [e2, r_R, if_pos ⟨rfl, rfl⟩]
    have neR : ∀ a k j, ρ a = k → k ≠ 0 → k ≠ 59 → hR h2 a j = hR h a j := fun a k j ha h0 h59 => by
      rw [e2, r_R, if_neg (ne_r (ex_r X1 ha h0) qr1 h59), (O1 a (lt a (by rw [ha]; exact h0))).2.2.1]
    have neI : ∀ a, ρ a ≠ 0 → ∀ j, hI h2 a j = hI h a j := fun a ha j => by rw [e2]; exact (O1 a (lt a ha)).1 j
    have old : ∀ j b, Pg x0 j b h2 → j = v.toNatClampNeg ∧ b = hS h ∨ Pg x0 j b h := fun j b ⟨r', g1, g2⟩ => by
      have : r' = r := r_eq er2 g1
      subst this
      by_cases z : j = v.toNatClampNeg
      · rw [z] at g2; exact Or.inl ⟨z, r_eq ee g2⟩
      · rw [e2, r_R, if_neg (fun y => z y.2), (O1 r' ltr).2.2.1] at g2
        exact Or.inr ⟨r', er, g2⟩
    have ryk : ∀ b, ρ b = 4 → RyX ρ c b h → RyX ρ c b h2 := fun b rb P => by
      refine ⟨fun ra e j hj nn L hL wL => ?_, fun L on s hL wL e hs z => ?_⟩
      · rw [neR b 4 2 rb (by decide) (by decide)] at e
        obtain ⟨ra', f3, s3⟩ := thR T rb (i := 2) (k2 := 36) rfl (by decide)
        rw [neI ra (by rw [r_eq f3 e, s3]; decide)] at nn
        rw [neI L (by rw [hL]; decide)]
        exact P.1 ra e j hj nn L hL wL
      · rw [neR b 4 0 rb (by decide) (by decide)] at e
        have qo := th_on T rb e
        rw [neI on (by rw [qo]; decide)] at z ⊢
        rw [neI L (by rw [hL]; decide), neI L (by rw [hL]; decide)]
        exact P.2 L on s hL wL e hs z
    have ryn : RyX ρ c (hS h) h2 := by
      refine ⟨fun ra e j hj nn => ?_, fun L on s hL wL e hs z => ?_⟩
      · have e1 : hR o1 (hS h) 2 = some ra := by rw [e2, r_R, if_neg (ne_r a1 qr1 (by decide))] at e; exact e
        have : hI h2 ra j = -1 := by rw [e2]; exact M1 ra e1 j hj
        rw [this] at nn
        exact absurd nn (by decide)
      · have e1 : hR o1 (hS h) 0 = some on := by rw [e2, r_R, if_neg (ne_r a1 qr1 (by decide))] at e; exact e
        have : (hI h2 on s).toInt < 0 := by rw [e2]; exact N1 on e1 s hs
        omega
    have kf : Kf ρ [(59, 999)] h h2 := fun a i na x => by
      refine ⟨neI a na i, by rw [e2]; exact (O1 a (lt a na)).2.1 i, neR a _ i rfl na (fun z => ?_)⟩
      rw [z] at x
      exact absurd x (by simp [mS])
    have kp : ∀ j b, Pg x0 j b h → Pg x0 j b h2 ∧ (RyX ρ c b h → RyX ρ c b h2) := fun j b B => by
      refine ⟨?_, ryk b (pg_r T r0 B).1⟩
      obtain ⟨r', g1, g2⟩ := B
      have : r' = r := r_eq er g1
      subst this
      have z : j ≠ v.toNatClampNeg := fun z => by rw [z, q] at g2; exact absurd g2 (by simp)
      exact ⟨r', er2, by rw [e2, r_R, if_neg (fun y => z y.2), (O1 r' ltr).2.2.1]; exact g2⟩
    refine s_ref ee (s_some ⟨ρ1, c1, X1, T2, ⟨r, er2, ee⟩, kp, fun rl el m k hm hk b B => ?_, fun _ _ _ => ryn, kf⟩)
    rcases old _ _ B with ⟨z, zb⟩ | B0
    · rw [zb]; exact ryn
    · obtain ⟨q1, f1, g1⟩ := thR T r0 (i := 17) (k2 := 61) rfl (by decide)
      rw [neR x0 12 17 r0 (by decide) (by decide)] at el
      rw [neI rl (by rw [r_eq f1 el, g1]; decide)] at hk
      exact ryk b (pg_r T r0 B0).1 (P rl el m k hm hk b B0)
  | some r4 =>
    show Sat (sX11_page_30 F h x0 v) _
    unfold sX11_page_30
    refine s_ref er ?_
    refine s_gd (by rw [thN T qr (k := 59) (n := 2408) rfl (by decide)]; exact rg_inB iv (by decide)) ?_
    exact s_ref q (s_some ⟨ρ, c, ex_0, T, ⟨r, er, q⟩, fun _ _ B => ⟨B, id⟩, P, fun rl el le => P rl el x1.toNatClampNeg x2.toNatClampNeg (by omega) (by omega) r4 ⟨r, er, by rw [← gv]; exact q⟩, fun _ _ _ _ => ⟨rfl, rfl, rfl⟩⟩)
theorem s_pageX {β : Type} {Q : β → Prop} {k : Nat × Hp → Option β} (hF : 700000 ≤ F) (hp : ∀ k w i, SZ E wp k w i = true → cPm c k w i = true) (hi : ∀ i, E 59 i = true) (hw : ∀ j, j ≤ 2407 → wp (8000 + j) = true) (T : TH ρ c h) (r0 : ρ x0 = 12) (i1 : Rg 0 7 x1) (i2 : Rg 0 300 x2) (P : PgX ρ c x0 h) (H : ∀ o ρ1 c1, Ext ρ c ρ1 c1 → TH ρ1 c1 o.2 → Fr ρ (cat c (SZ (g59 (gi x1 x2)) (is (8000 + gi x1 x2))) h) h o.2 → Pg x0 (gi x1 x2) o.1 o.2 → (∀ j b, Pg x0 j b h → Pg x0 j b o.2 ∧ (RyX ρ c b h → RyX ρ c b o.2)) → PgX ρ c x0 o.2 → (∀ rl, hR h x0 17 = some rl → x2.toInt ≤ (hI h rl x1.toNatClampNeg).toInt → RyX ρ c o.1 o.2) → Kf ρ [(59, 999)] h o.2 → Sat (k o) Q) : Sat (cl (sX11_page F h x0 x1 x2) k) Q :=
  s_mk (g := fun (o : Nat × Hp) => o.2) (P := fun (o : Nat × Hp) (_ : Nat → Nat) (_ : Cm) => Pg x0 (gi x1 x2) o.1 o.2 ∧ (∀ j b, Pg x0 j b h → Pg x0 j b o.2 ∧ (RyX ρ c b h → RyX ρ c b o.2)) ∧ PgX ρ c x0 o.2 ∧ (∀ rl, hR h x0 17 = some rl → x2.toInt ≤ (hI h rl x1.toNatClampNeg).toInt → RyX ρ c o.1 o.2) ∧ Kf ρ [(59, 999)] h o.2) T (fun k w i m => hp k w i (sz_sub (fun k i z => by
      unfold g59 at z
      rw [Bool.and_eq_true, beq_iff_eq] at z
      rw [z.1]; exact hi i) (fun w z => by rw [is_e z]; exact hw _ (rg_clamp (gi_r i1 i2) (by decide))) m))
    (pagePX (c := cat c (SZ (g59 (gi x1 x2)) (is (8000 + gi x1 x2))) h) hF (szE (sx_c _) (by unfold g59; rw [beq_self_eq_true, beq_self_eq_true]; rfl)) (pmO_s (szP (sx_c _) is_s) rfl) (th_in _ T) r0 i1 i2 P) (fun _ _ _ _ _ p => p) (fun o ρ1 c1 X T1 f p => H o ρ1 c1 X T1 f p.1 p.2.1 p.2.2.1 p.2.2.2.1 p.2.2.2.2)
end
end
section
/-! start, add: pages keep to the law -/
section
variable {ρ ρ1 : Nat → Nat} {c c1 : Cm} {h o g : Hp} {E : Nat → Nat → Bool} {wp : Nat → Bool} {x0 b w i F L : Nat} {x1 x2 x3 : Int32} {n m : Int}
theorem pgx_x (T : TH ρ c h) (r0 : ρ x0 = 12) (X : Ext ρ c ρ1 c1) (T1 : TH ρ1 c1 o) (P : PgX ρ c x0 g) : PgX ρ1 c1 x0 g := fun rl el m k hm hk b B => ryx_x T r0 X T1 (P rl el m k hm hk b B)
theorem pgx_y (X : Ext ρ c ρ1 c1) (P : PgX ρ1 c1 x0 g) : PgX ρ c x0 g := fun rl el m k hm hk b B => ryx_y X (P rl el m k hm hk b B)
theorem pgx_len {rl : Nat} {n0 : Nat} {v : Int32} (T : TH ρ c h) (r0 : ρ x0 = 12) (er : hR h x0 17 = some rl) (qr : ρ rl = 61) (hv : ∀ k : Nat, (k : Int) ≤ v.toInt → ∀ b, Pg x0 (301 * n0 + k) b h → RyX ρ c b h) (P : PgX ρ c x0 h) (e : o = wI h rl n0 v) : PgX ρ c x0 o := fun rl' el m k hm hk b B => by
  have f := fr1I (c := c) (A := [(61, 999)]) (k := 61) qr rfl e
  have el' : hR h x0 17 = some rl' := by rw [e] at el; exact el
  have : rl' = rl := r_eq er el'
  subst this
  have B0 : Pg x0 (301 * m + k) b h := by obtain ⟨r, s1, s2⟩ := B; exact ⟨r, by rw [e] at s1; exact s1, by rw [e] at s2; exact s2⟩
  refine ryx_w c61x T (pg_r T r0 B0).1 f ?_
  by_cases z : m = n0
  · subst z
    rw [he_s e] at hk
    exact hv k hk b B0
  · rw [e, r_I, if_neg (fun y => z y.2)] at hk
    exact P rl' el' m k hm hk b B0
theorem pgx_w {A : List (Nat × Nat)} (hA : ∀ k i, k = 4 ∨ k = 36 ∨ k = 2 ∨ k = 34 → mS A k i = false) {a j : Nat} {v : Int32} (T : TH ρ c h) (r0 : ρ x0 = 12) (na : ∀ rl, hR h x0 17 = some rl → ¬ rl = a) (f : Fr ρ (cat c (fS A []) h) h o) (P : PgX ρ c x0 h) (e : o = wI h a j v) : PgX ρ c x0 o := fun rl' el m k hm hk b B => by
  have el' : hR h x0 17 = some rl' := by rw [e] at el; exact el
  have B0 : Pg x0 (301 * m + k) b h := by obtain ⟨r, s1, s2⟩ := B; exact ⟨r, by rw [e] at s1; exact s1, by rw [e] at s2; exact s2⟩
  refine ryx_w hA T (pg_r T r0 B0).1 f ?_
  rw [e, r_I, if_neg (fun y => na rl' el' y.1)] at hk
  exact P rl' el' m k hm hk b B0
def PCX (ρ : Nat → Nat) (c : Cm) (x0 i b : Nat) (h : Hp) : Prop := ∃ r, hR h x0 13 = some r ∧ hR h r i = some b ∧ RyX ρ c b h
theorem pcx_r (T : TH ρ c h) (r0 : ρ x0 = 12) (hi : i < 60) {ρ' : Nat → Nat} {c' : Cm} (B : PCX ρ' c' x0 i b h) : ρ b = 4 ∧ cw c b = 3200 := by
  obtain ⟨r, e1, e2, _⟩ := B
  obtain ⟨q1, f1, g1⟩ := thR T r0 (i := 13) (k2 := 57) rfl (by decide)
  have h1 : ρ r = 57 := by rw [r_eq f1 e1]; exact g1
  have hk : rfK 57 i = 4 := if_pos hi
  obtain ⟨b', e3, e4⟩ := thR T h1 (i := i) (k2 := 4) hk (by decide)
  exact ⟨by rw [r_eq e3 e2]; exact e4, th_id T h1 (w := 3200) e2 rfl (by decide)⟩
theorem pcx_of {o1 : Int32 × Hp} (T : TH ρ c h) (r0 : ρ x0 = 12) (pl : PlP ρ c x0 h) (px : PlX ρ c x0 h) (e : sX11_isPlace h x0 x1 = some o1) (n1 : ¬ o1.1 = 0) (l60 : x1.toNatClampNeg < 60) : ∃ b, PCX ρ c x0 x1.toNatClampNeg b h := by
  obtain ⟨b, r, e1, e2, P⟩ := pc_of T r0 (hr_of T r0 pl e n1)
  exact ⟨b, r, e1, e2, P, isp_x px e n1 l60 e1 e2⟩
theorem pcx_sz (n : niceC E) (hi : i < 60) (T : TH ρ c h) (r0 : ρ x0 = 12) (f : Fr ρ (cat c (SZ E wp) h) h o) (hb : wp 3200 = false) (B : PCX ρ c x0 i b h) : PCX ρ c x0 i b o := by
  obtain ⟨k1, k3⟩ := pcx_r T r0 hi B
  obtain ⟨r, e1, e2, P⟩ := B
  obtain ⟨q1, f1, g1⟩ := thR T r0 (i := 13) (k2 := 57) rfl (by decide)
  have h1 : ρ r = 57 := by rw [r_eq f1 e1]; exact g1
  refine ⟨r, ?_, ?_, ryx_sz n T k1 k3 hb f P⟩
  · rw [x12 r0 f n.2.1]; exact e1
  · rw [(fr_RI f h1 (by decide) (fun _ => sz_f (n.2.2.2.2.2.2.2 _) rfl (Or.inl rfl))).2.2]; exact e2
theorem pcx_x (T : TH ρ c h) (r0 : ρ x0 = 12) (X : Ext ρ c ρ1 c1) (T1 : TH ρ1 c1 o) (B : PCX ρ c x0 i b g) : PCX ρ1 c1 x0 i b g := by
  obtain ⟨r, e1, e2, P⟩ := B
  exact ⟨r, e1, e2, ryx_x T r0 X T1 P⟩
theorem s_pcx {β : Type} {Q : β → Prop} {k : Nat → Option β} {ρ' : Nat → Nat} {c' : Cm} (T : TH ρ c h) (r0 : ρ x0 = 12) (i1 : Rg 0 59 x1) (B : PCX ρ' c' x0 x1.toNatClampNeg b h) (H : Sat (k b) Q) : Sat (cl (hR h x0 13) fun r_1 => gd (inB x1 (hN h r_1)) <| cl (hR h r_1 x1.toNatClampNeg) k) Q := by
  obtain ⟨r, e1, e2, P⟩ := B
  obtain ⟨q1, f1, g1⟩ := thR T r0 (i := 13) (k2 := 57) rfl (by decide)
  have h1 : ρ r = 57 := by rw [r_eq f1 e1]; exact g1
  refine s_ref e1 ?_
  refine s_gd (by rw [thN T h1 (k := 57) (n := 60) rfl (by decide)]; exact rg_inB i1 (by decide)) ?_
  exact s_ref e2 H
theorem s_copyX {β : Type} {Q : β → Prop} {k : Hp → Option β} {y wy : Nat} (hF : 700000 ≤ F) (hp : ∀ k w i, SZ E wp k w i = true → cPm c k w i = true) (hi : wp (8000 + i) = true) (T : TH ρ c h) (r0 : ρ x0 = 12) (B : Pg x0 i b h) (ry : ρ y = 4) (P : RyX ρ c y h) (pg : PgX ρ c x0 h) (H : ∀ o, TH ρ c o → Fr ρ (cat c (SZ noE (is (8000 + i))) h) h o → Pg x0 i b o → RyX ρ c b o → PgX ρ c x0 o → ((∀ a i, hR o a i = hR h a i) ∧ ∀ a i, kq (ρ a) = false → hI o a i = hI h a i) → Sat (k o) Q) : Sat (cl (sX3_copyFrom F h b y) k) Q := by
  obtain ⟨k1, k2⟩ := pg_r T r0 B
  have hs : ∀ k w i', SZ noE (is (8000 + i)) k w i' = true → cPm c k w i' = true := fun k w i' m => hp k w i' (sz_sub (fun _ _ z => noE_f z) (fun w z => by rw [is_e z]; exact hi) m)
  refine s_cVfq T hs (s_weq (zX3_copyFrom hF (by show pmO _ (cw c b) _; rw [k2]; exact pmO_s (szP (sx_c _) is_s) rfl) (th_in _ T) k1 ry)) (fun o T1 f e => ?_)
  have P1 := ryx_copy T r0 k1 ry e P
  obtain ⟨L, eL, rL⟩ := thR T r0 (i := 2) (k2 := 2) rfl (by decide)
  have wL : cw c L = 2102 := kid_w T r0 (i := 2) (w := 2102) rfl (by decide) eL
  obtain ⟨on, eo, qo⟩ := thR T ry (i := 0) (k2 := 34) rfl (by decide)
  have kx := copy_x (n := (hI h L 2).toInt) (m := (hI h L 3).toInt) (pr_th T k1) eo (fun s hs z => P.2 L on s rL wL eo hs z) e
  refine H o T1 f ((pg_sz niceC_0 rfl T r0 f).mp B) P1 ?_ ⟨kx.1, kx.2.1⟩
  refine (pgx_sz niceC_0 (fun _ => rfl) (fun _ => rfl) T r0 f (fun j => ?_) pg)
  by_cases q : j = i
  · subst q
    exact Or.inr (fun b' B' _ => by rw [pg_u B B']; exact P1)
  · exact Or.inl (is_f (by omega))
theorem start_x (hF : 700000 ≤ F) (hp : ∀ k w i, SZ pgE pgW k w i = true → cPm c k w i = true) (T : TH ρ c h) (r0 : ρ x0 = 12) (pl : PlP ρ c x0 h) (px : PlX ρ c x0 h) (pg : PgX ρ c x0 h) : Sat (sX11_start F h x0 x1 x2) (MkI ρ c (-102) 0 (PgX ρ c x0)) := by
  unfold sX11_start
  refine s_dP0 (zX11_isGame hF T (rg_top _)) (fun oo eb e ii pp => ?_)
  rw [e]
  unfold sX11_start_4
  refine s_br (fun _ => s_some ⟨ρ, c, ex_0, T, rg_b rfl, pg⟩) (fun nz => ?_)
  have i1 := pp nz
  refine s_dP0 (zX11_isPlace hF T r0 (rg_top _)) (fun o2 eb2 e2 ii2 pp2 => ?_)
  rw [e2]
  unfold sX11_start_15
  refine s_br (fun _ => s_some ⟨ρ, c, ex_0, T, rg_b rfl, pg⟩) (fun nz2 => ?_)
  have i2 := pp2 nz2
  have l60 : x2.toNatClampNeg < 60 := by have := rg_clamp (n := 59) i2 (by decide); omega
  obtain ⟨b, B⟩ := pcx_of T r0 pl px eb2 nz2 l60
  have i0 : Rg 0 300 (0 : Int32) := rg_b rfl
  refine s_pageX hF hp (fun _ => rfl) (fun j hj => pgW_t hj) T r0 i1 i0 pg (fun o3 ρ1 c1 X1 T1 f1 B1 kp1 pg1 _ _ => ?_)
  have r1 := ex_r X1 r0 (by decide)
  have hp1 := ex_hp X1 hp
  have B2 := pcx_x T r0 X1 T1 (pcx_sz niceC_59 l60 T r0 f1 (is_f (by omega)) B)
  obtain ⟨kb, wb'⟩ := pcx_r T1 r1 l60 B2
  have PB : RyX ρ1 c1 b o3.2 := by obtain ⟨_, _, _, q⟩ := B2; exact q
  unfold sX11_start_27
  refine s_pcx T1 r1 i2 B2 ?_
  have lg : gi x1 0 ≤ 2407 := rg_clamp (gi_r i1 i0) (by decide)
  refine s_copyX (wy := 3200) hF hp1 (pgW_t lg) T1 r1 B1 kb PB (pgx_x T r0 X1 T1 pg1) (fun o4 T4 f4 B4 P4 pg4 _ => ?_)
  unfold sX11_start_36
  refine s_len T4 r1 i1 (fun r er qr => ?_)
  refine s_hq (th_wI T4 qr (k := 61) (lo := -1) (hi := 300) rfl (rg_b rfl) (by decide) (by decide) (szE hp1 rfl _)) (fun g5 T5 e5 => ?_)
  refine s_some ⟨ρ1, c1, X1, T5, rg_b rfl, pgx_y X1 (pgx_len T4 r1 er qr (fun k hk b' B' => ?_) pg4 e5)⟩
  have zz : (0 : Int32).toInt = 0 := rfl
  have k0 : k = 0 := by omega
  have gv := gi_v i1 i0
  have z0 : (0 : Int32).toNatClampNeg = 0 := rfl
  rw [z0] at gv
  rw [k0, ← gv] at B'
  rw [pg_u B4 B']; exact P4
end
end
section
/-! add: pages keep to the law -/
section
variable {ρ ρ1 : Nat → Nat} {c c1 : Cm} {h o g : Hp} {E : Nat → Nat → Bool} {wp : Nat → Bool} {x0 b w i F L : Nat} {x1 x2 x3 : Int32} {n m : Int}
theorem lwx_x (T : TH ρ c h) (r0 : ρ x0 = 12) (X : Ext ρ c ρ1 c1) (T1 : TH ρ1 c1 o) (P : LwX ρ c g) : LwX ρ1 c1 g := fun L hL wL => by
  obtain ⟨a, w⟩ := law_ext T r0 X T1 hL wL
  exact P L a w
theorem lwx_y (X : Ext ρ c ρ1 c1) (P : LwX ρ1 c1 g) : LwX ρ c g := fun L hL wL => P L (ex_r X hL (by decide)) (ex_w X hL (by decide) wL)
theorem way_ext (T : TH ρ c h) (r0 : ρ x0 = 12) (X : Ext ρ c ρ1 c1) (T1 : TH ρ1 c1 o) {W : Nat} (hW : ρ1 W = 11) : ρ W = 11 := by
  obtain ⟨W0, e0, q0⟩ := thR T r0 (i := 5) (k2 := 11) rfl (by decide)
  have q1 := ex_r X q0 (by decide)
  have e : W = W0 := T1.1.2.2.2.2.2.2.2.2 W W0 (by rw [hW, q1]) (Or.inl (by rw [hW]; rfl))
  rw [e]; exact q0
theorem wya_x (T : TH ρ c h) (r0 : ρ x0 = 12) (X : Ext ρ c ρ1 c1) (T1 : TH ρ1 c1 o) (P : WyA ρ c g) : WyA ρ1 c1 g := fun W L hW hL wL => by
  obtain ⟨a, w⟩ := law_ext T r0 X T1 hL wL
  exact P W L (way_ext T r0 X T1 hW) a w
theorem wya_y (X : Ext ρ c ρ1 c1) (P : WyA ρ1 c1 g) : WyA ρ c g := fun W L hW hL wL => P W L (ex_r X hW (by decide)) (ex_r X hL (by decide)) (ex_w X hL (by decide) wL)
theorem add_x (hF : 700000 ≤ F) (hp : ∀ k w i, SZ pgE pgW k w i = true → cPm c k w i = true) (T : TH ρ c h) (r0 : ρ x0 = 12) (lw : LwR ρ c h) (lx : LwX ρ c h) (wx : WyA ρ c h) (pg : PgX ρ c x0 h) : Sat (sX11_add F h x0 x1 x2) (MkI ρ c (-104) 300 (PgX ρ c x0)) := by
  unfold sX11_add
  refine s_dP0 (zX11_isGame hF T (rg_top _)) (fun oo eb e ii pp => ?_)
  rw [e]
  unfold sX11_add_4
  refine s_br (fun _ => s_some ⟨ρ, c, ex_0, T, rg_b rfl, pg⟩) (fun nz => ?_)
  have i1 := pp nz
  refine s_len T r0 i1 (fun r er qr => ?_)
  refine s_q (fun p0 ep0 => ?_)
  refine s_br (fun _ => s_some ⟨ρ, c, ex_0, T, rg_b rfl, pg⟩) (fun n1 => ?_)
  have i2 : Rg 0 300 p0 := rg_nlo n1 (by rw [ep0]; exact thI T qr (k := 61) (lo := -1) (hi := 300) rfl) (rg_b rfl : Rg (-1) (-1) (-1 : Int32))
  refine s_pageX hF hp (fun _ => rfl) (fun j hj => pgW_t hj) T r0 i1 i2 pg (fun o3 ρ1 c1 X1 T1 f1 B1 kp1 pg1 us1 kf1 => ?_)
  have r1 := ex_r X1 r0 (by decide)
  have qr1 := ex_r X1 qr (by decide)
  have hp1 := ex_hp X1 hp
  have lw1 := lw_x T r0 X1 T1 (lw_sz niceC_59 T f1 lw)
  have lx1 := lwx_x T r0 X1 T1 (lwx_k T kf1 (P := lx))
  have wx1 := wya_x T r0 X1 T1 (wya_k T kf1 (P := wx))
  have P1 := ryx_x T r0 X1 T1 (us1 r er (by rw [ep0]; exact Int.le_refl _))
  have pg1' := pgx_x T r0 X1 T1 pg1
  obtain ⟨k1, w1⟩ := pg_r T1 r1 B1
  unfold sX11_add_31
  obtain ⟨rf, erf, qrf⟩ := thR T1 r1 (i := 6) (k2 := 6) rfl (by decide)
  refine s_ref erf ?_
  obtain ⟨ls, els, qls⟩ := thR T1 r1 (i := 12) (k2 := 47) rfl (by decide)
  refine s_ref els ?_
  have hs : ∀ k w i, SZ noE (is 1503) k w i = true → cPm c1 k w i = true := fun k w i m => hp1 k w i (sz_sub (fun _ _ z => noE_f z) (fun w z => by rw [is_e z]; rfl) m)
  refine s_cIfq T1 hs (s_weq (zX5_collect hF (pmA_s (szA (sx_c _)) rfl) (pmO_s (szP (sx_c _) is_s) rfl) w1 rfl (by omega) (th_in _ T1) qrf k1 qls (rg_b rfl) lw1 P1.1)) (fun o4 T4 i4 f4 eq4 => ?_)
  obtain ⟨L, eL, rL⟩ := thR T1 r1 (i := 2) (k2 := 2) rfl (by decide)
  have wL : cw c1 L = 2102 := kid_w T1 r1 (i := 2) (w := 2102) rfl (by decide) eL
  have LQ4 : LQ ls (hI o3.2 L 2).toInt (hI o3.2 L 3).toInt o4 := (sat_e (collect_q (c := cat c1 (SZ noE (is 1503)) o3.2) hF (pmA_s (szA (sx_c _)) rfl) (pmO_s (szP (sx_c _) is_s) rfl) w1 rfl (by omega) (th_in _ T1) qrf k1 qls (rg_b rfl) lw1 P1.1 lx1 wx1 P1.2) eq4).2 L rL wL
  have P4 := ryx_sz niceC_0 T1 k1 w1 (no8 (by decide)) f4 P1
  have pg4 := pgx_sz niceC_0 (fun _ => rfl) (fun _ => rfl) T1 r1 f4 (fun j => Or.inl (no8 (by decide))) pg1'
  have B4 := (pg_sz niceC_0 rfl T1 r1 f4).mp B1
  unfold sX11_add_49 sX11_add_61
  have ex : ∀ {y : Int32}, Rg (-104) 300 y → Sat (some (y, o4.2)) (MkI ρ c (-104) 300 (PgX ρ c x0)) := fun hy => s_some ⟨ρ1, c1, X1, T4, hy, pgx_y X1 pg4⟩
  refine s_br (fun _ => ex (rg_b rfl)) (fun n2 => ?_)
  refine s_br (fun n3 => ?_) (fun _ => ex (rg_b rfl))
  refine s_br (fun n4 => ?_) (fun _ => ex (rg_b rfl))
  have l3 : p0.toInt < 300 := lt_i n4
  have i3 : Rg 0 299 p0 := ⟨i2.1, by omega⟩
  have i5 : Rg 0 300 (p0 + (1 : Int32)) := rg_add i3 (rg_b rfl : Rg 1 1 (1 : Int32)) (by decide)
  have lx2 := lt_i n3
  have ix : Rg 0 4095 x2 := ⟨nlt_i n2, by have := i4.2; omega⟩
  refine s_pageX hF hp1 (fun _ => rfl) (fun j hj => pgW_t hj) T4 r1 i1 i5 pg4 (fun o5 ρ5 c5 X5 T5 f5 B5 kp5 pg5 _ kf5 => ?_)
  have r5 := ex_r X5 r1 (by decide)
  have hp5 := ex_hp X5 hp1
  obtain ⟨B45, Q45⟩ := kp5 _ _ B4
  have P5 := ryx_x T4 r1 X5 T5 (Q45 P4)
  have pg5' := pgx_x T4 r1 X5 T5 pg5
  obtain ⟨k5, w5⟩ := pg_r T5 r5 B45
  have lg : gi x1 (p0 + 1) ≤ 2407 := rg_clamp (gi_r i1 i5) (by decide)
  unfold sX11_add_82
  refine s_copyX (wy := 0) hF hp5 (pgW_t lg) T5 r5 B5 k5 P5 pg5' (fun o6 T6 f6 B6 P6 pg6 eq6 => ?_)
  unfold sX11_add_91
  obtain ⟨rf6, erf6, qrf6⟩ := thR T6 r5 (i := 6) (k2 := 6) rfl (by decide)
  refine s_ref erf6 ?_
  obtain ⟨ls6, els6, qls6⟩ := thR T6 r5 (i := 12) (k2 := 47) rfl (by decide)
  refine s_ref els6 ?_
  refine s_gd (by rw [thN T6 qls6 (k := 47) (n := 4096) rfl (by decide)]; exact rg_inB ix (by decide)) ?_
  obtain ⟨k6, w6⟩ := pg_r T6 r5 B6
  have hs6 : ∀ k w i, SZ noE (is (8000 + gi x1 (p0 + 1))) k w i = true → cPm c5 k w i = true := fun k w i m => hp5 k w i (sz_sub (fun _ _ z => noE_f z) (fun w z => by rw [is_e z]; exact pgW_t lg) m)
  refine s_cVfq T6 hs6 (s_weqp (zX5_make hF (pmO_s (szP (sx_c _) is_s) rfl) w6 (th_in _ T6) qrf6 k6 (rg_top _) (thG T6 qls6))) (fun o7 T7 f7 rc7 => ?_)
  have rL5 := ex_r X5 rL (by decide)
  have wL5 := ex_w X5 rL (by decide) wL
  obtain ⟨k56, I56⟩ := eq6
  have els5 : hR o5.2 x0 12 = some ls := by rw [kfR 12 kf5 r1 (by decide), x12 r1 f4 rfl]; exact els
  have y6 : ls6 = ls := by rw [k56] at els6; exact r_eq els5 els6
  subst y6
  have IL : ∀ j, j = 2 ∨ j = 3 ∨ j = 6 → hI o6 L j = hI o3.2 L j := fun j hj => by
    rw [I56 L j (by rw [rL5]; rfl), kfI j kf5 rL (by decide) (by rcases hj with z | z | z <;> rw [z] <;> rfl), (fr_RI f4 rL (by decide) (fun _ => sz_f rfl (by rcases hj with z | z | z <;> rw [z] <;> rfl) (Or.inl (by rcases hj with z | z | z <;> rw [z] <;> rfl)))).1]
  have I47 : hI o6 ls6 x2.toNatClampNeg = hI o4.2 ls6 x2.toNatClampNeg := by rw [I56 ls6 _ (by rw [qls6]; rfl), kfI _ kf5 qls (by decide)]
  have MX : MvX (hI o6 L 2).toInt (hI o6 L 3).toInt (hI o6 ls6 x2.toNatClampNeg) := by
    rw [IL 2 (by decide), IL 3 (by decide), I47]
    exact LQ4 x2.toNatClampNeg (by have := nc_i ix.1; omega)
  have SP6 : ShP ρ5 rf6 o5.1 L (hI o6 L 3).toInt o6 := by
    obtain ⟨L6, eL6, rL6⟩ := thR T6 qrf6 (i := 0) (k2 := 2) rfl (by decide)
    have wL6 : cw c5 L6 = 2102 := kid_w T6 qrf6 (i := 0) (w := 2102) rfl (by decide) eL6
    have y : L6 = L := law_1 T6 rL5 wL5 rL6 wL6
    subst y
    refine ⟨pr_th T6 k6, eL6, rL5, thI T6 k6 (k := 4) (i := 5) rfl, thI T6 rL5 (k := 2) (i := 6) rfl, ?_, (thI T6 rL5 (k := 2) (i := 3) (lo := 0) (hi := 12) rfl).2⟩
    rw [IL 6 (by decide), IL 3 (by decide)]
    exact (lx1 L6 rL wL).2.1
  have k7 := make_x SP6 MX rc7.2
  have P7 : RyX ρ5 c5 o5.1 o7 := ⟨rc7.1 _ k6 P6.1, pox_k k7 T6 k6 rL5 wL5 rfl rfl P6.2⟩
  have pg7 : PgX ρ5 c5 x0 o7 := pgx_sz niceC_0 (fun _ => rfl) (fun _ => rfl) T6 r5 f7 (fun j => Or.inr (fun b B Pb => ⟨rc7.1 b (pg_r T6 r5 B).1 Pb.1, pox_k k7 T6 (pg_r T6 r5 B).1 rL5 wL5 rfl rfl Pb.2⟩)) pg6
  have B7 := (pg_sz niceC_0 rfl T6 r5 f7).mp B6
  unfold sX11_add_106
  obtain ⟨md, emd, qmd⟩ := thR T7 r5 (i := 16) (k2 := 60) rfl (by decide)
  refine s_ref emd ?_
  refine s_gd (by rw [thN T7 qmd (k := 60) (n := 2408) rfl (by decide)]; exact rg_inB (gi_r i1 i2) (by decide)) ?_
  refine s_hq (th_wI T7 qmd (k := 60) (lo := 0) (hi := 4095) rfl ix (by decide) (by decide) (szE hp5 rfl _)) (fun g8 T8 e8 => ?_)
  have f8 := fr1I (c := c5) (A := [(60, 999)]) (k := 60) qmd rfl e8
  obtain ⟨r7, er7, qr7⟩ := thR T7 r5 (i := 17) (k2 := 61) rfl (by decide)
  have pg8 := pgx_w c60x T7 r5 (fun rl el z => by rw [r_eq er7 el] at z; rw [z, qmd] at qr7; exact absurd qr7 (by decide)) f8 pg7 e8
  have P8 := ryx_w c60x T7 (pg_r T7 r5 B7).1 f8 P7
  have B8 : Pg x0 (gi x1 (p0 + 1)) o5.1 g8 := by obtain ⟨q, s1, s2⟩ := B7; exact ⟨q, by rw [e8]; exact s1, by rw [e8]; exact s2⟩
  refine s_len T8 r5 i1 (fun r9 er9 qr9 => ?_)
  refine s_hq (th_wI T8 qr9 (k := 61) (lo := -1) (hi := 300) rfl (rg_m i5 (by decide)) (by decide) (by decide) (szE hp5 rfl _)) (fun g9 T9 e9 => ?_)
  -- the length was the one that was read
  have el9 : (hI g8 r9 x1.toNatClampNeg) = p0 := by
    have a1 : hR o3.2 x0 17 = some r := by rw [x12 r0 f1 rfl]; exact er
    have a4 : hR o4.2 x0 17 = some r := by rw [x12 r1 f4 rfl]; exact a1
    have a5 : hR o5.2 x0 17 = some r := by rw [x12 r1 f5 rfl]; exact a4
    have a6 : hR o6 x0 17 = some r := by rw [x12 r5 f6 rfl]; exact a5
    have a7 : hR o7 x0 17 = some r := by rw [x12 r5 f7 rfl]; exact a6
    have a8 : hR g8 x0 17 = some r := by rw [e8]; exact a7
    have : r9 = r := r_eq a8 er9
    subst this
    have q5 := ex_r X5 qr1 (by decide)
    rw [e8, r_I, if_neg (ne_r q5 qmd (by decide)), (fr_RI f7 q5 (by decide) (fun _ => sz_f rfl rfl (Or.inl rfl))).1, (fr_RI f6 q5 (by decide) (fun _ => sz_f rfl rfl (Or.inl rfl))).1, (fr_RI f5 qr1 (by decide) (fun _ => sz_f rfl rfl (Or.inl rfl))).1, (fr_RI f4 qr1 (by decide) (fun _ => sz_f rfl rfl (Or.inl rfl))).1, (fr_RI f1 qr (by decide) (fun _ => sz_f rfl rfl (Or.inl rfl))).1]
    exact ep0.symm
  refine s_some ⟨ρ5, c5, ex_t X1 X5, T9, rg_m i5 (by decide), pgx_y (ex_t X1 X5) (pgx_len T8 r5 er9 qr9 (fun k hk b' B' => ?_) pg8 e9)⟩
  have ep1 := (nc_s i3 (by decide)).2
  have gv := gi_v i1 i5
  have np1 := nc_i i5.1
  rw [ep1] at hk
  by_cases z : k = (p0 + (1 : Int32)).toNatClampNeg
  · rw [z, ← gv] at B'
    rw [pg_u B8 B']; exact P8
  · exact pg8 r9 er9 x1.toNatClampNeg k (by have := rg_clamp (n := 7) i1 (by decide); omega) (by rw [el9]; omega) b' B'
end
end
section
/-! game, now, book: pages keep to the law -/
section
variable {ρ ρ1 : Nat → Nat} {c c1 : Cm} {h o g : Hp} {E : Nat → Nat → Bool} {wp : Nat → Bool} {x0 b w i F L : Nat} {x1 x2 x3 : Int32} {n m : Int}
def KpX (ρ : Nat → Nat) (c : Cm) (x0 b : Nat) (h : Hp) : Prop := ρ b = 4 ∧ RyX ρ c b h ∧ ((∃ j, Pg x0 j b h) ∨ cw c b = 3200)
theorem kpx_w (T : TH ρ c h) (r0 : ρ x0 = 12) (K : KpX ρ c x0 b h) : ¬ cw c b = 1503 := by
  rcases K.2.2 with ⟨j, B⟩ | q
  · rw [(pg_r T r0 B).2]; omega
  · rw [q]; decide
theorem kpx_page (T : TH ρ c h) (r0 : ρ x0 = 12) (X : Ext ρ c ρ1 c1) (T1 : TH ρ1 c1 o) (f : Fr ρ (cat c (SZ (g59 i) (is (8000 + i))) h) h o) (kp : ∀ j b, Pg x0 j b h → Pg x0 j b o ∧ (RyX ρ c b h → RyX ρ c b o)) (K : KpX ρ c x0 b h) : KpX ρ1 c1 x0 b o := by
  obtain ⟨k1, P, q⟩ := K
  refine ⟨ex_r X k1 (by decide), ?_, ?_⟩
  · refine ryx_x T r0 X T1 ?_
    rcases q with ⟨j, B⟩ | q
    · exact (kp j b B).2 P
    · exact ryx_sz niceC_59 T k1 q (is_f (by omega)) f P
  · rcases q with ⟨j, B⟩ | q
    · exact Or.inl ⟨j, (kp j b B).1⟩
    · exact Or.inr (ex_w X k1 (by decide) q)
theorem kpx_sz (T : TH ρ c h) (r0 : ρ x0 = 12) (f : Fr ρ (cat c (SZ noE (is 1503)) h) h o) (K : KpX ρ c x0 b h) : KpX ρ c x0 b o := by
  obtain ⟨k1, P, q⟩ := K
  refine ⟨k1, ?_, ?_⟩
  · rcases q with ⟨j, B⟩ | q
    · exact ryx_sz niceC_0 T k1 (pg_r T r0 B).2 (no8 (by decide)) f P
    · exact ryx_sz niceC_0 T k1 q rfl f P
  · rcases q with ⟨j, B⟩ | q
    · exact Or.inl ⟨j, (pg_sz niceC_0 rfl T r0 f).mp B⟩
    · exact Or.inr q
theorem alikex_loop (hF : 700000 ≤ F) : ∀ (f : Nat) {ρ : Nat → Nat} {c : Cm} {h : Hp} {b : Nat} {x1 x3 x4 x5 : Int32}, (∀ k w i, SZ pgE pgW k w i = true → cPm c k w i = true) → TH ρ c h → ρ x0 = 12 → Rg 0 7 x1 → LwR ρ c h → PgX ρ c x0 h → KpX ρ c x0 b h → 0 ≤ x5.toInt → (301 - x5.toInt).toNat < f → Sat (sX11_countAlike_6 F f h x0 x1 b x3 x4 x5) (MkI ρ c (-2147483648) 2147483647 (fun o => LwR ρ c o ∧ PgX ρ c x0 o ∧ KpX ρ c x0 b o)) := by
  intro f
  induction f with
  | zero => intros; omega
  | succ f ih =>
    intro ρ c h b x1 x3 x4 x5 hp T r0 i1 lw pg K a5 hf
    rw [sX11_countAlike_6]
    refine s_len T r0 i1 (fun r er qr => ?_)
    refine s_br (fun _ => s_some ⟨ρ, c, ex_0, T, rg_top _, lw, pg, K⟩) (fun n1 => ?_)
    have l5 := nlt_i n1
    have p300 := thI T qr (k := 61) (i := x1.toNatClampNeg) (lo := -1) (hi := 300) rfl
    have i5 : Rg 0 300 x5 := ⟨a5, by have := p300.2; omega⟩
    have on : ∀ {ρ2 : Nat → Nat} {c2 : Cm} {g : Hp} {y : Int32}, Ext ρ c ρ2 c2 → TH ρ2 c2 g → LwR ρ2 c2 g → PgX ρ2 c2 x0 g → KpX ρ2 c2 x0 b g → Sat (sX11_countAlike_83 F (sX11_countAlike_6 F f) g x0 x1 b x3 y x5) (MkI ρ c (-2147483648) 2147483647 (fun o => LwR ρ c o ∧ PgX ρ c x0 o ∧ KpX ρ c x0 b o)) := fun {ρ2 c2 g y} Y T2 lw2 pg2 K2 => by
      unfold sX11_countAlike_83
      refine s_q (fun v ev => ?_)
      have ev2 : v.toInt = x5.toInt + 1 := by rw [ev]; exact (nc_s i5 (by decide)).2
      refine s_imp (ih (ex_hp Y hp) T2 (ex_r Y r0 (by decide)) i1 lw2 pg2 K2 (by omega) (by have := i5.2; omega)) (fun o ⟨ρ3, c3, Z, T3, i3, a1, a2, a3⟩ => ⟨ρ3, c3, ex_t Y Z, T3, i3, lw_y Y a1, pgx_y Y a2, K.1, ryx_y Y a3.2.1, ?_⟩)
      rcases K.2.2 with ⟨j, B⟩ | q
      · rcases a3.2.2 with z | z
        · exact Or.inl z
        · have := ex_w Y K.1 (by decide) (pg_r T r0 B).2
          rw [this] at z
          omega
      · exact Or.inr q
    have go : Sat (sX11_countAlike_55 F (sX11_countAlike_6 F f) h x0 x1 b x3 x4 x5 1) (MkI ρ c (-2147483648) 2147483647 (fun o => LwR ρ c o ∧ PgX ρ c x0 o ∧ KpX ρ c x0 b o)) := by
      unfold sX11_countAlike_55
      refine s_br (fun z => absurd z (by decide)) (fun _ => ?_)
      obtain ⟨rf, erf, qrf⟩ := thR T r0 (i := 6) (k2 := 6) rfl (by decide)
      refine s_ref erf ?_
      refine s_pageX hF hp (fun _ => rfl) (fun j hj => pgW_t hj) T r0 i1 i5 pg (fun o1 ρ1 c1 X1 T1 f1 B1 kp1 pg1 us1 _ => ?_)
      have r1 := ex_r X1 r0 (by decide)
      have qrf1 := ex_r X1 qrf (by decide)
      have hp1 := ex_hp X1 hp
      have lw1 := lw_x T r0 X1 T1 (lw_sz niceC_59 T f1 lw)
      have P1 := ryx_x T r0 X1 T1 (us1 r er l5)
      have pg1' := pgx_x T r0 X1 T1 pg1
      have K1 := kpx_page T r0 X1 T1 f1 kp1 K
      obtain ⟨k1, w1⟩ := pg_r T1 r1 B1
      unfold sX11_countAlike_74
      have nw1 : ¬ cw c1 b = 1503 := kpx_w T1 r1 K1
      have hs : ∀ k w i, SZ noE (is 1503) k w i = true → cPm c1 k w i = true := fun k w i m => hp1 k w i (sz_sub (fun _ _ z => noE_f z) (fun w z => by rw [is_e z]; rfl) m)
      refine s_cIf T1 hs (zX5_areAlike hF (pmA_s (szA (sx_c _)) rfl) (pmO_s (szP (sx_c _) is_s) rfl) rfl w1 nw1 (by omega) (th_in _ T1) qrf1 K1.1 k1 lw1 K1.2.1.1 P1.1) (fun o2 T2 i2 f2 => ?_)
      have lw2 := lw_sz niceC_0 T1 f2 lw1
      have pg2 := pgx_sz niceC_0 (fun _ => rfl) (fun _ => rfl) T1 r1 f2 (fun j => Or.inl (no8 (by decide))) pg1'
      have K2 := kpx_sz T1 r1 f2 K1
      unfold sX11_countAlike_77
      exact s_br (fun _ => on X1 T2 lw2 pg2 K2) (fun _ => s_q (fun v ev => on X1 T2 lw2 pg2 K2))
    have no' : Sat (sX11_countAlike_55 F (sX11_countAlike_6 F f) h x0 x1 b x3 x4 x5 0) (MkI ρ c (-2147483648) 2147483647 (fun o => LwR ρ c o ∧ PgX ρ c x0 o ∧ KpX ρ c x0 b o)) := by
      unfold sX11_countAlike_55
      exact s_br (fun _ => on ex_0 T lw pg K) (fun z => absurd rfl z)
    unfold sX11_countAlike_50 sX11_countAlike_54
    refine s_br (fun _ => go) (fun _ => ?_)
    refine s_len T r0 i1 (fun r' er' qr' => ?_)
    refine s_br (fun _ => no') (fun _ => ?_)
    obtain ⟨md, emd, qmd⟩ := thR T r0 (i := 16) (k2 := 60) rfl (by decide)
    refine s_ref emd ?_
    refine s_gd (by rw [thN T qmd (k := 60) (n := 2408) rfl (by decide)]; exact rg_inB (gi_r i1 i5) (by decide)) ?_
    exact s_br (fun _ => go) (fun _ => no')
theorem alike_x (hF : 700000 ≤ F) (hp : ∀ k w i, SZ pgE pgW k w i = true → cPm c k w i = true) (T : TH ρ c h) (r0 : ρ x0 = 12) (i1 : Rg 0 7 x1) (lw : LwR ρ c h) (pg : PgX ρ c x0 h) (K : KpX ρ c x0 b h) : Sat (sX11_countAlike F h x0 x1 b x3) (MkI ρ c (-2147483648) 2147483647 (fun o => LwR ρ c o ∧ PgX ρ c x0 o ∧ KpX ρ c x0 b o)) := by
  unfold sX11_countAlike
  exact alikex_loop hF F hp T r0 i1 lw pg K (by decide) (by show (301 - (0 : Int)).toNat < F; omega)
theorem game_x (hF : 700000 ≤ F) (hp : ∀ k w i, SZ pgE pgW k w i = true → cPm c k w i = true) (T : TH ρ c h) (r0 : ρ x0 = 12) (lw : LwR ρ c h) (pg : PgX ρ c x0 h) : Sat (sX11_game F h x0 x1 x2) (MkI ρ c (-2147483648) 2147483647 (PgX ρ c x0)) := by
  unfold sX11_game
  refine s_dP0 (zX11_isGame hF T (rg_top _)) (fun oo eb e ii pp => ?_)
  rw [e]
  unfold sX11_game_4 sX11_game_16
  have ex : ∀ {y : Int32}, Sat (some (y, h)) (MkI ρ c (-2147483648) 2147483647 (PgX ρ c x0)) := s_some ⟨ρ, c, ex_0, T, rg_top _, pg⟩
  refine s_br (fun _ => ex) (fun nz => ?_)
  have i1 := pp nz
  refine s_br (fun _ => ex) (fun _ => ?_)
  refine s_br (fun _ => ?_) (fun _ => ex)
  refine s_len T r0 i1 (fun r er qr => ?_)
  refine s_q (fun p0 ep0 => ?_)
  refine s_br (fun _ => ex) (fun n1 => ?_)
  have i2 : Rg 0 300 p0 := rg_nlo n1 (by rw [ep0]; exact thI T qr (k := 61) (lo := -1) (hi := 300) rfl) (rg_b rfl : Rg (-1) (-1) (-1 : Int32))
  refine s_pageX hF hp (fun _ => rfl) (fun j hj => pgW_t hj) T r0 i1 i2 pg (fun o3 ρ1 c1 X1 T1 f1 B1 kp1 pg1 us1 _ => ?_)
  have r1 := ex_r X1 r0 (by decide)
  have hp1 := ex_hp X1 hp
  have lw1 := lw_x T r0 X1 T1 (lw_sz niceC_59 T f1 lw)
  have P1 := ryx_x T r0 X1 T1 (us1 r er (by rw [ep0]; exact Int.le_refl _))
  have pg1' := pgx_x T r0 X1 T1 pg1
  obtain ⟨k1, w1⟩ := pg_r T1 r1 B1
  have K1 : KpX ρ1 c1 x0 o3.1 o3.2 := ⟨k1, P1, Or.inl ⟨_, B1⟩⟩
  have ex1 : ∀ {y : Int32}, Sat (some (y, o3.2)) (MkI ρ c (-2147483648) 2147483647 (PgX ρ c x0)) := s_some ⟨ρ1, c1, X1, T1, rg_top _, pg1⟩
  unfold sX11_game_40 sX11_game_78 sX11_game_97 sX11_game_101 sX11_game_106 sX11_game_116
  refine s_br (fun _ => ex1) (fun _ => ?_)
  refine s_br (fun _ => ?_) (fun _ => ?_)
  · exact s_cl (s_imp (alike_x hF hp1 T1 r1 i1 lw1 pg1' K1) (fun o4 ⟨ρ4, c4, X4, T4, i4, a1, a2, a3⟩ => s_some ⟨ρ4, c4, ex_t X1 X4, T4, i4, pgx_y X1 a2⟩))
  refine s_br (fun _ => ?_) (fun _ => ?_)
  · refine s_br (fun _ => ex1) (fun _ => ?_)
    exact s_cl (s_imp (alike_x hF hp1 T1 r1 i1 lw1 pg1' K1) (fun o4 ⟨ρ4, c4, X4, T4, i4, a1, a2, a3⟩ => s_br (fun _ => s_some ⟨ρ4, c4, ex_t X1 X4, T4, rg_top _, pgx_y X1 a2⟩) (fun _ => s_some ⟨ρ4, c4, ex_t X1 X4, T4, rg_top _, pgx_y X1 a2⟩)))
  obtain ⟨rf, erf, qrf⟩ := thR T1 r1 (i := 6) (k2 := 6) rfl (by decide)
  refine s_ref erf ?_
  have hs : ∀ k w i, SZ noE (is 1503) k w i = true → cPm c1 k w i = true := fun k w i m => hp1 k w i (sz_sub (fun _ _ z => noE_f z) (fun w z => by rw [is_e z]; rfl) m)
  refine s_cIf T1 hs (zX5_endOf hF (pmA_s (szA (sx_c _)) rfl) (pmO_s (szP (sx_c _) is_s) rfl) w1 (by omega) (th_in _ T1) qrf k1 lw1 P1.1) (fun o2 T2 i2 f2 => ?_)
  exact s_some ⟨ρ1, c1, X1, T2, rg_top _, pgx_y X1 (pgx_sz niceC_0 (fun _ => rfl) (fun _ => rfl) T1 r1 f2 (fun j => Or.inl (no8 (by decide))) pg1')⟩
end
end
section
/-! now, book: places and pages keep to the law -/
section
variable {ρ ρ1 : Nat → Nat} {c c1 : Cm} {h o g : Hp} {E : Nat → Nat → Bool} {wp : Nat → Bool} {x0 b w i F L : Nat} {x1 x2 x3 : Int32} {n m : Int}
theorem plx_x (T : TH ρ c h) (r0 : ρ x0 = 12) (X : Ext ρ c ρ1 c1) (T1 : TH ρ1 c1 o) (P : PlX ρ c x0 g) : PlX ρ1 c1 x0 g := fun r u e1 e2 i hi n b eb => pox_x T r0 X T1 (P r u e1 e2 i hi n b eb)
theorem plx_y (X : Ext ρ c ρ1 c1) (P : PlX ρ1 c1 x0 g) : PlX ρ c x0 g := fun r u e1 e2 i hi n b eb => pox_y X (P r u e1 e2 i hi n b eb)
theorem now_x (hF : 700000 ≤ F) (hp : ∀ k w i, SZ stE stW k w i = true → cPm c k w i = true) (T : TH ρ c h) (r0 : ρ x0 = 12) (pl : PlP ρ c x0 h) (px : PlX ρ c x0 h) (pg : PgX ρ c x0 h) : Sat (sX11_now F h x0 x1) (MkI ρ c (-104) 59 (fun o => PlP ρ c x0 o ∧ PlX ρ c x0 o ∧ PgX ρ c x0 o)) := by
  unfold sX11_now
  refine s_dP0 (zX11_isGame hF T (rg_top _)) (fun oo eb e ii pp => ?_)
  rw [e]
  unfold sX11_now_4
  refine s_br (fun _ => s_some ⟨ρ, c, ex_0, T, rg_b rfl, pl, px, pg⟩) (fun nz => ?_)
  have i1 := pp nz
  refine s_len T r0 i1 (fun r er qr => ?_)
  refine s_br (fun _ => s_some ⟨ρ, c, ex_0, T, rg_b rfl, pl, px, pg⟩) (fun n1 => ?_)
  have i2 : Rg 0 300 (hI h r x1.toNatClampNeg) := rg_nlo n1 (thI T qr (k := 61) (lo := -1) (hi := 300) rfl) (rg_b rfl : Rg (-1) (-1) (-1 : Int32))
  refine s_cI0 (zX11_freePlace hF T r0) (fun o2 e2 j2 => ?_)
  rw [e2]
  unfold sX11_now_27
  refine s_br (fun _ => s_some ⟨ρ, c, ex_0, T, rg_b rfl, pl, px, pg⟩) (fun n2 => ?_)
  have ip : Rg 0 59 o2.1 := rg_nlo n2 j2 (rg_b rfl : Rg (-1) (-1) (-1 : Int32))
  refine s_len T r0 i1 (fun r' er' qr' => ?_)
  have : r' = r := r_eq er er'
  subst this
  refine s_pageX hF hp (fun _ => rfl) (fun j hj => stW_t hj) T r0 i1 i2 pg (fun o3 ρ1 c1 X1 T1 f1 B1 kp1 pg1 us1 _ => ?_)
  have r1 := ex_r X1 r0 (by decide)
  have hp1 := ex_hp X1 hp
  have P1 := ryx_x T r0 X1 T1 (us1 r' er (Int.le_refl _))
  have pg1' := pgx_x T r0 X1 T1 pg1
  have pl1 := pl_x T r0 X1 T1 (pl_sz niceC_59 (fun _ => rfl) (is_f (by omega)) T r0 f1 pl)
  obtain ⟨k1, w1⟩ := pg_r T1 r1 B1
  unfold sX11_now_49 sX11_now_52
  have hs : ∀ k w i, SZ e58 (is 3200) k w i = true → cPm c1 k w i = true := fun k w i m => hp1 k w i (sz_sub (fun k i z => by unfold e58 at z; unfold stE; rw [z]; rfl) (fun w z => by rw [is_e z]; rfl) m)
  refine s_cVfq T1 hs (s_weqp (zX11_settle hF (fun w k i m => sx_c _ k w i (by
      unfold SZ e58
      have : ((58 == k && (999 == 999 || 999 == i)) || false) = true := m
      rw [Bool.or_false, Bool.and_eq_true, beq_iff_eq] at this
      rw [← this.1]; rfl)) (pmO_s (szP (sx_c _) is_s) rfl) w1 (th_in _ T1) r1 ip k1 pl1 P1.1)) (fun o4 T4 f4 p4 => ?_)
  have px1 : PlX ρ1 c1 x0 o3.2 := plx_x T r0 X1 T1 (plx_fr T r0 f1 (fun _ => rfl) (fun _ => rfl) (fun _ _ => rfl) (fun _ _ => rfl) rfl (fun _ => sz_f rfl rfl (Or.inr (is_f (by omega)))) (fun _ => rfl) (fun _ => rfl) px)
  exact s_some ⟨ρ1, c1, X1, T4, rg_m ip (by decide), pl_y X1 p4.1.1, plx_y X1 (settle_x T1 r1 k1 ip px1 P1.2 p4.2), pgx_y X1 (pgx_sz niceC_58 (fun _ => rfl) (fun _ => rfl) T1 r1 f4 (fun j => Or.inl (no8 (by decide))) pg1')⟩
theorem cbookx_loop (hF : 700000 ≤ F) {b : Nat} {x1 x2 : Int32} (ip : Rg 0 59 x1) : ∀ (f : Nat) {ρ : Nat → Nat} {c : Cm} {h : Hp} {x3 x4 : Int32}, (∀ k w i, SZ pgE pgW k w i = true → cPm c k w i = true) → TH ρ c h → ρ x0 = 12 → LwR ρ c h → PgX ρ c x0 h → PCX ρ c x0 x1.toNatClampNeg b h → 0 ≤ x4.toInt → (8 - x4.toInt).toNat < f → Sat (sX11_book_34 F f h x0 x1 x2 x3 x4) (MkI ρ c (-2147483648) 2147483647 (PgX ρ c x0)) := by
  intro f
  induction f with
  | zero => intros; omega
  | succ f ih =>
    intro ρ c h x3 x4 hp T r0 lw pg B a4 hf
    have l60 : x1.toNatClampNeg < 60 := by have := rg_clamp (n := 59) ip (by decide); omega
    rw [sX11_book_34]
    refine s_br (fun _ => s_some ⟨ρ, c, ex_0, T, rg_top _, pg⟩) (fun n1 => ?_)
    have l4 : x4.toInt < 8 := nle_i n1
    have i4 : Rg 0 7 x4 := ⟨a4, by omega⟩
    refine s_pcx T r0 ip B ?_
    obtain ⟨kb, wb'⟩ := pcx_r T r0 l60 B
    have PB : RyX ρ c b h := by obtain ⟨_, _, _, q⟩ := B; exact q
    refine s_mI (S := SZ pgE pgW) T hp (alike_x (c := cat c (SZ pgE pgW) h) hF (sx_c _) (th_in _ T) r0 i4 lw pg ⟨kb, PB, Or.inr wb'⟩) (fun o1 ρ1 c1 X1 T1 f1 j1 ⟨a1, a2, a3⟩ => ?_)
    have r1 := ex_r X1 r0 (by decide)
    obtain ⟨r, e1, e2, _⟩ := B
    obtain ⟨q1, f2, g1⟩ := thR T r0 (i := 13) (k2 := 57) rfl (by decide)
    have h57 : ρ r = 57 := by rw [r_eq f2 e1]; exact g1
    have B1 : PCX ρ1 c1 x0 x1.toNatClampNeg b o1.2 := ⟨r, by rw [x12 r0 f1 rfl]; exact e1, by rw [(fr_RI f1 h57 (by decide) (fun _ => sz_f rfl rfl (Or.inl rfl))).2.2]; exact e2, ryx_x T r0 X1 T1 a3.2.1⟩
    unfold sX11_book_55
    refine s_q (fun u eu => ?_)
    refine s_q (fun v ev => ?_)
    have ev2 : v.toInt = x4.toInt + 1 := by rw [ev]; exact (nc_s i4 (by decide)).2
    exact s_imp (ih (ex_hp X1 hp) T1 r1 (lw_x T r0 X1 T1 a1) (pgx_x T r0 X1 T1 a2) B1 (by omega) (by omega)) (fun o2 ⟨ρ2, c2, X2, T2, i2, p2⟩ => ⟨ρ2, c2, ex_t X1 X2, T2, i2, pgx_y X1 p2⟩)
theorem book_x (hF : 700000 ≤ F) (hp : ∀ k w i, SZ pgE pgW k w i = true → cPm c k w i = true) (T : TH ρ c h) (r0 : ρ x0 = 12) (lw : LwR ρ c h) (pl : PlP ρ c x0 h) (px : PlX ρ c x0 h) (pg : PgX ρ c x0 h) : Sat (sX11_book F h x0 x1 x2) (MkI ρ c (-2147483648) 2147483647 (PgX ρ c x0)) := by
  unfold sX11_book
  refine s_dP0 (zX11_isPlace hF T r0 (rg_top _)) (fun o2 eb2 e2 ii2 pp2 => ?_)
  rw [e2]
  unfold sX11_book_5 sX11_book_26 sX11_book_29
  have ex : ∀ {y : Int32}, Sat (some (y, h)) (MkI ρ c (-2147483648) 2147483647 (PgX ρ c x0)) := s_some ⟨ρ, c, ex_0, T, rg_top _, pg⟩
  refine s_br (fun _ => ex) (fun nz2 => ?_)
  have ip := pp2 nz2
  have l60 : x1.toNatClampNeg < 60 := by have := rg_clamp (n := 59) ip (by decide); omega
  obtain ⟨b, B⟩ := pcx_of T r0 pl px eb2 nz2 l60
  refine s_br (fun _ => cbookx_loop hF ip F hp T r0 lw pg B (by decide) (by show (8 - (0 : Int)).toNat < F; omega)) (fun _ => ?_)
  refine s_br (fun _ => ex) (fun _ => ?_)
  have hs : ∀ k w i, SZ noE (is 1503) k w i = true → cPm c k w i = true := fun k w i m => hp k w i (sz_sub (fun _ _ z => noE_f z) (fun w z => by rw [is_e z]; rfl) m)
  refine s_cIfq T hs (zX11_listMoves hF (pmA_s (szA (sx_c _)) rfl) (pmO_s (szP (sx_c _) is_s) rfl) (th_in _ T) r0 (rg_top _) lw pl) (fun o3 T3 i3 f3 p3 => ?_)
  have lw3 := lw_sz niceC_0 T f3 lw
  have pg3 := pgx_sz niceC_0 (fun _ => rfl) (fun _ => rfl) T r0 f3 (fun j => Or.inl (no8 (by decide))) pg
  have B3 := pcx_sz niceC_0 l60 T r0 f3 rfl B
  unfold sX11_book_23 sX11_book_29 sX11_book_26
  exact s_br (fun _ => cbookx_loop hF ip F hp T3 r0 lw3 pg3 B3 (by decide) (by show (8 - (0 : Int)).toNat < F; omega)) (fun _ => s_some ⟨ρ, c, ex_0, T3, rg_top _, pg3⟩)
end
end
