/-! a page, paid for -/
section
variable {ρ ρ1 : Nat → Nat} {c c1 : Cm} {h o g : Hp} {E : Nat → Nat → Bool} {wp : Nat → Bool} {x0 b w i F L : Nat} {x1 x2 x3 : Int32} {n m : Int} {Bq : Nat × Nat}
theorem pagePY (hF : 700000 ≤ F) (h9 : ∀ w, cPm c 59 w (gi x1 x2) = true) (hO : pmO c (8000 + gi x1 x2) [(34, 999), (36, 999)]) (T : TH ρ c h) (r0 : ρ x0 = 12) (i1 : Rg 0 7 x1) (i2 : Rg 0 300 x2) (P : PgY ρ c x0 Bq h) : Sat (sX11_page F h x0 x1 x2) (fun o => ∃ ρ' c', Ext ρ c ρ' c' ∧ TH ρ' c' o.2 ∧ Pg x0 (gi x1 x2) o.1 o.2 ∧ (∀ j b, Pg x0 j b h → Pg x0 j b o.2 ∧ (RyX ρ c b h → RyX ρ c b o.2)) ∧ PgY ρ c x0 Bq o.2 ∧ (∀ rl, hR h x0 17 = some rl → x2.toInt ≤ (hI h rl x1.toNatClampNeg).toInt → RyX ρ c o.1 o.2) ∧ Kf ρ [(59, 999)] h o.2) := by
  have gv := gi_v i1 i2
  have c1' : x1.toNatClampNeg ≤ 7 := rg_clamp i1 (by decide)
  have nx2 := nc_i i2.1
  unfold sX11_page
  refine s_q (fun v ev => ?_)
  have iv : Rg 0 2407 v := by rw [ev]; exact gi_r i1 i2
  have eg : gi x1 x2 = v.toNatClampNeg := by rw [ev]; rfl
  rw [eg] at h9 hO gv ⊢
  obtain ⟨r, er, qr⟩ := thR T r0 (i := 15) (k2 := 59) rfl (by decide)
  refine s_ref er ?_
  refine s_gd (by rw [thN T qr (k := 59) (n := 2408) rfl (by decide)]; exact rg_inB iv (by decide)) ?_
  have t1 : h.1 = c.1 := T.1.1
  cases q : hR h r v.toNatClampNeg with
  | none =>
    show Sat (cl (hR h x0 15) _) _
    refine s_ref er ?_
    refine s_q (fun a ea => ?_)
    refine s_q (fun h8 e8 => ?_)
    subst ea
    subst e8
    unfold sX11_page_25 sX11_page_29 sX11_page_30
    obtain ⟨o1, eo1, ρ1, c1, X1, T1, a1, w1, O1, M1, N1⟩ := newPosX hF hO T
    refine s_val eo1 ?_
    have r01 := ex_r X1 r0 (by decide)
    have qr1 := ex_r X1 qr (by decide)
    have lt : ∀ a, ρ a ≠ 0 → a < h.1.1 := fun a ha => by rw [t1]; exact T.2.1.2.2.1 a ha
    have lt0 : x0 < h.1.1 := lt x0 (by rw [r0]; decide)
    have ltr : r < h.1.1 := lt r (by rw [qr]; decide)
    have er1 : hR o1 x0 15 = some r := by rw [(O1 x0 lt0).2.2.1]; exact er
    refine s_gd (by rw [thN T1 qr1 (k := 59) (n := 2408) rfl (by decide)]; exact rg_inB iv (by decide)) ?_
    refine s_q (fun h2 e2 => ?_)
    have T2 : TH ρ1 c1 h2 := by
      rw [e2]
      exact th_wRe T1 qr1 (k2 := 4) rfl (by decide) a1 (by decide) (by decide) rfl rfl rfl w1 (ex_p X1 (h9 _))
    have er2 : hR h2 x0 15 = some r := by rw [e2, r_R, if_neg (ne_r r01 qr1 (by decide))]; exact er1
    refine s_ref er2 ?_
    refine s_gd (by rw [thN T2 qr1 (k := 59) (n := 2408) rfl (by decide)]; exact rg_inB iv (by decide)) ?_
    have ee : hR h2 r v.toNatClampNeg = some (hS h) := by rw [e2, r_R, if_pos ⟨rfl, rfl⟩]
    have neR : ∀ a k j, ρ a = k → k ≠ 0 → k ≠ 59 → hR h2 a j = hR h a j := fun a k j ha h0 h59 => by
      rw [e2, r_R, if_neg (ne_r (ex_r X1 ha h0) qr1 h59), (O1 a (lt a (by rw [ha]; exact h0))).2.2.1]
    have neI : ∀ a, ρ a ≠ 0 → ∀ j, hI h2 a j = hI h a j := fun a ha j => by rw [e2]; exact (O1 a (lt a ha)).1 j
    have old : ∀ j b, Pg x0 j b h2 → j = v.toNatClampNeg ∧ b = hS h ∨ Pg x0 j b h := fun j b ⟨r', g1, g2⟩ => by
      have : r' = r := r_eq er2 g1
      subst this
      by_cases z : j = v.toNatClampNeg
      · rw [z] at g2; exact Or.inl ⟨z, r_eq ee g2⟩
      · rw [e2, r_R, if_neg (fun y => z y.2), (O1 r' ltr).2.2.1] at g2
        exact Or.inr ⟨r', er, g2⟩
    have ryk : ∀ b, ρ b = 4 → RyX ρ c b h → RyX ρ c b h2 := fun b rb P => by
      refine ⟨fun ra e j hj nn L hL wL => ?_, fun L on s hL wL e hs z => ?_⟩
      · rw [neR b 4 2 rb (by decide) (by decide)] at e
        obtain ⟨ra', f3, s3⟩ := thR T rb (i := 2) (k2 := 36) rfl (by decide)
        rw [neI ra (by rw [r_eq f3 e, s3]; decide)] at nn
        rw [neI L (by rw [hL]; decide)]
        exact P.1 ra e j hj nn L hL wL
      · rw [neR b 4 0 rb (by decide) (by decide)] at e
        have qo := th_on T rb e
        rw [neI on (by rw [qo]; decide)] at z ⊢
        rw [neI L (by rw [hL]; decide), neI L (by rw [hL]; decide)]
        exact P.2 L on s hL wL e hs z
    have ryn : RyX ρ c (hS h) h2 := by
      refine ⟨fun ra e j hj nn => ?_, fun L on s hL wL e hs z => ?_⟩
      · have e1 : hR o1 (hS h) 2 = some ra := by rw [e2, r_R, if_neg (ne_r a1 qr1 (by decide))] at e; exact e
        have : hI h2 ra j = -1 := by rw [e2]; exact M1 ra e1 j hj
        rw [this] at nn
        exact absurd nn (by decide)
      · have e1 : hR o1 (hS h) 0 = some on := by rw [e2, r_R, if_neg (ne_r a1 qr1 (by decide))] at e; exact e
        have : (hI h2 on s).toInt < 0 := by rw [e2]; exact N1 on e1 s hs
        omega
    have kf : Kf ρ [(59, 999)] h h2 := fun a i na x => by
      refine ⟨neI a na i, by rw [e2]; exact (O1 a (lt a na)).2.1 i, neR a _ i rfl na (fun z => ?_)⟩
      rw [z] at x
      exact absurd x (by simp [mS])
    have kp : ∀ j b, Pg x0 j b h → Pg x0 j b h2 ∧ (RyX ρ c b h → RyX ρ c b h2) := fun j b B => by
      refine ⟨?_, ryk b (pg_r T r0 B).1⟩
      obtain ⟨r', g1, g2⟩ := B
      have : r' = r := r_eq er g1
      subst this
      have z : j ≠ v.toNatClampNeg := fun z => by rw [z, q] at g2; exact absurd g2 (by simp)
      exact ⟨r', er2, by rw [e2, r_R, if_neg (fun y => z y.2), (O1 r' ltr).2.2.1]; exact g2⟩
    refine s_ref ee (s_some ⟨ρ1, c1, X1, T2, ⟨r, er2, ee⟩, kp, ⟨fun rl el m k hm hk b Bp => ?_, fun r' er' => ?_⟩, fun _ _ _ => ryn, kf⟩)
    rotate_left
    · have y : r' = r := r_eq er2 er'
      subst y
      have r1 : h2.1 = (h.1.1 + 6, h.1.2 + 83) := by rw [e2]; exact (show (wR o1 r' v.toNatClampNeg (some (hS h))).1 = o1.1 from rfl).trans (init_1 eo1)
      have lv : v.toNatClampNeg < 2408 := by have := rg_clamp (n := 2407) iv (by decide); omega
      have ns := nuC_set (h := h) (o := h2) (r := r') q ee (fun i ni => by rw [e2, r_R, if_neg (fun y => ni y.2), (O1 r' ltr).2.2.1]) 2408 lv
      have pp := P.2 r' er
      rw [r1]
      show h.1.1 + 6 + 6 * nuC h2 r' 2408 ≤ Bq.1 ∧ h.1.2 + 83 + 83 * nuC h2 r' 2408 ≤ Bq.2
      omega
    rcases old _ _ Bp with ⟨z, zb⟩ | B0
    · rw [zb]; exact ryn
    · obtain ⟨q1, f1, g1⟩ := thR T r0 (i := 17) (k2 := 61) rfl (by decide)
      rw [neR x0 12 17 r0 (by decide) (by decide)] at el
      rw [neI rl (by rw [r_eq f1 el, g1]; decide)] at hk
      exact ryk b (pg_r T r0 B0).1 (P.1 rl el m k hm hk b B0)
  | some r4 =>
    show Sat (sX11_page_30 F h x0 v) _
    unfold sX11_page_30
    refine s_ref er ?_
    refine s_gd (by rw [thN T qr (k := 59) (n := 2408) rfl (by decide)]; exact rg_inB iv (by decide)) ?_
    exact s_ref q (s_some ⟨ρ, c, ex_0, T, ⟨r, er, q⟩, fun _ _ B => ⟨B, id⟩, P, fun rl el le => P.1 rl el x1.toNatClampNeg x2.toNatClampNeg (by omega) (by omega) r4 ⟨r, er, by rw [← gv]; exact q⟩, fun _ _ _ _ => ⟨rfl, rfl, rfl⟩⟩)
theorem s_pageY {β : Type} {Q : β → Prop} {k : Nat × Hp → Option β} (hF : 700000 ≤ F) (hp : ∀ k w i, SZ E wp k w i = true → cPm c k w i = true) (hi : ∀ i, E 59 i = true) (hw : ∀ j, j ≤ 2407 → wp (8000 + j) = true) (T : TH ρ c h) (r0 : ρ x0 = 12) (i1 : Rg 0 7 x1) (i2 : Rg 0 300 x2) (P : PgY ρ c x0 Bq h) (H : ∀ o ρ1 c1, Ext ρ c ρ1 c1 → TH ρ1 c1 o.2 → Fr ρ (cat c (SZ (g59 (gi x1 x2)) (is (8000 + gi x1 x2))) h) h o.2 → Pg x0 (gi x1 x2) o.1 o.2 → (∀ j b, Pg x0 j b h → Pg x0 j b o.2 ∧ (RyX ρ c b h → RyX ρ c b o.2)) → PgY ρ c x0 Bq o.2 → (∀ rl, hR h x0 17 = some rl → x2.toInt ≤ (hI h rl x1.toNatClampNeg).toInt → RyX ρ c o.1 o.2) → Kf ρ [(59, 999)] h o.2 → Sat (k o) Q) : Sat (cl (sX11_page F h x0 x1 x2) k) Q :=
  s_mk (g := fun (o : Nat × Hp) => o.2) (P := fun (o : Nat × Hp) (_ : Nat → Nat) (_ : Cm) => Pg x0 (gi x1 x2) o.1 o.2 ∧ (∀ j b, Pg x0 j b h → Pg x0 j b o.2 ∧ (RyX ρ c b h → RyX ρ c b o.2)) ∧ PgY ρ c x0 Bq o.2 ∧ (∀ rl, hR h x0 17 = some rl → x2.toInt ≤ (hI h rl x1.toNatClampNeg).toInt → RyX ρ c o.1 o.2) ∧ Kf ρ [(59, 999)] h o.2) T (fun k w i m => hp k w i (sz_sub (fun k i z => by
      unfold g59 at z
      rw [Bool.and_eq_true, beq_iff_eq] at z
      rw [z.1]; exact hi i) (fun w z => by rw [is_e z]; exact hw _ (rg_clamp (gi_r i1 i2) (by decide))) m))
    (pagePY (c := cat c (SZ (g59 (gi x1 x2)) (is (8000 + gi x1 x2))) h) hF (szE (sx_c _) (by unfold g59; rw [beq_self_eq_true, beq_self_eq_true]; rfl)) (pmO_s (szP (sx_c _) is_s) rfl) (th_in _ T) r0 i1 i2 P) (fun _ _ _ _ _ p => p) (fun o ρ1 c1 X T1 f p => H o ρ1 c1 X T1 f p.1 p.2.1 p.2.2.1 p.2.2.2.1 p.2.2.2.2)
end
