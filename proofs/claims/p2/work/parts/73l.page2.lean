def ppL : List (Nat × Nat) := [(34, 999), (35, 999), (36, 999), (37, 999), (38, 999), (4, 5), (4, 6), (4, 7), (4, 8), (4, 9), (4, 10)]
def saC : List (Nat × Nat) := [(47, 999), (6, 4), (6, 5), (6, 6), (6, 7), (6, 8), (6, 9)]
/-- what is written by the class: places told by E, the referee's own, positions by their holders -/
def SZ (E : Nat → Nat → Bool) (wp : Nat → Bool) (k w i : Nat) : Bool := (E k i || mS saC k i) || (mS ppL k i && wp w)
theorem sz_sub {E E' : Nat → Nat → Bool} {wp wp' : Nat → Bool} (h1 : ∀ k i, E k i = true → E' k i = true) (h2 : ∀ i, wp i = true → wp' i = true) {k w i : Nat} (m : SZ E wp k w i = true) : SZ E' wp' k w i = true := by
  unfold SZ at m ⊢
  rw [Bool.or_eq_true, Bool.or_eq_true, Bool.and_eq_true] at m ⊢
  rcases m with (a | a) | ⟨a, b⟩
  · exact Or.inl (Or.inl (h1 _ _ a))
  · exact Or.inl (Or.inr a)
  · exact Or.inr ⟨a, h2 _ b⟩
theorem sz_f {E : Nat → Nat → Bool} {wp : Nat → Bool} {k w i : Nat} (h1 : E k i = false) (h2 : mS saC k i = false) (h3 : mS ppL k i = false ∨ wp w = false) : SZ E wp k w i = false := by
  unfold SZ
  have a3 : (mS ppL k i && wp w) = false := by
    rcases h3 with h | h
    · rw [h]; rfl
    · rw [h, Bool.and_false]
  rw [h1, h2, a3]; rfl
def niceC (E : Nat → Nat → Bool) : Prop := (∀ k i, k = 4 ∨ (34 ≤ k ∧ k ≤ 38) ∨ k = 2 → E k i = false) ∧ E 12 13 = false ∧ E 12 14 = false ∧ E 12 15 = false ∧ E 12 17 = false ∧ E 12 6 = false ∧ E 12 12 = false ∧ ∀ i, E 57 i = false
theorem niceC_0 : niceC noE := ⟨fun _ _ _ => rfl, rfl, rfl, rfl, rfl, rfl, rfl, fun _ => rfl⟩
section
variable {ρ : Nat → Nat} {c : Cm} {h o : Hp} {E : Nat → Nat → Bool} {wp : Nat → Bool} {x0 b w i F : Nat}
theorem szA (hp : ∀ k w i, SZ E wp k w i = true → cPm c k w i = true) : pmA c saC := fun w k i m => hp k w i (by unfold SZ; rw [m, Bool.or_true, Bool.true_or])
theorem szE (hp : ∀ k w i, SZ E wp k w i = true → cPm c k w i = true) {k : Nat} (m : E k i = true) : ∀ w, cPm c k w i = true := fun w => hp k w i (by unfold SZ; rw [m, Bool.true_or, Bool.true_or])
theorem szP (hp : ∀ k w i, SZ E wp k w i = true → cPm c k w i = true) (hw : wp w = true) : pmO c w ppL := fun k i m => hp k w i (by unfold SZ; rw [m, hw, Bool.and_true, Bool.or_true])
theorem ry_sz (n : niceC E) (T : TH ρ c h) (rb : ρ b = 4) (ew : cw c b = w) (hb : wp w = false) (f : Fr ρ (cat c (SZ E wp) h) h o) (P : RyP ρ c b h) : RyP ρ c b o :=
  ry_fr T rb f (sz_f (n.1 _ _ (by omega)) rfl (Or.inl rfl)) (fun i => sz_f (n.1 _ _ (by omega)) rfl (Or.inr (by rw [ew]; exact hb))) (fun _ => sz_f (n.1 _ _ (by omega)) rfl (Or.inl rfl)) P
theorem lw_sz (n : niceC E) (T : TH ρ c h) (f : Fr ρ (cat c (SZ E wp) h) h o) (P : LwR ρ c h) : LwR ρ c o :=
  lw_fr T f (fun _ => sz_f (n.1 _ _ (by omega)) rfl (Or.inl rfl)) (fun _ => sz_f (n.1 _ _ (by omega)) rfl (Or.inl rfl)) (fun _ => sz_f (n.1 _ _ (by omega)) rfl (Or.inl rfl)) P
theorem x12 (r0 : ρ x0 = 12) (f : Fr ρ (cat c (SZ E wp) h) h o) (e : E 12 i = false) : hR o x0 i = hR h x0 i := (fr_RI f r0 (by decide) (fun _ => sz_f e rfl (Or.inl rfl))).2.2
theorem pg_sz (n : niceC E) (n59 : E 59 i = false) (T : TH ρ c h) (r0 : ρ x0 = 12) (f : Fr ρ (cat c (SZ E wp) h) h o) : Pg x0 i b h ↔ Pg x0 i b o := by
  obtain ⟨q1, f1, g1⟩ := thR T r0 (i := 15) (k2 := 59) rfl (by decide)
  have a1 := x12 (i := 15) r0 f n.2.2.2.1
  have a2 := (fr_RI f g1 (by decide) (fun _ => sz_f n59 rfl (Or.inl rfl)) : hI o q1 i = _ ∧ _).2.2
  constructor
  · rintro ⟨r, e1, e2⟩
    have : r = q1 := r_eq f1 e1
    subst this
    exact ⟨r, by rw [a1]; exact e1, by rw [a2]; exact e2⟩
  · rintro ⟨r, e1, e2⟩
    rw [a1] at e1
    have : r = q1 := r_eq f1 e1
    subst this
    rw [a2] at e2
    exact ⟨r, e1, e2⟩
/-- pages stay good where lengths stay, and the pages that are written are good -/
theorem pgp_sz (n : niceC E) (n59 : ∀ i, E 59 i = false) (n61 : ∀ i, E 61 i = false) (T : TH ρ c h) (r0 : ρ x0 = 12) (f : Fr ρ (cat c (SZ E wp) h) h o) (hb : ∀ j, wp (8000 + j) = false ∨ ∀ b, Pg x0 j b h → RyP ρ c b h → RyP ρ c b o) (P : PgP ρ c x0 h) : PgP ρ c x0 o := fun rl el m k hm hk b B => by
  rw [x12 r0 f n.2.2.2.2.1] at el
  obtain ⟨q1, f1, g1⟩ := thR T r0 (i := 17) (k2 := 61) rfl (by decide)
  have h1 : ρ rl = 61 := by rw [r_eq f1 el]; exact g1
  rw [(fr_RI f h1 (by decide) (fun _ => sz_f (n61 _) rfl (Or.inl rfl))).1] at hk
  have B0 := (pg_sz n (n59 _) T r0 f).mpr B
  obtain ⟨k1, k2⟩ := pg_r T r0 B0
  have P0 := P rl el m k hm hk b B0
  rcases hb (301 * m + k) with q | q
  · exact ry_sz n T k1 k2 q f P0
  · exact q b B0 P0
end
theorem gi_v {x1 x2 : Int32} (i1 : Rg 0 7 x1) (i2 : Rg 0 300 x2) : gi x1 x2 = 301 * x1.toNatClampNeg + x2.toNatClampNeg := by
  have m : Rg 0 2107 (x1 * (301 : Int32)) := rg_mulc i1 (rg_b rfl : Rg 301 301 (301 : Int32)) (by decide)
  have a := nc_i (gi_r i1 i2).1
  have e1 := ti_add m i2 (by decide)
  have e2 := ti_mulc i1 (rg_b rfl : Rg 301 301 (301 : Int32)) (by decide)
  have b1 := nc_i i1.1
  have b2 := nc_i i2.1
  unfold gi
  omega
def g59 (n : Nat) : Nat → Nat → Bool := fun k i => k == 59 && i == n
theorem niceC_59 {n : Nat} : niceC (g59 n) := by
  refine ⟨fun k i hk => ?_, rfl, rfl, rfl, rfl, rfl, rfl, fun _ => rfl⟩
  unfold g59
  rw [bq_ne (show k ≠ 59 by omega)]; rfl
section
variable {ρ : Nat → Nat} {c : Cm} {h o : Hp} {E : Nat → Nat → Bool} {wp : Nat → Bool} {x0 b w i F : Nat} {x1 x2 : Int32}
theorem pageP (hF : 700000 ≤ F) (h9 : ∀ w, cPm c 59 w (gi x1 x2) = true) (hO : pmO c (8000 + gi x1 x2) [(34, 999), (36, 999)]) (T : TH ρ c h) (r0 : ρ x0 = 12) (i1 : Rg 0 7 x1) (i2 : Rg 0 300 x2) (P : PgP ρ c x0 h) : Sat (sX11_page F h x0 x1 x2) (fun o => ∃ ρ' c', Ext ρ c ρ' c' ∧ TH ρ' c' o.2 ∧ Pg x0 (gi x1 x2) o.1 o.2 ∧ (∀ j b, Pg x0 j b h → Pg x0 j b o.2 ∧ (RyP ρ c b h → RyP ρ c b o.2)) ∧ PgP ρ c x0 o.2 ∧ (∀ rl, hR h x0 17 = some rl → x2.toInt ≤ (hI h rl x1.toNatClampNeg).toInt → RyP ρ c o.1 o.2)) := by
  have gv := gi_v i1 i2
  have c1' : x1.toNatClampNeg ≤ 7 := rg_clamp i1 (by decide)
  have nx2 := nc_i i2.1
  unfold sX11_page
  refine s_q (fun v ev => ?_)
  have iv : Rg 0 2407 v := by rw [ev]; exact gi_r i1 i2
  have eg : gi x1 x2 = v.toNatClampNeg := by rw [ev]; rfl
  rw [eg] at h9 hO gv ⊢
  obtain ⟨r, er, qr⟩ := thR T r0 (i := 15) (k2 := 59) rfl (by decide)
  refine s_ref er ?_
  refine s_gd (by rw [thN T qr (k := 59) (n := 2408) rfl (by decide)]; exact rg_inB iv (by decide)) ?_
  have t1 : h.1 = c.1 := T.1.1
  cases q : hR h r v.toNatClampNeg with
  | none =>
    show Sat (cl (hR h x0 15) _) _
    refine s_ref er ?_
    refine s_q (fun a ea => ?_)
    refine s_q (fun h8 e8 => ?_)
    subst ea
    subst e8
    unfold sX11_page_25 sX11_page_29 sX11_page_30
    obtain ⟨o1, eo1, ρ1, c1, X1, T1, a1, w1, O1, M1⟩ := newPos hF hO T
    refine s_val eo1 ?_
    have r01 := ex_r X1 r0 (by decide)
    have qr1 := ex_r X1 qr (by decide)
    have lt : ∀ a, ρ a ≠ 0 → a < h.1.1 := fun a ha => by rw [t1]; exact T.2.1.2.2.1 a ha
    have lt0 : x0 < h.1.1 := lt x0 (by rw [r0]; decide)
    have ltr : r < h.1.1 := lt r (by rw [qr]; decide)
    have er1 : hR o1 x0 15 = some r := by rw [(O1 x0 lt0).2.2.1]; exact er
    refine s_gd (by rw [thN T1 qr1 (k := 59) (n := 2408) rfl (by decide)]; exact rg_inB iv (by decide)) ?_
    refine s_q (fun h2 e2 => ?_)
    have T2 : TH ρ1 c1 h2 := by
      rw [e2]
      exact th_wRe T1 qr1 (k2 := 4) rfl (by decide) a1 (by decide) (by decide) rfl rfl rfl w1 (ex_p X1 (h9 _))
    have er2 : hR h2 x0 15 = some r := by rw [e2, r_R, if_neg (ne_r r01 qr1 (by decide))]; exact er1
    refine s_ref er2 ?_
    refine s_gd (by rw [thN T2 qr1 (k := 59) (n := 2408) rfl (by decide)]; exact rg_inB iv (by decide)) ?_
    have ee : hR h2 r v.toNatClampNeg = some (hS h) := by rw [e2, r_R, if_pos ⟨rfl, rfl⟩]
    have neR : ∀ a k j, ρ a = k → k ≠ 0 → k ≠ 59 → hR h2 a j = hR h a j := fun a k j ha h0 h59 => by
      rw [e2, r_R, if_neg (ne_r (ex_r X1 ha h0) qr1 h59), (O1 a (lt a (by rw [ha]; exact h0))).2.2.1]
    have neI : ∀ a, ρ a ≠ 0 → ∀ j, hI h2 a j = hI h a j := fun a ha j => by rw [e2]; exact (O1 a (lt a ha)).1 j
    have old : ∀ j b, Pg x0 j b h2 → j = v.toNatClampNeg ∧ b = hS h ∨ Pg x0 j b h := fun j b ⟨r', g1, g2⟩ => by
      have : r' = r := r_eq er2 g1
      subst this
      by_cases z : j = v.toNatClampNeg
      · rw [z] at g2; exact Or.inl ⟨z, r_eq ee g2⟩
      · rw [e2, r_R, if_neg (fun y => z y.2), (O1 r' ltr).2.2.1] at g2
        exact Or.inr ⟨r', er, g2⟩
    have ryk : ∀ b, ρ b = 4 → RyP ρ c b h → RyP ρ c b h2 := fun b rb P ra e j hj nn L hL wL => by
      rw [neR b 4 2 rb (by decide) (by decide)] at e
      obtain ⟨ra', f3, s3⟩ := thR T rb (i := 2) (k2 := 36) rfl (by decide)
      rw [neI ra (by rw [r_eq f3 e, s3]; decide)] at nn
      rw [neI L (by rw [hL]; decide)]
      exact P ra e j hj nn L hL wL
    have ryn : RyP ρ c (hS h) h2 := fun ra e j hj nn => by
      have e1 : hR o1 (hS h) 2 = some ra := by rw [e2, r_R, if_neg (ne_r a1 qr1 (by decide))] at e; exact e
      have : hI h2 ra j = -1 := by rw [e2]; exact M1 ra e1 j hj
      rw [this] at nn
      exact absurd nn (by decide)
    have kp : ∀ j b, Pg x0 j b h → Pg x0 j b h2 ∧ (RyP ρ c b h → RyP ρ c b h2) := fun j b B => by
      refine ⟨?_, ryk b (pg_r T r0 B).1⟩
      obtain ⟨r', g1, g2⟩ := B
      have : r' = r := r_eq er g1
      subst this
      have z : j ≠ v.toNatClampNeg := fun z => by rw [z, q] at g2; exact absurd g2 (by simp)
      exact ⟨r', er2, by rw [e2, r_R, if_neg (fun y => z y.2), (O1 r' ltr).2.2.1]; exact g2⟩
    refine s_ref ee (s_some ⟨ρ1, c1, X1, T2, ⟨r, er2, ee⟩, kp, fun rl el m k hm hk b B => ?_, fun _ _ _ => ryn⟩)
    rcases old _ _ B with ⟨z, zb⟩ | B0
    · rw [zb]; exact ryn
    · obtain ⟨q1, f1, g1⟩ := thR T r0 (i := 17) (k2 := 61) rfl (by decide)
      rw [neR x0 12 17 r0 (by decide) (by decide)] at el
      rw [neI rl (by rw [r_eq f1 el, g1]; decide)] at hk
      exact ryk b (pg_r T r0 B0).1 (P rl el m k hm hk b B0)
  | some r4 =>
    show Sat (sX11_page_30 F h x0 v) _
    unfold sX11_page_30
    refine s_ref er ?_
    refine s_gd (by rw [thN T qr (k := 59) (n := 2408) rfl (by decide)]; exact rg_inB iv (by decide)) ?_
    exact s_ref q (s_some ⟨ρ, c, ex_0, T, ⟨r, er, q⟩, fun _ _ B => ⟨B, id⟩, P, fun rl el le => P rl el x1.toNatClampNeg x2.toNatClampNeg (by omega) (by omega) r4 ⟨r, er, by rw [← gv]; exact q⟩⟩)
theorem s_page {β : Type} {Q : β → Prop} {k : Nat × Hp → Option β} (hF : 700000 ≤ F) (hp : ∀ k w i, SZ E wp k w i = true → cPm c k w i = true) (hi : ∀ i, E 59 i = true) (hw : ∀ j, j ≤ 2407 → wp (8000 + j) = true) (T : TH ρ c h) (r0 : ρ x0 = 12) (i1 : Rg 0 7 x1) (i2 : Rg 0 300 x2) (P : PgP ρ c x0 h) (H : ∀ o ρ1 c1, Ext ρ c ρ1 c1 → TH ρ1 c1 o.2 → Fr ρ (cat c (SZ (g59 (gi x1 x2)) (is (8000 + gi x1 x2))) h) h o.2 → Pg x0 (gi x1 x2) o.1 o.2 → (∀ j b, Pg x0 j b h → Pg x0 j b o.2 ∧ (RyP ρ c b h → RyP ρ c b o.2)) → PgP ρ c x0 o.2 → (∀ rl, hR h x0 17 = some rl → x2.toInt ≤ (hI h rl x1.toNatClampNeg).toInt → RyP ρ c o.1 o.2) → Sat (k o) Q) : Sat (cl (sX11_page F h x0 x1 x2) k) Q :=
  s_mk (g := fun (o : Nat × Hp) => o.2) (P := fun (o : Nat × Hp) (_ : Nat → Nat) (_ : Cm) => Pg x0 (gi x1 x2) o.1 o.2 ∧ (∀ j b, Pg x0 j b h → Pg x0 j b o.2 ∧ (RyP ρ c b h → RyP ρ c b o.2)) ∧ PgP ρ c x0 o.2 ∧ (∀ rl, hR h x0 17 = some rl → x2.toInt ≤ (hI h rl x1.toNatClampNeg).toInt → RyP ρ c o.1 o.2)) T (fun k w i m => hp k w i (sz_sub (fun k i z => by
      unfold g59 at z
      rw [Bool.and_eq_true, beq_iff_eq] at z
      rw [z.1]; exact hi i) (fun w z => by rw [is_e z]; exact hw _ (rg_clamp (gi_r i1 i2) (by decide))) m))
    (pageP (c := cat c (SZ (g59 (gi x1 x2)) (is (8000 + gi x1 x2))) h) hF (szE (sx_c _) (by unfold g59; rw [beq_self_eq_true, beq_self_eq_true]; rfl)) (pmO_s (szP (sx_c _) is_s) rfl) (th_in _ T) r0 i1 i2 P) (fun _ _ _ _ _ p => p) (fun o ρ1 c1 X T1 f p => H o ρ1 c1 X T1 f p.1 p.2.1 p.2.2.1 p.2.2.2)
end
