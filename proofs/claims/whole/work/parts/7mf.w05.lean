section
/-! games, the class: add -/
section
variable {n F : Nat} {h : Hp} {σ : Sy} {o : Int32 × Hp} {x1 x2 x3 : Int32}
/-- move i of a game's last position -/
noncomputable def gmV (σ : Sy) (x1 x2 : Int32) : Option MvT := if 0 ≤ x2.toInt then (lgL (syL σ) (syQ σ (301 * x1.toNatClampNeg + (syG σ x1.toNatClampNeg).toNat)))[x2.toNatClampNeg]? else none
noncomputable def anAdd (σ : Sy) (x1 x2 : Int32) : Int := if prB' (gmI x1) = true then (if syG σ x1.toNatClampNeg = -1 then -102 else match gmV σ x1 x2 with
  | none => -102
  | some _ => if syG σ x1.toNatClampNeg = 300 then -104 else syG σ x1.toNatClampNeg + 1) else -101
noncomputable def syAdd1 (σ : Sy) (g : Nat) (i : Int) (v : MvT) : Sy := syGl (syGm (syGq σ (301 * g + (syG σ g).toNat + 1) (zAll (syL σ) (syQ σ (301 * g + (syG σ g).toNat)) v)) (301 * g + (syG σ g).toNat) i) g (syG σ g + 1)
noncomputable def syAdd (σ : Sy) (x1 x2 : Int32) : Sy := if prB' (gmI x1) = true then (if syG σ x1.toNatClampNeg = -1 then σ else match gmV σ x1 x2 with
  | none => σ
  | some v => if syG σ x1.toNatClampNeg = 300 then σ else syAdd1 σ x1.toNatClampNeg x2.toInt v) else σ
theorem ca_addm (k : DyK n h h) (Ok : SyOk σ) (R : RelC n h σ) (e : sX11_add F h n x1 x2 = some o) : CaO n h (syAdd σ x1 x2) o (anAdd σ x1 x2) := by
  have z0 : (0 : Int32).toInt = 0 := rfl
  have z1 : (1 : Int32).toInt = 1 := rfl
  have z3 : (300 : Int32).toInt = 300 := rfl
  have s6 := dk_610 k
  unfold sX11_add sX11_add_4 at e
  unfold anAdd syAdd
  obtain ⟨o1, e1, e⟩ := cl_s e
  obtain ⟨q1, c1⟩ := isg_c e1
  rw [q1] at e
  rcases c1 with ⟨d1, d2⟩ | ⟨d1, d2⟩
  · rw [so_e (bp_e d1 e), prb_f.mpr d2, if_neg (by decide), if_neg (by decide)]
    exact cao_0 k R rfl rfl
  replace e := bn_e d1 e
  rw [prb_e.mpr d2, if_pos rfl, if_pos rfl]
  obtain ⟨g8, gn⟩ := gmi_n d2
  have G := R.2.2.1 _ g8
  have Gb := (Ok.2.2.1 _ g8).1
  have W := dk_e (a := 0) (f := 17) (b := 152) k (by decide +kernel)
  replace e := ce_e W e
  replace e := gg_e e
  replace e := nx_e e
  rcases br_s e with ⟨c, e⟩ | ⟨c, e⟩
  · have c : (hI h (n + 152) x1.toNatClampNeg).toInt = -1 := by
      have : hI h (n + 152) x1.toNatClampNeg = -1 := c
      rw [this]; rfl
    rw [so_e e, if_pos (by rw [← G.1]; exact c), if_pos (by rw [← G.1]; exact c)]
    exact cao_0 k R rfl rfl
  have c := ne_i c
  have c : ¬ (hI h (n + 152) x1.toNatClampNeg).toInt = -1 := c
  rw [G.1] at c
  rw [if_neg c, if_neg c]
  obtain ⟨lq, hlq⟩ : ∃ q : Nat, syG σ x1.toNatClampNeg = (q : Int) := ⟨(syG σ x1.toNatClampNeg).toNat, by omega⟩
  have hl : (hI h (n + 152) x1.toNatClampNeg).toInt = (lq : Int) := by rw [G.1]; exact hlq
  have tn : (syG σ x1.toNatClampNeg).toNat = lq := by omega
  obtain ⟨⟨a, ea, A⟩, _⟩ := G.2 lq (by omega)
  have Oz := (Ok.2.2.1 _ g8).2 lq (by omega)
  have i24 : 301 * x1.toNatClampNeg + lq < 2408 := by omega
  obtain ⟨o6, e6, e⟩ := cl_s e
  have y6 := pg_l (P := (syQ σ 0)) k d2 rfl hl (by omega) ea e6
  subst y6
  unfold sX11_add_31 at e
  replace e := ce_e (dk_e (a := 0) (f := 6) (b := 30) k (by decide +kernel)) e
  replace e := ce_e (dk_e (a := 0) (f := 12) (b := 147) k (by decide +kernel)) e
  obtain ⟨o3, e3, e⟩ := cl_s e
  obtain ⟨own, Dw⟩ := k.1.1
  obtain ⟨f, k3, m, y⟩ := col_k k Dw.1 (bke_g Dw i24 ea) (bk_list Dw.1) (by omega) (Or.inr (Or.inr rfl)) Ok.1.1 Ok.1.2.1 Oz R.1 A (ln_d k.1 (a := 147) (w := 4096) (by decide)) e3
  have R3 := relc_cs k Ok R f k3
  have gmn : ¬ (0 ≤ x2.toInt ∧ x2.toInt < ((lgL (syL σ) (syQ σ (301 * x1.toNatClampNeg + lq))).length : Int)) → gmV σ x1 x2 = none := fun u => by
    unfold gmV
    rw [tn]
    by_cases v : 0 ≤ x2.toInt
    · rw [if_pos v]
      have := nc_i v
      exact List.getElem?_eq_none (by omega)
    · exact if_neg v
  unfold sX11_add_49 sX11_add_61 at e
  rcases br_s e with ⟨c3, e⟩ | ⟨c3, e⟩
  · have := lt_i c3
    rw [so_e e, gmn (by omega)]
    exact cao_s k Ok R f k3 rfl
  have c3 := nlt_i c3
  have nc := nc_i (x := x2) (by omega)
  rcases br_s e with ⟨c4, e⟩ | ⟨c4, e⟩
  rotate_left
  · have := nlt_i c4
    rw [so_e e, gmn (by omega)]
    exact cao_s k Ok R f k3 rfl
  have c4 := lt_i c4
  obtain ⟨v, ev, mv⟩ := m x2.toNatClampNeg (by omega)
  have gv : gmV σ x1 x2 = some v := by
    unfold gmV
    rw [tn, if_pos (by omega)]
    exact ev
  rw [gv]
  have Gm := lg_gd Ok.1.1 Ok.1.2.1 Oz ev
  show CaO n h (if syG σ x1.toNatClampNeg = 300 then σ else syAdd1 σ x1.toNatClampNeg x2.toInt v) o (if syG σ x1.toNatClampNeg = 300 then -104 else syG σ x1.toNatClampNeg + 1)
  rcases br_s e with ⟨c5, e⟩ | ⟨c5, e⟩
  rotate_left
  · have := nlt_i c5
    rw [so_e e, if_pos (by omega), if_pos (by omega)]
    exact cao_s k Ok R f k3 rfl
  have c5 := lt_i c5
  rw [if_neg (by omega), if_neg (by omega)]
  refine ca_mono k3 (frc_w k f (fun a i c _ => Or.inl (cs_c c))) ?_
  -- the next page
  have k3' := dk_self k3
  obtain ⟨o4, e4, e⟩ := cl_s e
  obtain ⟨_, _, Gp⟩ := pg_g k3'.1 e4
  have t1 : (hI h (n + 152) x1.toNatClampNeg + 1).toInt = ((lq + 1 : Nat) : Int) := by rw [ta (by rw [z1]; omega), z1, hl]; omega
  have ix := (ix_g d2 (y := hI h (n + 152) x1.toNatClampNeg + 1) (q := lq + 1) t1 (by omega)).2
  rw [ix] at Gp
  have j24 : 301 * x1.toNatClampNeg + (lq + 1) < 2408 := by omega
  obtain ⟨k4, R4, f4⟩ := got_c k3' Ok R3 Gp
  refine ca_mono k4 f4 ?_
  have k4' := dk_self k4
  have s4 := dk_610 k4
  have G4 := R4.2.2.1 _ g8
  obtain ⟨⟨a4, ea4, A4⟩, _⟩ := G4.2 lq (by omega)
  have ya : a4 = a := by
    have q1 := ks_r k3 (q := (150, 2408, 6, 1000, fsP)) (by decide) ea
    have q2 := ks_r k4 (q := (150, 2408, 6, 1000, fsP)) (by decide) q1
    exact r_eq q2 ea4
  subst ya
  obtain ⟨own4, Dw4⟩ := k4.1.1
  unfold sX11_add_82 at e
  obtain ⟨o5, e5, e⟩ := cl_s e
  obtain ⟨lo, hi⟩ := dy_lo k4 (q := (150, 2408, 6, 1000, fsP)) (by decide) j24 Gp.2.1
  have hi : o4.1 + 6 ≤ hS o4.2 := hi
  obtain ⟨F5, k5, A5⟩ := cpy_k k4' Dw4.1 (bke_g Dw4 i24 ea4) (bk_12 (bke_g Dw4 j24 Gp.2.1) (by omega)) (by omega) A4 (pg_T k4 j24 Gp.2.1) e5
  have C5 : ClL n o5 (syL σ) := cll_f k4' k5 (fun j i hj => F5.2 _ _ (by omega) (fun u => by omega)) R4.1
  unfold sX11_add_91 at e
  replace e := ce_e (dk_e (a := 0) (f := 6) (b := 30) k5 (by decide +kernel)) e
  replace e := ce_e (dk_e (a := 0) (f := 12) (b := 147) k5 (by decide +kernel)) e
  replace e := gg_e e
  obtain ⟨o7, e7, e⟩ := cl_s e
  obtain ⟨own5, Dw5⟩ := k5.1.1
  have gp5 := ks_r k5 (q := (150, 2408, 6, 1000, fsP)) (by decide) Gp.2.1
  have FGp : FrW (fun _ _ => False) o3.2 o4.2 := got_w Gp
  have s3 := dk_610 k3
  have ml : hI o5 (n + 147) x2.toNatClampNeg = hI o3.2 (n + 147) x2.toNatClampNeg := by
    rw [(F5.2 (n + 147) x2.toNatClampNeg (by omega) (fun u => by omega)).1, (FGp.2 (n + 147) x2.toNatClampNeg (by omega) (fun u => u)).1]
  obtain ⟨F7, k7, A7⟩ := mk_k k5 Dw5.1 (bke_g Dw5 j24 gp5) (by omega) Ok.1.1 Ok.1.2.1 Oz Gm (by rw [ml]; exact mv) C5 A5 e7
  unfold sX11_add_106 at e
  replace e := ce_e (dk_e (a := 0) (f := 16) (b := 151) k7 (by decide +kernel)) e
  replace e := gg_e e
  obtain ⟨h8, w8, e⟩ := nm_s e
  have k8 : DyK n o4.2 h8 := by rw [w8]; exact dk_wI k7
  replace e := ce_e (dk_e (a := 0) (f := 17) (b := 152) k8 (by decide +kernel)) e
  replace e := gg_e e
  obtain ⟨h9, w9, e⟩ := nm_s e
  have k9 : DyK n o4.2 h9 := by rw [w9]; exact dk_wI k8
  rw [so_e e]
  have ix2 := (ix_g d2 (y := hI h (n + 152) x1.toNatClampNeg) (q := lq) hl (by omega)).2
  rw [ix2] at w8
  have F8 : FrW (fun a i => a = n + 151 ∧ i = 301 * x1.toNatClampNeg + lq) o7 h8 := ⟨by rw [w8]; exact Nat.le_refl _, fun a i _ nw => by rw [w8]; exact ⟨by rw [r_I, if_neg nw], rfl⟩⟩
  have F9 : FrW (fun a i => a = n + 152 ∧ i = x1.toNatClampNeg) h8 h9 := ⟨by rw [w9]; exact Nat.le_refl _, fun a i _ nw => by rw [w9]; exact ⟨by rw [r_I, if_neg nw], rfl⟩⟩
  have FF : FrW (fun a i => (a = n + 151 ∧ i = 301 * x1.toNatClampNeg + lq) ∨ (a = n + 152 ∧ i = x1.toNatClampNeg) ∨ (o4.1 ≤ a ∧ a < o4.1 + 6) ∨ a = n + 38) o4.2 h9 := fw_t (fw_s F5 (fun _ _ c => Or.inr (Or.inr (Or.inl c)))) (fw_t (fw_s F7 (fun _ _ c => by
    rcases c with c | c
    · exact Or.inr (Or.inr (Or.inl c))
    · exact Or.inr (Or.inr (Or.inr c)))) (fw_t (fw_s F8 (fun _ _ c => Or.inl c)) (fw_s F9 (fun _ _ c => Or.inr (Or.inl c)))))
  have a1 : syAdd1 σ x1.toNatClampNeg x2.toInt v = syGl (syGm (syGq σ (301 * x1.toNatClampNeg + lq + 1) (zAll (syL σ) (syQ σ (301 * x1.toNatClampNeg + lq)) v)) (301 * x1.toNatClampNeg + lq) x2.toInt) x1.toNatClampNeg (syG σ x1.toNatClampNeg + 1) := by
    unfold syAdd1
    rw [tn]
  rw [a1, hlq]
  have ks9 := ks_r k9 (q := (150, 2408, 6, 1000, fsP)) (by decide) Gp.2.1
  refine ⟨by show (hI h (n + 152) x1.toNatClampNeg + 1).toInt = _; rw [t1]; omega, relc_gm (σ' := syGl (syGm (syGq σ (301 * x1.toNatClampNeg + lq + 1) (zAll (syL σ) (syQ σ (301 * x1.toNatClampNeg + lq)) v)) (301 * x1.toNatClampNeg + lq) x2.toInt) x1.toNatClampNeg ((lq : Int) + 1)) k4' Ok R4 g8 FF k9 rfl rfl rfl rfl (fun q hq nq => ⟨if_neg nq, fun i hi => ⟨if_neg (by omega), if_neg (by omega)⟩⟩) (fun a i c _ => ?_) ⟨?_, fun i hi => ?_⟩, k9, frc_w k4' FF (fun a i c _ => ?_)⟩
  · rcases c with c | c | c | c
    · exact Or.inr (Or.inr (Or.inl ⟨by omega, by omega, by omega⟩))
    · exact Or.inr (Or.inl c)
    · exact Or.inr (Or.inr (Or.inr ⟨lq + 1, o4.1, by omega, Gp.2.1, c⟩))
    · exact Or.inl (Or.inl ⟨by omega, by omega⟩)
  · have gl : syG (syGl (syGm (syGq σ (301 * x1.toNatClampNeg + lq + 1) (zAll (syL σ) (syQ σ (301 * x1.toNatClampNeg + lq)) v)) (301 * x1.toNatClampNeg + lq) x2.toInt) x1.toNatClampNeg ((lq : Int) + 1)) x1.toNatClampNeg = (lq : Int) + 1 := if_pos rfl
    rw [gl, w9, r_I, if_pos ⟨rfl, rfl⟩, t1]; omega
  · have gl : syG (syGl (syGm (syGq σ (301 * x1.toNatClampNeg + lq + 1) (zAll (syL σ) (syQ σ (301 * x1.toNatClampNeg + lq)) v)) (301 * x1.toNatClampNeg + lq) x2.toInt) x1.toNatClampNeg ((lq : Int) + 1)) x1.toNatClampNeg = (lq : Int) + 1 := if_pos rfl
    rw [gl] at hi ⊢
    have s7 : hS o4.2 ≤ hS o7 := Nat.le_trans F5.1 F7.1
    by_cases zi : i = lq + 1
    · subst zi
      refine ⟨⟨o4.1, ks9, ?_⟩, fun l => by omega⟩
      have sq : syQ (syGl (syGm (syGq σ (301 * x1.toNatClampNeg + lq + 1) (zAll (syL σ) (syQ σ (301 * x1.toNatClampNeg + lq)) v)) (301 * x1.toNatClampNeg + lq) x2.toInt) x1.toNatClampNeg ((lq : Int) + 1)) (301 * x1.toNatClampNeg + (lq + 1)) = zAll (syL σ) (syQ σ (301 * x1.toNatClampNeg + lq)) v := if_pos (by omega)
      rw [sq]
      refine cpa_f A7 (pg_T k9 j24 ks9) (fun j f hj => ?_)
      have y8 := F8.2 (o4.1 + j) f (by omega) (fun u => by omega)
      have y9 := F9.2 (o4.1 + j) f (by have := F8.1; omega) (fun u => by omega)
      exact ⟨y9.1.trans y8.1, y9.2.trans y8.2⟩
    · obtain ⟨⟨b, eb, B⟩, mb⟩ := G4.2 i (by omega)
      obtain ⟨lob, hib⟩ := dy_lo k4 (q := (150, 2408, 6, 1000, fsP)) (by decide) (show 301 * x1.toNatClampNeg + i < 2408 by omega) eb
      obtain ⟨u1, u2⟩ := pag_f k4' k9 FF (show 301 * x1.toNatClampNeg + i < 2408 by omega) eb (fun j f hj c => by
        rcases c with c | c | c | c
        · omega
        · omega
        · obtain ⟨_, d2, _⟩ := bk_dy Dw4 (q := (150, 2408, 6, 1000, fsP)) (by decide) j24 Gp.2.1
          obtain ⟨_, b2, _⟩ := bk_dy Dw4 (q := (150, 2408, 6, 1000, fsP)) (by decide) (show 301 * x1.toNatClampNeg + i < 2408 by omega) eb
          have u : own4 (o4.1 + (b + j - o4.1)) = 1000 + (301 * x1.toNatClampNeg + (lq + 1)) := d2.2 (b + j - o4.1) (by show b + j - o4.1 < 6; omega)
          rw [show o4.1 + (b + j - o4.1) = b + j by omega] at u
          have u2 : own4 (b + j) = 1000 + (301 * x1.toNatClampNeg + i) := b2.2 j hj
          omega
        · omega) B
      have sq : syQ (syGl (syGm (syGq σ (301 * x1.toNatClampNeg + lq + 1) (zAll (syL σ) (syQ σ (301 * x1.toNatClampNeg + lq)) v)) (301 * x1.toNatClampNeg + lq) x2.toInt) x1.toNatClampNeg ((lq : Int) + 1)) (301 * x1.toNatClampNeg + i) = syQ σ (301 * x1.toNatClampNeg + i) := if_neg (by omega)
      refine ⟨⟨b, u1, by rw [sq]; exact u2⟩, fun l => ?_⟩
      by_cases zl : i = lq
      · subst zl
        have sm : syMv (syGl (syGm (syGq σ (301 * x1.toNatClampNeg + i + 1) (zAll (syL σ) (syQ σ (301 * x1.toNatClampNeg + i)) v)) (301 * x1.toNatClampNeg + i) x2.toInt) x1.toNatClampNeg ((i : Int) + 1)) (301 * x1.toNatClampNeg + i) = x2.toInt := if_pos rfl
        rw [sm, (F9.2 (n + 151) _ (by have := F8.1; omega) (fun u => by omega)).1, w8, r_I, if_pos ⟨rfl, rfl⟩]
      · have sm : syMv (syGl (syGm (syGq σ (301 * x1.toNatClampNeg + lq + 1) (zAll (syL σ) (syQ σ (301 * x1.toNatClampNeg + lq)) v)) (301 * x1.toNatClampNeg + lq) x2.toInt) x1.toNatClampNeg ((lq : Int) + 1)) (301 * x1.toNatClampNeg + i) = syMv σ (301 * x1.toNatClampNeg + i) := if_neg (by omega)
        rw [sm, (FF.2 (n + 151) (301 * x1.toNatClampNeg + i) (by omega) (fun c => by omega)).1]
        exact mb (by omega)
  · rcases c with c | c | c | c
    · exact Or.inl (by omega)
    · exact Or.inl (by omega)
    · exact Or.inr ⟨_, o4.1, j24, Gp.2.1, c⟩
    · exact Or.inl (by omega)
end
end
section
/-! games, the reference -/
section
variable {n j F : Nat} {h : Hp} {σ : Sy} {o : Int32 × Hp} {x1 x2 x3 : Int32}
theorem isg_r (e : sX15_isGame h x1 = some o) : o.2 = h ∧ ((o.1 = 0 ∧ ¬ gmI x1) ∨ (¬ o.1 = 0 ∧ gmI x1)) := by
  have z0 : (0 : Int32).toInt = 0 := rfl
  have z8 : (8 : Int32).toInt = 8 := rfl
  unfold sX15_isGame sX15_isGame_14 sX15_isGame_15 at e
  rcases br_s e with ⟨c, e⟩ | ⟨c, e⟩
  · rw [so_e (gg_e e)]
    have := lt_i c
    exact ⟨rfl, Or.inl ⟨rfl, fun z => by unfold gmI at z; omega⟩⟩
  have c := nlt_i c
  rcases br_s e with ⟨c2, e⟩ | ⟨c2, e⟩
  · rw [so_e (gg_e e)]
    have := le_i c2
    exact ⟨rfl, Or.inl ⟨rfl, fun z => by unfold gmI at z; omega⟩⟩
  · rw [so_e (gg_e e)]
    have := nle_i c2
    exact ⟨rfl, Or.inr ⟨by show ¬ (1 : Int32) = 0; decide, by omega, by omega⟩⟩
/-- what is written of one game -/
theorem relr_gm {g' : Nat} {h' : Hp} {σ' : Sy} {W : Nat → Nat → Prop} (k : DyK n h h) (Ok : SyOk σ) (R : RelR n j h σ) (hg : g' < 8) (F : FrW W h h') (k' : DyK n h h') (sl : syL σ' = syL σ) (sp : syP σ' = syP σ) (sf : syF σ' = syF σ) (so : syO σ' = syO σ) (sg : ∀ q, q < 8 → ¬ q = g' → syG σ' q = syG σ q ∧ ∀ i, i ≤ 300 → syQ σ' (301 * q + i) = syQ σ (301 * q + i) ∧ syMv σ' (301 * q + i) = syMv σ (301 * q + i)) (w : ∀ a i, W a i → a < hS h → RS n a i ∨ (a = n + 582 ∧ i = g') ∨ (a = n + 581 ∧ 301 * g' ≤ i ∧ i ≤ 301 * g' + 300) ∨ ∃ q r, q ≤ 300 ∧ hR h (n + 580) (301 * g' + q) = some r ∧ r ≤ a ∧ a < r + 5) (N : RGi n h' σ' g') : RelR n j h' σ' := by
  have s6 := dk_610 k
  obtain ⟨R1, R2, R3, R4, R5, R6⟩ := R
  have st : ∀ j i, j < 610 → ¬ RS n (n + j) i → ¬ j = 582 → ¬ j = 581 → ¬ W (n + j) i := fun j i l c1 c2 c3 c => by
    rcases w _ _ c (by omega) with c | c | c | ⟨q, r, hq, er, c⟩
    · exact c1 c
    · omega
    · omega
    · have := dy_lo k (q := (580, 2408, 5, 5000, fsB)) (by decide) (show 301 * g' + q < 2408 by omega) er
      omega
  have dyn : ∀ {q : Nat × Nat × Nat × Nat × List (Nat × Nat)} {i a : Nat}, q ∈ fam → 536 ≤ q.1 → i < q.2.1 → hR h (n + q.1) i = some a → n + 610 ≤ a → a + q.2.2.1 ≤ hS h → (∀ q', q' ≤ 300 → ¬ q.2.2.2.1 + i = 5000 + (301 * g' + q')) → ∀ j f, j < q.2.2.1 → ¬ W (a + j) f := fun {q i a} hq h5 hi e lo hi' nt j f hj c => by
    rcases w _ f c (by omega) with c | c | c | ⟨q', r, hq', er, c⟩
    · unfold RS at c; omega
    · omega
    · omega
    · obtain ⟨own, Dw⟩ := k.1.1
      obtain ⟨_, b2, _⟩ := bk_dy Dw (q := (580, 2408, 5, 5000, fsB)) (by decide) (show 301 * g' + q' < 2408 by omega) er
      obtain ⟨_, d2, _⟩ := bk_dy Dw hq hi e
      have u : own (r + (a + j - r)) = 5000 + (301 * g' + q') := b2.2 (a + j - r) (by show a + j - r < 5; omega)
      rw [show r + (a + j - r) = a + j by omega] at u
      have u2 := d2.2 j hj
      have := nt q' hq'
      omega
  obtain ⟨x1, x2, x3⟩ := relr_g k k' F (fun j i hj => st j i (by unfold rFt at hj; omega) (fun c => by unfold rFt at hj; unfold RS at c; omega) (by unfold rFt at hj; omega) (by unfold rFt at hj; omega)) (fun q a hq e lo hi => dyn (q := (583, 3000, 5, 8000, fsB)) (by decide) (by decide) hq e lo hi (fun q' hq' => by show ¬ 8000 + q = _; omega)) R1 R4 R5
  refine ⟨by rw [sl]; exact x1, fun p hp => ?_, fun q hq => ?_, ?_, ?_, rse_f k F (st 513 16 (by decide) (fun c => by unfold RS at c; omega) (by decide) (by decide)) R6⟩
  · have y := rpi_f k k' F hp (st 537 p (by decide) (fun c => by unfold RS at c; omega) (by decide) (by decide)) (fun a e lo hi => dyn (q := (536, 60, 5, 4000, fsB)) (by decide) (by decide) hp e lo hi (fun q' hq' => by show ¬ 4000 + p = _; omega)) (R2 p hp)
    unfold RPi
    rw [sp]
    exact y
  · by_cases z : q = g'
    · rw [z]; exact N
    · obtain ⟨g1, g2⟩ := sg q hq z
      have lg := lgle Ok q hq
      have y := rgi_f k k' F hq lg (fun c => by
        rcases w _ _ c (by omega) with c | c | c | ⟨q', r, hq', er, c⟩
        · unfold RS at c; omega
        · omega
        · omega
        · have := dy_lo k (q := (580, 2408, 5, 5000, fsB)) (by decide) (show 301 * g' + q' < 2408 by omega) er
          omega) (fun i hi c => by
        rcases w _ _ c (by omega) with c | c | c | ⟨q', r, hq', er, c⟩
        · unfold RS at c; omega
        · omega
        · omega
        · have := dy_lo k (q := (580, 2408, 5, 5000, fsB)) (by decide) (show 301 * g' + q' < 2408 by omega) er
          omega) (fun i a hi e lo hi' => dyn (q := (580, 2408, 5, 5000, fsB)) (by decide) (by decide) (show 301 * q + i < 2408 by omega) e lo hi' (fun q' hq' => by show ¬ 5000 + (301 * q + i) = _; omega)) (R3 q hq)
      refine ⟨by rw [g1]; exact y.1, fun i hi => ?_⟩
      rw [g1] at hi
      obtain ⟨⟨a, ea, ca⟩, m⟩ := y.2 i hi
      obtain ⟨u1, u2⟩ := g2 i (by omega)
      exact ⟨⟨a, ea, by rw [u1]; exact ca⟩, fun l => by rw [u2]; exact m (by rw [g1] at l; exact l)⟩
  · unfold RFd
    rw [sf]
    exact x2
  · unfold ROu
    rw [so]
    exact x3
theorem ra_back (k : DyK n h h) (Ok : SyOk σ) (R : RelR n j h σ) (e : sX15_back h (n + 513) x1 = some o) : RaO n j h (syBack σ x1) o (anBack σ x1) := by
  have z0 : (0 : Int32).toInt = 0 := rfl
  have z1 : (1 : Int32).toInt = 1 := rfl
  have zm : (-1 : Int32).toInt = -1 := rfl
  have s6 := dk_610 k
  unfold sX15_back at e
  unfold anBack syBack
  obtain ⟨o1, e1, e⟩ := cl_s e
  obtain ⟨q1, c1⟩ := isg_r e1
  rw [q1] at e
  rcases c1 with ⟨d1, d2⟩ | ⟨d1, d2⟩
  · rw [so_e (bp_e d1 e), prb_f.mpr d2, if_neg (by decide), if_neg (by decide)]
    exact rao_0 k R rfl rfl
  replace e := bn_e d1 e
  rw [prb_e.mpr d2, if_pos rfl, if_pos rfl]
  obtain ⟨g8, gn⟩ := gmi_n d2
  have G := (R.2.2.1 x1.toNatClampNeg g8)
  have Gb := (Ok.2.2.1 x1.toNatClampNeg g8).1
  have W := dk_e (a := 513) (f := 39) (b := 582) k (by decide +kernel)
  replace e := ce_e W e
  replace e := gg_e e
  rcases br_s e with ⟨c, e⟩ | ⟨c, e⟩
  · have c : (hI h (n + 582) x1.toNatClampNeg).toInt = -1 := by
      have : hI h (n + 582) x1.toNatClampNeg = -1 := c
      rw [this]; rfl
    rw [so_e e, if_pos (by rw [← G.1]; exact c), if_pos (by rw [← G.1]; exact c)]
    exact rao_0 k R rfl rfl
  have c := ne_i c
  have c : ¬ (hI h (n + 582) x1.toNatClampNeg).toInt = -1 := c
  rw [G.1] at c
  rw [if_neg c, if_neg c]
  replace e := ce_e W e
  replace e := gg_e e
  rcases br_s e with ⟨c2, e⟩ | ⟨c2, e⟩
  · have c2 : (hI h (n + 582) x1.toNatClampNeg).toInt = 0 := by
      have : hI h (n + 582) x1.toNatClampNeg = 0 := c2
      rw [this]; rfl
    rw [so_e e, if_pos (by rw [← G.1]; exact c2), if_pos (by rw [← G.1]; exact c2)]
    exact rao_0 k R rfl rfl
  have c2 := ne_i c2
  have c2 : ¬ (hI h (n + 582) x1.toNatClampNeg).toInt = 0 := c2
  rw [G.1] at c2
  rw [if_neg c2, if_neg c2]
  replace e := ce_e W e
  replace e := gg_e e
  replace e := gg_e e
  obtain ⟨h12, w12, e⟩ := nm_s e
  have k12 : DyK n h h12 := by rw [w12]; exact dk_wI k
  replace e := ce_e (dk_e (a := 513) (f := 39) (b := 582) k12 (by decide +kernel)) e
  replace e := gg_e e
  have v : (hI h12 (n + 582) x1.toNatClampNeg).toInt = syG σ x1.toNatClampNeg - 1 := by
    rw [w12, r_I, if_pos ⟨rfl, rfl⟩, ts (by rw [z1, G.1]; omega), z1, G.1]
  have FF : FrW (fun a i => a = n + 582 ∧ i = x1.toNatClampNeg) h h12 := ⟨by rw [w12]; exact Nat.le_refl _, fun a i _ nw => by rw [w12]; exact ⟨by rw [r_I, if_neg nw], rfl⟩⟩
  rw [so_e e]
  have gl : syG (syGl σ x1.toNatClampNeg (syG σ x1.toNatClampNeg - 1)) x1.toNatClampNeg = syG σ x1.toNatClampNeg - 1 := if_pos rfl
  refine ⟨v, relr_gm k Ok R g8 FF k12 rfl rfl rfl rfl (fun q hq nq => ⟨if_neg nq, fun _ _ => ⟨rfl, rfl⟩⟩) (fun a i c _ => Or.inr (Or.inl c)) ⟨by rw [gl]; exact v, fun i hi => ?_⟩, k12, frr_w k FF (fun a i c _ => Or.inl (by omega))⟩
  rw [gl] at hi
  obtain ⟨⟨a, ea, ca⟩, m⟩ := G.2 i (by omega)
  obtain ⟨lo, hi'⟩ := dy_lo k (q := (580, 2408, 5, 5000, fsB)) (by decide) (show 301 * x1.toNatClampNeg + i < 2408 by omega) ea
  obtain ⟨u1, u2⟩ := brd_f k k12 FF (q := (580, 2408, 5, 5000, fsB)) (by decide) rfl rfl (show 301 * x1.toNatClampNeg + i < 2408 by omega) ea (fun j f hj c => by omega) ca
  refine ⟨⟨a, u1, u2⟩, fun l => ?_⟩
  rw [(FF.2 (n + 581) _ (by omega) (fun c => by omega)).1]
  exact m (by omega)
theorem ra_played (k : DyK n h h) (Ok : SyOk σ) (R : RelR n j h σ) (e : sX15_played h (n + 513) x1 x2 = some o) : RaO n j h σ o (anPld σ x1 x2) := by
  have z0 : (0 : Int32).toInt = 0 := rfl
  unfold sX15_played sX15_played_34 sX15_played_51 at e
  unfold anPld
  obtain ⟨o1, e1, e⟩ := cl_s e
  obtain ⟨q1, c1⟩ := isg_r e1
  rw [q1] at e
  rcases c1 with ⟨d1, d2⟩ | ⟨d1, d2⟩
  · rw [so_e (bp_e d1 e), prb_f.mpr d2, if_neg (by decide)]
    exact rao_0 k R rfl rfl
  replace e := bn_e d1 e
  rw [prb_e.mpr d2, if_pos rfl]
  obtain ⟨g8, gn⟩ := gmi_n d2
  have G := (R.2.2.1 _ g8)
  have Gb := (Ok.2.2.1 _ g8).1
  have W := dk_e (a := 513) (f := 39) (b := 582) k (by decide +kernel)
  replace e := ce_e W e
  replace e := gg_e e
  rcases br_s e with ⟨c0, e⟩ | ⟨c0, e⟩
  · have c0 : (hI h (n + 582) x1.toNatClampNeg).toInt = -1 := by
      have : hI h (n + 582) x1.toNatClampNeg = -1 := c0
      rw [this]; rfl
    rw [G.1] at c0
    rw [so_e e, if_neg (by omega)]
    exact rao_0 k R rfl rfl
  rcases br_s e with ⟨c, e⟩ | ⟨c, e⟩
  · have := lt_i c
    rw [so_e e, if_neg (by omega)]
    exact rao_0 k R rfl rfl
  have c := nlt_i c
  have nc := nc_i (x := x2) (by omega)
  replace e := ce_e W e
  replace e := gg_e e
  rcases br_s e with ⟨c2, e⟩ | ⟨c2, e⟩
  rotate_left
  · have c2 : (hI h (n + 582) x1.toNatClampNeg).toInt ≤ x2.toInt := nlt_i c2
    rw [G.1] at c2
    rw [so_e e, if_neg (by omega)]
    exact rao_0 k R rfl rfl
  have c2 : x2.toInt < (hI h (n + 582) x1.toNatClampNeg).toInt := lt_i c2
  rw [G.1] at c2
  rw [if_pos ⟨by omega, c2⟩]
  replace e := ce_e (dk_e (a := 513) (f := 38) (b := 581) k (by decide +kernel)) e
  replace e := gg_e e
  rw [so_e e]
  have ix := (ix_g d2 (y := x2) (q := x2.toNatClampNeg) (by omega) (by omega)).2
  refine rao_0 k R rfl ?_
  show (hI h (n + 581) ((x1 * (301 : Int32)) + x2).toNatClampNeg).toInt = _
  rw [ix]
  exact (G.2 x2.toNatClampNeg (by omega)).2 (by omega)
/-- a board of a row, found or made -/
theorem got_r {arr i r : Nat} {o2 : Hp} (k : DyK n h h) (Ok : SyOk σ) (R : RelR n j h σ) (n1 : ¬ arr = 573 ∧ ¬ arr = 574 ∧ ¬ arr = 62 ∧ ¬ arr = 513) (G : Got n h h o2 arr i 5 r) : DyK n h o2 ∧ RelR n j o2 σ ∧ FrR n h o2 := by
  have k2 : DyK n h o2 := dk_got k n1 G
  have F : FrW (fun _ _ => False) h o2 := got_w G
  exact ⟨k2, relr_f k k2 F (fun _ _ _ c => c) (fun _ _ _ _ _ _ _ _ _ _ _ _ c => c) (lgle Ok) R, frr_w k F (fun _ _ c _ => c.elim)⟩
theorem bd_T {g : Hp} {q : Nat × Nat × Nat × Nat × List (Nat × Nat)} {i a : Nat} (k : DyK n g h) (hq : q ∈ fam) (f5 : q.2.2.2.2 = fsB) (hi : i < q.2.1) (e : hR h (n + q.1) i = some a) : ∀ p, p ∈ fsB → hR h a p.1 = some (a + p.2) := by
  obtain ⟨own, Dw⟩ := k.1.1
  have := (bk_dy Dw hq hi e).2.2
  rw [f5] at this
  exact this
theorem ra_start (k : DyK n h h) (Ok : SyOk σ) (R : RelR n j h σ) (e : sX15_start h (n + 513) x1 x2 = some o) : RaO n j h (sySta σ x1 x2) o (anSta σ x1 x2) := by
  have z0 : (0 : Int32).toInt = 0 := rfl
  unfold sX15_start sX15_start_4 sX15_start_15 at e
  unfold anSta sySta
  obtain ⟨o1, e1, e⟩ := cl_s e
  obtain ⟨q1, c1⟩ := isg_r e1
  rw [q1] at e
  rcases c1 with ⟨d1, d2⟩ | ⟨d1, d2⟩
  · rw [so_e (bp_e d1 e), prb_f.mpr d2, if_neg (by decide), if_neg (by decide)]
    exact rao_0 k R rfl rfl
  replace e := bn_e d1 e
  rw [prb_e.mpr d2, if_pos rfl, if_pos rfl]
  obtain ⟨g8, gn⟩ := gmi_n d2
  obtain ⟨o2, e2, e⟩ := cl_s e
  obtain ⟨q2, c2⟩ := has_r k R.2.1 e2
  rw [q2] at e
  rcases c2 with ⟨d3, d4⟩ | ⟨d3, P, d4⟩
  · rw [so_e (bp_e d3 e), ple_n d4, d4]
    exact rao_0 k R rfl rfl
  replace e := bn_e d3 e
  rw [ple_s d4, d4]
  show RaO n j h (syGl (syGq σ (301 * x1.toNatClampNeg) P) x1.toNatClampNeg 0) o 0
  obtain ⟨_, _, b3, _⟩ := spl_b d4
  obtain ⟨o3, e3, e⟩ := cl_s e
  obtain ⟨_, _, G⟩ := gb_g k.1 e3
  have ix := (ix_g d2 (y := (0 : Int32)) (q := 0) rfl (by decide)).2
  rw [ix, Nat.add_zero] at G
  have i24 : 301 * x1.toNatClampNeg < 2408 := by omega
  obtain ⟨k3, R3, f3⟩ := got_r k Ok R (by decide) G
  refine ra_mono k3 f3 ?_
  have k3' := dk_self k3
  have s3 := dk_610 k3
  obtain ⟨b, eb, B⟩ := rpl_p R3.2.1 d4
  unfold sX15_start_27 at e
  replace e := ce_e (dk_e (a := 513) (f := 14) (b := 536) k3 (by decide +kernel)) e
  replace e := gg_e e
  replace e := ce_e eb e
  obtain ⟨o4, e4, e⟩ := cl_s e
  obtain ⟨own, Dw⟩ := k3.1.1
  obtain ⟨lo, hi⟩ := dy_lo k3 (q := (580, 2408, 5, 5000, fsB)) (by decide) i24 G.2.1
  have hi : o3.1 + 5 ≤ hS o3.2 := hi
  have bg : BkE own o3.2 o3.1 4 (5000 + 301 * x1.toNatClampNeg) := bke_b (q := (580, 2408, 5, 5000, fsB)) Dw (by decide) rfl (by decide) i24 G.2.1
  obtain ⟨F4, k4, A4⟩ := cpy_m k3' Dw.1 (bke_p Dw b3 eb) bg (by omega) B (bd_T k3 (q := (580, 2408, 5, 5000, fsB)) (by decide) rfl i24 G.2.1) e4
  unfold sX15_start_36 at e
  replace e := ce_e (dk_e (a := 513) (f := 39) (b := 582) k4 (by decide +kernel)) e
  replace e := gg_e e
  obtain ⟨h5, w5, e⟩ := nm_s e
  have k5 : DyK n o3.2 h5 := by rw [w5]; exact dk_wI k4
  rw [so_e e]
  have F5 : FrW (fun a i => a = n + 582 ∧ i = x1.toNatClampNeg) o4 h5 := ⟨by rw [w5]; exact Nat.le_refl _, fun a i _ nw => by rw [w5]; exact ⟨by rw [r_I, if_neg nw], rfl⟩⟩
  have FF : FrW (fun a i => (a = n + 582 ∧ i = x1.toNatClampNeg) ∨ (o3.1 ≤ a ∧ a < o3.1 + 5)) o3.2 h5 := fw_t (fw_s F4 (fun _ _ c => Or.inr c)) (fw_s F5 (fun _ _ c => Or.inl c))
  have gl : syG (syGl (syGq σ (301 * x1.toNatClampNeg) P) x1.toNatClampNeg 0) x1.toNatClampNeg = 0 := if_pos rfl
  refine ⟨rfl, relr_gm (σ' := syGl (syGq σ (301 * x1.toNatClampNeg) P) x1.toNatClampNeg 0) k3' Ok R3 g8 FF k5 rfl rfl rfl rfl (fun q hq nq => ⟨if_neg nq, fun i hi => ⟨if_neg (by omega), rfl⟩⟩) (fun a i c _ => ?_) ⟨?_, fun i hi => ?_⟩, k5, frr_w k3' FF (fun a i c _ => ?_)⟩
  · rcases c with c | c
    · exact Or.inr (Or.inl c)
    · exact Or.inr (Or.inr (Or.inr ⟨0, o3.1, by decide, G.2.1, c⟩))
  · rw [gl, w5, r_I, if_pos ⟨rfl, rfl⟩]; rfl
  · rw [gl] at hi ⊢
    have i0 : i = 0 := by omega
    subst i0
    have ks := ks_r k5 (q := (580, 2408, 5, 5000, fsB)) (by decide) G.2.1
    refine ⟨⟨o3.1, ks, ?_⟩, fun l => by omega⟩
    have sq : syQ (syGl (syGq σ (301 * x1.toNatClampNeg) P) x1.toNatClampNeg 0) (301 * x1.toNatClampNeg + 0) = P := if_pos rfl
    rw [sq]
    exact rba_f A4 (bd_T k5 (q := (580, 2408, 5, 5000, fsB)) (by decide) rfl i24 ks) (fun j f hj => F5.2 _ _ (by have := F4.1; omega) (fun c => by omega))
  · rcases c with c | c
    · exact Or.inl (by omega)
    · exact Or.inr ⟨(580, 2408, 5, 5000, fsB), by decide, by decide, _, o3.1, i24, G.2.1, c⟩
/-- the board of a game that is there -/
theorem gb_l {y : Int32} {o : Nat × Hp} {g' q : Nat} (k : DyK n h h) (d2 : gmI x1) (eg : x1.toNatClampNeg = g') (ey : y.toInt = (q : Int)) (lq : q ≤ 301) {a : Nat} (ea : hR h (n + 580) (301 * g' + q) = some a) (e : sX15_gameBoard h (n + 513) x1 y = some o) : o = (a, h) := by
  obtain ⟨_, _, G⟩ := gb_g k.1 e
  have ix := (ix_g d2 (y := y) (q := q) ey lq).2
  rw [ix, eg] at G
  rcases G.2.2 with ⟨u, v⟩ | ⟨u, _⟩
  · rw [ea] at u
    exact Prod.ext (Option.some.inj u).symm v
  · rw [ea] at u; exact nomatch u
theorem ra_now (k : DyK n h h) (Ok : SyOk σ) (R : RelR n j h σ) (j1 : j < 100000) (e : sX15_now F h (n + 513) x1 = some o) : RaO n (j + 1) h (syNow σ x1) o (anNow σ x1) := by
  have zm : (-1 : Int32).toInt = -1 := rfl
  unfold sX15_now sX15_now_4 sX15_now_40 at e
  unfold anNow syNow
  obtain ⟨o1, e1, e⟩ := cl_s e
  obtain ⟨q1, c1⟩ := isg_r e1
  rw [q1] at e
  rcases c1 with ⟨d1, d2⟩ | ⟨d1, d2⟩
  · rw [so_e (bp_e d1 e), prb_f.mpr d2, if_neg (by decide), if_neg (by decide)]
    exact rao_m (j := j) (rao_0 k R rfl rfl) (by omega) (by omega)
  replace e := bn_e d1 e
  rw [prb_e.mpr d2, if_pos rfl, if_pos rfl]
  obtain ⟨g8, gn⟩ := gmi_n d2
  have G := R.2.2.1 _ g8
  have Gb := (Ok.2.2.1 _ g8).1
  have W := dk_e (a := 513) (f := 39) (b := 582) k (by decide +kernel)
  replace e := ce_e W e
  replace e := gg_e e
  rcases br_s e with ⟨c, e⟩ | ⟨c, e⟩
  · have c : (hI h (n + 582) x1.toNatClampNeg).toInt = -1 := by
      have : hI h (n + 582) x1.toNatClampNeg = -1 := c
      rw [this]; rfl
    rw [so_e e, if_pos (by rw [← G.1]; exact c), if_pos (by rw [← G.1]; exact c)]
    exact rao_m (j := j) (rao_0 k R rfl rfl) (by omega) (by omega)
  have c := ne_i c
  have c : ¬ (hI h (n + 582) x1.toNatClampNeg).toInt = -1 := c
  rw [G.1] at c
  rw [if_neg c, if_neg c]
  replace e := ce_e W e
  replace e := gg_e e
  obtain ⟨lq, hlq⟩ : ∃ q : Nat, syG σ x1.toNatClampNeg = (q : Int) := ⟨(syG σ x1.toNatClampNeg).toNat, by omega⟩
  obtain ⟨⟨a, ea, A⟩, _⟩ := G.2 lq (by omega)
  have i24 : 301 * x1.toNatClampNeg + lq < 2408 := by omega
  rw [show (syG σ x1.toNatClampNeg).toNat = lq by omega]
  obtain ⟨o6, e6, e⟩ := cl_s e
  have y6 := gb_l k d2 rfl (show (hI h (n + 582) x1.toNatClampNeg).toInt = (lq : Int) by rw [G.1]; exact hlq) (by omega) ea e6
  subst y6
  unfold sX15_now_37 sX15_now_40 at e
  obtain ⟨o8, e8, e⟩ := cl_s e
  have eo := so_e e
  have yo : o = o8 := by rw [eo]
  rw [yo]
  rcases kp_m (t := 5000 + (301 * x1.toNatClampNeg + lq)) k Ok R j1 (fun h' k' own Dw => bke_b (q := (580, 2408, 5, 5000, fsB)) Dw (by decide) rfl (by decide) i24 (ks_r k' (q := (580, 2408, 5, 5000, fsB)) (by decide) ea)) (by omega) A e8 with ⟨u, v⟩ | ⟨p, hp, u, X⟩
  · rw [v, if_pos u, if_pos u]
    exact rao_m (j := j) (rao_0 k R rfl rfl) (by omega) (by omega)
  · rw [if_neg (by omega), if_neg (by omega), u, show (p : Int).toNat = p by omega]
    exact X
end
end
section
/-! games, the reference: add -/
section
variable {n j F : Nat} {h : Hp} {σ : Sy} {o : Int32 × Hp} {x1 x2 x3 : Int32}
theorem ra_addm (k : DyK n h h) (Ok : SyOk σ) (R : RelR n j h σ) (e : sX15_add F h (n + 513) x1 x2 = some o) : RaO n j h (syAdd σ x1 x2) o (anAdd σ x1 x2) := by
  have z0 : (0 : Int32).toInt = 0 := rfl
  have z1 : (1 : Int32).toInt = 1 := rfl
  have z3 : (300 : Int32).toInt = 300 := rfl
  have s6 := dk_610 k
  unfold sX15_add sX15_add_4 at e
  unfold anAdd syAdd
  obtain ⟨o1, e1, e⟩ := cl_s e
  obtain ⟨q1, c1⟩ := isg_r e1
  rw [q1] at e
  rcases c1 with ⟨d1, d2⟩ | ⟨d1, d2⟩
  · rw [so_e (bp_e d1 e), prb_f.mpr d2, if_neg (by decide), if_neg (by decide)]
    exact rao_0 k R rfl rfl
  replace e := bn_e d1 e
  rw [prb_e.mpr d2, if_pos rfl, if_pos rfl]
  obtain ⟨g8, gn⟩ := gmi_n d2
  have G := R.2.2.1 _ g8
  have Gb := (Ok.2.2.1 _ g8).1
  have W := dk_e (a := 513) (f := 39) (b := 582) k (by decide +kernel)
  replace e := ce_e W e
  replace e := gg_e e
  rcases br_s e with ⟨c, e⟩ | ⟨c, e⟩
  · have c : (hI h (n + 582) x1.toNatClampNeg).toInt = -1 := by
      have : hI h (n + 582) x1.toNatClampNeg = -1 := c
      rw [this]; rfl
    rw [so_e e, if_pos (by rw [← G.1]; exact c), if_pos (by rw [← G.1]; exact c)]
    exact rao_0 k R rfl rfl
  have c := ne_i c
  have c : ¬ (hI h (n + 582) x1.toNatClampNeg).toInt = -1 := c
  rw [G.1] at c
  rw [if_neg c, if_neg c]
  replace e := ce_e W e
  replace e := gg_e e
  obtain ⟨lq, hlq⟩ : ∃ q : Nat, syG σ x1.toNatClampNeg = (q : Int) := ⟨(syG σ x1.toNatClampNeg).toNat, by omega⟩
  have hl : (hI h (n + 582) x1.toNatClampNeg).toInt = (lq : Int) := by rw [G.1]; exact hlq
  have tn : (syG σ x1.toNatClampNeg).toNat = lq := by omega
  obtain ⟨⟨a, ea, A⟩, _⟩ := G.2 lq (by omega)
  have Oz := (Ok.2.2.1 _ g8).2 lq (by omega)
  have i24 : 301 * x1.toNatClampNeg + lq < 2408 := by omega
  obtain ⟨o6, e6, e⟩ := cl_s e
  have y6 := gb_l k d2 rfl hl (by omega) ea e6
  subst y6
  unfold sX15_add_34 at e
  replace e := ce_e (dk_e (a := 513) (f := 30) (b := 552) k (by decide +kernel)) e
  obtain ⟨o3, e3, e⟩ := cl_s e
  obtain ⟨own, Dw⟩ := k.1.1
  obtain ⟨w, hw, _, _, C⟩ := R.1
  have bg : BkE own h a 4 (5000 + (301 * x1.toNatClampNeg + lq)) := bke_b (q := (580, 2408, 5, 5000, fsB)) Dw (by decide) rfl (by decide) i24 ea
  obtain ⟨f0, k3, m⟩ := leg_m k Dw.1 hw bg (bk_ml Dw.1) (by omega) Ok.1.1 Ok.1.2.1 Oz C A (lst_T k) e3
  have f : FrW (RS n) h o3 := fw_s f0 (fun a i c => by
    rcases c with c | c
    · exact c
    · exact Or.inr (Or.inl ⟨by omega, by omega⟩))
  have R3 := relr_rs k Ok R f k3
  have gmn : ¬ (0 ≤ x2.toInt ∧ x2.toInt < ((lgL (syL σ) (syQ σ (301 * x1.toNatClampNeg + lq))).length : Int)) → gmV σ x1 x2 = none := fun u => by
    unfold gmV
    rw [tn]
    by_cases v : 0 ≤ x2.toInt
    · rw [if_pos v]
      have := nc_i v
      exact List.getElem?_eq_none (by omega)
    · exact if_neg v
  unfold sX15_add_44 sX15_add_59 at e
  rcases br_s e with ⟨c3, e⟩ | ⟨c3, e⟩
  · have := lt_i c3
    rw [so_e e, gmn (by omega)]
    exact rao_s (o := ((-102 : Int32), o3)) k Ok R f k3 rfl
  have c3 := nlt_i c3
  have nc := nc_i (x := x2) (by omega)
  have m0 : (hI o3 (n + 552) 0).toInt = ((lgL (syL σ) (syQ σ (301 * x1.toNatClampNeg + lq))).length : Int) := m.1
  replace e := ce_e (dk_e (a := 513) (f := 30) (b := 552) k3 (by decide +kernel)) e
  rcases br_s e with ⟨c4, e⟩ | ⟨c4, e⟩
  rotate_left
  · have := nlt_i c4
    rw [so_e e, gmn (by omega)]
    exact rao_s (o := ((-102 : Int32), o3)) k Ok R f k3 rfl
  have c4 := lt_i c4
  have ev := m.2 x2.toNatClampNeg (by omega)
  generalize hv : rowM (fun k => n + 552 + kof k) o3 x2.toNatClampNeg = v at ev
  have gv : gmV σ x1 x2 = some v := by
    unfold gmV
    rw [tn, if_pos (by omega)]
    exact ev
  rw [gv]
  have Gm := lg_gd Ok.1.1 Ok.1.2.1 Oz ev
  show RaO n j h (if syG σ x1.toNatClampNeg = 300 then σ else syAdd1 σ x1.toNatClampNeg x2.toInt v) o (if syG σ x1.toNatClampNeg = 300 then -104 else syG σ x1.toNatClampNeg + 1)
  have G3 := R3.2.2.1 _ g8
  have hl3 : (hI o3 (n + 582) x1.toNatClampNeg).toInt = (lq : Int) := by rw [G3.1]; exact hlq
  have W3 := dk_e (a := 513) (f := 39) (b := 582) k3 (by decide +kernel)
  replace e := ce_e W3 e
  replace e := gg_e e
  rcases br_s e with ⟨c5, e⟩ | ⟨c5, e⟩
  · have c5 : (hI o3 (n + 582) x1.toNatClampNeg).toInt = 300 := by
      have : hI o3 (n + 582) x1.toNatClampNeg = 300 := c5
      rw [this]; rfl
    rw [so_e e, if_pos (by omega), if_pos (by omega)]
    exact rao_s (o := ((-104 : Int32), o3)) k Ok R f k3 rfl
  have c5 := ne_i c5
  have c5 : ¬ (hI o3 (n + 582) x1.toNatClampNeg).toInt = 300 := c5
  rw [if_neg (by omega), if_neg (by omega)]
  refine ra_mono k3 (frr_w k f (fun a i c _ => Or.inl (rs_c c))) ?_
  -- the next board
  have k3' := dk_self k3
  replace e := ce_e (dk_e (a := 513) (f := 30) (b := 552) k3 (by decide +kernel)) e
  replace e := ce_e W3 e
  replace e := gg_e e
  obtain ⟨o4, e4, e⟩ := cl_s e
  obtain ⟨_, _, Gp⟩ := gb_g k3'.1 e4
  have t1 : (hI o3 (n + 582) x1.toNatClampNeg + 1).toInt = ((lq + 1 : Nat) : Int) := by rw [ta (by rw [z1]; omega), z1, hl3]; omega
  have ix := (ix_g d2 (y := hI o3 (n + 582) x1.toNatClampNeg + 1) (q := lq + 1) t1 (by omega)).2
  rw [ix] at Gp
  have j24 : 301 * x1.toNatClampNeg + (lq + 1) < 2408 := by omega
  obtain ⟨k4, R4, f4⟩ := got_r k3' Ok R3 (by decide) Gp
  refine ra_mono k4 f4 ?_
  have k4' := dk_self k4
  have s4 := dk_610 k4
  have s3 := dk_610 k3
  have G4 := R4.2.2.1 _ g8
  obtain ⟨⟨a4, ea4, A4⟩, _⟩ := G4.2 lq (by omega)
  have ya : a4 = a := by
    have q1 := ks_r k3 (q := (580, 2408, 5, 5000, fsB)) (by decide) ea
    have q2 := ks_r k4 (q := (580, 2408, 5, 5000, fsB)) (by decide) q1
    exact r_eq q2 ea4
  subst ya
  obtain ⟨own4, Dw4⟩ := k4.1.1
  obtain ⟨w4, hw4, _, _, C4⟩ := R4.1
  have FGp : FrW (fun _ _ => False) o3 o4.2 := got_w Gp
  have row : rwA o4.2 (n + 552) x2.toNatClampNeg = v := by
    rw [← hv]
    unfold rwA rowM
    have q : ∀ j i, j < 8 → hI o4.2 (n + 552 + j) i = hI o3 (n + 552 + j) i := fun j i hj => (FGp.2 _ _ (by omega) (fun u => u)).1
    show ((hI o4.2 (n + 552 + 1) _).toInt, (hI o4.2 (n + 552 + 2) _).toInt, (hI o4.2 (n + 552 + 3) _).toInt, (hI o4.2 (n + 552 + 4) _).toInt, (hI o4.2 (n + 552 + 5) _).toInt, (hI o4.2 (n + 552 + 6) _).toInt, (hI o4.2 (n + 552 + 7) _).toInt) = ((hI o3 (n + 552 + 1) _).toInt, (hI o3 (n + 552 + 2) _).toInt, (hI o3 (n + 552 + 3) _).toInt, (hI o3 (n + 552 + 4) _).toInt, (hI o3 (n + 552 + 5) _).toInt, (hI o3 (n + 552 + 6) _).toInt, (hI o3 (n + 552 + 7) _).toInt)
    rw [q 1 _ (by decide), q 2 _ (by decide), q 3 _ (by decide), q 4 _ (by decide), q 5 _ (by decide), q 6 _ (by decide), q 7 _ (by decide)]
  unfold sX15_add_97 at e
  obtain ⟨o7, e7, e⟩ := cl_s e
  obtain ⟨lo, hi⟩ := dy_lo k4 (q := (580, 2408, 5, 5000, fsB)) (by decide) j24 Gp.2.1
  have hi : o4.1 + 5 ≤ hS o4.2 := hi
  have b1 : BkE own4 o4.2 a4 4 (5000 + (301 * x1.toNatClampNeg + lq)) := bke_b (q := (580, 2408, 5, 5000, fsB)) Dw4 (by decide) rfl (by decide) i24 ea4
  have b2 : BkE own4 o4.2 o4.1 4 (5000 + (301 * x1.toNatClampNeg + (lq + 1))) := bke_b (q := (580, 2408, 5, 5000, fsB)) Dw4 (by decide) rfl (by decide) j24 Gp.2.1
  obtain ⟨F7, k7, A7⟩ := mk_m k4' Dw4.1 hw4 b1 b2 (bk_ml Dw4.1) (by omega) Ok.1.1 Ok.1.2.1 Oz Gm C4 A4 (lst_T k4) (bd_T k4 (q := (580, 2408, 5, 5000, fsB)) (by decide) rfl j24 Gp.2.1) row e7
  have hl7 : hI o7 (n + 582) x1.toNatClampNeg = hI o4.2 (n + 582) x1.toNatClampNeg := (F7.2 _ _ (by omega) (fun u => by
    rcases u with u | u
    · unfold RS at u; omega
    · omega)).1
  have v7 : (hI o7 (n + 582) x1.toNatClampNeg).toInt = (lq : Int) := by rw [hl7, G4.1]; exact hlq
  unfold sX15_add_100 at e
  replace e := ce_e (dk_e (a := 513) (f := 38) (b := 581) k7 (by decide +kernel)) e
  replace e := ce_e (dk_e (a := 513) (f := 39) (b := 582) k7 (by decide +kernel)) e
  replace e := gg_e e
  replace e := gg_e e
  obtain ⟨h8, w8, e⟩ := nm_s e
  have k8 : DyK n o4.2 h8 := by rw [w8]; exact dk_wI k7
  replace e := ce_e (dk_e (a := 513) (f := 39) (b := 582) k8 (by decide +kernel)) e
  replace e := gg_e e
  replace e := gg_e e
  obtain ⟨h9, w9, e⟩ := nm_s e
  have k9 : DyK n o4.2 h9 := by rw [w9]; exact dk_wI k8
  replace e := ce_e (dk_e (a := 513) (f := 39) (b := 582) k9 (by decide +kernel)) e
  replace e := gg_e e
  rw [so_e e]
  have ix2 := (ix_g d2 (y := hI o7 (n + 582) x1.toNatClampNeg) (q := lq) v7 (by omega)).2
  rw [ix2] at w8
  have F8 : FrW (fun a i => a = n + 581 ∧ i = 301 * x1.toNatClampNeg + lq) o7 h8 := ⟨by rw [w8]; exact Nat.le_refl _, fun a i _ nw => by rw [w8]; exact ⟨by rw [r_I, if_neg nw], rfl⟩⟩
  have F9 : FrW (fun a i => a = n + 582 ∧ i = x1.toNatClampNeg) h8 h9 := ⟨by rw [w9]; exact Nat.le_refl _, fun a i _ nw => by rw [w9]; exact ⟨by rw [r_I, if_neg nw], rfl⟩⟩
  have v8 : hI h8 (n + 582) x1.toNatClampNeg = hI o7 (n + 582) x1.toNatClampNeg := (F8.2 _ _ (by have := F7.1; omega) (fun u => by omega)).1
  have v9 : (hI h9 (n + 582) x1.toNatClampNeg).toInt = (lq : Int) + 1 := by
    rw [w9, r_I, if_pos ⟨rfl, rfl⟩, v8, ta (by rw [z1]; omega), z1, v7]
  have FF : FrW (fun a i => RS n a i ∨ (a = n + 581 ∧ i = 301 * x1.toNatClampNeg + lq) ∨ (a = n + 582 ∧ i = x1.toNatClampNeg) ∨ (o4.1 ≤ a ∧ a < o4.1 + 5)) o4.2 h9 := fw_t (fw_s F7 (fun _ _ c => by
    rcases c with c | c
    · exact Or.inl c
    · exact Or.inr (Or.inr (Or.inr c)))) (fw_t (fw_s F8 (fun _ _ c => Or.inr (Or.inl c))) (fw_s F9 (fun _ _ c => Or.inr (Or.inr (Or.inl c)))))
  have a1 : syAdd1 σ x1.toNatClampNeg x2.toInt v = syGl (syGm (syGq σ (301 * x1.toNatClampNeg + lq + 1) (zAll (syL σ) (syQ σ (301 * x1.toNatClampNeg + lq)) v)) (301 * x1.toNatClampNeg + lq) x2.toInt) x1.toNatClampNeg (syG σ x1.toNatClampNeg + 1) := by
    unfold syAdd1
    rw [tn]
  rw [a1, hlq]
  have ks9 := ks_r k9 (q := (580, 2408, 5, 5000, fsB)) (by decide) Gp.2.1
  refine ⟨v9, relr_gm (σ' := syGl (syGm (syGq σ (301 * x1.toNatClampNeg + lq + 1) (zAll (syL σ) (syQ σ (301 * x1.toNatClampNeg + lq)) v)) (301 * x1.toNatClampNeg + lq) x2.toInt) x1.toNatClampNeg ((lq : Int) + 1)) k4' Ok R4 g8 FF k9 rfl rfl rfl rfl (fun q hq nq => ⟨if_neg nq, fun i hi => ⟨if_neg (by omega), if_neg (by omega)⟩⟩) (fun a i c _ => ?_) ⟨?_, fun i hi => ?_⟩, k9, frr_w k4' FF (fun a i c _ => ?_)⟩
  · rcases c with c | c | c | c
    · exact Or.inl c
    · exact Or.inr (Or.inr (Or.inl ⟨by omega, by omega, by omega⟩))
    · exact Or.inr (Or.inl c)
    · exact Or.inr (Or.inr (Or.inr ⟨lq + 1, o4.1, by omega, Gp.2.1, c⟩))
  · have gl : syG (syGl (syGm (syGq σ (301 * x1.toNatClampNeg + lq + 1) (zAll (syL σ) (syQ σ (301 * x1.toNatClampNeg + lq)) v)) (301 * x1.toNatClampNeg + lq) x2.toInt) x1.toNatClampNeg ((lq : Int) + 1)) x1.toNatClampNeg = (lq : Int) + 1 := if_pos rfl
    rw [gl]; exact v9
  · have gl : syG (syGl (syGm (syGq σ (301 * x1.toNatClampNeg + lq + 1) (zAll (syL σ) (syQ σ (301 * x1.toNatClampNeg + lq)) v)) (301 * x1.toNatClampNeg + lq) x2.toInt) x1.toNatClampNeg ((lq : Int) + 1)) x1.toNatClampNeg = (lq : Int) + 1 := if_pos rfl
    rw [gl] at hi ⊢
    have s7 : hS o4.2 ≤ hS o7 := F7.1
    by_cases zi : i = lq + 1
    · subst zi
      refine ⟨⟨o4.1, ks9, ?_⟩, fun l => by omega⟩
      have sq : syQ (syGl (syGm (syGq σ (301 * x1.toNatClampNeg + lq + 1) (zAll (syL σ) (syQ σ (301 * x1.toNatClampNeg + lq)) v)) (301 * x1.toNatClampNeg + lq) x2.toInt) x1.toNatClampNeg ((lq : Int) + 1)) (301 * x1.toNatClampNeg + (lq + 1)) = zAll (syL σ) (syQ σ (301 * x1.toNatClampNeg + lq)) v := if_pos (by omega)
      rw [sq]
      refine rba_f A7 (bd_T k9 (q := (580, 2408, 5, 5000, fsB)) (by decide) rfl j24 ks9) (fun j f hj => ?_)
      have y8 := F8.2 (o4.1 + j) f (by omega) (fun u => by omega)
      have y9 := F9.2 (o4.1 + j) f (by have := F8.1; omega) (fun u => by omega)
      exact ⟨y9.1.trans y8.1, y9.2.trans y8.2⟩
    · obtain ⟨⟨b, eb, B⟩, mb⟩ := G4.2 i (by omega)
      obtain ⟨lob, hib⟩ := dy_lo k4 (q := (580, 2408, 5, 5000, fsB)) (by decide) (show 301 * x1.toNatClampNeg + i < 2408 by omega) eb
      obtain ⟨u1, u2⟩ := brd_f k4' k9 FF (q := (580, 2408, 5, 5000, fsB)) (by decide) rfl rfl (show 301 * x1.toNatClampNeg + i < 2408 by omega) eb (fun j f hj c => by
        rcases c with c | c | c | c
        · unfold RS at c; omega
        · omega
        · omega
        · obtain ⟨_, d2, _⟩ := bk_dy Dw4 (q := (580, 2408, 5, 5000, fsB)) (by decide) j24 Gp.2.1
          obtain ⟨_, b2, _⟩ := bk_dy Dw4 (q := (580, 2408, 5, 5000, fsB)) (by decide) (show 301 * x1.toNatClampNeg + i < 2408 by omega) eb
          have u : own4 (o4.1 + (b + j - o4.1)) = 5000 + (301 * x1.toNatClampNeg + (lq + 1)) := d2.2 (b + j - o4.1) (by show b + j - o4.1 < 5; omega)
          rw [show o4.1 + (b + j - o4.1) = b + j by omega] at u
          have u2 : own4 (b + j) = 5000 + (301 * x1.toNatClampNeg + i) := b2.2 j hj
          omega) B
      have sq : syQ (syGl (syGm (syGq σ (301 * x1.toNatClampNeg + lq + 1) (zAll (syL σ) (syQ σ (301 * x1.toNatClampNeg + lq)) v)) (301 * x1.toNatClampNeg + lq) x2.toInt) x1.toNatClampNeg ((lq : Int) + 1)) (301 * x1.toNatClampNeg + i) = syQ σ (301 * x1.toNatClampNeg + i) := if_neg (by omega)
      refine ⟨⟨b, u1, by rw [sq]; exact u2⟩, fun l => ?_⟩
      by_cases zl : i = lq
      · subst zl
        have sm : syMv (syGl (syGm (syGq σ (301 * x1.toNatClampNeg + i + 1) (zAll (syL σ) (syQ σ (301 * x1.toNatClampNeg + i)) v)) (301 * x1.toNatClampNeg + i) x2.toInt) x1.toNatClampNeg ((i : Int) + 1)) (301 * x1.toNatClampNeg + i) = x2.toInt := if_pos rfl
        rw [sm, (F9.2 (n + 581) _ (by have := F8.1; omega) (fun u => by omega)).1, w8, r_I, if_pos ⟨rfl, rfl⟩]
      · have sm : syMv (syGl (syGm (syGq σ (301 * x1.toNatClampNeg + lq + 1) (zAll (syL σ) (syQ σ (301 * x1.toNatClampNeg + lq)) v)) (301 * x1.toNatClampNeg + lq) x2.toInt) x1.toNatClampNeg ((lq : Int) + 1)) (301 * x1.toNatClampNeg + i) = syMv σ (301 * x1.toNatClampNeg + i) := if_neg (by omega)
        rw [sm, (FF.2 (n + 581) (301 * x1.toNatClampNeg + i) (by omega) (fun c => by
          rcases c with c | c | c | c
          · unfold RS at c; omega
          · omega
          · omega
          · omega)).1]
        exact mb (by omega)
  · rcases c with c | c | c | c
    · exact Or.inl (rs_c c)
    · exact Or.inl (by omega)
    · exact Or.inl (by omega)
    · exact Or.inr ⟨(580, 2408, 5, 5000, fsB), by decide, by decide, _, o4.1, j24, Gp.2.1, c⟩
end
end
section
/-! SAME, both: same -/
section
variable {n j F : Nat} {h : Hp} {σ : Sy} {o : Int32 × Hp} {x1 x2 x3 : Int32}
theorem al_89s {x0 p : Nat} : ∀ (f : Nat) {x3 : Int32}, sX5_areAlike_89 F f h x0 p p x3 = some o → o = ((1 : Int32), h) := by
  intro f
  induction f with
  | zero => intro x3 e; exact absurd e (by rw [sX5_areAlike_89]; exact fun z => nomatch z)
  | succ f ih =>
    intro x3 e
    rw [sX5_areAlike_89] at e
    obtain ⟨r1, _, e⟩ := cl_s e
    rcases br_s e with ⟨_, e⟩ | ⟨_, e⟩
    · replace e := bp_e (cmp_rf _) e
      unfold sX5_areAlike_151 sX5_areAlike_156 at e
      exact so_e (gg_e e)
    · obtain ⟨r8, e8, e⟩ := cl_s e
      replace e := gg_e e
      replace e := ce_e e8 e
      replace e := gg_e e
      exact ih (nx_e (bp_e rfl e))
theorem al_27s {x0 p : Nat} : ∀ (f : Nat) {x3 : Int32}, sX5_areAlike_27 F f h x0 p p x3 = some o → o = ((1 : Int32), h) := by
  intro f
  induction f with
  | zero => intro x3 e; exact absurd e (by rw [sX5_areAlike_27]; exact fun z => nomatch z)
  | succ f ih =>
    intro x3 e
    rw [sX5_areAlike_27] at e
    rcases br_s e with ⟨_, e⟩ | ⟨_, e⟩
    · exact al_89s F e
    · obtain ⟨r2, e2, e⟩ := cl_s e
      replace e := gg_e e
      replace e := ce_e e2 e
      replace e := gg_e e
      replace e := bp_e (cmp_rf _) e
      obtain ⟨r7, e7, e⟩ := cl_s e
      replace e := gg_e e
      replace e := ce_e e7 e
      replace e := gg_e e
      replace e := bp_e (cmp_rf _) e
      obtain ⟨r12, e12, e⟩ := cl_s e
      replace e := gg_e e
      replace e := ce_e e12 e
      replace e := gg_e e
      exact ih (nx_e (bp_e rfl e))
/-- a position is SAME as itself -/
theorem al_self {x0 p : Nat} (e : sX5_areAlike F h x0 p p = some o) : o = ((1 : Int32), h) := by
  unfold sX5_areAlike at e
  exact al_27s F (bp_e (cmp_rf _) (bp_e rfl e))
theorem sam_self {L : Nat → Nat → Int} {P : Pz} : SamP L P P := ⟨⟨⟨rfl, fun _ _ => rfl, fun _ _ => rfl⟩, fun _ _ => rfl, fun _ _ => rfl⟩, Or.inl ⟨rfl, fun _ _ => rfl⟩⟩
/-- two positions of the class, at p and at q -/
theorem al_k {p q tp tq : Nat} {own : Nat → Nat} {L : Nat → Nat → Int} {P Q : Pz} (k : DyK n h h) (O : OwS n h own) (bp : BkE own h p 1 tp) (bq : BkE own h q 1 tq) (np : 10 ≤ tp ∧ tp < 20000 ∧ 10 ≤ tq ∧ tq < 20000) (pq : (tp = tq ∧ p = q ∧ P = Q) ∨ ¬ tp = tq) (H : LOk L) (K : LawK L) (Oz : PzOk L P) (Oq : PzOk L Q) (C : ClL n h L) (A : CpA h p (L 10 0) P) (B : CpA h q (L 10 0) Q) (e : sX5_areAlike F h (n + 30) p q = some o) : FrW (CSc n) h o.2 ∧ DyK n h o.2 ∧ ((o.1 = 0 ∧ ¬ SamP L P Q) ∨ (o.1 = 1 ∧ SamP L P Q)) := by
  have kk := dk_X5_areAlike k e
  rcases pq with ⟨_, u, v⟩ | u
  · subst u
    subst v
    rw [al_self e]
    exact ⟨fw_0, k, Or.inr ⟨rfl, sam_self⟩⟩
  have D : VD (vK n (hS h) p (n + 32) q (hS h + 1000 * 9) (n + 31)) := vd_k O bp (bk_sh O) (bk_13 bq (by omega)) (bke_o (c := 9)) (bk_room O) (by omega)
  have CC : CcB (vK n (hS h) p (n + 32) q (hS h + 1000 * 9) (n + 31)) h L P := ccb_k k C A (ln_d k.1 (a := 31) (w := 4096) (by decide))
  obtain ⟨⟨g, f1, f2⟩, c⟩ := al_c D H K Oz Oq ⟨CC, cpa_3.mpr B, dk_e (a := 30) (f := 2) (b := 31) k (by decide +kernel)⟩ e
  refine ⟨?_, kk, c⟩
  have c1 : ∀ c, c ∈ ([2, 10] : List Nat) → ∀ j i, j < wdc c → CSc n (bC n (hS h) p (n + 32) q (hS h + 1000 * 9) (n + 31) c + j) i := fun c hc j i hj => by
    simp only [List.mem_cons, List.not_mem_nil, or_false] at hc
    rcases hc with z | z <;> subst z
    · exact Or.inl ⟨by show n + 30 ≤ n + 32 + j; omega, by have hj : j < 6 := hj; show n + 32 + j ≤ n + 47; omega⟩
    · have hj : j < 1 := hj
      exact Or.inl ⟨by show n + 30 ≤ n + 31 + j; omega, by show n + 31 + j ≤ n + 47; omega⟩
  have sm : ∀ a i, ¬ CSc n a i → ∀ k, wl wcq k i = true → ¬ a = vK n (hS h) p (n + 32) q (hS h + 1000 * 9) (n + 31) k := fun a i nc k hk e => by
    obtain ⟨j', hj', _⟩ := wl_m hk
    have ck : (wcq.all fun e => okK csB [2, 10] e.1 e.2) = true := by decide +kernel
    have y := List.all_eq_true.mp ck (k, j') hj'
    have y : okK csB [2, 10] k j' = true := y
    unfold okK at y
    rw [Bool.or_eq_true, Bool.and_eq_true, Bool.and_eq_true, Bool.and_eq_true] at y
    have e : a = bC n (hS h) p (n + 32) q (hS h + 1000 * 9) (n + 31) (kcl k) + kof k := e
    refine nc ?_
    rw [e]
    rcases y with ⟨y1, y2⟩ | ⟨y1, y2, _⟩
    · have y1 : kcl k = 0 := Nat.eq_of_beq_eq_true y1
      rw [y1]
      exact csb_c y2
    · have y1 : kcl k ∈ ([2, 10] : List Nat) := by simpa using y1
      have y2 : kof k < wdc (kcl k) := by
        have := Nat.le_of_ble_eq_true y2
        omega
      exact c1 _ y1 _ _ y2
  have d1 : ∀ a i, ¬ CSc n a i → hI g a i = hI h a i ∧ hJ g a i = hJ h a i := fun a i nc => by
    rcases f1 with f | f
    · rw [f]; exact ⟨rfl, rfl⟩
    · exact f.1.2 a i (sm a i nc)
  have d2 : ∀ a i, ¬ CSc n a i → hI o.2 a i = hI g a i ∧ hJ o.2 a i = hJ g a i := fun a i nc => by
    rcases f2 with f | f
    · rw [f]; exact ⟨rfl, rfl⟩
    · refine f.1.2 a i (fun k hk e => sm a i nc k hk ?_)
      have qq : ∀ k, k ∈ ([7, 6, 47, 204, 234, 235, 236, 237, 238] : List Nat) → swT k = k := by decide
      obtain ⟨j', hj', _⟩ := wl_m hk
      have q2 : ∀ e, e ∈ wcq → e.1 ∈ ([7, 6, 47, 204, 234, 235, 236, 237, 238] : List Nat) := by decide
      have := qq k (q2 (k, j') hj')
      rw [e]
      show vK n (hS h) p (n + 32) q (hS h + 1000 * 9) (n + 31) (swT k) = _
      rw [this]
  exact ⟨hs_g kk.1, fun a i _ nc => ⟨(d2 a i nc).1.trans (d1 a i nc).1, (d2 a i nc).2.trans (d1 a i nc).2⟩⟩
/-- same -/
noncomputable def anSam (σ : Sy) (x1 x2 : Int32) : Int := match sPl σ x1 with
  | none => 0
  | some P => match sPl σ x2 with
    | none => 0
    | some Q => if prB' (SamP (syL σ) P Q) = true then 1 else 0
theorem sam_n1 (e : sPl σ x1 = none) : anSam σ x1 x2 = 0 := by unfold anSam; rw [e]
theorem sam_n2 {P : Pz} (e : sPl σ x1 = some P) (e' : sPl σ x2 = none) : anSam σ x1 x2 = 0 := by unfold anSam; rw [e, e']
theorem sam_s {P Q : Pz} (e : sPl σ x1 = some P) (e' : sPl σ x2 = some Q) : anSam σ x1 x2 = if prB' (SamP (syL σ) P Q) = true then 1 else 0 := by unfold anSam; rw [e, e']
theorem pl_2 {P Q : Pz} (e : sPl σ x1 = some P) (e' : sPl σ x2 = some Q) : (x1.toNatClampNeg = x2.toNatClampNeg ∧ P = Q) ∨ ¬ x1.toNatClampNeg = x2.toNatClampNeg := by
  by_cases c : x1.toNatClampNeg = x2.toNatClampNeg
  · left
    have a := (spl_b e).2.2.2
    have b := (spl_b e').2.2.2
    rw [c, b] at a
    exact ⟨c, (Option.some.inj a).symm⟩
  · exact Or.inr c
theorem ca_same (k : DyK n h h) (Ok : SyOk σ) (R : RelC n h σ) (e : sX11_same F h n x1 x2 = some o) : CaO n h σ o (anSam σ x1 x2) := by
  unfold sX11_same sX11_same_42 sX11_same_43 at e
  obtain ⟨o1, e1, e⟩ := cl_s e
  obtain ⟨q1, c1⟩ := isp_c k R.2.1 e1
  rw [q1] at e
  rcases c1 with ⟨d1, d2⟩ | ⟨d1, P, d2⟩
  · rw [so_e (gg_e (bp_e d1 e)), sam_n1 d2]
    exact cao_0 k R rfl rfl
  replace e := bn_e d1 e
  obtain ⟨o3, e3, e⟩ := cl_s e
  obtain ⟨q3, c3⟩ := isp_c k R.2.1 e3
  rw [q3] at e
  rcases c3 with ⟨d3, d4⟩ | ⟨d3, Q, d4⟩
  · rw [so_e (gg_e (bp_e d3 e)), sam_n2 d2 d4]
    exact cao_0 k R rfl rfl
  replace e := bn_e d3 e
  rw [sam_s d2 d4]
  obtain ⟨_, _, b3, _⟩ := spl_b d2
  obtain ⟨_, _, b4, _⟩ := spl_b d4
  replace e := ce_e (dk_e (a := 0) (f := 6) (b := 30) k (by decide +kernel)) e
  replace e := ce_e (dk_e (a := 0) (f := 13) (b := 148) k (by decide +kernel)) e
  replace e := gg_e e
  obtain ⟨r8, e8, e⟩ := cl_s e
  have y8 := pl_at k b3 e8
  subst y8
  replace e := ce_e (dk_e (a := 0) (f := 13) (b := 148) k (by decide +kernel)) e
  replace e := gg_e e
  obtain ⟨r11, e11, e⟩ := cl_s e
  have y11 := pl_at k b4 e11
  subst y11
  obtain ⟨o12, e12, e⟩ := cl_s e
  obtain ⟨own, O, _⟩ := k.1.1
  obtain ⟨f, k', c⟩ := al_k k O (bk_pl O b3) (bk_pl O b4) (by omega) (by
    rcases pl_2 d2 d4 with ⟨u, v⟩ | u
    · exact Or.inl ⟨by omega, by rw [u], v⟩
    · exact Or.inr (by omega)) Ok.1.1 Ok.1.2.1 (spl_ok Ok d2) (spl_ok Ok d4) R.1 (cpl_p R.2.1 d2) (cpl_p R.2.1 d4) e12
  rcases c with ⟨c, s⟩ | ⟨c, s⟩
  · rw [so_e (gg_e (bp_e c e)), prb_f.mpr s]
    exact cao_s (o := ((0 : Int32), o12.2)) k Ok R f k' rfl
  · rw [so_e (gg_e (bn_e (by rw [c]; decide) e)), prb_e.mpr s]
    exact cao_s (o := ((1 : Int32), o12.2)) k Ok R f k' rfl
end
end
section
/-! SAME, the reference -/
section
variable {n j F : Nat} {h : Hp} {σ : Sy} {o : Int32 × Hp} {x1 x2 x3 : Int32}
theorem is_168s {x0 p : Nat} : ∀ (f : Nat) {x5 : Int32}, sX15_isSame_168 F f h x0 p p (1 : Int32) (1 : Int32) x5 = some o → o = ((1 : Int32), h) := by
  have n10 : ¬ (1 : Int32) = 0 := by decide
  have fin : sX15_isSame_212 F h x0 p p (1 : Int32) (1 : Int32) = some o → o = ((1 : Int32), h) := fun e => by
    unfold sX15_isSame_212 sX15_isSame_237 sX15_isSame_242 at e
    exact so_e (gg_e (bn_e n10 (bn_e n10 e)))
  intro f
  induction f with
  | zero => intro x5 e; exact absurd e (by rw [sX15_isSame_168]; exact fun z => nomatch z)
  | succ f ih =>
    intro x5 e
    rw [sX15_isSame_168] at e
    rcases br_s e with ⟨_, e⟩ | ⟨_, e⟩
    · exact fin e
    · replace e := bn_e n10 e
      obtain ⟨r3, e3, e⟩ := cl_s e
      replace e := gg_e e
      replace e := ce_e e3 e
      replace e := gg_e e
      replace e := bp_e rfl e
      unfold sX15_isSame_204 at e
      exact ih (nx_e e)
theorem is_107s {x0 p : Nat} : ∀ (f : Nat) {x4 : Int32}, sX15_isSame_107 F f h x0 p p (1 : Int32) x4 = some o → o = ((1 : Int32), h) := by
  have n10 : ¬ (1 : Int32) = 0 := by decide
  have fin : sX15_isSame_147 F h x0 p p (1 : Int32) = some o → o = ((1 : Int32), h) := fun e => by
    unfold sX15_isSame_147 sX15_isSame_163 at e
    exact is_168s F (bp_e rfl e)
  intro f
  induction f with
  | zero => intro x4 e; exact absurd e (by rw [sX15_isSame_107]; exact fun z => nomatch z)
  | succ f ih =>
    intro x4 e
    rw [sX15_isSame_107] at e
    rcases br_s e with ⟨_, e⟩ | ⟨_, e⟩
    · exact fin e
    · replace e := bn_e n10 e
      obtain ⟨r3, e3, e⟩ := cl_s e
      replace e := gg_e e
      replace e := ce_e e3 e
      replace e := gg_e e
      replace e := bp_e rfl e
      unfold sX15_isSame_140 at e
      exact ih (nx_e e)
theorem is_62s {x0 p : Nat} : ∀ (f : Nat) {x4 : Int32}, sX15_isSame_62 F f h x0 p p (1 : Int32) x4 = some o → o = ((1 : Int32), h) := by
  have n10 : ¬ (1 : Int32) = 0 := by decide
  intro f
  induction f with
  | zero => intro x4 e; exact absurd e (by rw [sX15_isSame_62]; exact fun z => nomatch z)
  | succ f ih =>
    intro x4 e
    rw [sX15_isSame_62] at e
    rcases br_s e with ⟨_, e⟩ | ⟨_, e⟩
    · unfold sX15_isSame_104 at e
      exact is_107s F e
    · replace e := bn_e n10 e
      obtain ⟨r3, e3, e⟩ := cl_s e
      replace e := gg_e e
      replace e := ce_e e3 e
      replace e := gg_e e
      replace e := bp_e rfl e
      unfold sX15_isSame_97 at e
      exact ih (nx_e e)
theorem is_self {x0 p : Nat} (e : sX15_isSame F h x0 p p = some o) : o = ((1 : Int32), h) := by
  unfold sX15_isSame at e
  replace e := bp_e (cmp_rf _) (bp_e rfl e)
  obtain ⟨r3, e3, e⟩ := cl_s e
  replace e := gg_e e
  replace e := ce_e e3 e
  replace e := gg_e e
  replace e := bp_e rfl e
  replace e := ce_e e3 e
  replace e := gg_e e
  replace e := ce_e e3 e
  replace e := gg_e e
  replace e := bp_e rfl e
  unfold sX15_isSame_58 at e
  exact is_62s F e
/-- two boards, at p and at q -/
theorem is_m {p q tp tq w : Nat} {own : Nat → Nat} {L : Nat → Nat → Int} {P Q : Pz} {g : Hp} (k : DyK n g h) (O : OwS n h own) (hw : w = 516 ∨ w = 526) (bp : BkE own h p 4 tp) (bq : BkE own h q 4 tq) (np : 200 ≤ tp ∧ tp < 20000 ∧ 200 ≤ tq ∧ tq < 20000) (pq : (tp = tq ∧ p = q ∧ P = Q) ∨ ¬ tp = tq) (H : LOk L) (K : LawK L) (Oz : PzOk L P) (Oq : PzOk L Q) (C : RfL n h (n + w) L) (A : RbA h p P) (B : RbA h q Q) (e : sX15_isSame F h (n + 513) p q = some o) : FrW (RS n) h o.2 ∧ DyK n g o.2 ∧ ((o.1 = 0 ∧ ¬ SamP L P Q) ∨ (o.1 = 1 ∧ SamP L P Q)) := by
  have kk := dk_X15_isSame k e
  have k3 := dk_X15_isSame (dk_self k) e
  rcases pq with ⟨_, u, v⟩ | u
  · subst u
    subst v
    rw [is_self e]
    exact ⟨fw_0, k, Or.inr ⟨rfl, sam_self⟩⟩
  have D : VD (vM n (hS h) p (n + 547) q (n + 560) (n + w)) := vd_m O bp (bk_beh O) (bk_46 bq (by omega)) (bk_mo O) (bk_lw O hw) (by split <;> omega)
  have W1 : LgW (vM n (hS h) p (n + 547) q (n + 560) (n + w)) h L P := lgw_m k C A (oth_T k)
  have W2 : LgW (vS (vM n (hS h) p (n + 547) q (n + 560) (n + w))) h L Q := by
    have W3 : LgW (vM n (hS h) q (n + 547) p (n + 560) (n + w)) h L Q := lgw_m k C B (oth_T k)
    obtain ⟨⟨a1, a2, a3⟩, b, c, d⟩ := W3
    refine ⟨⟨a1, ?_, a3⟩, b, c, d⟩
    rw [← a2]
    funext x i
    unfold lwR
    by_cases z : x < 30
    · rw [if_pos z, if_pos z]; rfl
    · rw [if_neg z, if_neg z]
      by_cases z2 : 73 ≤ x ∧ x ≤ 81
      · rw [if_pos z2, if_pos z2]
        have : x = 73 ∨ x = 74 ∨ x = 75 ∨ x = 76 ∨ x = 77 ∨ x = 78 ∨ x = 79 ∨ x = 80 ∨ x = 81 := by omega
        rcases this with z | z | z | z | z | z | z | z | z <;> subst z <;> rfl
      · rw [if_neg z2, if_neg z2]; rfl
  obtain ⟨f, c⟩ := is_r D H K Oz Oq ⟨W1, W2, dk_e (a := 513) (f := 31) (b := 560) k (by decide +kernel)⟩ e
  refine ⟨fw_v (W := RS n) (sb := rsB) (cs := [5, 7]) f (hs_g k3.1) (by decide +kernel) (fun j f i z y => rsb_c z y) (fun c hc j i hj => ?_), kk, c⟩
  simp only [List.mem_cons, List.not_mem_nil, or_false] at hc
  rcases hc with z | z <;> subst z
  · have hj : j < 5 := hj
    exact Or.inr (Or.inl ⟨by show n + 543 ≤ n + 547 + j; omega, by show n + 547 + j ≤ n + 572; omega⟩)
  · have hj : j < 8 := hj
    exact Or.inr (Or.inl ⟨by show n + 543 ≤ n + 560 + j; omega, by show n + 560 + j ≤ n + 572; omega⟩)
theorem ra_same (k : DyK n h h) (Ok : SyOk σ) (R : RelR n j h σ) (e : sX15_same F h (n + 513) x1 x2 = some o) : RaO n j h σ o (anSam σ x1 x2) := by
  unfold sX15_same sX15_same_39 sX15_same_40 at e
  obtain ⟨o1, e1, e⟩ := cl_s e
  obtain ⟨q1, c1⟩ := has_r k R.2.1 e1
  rw [q1] at e
  rcases c1 with ⟨d1, d2⟩ | ⟨d1, P, d2⟩
  · rw [so_e (gg_e (bp_e d1 e)), sam_n1 d2]
    exact rao_0 k R rfl rfl
  replace e := bn_e d1 e
  obtain ⟨o3, e3, e⟩ := cl_s e
  obtain ⟨q3, c3⟩ := has_r k R.2.1 e3
  rw [q3] at e
  rcases c3 with ⟨d3, d4⟩ | ⟨d3, Q, d4⟩
  · rw [so_e (gg_e (bp_e d3 e)), sam_n2 d2 d4]
    exact rao_0 k R rfl rfl
  replace e := bn_e d3 e
  rw [sam_s d2 d4]
  obtain ⟨_, _, b3, _⟩ := spl_b d2
  obtain ⟨_, _, b4, _⟩ := spl_b d4
  obtain ⟨a, ea, A⟩ := rpl_p R.2.1 d2
  obtain ⟨b, eb, B⟩ := rpl_p R.2.1 d4
  have W := dk_e (a := 513) (f := 14) (b := 536) k (by decide +kernel)
  replace e := ce_e W e
  replace e := gg_e e
  replace e := ce_e ea e
  replace e := ce_e W e
  replace e := gg_e e
  replace e := ce_e eb e
  obtain ⟨o12, e12, e⟩ := cl_s e
  obtain ⟨own, Dw⟩ := k.1.1
  obtain ⟨w, hw, _, _, C⟩ := R.1
  obtain ⟨f, k', c⟩ := is_m k Dw.1 hw (bke_p Dw b3 ea) (bke_p Dw b4 eb) (by omega) (by
    rcases pl_2 d2 d4 with ⟨u, v⟩ | u
    · rw [u] at ea
      exact Or.inl ⟨by omega, r_eq eb ea, v⟩
    · exact Or.inr (by omega)) Ok.1.1 Ok.1.2.1 (spl_ok Ok d2) (spl_ok Ok d4) C A B e12
  rcases c with ⟨c, s⟩ | ⟨c, s⟩
  · rw [so_e (gg_e (bp_e c e)), prb_f.mpr s]
    exact rao_s (o := ((0 : Int32), o12.2)) k Ok R f k' rfl
  · rw [so_e (gg_e (bn_e (by rw [c]; decide) e)), prb_e.mpr s]
    exact rao_s (o := ((1 : Int32), o12.2)) k Ok R f k' rfl
end
end
