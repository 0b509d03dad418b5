section
/-! the class: the mark of a move, SAY -/
def WMk (n a _i : Nat) : Prop := n + 30 ≤ a ∧ a ≤ n + 45
def WEn (n a _i : Nat) : Prop := n + 30 ≤ a ∧ a ≤ n + 39
def weB (j _f : Nat) : Bool := Nat.ble 30 j && Nat.ble j 39
section
variable {n F : Nat} {h : Hp} {σ : Sy} {o : Int32 × Hp} {x1 x2 x3 : Int32}
theorem web_c {j f i : Nat} (e : weB j f = true) : WEn n (n + j) i := by
  unfold weB at e
  rw [Bool.and_eq_true] at e
  have a := Nat.le_of_ble_eq_true e.1
  have b := Nat.le_of_ble_eq_true e.2
  exact ⟨by omega, by omega⟩
/-- as en_k, closer -/
theorem en_k2 {p tp : Nat} {own : Nat → Nat} {L : Nat → Nat → Int} {P : Pz} (k : DyK n h h) (O : OwS n h own) (bp : BkE own h p 1 tp) (np : ¬ tp = 1 ∧ ¬ tp = 8 ∧ tp < 20000) (H : LOk L) (K : LawK L) (Oz : PzOk L P) (C : ClL n h L) (A : CpA h p (L 10 0) P) (e : sX5_endOf F h (n + 30) p = some o) : FrW (WEn n) h o.2 ∧ DyK n h o.2 ∧ o.1.toInt = (enE L P).1 := by
  have D : VD (vK n (hS h) p (n + 32) (hS h + 1000 * 3) (hS h + 1000 * 9) (n + 31)) := vd_k O bp (bk_sh O) (bke_o (c := 3)) (bke_o (c := 9)) (bk_room O) (by omega)
  have CC : CcB (vK n (hS h) p (n + 32) (hS h + 1000 * 3) (hS h + 1000 * 9) (n + 31)) h L P := ccb_k k C A (ln_d k.1 (a := 31) (w := 4096) (by decide))
  have kk := dk_X5_endOf k e
  obtain ⟨f, y⟩ := en_c D H K Oz CC (dk_e (a := 30) (f := 2) (b := 31) k (by decide +kernel)) e
  refine ⟨?_, kk, y⟩
  rcases f with f | f
  · rw [f]; exact fw_0
  · have f' := fw_v (W := WEn n) (sb := weB) (cs := [2, 10]) f (show hS h ≤ hS o.2 from hs_g kk.1) (by decide +kernel) (fun j f i z _ => web_c z) (fun c hc j i hj => ?_)
    · exact f'
    · simp only [List.mem_cons, List.not_mem_nil, or_false] at hc
      rcases hc with z | z <;> subst z
      · exact ⟨by show n + 30 ≤ n + 32 + j; omega, by have hj : j < 6 := hj; show n + 32 + j ≤ n + 39; omega⟩
      · have hj : j < 1 := hj
        exact ⟨by show n + 30 ≤ n + 31 + j; omega, by show n + 31 + j ≤ n + 39; omega⟩
theorem e40f {g h' : Hp} (k : DyK n g h') : ∀ u, u ∈ fsP → hR h' (n + 40) u.1 = some (n + 40 + u.2) := fun u hu => by
  have : ∀ q, q ∈ fsP → (40, q.1, 40 + q.2) ∈ edL := by decide +kernel
  have := dk_e k (this u hu)
  rw [show n + (40 + u.2) = n + 40 + u.2 by omega] at this
  exact this
theorem mark_k {p : Nat} {L : Nat → Nat → Int} {P : Pz} {v : MvT} (k : DyK n h h) (H : LOk L) (K : LawK L) (z22 : 0 ≤ L 22 0 ∧ L 22 0 ≤ 2) (Oz : PzOk L P) (hp : p < 60) (C : ClL n h L) (A : CpA h (n + (153 + 6 * p)) (L 10 0) P) (G : MvGd L P v) (M : MvC x2 v) (e : sX8_markOf F h (n + 39) (n + (153 + 6 * p)) x2 = some o) : FrW (WMk n) h o.2 ∧ DyK n h o.2 ∧ o.1.toInt = mkV L P v := by
  have s6 := dk_610 k
  unfold sX8_markOf sX8_markOf_81 at e
  replace e := ce_e (dk_e (a := 39) (f := 2) (b := 40) k (by decide +kernel)) e
  obtain ⟨o2, e2, e⟩ := cl_s e
  obtain ⟨own, Dw⟩ := k.1.1
  obtain ⟨f2, k2, A2⟩ := cpy_k k Dw.1 (bk_pl Dw.1 hp) (bk_12 (Or.inl ⟨bk_st (t := 2) Dw.1 (by decide) (by decide), by decide, by decide⟩) (by decide)) (by omega) A (e40f k) e2
  have s2 := dk_610 k2
  replace e := ce_e (dk_e (a := 39) (f := 1) (b := 30) k2 (by decide +kernel)) e
  replace e := ce_e (dk_e (a := 39) (f := 2) (b := 40) k2 (by decide +kernel)) e
  obtain ⟨o5, e5, e⟩ := cl_s e
  obtain ⟨own2, Dw2⟩ := k2.1.1
  have C2 := cll_f k k2 (fun j i hj => f2.2 _ _ (by omega) (fun c => by omega)) C
  obtain ⟨f5, k5, A5⟩ := mk_k k2 Dw2.1 (p := n + 40) (tp := 2) (Or.inl ⟨bk_st (t := 2) Dw2.1 (by decide) (by decide), by decide, by decide⟩) (by decide) H K Oz G M C2 A2 e5
  have s5 := dk_610 k5
  have F5 : FrW (WMk n) h o5 := fw_t (fw_s f2 (fun a i c => by unfold WMk; omega)) (fw_s f5 (fun a i c => by unfold WMk; omega))
  have C5 := cll_f k k5 (fun j i hj => F5.2 _ _ (by omega) (fun c => by unfold WMk at c; omega)) C
  have Oz' := pz_ok H K Oz G
  replace e := ce_e (dk_e (a := 39) (f := 1) (b := 30) k5 (by decide +kernel)) e
  replace e := ce_e (dk_e (a := 39) (f := 2) (b := 40) k5 (by decide +kernel)) e
  obtain ⟨o8, e8, e⟩ := cl_s e
  obtain ⟨own5, Dw5⟩ := k5.1.1
  obtain ⟨f8, k8', y8⟩ := en_k2 (dk_self k5) Dw5.1 (p := n + 40) (tp := 2) (Or.inl ⟨bk_st (t := 2) Dw5.1 (by decide) (by decide), by decide, by decide⟩) (by decide) H K Oz' C5 A5 e8
  have k8 : DyK n h o8.2 := dk_t k5 k8'
  have F8 : FrW (WMk n) h o8.2 := fw_t F5 (fw_s f8 (fun a i c => by unfold WEn at c; unfold WMk; omega))
  have C8 := cll_f k k8 (fun j i hj => F8.2 _ _ (by omega) (fun c => by unfold WMk at c; omega)) C
  have A8 : CpA o8.2 (n + 40) (L 10 0) (zAll L P v) := cpa_f A5 (e40f k8) (fun j i hj => f8.2 _ _ (by omega) (fun c => by unfold WEn at c; omega))
  replace e := ce_e (dk_e (a := 39) (f := 1) (b := 30) k8 (by decide +kernel)) e
  replace e := ce_e (dk_e (a := 39) (f := 2) (b := 40) k8 (by decide +kernel)) e
  obtain ⟨o11, e11, e⟩ := cl_s e
  obtain ⟨w1, w2⟩ := win_k k8 z22 Oz' C8 A8 y8 e11
  rw [w1] at e
  have sd : (hI o8.2 (n + (153 + 6 * p)) 5).toInt = (pzS P : Int) := by
    rw [(F8.2 (n + (153 + 6 * p)) 5 (by omega) (fun c => by unfold WMk at c; omega)).1]
    exact A.2.2.1
  unfold mkV
  rcases br_s e with ⟨c1, e⟩ | ⟨c1, e⟩
  · rw [if_pos (by rw [← w2, ← sd, c1]), so_e e]
    exact ⟨F8, k8, rfl⟩
  rw [if_neg (fun z => c1 (Int32.toInt_inj.mp (by rw [w2, sd]; exact z)))]
  replace e := ce_e (dk_e (a := 39) (f := 1) (b := 30) k8 (by decide +kernel)) e
  replace e := ce_e (dk_e (a := 39) (f := 2) (b := 40) k8 (by decide +kernel)) e
  replace e := ce_e (dk_e (a := 39) (f := 2) (b := 40) k8 (by decide +kernel)) e
  obtain ⟨o16, e16, e⟩ := cl_s e
  obtain ⟨r1, r2⟩ := ryh_k H Oz' C8 A8 (d := pzS (zAll L P v)) A8.2.2.1 Oz'.2.2.1 e16
  rw [r1] at e
  rcases br_s e with ⟨c2, e⟩ | ⟨c2, e⟩
  · have nr : ¬ RyH L (zAll L P v).1 (pzS (zAll L P v)) := by
      rcases r2 with ⟨_, z⟩ | ⟨z, _⟩
      · exact z
      · rw [c2] at z; exact absurd z (by decide)
    rw [if_neg (fun z => nr (prb_e.mp z)), so_e e]
    exact ⟨F8, k8, rfl⟩
  · have yr : RyH L (zAll L P v).1 (pzS (zAll L P v)) := by
      rcases r2 with ⟨z, _⟩ | ⟨_, z⟩
      · exact absurd z c2
      · exact z
    rw [if_pos (prb_e.mpr yr), so_e e]
    exact ⟨F8, k8, rfl⟩
/-- say -/
noncomputable def syTx (L : Nat → Nat → Int) (P : Pz) (v : MvT) : List Int := bmT L (lgL L P) v ++ mkT (mkV L P v)
noncomputable def anSay (σ : Sy) (x1 x2 : Int32) : Int := match sPl σ x1 with
  | none => -102
  | some P => match mvI σ x1 x2 with
    | none => -102
    | some v => ((syTx (syL σ) P v).length : Int)
noncomputable def sySay (σ : Sy) (x1 x2 : Int32) : Sy := match sPl σ x1 with
  | none => σ
  | some P => match mvI σ x1 x2 with
    | none => σ
    | some v => syOut σ (syTx (syL σ) P v)
theorem say_n {P : Pz} (e : sPl σ x1 = some P) (q : mvI σ x1 x2 = none) : anSay σ x1 x2 = -102 ∧ sySay σ x1 x2 = σ := by
  unfold anSay sySay
  rw [e]
  show (match mvI σ x1 x2 with | none => _ | some v => _) = _ ∧ (match mvI σ x1 x2 with | none => _ | some v => _) = _
  rw [q]
  exact ⟨rfl, rfl⟩
theorem say_0 (e : sPl σ x1 = none) : anSay σ x1 x2 = -102 ∧ sySay σ x1 x2 = σ := by
  unfold anSay sySay
  rw [e]
  exact ⟨rfl, rfl⟩
theorem say_s {P : Pz} {v : MvT} (e : sPl σ x1 = some P) (q : mvI σ x1 x2 = some v) : anSay σ x1 x2 = ((syTx (syL σ) P v).length : Int) ∧ sySay σ x1 x2 = syOut σ (syTx (syL σ) P v) := by
  unfold anSay sySay
  rw [e]
  show (match mvI σ x1 x2 with | none => _ | some v => _) = _ ∧ (match mvI σ x1 x2 with | none => _ | some v => _) = _
  rw [q]
  exact ⟨rfl, rfl⟩
theorem mkv_b {L : Nat → Nat → Int} {P : Pz} {v : MvT} : mkV L P v = 35 ∨ mkV L P v = 43 ∨ mkV L P v = -1 := by
  unfold mkV
  generalize (if 0 < (enE L (zAll L P v)).1 then (enE L (zAll L P v)).2 else -1) = a
  by_cases c : a = (pzS P : Int)
  · rw [if_pos c]; exact Or.inl rfl
  · rw [if_neg c]
    by_cases d : prB' (RyH L (zAll L P v).1 (pzS (zAll L P v))) = true
    · rw [if_pos d]; exact Or.inr (Or.inl rfl)
    · rw [if_neg d]; exact Or.inr (Or.inr rfl)
theorem ca_say (k : DyK n h h) (Ok : SyOk σ) (R : RelC n h σ) (e : sX11_say F h n x1 x2 = some o) : CaO n h (sySay σ x1 x2) o (anSay σ x1 x2) := by
  have z0 : (0 : Int32).toInt = 0 := rfl
  have zm : (-1 : Int32).toInt = -1 := rfl
  have s6 := dk_610 k
  unfold sX11_say sX11_say_15 sX11_say_78 sX9_clear at e
  obtain ⟨o1, e1, e⟩ := cl_s e
  rcases lm_c' k Ok R e1 with ⟨z, y1, y2⟩ | ⟨P, z, f, k1, m, y⟩
  · obtain ⟨a1, a2⟩ := say_0 (x2 := x2) z
    rw [y2, y1] at e
    rw [a1, a2]
    have no : some ((-102 : Int32), h) = some o → CaO n h σ o (-102) := fun e => by
      rw [so_e e]
      exact cao_0 k R rfl rfl
    rcases br_s e with ⟨c1, e⟩ | ⟨c1, e⟩
    · exact no e
    have c1 := nlt_i c1
    rcases br_s e with ⟨c2, e⟩ | ⟨c2, e⟩
    · have := lt_i c2
      omega
    · exact no e
  have no : mvI σ x1 x2 = none → some ((-102 : Int32), o1.2) = some o → CaO n h (sySay σ x1 x2) o (anSay σ x1 x2) := fun q e => by
    obtain ⟨a1, a2⟩ := say_n z q
    rw [a1, a2, so_e e]
    exact cao_s k Ok R f k1 rfl
  rcases br_s e with ⟨c1, e⟩ | ⟨c1, e⟩
  · have := lt_i c1
    exact no (mvi_l (by omega)) e
  have c1 := nlt_i c1
  have nc := nc_i (x := x2) (by omega)
  rcases br_s e with ⟨c2, e⟩ | ⟨c2, e⟩
  rotate_left
  · have := nlt_i c2
    exact no (by rw [mvi_s z (by omega)]; exact List.getElem?_eq_none (by omega)) e
  have c2 := lt_i c2
  obtain ⟨v, ev, mv⟩ := m x2.toNatClampNeg (by omega)
  have q : mvI σ x1 x2 = some v := by rw [mvi_s z (by omega)]; exact ev
  obtain ⟨a1, a2⟩ := say_s z q
  rw [a1, a2]
  have Oz := spl_ok Ok z
  have H := Ok.1.1
  have K := Ok.1.2.1
  have Gs : ∀ (i : Nat) (w : MvT), (lgL (syL σ) P)[i]? = some w → MvGd (syL σ) P w := fun i w ew => lg_gd H K Oz ew
  have G := Gs _ v ev
  obtain ⟨_, _, b3, _⟩ := spl_b z
  have s1 := dk_610 k1
  have R1 := relc_cs k Ok R f k1
  replace e := ce_e (dk_e (a := 0) (f := 1) (b := 3) k1 (by decide +kernel)) e
  obtain ⟨h5, e5, e⟩ := cl_s e
  have y5 := so_e (nx_e e5)
  have k5 : DyK n h h5 := by rw [y5]; exact dk_wI k1
  have f5 : FrW (WTx n 3) o1.2 h5 := by rw [y5]; exact fw_wI fw_0 (Or.inl rfl)
  replace e := ce_e (dk_e (a := 0) (f := 8) (b := 39) k5 (by decide +kernel)) e
  replace e := ce_e (dk_e (a := 0) (f := 12) (b := 147) k5 (by decide +kernel)) e
  replace e := ce_e (dk_e (a := 0) (f := 1) (b := 3) k5 (by decide +kernel)) e
  obtain ⟨o9, e9, e⟩ := cl_s e
  have k15 : DyK n o1.2 h5 := by rw [y5]; exact dk_wI (dk_self k1)
  have C5 : ClL n h5 (syL σ) := cll_f k1 k15 (fun j i hj => f5.2 _ _ (by omega) (fun c => by unfold WTx at c; omega)) R1.1
  have S5 : SpT n 3 h h5 (syL σ) (lgL (syL σ) P) [] := ⟨k5, C5, fun i hi => by
    rw [(f5.2 (n + 147) i (by omega) (fun c => by unfold WTx at c; omega)).1]
    exact m i hi, by rw [y5, rI_s]; rfl, fun i hi => absurd hi (Nat.not_lt_zero _)⟩
  have lm : (lgL (syL σ) P).length ≤ 4096 := by
    have := lgl_le H K Oz
    omega
  obtain ⟨S9, A9⟩ := wm_x H Ok.1.2.2.1 (T := 3) (c := 512) (Or.inl ⟨rfl, rfl⟩) Gs ev y (by omega) lm S5 e9
  have k9 := S9.1
  have s9 := dk_610 k9
  have F9 : FrW (fun a i => CSc n a i ∨ a = n + 3 ∨ a = n + 4) h o9 := fw_t (fw_s f (fun _ _ c => Or.inl c)) (fw_t (fw_s f5 (fun a i c => Or.inr (by unfold WTx at c; omega))) (fw_s A9 (fun a i c => Or.inr (by unfold WTx at c; omega))))
  have A0 : CpA o9 (n + (153 + 6 * x1.toNatClampNeg)) (syL σ 10 0) P := cpa_f (cpl_p R.2.1 z) (fun p hp => pl_e k9 b3 hp) (fun j i hj => F9.2 _ _ (by omega) (fun c => by unfold CSc at c; omega))
  replace e := ce_e (dk_e (a := 0) (f := 8) (b := 39) k9 (by decide +kernel)) e
  replace e := ce_e (dk_e (a := 0) (f := 13) (b := 148) k9 (by decide +kernel)) e
  replace e := gg_e e
  obtain ⟨r13, e13, e⟩ := cl_s e
  have y13 := pl_at k9 b3 e13
  subst y13
  replace e := ce_e (dk_e (a := 0) (f := 12) (b := 147) k9 (by decide +kernel)) e
  replace e := gg_e e
  obtain ⟨o16, e16, e⟩ := cl_s e
  obtain ⟨v', ev', mv9⟩ := S9.2.2.1 x2.toNatClampNeg (by omega)
  rw [ev] at ev'
  rw [← Option.some.inj ev'] at mv9
  obtain ⟨f16, k16', r16⟩ := mark_k (dk_self k9) H K Ok.1.2.2.2.1 Oz b3 S9.2.1 A0 G mv9 e16
  have k16 : DyK n h o16.2 := dk_t k9 k16'
  have s16 := dk_610 k16
  have F16 : FrW (fun a i => CSc n a i ∨ a = n + 3 ∨ a = n + 4) h o16.2 := fw_t F9 (fw_s f16 (fun a i c => Or.inl (by unfold WMk at c; unfold CSc; omega)))
  have S16 : SpT n 3 h o16.2 (syL σ) (lgL (syL σ) P) (bmT (syL σ) (lgL (syL σ) P) v) := ⟨k16, cll_f k9 k16' (fun j i hj => f16.2 _ _ (by omega) (fun c => by unfold WMk at c; omega)) S9.2.1, fun i hi => by
    rw [(f16.2 (n + 147) i (by omega) (fun c => by unfold WMk at c; omega)).1]
    exact S9.2.2.1 i hi, by
    rw [(f16.2 (n + 3) 1 (by omega) (fun c => by unfold WMk at c; omega)).1]
    exact S9.2.2.2.1, fun i hi => by
    rw [(f16.2 (n + 3 + 1) i (by omega) (fun c => by unfold WMk at c; omega)).1]
    exact S9.2.2.2.2 i hi⟩
  have fin : ∀ {h' : Hp} {t : List Int}, SpT n 3 h h' (syL σ) (lgL (syL σ) P) t → FrW (fun a i => CSc n a i ∨ a = n + 3 ∨ a = n + 4) h h' → (cl (hR h' n 1) fun r_1 => some (hI h' r_1 1, h')) = some o → CaO n h (syOut σ t) o (t.length : Int) := fun {h' t} S FF e => by
    replace e := ce_e (dk_e (a := 0) (f := 1) (b := 3) S.1 (by decide +kernel)) e
    rw [so_e e]
    exact ⟨S.2.2.2.1, relc_o k S.1 Ok FF (fun a i c _ => c) R ⟨S.2.2.2.1, S.2.2.2.2⟩, S.1, frc_w k FF (fun a i c _ => Or.inl (c.elim cs_c (fun c => by omega)))⟩
  unfold syTx mkT
  rcases br_s e with ⟨c3, e⟩ | ⟨c3, e⟩
  · have : mkV (syL σ) P v = -1 := by rw [← r16, c3]; rfl
    rw [if_pos this, List.append_nil]
    exact fin S16 F16 e
  · have : ¬ mkV (syL σ) P v = -1 := fun w => c3 (Int32.toInt_inj.mp (by rw [r16, zm]; exact w))
    rw [if_neg this]
    replace e := ce_e (dk_e (a := 0) (f := 1) (b := 3) k16 (by decide +kernel)) e
    obtain ⟨o19, e19, e⟩ := cl_s e
    have b8 := bm_len (L := syL σ) (ms := lgL (syL σ) P) (v := v)
    have mb := mkv_b (L := syL σ) (P := P) (v := v)
    obtain ⟨S19, A19⟩ := apx (T := 3) (c := 512) (Or.inl ⟨rfl, rfl⟩) S16 (by omega) ⟨by omega, by omega⟩ e19
    rw [r16] at S19
    exact fin S19 (fw_t F16 (fw_s A19 (fun a i c => Or.inr (by unfold WTx at c; omega)))) e
end
end
section
/-! the reference writes a move -/
def SrT (n : Nat) (g h : Hp) (L : Nat → Nat → Int) (ms : List MvT) (l : List Int) : Prop := DyK n g h ∧ RLw n h L ∧ RlA h (n + 552) ms ∧ (hI h (n + 513) 3).toInt = (l.length : Int) ∧ ∀ i, i < l.length → l[i]? = some (hI h (n + 515) i).toInt
section
variable {n F : Nat} {g h o : Hp} {L : Nat → Nat → Int} {ms : List MvT} {l : List Int} {ch x x1 : Int32} {P : Pz} {v w : MvT} {i : Nat}
theorem syr (S : SrT n g h L ms l) (cap : l.length < 256) (ic : Rg 0 127 ch) (e : sX15_say h (n + 513) ch = some o) : SrT n g o L ms (l ++ [ch.toInt]) ∧ FrW (WOr n) h o := by
  have z1 : (1 : Int32).toInt = 1 := rfl
  obtain ⟨k, C, M, d1, d2⟩ := S
  have s6 := dk_610 k
  unfold sX15_say at e
  replace e := ce_e (dk_e (a := 513) (f := 2) (b := 515) k (by decide +kernel)) e
  replace e := gg_e e
  have cn : (hI h (n + 513) 3).toNatClampNeg = l.length := by have := nc_i (x := hI h (n + 513) 3) (by omega); omega
  obtain ⟨h3, u3, e⟩ := nm_s e
  obtain ⟨h4, u4, e⟩ := nm_s e
  rw [cn, nar7 ic] at u3
  have k3 : DyK n g h3 := by rw [u3]; exact dk_wI k
  have k4 : DyK n g h4 := by rw [u4]; exact dk_wI k3
  have k4' : DyK n h h4 := by rw [u4, u3]; exact dk_wI (dk_wI (dk_self k))
  have f4 : FrW (WOr n) h h4 := by
    rw [u4, u3]
    exact fw_wI (fw_wI fw_0 (Or.inr rfl)) (Or.inl ⟨rfl, rfl⟩)
  have q3 : hI h3 (n + 513) 3 = hI h (n + 513) 3 := by rw [u3, rI_a (by omega)]
  rw [so_e e]
  refine ⟨⟨k4, rlw_k k k4' f4 (fun j i hj c => by unfold WOr at c; omega) C, rla_f M (fun j i hj => (f4.2 _ _ (by omega) (fun c => by unfold WOr at c; omega)).1), ?_, fun i hi => ?_⟩, f4⟩
  · rw [u4, rI_s, q3, ta (by rw [z1]; omega), z1, d1, List.length_append]
    rfl
  · rw [List.length_append] at hi
    have hi : i < l.length + 1 := hi
    rw [u4, rI_a (by omega), u3]
    by_cases y : i = l.length
    · rw [y, rI_s, List.getElem?_append_right (Nat.le_refl _), Nat.sub_self]
      rfl
    · rw [rI_o (fun z => y z), List.getElem?_append_left (by omega)]
      exact d2 i (by omega)
/-- the law's cells -/
theorem srl (R : RLw n h L) : ∃ w, (w = 516 ∨ w = 526) ∧ hR h (n + 513) 4 = some (n + w) ∧ hR h (n + w) 3 = some (n + w + 1) ∧ (hI h (n + w) 11).toInt = L 11 0 ∧ (∀ m, (hI h (n + w + 1) m).toInt = L 73 m) ∧ (hI h (n + 513) 11).toInt = L 0 0 := by
  obtain ⟨w, hw, e4, _, C⟩ := R
  refine ⟨w, hw, e4, C.1.2.1, ?_, fun m => ?_, C.2.2.1⟩
  · have := congrFun (congrFun C.2.1 11) 0
    unfold lwR at this
    rw [if_pos (by decide)] at this
    exact this
  · have := congrFun (congrFun C.2.1 73) m
    unfold lwR at this
    rw [if_neg (by decide), if_pos (by decide)] at this
    exact this
/-- one row of the list -/
theorem rrow (M : RlA h (n + 552) ms) (ev : ms[i]? = some v) : (hI h (n + 553) i).toInt = mvS v ∧ (hI h (n + 554) i).toInt = mvD v ∧ (hI h (n + 555) i).toInt = mvM v ∧ (hI h (n + 556) i).toInt = mvB v ∧ (hI h (n + 557) i).toInt = mvA v ∧ (hI h (n + 558) i).toInt = mvK v ∧ (hI h (n + 559) i).toInt = v.2.2.2.2.2.2 := by
  have il : i < ms.length := (List.getElem?_eq_some_iff.mp ev).1
  have := M.2 i il
  rw [ev] at this
  rw [Option.some.inj this]
  exact ⟨rfl, rfl, rfl, rfl, rfl, rfl, rfl⟩
theorem le_T (k : DyK n g h) (u : Nat) (hu : u ∈ [1, 2, 3, 4, 5, 6, 7]) : hR h (n + 552) u = some (n + (552 + u)) := by
  have : ∀ q, q ∈ [1, 2, 3, 4, 5, 6, 7] → (552, q, 552 + q) ∈ edL := by decide +kernel
  exact dk_e k (this u hu)
theorem fil_v {s : Int} (H : LOk L) (f11 : (hI h (n + 513) 11).toInt = L 0 0) (ex : x.toInt = s) (s0 : 0 ≤ s) (sL : s < L 0 0 * L 1 0) : (x - x / (hI h (n + 513) 11) * (hI h (n + 513) 11)).toInt = s % L 0 0 ∧ (x / (hI h (n + 513) 11)).toInt = s / L 0 0 ∧ (0 ≤ s % L 0 0 ∧ s % L 0 0 < 8) ∧ (0 ≤ s / L 0 0 ∧ s / L 0 0 < 64) := by
  have sq := sq_64 H
  have fi := H.1
  have r0 := Int.emod_nonneg s (show L 0 0 ≠ 0 by omega)
  have r1 := Int.emod_lt_of_pos s (show 0 < L 0 0 by omega)
  have d0 : 0 ≤ s / L 0 0 := Int.ediv_nonneg (by omega) (by omega)
  have d1 : s / L 0 0 ≤ s := Int.ediv_le_self _ (by omega)
  refine ⟨?_, ?_, ⟨r0, by omega⟩, d0, by omega⟩
  · rw [tr (a := 0) (b := 63) (c := 1) (d := 8) ⟨by omega, by omega⟩ ⟨by omega, by omega⟩ ⟨by decide, by decide⟩, ex, f11]
  · rw [td (a := 0) (b := 63) (c := 1) (d := 8) ⟨by omega, by omega⟩ ⟨by omega, by omega⟩ ⟨by decide, by decide⟩, ex, f11]
theorem sq_r {t : Int} (H : LOk L) (S : SrT n g h L ms l) (cap : l.length + 2 ≤ 256) (ex : x.toInt = t) (t0 : 0 ≤ t) (tL : t < L 0 0 * L 1 0) (e : sX15_saySquare h (n + 513) x = some o) : SrT n g o L ms (l ++ sqV L t) ∧ FrW (WOr n) h o := by
  have z97 : (97 : Int32).toInt = 97 := rfl
  have z49 : (49 : Int32).toInt = 49 := rfl
  obtain ⟨w, hw, _, _, _, _, f11⟩ := srl S.2.1
  obtain ⟨v1, v2, b1, b2⟩ := fil_v H f11 ex t0 tL
  unfold sX15_saySquare sX15_fileOf at e
  obtain ⟨o1, e1, e⟩ := cl_s e
  rw [so_e (gg_e e1)] at e
  obtain ⟨o2, e2, e⟩ := cl_s e
  have t1 : ((97 : Int32) + (x - x / (hI h (n + 513) 11) * (hI h (n + 513) 11))).toInt = 97 + t % L 0 0 := by rw [ta (by rw [v1, z97]; omega), v1, z97]
  obtain ⟨S2, A2⟩ := syr S (by omega) ⟨by show 0 ≤ ((97 : Int32) + (x - x / (hI h (n + 513) 11) * (hI h (n + 513) 11))).toInt; omega, by show ((97 : Int32) + (x - x / (hI h (n + 513) 11) * (hI h (n + 513) 11))).toInt ≤ 127; omega⟩ e2
  have S2 : SrT n g o2 L ms (l ++ [((97 : Int32) + (x - x / (hI h (n + 513) 11) * (hI h (n + 513) 11))).toInt]) := S2
  rw [t1] at S2
  obtain ⟨w', _, _, _, _, _, g11⟩ := srl S2.2.1
  obtain ⟨_, v3, _⟩ := fil_v H g11 ex t0 tL
  replace e := gg_e e
  obtain ⟨o4, e4, e⟩ := cl_s e
  have t2 : ((49 : Int32) + (x / (hI o2 (n + 513) 11))).toInt = 49 + t / L 0 0 := by rw [ta (by rw [v3, z49]; omega), v3, z49]
  obtain ⟨S4, A4⟩ := syr S2 (by rw [List.length_append]; show l.length + 1 < _; omega) ⟨by omega, by omega⟩ e4
  rw [so_e e]
  rw [t2, List.append_assoc] at S4
  exact ⟨S4, fw_t A2 A4⟩
theorem sw_301 {p : Prop} (H : LOk L) (S : SrT n g h L ms l) (cap : l.length < 256) (ev : ms[i]? = some v) (e1 : x1.toInt = (i : Int)) (im : i < 4096) (s0 : 0 ≤ mvS v) (sL : mvS v < L 0 0 * L 1 0) (hp : p) (e : sX15_sayWhich_301 F h (n + 513) x1 = some o) : SrT n g o L ms (l ++ flT p (49 + mvS v / L 0 0)) ∧ FrW (WOr n) h o := by
  have z49 : (49 : Int32).toInt = 49 := rfl
  obtain ⟨w, hw, _, _, _, _, f11⟩ := srl S.2.1
  have n1 : x1.toNatClampNeg = i := by have := nc_i (x := x1) (by omega); omega
  obtain ⟨_, v2, b1, b2⟩ := fil_v H f11 (rrow S.2.2.1 ev).1 s0 sL
  unfold sX15_sayWhich_301 sX15_sayWhich_322 at e
  replace e := ce_e (dk_e (a := 513) (f := 30) (b := 552) S.1 (by decide +kernel)) e
  replace e := ce_e (le_T S.1 1 (by decide)) e
  replace e := gg_e e
  replace e := gg_e e
  obtain ⟨o5, e5, e⟩ := cl_s e
  rw [n1] at e5
  have t2 : ((49 : Int32) + (hI h (n + 553) i / (hI h (n + 513) 11))).toInt = 49 + mvS v / L 0 0 := by rw [ta (by rw [v2, z49]; omega), v2, z49]
  obtain ⟨S5, A5⟩ := syr S cap ⟨by show 0 ≤ ((49 : Int32) + (hI h (n + 553) i / (hI h (n + 513) 11))).toInt; omega, by show ((49 : Int32) + (hI h (n + 553) i / (hI h (n + 513) 11))).toInt ≤ 127; omega⟩ e5
  have S5 : SrT n g o5 L ms (l ++ [((49 : Int32) + (hI h (n + 553) i / (hI h (n + 513) 11))).toInt]) := S5
  rw [t2] at S5
  rw [flt_t hp, so_e e]
  exact ⟨S5, A5⟩
theorem sw_282 {f r al le : Prop} {x3 x4 x5 x6 : Int32} (H : LOk L) (S : SrT n g h L ms l) (cap : l.length < 256) (ev : ms[i]? = some v) (e1 : x1.toInt = (i : Int)) (im : i < 4096) (s0 : 0 ≤ mvS v) (sL : mvS v < L 0 0 * L 1 0) (B3 : FlB x3 f) (B4 : FlB x4 r) (B5 : FlB x5 al) (B6 : FlB x6 le) (fz : f → r ∨ al ∨ ¬ le) (e : sX15_sayWhich_282 F h (n + 513) x1 x3 x4 x5 x6 = some o) : SrT n g o L ms (l ++ flT f (49 + mvS v / L 0 0)) ∧ FrW (WOr n) h o := by
  unfold sX15_sayWhich_282 sX15_sayWhich_322 at e
  rcases br_s e with ⟨c1, e⟩ | ⟨c1, e⟩
  · rw [flt_n (flb_0 B3 c1), List.append_nil, so_e e]
    exact ⟨S, fw_0⟩
  have ff := flb_1 B3 c1
  have go := fun e => sw_301 (F := F) (o := o) H S cap ev e1 im s0 sL ff e
  rcases br_s e with ⟨c2, e⟩ | ⟨c2, e⟩
  · rcases br_s e with ⟨c3, e⟩ | ⟨c3, e⟩
    · rcases br_s e with ⟨c4, e⟩ | ⟨c4, e⟩
      · exact go e
      · rcases fz ff with z | z | z
        · exact absurd z (flb_0 B4 c2)
        · exact absurd z (flb_0 B5 c3)
        · exact absurd (flb_1 B6 c4) z
    · exact go e
  · exact go e
theorem sw_254 {f r al le : Prop} {x3 x4 x5 x6 : Int32} (H : LOk L) (S : SrT n g h L ms l) (cap : l.length + 2 ≤ 256) (ev : ms[i]? = some v) (e1 : x1.toInt = (i : Int)) (im : i < 4096) (s0 : 0 ≤ mvS v) (sL : mvS v < L 0 0 * L 1 0) (B3 : FlB x3 f) (B4 : FlB x4 r) (B5 : FlB x5 al) (B6 : FlB x6 le) (fz : f → r ∨ al ∨ ¬ le) (e : sX15_sayWhich_254 F h (n + 513) x1 x3 x4 x5 x6 = some o) : SrT n g o L ms (l ++ (flT le (97 + mvS v % L 0 0) ++ flT f (49 + mvS v / L 0 0))) ∧ FrW (WOr n) h o := by
  have z97 : (97 : Int32).toInt = 97 := rfl
  unfold sX15_sayWhich_254 at e
  rcases br_s e with ⟨c1, e⟩ | ⟨c1, e⟩
  · rw [flt_n (flb_0 B6 c1), List.nil_append]
    exact sw_282 H S (by omega) ev e1 im s0 sL B3 B4 B5 B6 fz e
  rw [flt_t (flb_1 B6 c1)]
  obtain ⟨w, hw, _, _, _, _, f11⟩ := srl S.2.1
  have n1 : x1.toNatClampNeg = i := by have := nc_i (x := x1) (by omega); omega
  obtain ⟨v1, _, b1, b2⟩ := fil_v H f11 (rrow S.2.2.1 ev).1 s0 sL
  replace e := ce_e (dk_e (a := 513) (f := 30) (b := 552) S.1 (by decide +kernel)) e
  replace e := ce_e (le_T S.1 1 (by decide)) e
  replace e := gg_e e
  replace e := gg_e e
  obtain ⟨o6, e6, e⟩ := cl_s e
  rw [n1] at e6
  have t2 : ((97 : Int32) + (hI h (n + 553) i - hI h (n + 553) i / (hI h (n + 513) 11) * (hI h (n + 513) 11))).toInt = 97 + mvS v % L 0 0 := by rw [ta (by rw [v1, z97]; omega), v1, z97]
  obtain ⟨S6, A6⟩ := syr S (by omega) ⟨by show 0 ≤ ((97 : Int32) + (hI h (n + 553) i - hI h (n + 553) i / (hI h (n + 513) 11) * (hI h (n + 513) 11))).toInt; omega, by show ((97 : Int32) + (hI h (n + 553) i - hI h (n + 553) i / (hI h (n + 513) 11) * (hI h (n + 513) 11))).toInt ≤ 127; omega⟩ e6
  have S6 : SrT n g o6 L ms (l ++ [((97 : Int32) + (hI h (n + 553) i - hI h (n + 553) i / (hI h (n + 513) 11) * (hI h (n + 513) 11))).toInt]) := S6
  rw [t2] at S6
  obtain ⟨S7, A7⟩ := sw_282 H S6 (by rw [List.length_append]; show l.length + 1 < 256; omega) ev e1 im s0 sL B3 B4 B5 B6 fz e
  rw [List.append_assoc] at S7
  exact ⟨S7, fw_t A6 A7⟩
theorem sw_229 {a f r al : Prop} {x2 x3 x4 t0 : Int32} (H : LOk L) (S : SrT n g h L ms l) (cap : l.length + 2 ≤ 256) (ev : ms[i]? = some v) (e1 : x1.toInt = (i : Int)) (im : i < 4096) (s0 : 0 ≤ mvS v) (sL : mvS v < L 0 0 * L 1 0) (fa : f → a) (B2 : FlB x2 a) (B3 : FlB x3 f) (B4 : FlB x4 r) (B5 : FlB t0 al) (e : sX15_sayWhich_229 F h (n + 513) x1 x2 x3 x4 t0 = some o) : SrT n g o L ms (l ++ (flT (al ∨ (a ∧ (¬ f ∨ r))) (97 + mvS v % L 0 0) ++ flT f (49 + mvS v / L 0 0))) ∧ FrW (WOr n) h o := by
  have fz : f → r ∨ al ∨ ¬ (al ∨ (a ∧ (¬ f ∨ r))) := fun hf => by
    by_cases hr : r
    · exact Or.inl hr
    by_cases ha : al
    · exact Or.inr (Or.inl ha)
    exact Or.inr (Or.inr (fun z => z.elim ha (fun y => y.2.elim (fun w => w hf) hr)))
  have go := fun {y : Int32} B e => sw_254 (F := F) (o := o) (x6 := y) (le := al ∨ (a ∧ (¬ f ∨ r))) H S cap ev e1 im s0 sL B3 B4 B5 B fz e
  unfold sX15_sayWhich_229 sX15_sayWhich_253 sX15_sayWhich_249 at e
  rcases br_s e with ⟨c1, e⟩ | ⟨c1, e⟩
  rotate_left
  · exact go (flo (Or.inl (flb_1 B5 c1))) e
  have nal := flb_0 B5 c1
  rcases br_s e with ⟨c2, e⟩ | ⟨c2, e⟩
  · exact go (flz (fun z => z.elim nal (fun y => flb_0 B2 c2 y.1))) e
  have ya := flb_1 B2 c2
  rcases br_s e with ⟨c3, e⟩ | ⟨c3, e⟩
  · exact go (flo (Or.inr ⟨ya, Or.inl (flb_0 B3 c3)⟩)) e
  have yf := flb_1 B3 c3
  rcases br_s e with ⟨c4, e⟩ | ⟨c4, e⟩
  · exact go (flz (fun z => z.elim nal (fun y => y.2.elim (fun w => w yf) (flb_0 B4 c4)))) e
  · exact go (flo (Or.inr ⟨ya, Or.inr (flb_1 B4 c4)⟩)) e
theorem flb_r1 {p : Prop} (B : FlB x p) : x ||| (1 : Int32) = 1 := by
  rcases B with ⟨z, _⟩ | ⟨z, _⟩ <;> rw [z] <;> rfl
theorem flb_r0 {p : Prop} (B : FlB x p) : x ||| (0 : Int32) = x := by
  rcases B with ⟨z, _⟩ | ⟨z, _⟩ <;> rw [z] <;> rfl
/-- rivals are looked through -/
theorem sw_10 (H : LOk L) (Gs : ∀ (i : Nat) (w : MvT), ms[i]? = some w → MvGd L P w) (ev : ms[i]? = some v) (e1 : x1.toInt = (i : Int)) (lm : ms.length ≤ 4096) (cap : l.length + 2 ≤ 256) (s0 : 0 ≤ mvS v) (sL : mvS v < L 0 0 * L 1 0) : ∀ (f : Nat) {h : Hp} {x2 x3 x4 x5 : Int32} {q : Nat}, SrT n g h L ms l → x5.toInt = (q : Int) → q ≤ ms.length → FlB x2 (AnyI ms v (fun _ => True) q) → FlB x3 (AnyI ms v (SmF L v) q) → FlB x4 (AnyI ms v (SmQ L v) q) → sX15_sayWhich_10 F f h (n + 513) x1 x2 x3 x4 x5 = some o → SrT n g o L ms (l ++ whT L ms v) ∧ FrW (WOr n) h o := by
  have z1 : (1 : Int32).toInt = 1 := rfl
  have z2 : (2 : Int32).toInt = 2 := rfl
  have sq := sq_64 H
  have im : i < ms.length := (List.getElem?_eq_some_iff.mp ev).1
  have n1 : x1.toNatClampNeg = i := by have := nc_i (x := x1) (by omega); omega
  intro f
  induction f with
  | zero => intro h x2 x3 x4 x5 q _ _ _ _ _ _ e; exact absurd e (by rw [sX15_sayWhich_10]; exact fun z => nomatch z)
  | succ f ih =>
    intro h x2 x3 x4 x5 q S e5 ql B2 B3 B4 e
    have k := S.1
    have eL := dk_e (a := 513) (f := 30) (b := 552) k (by decide +kernel)
    have rv := rrow S.2.2.1 ev
    obtain ⟨w0, hw, e4, _, p11, _, f11⟩ := srl S.2.1
    have m0 : (hI h (n + 552) 0).toInt = (ms.length : Int) := S.2.2.1.1
    rw [sX15_sayWhich_10] at e
    replace e := ce_e eL e
    rcases br_s e with ⟨c1, e⟩ | ⟨c1, e⟩
    · have c1 := le_i c1
      have ql : q = ms.length := by omega
      subst ql
      unfold sX15_sayWhich_228 at e
      replace e := ce_e eL e
      replace e := ce_e (le_T k 3 (by decide)) e
      replace e := gg_e e
      replace e := ce_e e4 e
      have go := fun {y : Int32} B e => sw_229 (F := F) (o := o) (t0 := y) (al := AlwP L v) H S cap ev e1 (by omega) s0 sL any_t B2 B3 B4 B e
      rcases br_s e with ⟨c2, e⟩ | ⟨c2, e⟩ <;> rw [n1] at c2
      · have c2 : mvM v = L 11 0 := by rw [← rv.2.2.1, ← p11]; exact congrArg Int32.toInt c2
        replace e := ce_e eL e
        replace e := ce_e (le_T k 5 (by decide)) e
        replace e := gg_e e
        rcases br_s e with ⟨c3, e⟩ | ⟨c3, e⟩ <;> rw [n1] at c3
        · exact go (flz (fun z => z.2 (by rw [← rv.2.2.2.2.1]; exact congrArg Int32.toInt c3))) e
        · exact go (flo ⟨c2, fun z => c3 (Int32.toInt_inj.mp (rv.2.2.2.2.1.trans z))⟩) e
      · exact go (flz (fun z => c2 (Int32.toInt_inj.mp (by show (hI h (n + 555) i).toInt = _; rw [rv.2.2.1, p11]; exact z.1)))) e
    · have c1 := nle_i c1
      have n5 : x5.toNatClampNeg = q := by have := nc_i (x := x5) (by omega); omega
      obtain ⟨w, ew⟩ : ∃ w, ms[q]? = some w := ⟨_, List.getElem?_eq_getElem (by omega)⟩
      have Gw := Gs q w ew
      have rw' := rrow S.2.2.1 ew
      have next : ∀ {y2 y3 y4 : Int32}, FlB y2 (AnyI ms v (fun _ => True) (q + 1)) → FlB y3 (AnyI ms v (SmF L v) (q + 1)) → FlB y4 (AnyI ms v (SmQ L v) (q + 1)) → sX15_sayWhich_186 F (sX15_sayWhich_10 F f) h (n + 513) x1 y2 y3 y4 x5 = some o → SrT n g o L ms (l ++ whT L ms v) ∧ FrW (WOr n) h o := fun b2 b3 b4 e => by
        unfold sX15_sayWhich_186 at e
        replace e := nx_e e
        exact ih (q := q + 1) S (by rw [ta (by rw [z1]; omega), z1, e5]; omega) (by omega) b2 b3 b4 e
      have skip : ¬ Rv w v → sX15_sayWhich_186 F (sX15_sayWhich_10 F f) h (n + 513) x1 x2 x3 x4 x5 = some o → SrT n g o L ms (l ++ whT L ms v) ∧ FrW (WOr n) h o := fun nr e => next (flb_i B2 (any_n ew nr)) (flb_i B3 (any_n ew nr)) (flb_i B4 (any_n ew nr)) e
      replace e := ce_e eL e
      replace e := ce_e (le_T k 6 (by decide)) e
      replace e := gg_e e
      rcases br_s e with ⟨c2, e⟩ | ⟨c2, e⟩ <;> rw [n5] at c2
      · have c2 := le_i c2
        have c2 : (2 : Int) ≤ (hI h (n + 558) q).toInt := c2
        rw [rw'.2.2.2.2.2.1] at c2
        exact skip (fun r => by have := r.1; omega) e
      have c2 := nle_i c2
      have c2 : (hI h (n + 558) q).toInt < 2 := c2
      rw [rw'.2.2.2.2.2.1] at c2
      replace e := ce_e eL e
      replace e := ce_e (le_T k 3 (by decide)) e
      replace e := gg_e e
      replace e := ce_e eL e
      replace e := ce_e (le_T k 3 (by decide)) e
      replace e := gg_e e
      rcases br_s e with ⟨c3, e⟩ | ⟨c3, e⟩ <;> rw [n5, n1] at c3
      rotate_left
      · exact skip (fun r => c3 (Int32.toInt_inj.mp (by show (hI h (n + 555) q).toInt = (hI h (n + 555) i).toInt; rw [rw'.2.2.1, rv.2.2.1]; exact r.2.1))) e
      have c3 : mvM w = mvM v := by rw [← rw'.2.2.1, ← rv.2.2.1]; exact congrArg Int32.toInt c3
      replace e := ce_e eL e
      replace e := ce_e (le_T k 2 (by decide)) e
      replace e := gg_e e
      replace e := ce_e eL e
      replace e := ce_e (le_T k 2 (by decide)) e
      replace e := gg_e e
      rcases br_s e with ⟨c4, e⟩ | ⟨c4, e⟩ <;> rw [n5, n1] at c4
      rotate_left
      · exact skip (fun r => c4 (Int32.toInt_inj.mp (by show (hI h (n + 554) q).toInt = (hI h (n + 554) i).toInt; rw [rw'.2.1, rv.2.1]; exact r.2.2.1))) e
      have c4 : mvD w = mvD v := by rw [← rw'.2.1, ← rv.2.1]; exact congrArg Int32.toInt c4
      replace e := ce_e eL e
      replace e := ce_e (le_T k 1 (by decide)) e
      replace e := gg_e e
      replace e := ce_e eL e
      replace e := ce_e (le_T k 1 (by decide)) e
      replace e := gg_e e
      rcases br_s e with ⟨c5, e⟩ | ⟨c5, e⟩ <;> rw [n5, n1] at c5
      · refine skip (fun r => r.2.2.2 ?_) e
        rw [← rw'.1, ← rv.1]; exact congrArg Int32.toInt c5
      have rvl : Rv w v := ⟨by omega, c3, c4, fun z => c5 (Int32.toInt_inj.mp (by show (hI h (n + 553) q).toInt = (hI h (n + 553) i).toInt; rw [rw'.1, rv.1]; exact z))⟩
      have gw : 0 ≤ mvS w ∧ mvS w < L 0 0 * L 1 0 := by
        rcases Gw.1.2.2.2.1 with ⟨z, _⟩ | ⟨_, z, _⟩
        · have z : mvK w = 3 := z
          omega
        · exact z
      obtain ⟨fv1, fv2, _⟩ := fil_v H f11 rv.1 s0 sL
      obtain ⟨fw1, fw2, _⟩ := fil_v H f11 rw'.1 gw.1 gw.2
      have b2 : FlB (1 : Int32) (AnyI ms v (fun _ => True) (q + 1)) := flo (any_y ew rvl trivial)
      -- its rank
      have rnk : ∀ {y3 : Int32}, FlB (x3 ||| y3) (AnyI ms v (SmF L v) (q + 1)) → sX15_sayWhich_142 F (sX15_sayWhich_10 F f) h (n + 513) x1 (1 : Int32) x4 x5 y3 x3 = some o → SrT n g o L ms (l ++ whT L ms v) ∧ FrW (WOr n) h o := fun {y3} b3 e => by
        unfold sX15_sayWhich_142 sX15_sayWhich_183 at e
        obtain ⟨v1, u1, e⟩ := nm_s e
        rw [← u1] at b3
        replace e := ce_e eL e
        replace e := ce_e (le_T k 1 (by decide)) e
        replace e := gg_e e
        replace e := gg_e e
        replace e := ce_e eL e
        replace e := ce_e (le_T k 1 (by decide)) e
        replace e := gg_e e
        replace e := gg_e e
        rcases br_s e with ⟨c6, e⟩ | ⟨c6, e⟩ <;> rw [n5, n1] at c6
        · replace e := nx_e e
          rw [flb_r1 B4] at e
          refine next b2 b3 (flo (any_y ew rvl ?_)) e
          show mvS w / L 0 0 = mvS v / L 0 0
          rw [← fw2, ← fv2]; exact congrArg Int32.toInt c6
        · replace e := nx_e e
          rw [flb_r0 B4] at e
          refine next b2 b3 (flb_i B4 (any_o ew (fun z => c6 (Int32.toInt_inj.mp ?_)))) e
          show (hI h (n + 553) q / hI h (n + 513) 11).toInt = (hI h (n + 553) i / hI h (n + 513) 11).toInt
          rw [fw2, fv2]; exact z
      replace e := ce_e eL e
      replace e := ce_e (le_T k 1 (by decide)) e
      replace e := gg_e e
      replace e := gg_e e
      replace e := ce_e eL e
      replace e := ce_e (le_T k 1 (by decide)) e
      replace e := gg_e e
      replace e := gg_e e
      rcases br_s e with ⟨c6, e⟩ | ⟨c6, e⟩ <;> rw [n5, n1] at c6
      · refine rnk ?_ e
        rw [flb_r1 B3]
        refine flo (any_y ew rvl ?_)
        show mvS w % L 0 0 = mvS v % L 0 0
        rw [← fw1, ← fv1]; exact congrArg Int32.toInt c6
      · refine rnk ?_ e
        rw [flb_r0 B3]
        refine flb_i B3 (any_o ew (fun z => c6 (Int32.toInt_inj.mp ?_)))
        show (hI h (n + 553) q - hI h (n + 553) q / hI h (n + 513) 11 * hI h (n + 513) 11).toInt = (hI h (n + 553) i - hI h (n + 553) i / hI h (n + 513) 11 * hI h (n + 513) 11).toInt
        rw [fw1, fv1]; exact z
end
end
section
/-! the reference: the mark of a move, SAY -/
def RTx (n a i : Nat) : Prop := (a = n + 513 ∧ (i = 23 ∨ i = 24 ∨ i = 29)) ∨ (n + 543 ≤ a ∧ a ≤ n + 551)
def rtxB (j f : Nat) : Bool := (Nat.beq j 513 && (Nat.beq f 23 || (Nat.beq f 24 || Nat.beq f 29))) || (Nat.ble 543 j && Nat.ble j 551)
theorem rtxb_c {n j f i : Nat} (e : rtxB j f = true) (z : f = i ∨ f = 999) : RTx n (n + j) i := by
  unfold rtxB at e
  rw [Bool.or_eq_true, Bool.and_eq_true, Bool.and_eq_true, Bool.or_eq_true, Bool.or_eq_true] at e
  rcases e with ⟨a, b⟩ | ⟨a, b⟩
  · have a := Nat.eq_of_beq_eq_true a
    refine Or.inl ⟨by omega, ?_⟩
    rcases b with b | b | b <;> have b := Nat.eq_of_beq_eq_true b <;> omega
  · have a := Nat.le_of_ble_eq_true a
    have b := Nat.le_of_ble_eq_true b
    exact Or.inr ⟨by omega, by omega⟩
/-- what the mark writes -/
def WRt (n a i : Nat) : Prop := (a = n + 513 ∧ (i = 23 ∨ i = 24 ∨ i = 29 ∨ i = 36)) ∨ (n + 543 ≤ a ∧ a ≤ n + 551) ∨ (n + 560 ≤ a ∧ a ≤ n + 567) ∨ (n + 575 ≤ a ∧ a ≤ n + 579)
section
variable {n F : Nat} {g h : Hp} {L : Nat → Nat → Int} {ms : List MvT} {l : List Int} {x1 x2 x3 : Int32} {P : Pz} {v : MvT} {i : Nat} {o : Int32 × Hp}
theorem att_m2 {b t w : Nat} {own : Nat → Nat} (k : DyK n g h) (O : OwS n h own) (hw : w = 516 ∨ w = 526) (bb : BkE own h b 4 t) (nt : 102 ≤ t ∧ t < 20000) (H : LOk L) (HM : MOk L P.1) (C : RfL n h (n + w) L) (A : RbA h b P) (q0 : 0 ≤ x2.toInt) (d3 : Rg 0 1 x3) (e : sX15_isAttacked F h (n + 513) b x2 x3 = some o) : FrW (RTx n) h o.2 ∧ DyK n g o.2 ∧ ((o.1 = 0 ∧ ¬ AttP L P.1 x3.toInt x2.toNatClampNeg) ∨ (o.1 = 1 ∧ AttP L P.1 x3.toInt x2.toNatClampNeg)) := by
  have D : VD (vM n (hS h) b (hS h + 1000 * 5) (hS h + 1000 * 6) (hS h + 1000 * 7) (n + w)) := vd_m O bb (bke_o (c := 5)) (bke_o (c := 6)) (bke_o (c := 7)) (bk_lw O hw) (by split <;> omega)
  have W0 : RW0 (vM n (hS h) b (hS h + 1000 * 5) (hS h + 1000 * 6) (hS h + 1000 * 7) (n + w)) h L := rfl_m.mpr C
  obtain ⟨f, c⟩ := att_r D H HM q0 d3 (rwd_b W0 (rba_m.mpr A)) e
  have k3 := dk_X15_isAttacked (dk_self k) e
  exact ⟨fw_v (W := RTx n) (sb := rtxB) (cs := []) f (hs_g k3.1) (by decide +kernel) (fun j f i z y => rtxb_c z y) (fun c hc => absurd hc (List.not_mem_nil)), dk_X15_isAttacked k e, c⟩
theorem leg_m2 {b t v tv w : Nat} {own : Nat → Nat} {o : Hp} (k : DyK n g h) (O : OwS n h own) (hw : w = 516 ∨ w = 526) (bb : BkE own h b 4 t) (bv : BkE own h v 7 tv) (nt : 104 ≤ t ∧ t < 20000 ∧ 108 ≤ tv ∧ tv < 20000 ∧ ¬ t = tv) (H : LOk L) (K : LawK L) (Oz : PzOk L P) (C : RfL n h (n + w) L) (A : RbA h b P) (T : ∀ p, p ∈ fsM → hR h v p.1 = some (v + p.2)) (e : sX15_legal F h (n + 513) b v = some o) : FrW (fun a i => RTx n a i ∨ (v ≤ a ∧ a < v + 8)) h o ∧ DyK n g o ∧ RlA o v (lgL L P) := by
  have D : VD (vM n (hS h) b (n + 547) (hS h + 1000 * 6) v (n + w)) := vd_m O bb (bk_beh O) (bke_o (c := 6)) bv (bk_lw O hw) (by split <;> omega)
  obtain ⟨f, c⟩ := lg_r D H K Oz (lgw_m k C A T) e
  have k3 := dk_X15_legal (dk_self k) e
  refine ⟨fw_v (sb := rtxB) (cs := [5, 7]) f (hs_g k3.1) (by decide +kernel) (fun j f i z y => Or.inl (rtxb_c z y)) (fun c hc j i hj => ?_), dk_X15_legal k e, rla_m.mp c⟩
  simp only [List.mem_cons, List.not_mem_nil, or_false] at hc
  rcases hc with z | z <;> subst z
  · have hj : j < 5 := hj
    exact Or.inl (Or.inr ⟨by show n + 543 ≤ n + 547 + j; omega, by show n + 547 + j ≤ n + 551; omega⟩)
  · have hj : j < 8 := hj
    exact Or.inr ⟨by show v ≤ v + j; omega, by show v + j < v + 8; omega⟩
theorem end_m2 {b t w : Nat} {own : Nat → Nat} (k : DyK n g h) (O : OwS n h own) (hw : w = 516 ∨ w = 526) (bb : BkE own h b 4 t) (nt : 102 ≤ t ∧ t < 20000) (H : LOk L) (K : LawK L) (Oz : PzOk L P) (C : RfL n h (n + w) L) (A : RbA h b P) (e2 : x2.toInt = ((lgL L P).length : Int)) (e : sX15_endedBy F h (n + 513) b x2 = some o) : FrW (RTx n) h o.2 ∧ DyK n g o.2 ∧ o.1.toInt = (enE L P).1 ∧ (0 < (enE L P).1 → (hI o.2 (n + 513) 29).toInt = (enE L P).2) := by
  have D : VD (vM n (hS h) b (hS h + 1000 * 5) (hS h + 1000 * 6) (hS h + 1000 * 7) (n + w)) := vd_m O bb (bke_o (c := 5)) (bke_o (c := 6)) (bke_o (c := 7)) (bk_lw O hw) (by split <;> omega)
  have W0 : RW0 (vM n (hS h) b (hS h + 1000 * 5) (hS h + 1000 * 6) (hS h + 1000 * 7) (n + w)) h L := rfl_m.mpr C
  obtain ⟨f, c1, c2⟩ := en_r D H K Oz W0 (rba_m.mpr A) e2 e
  have k3 := dk_X15_endedBy (dk_self k) e
  exact ⟨fw_v (W := RTx n) (sb := rtxB) (cs := []) f (hs_g k3.1) (by decide +kernel) (fun j f i z y => rtxb_c z y) (fun c hc => absurd hc (List.not_mem_nil)), dk_X15_endedBy k e, c1, c2⟩
theorem srt_f {h' : Hp} (S : SrT n g h L ms l) (k' : DyK n h h') (F : FrW (WRt n) h h') : SrT n g h' L ms l := by
  obtain ⟨k, C, M, d1, d2⟩ := S
  have s6 := dk_610 k
  refine ⟨dk_t k k', rlw_k k k' F (fun j i hj c => by unfold WRt at c; omega) C, rla_f M (fun j i hj => (F.2 _ _ (by omega) (fun c => by unfold WRt at c; omega)).1), ?_, fun i hi => ?_⟩
  · rw [(F.2 (n + 513) 3 (by omega) (fun c => by unfold WRt at c; omega)).1]; exact d1
  · rw [(F.2 (n + 515) i (by omega) (fun c => by unfold WRt at c; omega)).1]; exact d2 i hi
theorem bk575 {own : Nat → Nat} (O : OwS n h own) : BkE own h (n + 575) 4 105 := Or.inl ⟨bk_st O (by decide) (by decide), by decide, by decide⟩
theorem bk560 {own : Nat → Nat} (O : OwS n h own) : BkE own h (n + 560) 7 109 := Or.inl ⟨bk_st O (by decide) (by decide), by decide, by decide⟩
theorem e575 (k : DyK n g h) : ∀ q, q ∈ fsB → hR h (n + 575) q.1 = some (n + 575 + q.2) := st_T k (by decide +kernel)
/-- the mark -/
theorem sm_255 {p b : Nat} {o : Hp} (OK : LwOk L) (Oz : PzOk L P) (hp : p < 60) (eb : hR h (n + 536) p = some b) (A : RbA h b P) (S : SrT n g h L ms l) (cap : l.length < 256) (lm : ms.length ≤ 4096) (ev : ms[i]? = some v) (e2 : x2.toInt = (i : Int)) (G : MvGd L P v) (e : sX15_sayMove_255 F h (n + 513) b x2 = some o) : SrT n g o L ms (l ++ mkT (mkV L P v)) ∧ FrW (fun a i => WRt n a i ∨ WOr n a i) h o ∧ DyK n h o ∧ (hI o (n + 513) 36).toInt = (l.length : Int) := by
  have z0 : (0 : Int32).toInt = 0 := rfl
  have H := OK.1
  have K := OK.2.1
  have k := S.1
  have s6 := dk_610 k
  have im : i < ms.length := (List.getElem?_eq_some_iff.mp ev).1
  have n2 : x2.toNatClampNeg = i := by have := nc_i (x := x2) (by omega); omega
  have kz := dk_self k
  obtain ⟨blo, bhi⟩ := dy_lo k (q := (536, 60, 5, 4000, fsB)) (by decide) hp eb
  have bhi : b + 5 ≤ hS h := bhi
  unfold sX15_sayMove_255 at e
  obtain ⟨h1, w1, e⟩ := nm_s e
  have k1 : DyK n h h1 := by rw [w1]; exact dk_wI kz
  have F1 : FrW (WRt n) h h1 := by rw [w1]; exact fw_wI fw_0 (Or.inl ⟨rfl, by omega⟩)
  have S1 := srt_f S k1 F1
  have x36 : (hI h1 (n + 513) 36).toInt = (l.length : Int) := by rw [w1, rI_s]; exact S.2.2.2.1
  have eb1 := ks_r k1 (q := (536, 60, 5, 4000, fsB)) (by decide) eb
  obtain ⟨own1, Dw1⟩ := k1.1.1
  have Tb1 := (bk_dy Dw1 (q := (536, 60, 5, 4000, fsB)) (by decide) hp eb1).2.2
  have A1 : RbA h1 b P := rba_f A Tb1 (fun j i hj => F1.2 _ _ (by omega) (fun c => by unfold WRt at c; omega))
  replace e := ce_e (dk_e (a := 513) (f := 30) (b := 552) k1 (by decide +kernel)) e
  replace e := ce_e (dk_e (a := 513) (f := 35) (b := 575) k1 (by decide +kernel)) e
  obtain ⟨o4, e4, e⟩ := cl_s e
  obtain ⟨w, hw, _, _, C1⟩ := id S1.2.1
  have row : rwA h1 (n + 552) x2.toNatClampNeg = v := by
    rw [n2]
    have := S1.2.2.1.2 i im
    rw [ev] at this
    exact (Option.some.inj this).symm
  obtain ⟨f4, k4, A4⟩ := mk2_m k1 Dw1.1 hw (bke_p Dw1 hp eb1) (bk575 Dw1.1) (bk_ml Dw1.1) (by omega) H K Oz G C1 A1 (lst_T k1) (e575 k1) row e4
  obtain ⟨_, k14, _⟩ := mk2_m (dk_self k1) Dw1.1 hw (bke_p Dw1 hp eb1) (bk575 Dw1.1) (bk_ml Dw1.1) (by omega) H K Oz G C1 A1 (lst_T k1) (e575 k1) row e4
  have F4 : FrW (WRt n) h1 o4 := fw_s f4 (fun a i c => by unfold WRt; omega)
  have S4 := srt_f S1 k14 F4
  have Oz' := pz_ok H K Oz G
  have s4 := dk_610 k4
  replace e := ce_e (dk_e (a := 513) (f := 35) (b := 575) k4 (by decide +kernel)) e
  replace e := ce_e (dk_e (a := 513) (f := 31) (b := 560) k4 (by decide +kernel)) e
  obtain ⟨o7, e7, e⟩ := cl_s e
  obtain ⟨own4, Dw4⟩ := k4.1.1
  obtain ⟨w4, hw4, _, _, C4⟩ := id S4.2.1
  obtain ⟨f7, k47, M7⟩ := leg_m2 (dk_self k4) Dw4.1 hw4 (bk575 Dw4.1) (bk560 Dw4.1) (by decide) H K Oz' C4 A4 (oth_T k4) e7
  have F7 : FrW (WRt n) o4 o7 := fw_s f7 (fun a i c => by unfold RTx at c; unfold WRt; omega)
  have S7 := srt_f S4 k47 F7
  have k7 := dk_t k4 k47
  have s7 := dk_610 k7
  have A7 : RbA o7 (n + 575) (zAll L P v) := rba_f A4 (e575 k7) (fun j i hj => f7.2 _ _ (by omega) (fun c => by unfold RTx at c; omega))
  replace e := ce_e (dk_e (a := 513) (f := 35) (b := 575) k7 (by decide +kernel)) e
  replace e := ce_e (dk_e (a := 513) (f := 35) (b := 575) k7 (by decide +kernel)) e
  obtain ⟨o10, e10, e⟩ := cl_s e
  obtain ⟨p10, ro⟩ := ryh_d OK Oz' k7 S7.2.1 A7 e10
  rw [p10] at e
  replace e := ce_e (dk_e (a := 513) (f := 35) (b := 575) k7 (by decide +kernel)) e
  replace e := ce_e (dk_e (a := 513) (f := 31) (b := 560) k7 (by decide +kernel)) e
  obtain ⟨o13, e13, e⟩ := cl_s e
  obtain ⟨own7, Dw7⟩ := k7.1.1
  obtain ⟨w7, hw7, _, _, C7⟩ := id S7.2.1
  obtain ⟨f13, k713, v13, v29⟩ := end_m2 (dk_self k7) Dw7.1 hw7 (bk575 Dw7.1) (by decide) H K Oz' C7 A7 M7.1 e13
  have F13 : FrW (WRt n) o7 o13.2 := fw_s f13 (fun a i c => by unfold RTx at c; unfold WRt; omega)
  have S13 := srt_f S7 k713 F13
  have k13 := dk_t k7 k713
  have s13 := dk_610 k13
  have A13 : RbA o13.2 (n + 575) (zAll L P v) := rba_f A7 (e575 k13) (fun j i hj => f13.2 _ _ (by omega) (fun c => by unfold RTx at c; omega))
  have FF : FrW (WRt n) h o13.2 := fw_t F1 (fw_t F4 (fw_t F7 F13))
  have eb13 := ks_r k13 (q := (536, 60, 5, 4000, fsB)) (by decide) eb
  obtain ⟨own13, Dw13⟩ := k13.1.1
  have Tb13 := (bk_dy Dw13 (q := (536, 60, 5, 4000, fsB)) (by decide) hp eb13).2.2
  have Ab13 : RbA o13.2 b P := rba_f A Tb13 (fun j i hj => FF.2 _ _ (by omega) (fun c => by unfold WRt at c; omega))
  have y36 : (hI o13.2 (n + 513) 36).toInt = (l.length : Int) := by
    rw [(f13.2 (n + 513) 36 (by omega) (fun c => by unfold RTx at c; omega)).1, (f7.2 (n + 513) 36 (by omega) (fun c => by unfold RTx at c; omega)).1, (f4.2 (n + 513) 36 (by have := dk_610 k1; omega) (fun c => by omega)).1]
    exact x36
  have sd : (hI o13.2 b 1).toInt = (pzS P : Int) := Ab13.2.2.1
  have s2 := Oz.2.2.1
  have s2' := Oz'.2.2.1
  have zs := zall_s (L := L) (P := P) (v := v)
  -- one more byte, or none
  have fin1 : ∀ {u : Hp} {c : Int32}, SrT n g u L ms l → FrW (WRt n) h u → DyK n h u → (hI u (n + 513) 36).toInt = (l.length : Int) → Rg 0 127 c → mkV L P v = c.toInt → ¬ c.toInt = -1 → ∀ {q : Hp}, sX15_say u (n + 513) c = some q → SrT n g q L ms (l ++ mkT (mkV L P v)) ∧ FrW (fun a i => WRt n a i ∨ WOr n a i) h q ∧ DyK n h q ∧ (hI q (n + 513) 36).toInt = (l.length : Int) := fun {u c} Su Fu ku x36 rc mc nc {q} eq => by
    obtain ⟨Sq, Aq⟩ := syr Su cap rc eq
    have kuq : DyK n h q := by
      have := dk_X15_say ku eq
      exact this
    refine ⟨by unfold mkT; rw [mc, if_neg nc]; exact Sq, fw_t (fw_s Fu (fun _ _ c => Or.inl c)) (fw_s Aq (fun _ _ c => Or.inr c)), kuq, ?_⟩
    rw [(Aq.2 (n + 513) 36 (by have := dk_610 ku; omega) (fun c => by unfold WOr at c; omega)).1]; exact x36
  have fin0 : ∀ {u : Hp}, SrT n g u L ms l → FrW (WRt n) h u → DyK n h u → (hI u (n + 513) 36).toInt = (l.length : Int) → mkV L P v = -1 → u = o → SrT n g o L ms (l ++ mkT (mkV L P v)) ∧ FrW (fun a i => WRt n a i ∨ WOr n a i) h o ∧ DyK n h o ∧ (hI o (n + 513) 36).toInt = (l.length : Int) := fun {u} Su Fu ku x36 mc eu => by
    rw [← eu]
    refine ⟨by unfold mkT; rw [if_pos mc, List.append_nil]; exact Su, fw_s Fu (fun _ _ c => Or.inl c), ku, x36⟩
  -- not won
  have last : ¬ (if 0 < (enE L (zAll L P v)).1 then (enE L (zAll L P v)).2 else -1) = (pzS P : Int) → sX15_sayMove_344 F o13.2 (n + 513) b o10.1 = some o → SrT n g o L ms (l ++ mkT (mkV L P v)) ∧ FrW (fun a i => WRt n a i ∨ WOr n a i) h o ∧ DyK n h o ∧ (hI o (n + 513) 36).toInt = (l.length : Int) := fun nw e => by
    have mke : mkV L P v = if prB' (RyH L (zAll L P v).1 (pzS (zAll L P v))) = true then 43 else -1 := by unfold mkV; rw [if_neg nw]
    unfold sX15_sayMove_344 sX15_sayMove_373 at e
    rcases br_s e with ⟨c1, e⟩ | ⟨c1, e⟩
    · refine fin0 S13 FF k13 y36 ?_ (so_e e).symm
      rw [mke, if_neg (fun z => ?_)]
      obtain ⟨s, q1, q2, q3, _⟩ := prb_e.mp z
      rcases ro with ⟨_, r2⟩ | ⟨r1, _⟩
      · exact r2 s q1 q2 q3
      · rw [c1] at r1; exact absurd r1.1 (by decide)
    · have ro' := ro.resolve_left (fun z => c1 z.1)
      replace e := ce_e (dk_e (a := 513) (f := 35) (b := 575) k13 (by decide +kernel)) e
      obtain ⟨o3, e3, e⟩ := cl_s e
      obtain ⟨w13, hw13, _, _, C13⟩ := id S13.2.1
      obtain ⟨f3, k3', y3⟩ := att_m2 (dk_self k13) Dw13.1 hw13 (bk575 Dw13.1) (by decide) H Oz'.1 C13 A13 ro'.1.1 ⟨by rw [sd]; omega, by rw [sd]; omega⟩ e3
      have F3 : FrW (WRt n) o13.2 o3.2 := fw_s f3 (fun a i c => by unfold RTx at c; unfold WRt; omega)
      have S3 := srt_f S13 k3' F3
      have k3 := dk_t k13 k3'
      have y36' : (hI o3.2 (n + 513) 36).toInt = (l.length : Int) := by
        rw [(f3.2 (n + 513) 36 (by omega) (fun c => by unfold RTx at c; omega)).1]; exact y36
      have U := Oz'.2.1
      have ry : RyH L (zAll L P v).1 (pzS (zAll L P v)) ↔ AttP L (zAll L P v).1 (hI o13.2 b 1).toInt o10.1.toNatClampNeg := by
        have n5 := nc_i ro'.1.1
        have lt5 : o10.1.toNatClampNeg < 64 := by have := ro'.1.2; omega
        have sdx : (hI o13.2 b 1).toInt = 1 - (pzS (zAll L P v) : Int) := by rw [sd, zs]; omega
        rw [sdx]
        constructor
        · rintro ⟨s, s1, s2', s3, s4⟩
          have : s = o10.1.toNatClampNeg := U s2' (pzS (zAll L P v)) s o10.1.toNatClampNeg (by omega) s1 lt5 s3 ro'.2.2
          rw [← this]; exact s4
        · intro z
          exact ⟨o10.1.toNatClampNeg, lt5, ro'.2.1, ro'.2.2, z⟩
      rcases br_s e with ⟨c2, e⟩ | ⟨c2, e⟩
      · refine fin0 S3 (fw_t FF F3) k3 y36' ?_ (so_e e).symm
        rcases y3 with ⟨_, z⟩ | ⟨z, _⟩
        · rw [mke, if_neg (fun y => z (ry.mp (prb_e.mp y)))]
        · rw [c2] at z; exact absurd z (by decide)
      · obtain ⟨o5, e5, e⟩ := cl_s e
        have := so_e e
        rw [this]
        refine fin1 S3 (fw_t FF F3) k3 y36' (c := (43 : Int32)) ⟨by decide, by decide⟩ ?_ (by decide) e5
        rcases y3 with ⟨z, _⟩ | ⟨_, z⟩
        · exact absurd z c2
        · rw [mke, if_pos (prb_e.mpr (ry.mpr z))]; rfl
  rcases br_s e with ⟨c1, e⟩ | ⟨c1, e⟩
  · have c1 := le_i c1
    rw [v13, z0] at c1
    exact last (fun z => by rw [if_neg (by omega)] at z; omega) e
  have c1 := nle_i c1
  rw [v13, z0] at c1
  have w29 := v29 c1
  rcases br_s e with ⟨c2, e⟩ | ⟨c2, e⟩
  · obtain ⟨o16, e16, e⟩ := cl_s e
    unfold sX15_sayMove_373 at e
    have := so_e e
    rw [this]
    refine fin1 S13 FF k13 y36 (c := (35 : Int32)) ⟨by decide, by decide⟩ ?_ (by decide) e16
    have : (enE L (zAll L P v)).2 = (pzS P : Int) := by rw [← w29, ← sd, c2]
    unfold mkV
    rw [if_pos c1, if_pos this]; rfl
  · refine last (fun z => ?_) e
    rw [if_pos c1] at z
    exact c2 (Int32.toInt_inj.mp (by rw [w29, sd]; exact z))
end
end
