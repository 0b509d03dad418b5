section
/-! the reference: the text of a move whole, SAY; joint -/
section
variable {n j F : Nat} {g h : Hp} {L : Nat → Nat → Int} {ms : List MvT} {l : List Int} {x1 x2 x3 : Int32} {P : Pz} {v : MvT} {i : Nat}
/-- which way a castling goes -/
theorem cs_dir (H : LOk L) (G : MvGd L P v) (kv : mvK v = 2) : 0 ≤ v.2.2.2.2.2.2 ∧ v.2.2.2.2.2.2 < L 0 0 * L 1 0 ∧ (0 ≤ mvS v ∧ mvS v < L 0 0 * L 1 0) ∧ (mvS v % L 0 0 ≤ v.2.2.2.2.2.2 % L 0 0 ↔ ¬ mvD v ≤ mvS v) := by
  have fi := H.1
  have gs : 0 ≤ mvS v ∧ mvS v < L 0 0 * L 1 0 := by
    rcases G.1.2.2.2.1 with ⟨z, _⟩ | ⟨_, z, _⟩
    · have z : mvK v = 3 := z
      omega
    · exact z
  obtain ⟨d, dd, e1, m0, ⟨k, k1, b0, b1, em, _⟩, _⟩ := G.1.2.2.2.2.2 kv
  have e1 : mvD v = mvS v + 2 * d := e1
  have mL := (G.2.2.2.2.2.1 kv).2.2.2.2.2
  have ts' : ((v.1.toNat : Nat) : Int) = mvS v := by have : mvS v = v.1 := rfl; omega
  have tm' : ((v.2.2.2.2.2.2.toNat : Nat) : Int) = v.2.2.2.2.2.2 := by omega
  rw [ts'] at b0 b1 em
  rw [tm'] at em
  refine ⟨m0, mL, gs, ?_⟩
  have hs := Int.mul_ediv_add_emod (mvS v) (L 0 0)
  have me : v.2.2.2.2.2.2 % L 0 0 = mvS v % L 0 0 + (k : Int) * d := by
    have : v.2.2.2.2.2.2 = (mvS v % L 0 0 + (k : Int) * d) + L 0 0 * (mvS v / L 0 0) := by omega
    rw [this, Int.add_mul_emod_self_left, Int.emod_eq_of_lt b0 b1]
  rw [me]
  rcases dd with z | z <;> subst z
  · constructor <;> intro _ <;> omega
  · constructor <;> intro _ <;> omega
theorem sm_207 {p b : Nat} {o : Hp} (OK : LwOk L) (Oz : PzOk L P) (hp : p < 60) (eb : hR h (n + 536) p = some b) (A : RbA h b P) (S : SrT n g h L ms l) (cap : l.length + 5 ≤ 256) (lm : ms.length ≤ 4096) (ev : ms[i]? = some v) (e2 : x2.toInt = (i : Int)) (e3 : x3.toInt = mvD v) (G : MvGd L P v) (e : sX15_sayMove_207 F h (n + 513) b x2 x3 = some o) : SrT n g o L ms (l ++ (sqV L (mvD v) ++ bcT L v) ++ mkT (mkV L P v)) ∧ FrW (fun a i => WRt n a i ∨ WOr n a i) h o ∧ DyK n h o ∧ (hI o (n + 513) 36).toInt = ((l ++ (sqV L (mvD v) ++ bcT L v)).length : Int) := by
  have z61 : (61 : Int32).toInt = 61 := rfl
  have z32 : (32 : Int32).toInt = 32 := rfl
  have H := OK.1
  have im : i < ms.length := (List.getElem?_eq_some_iff.mp ev).1
  have n2 : x2.toNatClampNeg = i := by have := nc_i (x := x2) (by omega); omega
  unfold sX15_sayMove_207 at e
  obtain ⟨o1, e1, e⟩ := cl_s e
  have kk : ∀ {u q : Hp} {c : Int32}, DyK n h u → sX15_say u (n + 513) c = some q → DyK n h q := fun ku eq => dk_X15_say ku eq
  obtain ⟨S1, A1⟩ := sq_r H S (by omega) e3 G.1.1.1 G.1.1.2 e1
  have k1 : DyK n h o1 := dk_X15_saySquare (dk_self S.1) e1
  have brd : ∀ {u : Hp}, DyK n h u → FrW (WOr n) h u → hR u (n + 536) p = some b ∧ RbA u b P := fun {u} ku fu => by
    have s6 := dk_610 S.1
    obtain ⟨blo, bhi⟩ := dy_lo S.1 (q := (536, 60, 5, 4000, fsB)) (by decide) hp eb
    have bhi : b + 5 ≤ hS h := bhi
    have ebu := ks_r ku (q := (536, 60, 5, 4000, fsB)) (by decide) eb
    obtain ⟨own, Dw⟩ := ku.1.1
    exact ⟨ebu, rba_f A (bk_dy Dw (q := (536, 60, 5, 4000, fsB)) (by decide) hp ebu).2.2 (fun j i hj => fu.2 _ _ (by omega) (fun c => by unfold WOr at c; omega))⟩
  have fin : ∀ {u : Hp} {t : List Int}, SrT n g u L ms t → DyK n h u → FrW (WOr n) h u → t.length < 256 → sX15_sayMove_255 F u (n + 513) b x2 = some o → SrT n g o L ms (t ++ mkT (mkV L P v)) ∧ FrW (fun a i => WRt n a i ∨ WOr n a i) h o ∧ DyK n h o ∧ (hI o (n + 513) 36).toInt = (t.length : Int) := fun {u t} Su ku fu tl e => by
    obtain ⟨ebu, Au⟩ := brd ku fu
    obtain ⟨q1, q2, q3, q4⟩ := sm_255 OK Oz hp ebu Au Su tl lm ev e2 G e
    exact ⟨q1, fw_t (fw_s fu (fun _ _ c => Or.inr c)) q2, dk_t ku q3, q4⟩
  have l1 : (l ++ sqV L (mvD v)).length = l.length + 2 := by rw [List.length_append]; rfl
  replace e := ce_e (dk_e (a := 513) (f := 30) (b := 552) k1 (by decide +kernel)) e
  replace e := ce_e (le_T k1 4 (by decide)) e
  replace e := gg_e e
  have rw1 := (rrow S1.2.2.1 ev).2.2.2.1
  unfold bcT
  rcases br_s e with ⟨c1, e⟩ | ⟨c1, e⟩ <;> rw [n2] at c1
  · have : mvB v = -1 := by rw [← rw1]; exact congrArg Int32.toInt c1
    rw [if_pos this, List.append_nil]
    exact fin S1 k1 A1 (by omega) e
  have nb : ¬ mvB v = -1 := fun z => c1 (Int32.toInt_inj.mp (rw1.trans z))
  rw [if_neg nb]
  have bb : 0 ≤ mvB v ∧ mvB v < L 2 0 := by
    rcases G.1.2.2.1 with z | z
    · exact absurd z nb
    · exact ⟨z.1, G.2.1.2⟩
  obtain ⟨o6, e6, e⟩ := cl_s e
  obtain ⟨S6, A6⟩ := syr S1 (by omega) (ch := (61 : Int32)) ⟨by decide, by decide⟩ e6
  have k6 := kk k1 e6
  obtain ⟨w, hw, q4, q3, _, q73, _⟩ := srl S6.2.1
  replace e := ce_e q4 e
  replace e := ce_e q3 e
  replace e := ce_e (dk_e (a := 513) (f := 30) (b := 552) k6 (by decide +kernel)) e
  replace e := ce_e (le_T k6 4 (by decide)) e
  replace e := gg_e e
  replace e := gg_e e
  obtain ⟨o13, e13, e⟩ := cl_s e
  have rw6 : (hI o6 (n + 556) i).toInt = mvB v := (rrow S6.2.2.1 ev).2.2.2.1
  have nbn : (hI o6 (n + 556) i).toNatClampNeg = (mvB v).toNat := by have := nc_i (x := hI o6 (n + 556) i) (by omega); omega
  rw [n2] at e13
  have e13 : sX15_say o6 (n + 513) (hI o6 (n + w + 1) (hI o6 (n + 556) i).toNatClampNeg - 32) = some o13 := e13
  rw [nbn] at e13
  have lt := OK.2.2.1 (mvB v).toNat (by omega)
  have v73 := q73 (mvB v).toNat
  have t : (hI o6 (n + w + 1) (mvB v).toNat - (32 : Int32)).toInt = lUp L (mvB v) := by
    unfold lUp
    rw [ts (by rw [v73, z32]; omega), v73, z32]
  have tb : Rg 0 127 (hI o6 (n + w + 1) (mvB v).toNat - (32 : Int32)) := by
    unfold lUp at t
    exact ⟨by omega, by omega⟩
  have l6 : (l ++ sqV L (mvD v) ++ [(61 : Int32).toInt]).length = l.length + 3 := by rw [List.length_append, l1]; rfl
  obtain ⟨S13, A13⟩ := syr S6 (by omega) tb e13
  rw [t, z61] at S13
  have k13 := kk k6 e13
  have eq : l ++ sqV L (mvD v) ++ [61] ++ [lUp L (mvB v)] = l ++ (sqV L (mvD v) ++ [61, lUp L (mvB v)]) := by simp only [List.append_assoc, List.cons_append, List.nil_append]
  rw [eq] at S13
  refine fin S13 k13 (fw_t A1 (fw_t A6 A13)) ?_ e
  rw [List.length_append]
  show l.length + 4 < 256
  omega
theorem sm_183 {p b : Nat} {o : Hp} (OK : LwOk L) (Oz : PzOk L P) (hp : p < 60) (eb : hR h (n + 536) p = some b) (A : RbA h b P) (S : SrT n g h L ms l) (cap : l.length + 8 ≤ 256) (lm : ms.length ≤ 4096) (Gs : ∀ (i : Nat) (w : MvT), ms[i]? = some w → MvGd L P w) (ev : ms[i]? = some v) (e2 : x2.toInt = (i : Int)) (e3 : x3.toInt = mvD v) (kv : ¬ mvK v = 3) (e : sX15_sayMove_183 F h (n + 513) b x2 x3 = some o) : SrT n g o L ms (l ++ whT L ms v ++ tkT v ++ (sqV L (mvD v) ++ bcT L v) ++ mkT (mkV L P v)) ∧ FrW (fun a i => WRt n a i ∨ WOr n a i) h o ∧ DyK n h o ∧ (hI o (n + 513) 36).toInt = ((l ++ whT L ms v ++ tkT v ++ (sqV L (mvD v) ++ bcT L v)).length : Int) := by
  have zx : (120 : Int32).toInt = 120 := rfl
  have H := OK.1
  have G := Gs i v ev
  have im : i < ms.length := (List.getElem?_eq_some_iff.mp ev).1
  have n2 : x2.toNatClampNeg = i := by have := nc_i (x := x2) (by omega); omega
  have gs : 0 ≤ mvS v ∧ mvS v < L 0 0 * L 1 0 := by
    rcases G.1.2.2.2.1 with ⟨z, _⟩ | ⟨_, z, _⟩
    · exact absurd z kv
    · exact z
  unfold sX15_sayMove_183 at e
  obtain ⟨o1, e1, e⟩ := cl_s e
  have k1 : DyK n h o1 := dk_X15_sayWhich (dk_self S.1) e1
  unfold sX15_sayWhich at e1
  obtain ⟨S1, A1⟩ := sw_10 H Gs ev e2 lm (by omega) gs.1 gs.2 F S rfl (Nat.zero_le _) (flz any_0) (flz any_0) (flz any_0) e1
  have wl' : (whT L ms v).length ≤ 2 := by
    unfold whT
    rw [List.length_append]
    have a := flt_l (p := WhF L ms v) (c := 97 + mvS v % L 0 0)
    have b := flt_l (p := WhR L ms v) (c := 49 + mvS v / L 0 0)
    omega
  have l1 : (l ++ whT L ms v).length ≤ l.length + 2 := by rw [List.length_append]; omega
  have brd : ∀ {u : Hp}, DyK n h u → FrW (WOr n) h u → hR u (n + 536) p = some b ∧ RbA u b P := fun {u} ku fu => by
    have s6 := dk_610 S.1
    obtain ⟨blo, bhi⟩ := dy_lo S.1 (q := (536, 60, 5, 4000, fsB)) (by decide) hp eb
    have bhi : b + 5 ≤ hS h := bhi
    have ebu := ks_r ku (q := (536, 60, 5, 4000, fsB)) (by decide) eb
    obtain ⟨own, Dw⟩ := ku.1.1
    exact ⟨ebu, rba_f A (bk_dy Dw (q := (536, 60, 5, 4000, fsB)) (by decide) hp ebu).2.2 (fun j i hj => fu.2 _ _ (by omega) (fun c => by unfold WOr at c; omega))⟩
  replace e := ce_e (dk_e (a := 513) (f := 30) (b := 552) k1 (by decide +kernel)) e
  replace e := ce_e (le_T k1 5 (by decide)) e
  replace e := gg_e e
  have rw1 := (rrow S1.2.2.1 ev).2.2.2.2.1
  unfold tkT
  rcases br_s e with ⟨c1, e⟩ | ⟨c1, e⟩ <;> rw [n2] at c1
  · have : mvA v = -1 := by rw [← rw1]; exact congrArg Int32.toInt c1
    rw [if_pos this, List.append_nil]
    obtain ⟨eb1, A1'⟩ := brd k1 A1
    obtain ⟨q1, q2, q3, q4⟩ := sm_207 OK Oz hp eb1 A1' S1 (by omega) lm ev e2 e3 G e
    exact ⟨q1, fw_t (fw_s A1 (fun _ _ c => Or.inr c)) q2, dk_t k1 q3, q4⟩
  have nb : ¬ mvA v = -1 := fun z => c1 (Int32.toInt_inj.mp (rw1.trans z))
  rw [if_neg nb]
  obtain ⟨o6, e6, e⟩ := cl_s e
  obtain ⟨S6, A6⟩ := syr S1 (by omega) (ch := (120 : Int32)) ⟨by decide, by decide⟩ e6
  have k6 : DyK n h o6 := dk_X15_say k1 e6
  rw [zx] at S6
  obtain ⟨eb6, A6'⟩ := brd k6 (fw_t A1 A6)
  obtain ⟨q1, q2, q3, q4⟩ := sm_207 OK Oz hp eb6 A6' S6 (by rw [List.length_append]; show (l ++ whT L ms v).length + 1 + 5 ≤ 256; omega) lm ev e2 e3 G e
  exact ⟨q1, fw_t (fw_s (fw_t A1 A6) (fun _ _ c => Or.inr c)) q2, dk_t k6 q3, q4⟩
/-- sayMove -/
theorem sm_x {p b : Nat} {o : Hp} (OK : LwOk L) (Oz : PzOk L P) (hp : p < 60) (eb : hR h (n + 536) p = some b) (A : RbA h b P) (k : DyK n g h) (Rl : RLw n h L) (M : RlA h (n + 552) ms) (lm : ms.length ≤ 4096) (Gs : ∀ (i : Nat) (w : MvT), ms[i]? = some w → MvGd L P w) (ev : ms[i]? = some v) (e2 : x2.toInt = (i : Int)) (e : sX15_sayMove F h (n + 513) b x2 = some o) : SrT n g o L ms (bmT L ms v ++ mkT (mkV L P v)) ∧ FrW (fun a i => WRt n a i ∨ WOr n a i) h o ∧ DyK n h o ∧ (hI o (n + 513) 36).toInt = ((bmT L ms v).length : Int) := by
  have z2 : (2 : Int32).toInt = 2 := rfl
  have z3 : (3 : Int32).toInt = 3 := rfl
  have z32 : (32 : Int32).toInt = 32 := rfl
  have z79 : (79 : Int32).toInt = 79 := rfl
  have z45 : (45 : Int32).toInt = 45 := rfl
  have z64 : (64 : Int32).toInt = 64 := rfl
  have H := OK.1
  have G := Gs i v ev
  have s6 := dk_610 k
  have im : i < ms.length := (List.getElem?_eq_some_iff.mp ev).1
  have n2 : x2.toNatClampNeg = i := by have := nc_i (x := x2) (by omega); omega
  obtain ⟨blo, bhi⟩ := dy_lo k (q := (536, 60, 5, 4000, fsB)) (by decide) hp eb
  have bhi : b + 5 ≤ hS h := bhi
  have brd : ∀ {u : Hp}, DyK n h u → FrW (WOr n) h u → hR u (n + 536) p = some b ∧ RbA u b P := fun {u} ku fu => by
    have ebu := ks_r ku (q := (536, 60, 5, 4000, fsB)) (by decide) eb
    obtain ⟨own, Dw⟩ := ku.1.1
    exact ⟨ebu, rba_f A (bk_dy Dw (q := (536, 60, 5, 4000, fsB)) (by decide) hp ebu).2.2 (fun j i hj => fu.2 _ _ (by omega) (fun c => by unfold WOr at c; omega))⟩
  unfold sX15_sayMove at e
  obtain ⟨h1, w1, e⟩ := nm_s e
  have k1 : DyK n h h1 := by rw [w1]; exact dk_wI (dk_self k)
  have f1 : FrW (WOr n) h h1 := by rw [w1]; exact fw_wI fw_0 (Or.inl ⟨rfl, rfl⟩)
  have S1 : SrT n g h1 L ms [] := ⟨by rw [w1]; exact dk_wI k, rlw_k k k1 f1 (fun j i hj c => by unfold WOr at c; omega) Rl, rla_f M (fun j i hj => (f1.2 _ _ (by omega) (fun c => by unfold WOr at c; omega)).1), by rw [w1, rI_s]; rfl, fun i hi => absurd hi (Nat.not_lt_zero _)⟩
  have rr := rrow S1.2.2.1 ev
  have eL := dk_e (a := 513) (f := 30) (b := 552) k1 (by decide +kernel)
  replace e := ce_e eL e
  replace e := ce_e (le_T k1 2 (by decide)) e
  replace e := gg_e e
  obtain ⟨v5, w5, e⟩ := nm_s e
  rw [n2] at w5
  have q5 : v5.toInt = mvD v := by rw [w5]; exact rr.2.1
  replace e := ce_e eL e
  replace e := ce_e (le_T k1 6 (by decide)) e
  replace e := gg_e e
  obtain ⟨v9, w9, e⟩ := nm_s e
  rw [n2] at w9
  have q9 : v9.toInt = mvK v := by rw [w9]; exact rr.2.2.2.2.2.1
  have fin : ∀ {u : Hp} {t : List Int}, SrT n g u L ms t → DyK n h u → FrW (WOr n) h u → t.length < 256 → sX15_sayMove_255 F u (n + 513) b x2 = some o → SrT n g o L ms (t ++ mkT (mkV L P v)) ∧ FrW (fun a i => WRt n a i ∨ WOr n a i) h o ∧ DyK n h o ∧ (hI o (n + 513) 36).toInt = (t.length : Int) := fun {u t} Su ku fu tl e => by
    obtain ⟨ebu, Au⟩ := brd ku fu
    obtain ⟨q1, q2, q3, q4⟩ := sm_255 OK Oz hp ebu Au Su tl lm ev e2 G e
    exact ⟨q1, fw_t (fw_s fu (fun _ _ c => Or.inr c)) q2, dk_t ku q3, q4⟩
  have kk : ∀ {u q : Hp} {c : Int32}, DyK n h u → sX15_say u (n + 513) c = some q → DyK n h q := fun ku eq => dk_X15_say ku eq
  unfold bmT
  rcases br_s e with ⟨c1, e⟩ | ⟨c1, e⟩
  · have kv : mvK v = 2 := by rw [← q9, c1]; rfl
    rw [if_pos kv]
    obtain ⟨m0, mL, gs, dir⟩ := cs_dir H G kv
    obtain ⟨o33, e33, e⟩ := cl_s e
    obtain ⟨S33, A33⟩ := syr S1 (by decide) (ch := (79 : Int32)) ⟨by decide, by decide⟩ e33
    have k33 := kk k1 e33
    obtain ⟨o34, e34, e⟩ := cl_s e
    obtain ⟨S34, A34⟩ := syr S33 (by decide) (ch := (45 : Int32)) ⟨by decide, by decide⟩ e34
    have k34 := kk k33 e34
    obtain ⟨o35, e35, e⟩ := cl_s e
    obtain ⟨S35, A35⟩ := syr S34 (by decide) (ch := (79 : Int32)) ⟨by decide, by decide⟩ e35
    have k35 := kk k34 e35
    have F35 := fw_t f1 (fw_t A33 (fw_t A34 A35))
    have eL5 := dk_e (a := 513) (f := 30) (b := 552) k35 (by decide +kernel)
    replace e := ce_e eL5 e
    replace e := ce_e (le_T k35 7 (by decide)) e
    replace e := gg_e e
    replace e := gg_e e
    replace e := ce_e eL5 e
    replace e := ce_e (le_T k35 1 (by decide)) e
    replace e := gg_e e
    replace e := gg_e e
    have r35 := rrow S35.2.2.1 ev
    obtain ⟨w, hw, _, _, _, _, f11⟩ := srl S35.2.1
    obtain ⟨a1, _⟩ := fil_v H f11 r35.1 gs.1 gs.2
    obtain ⟨a2, _⟩ := fil_v H f11 r35.2.2.2.2.2.2 m0 mL
    rcases br_s e with ⟨c2, e⟩ | ⟨c2, e⟩ <;> rw [n2] at c2
    · have c2 := le_i c2
      have c2 : (hI o35 (n + 553) i - hI o35 (n + 553) i / hI o35 (n + 513) 11 * hI o35 (n + 513) 11).toInt ≤ (hI o35 (n + 559) i - hI o35 (n + 559) i / hI o35 (n + 513) 11 * hI o35 (n + 513) 11).toInt := c2
      rw [a1, a2] at c2
      rw [if_neg (dir.mp c2)]
      exact fin S35 k35 F35 (by decide) e
    · have c2 := nle_i c2
      have c2 : (hI o35 (n + 559) i - hI o35 (n + 559) i / hI o35 (n + 513) 11 * hI o35 (n + 513) 11).toInt < (hI o35 (n + 553) i - hI o35 (n + 553) i / hI o35 (n + 513) 11 * hI o35 (n + 513) 11).toInt := c2
      rw [a1, a2] at c2
      have nd : mvD v ≤ mvS v := Classical.not_not.mp (fun z => by have := dir.mpr z; omega)
      rw [if_pos nd]
      obtain ⟨o45, e45, e⟩ := cl_s e
      obtain ⟨S45, A45⟩ := syr S35 (by decide) (ch := (45 : Int32)) ⟨by decide, by decide⟩ e45
      have k45 := kk k35 e45
      obtain ⟨o46, e46, e⟩ := cl_s e
      obtain ⟨S46, A46⟩ := syr S45 (by decide) (ch := (79 : Int32)) ⟨by decide, by decide⟩ e46
      have k46 := kk k45 e46
      exact fin S46 k46 (fw_t F35 (fw_t A45 A46)) (by decide) e
  have kv2 : ¬ mvK v = 2 := fun z => c1 (Int32.toInt_inj.mp (by rw [q9, z2]; exact z))
  rw [if_neg kv2]
  have ml : 0 ≤ mvM v ∧ mvM v < L 2 0 := ⟨G.1.2.1.1, G.2.1.1⟩
  obtain ⟨w, hw, t4, t3, p11, q73, _⟩ := srl S1.2.1
  have nm' : (hI h1 (n + 555) i).toNatClampNeg = (mvM v).toNat := by have := rr.2.2.1; have := nc_i (x := hI h1 (n + 555) i) (by omega); omega
  have lt := OK.2.2.1 (mvM v).toNat (by omega)
  have v73 := q73 (mvM v).toNat
  have t : (hI h1 (n + w + 1) (mvM v).toNat - (32 : Int32)).toInt = lUp L (mvM v) := by
    unfold lUp
    rw [ts (by rw [v73, z32]; omega), v73, z32]
  have tb : Rg 0 127 (hI h1 (n + w + 1) (mvM v).toNat - (32 : Int32)) := by
    unfold lUp at t
    exact ⟨by omega, by omega⟩
  rcases br_s e with ⟨c2, e⟩ | ⟨c2, e⟩
  · have kv : mvK v = 3 := by rw [← q9, c2]; rfl
    rw [if_pos kv]
    replace e := ce_e t4 e
    replace e := ce_e t3 e
    replace e := ce_e eL e
    replace e := ce_e (le_T k1 3 (by decide)) e
    replace e := gg_e e
    replace e := gg_e e
    obtain ⟨o30, e30, e⟩ := cl_s e
    rw [n2] at e30
    have e30 : sX15_say h1 (n + 513) (hI h1 (n + w + 1) (hI h1 (n + 555) i).toNatClampNeg - 32) = some o30 := e30
    rw [nm'] at e30
    obtain ⟨S30, A30⟩ := syr S1 (by decide) tb e30
    have k30 := kk k1 e30
    rw [t] at S30
    obtain ⟨o31, e31, e⟩ := cl_s e
    obtain ⟨S31, A31⟩ := syr S30 (by show 0 + 1 < 256; decide) (ch := (64 : Int32)) ⟨by decide, by decide⟩ e31
    have k31 := kk k30 e31
    rw [z64] at S31
    obtain ⟨o32, e32, e⟩ := cl_s e
    obtain ⟨S32, A32⟩ := sq_r H S31 (by show 0 + 1 + 1 + 2 ≤ 256; decide) q5 G.1.1.1 G.1.1.2 e32
    have k32 : DyK n h o32 := dk_X15_saySquare k31 e32
    exact fin S32 k32 (fw_t f1 (fw_t A30 (fw_t A31 A32))) (by show 4 < 256; decide) e
  have kv3 : ¬ mvK v = 3 := fun z => c2 (Int32.toInt_inj.mp (by rw [q9, z3]; exact z))
  rw [if_neg kv3]
  replace e := ce_e eL e
  replace e := ce_e (le_T k1 3 (by decide)) e
  replace e := gg_e e
  replace e := ce_e t4 e
  unfold mnL
  have asc : ∀ a : List Int, a ++ whT L ms v ++ tkT v ++ sqV L (mvD v) ++ bcT L v = a ++ whT L ms v ++ tkT v ++ (sqV L (mvD v) ++ bcT L v) := fun a => by simp only [List.append_assoc]
  rw [asc]
  rcases br_s e with ⟨c3, e⟩ | ⟨c3, e⟩ <;> rw [n2] at c3
  · have : mvM v = L 11 0 := by rw [← rr.2.2.1, ← p11]; exact congrArg Int32.toInt c3
    rw [if_pos this]
    obtain ⟨eb1, A1⟩ := brd k1 f1
    obtain ⟨q1, q2, q3, q4⟩ := sm_183 OK Oz hp eb1 A1 S1 (by decide) lm Gs ev e2 q5 kv3 e
    exact ⟨q1, fw_t (fw_s f1 (fun _ _ c => Or.inr c)) q2, dk_t k1 q3, q4⟩
  · have : ¬ mvM v = L 11 0 := fun z => c3 (Int32.toInt_inj.mp (by show (hI h1 (n + 555) i).toInt = _; rw [rr.2.2.1, p11]; exact z))
    rw [if_neg this]
    replace e := ce_e t4 e
    replace e := ce_e t3 e
    replace e := ce_e eL e
    replace e := ce_e (le_T k1 3 (by decide)) e
    replace e := gg_e e
    replace e := gg_e e
    obtain ⟨o23, e23, e⟩ := cl_s e
    rw [n2] at e23
    have e23 : sX15_say h1 (n + 513) (hI h1 (n + w + 1) (hI h1 (n + 555) i).toNatClampNeg - 32) = some o23 := e23
    rw [nm'] at e23
    obtain ⟨S23, A23⟩ := syr S1 (by decide) tb e23
    have k23 := kk k1 e23
    rw [t] at S23
    obtain ⟨eb1, A1⟩ := brd k23 (fw_t f1 A23)
    obtain ⟨q1, q2, q3, q4⟩ := sm_183 OK Oz hp eb1 A1 S23 (by show 0 + 1 + 8 ≤ 256; decide) lm Gs ev e2 q5 kv3 e
    exact ⟨q1, fw_t (fw_s (fw_t f1 A23) (fun _ _ c => Or.inr c)) q2, dk_t k23 q3, q4⟩
end
end
section
/-! SAY: the reference, joint -/
section
variable {n j F : Nat} {h : Hp} {σ : Sy} {o o' : Int32 × Hp} {x1 x2 : Int32}
theorem ra_say (k : DyK n h h) (Ok : SyOk σ) (R : RelR n j h σ) (e : sX15_say_ F h (n + 513) x1 x2 = some o) : RaO n j h (sySay σ x1 x2) o (anSay σ x1 x2) := by
  have z0 : (0 : Int32).toInt = 0 := rfl
  have s6 := dk_610 k
  unfold sX15_say_ sX15_say__25 at e
  obtain ⟨o1, e1, e⟩ := cl_s e
  rcases mvs_r k Ok R e1 with ⟨z, y⟩ | ⟨P, z, f, k1, m, y⟩
  · obtain ⟨a1, a2⟩ := say_0 (x2 := x2) z
    rw [y] at e
    rw [a1, a2, so_e (bp_e rfl e)]
    exact rao_0 k R rfl rfl
  replace e := bn_e (ne102 y) e
  have no : mvI σ x1 x2 = none → some ((-102 : Int32), o1.2) = some o → RaO n j h (sySay σ x1 x2) o (anSay σ x1 x2) := fun q e => by
    obtain ⟨a1, a2⟩ := say_n z q
    rw [a1, a2, so_e e]
    exact rao_s k Ok R f k1 rfl
  rcases br_s e with ⟨c1, e⟩ | ⟨c1, e⟩
  · have := lt_i c1
    exact no (mvi_l (by omega)) e
  have c1 := nlt_i c1
  have nc := nc_i (x := x2) (by omega)
  replace e := ce_e (dk_e (a := 513) (f := 30) (b := 552) k1 (by decide +kernel)) e
  have m0 : (hI o1.2 (n + 552) 0).toInt = ((lgL (syL σ) P).length : Int) := m.1
  rcases br_s e with ⟨c2, e⟩ | ⟨c2, e⟩
  rotate_left
  · have := nlt_i c2
    exact no (by rw [mvi_s z (by omega)]; exact List.getElem?_eq_none (by omega)) e
  have c2 := lt_i c2
  obtain ⟨v, ev⟩ : ∃ v, (lgL (syL σ) P)[x2.toNatClampNeg]? = some v := ⟨_, List.getElem?_eq_getElem (by omega)⟩
  have q : mvI σ x1 x2 = some v := by rw [mvi_s z (by omega)]; exact ev
  obtain ⟨a1, a2⟩ := say_s z q
  rw [a1, a2]
  have Oz := spl_ok Ok z
  have H := Ok.1.1
  have K := Ok.1.2.1
  have Gs : ∀ (i : Nat) (w : MvT), (lgL (syL σ) P)[i]? = some w → MvGd (syL σ) P w := fun i w ew => lg_gd H K Oz ew
  obtain ⟨_, _, b3, _⟩ := spl_b z
  have R1 := relr_rs k Ok R f k1
  obtain ⟨b, eb, A⟩ := rpl_p R1.2.1 z
  replace e := ce_e (dk_e (a := 513) (f := 14) (b := 536) k1 (by decide +kernel)) e
  replace e := gg_e e
  replace e := ce_e eb e
  obtain ⟨o9, e9, e⟩ := cl_s e
  have lm : (lgL (syL σ) P).length ≤ 4096 := by
    have := lgl_le H K Oz
    omega
  obtain ⟨S9, F9, k9', _⟩ := sm_x Ok.1 Oz b3 eb A k1 R1.1 m lm Gs ev (by omega) e9
  have FF : FrW (fun a i => RS n a i ∨ (a = n + 513 ∧ i = 3) ∨ a = n + 515) h o9 := fw_t (fw_s f (fun _ _ c => Or.inl c)) (fw_s F9 (fun a i c => by unfold WRt WOr at c; unfold RS; omega))
  rw [so_e e]
  exact ⟨S9.2.2.2.1, relr_o k S9.1 Ok FF (fun a i c _ => c) R ⟨S9.2.2.2.1, S9.2.2.2.2⟩, S9.1, frr_w k FF (fun a i c _ => Or.inl (by unfold RS at c; omega)) (fun a i c z => by unfold RS at c; omega)⟩
theorem ok_say (Ok : SyOk σ) : SyOk (sySay σ x1 x2) := by
  cases z : sPl σ x1 with
  | none => rw [(say_0 z).2]; exact Ok
  | some P =>
    cases q : mvI σ x1 x2 with
    | none => rw [(say_n z q).2]; exact Ok
    | some v => rw [(say_s z q).2]; exact syo_ok Ok
end
end
section
/-! SAY, joint -/
section
variable {n j F : Nat} {h : Hp} {o o' : Int32 × Hp} {x1 x2 : Int32}
theorem jp_say (J : JP n j h) (e : sX11_say F h n x1 x2 = some o) (e' : sX15_say_ F o.2 (n + 513) x1 x2 = some o') : o.1 = o'.1 ∧ JP n j o'.2 := jp_wr (f := fun σ => sySay σ x1 x2) (an := fun σ => anSay σ x1 x2) J (fun σ l => by
  show ∃ l', sySay (syOut σ l) x1 x2 = syOut σ l'
  cases z : sPl (syOut σ l) x1 with
  | none => exact ⟨l, (say_0 z).2⟩
  | some P =>
    cases q : mvI (syOut σ l) x1 x2 with
    | none => exact ⟨l, (say_n z q).2⟩
    | some v => exact ⟨_, (say_s z q).2⟩) (fun _ _ => rfl) (fun _ k Ok R => ca_say k Ok R e) (fun _ k Ok R => ra_say k Ok R e')
end
end
section
/-! texts of different moves differ -/
def CaL (x : Int) : Prop := 65 ≤ x ∧ x ≤ 90
def Dig (x : Int) : Prop := 49 ≤ x ∧ x ≤ 56
def FiL (x : Int) : Prop := 97 ≤ x ∧ x ≤ 104
section
variable {L : Nat → Nat → Int} {P : Pz} {v w : MvT} {ms : List MvT}
theorem lup_c {m : Int} (T : LtO L) (m0 : 0 ≤ m) (mL : m < L 2 0) : CaL (lUp L m) := by
  have := T m.toNat (by omega)
  unfold lUp
  exact ⟨by omega, by omega⟩
theorem lup_i {m q : Int} (D : LtD L) (m0 : 0 ≤ m) (mL : m < L 2 0) (q0 : 0 ≤ q) (qL : q < L 2 0) (e : lUp L m = lUp L q) : m = q := by
  unfold lUp at e
  rcases Nat.lt_trichotomy m.toNat q.toNat with c | c | c
  · exact absurd (show L 73 q.toNat = L 73 m.toNat by omega) (D.1 q.toNat m.toNat (by omega) c)
  · omega
  · exact absurd (show L 73 m.toNat = L 73 q.toNat by omega) (D.1 m.toNat q.toNat (by omega) c)
theorem sq_fd {s : Int} (H : LOk L) (s0 : 0 ≤ s) (sL : s < L 0 0 * L 1 0) : FiL (97 + s % L 0 0) ∧ Dig (49 + s / L 0 0) := by
  have f := H.1
  have r := H.2.1
  have a := Int.emod_nonneg s (show L 0 0 ≠ 0 by omega)
  have b := Int.emod_lt_of_pos s (show 0 < L 0 0 by omega)
  have c : 0 ≤ s / L 0 0 := Int.ediv_nonneg s0 (by omega)
  have d : s / L 0 0 < L 1 0 := Int.ediv_lt_of_lt_mul (by omega) (by rw [Int.mul_comm]; exact sL)
  exact ⟨⟨by omega, by omega⟩, ⟨by omega, by omega⟩⟩
theorem sq_eq {s t : Int} (a : s % L 0 0 = t % L 0 0) (b : s / L 0 0 = t / L 0 0) : s = t := by
  have h1 := Int.mul_ediv_add_emod s (L 0 0)
  have h2 := Int.mul_ediv_add_emod t (L 0 0)
  rw [a, b] at h1
  exact h1.symm.trans h2
theorem flt_m {p : Prop} {c x : Int} (hx : x ∈ flT p c) : x = c := by
  unfold flT at hx
  split at hx
  · exact List.mem_singleton.mp hx
  · exact nomatch hx
theorem wh_m {x : Int} (H : LOk L) (s0 : 0 ≤ mvS v) (sL : mvS v < L 0 0 * L 1 0) (hx : x ∈ whT L ms v) : FiL x ∨ Dig x := by
  unfold whT at hx
  have := sq_fd H s0 sL
  rcases List.mem_append.mp hx with h | h
  · rw [flt_m h]; exact Or.inl this.1
  · rw [flt_m h]; exact Or.inr this.2
theorem mn_m {x : Int} (T : LtO L) (m0 : 0 ≤ mvM v) (mL : mvM v < L 2 0) (hx : x ∈ mnL L v) : CaL x := by
  unfold mnL at hx
  split at hx
  · exact nomatch hx
  · rw [List.mem_singleton.mp hx]; exact lup_c T m0 mL
theorem mnw_m {x : Int} (H : LOk L) (T : LtO L) (m0 : 0 ≤ mvM v) (mL : mvM v < L 2 0) (s0 : 0 ≤ mvS v) (sL : mvS v < L 0 0 * L 1 0) (hx : x ∈ mnL L v ++ whT L ms v) : CaL x ∨ FiL x ∨ Dig x := by
  rcases List.mem_append.mp hx with h | h
  · exact Or.inl (mn_m T m0 mL h)
  · exact Or.inr (wh_m H s0 sL h)
/-- what a good move's parts keep to -/
theorem gd_r (G : MvGd L P v) : (0 ≤ mvM v ∧ mvM v < L 2 0) ∧ (mvB v = -1 ∨ (0 ≤ mvB v ∧ mvB v < L 2 0)) ∧ (0 ≤ mvD v ∧ mvD v < L 0 0 * L 1 0) ∧ (mvK v = 3 ∨ ((mvK v = 0 ∨ mvK v = 1 ∨ mvK v = 2) ∧ 0 ≤ mvS v ∧ mvS v < L 0 0 * L 1 0)) := by
  refine ⟨⟨G.1.2.1.1, G.2.1.1⟩, ?_, G.1.1, ?_⟩
  · rcases G.1.2.2.1 with z | z
    · exact Or.inl z
    · exact Or.inr ⟨z.1, G.2.1.2⟩
  · rcases G.1.2.2.2.1 with z | z
    · exact Or.inl z.1
    · exact Or.inr ⟨z.1, z.2.1⟩
theorem fl_dec {p q p' q' : Prop} {a b a' b' : Int} (fa : FiL a) (fb : Dig b) (fa' : FiL a') (fb' : Dig b') (e : flT p a ++ flT q b = flT p' a' ++ flT q' b') : (p ↔ p') ∧ (q ↔ q') ∧ (p → a = a') ∧ (q → b = b') := by
  unfold FiL at fa fa'
  unfold Dig at fb fb'
  rcases Classical.em p with c1 | c1 <;> rcases Classical.em q with c2 | c2 <;> rcases Classical.em p' with c3 | c3 <;> rcases Classical.em q' with c4 | c4 <;> simp [flt_t, flt_n, c1, c2, c3, c4] at e ⊢ <;> omega
theorem oth_i (H : LOk L) (T : LtO L) (D : LtD L) (G : MvGd L P v) (G' : MvGd L P w) (k : mvK v ≤ 1) (k' : mvK w ≤ 1) (e : mnL L v ++ whT L ms v ++ tkT v ++ sqV L (mvD v) ++ bcT L v = mnL L w ++ whT L ms w ++ tkT w ++ sqV L (mvD w) ++ bcT L w) : mvB v = mvB w ∧ mvD v = mvD w ∧ mvM v = mvM w ∧ whT L ms v = whT L ms w := by
  obtain ⟨gm, gb, gd, gs⟩ := gd_r G
  obtain ⟨gm', gb', gd', gs'⟩ := gd_r G'
  have gs : 0 ≤ mvS v ∧ mvS v < L 0 0 * L 1 0 := by
    rcases gs with z | z
    · omega
    · exact z.2
  have gs' : 0 ≤ mvS w ∧ mvS w < L 0 0 * L 1 0 := by
    rcases gs' with z | z
    · omega
    · exact z.2
  have dv := sq_fd H gd.1 gd.2
  have dw := sq_fd H gd'.1 gd'.2
  have bb : mvB v = mvB w ∧ mnL L v ++ whT L ms v ++ tkT v ++ sqV L (mvD v) = mnL L w ++ whT L ms w ++ tkT w ++ sqV L (mvD w) := by
    unfold bcT at e
    by_cases c : mvB v = -1 <;> by_cases c' : mvB w = -1
    · rw [if_pos c, if_pos c', List.append_nil, List.append_nil] at e
      exact ⟨c.trans c'.symm, e⟩
    · rw [if_pos c, if_neg c', List.append_nil] at e
      have e2 := (List.append_inj' e rfl).2
      have e3 : 97 + mvD v % L 0 0 = 61 := (List.cons.inj e2).1
      have := dv.1.1
      omega
    · rw [if_neg c, if_pos c', List.append_nil] at e
      have e2 := (List.append_inj' e rfl).2
      have e3 : 61 = 97 + mvD w % L 0 0 := (List.cons.inj e2).1
      have := dw.1.1
      omega
    · rw [if_neg c, if_neg c'] at e
      obtain ⟨e1, e2⟩ := List.append_inj' e rfl
      have e3 : lUp L (mvB v) = lUp L (mvB w) := (List.cons.inj (List.cons.inj e2).2).1
      have b1 : 0 ≤ mvB v ∧ mvB v < L 2 0 := gb.resolve_left c
      have b2 : 0 ≤ mvB w ∧ mvB w < L 2 0 := gb'.resolve_left c'
      exact ⟨lup_i D b1.1 b1.2 b2.1 b2.2 e3, e1⟩
  obtain ⟨b1, e⟩ := bb
  obtain ⟨e1, e2⟩ := List.append_inj' e rfl
  have d1 : 97 + mvD v % L 0 0 = 97 + mvD w % L 0 0 := (List.cons.inj e2).1
  have d2 : 49 + mvD v / L 0 0 = 49 + mvD w / L 0 0 := (List.cons.inj (List.cons.inj e2).2).1
  have d3 : mvD v = mvD w := sq_eq (L := L) (by omega) (by omega)
  have tt : mnL L v ++ whT L ms v = mnL L w ++ whT L ms w := by
    unfold tkT at e1
    by_cases c : mvA v = -1 <;> by_cases c' : mvA w = -1
    · rw [if_pos c, if_pos c', List.append_nil, List.append_nil] at e1
      exact e1
    · rw [if_pos c, if_neg c', List.append_nil] at e1
      have := mnw_m (x := 120) (ms := ms) H T gm.1 gm.2 gs.1 gs.2 (by rw [e1]; exact List.mem_append_right _ (List.mem_singleton.mpr rfl))
      unfold CaL FiL Dig at this
      omega
    · rw [if_neg c, if_pos c', List.append_nil] at e1
      have := mnw_m (x := 120) (ms := ms) H T gm'.1 gm'.2 gs'.1 gs'.2 (by rw [← e1]; exact List.mem_append_right _ (List.mem_singleton.mpr rfl))
      unfold CaL FiL Dig at this
      omega
    · rw [if_neg c, if_neg c'] at e1
      exact (List.append_inj' e1 rfl).1
  refine ⟨b1, d3, ?_⟩
  unfold mnL at tt
  by_cases c : mvM v = L 11 0 <;> by_cases c' : mvM w = L 11 0
  · rw [if_pos c, if_pos c', List.nil_append, List.nil_append] at tt
    exact ⟨c.trans c'.symm, tt⟩
  · rw [if_pos c, if_neg c', List.nil_append] at tt
    have := wh_m (x := lUp L (mvM w)) (ms := ms) H gs.1 gs.2 (by rw [tt]; exact List.mem_append_left _ (List.mem_singleton.mpr rfl))
    have q := lup_c T gm'.1 gm'.2
    unfold FiL Dig at this
    unfold CaL at q
    omega
  · rw [if_neg c, if_pos c', List.nil_append] at tt
    have := wh_m (x := lUp L (mvM v)) (ms := ms) H gs'.1 gs'.2 (by rw [← tt]; exact List.mem_append_left _ (List.mem_singleton.mpr rfl))
    have q := lup_c T gm.1 gm.2
    unfold FiL Dig at this
    unfold CaL at q
    omega
  · rw [if_neg c, if_neg c'] at tt
    have := List.cons.inj tt
    exact ⟨lup_i D gm.1 gm.2 gm'.1 gm'.2 this.1, this.2⟩
theorem wh_s (H : LOk L) (sv : 0 ≤ mvS v ∧ mvS v < L 0 0 * L 1 0) (sw : 0 ≤ mvS w ∧ mvS w < L 0 0 * L 1 0) (mw : w ∈ ms) (kw : mvK w ≤ 1) (eM : mvM v = mvM w) (eD : mvD v = mvD w) (e : whT L ms v = whT L ms w) : mvS v = mvS w := by
  apply Classical.byContradiction
  intro ns
  have Rwv : Rv w v := ⟨kw, eM.symm, eD.symm, fun z => ns z.symm⟩
  obtain ⟨iw, ew⟩ := List.mem_iff_getElem?.mp mw
  have av : ∀ {R : MvT → Prop}, R w → AnyI ms v R ms.length := fun r => ⟨iw, w, (List.getElem?_eq_some_iff.mp ew).1, ew, Rwv, r⟩
  have fv := sq_fd H sv.1 sv.2
  have fw := sq_fd H sw.1 sw.2
  have dec := fl_dec fv.1 fv.2 fw.1 fw.2 e
  by_cases sf : mvS w % L 0 0 = mvS v % L 0 0
  · have r1 : WhR L ms v := av (R := SmF L v) sf
    have := dec.2.2.2 r1
    exact ns (sq_eq (L := L) sf.symm (by omega))
  · by_cases fz : WhF L ms v
    · have := dec.2.2.1 fz
      omega
    · have al := av (R := fun _ => True) trivial
      have onF : AnyI ms v (SmF L v) ms.length := Classical.not_not.mp (fun z => fz (Or.inr ⟨al, Or.inl z⟩))
      have := dec.2.2.2 onF
      exact fz (Or.inr ⟨al, Or.inr (av (R := SmQ L v) (show mvS w / L 0 0 = mvS v / L 0 0 by omega))⟩)
theorem bm_2 (k : mvK v = 2) : bmT L ms v = if mvD v ≤ mvS v then [79, 45, 79, 45, 79] else [79, 45, 79] := if_pos k
theorem bm_3 (k : mvK v = 3) : bmT L ms v = [lUp L (mvM v), 64] ++ sqV L (mvD v) := by
  unfold bmT
  rw [if_neg (show ¬ mvK v = 2 by omega), if_pos k]
theorem bm_1 (k : mvK v ≤ 1) : bmT L ms v = mnL L v ++ whT L ms v ++ tkT v ++ sqV L (mvD v) ++ bcT L v := by
  unfold bmT
  rw [if_neg (show ¬ mvK v = 2 by omega), if_neg (show ¬ mvK v = 3 by omega)]
/-- how a text ends -/
theorem bm_end (H : LOk L) (T : LtO L) (G : MvGd L P v) : ∃ y a b, bmT L ms v = y ++ [a, b] ∧ (a = 45 ∨ a = 61 ∨ FiL a) ∧ (Dig b ∨ CaL b) := by
  obtain ⟨gm, gb, gd, gs⟩ := gd_r G
  have dv := sq_fd H gd.1 gd.2
  by_cases k2 : mvK v = 2
  · rw [bm_2 k2]
    split
    · exact ⟨[79, 45, 79], 45, 79, rfl, Or.inl rfl, Or.inr ⟨by decide, by decide⟩⟩
    · exact ⟨[79], 45, 79, rfl, Or.inl rfl, Or.inr ⟨by decide, by decide⟩⟩
  by_cases k3 : mvK v = 3
  · rw [bm_3 k3]
    exact ⟨_, _, _, rfl, Or.inr (Or.inr dv.1), Or.inl dv.2⟩
  have k1 : mvK v ≤ 1 := by
    rcases gs with z | z
    · exact absurd z k3
    · rcases z.1 with z | z | z <;> omega
  rw [bm_1 k1]
  unfold bcT
  by_cases c : mvB v = -1
  · rw [if_pos c, List.append_nil]
    exact ⟨_, _, _, rfl, Or.inr (Or.inr dv.1), Or.inl dv.2⟩
  · rw [if_neg c]
    have b1 : 0 ≤ mvB v ∧ mvB v < L 2 0 := gb.resolve_left c
    exact ⟨_, _, _, rfl, Or.inr (Or.inl rfl), Or.inr (lup_c T b1.1 b1.2)⟩
/-- no text is another and one byte more -/
theorem bm_one (H : LOk L) (T : LtO L) (G : MvGd L P v) (G' : MvGd L P w) {b : Int} (e : bmT L ms w = bmT L ms v ++ [b]) : False := by
  obtain ⟨y, a, c, e1, _, h2⟩ := bm_end (ms := ms) H T G
  obtain ⟨y', a', c', e1', h1', _⟩ := bm_end (ms := ms) H T G'
  rw [e1, e1'] at e
  have q : y' ++ [a', c'] = (y ++ [a]) ++ [c, b] := by
    rw [e]
    simp only [List.append_assoc, List.cons_append, List.nil_append]
  have := (List.cons.inj (List.append_inj' q rfl).2).1
  unfold FiL at h1'
  unfold Dig CaL at h2
  omega
/-- what bytes it has -/
theorem bm_m {x : Int} (H : LOk L) (T : LtO L) (G : MvGd L P v) (hx : x ∈ bmT L ms v) : (x = 45 ∧ mvK v = 2) ∨ (x = 64 ∧ mvK v = 3) ∨ x = 61 ∨ x = 120 ∨ CaL x ∨ FiL x ∨ Dig x := by
  obtain ⟨gm, gb, gd, gs⟩ := gd_r G
  have dv := sq_fd H gd.1 gd.2
  have sqm : ∀ {y : Int}, y ∈ sqV L (mvD v) → FiL y ∨ Dig y := fun {y} hy => by
    rcases List.mem_cons.mp hy with z | z
    · rw [z]; exact Or.inl dv.1
    · rw [List.mem_singleton.mp z]; exact Or.inr dv.2
  by_cases k2 : mvK v = 2
  · rw [bm_2 k2] at hx
    have : x = 79 ∨ x = 45 := by
      split at hx <;> simp at hx <;> omega
    rcases this with z | z
    · rw [z]; exact Or.inr (Or.inr (Or.inr (Or.inr (Or.inl ⟨by decide, by decide⟩))))
    · exact Or.inl ⟨z, k2⟩
  by_cases k3 : mvK v = 3
  · rw [bm_3 k3] at hx
    rcases List.mem_append.mp hx with z | z
    · rcases List.mem_cons.mp z with z | z
      · rw [z]; exact Or.inr (Or.inr (Or.inr (Or.inr (Or.inl (lup_c T gm.1 gm.2)))))
      · exact Or.inr (Or.inl ⟨List.mem_singleton.mp z, k3⟩)
    · exact Or.inr (Or.inr (Or.inr (Or.inr (Or.inr (sqm z)))))
  have k1 : mvK v ≤ 1 ∧ 0 ≤ mvS v ∧ mvS v < L 0 0 * L 1 0 := by
    rcases gs with z | z
    · exact absurd z k3
    · exact ⟨by rcases z.1 with z | z | z <;> omega, z.2⟩
  rw [bm_1 k1.1] at hx
  rcases List.mem_append.mp hx with hx | z
  · rcases List.mem_append.mp hx with hx | z
    · rcases List.mem_append.mp hx with hx | z
      · exact Or.inr (Or.inr (Or.inr (Or.inr (mnw_m H T gm.1 gm.2 k1.2.1 k1.2.2 hx))))
      · unfold tkT at z
        split at z
        · exact nomatch z
        · exact Or.inr (Or.inr (Or.inr (Or.inl (List.mem_singleton.mp z))))
    · exact Or.inr (Or.inr (Or.inr (Or.inr (Or.inr (sqm z)))))
  · unfold bcT at z
    split at z
    · exact nomatch z
    · rename_i c
      have b1 : 0 ≤ mvB v ∧ mvB v < L 2 0 := gb.resolve_left c
      rcases List.mem_cons.mp z with z | z
      · exact Or.inr (Or.inr (Or.inl z))
      · rw [List.mem_singleton.mp z]; exact Or.inr (Or.inr (Or.inr (Or.inr (Or.inl (lup_c T b1.1 b1.2)))))
theorem bm_45 (H : LOk L) (T : LtO L) (G : MvGd L P v) : 45 ∈ bmT L ms v ↔ mvK v = 2 := by
  constructor
  · intro hx
    have := bm_m H T G hx
    unfold CaL FiL Dig at this
    omega
  · intro k
    rw [bm_2 k]
    split <;> simp
theorem bm_64 (H : LOk L) (T : LtO L) (G : MvGd L P v) : 64 ∈ bmT L ms v ↔ mvK v = 3 := by
  constructor
  · intro hx
    have := bm_m H T G hx
    unfold CaL FiL Dig at this
    omega
  · intro k
    rw [bm_3 k]
    exact List.mem_append_left _ (List.mem_cons_of_mem _ (List.mem_singleton.mpr rfl))
theorem mvl_j {M : Nat → Int} {p0 m s t j : Nat} {sd k : Int} {b : Bool} (hv : v ∈ mvL L M p0 sd m s t j k b) : v = ((s : Int), (t : Int), (m : Int), mvB v, tkV M p0 t b, (if b = true then 1 else 0), (if fbt (L 75 j) 4 = true ∧ 1 < k then k else 0)) := by
  unfold mvL at hv
  split at hv
  · obtain ⟨q, _, e⟩ := List.mem_map.mp hv
    rw [← e]
  · rw [List.mem_singleton.mp hv]
theorem bm_inj (H : LOk L) (K : LawK L) (T : LtO L) (D : LtD L) (Oz : PzOk L P) (hv : v ∈ moP L P) (hw : w ∈ moP L P) (mw : w ∈ ms) (e : bmT L ms v = bmT L ms w) : v = w := by
  have G := mo_g H K Oz hv
  have G' := mo_g H K Oz hw
  obtain ⟨gm, gb, gd, gs⟩ := gd_r G
  obtain ⟨gm', gb', gd', gs'⟩ := gd_r G'
  have q2 : mvK v = 2 ↔ mvK w = 2 := by rw [← bm_45 (ms := ms) H T G, ← bm_45 (ms := ms) H T G', e]
  have q3 : mvK v = 3 ↔ mvK w = 3 := by rw [← bm_64 (ms := ms) H T G, ← bm_64 (ms := ms) H T G', e]
  rcases mo_i H hv with ⟨s, t, q, _, _, _, _, el, mv⟩ | ⟨s, p, d, s64, dd, _, _, ev, cs⟩ | ⟨t, m, _, _, ev, _⟩
  · have iv := mvl_j mv
    have kv : mvK v ≤ 1 := by
      have : mvK v = (if (prB' (ByT L (ovP P) true q.1 t)) = true then 1 else 0) := congrArg (fun u : MvT => u.2.2.2.2.2.1) iv
      rw [this]; split <;> decide
    have kw : mvK w ≤ 1 := by
      rcases gs' with z | z
      · have := q3.mpr z; omega
      · rcases z.1 with z | z | z
        · omega
        · omega
        · have := q2.mpr z; omega
    rw [bm_1 kv, bm_1 kw] at e
    obtain ⟨eB, eD, eM, eW⟩ := oth_i H T D G G' kv kw e
    have sv : 0 ≤ mvS v ∧ mvS v < L 0 0 * L 1 0 := by
      rcases gs with z | z
      · omega
      · exact z.2
    have sw : 0 ≤ mvS w ∧ mvS w < L 0 0 * L 1 0 := by
      rcases gs' with z | z
      · omega
      · exact z.2
    have eS := wh_s H sv sw mw kw eM eD eW
    rcases mo_i H hw with ⟨s', t', q', _, _, _, _, el', mv'⟩ | ⟨s', p, d, _, _, _, _, ev, _⟩ | ⟨t', m, _, _, ev, _⟩
    · have iw := mvl_j mv'
      have a1 : mvS v = (s : Int) := congrArg (fun u : MvT => u.1) iv
      have a2 : mvD v = (t : Int) := congrArg (fun u : MvT => u.2.1) iv
      have b1 : mvS w = (s' : Int) := congrArg (fun u : MvT => u.1) iw
      have b2 : mvD w = (t' : Int) := congrArg (fun u : MvT => u.2.1) iw
      have ss : s' = s := by omega
      have tt : t' = t := by omega
      subst ss
      subst tt
      rw [el] at el'
      have qq := Option.some.inj el'
      subst qq
      rw [iv, iw, eB]
    · have : mvK w = 2 := by rw [ev]; rfl
      omega
    · have : mvK w = 3 := by rw [ev]
      omega
  · have kv : mvK v = 2 := by rw [ev]; rfl
    have kw := q2.mp kv
    rcases mo_i H hw with ⟨s', t', q', _, _, _, _, el', mv'⟩ | ⟨s', p', d', s64', dd', _, _, ev', cs'⟩ | ⟨t', m, _, _, ev', _⟩
    · have iw := mvl_j mv'
      have : mvK w = (if (prB' (ByT L (ovP P) true q'.1 t')) = true then 1 else 0) := congrArg (fun u : MvT => u.2.2.2.2.2.1) iw
      split at this <;> omega
    · have m1 : P.1 (mvS v).toNat = cdV (mvM v) (pzS P) := by
        rcases G.1.2.2.2.1 with z | z
        · have z1 : mvK v = 3 := z.1
          omega
        · exact z.2.2
      have m2 : P.1 (mvS w).toNat = cdV (mvM w) (pzS P) := by
        rcases G'.1.2.2.2.1 with z | z
        · have z1 : mvK w = 3 := z.1
          omega
        · exact z.2.2
      have r1 : mvM v = L 10 0 := (G.2.2.2.2.2.1 kv).2.2.1
      have r2 : mvM w = L 10 0 := (G'.2.2.2.2.2.1 kw).2.2.1
      have a1 : mvS v = (s : Int) := by rw [ev]; rfl
      have b1 : mvS w = (s' : Int) := by rw [ev']; rfl
      have a2 : mvD v = (s : Int) + 2 * d := by rw [ev]; rfl
      have b2 : mvD w = (s' : Int) + 2 * d' := by rw [ev']; rfl
      rw [a1, r1] at m1
      rw [b1, r2] at m2
      unfold cdV at m1 m2
      have ss : s = s' := Oz.2.1 (by omega) (pzS P) s s' Oz.2.2.1 s64 s64' m1 m2
      rw [bm_2 kv, bm_2 kw] at e
      have ds : d = d' := by
        rcases dd with z | z <;> rcases dd' with z' | z'
        · omega
        · rw [if_neg (show ¬ mvD v ≤ mvS v by omega), if_pos (show mvD w ≤ mvS w by omega)] at e
          exact absurd e (by decide)
        · rw [if_pos (show mvD v ≤ mvS v by omega), if_neg (show ¬ mvD w ≤ mvS w by omega)] at e
          exact absurd e (by decide)
        · omega
      subst ss
      subst ds
      have pp := nrm_u cs.1 cs'.1
      rw [ev, ev', pp]
    · have : mvK w = 3 := by rw [ev']
      omega
  · have kv : mvK v = 3 := by rw [ev]
    have kw := q3.mp kv
    rcases mo_i H hw with ⟨s', t', q', _, _, _, _, el', mv'⟩ | ⟨s', p', d', s64', dd', _, _, ev', cs'⟩ | ⟨t', m', _, _, ev', _⟩
    · have iw := mvl_j mv'
      have : mvK w = (if (prB' (ByT L (ovP P) true q'.1 t')) = true then 1 else 0) := congrArg (fun u : MvT => u.2.2.2.2.2.1) iw
      split at this <;> omega
    · have : mvK w = 2 := by rw [ev']; rfl
      omega
    · rw [bm_3 kv, bm_3 kw] at e
      have e1 := List.append_inj e rfl
      have l1 : lUp L (mvM v) = lUp L (mvM w) := (List.cons.inj e1.1).1
      have d1 : 97 + mvD v % L 0 0 = 97 + mvD w % L 0 0 := (List.cons.inj e1.2).1
      have d2 : 49 + mvD v / L 0 0 = 49 + mvD w / L 0 0 := (List.cons.inj (List.cons.inj e1.2).2).1
      have eD : mvD v = mvD w := sq_eq (L := L) (by omega) (by omega)
      have eM := lup_i D gm.1 gm.2 gm'.1 gm'.2 l1
      have a1 : mvM v = (m : Int) := by rw [ev]
      have b1 : mvM w = (m' : Int) := by rw [ev']
      have a2 : mvD v = (t : Int) := by rw [ev]
      have b2 : mvD w = (t' : Int) := by rw [ev']
      have mm : m = m' := by omega
      have tt : t = t' := by omega
      rw [ev, ev', mm, tt]
end
end
section
/-! HEAR: pure; the class finds a text -/
def HtP (L : Nat → Nat → Int) (P : Pz) (tp : List Int) (v : MvT) : Prop := tp = bmT L (lgL L P) v ∨ tp = bmT L (lgL L P) v ++ mkT (mkV L P v)
def HrS (L : Nat → Nat → Int) (P : Pz) (tp : List Int) (x : Int) : Prop := (x = -1 ∧ ∀ (i : Nat) (v : MvT), (lgL L P)[i]? = some v → ¬ HtP L P tp v) ∨ ∃ (i : Nat) (v : MvT), x = (i : Int) ∧ (lgL L P)[i]? = some v ∧ HtP L P tp v ∧ ∀ (j : Nat) (u : MvT), j < i → (lgL L P)[j]? = some u → ¬ HtP L P tp u
noncomputable def hrV (L : Nat → Nat → Int) (P : Pz) (tp : List Int) : Int := @dite _ (∃ x, HrS L P tp x) (Classical.propDecidable _) (fun h => Classical.choose h) (fun _ => 0)
noncomputable def anHer (σ : Sy) (x1 : Int32) (tp : List Int) : Int := match sPl σ x1 with
  | none => -102
  | some P => hrV (syL σ) P tp
def Qp (l tp : List Int) : Prop := (tp.length = l.length ∨ tp.length = l.length + 1) ∧ ∀ i, i < l.length → l[i]? = tp[i]?
section
variable {L : Nat → Nat → Int} {P : Pz} {tp l : List Int} {x y : Int}
theorem hrs_u (a : HrS L P tp x) (b : HrS L P tp y) : x = y := by
  rcases a with ⟨a1, a2⟩ | ⟨i, v, a1, a2, a3, a4⟩ <;> rcases b with ⟨b1, b2⟩ | ⟨i', v', b1, b2, b3, b4⟩
  · rw [a1, b1]
  · exact absurd b3 (a2 _ _ b2)
  · exact absurd a3 (b2 _ _ a2)
  · rcases Nat.lt_trichotomy i i' with c | c | c
    · exact absurd a3 (b4 _ _ c a2)
    · rw [a1, b1, c]
    · exact absurd b3 (a4 _ _ c b2)
theorem hrv_e (a : HrS L P tp x) : hrV L P tp = x := by
  have ex : ∃ x, HrS L P tp x := ⟨x, a⟩
  have e : hrV L P tp = Classical.choose ex := by
    unfold hrV
    exact @dif_pos _ (Classical.propDecidable _) ex _ _ _
  rw [e]
  exact hrs_u (Classical.choose_spec ex) a
theorem qp_0 (q : Qp l tp) (z : tp.length = l.length) : tp = l := by
  apply List.ext_getElem?
  intro i
  by_cases c : i < l.length
  · exact (q.2 i c).symm
  · rw [List.getElem?_eq_none (by omega), List.getElem?_eq_none (by omega)]
theorem qp_1 (q : Qp l tp) (z : tp.length = l.length + 1) (e : tp[l.length]? = some x) : tp = l ++ [x] := by
  apply List.ext_getElem?
  intro i
  by_cases c : i < l.length
  · rw [List.getElem?_append_left c]
    exact (q.2 i c).symm
  · by_cases d : i = l.length
    · rw [d, e, List.getElem?_append_right (Nat.le_refl _), Nat.sub_self]
      rfl
    · rw [List.getElem?_eq_none (by omega), List.getElem?_eq_none (by rw [List.length_append]; show l.length + 1 ≤ i; omega)]
theorem qp_ap {t : List Int} (tl : t.length ≤ 1) : Qp l (l ++ t) := ⟨by rw [List.length_append]; omega, fun i hi => by rw [List.getElem?_append_left hi]⟩
theorem mkt_l {m : Int} : (mkT m).length ≤ 1 := by
  unfold mkT
  split
  · exact Nat.zero_le _
  · exact Nat.le_refl _
theorem htp_q {v : MvT} (t : HtP L P tp v) : Qp (bmT L (lgL L P) v) tp := by
  rcases t with e | e
  · rw [e]
    have := qp_ap (l := bmT L (lgL L P) v) (t := []) (Nat.zero_le _)
    rw [List.append_nil] at this
    exact this
  · rw [e]
    exact qp_ap mkt_l
/-- what the class finds is the one -/
theorem cls_n (n : ∀ (j : Nat) (u : MvT), (lgL L P)[j]? = some u → ¬ Qp (bmT L (lgL L P) u) tp) : HrS L P tp (-1) := Or.inl ⟨rfl, fun i v e t => n i v e (htp_q t)⟩
theorem cls_w {i : Nat} {v : MvT} (e : (lgL L P)[i]? = some v) (q : Qp (bmT L (lgL L P) v) tp) (z : tp.length = (bmT L (lgL L P) v).length) (n : ∀ (j : Nat) (u : MvT), j < i → (lgL L P)[j]? = some u → ¬ Qp (bmT L (lgL L P) u) tp) : HrS L P tp (i : Int) := Or.inr ⟨i, v, rfl, e, Or.inl (qp_0 q z), fun j u hj eu t => n j u hj eu (htp_q t)⟩
theorem cls_y {i : Nat} {v : MvT} (e : (lgL L P)[i]? = some v) (q : Qp (bmT L (lgL L P) v) tp) (z : tp.length = (bmT L (lgL L P) v).length + 1) (ex : tp[(bmT L (lgL L P) v).length]? = some x) (xm : x = mkV L P v) (x0 : 0 ≤ x) (n : ∀ (j : Nat) (u : MvT), j < i → (lgL L P)[j]? = some u → ¬ Qp (bmT L (lgL L P) u) tp) : HrS L P tp (i : Int) := by
  refine Or.inr ⟨i, v, rfl, e, Or.inr ?_, fun j u hj eu t => n j u hj eu (htp_q t)⟩
  rw [qp_1 q z ex]
  have nm1 : ¬ mkV L P v = -1 := by omega
  have : mkT (mkV L P v) = [mkV L P v] := if_neg nm1
  rw [this, xm]
theorem cls_x {i : Nat} {v : MvT} (H : LOk L) (K : LawK L) (T : LtO L) (D : LtD L) (Oz : PzOk L P) (e : (lgL L P)[i]? = some v) (q : Qp (bmT L (lgL L P) v) tp) (z : tp.length = (bmT L (lgL L P) v).length + 1) (ex : tp[(bmT L (lgL L P) v).length]? = some x) (xm : ¬ x = mkV L P v) (n : ∀ (j : Nat) (u : MvT), j < i → (lgL L P)[j]? = some u → ¬ Qp (bmT L (lgL L P) u) tp) : HrS L P tp (-1) := by
  have mv : v ∈ lgL L P := List.mem_of_getElem? e
  have te := qp_1 q z ex
  refine Or.inl ⟨rfl, fun j u eu t => ?_⟩
  have mu : u ∈ lgL L P := List.mem_of_getElem? eu
  have Gv := mo_g H K Oz (lg_mo mv)
  have Gu := mo_g H K Oz (lg_mo mu)
  have no : ¬ tp = bmT L (lgL L P) u := fun c => bm_one (ms := lgL L P) H T Gv Gu (c.symm.trans te)
  rcases t with c | c
  · exact no c
  · by_cases m : mkV L P u = -1
    · have : mkT (mkV L P u) = [] := if_pos m
      rw [this, List.append_nil] at c
      exact no c
    · have : mkT (mkV L P u) = [mkV L P u] := if_neg m
      rw [this] at c
      have c2 := List.append_inj' (c.symm.trans te) rfl
      have uv := bm_inj H K T D Oz (lg_mo mu) (lg_mo mv) mv c2.1
      have xx : mkV L P u = x := (List.cons.inj c2.2).1
      rw [uv] at xx
      exact xm xx.symm
end
def TpC (n : Nat) (h : Hp) (tp : List Int) : Prop := (hI h (n + 1) 1).toInt = (tp.length : Int) ∧ ∀ i, i < tp.length → tp[i]? = some (hI h (n + 2) i).toInt
def FiR (n : Nat) (g : Hp) (L : Nat → Nat → Int) (ms : List MvT) (tp : List Int) (o : Int32 × Hp) : Prop := FrW (WTx n 46) g o.2 ∧ DyK n g o.2 ∧ ClL n o.2 L ∧ ClM n o.2 (n + 147) ms ∧ ((o.1 = (-1 : Int32) ∧ ∀ (j : Nat) (u : MvT), ms[j]? = some u → ¬ Qp (bmT L ms u) tp) ∨ ∃ (i : Nat) (v : MvT), o.1.toInt = (i : Int) ∧ ms[i]? = some v ∧ Qp (bmT L ms v) tp ∧ (hI o.2 (n + 46) 1).toInt = ((bmT L ms v).length : Int) ∧ ∀ (j : Nat) (u : MvT), j < i → ms[j]? = some u → ¬ Qp (bmT L ms u) tp)
section
variable {n F : Nat} {g h : Hp} {L : Nat → Nat → Int} {ms : List MvT} {tp l : List Int} {o : Int32 × Hp} {x1 x2 : Int32} {P : Pz}
theorem byt_x {T i : Nat} {x : Int32} (ed : hR h (n + T) 0 = some (n + T + 1)) (ln : (hI h (n + T) 1).toInt = (l.length : Int)) (ce : ∀ i, i < l.length → l[i]? = some (hI h (n + T + 1) i).toInt) (ex : x.toInt = (i : Int)) (hi : i < l.length) (e : sX9_byteAt h (n + T) x = some o) : o.2 = h ∧ l[i]? = some o.1.toInt := by
  have z0 : (0 : Int32).toInt = 0 := rfl
  unfold sX9_byteAt sX9_byteAt_22 at e
  replace e := bn_e (fun z => by have := lt_i z; omega) e
  replace e := bn_e (fun z => by have := le_i z; omega) e
  replace e := ce_e ed e
  replace e := gg_e e
  rw [so_e e]
  have nc : x.toNatClampNeg = i := by have := nc_i (x := x) (by omega); omega
  exact ⟨rfl, by rw [nc]; exact ce i hi⟩
theorem bg_x (k : DyK n g h) (d1 : (hI h (n + 46) 1).toInt = (l.length : Int)) (d2 : ∀ i, i < l.length → l[i]? = some (hI h (n + 46 + 1) i).toInt) (Tp : TpC n h tp) (l16 : l.length ≤ 16) (le : l.length ≤ tp.length) : ∀ (f : Nat) {x2 : Int32} {i : Nat}, x2.toInt = (i : Int) → i ≤ l.length → (∀ q, q < i → l[q]? = tp[q]?) → sX8_begins_2 F f h (n + 39) (n + 1) x2 = some o → o.2 = h ∧ ((o.1 = 1 ∧ ∀ q, q < l.length → l[q]? = tp[q]?) ∨ (o.1 = 0 ∧ ¬ ∀ q, q < l.length → l[q]? = tp[q]?)) := by
  have z1 : (1 : Int32).toInt = 1 := rfl
  intro f
  induction f with
  | zero => intro x2 i _ _ _ e; exact absurd e (by rw [sX8_begins_2]; exact fun z => nomatch z)
  | succ f ih =>
    intro x2 i e2 il pr e
    rw [sX8_begins_2] at e
    have ed := dk_e (a := 39) (f := 3) (b := 46) k (by decide +kernel)
    replace e := ce_e ed e
    rcases br_s e with ⟨c, e⟩ | ⟨c, e⟩
    · have c := le_i c
      rw [so_e e]
      exact ⟨rfl, Or.inl ⟨rfl, fun q hq => pr q (by omega)⟩⟩
    · have c := nle_i c
      have il' : i < l.length := by omega
      replace e := ce_e ed e
      obtain ⟨o4, e4, e⟩ := cl_s e
      obtain ⟨p4, q4⟩ := byt_x (T := 46) (dk_e (a := 46) (f := 0) (b := 47) k (by decide +kernel)) d1 d2 e2 il' e4
      rw [p4] at e
      obtain ⟨o5, e5, e⟩ := cl_s e
      obtain ⟨p5, q5⟩ := byt_x (T := 1) (l := tp) (dk_e (a := 1) (f := 0) (b := 2) k (by decide +kernel)) Tp.1 Tp.2 e2 (by omega) e5
      rw [p5] at e
      rcases br_s e with ⟨c1, e⟩ | ⟨c1, e⟩
      · obtain ⟨v7, w7, e⟩ := nm_s e
        have e7 : v7.toInt = ((i + 1 : Nat) : Int) := by rw [w7, ta (by rw [z1]; omega), z1]; omega
        refine ih e7 (by omega) (fun q hq => ?_) e
        by_cases y : q = i
        · rw [y, q4, q5, c1]
        · exact pr q (by omega)
      · rw [so_e e]
        refine ⟨rfl, Or.inr ⟨rfl, fun z => c1 (Int32.toInt_inj.mp ?_)⟩⟩
        have := z i il'
        rw [q4, q5] at this
        exact Option.some.inj this
theorem fi_x (H : LOk L) (LT : LtO L) (Gs : ∀ (i : Nat) (w : MvT), ms[i]? = some w → MvGd L P w) (lm : ms.length ≤ 4096) (kg : DyK n g g) (Tp : TpC n g tp) (t12 : tp.length ≤ 1200) (e2 : x2.toInt = (ms.length : Int)) : ∀ (f : Nat) {h : Hp} {x4 : Int32} {i : Nat}, DyK n g h → ClL n h L → ClM n h (n + 147) ms → FrW (WTx n 46) g h → x4.toInt = (i : Int) → i ≤ ms.length → (∀ (j : Nat) (u : MvT), j < i → ms[j]? = some u → ¬ Qp (bmT L ms u) tp) → sX8_find_3 F f h (n + 39) (n + 147) x2 (n + 1) x4 = some o → FiR n g L ms tp o := by
  have z1 : (1 : Int32).toInt = 1 := rfl
  have z0 : (0 : Int32).toInt = 0 := rfl
  intro f
  induction f with
  | zero => intro h x4 i _ _ _ _ _ _ _ e; exact absurd e (by rw [sX8_find_3]; exact fun z => nomatch z)
  | succ f ih =>
    intro h x4 i k C M Fr e4 im pr e
    rw [sX8_find_3] at e
    unfold sX9_clear at e
    rcases br_s e with ⟨c, e⟩ | ⟨c, e⟩
    · have c := le_i c
      rw [so_e e]
      exact ⟨Fr, k, C, M, Or.inl ⟨rfl, fun j u eu => pr j u (by have := (List.getElem?_eq_some_iff.mp eu).1; omega) eu⟩⟩
    have c := nle_i c
    have im' : i < ms.length := by omega
    obtain ⟨v, ev⟩ : ∃ v, ms[i]? = some v := ⟨_, List.getElem?_eq_getElem im'⟩
    have s6 := dk_610 k
    replace e := ce_e (dk_e (a := 39) (f := 3) (b := 46) k (by decide +kernel)) e
    obtain ⟨h3, e3, e⟩ := cl_s e
    have y3 := so_e (nx_e e3)
    have k3 : DyK n g h3 := by rw [y3]; exact dk_wI k
    have k3' : DyK n h h3 := by rw [y3]; exact dk_wI (dk_self k)
    have f3 : FrW (WTx n 46) h h3 := by rw [y3]; exact fw_wI fw_0 (Or.inl rfl)
    have S3 : SpT n 46 g h3 L ms [] := ⟨k3, cll_f k k3' (fun j i hj => f3.2 _ _ (by omega) (fun c => by unfold WTx at c; omega)) C, fun i hi => by
      rw [(f3.2 (n + 147) i (by omega) (fun c => by unfold WTx at c; omega)).1]
      exact M i hi, by rw [y3, rI_s]; rfl, fun i hi => absurd hi (Nat.not_lt_zero _)⟩
    replace e := ce_e (dk_e (a := 39) (f := 3) (b := 46) k3 (by decide +kernel)) e
    obtain ⟨o5, e5, e⟩ := cl_s e
    obtain ⟨S5, A5⟩ := wm_x H LT (T := 46) (c := 16) (Or.inr ⟨rfl, rfl⟩) Gs ev e2 e4 lm S3 e5
    have k5 := S5.1
    have F5 : FrW (WTx n 46) g o5 := fw_t Fr (fw_t f3 A5)
    have s0 := dk_610 kg
    have Tp5 : TpC n o5 tp := ⟨by rw [(F5.2 (n + 1) 1 (by omega) (fun c => by unfold WTx at c; omega)).1]; exact Tp.1, fun i hi => by rw [(F5.2 (n + 2) i (by omega) (fun c => by unfold WTx at c; omega)).1]; exact Tp.2 i hi⟩
    have b8 := bm_len (L := L) (ms := ms) (v := v)
    replace e := ce_e (dk_e (a := 39) (f := 3) (b := 46) k5 (by decide +kernel)) e
    obtain ⟨v7, w7, e⟩ := nm_s e
    have d1 : (hI o5 (n + 46) 1).toInt = ((bmT L ms v).length : Int) := S5.2.2.2.1
    have t1 := Tp5.1
    have e7 : v7.toInt = (tp.length : Int) - ((bmT L ms v).length : Int) := by
      rw [w7, ts (by rw [t1, d1]; omega), t1, d1]
    have nxt : ¬ Qp (bmT L ms v) tp → ∀ {u : Hp}, u = o5 → sX8_find_64 F (sX8_find_3 F f) u (n + 39) (n + 147) x2 (n + 1) x4 = some o → FiR n g L ms tp o := fun nq {u} hu e => by
      unfold sX8_find_64 at e
      obtain ⟨v1, w1, e⟩ := nm_s e
      have e1 : v1.toInt = ((i + 1 : Nat) : Int) := by rw [w1, ta (by rw [z1]; omega), z1]; omega
      rw [hu] at e
      exact ih k5 S5.2.1 S5.2.2.1 F5 e1 (by omega) (fun j u hj eu => by
        by_cases y : j = i
        · rw [y, ev] at eu
          rw [← Option.some.inj eu]
          exact nq
        · exact pr j u (by omega) eu) e
    have try' : (tp.length = (bmT L ms v).length ∨ tp.length = (bmT L ms v).length + 1) → sX8_find_53 F (sX8_find_3 F f) o5 (n + 39) (n + 147) x2 (n + 1) x4 = some o → FiR n g L ms tp o := fun ll e => by
      unfold sX8_find_53 sX8_begins at e
      obtain ⟨o8, e8, e⟩ := cl_s e
      obtain ⟨p8, q8⟩ := bg_x k5 d1 S5.2.2.2.2 Tp5 (by omega) (by omega) F (i := 0) rfl (Nat.zero_le _) (fun q hq => absurd hq (Nat.not_lt_zero _)) e8
      rcases br_s e with ⟨c2, e⟩ | ⟨c2, e⟩
      · refine nxt (fun q => ?_) p8 e
        rcases q8 with ⟨z, _⟩ | ⟨_, z⟩
        · rw [c2] at z; exact absurd z (by decide)
        · exact z q.2
      · rw [so_e e]
        have yes : ∀ q, q < (bmT L ms v).length → (bmT L ms v)[q]? = tp[q]? := by
          rcases q8 with ⟨_, z⟩ | ⟨z, _⟩
          · exact z
          · exact absurd z c2
        unfold FiR
        dsimp only
        rw [p8]
        exact ⟨F5, k5, S5.2.1, S5.2.2.1, Or.inr ⟨i, v, e4, ev, ⟨ll, yes⟩, d1, pr⟩⟩
    rcases br_s e with ⟨c3, e⟩ | ⟨c3, e⟩
    · have : v7.toInt = 0 := by rw [c3]; rfl
      exact try' (Or.inl (by omega)) e
    rcases br_s e with ⟨c4, e⟩ | ⟨c4, e⟩
    · have : v7.toInt = 1 := by rw [c4]; rfl
      exact try' (Or.inr (by omega)) e
    · refine nxt (fun q => ?_) rfl e
      have n0 : ¬ v7.toInt = 0 := fun z => c3 (Int32.toInt_inj.mp (by rw [z0]; exact z))
      have n1 : ¬ v7.toInt = 1 := fun z => c4 (Int32.toInt_inj.mp (by rw [z1]; exact z))
      rcases q.1 with z | z <;> omega
end
end
