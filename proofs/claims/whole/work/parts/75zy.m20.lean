section
/-! blast and make keep men of the law -/
section
variable {ρ : Nat → Nat} {c : Cm} {h o g : Hp} {x0 p L F : Nat} {n m : Int} {x1 x2 x3 : Int32}
theorem has_h {a : Nat} {o : Int32 × Hp} (e : sX1_has h a x1 = some o) : o.2 = h := by
  unfold sX1_has sX1_has_14 at e
  replace e := br_s e
  rcases e with ⟨_, e⟩ | ⟨_, e⟩
  · rw [← Option.some.inj (gd_s e).2]
  · rw [← Option.some.inj (gd_s e).2]
theorem tkn_h {o : Int32 × Hp} (e : sX5_takenBy h x1 = some o) : o.2 = h := by
  unfold sX5_takenBy sX5_takenBy_19 at e
  simp only [nm] at e
  replace e := br_s e
  rcases e with ⟨_, e⟩ | ⟨_, e⟩
  · rw [← Option.some.inj e]
  · rw [← Option.some.inj e]
theorem occ_h {o : Int64 × Hp} (e : sX3_occupied h p = some o) : o.2 = h := by
  unfold sX3_occupied at e
  replace e := cl_s e
  obtain ⟨_, _, e⟩ := e
  replace e := (gd_s e).2
  replace e := cl_s e
  obtain ⟨_, _, e⟩ := e
  replace e := (gd_s e).2
  rw [← Option.some.inj e]
theorem low_h {x : Int64} {o : Int32 × Hp} (e : sX11_lowest h x = some o) : o.2 = h := by
  unfold sX11_lowest at e
  rw [← Option.some.inj (gd_s e).2]
theorem off_x (P : PR ρ p h) (e : sX3_put h p x1 (-1 : Int32) x3 = some o) : PxC ρ n m h o ∧ Sd5 ρ h o := put_x P (rg_m (rg_b rfl : Rg (-1) (-1) (-1 : Int32)) (by decide)) (fun z => absurd z (by decide)) e
theorem bl_58 : ∀ (f : Nat) {h o : Hp} {x4 : Int64} {x6 : Int32}, PR ρ p h → sX5_blast_58 F f h x0 p x4 x6 = some o → PxC ρ n m h o ∧ Sd5 ρ h o := by
  intro f
  induction f with
  | zero => intro h o x4 x6 _ e; exact absurd e (by rw [sX5_blast_58]; exact fun z => nomatch z)
  | succ f ih =>
    intro h o x4 x6 P e
    rw [sX5_blast_58] at e
    unfold sX5_blast_130 sX5_blast_124 at e
    simp only [nm] at e
    replace e := br_s e
    rcases e with ⟨_, e⟩ | ⟨_, e⟩
    · rw [← Option.some.inj e]; exact ⟨px_0, fun _ _ => rfl⟩
    replace e := br_s e
    rcases e with ⟨_, e⟩ | ⟨_, e⟩
    · rw [← Option.some.inj e]; exact ⟨px_0, fun _ _ => rfl⟩
    replace e := cl_s e
    obtain ⟨o3, e3, e⟩ := e
    rw [low_h e3] at e
    replace e := cl_s e
    obtain ⟨_, _, e⟩ := e
    replace e := cl_s e
    obtain ⟨_, _, e⟩ := e
    replace e := (gd_s e).2
    replace e := br_s e
    rcases e with ⟨_, e⟩ | ⟨_, e⟩
    · replace e := cl_s e
      obtain ⟨_, _, e⟩ := e
      replace e := cl_s e
      obtain ⟨o10, e10, e⟩ := e
      obtain ⟨k1, s1⟩ := off_x (n := n) (m := m) P e10
      obtain ⟨k2, s2⟩ := ih (pr_k k1.1 P) e
      exact ⟨px_t k1 k2, sd_t s1 s2⟩
    · exact ih P e
theorem blast_x (P : PR ρ p h) (e : sX5_blast F h x0 p x2 = some o) : PxC ρ n m h o ∧ Sd5 ρ h o := by
  unfold sX5_blast sX5_blast_20 at e
  simp only [nm] at e
  replace e := cl_s e
  obtain ⟨_, _, e⟩ := e
  replace e := cl_s e
  obtain ⟨o2, e2, e⟩ := e
  rw [has_h e2] at e
  replace e := br_s e
  rcases e with ⟨_, e⟩ | ⟨_, e⟩
  · rw [← Option.some.inj e]; exact ⟨px_0, fun _ _ => rfl⟩
  replace e := cl_s e
  obtain ⟨o4, e4, e⟩ := e
  rw [tkn_h e4] at e
  replace e := br_s e
  rcases e with ⟨_, e⟩ | ⟨_, e⟩
  · rw [← Option.some.inj e]; exact ⟨px_0, fun _ _ => rfl⟩
  replace e := cl_s e
  obtain ⟨o6, e6, e⟩ := e
  have q6 : o6.2 = h := by unfold sX5_comeTo at e6; rw [← Option.some.inj e6]
  rw [q6] at e
  replace e := cl_s e
  obtain ⟨_, _, e⟩ := e
  replace e := cl_s e
  obtain ⟨o8, e8, e⟩ := e
  obtain ⟨k1, s1⟩ := off_x (n := n) (m := m) P e8
  replace e := cl_s e
  obtain ⟨_, _, e⟩ := e
  replace e := cl_s e
  obtain ⟨_, _, e⟩ := e
  replace e := (gd_s e).2
  replace e := cl_s e
  obtain ⟨o12, e12, e⟩ := e
  rw [occ_h e12] at e
  obtain ⟨k2, s2⟩ := bl_58 F (pr_k k1.1 P) e
  exact ⟨px_t k1 k2, sd_t s1 s2⟩
theorem hit_133 {K : Hp → Nat → Nat → Int32 → Int64 → Int64 → Int32 → Option (Int32 × Hp)} {x4 x6 : Int64} {x8 : Int32} (R : ∀ {v : Int32} {o : Int32 × Hp}, K h x0 p x2 x4 x6 v = some o → o.2 = h) : ∀ (f : Nat) {x13 x14 : Int32} {o : Int32 × Hp}, sX5_isHit_133 F K f h x0 p x2 x4 x6 x8 x13 x14 = some o → o.2 = h := by
  intro f
  induction f with
  | zero => intro x13 x14 o e; exact absurd e (by rw [sX5_isHit_133]; exact fun z => nomatch z)
  | succ f ih =>
    intro x13 x14 o e
    rw [sX5_isHit_133] at e
    unfold sX5_isHit_249 sX5_isHit_226 at e
    simp only [nm] at e
    have b227 : ∀ {x15 t : Int32}, sX5_isHit_227 F K (sX5_isHit_133 F K f) h x0 p x2 x4 x6 x8 x13 x14 x15 t = some o → o.2 = h := fun {x15 t} e => by
      unfold sX5_isHit_227 sX5_isHit_243 at e
      simp only [nm] at e
      replace e := br_s e
      rcases e with ⟨_, e⟩ | ⟨_, e⟩
      · exact ih e
      replace e := br_s e
      rcases e with ⟨_, e⟩ | ⟨_, e⟩
      · rw [← Option.some.inj e]
      · exact ih e
    replace e := cl_s e
    obtain ⟨_, _, e⟩ := e
    replace e := cl_s e
    obtain ⟨_, _, e⟩ := e
    replace e := (gd_s e).2
    replace e := br_s e
    rcases e with ⟨_, e⟩ | ⟨_, e⟩
    · exact R e
    replace e := cl_s e
    obtain ⟨_, _, e⟩ := e
    replace e := cl_s e
    obtain ⟨_, _, e⟩ := e
    replace e := (gd_s e).2
    replace e := cl_s e
    obtain ⟨_, _, e⟩ := e
    replace e := cl_s e
    obtain ⟨_, _, e⟩ := e
    replace e := (gd_s e).2
    replace e := br_s e
    rcases e with ⟨_, e⟩ | ⟨_, e⟩
    · replace e := br_s e
      rcases e with ⟨_, e⟩ | ⟨_, e⟩
      · exact b227 e
      · exact b227 e
    replace e := br_s e
    rcases e with ⟨_, e⟩ | ⟨_, e⟩
    · exact b227 e
    replace e := br_s e
    rcases e with ⟨_, e⟩ | ⟨_, e⟩
    · exact b227 e
    · exact b227 e
theorem hit_26 {x4 : Int64} : ∀ (f : Nat) {x6 : Int64} {x8 : Int32} {o : Int32 × Hp}, sX5_isHit_26 F f h x0 p x2 x4 x6 x8 = some o → o.2 = h := by
  intro f
  induction f with
  | zero => intro x6 x8 o e; exact absurd e (by rw [sX5_isHit_26]; exact fun z => nomatch z)
  | succ f ih =>
    intro x6 x8 o e
    rw [sX5_isHit_26] at e
    unfold sX5_isHit_255 sX5_isHit_249 at e
    replace e := br_s e
    rcases e with ⟨_, e⟩ | ⟨_, e⟩
    · rw [← Option.some.inj e]
    replace e := br_s e
    rcases e with ⟨_, e⟩ | ⟨_, e⟩
    · rw [← Option.some.inj e]
    replace e := nm_s e
    obtain ⟨_, _, e⟩ := e
    replace e := nm_s e
    obtain ⟨_, _, e⟩ := e
    replace e := (gd_s e).2
    replace e := nm_s e
    obtain ⟨_, _, e⟩ := e
    replace e := cl_s e
    obtain ⟨_, _, e⟩ := e
    replace e := (gd_s e).2
    replace e := nm_s e
    obtain ⟨_, _, e⟩ := e
    replace e := cl_s e
    obtain ⟨_, _, e⟩ := e
    replace e := cl_s e
    obtain ⟨_, _, e⟩ := e
    replace e := (gd_s e).2
    replace e := br_s e
    rcases e with ⟨_, e⟩ | ⟨_, e⟩
    · replace e := nm_s e
      obtain ⟨_, _, e⟩ := e
      exact ih e
    replace e := nm_s e
    obtain ⟨_, _, e⟩ := e
    replace e := cl_s e
    obtain ⟨_, _, e⟩ := e
    replace e := cl_s e
    obtain ⟨_, _, e⟩ := e
    replace e := (gd_s e).2
    replace e := nm_s e
    obtain ⟨_, _, e⟩ := e
    exact hit_133 (fun e => ih e) F e
theorem hit_h {o : Int32 × Hp} (e : sX5_isHit F h x0 p x2 x3 = some o) : o.2 = h := by
  unfold sX5_isHit at e
  simp only [nm] at e
  replace e := cl_s e
  obtain ⟨_, _, e⟩ := e
  replace e := (gd_s e).2
  replace e := cl_s e
  obtain ⟨_, _, e⟩ := e
  replace e := (gd_s e).2
  replace e := cl_s e
  obtain ⟨_, _, e⟩ := e
  replace e := (gd_s e).2
  exact hit_26 F e
theorem rhit_h {o : Int32 × Hp} (e : sX5_isRoyalHit F h x0 p x2 = some o) : o.2 = h := by
  unfold sX5_isRoyalHit sX5_isRoyalHit_31 sX5_isRoyalHit_32 at e
  replace e := cl_s e
  obtain ⟨_, _, e⟩ := e
  replace e := (gd_s e).2
  replace e := br_s e
  rcases e with ⟨_, e⟩ | ⟨_, e⟩
  · rw [← Option.some.inj (gd_s e).2]
  replace e := cl_s e
  obtain ⟨_, _, e⟩ := e
  replace e := (gd_s e).2
  replace e := cl_s e
  obtain ⟨o6, e6, e⟩ := e
  rw [hit_h e6] at e
  replace e := br_s e
  rcases e with ⟨_, e⟩ | ⟨_, e⟩
  · rw [← Option.some.inj (gd_s e).2]
  · rw [← Option.some.inj (gd_s e).2]
theorem addp_x (e : sX3_addPass h p x1 = some o) : PxC ρ n m h o := by
  unfold sX3_addPass sX3_addPass_22 sX3_addPass_66 sX3_passSize at e
  simp only [nm] at e
  replace e := cl_s e
  obtain ⟨o1, e1, e⟩ := e
  have y1 := Option.some.inj e1
  subst y1
  replace e := br_s e
  rcases e with ⟨_, e⟩ | ⟨_, e⟩
  · rw [← Option.some.inj e]; exact px_J
  replace e := br_s e
  rcases e with ⟨_, e⟩ | ⟨_, e⟩
  · replace e := br_s e
    rcases e with ⟨_, e⟩ | ⟨_, e⟩
    · rw [← Option.some.inj e]; exact px_t px_J px_J
    · rw [← Option.some.inj e]; exact px_t px_J px_J
  · rw [← Option.some.inj e]; exact px_J
theorem np_56 {x5 x6 : Int32} : ∀ (f : Nat) {h o : Hp} {x7 : Int32}, sX5_notePass_56 F f h p x3 x5 x6 x7 = some o → PxC ρ n m h o := by
  intro f
  induction f with
  | zero => intro h o x7 e; exact absurd e (by rw [sX5_notePass_56]; exact fun z => nomatch z)
  | succ f ih =>
    intro h o x7 e
    rw [sX5_notePass_56] at e
    simp only [nm] at e
    replace e := br_s e
    rcases e with ⟨_, e⟩ | ⟨_, e⟩
    · rw [← Option.some.inj e]; exact px_0
    replace e := cl_s e
    obtain ⟨o2, e2, e⟩ := e
    exact px_t (addp_x e2) (ih e)
theorem notep_x (e : sX5_notePass F h x0 p x2 = some o) : PxC ρ n m h o := by
  unfold sX5_notePass sX5_notePass_31 at e
  simp only [nm] at e
  replace e := cl_s e
  obtain ⟨o1, e1, e⟩ := e
  have k1 : PxC ρ n m h o1 := by
    unfold sX3_clearPass at e1
    simp only [nm] at e1
    rw [← Option.some.inj e1]; exact px_t px_J px_J
  replace e := cl_s e
  obtain ⟨o2, e2, e⟩ := e
  have q2 : o2.2 = o1 := by unfold sX5_passedBy at e2; rw [← Option.some.inj e2]
  replace e := cl_s e
  obtain ⟨o3, e3, e⟩ := e
  have q3 : o3.2 = o1 := by unfold sX5_comeTo at e3; rw [← Option.some.inj e3]; exact q2
  rw [q3] at e
  replace e := br_s e
  rcases e with ⟨_, e⟩ | ⟨_, e⟩
  · rw [← Option.some.inj e]; exact k1
  replace e := cl_s e
  obtain ⟨_, _, e⟩ := e
  replace e := (gd_s e).2
  replace e := br_s e
  rcases e with ⟨_, e⟩ | ⟨_, e⟩
  · rw [← Option.some.inj e]; exact k1
  replace e := cl_s e
  obtain ⟨o8, e8, e⟩ := e
  have q8 : o8.2 = o1 := by unfold sX5_leftBy at e8; rw [← Option.some.inj e8]
  rw [q8] at e
  replace e := (gd_s e).2
  replace e := cl_s e
  obtain ⟨o11, e11, e⟩ := e
  exact px_t k1 (px_t (addp_x e11) (np_56 F e))
theorem ath_x (e : sX3_addToHand h p x1 x2 x3 = some o) : PxC ρ n m h o := by
  unfold sX3_addToHand at e
  simp only [nm] at e
  replace e := cl_s e
  obtain ⟨_, _, e⟩ := e
  replace e := (gd_s (gd_s e).2).2
  rw [← Option.some.inj e]; exact px_J
theorem mk_216 {t0 : Int32} (P : PR ρ p h) (e : sX5_make_216 F h x0 p x3 t0 p = some o) : PxC ρ n m h o := by
  unfold sX5_make_216 sX5_make_267 at e
  simp only [nm] at e
  have n2 : kq (ρ p) = true := by rw [P.1]; rfl
  have n34 : ¬ ρ p = 34 := by rw [P.1]; decide
  have k2 : PxC ρ n m h (wI (wI h p 6 t0) p 5 ((1 : Int32) - x3)) := px_t (px_I n2 n34) (px_I n2 n34)
  replace e := cl_s e
  obtain ⟨_, _, e⟩ := e
  replace e := br_s e
  rcases e with ⟨_, e⟩ | ⟨_, e⟩
  · rw [← Option.some.inj e]; exact k2
  replace e := cl_s e
  obtain ⟨o5, e5, e⟩ := e
  rw [rhit_h e5] at e
  replace e := br_s e
  rcases e with ⟨_, e⟩ | ⟨_, e⟩
  · rw [← Option.some.inj e]; exact k2
  replace e := cl_s e
  obtain ⟨r7, e7, e⟩ := e
  have q7 : ρ r7 = 38 := P.2.2.2 r7 e7
  replace e := cl_s e
  obtain ⟨_, _, e⟩ := e
  replace e := (gd_s (gd_s e).2).2
  rw [← Option.some.inj e]
  exact px_t k2 (px_I (by rw [q7]; decide) (by rw [q7]; decide))
theorem mk_151 {x4 x5 x6 : Int32} (P : PR ρ p h) (e : sX5_make_151 F h x0 p x2 x3 x4 x5 x6 = some o) : PxC ρ n m h o := by
  unfold sX5_make_151 sX5_make_187 sX5_make_191 at e
  replace e := cl_s e
  obtain ⟨o1, e1, e⟩ := e
  have k1 : PxC ρ n m h o1 := notep_x e1
  have b192 : ∀ {t : Int32}, sX5_make_192 F o1 x0 p x3 t = some o → PxC ρ n m h o := fun {t} e => by
    unfold sX5_make_192 at e
    replace e := br_s e
    rcases e with ⟨_, e⟩ | ⟨_, e⟩
    · exact px_t k1 (mk_216 (pr_k k1.1 P) e)
    · exact px_t k1 (mk_216 (pr_k k1.1 P) e)
  replace e := br_s e
  rcases e with ⟨_, e⟩ | ⟨_, e⟩
  · replace e := br_s e
    rcases e with ⟨_, e⟩ | ⟨_, e⟩
    · exact b192 e
    replace e := br_s e
    rcases e with ⟨_, e⟩ | ⟨_, e⟩
    · exact b192 e
    replace e := cl_s e
    obtain ⟨_, _, e⟩ := e
    replace e := cl_s e
    obtain ⟨o6, e6, e⟩ := e
    rw [bo_h e6] at e
    replace e := br_s e
    rcases e with ⟨_, e⟩ | ⟨_, e⟩
    · exact b192 e
    · exact b192 e
  · exact b192 e
theorem mk_102 {x4 x5 x6 : Int32} (P : PR ρ p h) (e : sX5_make_102 F h x0 p x2 x3 x4 x5 x6 = some o) : PxC ρ n m h o := by
  unfold sX5_make_102 at e
  replace e := cl_s e
  obtain ⟨_, _, e⟩ := e
  replace e := cl_s e
  obtain ⟨o2, e2, e⟩ := e
  rw [has_h e2] at e
  replace e := br_s e
  rcases e with ⟨_, e⟩ | ⟨_, e⟩
  · exact mk_151 P e
  replace e := br_s e
  rcases e with ⟨_, e⟩ | ⟨_, e⟩
  · exact mk_151 P e
  replace e := cl_s e
  obtain ⟨_, _, e⟩ := e
  replace e := br_s e
  rcases e with ⟨_, e⟩ | ⟨_, e⟩
  · exact mk_151 P e
  replace e := cl_s e
  obtain ⟨o7, e7, e⟩ := e
  have q7 : o7.2 = h := by
    unfold sX3_inHand at e7
    replace e7 := cl_s e7
    obtain ⟨_, _, e7⟩ := e7
    rw [← Option.some.inj (gd_s e7).2]
  rw [q7] at e
  replace e := br_s e
  rcases e with ⟨_, e⟩ | ⟨_, e⟩
  · exact mk_151 P e
  replace e := cl_s e
  obtain ⟨o9, e9, e⟩ := e
  have k9 : PxC ρ n m h o9 := ath_x e9
  exact px_t k9 (mk_151 (pr_k k9.1 P) e)
theorem mk_54 {x4 x5 x6 : Int32} (P : ShP ρ x0 p L m h) (M : MvX n m x2) (e : sX5_make_54 F h x0 p x2 x3 x4 x5 x6 = some o) : PxC ρ n m h o := by
  unfold sX5_make_54 at e
  simp only [nm] at e
  have k1 : PxC ρ n m h (wJ h p 7 (0 : Int64)) := px_J
  replace e := cl_s e
  obtain ⟨o2, e2, e⟩ := e
  have P1 : ShP ρ x0 p L m (wJ h p 7 (0 : Int64)) := sh_k k1 (fun _ _ => rfl) P
  obtain ⟨k2, s2⟩ := shift_x P1 M e2
  replace e := cl_s e
  obtain ⟨o3, e3, e⟩ := e
  have P2 := sh_k k2 s2 P1
  obtain ⟨k3, s3⟩ := blast_x (n := n) (m := m) P2.1 e3
  have k4 : PxC ρ n m h (wJ o3 p 8 ((hJ o3 p 8) &&& ((hJ o3 p 7) ^^^ (-1 : Int64)))) := px_t k1 (px_t k2 (px_t k3 px_J))
  have P4 := pr_k k4.1 P.1
  replace e := br_s e
  rcases e with ⟨_, e⟩ | ⟨_, e⟩
  · replace e := cl_s e
    obtain ⟨o6, e6, e⟩ := e
    have k6 := px_t k4 (ath_x e6)
    exact px_t k6 (mk_102 (pr_k k6.1 P.1) e)
  · exact px_t k4 (mk_102 P4 e)
/-- a move of the law makes men of the law -/
theorem make_x (P : ShP ρ x0 p L m h) (M : MvX n m x2) (e : sX5_make F h x0 p x2 = some o) : PxC ρ n m h o := by
  unfold sX5_make at e
  replace e := nm_s e
  obtain ⟨v1, _, e⟩ := e
  replace e := cl_s e
  obtain ⟨o2, e2, e⟩ := e
  have q2 : o2.2 = h := by unfold sX5_manOf at e2; rw [← Option.some.inj e2]
  replace e := cl_s e
  obtain ⟨o3, e3, e⟩ := e
  have q3 : o3.2 = h := by unfold sX5_kindOf at e3; rw [← Option.some.inj e3]; exact q2
  clear e2
  replace e := cl_s e
  obtain ⟨o4, e4, e⟩ := e
  rw [tkn_h e4, q3] at e
  replace e := cl_s e
  obtain ⟨_, _, e⟩ := e
  replace e := br_s e
  rcases e with ⟨_, e⟩ | ⟨_, e⟩
  · replace e := cl_s e
    obtain ⟨r7, _, e⟩ := e
    replace e := (gd_s e).2
    replace e := nm_s e
    obtain ⟨h9, w9, e⟩ := e
    have k1 : PxC ρ n m h h9 := by rw [w9]; exact px_J
    exact px_t k1 (mk_54 (sh_k k1 (fun a _ => by rw [w9]; rfl) P) M e)
  · exact mk_54 P M e
end
end
section
/-! copies of positions of the law; methods that only read -/
section
variable {ρ : Nat → Nat} {c : Cm} {h o g : Hp} {x0 p q L F : Nat} {n m : Int} {x1 x2 x3 : Int32}
/-- squares and men of the law, at a row -/
def OnX (n m : Int) (on : Nat) (h : Hp) : Prop := ∀ s : Nat, s < 64 → 0 ≤ (hI h on s).toInt → (s : Int) < n ∧ (hI h on s).toInt < 2 * m
theorem on_k {on : Nat} (r : ρ on = 34) (k : PxC ρ n m h o) (P : OnX n m on h) : OnX n m on o := fun s hs z => by
  rcases k.2.2 on s r with w | w | w
  · rw [w] at z ⊢; exact P s hs z
  · omega
  · exact w
theorem cfx_17 : ∀ (f : Nat) {h o : Hp} {x2 : Int32}, PR ρ p h → sX3_copyFrom_17 F f h p q x2 = some o → PxC ρ n m h o := by
  intro f
  induction f with
  | zero => intro h o x2 _ e; exact absurd e (by rw [sX3_copyFrom_17]; exact fun z => nomatch z)
  | succ f ih =>
    intro h o x2 P e
    rw [sX3_copyFrom_17] at e
    have n2 : kq (ρ p) = true := by rw [P.1]; rfl
    have n34 : ¬ ρ p = 34 := by rw [P.1]; decide
    replace e := br_s e
    rcases e with ⟨_, e⟩ | ⟨_, e⟩
    · replace e := nm_s e
      obtain ⟨h2, w2, e⟩ := e
      replace e := nm_s e
      obtain ⟨h3, w3, e⟩ := e
      replace e := nm_s e
      obtain ⟨h4, w4, e⟩ := e
      replace e := nm_s e
      obtain ⟨h5, w5, e⟩ := e
      replace e := nm_s e
      obtain ⟨h6, w6, e⟩ := e
      have k2 : PxC ρ n m h h2 := by rw [w2]; exact px_I n2 n34
      have k3 : PxC ρ n m h2 h3 := by rw [w3]; exact px_I n2 n34
      have k4 : PxC ρ n m h3 h4 := by rw [w4]; exact px_J
      have k5 : PxC ρ n m h4 h5 := by rw [w5]; exact px_J
      have k6 : PxC ρ n m h5 h6 := by rw [w6]; exact px_J
      rw [← Option.some.inj e]
      exact px_t k2 (px_t k3 (px_t k4 (px_t k5 k6)))
    replace e := cl_s e
    obtain ⟨r7, _, e⟩ := e
    replace e := cl_s e
    obtain ⟨r8, _, e⟩ := e
    replace e := (gd_s (gd_s e).2).2
    replace e := nm_s e
    obtain ⟨h11, w11, e⟩ := e
    have k11 : PxC ρ n m h h11 := by rw [w11]; exact px_J
    replace e := cl_s e
    obtain ⟨r12, e12, e⟩ := e
    have q12 : ρ r12 = 36 := P.2.2.1 r12 (by rw [← k11.1]; exact e12)
    replace e := cl_s e
    obtain ⟨r13, _, e⟩ := e
    replace e := (gd_s (gd_s e).2).2
    replace e := nm_s e
    obtain ⟨h16, w16, e⟩ := e
    have k16 : PxC ρ n m h11 h16 := by rw [w16]; exact px_I (by rw [q12]; rfl) (by rw [q12]; decide)
    have kk := px_t k11 k16
    replace e := cl_s e
    obtain ⟨r17, _, e⟩ := e
    replace e := cl_s e
    obtain ⟨r18, _, e⟩ := e
    replace e := (gd_s (gd_s e).2).2
    replace e := nm_s e
    obtain ⟨h21, w21, e⟩ := e
    have k21 : PxC ρ n m h16 h21 := by rw [w21]; exact px_J
    have kk2 := px_t kk k21
    replace e := cl_s e
    obtain ⟨r22, e22, e⟩ := e
    have q22 : ρ r22 = 38 := P.2.2.2 r22 (by rw [← kk2.1]; exact e22)
    replace e := cl_s e
    obtain ⟨r23, _, e⟩ := e
    replace e := (gd_s (gd_s e).2).2
    replace e := nm_s e
    obtain ⟨h26, w26, e⟩ := e
    have k26 : PxC ρ n m h21 h26 := by rw [w26]; exact px_I (by rw [q22]; rfl) (by rw [q22]; decide)
    have kk3 := px_t kk2 k26
    replace e := nm_s e
    obtain ⟨v27, _, e⟩ := e
    exact px_t kk3 (ih (pr_k kk3.1 P) e)
/-- a copy of a position of the law is one -/
theorem copy_x {on : Nat} (P : PR ρ p h) (eq : hR h q 0 = some on) (X : OnX n m on h) (e : sX3_copyFrom F h p q = some o) : PxC ρ n m h o := by
  unfold sX3_copyFrom at e
  replace e := cl_s e
  obtain ⟨r1, e1, e⟩ := e
  have y1 : r1 = on := r_eq eq e1
  subst y1
  replace e := cl_s e
  obtain ⟨r2, e2, e⟩ := e
  have q2 := P.2.1 r2 e2
  iterate 6 replace e := (gd_s e).2
  replace e := nm_s e
  obtain ⟨h9, w9, e⟩ := e
  have k9 : PxC ρ n m h h9 := by
    rw [w9]
    refine ⟨fun _ _ => rfl, fun a i r => ?_, fun a s ra => ?_⟩
    · rw [cp_at, if_neg]
      rintro ⟨y, _⟩
      rw [y, q2] at r
      exact absurd r (by decide)
    · rw [cp_at]
      split
      · rename_i y
        by_cases z : 0 ≤ (hI h r1 ((0 : Int32).toNatClampNeg + (s - (0 : Int32).toNatClampNeg))).toInt
        · have hs : s < 64 := by
            have := y.2.2
            have u : (0 : Int32).toNatClampNeg + (64 : Int32).toNatClampNeg = 64 := rfl
            omega
          have us : (0 : Int32).toNatClampNeg + (s - (0 : Int32).toNatClampNeg) = s := by
            have u : (0 : Int32).toNatClampNeg = 0 := rfl
            omega
          rw [us] at z ⊢
          exact Or.inr (Or.inr (X s hs z))
        · exact Or.inr (Or.inl (by omega))
      · exact Or.inl rfl
  exact px_t k9 (cfx_17 F (pr_k k9.1 P) e)
theorem safe_h {o : Int32 × Hp} (e : sX5_isSafe h x0 x1 = some o) : o.2 = h := by
  unfold sX5_isSafe sX5_isSafe_31 at e
  have b54 : ∀ {y : Int32} {z : Int64}, sX5_isSafe_54 h x0 y z = some o → o.2 = h := fun {y z} e => by
    unfold sX5_isSafe_54 sX5_isSafe_72 sX5_isSafe_88 at e
    replace e := br_s e
    rcases e with ⟨_, e⟩ | ⟨_, e⟩
    · replace e := cl_s e
      obtain ⟨_, _, e⟩ := e
      replace e := cl_s e
      obtain ⟨o3, e3, e⟩ := e
      have q3 : o3.2 = h := by unfold sX3_passSquare at e3; rw [← Option.some.inj e3]
      rw [q3] at e
      replace e := nm_s e
      obtain ⟨_, _, e⟩ := e
      replace e := br_s e
      rcases e with ⟨_, e⟩ | ⟨_, e⟩
      · rw [← Option.some.inj (gd_s e).2]
      · rw [← Option.some.inj (gd_s e).2]
    · replace e := br_s e
      rcases e with ⟨_, e⟩ | ⟨_, e⟩
      · rw [← Option.some.inj (gd_s e).2]
      · rw [← Option.some.inj (gd_s e).2]
  replace e := cl_s e
  obtain ⟨o1, e1, e⟩ := e
  have q1 : o1.2 = h := by unfold sX5_kindOf at e1; rw [← Option.some.inj e1]
  rw [q1] at e
  replace e := br_s e
  rcases e with ⟨_, e⟩ | ⟨_, e⟩
  · rw [← Option.some.inj e]
  replace e := br_s e
  rcases e with ⟨_, e⟩ | ⟨_, e⟩
  · rw [← Option.some.inj e]
  replace e := cl_s e
  obtain ⟨o4, e4, e⟩ := e
  have q4 : o4.2 = h := by unfold sX5_manOf at e4; rw [← Option.some.inj e4]
  rw [q4] at e
  replace e := cl_s e
  obtain ⟨_, _, e⟩ := e
  replace e := br_s e
  rcases e with ⟨_, e⟩ | ⟨_, e⟩
  · rw [← Option.some.inj e]
  replace e := cl_s e
  obtain ⟨o7, e7, e⟩ := e
  have q7 : o7.2 = h := by unfold sX5_comeTo at e7; rw [← Option.some.inj e7]
  rw [q7] at e
  replace e := nm_s e
  obtain ⟨_, _, e⟩ := e
  replace e := br_s e
  rcases e with ⟨_, e⟩ | ⟨_, e⟩
  · exact b54 e
  replace e := cl_s e
  obtain ⟨o10, e10, e⟩ := e
  have q10 : o10.2 = h := by unfold sX5_leftBy at e10; rw [← Option.some.inj e10]
  rw [q10] at e
  replace e := nm_s e
  obtain ⟨_, _, e⟩ := e
  exact b54 e
theorem may_h {o : Int32 × Hp} (e : sX5_mayStand F h x0 = some o) : o.2 = h := by
  have b97 : ∀ {y z : Int32} {o : Int32 × Hp}, sX5_mayStand_97 F h x0 y z = some o → o.2 = h := fun {y z o} e => by
    unfold sX5_mayStand_97 sX5_mayStand_128 sX5_mayStand_133 at e
    replace e := cl_s e
    obtain ⟨_, _, e⟩ := e
    replace e := cl_s e
    obtain ⟨o2, e2, e⟩ := e
    rw [has_h e2] at e
    replace e := br_s e
    rcases e with ⟨_, e⟩ | ⟨_, e⟩
    · rw [← Option.some.inj (gd_s e).2]
    replace e := br_s e
    rcases e with ⟨_, e⟩ | ⟨_, e⟩
    · rw [← Option.some.inj (gd_s e).2]
    replace e := cl_s e
    obtain ⟨_, _, e⟩ := e
    replace e := cl_s e
    obtain ⟨o6, e6, e⟩ := e
    rw [hit_h e6] at e
    replace e := br_s e
    rcases e with ⟨_, e⟩ | ⟨_, e⟩
    · rw [← Option.some.inj (gd_s e).2]
    · rw [← Option.some.inj (gd_s e).2]
  have b70 : ∀ {a b c d t : Int32} {o : Int32 × Hp}, sX5_mayStand_70 F h x0 a b c d t = some o → o.2 = h := fun {a b c d t o} e => by
    unfold sX5_mayStand_70 sX5_mayStand_95 at e
    replace e := br_s e
    rcases e with ⟨_, e⟩ | ⟨_, e⟩
    · rw [← Option.some.inj e]
    replace e := br_s e
    rcases e with ⟨_, e⟩ | ⟨_, e⟩
    · replace e := cl_s e
      obtain ⟨_, _, e⟩ := e
      replace e := cl_s e
      obtain ⟨o4, e4, e⟩ := e
      rw [hit_h e4] at e
      replace e := br_s e
      rcases e with ⟨_, e⟩ | ⟨_, e⟩
      · exact b97 e
      · rw [← Option.some.inj e]
    · exact b97 e
  unfold sX5_mayStand sX5_mayStand_69 at e
  replace e := cl_s e
  obtain ⟨_, _, e⟩ := e
  replace e := nm_s e
  obtain ⟨_, _, e⟩ := e
  replace e := nm_s e
  obtain ⟨_, _, e⟩ := e
  replace e := cl_s e
  obtain ⟨_, _, e⟩ := e
  replace e := cl_s e
  obtain ⟨_, _, e⟩ := e
  replace e := (gd_s e).2
  replace e := nm_s e
  obtain ⟨_, _, e⟩ := e
  replace e := cl_s e
  obtain ⟨_, _, e⟩ := e
  replace e := cl_s e
  obtain ⟨_, _, e⟩ := e
  replace e := (gd_s e).2
  replace e := nm_s e
  obtain ⟨_, _, e⟩ := e
  replace e := cl_s e
  obtain ⟨_, _, e⟩ := e
  replace e := cl_s e
  obtain ⟨_, _, e⟩ := e
  replace e := (gd_s e).2
  replace e := br_s e
  rcases e with ⟨_, e⟩ | ⟨_, e⟩
  · exact b97 e
  replace e := cl_s e
  obtain ⟨_, _, e⟩ := e
  replace e := cl_s e
  obtain ⟨_, _, e⟩ := e
  replace e := (gd_s e).2
  replace e := br_s e
  rcases e with ⟨_, e⟩ | ⟨_, e⟩
  · exact b70 e
  replace e := br_s e
  rcases e with ⟨_, e⟩ | ⟨_, e⟩
  · exact b70 e
  · exact b70 e
end
end
section
/-! moves of the law's men to the law's squares -/
theorem bsh {y : BitVec 32} {k q w : Nat} {M : BitVec 32} (hm : ∀ j : Fin 32, w ≤ j.val → M.getLsbD j.val = false) (hk : q + w ≤ k) (k32 : k < 32) : (((y <<< k).sshiftRight q) &&& M) = 0#32 := by
  apply BitVec.eq_of_getLsbD_eq
  intro i hi
  rw [BitVec.getLsbD_and, BitVec.getLsbD_zero]
  by_cases z : i < w
  · have : ((y <<< k).sshiftRight q).getLsbD i = false := by
      rw [BitVec.getLsbD_sshiftRight]
      have a : q + i < 32 := by omega
      have b : q + i < k := by omega
      rw [BitVec.getLsbD_shiftLeft]
      simp [a, b]
    rw [this, Bool.false_and]
  · rw [hm ⟨i, hi⟩ (show w ≤ i by omega), Bool.and_false]
theorem bsh0 {y : BitVec 32} {k w : Nat} {M : BitVec 32} (hm : ∀ j : Fin 32, w ≤ j.val → M.getLsbD j.val = false) (hk : w ≤ k) : ((y <<< k) &&& M) = 0#32 := by
  apply BitVec.eq_of_getLsbD_eq
  intro i hi
  rw [BitVec.getLsbD_and, BitVec.getLsbD_zero]
  by_cases z : i < w
  · have b : i < k := by omega
    rw [BitVec.getLsbD_shiftLeft]
    simp [b]
  · rw [hm ⟨i, hi⟩ (show w ≤ i by omega), Bool.and_false]
theorem shb0 {y k : Int32} {K : Nat} (hk : ((k &&& 31).toBitVec.smod 32).toNat = K) : (y <<< (k &&& 31)).toBitVec = y.toBitVec <<< K := by
  rw [Int32.toBitVec_shiftLeft, BitVec.shiftLeft_eq', hk]
theorem shb {y k q : Int32} {K Q : Nat} (hk : ((k &&& 31).toBitVec.smod 32).toNat = K) (hq : ((q &&& 31).toBitVec.smod 32).toNat = Q) : ((y <<< (k &&& 31)) >>> (q &&& 31)).toBitVec = (y.toBitVec <<< K).sshiftRight Q := by
  rw [Int32.toBitVec_shiftRight, BitVec.sshiftRight_eq', hq, shb0 hk]
theorem s20 (y : Int32) : (y <<< ((20 : Int32) &&& 31)) &&& (63 : Int32) = 0 ∧ ((y <<< ((20 : Int32) &&& 31)) >>> ((6 : Int32) &&& 31)) &&& (63 : Int32) = 0 ∧ fd 12 (y <<< ((20 : Int32) &&& 31)) = 0 ∧ fd 16 (y <<< ((20 : Int32) &&& 31)) = 0 := by
  refine ⟨?_, ?_, ?_, ?_⟩
  · apply Int32.toBitVec_inj.mp
    rw [Int32.toBitVec_and, shb0 (K := 20) (by decide)]
    exact bsh0 (w := 6) (by decide) (by decide)
  · apply Int32.toBitVec_inj.mp
    rw [Int32.toBitVec_and, shb (K := 20) (Q := 6) (by decide) (by decide)]
    exact bsh (w := 6) (by decide) (by decide) (by decide)
  · unfold fd
    apply Int32.toBitVec_inj.mp
    rw [Int32.toBitVec_and, shb (K := 20) (Q := 12) (by decide) (by decide)]
    exact bsh (w := 4) (by decide) (by decide) (by decide)
  · unfold fd
    apply Int32.toBitVec_inj.mp
    rw [Int32.toBitVec_and, shb (K := 20) (Q := 16) (by decide) (by decide)]
    exact bsh (w := 4) (by decide) (by decide) (by decide)
theorem s26 (y : Int32) : (y <<< ((26 : Int32) &&& 31)) &&& (63 : Int32) = 0 ∧ ((y <<< ((26 : Int32) &&& 31)) >>> ((6 : Int32) &&& 31)) &&& (63 : Int32) = 0 ∧ fd 12 (y <<< ((26 : Int32) &&& 31)) = 0 ∧ fd 16 (y <<< ((26 : Int32) &&& 31)) = 0 := by
  refine ⟨?_, ?_, ?_, ?_⟩
  · apply Int32.toBitVec_inj.mp
    rw [Int32.toBitVec_and, shb0 (K := 26) (by decide)]
    exact bsh0 (w := 6) (by decide) (by decide)
  · apply Int32.toBitVec_inj.mp
    rw [Int32.toBitVec_and, shb (K := 26) (Q := 6) (by decide) (by decide)]
    exact bsh (w := 6) (by decide) (by decide) (by decide)
  · unfold fd
    apply Int32.toBitVec_inj.mp
    rw [Int32.toBitVec_and, shb (K := 26) (Q := 12) (by decide) (by decide)]
    exact bsh (w := 4) (by decide) (by decide) (by decide)
  · unfold fd
    apply Int32.toBitVec_inj.mp
    rw [Int32.toBitVec_and, shb (K := 26) (Q := 16) (by decide) (by decide)]
    exact bsh (w := 4) (by decide) (by decide) (by decide)
section
variable {n m : Int} {v v' A y x0 x1 x2 x3 : Int32}
theorem mvx_keep (g : MvX n m v) (e : v' = (v &&& A) ||| y) (a1 : A &&& (63 : Int32) = 63) (a2 : (A >>> ((6 : Int32) &&& 31)) &&& (63 : Int32) = 63) (a3 : fd 12 A = 15) (a4 : fd 16 A = 15) (y1 : y &&& (63 : Int32) = 0) (y2 : (y >>> ((6 : Int32) &&& 31)) &&& (63 : Int32) = 0) (y3 : fd 12 y = 0) (y4 : fd 16 y = 0) : MvX n m v' ∧ fd 12 v' = fd 12 v := by
  have e1 : v' &&& (63 : Int32) = v &&& (63 : Int32) := by rw [e, lo_or, lo_as, a1, y1, or_0]
  have e2 : (v' >>> ((6 : Int32) &&& 31)) &&& (63 : Int32) = (v >>> ((6 : Int32) &&& 31)) &&& (63 : Int32) := by rw [e, sh_or, sh_and, lo_or, lo_as, a2, y2, or_0]
  have e3 : fd 12 v' = fd 12 v := by rw [e, fd_or, fd_and, a3, y3, fd_15, fd_o]
  have e4 : fd 16 v' = fd 16 v := by rw [e, fd_or, fd_and, a4, y4, fd_15, fd_o]
  refine ⟨⟨by rw [e1]; exact g.1, by rw [e2]; exact g.2.1, ?_, ?_⟩, e3⟩
  · show (fd 12 v').toInt < m
    rw [e3]; exact g.2.2.1
  · show fd 16 v' = 15 ∨ (fd 16 v').toInt < m
    rw [e4]; exact g.2.2.2
theorem mvx_taken (g : MvX n m v) : MvX n m ((v &&& (-15728641 : Int32)) ||| (y <<< ((20 : Int32) &&& 31))) ∧ fd 12 ((v &&& (-15728641 : Int32)) ||| (y <<< ((20 : Int32) &&& 31))) = fd 12 v := mvx_keep g rfl (by decide) (by decide) (by decide +kernel) (by decide +kernel) (s20 y).1 (s20 y).2.1 (s20 y).2.2.1 (s20 y).2.2.2
theorem mvx_pass (g : MvX n m v) : MvX n m (v ||| (y <<< ((26 : Int32) &&& 31))) ∧ fd 12 (v ||| (y <<< ((26 : Int32) &&& 31))) = fd 12 v := mvx_keep (A := (-1 : Int32)) g (by rw [and_m1]) (by decide) (by decide) (by decide +kernel) (by decide +kernel) (s26 y).1 (s26 y).2.1 (s26 y).2.2.1 (s26 y).2.2.2
theorem mvx_become (g : MvX n m v) (iy : Rg 0 11 y) (l : y.toInt < m) : MvX n m ((v &&& (-983041 : Int32)) ||| (y <<< ((16 : Int32) &&& 31))) := by
  have b : fd 12 (y <<< ((16 : Int32) &&& 31)) = 0 ∧ fd 16 (y <<< ((16 : Int32) &&& 31)) = y ∧ (0 : Int32) ||| y = y ∧ (y <<< ((16 : Int32) &&& 31)) &&& (63 : Int32) = 0 ∧ ((y <<< ((16 : Int32) &&& 31)) >>> ((6 : Int32) &&& 31)) &&& (63 : Int32) = 0 := small (P := fun y => fd 12 (y <<< ((16 : Int32) &&& 31)) = 0 ∧ fd 16 (y <<< ((16 : Int32) &&& 31)) = y ∧ (0 : Int32) ||| y = y ∧ (y <<< ((16 : Int32) &&& 31)) &&& (63 : Int32) = 0 ∧ ((y <<< ((16 : Int32) &&& 31)) >>> ((6 : Int32) &&& 31)) &&& (63 : Int32) = 0) (n := 11) iy (by decide) (by decide +kernel)
  have e : fd 12 (-983041 : Int32) = 15 ∧ fd 16 (-983041 : Int32) = 0 := by decide +kernel
  have c1 : (-983041 : Int32) &&& (63 : Int32) = 63 := by decide
  have c2 : ((-983041 : Int32) >>> ((6 : Int32) &&& 31)) &&& (63 : Int32) = 63 := by decide
  refine ⟨?_, ?_, ?_, Or.inr ?_⟩
  · rw [lo_or, lo_as, c1, b.2.2.2.1, or_0]; exact g.1
  · rw [sh_or, sh_and, lo_or, lo_as, c2, b.2.2.2.2, or_0]; exact g.2.1
  · show (fd 12 _).toInt < m
    rw [fd_or, fd_and, e.1, b.1, fd_15, fd_o]; exact g.2.2.1
  · show (fd 16 _).toInt < m
    rw [fd_or, fd_and, e.2, b.2.1, fd_0, b.2.2.1]; exact l
theorem mvx_plain (i0 : Rg 0 63 x0) (i1 : Rg 0 63 x1) (i2 : Rg 0 11 x2) (i3 : Rg 0 3 x3) (l0 : x0.toInt < n) (l1 : x1.toInt < n) (l2 : x2.toInt < m) : MvX n m (((((x1 ||| (x0 <<< ((6 : Int32) &&& 31))) ||| (x2 <<< ((12 : Int32) &&& 31))) ||| (983040 : Int32)) ||| (15728640 : Int32)) ||| (x3 <<< ((24 : Int32) &&& 31))) ∧ fd 12 (((((x1 ||| (x0 <<< ((6 : Int32) &&& 31))) ||| (x2 <<< ((12 : Int32) &&& 31))) ||| (983040 : Int32)) ||| (15728640 : Int32)) ||| (x3 <<< ((24 : Int32) &&& 31))) = x2 := by
  have a12 : fd 12 x1 = 0 ∧ fd 16 x1 = 0 ∧ x1 &&& (63 : Int32) = x1 ∧ (x1 >>> ((6 : Int32) &&& 31)) &&& (63 : Int32) = 0 := small (P := fun x1 => fd 12 x1 = 0 ∧ fd 16 x1 = 0 ∧ x1 &&& (63 : Int32) = x1 ∧ (x1 >>> ((6 : Int32) &&& 31)) &&& (63 : Int32) = 0) (n := 63) i1 (by decide) (by decide +kernel)
  have b12 : fd 12 (x0 <<< ((6 : Int32) &&& 31)) = 0 ∧ fd 16 (x0 <<< ((6 : Int32) &&& 31)) = 0 ∧ (x0 <<< ((6 : Int32) &&& 31)) &&& (63 : Int32) = 0 ∧ ((x0 <<< ((6 : Int32) &&& 31)) >>> ((6 : Int32) &&& 31)) &&& (63 : Int32) = x0 := small (P := fun x0 => fd 12 (x0 <<< ((6 : Int32) &&& 31)) = 0 ∧ fd 16 (x0 <<< ((6 : Int32) &&& 31)) = 0 ∧ (x0 <<< ((6 : Int32) &&& 31)) &&& (63 : Int32) = 0 ∧ ((x0 <<< ((6 : Int32) &&& 31)) >>> ((6 : Int32) &&& 31)) &&& (63 : Int32) = x0) (n := 63) i0 (by decide) (by decide +kernel)
  have c12 : fd 12 (x2 <<< ((12 : Int32) &&& 31)) = x2 ∧ fd 16 (x2 <<< ((12 : Int32) &&& 31)) = 0 ∧ (x2 <<< ((12 : Int32) &&& 31)) &&& (63 : Int32) = 0 ∧ ((x2 <<< ((12 : Int32) &&& 31)) >>> ((6 : Int32) &&& 31)) &&& (63 : Int32) = 0 := small (P := fun x2 => fd 12 (x2 <<< ((12 : Int32) &&& 31)) = x2 ∧ fd 16 (x2 <<< ((12 : Int32) &&& 31)) = 0 ∧ (x2 <<< ((12 : Int32) &&& 31)) &&& (63 : Int32) = 0 ∧ ((x2 <<< ((12 : Int32) &&& 31)) >>> ((6 : Int32) &&& 31)) &&& (63 : Int32) = 0) (n := 11) i2 (by decide) (by decide +kernel)
  have d12 : fd 12 (x3 <<< ((24 : Int32) &&& 31)) = 0 ∧ fd 16 (x3 <<< ((24 : Int32) &&& 31)) = 0 ∧ (x3 <<< ((24 : Int32) &&& 31)) &&& (63 : Int32) = 0 ∧ ((x3 <<< ((24 : Int32) &&& 31)) >>> ((6 : Int32) &&& 31)) &&& (63 : Int32) = 0 := small (P := fun x3 => fd 12 (x3 <<< ((24 : Int32) &&& 31)) = 0 ∧ fd 16 (x3 <<< ((24 : Int32) &&& 31)) = 0 ∧ (x3 <<< ((24 : Int32) &&& 31)) &&& (63 : Int32) = 0 ∧ ((x3 <<< ((24 : Int32) &&& 31)) >>> ((6 : Int32) &&& 31)) &&& (63 : Int32) = 0) (n := 3) i3 (by decide) (by decide +kernel)
  have e12 : fd 12 (983040 : Int32) = 0 ∧ fd 12 (15728640 : Int32) = 0 ∧ fd 16 (983040 : Int32) = 15 ∧ fd 16 (15728640 : Int32) = 0 := by decide +kernel
  have f1 : (983040 : Int32) &&& (63 : Int32) = 0 := by decide
  have f2 : (15728640 : Int32) &&& (63 : Int32) = 0 := by decide
  have f3 : ((983040 : Int32) >>> ((6 : Int32) &&& 31)) &&& (63 : Int32) = 0 := by decide
  have f4 : ((15728640 : Int32) >>> ((6 : Int32) &&& 31)) &&& (63 : Int32) = 0 := by decide
  have g12 : fd 12 (((((x1 ||| (x0 <<< ((6 : Int32) &&& 31))) ||| (x2 <<< ((12 : Int32) &&& 31))) ||| (983040 : Int32)) ||| (15728640 : Int32)) ||| (x3 <<< ((24 : Int32) &&& 31))) = x2 := by
    rw [fd_or, fd_or, fd_or, fd_or, fd_or, a12.1, b12.1, c12.1, d12.1, e12.1, e12.2.1, or_0, or_0, or_0, or_0, or_l]
  have g16 : fd 16 (((((x1 ||| (x0 <<< ((6 : Int32) &&& 31))) ||| (x2 <<< ((12 : Int32) &&& 31))) ||| (983040 : Int32)) ||| (15728640 : Int32)) ||| (x3 <<< ((24 : Int32) &&& 31))) = 15 := by
    rw [fd_or, fd_or, fd_or, fd_or, fd_or, a12.2.1, b12.2.1, c12.2.1, d12.2.1, e12.2.2.1, e12.2.2.2, or_0, or_0, or_0, or_0, or_l]
  refine ⟨⟨?_, ?_, ?_, Or.inl g16⟩, g12⟩
  · rw [lo_or, lo_or, lo_or, lo_or, lo_or, a12.2.2.1, b12.2.2.1, c12.2.2.1, d12.2.2.1, f1, f2, or_0, or_0, or_0, or_0, or_0]
    exact l1
  · rw [sh_or, sh_or, sh_or, sh_or, sh_or, lo_or, lo_or, lo_or, lo_or, lo_or, a12.2.2.2, b12.2.2.2, c12.2.2.2, d12.2.2.2, f3, f4, or_l, or_0, or_0, or_0, or_0]
    exact l0
  · show (fd 12 _).toInt < m
    rw [g12]; exact l2
end
/-- only the list and the collector change -/
def KL6 (ρ : Nat → Nat) (h o : Hp) : Prop := (∀ a i, hR o a i = hR h a i) ∧ (∀ a i, ¬ ρ a = 47 → ¬ ρ a = 6 → hI o a i = hI h a i) ∧ ∀ a i, hJ o a i = hJ h a i
def LsX (x0 r : Nat) (n m : Int) (h : Hp) : Prop := 0 ≤ (hI h x0 6).toInt ∧ ∀ i : Nat, (i : Int) < (hI h x0 6).toInt → MvX n m (hI h r i)
section
variable {ρ : Nat → Nat} {c : Cm} {h o g : Hp} {x0 r F : Nat} {n m : Int} {v : Int32}
theorem k6_0 : KL6 ρ h h := ⟨fun _ _ => rfl, fun _ _ _ _ => rfl, fun _ _ => rfl⟩
theorem k6_t (a : KL6 ρ h g) (b : KL6 ρ g o) : KL6 ρ h o := ⟨fun x i => (b.1 x i).trans (a.1 x i), fun x i p q => (b.2.1 x i p q).trans (a.2.1 x i p q), fun x i => (b.2.2 x i).trans (a.2.2 x i)⟩
theorem k6_I {a i : Nat} (k : ρ a = 47 ∨ ρ a = 6) : KL6 ρ h (wI h a i v) := ⟨fun _ _ => rfl, fun b j n1 n2 => by rw [r_I, if_neg (fun z => by rw [z.1] at n1 n2; exact k.elim n1 n2)], fun _ _ => rfl⟩
theorem addm_l (r0 : ρ x0 = 6) (rr' : ρ r = 47) (er : hR h x0 5 = some r) (X : LsX x0 r n m h) (M : MvX n m v) (e : sX5_addMove h x0 v = some o) : KL6 ρ h o ∧ LsX x0 r n m o ∧ (hI h x0 6).toInt ≤ (hI o x0 6).toInt := by
  unfold sX5_addMove sX5_addMove_32 at e
  replace e := cl_s e
  obtain ⟨r1, e1, e⟩ := e
  have y1 : r1 = r := r_eq er e1
  subst y1
  replace e := br_s e
  rcases e with ⟨_, e⟩ | ⟨l, e⟩
  · rw [← Option.some.inj e]; exact ⟨k6_0, X, Int.le_refl _⟩
  have l := nle_i l
  have top := (rg_top (nI (hN h r1))).2
  replace e := cl_s e
  obtain ⟨r3, e3, e⟩ := e
  have y3 : r3 = r1 := r_eq er e3
  subst y3
  replace e := (gd_s e).2
  replace e := nm_s e
  obtain ⟨h5, w5, e⟩ := e
  replace e := nm_s e
  obtain ⟨h6, w6, e⟩ := e
  have z := Option.some.inj e
  subst z
  have nr : ¬ x0 = r3 := ne_r' r0 rr' (by decide)
  have z1 : (1 : Int32).toInt = 1 := rfl
  have k5 : hI h5 x0 6 = hI h x0 6 := by rw [w5, r_I, if_neg (fun z => nr z.1)]
  have x0' := X.1
  have k6 : (hI h6 x0 6).toInt = (hI h x0 6).toInt + 1 := by rw [w6, r_I, if_pos ⟨rfl, rfl⟩, k5, ta (by rw [z1]; omega), z1]
  have c6 := clamp_i x0'
  have kr : ∀ i, hI h6 r3 i = if i = (hI h x0 6).toNatClampNeg then v else hI h r3 i := fun i => by
    rw [w6, r_I, if_neg (fun z => nr z.1.symm), w5, r_I]
    by_cases z : i = (hI h x0 6).toNatClampNeg
    · rw [if_pos ⟨rfl, z⟩, if_pos z]
    · rw [if_neg (fun y => z y.2), if_neg z]
  refine ⟨?_, ⟨by rw [k6]; omega, fun i hi => ?_⟩, by rw [k6]; omega⟩
  · have a1 : KL6 ρ h h5 := by rw [w5]; exact k6_I (Or.inl rr')
    have a2 : KL6 ρ h5 h6 := by rw [w6]; exact k6_I (Or.inr r0)
    exact k6_t a1 a2
  · rw [kr]
    split
    · exact M
    · exact X.2 i (by omega)
theorem ls_k (r0 : ρ x0 = 6) (e6 : hI o x0 6 = hI h x0 6) (er : ∀ i, hI o r i = hI h r i) (X : LsX x0 r n m h) : LsX x0 r n m o := by
  unfold LsX
  rw [e6]
  exact ⟨X.1, fun i hi => by rw [er]; exact X.2 i hi⟩
end
end
section
/-! steps of the law's men -/
def BcX (bm bc : Nat) (m : Int) (h : Hp) : Prop := ∀ k : Nat, k < 12 → (hI h bc k).toInt ≤ 6 ∧ ∀ i : Nat, (i : Int) < (hI h bc k).toInt → 0 ≤ (hI h bm (6 * k + i)).toInt ∧ (hI h bm (6 * k + i)).toInt < m
def CoB (ρ : Nat → Nat) (x0 L wy b r a0 a1 on bm bc : Nat) (n m : Int) (h : Hp) : Prop := (hR h x0 0 = some L ∧ hR h x0 1 = some wy ∧ hR h x0 4 = some b ∧ hR h x0 5 = some r ∧ hR h wy 0 = some a0 ∧ hR h wy 1 = some a1 ∧ hR h b 0 = some on ∧ hR h L 17 = some bm ∧ hR h L 18 = some bc) ∧ (ρ x0 = 6 ∧ ρ L = 2 ∧ ρ wy = 11 ∧ ρ b = 4 ∧ ρ r = 47 ∧ ρ a0 = 50 ∧ ρ a1 = 51 ∧ ρ on = 34 ∧ (¬ ρ bm = 47 ∧ ¬ ρ bm = 6) ∧ (¬ ρ bc = 47 ∧ ¬ ρ bc = 6)) ∧ WyS wy a0 a1 n (2 * m * 4096 + 1).toNat h ∧ OnX n m on h ∧ BcX bm bc m h ∧ m ≤ 12 ∧ n ≤ 64 ∧ (hI h L 2).toInt = n ∧ (hI h L 3).toInt = m
section
variable {ρ : Nat → Nat} {c : Cm} {h o g : Hp} {x0 L wy b r a0 a1 on bm bc p F : Nat} {n m : Int} {x1 x2 x3 v : Int32}
theorem cob_k (k : KL6 ρ h o) (B : CoB ρ x0 L wy b r a0 a1 on bm bc n m h) : CoB ρ x0 L wy b r a0 a1 on bm bc n m o := by
  obtain ⟨⟨e0, e1, e4, e5, f0, f1, eo, g17, g18⟩, ⟨r0, rL, rw', rb, rr', q0, q1, qo, ⟨m1, m2⟩, ⟨c1, c2⟩⟩, W, O, X, m12, n64, eL2, eL3⟩ := B
  have iL : ∀ i, hI o L i = hI h L i := fun i => k.2.1 L i (by rw [rL]; decide) (by rw [rL]; decide)
  refine ⟨⟨by rw [k.1]; exact e0, by rw [k.1]; exact e1, by rw [k.1]; exact e4, by rw [k.1]; exact e5, by rw [k.1]; exact f0, by rw [k.1]; exact f1, by rw [k.1]; exact eo, by rw [k.1]; exact g17, by rw [k.1]; exact g18⟩, ⟨r0, rL, rw', rb, rr', q0, q1, qo, ⟨m1, m2⟩, ⟨c1, c2⟩⟩, wy_e (k.2.1 wy 8 (by rw [rw']; decide) (by rw [rw']; decide)) (fun i => k.2.1 a0 i (by rw [q0]; decide) (by rw [q0]; decide)) (fun i => k.2.1 a1 i (by rw [q1]; decide) (by rw [q1]; decide)) W, fun s hs z => ?_, fun kk hk => ?_, m12, n64, by rw [iL]; exact eL2, by rw [iL]; exact eL3⟩
  · rw [k.2.1 on s (by rw [qo]; decide) (by rw [qo]; decide)] at z ⊢
    exact O s hs z
  · rw [k.2.1 bc kk c1 c2]
    refine ⟨(X kk hk).1, fun i hi => ?_⟩
    rw [k.2.1 bm _ m1 m2]
    exact (X kk hk).2 i hi
theorem open_h {x2 : Int64} {o : Int32 × Hp} (e : sX10_isOpen h p x1 x2 = some o) : o.2 = h := by
  unfold sX10_isOpen sX10_isOpen_37 sX10_isOpen_61 sX10_isOpen_62 at e
  replace e := cl_s e
  obtain ⟨_, _, e⟩ := e
  replace e := (gd_s e).2
  replace e := nm_s e
  obtain ⟨_, _, e⟩ := e
  replace e := cl_s e
  obtain ⟨_, _, e⟩ := e
  replace e := (gd_s e).2
  replace e := br_s e
  rcases e with ⟨_, e⟩ | ⟨_, e⟩
  · replace e := br_s e
    rcases e with ⟨_, e⟩ | ⟨_, e⟩
    · rw [← Option.some.inj (gd_s e).2]
    · rw [← Option.some.inj (gd_s e).2]
  replace e := br_s e
  rcases e with ⟨_, e⟩ | ⟨_, e⟩
  · rw [← Option.some.inj (gd_s e).2]
  replace e := br_s e
  rcases e with ⟨_, e⟩ | ⟨_, e⟩
  · rw [← Option.some.inj (gd_s e).2]
  · rw [← Option.some.inj (gd_s e).2]
theorem leads_h {o : Int32 × Hp} (e : sX5_leads h x0 p x2 x3 = some o) : o.2 = h := by
  have b94 : ∀ {y : Int32} {z : Int64} {o : Int32 × Hp}, sX5_leads_94 h p x3 y z = some o → o.2 = h := fun {y z o} e => by
    unfold sX5_leads_94 sX5_leads_115 sX5_leads_129 sX5_leads_138 at e
    replace e := cl_s e
    obtain ⟨_, _, e⟩ := e
    replace e := (gd_s e).2
    have fin : ∀ {t u : Int32} {o : Int32 × Hp}, br ((t &&& u) = 0) (gd ((1 : Int32) &&& 1 = 1) (some ((1 : Int32), h))) (gd ((0 : Int32) &&& 1 = 0) (some ((0 : Int32), h))) = some o → o.2 = h := fun {t u o} e => by
      replace e := br_s e
      rcases e with ⟨_, e⟩ | ⟨_, e⟩
      · rw [← Option.some.inj (gd_s e).2]
      · rw [← Option.some.inj (gd_s e).2]
    replace e := br_s e
    rcases e with ⟨_, e⟩ | ⟨_, e⟩
    · replace e := br_s e
      rcases e with ⟨_, e⟩ | ⟨_, e⟩
      · exact fin e
      · exact fin e
    · replace e := br_s e
      rcases e with ⟨_, e⟩ | ⟨_, e⟩
      · exact fin e
      · exact fin e
  unfold sX5_leads sX5_leads_62 at e
  replace e := cl_s e
  obtain ⟨_, _, e⟩ := e
  replace e := cl_s e
  obtain ⟨_, _, e⟩ := e
  replace e := (gd_s e).2
  replace e := nm_s e
  obtain ⟨_, _, e⟩ := e
  replace e := cl_s e
  obtain ⟨_, _, e⟩ := e
  replace e := cl_s e
  obtain ⟨_, _, e⟩ := e
  replace e := (gd_s e).2
  replace e := nm_s e
  obtain ⟨_, _, e⟩ := e
  replace e := cl_s e
  obtain ⟨_, _, e⟩ := e
  replace e := (gd_s e).2
  replace e := br_s e
  rcases e with ⟨_, e⟩ | ⟨_, e⟩
  · replace e := cl_s e
    obtain ⟨_, _, e⟩ := e
    replace e := cl_s e
    obtain ⟨o13, e13, e⟩ := e
    rw [occ_h e13] at e
    replace e := cl_s e
    obtain ⟨o14, e14, e⟩ := e
    rw [open_h e14] at e
    replace e := br_s e
    rcases e with ⟨_, e⟩ | ⟨_, e⟩
    · rw [← Option.some.inj e]
    replace e := br_s e
    rcases e with ⟨_, e⟩ | ⟨_, e⟩
    · exact b94 e
    replace e := br_s e
    rcases e with ⟨_, e⟩ | ⟨_, e⟩
    · replace e := br_s e
      rcases e with ⟨_, e⟩ | ⟨_, e⟩
      · exact b94 e
      · rw [← Option.some.inj e]
    · exact b94 e
  · rw [← Option.some.inj e]
theorem mva_154 {x5 x6 x9 k : Int32} {o : Int32 × Hp} (M : MvX n m x9) (K : fd 12 x9 = k) (e : sX5_moveAlong_154 h x5 x6 x9 = some o) : o.2 = h ∧ MvX n m o.1 ∧ fd 12 o.1 = k := by
  unfold sX5_moveAlong_154 sX5_moveAlong_179 sX5_moveAlong_181 at e
  replace e := br_s e
  rcases e with ⟨_, e⟩ | ⟨_, e⟩
  · rw [← Option.some.inj e]; exact ⟨rfl, M, K⟩
  replace e := br_s e
  rcases e with ⟨_, e⟩ | ⟨_, e⟩
  · rw [← Option.some.inj e]; exact ⟨rfl, M, K⟩
  · rw [← Option.some.inj e]
    obtain ⟨u1, u2⟩ := mvx_pass (y := x6) M
    exact ⟨rfl, u1, u2.trans K⟩
theorem mva_75 {x4 x5 x6 t0 : Int32} {o : Int32 × Hp} (i2 : Rg 0 63 x2) (l2 : x2.toInt < n) (i4 : Rg 0 63 x4) (l4 : x4.toInt < n) (i3 : Rg 0 23 x3) (l3 : x3.toInt < 2 * m) (e : sX5_moveAlong_75 h x0 x2 x3 x4 x5 x6 t0 = some o) : o.2 = h ∧ MvX n m o.1 ∧ fd 12 o.1 = x3 >>> ((1 : Int32) &&& 31) := by
  have i30 := i3.1
  have lk : (x3 >>> ((1 : Int32) &&& 31)).toInt < m := by rw [ti_shr1]; omega
  have ik : Rg 0 11 (x3 >>> ((1 : Int32) &&& 31)) := rg_shrk (lo := 0) (hi := 11) 1 rfl i3 (by decide)
  have b129 : ∀ {y z : Int32}, Rg 0 3 z → sX5_moveAlong_129 h x5 x6 y z (x3 >>> ((1 : Int32) &&& 31)) x4 x2 = some o → o.2 = h ∧ MvX n m o.1 ∧ fd 12 o.1 = x3 >>> ((1 : Int32) &&& 31) := fun {y z} iz e => by
    unfold sX5_moveAlong_129 sX5_plainMove at e
    replace e := cl_s e
    obtain ⟨o1, e1, e⟩ := e
    obtain ⟨P, K⟩ := mvx_plain i2 i4 ik iz l2 l4 lk
    have q2 : o1.2 = h := by rw [← Option.some.inj e1]
    have q1 : MvX n m o1.1 ∧ fd 12 o1.1 = x3 >>> ((1 : Int32) &&& 31) := by rw [← Option.some.inj e1]; exact ⟨P, K⟩
    clear e1
    rw [q2] at e
    replace e := br_s e
    rcases e with ⟨_, e⟩ | ⟨_, e⟩
    · exact mva_154 q1.1 q1.2 e
    · replace e := nm_s e
      obtain ⟨v3, w3, e⟩ := e
      obtain ⟨u1, u2⟩ := mvx_taken (y := y >>> ((1 : Int32) &&& 31)) q1.1
      exact mva_154 (by rw [w3]; exact u1) (by rw [w3]; exact u2.trans q1.2) e
  have b111 : ∀ {y : Int32}, sX5_moveAlong_111 h x2 x3 x4 x5 x6 t0 y = some o → o.2 = h ∧ MvX n m o.1 ∧ fd 12 o.1 = x3 >>> ((1 : Int32) &&& 31) := fun {y} e => by
    unfold sX5_moveAlong_111 at e
    replace e := br_s e
    rcases e with ⟨_, e⟩ | ⟨_, e⟩
    · exact b129 (rg_m (rg_b rfl : Rg 0 0 (0 : Int32)) (by decide)) e
    · exact b129 (rg_m (rg_b rfl : Rg 1 1 (1 : Int32)) (by decide)) e
  unfold sX5_moveAlong_75 at e
  replace e := br_s e
  rcases e with ⟨_, e⟩ | ⟨_, e⟩
  · replace e := cl_s e
    obtain ⟨_, _, e⟩ := e
    replace e := cl_s e
    obtain ⟨_, _, e⟩ := e
    exact b111 (gd_s e).2
  · replace e := cl_s e
    obtain ⟨_, _, e⟩ := e
    replace e := cl_s e
    obtain ⟨_, _, e⟩ := e
    replace e := cl_s e
    obtain ⟨_, _, e⟩ := e
    replace e := cl_s e
    obtain ⟨o8, e8, e⟩ := e
    have q8 : o8.2 = h := by unfold sX3_passSquare at e8; rw [← Option.some.inj e8]
    rw [q8] at e
    exact b111 (gd_s e).2
theorem mva_l {o : Int32 × Hp} (e1 : hR h x0 1 = some wy) (f1 : hR h wy 1 = some a1) (i2 : Rg 0 63 x2) (l2 : x2.toInt < n) (i3 : Rg 0 23 x3) (l3 : x3.toInt < 2 * m) (lw : ((hI h a1 x1.toNatClampNeg) &&& (63 : Int32)).toInt < n) (e : sX5_moveAlong h x0 x1 x2 x3 = some o) : o.2 = h ∧ MvX n m o.1 ∧ fd 12 o.1 = x3 >>> ((1 : Int32) &&& 31) := by
  unfold sX5_moveAlong sX5_moveAlong_74 at e
  replace e := cl_s e
  obtain ⟨r1, g1, e⟩ := e
  have y1 : r1 = wy := r_eq e1 g1
  subst y1
  replace e := cl_s e
  obtain ⟨r2, g2, e⟩ := e
  have y2 : r2 = a1 := r_eq f1 g2
  subst y2
  replace e := (gd_s e).2
  replace e := nm_s e
  obtain ⟨v4, w4, e⟩ := e
  have i4 : Rg 0 63 v4 := by rw [w4]; exact rg_and (c := 63) (d := 63) (rg_b rfl) (by decide)
  have l4 : v4.toInt < n := by rw [w4]; exact lw
  clear w4
  replace e := cl_s e
  obtain ⟨_, _, e⟩ := e
  replace e := cl_s e
  obtain ⟨_, _, e⟩ := e
  replace e := (gd_s e).2
  replace e := nm_s e
  obtain ⟨_, _, e⟩ := e
  replace e := cl_s e
  obtain ⟨_, _, e⟩ := e
  replace e := cl_s e
  obtain ⟨_, _, e⟩ := e
  replace e := (gd_s e).2
  replace e := nm_s e
  obtain ⟨_, _, e⟩ := e
  replace e := br_s e
  rcases e with ⟨_, e⟩ | ⟨_, e⟩
  · exact mva_75 i2 l2 i4 l4 i3 l3 e
  replace e := cl_s e
  obtain ⟨_, _, e⟩ := e
  replace e := br_s e
  rcases e with ⟨_, e⟩ | ⟨_, e⟩
  · exact mva_75 i2 l2 i4 l4 i3 l3 e
  · exact mva_75 i2 l2 i4 l4 i3 l3 e
theorem cho_l {o : Int32 × Hp} (e0 : hR h x0 0 = some L) (g18 : hR h L 18 = some bc) (e : sX5_choices h x0 v = some o) : o.2 = h ∧ (o.1 = 0 ∨ o.1 = hI h bc (fd 12 v).toNatClampNeg) := by
  have b25 : ∀ {t : Int32} {o : Int32 × Hp}, sX5_choices_25 h x0 v t = some o → o.2 = h ∧ (o.1 = 0 ∨ o.1 = hI h bc (fd 12 v).toNatClampNeg) := fun {t o} e => by
    unfold sX5_choices_25 sX5_choices_66 sX5_choices_67 at e
    replace e := br_s e
    rcases e with ⟨_, e⟩ | ⟨_, e⟩
    · replace e := cl_s e
      obtain ⟨_, _, e⟩ := e
      replace e := cl_s e
      obtain ⟨o3, e3, e⟩ := e
      have q3 : o3.2 = h := by unfold sX5_comeTo at e3; rw [← Option.some.inj e3]
      rw [q3] at e
      replace e := cl_s e
      obtain ⟨_, _, e⟩ := e
      replace e := cl_s e
      obtain ⟨o5, e5, e⟩ := e
      rw [il_h e5] at e
      replace e := br_s e
      rcases e with ⟨_, e⟩ | ⟨_, e⟩
      · rw [← Option.some.inj e]; exact ⟨rfl, Or.inl rfl⟩
      replace e := cl_s e
      obtain ⟨r7, g7, e⟩ := e
      have y7 : r7 = L := r_eq e0 g7
      subst y7
      replace e := cl_s e
      obtain ⟨r8, g8, e⟩ := e
      have y8 : r8 = bc := r_eq g18 g8
      subst y8
      replace e := cl_s e
      obtain ⟨o9, e9, e⟩ := e
      have q9 : o9.2 = h ∧ o9.1 = fd 12 v := by unfold sX5_manOf at e9; rw [← Option.some.inj e9]; exact ⟨rfl, rfl⟩
      rw [q9.1, q9.2] at e
      replace e := (gd_s e).2
      rw [← Option.some.inj e]
      exact ⟨rfl, Or.inr rfl⟩
    · rw [← Option.some.inj e]; exact ⟨rfl, Or.inl rfl⟩
  unfold sX5_choices sX5_choices_24 at e
  replace e := cl_s e
  obtain ⟨_, _, e⟩ := e
  replace e := cl_s e
  obtain ⟨o2, e2, e⟩ := e
  rw [has_h e2] at e
  replace e := br_s e
  rcases e with ⟨_, e⟩ | ⟨_, e⟩
  · exact b25 e
  replace e := cl_s e
  obtain ⟨o4, e4, e⟩ := e
  rw [tkn_h e4] at e
  replace e := br_s e
  rcases e with ⟨_, e⟩ | ⟨_, e⟩
  · exact b25 e
  · exact b25 e
/-- what the men's steps leave -/
def LO (ρ : Nat → Nat) (x0 r : Nat) (n m : Int) (h o : Hp) : Prop := KL6 ρ h o ∧ LsX x0 r n m o ∧ (hI h x0 6).toInt ≤ (hI o x0 6).toInt
theorem lo_t (a : LO ρ x0 r n m h g) (b : LO ρ x0 r n m g o) : LO ρ x0 r n m h o := ⟨k6_t a.1 b.1, b.2.1, Int.le_trans a.2.2 b.2.2⟩
theorem lo_0 (X : LsX x0 r n m h) : LO ρ x0 r n m h h := ⟨k6_0, X, Int.le_refl _⟩
theorem st_120 {K : Hp → Nat → Int32 → Int32 → Int32 → Int32 → Int32 → Option Hp} {x4 x5 x7 x8 : Int32} {hh : Hp} (i2 : Rg 0 23 x2) (l2 : x2.toInt < 2 * m) (M : MvX n m x7) (R : ∀ {h o : Hp} {v : Int32}, KL6 ρ hh h → CoB ρ x0 L wy b r a0 a1 on bm bc n m h → LsX x0 r n m h → K h x0 x1 x2 x3 x4 v = some o → LO ρ x0 r n m h o) : ∀ (f : Nat) {h o : Hp} {x9 : Int32}, KL6 ρ hh h → CoB ρ x0 L wy b r a0 a1 on bm bc n m h → LsX x0 r n m h → 0 ≤ x9.toInt → (x8 = 0 ∨ x8 = hI h bc (x2 >>> ((1 : Int32) &&& 31)).toNatClampNeg) → sX5_addSteps_120 F K f h x0 x1 x2 x3 x4 x5 x7 x8 x9 = some o → LO ρ x0 r n m h o := by
  intro f
  induction f with
  | zero => intro h o x9 _ _ _ _ _ e; exact absurd e (by rw [sX5_addSteps_120]; exact fun z => nomatch z)
  | succ f ih =>
    intro h o x9 kk B X a9 C e
    rw [sX5_addSteps_120] at e
    unfold sX5_addSteps_170 at e
    have B' := B
    obtain ⟨⟨e0, e1, e4, e5, f0, f1, eo, g17, g18⟩, ⟨r0, rL, rw', rb, rr', q0, q1, qo, m1, c1⟩, W, O, XB, m12, n64, eL2, eL3⟩ := B
    replace e := br_s e
    rcases e with ⟨l, e⟩ | ⟨l, e⟩
    · replace e := br_s e
      rcases e with ⟨_, e⟩ | ⟨_, e⟩
      · replace e := cl_s e
        obtain ⟨o3, e3, e⟩ := e
        have A := addm_l r0 rr' e5 X M e3
        replace e := nm_s e
        obtain ⟨_, _, e⟩ := e
        exact lo_t A (R (k6_t kk A.1) (cob_k A.1 B') A.2.1 e)
      · replace e := nm_s e
        obtain ⟨_, _, e⟩ := e
        exact R kk B' X e
    have l := nle_i l
    have i20 := i2.1
    have i21 := i2.2
    have ik : Rg 0 11 (x2 >>> ((1 : Int32) &&& 31)) := rg_shrk (lo := 0) (hi := 11) 1 rfl i2 (by decide)
    have ck := clamp_i ik.1
    have ik1 := ik.2
    have c9 := clamp_i a9
    have z0 : (0 : Int32).toInt = 0 := rfl
    have e8 : x8 = hI h bc (x2 >>> ((1 : Int32) &&& 31)).toNatClampNeg := by
      rcases C with C | C
      · rw [C, z0] at l; omega
      · exact C
    obtain ⟨u1, u2⟩ := XB (x2 >>> ((1 : Int32) &&& 31)).toNatClampNeg (by omega)
    rw [← e8] at u1 u2
    obtain ⟨y0, y1⟩ := u2 x9.toNatClampNeg (by omega)
    have z6 : (6 : Int32).toInt = 6 := rfl
    have t1 : ((x2 >>> ((1 : Int32) &&& 31)) * (6 : Int32)).toInt = (x2 >>> ((1 : Int32) &&& 31)).toInt * 6 := by rw [tm (by rw [z6]; omega), z6]
    have t2 : (((x2 >>> ((1 : Int32) &&& 31)) * (6 : Int32)) + x9).toInt = (x2 >>> ((1 : Int32) &&& 31)).toInt * 6 + x9.toInt := by rw [ta (by rw [t1]; omega), t1]
    have ct := clamp_i (v := ((x2 >>> ((1 : Int32) &&& 31)) * (6 : Int32)) + x9) (by omega)
    have ix : (((x2 >>> ((1 : Int32) &&& 31)) * (6 : Int32)) + x9).toNatClampNeg = 6 * (x2 >>> ((1 : Int32) &&& 31)).toNatClampNeg + x9.toNatClampNeg := by omega
    replace e := cl_s e
    obtain ⟨r4, g4, e⟩ := e
    have y4 : r4 = L := r_eq e0 g4
    subst y4
    replace e := cl_s e
    obtain ⟨r5, g5, e⟩ := e
    have y5 : r5 = bm := r_eq g17 g5
    subst y5
    replace e := (gd_s e).2
    rw [ix] at e
    replace e := cl_s e
    obtain ⟨o7, e7, e⟩ := e
    have q7 : o7.2 = h ∧ MvX n m o7.1 := by
      unfold sX5_becoming at e7
      rw [← Option.some.inj e7]
      exact ⟨rfl, mvx_become M ⟨y0, by omega⟩ y1⟩
    rw [q7.1] at e
    replace e := cl_s e
    obtain ⟨o8, e8', e⟩ := e
    have A := addm_l r0 rr' e5 X q7.2 e8'
    replace e := nm_s e
    obtain ⟨v9, w9, e⟩ := e
    have z1 : (1 : Int32).toInt = 1 := rfl
    have t9 : v9.toInt = x9.toInt + 1 := by rw [w9, ta (by rw [z1]; omega), z1]
    clear w9
    exact lo_t A (ih (k6_t kk A.1) (cob_k A.1 B') A.2.1 (by omega) (Or.inr (by rw [A.1.2.1 bc _ c1.1 c1.2]; exact e8)) e)
theorem st_45 {x4 : Int32} (i1 : Rg 0 63 x1) (l1 : x1.toInt < n) (i2 : Rg 0 23 x2) (l2 : x2.toInt < 2 * m) : ∀ (f : Nat) {h o : Hp} {x3 x5 : Int32}, CoB ρ x0 L wy b r a0 a1 on bm bc n m h → LsX x0 r n m h → x4.toInt ≤ (hI h wy 8).toInt → sX5_addSteps_45 F f h x0 x1 x2 x3 x4 x5 = some o → LO ρ x0 r n m h o := by
  intro f
  induction f with
  | zero => intro h o x3 x5 _ _ _ e; exact absurd e (by rw [sX5_addSteps_45]; exact fun z => nomatch z)
  | succ f ih =>
    intro h o x3 x5 B X l4 e
    rw [sX5_addSteps_45] at e
    unfold sX5_addSteps_170 at e
    have B' := B
    obtain ⟨⟨e0, e1, e4, e5, f0, f1, eo, g17, g18⟩, ⟨r0, rL, rw', rb, rr', q0, q1, qo, m1, c1⟩, W, O, XB, m12, n64, eL2, eL3⟩ := B
    replace e := br_s e
    rcases e with ⟨_, e⟩ | ⟨l, e⟩
    · rw [← Option.some.inj e]; exact lo_0 X
    have l := nle_i l
    replace e := cl_s e
    obtain ⟨r2, g2, e⟩ := e
    have y2 : r2 = wy := r_eq e1 g2
    subst y2
    replace e := cl_s e
    obtain ⟨r3, g3, e⟩ := e
    have y3 : r3 = a1 := r_eq f1 g3
    subst y3
    have hb := (gd_s e).1
    replace e := (gd_s e).2
    have a5 : 0 ≤ x5.toInt := nlt_i (x := x5) (y := (0 : Int32)) (fun z => hb (Or.inl z))
    have c5 := clamp_i a5
    have lw : ((hI h r3 x5.toNatClampNeg) &&& (63 : Int32)).toInt < n := W.2.1 x5.toNatClampNeg (by omega)
    replace e := nm_s e
    obtain ⟨v5, _, e⟩ := e
    replace e := br_s e
    rcases e with ⟨_, e⟩ | ⟨_, e⟩
    · replace e := nm_s e
      obtain ⟨_, _, e⟩ := e
      exact ih B' X l4 e
    replace e := cl_s e
    obtain ⟨_, _, e⟩ := e
    replace e := cl_s e
    obtain ⟨_, _, e⟩ := e
    replace e := cl_s e
    obtain ⟨o9, e9, e⟩ := e
    rw [leads_h e9] at e
    replace e := br_s e
    rcases e with ⟨_, e⟩ | ⟨_, e⟩
    · replace e := nm_s e
      obtain ⟨_, _, e⟩ := e
      exact ih B' X l4 e
    replace e := cl_s e
    obtain ⟨o11, e11, e⟩ := e
    obtain ⟨q11, M11, K11⟩ := mva_l (m := m) e1 f1 i1 l1 i2 l2 lw e11
    rw [q11] at e
    replace e := cl_s e
    obtain ⟨o12, e12, e⟩ := e
    obtain ⟨q12, C12⟩ := cho_l e0 g18 e12
    rw [q12] at e
    rw [K11] at C12
    exact st_120 (hh := h) i2 l2 M11 (fun {h2 o2 v2} k2 B2 X2 e2 => ih B2 X2 (by rw [k2.2.1 r2 8 (by rw [rw']; decide) (by rw [rw']; decide)]; exact l4) e2) F k6_0 B' X (by decide) C12 e
theorem steps_l (B : CoB ρ x0 L wy b r a0 a1 on bm bc n m h) (X : LsX x0 r n m h) (i1 : Rg 0 63 x1) (mn : 0 ≤ (hI h on x1.toNatClampNeg).toInt) (e : sX5_addSteps F h x0 x1 = some o) : LO ρ x0 r n m h o := by
  have B' := B
  obtain ⟨⟨e0, e1, e4, e5, f0, f1, eo, g17, g18⟩, ⟨r0, rL, rw', rb, rr', q0, q1, qo, m1, c1⟩, W, O, XB, m12, n64, eL2, eL3⟩ := B
  have cx := clamp_i i1.1
  have i10 := i1.1
  have i11 := i1.2
  obtain ⟨lx, lc⟩ := O x1.toNatClampNeg (by omega) mn
  unfold sX5_addSteps sX10_cell at e
  replace e := cl_s e
  obtain ⟨r1, h1, e⟩ := e
  have y1 : r1 = b := r_eq e4 h1
  subst y1
  replace e := cl_s e
  obtain ⟨r2, h2, e⟩ := e
  have y2 : r2 = on := r_eq eo h2
  subst y2
  replace e := (gd_s e).2
  replace e := nm_s e
  obtain ⟨v4, w4, e⟩ := e
  rw [← w4] at mn lc
  clear w4
  replace e := cl_s e
  obtain ⟨r5, h5, e⟩ := e
  have y5 : r5 = wy := r_eq e1 h5
  subst y5
  replace e := cl_s e
  obtain ⟨r6, h6, e⟩ := e
  have y6 : r6 = a0 := r_eq f0 h6
  subst y6
  replace e := cl_s e
  obtain ⟨o7, e7, e⟩ := e
  have z64 : (64 : Int32).toInt = 64 := rfl
  have q7 : o7.2 = h ∧ o7.1.toInt = (v4.toInt * 64 + x1.toInt) * 64 + 64 := by
    rw [← Option.some.inj e7]
    refine ⟨rfl, ?_⟩
    show ((((v4 * (64 : Int32)) + x1) * (64 : Int32)) + (64 : Int32)).toInt = _
    have t1 : (v4 * (64 : Int32)).toInt = v4.toInt * 64 := by rw [tm (by rw [z64]; omega), z64]
    have t2 : ((v4 * (64 : Int32)) + x1).toInt = v4.toInt * 64 + x1.toInt := by rw [ta (by rw [t1]; omega), t1]
    have t3 : (((v4 * (64 : Int32)) + x1) * (64 : Int32)).toInt = (v4.toInt * 64 + x1.toInt) * 64 := by rw [tm (by rw [z64, t2]; omega), z64, t2]
    rw [ta (by rw [t3, z64]; omega), t3, z64]
  obtain ⟨q71, q72⟩ := q7
  clear e7
  rw [q71] at e
  have c7 := clamp_i (v := o7.1) (by omega)
  replace e := (gd_s e).2
  replace e := nm_s e
  obtain ⟨v9, w9, e⟩ := e
  have l9 : v9.toInt ≤ (hI h r5 8).toInt := by
    rw [w9]
    exact W.2.2 o7.1.toNatClampNeg (by omega)
  replace e := cl_s e
  obtain ⟨_, _, e⟩ := e
  replace e := cl_s e
  obtain ⟨_, _, e⟩ := e
  replace e := cl_s e
  obtain ⟨o12, e12, e⟩ := e
  have q12 : o12.2 = h := by rw [← Option.some.inj e12]
  clear e12
  rw [q12] at e
  replace e := (gd_s e).2
  replace e := nm_s e
  obtain ⟨v14, _, e⟩ := e
  exact st_45 i1 (by omega) ⟨mn, by omega⟩ lc F B' X l9 e
end
end
