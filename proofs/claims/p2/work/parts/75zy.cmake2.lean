/-! blast and make keep men of the law -/
section
variable {ρ : Nat → Nat} {c : Cm} {h o g : Hp} {x0 p L F : Nat} {n m : Int} {x1 x2 x3 : Int32}
theorem has_h {a : Nat} {o : Int32 × Hp} (e : sX1_has h a x1 = some o) : o.2 = h := by
  unfold sX1_has sX1_has_14 at e
  replace e := br_s e
  rcases e with ⟨_, e⟩ | ⟨_, e⟩
  · rw [← Option.some.inj (gd_s e).2]
  · rw [← Option.some.inj (gd_s e).2]
theorem tkn_h {o : Int32 × Hp} (e : sX5_takenBy h x1 = some o) : o.2 = h := by
  unfold sX5_takenBy sX5_takenBy_19 at e
  simp only [nm] at e
  replace e := br_s e
  rcases e with ⟨_, e⟩ | ⟨_, e⟩
  · rw [← Option.some.inj e]
  · rw [← Option.some.inj e]
theorem occ_h {o : Int64 × Hp} (e : sX3_occupied h p = some o) : o.2 = h := by
  unfold sX3_occupied at e
  replace e := cl_s e
  obtain ⟨_, _, e⟩ := e
  replace e := (gd_s e).2
  replace e := cl_s e
  obtain ⟨_, _, e⟩ := e
  replace e := (gd_s e).2
  rw [← Option.some.inj e]
theorem low_h {x : Int64} {o : Int32 × Hp} (e : sX11_lowest h x = some o) : o.2 = h := by
  unfold sX11_lowest at e
  rw [← Option.some.inj (gd_s e).2]
theorem off_x (P : PR ρ p h) (e : sX3_put h p x1 (-1 : Int32) x3 = some o) : PxC ρ n m h o ∧ Sd5 ρ h o := put_x P (rg_m (rg_b rfl : Rg (-1) (-1) (-1 : Int32)) (by decide)) (fun z => absurd z (by decide)) e
theorem bl_58 : ∀ (f : Nat) {h o : Hp} {x4 : Int64} {x6 : Int32}, PR ρ p h → sX5_blast_58 F f h x0 p x4 x6 = some o → PxC ρ n m h o ∧ Sd5 ρ h o := by
  intro f
  induction f with
  | zero => intro h o x4 x6 _ e; exact absurd e (by rw [sX5_blast_58]; exact fun z => nomatch z)
  | succ f ih =>
    intro h o x4 x6 P e
    rw [sX5_blast_58] at e
    unfold sX5_blast_130 sX5_blast_124 at e
    simp only [nm] at e
    replace e := br_s e
    rcases e with ⟨_, e⟩ | ⟨_, e⟩
    · rw [← Option.some.inj e]; exact ⟨px_0, fun _ _ => rfl⟩
    replace e := br_s e
    rcases e with ⟨_, e⟩ | ⟨_, e⟩
    · rw [← Option.some.inj e]; exact ⟨px_0, fun _ _ => rfl⟩
    replace e := cl_s e
    obtain ⟨o3, e3, e⟩ := e
    rw [low_h e3] at e
    replace e := cl_s e
    obtain ⟨_, _, e⟩ := e
    replace e := cl_s e
    obtain ⟨_, _, e⟩ := e
    replace e := (gd_s e).2
    replace e := br_s e
    rcases e with ⟨_, e⟩ | ⟨_, e⟩
    · replace e := cl_s e
      obtain ⟨_, _, e⟩ := e
      replace e := cl_s e
      obtain ⟨o10, e10, e⟩ := e
      obtain ⟨k1, s1⟩ := off_x (n := n) (m := m) P e10
      obtain ⟨k2, s2⟩ := ih (pr_k k1.1 P) e
      exact ⟨px_t k1 k2, sd_t s1 s2⟩
    · exact ih P e
theorem blast_x (P : PR ρ p h) (e : sX5_blast F h x0 p x2 = some o) : PxC ρ n m h o ∧ Sd5 ρ h o := by
  unfold sX5_blast sX5_blast_20 at e
  simp only [nm] at e
  replace e := cl_s e
  obtain ⟨_, _, e⟩ := e
  replace e := cl_s e
  obtain ⟨o2, e2, e⟩ := e
  rw [has_h e2] at e
  replace e := br_s e
  rcases e with ⟨_, e⟩ | ⟨_, e⟩
  · rw [← Option.some.inj e]; exact ⟨px_0, fun _ _ => rfl⟩
  replace e := cl_s e
  obtain ⟨o4, e4, e⟩ := e
  rw [tkn_h e4] at e
  replace e := br_s e
  rcases e with ⟨_, e⟩ | ⟨_, e⟩
  · rw [← Option.some.inj e]; exact ⟨px_0, fun _ _ => rfl⟩
  replace e := cl_s e
  obtain ⟨o6, e6, e⟩ := e
  have q6 : o6.2 = h := by unfold sX5_comeTo at e6; rw [← Option.some.inj e6]
  rw [q6] at e
  replace e := cl_s e
  obtain ⟨_, _, e⟩ := e
  replace e := cl_s e
  obtain ⟨o8, e8, e⟩ := e
  obtain ⟨k1, s1⟩ := off_x (n := n) (m := m) P e8
  replace e := cl_s e
  obtain ⟨_, _, e⟩ := e
  replace e := cl_s e
  obtain ⟨_, _, e⟩ := e
  replace e := (gd_s e).2
  replace e := cl_s e
  obtain ⟨o12, e12, e⟩ := e
  rw [occ_h e12] at e
  obtain ⟨k2, s2⟩ := bl_58 F (pr_k k1.1 P) e
  exact ⟨px_t k1 k2, sd_t s1 s2⟩
theorem hit_133 {K : Hp → Nat → Nat → Int32 → Int64 → Int64 → Int32 → Option (Int32 × Hp)} {x4 x6 : Int64} {x8 : Int32} (R : ∀ {v : Int32} {o : Int32 × Hp}, K h x0 p x2 x4 x6 v = some o → o.2 = h) : ∀ (f : Nat) {x13 x14 : Int32} {o : Int32 × Hp}, sX5_isHit_133 F K f h x0 p x2 x4 x6 x8 x13 x14 = some o → o.2 = h := by
  intro f
  induction f with
  | zero => intro x13 x14 o e; exact absurd e (by rw [sX5_isHit_133]; exact fun z => nomatch z)
  | succ f ih =>
    intro x13 x14 o e
    rw [sX5_isHit_133] at e
    unfold sX5_isHit_249 sX5_isHit_226 at e
    simp only [nm] at e
    have b227 : ∀ {x15 t : Int32}, sX5_isHit_227 F K (sX5_isHit_133 F K f) h x0 p x2 x4 x6 x8 x13 x14 x15 t = some o → o.2 = h := fun {x15 t} e => by
      unfold sX5_isHit_227 sX5_isHit_243 at e
      simp only [nm] at e
      replace e := br_s e
      rcases e with ⟨_, e⟩ | ⟨_, e⟩
      · exact ih e
      replace e := br_s e
      rcases e with ⟨_, e⟩ | ⟨_, e⟩
      · rw [← Option.some.inj e]
      · exact ih e
    replace e := cl_s e
    obtain ⟨_, _, e⟩ := e
    replace e := cl_s e
    obtain ⟨_, _, e⟩ := e
    replace e := (gd_s e).2
    replace e := br_s e
    rcases e with ⟨_, e⟩ | ⟨_, e⟩
    · exact R e
    replace e := cl_s e
    obtain ⟨_, _, e⟩ := e
    replace e := cl_s e
    obtain ⟨_, _, e⟩ := e
    replace e := (gd_s e).2
    replace e := cl_s e
    obtain ⟨_, _, e⟩ := e
    replace e := cl_s e
    obtain ⟨_, _, e⟩ := e
    replace e := (gd_s e).2
    replace e := br_s e
    rcases e with ⟨_, e⟩ | ⟨_, e⟩
    · replace e := br_s e
      rcases e with ⟨_, e⟩ | ⟨_, e⟩
      · exact b227 e
      · exact b227 e
    replace e := br_s e
    rcases e with ⟨_, e⟩ | ⟨_, e⟩
    · exact b227 e
    replace e := br_s e
    rcases e with ⟨_, e⟩ | ⟨_, e⟩
    · exact b227 e
    · exact b227 e
theorem hit_26 {x4 : Int64} : ∀ (f : Nat) {x6 : Int64} {x8 : Int32} {o : Int32 × Hp}, sX5_isHit_26 F f h x0 p x2 x4 x6 x8 = some o → o.2 = h := by
  intro f
  induction f with
  | zero => intro x6 x8 o e; exact absurd e (by rw [sX5_isHit_26]; exact fun z => nomatch z)
  | succ f ih =>
    intro x6 x8 o e
    rw [sX5_isHit_26] at e
    unfold sX5_isHit_255 sX5_isHit_249 at e
    replace e := br_s e
    rcases e with ⟨_, e⟩ | ⟨_, e⟩
    · rw [← Option.some.inj e]
    replace e := br_s e
    rcases e with ⟨_, e⟩ | ⟨_, e⟩
    · rw [← Option.some.inj e]
    replace e := nm_s e
    obtain ⟨_, _, e⟩ := e
    replace e := nm_s e
    obtain ⟨_, _, e⟩ := e
    replace e := (gd_s e).2
    replace e := nm_s e
    obtain ⟨_, _, e⟩ := e
    replace e := cl_s e
    obtain ⟨_, _, e⟩ := e
    replace e := (gd_s e).2
    replace e := nm_s e
    obtain ⟨_, _, e⟩ := e
    replace e := cl_s e
    obtain ⟨_, _, e⟩ := e
    replace e := cl_s e
    obtain ⟨_, _, e⟩ := e
    replace e := (gd_s e).2
    replace e := br_s e
    rcases e with ⟨_, e⟩ | ⟨_, e⟩
    · replace e := nm_s e
      obtain ⟨_, _, e⟩ := e
      exact ih e
    replace e := nm_s e
    obtain ⟨_, _, e⟩ := e
    replace e := cl_s e
    obtain ⟨_, _, e⟩ := e
    replace e := cl_s e
    obtain ⟨_, _, e⟩ := e
    replace e := (gd_s e).2
    replace e := nm_s e
    obtain ⟨_, _, e⟩ := e
    exact hit_133 (fun e => ih e) F e
theorem hit_h {o : Int32 × Hp} (e : sX5_isHit F h x0 p x2 x3 = some o) : o.2 = h := by
  unfold sX5_isHit at e
  simp only [nm] at e
  replace e := cl_s e
  obtain ⟨_, _, e⟩ := e
  replace e := (gd_s e).2
  replace e := cl_s e
  obtain ⟨_, _, e⟩ := e
  replace e := (gd_s e).2
  replace e := cl_s e
  obtain ⟨_, _, e⟩ := e
  replace e := (gd_s e).2
  exact hit_26 F e
theorem rhit_h {o : Int32 × Hp} (e : sX5_isRoyalHit F h x0 p x2 = some o) : o.2 = h := by
  unfold sX5_isRoyalHit sX5_isRoyalHit_31 sX5_isRoyalHit_32 at e
  replace e := cl_s e
  obtain ⟨_, _, e⟩ := e
  replace e := (gd_s e).2
  replace e := br_s e
  rcases e with ⟨_, e⟩ | ⟨_, e⟩
  · rw [← Option.some.inj (gd_s e).2]
  replace e := cl_s e
  obtain ⟨_, _, e⟩ := e
  replace e := (gd_s e).2
  replace e := cl_s e
  obtain ⟨o6, e6, e⟩ := e
  rw [hit_h e6] at e
  replace e := br_s e
  rcases e with ⟨_, e⟩ | ⟨_, e⟩
  · rw [← Option.some.inj (gd_s e).2]
  · rw [← Option.some.inj (gd_s e).2]
theorem addp_x (e : sX3_addPass h p x1 = some o) : PxC ρ n m h o := by
  unfold sX3_addPass sX3_addPass_22 sX3_addPass_66 sX3_passSize at e
  simp only [nm] at e
  replace e := cl_s e
  obtain ⟨o1, e1, e⟩ := e
  have y1 := Option.some.inj e1
  subst y1
  replace e := br_s e
  rcases e with ⟨_, e⟩ | ⟨_, e⟩
  · rw [← Option.some.inj e]; exact px_J
  replace e := br_s e
  rcases e with ⟨_, e⟩ | ⟨_, e⟩
  · replace e := br_s e
    rcases e with ⟨_, e⟩ | ⟨_, e⟩
    · rw [← Option.some.inj e]; exact px_t px_J px_J
    · rw [← Option.some.inj e]; exact px_t px_J px_J
  · rw [← Option.some.inj e]; exact px_J
theorem np_56 {x5 x6 : Int32} : ∀ (f : Nat) {h o : Hp} {x7 : Int32}, sX5_notePass_56 F f h p x3 x5 x6 x7 = some o → PxC ρ n m h o := by
  intro f
  induction f with
  | zero => intro h o x7 e; exact absurd e (by rw [sX5_notePass_56]; exact fun z => nomatch z)
  | succ f ih =>
    intro h o x7 e
    rw [sX5_notePass_56] at e
    simp only [nm] at e
    replace e := br_s e
    rcases e with ⟨_, e⟩ | ⟨_, e⟩
    · rw [← Option.some.inj e]; exact px_0
    replace e := cl_s e
    obtain ⟨o2, e2, e⟩ := e
    exact px_t (addp_x e2) (ih e)
theorem notep_x (e : sX5_notePass F h x0 p x2 = some o) : PxC ρ n m h o := by
  unfold sX5_notePass sX5_notePass_31 at e
  simp only [nm] at e
  replace e := cl_s e
  obtain ⟨o1, e1, e⟩ := e
  have k1 : PxC ρ n m h o1 := by
    unfold sX3_clearPass at e1
    simp only [nm] at e1
    rw [← Option.some.inj e1]; exact px_t px_J px_J
  replace e := cl_s e
  obtain ⟨o2, e2, e⟩ := e
  have q2 : o2.2 = o1 := by unfold sX5_passedBy at e2; rw [← Option.some.inj e2]
  replace e := cl_s e
  obtain ⟨o3, e3, e⟩ := e
  have q3 : o3.2 = o1 := by unfold sX5_comeTo at e3; rw [← Option.some.inj e3]; exact q2
  rw [q3] at e
  replace e := br_s e
  rcases e with ⟨_, e⟩ | ⟨_, e⟩
  · rw [← Option.some.inj e]; exact k1
  replace e := cl_s e
  obtain ⟨_, _, e⟩ := e
  replace e := (gd_s e).2
  replace e := br_s e
  rcases e with ⟨_, e⟩ | ⟨_, e⟩
  · rw [← Option.some.inj e]; exact k1
  replace e := cl_s e
  obtain ⟨o8, e8, e⟩ := e
  have q8 : o8.2 = o1 := by unfold sX5_leftBy at e8; rw [← Option.some.inj e8]
  rw [q8] at e
  replace e := (gd_s e).2
  replace e := cl_s e
  obtain ⟨o11, e11, e⟩ := e
  exact px_t k1 (px_t (addp_x e11) (np_56 F e))
theorem ath_x (e : sX3_addToHand h p x1 x2 x3 = some o) : PxC ρ n m h o := by
  unfold sX3_addToHand at e
  simp only [nm] at e
  replace e := cl_s e
  obtain ⟨_, _, e⟩ := e
  replace e := (gd_s (gd_s e).2).2
  rw [← Option.some.inj e]; exact px_J
theorem mk_216 {t0 : Int32} (P : PR ρ p h) (e : sX5_make_216 F h x0 p x3 t0 p = some o) : PxC ρ n m h o := by
  unfold sX5_make_216 sX5_make_267 at e
  simp only [nm] at e
  have n2 : kq (ρ p) = true := by rw [P.1]; rfl
  have n34 : ¬ ρ p = 34 := by rw [P.1]; decide
  have k2 : PxC ρ n m h (wI (wI h p 6 t0) p 5 ((1 : Int32) - x3)) := px_t (px_I n2 n34) (px_I n2 n34)
  replace e := cl_s e
  obtain ⟨_, _, e⟩ := e
  replace e := br_s e
  rcases e with ⟨_, e⟩ | ⟨_, e⟩
  · rw [← Option.some.inj e]; exact k2
  replace e := cl_s e
  obtain ⟨o5, e5, e⟩ := e
  rw [rhit_h e5] at e
  replace e := br_s e
  rcases e with ⟨_, e⟩ | ⟨_, e⟩
  · rw [← Option.some.inj e]; exact k2
  replace e := cl_s e
  obtain ⟨r7, e7, e⟩ := e
  have q7 : ρ r7 = 38 := P.2.2.2 r7 e7
  replace e := cl_s e
  obtain ⟨_, _, e⟩ := e
  replace e := (gd_s (gd_s e).2).2
  rw [← Option.some.inj e]
  exact px_t k2 (px_I (by rw [q7]; decide) (by rw [q7]; decide))
theorem mk_151 {x4 x5 x6 : Int32} (P : PR ρ p h) (e : sX5_make_151 F h x0 p x2 x3 x4 x5 x6 = some o) : PxC ρ n m h o := by
  unfold sX5_make_151 sX5_make_187 sX5_make_191 at e
  replace e := cl_s e
  obtain ⟨o1, e1, e⟩ := e
  have k1 : PxC ρ n m h o1 := notep_x e1
  have b192 : ∀ {t : Int32}, sX5_make_192 F o1 x0 p x3 t = some o → PxC ρ n m h o := fun {t} e => by
    unfold sX5_make_192 at e
    replace e := br_s e
    rcases e with ⟨_, e⟩ | ⟨_, e⟩
    · exact px_t k1 (mk_216 (pr_k k1.1 P) e)
    · exact px_t k1 (mk_216 (pr_k k1.1 P) e)
  replace e := br_s e
  rcases e with ⟨_, e⟩ | ⟨_, e⟩
  · replace e := br_s e
    rcases e with ⟨_, e⟩ | ⟨_, e⟩
    · exact b192 e
    replace e := br_s e
    rcases e with ⟨_, e⟩ | ⟨_, e⟩
    · exact b192 e
    replace e := cl_s e
    obtain ⟨_, _, e⟩ := e
    replace e := cl_s e
    obtain ⟨o6, e6, e⟩ := e
    rw [bo_h e6] at e
    replace e := br_s e
    rcases e with ⟨_, e⟩ | ⟨_, e⟩
    · exact b192 e
    · exact b192 e
  · exact b192 e
theorem mk_102 {x4 x5 x6 : Int32} (P : PR ρ p h) (e : sX5_make_102 F h x0 p x2 x3 x4 x5 x6 = some o) : PxC ρ n m h o := by
  unfold sX5_make_102 at e
  replace e := cl_s e
  obtain ⟨_, _, e⟩ := e
  replace e := cl_s e
  obtain ⟨o2, e2, e⟩ := e
  rw [has_h e2] at e
  replace e := br_s e
  rcases e with ⟨_, e⟩ | ⟨_, e⟩
  · exact mk_151 P e
  replace e := br_s e
  rcases e with ⟨_, e⟩ | ⟨_, e⟩
  · exact mk_151 P e
  replace e := cl_s e
  obtain ⟨_, _, e⟩ := e
  replace e := br_s e
  rcases e with ⟨_, e⟩ | ⟨_, e⟩
  · exact mk_151 P e
  replace e := cl_s e
  obtain ⟨o7, e7, e⟩ := e
  have q7 : o7.2 = h := by
    unfold sX3_inHand at e7
    replace e7 := cl_s e7
    obtain ⟨_, _, e7⟩ := e7
    rw [← Option.some.inj (gd_s e7).2]
  rw [q7] at e
  replace e := br_s e
  rcases e with ⟨_, e⟩ | ⟨_, e⟩
  · exact mk_151 P e
  replace e := cl_s e
  obtain ⟨o9, e9, e⟩ := e
  have k9 : PxC ρ n m h o9 := ath_x e9
  exact px_t k9 (mk_151 (pr_k k9.1 P) e)
theorem mk_54 {x4 x5 x6 : Int32} (P : ShP ρ x0 p L m h) (M : MvX n m x2) (e : sX5_make_54 F h x0 p x2 x3 x4 x5 x6 = some o) : PxC ρ n m h o := by
  unfold sX5_make_54 at e
  simp only [nm] at e
  have k1 : PxC ρ n m h (wJ h p 7 (0 : Int64)) := px_J
  replace e := cl_s e
  obtain ⟨o2, e2, e⟩ := e
  have P1 : ShP ρ x0 p L m (wJ h p 7 (0 : Int64)) := sh_k k1 (fun _ _ => rfl) P
  obtain ⟨k2, s2⟩ := shift_x P1 M e2
  replace e := cl_s e
  obtain ⟨o3, e3, e⟩ := e
  have P2 := sh_k k2 s2 P1
  obtain ⟨k3, s3⟩ := blast_x (n := n) (m := m) P2.1 e3
  have k4 : PxC ρ n m h (wJ o3 p 8 ((hJ o3 p 8) &&& ((hJ o3 p 7) ^^^ (-1 : Int64)))) := px_t k1 (px_t k2 (px_t k3 px_J))
  have P4 := pr_k k4.1 P.1
  replace e := br_s e
  rcases e with ⟨_, e⟩ | ⟨_, e⟩
  · replace e := cl_s e
    obtain ⟨o6, e6, e⟩ := e
    have k6 := px_t k4 (ath_x e6)
    exact px_t k6 (mk_102 (pr_k k6.1 P.1) e)
  · exact px_t k4 (mk_102 P4 e)
/-- a move of the law makes men of the law -/
theorem make_x (P : ShP ρ x0 p L m h) (M : MvX n m x2) (e : sX5_make F h x0 p x2 = some o) : PxC ρ n m h o := by
  unfold sX5_make at e
  replace e := nm_s e
  obtain ⟨v1, _, e⟩ := e
  replace e := cl_s e
  obtain ⟨o2, e2, e⟩ := e
  have q2 : o2.2 = h := by unfold sX5_manOf at e2; rw [← Option.some.inj e2]
  replace e := cl_s e
  obtain ⟨o3, e3, e⟩ := e
  have q3 : o3.2 = h := by unfold sX5_kindOf at e3; rw [← Option.some.inj e3]; exact q2
  clear e2
  replace e := cl_s e
  obtain ⟨o4, e4, e⟩ := e
  rw [tkn_h e4, q3] at e
  replace e := cl_s e
  obtain ⟨_, _, e⟩ := e
  replace e := br_s e
  rcases e with ⟨_, e⟩ | ⟨_, e⟩
  · replace e := cl_s e
    obtain ⟨r7, _, e⟩ := e
    replace e := (gd_s e).2
    replace e := nm_s e
    obtain ⟨h9, w9, e⟩ := e
    have k1 : PxC ρ n m h h9 := by rw [w9]; exact px_J
    exact px_t k1 (mk_54 (sh_k k1 (fun a _ => by rw [w9]; rfl) P) M e)
  · exact mk_54 P M e
end
