/-! what the reference's reader leaves as it was -/
def KZ (S : Nat → Prop) (g h : Hp) : Prop := (∀ a i, hR h a i = hR g a i) ∧ (∀ a i, ¬ S a → hI h a i = hI g a i) ∧ ∀ a i, ¬ S a → hJ h a i = hJ g a i
def CLw (S : Nat → Prop) (l : Nat) (g : Hp) : Prop := S l ∧ ∀ i r, ((3 ≤ i ∧ i ≤ 9) ∨ i = 13 ∨ i = 14) → hR g l i = some r → S r
def CR (S : Nat → Prop) (x0 : Nat) (g : Hp) : Prop := S x0 ∧ ∀ l, hR g x0 5 = some l → CLw S l g
theorem kz_0 {S : Nat → Prop} {g : Hp} : KZ S g g := ⟨fun _ _ => rfl, fun _ _ _ => rfl, fun _ _ _ => rfl⟩
theorem ks_wI {S : Nat → Prop} {g h : Hp} {a i : Nat} {v : Int32} (k : KZ S g h) (s : S a) : KZ S g (wI h a i v) := ⟨fun b j => k.1 b j, fun b j n => by rw [rI_a (fun z => n (by rw [z]; exact s))]; exact k.2.1 b j n, fun b j n => k.2.2 b j n⟩
theorem ks_wJ {S : Nat → Prop} {g h : Hp} {a i : Nat} {v : Int64} (k : KZ S g h) (s : S a) : KZ S g (wJ h a i v) := ⟨fun b j => k.1 b j, fun b j n => k.2.1 b j n, fun b j n => by rw [r_J, if_neg (fun z => n (by rw [z.1]; exact s))]; exact k.2.2 b j n⟩
theorem ks_X14_clear_22 {S : Nat → Prop} {g : Hp} {F : Nat} {o : Hp} {x0 : Nat} (C : CLw S x0 g) : ∀ (f : Nat) {h : Hp} {x1 : Int32}, KZ S g h → sX14_clear_22 F f h x0 x1 = some o → KZ S g o := by
  intro f
  induction f with
  | zero => intro h x1 _ e; exact absurd e (by rw [sX14_clear_22]; exact fun z => nomatch z)
  | succ f ih =>
    intro h x1 k e
    rw [sX14_clear_22] at e
    replace e := br_s e
    rcases e with ⟨_, e⟩ | ⟨_, e⟩
    · replace e := nm_s e
      obtain ⟨h_2, wh_2, e⟩ := e
      have kh_2 : KZ S g h_2 := by rw [wh_2]; exact ks_wI k C.1
      replace e := nm_s e
      obtain ⟨h_3, wh_3, e⟩ := e
      have kh_3 : KZ S g h_3 := by rw [wh_3]; exact ks_wI kh_2 C.1
      replace e := nm_s e
      obtain ⟨h_4, wh_4, e⟩ := e
      have kh_4 : KZ S g h_4 := by rw [wh_4]; exact ks_wI kh_3 C.1
      replace e := nm_s e
      obtain ⟨h_5, wh_5, e⟩ := e
      have kh_5 : KZ S g h_5 := by rw [wh_5]; exact ks_wI kh_4 C.1
      replace e := nm_s e
      obtain ⟨h_6, wh_6, e⟩ := e
      have kh_6 : KZ S g h_6 := by rw [wh_6]; exact ks_wI kh_5 C.1
      replace e := nm_s e
      obtain ⟨h_7, wh_7, e⟩ := e
      have kh_7 : KZ S g h_7 := by rw [wh_7]; exact ks_wI kh_6 C.1
      replace e := nm_s e
      obtain ⟨h_8, wh_8, e⟩ := e
      have kh_8 : KZ S g h_8 := by rw [wh_8]; exact ks_wJ kh_7 C.1
      replace e := nm_s e
      obtain ⟨h_9, wh_9, e⟩ := e
      have kh_9 : KZ S g h_9 := by rw [wh_9]; exact ks_wI kh_8 C.1
      replace e := nm_s e
      obtain ⟨h_10, wh_10, e⟩ := e
      have kh_10 : KZ S g h_10 := by rw [wh_10]; exact ks_wI kh_9 C.1
      rw [← Option.some.inj e]; exact kh_10
    · replace e := cl_s e
      obtain ⟨r_11, er_11, e⟩ := e
      replace e := (gd_s e).2
      replace e := nm_s e
      obtain ⟨h_13, wh_13, e⟩ := e
      have kh_13 : KZ S g h_13 := by rw [wh_13]; exact ks_wI k (C.2 _ _ (by decide) ((k.1 _ _).symm.trans er_11))
      replace e := cl_s e
      obtain ⟨r_14, er_14, e⟩ := e
      replace e := (gd_s e).2
      replace e := nm_s e
      obtain ⟨h_16, wh_16, e⟩ := e
      have kh_16 : KZ S g h_16 := by rw [wh_16]; exact ks_wI kh_13 (C.2 _ _ (by decide) ((kh_13.1 _ _).symm.trans er_14))
      replace e := nm_s e
      obtain ⟨v_17, wv_17, e⟩ := e
      exact ih kh_16 e
theorem ks_X14_clear {S : Nat → Prop} {g : Hp} {F : Nat} {o : Hp} {x0 : Nat} (C : CLw S x0 g) {h : Hp} (k : KZ S g h) (e : sX14_clear F h x0 = some o) : KZ S g o := by
  unfold sX14_clear at e
  replace e := nm_s e
  obtain ⟨h_1, wh_1, e⟩ := e
  have kh_1 : KZ S g h_1 := by rw [wh_1]; exact ks_wI k C.1
  replace e := nm_s e
  obtain ⟨h_2, wh_2, e⟩ := e
  have kh_2 : KZ S g h_2 := by rw [wh_2]; exact ks_wI kh_1 C.1
  replace e := nm_s e
  obtain ⟨h_3, wh_3, e⟩ := e
  have kh_3 : KZ S g h_3 := by rw [wh_3]; exact ks_wI kh_2 C.1
  replace e := nm_s e
  obtain ⟨h_4, wh_4, e⟩ := e
  have kh_4 : KZ S g h_4 := by rw [wh_4]; exact ks_wI kh_3 C.1
  exact ks_X14_clear_22 C F kh_4 e
theorem ks_X15_byteAt_12 {S : Nat → Prop} {g : Hp} {o : Int32 × Hp} {t0 : Int32}  {h : Hp} (k : KZ S g h) (e : sX15_byteAt_12 h t0 = some o) : KZ S g o.2 := by
  unfold sX15_byteAt_12 at e
  rw [← Option.some.inj e]; exact k
theorem ks_X15_byteAt {S : Nat → Prop} {g : Hp} {o : Int32 × Hp} {x0 : Nat} {x1 : Nat} {x2 : Int32} {x3 : Int32} (C : CR S x0 g) {h : Hp} (k : KZ S g h) (e : sX15_byteAt h x0 x1 x2 x3 = some o) : KZ S g o.2 := by
  unfold sX15_byteAt at e
  replace e := br_s e
  rcases e with ⟨_, e⟩ | ⟨_, e⟩
  · exact ks_X15_byteAt_12 k e
  · replace e := (gd_s e).2
    exact ks_X15_byteAt_12 k e
theorem ks_X15_isSmall_17 {S : Nat → Prop} {g : Hp} {o : Int32 × Hp} {t0 : Int32}  {h : Hp} (k : KZ S g h) (e : sX15_isSmall_17 h t0 = some o) : KZ S g o.2 := by
  unfold sX15_isSmall_17 at e
  replace e := (gd_s e).2
  rw [← Option.some.inj e]; exact k
theorem ks_X15_isSmall_16 {S : Nat → Prop} {g : Hp} {o : Int32 × Hp}  {h : Hp} (k : KZ S g h) (e : sX15_isSmall_16 h = some o) : KZ S g o.2 := by
  unfold sX15_isSmall_16 at e
  exact ks_X15_isSmall_17 k e
theorem ks_X15_isSmall {S : Nat → Prop} {g : Hp} {o : Int32 × Hp} {x0 : Int32}  {h : Hp} (k : KZ S g h) (e : sX15_isSmall h x0 = some o) : KZ S g o.2 := by
  unfold sX15_isSmall at e
  replace e := br_s e
  rcases e with ⟨_, e⟩ | ⟨_, e⟩
  · exact ks_X15_isSmall_16 k e
  · replace e := br_s e
    rcases e with ⟨_, e⟩ | ⟨_, e⟩
    · exact ks_X15_isSmall_16 k e
    · exact ks_X15_isSmall_17 k e
theorem ks_X15_isDigit_17 {S : Nat → Prop} {g : Hp} {o : Int32 × Hp} {t0 : Int32}  {h : Hp} (k : KZ S g h) (e : sX15_isDigit_17 h t0 = some o) : KZ S g o.2 := by
  unfold sX15_isDigit_17 at e
  replace e := (gd_s e).2
  rw [← Option.some.inj e]; exact k
theorem ks_X15_isDigit_16 {S : Nat → Prop} {g : Hp} {o : Int32 × Hp}  {h : Hp} (k : KZ S g h) (e : sX15_isDigit_16 h = some o) : KZ S g o.2 := by
  unfold sX15_isDigit_16 at e
  exact ks_X15_isDigit_17 k e
theorem ks_X15_isDigit {S : Nat → Prop} {g : Hp} {o : Int32 × Hp} {x0 : Int32}  {h : Hp} (k : KZ S g h) (e : sX15_isDigit h x0 = some o) : KZ S g o.2 := by
  unfold sX15_isDigit at e
  replace e := br_s e
  rcases e with ⟨_, e⟩ | ⟨_, e⟩
  · exact ks_X15_isDigit_16 k e
  · replace e := br_s e
    rcases e with ⟨_, e⟩ | ⟨_, e⟩
    · exact ks_X15_isDigit_16 k e
    · exact ks_X15_isDigit_17 k e
theorem ks_X15_nextToken_308 {S : Nat → Prop} {g : Hp} {F : Nat} {o : Hp}  {h : Hp} (k : KZ S g h) (e : sX15_nextToken_308 F h = some o) : KZ S g o := by
  unfold sX15_nextToken_308 at e
  rw [← Option.some.inj e]; exact k
theorem ks_X15_nextToken_298 {S : Nat → Prop} {g : Hp} {F : Nat} {o : Hp} {x0 : Nat} {x3 : Int32} {t0 : Int32} {t1 : Nat} (C : CR S x0 g) (S_t1 : S t1) {h : Hp} (k : KZ S g h) (e : sX15_nextToken_298 F h x0 x3 t0 t1 = some o) : KZ S g o := by
  unfold sX15_nextToken_298 at e
  replace e := nm_s e
  obtain ⟨h_1, wh_1, e⟩ := e
  have kh_1 : KZ S g h_1 := by rw [wh_1]; exact ks_wI k S_t1
  replace e := nm_s e
  obtain ⟨h_2, wh_2, e⟩ := e
  have kh_2 : KZ S g h_2 := by rw [wh_2]; exact ks_wI kh_1 C.1
  exact ks_X15_nextToken_308 kh_2 e
theorem ks_X15_nextToken_293 {S : Nat → Prop} {g : Hp} {F : Nat} {o : Hp} {x0 : Nat} {x3 : Int32} {t0 : Nat} (C : CR S x0 g) (S_t0 : S t0) {h : Hp} (k : KZ S g h) (e : sX15_nextToken_293 F h x0 x3 t0 = some o) : KZ S g o := by
  unfold sX15_nextToken_293 at e
  exact ks_X15_nextToken_298 C S_t0 k e
theorem ks_X15_nextToken_278 {S : Nat → Prop} {g : Hp} {F : Nat} {o : Hp} {x0 : Nat} {x3 : Int32} {x4 : Int32} (C : CR S x0 g) {h : Hp} (k : KZ S g h) (e : sX15_nextToken_278 F h x0 x3 x4 = some o) : KZ S g o := by
  unfold sX15_nextToken_278 at e
  replace e := br_s e
  rcases e with ⟨_, e⟩ | ⟨_, e⟩
  · exact ks_X15_nextToken_293 C C.1 k e
  · replace e := br_s e
    rcases e with ⟨_, e⟩ | ⟨_, e⟩
    · exact ks_X15_nextToken_293 C C.1 k e
    · exact ks_X15_nextToken_298 C C.1 k e
theorem ks_X15_nextToken_266 {S : Nat → Prop} {g : Hp} {F : Nat} {o : Hp} {x0 : Nat} {x6 : Int32} {t0 : Int32} {t1 : Nat} (C : CR S x0 g) (S_t1 : S t1) {h : Hp} (k : KZ S g h) (e : sX15_nextToken_266 F h x0 x6 t0 t1 = some o) : KZ S g o := by
  unfold sX15_nextToken_266 at e
  replace e := nm_s e
  obtain ⟨h_1, wh_1, e⟩ := e
  have kh_1 : KZ S g h_1 := by rw [wh_1]; exact ks_wI k S_t1
  replace e := nm_s e
  obtain ⟨h_2, wh_2, e⟩ := e
  have kh_2 : KZ S g h_2 := by rw [wh_2]; exact ks_wI kh_1 C.1
  exact ks_X15_nextToken_308 kh_2 e
theorem ks_X15_nextToken_242 {S : Nat → Prop} {g : Hp} {F : Nat} {o : Hp} {x0 : Nat} {x4 : Int32} {x6 : Int32} {t0 : Int32} {t1 : Nat} (C : CR S x0 g) (S_t1 : S t1) {h : Hp} (k : KZ S g h) (e : sX15_nextToken_242 F h x0 x4 x6 t0 t1 = some o) : KZ S g o := by
  unfold sX15_nextToken_242 at e
  replace e := nm_s e
  obtain ⟨h_1, wh_1, e⟩ := e
  have kh_1 : KZ S g h_1 := by rw [wh_1]; exact ks_wI k S_t1
  replace e := br_s e
  rcases e with ⟨_, e⟩ | ⟨_, e⟩
  · exact ks_X15_nextToken_266 C C.1 kh_1 e
  · exact ks_X15_nextToken_266 C C.1 kh_1 e
theorem ks_X15_nextToken_194 {S : Nat → Prop} {g : Hp} {F : Nat} {o : Hp} {x0 : Nat} {x1 : Nat} {x4 : Int32} {x5 : Int32} {x6 : Int32} {t0 : Int32} {t1 : Nat} (C : CR S x0 g) (S_t1 : S t1) {h : Hp} (k : KZ S g h) (e : sX15_nextToken_194 F h x0 x1 x4 x5 x6 t0 t1 = some o) : KZ S g o := by
  unfold sX15_nextToken_194 at e
  replace e := nm_s e
  obtain ⟨h_1, wh_1, e⟩ := e
  have kh_1 : KZ S g h_1 := by rw [wh_1]; exact ks_wI k S_t1
  replace e := (gd_s e).2
  replace e := nm_s e
  obtain ⟨h_3, wh_3, e⟩ := e
  have kh_3 : KZ S g h_3 := by rw [wh_3]; exact ks_wI kh_1 C.1
  replace e := br_s e
  rcases e with ⟨_, e⟩ | ⟨_, e⟩
  · replace e := (gd_s e).2
    exact ks_X15_nextToken_242 C C.1 kh_3 e
  · exact ks_X15_nextToken_242 C C.1 kh_3 e
theorem ks_X15_nextToken_159 {S : Nat → Prop} {g : Hp} {F : Nat} {o : Hp} {x0 : Nat} (C : CR S x0 g) : ∀ (f : Nat) {h : Hp} {x1 : Nat} {x2 : Int32} {x4 : Int32} {x5 : Int32} {x6 : Int32}, KZ S g h → sX15_nextToken_159 F f h x0 x1 x2 x4 x5 x6 = some o → KZ S g o := by
  intro f
  induction f with
  | zero => intro h x1 x2 x4 x5 x6 _ e; exact absurd e (by rw [sX15_nextToken_159]; exact fun z => nomatch z)
  | succ f ih =>
    intro h x1 x2 x4 x5 x6 k e
    rw [sX15_nextToken_159] at e
    replace e := cl_s e
    obtain ⟨o_1, eo_1, e⟩ := e
    have ko_1 : KZ S g o_1.2 := ks_X15_byteAt C k eo_1
    replace e := cl_s e
    obtain ⟨o_2, eo_2, e⟩ := e
    have ko_2 : KZ S g o_2.2 := ks_X15_isDigit ko_1 eo_2
    replace e := br_s e
    rcases e with ⟨_, e⟩ | ⟨_, e⟩
    · replace e := br_s e
      rcases e with ⟨_, e⟩ | ⟨_, e⟩
      · exact ks_X15_nextToken_194 C C.1 ko_2 e
      · exact ks_X15_nextToken_194 C C.1 ko_2 e
    · replace e := nm_s e
      obtain ⟨v_5, wv_5, e⟩ := e
      exact ih ko_2 e
theorem ks_X15_nextToken_153 {S : Nat → Prop} {g : Hp} {F : Nat} {o : Hp} {x0 : Nat} {x1 : Nat} {x2 : Int32} {x4 : Int32} {t0 : Int32} (C : CR S x0 g) {h : Hp} (k : KZ S g h) (e : sX15_nextToken_153 F h x0 x1 x2 x4 t0 = some o) : KZ S g o := by
  unfold sX15_nextToken_153 at e
  exact ks_X15_nextToken_159 C F k e
theorem ks_X15_nextToken_139 {S : Nat → Prop} {g : Hp} {F : Nat} {o : Hp} {x0 : Nat} {x1 : Nat} {x2 : Int32} {x3 : Int32} {x4 : Int32} (C : CR S x0 g) {h : Hp} (k : KZ S g h) (e : sX15_nextToken_139 F h x0 x1 x2 x3 x4 = some o) : KZ S g o := by
  unfold sX15_nextToken_139 at e
  replace e := br_s e
  rcases e with ⟨_, e⟩ | ⟨_, e⟩
  · exact ks_X15_nextToken_153 C k e
  · exact ks_X15_nextToken_153 C k e
theorem ks_X15_nextToken_77 {S : Nat → Prop} {g : Hp} {F : Nat} {o : Hp} {x0 : Nat} (C : CR S x0 g) : ∀ (f : Nat) {h : Hp} {x1 : Nat} {x2 : Int32} {x3 : Int32}, KZ S g h → sX15_nextToken_77 F f h x0 x1 x2 x3 = some o → KZ S g o := by
  intro f
  induction f with
  | zero => intro h x1 x2 x3 _ e; exact absurd e (by rw [sX15_nextToken_77]; exact fun z => nomatch z)
  | succ f ih =>
    intro h x1 x2 x3 k e
    rw [sX15_nextToken_77] at e
    replace e := cl_s e
    obtain ⟨o_1, eo_1, e⟩ := e
    have ko_1 : KZ S g o_1.2 := ks_X15_byteAt C k eo_1
    replace e := cl_s e
    obtain ⟨o_2, eo_2, e⟩ := e
    have ko_2 : KZ S g o_2.2 := ks_X15_isSmall ko_1 eo_2
    replace e := br_s e
    rcases e with ⟨_, e⟩ | ⟨_, e⟩
    · replace e := nm_s e
      obtain ⟨h_4, wh_4, e⟩ := e
      have kh_4 : KZ S g h_4 := by rw [wh_4]; exact ks_wI ko_2 C.1
      replace e := nm_s e
      obtain ⟨h_5, wh_5, e⟩ := e
      have kh_5 : KZ S g h_5 := by rw [wh_5]; exact ks_wI kh_4 C.1
      exact ks_X15_nextToken_308 kh_5 e
    · replace e := nm_s e
      obtain ⟨v_6, wv_6, e⟩ := e
      exact ih ko_2 e
theorem ks_X15_nextToken_32 {S : Nat → Prop} {g : Hp} {F : Nat} {o : Hp} {x0 : Nat} {x1 : Nat} {x2 : Int32} {x3 : Int32} (C : CR S x0 g) {h : Hp} (k : KZ S g h) (e : sX15_nextToken_32 F h x0 x1 x2 x3 = some o) : KZ S g o := by
  unfold sX15_nextToken_32 at e
  replace e := nm_s e
  obtain ⟨h_1, wh_1, e⟩ := e
  have kh_1 : KZ S g h_1 := by rw [wh_1]; exact ks_wI k C.1
  replace e := cl_s e
  obtain ⟨o_2, eo_2, e⟩ := e
  have ko_2 : KZ S g o_2.2 := ks_X15_byteAt C kh_1 eo_2
  replace e := br_s e
  rcases e with ⟨_, e⟩ | ⟨_, e⟩
  · replace e := cl_s e
    obtain ⟨o_4, eo_4, e⟩ := e
    have ko_4 : KZ S g o_4.2 := ks_X15_isSmall ko_2 eo_4
    replace e := br_s e
    rcases e with ⟨_, e⟩ | ⟨_, e⟩
    · replace e := cl_s e
      obtain ⟨o_6, eo_6, e⟩ := e
      have ko_6 : KZ S g o_6.2 := ks_X15_isDigit ko_4 eo_6
      replace e := br_s e
      rcases e with ⟨_, e⟩ | ⟨_, e⟩
      · replace e := br_s e
        rcases e with ⟨_, e⟩ | ⟨_, e⟩
        · replace e := cl_s e
          obtain ⟨o_9, eo_9, e⟩ := e
          have ko_9 : KZ S g o_9.2 := ks_X15_byteAt C ko_6 eo_9
          replace e := cl_s e
          obtain ⟨o_10, eo_10, e⟩ := e
          have ko_10 : KZ S g o_10.2 := ks_X15_isDigit ko_9 eo_10
          replace e := br_s e
          rcases e with ⟨_, e⟩ | ⟨_, e⟩
          · exact ks_X15_nextToken_278 C ko_10 e
          · exact ks_X15_nextToken_139 C ko_10 e
        · exact ks_X15_nextToken_278 C ko_6 e
      · exact ks_X15_nextToken_139 C ko_6 e
    · exact ks_X15_nextToken_77 C F ko_4 e
  · replace e := nm_s e
    obtain ⟨h_12, wh_12, e⟩ := e
    have kh_12 : KZ S g h_12 := by rw [wh_12]; exact ks_wI ko_2 C.1
    replace e := nm_s e
    obtain ⟨h_13, wh_13, e⟩ := e
    have kh_13 : KZ S g h_13 := by rw [wh_13]; exact ks_wI kh_12 C.1
    replace e := nm_s e
    obtain ⟨h_14, wh_14, e⟩ := e
    have kh_14 : KZ S g h_14 := by rw [wh_14]; exact ks_wI kh_13 C.1
    exact ks_X15_nextToken_308 kh_14 e
theorem ks_X15_nextToken_26 {S : Nat → Prop} {g : Hp} {F : Nat} {o : Hp} {x0 : Nat} {x1 : Nat} {x2 : Int32} {x3 : Int32} (C : CR S x0 g) {k_5 : Hp → Nat → Nat → Int32 → Int32 → Option (Hp)} (R_5 : ∀ {h : Hp} {y2 : Nat} {y3 : Int32} {y4 : Int32}, KZ S g h → k_5 h x0 y2 y3 y4 = some o → KZ S g o) {h : Hp} (k : KZ S g h) (e : sX15_nextToken_26 F k_5 h x0 x1 x2 x3 = some o) : KZ S g o := by
  unfold sX15_nextToken_26 at e
  replace e := nm_s e
  obtain ⟨v_1, wv_1, e⟩ := e
  exact R_5 k e
theorem ks_X15_nextToken_5 {S : Nat → Prop} {g : Hp} {F : Nat} {o : Hp} {x0 : Nat} (C : CR S x0 g) : ∀ (f : Nat) {h : Hp} {x1 : Nat} {x2 : Int32} {x3 : Int32}, KZ S g h → sX15_nextToken_5 F f h x0 x1 x2 x3 = some o → KZ S g o := by
  intro f
  induction f with
  | zero => intro h x1 x2 x3 _ e; exact absurd e (by rw [sX15_nextToken_5]; exact fun z => nomatch z)
  | succ f ih =>
    intro h x1 x2 x3 k e
    rw [sX15_nextToken_5] at e
    replace e := br_s e
    rcases e with ⟨_, e⟩ | ⟨_, e⟩
    · exact ks_X15_nextToken_32 C k e
    · replace e := (gd_s e).2
      replace e := br_s e
      rcases e with ⟨_, e⟩ | ⟨_, e⟩
      · exact ks_X15_nextToken_26 C (fun k e => ih k e) k e
      · replace e := (gd_s e).2
        replace e := br_s e
        rcases e with ⟨_, e⟩ | ⟨_, e⟩
        · exact ks_X15_nextToken_26 C (fun k e => ih k e) k e
        · exact ks_X15_nextToken_32 C k e
theorem ks_X15_nextToken {S : Nat → Prop} {g : Hp} {F : Nat} {o : Hp} {x0 : Nat} {x1 : Nat} {x2 : Int32} (C : CR S x0 g) {h : Hp} (k : KZ S g h) (e : sX15_nextToken F h x0 x1 x2 = some o) : KZ S g o := by
  unfold sX15_nextToken at e
  replace e := nm_s e
  obtain ⟨v_1, wv_1, e⟩ := e
  exact ks_X15_nextToken_5 C F k e
theorem ks_X15_isWord_28 {S : Nat → Prop} {g : Hp} {F : Nat} {o : Int32 × Hp} {x0 : Nat} (C : CR S x0 g) : ∀ (f : Nat) {h : Hp} {x1 : Nat} {x2 : Nat} {x3 : Int32}, KZ S g h → sX15_isWord_28 F f h x0 x1 x2 x3 = some o → KZ S g o.2 := by
  intro f
  induction f with
  | zero => intro h x1 x2 x3 _ e; exact absurd e (by rw [sX15_isWord_28]; exact fun z => nomatch z)
  | succ f ih =>
    intro h x1 x2 x3 k e
    rw [sX15_isWord_28] at e
    replace e := br_s e
    rcases e with ⟨_, e⟩ | ⟨_, e⟩
    · rw [← Option.some.inj e]; exact k
    · replace e := (gd_s e).2
      replace e := (gd_s e).2
      replace e := br_s e
      rcases e with ⟨_, e⟩ | ⟨_, e⟩
      · replace e := nm_s e
        obtain ⟨v_5, wv_5, e⟩ := e
        exact ih k e
      · rw [← Option.some.inj e]; exact k
theorem ks_X15_isWord_24 {S : Nat → Prop} {g : Hp} {F : Nat} {o : Int32 × Hp}  {h : Hp} (k : KZ S g h) (e : sX15_isWord_24 F h = some o) : KZ S g o.2 := by
  unfold sX15_isWord_24 at e
  rw [← Option.some.inj e]; exact k
theorem ks_X15_isWord {S : Nat → Prop} {g : Hp} {F : Nat} {o : Int32 × Hp} {x0 : Nat} {x1 : Nat} {x2 : Nat} (C : CR S x0 g) {h : Hp} (k : KZ S g h) (e : sX15_isWord F h x0 x1 x2 = some o) : KZ S g o.2 := by
  unfold sX15_isWord at e
  replace e := br_s e
  rcases e with ⟨_, e⟩ | ⟨_, e⟩
  · replace e := br_s e
    rcases e with ⟨_, e⟩ | ⟨_, e⟩
    · exact ks_X15_isWord_28 C F k e
    · exact ks_X15_isWord_24 k e
  · exact ks_X15_isWord_24 k e
theorem ks_X15_isNumber_29 {S : Nat → Prop} {g : Hp} {o : Int32 × Hp} {t0 : Int32}  {h : Hp} (k : KZ S g h) (e : sX15_isNumber_29 h t0 = some o) : KZ S g o.2 := by
  unfold sX15_isNumber_29 at e
  replace e := (gd_s e).2
  rw [← Option.some.inj e]; exact k
theorem ks_X15_isNumber_28 {S : Nat → Prop} {g : Hp} {o : Int32 × Hp}  {h : Hp} (k : KZ S g h) (e : sX15_isNumber_28 h = some o) : KZ S g o.2 := by
  unfold sX15_isNumber_28 at e
  exact ks_X15_isNumber_29 k e
theorem ks_X15_isNumber {S : Nat → Prop} {g : Hp} {o : Int32 × Hp} {x0 : Nat} {x1 : Int32} {x2 : Int32} (C : CR S x0 g) {h : Hp} (k : KZ S g h) (e : sX15_isNumber h x0 x1 x2 = some o) : KZ S g o.2 := by
  unfold sX15_isNumber at e
  replace e := br_s e
  rcases e with ⟨_, e⟩ | ⟨_, e⟩
  · replace e := br_s e
    rcases e with ⟨_, e⟩ | ⟨_, e⟩
    · exact ks_X15_isNumber_28 k e
    · replace e := br_s e
      rcases e with ⟨_, e⟩ | ⟨_, e⟩
      · exact ks_X15_isNumber_28 k e
      · exact ks_X15_isNumber_29 k e
  · exact ks_X15_isNumber_28 k e
theorem ks_X15_isSign_23 {S : Nat → Prop} {g : Hp} {o : Int32 × Hp} {t0 : Int32}  {h : Hp} (k : KZ S g h) (e : sX15_isSign_23 h t0 = some o) : KZ S g o.2 := by
  unfold sX15_isSign_23 at e
  replace e := (gd_s e).2
  rw [← Option.some.inj e]; exact k
theorem ks_X15_isSign_22 {S : Nat → Prop} {g : Hp} {o : Int32 × Hp}  {h : Hp} (k : KZ S g h) (e : sX15_isSign_22 h = some o) : KZ S g o.2 := by
  unfold sX15_isSign_22 at e
  exact ks_X15_isSign_23 k e
theorem ks_X15_isSign {S : Nat → Prop} {g : Hp} {o : Int32 × Hp} {x0 : Nat} {x1 : Nat} {x2 : Int32} (C : CR S x0 g) {h : Hp} (k : KZ S g h) (e : sX15_isSign h x0 x1 x2 = some o) : KZ S g o.2 := by
  unfold sX15_isSign at e
  replace e := br_s e
  rcases e with ⟨_, e⟩ | ⟨_, e⟩
  · replace e := (gd_s e).2
    replace e := br_s e
    rcases e with ⟨_, e⟩ | ⟨_, e⟩
    · exact ks_X15_isSign_23 k e
    · exact ks_X15_isSign_22 k e
  · exact ks_X15_isSign_22 k e
theorem ks_X15_isSentence_401 {S : Nat → Prop} {g : Hp} {F : Nat} {o : Int32 × Hp} {t0 : Int32}  {h : Hp} (k : KZ S g h) (e : sX15_isSentence_401 F h t0 = some o) : KZ S g o.2 := by
  unfold sX15_isSentence_401 at e
  replace e := (gd_s e).2
  rw [← Option.some.inj e]; exact k
theorem ks_X15_isSentence_400 {S : Nat → Prop} {g : Hp} {F : Nat} {o : Int32 × Hp}  {h : Hp} (k : KZ S g h) (e : sX15_isSentence_400 F h = some o) : KZ S g o.2 := by
  unfold sX15_isSentence_400 at e
  exact ks_X15_isSentence_401 k e
theorem ks_X15_isOnce_16 {S : Nat → Prop} {g : Hp} {o : Int32 × Hp} {x0 : Nat} {x1 : Int32} {t0 : Int32} (C : CR S x0 g) {h : Hp} (k : KZ S g h) (e : sX15_isOnce_16 h x0 x1 t0 = some o) : KZ S g o.2 := by
  unfold sX15_isOnce_16 at e
  replace e := nm_s e
  obtain ⟨h_1, wh_1, e⟩ := e
  have kh_1 : KZ S g h_1 := by rw [wh_1]; exact ks_wI k C.1
  replace e := (gd_s e).2
  rw [← Option.some.inj e]; exact kh_1
theorem ks_X15_isOnce {S : Nat → Prop} {g : Hp} {o : Int32 × Hp} {x0 : Nat} {x1 : Int32} (C : CR S x0 g) {h : Hp} (k : KZ S g h) (e : sX15_isOnce h x0 x1 = some o) : KZ S g o.2 := by
  unfold sX15_isOnce at e
  replace e := br_s e
  rcases e with ⟨_, e⟩ | ⟨_, e⟩
  · exact ks_X15_isOnce_16 C k e
  · exact ks_X15_isOnce_16 C k e
theorem ks_X15_goesOn {S : Nat → Prop} {g : Hp} {F : Nat} {o : Int32 × Hp} {x0 : Nat} {x1 : Nat} {x2 : Int32} (C : CR S x0 g) {h : Hp} (k : KZ S g h) (e : sX15_goesOn F h x0 x1 x2 = some o) : KZ S g o.2 := by
  unfold sX15_goesOn at e
  replace e := cl_s e
  obtain ⟨o_1, eo_1, e⟩ := e
  have ko_1 : KZ S g o_1 := ks_X15_nextToken C k eo_1
  rw [← Option.some.inj e]; exact ko_1
theorem ks_X15_isOutcome_69 {S : Nat → Prop} {g : Hp} {F : Nat} {o : Int32 × Hp} {x0 : Nat} {x1 : Nat} {x2 : Int32} (C : CR S x0 g) {h : Hp} (k : KZ S g h) (e : sX15_isOutcome_69 F h x0 x1 x2 = some o) : KZ S g o.2 := by
  unfold sX15_isOutcome_69 at e
  replace e := cl_s e
  obtain ⟨o_1, eo_1, e⟩ := e
  have ko_1 : KZ S g o_1.2 := ks_X15_goesOn C k eo_1
  replace e := (gd_s e).2
  rw [← Option.some.inj e]; exact ko_1
theorem ks_X15_isOutcome_35 {S : Nat → Prop} {g : Hp} {F : Nat} {o : Int32 × Hp} {x0 : Nat} {x1 : Nat} {x2 : Int32} {x3 : Int32} {t0 : Int32} (C : CR S x0 g) {h : Hp} (k : KZ S g h) (e : sX15_isOutcome_35 F h x0 x1 x2 x3 t0 = some o) : KZ S g o.2 := by
  unfold sX15_isOutcome_35 at e
  replace e := br_s e
  rcases e with ⟨_, e⟩ | ⟨_, e⟩
  · rw [← Option.some.inj e]; exact k
  · replace e := br_s e
    rcases e with ⟨_, e⟩ | ⟨_, e⟩
    · replace e := cl_s e
      obtain ⟨r_3, er_3, e⟩ := e
      replace e := nm_s e
      obtain ⟨h_4, wh_4, e⟩ := e
      have kh_4 : KZ S g h_4 := by rw [wh_4]; exact ks_wI k (C.2 _ ((k.1 _ _).symm.trans er_3)).1
      exact ks_X15_isOutcome_69 C kh_4 e
    · replace e := cl_s e
      obtain ⟨r_5, er_5, e⟩ := e
      replace e := nm_s e
      obtain ⟨h_6, wh_6, e⟩ := e
      have kh_6 : KZ S g h_6 := by rw [wh_6]; exact ks_wI k (C.2 _ ((k.1 _ _).symm.trans er_5)).1
      exact ks_X15_isOutcome_69 C kh_6 e
theorem ks_X15_isOutcome {S : Nat → Prop} {g : Hp} {F : Nat} {o : Int32 × Hp} {x0 : Nat} {x1 : Nat} {x2 : Int32} {x3 : Int32} (C : CR S x0 g) {h : Hp} (k : KZ S g h) (e : sX15_isOutcome F h x0 x1 x2 x3 = some o) : KZ S g o.2 := by
  unfold sX15_isOutcome at e
  replace e := cl_s e
  obtain ⟨o_1, eo_1, e⟩ := e
  have ko_1 : KZ S g o_1 := ks_X15_nextToken C k eo_1
  replace e := cl_s e
  obtain ⟨o_2, eo_2, e⟩ := e
  have ko_2 : KZ S g o_2.2 := ks_X15_isWord C ko_1 eo_2
  replace e := br_s e
  rcases e with ⟨_, e⟩ | ⟨_, e⟩
  · replace e := cl_s e
    obtain ⟨o_4, eo_4, e⟩ := e
    have ko_4 : KZ S g o_4.2 := ks_X15_isWord C ko_2 eo_4
    replace e := br_s e
    rcases e with ⟨_, e⟩ | ⟨_, e⟩
    · exact ks_X15_isOutcome_35 C ko_4 e
    · exact ks_X15_isOutcome_35 C ko_4 e
  · exact ks_X15_isOutcome_35 C ko_2 e
theorem ks_X15_isSentence_366 {S : Nat → Prop} {g : Hp} {F : Nat} {o : Int32 × Hp} {t0 : Int32}  {h : Hp} (k : KZ S g h) (e : sX15_isSentence_366 F h t0 = some o) : KZ S g o.2 := by
  unfold sX15_isSentence_366 at e
  replace e := (gd_s e).2
  rw [← Option.some.inj e]; exact k
theorem ks_X15_isSentence_365 {S : Nat → Prop} {g : Hp} {F : Nat} {o : Int32 × Hp}  {h : Hp} (k : KZ S g h) (e : sX15_isSentence_365 F h = some o) : KZ S g o.2 := by
  unfold sX15_isSentence_365 at e
  exact ks_X15_isSentence_366 k e
theorem ks_X15_isSentence_331 {S : Nat → Prop} {g : Hp} {F : Nat} {o : Int32 × Hp} {t0 : Int32}  {h : Hp} (k : KZ S g h) (e : sX15_isSentence_331 F h t0 = some o) : KZ S g o.2 := by
  unfold sX15_isSentence_331 at e
  replace e := (gd_s e).2
  rw [← Option.some.inj e]; exact k
theorem ks_X15_isSentence_330 {S : Nat → Prop} {g : Hp} {F : Nat} {o : Int32 × Hp}  {h : Hp} (k : KZ S g h) (e : sX15_isSentence_330 F h = some o) : KZ S g o.2 := by
  unfold sX15_isSentence_330 at e
  exact ks_X15_isSentence_331 k e
theorem ks_X15_isHill_128 {S : Nat → Prop} {g : Hp} {F : Nat} {o : Int32 × Hp}  {h : Hp} (k : KZ S g h) (e : sX15_isHill_128 F h = some o) : KZ S g o.2 := by
  unfold sX15_isHill_128 at e
  rw [← Option.some.inj e]; exact k
theorem ks_X15_isHill_62 {S : Nat → Prop} {g : Hp} {F : Nat} {o : Int32 × Hp}  {h : Hp} (k : KZ S g h) (e : sX15_isHill_62 F h = some o) : KZ S g o.2 := by
  unfold sX15_isHill_62 at e
  rw [← Option.some.inj e]; exact k
theorem ks_X15_isHill_22 {S : Nat → Prop} {g : Hp} {F : Nat} {o : Int32 × Hp} {x0 : Nat} {x1 : Nat} {x2 : Int32} (C : CR S x0 g) {k_8 : Hp → Nat → Nat → Int32 → Int32 → Option (Int32 × Hp)} (R_8 : ∀ {h : Hp} {y2 : Nat} {y3 : Int32} {y4 : Int32}, KZ S g h → k_8 h x0 y2 y3 y4 = some o → KZ S g o.2) {h : Hp} (k : KZ S g h) (e : sX15_isHill_22 F k_8 h x0 x1 x2 = some o) : KZ S g o.2 := by
  unfold sX15_isHill_22 at e
  replace e := br_s e
  rcases e with ⟨_, e⟩ | ⟨_, e⟩
  · replace e := br_s e
    rcases e with ⟨_, e⟩ | ⟨_, e⟩
    · replace e := (gd_s e).2
      replace e := cl_s e
      obtain ⟨r_4, er_4, e⟩ := e
      replace e := br_s e
      rcases e with ⟨_, e⟩ | ⟨_, e⟩
      · replace e := (gd_s e).2
        replace e := nm_s e
        obtain ⟨v_7, wv_7, e⟩ := e
        replace e := cl_s e
        obtain ⟨o_8, eo_8, e⟩ := e
        have ko_8 : KZ S g o_8 := ks_X15_nextToken C k eo_8
        replace e := cl_s e
        obtain ⟨r_9, er_9, e⟩ := e
        replace e := cl_s e
        obtain ⟨o_10, eo_10, e⟩ := e
        have ko_10 : KZ S g o_10.2 := ks_X15_isNumber C ko_8 eo_10
        replace e := br_s e
        rcases e with ⟨_, e⟩ | ⟨_, e⟩
        · exact ks_X15_isHill_128 ko_10 e
        · replace e := cl_s e
          obtain ⟨r_12, er_12, e⟩ := e
          replace e := cl_s e
          obtain ⟨r_13, er_13, e⟩ := e
          replace e := br_s e
          rcases e with ⟨_, e⟩ | ⟨_, e⟩
          · exact ks_X15_isHill_128 ko_10 e
          · replace e := cl_s e
            obtain ⟨r_15, er_15, e⟩ := e
            replace e := cl_s e
            obtain ⟨r_16, er_16, e⟩ := e
            replace e := nm_s e
            obtain ⟨h_17, wh_17, e⟩ := e
            have kh_17 : KZ S g h_17 := by rw [wh_17]; exact ks_wJ ko_10 (C.2 _ ((ko_10.1 _ _).symm.trans er_15)).1
            replace e := cl_s e
            obtain ⟨o_18, eo_18, e⟩ := e
            have ko_18 : KZ S g o_18 := ks_X15_nextToken C kh_17 eo_18
            exact R_8 ko_18 e
      · exact ks_X15_isHill_62 k e
    · exact ks_X15_isHill_62 k e
  · exact ks_X15_isHill_62 k e
theorem ks_X15_isHill_8 {S : Nat → Prop} {g : Hp} {F : Nat} {o : Int32 × Hp} {x0 : Nat} (C : CR S x0 g) : ∀ (f : Nat) {h : Hp} {x1 : Nat} {x2 : Int32} {x3 : Int32}, KZ S g h → sX15_isHill_8 F f h x0 x1 x2 x3 = some o → KZ S g o.2 := by
  intro f
  induction f with
  | zero => intro h x1 x2 x3 _ e; exact absurd e (by rw [sX15_isHill_8]; exact fun z => nomatch z)
  | succ f ih =>
    intro h x1 x2 x3 k e
    rw [sX15_isHill_8] at e
    replace e := br_s e
    rcases e with ⟨_, e⟩ | ⟨_, e⟩
    · exact ks_X15_isHill_22 C (fun k e => ih k e) k e
    · replace e := cl_s e
      obtain ⟨o_2, eo_2, e⟩ := e
      have ko_2 : KZ S g o_2.2 := ks_X15_isSign C k eo_2
      replace e := br_s e
      rcases e with ⟨_, e⟩ | ⟨_, e⟩
      · exact ks_X15_isHill_22 C (fun k e => ih k e) ko_2 e
      · rw [← Option.some.inj e]; exact ko_2
theorem ks_X15_isHill {S : Nat → Prop} {g : Hp} {F : Nat} {o : Int32 × Hp} {x0 : Nat} {x1 : Nat} {x2 : Int32} (C : CR S x0 g) {h : Hp} (k : KZ S g h) (e : sX15_isHill F h x0 x1 x2 = some o) : KZ S g o.2 := by
  unfold sX15_isHill at e
  replace e := cl_s e
  obtain ⟨o_1, eo_1, e⟩ := e
  have ko_1 : KZ S g o_1 := ks_X15_nextToken C k eo_1
  exact ks_X15_isHill_8 C F ko_1 e
theorem ks_X15_isSentence_297 {S : Nat → Prop} {g : Hp} {F : Nat} {o : Int32 × Hp} {t0 : Int32}  {h : Hp} (k : KZ S g h) (e : sX15_isSentence_297 F h t0 = some o) : KZ S g o.2 := by
  unfold sX15_isSentence_297 at e
  replace e := (gd_s e).2
  rw [← Option.some.inj e]; exact k
theorem ks_X15_isSentence_296 {S : Nat → Prop} {g : Hp} {F : Nat} {o : Int32 × Hp}  {h : Hp} (k : KZ S g h) (e : sX15_isSentence_296 F h = some o) : KZ S g o.2 := by
  unfold sX15_isSentence_296 at e
  exact ks_X15_isSentence_297 k e
theorem ks_X15_isChecks {S : Nat → Prop} {g : Hp} {F : Nat} {o : Int32 × Hp} {x0 : Nat} {x1 : Nat} {x2 : Int32} (C : CR S x0 g) {h : Hp} (k : KZ S g h) (e : sX15_isChecks F h x0 x1 x2 = some o) : KZ S g o.2 := by
  unfold sX15_isChecks at e
  replace e := cl_s e
  obtain ⟨o_1, eo_1, e⟩ := e
  have ko_1 : KZ S g o_1 := ks_X15_nextToken C k eo_1
  replace e := cl_s e
  obtain ⟨o_2, eo_2, e⟩ := e
  have ko_2 : KZ S g o_2.2 := ks_X15_isNumber C ko_1 eo_2
  replace e := br_s e
  rcases e with ⟨_, e⟩ | ⟨_, e⟩
  · rw [← Option.some.inj e]; exact ko_2
  · replace e := cl_s e
    obtain ⟨r_4, er_4, e⟩ := e
    replace e := nm_s e
    obtain ⟨h_5, wh_5, e⟩ := e
    have kh_5 : KZ S g h_5 := by rw [wh_5]; exact ks_wI ko_2 (C.2 _ ((ko_2.1 _ _).symm.trans er_4)).1
    replace e := cl_s e
    obtain ⟨o_6, eo_6, e⟩ := e
    have ko_6 : KZ S g o_6.2 := ks_X15_goesOn C kh_5 eo_6
    replace e := (gd_s e).2
    rw [← Option.some.inj e]; exact ko_6
theorem ks_X15_isSentence_263 {S : Nat → Prop} {g : Hp} {F : Nat} {o : Int32 × Hp} {t0 : Int32}  {h : Hp} (k : KZ S g h) (e : sX15_isSentence_263 F h t0 = some o) : KZ S g o.2 := by
  unfold sX15_isSentence_263 at e
  replace e := (gd_s e).2
  rw [← Option.some.inj e]; exact k
theorem ks_X15_isSentence_262 {S : Nat → Prop} {g : Hp} {F : Nat} {o : Int32 × Hp}  {h : Hp} (k : KZ S g h) (e : sX15_isSentence_262 F h = some o) : KZ S g o.2 := by
  unfold sX15_isSentence_262 at e
  exact ks_X15_isSentence_263 k e
theorem ks_X14_find_2 {S : Nat → Prop} {g : Hp} {F : Nat} {o : Int32 × Hp} {x0 : Nat} (C : CLw S x0 g) : ∀ (f : Nat) {h : Hp} {x1 : Int32} {x2 : Int32}, KZ S g h → sX14_find_2 F f h x0 x1 x2 = some o → KZ S g o.2 := by
  intro f
  induction f with
  | zero => intro h x1 x2 _ e; exact absurd e (by rw [sX14_find_2]; exact fun z => nomatch z)
  | succ f ih =>
    intro h x1 x2 k e
    rw [sX14_find_2] at e
    replace e := br_s e
    rcases e with ⟨_, e⟩ | ⟨_, e⟩
    · rw [← Option.some.inj e]; exact k
    · replace e := cl_s e
      obtain ⟨r_2, er_2, e⟩ := e
      replace e := (gd_s e).2
      replace e := br_s e
      rcases e with ⟨_, e⟩ | ⟨_, e⟩
      · rw [← Option.some.inj e]; exact k
      · replace e := nm_s e
        obtain ⟨v_5, wv_5, e⟩ := e
        exact ih k e
theorem ks_X14_find {S : Nat → Prop} {g : Hp} {F : Nat} {o : Int32 × Hp} {x0 : Nat} {x1 : Int32} (C : CLw S x0 g) {h : Hp} (k : KZ S g h) (e : sX14_find F h x0 x1 = some o) : KZ S g o.2 := by
  unfold sX14_find at e
  exact ks_X14_find_2 C F k e
theorem ks_X15_manAt_38 {S : Nat → Prop} {g : Hp} {F : Nat} {o : Int32 × Hp} {t0 : Int32}  {h : Hp} (k : KZ S g h) (e : sX15_manAt_38 F h t0 = some o) : KZ S g o.2 := by
  unfold sX15_manAt_38 at e
  rw [← Option.some.inj e]; exact k
theorem ks_X15_manAt_37 {S : Nat → Prop} {g : Hp} {F : Nat} {o : Int32 × Hp}  {h : Hp} (k : KZ S g h) (e : sX15_manAt_37 F h = some o) : KZ S g o.2 := by
  unfold sX15_manAt_37 at e
  exact ks_X15_manAt_38 k e
theorem ks_X15_manAt {S : Nat → Prop} {g : Hp} {F : Nat} {o : Int32 × Hp} {x0 : Nat} {x1 : Nat} (C : CR S x0 g) {h : Hp} (k : KZ S g h) (e : sX15_manAt F h x0 x1 = some o) : KZ S g o.2 := by
  unfold sX15_manAt at e
  replace e := br_s e
  rcases e with ⟨_, e⟩ | ⟨_, e⟩
  · replace e := br_s e
    rcases e with ⟨_, e⟩ | ⟨_, e⟩
    · replace e := cl_s e
      obtain ⟨r_3, er_3, e⟩ := e
      replace e := (gd_s e).2
      replace e := cl_s e
      obtain ⟨o_5, eo_5, e⟩ := e
      have ko_5 : KZ S g o_5.2 := ks_X14_find (C.2 _ ((k.1 _ _).symm.trans er_3)) k eo_5
      exact ks_X15_manAt_38 ko_5 e
    · exact ks_X15_manAt_37 k e
  · exact ks_X15_manAt_37 k e
theorem ks_X15_isBlast_40 {S : Nat → Prop} {g : Hp} {F : Nat} {o : Int32 × Hp}  {h : Hp} (k : KZ S g h) (e : sX15_isBlast_40 F h = some o) : KZ S g o.2 := by
  unfold sX15_isBlast_40 at e
  rw [← Option.some.inj e]; exact k
theorem ks_X15_isBlast_6 {S : Nat → Prop} {g : Hp} {F : Nat} {o : Int32 × Hp} {x0 : Nat} (C : CR S x0 g) : ∀ (f : Nat) {h : Hp} {x1 : Nat} {x2 : Int32}, KZ S g h → sX15_isBlast_6 F f h x0 x1 x2 = some o → KZ S g o.2 := by
  intro f
  induction f with
  | zero => intro h x1 x2 _ e; exact absurd e (by rw [sX15_isBlast_6]; exact fun z => nomatch z)
  | succ f ih =>
    intro h x1 x2 k e
    rw [sX15_isBlast_6] at e
    replace e := br_s e
    rcases e with ⟨_, e⟩ | ⟨_, e⟩
    · replace e := cl_s e
      obtain ⟨o_2, eo_2, e⟩ := e
      have ko_2 : KZ S g o_2.2 := ks_X15_manAt C k eo_2
      replace e := br_s e
      rcases e with ⟨_, e⟩ | ⟨_, e⟩
      · exact ks_X15_isBlast_40 ko_2 e
      · replace e := cl_s e
        obtain ⟨r_4, er_4, e⟩ := e
        replace e := br_s e
        rcases e with ⟨_, e⟩ | ⟨_, e⟩
        · exact ks_X15_isBlast_40 ko_2 e
        · replace e := cl_s e
          obtain ⟨r_6, er_6, e⟩ := e
          replace e := nm_s e
          obtain ⟨h_7, wh_7, e⟩ := e
          have kh_7 : KZ S g h_7 := by rw [wh_7]; exact ks_wI ko_2 (C.2 _ ((ko_2.1 _ _).symm.trans er_6)).1
          replace e := cl_s e
          obtain ⟨o_8, eo_8, e⟩ := e
          have ko_8 : KZ S g o_8 := ks_X15_nextToken C kh_7 eo_8
          exact ih ko_8 e
    · rw [← Option.some.inj e]; exact k
theorem ks_X15_isBlast {S : Nat → Prop} {g : Hp} {F : Nat} {o : Int32 × Hp} {x0 : Nat} {x1 : Nat} {x2 : Int32} (C : CR S x0 g) {h : Hp} (k : KZ S g h) (e : sX15_isBlast F h x0 x1 x2 = some o) : KZ S g o.2 := by
  unfold sX15_isBlast at e
  replace e := cl_s e
  obtain ⟨o_1, eo_1, e⟩ := e
  have ko_1 : KZ S g o_1 := ks_X15_nextToken C k eo_1
  exact ks_X15_isBlast_6 C F ko_1 e
theorem ks_X15_isSentence_222 {S : Nat → Prop} {g : Hp} {F : Nat} {o : Int32 × Hp} {t0 : Int32}  {h : Hp} (k : KZ S g h) (e : sX15_isSentence_222 F h t0 = some o) : KZ S g o.2 := by
  unfold sX15_isSentence_222 at e
  replace e := (gd_s e).2
  rw [← Option.some.inj e]; exact k
theorem ks_X15_isSentence_221 {S : Nat → Prop} {g : Hp} {F : Nat} {o : Int32 × Hp}  {h : Hp} (k : KZ S g h) (e : sX15_isSentence_221 F h = some o) : KZ S g o.2 := by
  unfold sX15_isSentence_221 at e
  exact ks_X15_isSentence_222 k e
theorem ks_X15_isSentence_181 {S : Nat → Prop} {g : Hp} {F : Nat} {o : Int32 × Hp} {t0 : Int32}  {h : Hp} (k : KZ S g h) (e : sX15_isSentence_181 F h t0 = some o) : KZ S g o.2 := by
  unfold sX15_isSentence_181 at e
  replace e := (gd_s e).2
  rw [← Option.some.inj e]; exact k
theorem ks_X15_isSentence_180 {S : Nat → Prop} {g : Hp} {F : Nat} {o : Int32 × Hp}  {h : Hp} (k : KZ S g h) (e : sX15_isSentence_180 F h = some o) : KZ S g o.2 := by
  unfold sX15_isSentence_180 at e
  exact ks_X15_isSentence_181 k e
theorem ks_X15_isSentence_140 {S : Nat → Prop} {g : Hp} {F : Nat} {o : Int32 × Hp} {t0 : Int32}  {h : Hp} (k : KZ S g h) (e : sX15_isSentence_140 F h t0 = some o) : KZ S g o.2 := by
  unfold sX15_isSentence_140 at e
  replace e := (gd_s e).2
  rw [← Option.some.inj e]; exact k
theorem ks_X15_isSentence_139 {S : Nat → Prop} {g : Hp} {F : Nat} {o : Int32 × Hp}  {h : Hp} (k : KZ S g h) (e : sX15_isSentence_139 F h = some o) : KZ S g o.2 := by
  unfold sX15_isSentence_139 at e
  exact ks_X15_isSentence_140 k e
theorem ks_X15_isSentence_99 {S : Nat → Prop} {g : Hp} {F : Nat} {o : Int32 × Hp} {t0 : Int32}  {h : Hp} (k : KZ S g h) (e : sX15_isSentence_99 F h t0 = some o) : KZ S g o.2 := by
  unfold sX15_isSentence_99 at e
  replace e := (gd_s e).2
  rw [← Option.some.inj e]; exact k
theorem ks_X15_isSentence_98 {S : Nat → Prop} {g : Hp} {F : Nat} {o : Int32 × Hp}  {h : Hp} (k : KZ S g h) (e : sX15_isSentence_98 F h = some o) : KZ S g o.2 := by
  unfold sX15_isSentence_98 at e
  exact ks_X15_isSentence_99 k e
theorem ks_X15_isCastle_41 {S : Nat → Prop} {g : Hp} {F : Nat} {o : Int32 × Hp}  {h : Hp} (k : KZ S g h) (e : sX15_isCastle_41 F h = some o) : KZ S g o.2 := by
  unfold sX15_isCastle_41 at e
  rw [← Option.some.inj e]; exact k
theorem ks_X15_isCastle {S : Nat → Prop} {g : Hp} {F : Nat} {o : Int32 × Hp} {x0 : Nat} {x1 : Nat} {x2 : Int32} (C : CR S x0 g) {h : Hp} (k : KZ S g h) (e : sX15_isCastle F h x0 x1 x2 = some o) : KZ S g o.2 := by
  unfold sX15_isCastle at e
  replace e := cl_s e
  obtain ⟨r_1, er_1, e⟩ := e
  replace e := br_s e
  rcases e with ⟨_, e⟩ | ⟨_, e⟩
  · rw [← Option.some.inj e]; exact k
  · replace e := cl_s e
    obtain ⟨o_3, eo_3, e⟩ := e
    have ko_3 : KZ S g o_3 := ks_X15_nextToken C k eo_3
    replace e := cl_s e
    obtain ⟨o_4, eo_4, e⟩ := e
    have ko_4 : KZ S g o_4.2 := ks_X15_manAt C ko_3 eo_4
    replace e := br_s e
    rcases e with ⟨_, e⟩ | ⟨_, e⟩
    · exact ks_X15_isCastle_41 ko_4 e
    · replace e := cl_s e
      obtain ⟨r_6, er_6, e⟩ := e
      replace e := br_s e
      rcases e with ⟨_, e⟩ | ⟨_, e⟩
      · exact ks_X15_isCastle_41 ko_4 e
      · replace e := cl_s e
        obtain ⟨r_8, er_8, e⟩ := e
        replace e := nm_s e
        obtain ⟨h_9, wh_9, e⟩ := e
        have kh_9 : KZ S g h_9 := by rw [wh_9]; exact ks_wI ko_4 (C.2 _ ((ko_4.1 _ _).symm.trans er_8)).1
        replace e := cl_s e
        obtain ⟨o_10, eo_10, e⟩ := e
        have ko_10 : KZ S g o_10.2 := ks_X15_goesOn C kh_9 eo_10
        replace e := (gd_s e).2
        rw [← Option.some.inj e]; exact ko_10
theorem ks_X15_isSentence_66 {S : Nat → Prop} {g : Hp} {F : Nat} {o : Int32 × Hp} {t0 : Int32}  {h : Hp} (k : KZ S g h) (e : sX15_isSentence_66 F h t0 = some o) : KZ S g o.2 := by
  unfold sX15_isSentence_66 at e
  replace e := (gd_s e).2
  rw [← Option.some.inj e]; exact k
theorem ks_X15_isSentence_65 {S : Nat → Prop} {g : Hp} {F : Nat} {o : Int32 × Hp}  {h : Hp} (k : KZ S g h) (e : sX15_isSentence_65 F h = some o) : KZ S g o.2 := by
  unfold sX15_isSentence_65 at e
  exact ks_X15_isSentence_66 k e
theorem ks_X15_isRoyal_40 {S : Nat → Prop} {g : Hp} {F : Nat} {o : Int32 × Hp}  {h : Hp} (k : KZ S g h) (e : sX15_isRoyal_40 F h = some o) : KZ S g o.2 := by
  unfold sX15_isRoyal_40 at e
  rw [← Option.some.inj e]; exact k
theorem ks_X14_isBecome_48 {S : Nat → Prop} {g : Hp} {F : Nat} {o : Int32 × Hp} {x0 : Nat} {x1 : Int32} {x3 : Int32} {x4 : Int32} {t0 : Int32} {t1 : Int32} (C : CLw S x0 g) {k_4 : Hp → Nat → Int32 → Int32 → Int32 → Option (Int32 × Hp)} (R_4 : ∀ {h : Hp} {y2 : Int32} {y3 : Int32} {y4 : Int32}, KZ S g h → k_4 h x0 y2 y3 y4 = some o → KZ S g o.2) {k_15 : Hp → Nat → Int32 → Int32 → Int32 → Int32 → Option (Int32 × Hp)} (R_15 : ∀ {h : Hp} {y2 : Int32} {y3 : Int32} {y4 : Int32} {y5 : Int32}, KZ S g h → k_15 h x0 y2 y3 y4 y5 = some o → KZ S g o.2) {h : Hp} (k : KZ S g h) (e : sX14_isBecome_48 F k_4 k_15 h x0 x1 x3 x4 t0 t1 = some o) : KZ S g o.2 := by
  unfold sX14_isBecome_48 at e
  replace e := nm_s e
  obtain ⟨v_1, wv_1, e⟩ := e
  replace e := nm_s e
  obtain ⟨v_2, wv_2, e⟩ := e
  exact R_15 k e
theorem ks_X14_isBecome_15 {S : Nat → Prop} {g : Hp} {F : Nat} {o : Int32 × Hp} {x0 : Nat} (C : CLw S x0 g) {k_4 : Hp → Nat → Int32 → Int32 → Int32 → Option (Int32 × Hp)} (R_4 : ∀ {h : Hp} {y2 : Int32} {y3 : Int32} {y4 : Int32}, KZ S g h → k_4 h x0 y2 y3 y4 = some o → KZ S g o.2) : ∀ (f : Nat) {h : Hp} {x1 : Int32} {x2 : Int32} {x3 : Int32} {x4 : Int32}, KZ S g h → sX14_isBecome_15 F k_4 f h x0 x1 x2 x3 x4 = some o → KZ S g o.2 := by
  intro f
  induction f with
  | zero => intro h x1 x2 x3 x4 _ e; exact absurd e (by rw [sX14_isBecome_15]; exact fun z => nomatch z)
  | succ f ih =>
    intro h x1 x2 x3 x4 k e
    rw [sX14_isBecome_15] at e
    replace e := cl_s e
    obtain ⟨r_1, er_1, e⟩ := e
    replace e := (gd_s e).2
    replace e := br_s e
    rcases e with ⟨_, e⟩ | ⟨_, e⟩
    · replace e := nm_s e
      obtain ⟨v_4, wv_4, e⟩ := e
      exact R_4 k e
    · replace e := cl_s e
      obtain ⟨r_5, er_5, e⟩ := e
      replace e := (gd_s e).2
      replace e := br_s e
      rcases e with ⟨_, e⟩ | ⟨_, e⟩
      · exact ks_X14_isBecome_48 C R_4 (fun k e => ih k e) k e
      · exact ks_X14_isBecome_48 C R_4 (fun k e => ih k e) k e
theorem ks_X14_isBecome_4 {S : Nat → Prop} {g : Hp} {F : Nat} {o : Int32 × Hp} {x0 : Nat} (C : CLw S x0 g) : ∀ (f : Nat) {h : Hp} {x1 : Int32} {x2 : Int32} {x3 : Int32}, KZ S g h → sX14_isBecome_4 F f h x0 x1 x2 x3 = some o → KZ S g o.2 := by
  intro f
  induction f with
  | zero => intro h x1 x2 x3 _ e; exact absurd e (by rw [sX14_isBecome_4]; exact fun z => nomatch z)
  | succ f ih =>
    intro h x1 x2 x3 k e
    rw [sX14_isBecome_4] at e
    replace e := br_s e
    rcases e with ⟨_, e⟩ | ⟨_, e⟩
    · replace e := (gd_s e).2
      rw [← Option.some.inj e]; exact k
    · exact ks_X14_isBecome_15 C (fun k e => ih k e) F k e
theorem ks_X14_isBecome {S : Nat → Prop} {g : Hp} {F : Nat} {o : Int32 × Hp} {x0 : Nat} {x1 : Int32} (C : CLw S x0 g) {h : Hp} (k : KZ S g h) (e : sX14_isBecome F h x0 x1 = some o) : KZ S g o.2 := by
  unfold sX14_isBecome at e
  exact ks_X14_isBecome_4 C F k e
theorem ks_X15_isRoyal {S : Nat → Prop} {g : Hp} {F : Nat} {o : Int32 × Hp} {x0 : Nat} {x1 : Nat} {x2 : Int32} (C : CR S x0 g) {h : Hp} (k : KZ S g h) (e : sX15_isRoyal F h x0 x1 x2 = some o) : KZ S g o.2 := by
  unfold sX15_isRoyal at e
  replace e := cl_s e
  obtain ⟨o_1, eo_1, e⟩ := e
  have ko_1 : KZ S g o_1 := ks_X15_nextToken C k eo_1
  replace e := cl_s e
  obtain ⟨o_2, eo_2, e⟩ := e
  have ko_2 : KZ S g o_2.2 := ks_X15_manAt C ko_1 eo_2
  replace e := br_s e
  rcases e with ⟨_, e⟩ | ⟨_, e⟩
  · exact ks_X15_isRoyal_40 ko_2 e
  · replace e := cl_s e
    obtain ⟨r_4, er_4, e⟩ := e
    replace e := cl_s e
    obtain ⟨r_5, er_5, e⟩ := e
    replace e := (gd_s e).2
    replace e := br_s e
    rcases e with ⟨_, e⟩ | ⟨_, e⟩
    · exact ks_X15_isRoyal_40 ko_2 e
    · replace e := cl_s e
      obtain ⟨r_8, er_8, e⟩ := e
      replace e := cl_s e
      obtain ⟨o_9, eo_9, e⟩ := e
      have ko_9 : KZ S g o_9.2 := ks_X14_isBecome (C.2 _ ((ko_2.1 _ _).symm.trans er_8)) ko_2 eo_9
      replace e := br_s e
      rcases e with ⟨_, e⟩ | ⟨_, e⟩
      · replace e := cl_s e
        obtain ⟨r_11, er_11, e⟩ := e
        replace e := nm_s e
        obtain ⟨h_12, wh_12, e⟩ := e
        have kh_12 : KZ S g h_12 := by rw [wh_12]; exact ks_wI ko_9 (C.2 _ ((ko_9.1 _ _).symm.trans er_11)).1
        replace e := cl_s e
        obtain ⟨o_13, eo_13, e⟩ := e
        have ko_13 : KZ S g o_13.2 := ks_X15_goesOn C kh_12 eo_13
        replace e := (gd_s e).2
        rw [← Option.some.inj e]; exact ko_13
      · exact ks_X15_isRoyal_40 ko_9 e
theorem ks_X15_isBecoming_51 {S : Nat → Prop} {g : Hp} {F : Nat} {o : Int32 × Hp}  {h : Hp} (k : KZ S g h) (e : sX15_isBecoming_51 F h = some o) : KZ S g o.2 := by
  unfold sX15_isBecoming_51 at e
  rw [← Option.some.inj e]; exact k
theorem ks_X15_isBecoming_172 {S : Nat → Prop} {g : Hp} {F : Nat} {o : Int32 × Hp} {x0 : Nat} {x1 : Nat} {x2 : Int32} {x3 : Int32} {x4 : Int32} {x5 : Int32} {x7 : Int32} {t0 : Int32} {t1 : Int32} (C : CR S x0 g) {k_62 : Hp → Nat → Nat → Int32 → Int32 → Int32 → Option (Int32 × Hp)} (R_62 : ∀ {h : Hp} {y2 : Nat} {y3 : Int32} {y4 : Int32} {y5 : Int32}, KZ S g h → k_62 h x0 y2 y3 y4 y5 = some o → KZ S g o.2) {k_138 : Hp → Nat → Nat → Int32 → Int32 → Int32 → Int32 → Int32 → Int32 → Option (Int32 × Hp)} (R_138 : ∀ {h : Hp} {y2 : Nat} {y3 : Int32} {y4 : Int32} {y5 : Int32} {y6 : Int32} {y7 : Int32} {y8 : Int32}, KZ S g h → k_138 h x0 y2 y3 y4 y5 y6 y7 y8 = some o → KZ S g o.2) {h : Hp} (k : KZ S g h) (e : sX15_isBecoming_172 F k_62 k_138 h x0 x1 x2 x3 x4 x5 x7 t0 t1 = some o) : KZ S g o.2 := by
  unfold sX15_isBecoming_172 at e
  replace e := nm_s e
  obtain ⟨v_1, wv_1, e⟩ := e
  replace e := nm_s e
  obtain ⟨v_2, wv_2, e⟩ := e
  exact R_138 k e
theorem ks_X15_isBecoming_138 {S : Nat → Prop} {g : Hp} {F : Nat} {o : Int32 × Hp} {x0 : Nat} (C : CR S x0 g) {k_62 : Hp → Nat → Nat → Int32 → Int32 → Int32 → Option (Int32 × Hp)} (R_62 : ∀ {h : Hp} {y2 : Nat} {y3 : Int32} {y4 : Int32} {y5 : Int32}, KZ S g h → k_62 h x0 y2 y3 y4 y5 = some o → KZ S g o.2) : ∀ (f : Nat) {h : Hp} {x1 : Nat} {x2 : Int32} {x3 : Int32} {x4 : Int32} {x5 : Int32} {x6 : Int32} {x7 : Int32}, KZ S g h → sX15_isBecoming_138 F k_62 f h x0 x1 x2 x3 x4 x5 x6 x7 = some o → KZ S g o.2 := by
  intro f
  induction f with
  | zero => intro h x1 x2 x3 x4 x5 x6 x7 _ e; exact absurd e (by rw [sX15_isBecoming_138]; exact fun z => nomatch z)
  | succ f ih =>
    intro h x1 x2 x3 x4 x5 x6 x7 k e
    rw [sX15_isBecoming_138] at e
    replace e := br_s e
    rcases e with ⟨_, e⟩ | ⟨_, e⟩
    · replace e := br_s e
      rcases e with ⟨_, e⟩ | ⟨_, e⟩
      · rw [← Option.some.inj e]; exact k
      · replace e := cl_s e
        obtain ⟨r_3, er_3, e⟩ := e
        replace e := cl_s e
        obtain ⟨r_4, er_4, e⟩ := e
        replace e := (gd_s e).2
        replace e := nm_s e
        obtain ⟨h_6, wh_6, e⟩ := e
        have kh_6 : KZ S g h_6 := by rw [wh_6]; exact ks_wI k ((C.2 _ ((k.1 _ _).symm.trans er_3)).2 _ _ (by decide) ((k.1 _ _).symm.trans er_4))
        replace e := nm_s e
        obtain ⟨v_7, wv_7, e⟩ := e
        replace e := cl_s e
        obtain ⟨o_8, eo_8, e⟩ := e
        have ko_8 : KZ S g o_8 := ks_X15_nextToken C kh_6 eo_8
        exact R_62 ko_8 e
    · replace e := cl_s e
      obtain ⟨r_9, er_9, e⟩ := e
      replace e := cl_s e
      obtain ⟨r_10, er_10, e⟩ := e
      replace e := (gd_s e).2
      replace e := br_s e
      rcases e with ⟨_, e⟩ | ⟨_, e⟩
      · exact ks_X15_isBecoming_172 C R_62 (fun k e => ih k e) k e
      · exact ks_X15_isBecoming_172 C R_62 (fun k e => ih k e) k e
theorem ks_X15_isBecoming_133 {S : Nat → Prop} {g : Hp} {F : Nat} {o : Int32 × Hp} {x0 : Nat} {x1 : Nat} {x2 : Int32} {x3 : Int32} {x4 : Int32} {x5 : Int32} {t0 : Int32} (C : CR S x0 g) {k_62 : Hp → Nat → Nat → Int32 → Int32 → Int32 → Option (Int32 × Hp)} (R_62 : ∀ {h : Hp} {y2 : Nat} {y3 : Int32} {y4 : Int32} {y5 : Int32}, KZ S g h → k_62 h x0 y2 y3 y4 y5 = some o → KZ S g o.2) {h : Hp} (k : KZ S g h) (e : sX15_isBecoming_133 F k_62 h x0 x1 x2 x3 x4 x5 t0 = some o) : KZ S g o.2 := by
  unfold sX15_isBecoming_133 at e
  exact ks_X15_isBecoming_138 C R_62 F k e
theorem ks_X15_isBecoming_132 {S : Nat → Prop} {g : Hp} {F : Nat} {o : Int32 × Hp} {x0 : Nat} {x1 : Nat} {x2 : Int32} {x3 : Int32} {x4 : Int32} {x5 : Int32} (C : CR S x0 g) {k_62 : Hp → Nat → Nat → Int32 → Int32 → Int32 → Option (Int32 × Hp)} (R_62 : ∀ {h : Hp} {y2 : Nat} {y3 : Int32} {y4 : Int32} {y5 : Int32}, KZ S g h → k_62 h x0 y2 y3 y4 y5 = some o → KZ S g o.2) {h : Hp} (k : KZ S g h) (e : sX15_isBecoming_132 F k_62 h x0 x1 x2 x3 x4 x5 = some o) : KZ S g o.2 := by
  unfold sX15_isBecoming_132 at e
  exact ks_X15_isBecoming_133 C R_62 k e
theorem ks_X15_isBecoming_77 {S : Nat → Prop} {g : Hp} {F : Nat} {o : Int32 × Hp} {x0 : Nat} {x1 : Nat} {x2 : Int32} {x3 : Int32} {x4 : Int32} (C : CR S x0 g) {k_62 : Hp → Nat → Nat → Int32 → Int32 → Int32 → Option (Int32 × Hp)} (R_62 : ∀ {h : Hp} {y2 : Nat} {y3 : Int32} {y4 : Int32} {y5 : Int32}, KZ S g h → k_62 h x0 y2 y3 y4 y5 = some o → KZ S g o.2) {h : Hp} (k : KZ S g h) (e : sX15_isBecoming_77 F k_62 h x0 x1 x2 x3 x4 = some o) : KZ S g o.2 := by
  unfold sX15_isBecoming_77 at e
  replace e := cl_s e
  obtain ⟨o_1, eo_1, e⟩ := e
  have ko_1 : KZ S g o_1.2 := ks_X15_manAt C k eo_1
  replace e := br_s e
  rcases e with ⟨_, e⟩ | ⟨_, e⟩
  · exact ks_X15_isBecoming_132 C R_62 ko_1 e
  · replace e := br_s e
    rcases e with ⟨_, e⟩ | ⟨_, e⟩
    · exact ks_X15_isBecoming_132 C R_62 ko_1 e
    · replace e := cl_s e
      obtain ⟨r_4, er_4, e⟩ := e
      replace e := br_s e
      rcases e with ⟨_, e⟩ | ⟨_, e⟩
      · exact ks_X15_isBecoming_132 C R_62 ko_1 e
      · replace e := cl_s e
        obtain ⟨r_6, er_6, e⟩ := e
        replace e := cl_s e
        obtain ⟨r_7, er_7, e⟩ := e
        replace e := (gd_s e).2
        replace e := br_s e
        rcases e with ⟨_, e⟩ | ⟨_, e⟩
        · replace e := br_s e
          rcases e with ⟨_, e⟩ | ⟨_, e⟩
          · exact ks_X15_isBecoming_132 C R_62 ko_1 e
          · exact ks_X15_isBecoming_133 C R_62 ko_1 e
        · exact ks_X15_isBecoming_132 C R_62 ko_1 e
theorem ks_X15_isBecoming_254 {S : Nat → Prop} {g : Hp} {F : Nat} {o : Int32 × Hp} {t0 : Int32} {t1 : Nat}  (S_t1 : S t1) {h : Hp} (k : KZ S g h) (e : sX15_isBecoming_254 F h t0 t1 = some o) : KZ S g o.2 := by
  unfold sX15_isBecoming_254 at e
  replace e := nm_s e
  obtain ⟨h_1, wh_1, e⟩ := e
  have kh_1 : KZ S g h_1 := by rw [wh_1]; exact ks_wI k S_t1
  rw [← Option.some.inj e]; exact kh_1
theorem ks_X15_isBecoming_62 {S : Nat → Prop} {g : Hp} {F : Nat} {o : Int32 × Hp} {x0 : Nat} (C : CR S x0 g) : ∀ (f : Nat) {h : Hp} {x1 : Nat} {x2 : Int32} {x3 : Int32} {x4 : Int32}, KZ S g h → sX15_isBecoming_62 F f h x0 x1 x2 x3 x4 = some o → KZ S g o.2 := by
  intro f
  induction f with
  | zero => intro h x1 x2 x3 x4 _ e; exact absurd e (by rw [sX15_isBecoming_62]; exact fun z => nomatch z)
  | succ f ih =>
    intro h x1 x2 x3 x4 k e
    rw [sX15_isBecoming_62] at e
    replace e := br_s e
    rcases e with ⟨_, e⟩ | ⟨_, e⟩
    · exact ks_X15_isBecoming_77 C (fun k e => ih k e) k e
    · replace e := cl_s e
      obtain ⟨o_2, eo_2, e⟩ := e
      have ko_2 : KZ S g o_2.2 := ks_X15_isSign C k eo_2
      replace e := br_s e
      rcases e with ⟨_, e⟩ | ⟨_, e⟩
      · exact ks_X15_isBecoming_77 C (fun k e => ih k e) ko_2 e
      · replace e := cl_s e
        obtain ⟨r_4, er_4, e⟩ := e
        replace e := cl_s e
        obtain ⟨r_5, er_5, e⟩ := e
        replace e := (gd_s e).2
        replace e := nm_s e
        obtain ⟨h_7, wh_7, e⟩ := e
        have kh_7 : KZ S g h_7 := by rw [wh_7]; exact ks_wI ko_2 ((C.2 _ ((ko_2.1 _ _).symm.trans er_4)).2 _ _ (by decide) ((ko_2.1 _ _).symm.trans er_5))
        replace e := cl_s e
        obtain ⟨r_8, er_8, e⟩ := e
        replace e := cl_s e
        obtain ⟨r_9, er_9, e⟩ := e
        replace e := br_s e
        rcases e with ⟨_, e⟩ | ⟨_, e⟩
        · exact ks_X15_isBecoming_254 (C.2 _ ((kh_7.1 _ _).symm.trans er_8)).1 kh_7 e
        · replace e := cl_s e
          obtain ⟨r_11, er_11, e⟩ := e
          exact ks_X15_isBecoming_254 (C.2 _ ((kh_7.1 _ _).symm.trans er_8)).1 kh_7 e
theorem ks_X15_isBecoming {S : Nat → Prop} {g : Hp} {F : Nat} {o : Int32 × Hp} {x0 : Nat} {x1 : Nat} {x2 : Int32} (C : CR S x0 g) {h : Hp} (k : KZ S g h) (e : sX15_isBecoming F h x0 x1 x2 = some o) : KZ S g o.2 := by
  unfold sX15_isBecoming at e
  replace e := cl_s e
  obtain ⟨o_1, eo_1, e⟩ := e
  have ko_1 : KZ S g o_1 := ks_X15_nextToken C k eo_1
  replace e := cl_s e
  obtain ⟨o_2, eo_2, e⟩ := e
  have ko_2 : KZ S g o_2.2 := ks_X15_manAt C ko_1 eo_2
  replace e := br_s e
  rcases e with ⟨_, e⟩ | ⟨_, e⟩
  · exact ks_X15_isBecoming_51 ko_2 e
  · replace e := cl_s e
    obtain ⟨r_4, er_4, e⟩ := e
    replace e := br_s e
    rcases e with ⟨_, e⟩ | ⟨_, e⟩
    · exact ks_X15_isBecoming_51 ko_2 e
    · replace e := cl_s e
      obtain ⟨r_6, er_6, e⟩ := e
      replace e := cl_s e
      obtain ⟨r_7, er_7, e⟩ := e
      replace e := (gd_s e).2
      replace e := br_s e
      rcases e with ⟨_, e⟩ | ⟨_, e⟩
      · exact ks_X15_isBecoming_51 ko_2 e
      · replace e := cl_s e
        obtain ⟨r_10, er_10, e⟩ := e
        replace e := cl_s e
        obtain ⟨o_11, eo_11, e⟩ := e
        have ko_11 : KZ S g o_11.2 := ks_X14_isBecome (C.2 _ ((ko_2.1 _ _).symm.trans er_10)) ko_2 eo_11
        replace e := br_s e
        rcases e with ⟨_, e⟩ | ⟨_, e⟩
        · replace e := cl_s e
          obtain ⟨o_13, eo_13, e⟩ := e
          have ko_13 : KZ S g o_13 := ks_X15_nextToken C ko_11 eo_13
          exact ks_X15_isBecoming_62 C F ko_13 e
        · exact ks_X15_isBecoming_51 ko_11 e
theorem ks_X15_isMan_48 {S : Nat → Prop} {g : Hp} {F : Nat} {o : Int32 × Hp}  {h : Hp} (k : KZ S g h) (e : sX15_isMan_48 F h = some o) : KZ S g o.2 := by
  unfold sX15_isMan_48 at e
  rw [← Option.some.inj e]; exact k
theorem ks_X15_flagAt_88 {S : Nat → Prop} {g : Hp} {F : Nat} {o : Int32 × Hp} {t0 : Int32}  {h : Hp} (k : KZ S g h) (e : sX15_flagAt_88 F h t0 = some o) : KZ S g o.2 := by
  unfold sX15_flagAt_88 at e
  rw [← Option.some.inj e]; exact k
theorem ks_X15_flagAt {S : Nat → Prop} {g : Hp} {F : Nat} {o : Int32 × Hp} {x0 : Nat} {x1 : Nat} (C : CR S x0 g) {h : Hp} (k : KZ S g h) (e : sX15_flagAt F h x0 x1 = some o) : KZ S g o.2 := by
  unfold sX15_flagAt at e
  replace e := cl_s e
  obtain ⟨o_1, eo_1, e⟩ := e
  have ko_1 : KZ S g o_1.2 := ks_X15_isWord C k eo_1
  replace e := br_s e
  rcases e with ⟨_, e⟩ | ⟨_, e⟩
  · replace e := cl_s e
    obtain ⟨o_3, eo_3, e⟩ := e
    have ko_3 : KZ S g o_3.2 := ks_X15_isWord C ko_1 eo_3
    replace e := br_s e
    rcases e with ⟨_, e⟩ | ⟨_, e⟩
    · replace e := cl_s e
      obtain ⟨o_5, eo_5, e⟩ := e
      have ko_5 : KZ S g o_5.2 := ks_X15_isWord C ko_3 eo_5
      replace e := br_s e
      rcases e with ⟨_, e⟩ | ⟨_, e⟩
      · replace e := cl_s e
        obtain ⟨o_7, eo_7, e⟩ := e
        have ko_7 : KZ S g o_7.2 := ks_X15_isWord C ko_5 eo_7
        replace e := br_s e
        rcases e with ⟨_, e⟩ | ⟨_, e⟩
        · replace e := cl_s e
          obtain ⟨o_9, eo_9, e⟩ := e
          have ko_9 : KZ S g o_9.2 := ks_X15_isWord C ko_7 eo_9
          replace e := br_s e
          rcases e with ⟨_, e⟩ | ⟨_, e⟩
          · replace e := cl_s e
            obtain ⟨o_11, eo_11, e⟩ := e
            have ko_11 : KZ S g o_11.2 := ks_X15_isWord C ko_9 eo_11
            replace e := br_s e
            rcases e with ⟨_, e⟩ | ⟨_, e⟩
            · exact ks_X15_flagAt_88 ko_11 e
            · exact ks_X15_flagAt_88 ko_11 e
          · exact ks_X15_flagAt_88 ko_9 e
        · exact ks_X15_flagAt_88 ko_7 e
      · exact ks_X15_flagAt_88 ko_5 e
    · exact ks_X15_flagAt_88 ko_3 e
  · exact ks_X15_flagAt_88 ko_1 e
theorem ks_X15_isStep_68 {S : Nat → Prop} {g : Hp} {F : Nat} {o : Int32 × Hp}  {h : Hp} (k : KZ S g h) (e : sX15_isStep_68 F h = some o) : KZ S g o.2 := by
  unfold sX15_isStep_68 at e
  rw [← Option.some.inj e]; exact k
theorem ks_X15_isStep_70 {S : Nat → Prop} {g : Hp} {F : Nat} {o : Int32 × Hp} {x0 : Nat} {x1 : Nat} {x2 : Int32} {x3 : Int32} {x6 : Int32} (C : CR S x0 g) {k_3 : Hp → Nat → Nat → Int32 → Int32 → Int32 → Option (Int32 × Hp)} (R_3 : ∀ {h : Hp} {y2 : Nat} {y3 : Int32} {y4 : Int32} {y5 : Int32}, KZ S g h → k_3 h x0 y2 y3 y4 y5 = some o → KZ S g o.2) {h : Hp} (k : KZ S g h) (e : sX15_isStep_70 F k_3 h x0 x1 x2 x3 x6 = some o) : KZ S g o.2 := by
  unfold sX15_isStep_70 at e
  replace e := cl_s e
  obtain ⟨o_1, eo_1, e⟩ := e
  have ko_1 : KZ S g o_1 := ks_X15_nextToken C k eo_1
  exact R_3 ko_1 e
theorem ks_X15_isStep_52 {S : Nat → Prop} {g : Hp} {F : Nat} {o : Int32 × Hp} {x0 : Nat} {x1 : Nat} {x2 : Int32} {x3 : Int32} {x6 : Int32} (C : CR S x0 g) {k_3 : Hp → Nat → Nat → Int32 → Int32 → Int32 → Option (Int32 × Hp)} (R_3 : ∀ {h : Hp} {y2 : Nat} {y3 : Int32} {y4 : Int32} {y5 : Int32}, KZ S g h → k_3 h x0 y2 y3 y4 y5 = some o → KZ S g o.2) {h : Hp} (k : KZ S g h) (e : sX15_isStep_52 F k_3 h x0 x1 x2 x3 x6 = some o) : KZ S g o.2 := by
  unfold sX15_isStep_52 at e
  replace e := br_s e
  rcases e with ⟨_, e⟩ | ⟨_, e⟩
  · exact ks_X15_isStep_70 C R_3 k e
  · replace e := br_s e
    rcases e with ⟨_, e⟩ | ⟨_, e⟩
    · exact ks_X15_isStep_70 C R_3 k e
    · exact ks_X15_isStep_68 k e
theorem ks_X15_isStep_156 {S : Nat → Prop} {g : Hp} {F : Nat} {o : Int32 × Hp}  {h : Hp} (k : KZ S g h) (e : sX15_isStep_156 F h = some o) : KZ S g o.2 := by
  unfold sX15_isStep_156 at e
  rw [← Option.some.inj e]; exact k
theorem ks_X15_isStep_296 {S : Nat → Prop} {g : Hp} {F : Nat} {o : Int32 × Hp}  {h : Hp} (k : KZ S g h) (e : sX15_isStep_296 F h = some o) : KZ S g o.2 := by
  unfold sX15_isStep_296 at e
  rw [← Option.some.inj e]; exact k
theorem ks_X15_isStep_244 {S : Nat → Prop} {g : Hp} {F : Nat} {o : Int32 × Hp} {x0 : Nat} {x1 : Nat} {x2 : Int32} {x3 : Int32} (C : CR S x0 g) {h : Hp} (k : KZ S g h) (e : sX15_isStep_244 F h x0 x1 x2 x3 = some o) : KZ S g o.2 := by
  unfold sX15_isStep_244 at e
  replace e := cl_s e
  obtain ⟨o_1, eo_1, e⟩ := e
  have ko_1 : KZ S g o_1.2 := ks_X15_isWord C k eo_1
  replace e := br_s e
  rcases e with ⟨_, e⟩ | ⟨_, e⟩
  · exact ks_X15_isStep_296 ko_1 e
  · replace e := cl_s e
    obtain ⟨o_3, eo_3, e⟩ := e
    have ko_3 : KZ S g o_3 := ks_X15_nextToken C ko_1 eo_3
    replace e := cl_s e
    obtain ⟨r_4, er_4, e⟩ := e
    replace e := cl_s e
    obtain ⟨o_5, eo_5, e⟩ := e
    have ko_5 : KZ S g o_5.2 := ks_X15_isNumber C ko_3 eo_5
    replace e := br_s e
    rcases e with ⟨_, e⟩ | ⟨_, e⟩
    · rw [← Option.some.inj e]; exact ko_5
    · replace e := cl_s e
      obtain ⟨r_7, er_7, e⟩ := e
      replace e := cl_s e
      obtain ⟨r_8, er_8, e⟩ := e
      replace e := (gd_s e).2
      replace e := nm_s e
      obtain ⟨h_10, wh_10, e⟩ := e
      have kh_10 : KZ S g h_10 := by rw [wh_10]; exact ks_wI ko_5 ((C.2 _ ((ko_5.1 _ _).symm.trans er_7)).2 _ _ (by decide) ((ko_5.1 _ _).symm.trans er_8))
      replace e := cl_s e
      obtain ⟨o_11, eo_11, e⟩ := e
      have ko_11 : KZ S g o_11 := ks_X15_nextToken C kh_10 eo_11
      exact ks_X15_isStep_296 ko_11 e
theorem ks_X15_isStep_158 {S : Nat → Prop} {g : Hp} {F : Nat} {o : Int32 × Hp} {x0 : Nat} {x1 : Nat} {x2 : Int32} {x3 : Int32} (C : CR S x0 g) {h : Hp} (k : KZ S g h) (e : sX15_isStep_158 F h x0 x1 x2 x3 = some o) : KZ S g o.2 := by
  unfold sX15_isStep_158 at e
  replace e := cl_s e
  obtain ⟨r_1, er_1, e⟩ := e
  replace e := cl_s e
  obtain ⟨r_2, er_2, e⟩ := e
  replace e := (gd_s e).2
  replace e := nm_s e
  obtain ⟨h_4, wh_4, e⟩ := e
  have kh_4 : KZ S g h_4 := by rw [wh_4]; exact ks_wI k ((C.2 _ ((k.1 _ _).symm.trans er_1)).2 _ _ (by decide) ((k.1 _ _).symm.trans er_2))
  replace e := cl_s e
  obtain ⟨r_5, er_5, e⟩ := e
  replace e := cl_s e
  obtain ⟨r_6, er_6, e⟩ := e
  replace e := (gd_s e).2
  replace e := nm_s e
  obtain ⟨h_8, wh_8, e⟩ := e
  have kh_8 : KZ S g h_8 := by rw [wh_8]; exact ks_wI kh_4 ((C.2 _ ((kh_4.1 _ _).symm.trans er_5)).2 _ _ (by decide) ((kh_4.1 _ _).symm.trans er_6))
  replace e := cl_s e
  obtain ⟨r_9, er_9, e⟩ := e
  replace e := cl_s e
  obtain ⟨r_10, er_10, e⟩ := e
  replace e := (gd_s e).2
  replace e := nm_s e
  obtain ⟨h_12, wh_12, e⟩ := e
  have kh_12 : KZ S g h_12 := by rw [wh_12]; exact ks_wI kh_8 ((C.2 _ ((kh_8.1 _ _).symm.trans er_9)).2 _ _ (by decide) ((kh_8.1 _ _).symm.trans er_10))
  replace e := cl_s e
  obtain ⟨o_13, eo_13, e⟩ := e
  have ko_13 : KZ S g o_13 := ks_X15_nextToken C kh_12 eo_13
  replace e := cl_s e
  obtain ⟨o_14, eo_14, e⟩ := e
  have ko_14 : KZ S g o_14.2 := ks_X15_isWord C ko_13 eo_14
  replace e := br_s e
  rcases e with ⟨_, e⟩ | ⟨_, e⟩
  · exact ks_X15_isStep_244 C ko_14 e
  · replace e := cl_s e
    obtain ⟨o_16, eo_16, e⟩ := e
    have ko_16 : KZ S g o_16 := ks_X15_nextToken C ko_14 eo_16
    replace e := cl_s e
    obtain ⟨o_17, eo_17, e⟩ := e
    have ko_17 : KZ S g o_17.2 := ks_X15_isNumber C ko_16 eo_17
    replace e := br_s e
    rcases e with ⟨_, e⟩ | ⟨_, e⟩
    · rw [← Option.some.inj e]; exact ko_17
    · replace e := cl_s e
      obtain ⟨r_19, er_19, e⟩ := e
      replace e := cl_s e
      obtain ⟨r_20, er_20, e⟩ := e
      replace e := (gd_s e).2
      replace e := nm_s e
      obtain ⟨h_22, wh_22, e⟩ := e
      have kh_22 : KZ S g h_22 := by rw [wh_22]; exact ks_wI ko_17 ((C.2 _ ((ko_17.1 _ _).symm.trans er_19)).2 _ _ (by decide) ((ko_17.1 _ _).symm.trans er_20))
      replace e := cl_s e
      obtain ⟨o_23, eo_23, e⟩ := e
      have ko_23 : KZ S g o_23 := ks_X15_nextToken C kh_22 eo_23
      exact ks_X15_isStep_244 C ko_23 e
theorem ks_X15_isStep_3 {S : Nat → Prop} {g : Hp} {F : Nat} {o : Int32 × Hp} {x0 : Nat} (C : CR S x0 g) : ∀ (f : Nat) {h : Hp} {x1 : Nat} {x2 : Int32} {x3 : Int32} {x4 : Int32}, KZ S g h → sX15_isStep_3 F f h x0 x1 x2 x3 x4 = some o → KZ S g o.2 := by
  intro f
  induction f with
  | zero => intro h x1 x2 x3 x4 _ e; exact absurd e (by rw [sX15_isStep_3]; exact fun z => nomatch z)
  | succ f ih =>
    intro h x1 x2 x3 x4 k e
    rw [sX15_isStep_3] at e
    replace e := br_s e
    rcases e with ⟨_, e⟩ | ⟨_, e⟩
    · replace e := cl_s e
      obtain ⟨o_20, eo_20, e⟩ := e
      have ko_20 : KZ S g o_20.2 := ks_X15_flagAt C k eo_20
      replace e := nm_s e
      obtain ⟨v_21, wv_21, e⟩ := e
      replace e := br_s e
      rcases e with ⟨_, e⟩ | ⟨_, e⟩
      · exact ks_X15_isStep_68 ko_20 e
      · replace e := br_s e
        rcases e with ⟨_, e⟩ | ⟨_, e⟩
        · replace e := br_s e
          rcases e with ⟨_, e⟩ | ⟨_, e⟩
          · exact ks_X15_isStep_52 C (fun k e => ih k e) ko_20 e
          · replace e := br_s e
            rcases e with ⟨_, e⟩ | ⟨_, e⟩
            · exact ks_X15_isStep_52 C (fun k e => ih k e) ko_20 e
            · exact ks_X15_isStep_68 ko_20 e
        · exact ks_X15_isStep_68 ko_20 e
    · replace e := cl_s e
      obtain ⟨r_2, er_2, e⟩ := e
      replace e := cl_s e
      obtain ⟨r_3, er_3, e⟩ := e
      replace e := (gd_s e).2
      replace e := nm_s e
      obtain ⟨h_5, wh_5, e⟩ := e
      have kh_5 : KZ S g h_5 := by rw [wh_5]; exact ks_wI k ((C.2 _ ((k.1 _ _).symm.trans er_2)).2 _ _ (by decide) ((k.1 _ _).symm.trans er_3))
      replace e := cl_s e
      obtain ⟨o_6, eo_6, e⟩ := e
      have ko_6 : KZ S g o_6.2 := ks_X15_isNumber C kh_5 eo_6
      replace e := br_s e
      rcases e with ⟨_, e⟩ | ⟨_, e⟩
      · rw [← Option.some.inj e]; exact ko_6
      · replace e := cl_s e
        obtain ⟨r_8, er_8, e⟩ := e
        replace e := cl_s e
        obtain ⟨r_9, er_9, e⟩ := e
        replace e := (gd_s e).2
        replace e := nm_s e
        obtain ⟨h_11, wh_11, e⟩ := e
        have kh_11 : KZ S g h_11 := by rw [wh_11]; exact ks_wI ko_6 ((C.2 _ ((ko_6.1 _ _).symm.trans er_8)).2 _ _ (by decide) ((ko_6.1 _ _).symm.trans er_9))
        replace e := cl_s e
        obtain ⟨o_12, eo_12, e⟩ := e
        have ko_12 : KZ S g o_12 := ks_X15_nextToken C kh_11 eo_12
        replace e := cl_s e
        obtain ⟨o_13, eo_13, e⟩ := e
        have ko_13 : KZ S g o_13.2 := ks_X15_isNumber C ko_12 eo_13
        replace e := br_s e
        rcases e with ⟨_, e⟩ | ⟨_, e⟩
        · exact ks_X15_isStep_156 ko_13 e
        · replace e := br_s e
          rcases e with ⟨_, e⟩ | ⟨_, e⟩
          · replace e := cl_s e
            obtain ⟨r_16, er_16, e⟩ := e
            replace e := cl_s e
            obtain ⟨r_17, er_17, e⟩ := e
            replace e := (gd_s e).2
            replace e := br_s e
            rcases e with ⟨_, e⟩ | ⟨_, e⟩
            · exact ks_X15_isStep_156 ko_13 e
            · exact ks_X15_isStep_158 C ko_13 e
          · exact ks_X15_isStep_158 C ko_13 e
theorem ks_X15_isStep {S : Nat → Prop} {g : Hp} {F : Nat} {o : Int32 × Hp} {x0 : Nat} {x1 : Nat} {x2 : Int32} {x3 : Int32} (C : CR S x0 g) {h : Hp} (k : KZ S g h) (e : sX15_isStep F h x0 x1 x2 x3 = some o) : KZ S g o.2 := by
  unfold sX15_isStep at e
  exact ks_X15_isStep_3 C F k e
theorem ks_X15_isMan_154 {S : Nat → Prop} {g : Hp} {F : Nat} {o : Int32 × Hp}  {h : Hp} (k : KZ S g h) (e : sX15_isMan_154 F h = some o) : KZ S g o.2 := by
  unfold sX15_isMan_154 at e
  rw [← Option.some.inj e]; exact k
theorem ks_X15_isMan_92 {S : Nat → Prop} {g : Hp} {F : Nat} {o : Int32 × Hp} {x0 : Nat} (C : CR S x0 g) : ∀ (f : Nat) {h : Hp} {x1 : Nat} {x2 : Int32} {x3 : Int32}, KZ S g h → sX15_isMan_92 F f h x0 x1 x2 x3 = some o → KZ S g o.2 := by
  intro f
  induction f with
  | zero => intro h x1 x2 x3 _ e; exact absurd e (by rw [sX15_isMan_92]; exact fun z => nomatch z)
  | succ f ih =>
    intro h x1 x2 x3 k e
    rw [sX15_isMan_92] at e
    replace e := cl_s e
    obtain ⟨r_1, er_1, e⟩ := e
    replace e := cl_s e
    obtain ⟨r_2, er_2, e⟩ := e
    replace e := (gd_s e).2
    replace e := cl_s e
    obtain ⟨o_4, eo_4, e⟩ := e
    have ko_4 : KZ S g o_4.2 := ks_X15_isStep C k eo_4
    replace e := br_s e
    rcases e with ⟨_, e⟩ | ⟨_, e⟩
    · rw [← Option.some.inj e]; exact ko_4
    · replace e := cl_s e
      obtain ⟨r_6, er_6, e⟩ := e
      replace e := cl_s e
      obtain ⟨r_7, er_7, e⟩ := e
      replace e := (gd_s e).2
      replace e := (gd_s e).2
      replace e := nm_s e
      obtain ⟨h_10, wh_10, e⟩ := e
      have kh_10 : KZ S g h_10 := by rw [wh_10]; exact ks_wI ko_4 ((C.2 _ ((ko_4.1 _ _).symm.trans er_6)).2 _ _ (by decide) ((ko_4.1 _ _).symm.trans er_7))
      replace e := cl_s e
      obtain ⟨o_11, eo_11, e⟩ := e
      have ko_11 : KZ S g o_11.2 := ks_X15_isSign C kh_10 eo_11
      replace e := br_s e
      rcases e with ⟨_, e⟩ | ⟨_, e⟩
      · exact ks_X15_isMan_154 ko_11 e
      · replace e := cl_s e
        obtain ⟨r_13, er_13, e⟩ := e
        replace e := cl_s e
        obtain ⟨r_14, er_14, e⟩ := e
        replace e := (gd_s e).2
        replace e := br_s e
        rcases e with ⟨_, e⟩ | ⟨_, e⟩
        · exact ks_X15_isMan_154 ko_11 e
        · replace e := cl_s e
          obtain ⟨o_17, eo_17, e⟩ := e
          have ko_17 : KZ S g o_17 := ks_X15_nextToken C ko_11 eo_17
          exact ih ko_17 e
theorem ks_X15_isMan {S : Nat → Prop} {g : Hp} {F : Nat} {o : Int32 × Hp} {x0 : Nat} {x1 : Nat} {x2 : Int32} (C : CR S x0 g) {h : Hp} (k : KZ S g h) (e : sX15_isMan F h x0 x1 x2 = some o) : KZ S g o.2 := by
  unfold sX15_isMan at e
  replace e := cl_s e
  obtain ⟨o_1, eo_1, e⟩ := e
  have ko_1 : KZ S g o_1 := ks_X15_nextToken C k eo_1
  replace e := br_s e
  rcases e with ⟨_, e⟩ | ⟨_, e⟩
  · replace e := br_s e
    rcases e with ⟨_, e⟩ | ⟨_, e⟩
    · replace e := cl_s e
      obtain ⟨o_4, eo_4, e⟩ := e
      have ko_4 : KZ S g o_4.2 := ks_X15_manAt C ko_1 eo_4
      replace e := br_s e
      rcases e with ⟨_, e⟩ | ⟨_, e⟩
      · replace e := cl_s e
        obtain ⟨r_6, er_6, e⟩ := e
        replace e := br_s e
        rcases e with ⟨_, e⟩ | ⟨_, e⟩
        · exact ks_X15_isMan_48 ko_4 e
        · replace e := cl_s e
          obtain ⟨r_8, er_8, e⟩ := e
          replace e := nm_s e
          obtain ⟨v_9, wv_9, e⟩ := e
          replace e := cl_s e
          obtain ⟨r_10, er_10, e⟩ := e
          replace e := cl_s e
          obtain ⟨r_11, er_11, e⟩ := e
          replace e := (gd_s e).2
          replace e := (gd_s e).2
          replace e := nm_s e
          obtain ⟨h_14, wh_14, e⟩ := e
          have kh_14 : KZ S g h_14 := by rw [wh_14]; exact ks_wI ko_4 ((C.2 _ ((ko_4.1 _ _).symm.trans er_10)).2 _ _ (by decide) ((ko_4.1 _ _).symm.trans er_11))
          replace e := cl_s e
          obtain ⟨r_15, er_15, e⟩ := e
          replace e := nm_s e
          obtain ⟨h_16, wh_16, e⟩ := e
          have kh_16 : KZ S g h_16 := by rw [wh_16]; exact ks_wI kh_14 (C.2 _ ((kh_14.1 _ _).symm.trans er_15)).1
          replace e := cl_s e
          obtain ⟨o_17, eo_17, e⟩ := e
          have ko_17 : KZ S g o_17 := ks_X15_nextToken C kh_16 eo_17
          exact ks_X15_isMan_92 C F ko_17 e
      · exact ks_X15_isMan_48 ko_4 e
    · exact ks_X15_isMan_48 ko_1 e
  · exact ks_X15_isMan_48 ko_1 e
theorem ks_X15_isSentence {S : Nat → Prop} {g : Hp} {F : Nat} {o : Int32 × Hp} {x0 : Nat} {x1 : Nat} {x2 : Int32} (C : CR S x0 g) {h : Hp} (k : KZ S g h) (e : sX15_isSentence F h x0 x1 x2 = some o) : KZ S g o.2 := by
  unfold sX15_isSentence at e
  replace e := cl_s e
  obtain ⟨o_1, eo_1, e⟩ := e
  have ko_1 : KZ S g o_1.2 := ks_X15_isWord C k eo_1
  replace e := br_s e
  rcases e with ⟨_, e⟩ | ⟨_, e⟩
  · replace e := cl_s e
    obtain ⟨o_3, eo_3, e⟩ := e
    have ko_3 : KZ S g o_3.2 := ks_X15_isWord C ko_1 eo_3
    replace e := br_s e
    rcases e with ⟨_, e⟩ | ⟨_, e⟩
    · replace e := cl_s e
      obtain ⟨o_5, eo_5, e⟩ := e
      have ko_5 : KZ S g o_5.2 := ks_X15_isWord C ko_3 eo_5
      replace e := br_s e
      rcases e with ⟨_, e⟩ | ⟨_, e⟩
      · replace e := cl_s e
        obtain ⟨o_7, eo_7, e⟩ := e
        have ko_7 : KZ S g o_7.2 := ks_X15_isWord C ko_5 eo_7
        replace e := br_s e
        rcases e with ⟨_, e⟩ | ⟨_, e⟩
        · replace e := cl_s e
          obtain ⟨o_9, eo_9, e⟩ := e
          have ko_9 : KZ S g o_9.2 := ks_X15_isWord C ko_7 eo_9
          replace e := br_s e
          rcases e with ⟨_, e⟩ | ⟨_, e⟩
          · replace e := cl_s e
            obtain ⟨o_11, eo_11, e⟩ := e
            have ko_11 : KZ S g o_11.2 := ks_X15_isWord C ko_9 eo_11
            replace e := br_s e
            rcases e with ⟨_, e⟩ | ⟨_, e⟩
            · replace e := cl_s e
              obtain ⟨o_13, eo_13, e⟩ := e
              have ko_13 : KZ S g o_13.2 := ks_X15_isWord C ko_11 eo_13
              replace e := br_s e
              rcases e with ⟨_, e⟩ | ⟨_, e⟩
              · replace e := cl_s e
                obtain ⟨o_15, eo_15, e⟩ := e
                have ko_15 : KZ S g o_15.2 := ks_X15_isWord C ko_13 eo_15
                replace e := br_s e
                rcases e with ⟨_, e⟩ | ⟨_, e⟩
                · replace e := cl_s e
                  obtain ⟨o_17, eo_17, e⟩ := e
                  have ko_17 : KZ S g o_17.2 := ks_X15_isWord C ko_15 eo_17
                  replace e := br_s e
                  rcases e with ⟨_, e⟩ | ⟨_, e⟩
                  · replace e := cl_s e
                    obtain ⟨o_19, eo_19, e⟩ := e
                    have ko_19 : KZ S g o_19.2 := ks_X15_isWord C ko_17 eo_19
                    replace e := br_s e
                    rcases e with ⟨_, e⟩ | ⟨_, e⟩
                    · replace e := cl_s e
                      obtain ⟨o_21, eo_21, e⟩ := e
                      have ko_21 : KZ S g o_21.2 := ks_X15_isWord C ko_19 eo_21
                      replace e := br_s e
                      rcases e with ⟨_, e⟩ | ⟨_, e⟩
                      · replace e := cl_s e
                        obtain ⟨o_23, eo_23, e⟩ := e
                        have ko_23 : KZ S g o_23.2 := ks_X15_isWord C ko_21 eo_23
                        replace e := br_s e
                        rcases e with ⟨_, e⟩ | ⟨_, e⟩
                        · exact ks_X15_isSentence_400 ko_23 e
                        · replace e := cl_s e
                          obtain ⟨o_25, eo_25, e⟩ := e
                          have ko_25 : KZ S g o_25.2 := ks_X15_isOnce C ko_23 eo_25
                          replace e := br_s e
                          rcases e with ⟨_, e⟩ | ⟨_, e⟩
                          · exact ks_X15_isSentence_400 ko_25 e
                          · replace e := cl_s e
                            obtain ⟨o_27, eo_27, e⟩ := e
                            have ko_27 : KZ S g o_27.2 := ks_X15_isOutcome C ko_25 eo_27
                            replace e := br_s e
                            rcases e with ⟨_, e⟩ | ⟨_, e⟩
                            · exact ks_X15_isSentence_400 ko_27 e
                            · exact ks_X15_isSentence_401 ko_27 e
                      · replace e := cl_s e
                        obtain ⟨o_29, eo_29, e⟩ := e
                        have ko_29 : KZ S g o_29.2 := ks_X15_isOnce C ko_21 eo_29
                        replace e := br_s e
                        rcases e with ⟨_, e⟩ | ⟨_, e⟩
                        · exact ks_X15_isSentence_365 ko_29 e
                        · replace e := cl_s e
                          obtain ⟨o_31, eo_31, e⟩ := e
                          have ko_31 : KZ S g o_31.2 := ks_X15_isOutcome C ko_29 eo_31
                          replace e := br_s e
                          rcases e with ⟨_, e⟩ | ⟨_, e⟩
                          · exact ks_X15_isSentence_365 ko_31 e
                          · exact ks_X15_isSentence_366 ko_31 e
                    · replace e := cl_s e
                      obtain ⟨o_33, eo_33, e⟩ := e
                      have ko_33 : KZ S g o_33.2 := ks_X15_isOnce C ko_19 eo_33
                      replace e := br_s e
                      rcases e with ⟨_, e⟩ | ⟨_, e⟩
                      · exact ks_X15_isSentence_330 ko_33 e
                      · replace e := cl_s e
                        obtain ⟨o_35, eo_35, e⟩ := e
                        have ko_35 : KZ S g o_35.2 := ks_X15_isHill C ko_33 eo_35
                        replace e := br_s e
                        rcases e with ⟨_, e⟩ | ⟨_, e⟩
                        · exact ks_X15_isSentence_330 ko_35 e
                        · exact ks_X15_isSentence_331 ko_35 e
                  · replace e := cl_s e
                    obtain ⟨o_37, eo_37, e⟩ := e
                    have ko_37 : KZ S g o_37.2 := ks_X15_isOnce C ko_17 eo_37
                    replace e := br_s e
                    rcases e with ⟨_, e⟩ | ⟨_, e⟩
                    · exact ks_X15_isSentence_296 ko_37 e
                    · replace e := cl_s e
                      obtain ⟨o_39, eo_39, e⟩ := e
                      have ko_39 : KZ S g o_39.2 := ks_X15_isChecks C ko_37 eo_39
                      replace e := br_s e
                      rcases e with ⟨_, e⟩ | ⟨_, e⟩
                      · exact ks_X15_isSentence_296 ko_39 e
                      · exact ks_X15_isSentence_297 ko_39 e
                · replace e := cl_s e
                  obtain ⟨r_41, er_41, e⟩ := e
                  replace e := nm_s e
                  obtain ⟨h_42, wh_42, e⟩ := e
                  have kh_42 : KZ S g h_42 := by rw [wh_42]; exact ks_wI ko_15 (C.2 _ ((ko_15.1 _ _).symm.trans er_41)).1
                  replace e := cl_s e
                  obtain ⟨o_43, eo_43, e⟩ := e
                  have ko_43 : KZ S g o_43.2 := ks_X15_isOnce C kh_42 eo_43
                  replace e := br_s e
                  rcases e with ⟨_, e⟩ | ⟨_, e⟩
                  · exact ks_X15_isSentence_262 ko_43 e
                  · replace e := cl_s e
                    obtain ⟨o_45, eo_45, e⟩ := e
                    have ko_45 : KZ S g o_45.2 := ks_X15_isBlast C ko_43 eo_45
                    replace e := br_s e
                    rcases e with ⟨_, e⟩ | ⟨_, e⟩
                    · exact ks_X15_isSentence_262 ko_45 e
                    · exact ks_X15_isSentence_263 ko_45 e
              · replace e := cl_s e
                obtain ⟨r_47, er_47, e⟩ := e
                replace e := nm_s e
                obtain ⟨h_48, wh_48, e⟩ := e
                have kh_48 : KZ S g h_48 := by rw [wh_48]; exact ks_wI ko_13 (C.2 _ ((ko_13.1 _ _).symm.trans er_47)).1
                replace e := cl_s e
                obtain ⟨o_49, eo_49, e⟩ := e
                have ko_49 : KZ S g o_49.2 := ks_X15_isOnce C kh_48 eo_49
                replace e := br_s e
                rcases e with ⟨_, e⟩ | ⟨_, e⟩
                · exact ks_X15_isSentence_221 ko_49 e
                · replace e := cl_s e
                  obtain ⟨o_51, eo_51, e⟩ := e
                  have ko_51 : KZ S g o_51.2 := ks_X15_goesOn C ko_49 eo_51
                  replace e := br_s e
                  rcases e with ⟨_, e⟩ | ⟨_, e⟩
                  · exact ks_X15_isSentence_221 ko_51 e
                  · exact ks_X15_isSentence_222 ko_51 e
            · replace e := cl_s e
              obtain ⟨r_53, er_53, e⟩ := e
              replace e := nm_s e
              obtain ⟨h_54, wh_54, e⟩ := e
              have kh_54 : KZ S g h_54 := by rw [wh_54]; exact ks_wI ko_11 (C.2 _ ((ko_11.1 _ _).symm.trans er_53)).1
              replace e := cl_s e
              obtain ⟨o_55, eo_55, e⟩ := e
              have ko_55 : KZ S g o_55.2 := ks_X15_isOnce C kh_54 eo_55
              replace e := br_s e
              rcases e with ⟨_, e⟩ | ⟨_, e⟩
              · exact ks_X15_isSentence_180 ko_55 e
              · replace e := cl_s e
                obtain ⟨o_57, eo_57, e⟩ := e
                have ko_57 : KZ S g o_57.2 := ks_X15_goesOn C ko_55 eo_57
                replace e := br_s e
                rcases e with ⟨_, e⟩ | ⟨_, e⟩
                · exact ks_X15_isSentence_180 ko_57 e
                · exact ks_X15_isSentence_181 ko_57 e
          · replace e := cl_s e
            obtain ⟨r_59, er_59, e⟩ := e
            replace e := nm_s e
            obtain ⟨h_60, wh_60, e⟩ := e
            have kh_60 : KZ S g h_60 := by rw [wh_60]; exact ks_wI ko_9 (C.2 _ ((ko_9.1 _ _).symm.trans er_59)).1
            replace e := cl_s e
            obtain ⟨o_61, eo_61, e⟩ := e
            have ko_61 : KZ S g o_61.2 := ks_X15_isOnce C kh_60 eo_61
            replace e := br_s e
            rcases e with ⟨_, e⟩ | ⟨_, e⟩
            · exact ks_X15_isSentence_139 ko_61 e
            · replace e := cl_s e
              obtain ⟨o_63, eo_63, e⟩ := e
              have ko_63 : KZ S g o_63.2 := ks_X15_goesOn C ko_61 eo_63
              replace e := br_s e
              rcases e with ⟨_, e⟩ | ⟨_, e⟩
              · exact ks_X15_isSentence_139 ko_63 e
              · exact ks_X15_isSentence_140 ko_63 e
        · replace e := cl_s e
          obtain ⟨o_65, eo_65, e⟩ := e
          have ko_65 : KZ S g o_65.2 := ks_X15_isOnce C ko_7 eo_65
          replace e := br_s e
          rcases e with ⟨_, e⟩ | ⟨_, e⟩
          · exact ks_X15_isSentence_98 ko_65 e
          · replace e := cl_s e
            obtain ⟨o_67, eo_67, e⟩ := e
            have ko_67 : KZ S g o_67.2 := ks_X15_isCastle C ko_65 eo_67
            replace e := br_s e
            rcases e with ⟨_, e⟩ | ⟨_, e⟩
            · exact ks_X15_isSentence_98 ko_67 e
            · exact ks_X15_isSentence_99 ko_67 e
      · replace e := cl_s e
        obtain ⟨o_69, eo_69, e⟩ := e
        have ko_69 : KZ S g o_69.2 := ks_X15_isOnce C ko_5 eo_69
        replace e := br_s e
        rcases e with ⟨_, e⟩ | ⟨_, e⟩
        · exact ks_X15_isSentence_65 ko_69 e
        · replace e := cl_s e
          obtain ⟨o_71, eo_71, e⟩ := e
          have ko_71 : KZ S g o_71.2 := ks_X15_isRoyal C ko_69 eo_71
          replace e := br_s e
          rcases e with ⟨_, e⟩ | ⟨_, e⟩
          · exact ks_X15_isSentence_65 ko_71 e
          · exact ks_X15_isSentence_66 ko_71 e
    · replace e := cl_s e
      obtain ⟨o_73, eo_73, e⟩ := e
      have ko_73 : KZ S g o_73.2 := ks_X15_isBecoming C ko_3 eo_73
      replace e := (gd_s e).2
      rw [← Option.some.inj e]; exact ko_73
  · replace e := cl_s e
    obtain ⟨o_75, eo_75, e⟩ := e
    have ko_75 : KZ S g o_75.2 := ks_X15_isMan C ko_1 eo_75
    replace e := (gd_s e).2
    rw [← Option.some.inj e]; exact ko_75
theorem ks_X15_isRules_144 {S : Nat → Prop} {g : Hp} {F : Nat} {o : Int32 × Hp}  {h : Hp} (k : KZ S g h) (e : sX15_isRules_144 F h = some o) : KZ S g o.2 := by
  unfold sX15_isRules_144 at e
  rw [← Option.some.inj e]; exact k
theorem ks_X15_isRules_117 {S : Nat → Prop} {g : Hp} {F : Nat} {o : Int32 × Hp} {x0 : Nat} (C : CR S x0 g) : ∀ (f : Nat) {h : Hp} {x1 : Nat} {x2 : Int32}, KZ S g h → sX15_isRules_117 F f h x0 x1 x2 = some o → KZ S g o.2 := by
  intro f
  induction f with
  | zero => intro h x1 x2 _ e; exact absurd e (by rw [sX15_isRules_117]; exact fun z => nomatch z)
  | succ f ih =>
    intro h x1 x2 k e
    rw [sX15_isRules_117] at e
    replace e := br_s e
    rcases e with ⟨_, e⟩ | ⟨_, e⟩
    · rw [← Option.some.inj e]; exact k
    · replace e := cl_s e
      obtain ⟨o_2, eo_2, e⟩ := e
      have ko_2 : KZ S g o_2.2 := ks_X15_isSentence C k eo_2
      replace e := br_s e
      rcases e with ⟨_, e⟩ | ⟨_, e⟩
      · exact ks_X15_isRules_144 ko_2 e
      · replace e := cl_s e
        obtain ⟨o_4, eo_4, e⟩ := e
        have ko_4 : KZ S g o_4.2 := ks_X15_isSign C ko_2 eo_4
        replace e := br_s e
        rcases e with ⟨_, e⟩ | ⟨_, e⟩
        · exact ks_X15_isRules_144 ko_4 e
        · replace e := cl_s e
          obtain ⟨o_6, eo_6, e⟩ := e
          have ko_6 : KZ S g o_6 := ks_X15_nextToken C ko_4 eo_6
          exact ih ko_6 e
theorem ks_X15_isRules {S : Nat → Prop} {g : Hp} {F : Nat} {o : Int32 × Hp} {x0 : Nat} {x1 : Nat} {x2 : Int32} (C : CR S x0 g) {h : Hp} (k : KZ S g h) (e : sX15_isRules F h x0 x1 x2 = some o) : KZ S g o.2 := by
  unfold sX15_isRules at e
  replace e := cl_s e
  obtain ⟨r_1, er_1, e⟩ := e
  replace e := cl_s e
  obtain ⟨o_2, eo_2, e⟩ := e
  have ko_2 : KZ S g o_2 := ks_X14_clear (C.2 _ ((k.1 _ _).symm.trans er_1)) k eo_2
  replace e := nm_s e
  obtain ⟨h_3, wh_3, e⟩ := e
  have kh_3 : KZ S g h_3 := by rw [wh_3]; exact ks_wI ko_2 C.1
  replace e := nm_s e
  obtain ⟨h_4, wh_4, e⟩ := e
  have kh_4 : KZ S g h_4 := by rw [wh_4]; exact ks_wI kh_3 C.1
  replace e := cl_s e
  obtain ⟨o_5, eo_5, e⟩ := e
  have ko_5 : KZ S g o_5 := ks_X15_nextToken C kh_4 eo_5
  replace e := cl_s e
  obtain ⟨o_6, eo_6, e⟩ := e
  have ko_6 : KZ S g o_6.2 := ks_X15_isWord C ko_5 eo_6
  replace e := br_s e
  rcases e with ⟨_, e⟩ | ⟨_, e⟩
  · rw [← Option.some.inj e]; exact ko_6
  · replace e := cl_s e
    obtain ⟨o_8, eo_8, e⟩ := e
    have ko_8 : KZ S g o_8 := ks_X15_nextToken C ko_6 eo_8
    replace e := cl_s e
    obtain ⟨o_9, eo_9, e⟩ := e
    have ko_9 : KZ S g o_9.2 := ks_X15_isNumber C ko_8 eo_9
    replace e := br_s e
    rcases e with ⟨_, e⟩ | ⟨_, e⟩
    · rw [← Option.some.inj e]; exact ko_9
    · replace e := cl_s e
      obtain ⟨r_11, er_11, e⟩ := e
      replace e := nm_s e
      obtain ⟨h_12, wh_12, e⟩ := e
      have kh_12 : KZ S g h_12 := by rw [wh_12]; exact ks_wI ko_9 (C.2 _ ((ko_9.1 _ _).symm.trans er_11)).1
      replace e := cl_s e
      obtain ⟨o_13, eo_13, e⟩ := e
      have ko_13 : KZ S g o_13 := ks_X15_nextToken C kh_12 eo_13
      replace e := cl_s e
      obtain ⟨o_14, eo_14, e⟩ := e
      have ko_14 : KZ S g o_14.2 := ks_X15_isNumber C ko_13 eo_14
      replace e := br_s e
      rcases e with ⟨_, e⟩ | ⟨_, e⟩
      · rw [← Option.some.inj e]; exact ko_14
      · replace e := cl_s e
        obtain ⟨r_16, er_16, e⟩ := e
        replace e := nm_s e
        obtain ⟨h_17, wh_17, e⟩ := e
        have kh_17 : KZ S g h_17 := by rw [wh_17]; exact ks_wI ko_14 (C.2 _ ((ko_14.1 _ _).symm.trans er_16)).1
        replace e := cl_s e
        obtain ⟨o_18, eo_18, e⟩ := e
        have ko_18 : KZ S g o_18 := ks_X15_nextToken C kh_17 eo_18
        replace e := cl_s e
        obtain ⟨o_19, eo_19, e⟩ := e
        have ko_19 : KZ S g o_19.2 := ks_X15_isSign C ko_18 eo_19
        replace e := br_s e
        rcases e with ⟨_, e⟩ | ⟨_, e⟩
        · rw [← Option.some.inj e]; exact ko_19
        · replace e := cl_s e
          obtain ⟨o_21, eo_21, e⟩ := e
          have ko_21 : KZ S g o_21 := ks_X15_nextToken C ko_19 eo_21
          exact ks_X15_isRules_117 C F ko_21 e
