section
/-! the class's invariant, and how it is carried over what leaves it alone -/
section
variable {ρ ρ1 : Nat → Nat} {c c1 : Cm} {h o g : Hp} {S : Nat → Nat → Nat → Bool} {x0 a b k w i F L : Nat}
theorem frx (f : Fr ρ (cat c S h) h o) (ra : ρ a = k) (k0 : k ≠ 0) (wa : cw c a = w) (s : S k w i = false) : hI o a i = hI h a i ∧ hJ o a i = hJ h a i ∧ hR o a i = hR h a i := f.1 a i (by rw [ra]; exact k0) (by rw [ra]; show S k (cw c a) i = false; rw [wa]; exact s)
abbrev LWc (S : Nat → Nat → Nat → Bool) : Prop := ∀ i, S 2 2102 i = false
theorem lwr_f (f : Fr ρ (cat c S h) h o) (s : LWc S) (P : LwR ρ c h) : LwR ρ c o := fun L rL wL hc => by
  rw [(frx f rL (by decide) wL (s 0)).1, (frx f rL (by decide) wL (s 1)).1, (frx f rL (by decide) wL (s 2)).1] at hc
  exact P L rL wL hc
theorem ryp_f (T : TH ρ c h) (rb : ρ b = 4) (wb : cw c b = w) (f : Fr ρ (cat c S h) h o) (s4 : S 4 w 2 = false) (s36 : ∀ i, S 36 w i = false) (s : LWc S) (P : RyP ρ c b h) : RyP ρ c b o := fun ra e i hi n L rL wL => by
  rw [(frx f rb (by decide) wb s4).2.2] at e
  have rr' : ρ ra = 36 := rr T (thR T rb (i := 2) (k2 := 36) rfl (by decide)) e
  rw [(frx f rr' (by decide) (th_ih T rb rfl e wb) (s36 i)).1] at n
  rw [(frx f rL (by decide) wL (s 4)).1]
  exact P ra e i hi n L rL wL
theorem pox_f (T : TH ρ c h) (rb : ρ b = 4) (wb : cw c b = w) (f : Fr ρ (cat c S h) h o) (s4 : S 4 w 0 = false) (s34 : ∀ i, S 34 w i = false) (s : LWc S) (P : PoX ρ c b h) : PoX ρ c b o := fun L on sq rL wL eo hs z => by
  rw [(frx f rb (by decide) wb s4).2.2] at eo
  have qo := th_on T rb eo
  rw [(frx f qo (by decide) (th_ih T rb rfl eo wb) (s34 sq)).1] at z ⊢
  rw [(frx f rL (by decide) wL (s 2)).1, (frx f rL (by decide) wL (s 3)).1]
  exact P L on sq rL wL eo hs z
theorem plp_f (T : TH ρ c h) (r0 : ρ x0 = 12) (f : Fr ρ (cat c S h) h o) (s12 : ∀ w i, S 12 w i = false) (s57 : ∀ w i, S 57 w i = false) (s58 : ∀ w i, S 58 w i = false) (s4 : S 4 3200 2 = false) (s36 : ∀ i, S 36 3200 i = false) (s : LWc S) (P : PlP ρ c x0 h) : PlP ρ c x0 o := fun r u er eu i hi nu b eb => by
  rw [(frx f r0 (by decide) rfl (s12 _ _)).2.2] at er eu
  have rr' : ρ r = 57 := rr T (thR T r0 (i := 13) (k2 := 57) rfl (by decide)) er
  have ru : ρ u = 58 := rr T (thR T r0 (i := 14) (k2 := 58) rfl (by decide)) eu
  rw [(frx f rr' (by decide) rfl (s57 _ _)).2.2] at eb
  rw [(frx f ru (by decide) rfl (s58 _ _)).1] at nu
  exact ryp_f T (pl_b T rr' hi eb) (kid_w T rr' (i := i) (w := 3200) rfl (by decide) eb) f s4 s36 s (P r u er eu i hi nu b eb)
theorem plx_f (T : TH ρ c h) (r0 : ρ x0 = 12) (f : Fr ρ (cat c S h) h o) (s12 : ∀ w i, S 12 w i = false) (s57 : ∀ w i, S 57 w i = false) (s58 : ∀ w i, S 58 w i = false) (s4 : S 4 3200 0 = false) (s34 : ∀ i, S 34 3200 i = false) (s : LWc S) (P : PlX ρ c x0 h) : PlX ρ c x0 o := fun r u er eu i hi nu b eb => by
  rw [(frx f r0 (by decide) rfl (s12 _ _)).2.2] at er eu
  have rr' : ρ r = 57 := rr T (thR T r0 (i := 13) (k2 := 57) rfl (by decide)) er
  have ru : ρ u = 58 := rr T (thR T r0 (i := 14) (k2 := 58) rfl (by decide)) eu
  rw [(frx f rr' (by decide) rfl (s57 _ _)).2.2] at eb
  rw [(frx f ru (by decide) rfl (s58 _ _)).1] at nu
  exact pox_f T (pl_b T rr' hi eb) (kid_w T rr' (i := i) (w := 3200) rfl (by decide) eb) f s4 s34 s (P r u er eu i hi nu b eb)
theorem pgx_f (T : TH ρ c h) (r0 : ρ x0 = 12) (f : Fr ρ (cat c S h) h o) (s12 : ∀ w i, S 12 w i = false) (s59 : ∀ w i, S 59 w i = false) (s61 : ∀ w i, S 61 w i = false) (s4 : ∀ j, S 4 (8000 + j) 0 = false) (s42 : ∀ j, S 4 (8000 + j) 2 = false) (s34 : ∀ j i, S 34 (8000 + j) i = false) (s36 : ∀ j i, S 36 (8000 + j) i = false) (s : LWc S) (P : PgX ρ c x0 h) : PgX ρ c x0 o := fun rl el n k hn hk b B => by
  rw [(frx f r0 (by decide) rfl (s12 _ _)).2.2] at el
  have rl' : ρ rl = 61 := rr T (thR T r0 (i := 17) (k2 := 61) rfl (by decide)) el
  rw [(frx f rl' (by decide) rfl (s61 _ _)).1] at hk
  have B0 : Pg x0 (301 * n + k) b h := by
    obtain ⟨r, e1, e2⟩ := B
    rw [(frx f r0 (by decide) rfl (s12 _ _)).2.2] at e1
    have r59 : ρ r = 59 := rr T (thR T r0 (i := 15) (k2 := 59) rfl (by decide)) e1
    rw [(frx f r59 (by decide) rfl (s59 _ _)).2.2] at e2
    exact ⟨r, e1, e2⟩
  obtain ⟨k1, k2⟩ := pg_r T r0 B0
  have Q := P rl el n k hn hk b B0
  exact ⟨ryp_f T k1 k2 f (s42 _) (s36 _) s Q.1, pox_f T k1 k2 f (s4 _) (s34 _) s Q.2⟩
/-- the law in force has squares as its board -/
def GeM (x0 : Nat) (h : Hp) : Prop := ∀ L, hR h x0 2 = some L → GeoS L h
def GeT (x0 : Nat) (h : Hp) : Prop := ∀ L, hR h x0 3 = some L → GeoS L h
theorem gem_f (T : TH ρ c h) (r0 : ρ x0 = 12) (f : Fr ρ (cat c S h) h o) (s12 : ∀ w i, S 12 w i = false) (s32 : ∀ i, S 32 2102 i = false) (s : LWc S) (P : GeM x0 h) : GeM x0 o := fun L eL fo ef hc i hi => by
  rw [(frx f r0 (by decide) rfl (s12 _ _)).2.2] at eL
  have rL : ρ L = 2 := rr T (thR T r0 (i := 2) (k2 := 2) rfl (by decide)) eL
  have wL : cw c L = 2102 := kid_w T r0 (i := 2) (w := 2102) rfl (by decide) eL
  rw [(frx f rL (by decide) wL (s 19)).2.2] at ef
  have rf : ρ fo = 32 := rr T (thR T rL (i := 19) (k2 := 32) rfl (by decide)) ef
  rw [(frx f rL (by decide) wL (s 0)).1, (frx f rL (by decide) wL (s 1)).1, (frx f rL (by decide) wL (s 2)).1] at hc
  rw [(frx f rf (by decide) (th_ih T rL rfl ef wL) (s32 i)).1]
  exact P L eL fo ef hc i hi
theorem get_f (T : TH ρ c h) (r0 : ρ x0 = 12) (f : Fr ρ (cat c S h) h o) (s12 : ∀ w i, S 12 w i = false) (s32 : ∀ i, S 32 2103 i = false) (s : ∀ i, S 2 2103 i = false) (P : GeT x0 h) : GeT x0 o := fun L eL fo ef hc i hi => by
  rw [(frx f r0 (by decide) rfl (s12 _ _)).2.2] at eL
  have rL : ρ L = 2 := rr T (thR T r0 (i := 3) (k2 := 2) rfl (by decide)) eL
  have wL : cw c L = 2103 := kid_w T r0 (i := 3) (w := 2103) rfl (by decide) eL
  rw [(frx f rL (by decide) wL (s 19)).2.2] at ef
  have rf : ρ fo = 32 := rr T (thR T rL (i := 19) (k2 := 32) rfl (by decide)) ef
  rw [(frx f rL (by decide) wL (s 0)).1, (frx f rL (by decide) wL (s 1)).1, (frx f rL (by decide) wL (s 2)).1] at hc
  rw [(frx f rf (by decide) (th_ih T rL rfl ef wL) (s32 i)).1]
  exact P L eL fo ef hc i hi
theorem fmm_f (T : TH ρ c h) (f : Fr ρ (cat c S h) h o) (s11 : ∀ w, S 11 w 3 = false) (s53 : ∀ w i, S 53 w i = false) (P : FmM ρ c h) : FmM ρ c o := fun W rW => fm_fr T rW f s11 s53 (P W rW)
theorem fox_f {n m : Int} {rt : Nat} (T : TH ρ c h) (r7 : ρ rt = 7) (f : Fr ρ (cat c S h) h o) (s7 : ∀ w, S 7 w 5 = false) (s76 : ∀ w, S 7 w 6 = false) (s48 : ∀ w i, S 48 w i = false) (P : FoX rt n m h) : FoX rt n m o := fox_fr T r7 f s7 s76 s48 P
theorem rex_f (T : TH ρ c h) (r0 : ρ x0 = 12) (f : Fr ρ (cat c S h) h o) (s12 : ∀ w i, S 12 w i = false) (s73 : ∀ w, S 7 w 3 = false) (s7 : ∀ w, S 7 w 5 = false) (s76 : ∀ w, S 7 w 6 = false) (s48 : ∀ w i, S 48 w i = false) (s4 : S 4 1603 0 = false) (s42 : S 4 1603 2 = false) (s34 : ∀ i, S 34 1603 i = false) (s36 : ∀ i, S 36 1603 i = false) (s : LWc S) (P : ReX ρ c x0 h) : ReX ρ c x0 o := fun rt er z => by
  rw [(frx f r0 (by decide) rfl (s12 _ _)).2.2] at er
  have r7 : ρ rt = 7 := rr T (thR T r0 (i := 9) (k2 := 7) rfl (by decide)) er
  rw [(frx f r7 (by decide) rfl (s76 _)).1] at z
  obtain ⟨A, B⟩ := P rt er z
  refine ⟨fun b eb => ?_, fun L rL wL => ?_⟩
  · rw [(frx f r7 (by decide) rfl (s73 _)).2.2] at eb
    have rb : ρ b = 4 := rr T (thR T r7 (i := 3) (k2 := 4) rfl (by decide)) eb
    have wb : cw c b = 1603 := th_id T r7 (w := 1603) eb rfl (by decide)
    exact ⟨ryp_f T rb wb f s42 s36 s (A b eb).1, pox_f T rb wb f s4 s34 s (A b eb).2⟩
  · rw [(frx f rL (by decide) wL (s 2)).1, (frx f rL (by decide) wL (s 3)).1]
    exact fox_fr T r7 f s7 s76 s48 (B L rL wL)
theorem ena_f (T : TH ρ c h) (r0 : ρ x0 = 12) (f : Fr ρ (cat c S h) h o) (s12 : ∀ w i, S 12 w i = false) (s1 : ∀ w j, ¬ j = 14 → ¬ j = 8 → ¬ j = 17 → ¬ j = 16 → S 1 w j = false) (s20 : ∀ w i, S 20 w i = false) (s21 : ∀ w i, S 21 w i = false) (s22 : ∀ w i, S 22 w i = false) (s : LWc S) (P : EnA x0 h) : EnA x0 o := fun e ee => by
  rw [(frx f r0 (by decide) rfl (s12 _ _)).2.2] at ee
  have re : ρ e = 1 := rr T (thR T r0 (i := 10) (k2 := 1) rfl (by decide)) ee
  have R1 : ∀ j, ¬ j = 14 → ¬ j = 8 → ¬ j = 17 → ¬ j = 16 → hI o e j = hI h e j ∧ hJ o e j = hJ h e j ∧ hR o e j = hR h e j := fun j a b c d => frx f re (by decide) rfl (s1 _ j a b c d)
  obtain ⟨p1, p2, p3⟩ := P e ee
  have lenp : LenP e h → LenP e o := fun Q i a hi ea => by
    have q : ∀ j k2, (¬ j = 14 ∧ ¬ j = 8 ∧ ¬ j = 17 ∧ ¬ j = 16) → rfK 1 j = k2 → k2 ≠ 0 → hR o e j = some a → hR h e j = some a ∧ ρ a ≠ 0 := fun j k2 hm hk h0 ej => by
      rw [(R1 j hm.1 hm.2.1 hm.2.2.1 hm.2.2.2).2.2] at ej
      exact ⟨ej, by rw [rr T (thR T re (i := j) (k2 := k2) hk h0) ej]; exact h0⟩
    have z : hR h e i = some a ∧ ρ a ≠ 0 := by
      rcases hi with w | w | w <;> subst w
      · exact q 11 24 (by decide) rfl (by decide) ea
      · exact q 12 25 (by decide) rfl (by decide) ea
      · exact q 13 26 (by decide) rfl (by decide) ea
    rw [f.2 a z.2]
    exact Q i a hi z.1
  refine ⟨fun r er i => ?_, fun a ea => ?_, fun n => ?_⟩
  · rw [(R1 5 (by decide) (by decide) (by decide) (by decide)).2.2] at er
    have q : ρ r = 21 := rr T (thR T re (i := 5) (k2 := 21) rfl (by decide)) er
    rw [(frx f q (by decide) rfl (s21 _ _)).1]
    exact p1 r er i
  · rw [(R1 11 (by decide) (by decide) (by decide) (by decide)).2.2] at ea
    have ra := rr T (thR T re (i := 11) (k2 := 24) rfl (by decide)) ea
    rw [f.2 a (by rw [ra]; decide)]
    exact (p2 a ea).imp id lenp
  · rw [(R1 10 (by decide) (by decide) (by decide) (by decide)).1] at n
    obtain ⟨l, ks, st, pw, L, e0, e4, e5, e6, Pw, St⟩ := p3 n
    have rL : ρ L = 2 := rr T (thR T re (i := 0) (k2 := 2) rfl (by decide)) e0
    have wL : cw c L = 2102 := kid_w T re (i := 0) (w := 2102) rfl (by decide) e0
    have qk : ρ ks = 20 := rr T (thR T re (i := 4) (k2 := 20) rfl (by decide)) e4
    have qs : ρ st = 21 := rr T (thR T re (i := 5) (k2 := 21) rfl (by decide)) e5
    have qp : ρ pw = 22 := rr T (thR T re (i := 6) (k2 := 22) rfl (by decide)) e6
    refine ⟨lenp l, ks, st, pw, L, ?_, ?_, ?_, ?_, fun i hi => ?_, ?_⟩
    · rw [(R1 0 (by decide) (by decide) (by decide) (by decide)).2.2]; exact e0
    · rw [(R1 4 (by decide) (by decide) (by decide) (by decide)).2.2]; exact e4
    · rw [(R1 5 (by decide) (by decide) (by decide) (by decide)).2.2]; exact e5
    · rw [(R1 6 (by decide) (by decide) (by decide) (by decide)).2.2]; exact e6
    · rw [(frx f qp (by decide) rfl (s22 _ _)).1, (frx f rL (by decide) wL (s 2)).1]; exact Pw i hi
    · have k9 := (R1 9 (by decide) (by decide) (by decide) (by decide)).1
      have gk : ∀ i, gK o pw (hI o ks i) = gK h pw (hI h ks i) := fun i => by
        unfold gK
        rw [(frx f qk (by decide) rfl (s20 _ _)).1, (frx f qp (by decide) rfl (s22 _ _)).1]
      refine ⟨?_, fun i hi => ?_⟩
      · rw [k9, sm_eq (g := fun i => gK h pw (hI h ks i)) _ (fun i _ => gk i)]
        exact St.1
      · rw [k9] at hi
        rw [sm_eq (f := fun i => gK o pw (hI o ks i)) (g := fun i => gK h pw (hI h ks i)) _ (fun i _ => gk i), (frx f qs (by decide) rfl (s21 _ _)).1]
        exact St.2 i hi
theorem fmy_f (T : TH ρ c h) (f : Fr ρ (cat c S h) h o) (s11 : ∀ w, S 11 w 3 = false) (s53 : ∀ w i, S 53 w i = false) (s : LWc S) (P : FmY ρ c h) : FmY ρ c o := fun W L rW rL wL => by
  rw [(frx f rL (by decide) wL (s 2)).1]
  exact fmx_fr T rW f s11 s53 (P W L rW rL wL)
theorem lwx_f (T : TH ρ c h) (f : Fr ρ (cat c S h) h o) (s : LWc S) (s30 : ∀ i, S 30 2102 i = false) (s31 : ∀ i, S 31 2102 i = false) (P : LwX ρ c h) : LwX ρ c o := fun L rL wL => by
  rw [(frx f rL (by decide) wL (s 3)).1, (frx f rL (by decide) wL (s 4)).1, (frx f rL (by decide) wL (s 6)).1]
  obtain ⟨a, b, d⟩ := P L rL wL
  refine ⟨a, b, fun bm bc em ec k hk => ?_⟩
  rw [(frx f rL (by decide) wL (s 17)).2.2] at em
  rw [(frx f rL (by decide) wL (s 18)).2.2] at ec
  have rm : ρ bm = 30 := rr T (thR T rL (i := 17) (k2 := 30) rfl (by decide)) em
  have rc : ρ bc = 31 := rr T (thR T rL (i := 18) (k2 := 31) rfl (by decide)) ec
  rw [(frx f rc (by decide) (th_ih T rL rfl ec wL) (s31 k)).1]
  refine ⟨(d bm bc em ec k hk).1, fun i hi => ?_⟩
  rw [(frx f rm (by decide) (th_ih T rL rfl em wL) (s30 _)).1]
  exact (d bm bc em ec k hk).2 i hi
theorem wya_f (T : TH ρ c h) (f : Fr ρ (cat c S h) h o) (s110 : ∀ w, S 11 w 0 = false) (s111 : ∀ w, S 11 w 1 = false) (s118 : ∀ w, S 11 w 8 = false) (s50 : ∀ w i, S 50 w i = false) (s51 : ∀ w i, S 51 w i = false) (s : LWc S) (P : WyA ρ c h) : WyA ρ c o := fun wy L rw' rL wL a0 a1 e0 e1 => by
  rw [(frx f rL (by decide) wL (s 2)).1, (frx f rL (by decide) wL (s 3)).1]
  rw [(frx f rw' (by decide) rfl (s110 _)).2.2] at e0
  rw [(frx f rw' (by decide) rfl (s111 _)).2.2] at e1
  have q0 : ρ a0 = 50 := rr T (thR T rw' (i := 0) (k2 := 50) rfl (by decide)) e0
  have q1 : ρ a1 = 51 := rr T (thR T rw' (i := 1) (k2 := 51) rfl (by decide)) e1
  exact wy_e (frx f rw' (by decide) rfl (s118 _)).1 (fun i => (frx f q0 (by decide) rfl (s50 _ _)).1) (fun i => (frx f q1 (by decide) rfl (s51 _ _)).1) (P wy L rw' rL wL a0 a1 e0 e1)
theorem sqa_f (f : Fr ρ (cat c S h) h o) (s : LWc S) (P : SqA ρ c h) : SqA ρ c o := fun L rL wL => by
  rw [(frx f rL (by decide) wL (s 0)).1, (frx f rL (by decide) wL (s 1)).1, (frx f rL (by decide) wL (s 2)).1]
  exact P L rL wL
/-- what holds of the class between calls -/
def ClI (ρ : Nat → Nat) (c : Cm) (x0 : Nat) (h : Hp) : Prop := LwR ρ c h ∧ PlP ρ c x0 h ∧ PlX ρ c x0 h ∧ PgX ρ c x0 h ∧ GeM x0 h ∧ GeT x0 h ∧ FmM ρ c h ∧ ReX ρ c x0 h ∧ EnA x0 h ∧ FmY ρ c h ∧ LwX ρ c h ∧ WyA ρ c h ∧ SqA ρ c h
/-- roles that the class's state stands on -/
def clS (k : Nat) : Bool := [1, 2, 4, 7, 11, 12, 20, 21, 22, 30, 31, 32, 34, 36, 48, 50, 51, 53, 57, 58, 59, 61].contains k
theorem ci_f (T : TH ρ c h) (r0 : ρ x0 = 12) (f : Fr ρ (cat c S h) h o) (s1 : ∀ k w i, clS k = true → k ≠ 4 → k ≠ 34 → k ≠ 36 → S k w i = false) (s2 : ∀ k w i, clS k = true → (w = 3200 ∨ 8000 ≤ w ∨ w = 1603) → S k w i = false) (P : ClI ρ c x0 h) : ClI ρ c x0 o := by
  obtain ⟨p1, p2, p3, p4, p5, p6, p7, p8, p9, p10, p11, p12, p13⟩ := P
  have s : ∀ k w i, clS k = true → k ≠ 4 → k ≠ 34 → k ≠ 36 → S k w i = false := s1
  have lw : LWc S := fun i => s _ _ _ rfl (by decide) (by decide) (by decide)
  have a12 : ∀ w i, S 12 w i = false := fun _ _ => s _ _ _ rfl (by decide) (by decide) (by decide)
  refine ⟨lwr_f f lw p1, plp_f T r0 f a12 (fun _ _ => s _ _ _ rfl (by decide) (by decide) (by decide)) (fun _ _ => s _ _ _ rfl (by decide) (by decide) (by decide)) (s2 _ _ _ rfl (Or.inl rfl)) (fun _ => s2 _ _ _ rfl (Or.inl rfl)) lw p2, plx_f T r0 f a12 (fun _ _ => s _ _ _ rfl (by decide) (by decide) (by decide)) (fun _ _ => s _ _ _ rfl (by decide) (by decide) (by decide)) (s2 _ _ _ rfl (Or.inl rfl)) (fun _ => s2 _ _ _ rfl (Or.inl rfl)) lw p3, pgx_f T r0 f a12 (fun _ _ => s _ _ _ rfl (by decide) (by decide) (by decide)) (fun _ _ => s _ _ _ rfl (by decide) (by decide) (by decide)) (fun _ => s2 _ _ _ rfl (Or.inr (Or.inl (by omega)))) (fun _ => s2 _ _ _ rfl (Or.inr (Or.inl (by omega)))) (fun _ _ => s2 _ _ _ rfl (Or.inr (Or.inl (by omega)))) (fun _ _ => s2 _ _ _ rfl (Or.inr (Or.inl (by omega)))) lw p4, gem_f T r0 f a12 (fun _ => s _ _ _ rfl (by decide) (by decide) (by decide)) lw p5, get_f T r0 f a12 (fun _ => s _ _ _ rfl (by decide) (by decide) (by decide)) (fun i => s _ _ _ rfl (by decide) (by decide) (by decide)) p6, fmm_f T f (fun _ => s _ _ _ rfl (by decide) (by decide) (by decide)) (fun _ _ => s _ _ _ rfl (by decide) (by decide) (by decide)) p7, rex_f T r0 f a12 (fun _ => s _ _ _ rfl (by decide) (by decide) (by decide)) (fun _ => s _ _ _ rfl (by decide) (by decide) (by decide)) (fun _ => s _ _ _ rfl (by decide) (by decide) (by decide)) (fun _ _ => s _ _ _ rfl (by decide) (by decide) (by decide)) (s2 _ _ _ rfl (Or.inr (Or.inr rfl))) (s2 _ _ _ rfl (Or.inr (Or.inr rfl))) (fun _ => s2 _ _ _ rfl (Or.inr (Or.inr rfl))) (fun _ => s2 _ _ _ rfl (Or.inr (Or.inr rfl))) lw p8, ena_f T r0 f a12 (fun _ _ _ _ _ _ => s _ _ _ rfl (by decide) (by decide) (by decide)) (fun _ _ => s _ _ _ rfl (by decide) (by decide) (by decide)) (fun _ _ => s _ _ _ rfl (by decide) (by decide) (by decide)) (fun _ _ => s _ _ _ rfl (by decide) (by decide) (by decide)) lw p9, fmy_f T f (fun _ => s _ _ _ rfl (by decide) (by decide) (by decide)) (fun _ _ => s _ _ _ rfl (by decide) (by decide) (by decide)) lw p10, lwx_f T f lw (fun _ => s _ _ _ rfl (by decide) (by decide) (by decide)) (fun _ => s _ _ _ rfl (by decide) (by decide) (by decide)) p11, wya_f T f (fun _ => s _ _ _ rfl (by decide) (by decide) (by decide)) (fun _ => s _ _ _ rfl (by decide) (by decide) (by decide)) (fun _ => s _ _ _ rfl (by decide) (by decide) (by decide)) (fun _ _ => s _ _ _ rfl (by decide) (by decide) (by decide)) (fun _ _ => s _ _ _ rfl (by decide) (by decide) (by decide)) lw p12, sqa_f f lw p13⟩
/-- frames that leave the class's state alone -/
def okA (A : List (Nat × Nat)) (L : List (Nat × List (Nat × Nat))) : Bool := A.all (fun p => !(clS p.1)) && L.all (fun p => (decide (p.1 < 8000) && !(p.1 == 3200) && !(p.1 == 1603)) && p.2.all (fun q => !(clS q.1) || (q.1 == 4 || q.1 == 34 || q.1 == 36)))
theorem mS_n {A : List (Nat × Nat)} {k i : Nat} (hA : ∀ p ∈ A, ¬ p.1 = k) : mS A k i = false := by
  cases z : mS A k i with
  | false => rfl
  | true =>
    unfold mS at z
    rw [List.any_eq_true] at z
    obtain ⟨p, hp, hm⟩ := z
    rw [Bool.and_eq_true, beq_iff_eq] at hm
    exact absurd hm.1 (hA p hp)
theorem fS_n {A : List (Nat × Nat)} {Lo : List (Nat × List (Nat × Nat))} {k w i : Nat} (hA : ∀ p ∈ A, ¬ p.1 = k) (hL : ∀ p ∈ Lo, ¬ p.1 = w ∨ ∀ q ∈ p.2, ¬ q.1 = k) : fS A Lo k w i = false := by
  unfold fS
  rw [mS_n hA, Bool.false_or]
  cases z : (Lo.any fun p => mS p.2 k i && w == p.1) with
  | false => rfl
  | true =>
    rw [List.any_eq_true] at z
    obtain ⟨p, hp, hm⟩ := z
    rw [Bool.and_eq_true, beq_iff_eq] at hm
    rcases hL p hp with q | q
    · exact absurd hm.2.symm q
    · rw [mS_n q] at hm; exact absurd hm.1 (by decide)
theorem ci_A {A : List (Nat × Nat)} {Lo : List (Nat × List (Nat × Nat))} (ok : okA A Lo = true) (T : TH ρ c h) (r0 : ρ x0 = 12) (f : Fr ρ (cat c (fS A Lo) h) h o) (P : ClI ρ c x0 h) : ClI ρ c x0 o := by
  unfold okA at ok
  rw [Bool.and_eq_true, List.all_eq_true, List.all_eq_true] at ok
  have hA : ∀ {k}, clS k = true → ∀ p ∈ A, ¬ p.1 = k := fun {k} hk p hp e => by
    have := ok.1 p hp
    rw [e, hk] at this
    exact absurd this (by decide)
  refine ci_f T r0 f (fun k w i hk n4 n34 n36 => fS_n (hA hk) (fun p hp => Or.inr (fun q hq e => ?_))) (fun k w i hk hw => fS_n (hA hk) (fun p hp => Or.inl (fun e => ?_))) P
  · have := ok.2 p hp
    rw [Bool.and_eq_true, List.all_eq_true] at this
    have := this.2 q hq
    rw [e, hk, beq_eq_false_iff_ne.mpr n4, beq_eq_false_iff_ne.mpr n34, beq_eq_false_iff_ne.mpr n36] at this
    exact absurd this (by decide)
  · have := ok.2 p hp
    rw [Bool.and_eq_true, Bool.and_eq_true, Bool.and_eq_true, decide_eq_true_eq, Bool.not_eq_true', Bool.not_eq_true', beq_eq_false_iff_ne, beq_eq_false_iff_ne] at this
    omega
theorem rex_x (T : TH ρ c h) (r0 : ρ x0 = 12) (X : Ext ρ c ρ1 c1) (T1 : TH ρ1 c1 o) (P : ReX ρ c x0 g) : ReX ρ1 c1 x0 g := fun rt er z => by
  obtain ⟨A, B⟩ := P rt er z
  refine ⟨fun b eb => ryx_x T r0 X T1 (A b eb), fun L hL wL => ?_⟩
  obtain ⟨a, w⟩ := law_ext T r0 X T1 hL wL
  exact B L a w
theorem ci_x (T : TH ρ c h) (r0 : ρ x0 = 12) (X : Ext ρ c ρ1 c1) (T1 : TH ρ1 c1 o) (P : ClI ρ c x0 g) : ClI ρ1 c1 x0 g := by
  obtain ⟨p1, p2, p3, p4, p5, p6, p7, p8, p9, p10, p11, p12, p13⟩ := P
  refine ⟨lw_x T r0 X T1 p1, pl_x T r0 X T1 p2, plx_x T r0 X T1 p3, pgx_x T r0 X T1 p4, p5, p6, fun W hW => ?_, rex_x T r0 X T1 p8, p9, fun W L hW hL wL => ?_, lwx_x T r0 X T1 p11, wya_x T r0 X T1 p12, fun L hL wL => ?_⟩
  · rw [X.2.1]; exact p7 W (way_ext T r0 X T1 hW)
  · obtain ⟨a, w⟩ := law_ext T r0 X T1 hL wL
    exact p10 W L (way_ext T r0 X T1 hW) a w
  · obtain ⟨a, w⟩ := law_ext T r0 X T1 hL wL
    exact p13 L a w
end
end
section
/-! rules: the class's invariant behind it -/
section
variable {ρ : Nat → Nat} {c : Cm} {h o g : Hp} {x0 F L u p rt en : Nat} {x1 : Int32}
theorem fgt_x {o : Hp} (e : sX4_forget h p x1 = some o) : (∀ a i, hR o a i = hR h a i) ∧ ∀ a i, ¬ a = p → hI o a i = hI h a i := by
  unfold sX4_forget sX4_forget_23 at e
  replace e := br_s e
  rcases e with ⟨_, e⟩ | ⟨_, e⟩
  · replace e := nm_s e; obtain ⟨h1, w1, e⟩ := e
    replace e := nm_s e; obtain ⟨h2, w2, e⟩ := e
    replace e := nm_s e; obtain ⟨h3, w3, e⟩ := e
    rw [← Option.some.inj e]
    exact ⟨fun a i => by rw [w3, hR_wI, w2, hR_wI, w1, hR_wI], fun a i n => by rw [w3, rI_a n, w2, rI_a n, w1, rI_a n]⟩
  · rw [← Option.some.inj e]; exact ⟨fun _ _ => rfl, fun _ _ _ => rfl⟩
theorem fg_10 (r0 : ρ x0 = 12) (ru : ρ u = 58) (rp : ρ p = 5) (rrt : ρ rt = 7) (ren : ρ en = 1) : ∀ (f : Nat) {h o : Hp} {x1 : Int32}, hR h x0 14 = some u → hR h x0 11 = some p → hR h x0 9 = some rt → hR h x0 10 = some en → 0 ≤ x1.toInt → (∀ i : Nat, (i : Int) < x1.toInt → hI h u i = 0) → sX11_forgetAll_10 F f h x0 x1 = some o → (∀ a i, hR o a i = hR h a i) ∧ (∀ i : Nat, i < 60 → hI o u i = 0) ∧ hI o rt 6 = 0 ∧ hI o en 10 = 0 ∧ ∀ a i, ρ a = 61 → hI o a i = hI h a i := by
  have z60 : (60 : Int32).toInt = 60 := rfl
  have z1 : (1 : Int32).toInt = 1 := rfl
  intro f
  induction f with
  | zero => intro h o x1 _ _ _ _ _ _ e; exact absurd e (by rw [sX11_forgetAll_10]; exact fun z => nomatch z)
  | succ f ih =>
    intro h o x1 eu ep ert een a1 U e
    rw [sX11_forgetAll_10] at e
    replace e := br_s e
    rcases e with ⟨l, e⟩ | ⟨l, e⟩
    · have l := le_i l
      replace e := cl_s e
      obtain ⟨r2, e2, e⟩ := e
      have y2 : r2 = rt := r_eq ert e2
      subst y2
      replace e := nm_s e
      obtain ⟨h3, w3, e⟩ := e
      replace e := cl_s e
      obtain ⟨r4, e4, e⟩ := e
      have y4 : r4 = en := r_eq een (by rw [w3] at e4; exact e4)
      subst y4
      replace e := nm_s e
      obtain ⟨h5, w5, e⟩ := e
      have zz := Option.some.inj e
      subst zz
      have k : ∀ {a q : Nat} (i : Nat), ρ a = q → q ≠ 7 → q ≠ 1 → hI h5 a i = hI h a i := fun {a q} i ra q7 q1 => by
        rw [w5, rI_a (fun z => q1 (by rw [← ra, z]; exact ren)), w3, rI_a (fun z => q7 (by rw [← ra, z]; exact rrt))]
      refine ⟨fun a i => by rw [w5, hR_wI, w3, hR_wI], fun i hi => by rw [k i ru (by decide) (by decide)]; exact U i (by omega), ?_, by rw [w5, rI_s], fun a i ra => k i ra (by decide) (by decide)⟩
      rw [w5, rI_a (fun z => by rw [z, ren] at rrt; exact absurd rrt (by decide)), w3, rI_s]
    · have l := nle_i l
      replace e := cl_s e
      obtain ⟨r6, e6, e⟩ := e
      have y6 : r6 = u := r_eq eu e6
      subst y6
      replace e := (gd_s e).2
      replace e := nm_s e
      obtain ⟨h8, w8, e⟩ := e
      have R8 : ∀ a i, hR h8 a i = hR h a i := fun a i => by rw [w8, hR_wI]
      replace e := cl_s e
      obtain ⟨r9, e9, e⟩ := e
      rw [R8] at e9
      have y9 : r9 = p := r_eq ep e9
      subst y9
      replace e := cl_s e
      obtain ⟨o10, e10, e⟩ := e
      obtain ⟨k10, i10⟩ := fgt_x e10
      have Ra : ∀ a i, hR o10 a i = hR h a i := fun a i => by rw [k10, R8]
      have nup : ¬ r6 = r9 := fun z => by rw [z, rp] at ru; exact absurd ru (by decide)
      replace e := nm_s e
      obtain ⟨v, ev, e⟩ := e
      have tv : v.toInt = x1.toInt + 1 := by rw [ev, ta (by rw [z1]; omega), z1]
      have nx := nc_i a1
      obtain ⟨q1, q2, q3, q4, q5⟩ := ih (by rw [Ra]; exact eu) (by rw [Ra]; exact ep) (by rw [Ra]; exact ert) (by rw [Ra]; exact een) (by omega) (fun i hi => by
        rw [i10 r6 i nup, w8, r_I]
        by_cases z : i = x1.toNatClampNeg
        · rw [if_pos ⟨rfl, z⟩]; rfl
        · rw [if_neg (fun y => z y.2)]; exact U i (by omega)) e
      refine ⟨fun a i => by rw [q1, Ra], q2, q3, q4, fun a i ra => ?_⟩
      rw [q5 a i ra, i10 a i (fun z => by rw [z, rp] at ra; exact absurd ra (by decide)), w8, rI_a (fun z => by rw [z, ru] at ra; exact absurd ra (by decide))]
theorem forget_x {o : Hp} (T : TH ρ c h) (r0 : ρ x0 = 12) (e : sX11_forgetAll F h x0 = some o) : (∀ u, hR o x0 14 = some u → ∀ i : Nat, i < 60 → hI o u i = 0) ∧ (∀ rl, hR o x0 17 = some rl → ∀ n : Nat, n < 8 → hI o rl n = -1) ∧ (∀ rt, hR o x0 9 = some rt → hI o rt 6 = 0) ∧ ∀ en, hR o x0 10 = some en → hI o en 10 = 0 := by
  obtain ⟨u, eu, ru⟩ := thR T r0 (i := 14) (k2 := 58) rfl (by decide)
  obtain ⟨p, ep, rp⟩ := thR T r0 (i := 11) (k2 := 5) rfl (by decide)
  obtain ⟨rt, ert, rrt⟩ := thR T r0 (i := 9) (k2 := 7) rfl (by decide)
  obtain ⟨en, een, ren⟩ := thR T r0 (i := 10) (k2 := 1) rfl (by decide)
  unfold sX11_forgetAll at e
  replace e := cl_s e
  obtain ⟨r1, e1, e⟩ := e
  have q1 : ρ r1 = 61 := rr T (thR T r0 (i := 17) (k2 := 61) rfl (by decide)) e1
  replace e := cl_s e
  obtain ⟨o2, e2, e⟩ := e
  unfold sJ7_fill_53178 at e2
  have n1 := thN T q1 (k := 61) (n := 8) rfl (by decide)
  have e2' : sJ7_fill_53178_5 F F h r1 (-1 : Int32) (0 : Int32) (nI 8) = some o2 := by rw [← n1]; exact e2
  obtain ⟨⟨g2, m2⟩, k2, _, v2⟩ := fI (by decide) F (by decide) e2'
  obtain ⟨a1, a2, a3, a4, a5⟩ := fg_10 r0 ru rp rrt ren F (by rw [g2]; exact eu) (by rw [g2]; exact ep) (by rw [g2]; exact ert) (by rw [g2]; exact een) (by decide) (fun i hi => absurd hi (by show ¬ (i : Int) < 0; omega)) e
  refine ⟨fun u' e' i hi => ?_, fun rl e' n hn => ?_, fun rt' e' => ?_, fun en' e' => ?_⟩
  · rw [a1, g2] at e'; rw [r_eq eu e']; exact a2 i hi
  · rw [a1, g2] at e'
    have y : rl = r1 := r_eq e1 e'
    subst y
    rw [a5 rl n q1]; exact v2 n (by show (0 : Int) ≤ _; omega) hn
  · rw [a1, g2] at e'; rw [r_eq ert e']; exact a3
  · rw [a1, g2] at e'; rw [r_eq een e']; exact a4
theorem lw_mk1 {L : Nat} (T : TH ρ c h) (rL : ρ L = 2) (w : cw c L = 2102) (gs : GeoS L h) : ∃ c', (c' = c ∨ c' = nst c 50) ∧ TH ρ c' h ∧ LwR ρ c' h := by
  by_cases q : 57 < (hI h L 2).toInt ∨ ((hI h L 0).toInt = 8 ∧ (hI h L 1).toInt = 8)
  · refine ⟨nst c 50, Or.inr rfl, th_q T (fun a ra wa i hi => ?_), fun _ _ _ _ => nst_s⟩
    obtain ⟨fo, ef, rf⟩ := thR T rL (i := 19) (k2 := 32) rfl (by decide)
    have : a = fo := T.1.2.2.2.2.2.2.2.2 a fo (by rw [ra, rf]) (Or.inr ⟨Or.inl ra, by rw [wa, th_ih T rL rfl ef w]⟩)
    rw [this]
    exact gs fo ef q i hi
  · refine ⟨c, Or.inl rfl, T, fun L' rL' w' hc => ?_⟩
    have : L' = L := T.1.2.2.2.2.2.2.2.2 L' L (by rw [rL', rL]) (Or.inr ⟨Or.inr rL', by rw [w', w]⟩)
    rw [this] at hc
    exact absurd hc q
/-- the tape is used up -/
def TpZ (x0 : Nat) (h : Hp) : Prop := ∀ t, hR h x0 0 = some t → hI h t 1 = 0
theorem clear_z {t : Nat} {o : Hp} (e : sX9_clear h t = some o) : hI o t 1 = 0 ∧ ∀ a i, hR o a i = hR h a i := by
  unfold sX9_clear at e
  rw [← Option.some.inj e]
  exact ⟨rI_s, fun _ _ => rfl⟩
theorem ru_x {c1 : Cm} {x2 : Int32} (hF : 700000 ≤ F) (hO : pmO c1 2100 [(10, 1)]) (T : TH ρ c1 h) (r0 : ρ x0 = 12) (I : ClI ρ c1 x0 h) : Sat (sX11_rules_69 F h x0 x2) (fun o => TH ρ c1 o.2 ∧ ClI ρ c1 x0 o.2 ∧ TpZ x0 o.2) := by
  unfold sX11_rules_69
  obtain ⟨t, et, rt⟩ := thR T r0 (i := 0) (k2 := 10) rfl (by decide)
  refine s_ref et ?_
  have wt : cw c1 t = 2100 := kid_w T r0 (i := 0) rfl (by decide) et
  obtain ⟨o2, e2, Z⟩ := zX9_clear (c := cat c1 (fS [] [(2100, [(10, 1)])]) h) hF (by rw [show cw (cat c1 (fS [] [(2100, [(10, 1)])]) h) t = 2100 from wt]; exact fs_o (.head _)) (th_in _ T) rt
  refine s_val e2 ?_
  have f2 := fr_u T Z.2.2
  obtain ⟨q1, q2⟩ := clear_z e2
  refine s_some ⟨th_out T (fs_sub pmA_n (fs_c hO fs_n)) Z, ci_A rfl T r0 f2 I, fun t' e' => ?_⟩
  have e'' : hR h x0 0 = some t' := by rw [← q2]; exact e'
  rw [r_eq et e'']; exact q1
abbrev RUC : List (Nat × Nat) := [(27, 999), (28, 999), (29, 999), (30, 999), (31, 999), (32, 999), (33, 999), (2, 0), (2, 1), (2, 2), (2, 3), (2, 4), (2, 5), (2, 6), (2, 7), (2, 8), (2, 9), (2, 10), (2, 11), (2, 12), (2, 13), (3, 0), (3, 1), (3, 2), (3, 3), (3, 4), (3, 5), (3, 6), (50, 999), (51, 999), (52, 999), (53, 999), (54, 999), (55, 999), (56, 999), (11, 7), (11, 8), (58, 999), (61, 999), (1, 10), (5, 14), (5, 15), (5, 16), (7, 6)]
theorem rules_x (hF : 700000 ≤ F) (hA : pmA c RUC) (hO : pmO c 2100 [(10, 1)]) (T : TH ρ c h) (r0 : ρ x0 = 12) (I : ClI ρ c x0 h) : Sat (sX11_rules F h x0) (fun o => ∃ c', (c' = c ∨ c' = nst c 50) ∧ TH ρ c' o.2 ∧ ClI ρ c' x0 o.2 ∧ TpZ x0 o.2) := by
  obtain ⟨p1, p2, p3, p4, p5, p6, p7, p8, p9, p10, p11, p12, p13⟩ := I
  unfold sX11_rules
  obtain ⟨r1, e1, q1⟩ := thR T r0 (i := 4) (k2 := 3) rfl (by decide)
  obtain ⟨r2, e2, q2⟩ := thR T r0 (i := 0) (k2 := 10) rfl (by decide)
  obtain ⟨r3, e3, q3⟩ := thR T r0 (i := 3) (k2 := 2) rfl (by decide)
  have w3 : cw c r3 = 2103 := kid_w T r0 (i := 3) (w := 2103) rfl (by decide) e3
  refine s_ref e1 (s_ref e2 (s_ref e3 ?_))
  refine s_cl (s_imp (read_r hF (pmA_s hA rfl) T q1 q2 q3 w3 (p6 r3 e3)) (fun o4 ⟨T4, i4, z4, g4, f4⟩ => ?_))
  have e5 : hR o4.2 x0 4 = some r1 := by rw [(frx f4 r0 (by decide) rfl rfl).2.2]; exact e1
  refine s_ref e5 ?_
  refine s_dI0 (zX2_faultPlace hF T4 q1) (fun o6 _ e6 i6 => ?_)
  rw [e6]
  -- what holds behind the first reading
  have I4 : ClI ρ c x0 o4.2 := by
    have lw : LWc (rdS 2103) := fun _ => rfl
    refine ⟨lwr_f f4 lw p1, plp_f T r0 f4 (fun _ _ => rfl) (fun _ _ => rfl) (fun _ _ => rfl) rfl (fun _ => rfl) lw p2, plx_f T r0 f4 (fun _ _ => rfl) (fun _ _ => rfl) (fun _ _ => rfl) rfl (fun _ => rfl) lw p3, pgx_f T r0 f4 (fun _ _ => rfl) (fun _ _ => rfl) (fun _ _ => rfl) (fun _ => rfl) (fun _ => rfl) (fun _ _ => rfl) (fun _ _ => rfl) lw p4, gem_f T r0 f4 (fun _ _ => rfl) (fun _ => rfl) lw p5, fun L eL => ?_, fmm_f T f4 (fun _ => rfl) (fun _ _ => rfl) p7, rex_f T r0 f4 (fun _ _ => rfl) (fun _ => rfl) (fun _ => rfl) (fun _ => rfl) (fun _ _ => rfl) rfl rfl (fun _ => rfl) (fun _ => rfl) lw p8, ena_f T r0 f4 (fun _ _ => rfl) (fun _ _ _ _ _ _ => rfl) (fun _ _ => rfl) (fun _ _ => rfl) (fun _ _ => rfl) lw p9, fmy_f T f4 (fun _ => rfl) (fun _ _ => rfl) lw p10, lwx_f T f4 lw (fun _ => rfl) (fun _ => rfl) p11, wya_f T f4 (fun _ => rfl) (fun _ => rfl) (fun _ => rfl) (fun _ _ => rfl) (fun _ _ => rfl) lw p12, sqa_f f4 lw p13⟩
    rw [(frx f4 r0 (by decide) rfl rfl).2.2] at eL
    rw [r_eq e3 eL]; exact g4
  refine s_q (fun v7 _ => ?_)
  refine s_br (fun _ => ?_) (fun _ => ?_)
  · exact s_imp (ru_x hF hO T4 r0 I4) (fun o ho => ⟨c, Or.inl rfl, ho.1, ho.2.1, ho.2.2⟩)
  · refine s_ref e5 ?_
    obtain ⟨r10, e10, q10⟩ := thR T4 r0 (i := 0) (k2 := 10) rfl (by decide)
    obtain ⟨L, eL, rL⟩ := thR T4 r0 (i := 2) (k2 := 2) rfl (by decide)
    have wL : cw c L = 2102 := kid_w T4 r0 (i := 2) (w := 2102) rfl (by decide) eL
    refine s_ref e10 (s_ref eL ?_)
    have gT := I4.2.2.2.2.2.1
    have en4 := I4.2.2.2.2.2.2.2.2.1
    refine s_cl (s_imp (read_r hF (pmA_s hA rfl) T4 q1 q10 rL wL (I4.2.2.2.2.1 L eL)) (fun o12 ⟨T12, i12, z12, g12, f12⟩ => ?_))
    have eL12 : hR o12.2 x0 2 = some L := by rw [(frx f12 r0 (by decide) rfl rfl).2.2]; exact eL
    obtain ⟨W, eW, rW⟩ := thR T12 r0 (i := 5) (k2 := 11) rfl (by decide)
    refine s_ref eW (s_ref eL12 ?_)
    obtain ⟨c', hc, T', lw⟩ := lw_mk1 T12 rL wL g12
    have cwe : cw c' = cw c := by
      rcases hc with z | z
      · rw [z]
      · rw [z]; rfl
    have w' : cw c' L = 2102 := by rw [cwe]; exact wL
    have hA' : pmA c' RUC := by rcases hc with z | z <;> (rw [z]; exact hA)
    obtain ⟨o15, e15, Z15⟩ := zX10_lay (c := cat c' (fS [(50, 999), (51, 999), (52, 999), (53, 999), (54, 999), (55, 999), (56, 999), (11, 7), (11, 8)] []) o12.2) hF fs_a rfl (th_in _ T') rW rL w' lw
    refine s_val e15 ?_
    have T15 := th_out T' (fs_sub (pmA_s hA' rfl) fs_n) Z15
    have f15 := fr_u T' Z15.2.2
    have lw15 : LwR ρ c' o15 := lwr_f f15 (fun _ => rfl) lw
    have K15 : Kf ρ [(50, 999), (51, 999), (52, 999), (53, 999), (54, 999), (55, 999), (56, 999), (11, 7), (11, 8)] o12.2 o15 := kf_of f15 rfl
    have z15 := lz_k T' rL K15 z12
    have IL : ∀ j, hI o15 L j = hI o12.2 L j := fun j => (frx f15 rL (by decide) rfl rfl).1
    have wx15 := lay_wx hF T' rW rL z12.2.2.2 e15
    have fx15 := lay_fx hF T' rW rL e15
    have fm15 := lay_fm hF T' rW rL w' lw e15
    obtain ⟨o16, e16, Z16⟩ := zX11_forgetAll (c := cat c' (fS [(58, 999), (61, 999), (1, 10), (5, 14), (5, 15), (5, 16), (7, 6)] []) o15) hF fs_a (th_in _ T15) r0
    refine s_val e16 ?_
    have T16 := th_out T15 (fs_sub (pmA_s hA' rfl) fs_n) Z16
    have f16 := fr_u T15 Z16.2.2
    obtain ⟨u16, l16, t16, n16⟩ := forget_x T15 r0 e16
    obtain ⟨r17, e17, q17⟩ := thR T16 r0 (i := 2) (k2 := 2) rfl (by decide)
    refine s_ref e17 ?_
    refine s_q (fun v18 _ => ?_)
    have one : ∀ W', ρ W' = 11 → W' = W := fun W' rW' => T.1.2.2.2.2.2.2.2.2 W' W (by rw [rW', rW]) (Or.inl (by rw [rW']; rfl))
    have lone : ∀ L', ρ L' = 2 → cw c' L' = 2102 → L' = L := fun L' rL' wL' => law_1 T (by exact rL) wL rL' (by rw [← cwe]; exact wL')
    have s2 : LWc (fS [(58, 999), (61, 999), (1, 10), (5, 14), (5, 15), (5, 16), (7, 6)] []) := fun _ => rfl
    have IL16 : ∀ j, hI o16 L j = hI o15 L j := fun j => (frx f16 rL (by decide) rfl rfl).1
    have z16 : LwZ L o16 := lz_k T15 rL (kf_of f16 rfl : Kf ρ [(58, 999), (61, 999), (1, 10), (5, 14), (5, 15), (5, 16), (7, 6)] o15 o16) z15
    have I16 : ClI ρ c' x0 o16 := by
      refine ⟨lwr_f f16 s2 lw15, fun r u er eu i hi nu => absurd (u16 u eu i hi) nu, fun r u er eu i hi nu => absurd (u16 u eu i hi) nu, fun rl el n k hn hk b B => ?_, fun L' eL' => ?_, ?_, fun W' rW' => ?_, fun rt er z => ?_, fun e ee => ?_, fun W' L' rW' rL' wL' => ?_, fun L' rL' wL' => ?_, fun W' L' rW' rL' wL' => ?_, fun L' rL' wL' => ?_⟩
      · rw [l16 rl el n hn] at hk
        have z1 : (-1 : Int32).toInt = -1 := rfl
        omega
      · have eL' : hR o12.2 x0 2 = some L' := by rw [(frx f16 r0 (by decide) rfl rfl).2.2, (frx f15 r0 (by decide) rfl rfl).2.2] at eL'; exact eL'
        have y : L' = L := r_eq eL12 eL'
        subst y
        exact gs_fr T15 rL f16 (fun _ => rfl) (fun _ => rfl) (fun _ => rfl) (fun _ => rfl) (fun _ _ => rfl) (gs_fr T' rL f15 (fun _ => rfl) (fun _ => rfl) (fun _ => rfl) (fun _ => rfl) (fun _ _ => rfl) g12)
      · exact get_f T15 r0 f16 (fun _ _ => rfl) (fun _ => rfl) (fun _ => rfl) (get_f T' r0 f15 (fun _ _ => rfl) (fun _ => rfl) (fun _ => rfl) (get_f T4 r0 f12 (fun _ _ => rfl) (fun _ => rfl) (fun _ => rfl) gT))
      · rw [one W' rW']
        exact fm_fr T15 rW f16 (fun _ => rfl) (fun _ _ => rfl) fm15
      · rw [t16 rt er] at z
        exact absurd z (by decide)
      · have ee4 : hR o4.2 x0 10 = some e := by rw [(frx f16 r0 (by decide) rfl rfl).2.2, (frx f15 r0 (by decide) rfl rfl).2.2, (frx f12 r0 (by decide) rfl rfl).2.2] at ee; exact ee
        have re : ρ e = 1 := rr T4 (thR T4 r0 (i := 10) (k2 := 1) rfl (by decide)) ee4
        obtain ⟨v1, v2, _⟩ := en4 e ee4
        have R1 : ∀ j, j = 5 ∨ j = 11 ∨ j = 12 ∨ j = 13 → hR o16 e j = hR o4.2 e j := fun j hj => by rw [(frx f16 re (by decide) rfl (by rcases hj with z | z | z | z <;> (rw [z]; rfl))).2.2, (frx f15 re (by decide) rfl rfl).2.2, (frx f12 re (by decide) rfl rfl).2.2]
        have N1 : ∀ a, ρ a ≠ 0 → hN o16 a = hN o4.2 a := fun a ha => (f16.2 a ha).trans ((f15.2 a ha).trans (f12.2 a ha))
        refine ⟨fun r er i => ?_, fun a ea => ?_, fun n => absurd (n16 e ee) n⟩
        · rw [R1 5 (by decide)] at er
          have q : ρ r = 21 := rr T4 (thR T4 re (i := 5) (k2 := 21) rfl (by decide)) er
          rw [(frx f16 q (by decide) rfl rfl).1, (frx f15 q (by decide) rfl rfl).1, (frx f12 q (by decide) rfl rfl).1]
          exact v1 r er i
        · rw [R1 11 (by decide)] at ea
          have ra := rr T4 (thR T4 re (i := 11) (k2 := 24) rfl (by decide)) ea
          rw [N1 a (by rw [ra]; decide)]
          refine (v2 a ea).imp id (fun Q i a' hi ea' => ?_)
          rw [R1 i (by rcases hi with w | w | w <;> (rw [w]; decide))] at ea'
          have a0 : ρ a' ≠ 0 := by
            rcases hi with w | w | w <;> subst w
            · rw [rr T4 (thR T4 re (i := 11) (k2 := 24) rfl (by decide)) ea']; decide
            · rw [rr T4 (thR T4 re (i := 12) (k2 := 25) rfl (by decide)) ea']; decide
            · rw [rr T4 (thR T4 re (i := 13) (k2 := 26) rfl (by decide)) ea']; decide
          rw [N1 a' a0]
          exact Q i a' hi ea'
      · rw [one W' rW', lone L' rL' wL', IL16, IL]
        exact fmx_fr T15 rW f16 (fun _ => rfl) (fun _ _ => rfl) fx15
      · rw [lone L' rL' wL']
        exact ⟨z16.1, z16.2.1, z16.2.2.1⟩
      · rw [one W' rW', lone L' rL' wL', IL16, IL16, IL, IL]
        intro a0 a1 e0 e1
        rw [(frx f16 rW (by decide) rfl rfl).2.2] at e0 e1
        have q0 : ρ a0 = 50 := rr T15 (thR T15 rW (i := 0) (k2 := 50) rfl (by decide)) e0
        have q1 : ρ a1 = 51 := rr T15 (thR T15 rW (i := 1) (k2 := 51) rfl (by decide)) e1
        exact wy_e (frx f16 rW (by decide) rfl rfl).1 (fun i => (frx f16 q0 (by decide) rfl rfl).1) (fun i => (frx f16 q1 (by decide) rfl rfl).1) (wx15 a0 a1 e0 e1)
      · rw [lone L' rL' wL']
        exact z16.2.2.2
    exact s_imp (ru_x hF (by rcases hc with z | z <;> (rw [z]; exact hO)) T16 r0 I16) (fun o ho => ⟨c', hc, ho.1, ho.2.1, ho.2.2⟩)
end
end
section
/-! room: pages that are not made yet are paid for ahead -/
/-- how many of a row's first n are null -/
def nuC (h : Hp) (r : Nat) : Nat → Nat
  | 0 => 0
  | n + 1 => nuC h r n + (if (hR h r n).isNone then 1 else 0)
theorem nuC_eq {h o : Hp} {r : Nat} : ∀ n, (∀ i, i < n → hR o r i = hR h r i) → nuC o r n = nuC h r n := by
  intro n
  induction n with
  | zero => intro _; rfl
  | succ n ih =>
    intro k
    show nuC o r n + _ = nuC h r n + _
    rw [ih (fun i hi => k i (by omega)), k n (by omega)]
theorem nuC_set {h o : Hp} {r v q : Nat} (z : hR h r v = none) (s : hR o r v = some q) (k : ∀ i, ¬ i = v → hR o r i = hR h r i) : ∀ n, v < n → nuC o r n + 1 = nuC h r n := by
  intro n
  induction n with
  | zero => intro l; omega
  | succ n ih =>
    intro l
    show nuC o r n + _ + 1 = nuC h r n + _
    by_cases e : v = n
    · rw [nuC_eq n (fun i hi => k i (by omega)), ← e, s, z]
      rfl
    · have := ih (by omega)
      rw [k n (fun y => e y.symm)]
      omega
/-- a row's price: what stands, and what is still to come, keeps to Bq -/
def Pay (f n p q : Nat) (Bq : Nat × Nat) (x0 : Nat) (h : Hp) : Prop := ∀ r, hR h x0 f = some r → h.1.1 + p * nuC h r n ≤ Bq.1 ∧ h.1.2 + q * nuC h r n ≤ Bq.2
section
variable {ρ ρ1 : Nat → Nat} {c c1 : Cm} {h o g : Hp} {E : Nat → Nat → Bool} {wp : Nat → Bool} {x0 b w i F L : Nat} {x1 x2 x3 : Int32} {n m : Int} {Bq : Nat × Nat}
theorem pay_k {f n p q k : Nat} (T : TH ρ c h) (r0 : ρ x0 = k) (k0 : k ≠ 0) {k2 : Nat} (hk : rfK k f = k2) (h2 : k2 ≠ 0) (e1 : o.1 = h.1) (R : hR o x0 f = hR h x0 f) (Q : ∀ r i, ρ r = k2 → hR o r i = hR h r i) (P : Pay f n p q Bq x0 h) : Pay f n p q Bq x0 o := fun r er => by
  rw [R] at er
  have rr' : ρ r = k2 := rr T (thR T r0 (i := f) (k2 := k2) hk h2) er
  rw [e1, nuC_eq n (fun i _ => Q r i rr')]
  exact P r er
/-- pages of games that stand keep to the law, and are paid for -/
def PgY (ρ : Nat → Nat) (c : Cm) (x0 : Nat) (Bq : Nat × Nat) (h : Hp) : Prop := PgX ρ c x0 h ∧ Pay 15 2408 6 83 Bq x0 h
theorem pgy_sz (nn : niceC E) (n59 : ∀ i, E 59 i = false) (n61 : ∀ i, E 61 i = false) (T : TH ρ c h) (r0 : ρ x0 = 12) (f : Fr ρ (cat c (SZ E wp) h) h o) (hb : ∀ j, wp (8000 + j) = false ∨ ∀ b, Pg x0 j b h → RyX ρ c b h → RyX ρ c b o) (P : PgY ρ c x0 Bq h) (T' : TH ρ c o := by assumption) : PgY ρ c x0 Bq o :=
  ⟨pgx_sz nn n59 n61 T r0 f hb P.1, pay_k T r0 (by decide) (k2 := 59) rfl (by decide) (T'.1.1.trans T.1.1.symm) (x12 r0 f nn.2.2.2.1) (fun r i qr => (fr_RI f qr (by decide) (fun _ => sz_f (n59 _) rfl (Or.inl rfl))).2.2) P.2⟩
theorem pgy_x (T : TH ρ c h) (r0 : ρ x0 = 12) (X : Ext ρ c ρ1 c1) (T1 : TH ρ1 c1 o) (P : PgY ρ c x0 Bq g) : PgY ρ1 c1 x0 Bq g := ⟨pgx_x T r0 X T1 P.1, P.2⟩
theorem pgy_y (X : Ext ρ c ρ1 c1) (P : PgY ρ1 c1 x0 Bq g) : PgY ρ c x0 Bq g := ⟨pgx_y X P.1, P.2⟩
theorem pgy_len {rl : Nat} {n0 : Nat} {v : Int32} (T : TH ρ c h) (r0 : ρ x0 = 12) (er : hR h x0 17 = some rl) (qr : ρ rl = 61) (hv : ∀ k : Nat, (k : Int) ≤ v.toInt → ∀ b, Pg x0 (301 * n0 + k) b h → RyX ρ c b h) (P : PgY ρ c x0 Bq h) (e : o = wI h rl n0 v) : PgY ρ c x0 Bq o := ⟨pgx_len T r0 er qr hv P.1 e, pay_k T r0 (by decide) (k2 := 59) rfl (by decide) (by rw [e]; rfl) (by rw [e]; rfl) (fun r i _ => by rw [e]; rfl) P.2⟩
theorem pgy_w {A : List (Nat × Nat)} (hA : ∀ k i, k = 4 ∨ k = 36 ∨ k = 2 ∨ k = 34 → mS A k i = false) {a j : Nat} {v : Int32} (T : TH ρ c h) (r0 : ρ x0 = 12) (na : ∀ rl, hR h x0 17 = some rl → ¬ rl = a) (f : Fr ρ (cat c (fS A []) h) h o) (P : PgY ρ c x0 Bq h) (e : o = wI h a j v) : PgY ρ c x0 Bq o := ⟨pgx_w hA T r0 na f P.1 e, pay_k T r0 (by decide) (k2 := 59) rfl (by decide) (by rw [e]; rfl) (by rw [e]; rfl) (fun r i _ => by rw [e]; rfl) P.2⟩
/-- filling makes nothing -/
theorem fB_1 {r : Nat} {v x3 : Int32} : ∀ (f : Nat) {h o : Hp} {x2 : Int32}, sJ7_fill_031fb_5 F f h r v x2 x3 = some o → o.1 = h.1 := by
  intro f
  induction f with
  | zero => intro h o x2 e; exact absurd e (by rw [sJ7_fill_031fb_5]; exact fun z => nomatch z)
  | succ f ih =>
    intro h o x2 e
    rw [sJ7_fill_031fb_5] at e
    rcases br_s e with ⟨_, e⟩ | ⟨_, e⟩
    · rw [← Option.some.inj e]
    · have q := ih (gd_s e).2
      rw [q]; rfl
theorem fI_1 {r : Nat} {v x3 : Int32} : ∀ (f : Nat) {h o : Hp} {x2 : Int32}, sJ7_fill_53178_5 F f h r v x2 x3 = some o → o.1 = h.1 := by
  intro f
  induction f with
  | zero => intro h o x2 e; exact absurd e (by rw [sJ7_fill_53178_5]; exact fun z => nomatch z)
  | succ f ih =>
    intro h o x2 e
    rw [sJ7_fill_53178_5] at e
    rcases br_s e with ⟨_, e⟩ | ⟨_, e⟩
    · rw [← Option.some.inj e]
    · have q := ih (gd_s e).2
      rw [q]; rfl
theorem init_1 (e : sX3_init F (nC h 3 0 11) (hS h) = some o) : o.1 = (h.1.1 + 6, h.1.2 + 83) := by
  have ei : sX3_init F (nC h 3 0 11) (hS h) = (cl (hR (poH h) (hS h) 0) fun r_2 => cl (sJ7_fill_031fb F (poH h) r_2 (-1 : Int32)) fun o_3 => cl (hR o_3 (hS h) 2) fun r_1 => cl (sJ7_fill_53178 F o_3 r_1 (-1 : Int32)) fun o_2 => some o_2) := rfl
  rw [ei] at e
  replace e := cl_s e
  obtain ⟨on, k1, e⟩ := e
  replace e := cl_s e
  obtain ⟨o3, e3, e⟩ := e
  replace e := cl_s e
  obtain ⟨ra, k3, e⟩ := e
  replace e := cl_s e
  obtain ⟨o4, e4, e⟩ := e
  rw [← Option.some.inj e]
  unfold sJ7_fill_031fb at e3
  unfold sJ7_fill_53178 at e4
  rw [fI_1 F e4, fB_1 F e3]
  exact poH_1 h
end
end
section
/-! a page, paid for -/
section
variable {ρ ρ1 : Nat → Nat} {c c1 : Cm} {h o g : Hp} {E : Nat → Nat → Bool} {wp : Nat → Bool} {x0 b w i F L : Nat} {x1 x2 x3 : Int32} {n m : Int} {Bq : Nat × Nat}
theorem pagePY (hF : 700000 ≤ F) (h9 : ∀ w, cPm c 59 w (gi x1 x2) = true) (hO : pmO c (8000 + gi x1 x2) [(34, 999), (36, 999)]) (T : TH ρ c h) (r0 : ρ x0 = 12) (i1 : Rg 0 7 x1) (i2 : Rg 0 300 x2) (P : PgY ρ c x0 Bq h) : Sat (sX11_page F h x0 x1 x2) (fun o => ∃ ρ' c', Ext ρ c ρ' c' ∧ TH ρ' c' o.2 ∧ Pg x0 (gi x1 x2) o.1 o.2 ∧ (∀ j b, Pg x0 j b h → Pg x0 j b o.2 ∧ (RyX ρ c b h → RyX ρ c b o.2)) ∧ PgY ρ c x0 Bq o.2 ∧ (∀ rl, hR h x0 17 = some rl → x2.toInt ≤ (hI h rl x1.toNatClampNeg).toInt → RyX ρ c o.1 o.2) ∧ Kf ρ [(59, 999)] h o.2) := by
  have gv := gi_v i1 i2
  have c1' : x1.toNatClampNeg ≤ 7 := rg_clamp i1 (by decide)
  have nx2 := nc_i i2.1
  unfold sX11_page
  refine s_q (fun v ev => ?_)
  have iv : Rg 0 2407 v := by rw [ev]; exact gi_r i1 i2
  have eg : gi x1 x2 = v.toNatClampNeg := by rw [ev]; rfl
  rw [eg] at h9 hO gv ⊢
  obtain ⟨r, er, qr⟩ := thR T r0 (i := 15) (k2 := 59) rfl (by decide)
  refine s_ref er ?_
  refine s_gd (by rw [thN T qr (k := 59) (n := 2408) rfl (by decide)]; exact rg_inB iv (by decide)) ?_
  have t1 : h.1 = c.1 := T.1.1
  cases q : hR h r v.toNatClampNeg with
  | none =>
    show Sat (cl (hR h x0 15) _) _
    refine s_ref er ?_
    refine s_q (fun a ea => ?_)
    refine s_q (fun h8 e8 => ?_)
    subst ea
    subst e8
    unfold sX11_page_25 sX11_page_29 sX11_page_30
    obtain ⟨o1, eo1, ρ1, c1, X1, T1, a1, w1, O1, M1, N1⟩ := newPosX hF hO T
    refine s_val eo1 ?_
    have r01 := ex_r X1 r0 (by decide)
    have qr1 := ex_r X1 qr (by decide)
    have lt : ∀ a, ρ a ≠ 0 → a < h.1.1 := fun a ha => by rw [t1]; exact T.2.1.2.2.1 a ha
    have lt0 : x0 < h.1.1 := lt x0 (by rw [r0]; decide)
    have ltr : r < h.1.1 := lt r (by rw [qr]; decide)
    have er1 : hR o1 x0 15 = some r := by rw [(O1 x0 lt0).2.2.1]; exact er
    refine s_gd (by rw [thN T1 qr1 (k := 59) (n := 2408) rfl (by decide)]; exact rg_inB iv (by decide)) ?_
    refine s_q (fun h2 e2 => ?_)
    have T2 : TH ρ1 c1 h2 := by
      rw [e2]
      exact th_wRe T1 qr1 (k2 := 4) rfl (by decide) a1 (by decide) (by decide) rfl rfl rfl w1 (ex_p X1 (h9 _))
    have er2 : hR h2 x0 15 = some r := by rw [e2, r_R, if_neg (ne_r r01 qr1 (by decide))]; exact er1
    refine s_ref er2 ?_
    refine s_gd (by rw [thN T2 qr1 (k := 59) (n := 2408) rfl (by decide)]; exact rg_inB iv (by decide)) ?_
    have ee : hR h2 r v.toNatClampNeg = some (hS h) := by rw [e2, r_R, if_pos ⟨rfl, rfl⟩]
    have neR : ∀ a k j, ρ a = k → k ≠ 0 → k ≠ 59 → hR h2 a j = hR h a j := fun a k j ha h0 h59 => by
      rw [e2, r_R, if_neg (ne_r (ex_r X1 ha h0) qr1 h59), (O1 a (lt a (by rw [ha]; exact h0))).2.2.1]
    have neI : ∀ a, ρ a ≠ 0 → ∀ j, hI h2 a j = hI h a j := fun a ha j => by rw [e2]; exact (O1 a (lt a ha)).1 j
    have old : ∀ j b, Pg x0 j b h2 → j = v.toNatClampNeg ∧ b = hS h ∨ Pg x0 j b h := fun j b ⟨r', g1, g2⟩ => by
      have : r' = r := r_eq er2 g1
      subst this
      by_cases z : j = v.toNatClampNeg
      · rw [z] at g2; exact Or.inl ⟨z, r_eq ee g2⟩
      · rw [e2, r_R, if_neg (fun y => z y.2), (O1 r' ltr).2.2.1] at g2
        exact Or.inr ⟨r', er, g2⟩
    have ryk : ∀ b, ρ b = 4 → RyX ρ c b h → RyX ρ c b h2 := fun b rb P => by
      refine ⟨fun ra e j hj nn L hL wL => ?_, fun L on s hL wL e hs z => ?_⟩
      · rw [neR b 4 2 rb (by decide) (by decide)] at e
        obtain ⟨ra', f3, s3⟩ := thR T rb (i := 2) (k2 := 36) rfl (by decide)
        rw [neI ra (by rw [r_eq f3 e, s3]; decide)] at nn
        rw [neI L (by rw [hL]; decide)]
        exact P.1 ra e j hj nn L hL wL
      · rw [neR b 4 0 rb (by decide) (by decide)] at e
        have qo := th_on T rb e
        rw [neI on (by rw [qo]; decide)] at z ⊢
        rw [neI L (by rw [hL]; decide), neI L (by rw [hL]; decide)]
        exact P.2 L on s hL wL e hs z
    have ryn : RyX ρ c (hS h) h2 := by
      refine ⟨fun ra e j hj nn => ?_, fun L on s hL wL e hs z => ?_⟩
      · have e1 : hR o1 (hS h) 2 = some ra := by rw [e2, r_R, if_neg (ne_r a1 qr1 (by decide))] at e; exact e
        have : hI h2 ra j = -1 := by rw [e2]; exact M1 ra e1 j hj
        rw [this] at nn
        exact absurd nn (by decide)
      · have e1 : hR o1 (hS h) 0 = some on := by rw [e2, r_R, if_neg (ne_r a1 qr1 (by decide))] at e; exact e
        have : (hI h2 on s).toInt < 0 := by rw [e2]; exact N1 on e1 s hs
        omega
    have kf : Kf ρ [(59, 999)] h h2 := fun a i na x => by
      refine ⟨neI a na i, by rw [e2]; exact (O1 a (lt a na)).2.1 i, neR a _ i rfl na (fun z => ?_)⟩
      rw [z] at x
      exact absurd x (by simp [mS])
    have kp : ∀ j b, Pg x0 j b h → Pg x0 j b h2 ∧ (RyX ρ c b h → RyX ρ c b h2) := fun j b B => by
      refine ⟨?_, ryk b (pg_r T r0 B).1⟩
      obtain ⟨r', g1, g2⟩ := B
      have : r' = r := r_eq er g1
      subst this
      have z : j ≠ v.toNatClampNeg := fun z => by rw [z, q] at g2; exact absurd g2 (by simp)
      exact ⟨r', er2, by rw [e2, r_R, if_neg (fun y => z y.2), (O1 r' ltr).2.2.1]; exact g2⟩
    refine s_ref ee (s_some ⟨ρ1, c1, X1, T2, ⟨r, er2, ee⟩, kp, ⟨fun rl el m k hm hk b Bp => ?_, fun r' er' => ?_⟩, fun _ _ _ => ryn, kf⟩)
    rotate_left
    · have y : r' = r := r_eq er2 er'
      subst y
      have r1 : h2.1 = (h.1.1 + 6, h.1.2 + 83) := by rw [e2]; exact (show (wR o1 r' v.toNatClampNeg (some (hS h))).1 = o1.1 from rfl).trans (init_1 eo1)
      have lv : v.toNatClampNeg < 2408 := by have := rg_clamp (n := 2407) iv (by decide); omega
      have ns := nuC_set (h := h) (o := h2) (r := r') q ee (fun i ni => by rw [e2, r_R, if_neg (fun y => ni y.2), (O1 r' ltr).2.2.1]) 2408 lv
      have pp := P.2 r' er
      rw [r1]
      show h.1.1 + 6 + 6 * nuC h2 r' 2408 ≤ Bq.1 ∧ h.1.2 + 83 + 83 * nuC h2 r' 2408 ≤ Bq.2
      omega
    rcases old _ _ Bp with ⟨z, zb⟩ | B0
    · rw [zb]; exact ryn
    · obtain ⟨q1, f1, g1⟩ := thR T r0 (i := 17) (k2 := 61) rfl (by decide)
      rw [neR x0 12 17 r0 (by decide) (by decide)] at el
      rw [neI rl (by rw [r_eq f1 el, g1]; decide)] at hk
      exact ryk b (pg_r T r0 B0).1 (P.1 rl el m k hm hk b B0)
  | some r4 =>
    show Sat (sX11_page_30 F h x0 v) _
    unfold sX11_page_30
    refine s_ref er ?_
    refine s_gd (by rw [thN T qr (k := 59) (n := 2408) rfl (by decide)]; exact rg_inB iv (by decide)) ?_
    exact s_ref q (s_some ⟨ρ, c, ex_0, T, ⟨r, er, q⟩, fun _ _ B => ⟨B, id⟩, P, fun rl el le => P.1 rl el x1.toNatClampNeg x2.toNatClampNeg (by omega) (by omega) r4 ⟨r, er, by rw [← gv]; exact q⟩, fun _ _ _ _ => ⟨rfl, rfl, rfl⟩⟩)
theorem s_pageY {β : Type} {Q : β → Prop} {k : Nat × Hp → Option β} (hF : 700000 ≤ F) (hp : ∀ k w i, SZ E wp k w i = true → cPm c k w i = true) (hi : ∀ i, E 59 i = true) (hw : ∀ j, j ≤ 2407 → wp (8000 + j) = true) (T : TH ρ c h) (r0 : ρ x0 = 12) (i1 : Rg 0 7 x1) (i2 : Rg 0 300 x2) (P : PgY ρ c x0 Bq h) (H : ∀ o ρ1 c1, Ext ρ c ρ1 c1 → TH ρ1 c1 o.2 → Fr ρ (cat c (SZ (g59 (gi x1 x2)) (is (8000 + gi x1 x2))) h) h o.2 → Pg x0 (gi x1 x2) o.1 o.2 → (∀ j b, Pg x0 j b h → Pg x0 j b o.2 ∧ (RyX ρ c b h → RyX ρ c b o.2)) → PgY ρ c x0 Bq o.2 → (∀ rl, hR h x0 17 = some rl → x2.toInt ≤ (hI h rl x1.toNatClampNeg).toInt → RyX ρ c o.1 o.2) → Kf ρ [(59, 999)] h o.2 → Sat (k o) Q) : Sat (cl (sX11_page F h x0 x1 x2) k) Q :=
  s_mk (g := fun (o : Nat × Hp) => o.2) (P := fun (o : Nat × Hp) (_ : Nat → Nat) (_ : Cm) => Pg x0 (gi x1 x2) o.1 o.2 ∧ (∀ j b, Pg x0 j b h → Pg x0 j b o.2 ∧ (RyX ρ c b h → RyX ρ c b o.2)) ∧ PgY ρ c x0 Bq o.2 ∧ (∀ rl, hR h x0 17 = some rl → x2.toInt ≤ (hI h rl x1.toNatClampNeg).toInt → RyX ρ c o.1 o.2) ∧ Kf ρ [(59, 999)] h o.2) T (fun k w i m => hp k w i (sz_sub (fun k i z => by
      unfold g59 at z
      rw [Bool.and_eq_true, beq_iff_eq] at z
      rw [z.1]; exact hi i) (fun w z => by rw [is_e z]; exact hw _ (rg_clamp (gi_r i1 i2) (by decide))) m))
    (pagePY (c := cat c (SZ (g59 (gi x1 x2)) (is (8000 + gi x1 x2))) h) hF (szE (sx_c _) (by unfold g59; rw [beq_self_eq_true, beq_self_eq_true]; rfl)) (pmO_s (szP (sx_c _) is_s) rfl) (th_in _ T) r0 i1 i2 P) (fun _ _ _ _ _ p => p) (fun o ρ1 c1 X T1 f p => H o ρ1 c1 X T1 f p.1 p.2.1 p.2.2.1 p.2.2.2.1 p.2.2.2.2)
end
end
section
/-! start, add: paid for -/
section
variable {ρ ρ1 : Nat → Nat} {c c1 : Cm} {h o g : Hp} {E : Nat → Nat → Bool} {wp : Nat → Bool} {x0 b w i F L : Nat} {x1 x2 x3 : Int32} {n m : Int} {Bq : Nat × Nat}
theorem s_copyY {β : Type} {Q : β → Prop} {k : Hp → Option β} {y wy : Nat} (hF : 700000 ≤ F) (hp : ∀ k w i, SZ E wp k w i = true → cPm c k w i = true) (hi : wp (8000 + i) = true) (T : TH ρ c h) (r0 : ρ x0 = 12) (B : Pg x0 i b h) (ry : ρ y = 4) (P : RyX ρ c y h) (pg : PgY ρ c x0 Bq h) (H : ∀ o, TH ρ c o → Fr ρ (cat c (SZ noE (is (8000 + i))) h) h o → Pg x0 i b o → RyX ρ c b o → PgY ρ c x0 Bq o → ((∀ a i, hR o a i = hR h a i) ∧ ∀ a i, kq (ρ a) = false → hI o a i = hI h a i) → Sat (k o) Q) : Sat (cl (sX3_copyFrom F h b y) k) Q := by
  obtain ⟨k1, k2⟩ := pg_r T r0 B
  have hs : ∀ k w i', SZ noE (is (8000 + i)) k w i' = true → cPm c k w i' = true := fun k w i' m => hp k w i' (sz_sub (fun _ _ z => noE_f z) (fun w z => by rw [is_e z]; exact hi) m)
  refine s_cVfq T hs (s_weq (zX3_copyFrom hF (by show pmO _ (cw c b) _; rw [k2]; exact pmO_s (szP (sx_c _) is_s) rfl) (th_in _ T) k1 ry)) (fun o T1 f e => ?_)
  have P1 := ryx_copy T r0 k1 ry e P
  obtain ⟨L, eL, rL⟩ := thR T r0 (i := 2) (k2 := 2) rfl (by decide)
  have wL : cw c L = 2102 := kid_w T r0 (i := 2) (w := 2102) rfl (by decide) eL
  obtain ⟨on, eo, qo⟩ := thR T ry (i := 0) (k2 := 34) rfl (by decide)
  have kx := copy_x (n := (hI h L 2).toInt) (m := (hI h L 3).toInt) (pr_th T k1) eo (fun s hs z => P.2 L on s rL wL eo hs z) e
  refine H o T1 f ((pg_sz niceC_0 rfl T r0 f).mp B) P1 ?_ ⟨kx.1, kx.2.1⟩
  refine (pgy_sz niceC_0 (fun _ => rfl) (fun _ => rfl) T r0 f (fun j => ?_) pg)
  by_cases q : j = i
  · subst q
    exact Or.inr (fun b' B' _ => by rw [pg_u B B']; exact P1)
  · exact Or.inl (is_f (by omega))
theorem start_y (hF : 700000 ≤ F) (hp : ∀ k w i, SZ pgE pgW k w i = true → cPm c k w i = true) (T : TH ρ c h) (r0 : ρ x0 = 12) (pl : PlP ρ c x0 h) (px : PlX ρ c x0 h) (pg : PgY ρ c x0 Bq h) : Sat (sX11_start F h x0 x1 x2) (MkI ρ c (-102) 0 (PgY ρ c x0 Bq)) := by
  unfold sX11_start
  refine s_dP0 (zX11_isGame hF T (rg_top _)) (fun oo eb e ii pp => ?_)
  rw [e]
  unfold sX11_start_4
  refine s_br (fun _ => s_some ⟨ρ, c, ex_0, T, rg_b rfl, pg⟩) (fun nz => ?_)
  have i1 := pp nz
  refine s_dP0 (zX11_isPlace hF T r0 (rg_top _)) (fun o2 eb2 e2 ii2 pp2 => ?_)
  rw [e2]
  unfold sX11_start_15
  refine s_br (fun _ => s_some ⟨ρ, c, ex_0, T, rg_b rfl, pg⟩) (fun nz2 => ?_)
  have i2 := pp2 nz2
  have l60 : x2.toNatClampNeg < 60 := by have := rg_clamp (n := 59) i2 (by decide); omega
  obtain ⟨b, B⟩ := pcx_of T r0 pl px eb2 nz2 l60
  have i0 : Rg 0 300 (0 : Int32) := rg_b rfl
  refine s_pageY hF hp (fun _ => rfl) (fun j hj => pgW_t hj) T r0 i1 i0 pg (fun o3 ρ1 c1 X1 T1 f1 B1 kp1 pg1 _ _ => ?_)
  have r1 := ex_r X1 r0 (by decide)
  have hp1 := ex_hp X1 hp
  have B2 := pcx_x T r0 X1 T1 (pcx_sz niceC_59 l60 T r0 f1 (is_f (by omega)) B)
  obtain ⟨kb, wb'⟩ := pcx_r T1 r1 l60 B2
  have PB : RyX ρ1 c1 b o3.2 := by obtain ⟨_, _, _, q⟩ := B2; exact q
  unfold sX11_start_27
  refine s_pcx T1 r1 i2 B2 ?_
  have lg : gi x1 0 ≤ 2407 := rg_clamp (gi_r i1 i0) (by decide)
  refine s_copyY (wy := 3200) hF hp1 (pgW_t lg) T1 r1 B1 kb PB (pgy_x T r0 X1 T1 pg1) (fun o4 T4 f4 B4 P4 pg4 _ => ?_)
  unfold sX11_start_36
  refine s_len T4 r1 i1 (fun r er qr => ?_)
  refine s_hq (th_wI T4 qr (k := 61) (lo := -1) (hi := 300) rfl (rg_b rfl) (by decide) (by decide) (szE hp1 rfl _)) (fun g5 T5 e5 => ?_)
  refine s_some ⟨ρ1, c1, X1, T5, rg_b rfl, pgy_y X1 (pgy_len T4 r1 er qr (fun k hk b' B' => ?_) pg4 e5)⟩
  have zz : (0 : Int32).toInt = 0 := rfl
  have k0 : k = 0 := by omega
  have gv := gi_v i1 i0
  have z0 : (0 : Int32).toNatClampNeg = 0 := rfl
  rw [z0] at gv
  rw [k0, ← gv] at B'
  rw [pg_u B4 B']; exact P4
theorem add_y (hF : 700000 ≤ F) (hp : ∀ k w i, SZ pgE pgW k w i = true → cPm c k w i = true) (T : TH ρ c h) (r0 : ρ x0 = 12) (lw : LwR ρ c h) (lx : LwX ρ c h) (wx : WyA ρ c h) (pg : PgY ρ c x0 Bq h) : Sat (sX11_add F h x0 x1 x2) (MkI ρ c (-104) 300 (PgY ρ c x0 Bq)) := by
  unfold sX11_add
  refine s_dP0 (zX11_isGame hF T (rg_top _)) (fun oo eb e ii pp => ?_)
  rw [e]
  unfold sX11_add_4
  refine s_br (fun _ => s_some ⟨ρ, c, ex_0, T, rg_b rfl, pg⟩) (fun nz => ?_)
  have i1 := pp nz
  refine s_len T r0 i1 (fun r er qr => ?_)
  refine s_q (fun p0 ep0 => ?_)
  refine s_br (fun _ => s_some ⟨ρ, c, ex_0, T, rg_b rfl, pg⟩) (fun n1 => ?_)
  have i2 : Rg 0 300 p0 := rg_nlo n1 (by rw [ep0]; exact thI T qr (k := 61) (lo := -1) (hi := 300) rfl) (rg_b rfl : Rg (-1) (-1) (-1 : Int32))
  refine s_pageY hF hp (fun _ => rfl) (fun j hj => pgW_t hj) T r0 i1 i2 pg (fun o3 ρ1 c1 X1 T1 f1 B1 kp1 pg1 us1 kf1 => ?_)
  have r1 := ex_r X1 r0 (by decide)
  have qr1 := ex_r X1 qr (by decide)
  have hp1 := ex_hp X1 hp
  have lw1 := lw_x T r0 X1 T1 (lw_sz niceC_59 T f1 lw)
  have lx1 := lwx_x T r0 X1 T1 (lwx_k T kf1 (P := lx))
  have wx1 := wya_x T r0 X1 T1 (wya_k T kf1 (P := wx))
  have P1 := ryx_x T r0 X1 T1 (us1 r er (by rw [ep0]; exact Int.le_refl _))
  have pg1' := pgy_x T r0 X1 T1 pg1
  obtain ⟨k1, w1⟩ := pg_r T1 r1 B1
  unfold sX11_add_31
  obtain ⟨rf, erf, qrf⟩ := thR T1 r1 (i := 6) (k2 := 6) rfl (by decide)
  refine s_ref erf ?_
  obtain ⟨ls, els, qls⟩ := thR T1 r1 (i := 12) (k2 := 47) rfl (by decide)
  refine s_ref els ?_
  have hs : ∀ k w i, SZ noE (is 1503) k w i = true → cPm c1 k w i = true := fun k w i m => hp1 k w i (sz_sub (fun _ _ z => noE_f z) (fun w z => by rw [is_e z]; rfl) m)
  refine s_cIfq T1 hs (s_weq (zX5_collect hF (pmA_s (szA (sx_c _)) rfl) (pmO_s (szP (sx_c _) is_s) rfl) w1 rfl (by omega) (th_in _ T1) qrf k1 qls (rg_b rfl) lw1 P1.1)) (fun o4 T4 i4 f4 eq4 => ?_)
  obtain ⟨L, eL, rL⟩ := thR T1 r1 (i := 2) (k2 := 2) rfl (by decide)
  have wL : cw c1 L = 2102 := kid_w T1 r1 (i := 2) (w := 2102) rfl (by decide) eL
  have LQ4 : LQ ls (hI o3.2 L 2).toInt (hI o3.2 L 3).toInt o4 := (sat_e (collect_q (c := cat c1 (SZ noE (is 1503)) o3.2) hF (pmA_s (szA (sx_c _)) rfl) (pmO_s (szP (sx_c _) is_s) rfl) w1 rfl (by omega) (th_in _ T1) qrf k1 qls (rg_b rfl) lw1 P1.1 lx1 wx1 P1.2) eq4).2 L rL wL
  have P4 := ryx_sz niceC_0 T1 k1 w1 (no8 (by decide)) f4 P1
  have pg4 := pgy_sz niceC_0 (fun _ => rfl) (fun _ => rfl) T1 r1 f4 (fun j => Or.inl (no8 (by decide))) pg1'
  have B4 := (pg_sz niceC_0 rfl T1 r1 f4).mp B1
  unfold sX11_add_49 sX11_add_61
  have ex : ∀ {y : Int32}, Rg (-104) 300 y → Sat (some (y, o4.2)) (MkI ρ c (-104) 300 (PgY ρ c x0 Bq)) := fun hy => s_some ⟨ρ1, c1, X1, T4, hy, pgy_y X1 pg4⟩
  refine s_br (fun _ => ex (rg_b rfl)) (fun n2 => ?_)
  refine s_br (fun n3 => ?_) (fun _ => ex (rg_b rfl))
  refine s_br (fun n4 => ?_) (fun _ => ex (rg_b rfl))
  have l3 : p0.toInt < 300 := lt_i n4
  have i3 : Rg 0 299 p0 := ⟨i2.1, by omega⟩
  have i5 : Rg 0 300 (p0 + (1 : Int32)) := rg_add i3 (rg_b rfl : Rg 1 1 (1 : Int32)) (by decide)
  have lx2 := lt_i n3
  have ix : Rg 0 4095 x2 := ⟨nlt_i n2, by have := i4.2; omega⟩
  refine s_pageY hF hp1 (fun _ => rfl) (fun j hj => pgW_t hj) T4 r1 i1 i5 pg4 (fun o5 ρ5 c5 X5 T5 f5 B5 kp5 pg5 _ kf5 => ?_)
  have r5 := ex_r X5 r1 (by decide)
  have hp5 := ex_hp X5 hp1
  obtain ⟨B45, Q45⟩ := kp5 _ _ B4
  have P5 := ryx_x T4 r1 X5 T5 (Q45 P4)
  have pg5' := pgy_x T4 r1 X5 T5 pg5
  obtain ⟨k5, w5⟩ := pg_r T5 r5 B45
  have lg : gi x1 (p0 + 1) ≤ 2407 := rg_clamp (gi_r i1 i5) (by decide)
  unfold sX11_add_82
  refine s_copyY (wy := 0) hF hp5 (pgW_t lg) T5 r5 B5 k5 P5 pg5' (fun o6 T6 f6 B6 P6 pg6 eq6 => ?_)
  unfold sX11_add_91
  obtain ⟨rf6, erf6, qrf6⟩ := thR T6 r5 (i := 6) (k2 := 6) rfl (by decide)
  refine s_ref erf6 ?_
  obtain ⟨ls6, els6, qls6⟩ := thR T6 r5 (i := 12) (k2 := 47) rfl (by decide)
  refine s_ref els6 ?_
  refine s_gd (by rw [thN T6 qls6 (k := 47) (n := 4096) rfl (by decide)]; exact rg_inB ix (by decide)) ?_
  obtain ⟨k6, w6⟩ := pg_r T6 r5 B6
  have hs6 : ∀ k w i, SZ noE (is (8000 + gi x1 (p0 + 1))) k w i = true → cPm c5 k w i = true := fun k w i m => hp5 k w i (sz_sub (fun _ _ z => noE_f z) (fun w z => by rw [is_e z]; exact pgW_t lg) m)
  refine s_cVfq T6 hs6 (s_weqp (zX5_make hF (pmO_s (szP (sx_c _) is_s) rfl) w6 (th_in _ T6) qrf6 k6 (rg_top _) (thG T6 qls6))) (fun o7 T7 f7 rc7 => ?_)
  have rL5 := ex_r X5 rL (by decide)
  have wL5 := ex_w X5 rL (by decide) wL
  obtain ⟨k56, I56⟩ := eq6
  have els5 : hR o5.2 x0 12 = some ls := by rw [kfR 12 kf5 r1 (by decide), x12 r1 f4 rfl]; exact els
  have y6 : ls6 = ls := by rw [k56] at els6; exact r_eq els5 els6
  subst y6
  have IL : ∀ j, j = 2 ∨ j = 3 ∨ j = 6 → hI o6 L j = hI o3.2 L j := fun j hj => by
    rw [I56 L j (by rw [rL5]; rfl), kfI j kf5 rL (by decide) (by rcases hj with z | z | z <;> rw [z] <;> rfl), (fr_RI f4 rL (by decide) (fun _ => sz_f rfl (by rcases hj with z | z | z <;> rw [z] <;> rfl) (Or.inl (by rcases hj with z | z | z <;> rw [z] <;> rfl)))).1]
  have I47 : hI o6 ls6 x2.toNatClampNeg = hI o4.2 ls6 x2.toNatClampNeg := by rw [I56 ls6 _ (by rw [qls6]; rfl), kfI _ kf5 qls (by decide)]
  have MX : MvX (hI o6 L 2).toInt (hI o6 L 3).toInt (hI o6 ls6 x2.toNatClampNeg) := by
    rw [IL 2 (by decide), IL 3 (by decide), I47]
    exact LQ4 x2.toNatClampNeg (by have := nc_i ix.1; omega)
  have SP6 : ShP ρ5 rf6 o5.1 L (hI o6 L 3).toInt o6 := by
    obtain ⟨L6, eL6, rL6⟩ := thR T6 qrf6 (i := 0) (k2 := 2) rfl (by decide)
    have wL6 : cw c5 L6 = 2102 := kid_w T6 qrf6 (i := 0) (w := 2102) rfl (by decide) eL6
    have y : L6 = L := law_1 T6 rL5 wL5 rL6 wL6
    subst y
    refine ⟨pr_th T6 k6, eL6, rL5, thI T6 k6 (k := 4) (i := 5) rfl, thI T6 rL5 (k := 2) (i := 6) rfl, ?_, (thI T6 rL5 (k := 2) (i := 3) (lo := 0) (hi := 12) rfl).2⟩
    rw [IL 6 (by decide), IL 3 (by decide)]
    exact (lx1 L6 rL wL).2.1
  have k7 := make_x SP6 MX rc7.2
  have P7 : RyX ρ5 c5 o5.1 o7 := ⟨rc7.1 _ k6 P6.1, pox_k k7 T6 k6 rL5 wL5 rfl rfl P6.2⟩
  have pg7 : PgY ρ5 c5 x0 Bq o7 := pgy_sz niceC_0 (fun _ => rfl) (fun _ => rfl) T6 r5 f7 (fun j => Or.inr (fun b B Pb => ⟨rc7.1 b (pg_r T6 r5 B).1 Pb.1, pox_k k7 T6 (pg_r T6 r5 B).1 rL5 wL5 rfl rfl Pb.2⟩)) pg6
  have B7 := (pg_sz niceC_0 rfl T6 r5 f7).mp B6
  unfold sX11_add_106
  obtain ⟨md, emd, qmd⟩ := thR T7 r5 (i := 16) (k2 := 60) rfl (by decide)
  refine s_ref emd ?_
  refine s_gd (by rw [thN T7 qmd (k := 60) (n := 2408) rfl (by decide)]; exact rg_inB (gi_r i1 i2) (by decide)) ?_
  refine s_hq (th_wI T7 qmd (k := 60) (lo := 0) (hi := 4095) rfl ix (by decide) (by decide) (szE hp5 rfl _)) (fun g8 T8 e8 => ?_)
  have f8 := fr1I (c := c5) (A := [(60, 999)]) (k := 60) qmd rfl e8
  obtain ⟨r7, er7, qr7⟩ := thR T7 r5 (i := 17) (k2 := 61) rfl (by decide)
  have pg8 := pgy_w c60x T7 r5 (fun rl el z => by rw [r_eq er7 el] at z; rw [z, qmd] at qr7; exact absurd qr7 (by decide)) f8 pg7 e8
  have P8 := ryx_w c60x T7 (pg_r T7 r5 B7).1 f8 P7
  have B8 : Pg x0 (gi x1 (p0 + 1)) o5.1 g8 := by obtain ⟨q, s1, s2⟩ := B7; exact ⟨q, by rw [e8]; exact s1, by rw [e8]; exact s2⟩
  refine s_len T8 r5 i1 (fun r9 er9 qr9 => ?_)
  refine s_hq (th_wI T8 qr9 (k := 61) (lo := -1) (hi := 300) rfl (rg_m i5 (by decide)) (by decide) (by decide) (szE hp5 rfl _)) (fun g9 T9 e9 => ?_)
  -- the length was the one that was read
  have el9 : (hI g8 r9 x1.toNatClampNeg) = p0 := by
    have a1 : hR o3.2 x0 17 = some r := by rw [x12 r0 f1 rfl]; exact er
    have a4 : hR o4.2 x0 17 = some r := by rw [x12 r1 f4 rfl]; exact a1
    have a5 : hR o5.2 x0 17 = some r := by rw [x12 r1 f5 rfl]; exact a4
    have a6 : hR o6 x0 17 = some r := by rw [x12 r5 f6 rfl]; exact a5
    have a7 : hR o7 x0 17 = some r := by rw [x12 r5 f7 rfl]; exact a6
    have a8 : hR g8 x0 17 = some r := by rw [e8]; exact a7
    have : r9 = r := r_eq a8 er9
    subst this
    have q5 := ex_r X5 qr1 (by decide)
    rw [e8, r_I, if_neg (ne_r q5 qmd (by decide)), (fr_RI f7 q5 (by decide) (fun _ => sz_f rfl rfl (Or.inl rfl))).1, (fr_RI f6 q5 (by decide) (fun _ => sz_f rfl rfl (Or.inl rfl))).1, (fr_RI f5 qr1 (by decide) (fun _ => sz_f rfl rfl (Or.inl rfl))).1, (fr_RI f4 qr1 (by decide) (fun _ => sz_f rfl rfl (Or.inl rfl))).1, (fr_RI f1 qr (by decide) (fun _ => sz_f rfl rfl (Or.inl rfl))).1]
    exact ep0.symm
  refine s_some ⟨ρ5, c5, ex_t X1 X5, T9, rg_m i5 (by decide), pgy_y (ex_t X1 X5) (pgy_len T8 r5 er9 qr9 (fun k hk b' B' => ?_) pg8 e9)⟩
  have ep1 := (nc_s i3 (by decide)).2
  have gv := gi_v i1 i5
  have np1 := nc_i i5.1
  rw [ep1] at hk
  by_cases z : k = (p0 + (1 : Int32)).toNatClampNeg
  · rw [z, ← gv] at B'
    rw [pg_u B8 B']; exact P8
  · exact pg8.1 r9 er9 x1.toNatClampNeg k (by have := rg_clamp (n := 7) i1 (by decide); omega) (by rw [el9]; omega) b' B'
end
end
