/-! the class's invariant, and how it is carried over what leaves it alone -/
section
variable {ρ ρ1 : Nat → Nat} {c c1 : Cm} {h o g : Hp} {S : Nat → Nat → Nat → Bool} {x0 a b k w i F L : Nat}
theorem frx (f : Fr ρ (cat c S h) h o) (ra : ρ a = k) (k0 : k ≠ 0) (wa : cw c a = w) (s : S k w i = false) : hI o a i = hI h a i ∧ hJ o a i = hJ h a i ∧ hR o a i = hR h a i := f.1 a i (by rw [ra]; exact k0) (by rw [ra]; show S k (cw c a) i = false; rw [wa]; exact s)
abbrev LWc (S : Nat → Nat → Nat → Bool) : Prop := ∀ i, S 2 2102 i = false
theorem lwr_f (f : Fr ρ (cat c S h) h o) (s : LWc S) (P : LwR ρ c h) : LwR ρ c o := fun L rL wL hc => by
  rw [(frx f rL (by decide) wL (s 0)).1, (frx f rL (by decide) wL (s 1)).1, (frx f rL (by decide) wL (s 2)).1] at hc
  exact P L rL wL hc
theorem ryp_f (T : TH ρ c h) (rb : ρ b = 4) (wb : cw c b = w) (f : Fr ρ (cat c S h) h o) (s4 : S 4 w 2 = false) (s36 : ∀ i, S 36 w i = false) (s : LWc S) (P : RyP ρ c b h) : RyP ρ c b o := fun ra e i hi n L rL wL => by
  rw [(frx f rb (by decide) wb s4).2.2] at e
  have rr' : ρ ra = 36 := rr T (thR T rb (i := 2) (k2 := 36) rfl (by decide)) e
  rw [(frx f rr' (by decide) (th_ih T rb rfl e wb) (s36 i)).1] at n
  rw [(frx f rL (by decide) wL (s 4)).1]
  exact P ra e i hi n L rL wL
theorem pox_f (T : TH ρ c h) (rb : ρ b = 4) (wb : cw c b = w) (f : Fr ρ (cat c S h) h o) (s4 : S 4 w 0 = false) (s34 : ∀ i, S 34 w i = false) (s : LWc S) (P : PoX ρ c b h) : PoX ρ c b o := fun L on sq rL wL eo hs z => by
  rw [(frx f rb (by decide) wb s4).2.2] at eo
  have qo := th_on T rb eo
  rw [(frx f qo (by decide) (th_ih T rb rfl eo wb) (s34 sq)).1] at z ⊢
  rw [(frx f rL (by decide) wL (s 2)).1, (frx f rL (by decide) wL (s 3)).1]
  exact P L on sq rL wL eo hs z
theorem plp_f (T : TH ρ c h) (r0 : ρ x0 = 12) (f : Fr ρ (cat c S h) h o) (s12 : ∀ w i, S 12 w i = false) (s57 : ∀ w i, S 57 w i = false) (s58 : ∀ w i, S 58 w i = false) (s4 : S 4 3200 2 = false) (s36 : ∀ i, S 36 3200 i = false) (s : LWc S) (P : PlP ρ c x0 h) : PlP ρ c x0 o := fun r u er eu i hi nu b eb => by
  rw [(frx f r0 (by decide) rfl (s12 _ _)).2.2] at er eu
  have rr' : ρ r = 57 := rr T (thR T r0 (i := 13) (k2 := 57) rfl (by decide)) er
  have ru : ρ u = 58 := rr T (thR T r0 (i := 14) (k2 := 58) rfl (by decide)) eu
  rw [(frx f rr' (by decide) rfl (s57 _ _)).2.2] at eb
  rw [(frx f ru (by decide) rfl (s58 _ _)).1] at nu
  exact ryp_f T (pl_b T rr' hi eb) (kid_w T rr' (i := i) (w := 3200) rfl (by decide) eb) f s4 s36 s (P r u er eu i hi nu b eb)
theorem plx_f (T : TH ρ c h) (r0 : ρ x0 = 12) (f : Fr ρ (cat c S h) h o) (s12 : ∀ w i, S 12 w i = false) (s57 : ∀ w i, S 57 w i = false) (s58 : ∀ w i, S 58 w i = false) (s4 : S 4 3200 0 = false) (s34 : ∀ i, S 34 3200 i = false) (s : LWc S) (P : PlX ρ c x0 h) : PlX ρ c x0 o := fun r u er eu i hi nu b eb => by
  rw [(frx f r0 (by decide) rfl (s12 _ _)).2.2] at er eu
  have rr' : ρ r = 57 := rr T (thR T r0 (i := 13) (k2 := 57) rfl (by decide)) er
  have ru : ρ u = 58 := rr T (thR T r0 (i := 14) (k2 := 58) rfl (by decide)) eu
  rw [(frx f rr' (by decide) rfl (s57 _ _)).2.2] at eb
  rw [(frx f ru (by decide) rfl (s58 _ _)).1] at nu
  exact pox_f T (pl_b T rr' hi eb) (kid_w T rr' (i := i) (w := 3200) rfl (by decide) eb) f s4 s34 s (P r u er eu i hi nu b eb)
theorem pgx_f (T : TH ρ c h) (r0 : ρ x0 = 12) (f : Fr ρ (cat c S h) h o) (s12 : ∀ w i, S 12 w i = false) (s59 : ∀ w i, S 59 w i = false) (s61 : ∀ w i, S 61 w i = false) (s4 : ∀ j, S 4 (8000 + j) 0 = false) (s42 : ∀ j, S 4 (8000 + j) 2 = false) (s34 : ∀ j i, S 34 (8000 + j) i = false) (s36 : ∀ j i, S 36 (8000 + j) i = false) (s : LWc S) (P : PgX ρ c x0 h) : PgX ρ c x0 o := fun rl el n k hn hk b B => by
  rw [(frx f r0 (by decide) rfl (s12 _ _)).2.2] at el
  have rl' : ρ rl = 61 := rr T (thR T r0 (i := 17) (k2 := 61) rfl (by decide)) el
  rw [(frx f rl' (by decide) rfl (s61 _ _)).1] at hk
  have B0 : Pg x0 (301 * n + k) b h := by
    obtain ⟨r, e1, e2⟩ := B
    rw [(frx f r0 (by decide) rfl (s12 _ _)).2.2] at e1
    have r59 : ρ r = 59 := rr T (thR T r0 (i := 15) (k2 := 59) rfl (by decide)) e1
    rw [(frx f r59 (by decide) rfl (s59 _ _)).2.2] at e2
    exact ⟨r, e1, e2⟩
  obtain ⟨k1, k2⟩ := pg_r T r0 B0
  have Q := P rl el n k hn hk b B0
  exact ⟨ryp_f T k1 k2 f (s42 _) (s36 _) s Q.1, pox_f T k1 k2 f (s4 _) (s34 _) s Q.2⟩
/-- the law in force has squares as its board -/
def GeM (x0 : Nat) (h : Hp) : Prop := ∀ L, hR h x0 2 = some L → GeoS L h
def GeT (x0 : Nat) (h : Hp) : Prop := ∀ L, hR h x0 3 = some L → GeoS L h
theorem gem_f (T : TH ρ c h) (r0 : ρ x0 = 12) (f : Fr ρ (cat c S h) h o) (s12 : ∀ w i, S 12 w i = false) (s32 : ∀ i, S 32 2102 i = false) (s : LWc S) (P : GeM x0 h) : GeM x0 o := fun L eL fo ef hc i hi => by
  rw [(frx f r0 (by decide) rfl (s12 _ _)).2.2] at eL
  have rL : ρ L = 2 := rr T (thR T r0 (i := 2) (k2 := 2) rfl (by decide)) eL
  have wL : cw c L = 2102 := kid_w T r0 (i := 2) (w := 2102) rfl (by decide) eL
  rw [(frx f rL (by decide) wL (s 19)).2.2] at ef
  have rf : ρ fo = 32 := rr T (thR T rL (i := 19) (k2 := 32) rfl (by decide)) ef
  rw [(frx f rL (by decide) wL (s 0)).1, (frx f rL (by decide) wL (s 1)).1, (frx f rL (by decide) wL (s 2)).1] at hc
  rw [(frx f rf (by decide) (th_ih T rL rfl ef wL) (s32 i)).1]
  exact P L eL fo ef hc i hi
theorem get_f (T : TH ρ c h) (r0 : ρ x0 = 12) (f : Fr ρ (cat c S h) h o) (s12 : ∀ w i, S 12 w i = false) (s32 : ∀ i, S 32 2103 i = false) (s : ∀ i, S 2 2103 i = false) (P : GeT x0 h) : GeT x0 o := fun L eL fo ef hc i hi => by
  rw [(frx f r0 (by decide) rfl (s12 _ _)).2.2] at eL
  have rL : ρ L = 2 := rr T (thR T r0 (i := 3) (k2 := 2) rfl (by decide)) eL
  have wL : cw c L = 2103 := kid_w T r0 (i := 3) (w := 2103) rfl (by decide) eL
  rw [(frx f rL (by decide) wL (s 19)).2.2] at ef
  have rf : ρ fo = 32 := rr T (thR T rL (i := 19) (k2 := 32) rfl (by decide)) ef
  rw [(frx f rL (by decide) wL (s 0)).1, (frx f rL (by decide) wL (s 1)).1, (frx f rL (by decide) wL (s 2)).1] at hc
  rw [(frx f rf (by decide) (th_ih T rL rfl ef wL) (s32 i)).1]
  exact P L eL fo ef hc i hi
theorem fmm_f (T : TH ρ c h) (f : Fr ρ (cat c S h) h o) (s11 : ∀ w, S 11 w 3 = false) (s53 : ∀ w i, S 53 w i = false) (P : FmM ρ c h) : FmM ρ c o := fun W rW => fm_fr T rW f s11 s53 (P W rW)
theorem fox_f {n m : Int} {rt : Nat} (T : TH ρ c h) (r7 : ρ rt = 7) (f : Fr ρ (cat c S h) h o) (s7 : ∀ w, S 7 w 5 = false) (s76 : ∀ w, S 7 w 6 = false) (s48 : ∀ w i, S 48 w i = false) (P : FoX rt n m h) : FoX rt n m o := fox_fr T r7 f s7 s76 s48 P
theorem rex_f (T : TH ρ c h) (r0 : ρ x0 = 12) (f : Fr ρ (cat c S h) h o) (s12 : ∀ w i, S 12 w i = false) (s73 : ∀ w, S 7 w 3 = false) (s7 : ∀ w, S 7 w 5 = false) (s76 : ∀ w, S 7 w 6 = false) (s48 : ∀ w i, S 48 w i = false) (s4 : S 4 1603 0 = false) (s42 : S 4 1603 2 = false) (s34 : ∀ i, S 34 1603 i = false) (s36 : ∀ i, S 36 1603 i = false) (s : LWc S) (P : ReX ρ c x0 h) : ReX ρ c x0 o := fun rt er z => by
  rw [(frx f r0 (by decide) rfl (s12 _ _)).2.2] at er
  have r7 : ρ rt = 7 := rr T (thR T r0 (i := 9) (k2 := 7) rfl (by decide)) er
  rw [(frx f r7 (by decide) rfl (s76 _)).1] at z
  obtain ⟨A, B⟩ := P rt er z
  refine ⟨fun b eb => ?_, fun L rL wL => ?_⟩
  · rw [(frx f r7 (by decide) rfl (s73 _)).2.2] at eb
    have rb : ρ b = 4 := rr T (thR T r7 (i := 3) (k2 := 4) rfl (by decide)) eb
    have wb : cw c b = 1603 := th_id T r7 (w := 1603) eb rfl (by decide)
    exact ⟨ryp_f T rb wb f s42 s36 s (A b eb).1, pox_f T rb wb f s4 s34 s (A b eb).2⟩
  · rw [(frx f rL (by decide) wL (s 2)).1, (frx f rL (by decide) wL (s 3)).1]
    exact fox_fr T r7 f s7 s76 s48 (B L rL wL)
theorem ena_f (T : TH ρ c h) (r0 : ρ x0 = 12) (f : Fr ρ (cat c S h) h o) (s12 : ∀ w i, S 12 w i = false) (s1 : ∀ w j, ¬ j = 14 → ¬ j = 8 → ¬ j = 17 → ¬ j = 16 → S 1 w j = false) (s20 : ∀ w i, S 20 w i = false) (s21 : ∀ w i, S 21 w i = false) (s22 : ∀ w i, S 22 w i = false) (s : LWc S) (P : EnA x0 h) : EnA x0 o := fun e ee => by
  rw [(frx f r0 (by decide) rfl (s12 _ _)).2.2] at ee
  have re : ρ e = 1 := rr T (thR T r0 (i := 10) (k2 := 1) rfl (by decide)) ee
  have R1 : ∀ j, ¬ j = 14 → ¬ j = 8 → ¬ j = 17 → ¬ j = 16 → hI o e j = hI h e j ∧ hJ o e j = hJ h e j ∧ hR o e j = hR h e j := fun j a b c d => frx f re (by decide) rfl (s1 _ j a b c d)
  obtain ⟨p1, p2, p3⟩ := P e ee
  have lenp : LenP e h → LenP e o := fun Q i a hi ea => by
    have q : ∀ j k2, (¬ j = 14 ∧ ¬ j = 8 ∧ ¬ j = 17 ∧ ¬ j = 16) → rfK 1 j = k2 → k2 ≠ 0 → hR o e j = some a → hR h e j = some a ∧ ρ a ≠ 0 := fun j k2 hm hk h0 ej => by
      rw [(R1 j hm.1 hm.2.1 hm.2.2.1 hm.2.2.2).2.2] at ej
      exact ⟨ej, by rw [rr T (thR T re (i := j) (k2 := k2) hk h0) ej]; exact h0⟩
    have z : hR h e i = some a ∧ ρ a ≠ 0 := by
      rcases hi with w | w | w <;> subst w
      · exact q 11 24 (by decide) rfl (by decide) ea
      · exact q 12 25 (by decide) rfl (by decide) ea
      · exact q 13 26 (by decide) rfl (by decide) ea
    rw [f.2 a z.2]
    exact Q i a hi z.1
  refine ⟨fun r er i => ?_, fun a ea => ?_, fun n => ?_⟩
  · rw [(R1 5 (by decide) (by decide) (by decide) (by decide)).2.2] at er
    have q : ρ r = 21 := rr T (thR T re (i := 5) (k2 := 21) rfl (by decide)) er
    rw [(frx f q (by decide) rfl (s21 _ _)).1]
    exact p1 r er i
  · rw [(R1 11 (by decide) (by decide) (by decide) (by decide)).2.2] at ea
    have ra := rr T (thR T re (i := 11) (k2 := 24) rfl (by decide)) ea
    rw [f.2 a (by rw [ra]; decide)]
    exact (p2 a ea).imp id lenp
  · rw [(R1 10 (by decide) (by decide) (by decide) (by decide)).1] at n
    obtain ⟨l, ks, st, pw, L, e0, e4, e5, e6, Pw, St⟩ := p3 n
    have rL : ρ L = 2 := rr T (thR T re (i := 0) (k2 := 2) rfl (by decide)) e0
    have wL : cw c L = 2102 := kid_w T re (i := 0) (w := 2102) rfl (by decide) e0
    have qk : ρ ks = 20 := rr T (thR T re (i := 4) (k2 := 20) rfl (by decide)) e4
    have qs : ρ st = 21 := rr T (thR T re (i := 5) (k2 := 21) rfl (by decide)) e5
    have qp : ρ pw = 22 := rr T (thR T re (i := 6) (k2 := 22) rfl (by decide)) e6
    refine ⟨lenp l, ks, st, pw, L, ?_, ?_, ?_, ?_, fun i hi => ?_, ?_⟩
    · rw [(R1 0 (by decide) (by decide) (by decide) (by decide)).2.2]; exact e0
    · rw [(R1 4 (by decide) (by decide) (by decide) (by decide)).2.2]; exact e4
    · rw [(R1 5 (by decide) (by decide) (by decide) (by decide)).2.2]; exact e5
    · rw [(R1 6 (by decide) (by decide) (by decide) (by decide)).2.2]; exact e6
    · rw [(frx f qp (by decide) rfl (s22 _ _)).1, (frx f rL (by decide) wL (s 2)).1]; exact Pw i hi
    · have k9 := (R1 9 (by decide) (by decide) (by decide) (by decide)).1
      have gk : ∀ i, gK o pw (hI o ks i) = gK h pw (hI h ks i) := fun i => by
        unfold gK
        rw [(frx f qk (by decide) rfl (s20 _ _)).1, (frx f qp (by decide) rfl (s22 _ _)).1]
      refine ⟨?_, fun i hi => ?_⟩
      · rw [k9, sm_eq (g := fun i => gK h pw (hI h ks i)) _ (fun i _ => gk i)]
        exact St.1
      · rw [k9] at hi
        rw [sm_eq (f := fun i => gK o pw (hI o ks i)) (g := fun i => gK h pw (hI h ks i)) _ (fun i _ => gk i), (frx f qs (by decide) rfl (s21 _ _)).1]
        exact St.2 i hi
theorem fmy_f (T : TH ρ c h) (f : Fr ρ (cat c S h) h o) (s11 : ∀ w, S 11 w 3 = false) (s53 : ∀ w i, S 53 w i = false) (s : LWc S) (P : FmY ρ c h) : FmY ρ c o := fun W L rW rL wL => by
  rw [(frx f rL (by decide) wL (s 2)).1]
  exact fmx_fr T rW f s11 s53 (P W L rW rL wL)
theorem lwx_f (T : TH ρ c h) (f : Fr ρ (cat c S h) h o) (s : LWc S) (s30 : ∀ i, S 30 2102 i = false) (s31 : ∀ i, S 31 2102 i = false) (P : LwX ρ c h) : LwX ρ c o := fun L rL wL => by
  rw [(frx f rL (by decide) wL (s 3)).1, (frx f rL (by decide) wL (s 4)).1, (frx f rL (by decide) wL (s 6)).1]
  obtain ⟨a, b, d⟩ := P L rL wL
  refine ⟨a, b, fun bm bc em ec k hk => ?_⟩
  rw [(frx f rL (by decide) wL (s 17)).2.2] at em
  rw [(frx f rL (by decide) wL (s 18)).2.2] at ec
  have rm : ρ bm = 30 := rr T (thR T rL (i := 17) (k2 := 30) rfl (by decide)) em
  have rc : ρ bc = 31 := rr T (thR T rL (i := 18) (k2 := 31) rfl (by decide)) ec
  rw [(frx f rc (by decide) (th_ih T rL rfl ec wL) (s31 k)).1]
  refine ⟨(d bm bc em ec k hk).1, fun i hi => ?_⟩
  rw [(frx f rm (by decide) (th_ih T rL rfl em wL) (s30 _)).1]
  exact (d bm bc em ec k hk).2 i hi
theorem wya_f (T : TH ρ c h) (f : Fr ρ (cat c S h) h o) (s110 : ∀ w, S 11 w 0 = false) (s111 : ∀ w, S 11 w 1 = false) (s118 : ∀ w, S 11 w 8 = false) (s50 : ∀ w i, S 50 w i = false) (s51 : ∀ w i, S 51 w i = false) (s : LWc S) (P : WyA ρ c h) : WyA ρ c o := fun wy L rw' rL wL a0 a1 e0 e1 => by
  rw [(frx f rL (by decide) wL (s 2)).1, (frx f rL (by decide) wL (s 3)).1]
  rw [(frx f rw' (by decide) rfl (s110 _)).2.2] at e0
  rw [(frx f rw' (by decide) rfl (s111 _)).2.2] at e1
  have q0 : ρ a0 = 50 := rr T (thR T rw' (i := 0) (k2 := 50) rfl (by decide)) e0
  have q1 : ρ a1 = 51 := rr T (thR T rw' (i := 1) (k2 := 51) rfl (by decide)) e1
  exact wy_e (frx f rw' (by decide) rfl (s118 _)).1 (fun i => (frx f q0 (by decide) rfl (s50 _ _)).1) (fun i => (frx f q1 (by decide) rfl (s51 _ _)).1) (P wy L rw' rL wL a0 a1 e0 e1)
theorem sqa_f (f : Fr ρ (cat c S h) h o) (s : LWc S) (P : SqA ρ c h) : SqA ρ c o := fun L rL wL => by
  rw [(frx f rL (by decide) wL (s 0)).1, (frx f rL (by decide) wL (s 1)).1, (frx f rL (by decide) wL (s 2)).1]
  exact P L rL wL
/-- what holds of the class between calls -/
def ClI (ρ : Nat → Nat) (c : Cm) (x0 : Nat) (h : Hp) : Prop := LwR ρ c h ∧ PlP ρ c x0 h ∧ PlX ρ c x0 h ∧ PgX ρ c x0 h ∧ GeM x0 h ∧ GeT x0 h ∧ FmM ρ c h ∧ ReX ρ c x0 h ∧ EnA x0 h ∧ FmY ρ c h ∧ LwX ρ c h ∧ WyA ρ c h ∧ SqA ρ c h
/-- roles that the class's state stands on -/
def clS (k : Nat) : Bool := [1, 2, 4, 7, 11, 12, 20, 21, 22, 30, 31, 32, 34, 36, 48, 50, 51, 53, 57, 58, 59, 61].contains k
theorem ci_f (T : TH ρ c h) (r0 : ρ x0 = 12) (f : Fr ρ (cat c S h) h o) (s1 : ∀ k w i, clS k = true → k ≠ 4 → k ≠ 34 → k ≠ 36 → S k w i = false) (s2 : ∀ k w i, clS k = true → (w = 3200 ∨ 8000 ≤ w ∨ w = 1603) → S k w i = false) (P : ClI ρ c x0 h) : ClI ρ c x0 o := by
  obtain ⟨p1, p2, p3, p4, p5, p6, p7, p8, p9, p10, p11, p12, p13⟩ := P
  have s : ∀ k w i, clS k = true → k ≠ 4 → k ≠ 34 → k ≠ 36 → S k w i = false := s1
  have lw : LWc S := fun i => s _ _ _ rfl (by decide) (by decide) (by decide)
  have a12 : ∀ w i, S 12 w i = false := fun _ _ => s _ _ _ rfl (by decide) (by decide) (by decide)
  refine ⟨lwr_f f lw p1, plp_f T r0 f a12 (fun _ _ => s _ _ _ rfl (by decide) (by decide) (by decide)) (fun _ _ => s _ _ _ rfl (by decide) (by decide) (by decide)) (s2 _ _ _ rfl (Or.inl rfl)) (fun _ => s2 _ _ _ rfl (Or.inl rfl)) lw p2, plx_f T r0 f a12 (fun _ _ => s _ _ _ rfl (by decide) (by decide) (by decide)) (fun _ _ => s _ _ _ rfl (by decide) (by decide) (by decide)) (s2 _ _ _ rfl (Or.inl rfl)) (fun _ => s2 _ _ _ rfl (Or.inl rfl)) lw p3, pgx_f T r0 f a12 (fun _ _ => s _ _ _ rfl (by decide) (by decide) (by decide)) (fun _ _ => s _ _ _ rfl (by decide) (by decide) (by decide)) (fun _ => s2 _ _ _ rfl (Or.inr (Or.inl (by omega)))) (fun _ => s2 _ _ _ rfl (Or.inr (Or.inl (by omega)))) (fun _ _ => s2 _ _ _ rfl (Or.inr (Or.inl (by omega)))) (fun _ _ => s2 _ _ _ rfl (Or.inr (Or.inl (by omega)))) lw p4, gem_f T r0 f a12 (fun _ => s _ _ _ rfl (by decide) (by decide) (by decide)) lw p5, get_f T r0 f a12 (fun _ => s _ _ _ rfl (by decide) (by decide) (by decide)) (fun i => s _ _ _ rfl (by decide) (by decide) (by decide)) p6, fmm_f T f (fun _ => s _ _ _ rfl (by decide) (by decide) (by decide)) (fun _ _ => s _ _ _ rfl (by decide) (by decide) (by decide)) p7, rex_f T r0 f a12 (fun _ => s _ _ _ rfl (by decide) (by decide) (by decide)) (fun _ => s _ _ _ rfl (by decide) (by decide) (by decide)) (fun _ => s _ _ _ rfl (by decide) (by decide) (by decide)) (fun _ _ => s _ _ _ rfl (by decide) (by decide) (by decide)) (s2 _ _ _ rfl (Or.inr (Or.inr rfl))) (s2 _ _ _ rfl (Or.inr (Or.inr rfl))) (fun _ => s2 _ _ _ rfl (Or.inr (Or.inr rfl))) (fun _ => s2 _ _ _ rfl (Or.inr (Or.inr rfl))) lw p8, ena_f T r0 f a12 (fun _ _ _ _ _ _ => s _ _ _ rfl (by decide) (by decide) (by decide)) (fun _ _ => s _ _ _ rfl (by decide) (by decide) (by decide)) (fun _ _ => s _ _ _ rfl (by decide) (by decide) (by decide)) (fun _ _ => s _ _ _ rfl (by decide) (by decide) (by decide)) lw p9, fmy_f T f (fun _ => s _ _ _ rfl (by decide) (by decide) (by decide)) (fun _ _ => s _ _ _ rfl (by decide) (by decide) (by decide)) lw p10, lwx_f T f lw (fun _ => s _ _ _ rfl (by decide) (by decide) (by decide)) (fun _ => s _ _ _ rfl (by decide) (by decide) (by decide)) p11, wya_f T f (fun _ => s _ _ _ rfl (by decide) (by decide) (by decide)) (fun _ => s _ _ _ rfl (by decide) (by decide) (by decide)) (fun _ => s _ _ _ rfl (by decide) (by decide) (by decide)) (fun _ _ => s _ _ _ rfl (by decide) (by decide) (by decide)) (fun _ _ => s _ _ _ rfl (by decide) (by decide) (by decide)) lw p12, sqa_f f lw p13⟩
/-- frames that leave the class's state alone -/
def okA (A : List (Nat × Nat)) (L : List (Nat × List (Nat × Nat))) : Bool := A.all (fun p => !(clS p.1)) && L.all (fun p => (decide (p.1 < 8000) && !(p.1 == 3200) && !(p.1 == 1603)) && p.2.all (fun q => !(clS q.1) || (q.1 == 4 || q.1 == 34 || q.1 == 36)))
theorem mS_n {A : List (Nat × Nat)} {k i : Nat} (hA : ∀ p ∈ A, ¬ p.1 = k) : mS A k i = false := by
  cases z : mS A k i with
  | false => rfl
  | true =>
    unfold mS at z
    rw [List.any_eq_true] at z
    obtain ⟨p, hp, hm⟩ := z
    rw [Bool.and_eq_true, beq_iff_eq] at hm
    exact absurd hm.1 (hA p hp)
theorem fS_n {A : List (Nat × Nat)} {Lo : List (Nat × List (Nat × Nat))} {k w i : Nat} (hA : ∀ p ∈ A, ¬ p.1 = k) (hL : ∀ p ∈ Lo, ¬ p.1 = w ∨ ∀ q ∈ p.2, ¬ q.1 = k) : fS A Lo k w i = false := by
  unfold fS
  rw [mS_n hA, Bool.false_or]
  cases z : (Lo.any fun p => mS p.2 k i && w == p.1) with
  | false => rfl
  | true =>
    rw [List.any_eq_true] at z
    obtain ⟨p, hp, hm⟩ := z
    rw [Bool.and_eq_true, beq_iff_eq] at hm
    rcases hL p hp with q | q
    · exact absurd hm.2.symm q
    · rw [mS_n q] at hm; exact absurd hm.1 (by decide)
theorem ci_A {A : List (Nat × Nat)} {Lo : List (Nat × List (Nat × Nat))} (ok : okA A Lo = true) (T : TH ρ c h) (r0 : ρ x0 = 12) (f : Fr ρ (cat c (fS A Lo) h) h o) (P : ClI ρ c x0 h) : ClI ρ c x0 o := by
  unfold okA at ok
  rw [Bool.and_eq_true, List.all_eq_true, List.all_eq_true] at ok
  have hA : ∀ {k}, clS k = true → ∀ p ∈ A, ¬ p.1 = k := fun {k} hk p hp e => by
    have := ok.1 p hp
    rw [e, hk] at this
    exact absurd this (by decide)
  refine ci_f T r0 f (fun k w i hk n4 n34 n36 => fS_n (hA hk) (fun p hp => Or.inr (fun q hq e => ?_))) (fun k w i hk hw => fS_n (hA hk) (fun p hp => Or.inl (fun e => ?_))) P
  · have := ok.2 p hp
    rw [Bool.and_eq_true, List.all_eq_true] at this
    have := this.2 q hq
    rw [e, hk, beq_eq_false_iff_ne.mpr n4, beq_eq_false_iff_ne.mpr n34, beq_eq_false_iff_ne.mpr n36] at this
    exact absurd this (by decide)
  · have := ok.2 p hp
    rw [Bool.and_eq_true, Bool.and_eq_true, Bool.and_eq_true, decide_eq_true_eq, Bool.not_eq_true', Bool.not_eq_true', beq_eq_false_iff_ne, beq_eq_false_iff_ne] at this
    omega
theorem rex_x (T : TH ρ c h) (r0 : ρ x0 = 12) (X : Ext ρ c ρ1 c1) (T1 : TH ρ1 c1 o) (P : ReX ρ c x0 g) : ReX ρ1 c1 x0 g := fun rt er z => by
  obtain ⟨A, B⟩ := P rt er z
  refine ⟨fun b eb => ryx_x T r0 X T1 (A b eb), fun L hL wL => ?_⟩
  obtain ⟨a, w⟩ := law_ext T r0 X T1 hL wL
  exact B L a w
theorem ci_x (T : TH ρ c h) (r0 : ρ x0 = 12) (X : Ext ρ c ρ1 c1) (T1 : TH ρ1 c1 o) (P : ClI ρ c x0 g) : ClI ρ1 c1 x0 g := by
  obtain ⟨p1, p2, p3, p4, p5, p6, p7, p8, p9, p10, p11, p12, p13⟩ := P
  refine ⟨lw_x T r0 X T1 p1, pl_x T r0 X T1 p2, plx_x T r0 X T1 p3, pgx_x T r0 X T1 p4, p5, p6, fun W hW => ?_, rex_x T r0 X T1 p8, p9, fun W L hW hL wL => ?_, lwx_x T r0 X T1 p11, wya_x T r0 X T1 p12, fun L hL wL => ?_⟩
  · rw [X.2.1]; exact p7 W (way_ext T r0 X T1 hW)
  · obtain ⟨a, w⟩ := law_ext T r0 X T1 hL wL
    exact p10 W L (way_ext T r0 X T1 hW) a w
  · obtain ⟨a, w⟩ := law_ext T r0 X T1 hL wL
    exact p13 L a w
end
