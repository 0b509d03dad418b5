/-! a text that is read keeps to the law -/
section
variable {ρ : Nat → Nat} {c : Cm} {h o g : Hp} {x0 p L F : Nat} {n m : Int} {x1 x2 x3 : Int32}
theorem at_x {v : Int32} (r0 : ρ x0 = 8) : PxR ρ n m h (wI h x0 2 v) := pr_I (by rw [r0]; rfl) (by rw [r0]; decide)
theorem rside_x {o : Int32 × Hp} (r0 : ρ x0 = 8) (rp : ρ p = 4) (e : sX7_readSide h x0 p = some o) : PxR ρ n m h o.2 := by
  have b38 : ∀ {t : Int32} {o : Int32 × Hp}, sX7_readSide_38 h x0 t p = some o → PxR ρ n m h o.2 := fun {t o} e => by
    unfold sX7_readSide_38 at e
    replace e := nm_s e
    obtain ⟨h1, w1, e⟩ := e
    replace e := nm_s e
    obtain ⟨h2, w2, e⟩ := e
    rw [← Option.some.inj e]
    have k1 : PxR ρ n m h h1 := by rw [w1]; exact pr_I (by rw [rp]; rfl) (by rw [rp]; decide)
    have k2 : PxR ρ n m h1 h2 := by rw [w2]; exact at_x r0
    exact pr_t k1 k2
  unfold sX7_readSide sX7_readSide_26 at e
  replace e := cl_s e
  obtain ⟨_, _, e⟩ := e
  replace e := cl_s e
  obtain ⟨o2, e2, e⟩ := e
  rw [byt_h e2] at e
  replace e := br_s e
  rcases e with ⟨_, e⟩ | ⟨_, e⟩
  · replace e := br_s e
    rcases e with ⟨_, e⟩ | ⟨_, e⟩
    · exact b38 e
    · exact b38 e
  replace e := br_s e
  rcases e with ⟨_, e⟩ | ⟨_, e⟩
  · replace e := br_s e
    rcases e with ⟨_, e⟩ | ⟨_, e⟩
    · exact b38 e
    · exact b38 e
  · rw [← Option.some.inj e]; exact pr_0
theorem rsq_x {o : Int32 × Hp} (r0 : ρ x0 = 8) (e : sX7_readSquare h x0 = some o) : PxR ρ n m h o.2 := by
  unfold sX7_readSquare sX7_readSquare_30 sX7_readSquare_72 at e
  replace e := cl_s e
  obtain ⟨_, _, e⟩ := e
  replace e := cl_s e
  obtain ⟨o2, e2, e⟩ := e
  rw [byt_h e2] at e
  replace e := nm_s e
  obtain ⟨_, _, e⟩ := e
  replace e := br_s e
  rcases e with ⟨_, e⟩ | ⟨_, e⟩
  · rw [← Option.some.inj e]; exact pr_0
  replace e := cl_s e
  obtain ⟨_, _, e⟩ := e
  replace e := br_s e
  rcases e with ⟨_, e⟩ | ⟨_, e⟩
  · replace e := nm_s e
    obtain ⟨h7, w7, e⟩ := e
    have k7 : PxR ρ n m h h7 := by rw [w7]; exact at_x r0
    replace e := cl_s e
    obtain ⟨_, _, e⟩ := e
    replace e := cl_s e
    obtain ⟨o9, e9, e⟩ := e
    rw [byt_h e9] at e
    replace e := nm_s e
    obtain ⟨_, _, e⟩ := e
    replace e := br_s e
    rcases e with ⟨_, e⟩ | ⟨_, e⟩
    · rw [← Option.some.inj e]; exact k7
    replace e := cl_s e
    obtain ⟨_, _, e⟩ := e
    replace e := br_s e
    rcases e with ⟨_, e⟩ | ⟨_, e⟩
    · replace e := nm_s e
      obtain ⟨h14, w14, e⟩ := e
      have k14 : PxR ρ n m h7 h14 := by rw [w14]; exact at_x r0
      replace e := cl_s e
      obtain ⟨_, _, e⟩ := e
      rw [← Option.some.inj e]
      exact pr_t k7 k14
    · rw [← Option.some.inj e]; exact k7
  · rw [← Option.some.inj e]; exact pr_0
theorem rri_15 (r0 : ρ x0 = 8) : ∀ (f : Nat) {h : Hp} {o : Int32 × Hp} {x2 x3 : Int32}, sX7_readRights_15 F f h x0 p x2 x3 = some o → PxR ρ n m h o.2 := by
  intro f
  induction f with
  | zero => intro h o x2 x3 e; exact absurd e (by rw [sX7_readRights_15]; exact fun z => nomatch z)
  | succ f ih =>
    intro h o x2 x3 e
    rw [sX7_readRights_15] at e
    unfold sX7_readRights_97 at e
    have b41 : sX7_readRights_41 F (sX7_readRights_15 F f) h x0 p x2 x3 = some o → PxR ρ n m h o.2 := fun e => by
      unfold sX7_readRights_41 at e
      replace e := nm_s e
      obtain ⟨v1, _, e⟩ := e
      replace e := cl_s e
      obtain ⟨o2, e2, e⟩ := e
      have k2 : PxR ρ n m h o2.2 := rsq_x r0 e2
      replace e := br_s e
      rcases e with ⟨_, e⟩ | ⟨_, e⟩
      · rw [← Option.some.inj e]; exact k2
      replace e := br_s e
      rcases e with ⟨_, e⟩ | ⟨_, e⟩
      · replace e := nm_s e
        obtain ⟨h5, w5, e⟩ := e
        have k5 : PxR ρ n m o2.2 h5 := by rw [w5]; exact pr_J
        replace e := nm_s e
        obtain ⟨_, _, e⟩ := e
        exact pr_t k2 (pr_t k5 (ih e))
      · replace e := nm_s e
        obtain ⟨h7, w7, e⟩ := e
        have k7 : PxR ρ n m o2.2 h7 := by rw [w7]; exact at_x r0
        rw [← Option.some.inj e]
        exact pr_t k2 k7
    replace e := br_s e
    rcases e with ⟨_, e⟩ | ⟨_, e⟩
    · rw [← Option.some.inj e]; exact pr_0
    replace e := br_s e
    rcases e with ⟨_, e⟩ | ⟨_, e⟩
    · exact b41 e
    replace e := cl_s e
    obtain ⟨_, _, e⟩ := e
    replace e := cl_s e
    obtain ⟨o4, e4, e⟩ := e
    rw [byt_h e4] at e
    replace e := br_s e
    rcases e with ⟨_, e⟩ | ⟨_, e⟩
    · rw [← Option.some.inj e]; exact pr_0
    · exact b41 e
theorem rrights_x {o : Int32 × Hp} (r0 : ρ x0 = 8) (e : sX7_readRights F h x0 p = some o) : PxR ρ n m h o.2 := by
  unfold sX7_readRights at e
  replace e := cl_s e
  obtain ⟨o1, e1, e⟩ := e
  have k1 : PxR ρ n m h o1.2 := tby_x r0 e1
  replace e := br_s e
  rcases e with ⟨_, e⟩ | ⟨_, e⟩
  · exact pr_t k1 (rri_15 r0 F e)
  · rw [← Option.some.inj e]; exact k1
theorem rpa_13 (r0 : ρ x0 = 8) : ∀ (f : Nat) {h : Hp} {o : Int32 × Hp} {x2 : Int32}, sX7_readPass_13 F f h x0 p x2 = some o → PxR ρ n m h o.2 := by
  intro f
  induction f with
  | zero => intro h o x2 e; exact absurd e (by rw [sX7_readPass_13]; exact fun z => nomatch z)
  | succ f ih =>
    intro h o x2 e
    rw [sX7_readPass_13] at e
    unfold sX7_readPass_64 at e
    have b41 : sX7_readPass_41 F (sX7_readPass_13 F f) h x0 p x2 = some o → PxR ρ n m h o.2 := fun e => by
      unfold sX7_readPass_41 at e
      replace e := cl_s e
      obtain ⟨o1, e1, e⟩ := e
      have k1 : PxR ρ n m h o1.2 := rsq_x r0 e1
      replace e := br_s e
      rcases e with ⟨_, e⟩ | ⟨_, e⟩
      · rw [← Option.some.inj e]; exact k1
      replace e := cl_s e
      obtain ⟨o3, e3, e⟩ := e
      have k3 : PxR ρ n m o1.2 o3 := pr_c (addp_x e3)
      replace e := nm_s e
      obtain ⟨_, _, e⟩ := e
      exact pr_t k1 (pr_t k3 (ih e))
    replace e := br_s e
    rcases e with ⟨_, e⟩ | ⟨_, e⟩
    · rw [← Option.some.inj e]; exact pr_0
    replace e := br_s e
    rcases e with ⟨_, e⟩ | ⟨_, e⟩
    · exact b41 e
    replace e := cl_s e
    obtain ⟨_, _, e⟩ := e
    replace e := cl_s e
    obtain ⟨o4, e4, e⟩ := e
    rw [byt_h e4] at e
    replace e := br_s e
    rcases e with ⟨_, e⟩ | ⟨_, e⟩
    · rw [← Option.some.inj e]; exact pr_0
    · exact b41 e
theorem rpass_x {o : Int32 × Hp} (r0 : ρ x0 = 8) (e : sX7_readPass F h x0 p = some o) : PxR ρ n m h o.2 := by
  unfold sX7_readPass at e
  replace e := cl_s e
  obtain ⟨o1, e1, e⟩ := e
  have k1 : PxR ρ n m h o1.2 := tby_x r0 e1
  replace e := br_s e
  rcases e with ⟨_, e⟩ | ⟨_, e⟩
  · exact pr_t k1 (rpa_13 r0 F e)
  · rw [← Option.some.inj e]; exact k1
theorem rha_13 : ∀ (f : Nat) {h : Hp} {o : Int32 × Hp} {x2 : Int32}, RdP ρ x0 p L n m h → sX7_readHands_13 F f h x0 p x2 = some o → PxR ρ n m h o.2 := by
  intro f
  induction f with
  | zero => intro h o x2 _ e; exact absurd e (by rw [sX7_readHands_13]; exact fun z => nomatch z)
  | succ f ih =>
    intro h o x2 P e
    rw [sX7_readHands_13] at e
    unfold sX7_readHands_107 at e
    have r0 := P.2.2.1
    have b39 : sX7_readHands_39 F (sX7_readHands_13 F f) h x0 p x2 = some o → PxR ρ n m h o.2 := fun e => by
      unfold sX7_readHands_39 sX7_readHands_78 at e
      replace e := cl_s e
      obtain ⟨r1, g1, e⟩ := e
      have y1 : r1 = L := r_eq P.1 g1
      subst y1
      replace e := cl_s e
      obtain ⟨_, _, e⟩ := e
      replace e := cl_s e
      obtain ⟨o3, e3, e⟩ := e
      rw [byt_h e3] at e
      replace e := cl_s e
      obtain ⟨o4, e4, e⟩ := e
      have q4 := (code_q (by rw [P.2.2.2.2.1]; exact P.2.2.2.2.2) e4).1
      rw [q4] at e
      replace e := br_s e
      rcases e with ⟨_, e⟩ | ⟨_, e⟩
      · rw [← Option.some.inj e]; exact pr_0
      replace e := cl_s e
      obtain ⟨o6, e6, e⟩ := e
      rw [inh_h e6] at e
      replace e := br_s e
      rcases e with ⟨_, e⟩ | ⟨_, e⟩
      · replace e := cl_s e
        obtain ⟨o8, e8, e⟩ := e
        have k8 : PxR ρ n m h o8 := pr_c (ath_x e8)
        replace e := nm_s e
        obtain ⟨h9, w9, e⟩ := e
        have k9 : PxR ρ n m o8 h9 := by rw [w9]; exact at_x r0
        have kk := pr_t k8 k9
        replace e := nm_s e
        obtain ⟨_, _, e⟩ := e
        exact pr_t kk (ih (rdp_k kk P) e)
      · rw [← Option.some.inj e]; exact pr_0
    replace e := br_s e
    rcases e with ⟨_, e⟩ | ⟨_, e⟩
    · rw [← Option.some.inj e]; exact pr_0
    replace e := br_s e
    rcases e with ⟨_, e⟩ | ⟨_, e⟩
    · exact b39 e
    replace e := cl_s e
    obtain ⟨_, _, e⟩ := e
    replace e := cl_s e
    obtain ⟨o4, e4, e⟩ := e
    rw [byt_h e4] at e
    replace e := br_s e
    rcases e with ⟨_, e⟩ | ⟨_, e⟩
    · rw [← Option.some.inj e]; exact pr_0
    · exact b39 e
theorem rhands_x {o : Int32 × Hp} (P : RdP ρ x0 p L n m h) (e : sX7_readHands F h x0 p = some o) : PxR ρ n m h o.2 := by
  unfold sX7_readHands at e
  replace e := cl_s e
  obtain ⟨o1, e1, e⟩ := e
  have k1 : PxR ρ n m h o1.2 := tby_x P.2.2.1 e1
  replace e := br_s e
  rcases e with ⟨_, e⟩ | ⟨_, e⟩
  · exact pr_t k1 (rha_13 F (rdp_k k1 P) e)
  · rw [← Option.some.inj e]; exact k1
theorem rch_2 (r0 : ρ x0 = 8) : ∀ (f : Nat) {h : Hp} {o : Int32 × Hp} {x2 : Int32}, PR ρ p h → sX7_readChecks_2 F f h x0 p x2 = some o → PxR ρ n m h o.2 := by
  intro f
  induction f with
  | zero => intro h o x2 _ e; exact absurd e (by rw [sX7_readChecks_2]; exact fun z => nomatch z)
  | succ f ih =>
    intro h o x2 P e
    rw [sX7_readChecks_2] at e
    replace e := br_s e
    rcases e with ⟨_, e⟩ | ⟨_, e⟩
    · rw [← Option.some.inj e]; exact pr_0
    replace e := cl_s e
    obtain ⟨_, _, e⟩ := e
    replace e := cl_s e
    obtain ⟨o3, e3, e⟩ := e
    rw [byt_h e3] at e
    replace e := cl_s e
    obtain ⟨o4, e4, e⟩ := e
    rw [dgt_h e4] at e
    replace e := br_s e
    rcases e with ⟨_, e⟩ | ⟨_, e⟩
    · rw [← Option.some.inj e]; exact pr_0
    replace e := cl_s e
    obtain ⟨r6, g6, e⟩ := e
    have q6 := P.2.2.2 r6 g6
    replace e := cl_s e
    obtain ⟨_, _, e⟩ := e
    replace e := cl_s e
    obtain ⟨o8, e8, e⟩ := e
    rw [byt_h e8] at e
    replace e := (gd_s e).2
    replace e := nm_s e
    obtain ⟨h10, w10, e⟩ := e
    have k10 : PxR ρ n m h h10 := by rw [w10]; exact pr_I (by rw [q6]; rfl) (by rw [q6]; decide)
    replace e := nm_s e
    obtain ⟨h11, w11, e⟩ := e
    have k11 : PxR ρ n m h10 h11 := by rw [w11]; exact at_x r0
    have kk := pr_t k10 k11
    replace e := nm_s e
    obtain ⟨_, _, e⟩ := e
    exact pr_t kk (ih (pr_k kk.1 P) e)
theorem rcl_7 (r0 : ρ x0 = 8) (rp : ρ p = 4) : ∀ (f : Nat) {h : Hp} {o : Int32 × Hp} {x3 : Int32}, sX7_readClock_7 F f h x0 p x2 x3 = some o → PxR ρ n m h o.2 := by
  intro f
  induction f with
  | zero => intro h o x3 e; exact absurd e (by rw [sX7_readClock_7]; exact fun z => nomatch z)
  | succ f ih =>
    intro h o x3 e
    rw [sX7_readClock_7] at e
    have b86 : ∀ {g : Hp}, sX7_readClock_86 F g x0 x2 = some o → o.2 = g := fun {g} e => by
      unfold sX7_readClock_86 sX7_readClock_99 at e
      replace e := br_s e
      rcases e with ⟨_, e⟩ | ⟨_, e⟩
      · rw [← Option.some.inj (gd_s e).2]
      · rw [← Option.some.inj (gd_s e).2]
    have b71 : sX7_readClock_71 F h x0 p x2 = some o → PxR ρ n m h o.2 := fun e => by
      unfold sX7_readClock_71 at e
      replace e := br_s e
      rcases e with ⟨_, e⟩ | ⟨_, e⟩
      · rw [b86 e]; exact pr_0
      · replace e := nm_s e
        obtain ⟨h2, w2, e⟩ := e
        rw [b86 e, w2]; exact at_x r0
    replace e := br_s e
    rcases e with ⟨_, e⟩ | ⟨_, e⟩
    · exact b71 e
    replace e := cl_s e
    obtain ⟨_, _, e⟩ := e
    replace e := cl_s e
    obtain ⟨o3, e3, e⟩ := e
    rw [byt_h e3] at e
    replace e := cl_s e
    obtain ⟨o4, e4, e⟩ := e
    rw [dgt_h e4] at e
    replace e := br_s e
    rcases e with ⟨_, e⟩ | ⟨_, e⟩
    · exact b71 e
    replace e := cl_s e
    obtain ⟨_, _, e⟩ := e
    replace e := cl_s e
    obtain ⟨o7, e7, e⟩ := e
    rw [byt_h e7] at e
    replace e := nm_s e
    obtain ⟨h8, w8, e⟩ := e
    have k8 : PxR ρ n m h h8 := by rw [w8]; exact pr_I (by rw [rp]; rfl) (by rw [rp]; decide)
    replace e := nm_s e
    obtain ⟨h9, w9, e⟩ := e
    have k9 : PxR ρ n m h8 h9 := by rw [w9]; exact at_x r0
    replace e := nm_s e
    obtain ⟨_, _, e⟩ := e
    exact pr_t k8 (pr_t k9 (ih e))
/-- a position that is read keeps to the law -/
theorem read_x {o : Int32 × Hp} {tx on : Nat} (hA : pmA c [(8, 1), (8, 2)]) (T : TH ρ c h) (r0 : ρ x0 = 8) (rx : ρ tx = 10) (rp : ρ p = 4) (eL : hR h x0 0 = some L) (B : Bo ρ L n h) (em : (hI h L 3).toInt = m) (m12 : m ≤ 12) (eo : hR h p 0 = some on) (e : sX7_read F h x0 tx p = some o) : PxR ρ n m (wR h x0 1 (some tx)) o.2 ∧ OnX n m on o.2 := by
  have qo := th_on T rp eo
  have np : ¬ p = x0 := ne_r' rp r0 (by decide)
  have rL := B.1
  unfold sX7_read at e
  replace e := nm_s e
  obtain ⟨h1, w1, e⟩ := e
  replace e := nm_s e
  obtain ⟨h2, w2, e⟩ := e
  have T1 : TH ρ (nst c 5) h1 := by rw [w1]; exact th_wR T r0 (k := 8) (i := 1) (j := 5) (k2 := 10) rfl (by decide) rfl (by decide) rx rfl nid_5 (by decide) (by decide) rfl rfl (fun z => absurd rfl z) (pm_a hA rfl)
  have T2 : TH ρ (nst c 5) h2 := by rw [w2]; exact th_wI T1 r0 (k := 8) (lo := 0) (hi := 1201) rfl (rg_m (rg_b rfl : Rg 0 0 (0 : Int32)) (by decide)) (by decide) (by decide) (pm_a hA rfl)
  have k2 : PxR ρ n m h1 h2 := by rw [w2]; exact at_x r0
  have R2 : ∀ a i, ¬ a = x0 → hR h2 a i = hR h a i := fun a i na => by
    rw [w2]
    show hR h1 a i = _
    rw [w1, r_R, if_neg (fun z => na z.1)]
  have I2 : ∀ i, hI h2 L i = hI h L i := fun i => by rw [w2, r_I, if_neg (ne_r rL r0 (by decide)), w1]; rfl
  have eL2 : hR h2 x0 0 = some L := by
    rw [w2]
    show hR h1 x0 0 = _
    rw [w1, r_R, if_neg (fun z => absurd z.2 (by decide))]
    exact eL
  have P2 : RdP ρ x0 p L n m h2 := ⟨eL2, pr_th T2 rp, r0, ⟨rL, by rw [I2]; exact B.2.1, by rw [I2]; exact B.2.2.1, by rw [I2, I2]; exact B.2.2.2⟩, by rw [I2]; exact em, m12⟩
  obtain ⟨ra, era, rra⟩ := thR T2 rp (i := 2) (k2 := 36) rfl (by decide)
  rw [← w1]
  replace e := cl_s e
  obtain ⟨o3, e3, e⟩ := e
  obtain ⟨k3, X3⟩ := clear_x (n := n) (m := m) T2 rp (by rw [R2 p 0 np]; exact eo) era e3
  have P3 := rdp_k k3 P2
  have k13 := pr_t k2 k3
  have fin : ∀ {g : Hp} {t : Int32}, PxR ρ n m o3 g → sX7_read_144 F g x0 t = some o → PxR ρ n m h1 o.2 ∧ OnX n m on o.2 := fun {g t} k e => by
    unfold sX7_read_144 sX7_read_157 at e
    replace e := br_s e
    rcases e with ⟨_, e⟩ | ⟨_, e⟩
    · rw [← Option.some.inj e]; exact ⟨pr_t k13 k, onr_k qo k X3⟩
    · rw [← Option.some.inj e]; exact ⟨pr_t k13 k, onr_k qo k X3⟩
  unfold sX7_read_143 at e
  have kk : PxR ρ n m o3 o3 := pr_0
  replace e := cl_s e
  obtain ⟨o4, e4, e⟩ := e
  have j : PxR ρ n m o3 o4.2 := rranks_x (rdp_k kk P3) e4
  replace kk := pr_t kk j
  clear j
  replace e := br_s e
  rcases e with ⟨_, e⟩ | ⟨_, e⟩
  · exact fin kk e
  replace e := cl_s e
  obtain ⟨o6, e6, e⟩ := e
  have j : PxR ρ n m o4.2 o6.2 := tby_x r0 e6
  replace kk := pr_t kk j
  clear j
  replace e := br_s e
  rcases e with ⟨_, e⟩ | ⟨_, e⟩
  · exact fin kk e
  replace e := cl_s e
  obtain ⟨o8, e8, e⟩ := e
  have j : PxR ρ n m o6.2 o8.2 := rside_x r0 rp e8
  replace kk := pr_t kk j
  clear j
  replace e := br_s e
  rcases e with ⟨_, e⟩ | ⟨_, e⟩
  · exact fin kk e
  replace e := cl_s e
  obtain ⟨o10, e10, e⟩ := e
  have j : PxR ρ n m o8.2 o10.2 := tby_x r0 e10
  replace kk := pr_t kk j
  clear j
  replace e := br_s e
  rcases e with ⟨_, e⟩ | ⟨_, e⟩
  · exact fin kk e
  replace e := cl_s e
  obtain ⟨o12, e12, e⟩ := e
  have j : PxR ρ n m o10.2 o12.2 := rrights_x r0 e12
  replace kk := pr_t kk j
  clear j
  replace e := br_s e
  rcases e with ⟨_, e⟩ | ⟨_, e⟩
  · exact fin kk e
  replace e := cl_s e
  obtain ⟨o14, e14, e⟩ := e
  have j : PxR ρ n m o12.2 o14.2 := tby_x r0 e14
  replace kk := pr_t kk j
  clear j
  replace e := br_s e
  rcases e with ⟨_, e⟩ | ⟨_, e⟩
  · exact fin kk e
  replace e := cl_s e
  obtain ⟨o16, e16, e⟩ := e
  have j : PxR ρ n m o14.2 o16.2 := rpass_x r0 e16
  replace kk := pr_t kk j
  clear j
  replace e := br_s e
  rcases e with ⟨_, e⟩ | ⟨_, e⟩
  · exact fin kk e
  replace e := cl_s e
  obtain ⟨o18, e18, e⟩ := e
  have j : PxR ρ n m o16.2 o18.2 := tby_x r0 e18
  replace kk := pr_t kk j
  clear j
  replace e := br_s e
  rcases e with ⟨_, e⟩ | ⟨_, e⟩
  · exact fin kk e
  replace e := cl_s e
  obtain ⟨o20, e20, e⟩ := e
  have j : PxR ρ n m o18.2 o20.2 := rhands_x (rdp_k kk P3) e20
  replace kk := pr_t kk j
  clear j
  replace e := br_s e
  rcases e with ⟨_, e⟩ | ⟨_, e⟩
  · exact fin kk e
  replace e := cl_s e
  obtain ⟨o22, e22, e⟩ := e
  have j : PxR ρ n m o20.2 o22.2 := tby_x r0 e22
  replace kk := pr_t kk j
  clear j
  replace e := br_s e
  rcases e with ⟨_, e⟩ | ⟨_, e⟩
  · exact fin kk e
  replace e := cl_s e
  obtain ⟨o24, e24, e⟩ := e
  have j : PxR ρ n m o22.2 o24.2 := by
    unfold sX7_readChecks at e24
    exact rch_2 r0 F (pr_k kk.1 P3.2.1) e24
  replace kk := pr_t kk j
  clear j
  replace e := br_s e
  rcases e with ⟨_, e⟩ | ⟨_, e⟩
  · exact fin kk e
  replace e := cl_s e
  obtain ⟨o26, e26, e⟩ := e
  have j : PxR ρ n m o24.2 o26.2 := tby_x r0 e26
  replace kk := pr_t kk j
  clear j
  replace e := br_s e
  rcases e with ⟨_, e⟩ | ⟨_, e⟩
  · exact fin kk e
  replace e := cl_s e
  obtain ⟨o28, e28, e⟩ := e
  have j : PxR ρ n m o26.2 o28.2 := by
    unfold sX7_readClock at e28
    replace e28 := nm_s e28
    obtain ⟨_, _, e28⟩ := e28
    exact rcl_7 r0 rp F e28
  replace kk := pr_t kk j
  clear j
  replace e := br_s e
  rcases e with ⟨_, e⟩ | ⟨_, e⟩
  · exact fin kk e
  replace e := cl_s e
  obtain ⟨_, _, e⟩ := e
  replace e := cl_s e
  obtain ⟨o31, e31, e⟩ := e
  rw [byt_h e31] at e
  replace e := br_s e
  rcases e with ⟨_, e⟩ | ⟨_, e⟩
  · exact fin kk e
  · exact fin kk e
end
