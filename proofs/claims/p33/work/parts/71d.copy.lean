theorem fits_b {x : Int32} (i : Rg (-128) 127 x) : fits .byte (.int x) = true := by
  show (decide ((-128 : Int32) ≤ x) && decide (x ≤ (127 : Int32))) = true
  rw [Bool.and_eq_true, decide_eq_true_eq, decide_eq_true_eq, Int32.le_iff_toInt_le, Int32.le_iff_toInt_le]
  exact i
section
variable {ρ : Nat → Nat} {c : Cm} {h : Hp}
theorem cp_at (h : Hp) (a0 sp a dp n b j : Nat) : hI (cpI h a0 sp a dp n) b j = if b = a ∧ dp ≤ j ∧ j < dp + n then hI h a0 (sp + (j - dp)) else hI h b j := by
  rw [cpI_I]
  by_cases q : b = a
  · rw [if_pos q]
    show (if dp ≤ j ∧ j < dp + n then _ else _) = _
    by_cases w : dp ≤ j ∧ j < dp + n
    · rw [if_pos w, if_pos ⟨q, w⟩]
    · rw [if_neg w, if_neg (fun z => w z.2)]
  · rw [if_neg q, if_neg (fun z => q z.1)]
theorem th_cpI0 (T : TH0 ρ c h) {a0 a k0 k sp dp n : Nat} {lo hi lo0 hi0 : Int} (e0 : ρ a0 = k0) (e : ρ a = k) (hk0 : ∀ i, rgI k0 i = (lo0, hi0)) (hk : ∀ i, rgI k i = (lo, hi)) (le : lo ≤ lo0 ∧ hi0 ≤ hi) (n1 : k ≠ 10) (n2 : k ≠ 34) (hp : ∀ i j x, rP (c.2.1 50) (cw c a0) k0 i x → rP (c.2.1 50) (cw c a) k j x) : TH0 ρ c (cpI h a0 sp a dp n) := by
  obtain ⟨t1, t2, t3, t4, t5, t6, t7, t8, t9⟩ := T
  refine ⟨t1, ?_, t3, t4, t5, ?_, ⟨t7.1, ?_⟩, t8, t9⟩
  · intro b j
    rw [cp_at]
    by_cases q : b = a ∧ dp ≤ j ∧ j < dp + n
    · rw [if_pos q, q.1, e, hk]
      have := t2 a0 (sp + (j - dp))
      rw [e0, hk0] at this
      exact ⟨rg_m this.1 le, hp _ _ _ this.2⟩
    · rw [if_neg q]; exact t2 b j
  · intro t tb ht hr
    rw [cp_at, if_neg (fun q => n1 (by rw [← e, ← q.1, ht]))]
    exact t6 t tb ht hr
  · intro p on of hp ho hf s hs d hd hb
    have h1 : ρ on = 34 := by
      obtain ⟨r, e1, e2⟩ := t3 p 0 (by rw [hp]; decide)
      have e3 : hR h p 0 = some on := ho
      rw [e1] at e3
      rw [← Option.some.inj e3, e2, hp]; rfl
    rw [cp_at, if_neg (fun q => n2 (by rw [← e, ← q.1, h1]))]
    exact t7.2 p on of hp ho hf s hs d hd hb
-- the typed heap with one position left out
theorem fr_cp {g : Hp} (f : FrG ρ c g h) {a0 a k sp dp n : Nat} (e : ρ a = k) (hw : ∀ i, cPm c k (cw c a) i = true) : FrG ρ c g (cpI h a0 sp a dp n) := by
  refine ⟨f.1, fun b j l hb hs => ?_, f.2.2⟩
  rw [cp_at, if_neg (fun q => by rw [q.1, e, hw] at hs; exact absurd hs (by decide))]
  exact f.2.1 b j l hb hs
theorem th_cpI (T : TH ρ c h) {a0 a k0 k sp dp n : Nat} {lo hi lo0 hi0 : Int} (e0 : ρ a0 = k0) (e : ρ a = k) (hk0 : ∀ i, rgI k0 i = (lo0, hi0)) (hk : ∀ i, rgI k i = (lo, hi)) (le : lo ≤ lo0 ∧ hi0 ≤ hi) (n1 : k ≠ 10) (n2 : k ≠ 34) (hw : ∀ i, cPm c k (cw c a) i = true) (hp : ∀ i j x, rP (c.2.1 50) (cw c a0) k0 i x → rP (c.2.1 50) (cw c a) k j x := by exact fun _ _ _ _ => rp0 rfl) : TH ρ c (cpI h a0 sp a dp n) := ⟨th_cpI0 T.1 e0 e hk0 hk le n1 n2 hp, T.2.1, fr_cp T.2.2 e hw⟩
def PsX (ρ : Nat → Nat) (qb : Bool) (p0 : Nat) (h : Hp) : Prop := PsU ρ h ∧ ∀ p on of, p ≠ p0 → ρ p = 4 → hR h p 0 = some on → hR h p 1 = some of → ∀ s, s < 64 → ∀ d, d < 2 → bitJ (hJ h of d) s = true → 0 ≤ (hI h on s).toInt ∧ (hI h on s).toInt % 2 = (d : Int) ∧ SqN qb s
def THx0 (ρ : Nat → Nat) (c : Cm) (p0 : Nat) (h : Hp) : Prop :=
  h.1 = c.1 ∧ (∀ a i, Rg (rgI (ρ a) i).1 (rgI (ρ a) i).2 (hI h a i) ∧ rP (c.2.1 50) (cw c a) (ρ a) i (hI h a i)) ∧ (∀ a i, rfK (ρ a) i ≠ 0 → ∃ r, hR h a i = some r ∧ ρ r = rfK (ρ a) i) ∧ (∀ a i, rfN (ρ a) i ≠ 0 → ∀ r, hR h a i = some r → ρ r = rfN (ρ a) i) ∧ (∀ a, rln (ρ a) ≠ 0 → hN h a = rln (ρ a)) ∧ TxR ρ h ∧ PsX ρ (c.2.1 50) p0 h ∧ (∀ a i, nid (ρ a) i ≠ 0 → c.2.1 (nid (ρ a) i) = true → ∃ r, hR h a i = some r) ∧ (∀ a b, ρ a = ρ b → (sgl (ρ a) = true ∨ ((ρ a = 32 ∨ ρ a = 2) ∧ cw c a = cw c b)) → a = b)
theorem thx_of0 {p0 : Nat} (T : TH0 ρ c h) : THx0 ρ c p0 h := by
  obtain ⟨t1, t2, t3, t4, t5, t6, t7, t8, t9⟩ := T
  exact ⟨t1, t2, t3, t4, t5, t6, ⟨t7.1, fun p on of _ => t7.2 p on of⟩, t8, t9⟩
theorem thx_to0 {p0 : Nat} (T : THx0 ρ c p0 h) (hb : ∀ on of, hR h p0 0 = some on → hR h p0 1 = some of → ∀ s, s < 64 → ∀ d, d < 2 → bitJ (hJ h of d) s = true → 0 ≤ (hI h on s).toInt ∧ (hI h on s).toInt % 2 = (d : Int) ∧ SqN (c.2.1 50) s) : TH0 ρ c h := by
  obtain ⟨t1, t2, t3, t4, t5, t6, t7, t8, t9⟩ := T
  refine ⟨t1, t2, t3, t4, t5, t6, ⟨t7.1, fun p on of hp ho hf s hs d hd hx => ?_⟩, t8, t9⟩
  by_cases q : p = p0
  · subst q; exact hb on of ho hf s hs d hd hx
  · exact t7.2 p on of q hp ho hf s hs d hd hx
theorem pxI0 {p0 : Nat} (T : THx0 ρ c p0 h) {a k i : Nat} {lo hi : Int} (e : ρ a = k) (hk : rgI k i = (lo, hi)) : Rg lo hi (hI h a i) := by
  have := (T.2.1 a i).1
  rw [e, hk] at this
  exact this
theorem pxR0 {p0 : Nat} (T : THx0 ρ c p0 h) {a k i k2 : Nat} (e : ρ a = k) (hk : rfK k i = k2) (h0 : k2 ≠ 0) : ∃ r, hR h a i = some r ∧ ρ r = k2 := by
  have := T.2.2.1 a i
  rw [e, hk] at this
  exact this h0
theorem pxN0 {p0 : Nat} (T : THx0 ρ c p0 h) {a k n : Nat} (e : ρ a = k) (hk : rln k = n) (h0 : n ≠ 0) : hN h a = n := by
  have := T.2.2.2.2.1 a
  rw [e, hk] at this
  exact this h0
theorem px_on0 {p0 : Nat} (T : THx0 ρ c p0 h) {p on : Nat} (hp : ρ p = 4) (ho : hR h p 0 = some on) : ρ on = 34 := by
  obtain ⟨r, e1, e2⟩ := pxR0 T hp (i := 0) (k2 := 34) rfl (by decide)
  rw [e1] at ho
  rw [← Option.some.inj ho, e2]
theorem px_of0 {p0 : Nat} (T : THx0 ρ c p0 h) {p on : Nat} (hp : ρ p = 4) (ho : hR h p 1 = some on) : ρ on = 35 := by
  obtain ⟨r, e1, e2⟩ := pxR0 T hp (i := 1) (k2 := 35) rfl (by decide)
  rw [e1] at ho
  rw [← Option.some.inj ho, e2]
theorem thx_wI0 {p0 : Nat} (T : THx0 ρ c p0 h) {a k i : Nat} {v : Int32} {lo hi : Int} (h4 : ρ p0 = 4) (e : ρ a = k) (hk : rgI k i = (lo, hi)) (hv : Rg lo hi v) (n1 : k ≠ 10) (n2 : k = 34 → hR h p0 0 = some a) (hp : rP (c.2.1 50) (cw c a) k i v) : THx0 ρ c p0 (wI h a i v) := by
  have T0 := T
  obtain ⟨t1, t2, t3, t4, t5, t6, t7, t8, t9⟩ := T
  refine ⟨t1, ?_, t3, t4, t5, ?_, ⟨t7.1, ?_⟩, t8, t9⟩
  · intro b j
    rw [r_I]
    by_cases q : b = a ∧ j = i
    · rw [if_pos q, q.1, q.2, e, hk]; exact ⟨hv, hp⟩
    · rw [if_neg q]; exact t2 b j
  · intro t tb ht hr
    rw [r_I, if_neg (fun q => n1 (by rw [← e, ← q.1, ht]))]
    exact t6 t tb ht hr
  · intro p on of hn hp ho hf s hs d hd hb
    have h1 := px_on0 T0 hp ho
    have : on ≠ a := fun q => by
      have ho2 : hR h p 0 = some a := by rw [← q]; exact ho
      exact hn (t7.1 p p0 0 a (by decide) hp h4 ho2 (n2 (by rw [← e, ← q, h1])))
    rw [r_I, if_neg (fun q => this q.1)]
    exact t7.2 p on of hn hp ho hf s hs d hd hb
theorem thx_wJ0 {p0 : Nat} (T : THx0 ρ c p0 h) {a k i : Nat} {v : Int64} (h4 : ρ p0 = 4) (e : ρ a = k) (n2 : k = 35 → hR h p0 1 = some a) : THx0 ρ c p0 (wJ h a i v) := by
  have T0 := T
  obtain ⟨t1, t2, t3, t4, t5, t6, t7, t8, t9⟩ := T
  refine ⟨t1, t2, t3, t4, t5, t6, ⟨t7.1, ?_⟩, t8, t9⟩
  intro p on of hn hp ho hf s hs d hd hb
  have h1 := px_of0 T0 hp hf
  have : of ≠ a := fun q => by
    have ho2 : hR h p 1 = some a := by rw [← q]; exact hf
    exact hn (t7.1 p p0 1 a (by decide) hp h4 ho2 (n2 (by rw [← e, ← q, h1])))
  rw [r_J, if_neg (fun q => this q.1)] at hb
  exact t7.2 p on of hn hp ho hf s hs d hd hb
theorem thx_cp0 {p0 on0 on1 n : Nat} (T : THx0 ρ c p0 h) (h4 : ρ p0 = 4) (ho : hR h p0 0 = some on0) (q1 : ρ on1 = 34) : THx0 ρ c p0 (cpI h on1 0 on0 0 n) := by
  have q0 := px_on0 T h4 ho
  have T0 := T
  obtain ⟨t1, t2, t3, t4, t5, t6, t7, t8, t9⟩ := T
  refine ⟨t1, ?_, t3, t4, t5, ?_, ⟨t7.1, ?_⟩, t8, t9⟩
  · intro b j
    rw [cp_at]
    by_cases q : b = on0 ∧ 0 ≤ j ∧ j < 0 + n
    · rw [if_pos q, q.1, q0]
      exact ⟨pxI0 T0 q1 (k := 34) rfl, rp0 rfl⟩
    · rw [if_neg q]; exact t2 b j
  · intro t tb ht hr
    rw [cp_at, if_neg (fun q => absurd (q0.symm.trans (by rw [← q.1, ht])) (by decide))]
    exact t6 t tb ht hr
  · intro p on of hn hp ho' hf s hs d hd hb
    have : on ≠ on0 := fun q => by
      have ho2 : hR h p 0 = some on0 := by rw [← q]; exact ho'
      exact hn (t7.1 p p0 0 on0 (by decide) hp h4 ho2 ho)
    rw [cp_at, if_neg (fun q => this q.1)]
    exact t7.2 p on of hn hp ho' hf s hs d hd hb
def Cpy (qb : Bool) (x0 x1 on0 on1 of0 of1 n : Nat) (h : Hp) : Prop :=
  hR h x0 0 = some on0 ∧ hR h x1 0 = some on1 ∧ hR h x0 1 = some of0 ∧ hR h x1 1 = some of1 ∧ (∀ s, s < 64 → hI h on0 s = hI h on1 s) ∧ (∀ d, d < n → hJ h of0 d = hJ h of1 d) ∧ (x0 = x1 → ∀ s, s < 64 → ∀ d, d < 2 → bitJ (hJ h of0 d) s = true → 0 ≤ (hI h on0 s).toInt ∧ (hI h on0 s).toInt % 2 = (d : Int) ∧ SqN qb s)
def THx (ρ : Nat → Nat) (c : Cm) (p0 : Nat) (h : Hp) : Prop := THx0 ρ c p0 h ∧ OwR ρ c h ∧ FrG ρ c (c0 c) h
theorem thx_of {p0 : Nat} (T : TH ρ c h) : THx ρ c p0 h := ⟨thx_of0 T.1, T.2⟩
theorem thx_to {p0 : Nat} (T : THx ρ c p0 h) (hb : ∀ on of, hR h p0 0 = some on → hR h p0 1 = some of → ∀ s, s < 64 → ∀ d, d < 2 → bitJ (hJ h of d) s = true → 0 ≤ (hI h on s).toInt ∧ (hI h on s).toInt % 2 = (d : Int) ∧ SqN (c.2.1 50) s) : TH ρ c h := ⟨thx_to0 T.1 hb, T.2⟩
theorem pxI {p0 : Nat} (T : THx ρ c p0 h) {a k i : Nat} {lo hi : Int} (e : ρ a = k) (hk : rgI k i = (lo, hi)) : Rg lo hi (hI h a i) := pxI0 T.1 e hk
theorem pxR {p0 : Nat} (T : THx ρ c p0 h) {a k i k2 : Nat} (e : ρ a = k) (hk : rfK k i = k2) (h0 : k2 ≠ 0) : ∃ r, hR h a i = some r ∧ ρ r = k2 := pxR0 T.1 e hk h0
theorem pxN {p0 : Nat} (T : THx ρ c p0 h) {a k n : Nat} (e : ρ a = k) (hk : rln k = n) (h0 : n ≠ 0) : hN h a = n := pxN0 T.1 e hk h0
theorem px_on {p0 : Nat} (T : THx ρ c p0 h) {p on : Nat} (hp : ρ p = 4) (ho : hR h p 0 = some on) : ρ on = 34 := px_on0 T.1 hp ho
theorem px_of {p0 : Nat} (T : THx ρ c p0 h) {p on : Nat} (hp : ρ p = 4) (ho : hR h p 1 = some on) : ρ on = 35 := px_of0 T.1 hp ho
theorem px_ih {p0 : Nat} (T : THx ρ c p0 h) {a k i r w : Nat} (e : ρ a = k) (hk : inh k = true) (hr : hR h a i = some r) (ew : cw c a = w) : cw c r = w := (T.2.1.1 a i r (by rw [e]; exact hk) hr).trans ew
theorem thx_wI {p0 : Nat} (T : THx ρ c p0 h) {a k i : Nat} {v : Int32} {lo hi : Int} (h4 : ρ p0 = 4) (e : ρ a = k) (hk : rgI k i = (lo, hi)) (hv : Rg lo hi v) (n1 : k ≠ 10) (n2 : k = 34 → hR h p0 0 = some a) (hw : cPm c k (cw c a) i = true) (hp : rP (c.2.1 50) (cw c a) k i v := by exact rp0 rfl) : THx ρ c p0 (wI h a i v) := ⟨thx_wI0 T.1 h4 e hk hv n1 n2 hp, T.2.1, fr_wI T.2.2 e hw⟩
theorem thx_wJ {p0 : Nat} (T : THx ρ c p0 h) {a k i : Nat} {v : Int64} (h4 : ρ p0 = 4) (e : ρ a = k) (n2 : k = 35 → hR h p0 1 = some a) (hw : cPm c k (cw c a) i = true) : THx ρ c p0 (wJ h a i v) := ⟨thx_wJ0 T.1 h4 e n2, T.2.1, fr_wJ T.2.2 e hw⟩
theorem thx_cp {p0 on0 on1 n : Nat} (T : THx ρ c p0 h) (h4 : ρ p0 = 4) (ho : hR h p0 0 = some on0) (q1 : ρ on1 = 34) (hw : ∀ i, cPm c 34 (cw c p0) i = true) : THx ρ c p0 (cpI h on1 0 on0 0 n) := ⟨thx_cp0 T.1 h4 ho q1, T.2.1, fr_cp T.2.2 (px_on T h4 ho) (fun i => by rw [px_ih T h4 rfl ho rfl]; exact hw i)⟩
theorem cpy_end {x0 x1 on0 on1 of0 of1 : Nat} (T : THx ρ c x0 h) (q1 : ρ x1 = 4) (K : Cpy (c.2.1 50) x0 x1 on0 on1 of0 of1 2 h) : TH ρ c h := by
  obtain ⟨k1, k2, k3, k4, k5, k6, k7⟩ := K
  refine thx_to T (fun on of ho hf s hs d hd hb => ?_)
  have eo : on = on0 := by rw [k1] at ho; exact (Option.some.inj ho).symm
  have ef : of = of0 := by rw [k3] at hf; exact (Option.some.inj hf).symm
  subst eo
  subst ef
  by_cases q : x0 = x1
  · exact k7 q s hs d hd hb
  · rw [k5 s hs]
    rw [k6 d hd] at hb
    obtain ⟨t1, t2, t3, t4, t5, t6, t7, t8, t9⟩ := T.1
    exact t7.2 x1 on1 of1 (fun w => q w.symm) q1 k2 k4 s hs d hd hb
theorem cpy_wI {x0 x1 on0 on1 of0 of1 n a i : Nat} {v : Int32} {h2 : Hp} (e : h2 = wI h a i v) (qa : ρ a ≠ 34) (q0 : ρ on0 = 34) (q1 : ρ on1 = 34) (K : Cpy (c.2.1 50) x0 x1 on0 on1 of0 of1 n h) : Cpy (c.2.1 50) x0 x1 on0 on1 of0 of1 n h2 := by
  obtain ⟨k1, k2, k3, k4, k5, k6, k7⟩ := K
  have i0 : ∀ s, hI h2 on0 s = hI h on0 s := fun s => by rw [e, r_I, if_neg (fun w => qa (by rw [← w.1, q0]))]
  have i1 : ∀ s, hI h2 on1 s = hI h on1 s := fun s => by rw [e, r_I, if_neg (fun w => qa (by rw [← w.1, q1]))]
  have j0 : ∀ b d, hJ h2 b d = hJ h b d := fun b d => by rw [e]; rfl
  refine ⟨hr_w e k1, hr_w e k2, hr_w e k3, hr_w e k4, fun s hs => ?_, fun d hd => ?_, fun w s hs d hd hb => ?_⟩
  · rw [i0, i1]; exact k5 s hs
  · rw [j0, j0]; exact k6 d hd
  · rw [i0]; rw [j0] at hb; exact k7 w s hs d hd hb
theorem cpy_wJ {x0 x1 on0 on1 of0 of1 n a i : Nat} {v : Int64} {h2 : Hp} (e : h2 = wJ h a i v) (qa : ρ a ≠ 35) (q0 : ρ of0 = 35) (q1 : ρ of1 = 35) (K : Cpy (c.2.1 50) x0 x1 on0 on1 of0 of1 n h) : Cpy (c.2.1 50) x0 x1 on0 on1 of0 of1 n h2 := by
  obtain ⟨k1, k2, k3, k4, k5, k6, k7⟩ := K
  have i0 : ∀ b s, hI h2 b s = hI h b s := fun b s => by rw [e]; rfl
  have j0 : ∀ d, hJ h2 of0 d = hJ h of0 d := fun d => by rw [e, r_J, if_neg (fun w => qa (by rw [← w.1, q0]))]
  have j1 : ∀ d, hJ h2 of1 d = hJ h of1 d := fun d => by rw [e, r_J, if_neg (fun w => qa (by rw [← w.1, q1]))]
  refine ⟨hr_j e k1, hr_j e k2, hr_j e k3, hr_j e k4, fun s hs => ?_, fun d hd => ?_, fun w s hs d hd hb => ?_⟩
  · rw [i0, i0]; exact k5 s hs
  · rw [j0, j1]; exact k6 d hd
  · rw [i0]; rw [j0] at hb; exact k7 w s hs d hd hb
theorem copy17 {F x0 x1 on0 on1 of0 of1 : Nat} (hO : pmO c (cw c x0) [(34, 999), (35, 999), (36, 999), (37, 999), (38, 999), (4, 5), (4, 6), (4, 8), (4, 9), (4, 10)]) (r0 : ρ x0 = 4) (r1 : ρ x1 = 4) (p0 : ρ on0 = 34) (p1 : ρ on1 = 34) (q0 : ρ of0 = 35) (q1 : ρ of1 = 35) : ∀ (f : Nat) {h : Hp} {x2 : Int32}, THx ρ c x0 h → Rg 0 2 x2 → Cpy (c.2.1 50) x0 x1 on0 on1 of0 of1 x2.toNatClampNeg h → (2 - x2.toInt).toNat < f → Sat (sX3_copyFrom_17 F f h x0 x1 x2) (ZV ρ c) := by
  intro f
  induction f with
  | zero => intros; omega
  | succ f ih =>
    intro h x2 T i2 K hm
    rw [sX3_copyFrom_17]
    refine s_br (fun c1 => ?_) (fun c1 => ?_)
    · have e2 : x2.toNatClampNeg = 2 := by
        obtain ⟨j, ej, tj, hj⟩ := rg_nI i2 (Int.le_refl 0)
        rw [Int32.le_iff_toInt_le, show (2 : Int32).toInt = 2 from rfl] at c1
        have := i2.2
        rw [ej, z_clamp hj]
        omega
      rw [e2] at K
      have T0 := cpy_end T r1 K
      refine s_h (th_wI T0 r0 (k := 4) (lo := 0) (hi := 1) rfl (thI T0 r1 (k := 4) rfl) (by decide) (by decide) (pm_o hO rfl rfl)) (fun h2 T2 => ?_)
      refine s_h (th_wI T2 r0 (k := 4) (lo := 0) (hi := 999) rfl (thI T2 r1 (k := 4) rfl) (by decide) (by decide) (pm_o hO rfl rfl)) (fun h3 T3 => ?_)
      refine s_h (th_wJ T3 r0 (by decide) (pm_o hO rfl rfl)) (fun h4 T4 => ?_)
      refine s_h (th_wJ T4 r0 (by decide) (pm_o hO rfl rfl)) (fun h5 T5 => ?_)
      exact s_h (th_wJ T5 r0 (by decide) (pm_o hO rfl rfl)) (fun h6 T6 => s_some T6)
    · have ix : Rg 0 1 x2 := by
        have := nle_lt c1
        exact rg_lt1 this i2 (rg_b rfl : Rg 2 2 (2 : Int32))
      obtain ⟨j, ej, tj, hj⟩ := rg_nI i2 (Int.le_refl 0)
      have jx : x2.toNatClampNeg = j := by rw [ej, z_clamp hj]
      have b1 := ix.2
      obtain ⟨k1, k2, k3, k4, k5, k6, k7⟩ := K
      refine s_ref k3 (s_ref k4 ?_)
      refine s_gd (by rw [pxN T q1 (k := 35) (n := 2) rfl (by decide)]; exact rg_inB ix (by decide)) ?_
      refine s_gd (by rw [pxN T q0 (k := 35) (n := 2) rfl (by decide)]; exact rg_inB ix (by decide)) ?_
      refine s_q (fun h11 e11 => ?_)
      have T11 : THx ρ c x0 h11 := by rw [e11]; exact thx_wJ T r0 q0 (fun _ => k3) (pm_o hO (px_ih T r0 rfl k3 rfl) rfl)
      have K11 : Cpy (c.2.1 50) x0 x1 on0 on1 of0 of1 (j + 1) h11 := by
        refine ⟨hr_j e11 k1, hr_j e11 k2, hr_j e11 k3, hr_j e11 k4, fun s hs => ?_, fun d hd => ?_, fun w s hs d hd hb => ?_⟩
        · rw [e11]; exact k5 s hs
        · rw [e11, r_J, r_J, jx]
          by_cases z : d = j
          · rw [if_pos ⟨rfl, z⟩]
            by_cases y : of1 = of0
            · rw [if_pos ⟨y, z⟩]
            · rw [if_neg (fun g => y g.1), z]
          · rw [if_neg (fun g => z g.2), if_neg (fun g => z g.2)]
            exact k6 d (by rw [jx]; omega)
        · have eo : of1 = of0 := by
            subst w
            rw [k3] at k4
            exact (Option.some.inj k4).symm
          rw [e11]
          rw [e11, r_J] at hb
          by_cases z : of0 = of0 ∧ d = x2.toNatClampNeg
          · rw [if_pos z, eo, ← z.2] at hb
            exact k7 w s hs d hd hb
          · rw [if_neg z] at hb
            exact k7 w s hs d hd hb
      obtain ⟨u0, e0, g0⟩ := pxR T11 r0 (i := 2) (k2 := 36) rfl (by decide)
      obtain ⟨u1, e1, g1⟩ := pxR T11 r1 (i := 2) (k2 := 36) rfl (by decide)
      refine s_ref e0 (s_ref e1 ?_)
      refine s_gd (by rw [pxN T11 g1 (k := 36) (n := 2) rfl (by decide)]; exact rg_inB ix (by decide)) ?_
      refine s_gd (by rw [pxN T11 g0 (k := 36) (n := 2) rfl (by decide)]; exact rg_inB ix (by decide)) ?_
      refine s_q (fun h16 e16 => ?_)
      have T16 : THx ρ c x0 h16 := by rw [e16]; exact thx_wI T11 r0 g0 (lo := -1) (hi := 63) rfl (pxI T11 g1 (k := 36) rfl) (by decide) (fun w => absurd w (by decide)) (pm_o hO (px_ih T11 r0 rfl e0 rfl) rfl)
      have K16 := cpy_wI e16 (by rw [g0]; decide) p0 p1 K11
      obtain ⟨v0, f0, y0⟩ := pxR T16 r0 (i := 3) (k2 := 37) rfl (by decide)
      obtain ⟨v1, f1, y1⟩ := pxR T16 r1 (i := 3) (k2 := 37) rfl (by decide)
      refine s_ref f0 (s_ref f1 ?_)
      refine s_gd (by rw [pxN T16 y1 (k := 37) (n := 2) rfl (by decide)]; exact rg_inB ix (by decide)) ?_
      refine s_gd (by rw [pxN T16 y0 (k := 37) (n := 2) rfl (by decide)]; exact rg_inB ix (by decide)) ?_
      refine s_q (fun h21 e21 => ?_)
      have T21 : THx ρ c x0 h21 := by rw [e21]; exact thx_wJ T16 r0 y0 (fun w => absurd w (by decide)) (pm_o hO (px_ih T16 r0 rfl f0 rfl) rfl)
      have K21 := cpy_wJ e21 (by rw [y0]; decide) q0 q1 K16
      obtain ⟨w0, l0, z0⟩ := pxR T21 r0 (i := 4) (k2 := 38) rfl (by decide)
      obtain ⟨w1, l1, z1⟩ := pxR T21 r1 (i := 4) (k2 := 38) rfl (by decide)
      refine s_ref l0 (s_ref l1 ?_)
      refine s_gd (by rw [pxN T21 z1 (k := 38) (n := 2) rfl (by decide)]; exact rg_inB ix (by decide)) ?_
      refine s_gd (by rw [pxN T21 z0 (k := 38) (n := 2) rfl (by decide)]; exact rg_inB ix (by decide)) ?_
      refine s_q (fun h26 e26 => ?_)
      have T26 : THx ρ c x0 h26 := by rw [e26]; exact thx_wI T21 r0 z0 (lo := 0) (hi := 9) rfl (pxI T21 z1 (k := 38) rfl) (by decide) (fun w => absurd w (by decide)) (pm_o hO (px_ih T21 r0 rfl l0 rfl) rfl)
      have K26 := cpy_wI e26 (by rw [z0]; decide) p0 p1 K21
      refine s_q (fun v27 e27 => ?_)
      have m : v27.toInt = x2.toInt + 1 := by rw [e27]; exact rg_inc ix (by decide)
      have mc : v27.toNatClampNeg = j + 1 := by
        have ev : v27 = nI (j + 1) := by
          rw [e27, ej]
          exact z_add j 1
        rw [ev, z_clamp (by omega)]
      have b0 := ix.1
      refine ih T26 ⟨by omega, by omega⟩ ?_ (by omega)
      rw [mc]
      exact K26
theorem zX3_copyFrom {F : Nat} (hF : 700000 ≤ F) {x0 x1 : Nat} (hO : pmO c (cw c x0) [(34, 999), (35, 999), (36, 999), (37, 999), (38, 999), (4, 5), (4, 6), (4, 8), (4, 9), (4, 10)]) (T : TH ρ c h) (r0 : ρ x0 = 4) (r1 : ρ x1 = 4) : Sat (sX3_copyFrom F h x0 x1) (ZV ρ c) := by
  unfold sX3_copyFrom
  obtain ⟨on1, k2, p1⟩ := thR T r1 (i := 0) (k2 := 34) rfl (by decide)
  obtain ⟨on0, k1, p0⟩ := thR T r0 (i := 0) (k2 := 34) rfl (by decide)
  obtain ⟨of1, k4, q1⟩ := thR T r1 (i := 1) (k2 := 35) rfl (by decide)
  obtain ⟨of0, k3, q0⟩ := thR T r0 (i := 1) (k2 := 35) rfl (by decide)
  refine s_ref k2 (s_ref k1 ?_)
  refine s_gd (by decide) (s_gd (by decide) (s_gd (by decide) ?_))
  have c64 : (0 : Int32).toNatClampNeg + (64 : Int32).toNatClampNeg = 64 := by decide
  refine s_gd (by rw [thN T p1 (k := 34) (n := 64) rfl (by decide), c64]; exact Nat.le_refl _) ?_
  refine s_gd (by rw [thN T p0 (k := 34) (n := 64) rfl (by decide), c64]; exact Nat.le_refl _) ?_
  refine s_gd (fun i _ => fits_b (rg_m (thI T p1 (k := 34) (lo := -2) (hi := 23) rfl) (by decide))) ?_
  refine s_q (fun h9 e9 => ?_)
  have e64 : (64 : Int32).toNatClampNeg = 64 := by decide
  have e00 : (0 : Int32).toNatClampNeg = 0 := by decide
  rw [e64, e00] at e9
  have T9 : THx ρ c x0 h9 := by rw [e9]; exact thx_cp (thx_of T) r0 k1 p1 (fun _ => hO _ _ rfl)
  have rr : ∀ a i, hR h9 a i = hR h a i := fun a i => by rw [e9]; rfl
  have jj : ∀ a i, hJ h9 a i = hJ h a i := fun a i => by rw [e9]; rfl
  have ii : ∀ s, s < 64 → hI h9 on0 s = hI h on1 s := fun s hs => by
    rw [e9, cp_at, if_pos ⟨rfl, Nat.zero_le _, by omega⟩]
    congr 1
    omega
  have z : (0 : Int32).toInt = 0 := rfl
  refine copy17 hO r0 r1 p0 p1 q0 q1 F T9 ⟨by rw [z]; omega, by rw [z]; omega⟩ ⟨by rw [rr]; exact k1, by rw [rr]; exact k2, by rw [rr]; exact k3, by rw [rr]; exact k4, fun s hs => ?_, fun d hd => ?_, fun w s hs d hd hb => ?_⟩ (by rw [z]; omega)
  · by_cases q : on1 = on0
    · rw [q]
    · rw [ii s hs, e9, cp_at, if_neg (fun g => q g.1)]
  · rw [e00] at hd
    exact absurd hd (Nat.not_lt_zero _)
  · subst w
    have eo : on0 = on1 := by rw [k1] at k2; exact Option.some.inj k2
    rw [ii s hs, ← eo]
    rw [jj] at hb
    exact th_ps T r0 k1 k3 hs hd hb
end
