section
/-! positions: men in hand, read by both -/
def PHd (V : Nat → Nat) (hc hr : Hp) : Prop := (∀ s : Nat, s < 2 → HdB (hJ hc (V 37) s)) ∧ ∀ d : Nat, d < 24 → (hI hr (V 64) d).toInt = ((hv (hJ hc (V 37) (d % 2)) (d / 2) : Nat) : Int) ∧ (hI hr (V 64) d).toInt ≤ 16
abbrev wcH : List (Nat × Nat) := [(7, 2), (37, 999)]
abbrev wrH : List (Nat × Nat) := [(16, 19), (64, 999)]
section
variable {F : Nat} {V : Nat → Nat} {N : Int32} {hc hr : Hp} {o o' : Int32 × Hp}
theorem ml_h {m : Nat} {x : Int32} : ∀ (f : Nat) {h : Hp} {j : Int32}, sX15_manLetter_2 F f h m x j = some o → o.2 = h := by
  intro f
  induction f with
  | zero => intro h j e; exact absurd e (by rw [sX15_manLetter_2]; exact fun z => nomatch z)
  | succ f ih =>
    intro h j e
    rw [sX15_manLetter_2] at e
    unfold sX15_valueOf at e
    replace e := cl_s e; obtain ⟨_, _, e⟩ := e
    replace e := br_s e
    rcases e with ⟨_, e⟩ | ⟨_, e⟩
    · rw [← Option.some.inj e]
    replace e := cl_s e; obtain ⟨_, _, e⟩ := e
    replace e := cl_s e; obtain ⟨_, _, e⟩ := e
    replace e := (gd_s e).2
    replace e := br_s e
    rcases e with ⟨_, e⟩ | ⟨_, e⟩
    · replace e := cl_s e; obtain ⟨q, eq, e⟩ := e
      rw [← Option.some.inj e, ← Option.some.inj eq]
    replace e := cl_s e; obtain ⟨_, _, e⟩ := e
    replace e := cl_s e; obtain ⟨_, _, e⟩ := e
    replace e := (gd_s e).2
    replace e := br_s e
    rcases e with ⟨_, e⟩ | ⟨_, e⟩
    · replace e := cl_s e; obtain ⟨q, eq, e⟩ := e
      rw [← Option.some.inj e, ← Option.some.inj eq]
    replace e := nm_s e; obtain ⟨_, _, e⟩ := e
    exact ih e
theorem lok_h {h : Hp} {m : Nat} (e : sX15_look h m = some o) : o.2 = h := by
  unfold sX15_look sX15_look_24 at e
  replace e := br_s e
  rcases e with ⟨_, e⟩ | ⟨_, e⟩
  · rw [← Option.some.inj e]
  replace e := cl_s e; obtain ⟨_, _, e⟩ := e
  replace e := (gd_s e).2
  rw [← Option.some.inj e]
/-- with 32 men the reference goes on only at a blank -/
theorem h31_n {k : Hp → Nat → Nat → Int32 → Option (Int32 × Hp)} {p m : Nat} (e : sX15_readHands_31 F k hr m p (32 : Int32) = some o) : o = ((0 : Int32), hr) := by
  unfold sX15_readHands_31 sX15_readHands_63 at e
  replace e := cl_s e; obtain ⟨o1, eo1, e⟩ := e
  rw [lok_h eo1] at e
  replace e := cl_s e; obtain ⟨o2, eo2, e⟩ := e
  unfold sX15_manLetter at eo2
  rw [ml_h F eo2] at e
  replace e := br_s e
  rcases e with ⟨_, e⟩ | ⟨_, e⟩
  · exact (Option.some.inj e).symm
  replace e := br_s e
  rcases e with ⟨_, e⟩ | ⟨n, _⟩
  · exact (Option.some.inj e).symm
  · exact absurd rfl n
end
end
section
/-! positions: the loop over men in hand -/
section
variable {F : Nat} {V : Nat → Nat} {N : Int32} {hc hr : Hp} {o o' : Int32 × Hp}
theorem hd_13 (D : VD V) : ∀ (f g : Nat) {hc hr : Hp} {x2 : Int32}, RdV V N hc hr → VPc V hc → VPr V hr → PHd V hc hr → 0 ≤ x2.toInt → x2.toInt ≤ 32 → sX7_readHands_13 F f hc (V 7) (V 4) x2 = some o → sX15_readHands_18 F g hr (V 16) (V 13) x2 = some o' → (o.1 = 0 ∧ o'.1 = 0 ∧ AtV V N o.2 o'.2) ∨ (o.1 = 1 ∧ FrV V (wl wcH) hc o.2 ∧ ∃ g, FrV V (wl wrH) hr g ∧ RdV V N o.2 g ∧ PHd V o.2 g ∧ sX15_reads g (V 16) (32 : Int32) = some o') := by
  have z1 : (1 : Int32).toInt = 1 := rfl
  have z0 : (0 : Int32).toInt = 0 := rfl
  have z16 : (16 : Int32).toInt = 16 := rfl
  have z32 : (32 : Int32).toInt = 32 := rfl
  have zm : (-1 : Int32).toInt = -1 := by decide
  intro f
  induction f with
  | zero => intro g hc hr x2 _ _ _ _ _ _ e; exact absurd e (by rw [sX7_readHands_13]; exact fun z => nomatch z)
  | succ f ih =>
    intro g hc hr x2 S Pc Pr Ph a2 b2 e e'
    cases g with
    | zero => exact absurd e' (by rw [sX15_readHands_18]; exact fun z => nomatch z)
    | succ g =>
      rw [sX7_readHands_13] at e
      rw [sX15_readHands_18] at e'
      unfold sX7_readHands_107 at e
      -- one man more
      have nxt : x2.toInt < 32 → sX7_readHands_39 F (sX7_readHands_13 F f) hc (V 7) (V 4) x2 = some o → sX15_readHands_31 F (sX15_readHands_18 F g) hr (V 16) (V 13) x2 = some o' → (o.1 = 0 ∧ o'.1 = 0 ∧ AtV V N o.2 o'.2) ∨ (o.1 = 1 ∧ FrV V (wl wcH) hc o.2 ∧ ∃ g, FrV V (wl wrH) hr g ∧ RdV V N o.2 g ∧ PHd V o.2 g ∧ sX15_reads g (V 16) (32 : Int32) = some o') := fun l32 e e' => by
        unfold sX7_readHands_39 sX7_readHands_78 at e
        unfold sX15_readHands_31 sX15_readHands_63 at e'
        replace e := cl_s e; obtain ⟨r1, p, e⟩ := e
        rw [r_eq S.1.1 p] at e
        replace e := cl_s e; obtain ⟨r2, p, e⟩ := e
        rw [r_eq S.1.2.1 p] at e
        replace e := cl_s e; obtain ⟨o3, eo3, e⟩ := e
        replace e' := cl_s e'; obtain ⟨o1, eo1, e'⟩ := e'
        obtain ⟨w3, w1, H⟩ := by_p S eo3 eo1
        rw [w3] at e
        rw [w1] at e'
        replace e := cl_s e; obtain ⟨o4, eo4, e⟩ := e
        replace e' := cl_s e'; obtain ⟨o2, eo2, e'⟩ := e'
        obtain ⟨w4, w2, alt⟩ := man_p S H eo4 eo2
        rw [w4] at e
        rw [w2] at e'
        replace e := br_s e
        replace e' := br_s e'
        rcases alt with ⟨c1, c2⟩ | ⟨rv, cv, lt⟩
        · rcases e with ⟨_, e⟩ | ⟨n, _⟩
          rotate_left
          · exact absurd c1 n
          rcases e' with ⟨_, e'⟩ | ⟨n, _⟩
          rotate_left
          · exact absurd c2 n
          rw [← Option.some.inj e, ← Option.some.inj e']
          exact Or.inl ⟨rfl, rfl, S.2.2.2.1⟩
        have v1 := rv.1
        have v24 := rv.2
        obtain ⟨tv, mr, sr⟩ := man_v (v := o2.1) rv
        rcases e with ⟨n, _⟩ | ⟨_, e⟩
        · rw [cv, ← Int32.toInt_inj, tv, zm] at n; omega
        rcases e' with ⟨n, _⟩ | ⟨_, e'⟩
        · rw [n, z0] at v1; omega
        replace e' := br_s e'
        rcases e' with ⟨n, _⟩ | ⟨_, e'⟩
        · rw [n, z32] at l32; omega
        rw [cv] at e
        replace e := cl_s e; obtain ⟨o6, eo6, e⟩ := e
        obtain ⟨w6, v6⟩ := inh_v Pc.2.2.2.1 mr eo6
        rw [w6] at e
        replace e' := cl_s e'; obtain ⟨r5, p, e'⟩ := e'
        rw [r_eq Pr.2.2.1 p] at e'
        replace e' := (gd_s e').2
        -- his place among the hands
        have m0 := mr.1
        have s0 := sr.1
        have nm' := nc_i m0
        have ns := nc_i s0
        have nv := nc_i (x := o2.1 - (1 : Int32)) (by omega)
        have dig : (o2.1 - (1 : Int32)).toInt = 2 * ((o2.1 - (1 : Int32)) >>> ((1 : Int32) &&& 31)).toInt + ((o2.1 - (1 : Int32)) &&& (1 : Int32)).toInt := by
          have q1 : ∀ j : Fin 24, (nI j.val).toInt = 2 * ((nI j.val) >>> ((1 : Int32) &&& 31)).toInt + ((nI j.val) &&& (1 : Int32)).toInt := by decide +kernel
          have q2 := q1 ⟨(o2.1 - (1 : Int32)).toNatClampNeg, by omega⟩
          have ei : nI (o2.1 - (1 : Int32)).toNatClampNeg = o2.1 - (1 : Int32) := Int32.toInt_inj.mp (by rw [z_toInt (by omega)]; omega)
          dsimp only at q2
          rw [ei] at q2
          exact q2
        have s1 := sr.2
        have d24 : (o2.1 - (1 : Int32)).toNatClampNeg < 24 := by omega
        have dm : (o2.1 - (1 : Int32)).toNatClampNeg % 2 = ((o2.1 - (1 : Int32)) &&& (1 : Int32)).toNatClampNeg := by omega
        have dd : (o2.1 - (1 : Int32)).toNatClampNeg / 2 = ((o2.1 - (1 : Int32)) >>> ((1 : Int32) &&& 31)).toNatClampNeg := by omega
        obtain ⟨h1, h2⟩ := Ph.2 _ d24
        rw [dm, dd] at h1
        replace e := br_s e
        replace e' := br_s e'
        rcases e with ⟨q, e⟩ | ⟨q, e⟩
        rotate_left
        · have q := nlt_i q
          rw [z16] at q
          rcases e' with ⟨_, e'⟩ | ⟨n, _⟩
          rotate_left
          · exact absurd (Int32.toInt_inj.mp (by rw [z16]; omega)) n
          rw [← Option.some.inj e, ← Option.some.inj e']
          exact Or.inl ⟨rfl, rfl, S.2.2.2.1⟩
        have q := lt_i q
        rw [z16] at q
        rcases e' with ⟨n, _⟩ | ⟨_, e'⟩
        · rw [n, z16] at h1; omega
        replace e := cl_s e; obtain ⟨o8, eo8, e⟩ := e
        obtain ⟨xx, w8, bb, dv⟩ := adh_v Pc.2.2.2.1 mr (Ph.1 _ (by omega)) (by omega) eo8
        replace e := nm_s e; obtain ⟨h9, w9, e⟩ := e
        replace e := nm_s e; obtain ⟨v10, w10, e⟩ := e
        replace e' := cl_s e'; obtain ⟨r8, p, e'⟩ := e'
        rw [r_eq Pr.2.2.1 p] at e'
        replace e' := (gd_s e').2
        replace e' := (gd_s e').2
        replace e' := nm_s e'; obtain ⟨k11, u11, e'⟩ := e'
        replace e' := nm_s e'; obtain ⟨v12, u12, e'⟩ := e'
        replace e' := nm_s e'; obtain ⟨k13, u13, e'⟩ := e'
        rw [u12, ← w10] at e'
        have A : FrV V (wl wcH) hc h9 := fv_t (g2 := o8) (by rw [w8]; exact fv_j (wl_i (j := 999) (by decide) (Or.inr rfl))) (by rw [w9]; exact fv_w rfl)
        have B : FrV V (wl wrH) hr k13 := fv_t (g2 := k11) (by rw [u11]; exact fv_w (wl_i (j := 999) (by decide) (Or.inr rfl))) (by rw [u13]; exact fv_w rfl)
        have a1 : hI o8 (V 7) 2 = hI hc (V 7) 2 := by rw [w8]; rfl
        have b1 : hI k11 (V 16) 19 = hI hr (V 16) 19 := by rw [u11, rI_a (vne D)]
        obtain ⟨p1, p2, p3⟩ := S.2.2.2.1
        have n12 := S.2.2.1.2.2.1.2
        have at' : AtV V N h9 k13 := by
          refine ⟨?_, ?_, ?_⟩
          · rw [w9, rI_s, u13, rI_s, a1, b1, p1]
          · rw [w9, rI_s, a1, ta (by rw [z1]; omega), z1]; omega
          · rw [w9, rI_s, a1, ta (by rw [z1]; omega), z1]; omega
        have S' := rdv_w D S (sub_l A (by decide)) (sub_l B (by decide)) at'
        have tx : v10.toInt = x2.toInt + 1 := by rw [w10, ta (by rw [z1]; omega), z1]
        have J9 : ∀ i, hJ h9 (V 37) i = if i = ((o2.1 - (1 : Int32)) &&& (1 : Int32)).toNatClampNeg then xx else hJ hc (V 37) i := fun i => by
          rw [w9]
          show hJ o8 (V 37) i = _
          rw [w8, r_J]
          by_cases z : i = ((o2.1 - (1 : Int32)) &&& (1 : Int32)).toNatClampNeg
          · rw [if_pos ⟨rfl, z⟩, if_pos z]
          · rw [if_neg (fun y => z y.2), if_neg z]
        have I13 : ∀ i, hI k13 (V 64) i = hI k11 (V 64) i := fun i => by rw [u13, rI_a (vne D)]
        have t17 : ((hI hr (V 64) (o2.1 - (1 : Int32)).toNatClampNeg) + (1 : Int32)).toInt = (hI hr (V 64) (o2.1 - (1 : Int32)).toNatClampNeg).toInt + 1 := by rw [ta (by rw [z1]; omega), z1]
        have P' : PHd V h9 k13 := by
          refine ⟨fun s hs => ?_, fun d hd => ?_⟩
          · rw [J9]
            split
            · exact bb
            · exact Ph.1 s hs
          · obtain ⟨g1, g2⟩ := Ph.2 d hd
            rw [I13, u11, J9]
            by_cases z : d = (o2.1 - (1 : Int32)).toNatClampNeg
            · rw [z, rI_s, dm, dd, if_pos rfl, dv, if_pos rfl, t17]
              exact ⟨by omega, by omega⟩
            · rw [rI_o z]
              refine ⟨?_, g2⟩
              by_cases y : d % 2 = ((o2.1 - (1 : Int32)) &&& (1 : Int32)).toNatClampNeg
              · rw [if_pos y, dv, if_neg (by omega), g1, y]
                rfl
              · rw [if_neg y]; exact g1
        rcases ih g S' (vpc_f Pc A) (vpr_f Pr B) P' (by omega) (by omega) e e' with r | ⟨r1, r2, q', r3, r4⟩
        · exact Or.inl r
        · exact Or.inr ⟨r1, fv_t A r2, q', fv_t B r3, r4⟩
      replace e := br_s e
      rcases e with ⟨l, e⟩ | ⟨l, e⟩
      · -- 32 men
        have l := le_i l
        rw [z32] at l
        have x32 : x2 = (32 : Int32) := Int32.toInt_inj.mp (by rw [z32]; omega)
        refine Or.inr ⟨by rw [← Option.some.inj e], by rw [← Option.some.inj e]; exact fv_0, hr, fv_0, by rw [← Option.some.inj e]; exact S, by rw [← Option.some.inj e]; exact Ph, ?_⟩
        replace e' := br_s e'
        rcases e' with ⟨n, _⟩ | ⟨_, e'⟩
        · rw [n, z0] at l; omega
        replace e' := cl_s e'; obtain ⟨o2, eo2, e'⟩ := e'
        have w2 := lok_h eo2
        rw [w2] at e'
        replace e' := br_s e'
        rcases e' with ⟨b, e'⟩ | ⟨b, e'⟩
        · replace e' := cl_s e'; obtain ⟨o3, eo3, e'⟩ := e'
          have y' := Option.some.inj (gd_s e').2
          rw [eo3, ← y']
        · rw [x32] at e'
          rw [h31_n e']
          unfold sX15_reads
          rw [eo2]
          show br (o2.1 = (32 : Int32)) _ (some ((0 : Int32), o2.2)) = _
          unfold br
          rw [if_neg b, w2]
      have l := nle_i l
      rw [z32] at l
      replace e := br_s e
      replace e' := br_s e'
      rcases e with ⟨q, e⟩ | ⟨q, e⟩
      · rcases e' with ⟨_, e'⟩ | ⟨n, _⟩
        rotate_left
        · exact absurd q n
        exact nxt l e e'
      rcases e' with ⟨n, _⟩ | ⟨_, e'⟩
      · exact absurd n q
      replace e := cl_s e; obtain ⟨r3, p, e⟩ := e
      rw [r_eq S.1.2.1 p] at e
      replace e := cl_s e; obtain ⟨o4, eo4, e⟩ := e
      replace e' := cl_s e'; obtain ⟨o2, eo2, e'⟩ := e'
      obtain ⟨w4, w2, H⟩ := by_p S eo4 eo2
      rw [w4] at e
      rw [w2] at e'
      have K := by_k (k := (32 : Int32)) H ⟨by decide, by decide⟩
      replace e := br_s e
      replace e' := br_s e'
      rcases e with ⟨b, e⟩ | ⟨b, e⟩
      · rcases e' with ⟨_, e'⟩ | ⟨n, _⟩
        rotate_left
        · exact absurd (K.mp b) n
        replace e' := cl_s e'; obtain ⟨o3, eo3, e'⟩ := e'
        have y' := Option.some.inj (gd_s e').2
        rw [← Option.some.inj e]
        exact Or.inr ⟨rfl, fv_0, hr, fv_0, S, Ph, by rw [eo3, ← y']⟩
      rcases e' with ⟨n, _⟩ | ⟨_, e'⟩
      · exact absurd (K.mpr n) b
      exact nxt l e e'
end
end
section
/-! short rows for equations; words of PASS -/
theorem bp_e {β : Type} {c : Prop} [Decidable c] {a b : Option β} {o : β} (q : c) (e : br c a b = some o) : a = some o := by
  rcases br_s e with ⟨_, z⟩ | ⟨n, _⟩
  · exact z
  · exact absurd q n
theorem bn_e {β : Type} {c : Prop} [Decidable c] {a b : Option β} {o : β} (q : ¬ c) (e : br c a b = some o) : b = some o := by
  rcases br_s e with ⟨n, _⟩ | ⟨_, z⟩
  · exact absurd n q
  · exact z
theorem br_2 {β γ : Type} {c c' : Prop} [Decidable c] [Decidable c'] {a b : Option β} {a' b' : Option γ} {o : β} {o' : γ} (q : c ↔ c') (e : br c a b = some o) (e' : br c' a' b' = some o') : (c ∧ a = some o ∧ a' = some o') ∨ (¬ c ∧ b = some o ∧ b' = some o') := by
  rcases br_s e with ⟨n, z⟩ | ⟨n, z⟩
  · exact Or.inl ⟨n, z, bp_e (q.mp n) e'⟩
  · exact Or.inr ⟨n, z, bn_e (fun y => n (q.mpr y)) e'⟩
theorem ce_e {α β : Type} {x : Option α} {k : α → Option β} {o : β} {y : α} (q : x = some y) (e : cl x k = some o) : k y = some o := by
  rw [q] at e
  exact e
theorem gg_e {β : Type} {c : Prop} [Decidable c] {k : Option β} {o : β} (e : gd c k = some o) : k = some o := (gd_s e).2
theorem nx_e {α β : Type} {x : α} {k : α → Option β} {o : β} (e : nm x k = some o) : k x = some o := e
theorem so_e {α : Type} {x o : α} (e : some x = some o) : o = x := (Option.some.inj e).symm
theorem cmp_ne {a b : Int64} (h : ¬ a = b) : ¬ lg_cmp a b = 0 := fun z => h (cmp_eq z)
theorem cmp_rf (a : Int64) : lg_cmp a a = 0 := by
  unfold lg_cmp
  simp
/-- digits of 6 bits -/
def pkS (q : Nat → Nat) : Nat → Nat
  | 0 => 0
  | n + 1 => pkS q n + q n * 64 ^ n
theorem pks_lt {q : Nat → Nat} : ∀ n, (∀ i, i < n → q i < 64) → pkS q n < 64 ^ n
  | 0, _ => by
    show 0 < 64 ^ 0
    decide
  | n + 1, hq => by
    have a := pks_lt n (fun i hi => hq i (by omega))
    have b := hq n (by omega)
    have c : q n * 64 ^ n ≤ 63 * 64 ^ n := Nat.mul_le_mul_right _ (by omega)
    show pkS q n + q n * 64 ^ n < 64 ^ (n + 1)
    rw [Nat.pow_succ]
    omega
theorem pks_dig {q : Nat → Nat} : ∀ n, (∀ i, i < n → q i < 64) → ∀ i, i < n → pkS q n / 64 ^ i % 64 = q i
  | 0, _, i, hi => absurd hi (by omega)
  | n + 1, hq, i, hi => by
    have hq' : ∀ i, i < n → q i < 64 := fun i hi => hq i (by omega)
    have a := pks_lt n hq'
    have b := hq n (by omega)
    show (pkS q n + q n * 64 ^ n) / 64 ^ i % 64 = q i
    by_cases c : i = n
    · rw [c, Nat.add_mul_div_right _ _ (Nat.pow_pos (by decide)), Nat.div_eq_of_lt a]
      omega
    · have l : i < n := by omega
      obtain ⟨d, hd⟩ : ∃ d, n = i + d + 1 := ⟨n - i - 1, by omega⟩
      have p : q n * 64 ^ n = 64 ^ i * (64 * (q n * 64 ^ d)) := by
        have : 64 ^ n = 64 ^ i * (64 * 64 ^ d) := by
          rw [hd, show i + d + 1 = i + (1 + d) by omega, Nat.pow_add, Nat.pow_add, Nat.pow_one]
        rw [this, Nat.mul_left_comm, Nat.mul_left_comm (q n) 64]
      rw [p, Nat.add_mul_div_left _ _ (Nat.pow_pos (by decide)), Nat.add_mul_mod_self_left]
      exact pks_dig n hq' i l
theorem pks_c {q r : Nat → Nat} : ∀ n, (∀ i, i < n → q i = r i) → pkS q n = pkS r n
  | 0, _ => rfl
  | n + 1, h => by
    show pkS q n + q n * 64 ^ n = pkS r n + r n * 64 ^ n
    rw [pks_c n (fun i hi => h i (by omega)), h n (by omega)]
/-- a word of PASS: n squares -/
def Pw (x : Int64) (n : Nat) (q : Nat → Nat) : Prop := n ≤ 7 ∧ (∀ i, i < n → q i < 64) ∧ x.toBitVec.toNat = n + 8 * pkS q n
theorem pw_inj {x y : Int64} {n m : Nat} {q r : Nat → Nat} (A : Pw x n q) (B : Pw y m r) : x = y ↔ (n = m ∧ ∀ i, i < n → q i = r i) := by
  obtain ⟨a1, a2, a3⟩ := A
  obtain ⟨b1, b2, b3⟩ := B
  constructor
  · intro z
    rw [z] at a3
    have e : n = m := by omega
    refine ⟨e, fun i hi => ?_⟩
    rw [← pks_dig n a2 i hi, ← pks_dig m b2 i (by omega), show pkS q n = pkS r m by omega]
  · rintro ⟨z1, z2⟩
    have : x.toBitVec = y.toBitVec := BitVec.eq_of_toNat_eq (by rw [a3, b3, z1, pks_c m (fun i hi => z2 i (by omega))])
    exact Int64.toBitVec_inj.mp this
theorem lo3 (y : Int64) : (y.toInt32 &&& (7 : Int32)).toInt = ((y.toBitVec.toNat % 8 : Nat) : Int) := by
  have h : (y.toInt32 &&& (7 : Int32)).toBitVec.toNat = y.toBitVec.toNat % 8 := by
    rw [Int32.toBitVec_and, BitVec.toNat_and]
    show (y.toBitVec.signExtend 32).toNat &&& (2 ^ 3 - 1) = _
    rw [Nat.and_two_pow_sub_one_eq_mod, BitVec.signExtend_eq_setWidth_of_le _ (by decide), BitVec.toNat_setWidth]
    omega
  show (y.toInt32 &&& (7 : Int32)).toBitVec.toInt = _
  rw [BitVec.toInt_eq_toNat_of_lt (by rw [h]; omega), h]
theorem lo6 (y : Int64) : (y.toInt32 &&& (63 : Int32)).toInt = ((y.toBitVec.toNat % 64 : Nat) : Int) := by
  have h : (y.toInt32 &&& (63 : Int32)).toBitVec.toNat = y.toBitVec.toNat % 64 := by
    rw [Int32.toBitVec_and, BitVec.toNat_and]
    show (y.toBitVec.signExtend 32).toNat &&& (2 ^ 6 - 1) = _
    rw [Nat.and_two_pow_sub_one_eq_mod, BitVec.signExtend_eq_setWidth_of_le _ (by decide), BitVec.toNat_setWidth]
    omega
  show (y.toInt32 &&& (63 : Int32)).toBitVec.toInt = _
  rw [BitVec.toInt_eq_toNat_of_lt (by rw [h]; omega), h]
theorem pw_8 : (8 : Int64).toBitVec.toNat = 8 := by decide
theorem pw_n8 {x : Int64} {n : Nat} {q : Nat → Nat} (A : Pw x n q) : ¬ x = (8 : Int64) := fun z => by
  obtain ⟨a1, _, a3⟩ := A
  rw [z, pw_8] at a3
  have : n = 0 := by omega
  rw [this] at a3
  exact absurd a3 (show ¬ (8 : Nat) = 0 + 8 * 0 by decide)
theorem pw_sh : ∀ j : Fin 7, ∀ s : Fin 64, ((nI s.val).toInt64 <<< (((3 : Int32) + ((6 : Int32) * (nI j.val))).toInt64 &&& 63)).toBitVec.toNat = s.val * 2 ^ (3 + 6 * j.val) := by decide +kernel
section
variable {h o' : Hp} {p : Nat} {x1 : Int32} {o : Int32 × Hp} {n : Nat} {q : Nat → Nat}
theorem ps_q (e : sX3_passSize h p = some o) (A : Pw (hJ h p 9) n q) : o.2 = h ∧ o.1.toInt = (n : Int) := by
  obtain ⟨a1, _, a3⟩ := A
  rw [so_e e]
  refine ⟨rfl, ?_⟩
  show (_ &&& (7 : Int32)).toInt = _
  rw [lo3, a3]
  omega
theorem psq_q {i : Int32} (e : sX3_passSquare h p i = some o) (A : Pw (hJ h p 9) n q) (i0 : 0 ≤ i.toInt) (i1 : i.toInt < n) : o.2 = h ∧ o.1.toInt = (q i.toNatClampNeg : Int) := by
  have z3 : (3 : Int32).toInt = 3 := rfl
  have z6 : (6 : Int32).toInt = 6 := rfl
  obtain ⟨a1, a2, a3⟩ := A
  have ni := nc_i i0
  have t6 : ((6 : Int32) * i).toInt = 6 * i.toInt := by rw [tm (by rw [z6]; omega), z6]
  have t3 : ((3 : Int32) + ((6 : Int32) * i)).toInt = 3 + 6 * i.toInt := by rw [ta (by rw [z3, t6]; omega), z3, t6]
  have c3 := nc_i (x := (3 : Int32) + ((6 : Int32) * i)) (by omega)
  have cc : ((3 : Int32) + ((6 : Int32) * i)).toNatClampNeg = 3 + 6 * i.toNatClampNeg := by omega
  rw [so_e e]
  refine ⟨rfl, ?_⟩
  show (_ &&& (63 : Int32)).toInt = _
  rw [lo6, ush_v ⟨by omega, by omega⟩, cc, a3, Nat.pow_add, ← Nat.div_div_eq_div_mul]
  have : (n + 8 * pkS q n) / 2 ^ 3 = pkS q n := by omega
  rw [this, Nat.pow_mul, show (2 : Nat) ^ 6 = 64 by decide, pks_dig n a2 _ (by omega)]
/-- one square more -/
theorem ap_q (i1 : Rg 0 63 x1) (A : Pw (hJ h p 9) n q) (ln : n ≤ 6) (e : sX3_addPass h p x1 = some o') : ∃ x y, o' = wJ (wJ h p 9 x) p 10 y ∧ Pw x (n + 1) (fun i => if i = n then x1.toNatClampNeg else q i) ∧ ∀ t, bitJ y t = (bitJ (hJ h p 10) t || (decide (0 < n) && decide (x1.toNatClampNeg = t))) := by
  have z7 : (7 : Int32).toInt = 7 := rfl
  have z0 : (0 : Int32).toInt = 0 := rfl
  have i10 := i1.1
  have i11 := i1.2
  have c1 := nc_i i10
  unfold sX3_addPass sX3_addPass_22 sX3_addPass_66 at e
  replace e := cl_s e; obtain ⟨o1, eo1, e⟩ := e
  obtain ⟨w1, v1⟩ := ps_q eo1 A
  rw [w1] at e
  replace e := bn_e (cmp_ne (pw_n8 A)) e
  replace e := bp_e (ii_lt.mpr (by rw [z7]; omega)) e
  have A' := A
  obtain ⟨a1, a2, a3⟩ := A
  have eo : o1.1 = nI n := Int32.toInt_inj.mp (by rw [v1, z_toInt (by omega)])
  have ex : nI x1.toNatClampNeg = x1 := Int32.toInt_inj.mp (by rw [z_toInt (by omega)]; omega)
  have sh := pw_sh ⟨n, by omega⟩ ⟨x1.toNatClampNeg, by omega⟩
  dsimp only at sh
  rw [ex, ← eo] at sh
  have pl := pks_lt n a2
  have p64 : 2 ^ (3 + 6 * n) = 8 * 64 ^ n := by
    rw [Nat.pow_add, Nat.pow_mul]
  have up : 64 ^ n ≤ 64 ^ 6 := Nat.pow_le_pow_right (by decide) ln
  have u6 : (64 : Nat) ^ 6 = 68719476736 := by decide
  have lt : (hJ h p 9).toBitVec.toNat < 2 ^ (3 + 6 * n) := by rw [a3, p64]; omega
  have ml : x1.toNatClampNeg * 64 ^ n ≤ 63 * 64 ^ n := Nat.mul_le_mul_right _ (by omega)
  have mm : x1.toNatClampNeg * 2 ^ (3 + 6 * n) = 8 * (x1.toNatClampNeg * 64 ^ n) := by rw [p64, Nat.mul_left_comm]
  have nat : (((hJ h p 9) ||| (x1.toInt64 <<< (((3 : Int32) + ((6 : Int32) * o1.1)).toInt64 &&& 63))) + (1 : Int64)).toBitVec.toNat = (n + 1) + 8 * (pkS q n + x1.toNatClampNeg * 64 ^ n) := by
    have orr : ((hJ h p 9) ||| (x1.toInt64 <<< (((3 : Int32) + ((6 : Int32) * o1.1)).toInt64 &&& 63))).toBitVec.toNat = n + 8 * (pkS q n + x1.toNatClampNeg * 64 ^ n) := by
      rw [Int64.toBitVec_or, BitVec.toNat_or, sh, Nat.or_comm, Nat.mul_comm x1.toNatClampNeg, ← Nat.two_pow_add_eq_or_of_lt lt, Nat.mul_comm, mm, a3]
      omega
    rw [Int64.toBitVec_add, BitVec.toNat_add, orr]
    show (_ + 1) % 2 ^ 64 = _
    rw [Nat.mod_eq_of_lt (by
      have : (2 : Nat) ^ 64 = 18446744073709551616 := by decide
      omega)]
    omega
  have W : Pw (((hJ h p 9) ||| (x1.toInt64 <<< (((3 : Int32) + ((6 : Int32) * o1.1)).toInt64 &&& 63))) + (1 : Int64)) (n + 1) (fun i => if i = n then x1.toNatClampNeg else q i) := by
    refine ⟨by omega, fun i hi => ?_, ?_⟩
    · show (if i = n then _ else _) < 64
      by_cases c : i = n
      · rw [if_pos c]; omega
      · rw [if_neg c]; exact a2 i (by omega)
    · rw [nat]
      show _ = n + 1 + 8 * (pkS _ n + (if n = n then x1.toNatClampNeg else q n) * 64 ^ n)
      rw [if_pos rfl, pks_c (r := q) n (fun i hi => if_neg (by omega))]
  replace e := nm_s e; obtain ⟨h4, w4, e⟩ := e
  have j10 : hJ h4 p 10 = hJ h p 10 := by rw [w4, r_J, if_neg (fun z => absurd z.2 (by decide))]
  replace e := br_s e
  rcases e with ⟨l, e⟩ | ⟨l, e⟩
  · have l := le_i l
    rw [z0] at l
    refine ⟨_, _, by rw [so_e (nx_e e), w4], W, fun t => ?_⟩
    rw [bj_or, r_J, if_neg (fun z => absurd z.2 (by decide)), bj_zero]
    have : decide (0 < n) = false := decide_eq_false (by omega)
    rw [this]
    simp
  · have l := nle_i l
    rw [z0] at l
    refine ⟨_, _, by rw [so_e (nx_e e), w4], W, fun t => ?_⟩
    rw [bj_or, r_J, if_neg (fun z => absurd z.2 (by decide)), bj_one i1]
    have : decide (0 < n) = true := decide_eq_true (by omega)
    rw [this]
    simp
/-- too many -/
theorem ap_8 (A : Pw (hJ h p 9) 7 q ∨ hJ h p 9 = 8) (e : sX3_addPass h p x1 = some o') : o' = wJ h p 9 8 := by
  have z7 : (7 : Int32).toInt = 7 := rfl
  unfold sX3_addPass sX3_addPass_22 at e
  replace e := cl_s e; obtain ⟨o1, eo1, e⟩ := e
  have w1 : o1.2 = h := by rw [so_e eo1]
  rw [w1] at e
  rcases A with A | A
  · have v1 := (ps_q eo1 A).2
    replace e := bn_e (cmp_ne (pw_n8 A)) e
    replace e := bn_e (fun z => by
      have := lt_i z
      rw [z7] at this
      omega) e
    exact so_e (nx_e e)
  · replace e := bp_e (by rw [A]; exact cmp_rf 8) e
    exact so_e (nx_e e)
end
end
section
/-! positions: PASS, read by both -/
def rowN (h : Hp) (a i : Nat) : Nat := (hI h a i).toNatClampNeg
def OvN (y : Int64) (n : Nat) (q : Nat → Nat) : Prop := ∀ t, bitJ y t = true ↔ ∃ i, 1 ≤ i ∧ i < n ∧ q i = t
def PPn (V : Nat → Nat) (n : Nat) (hc hr : Hp) : Prop := (∀ i, i < n → i < 64 → Rg 0 63 (hI hr (V 63) i)) ∧ ((Pw (hJ hc (V 4) 9) n (rowN hr (V 63)) ∧ OvN (hJ hc (V 4) 10) n (rowN hr (V 63))) ∨ (8 ≤ n ∧ hJ hc (V 4) 9 = 8))
def PPs (V : Nat → Nat) (hc hr : Hp) : Prop := (hI hr (V 13) 3 = 0 ∧ hJ hc (V 4) 9 = 0 ∧ hJ hc (V 4) 10 = 0) ∨ (Rg 2 64 (hI hr (V 13) 3) ∧ PPn V (hI hr (V 13) 3).toNatClampNeg hc hr)
abbrev wcP : List (Nat × Nat) := [(7, 2), (4, 9), (4, 10)]
abbrev wrP : List (Nat × Nat) := [(16, 19), (16, 20), (13, 3), (63, 999)]
theorem byt_g {h : Hp} {a : Nat} {i : Int32} {o : Int32 × Hp} (e : sX9_byteAt h a i = some o) : o.2 = h := by
  unfold sX9_byteAt sX9_byteAt_21 sX9_byteAt_22 at e
  rcases br_s e with ⟨_, e⟩ | ⟨_, e⟩
  · rw [so_e e]
  rcases br_s e with ⟨_, e⟩ | ⟨_, e⟩
  · rw [so_e e]
  replace e := cl_s e; obtain ⟨r, _, e⟩ := e
  rw [so_e (gg_e e)]
section
variable {F : Nat} {V : Nat → Nat} {N : Int32} {hc hr oc or : Hp} {o o' : Int32 × Hp}
/-- a square's name has two letters -/
theorem sq_a (S : RdV V N hc hr) (e : sX7_readSquare hc (V 7) = some o) (n : ¬ o.1 = (-1 : Int32)) : (hI o.2 (V 7) 2).toInt = (hI hc (V 7) 2).toInt + 2 := by
  have z1 : (1 : Int32).toInt = 1 := rfl
  obtain ⟨p1, p2, p3⟩ := S.2.2.2.1
  have n12 := S.2.2.1.2.2.1.2
  unfold sX7_readSquare sX7_readSquare_30 sX7_readSquare_72 at e
  replace e := ce_e S.1.2.1 e
  replace e := cl_s e; obtain ⟨o2, eo2, e⟩ := e
  rw [byt_g eo2] at e
  replace e := nx_e e
  rcases br_s e with ⟨_, e⟩ | ⟨_, e⟩
  · exact absurd (by rw [so_e e]) n
  replace e := ce_e S.1.1 e
  rcases br_s e with ⟨_, e⟩ | ⟨_, e⟩
  rotate_left
  · exact absurd (by rw [so_e e]) n
  replace e := nm_s e; obtain ⟨h7, w7, e⟩ := e
  have R7 : ∀ a i, hR h7 a i = hR hc a i := fun a i => by rw [w7]; rfl
  have t7 : (hI h7 (V 7) 2).toInt = (hI hc (V 7) 2).toInt + 1 := by rw [w7, rI_s, ta (by rw [z1]; omega), z1]
  replace e := ce_e ((R7 _ _).trans S.1.2.1) e
  replace e := cl_s e; obtain ⟨o9, eo9, e⟩ := e
  rw [byt_g eo9] at e
  replace e := nx_e e
  rcases br_s e with ⟨_, e⟩ | ⟨_, e⟩
  · exact absurd (by rw [so_e e]) n
  replace e := ce_e ((R7 _ _).trans S.1.1) e
  rcases br_s e with ⟨_, e⟩ | ⟨_, e⟩
  rotate_left
  · exact absurd (by rw [so_e e]) n
  replace e := nm_s e; obtain ⟨h14, w14, e⟩ := e
  replace e := cl_s e; obtain ⟨r, _, e⟩ := e
  rw [so_e e]
  show (hI h14 (V 7) 2).toInt = _
  rw [w14, rI_s, ta (by rw [z1]; omega), z1, t7]
  omega
theorem ppn_64 {n : Nat} (P : PPn V n hc hr) (l : 64 ≤ n) : PPn V 64 hc hr := by
  refine ⟨fun i hi h => P.1 i (by omega) h, Or.inr ⟨by omega, ?_⟩⟩
  rcases P.2 with ⟨a, _⟩ | ⟨_, a⟩
  · have := a.1; omega
  · exact a
theorem ps_13 (D : VD V) : ∀ (f g : Nat) {hc hr : Hp} {x2 : Int32}, RdV V N hc hr → VPr V hr → PPn V x2.toNatClampNeg hc hr → 0 ≤ x2.toInt → 2 * x2.toInt ≤ (hI hc (V 7) 2).toInt → sX7_readPass_13 F f hc (V 7) (V 4) x2 = some o → sX15_readPass_18 F g hr (V 16) (V 13) x2 = some o' → (o.1 = 0 ∧ o'.1 = 0 ∧ AtV V N o.2 o'.2) ∨ (o.1 = 1 ∧ FrV V (wl wcP) hc o.2 ∧ ∃ g, FrV V (wl wrP) hr g ∧ RdV V N o.2 g ∧ PPs V o.2 g ∧ sX15_reads g (V 16) (32 : Int32) = some o') := by
  have z1 : (1 : Int32).toInt = 1 := rfl
  have z2 : (2 : Int32).toInt = 2 := rfl
  have z64 : (64 : Int32).toInt = 64 := rfl
  have zm : (-1 : Int32).toInt = -1 := by decide
  have z12 : (1200 : Int32).toInt = 1200 := rfl
  intro f
  induction f with
  | zero => intro g hc hr x2 _ _ _ _ _ e; exact absurd e (by rw [sX7_readPass_13]; exact fun z => nomatch z)
  | succ f ih =>
    intro g hc hr x2 S Pr Pn a2 b2 e e'
    cases g with
    | zero => exact absurd e' (by rw [sX15_readPass_18]; exact fun z => nomatch z)
    | succ g =>
      rw [sX7_readPass_13] at e
      rw [sX15_readPass_18] at e'
      obtain ⟨p1, p2, p3⟩ := S.2.2.2.1
      have n12 := S.2.2.1.2.2.1.2
      have c2 := nc_i a2
      -- one square more
      have nxt : sX7_readPass_41 F (sX7_readPass_13 F f) hc (V 7) (V 4) x2 = some o → sX15_readPass_32 F (sX15_readPass_18 F g) hr (V 16) (V 13) x2 = some o' → (o.1 = 0 ∧ o'.1 = 0 ∧ AtV V N o.2 o'.2) ∨ (o.1 = 1 ∧ FrV V (wl wcP) hc o.2 ∧ ∃ g, FrV V (wl wrP) hr g ∧ RdV V N o.2 g ∧ PPs V o.2 g ∧ sX15_reads g (V 16) (32 : Int32) = some o') := fun e e' => by
        unfold sX7_readPass_41 at e
        unfold sX15_readPass_32 sX15_readPass_58 at e'
        replace e := cl_s e; obtain ⟨o2, eo2, e⟩ := e
        replace e' := cl_s e'; obtain ⟨o1, eo1, e'⟩ := e'
        obtain ⟨A, B, alt⟩ := sq_p D S eo2 eo1
        rcases alt with ⟨c1, d1, at'⟩ | ⟨ro, k20, alt⟩
        · rw [so_e (bp_e c1 e), so_e (bp_e d1 e')]
          exact Or.inl ⟨rfl, rfl, at'⟩
        have ro0 := ro.1
        have ro1 := ro.2
        have nn : ¬ o2.1 = (-1 : Int32) := fun z => by rw [z, zm] at ro0; omega
        have tt := sq_a S eo2 nn
        rcases alt with ⟨_, d1, at'⟩ | ⟨l, _⟩
        rotate_left
        · rw [zm] at l; omega
        replace e := bn_e nn e
        replace e' := bn_e (fun z => by rw [d1] at z; exact absurd z (by decide)) e'
        replace e := cl_s e; obtain ⟨h3, eh3, e⟩ := e
        replace e := nm_s e; obtain ⟨v4, w4, e⟩ := e
        have tx : v4.toInt = x2.toInt + 1 := by rw [w4, ta (by rw [z1]; omega), z1]
        have cx : v4.toNatClampNeg = x2.toNatClampNeg + 1 := by
          have := nc_i (x := v4) (by omega)
          omega
        have co := nc_i ro0
        -- the class's words
        have j9 : hJ o2.2 (V 4) 9 = hJ hc (V 4) 9 := A.2.1 _ _
        have j10 : hJ o2.2 (V 4) 10 = hJ hc (V 4) 10 := A.2.1 _ _
        have A3 : FrV V (wl wcP) hc h3 ∧ hI h3 (V 7) 2 = hI o2.2 (V 7) 2 := by
          have A2 : FrV V (wl wcP) hc o2.2 := cfr_v A rfl
          by_cases c : x2.toNatClampNeg ≤ 6
          · rcases Pn.2 with ⟨pw, _⟩ | ⟨y, _⟩
            · obtain ⟨x, y, w, _⟩ := ap_q ro (by rw [j9]; exact pw) c eh3
              rw [w]
              exact ⟨fv_t A2 (fv_t (fv_j rfl) (fv_j rfl)), rfl⟩
            · omega
          · have w := ap_8 (q := rowN hr (V 63)) (by
              rw [j9]
              rcases Pn.2 with ⟨pw, _⟩ | ⟨_, y⟩
              · have : x2.toNatClampNeg = 7 := by have := pw.1; omega
                rw [this] at pw
                exact Or.inl pw
              · exact Or.inr y) eh3
            rw [w]
            exact ⟨fv_t A2 (fv_j rfl), rfl⟩
        have go : ∀ {k : Hp}, FrV V (wl wrP) hr k → hI k (V 16) 19 = hI o1.2 (V 16) 19 → PPn V v4.toNatClampNeg h3 k → sX15_readPass_18 F g k (V 16) (V 13) v4 = some o' → (o.1 = 0 ∧ o'.1 = 0 ∧ AtV V N o.2 o'.2) ∨ (o.1 = 1 ∧ FrV V (wl wcP) hc o.2 ∧ ∃ g, FrV V (wl wrP) hr g ∧ RdV V N o.2 g ∧ PPs V o.2 g ∧ sX15_reads g (V 16) (32 : Int32) = some o') := fun {k} B3 k19 P3 u => by
          have at3 : AtV V N h3 k := ⟨by rw [A3.2, k19]; exact at'.1, by rw [A3.2]; exact at'.2.1, by rw [A3.2]; exact at'.2.2⟩
          have S3 : RdV V N h3 k := rdv_w D S (sub_l A3.1 (by decide)) (sub_l B3 (by decide)) at3
          rcases ih g S3 (vpr_f Pr B3) P3 (by omega) (by rw [A3.2, tt]; omega) e u with r | ⟨r1, r2, q, r3, r4⟩
          · exact Or.inl r
          · exact Or.inr ⟨r1, fv_t A3.1 r2, q, fv_t B3 r3, r4⟩
        have B2 : FrV V (wl wrP) hr o1.2 := rfr_v B rfl rfl
        have row1 : ∀ i, hI o1.2 (V 63) i = hI hr (V 63) i := fun i => B.2.2 _ _ (fun z => (vne D : ¬ V 63 = V 16) z.1)
        rcases br_s e' with ⟨l, e'⟩ | ⟨l, e'⟩
        · -- beyond 64
          have l := le_i l
          rw [z64] at l
          refine go B2 rfl ?_ (by rw [w4]; exact e')
          have p8 : hJ hc (V 4) 9 = 8 := by
            rcases Pn.2 with ⟨pw, _⟩ | ⟨_, y⟩
            · have := pw.1; omega
            · exact y
          refine ⟨fun i hi h => by rw [row1]; exact Pn.1 i (by omega) h, Or.inr ⟨by omega, ?_⟩⟩
          rw [ap_8 (q := rowN hr (V 63)) (by rw [j9]; exact Or.inr p8) eh3, r_J, if_pos ⟨rfl, rfl⟩]
        · have l := nle_i l
          rw [z64] at l
          replace e' := ce_e (by rw [B2.1]; exact Pr.2.1) e'
          replace e' := gg_e e'
          replace e' := nm_s e'; obtain ⟨k6, u6, e'⟩ := e'
          rw [k20] at u6
          have row6 : ∀ i, hI k6 (V 63) i = if i = x2.toNatClampNeg then o2.1 else hI hr (V 63) i := fun i => by
            rw [u6, r_I]
            by_cases c : i = x2.toNatClampNeg
            · rw [if_pos ⟨rfl, c⟩, if_pos c]
            · rw [if_neg (fun z => c z.2), if_neg c, row1]
          refine go (k := k6) (fv_t B2 (by rw [u6]; exact fv_w (wl_i (j := 999) (by decide) (Or.inr rfl)))) (by rw [u6, rI_a (vne D)]) ?_ (by rw [w4]; exact e')
          have rowq : ∀ i, i < x2.toNatClampNeg + 1 → rowN k6 (V 63) i = if i = x2.toNatClampNeg then o2.1.toNatClampNeg else rowN hr (V 63) i := fun i hi => by
            unfold rowN
            rw [row6]
            by_cases c : i = x2.toNatClampNeg
            · rw [if_pos c, if_pos c]
            · rw [if_neg c, if_neg c]
          refine ⟨fun i hi h => ?_, ?_⟩
          · rw [row6]
            by_cases c : i = x2.toNatClampNeg
            · rw [if_pos c]; exact ro
            · rw [if_neg c]; exact Pn.1 i (by omega) h
          by_cases c : x2.toNatClampNeg ≤ 6
          · rcases Pn.2 with ⟨pw, ov⟩ | ⟨y, _⟩
            rotate_left
            · omega
            left
            obtain ⟨x, y, w, W, bits⟩ := ap_q ro (by rw [j9]; exact pw) c eh3
            have e9 : hJ h3 (V 4) 9 = x := by rw [w, r_J, if_neg (fun z => absurd z.2 (by decide)), r_J, if_pos ⟨rfl, rfl⟩]
            have e10 : hJ h3 (V 4) 10 = y := by rw [w, r_J, if_pos ⟨rfl, rfl⟩]
            rw [e9, e10, cx]
            refine ⟨⟨W.1, fun i hi => ?_, ?_⟩, fun t => ?_⟩
            · rw [rowq i hi]; exact W.2.1 i hi
            · rw [pks_c (r := fun i => if i = x2.toNatClampNeg then o2.1.toNatClampNeg else rowN hr (V 63) i) _ rowq]
              exact W.2.2
            · rw [bits, j10, Bool.or_eq_true, ov t, Bool.and_eq_true, decide_eq_true_eq, decide_eq_true_eq]
              constructor
              · rintro (⟨i, i1, i2, i3⟩ | ⟨i1, i2⟩)
                · exact ⟨i, i1, by omega, by rw [rowq i (by omega), if_neg (by omega)]; exact i3⟩
                · exact ⟨x2.toNatClampNeg, by omega, by omega, by rw [rowq _ (by omega), if_pos rfl]; exact i2⟩
              · rintro ⟨i, i1, i2, i3⟩
                rw [rowq i i2] at i3
                by_cases d : i = x2.toNatClampNeg
                · rw [if_pos d] at i3
                  exact Or.inr ⟨by omega, i3⟩
                · rw [if_neg d] at i3
                  exact Or.inl ⟨i, i1, by omega, i3⟩
          · refine Or.inr ⟨by omega, ?_⟩
            rw [ap_8 (q := rowN hr (V 63)) (by
              rw [j9]
              rcases Pn.2 with ⟨pw, _⟩ | ⟨_, y⟩
              · have : x2.toNatClampNeg = 7 := by have := pw.1; omega
                rw [this] at pw
                exact Or.inl pw
              · exact Or.inr y) eh3, r_J, if_pos ⟨rfl, rfl⟩]
      replace e := bn_e (fun z => by
        have := le_i z
        rw [z12] at this
        omega) e
      rcases br_2 Iff.rfl e e' with ⟨_, e, e'⟩ | ⟨l, e, e'⟩
      · exact nxt e e'
      have l := nlt_i l
      rw [z2] at l
      replace e := ce_e S.1.2.1 e
      replace e := cl_s e; obtain ⟨o4, eo4, e⟩ := e
      replace e' := cl_s e'; obtain ⟨o2, eo2, e'⟩ := e'
      obtain ⟨w4, w2, H⟩ := by_p S eo4 eo2
      rw [w4] at e
      rw [w2] at e'
      rcases br_2 (by_k (k := (32 : Int32)) H ⟨by decide, by decide⟩) e e' with ⟨_, e, e'⟩ | ⟨_, e, e'⟩
      rotate_left
      · exact nxt e e'
      unfold sX7_readPass_64 at e
      unfold sX15_readPass_77 at e'
      -- the end
      have fin : ∀ {v : Int32}, Rg 2 64 v → PPn V v.toNatClampNeg hc hr → (nm (wI hr (V 13) 3 v) fun h_1 => cl (sX15_reads h_1 (V 16) (32 : Int32)) fun o_2 => gd (o_2.1 &&& 1 = o_2.1) <| some (o_2.1, o_2.2)) = some o' → (o.1 = 0 ∧ o'.1 = 0 ∧ AtV V N o.2 o'.2) ∨ (o.1 = 1 ∧ FrV V (wl wcP) hc o.2 ∧ ∃ g, FrV V (wl wrP) hr g ∧ RdV V N o.2 g ∧ PPs V o.2 g ∧ sX15_reads g (V 16) (32 : Int32) = some o') := fun {v} rv P u => by
        replace u := nm_s u; obtain ⟨k1, y1, u⟩ := u
        replace u := cl_s u; obtain ⟨o3, eo3, u⟩ := u
        have yo := so_e (gg_e u)
        have B1 : FrV V (wl wrP) hr k1 := by rw [y1]; exact fv_w rfl
        have at1 : AtV V N hc k1 := by
          refine ⟨?_, p2, p3⟩
          rw [y1, rI_a (vne D)]; exact p1
        rw [so_e e]
        refine Or.inr ⟨rfl, fv_0, k1, B1, rdv_w D S fv_0 (sub_l B1 (by decide)) at1, Or.inr ?_, by rw [eo3, yo]⟩
        have e3 : hI k1 (V 13) 3 = v := by rw [y1, rI_s]
        have row1 : ∀ i, hI k1 (V 63) i = hI hr (V 63) i := fun i => by rw [y1, rI_a (vne D)]
        have rn : rowN k1 (V 63) = rowN hr (V 63) := funext fun i => by unfold rowN; rw [row1]
        rw [e3]
        refine ⟨rv, fun i hi h => by rw [row1]; exact P.1 i hi h, ?_⟩
        rw [rn]
        exact P.2
      rcases br_s e' with ⟨g64, e'⟩ | ⟨g64, e'⟩
      · have g64 := le_i g64
        rw [z64] at g64
        exact fin (v := (64 : Int32)) ⟨by decide, by decide⟩ (ppn_64 Pn (by omega)) e'
      · have g64 := nle_i g64
        rw [z64] at g64
        exact fin ⟨l, by omega⟩ Pn e'
/-- PASS; then the reference wants a blank -/
theorem ps_p (D : VD V) (S : RdV V N hc hr) (Pr : VPr V hr) (j9 : hJ hc (V 4) 9 = 0) (j10 : hJ hc (V 4) 10 = 0) (k3 : hI hr (V 13) 3 = 0) (e : sX7_readPass F hc (V 7) (V 4) = some o) (e' : sX15_readPass F hr (V 16) (V 13) = some o') : (o.1 = 0 ∧ o'.1 = 0 ∧ AtV V N o.2 o'.2) ∨ (o.1 = 1 ∧ FrV V (wl wcP) hc o.2 ∧ ∃ g, FrV V (wl wrP) hr g ∧ RdV V N o.2 g ∧ PPs V o.2 g ∧ sX15_reads g (V 16) (32 : Int32) = some o') := by
  unfold sX7_readPass at e
  unfold sX15_readPass at e'
  replace e := cl_s e; obtain ⟨o1, eo1, e⟩ := e
  replace e' := cl_s e'; obtain ⟨k1, ek1, e'⟩ := e'
  rcases tk_p D S ⟨by decide, by decide⟩ eo1 ek1 with ⟨y, y'⟩ | ⟨y, y', S1⟩
  · rw [y] at e
    rw [y'] at e'
    replace e := bp_e rfl e
    replace e' := bp_e rfl e'
    refine ps_13 D F F (x2 := (0 : Int32)) S Pr ⟨fun i hi => absurd (show i < 0 from hi) (Nat.not_lt_zero i), Or.inl ⟨⟨by decide, fun i hi => absurd (show i < 0 from hi) (Nat.not_lt_zero i), ?_⟩, fun t => ?_⟩⟩ (by decide) ?_ e e'
    · rw [j9]
      show (Int64.toBitVec 0).toNat = 0 + 8 * 0
      decide
    · rw [j10, bj_zero]
      refine ⟨fun z => absurd z (by decide), ?_⟩
      rintro ⟨i, _, i2, _⟩
      exact absurd (show i < 0 from i2) (Nat.not_lt_zero i)
    · have := S.2.2.2.1.2.1
      have z0 : (0 : Int32).toInt = 0 := rfl
      rw [z0]
      omega
  · have v1 : o1.1 = 1 := by rw [y]
    have v1' : k1.1 = 1 := by rw [y']
    replace e := bn_e (fun z => by rw [v1] at z; exact absurd z (by decide)) e
    replace e' := bn_e (fun z => by rw [v1'] at z; exact absurd z (by decide)) e'
    replace e' := cl_s e'; obtain ⟨o3, eo3, e'⟩ := e'
    have yy := so_e (gg_e e')
    have A1 : FrV V (wl wcP) hc o1.2 := by rw [y]; exact fv_w rfl
    have B1 : FrV V (wl wrP) hr k1.2 := by rw [y']; exact fv_w rfl
    rw [so_e e]
    refine Or.inr ⟨rfl, A1, k1.2, B1, S1, Or.inl ⟨?_, ?_, ?_⟩, by rw [eo3, yy]⟩
    · show hI k1.2 (V 13) 3 = 0
      rw [y']
      show hI (wI hr (V 16) 19 _) (V 13) 3 = 0
      rw [rI_a (vne D)]; exact k3
    · show hJ o1.2 (V 4) 9 = 0
      rw [y]; exact j9
    · show hJ o1.2 (V 4) 10 = 0
      rw [y]; exact j10
end
end
section
/-! men of a position: the class's rows against a board of values (0, or 1 + 2 man + side) -/
def updM (M : Nat → Int) (s : Nat) (v : Int) : Nat → Int := fun t => if t = s then v else M t
def RoA (x : Int32) (M : Nat → Int) (ro : Int) (d : Nat) : Prop := (x = (-1 : Int32) ∧ ∀ s, s < 64 → 0 ≤ ro → ¬ M s = 1 + 2 * ro + d) ∨ (Rg 0 63 x ∧ 0 ≤ ro ∧ M x.toNatClampNeg = 1 + 2 * ro + d)
def Bts (x : Int64) (M : Nat → Int) (d : Nat) : Prop := ∀ s, s < 64 → (bitJ x s = true ↔ (0 < M s ∧ (M s - 1) % 2 = (d : Int)))
def PosC (h : Hp) (on of ra : Nat) (M : Nat → Int) (ro : Int) : Prop := (∀ s, s < 64 → (hI h on s).toInt = M s - 1) ∧ (∀ d, d < 2 → Bts (hJ h of d) M d) ∧ (∀ d, d < 2 → RoA (hI h ra d) M ro d) ∧ ∀ s, s < 64 → 0 ≤ M s ∧ M s ≤ 24
def UnM (M : Nat → Int) (ro : Int) : Prop := 0 ≤ ro → ∀ d s t : Nat, d < 2 → s < 64 → t < 64 → M s = 1 + 2 * ro + d → M t = 1 + 2 * ro + d → s = t
theorem upm_s {M : Nat → Int} {s : Nat} {v : Int} : updM M s v s = v := if_pos rfl
theorem upm_o {M : Nat → Int} {s t : Nat} {v : Int} (n : ¬ t = s) : updM M s v t = M t := if_neg n
theorem roa_c {x : Int32} {M M' : Nat → Int} {ro : Int} {d : Nat} (R : RoA x M ro d) (c : ∀ s, s < 64 → M' s = M s) : RoA x M' ro d := by
  rcases R with ⟨a, b⟩ | ⟨a, b, e⟩
  · exact Or.inl ⟨a, fun s hs z y => b s hs z (by rw [← c s hs]; exact y)⟩
  · refine Or.inr ⟨a, b, ?_⟩
    rw [c _ (by have := a.1; have := a.2; have := nc_i a.1; omega)]
    exact e
section
variable {h g o : Hp} {p on of ra : Nat} {x1 x2 x3 : Int32} {M : Nat → Int}
/-- a man comes (or none) -/
theorem put_cb (e0 : hR g p 0 = some on) (e1 : hR g p 1 = some of) (e2 : hR g p 2 = some ra) (n1 : ¬ on = ra) (n2 : ¬ of = p) (i1 : Rg 0 63 x1) (i2 : Rg (-1) 23 x2) (g1 : ∀ s, s < 64 → ¬ s = x1.toNatClampNeg → (hI g on s).toInt = M s - 1) (g2 : ∀ d, d < 2 → Bts (hJ g of d) (updM M x1.toNatClampNeg 0) d) (g3 : ∀ d, d < 2 → RoA (hI g ra d) (updM M x1.toNatClampNeg 0) x3.toInt d) (g4 : ∀ s, s < 64 → 0 ≤ M s ∧ M s ≤ 24) (e : sX3_put_70 g p x1 x2 x3 ((1 : Int64) <<< (x1.toInt64 &&& 63)) = some o) : PosC o on of ra (updM M x1.toNatClampNeg (x2.toInt + 1)) x3.toInt ∧ (∀ a i, hR o a i = hR g a i) ∧ (∀ a i, ¬ a = on → ¬ a = ra → hI o a i = hI g a i) ∧ (∀ a i, ¬ a = of → ¬ (a = p ∧ i = 7) → hJ o a i = hJ g a i) ∧ ∀ s, bitJ (hJ o p 7) s = (bitJ (hJ g p 7) s || decide (x1.toNatClampNeg = s)) := by
  have z0 : (0 : Int32).toInt = 0 := rfl
  have i20 := i2.1
  have i21 := i2.2
  have i10 := i1.1
  have i11 := i1.2
  have c1 := nc_i i10
  have up : ∀ s, s < 64 → 0 ≤ updM M x1.toNatClampNeg (x2.toInt + 1) s ∧ updM M x1.toNatClampNeg (x2.toInt + 1) s ≤ 24 := fun s hs => by
    by_cases c : s = x1.toNatClampNeg
    · rw [c, upm_s]; exact ⟨by omega, by omega⟩
    · rw [upm_o c]; exact g4 s hs
  unfold sX3_put_70 sX3_put_111 at e
  replace e := ce_e e0 e
  replace e := gg_e e
  rw [nar8 ⟨by omega, by omega⟩] at e
  replace e := nm_s e; obtain ⟨h3, w3, e⟩ := e
  have on3 : ∀ s, s < 64 → (hI h3 on s).toInt = updM M x1.toNatClampNeg (x2.toInt + 1) s - 1 := fun s hs => by
    by_cases c : s = x1.toNatClampNeg
    · rw [c, upm_s, w3, rI_s]; omega
    · rw [upm_o c, w3, rI_o c]; exact g1 s hs c
  have I3 : ∀ a i, ¬ a = on → hI h3 a i = hI g a i := fun a i n => by rw [w3, rI_a n]
  have R3 : ∀ a i, hR h3 a i = hR g a i := fun a i => by rw [w3]; rfl
  have J3 : ∀ a i, hJ h3 a i = hJ g a i := fun a i => by rw [w3]; rfl
  have rn : ¬ ra = on := fun z => n1 z.symm
  rcases br_s e with ⟨l, e⟩ | ⟨l, e⟩
  · have l := lt_i l
    rw [z0] at l
    have x2m : x2.toInt + 1 = 0 := by omega
    rw [x2m] at on3 up ⊢
    rw [so_e (nx_e e)]
    refine ⟨⟨on3, fun d hd s hs => ?_, fun d hd => ?_, up⟩, R3, fun a i n _ => I3 a i n, fun a i n m => ?_, fun s => ?_⟩
    · rw [r_J, if_neg (fun z => n2 z.1), J3]; exact g2 d hd s hs
    · show RoA (hI h3 ra d) _ _ _
      rw [I3 _ _ rn]; exact g3 d hd
    · rw [r_J, if_neg (fun z => m ⟨z.1, z.2⟩), J3]
    · rw [r_J, if_pos ⟨rfl, rfl⟩, bj_or, bj_one i1, J3]
  · have l := nlt_i l
    rw [z0] at l
    have i2' : Rg 0 23 x2 := ⟨l, i21⟩
    have a1 := and1_i (x := x2) l
    have na := nc_i (x := x2 &&& (1 : Int32)) (by rw [a1]; omega)
    have s1 : (x2 >>> ((1 : Int32) &&& 31)).toInt = x2.toInt / 2 := shr_i 1 (by decide)
    replace e := ce_e ((R3 _ _).trans e1) e
    replace e := gg_e e
    replace e := gg_e e
    replace e := nm_s e; obtain ⟨h8, w8, e⟩ := e
    have I8 : ∀ a i, hI h8 a i = hI h3 a i := fun a i => by rw [w8]; rfl
    have R8 : ∀ a i, hR h8 a i = hR g a i := fun a i => by rw [w8]; exact R3 a i
    have J8 : ∀ a i, ¬ a = of → hJ h8 a i = hJ g a i := fun a i n => by rw [w8, r_J, if_neg (fun z => n z.1), J3]
    have bt : ∀ d, d < 2 → Bts (hJ h8 of d) (updM M x1.toNatClampNeg (x2.toInt + 1)) d := fun d hd s hs => by
      have old := g2 d hd s hs
      by_cases q : d = (x2 &&& (1 : Int32)).toNatClampNeg
      · rw [w8, r_J, if_pos ⟨rfl, q⟩, bj_or, bj_one i1, Bool.or_eq_true, decide_eq_true_eq, ← q, J3]
        by_cases c : s = x1.toNatClampNeg
        · rw [c, upm_s]
          exact ⟨fun _ => ⟨by omega, by omega⟩, fun _ => Or.inr rfl⟩
        · rw [upm_o c]
          rw [upm_o c] at old
          exact ⟨fun z => z.elim old.mp (fun y => absurd y.symm c), fun z => Or.inl (old.mpr z)⟩
      · rw [w8, r_J, if_neg (fun z => q z.2), J3]
        by_cases c : s = x1.toNatClampNeg
        · rw [c, upm_s]
          rw [c, upm_s] at old
          exact ⟨fun z => absurd (old.mp z).1 (by omega), fun z => absurd z.2 (by omega)⟩
        · rw [upm_o c]
          rw [upm_o c] at old
          exact old
    -- the ROYAL man's square, where it stays
    have ry : ∀ d, d < 2 → ¬ (d = (x2 &&& (1 : Int32)).toNatClampNeg ∧ x2 >>> ((1 : Int32) &&& 31) = x3) → RoA (hI g ra d) (updM M x1.toNatClampNeg (x2.toInt + 1)) x3.toInt d := fun d hd n => by
      rcases g3 d hd with ⟨a, b⟩ | ⟨a, b, k⟩
      · refine Or.inl ⟨a, fun s hs z y => ?_⟩
        by_cases c : s = x1.toNatClampNeg
        · rw [c, upm_s] at y
          exact n ⟨by omega, Int32.toInt_inj.mp (by rw [s1]; omega)⟩
        · rw [upm_o c] at y
          exact b s hs z (by rw [upm_o c]; exact y)
      · refine Or.inr ⟨a, b, ?_⟩
        by_cases c : (hI g ra d).toNatClampNeg = x1.toNatClampNeg
        · rw [c, upm_s] at k
          omega
        · rw [upm_o c]
          rw [upm_o c] at k
          exact k
    replace e := br_s e
    rcases e with ⟨q, e⟩ | ⟨q, e⟩
    · replace e := ce_e ((R8 _ _).trans e2) e
      replace e := gg_e e
      replace e := nm_s e; obtain ⟨h12, w12, e⟩ := e
      have j12 : ∀ a i, hJ h12 a i = hJ h8 a i := fun a i => by rw [w12]; rfl
      have qi : x3.toInt = x2.toInt / 2 := by rw [← q, s1]
      rw [so_e (nx_e e)]
      refine ⟨⟨fun s hs => ?_, fun d hd s hs => ?_, fun d hd => ?_, up⟩, fun a i => ?_, fun a i n m => ?_, fun a i n m => ?_, fun s => ?_⟩
      · show (hI h12 on s).toInt = _
        rw [w12, rI_a n1, I8]; exact on3 s hs
      · rw [r_J, if_neg (fun z => n2 z.1), j12]; exact bt d hd s hs
      · show RoA (hI h12 ra d) _ _ _
        by_cases c : d = (x2 &&& (1 : Int32)).toNatClampNeg
        · rw [w12, c, rI_s]
          refine Or.inr ⟨i1, by omega, ?_⟩
          rw [upm_s]
          omega
        · rw [w12, rI_o c, I8, I3 _ _ rn]
          exact ry d hd (fun z => c z.1)
      · show hR h12 a i = _
        rw [w12]; exact R8 a i
      · show hI h12 a i = _
        rw [w12, rI_a m, I8, I3 _ _ n]
      · rw [r_J, if_neg (fun z => m ⟨z.1, z.2⟩), j12, J8 _ _ n]
      · rw [r_J, if_pos ⟨rfl, rfl⟩, bj_or, bj_one i1, j12, J8 _ _ (fun z => n2 z.symm)]
    · rw [so_e (nx_e e)]
      refine ⟨⟨fun s hs => ?_, fun d hd s hs => ?_, fun d hd => ?_, up⟩, R8, fun a i n m => ?_, fun a i n m => ?_, fun s => ?_⟩
      · show (hI h8 on s).toInt = _
        rw [I8]; exact on3 s hs
      · rw [r_J, if_neg (fun z => n2 z.1)]; exact bt d hd s hs
      · show RoA (hI h8 ra d) _ _ _
        rw [I8, I3 _ _ rn]
        exact ry d hd (fun z => q z.2)
      · show hI h8 a i = _
        rw [I8, I3 _ _ n]
      · rw [r_J, if_neg (fun z => m ⟨z.1, z.2⟩), J8 _ _ n]
      · rw [r_J, if_pos ⟨rfl, rfl⟩, bj_or, bj_one i1, J8 _ _ (fun z => n2 z.symm)]
/-- put -/
theorem put_c (e0 : hR h p 0 = some on) (e1 : hR h p 1 = some of) (e2 : hR h p 2 = some ra) (n1 : ¬ on = ra) (n2 : ¬ of = p) (i1 : Rg 0 63 x1) (i2 : Rg (-1) 23 x2) (P : PosC h on of ra M x3.toInt) (U : M x1.toNatClampNeg = 0 ∨ UnM M x3.toInt) (e : sX3_put h p x1 x2 x3 = some o) : PosC o on of ra (updM M x1.toNatClampNeg (x2.toInt + 1)) x3.toInt ∧ (∀ a i, hR o a i = hR h a i) ∧ (∀ a i, ¬ a = on → ¬ a = ra → hI o a i = hI h a i) ∧ (∀ a i, ¬ a = of → ¬ (a = p ∧ i = 7) → hJ o a i = hJ h a i) ∧ ∀ s, bitJ (hJ o p 7) s = (bitJ (hJ h p 7) s || decide (x1.toNatClampNeg = s)) := by
  have z0 : (0 : Int32).toInt = 0 := rfl
  have z64 : (64 : Int32).toInt = 64 := rfl
  have i10 := i1.1
  have i11 := i1.2
  have c1 := nc_i i10
  have s64 : x1.toNatClampNeg < 64 := by omega
  obtain ⟨p1, p2, p3, p4⟩ := P
  have old := p1 _ s64
  obtain ⟨m0, m24⟩ := p4 _ s64
  unfold sX3_put at e
  replace e := bn_e (fun z => by have := lt_i z; rw [z0] at this; omega) e
  replace e := bp_e (ii_lt.mpr (by rw [z64]; omega)) e
  replace e := nx_e e
  replace e := ce_e e0 e
  replace e := gg_e e
  replace e := nx_e e
  replace e := br_s e
  rcases e with ⟨l, e⟩ | ⟨l, e⟩
  · have l := lt_i l
    rw [z0] at l
    have mz : M x1.toNatClampNeg = 0 := by omega
    have cc : ∀ s, updM M x1.toNatClampNeg 0 s = M s := fun s => by
      by_cases c : s = x1.toNatClampNeg
      · rw [c, upm_s, mz]
      · exact upm_o c
    exact put_cb e0 e1 e2 n1 n2 i1 i2 (fun s hs _ => p1 s hs) (fun d hd s hs => by rw [cc]; exact p2 d hd s hs) (fun d hd => roa_c (p3 d hd) (fun s _ => cc s)) p4 e
  · have l := nlt_i l
    rw [z0] at l
    have U' : UnM M x3.toInt := by
      rcases U with u | u
      · omega
      · exact u
    have a1 := and1_i l
    have na := nc_i (x := (hI h on x1.toNatClampNeg) &&& (1 : Int32)) (by rw [a1]; omega)
    have d2 : ((hI h on x1.toNatClampNeg) &&& (1 : Int32)).toNatClampNeg < 2 := by omega
    replace e := ce_e e1 e
    replace e := gg_e e
    replace e := gg_e e
    replace e := nm_s e; obtain ⟨h11, w11, e⟩ := e
    have R11 : ∀ a i, hR h11 a i = hR h a i := fun a i => by rw [w11]; rfl
    have I11 : ∀ a i, hI h11 a i = hI h a i := fun a i => by rw [w11]; rfl
    have J11 : ∀ a i, ¬ a = of → hJ h11 a i = hJ h a i := fun a i n => by rw [w11, r_J, if_neg (fun z => n z.1)]
    have bt : ∀ d, d < 2 → Bts (hJ h11 of d) (updM M x1.toNatClampNeg 0) d := fun d hd s hs => by
      have ol := p2 d hd s hs
      by_cases q : d = ((hI h on x1.toNatClampNeg) &&& (1 : Int32)).toNatClampNeg
      · rw [w11, r_J, if_pos ⟨rfl, q⟩, bj_and, bj_not _ hs, bj_one i1, Bool.and_eq_true, ← q]
        by_cases c : s = x1.toNatClampNeg
        · rw [c, upm_s]
          exact ⟨fun z => absurd z.2 (by simp), fun z => absurd z.1 (by decide)⟩
        · rw [upm_o c]
          have : (!decide (x1.toNatClampNeg = s)) = true := by simp; exact fun z => c z.symm
          exact ⟨fun z => ol.mp z.1, fun z => ⟨ol.mpr z, this⟩⟩
      · rw [w11, r_J, if_neg (fun z => q z.2)]
        by_cases c : s = x1.toNatClampNeg
        · rw [c, upm_s]
          rw [c] at ol
          exact ⟨fun z => absurd (ol.mp z).2 (by omega), fun z => absurd z.1 (by decide)⟩
        · rw [upm_o c]; exact ol
    have ry : ∀ d, d < 2 → ¬ (d = ((hI h on x1.toNatClampNeg) &&& (1 : Int32)).toNatClampNeg ∧ hI h ra d = x1) → RoA (hI h ra d) (updM M x1.toNatClampNeg 0) x3.toInt d := fun d hd n => by
      rcases p3 d hd with ⟨a, b⟩ | ⟨a, b, k⟩
      · refine Or.inl ⟨a, fun s hs z y => ?_⟩
        by_cases c : s = x1.toNatClampNeg
        · rw [c, upm_s] at y
          omega
        · rw [upm_o c] at y
          exact b s hs z y
      · refine Or.inr ⟨a, b, ?_⟩
        by_cases c : (hI h ra d).toNatClampNeg = x1.toNatClampNeg
        · have a0 := nc_i a.1
          rw [c] at k
          exact absurd ⟨by omega, Int32.toInt_inj.mp (by omega)⟩ n
        · rw [upm_o c]; exact k
    replace e := ce_e ((R11 _ _).trans e2) e
    replace e := gg_e e
    rw [I11] at e
    replace e := br_s e
    rcases e with ⟨q, e⟩ | ⟨q, e⟩
    · replace e := ce_e ((R11 _ _).trans e2) e
      replace e := gg_e e
      replace e := nm_s e; obtain ⟨h17, w17, e⟩ := e
      have R17 : ∀ a i, hR h17 a i = hR h a i := fun a i => by rw [w17]; exact R11 a i
      have J17 : ∀ a i, hJ h17 a i = hJ h11 a i := fun a i => by rw [w17]; rfl
      obtain ⟨r1, r2, r3, r4, r5⟩ := put_cb (M := M) ((R17 _ _).trans e0) ((R17 _ _).trans e1) ((R17 _ _).trans e2) n1 n2 i1 i2 (fun s hs _ => by rw [w17, rI_a n1, I11]; exact p1 s hs) (fun d hd s hs => by rw [J17]; exact bt d hd s hs) (fun d hd => by
        by_cases c : d = ((hI h on x1.toNatClampNeg) &&& (1 : Int32)).toNatClampNeg
        · rw [w17, c, rI_s]
          refine Or.inl ⟨rfl, fun s hs z y => ?_⟩
          by_cases c' : s = x1.toNatClampNeg
          · rw [c', upm_s] at y
            omega
          · rw [upm_o c'] at y
            rcases p3 _ d2 with ⟨a, _⟩ | ⟨_, _, k⟩
            · rw [a] at q
              rw [← q] at i10
              exact absurd i10 (by decide)
            · rw [q] at k
              exact c' (U' z _ s _ d2 hs s64 y k)
        · rw [w17, rI_o c, I11]
          exact ry d hd (fun z => c z.1)) p4 e
      exact ⟨r1, fun a i => (r2 a i).trans (R17 a i), fun a i n m => by rw [r3 a i n m, w17, rI_a m, I11], fun a i n m => by rw [r4 a i n m, J17, J11 _ _ n], fun s => by rw [r5, J17, J11 _ _ (fun z => n2 z.symm)]⟩
    · obtain ⟨r1, r2, r3, r4, r5⟩ := put_cb (M := M) ((R11 _ _).trans e0) ((R11 _ _).trans e1) ((R11 _ _).trans e2) n1 n2 i1 i2 (fun s hs _ => by rw [I11]; exact p1 s hs) bt (fun d hd => by
        rw [I11]
        refine ry d hd (fun z => q ?_)
        rw [← z.1]; exact z.2) p4 e
      exact ⟨r1, fun a i => (r2 a i).trans (R11 a i), fun a i n m => by rw [r3 a i n m, I11], fun a i n m => by rw [r4 a i n m, J11 _ _ n], fun s => by rw [r5, J11 _ _ (fun z => n2 z.symm)]⟩
end
end
