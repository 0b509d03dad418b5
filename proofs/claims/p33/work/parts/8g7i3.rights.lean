/-! positions: rights, read by both -/
def PRt (V : Nat → Nat) (hc hr : Hp) : Prop := hJ hc (V 4) 8 = hJ hr (V 13) 2
abbrev wcT : List (Nat × Nat) := [(7, 2), (4, 8)]
abbrev wrT : List (Nat × Nat) := [(16, 19), (16, 20), (13, 2)]
section
variable {F : Nat} {V : Nat → Nat} {N : Int32} {hc hr oc or : Hp} {L : List (Nat × Nat)} {o o' : Int32 × Hp}
theorem cfr_v (A : CFr V hc oc) (m : wl L 7 2 = true) : FrV V (wl L) hc oc := ⟨A.1, fun a i n => ⟨A.2.2 a i (fun z => n 7 (by rw [z.2]; exact m) z.1), A.2.1 a i⟩⟩
theorem rfr_v (A : RFr V hr or) (m : wl L 16 19 = true) (m' : wl L 16 20 = true) : FrV V (wl L) hr or := ⟨A.1, fun a i n => ⟨A.2.2 a i (fun z => by
  rcases z.2 with y | y
  · exact n 16 (by rw [y]; exact m) z.1
  · exact n 16 (by rw [y]; exact m') z.1), A.2.1 a i⟩⟩
/-- a list that is part of what readers may write -/
theorem sub_c (A : FrV V (wl wcT) hc oc) : FrV V (wl wcL) hc oc := ⟨A.1, fun a i n => A.2 a i (fun k z => by
  obtain ⟨j, hj, zz⟩ := wl_m z
  have : ∀ p, p ∈ wcT → (p.1, p.2) ∈ wcL ∨ (p.1, 999) ∈ wcL := by decide
  rcases this _ hj with y | y
  · exact n k (wl_i y zz)
  · exact n k (wl_i y (Or.inr rfl)))⟩
theorem sub_r (A : FrV V (wl wrT) hr or) : FrV V (wl wrL) hr or := ⟨A.1, fun a i n => A.2 a i (fun k z => by
  obtain ⟨j, hj, zz⟩ := wl_m z
  have : ∀ p, p ∈ wrT → (p.1, p.2) ∈ wrL ∨ (p.1, 999) ∈ wrL := by decide
  rcases this _ hj with y | y
  · exact n k (wl_i y zz)
  · exact n k (wl_i y (Or.inr rfl)))⟩
theorem rt_15 (D : VD V) : ∀ (f g : Nat) {hc hr : Hp} {x2 x3 : Int32}, RdV V N hc hr → PRt V hc hr → Rg (-1) 63 x2 → 0 ≤ x3.toInt → x3.toInt ≤ x2.toInt + 1 → (x3 = 0 ↔ x2 = (-1 : Int32)) → sX7_readRights_15 F f hc (V 7) (V 4) x2 x3 = some o → sX15_readRights_18 F g hr (V 16) (V 13) x2 = some o' → (o.1 = 0 ∧ o'.1 = 0 ∧ AtV V N o.2 o'.2) ∨ (o.1 = 1 ∧ FrV V (wl wcT) hc o.2 ∧ ∃ g, FrV V (wl wrT) hr g ∧ RdV V N o.2 g ∧ PRt V o.2 g ∧ sX15_reads g (V 16) (32 : Int32) = some o') := by
  have z1 : (1 : Int32).toInt = 1 := rfl
  have z0 : (0 : Int32).toInt = 0 := rfl
  have zm : (-1 : Int32).toInt = -1 := by decide
  have z64 : (64 : Int32).toInt = 64 := rfl
  intro f
  induction f with
  | zero => intro g hc hr x2 x3 _ _ _ _ _ _ e; exact absurd e (by rw [sX7_readRights_15]; exact fun z => nomatch z)
  | succ f ih =>
    intro g hc hr x2 x3 S Pq i2 a3 b3 iff e e'
    cases g with
    | zero => exact absurd e' (by rw [sX15_readRights_18]; exact fun z => nomatch z)
    | succ g =>
      rw [sX7_readRights_15] at e
      rw [sX15_readRights_18] at e'
      have x20 := i2.1
      have x21 := i2.2
      -- one square more
      have nxt : sX7_readRights_41 F (sX7_readRights_15 F f) hc (V 7) (V 4) x2 x3 = some o → sX15_readRights_32 F (sX15_readRights_18 F g) hr (V 16) (V 13) x2 = some o' → (o.1 = 0 ∧ o'.1 = 0 ∧ AtV V N o.2 o'.2) ∨ (o.1 = 1 ∧ FrV V (wl wcT) hc o.2 ∧ ∃ g, FrV V (wl wrT) hr g ∧ RdV V N o.2 g ∧ PRt V o.2 g ∧ sX15_reads g (V 16) (32 : Int32) = some o') := fun e e' => by
        unfold sX7_readRights_41 at e
        unfold sX15_readRights_32 at e'
        replace e := nm_s e; obtain ⟨v1, wv1, e⟩ := e
        replace e := cl_s e; obtain ⟨o2, eo2, e⟩ := e
        replace e' := cl_s e'; obtain ⟨o1, eo1, e'⟩ := e'
        obtain ⟨A, B, alt⟩ := sq_p D S eo2 eo1
        rcases alt with ⟨c1, c2, at'⟩ | ⟨ro, k20, alt⟩
        · replace e := br_s e
          replace e' := br_s e'
          rcases e with ⟨_, e⟩ | ⟨n, _⟩
          rotate_left
          · exact absurd c1 n
          rcases e' with ⟨_, e'⟩ | ⟨n, _⟩
          rotate_left
          · exact absurd c2 n
          rw [← Option.some.inj e, ← Option.some.inj e']
          exact Or.inl ⟨rfl, rfl, at'⟩
        have ro0 := ro.1
        have ro1 := ro.2
        replace e := br_s e
        rcases e with ⟨n, _⟩ | ⟨_, e⟩
        · rw [n, zm] at ro0; omega
        replace e := br_s e
        replace e' := br_s e'
        rcases alt with ⟨l, c2, at'⟩ | ⟨l, c2, k19⟩
        · rcases e with ⟨_, e⟩ | ⟨n, _⟩
          rotate_left
          · exact absurd (ii_lt.mpr l) n
          rcases e' with ⟨n, _⟩ | ⟨_, e'⟩
          · rw [c2] at n; exact absurd n (by decide)
          replace e := nm_s e; obtain ⟨h5, w5, e⟩ := e
          replace e := nm_s e; obtain ⟨v6, w6, e⟩ := e
          replace e' := nm_s e'; obtain ⟨v3, w3, e'⟩ := e'
          rw [w3, k20] at e'
          replace e' := nm_s e'; obtain ⟨h4, w4, e'⟩ := e'
          have A5 : FrV V (wl wcT) hc h5 := fv_t (g2 := o2.2) (cfr_v A rfl) (by rw [w5]; exact fv_j rfl)
          have B4 : FrV V (wl wrT) hr h4 := fv_t (g2 := o1.2) (rfr_v B rfl rfl) (by rw [w4]; exact fv_j rfl)
          have at5 : AtV V N h5 h4 := by rw [w5, w4]; exact at'
          have S5 : RdV V N h5 h4 := rdv_w D S (sub_c A5) (sub_r B4) at5
          have P5 : PRt V h5 h4 := by
            unfold PRt
            rw [w5, r_J, if_pos ⟨rfl, rfl⟩, w4, r_J, if_pos ⟨rfl, rfl⟩, A.2.1, B.2.1]
            have := Pq
            unfold PRt at this
            rw [this]
          have tx : v6.toInt = x3.toInt + 1 := by rw [w6, ta (by rw [z1]; omega), z1]
          rcases ih g S5 P5 ⟨by omega, ro1⟩ (by omega) (by omega) ⟨fun z => by rw [z, z0] at tx; omega, fun z => by rw [z, zm] at ro0; omega⟩ e e' with r | ⟨r1, r2, q, r3, r4⟩
          · exact Or.inl r
          · exact Or.inr ⟨r1, fv_t A5 r2, q, fv_t B4 r3, r4⟩
        · rcases e with ⟨n, _⟩ | ⟨_, e⟩
          · have := lt_i n; omega
          rcases e' with ⟨_, e'⟩ | ⟨n, _⟩
          rotate_left
          · exact absurd c2 n
          replace e := nm_s e; obtain ⟨h7, w7, e⟩ := e
          rw [← Option.some.inj e, ← Option.some.inj e']
          obtain ⟨p1, p2, p3⟩ := S.2.2.2.1
          refine Or.inl ⟨rfl, rfl, ?_, ?_, ?_⟩
          · show hI h7 (V 7) 2 = hI o1.2 (V 16) 19
            rw [w7, rI_s, wv1, k19]
          · show 0 ≤ (hI h7 (V 7) 2).toInt
            rw [w7, rI_s, wv1]; exact p2
          · show (hI h7 (V 7) 2).toInt ≤ _
            rw [w7, rI_s, wv1]; exact p3
      replace e := br_s e
      rcases e with ⟨l, _⟩ | ⟨_, e⟩
      · have l := lt_i l
        rw [z64] at l
        omega
      replace e := br_s e
      replace e' := br_s e'
      rcases e with ⟨q, e⟩ | ⟨q, e⟩
      · rcases e' with ⟨_, e'⟩ | ⟨n, _⟩
        rotate_left
        · exact absurd (iff.mp q) n
        exact nxt e e'
      rcases e' with ⟨n, _⟩ | ⟨_, e'⟩
      · exact absurd (iff.mpr n) q
      replace e := cl_s e; obtain ⟨r3, p, e⟩ := e
      rw [r_eq S.1.2.1 p] at e
      replace e := cl_s e; obtain ⟨o4, eo4, e⟩ := e
      replace e' := cl_s e'; obtain ⟨o2, eo2, e'⟩ := e'
      obtain ⟨w4, w2, H⟩ := by_p S eo4 eo2
      rw [w4] at e
      rw [w2] at e'
      have K := by_k (k := (32 : Int32)) H ⟨by decide, by decide⟩
      replace e := br_s e
      replace e' := br_s e'
      rcases e with ⟨b, e⟩ | ⟨b, e⟩
      · rcases e' with ⟨_, e'⟩ | ⟨n, _⟩
        rotate_left
        · exact absurd (K.mp b) n
        unfold sX7_readRights_97 at e
        replace e' := cl_s e'; obtain ⟨o3, eo3, e'⟩ := e'
        have y' := Option.some.inj (gd_s e').2
        rw [← Option.some.inj e]
        exact Or.inr ⟨rfl, fv_0, hr, fv_0, S, Pq, by rw [eo3, ← y']⟩
      rcases e' with ⟨n, _⟩ | ⟨_, e'⟩
      · exact absurd (K.mpr n) b
      exact nxt e e'
/-- rights; then the reference wants a blank -/
theorem rt_p (D : VD V) (S : RdV V N hc hr) (Pq : PRt V hc hr) (e : sX7_readRights F hc (V 7) (V 4) = some o) (e' : sX15_readRights F hr (V 16) (V 13) = some o') : (o.1 = 0 ∧ o'.1 = 0 ∧ AtV V N o.2 o'.2) ∨ (o.1 = 1 ∧ FrV V (wl wcT) hc o.2 ∧ ∃ g, FrV V (wl wrT) hr g ∧ RdV V N o.2 g ∧ PRt V o.2 g ∧ sX15_reads g (V 16) (32 : Int32) = some o') := by
  unfold sX7_readRights at e
  unfold sX15_readRights at e'
  replace e := cl_s e; obtain ⟨o1, eo1, e⟩ := e
  replace e' := cl_s e'; obtain ⟨k1, ek1, e'⟩ := e'
  rcases tk_p D S ⟨by decide, by decide⟩ eo1 ek1 with ⟨y, y'⟩ | ⟨y, y', S1⟩
  · rw [y] at e
    rw [y'] at e'
    dsimp only at e e'
    replace e := br_s e
    replace e' := br_s e'
    rcases e with ⟨_, e⟩ | ⟨n, _⟩
    rotate_left
    · exact absurd rfl n
    rcases e' with ⟨_, e'⟩ | ⟨n, _⟩
    rotate_left
    · exact absurd rfl n
    exact rt_15 D F F S Pq ⟨by decide, by decide⟩ (by decide) (by decide) ⟨fun _ => rfl, fun _ => rfl⟩ e e'
  · have v1 : o1.1 = 1 := by rw [y]
    have v1' : k1.1 = 1 := by rw [y']
    replace e := br_s e
    replace e' := br_s e'
    rcases e with ⟨n, _⟩ | ⟨_, e⟩
    · rw [v1] at n; exact absurd n (by decide)
    rcases e' with ⟨n, _⟩ | ⟨_, e'⟩
    · rw [v1'] at n; exact absurd n (by decide)
    replace e' := cl_s e'; obtain ⟨o3, eo3, e'⟩ := e'
    have yy := Option.some.inj (gd_s e').2
    have A1 : FrV V (wl wcT) hc o1.2 := by rw [y]; exact fv_w rfl
    have B1 : FrV V (wl wrT) hr k1.2 := by rw [y']; exact fv_w rfl
    rw [← Option.some.inj e]
    refine Or.inr ⟨rfl, A1, k1.2, B1, S1, ?_, by rw [eo3, ← yy]⟩
    show hJ o1.2 (V 4) 8 = hJ k1.2 (V 13) 2
    rw [y, y']
    exact Pq
end
