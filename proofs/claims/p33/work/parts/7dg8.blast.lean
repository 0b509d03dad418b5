/-! men that are firm -/
def bc (x : Int32) : Nat → Nat
  | 0 => 0
  | n + 1 => bc x n + (if ((x >>> ((nI n) &&& 31)) &&& (1 : Int32)) = 0 then 0 else 1)
theorem bc_le (x : Int32) : ∀ n, bc x n ≤ n
  | 0 => Nat.le_refl 0
  | n + 1 => by
    have := bc_le x n
    show bc x n + (if ((x >>> ((nI n) &&& 31)) &&& (1 : Int32)) = 0 then 0 else 1) ≤ n + 1
    split <;> omega
theorem bc_all {x : Int32} : ∀ n, bc x n = n → ∀ q, q < n → ¬ ((x >>> ((nI q) &&& 31)) &&& (1 : Int32)) = 0
  | 0, _, q, hq => by omega
  | n + 1, e, q, hq => by
    have e : bc x n + (if ((x >>> ((nI n) &&& 31)) &&& (1 : Int32)) = 0 then 0 else 1) = n + 1 := e
    have := bc_le x n
    by_cases z : ((x >>> ((nI n) &&& 31)) &&& (1 : Int32)) = 0
    · rw [if_pos z] at e; omega
    · rw [if_neg z] at e
      by_cases y : q = n
      · rw [y]; exact z
      · exact bc_all n (by omega) q (by omega)
theorem bit_d : ∀ (q r : Fin 12), ((((1 : Int32) <<< ((nI q.val) &&& 31)) >>> ((nI r.val) &&& 31)) &&& (1 : Int32)) = (if q.val = r.val then 1 else 0) := by decide +kernel
theorem bit_o {x : Int32} {q r : Nat} (hq : q < 12) (hr : r < 12) : (((x ||| ((1 : Int32) <<< ((nI q) &&& 31))) >>> ((nI r) &&& 31)) &&& (1 : Int32)) = ((x >>> ((nI r) &&& 31)) &&& (1 : Int32)) ||| (if q = r then 1 else 0) := by
  have d : ((((1 : Int32) <<< ((nI q) &&& 31)) >>> ((nI r) &&& 31)) &&& (1 : Int32)) = (if q = r then 1 else 0) := bit_d ⟨q, hq⟩ ⟨r, hr⟩
  rw [sh_or, lo_or, d]
theorem b01 (y : Int32) : y &&& (1 : Int32) = 0 ∨ y &&& (1 : Int32) = 1 := by
  have i := rg_and (c := 1) (d := 1) (x := y) (y := (1 : Int32)) (rg_b rfl) (by decide)
  have : (y &&& (1 : Int32)).toInt = 0 ∨ (y &&& (1 : Int32)).toInt = 1 := by have := i.1; have := i.2; omega
  exact this.imp (fun z => Int32.toInt_inj.mp z) (fun z => Int32.toInt_inj.mp z)
theorem bc_set {x : Int32} {q : Nat} (hq : q < 12) (b : ((x >>> ((nI q) &&& 31)) &&& (1 : Int32)) = 0) : ∀ n, n ≤ 12 → bc (x ||| ((1 : Int32) <<< ((nI q) &&& 31))) n = bc x n + (if q < n then 1 else 0)
  | 0, _ => by rw [if_neg (by omega)]; rfl
  | n + 1, hn => by
    show bc (x ||| ((1 : Int32) <<< ((nI q) &&& 31))) n + (if (((x ||| ((1 : Int32) <<< ((nI q) &&& 31))) >>> ((nI n) &&& 31)) &&& (1 : Int32)) = 0 then 0 else 1) = bc x n + (if ((x >>> ((nI n) &&& 31)) &&& (1 : Int32)) = 0 then 0 else 1) + _
    rw [bc_set hq b n (by omega), bit_o hq (by omega)]
    by_cases e : q = n
    · subst e
      rw [b, if_neg (by omega : ¬ q < q), if_pos (by omega : q < q + 1), if_pos rfl, if_pos rfl, if_neg (by decide)]
    · rw [if_neg e, or_0]
      by_cases l : q < n
      · rw [if_pos l, if_pos (show q < n + 1 by omega)]; omega
      · rw [if_neg l, if_neg (show ¬ q < n + 1 by omega)]; omega
section
variable {T : Nat → Int} {N : Int} {F : Nat} {Z : Nat → Nat} {x2 : Int32} {hc hr oc or hc1 : Hp} {x : Int32} {o o' : Int32 × Hp}
/-- the word is one, or not, for both -/
theorem kw_r (P : PMn T N Z hc hr) : hI hc (Z 3) 4 = (1 : Int32) ↔ hI hr (Z 16) 6 = (1 : Int32) := by
  have f0 := ts_f P.2.2.2.2.1
  have z1 : (1 : Int32).toInt = 1 := rfl
  rw [← Int32.toInt_inj, ← Int32.toInt_inj, f0.2.2.1, z1]
  unfold km
  constructor
  · intro z; rw [if_neg (by omega), if_neg (by omega)]; exact z
  · intro z
    by_cases q0 : (hI hc (Z 3) 4).toInt = 0
    · rw [if_pos q0] at z; omega
    · rw [if_neg q0] at z
      by_cases q4 : (hI hc (Z 3) 4).toInt = 4
      · rw [if_pos q4] at z; omega
      · rw [if_neg q4] at z; exact z
/-- the class stops with a word at hand, the reference reads on: then it falls there -/
def Out2 (T : Nat → Int) (N : Int) (Z : Nat → Nat) (o o' : Int32 × Hp) : Prop := Out T N Z o o' ∨ (¬ o.1 = 0 ∧ o'.1 = 0 ∧ Fl2 Z o.2 o'.2 ∧ ¬ hI o.2 (Z 3) 4 = (3 : Int32))
theorem bl_16 (n12 : N ≤ 1200) (dg : ∀ j : Nat, (j : Int) < N → 0 ≤ T j ∧ T j ≤ 255) (D : ZD Z) (n2 : x2.toInt = N) : ∀ (f g : Nat) {hc hr : Hp} {i : Int32}, PS T N Z hc hr → ¬ (hI hc (Z 3) 6) &&& (32 : Int32) = 0 → 0 ≤ i.toInt → i.toInt ≤ 12 → (bc (hI hc (Z 2) 11) 12 : Int) = i.toInt → sX2_takeBlast_16 F f hc (Z 3) i = some o → sX15_isBlast_6 F g hr (Z 16) (Z 82) x2 = some o' → Out2 T N Z o o' := by
  have z1 : (1 : Int32).toInt = 1 := rfl
  have z12 : (12 : Int32).toInt = 12 := rfl
  intro f
  induction f with
  | zero => intro g hc hr i _ _ _ _ _ e; exact absurd e (by rw [sX2_takeBlast_16]; exact fun z => nomatch z)
  | succ f ih =>
    intro g hc hr i P ht i0 i12 cn e e'
    cases g with
    | zero => exact absurd e' (by rw [sX15_isBlast_6]; exact fun z => nomatch z)
    | succ g =>
      have fp : hI hc (Z 2) 11 = hI hr (Z 15) 19 := P.2.2.2.2.2.2.1 (11, 19) (by decide)
      have m12 := P.2.2.2.2.2.2.2.2.1.2
      rw [sX2_takeBlast_16] at e
      rw [sX15_isBlast_6] at e'
      replace e' := br_s e'
      rcases e' with ⟨k', e'⟩ | ⟨k', e'⟩
      rotate_left
      · -- no word
        have k : ¬ hI hc (Z 3) 4 = (1 : Int32) := fun z => k' ((kw_r (ps_m P)).mp z)
        have done : sX2_takeBlast_81 F hc = some o := by
          replace e := br_s e
          rcases e with ⟨_, e⟩ | ⟨_, e⟩
          · exact e
          · replace e := br_s e
            rcases e with ⟨z, _⟩ | ⟨_, e⟩
            · exact absurd z k
            · exact e
        unfold sX2_takeBlast_81 at done
        rw [← Option.some.inj done, ← Option.some.inj e']
        exact Or.inl (Or.inr ⟨i1n0, i1n0, P⟩)
      have k := (kw_r (ps_m P)).mpr k'
      replace e' := cl_s e'
      obtain ⟨o2, e2, e'⟩ := e'
      replace e := br_s e
      rcases e with ⟨l, e⟩ | ⟨l, e⟩
      · -- twelve men are firm: the thirteenth word is none of theirs
        have l := le_i l
        have all := bc_all (x := hI hc (Z 2) 11) 12 (by omega)
        unfold sX2_takeBlast_81 at e
        rw [← Option.some.inj e]
        have nk : ¬ hI hc (Z 3) 4 = (3 : Int32) := by rw [k]; decide
        -- what the class would have told
        have tm : o2.2 = hr ∧ (o2.1 = (-1 : Int32) ∨ (0 ≤ o2.1.toInt ∧ o2.1.toInt < (hI hc (Z 2) 3).toInt)) := mn_b n12 (ps_m P) e2
        rw [tm.1] at e'
        replace e' := br_s e'
        rcases e' with ⟨_, e'⟩ | ⟨b', e'⟩
        · unfold sX15_isBlast_40 at e'
          rw [← Option.some.inj e']
          exact Or.inr ⟨i1n0, rfl, ps_fl P, nk⟩
        have tm2 := tm.2.resolve_left b'
        replace e' := cl_s e'
        obtain ⟨r4, e4, e'⟩ := e'
        have y4 : r4 = Z 15 := r_eq P.2.1.1 e4
        rw [y4, ← fp] at e'
        have nx := nc_i tm2.1
        have xe : o2.1 = nI o2.1.toNatClampNeg := Int32.toInt_inj.mp (by rw [z_toInt (by omega)]; omega)
        have bt := all o2.1.toNatClampNeg (by omega)
        rw [← xe] at bt
        replace e' := br_s e'
        rcases e' with ⟨_, e'⟩ | ⟨nb, _⟩
        · unfold sX15_isBlast_40 at e'
          rw [← Option.some.inj e']
          exact Or.inr ⟨i1n0, rfl, ps_fl P, nk⟩
        · exact absurd ((b01 _).resolve_left bt) nb
      have l := nle_i l
      replace e := br_s e
      rcases e with ⟨_, e⟩ | ⟨nk, _⟩
      rotate_left
      · exact absurd k nk
      replace e := cl_s e
      obtain ⟨o1, e1, e⟩ := e
      obtain ⟨q1, q2, q3, q4⟩ := tm_r n12 (ps_m P) e1 e2
      rw [q1] at e
      rw [q2, ← q3] at e'
      unfold sX2_takeBlast_54 at e
      unfold sX15_isBlast_40 at e'
      replace e := br_s e
      replace e' := br_s e'
      rcases e with ⟨b, e⟩ | ⟨b, e⟩
      · rcases e' with ⟨_, e'⟩ | ⟨b', _⟩
        · rw [← Option.some.inj e, ← Option.some.inj e']; exact Or.inl (out_0 P)
        · exact absurd b b'
      rcases e' with ⟨b', _⟩ | ⟨_, e'⟩
      · exact absurd b' b
      have q4 := q4.resolve_left b
      have nx := nc_i q4.1
      have xe : o1.1 = nI o1.1.toNatClampNeg := Int32.toInt_inj.mp (by rw [z_toInt (by omega)]; omega)
      replace e := cl_s e
      obtain ⟨r5, e5, e⟩ := e
      have y5 : r5 = Z 2 := r_eq P.1.2.1 e5
      rw [y5] at e
      replace e' := cl_s e'
      obtain ⟨r4, e4, e'⟩ := e'
      have y4 : r4 = Z 15 := r_eq P.2.1.1 e4
      rw [y4, ← fp] at e'
      replace e := br_s e
      replace e' := br_s e'
      rcases e with ⟨c, e⟩ | ⟨c, e⟩
      rotate_left
      · rcases e' with ⟨_, e'⟩ | ⟨c', _⟩
        · rw [← Option.some.inj e, ← Option.some.inj e']; exact Or.inl (out_0 P)
        · exact absurd ((b01 _).resolve_left c) c'
      rcases e' with ⟨c', _⟩ | ⟨_, e'⟩
      · rw [c] at c'; exact absurd c' (by decide)
      replace e := cl_s e
      obtain ⟨r7, e7, e⟩ := e
      have y7 : r7 = Z 2 := r_eq P.1.2.1 e7
      rw [y7] at e
      replace e := nm_s e
      obtain ⟨h8, w8, e⟩ := e
      replace e := cl_s e
      obtain ⟨o9, e9, e⟩ := e
      replace e := nm_s e
      obtain ⟨v10, w10, e⟩ := e
      replace e' := cl_s e'
      obtain ⟨r6, e6, e'⟩ := e'
      have y6 : r6 = Z 15 := r_eq P.2.1.1 e6
      rw [y6, ← fp] at e'
      replace e' := nm_s e'
      obtain ⟨h7, w7, e'⟩ := e'
      replace e' := cl_s e'
      obtain ⟨o8, e8, e'⟩ := e'
      have rg : Rg 0 4095 ((hI hc (Z 2) 11) ||| ((1 : Int32) <<< (o1.1 &&& 31))) := rg_or (n := 12) P.2.2.2.2.2.2.2.2.2.2.2.2.1.2.2.2 (rg_shl (b := 1) (n := 11) (hi := 2048) (rg_b rfl) ⟨q4.1, by omega⟩ (by decide)) (by decide)
      have P8 : PB T N Z h8 h7 := by
        rw [w8, w7]
        exact pb_p (p := (11, 19)) D (by decide) (by decide) ⟨Or.inl (by decide), Or.inl (by decide), Or.inl (by decide), Or.inr ⟨rg, ht⟩⟩ (Or.inl (by decide)) (ps_b P)
      have P9 := ps_a n12 dg D n2 P8.1 P8.2 e9 e8
      have t10 : v10.toInt = i.toInt + 1 := by rw [w10, ta (by rw [z1]; omega), z1]
      have K9 := (adv_k n12 dg P8.1.2.2.1 P8.2.2.1 P8.2.2.2 e9).1
      refine ih g P9 (by rw [K9.2 _ _ (fun z => by have := z.2.2; omega), w8, rI_a (zne D)]; exact ht) (by omega) (by omega) ?_ e e'
      have k9 : hI o9 (Z 2) 11 = (hI hc (Z 2) 11) ||| ((1 : Int32) <<< (o1.1 &&& 31)) := by
        rw [(adv_k n12 dg P8.1.2.2.1 P8.2.2.1 P8.2.2.2 e9).1.2 _ _ (fun z => zn D z.1), w8, rI_s]
      have bs := bc_set (x := hI hc (Z 2) 11) (q := o1.1.toNatClampNeg) (by omega) (by rw [← xe]; exact c) 12 (by decide)
      rw [← xe, if_pos (by omega)] at bs
      rw [k9, bs]
      omega
end
