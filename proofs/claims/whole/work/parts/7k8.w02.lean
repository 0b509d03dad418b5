section
/-! the reference: ends ahead of all moves -/
def OnH (L : Nat → Nat → Int) (M : Nat → Int) (d : Nat) : Prop := ∃ s : Nat, s < 64 ∧ 0 ≤ L 10 0 ∧ M s = 1 + 2 * L 10 0 + d ∧ L 100 s = 1
def BrE (P : Pz) (d : Nat) : Prop := (∀ s : Nat, s < 64 → ¬ (0 < P.1 s ∧ (P.1 s - 1) % 2 = (d : Int))) ∧ ∀ m : Nat, m < 12 → ¬ 0 < pzH P (2 * m + d)
def erB (L : Nat → Nat → Int) (d : Nat) : Int := if L 23 0 = 1 then (d : Int) else 1 - (d : Int)
noncomputable def er4 (L : Nat → Nat → Int) (P : Pz) : Int × Int := if prB' (BrE P (pzS P)) = true then (4, erB L (pzS P)) else if prB' (BrE P (1 - pzS P)) = true then (4, erB L (1 - pzS P)) else (0, 0)
noncomputable def er3 (L : Nat → Nat → Int) (P : Pz) : Int × Int := if 0 < L 20 0 ∧ L 20 0 ≤ pzC P (1 - pzS P) then (3, ((1 - pzS P : Nat) : Int)) else if 0 < L 20 0 ∧ L 20 0 ≤ pzC P (pzS P) then (3, (pzS P : Int)) else er4 L P
noncomputable def er2 (L : Nat → Nat → Int) (P : Pz) : Int × Int := if prB' (OnH L P.1 (1 - pzS P)) = true then (2, ((1 - pzS P : Nat) : Int)) else if prB' (OnH L P.1 (pzS P)) = true then (2, (pzS P : Int)) else er3 L P
noncomputable def er1 (L : Nat → Nat → Int) (P : Pz) : Int × Int := if prB' ((¬ L 18 0 = 0 ∧ 0 ≤ L 10 0) ∧ ¬ RyE L P.1 (pzS P)) = true then (1, ((1 - pzS P : Nat) : Int)) else if prB' ((¬ L 18 0 = 0 ∧ 0 ≤ L 10 0) ∧ ¬ RyE L P.1 (1 - pzS P)) = true then (1, (pzS P : Int)) else er2 L P
abbrev wew : List (Nat × Nat) := [(16, 29)]
section
variable {F : Nat} {V : Nat → Nat} {L : Nat → Nat → Int} {h : Hp} {P : Pz} {o : Int32 × Hp}
theorem hm_42 {x2 : Int32} {d : Nat} (H : LOk L) (O : PzOk L P) (W : RW0 V h L) (R : RbP V h P) (e2 : x2.toInt = (d : Int)) (hd : d < 2) : ∀ (f : Nat) {x3 : Int32} {n : Nat}, x3.toInt = (n : Int) → (n : Int) ≤ L 2 0 → (∀ m, m < n → ¬ 0 < pzH P (2 * m + d)) → sX15_hasMen_42 F f h (V 16) (V 13) x2 x3 = some o → o.2 = h ∧ ((o.1 = 0 ∧ ∀ m, m < 12 → ¬ 0 < pzH P (2 * m + d)) ∨ (o.1 = 1 ∧ ¬ ∀ m, m < 12 → ¬ 0 < pzH P (2 * m + d))) := by
  have z0 : (0 : Int32).toInt = 0 := rfl
  have z1 : (1 : Int32).toInt = 1 := rfl
  have z2 : (2 : Int32).toInt = 2 := rfl
  have L2 := H.2.2.1
  have l2 : (hI h (V 15) 2).toInt = L 2 0 := lw_0 (rwd_b W R) (by decide) 0
  intro f
  induction f with
  | zero => intro x3 n _ _ _ e; exact absurd e (by rw [sX15_hasMen_42]; exact fun z => nomatch z)
  | succ f ih =>
    intro x3 n e3 nL no e
    rw [sX15_hasMen_42] at e
    replace e := ce_e W.1.1 e
    rcases br_s e with ⟨c, e⟩ | ⟨c, e⟩
    · have c := le_i c
      rw [l2, e3] at c
      rw [so_e e]
      refine ⟨rfl, Or.inl ⟨rfl, fun m hm => ?_⟩⟩
      by_cases q : m < n
      · exact no m q
      · have := O.2.2.2.2.2.1.2.1 (2 * m + d) (by omega) (Or.inl (by omega))
        omega
    have c := nle_i c
    rw [l2, e3] at c
    have q2 : ((2 : Int32) * x3).toInt = 2 * (n : Int) := by rw [tm (by rw [z2, e3]; omega), z2, e3]
    have q3 : (((2 : Int32) * x3) + x2).toInt = 2 * (n : Int) + d := by rw [ta (by rw [q2, e2]; omega), q2, e2]
    have c3 : (((2 : Int32) * x3) + x2).toNatClampNeg = 2 * n + d := by have := nc_i (x := ((2 : Int32) * x3) + x2) (by omega); omega
    have hv' := R.2.2.2.2.2.2.1 (2 * n + d) (by omega)
    replace e := ce_e R.1.2.2.1 e
    replace e := gg_e e
    rcases br_s e with ⟨y, e⟩ | ⟨y, e⟩ <;> rw [c3] at y
    · have y := le_i y
      rw [hv', z0] at y
      refine ih (n := n + 1) (by rw [ta (by rw [z1]; omega), z1, e3]; omega) (by omega) (fun m hm => ?_) (nx_e e)
      by_cases q : m = n
      · rw [q]; omega
      · exact no m (by omega)
    · have y := nle_i y
      rw [hv', z0] at y
      rw [so_e e]
      exact ⟨rfl, Or.inr ⟨rfl, fun z => z n (by omega) y⟩⟩
theorem hm_2 {x2 : Int32} {d : Nat} (H : LOk L) (O : PzOk L P) (W : RW0 V h L) (R : RbP V h P) (e2 : x2.toInt = (d : Int)) (hd : d < 2) : ∀ (f : Nat) {x3 : Int32} {n : Nat}, x3.toInt = (n : Int) → (n : Int) ≤ L 0 0 * L 1 0 → (∀ s, s < n → ¬ (0 < P.1 s ∧ (P.1 s - 1) % 2 = (d : Int))) → sX15_hasMen_2 F f h (V 16) (V 13) x2 x3 = some o → o.2 = h ∧ ((o.1 = 0 ∧ BrE P d) ∨ (o.1 = 1 ∧ ¬ BrE P d)) := by
  have z0 : (0 : Int32).toInt = 0 := rfl
  have z1 : (1 : Int32).toInt = 1 := rfl
  have sq := sq_64 H
  have L2 := H.2.2.1
  have f13 := W.2.2.2.2
  intro f
  induction f with
  | zero => intro x3 n _ _ _ e; exact absurd e (by rw [sX15_hasMen_2]; exact fun z => nomatch z)
  | succ f ih =>
    intro x3 n e3 nL no e
    rw [sX15_hasMen_2] at e
    unfold sX15_hasMen_34 at e
    rcases br_s e with ⟨c, e⟩ | ⟨c, e⟩
    · have c := le_i c
      rw [f13, e3] at c
      obtain ⟨w, q⟩ := hm_42 H O W R e2 hd F (n := 0) rfl (by omega) (fun m hm => absurd hm (Nat.not_lt_zero _)) e
      refine ⟨w, ?_⟩
      rcases q with ⟨a, b⟩ | ⟨a, b⟩
      · refine Or.inl ⟨a, fun s hs z => ?_, b⟩
        have := ((O.1 s hs).2 z.1).1
        exact no s (by omega) z
      · exact Or.inr ⟨a, fun z => b z.2⟩
    have c := nle_i c
    rw [f13, e3] at c
    have n64 : n < 64 := by omega
    have c3 : x3.toNatClampNeg = n := by have := nc_i (x := x3) (by omega); omega
    have mv := R.2.1 n n64
    have t3 : (x3 + (1 : Int32)).toInt = ((n + 1 : Nat) : Int) := by rw [ta (by rw [z1]; omega), z1, e3]; omega
    have nxt : ¬ (0 < P.1 n ∧ (P.1 n - 1) % 2 = (d : Int)) → sX15_hasMen_2 F f h (V 16) (V 13) x2 (x3 + (1 : Int32)) = some o → o.2 = h ∧ ((o.1 = 0 ∧ BrE P d) ∨ (o.1 = 1 ∧ ¬ BrE P d)) := fun q u => ih (n := n + 1) t3 (by omega) (fun s hs => by
      by_cases w : s = n
      · rw [w]; exact q
      · exact no s (by omega)) u
    replace e := ce_e R.1.1 e
    replace e := gg_e e
    rcases br_s e with ⟨y, e⟩ | ⟨y, e⟩ <;> rw [c3] at y
    · have y := le_i y
      rw [mv, z0] at y
      exact nxt (fun z => by have := z.1; omega) (nx_e e)
    have y := nle_i y
    rw [mv, z0] at y
    have vL := ((O.1 n n64).2 y).2
    replace e := ce_e R.1.1 e
    replace e := gg_e e
    rw [c3] at e
    unfold sX15_sideOf at e
    replace e := cl_s e; obtain ⟨o7, eo7, e⟩ := e
    rw [so_e eo7] at e
    have tv : ((hI h (V 62) n) - (1 : Int32)).toInt = P.1 n - 1 := by rw [ts (by rw [mv, z1]; omega), mv, z1]
    have sdv : (((hI h (V 62) n) - (1 : Int32)) &&& (1 : Int32)).toInt = (P.1 n - 1) % 2 := by rw [and1_i (by omega), tv]
    rcases br_s e with ⟨w, e⟩ | ⟨w, e⟩
    · have w : (((hI h (V 62) n) - (1 : Int32)) &&& (1 : Int32)) = x2 := w
      rw [so_e e]
      refine ⟨rfl, Or.inr ⟨rfl, fun z => z.1 n n64 ⟨y, ?_⟩⟩⟩
      rw [← sdv, w, e2]
    · have w : ¬ (((hI h (V 62) n) - (1 : Int32)) &&& (1 : Int32)) = x2 := w
      exact nxt (fun z => w (Int32.toInt_inj.mp (by rw [sdv, z.2, e2]))) (nx_e e)
theorem hm_r {x2 : Int32} {d : Nat} (H : LOk L) (O : PzOk L P) (W : RW0 V h L) (R : RbP V h P) (e2 : x2.toInt = (d : Int)) (hd : d < 2) (e : sX15_hasMen F h (V 16) (V 13) x2 = some o) : o.2 = h ∧ ((o.1 = 0 ∧ BrE P d) ∨ (o.1 = 1 ∧ ¬ BrE P d)) := by
  have sq := sq_64 H
  unfold sX15_hasMen at e
  exact hm_2 H O W R e2 hd F (n := 0) rfl (by omega) (fun s hs => absurd hs (Nat.not_lt_zero _)) e
/-- an answer, and who wins -/
def ErA (V : Nat → Nat) (h : Hp) (o : Int32 × Hp) (r : Int × Int) : Prop := FrV V (wl wew) h o.2 ∧ o.1.toInt = r.1 ∧ (0 < r.1 → (hI o.2 (V 16) 29).toInt = r.2)
theorem er_w {n : Int32} {x : Int32} {g : Hp} {r : Int × Int} (e1 : n.toInt = r.1) (e2 : x.toInt = r.2) (eg : g = wI h (V 16) 29 x) (e : some (n, g) = some o) : ErA V h o r := by
  rw [so_e e]
  refine ⟨?_, e1, fun _ => ?_⟩
  · show FrV V (wl wew) h g
    rw [eg]; exact fv_w rfl
  · show (hI g (V 16) 29).toInt = r.2
    rw [eg, r_I, if_pos ⟨rfl, rfl⟩, e2]
theorem er_218 (H : LOk L) (O : PzOk L P) (W : RW0 V h L) (R : RbP V h P) (f : Nat) (e : sX15_early_218 F f h (V 16) (V 13) (0 : Int32) = some o) : ErA V h o (er4 L P) := by
  have z0 : (0 : Int32).toInt = 0 := rfl
  have z1 : (1 : Int32).toInt = 1 := rfl
  have isd := O.2.2.1
  have bs := R.2.2.1
  have l23 : (hI h (V 15) 23).toInt = L 23 0 := lw_0 (rwd_b W R) (by decide) 0
  have s1 : ((1 : Int32) - (hI h (V 13) 1)).toInt = ((1 - pzS P : Nat) : Int) := by rw [ts (by rw [z1, bs]; omega), z1, bs]; omega
  -- one of them is bare
  have one : ∀ {t0 : Int32} {d : Nat} {r : Int × Int} {g : Int32 × Hp → Option (Int32 × Hp)}, t0.toInt = (d : Int) → d < 2 → (BrE P d → r = (4, erB L d)) → (cl (sX15_hasMen F h (V 16) (V 13) t0) fun o_1 => br (o_1.1 = 0) (cl (hR o_1.2 (V 16) 4) fun r_4 => br ((hI o_1.2 r_4 23) = (1 : Int32)) (sX15_early_269 F o_1.2 t0 (V 16)) (sX15_early_269 F o_1.2 ((1 : Int32) - t0) (V 16))) (g o_1)) = some o → ErA V h o r ∨ (¬ BrE P d ∧ g (1, h) = some o) := fun {t0 d r g} ht hd hr u => by
    replace u := cl_s u; obtain ⟨o1, eo1, u⟩ := u
    obtain ⟨w1, q⟩ := hm_r H O W R ht hd eo1
    rcases q with ⟨a, b⟩ | ⟨a, b⟩
    · refine Or.inl ?_
      replace u := bp_e a u
      rw [w1] at u
      replace u := ce_e W.1.1 u
      unfold sX15_early_269 at u
      rw [hr b]
      rcases br_s u with ⟨y, u⟩ | ⟨y, u⟩
      · rw [y, z1] at l23
        replace u := nm_s u; obtain ⟨g', ug, u⟩ := u
        exact er_w rfl (by show t0.toInt = erB L d; unfold erB; rw [if_pos l23.symm, ht]) ug u
      · have n23 : ¬ L 23 0 = 1 := fun z => y (Int32.toInt_inj.mp (by rw [l23, z, z1]))
        replace u := nm_s u; obtain ⟨g', ug, u⟩ := u
        exact er_w rfl (by show ((1 : Int32) - t0).toInt = erB L d; unfold erB; rw [if_neg n23, ts (by rw [z1, ht]; omega), z1, ht]) ug u
    · refine Or.inr ⟨b, ?_⟩
      replace u := bn_e (by rw [a]; decide) u
      have : o1 = (1, h) := by rw [← a, ← w1]
      rw [this] at u
      exact u
  cases f with
  | zero => exact absurd e (by rw [sX15_early_218]; exact fun z => nomatch z)
  | succ f =>
    rw [sX15_early_218] at e
    replace e := bn_e (show ¬ (2 : Int32) ≤ 0 by decide) e
    replace e := bp_e rfl e
    unfold sX15_early_240 at e
    unfold er4
    rcases one bs isd (r := if prB' (BrE P (pzS P)) = true then (4, erB L (pzS P)) else if prB' (BrE P (1 - pzS P)) = true then (4, erB L (1 - pzS P)) else (0, 0)) (fun b => by rw [if_pos (prb_e.mpr b)]) e with q | ⟨b, e⟩
    · exact q
    rw [if_neg (fun z => b (prb_e.mp z))]
    replace e := nx_e e
    cases f with
    | zero => exact absurd e (by rw [sX15_early_218]; exact fun z => nomatch z)
    | succ f =>
      rw [sX15_early_218] at e
      replace e := bn_e (show ¬ (2 : Int32) ≤ 0 + 1 by decide) e
      replace e := bn_e (show ¬ (0 : Int32) + 1 = 0 by decide) e
      unfold sX15_early_240 at e
      rcases one s1 (by omega) (r := if prB' (BrE P (1 - pzS P)) = true then (4, erB L (1 - pzS P)) else (0, 0)) (fun b => by rw [if_pos (prb_e.mpr b)]) e with q | ⟨b', e⟩
      · exact q
      rw [if_neg (fun z => b' (prb_e.mp z))]
      replace e := nx_e e
      cases f with
      | zero => exact absurd e (by rw [sX15_early_218]; exact fun z => nomatch z)
      | succ f =>
        rw [sX15_early_218] at e
        replace e := bp_e (show (2 : Int32) ≤ 0 + 1 + 1 by decide) e
        rw [so_e e]
        exact ⟨fv_0, rfl, fun z => absurd z (by decide)⟩
theorem er_154 (H : LOk L) (O : PzOk L P) (W : RW0 V h L) (R : RbP V h P) (f : Nat) (e : sX15_early_154 F f h (V 16) (V 13) (0 : Int32) = some o) : ErA V h o (er3 L P) := by
  have z0 : (0 : Int32).toInt = 0 := rfl
  have z1 : (1 : Int32).toInt = 1 := rfl
  have isd := O.2.2.1
  have bs := R.2.2.1
  have l20 : (hI h (V 15) 20).toInt = L 20 0 := lw_0 (rwd_b W R) (by decide) 0
  have s1 : ((1 : Int32) - (hI h (V 13) 1)).toInt = ((1 - pzS P : Nat) : Int) := by rw [ts (by rw [z1, bs]; omega), z1, bs]; omega
  have one : ∀ {t0 : Int32} {d : Nat} {r : Int × Int} {X : Option (Int32 × Hp)}, t0.toInt = (d : Int) → d < 2 → (L 20 0 ≤ pzC P d → r = (3, (d : Int))) → (cl (hR h (V 13) 6) fun r_1 => gd (inB t0 (hN h r_1)) <| cl (hR h (V 16) 4) fun r_3 => br ((hI h r_1 t0.toNatClampNeg) < (hI h r_3 20)) X (nm (wI h (V 16) 29 t0) fun h_6 => some ((3 : Int32), h_6))) = some o → ErA V h o r ∨ (¬ L 20 0 ≤ pzC P d ∧ X = some o) := fun {t0 d r X} ht hd hr u => by
    have ct : t0.toNatClampNeg = d := by have := nc_i (x := t0) (by omega); omega
    have cv := R.2.2.2.2.2.2.2.1 d hd
    replace u := ce_e R.1.2.2.2 u
    replace u := gg_e u
    replace u := ce_e W.1.1 u
    rcases br_s u with ⟨y, u⟩ | ⟨y, u⟩ <;> rw [ct] at y
    · have y := lt_i y
      rw [cv, l20] at y
      exact Or.inr ⟨by omega, u⟩
    · have y := nlt_i y
      rw [cv, l20] at y
      rw [hr y]
      replace u := nm_s u; obtain ⟨g', ug, u⟩ := u
      exact Or.inl (er_w rfl ht ug u)
  have non : ¬ 0 < L 20 0 → sX15_early_218 F F h (V 16) (V 13) (0 : Int32) = some o → ErA V h o (er3 L P) := fun n u => by
    unfold er3
    rw [if_neg (fun z => n z.1), if_neg (fun z => n z.1)]
    exact er_218 H O W R F u
  cases f with
  | zero => exact absurd e (by rw [sX15_early_154]; exact fun z => nomatch z)
  | succ f =>
    rw [sX15_early_154] at e
    unfold sX15_early_216 sX15_early_186 at e
    replace e := bn_e (show ¬ (2 : Int32) ≤ 0 by decide) e
    replace e := ce_e W.1.1 e
    rcases br_s e with ⟨y, e⟩ | ⟨y, e⟩
    · have y := le_i y
      rw [l20, z0] at y
      exact non (by omega) e
    have y := nle_i y
    rw [l20, z0] at y
    replace e := bp_e rfl e
    unfold er3
    rcases one s1 (by omega) (r := if 0 < L 20 0 ∧ L 20 0 ≤ pzC P (1 - pzS P) then (3, ((1 - pzS P : Nat) : Int)) else if 0 < L 20 0 ∧ L 20 0 ≤ pzC P (pzS P) then (3, (pzS P : Int)) else er4 L P) (fun b => by rw [if_pos ⟨y, b⟩]) e with q | ⟨b, e⟩
    · exact q
    rw [if_neg (fun z => b z.2)]
    replace e := nx_e e
    cases f with
    | zero => exact absurd e (by rw [sX15_early_154]; exact fun z => nomatch z)
    | succ f =>
      rw [sX15_early_154] at e
      unfold sX15_early_216 sX15_early_186 at e
      replace e := bn_e (show ¬ (2 : Int32) ≤ 0 + 1 by decide) e
      replace e := ce_e W.1.1 e
      replace e := bn_e (fun z => by have z := le_i z; rw [l20, z0] at z; omega) e
      replace e := bn_e (show ¬ (0 : Int32) + 1 = 0 by decide) e
      rcases one bs isd (r := if 0 < L 20 0 ∧ L 20 0 ≤ pzC P (pzS P) then (3, (pzS P : Int)) else er4 L P) (fun b => by rw [if_pos ⟨y, b⟩]) e with q | ⟨b', e⟩
      · exact q
      rw [if_neg (fun z => b' z.2)]
      replace e := nx_e e
      cases f with
      | zero => exact absurd e (by rw [sX15_early_154]; exact fun z => nomatch z)
      | succ f =>
        rw [sX15_early_154] at e
        unfold sX15_early_216 at e
        replace e := bp_e (show (2 : Int32) ≤ 0 + 1 + 1 by decide) e
        exact er_218 H O W R F e
end
end
section
/-! the reference: legal moves -/
section
variable {F : Nat} {V : Nat → Nat} {L : Nat → Nat → Int} {h : Hp} {P : Pz} {o : Int32 × Hp}
theorem l_100 {M : Nat → Int} (W : RWd V h L M) (s : Nat) : L 100 s = (if bitJ (hJ h (V 15) 21) s = true then 1 else 0) := by
  rw [← W.2.1.1]
  show (if 100 = 100 ∧ bitJ (hJ h (V 15) 21) s = true then (1 : Int) else 0) = _
  by_cases c : bitJ (hJ h (V 15) 21) s = true
  · rw [if_pos ⟨rfl, c⟩, if_pos c]
  · rw [if_neg (fun z => c z.2), if_neg c]
theorem onh_u {M : Nat → Int} {d : Nat} {x : Nat} (U : UnM M (L 10 0)) (hd : d < 2) (x64 : x < 64) (a2 : 0 ≤ L 10 0) (a3 : M x = 1 + 2 * L 10 0 + d) : OnH L M d ↔ L 100 x = 1 :=
  ⟨fun ⟨s, hs, r, m, l⟩ => by rw [← U r d s x hd hs x64 m a3]; exact l, fun l => ⟨x, x64, a2, a3, l⟩⟩
theorem er_73 (H : LOk L) (K : LawK L) (O : PzOk L P) (W : RW0 V h L) (R : RbP V h P) (f : Nat) (e : sX15_early_73 F f h (V 16) (V 13) (0 : Int32) = some o) : ErA V h o (er2 L P) := by
  have z1 : (1 : Int32).toInt = 1 := rfl
  have isd := O.2.2.1
  have bs := R.2.2.1
  have L2 := H.2.2.1
  have kr : -1 ≤ L 10 0 ∧ L 10 0 ≤ 11 := ⟨K.2.1.1, by have := K.2.1.2; omega⟩
  have Wb := rwd_b W R
  have s1 : ((1 : Int32) - (hI h (V 13) 1)).toInt = ((1 - pzS P : Nat) : Int) := by rw [ts (by rw [z1, bs]; omega), z1, bs]; omega
  have one : ∀ {t0 : Int32} {d : Nat} {r : Int × Int} {g : Int32 × Hp → Option (Int32 × Hp)}, t0.toInt = (d : Int) → d < 2 → (OnH L P.1 d → r = (2, (d : Int))) → (cl (sX15_royalOf F h (V 16) (V 13) t0) fun o_1 => br (o_1.1 = (-1 : Int32)) (g o_1) (cl (hR o_1.2 (V 16) 4) fun r_3 => br ((lg_cmp (((hJ o_1.2 r_3 21) >>> (o_1.1.toInt64 &&& 63)) &&& (1 : Int64)) (1 : Int64)) = 0) (nm (wI o_1.2 (V 16) 29 t0) fun h_5 => some ((2 : Int32), h_5)) (g o_1))) = some o → ErA V h o r ∨ (¬ OnH L P.1 d ∧ ∃ x, g (x, h) = some o) := fun {t0 d r g} ht hd hr u => by
    replace u := cl_s u; obtain ⟨o1, eo1, u⟩ := u
    obtain ⟨w1, ro⟩ := roy_r H O.1 Wb kr ht hd eo1
    have eo : o1 = (o1.1, h) := by rw [← w1]
    rcases roa_e ro with ⟨a1, a2⟩ | ⟨a1, a2, a3, a4, _⟩
    · exact Or.inr ⟨fun ⟨s, hs, r, m, _⟩ => a2 ⟨s, hs, r, m⟩, o1.1, by rw [← eo]; exact bp_e a1 u⟩
    replace u := bn_e a1 u
    rw [w1] at u
    replace u := ce_e W.1.1 u
    have ca := nc_i a2.1
    have a63 := a2.2
    have oi := onh_u O.2.1 hd (show o1.1.toNatClampNeg < 64 by omega) a3 a4
    have l1 := l_100 Wb o1.1.toNatClampNeg
    rcases br_s u with ⟨y, u⟩ | ⟨y, u⟩
    · have b := bit_test a2 y
      rw [if_pos b] at l1
      rw [hr (oi.mpr l1)]
      replace u := nm_s u; obtain ⟨g', ug, u⟩ := u
      exact Or.inl (er_w rfl ht ug u)
    · refine Or.inr ⟨fun z => ?_, o1.1, by rw [← eo]; exact u⟩
      have z := oi.mp z
      rw [l1] at z
      split at z
      · rename_i c; exact y (bit_tst a2 c)
      · exact absurd z (by decide)
  have non : (∀ d, ¬ OnH L P.1 d) → sX15_early_154 F F h (V 16) (V 13) (0 : Int32) = some o → ErA V h o (er2 L P) := fun n u => by
    unfold er2
    rw [if_neg (fun z => n _ (prb_e.mp z)), if_neg (fun z => n _ (prb_e.mp z))]
    exact er_154 H O W R F u
  cases f with
  | zero => exact absurd e (by rw [sX15_early_73]; exact fun z => nomatch z)
  | succ f =>
    rw [sX15_early_73] at e
    unfold sX15_early_152 sX15_early_107 sX15_early_146 at e
    replace e := bn_e (show ¬ (2 : Int32) ≤ 0 by decide) e
    replace e := ce_e W.1.1 e
    rcases br_s e with ⟨y, e⟩ | ⟨y, e⟩
    · have y := j_zero.mp (cmp_eq y)
      refine non (fun d z => ?_) e
      obtain ⟨s, hs, _, _, l⟩ := z
      rw [l_100 Wb s, if_neg (by rw [y s hs]; decide)] at l
      exact absurd l (by decide)
    replace e := bp_e rfl e
    unfold er2
    rcases one s1 (by omega) (r := if prB' (OnH L P.1 (1 - pzS P)) = true then (2, ((1 - pzS P : Nat) : Int)) else if prB' (OnH L P.1 (pzS P)) = true then (2, (pzS P : Int)) else er3 L P) (fun b => by rw [if_pos (prb_e.mpr b)]) e with q | ⟨b, _, e⟩
    · exact q
    rw [if_neg (fun z => b (prb_e.mp z))]
    replace e := nx_e e
    cases f with
    | zero => exact absurd e (by rw [sX15_early_73]; exact fun z => nomatch z)
    | succ f =>
      rw [sX15_early_73] at e
      unfold sX15_early_152 sX15_early_107 sX15_early_146 at e
      replace e := bn_e (show ¬ (2 : Int32) ≤ 0 + 1 by decide) e
      replace e := ce_e W.1.1 e
      replace e := bn_e y e
      replace e := bn_e (show ¬ (0 : Int32) + 1 = 0 by decide) e
      rcases one bs isd (r := if prB' (OnH L P.1 (pzS P)) = true then (2, (pzS P : Int)) else er3 L P) (fun b => by rw [if_pos (prb_e.mpr b)]) e with q | ⟨b', _, e⟩
      · exact q
      rw [if_neg (fun z => b' (prb_e.mp z))]
      replace e := nx_e e
      cases f with
      | zero => exact absurd e (by rw [sX15_early_73]; exact fun z => nomatch z)
      | succ f =>
        rw [sX15_early_73] at e
        unfold sX15_early_152 at e
        replace e := bp_e (show (2 : Int32) ≤ 0 + 1 + 1 by decide) e
        exact er_154 H O W R F e
theorem er_2 (H : LOk L) (K : LawK L) (O : PzOk L P) (W : RW0 V h L) (R : RbP V h P) (f : Nat) (e : sX15_early_2 F f h (V 16) (V 13) (0 : Int32) = some o) : ErA V h o (er1 L P) := by
  have z0 : (0 : Int32).toInt = 0 := rfl
  have z1 : (1 : Int32).toInt = 1 := rfl
  have zm : (-1 : Int32).toInt = -1 := by decide
  have isd := O.2.2.1
  have bs := R.2.2.1
  have L2 := H.2.2.1
  have kr : -1 ≤ L 10 0 ∧ L 10 0 ≤ 11 := ⟨K.2.1.1, by have := K.2.1.2; omega⟩
  have Wb := rwd_b W R
  have l18 : (hI h (V 15) 18).toInt = L 18 0 := lw_0 Wb (by decide) 0
  have l10 : (hI h (V 15) 10).toInt = L 10 0 := lw_0 Wb (by decide) 0
  have s1 : ((1 : Int32) - (hI h (V 13) 1)).toInt = ((1 - pzS P : Nat) : Int) := by rw [ts (by rw [z1, bs]; omega), z1, bs]; omega
  have one : ∀ {t0 : Int32} {d d' : Nat} {r : Int × Int} {g : Int32 × Hp → Option (Int32 × Hp)}, t0.toInt = (d : Int) → d < 2 → (d' : Int) = 1 - d → (¬ RyE L P.1 d → r = (1, (d' : Int))) → (cl (sX15_royalOf F h (V 16) (V 13) t0) fun o_1 => br (o_1.1 = (-1 : Int32)) (nm (wI o_1.2 (V 16) 29 ((1 : Int32) - t0)) fun h_4 => some ((1 : Int32), h_4)) (g o_1)) = some o → ErA V h o r ∨ (RyE L P.1 d ∧ ∃ x, g (x, h) = some o) := fun {t0 d d' r g} ht hd hd' hr u => by
    replace u := cl_s u; obtain ⟨o1, eo1, u⟩ := u
    obtain ⟨w1, ro⟩ := roy_r H O.1 Wb kr ht hd eo1
    have eo : o1 = (o1.1, h) := by rw [← w1]
    rcases roa_e ro with ⟨a1, a2⟩ | ⟨a1, _, _, _, a5⟩
    · replace u := bp_e a1 u
      rw [w1] at u
      rw [hr a2]
      replace u := nm_s u; obtain ⟨g', ug, u⟩ := u
      exact Or.inl (er_w rfl (by show ((1 : Int32) - t0).toInt = (d' : Int); rw [ts (by rw [z1, ht]; omega), z1, ht, hd']) ug u)
    · exact Or.inr ⟨a5, o1.1, by rw [← eo]; exact bn_e a1 u⟩
  have non : ¬ (¬ L 18 0 = 0 ∧ 0 ≤ L 10 0) → sX15_early_73 F F h (V 16) (V 13) (0 : Int32) = some o → ErA V h o (er1 L P) := fun n u => by
    unfold er1
    rw [if_neg (fun z => n (prb_e.mp z).1), if_neg (fun z => n (prb_e.mp z).1)]
    exact er_73 H K O W R F u
  have nb : ∀ {X : Option (Int32 × Hp)}, (cl (hR h (V 16) 4) fun r_2 => br ((hI h r_2 18) = 0) (sX15_early_73 F F h (V 16) (V 13) (0 : Int32)) (cl (hR h (V 16) 4) fun r_4 => br ((hI h r_4 10) = (-1 : Int32)) (sX15_early_73 F F h (V 16) (V 13) (0 : Int32)) X)) = some o → ErA V h o (er1 L P) ∨ ((¬ L 18 0 = 0 ∧ 0 ≤ L 10 0) ∧ X = some o) := fun {X} u => by
    replace u := ce_e W.1.1 u
    rcases br_s u with ⟨y, u⟩ | ⟨y, u⟩
    · have l := l18
      rw [y, z0] at l
      exact Or.inl (non (fun z => z.1 l.symm) u)
    have n18 : ¬ L 18 0 = 0 := fun z => y (Int32.toInt_inj.mp (by rw [l18, z, z0]))
    replace u := ce_e W.1.1 u
    rcases br_s u with ⟨y', u⟩ | ⟨y', u⟩
    · have l := l10
      rw [y', zm] at l
      exact Or.inl (non (fun z => by have := z.2; omega) u)
    · have n10 : ¬ L 10 0 = -1 := fun z => y' (Int32.toInt_inj.mp (by rw [l10, z, zm]))
      exact Or.inr ⟨⟨n18, by omega⟩, u⟩
  cases f with
  | zero => exact absurd e (by rw [sX15_early_2]; exact fun z => nomatch z)
  | succ f =>
    rw [sX15_early_2] at e
    unfold sX15_early_71 sX15_early_45 at e
    replace e := bn_e (show ¬ (2 : Int32) ≤ 0 by decide) e
    rcases nb e with q | ⟨c, e⟩
    · exact q
    replace e := bp_e rfl e
    unfold er1
    rcases one bs isd (d' := 1 - pzS P) (by omega) (r := if prB' ((¬ L 18 0 = 0 ∧ 0 ≤ L 10 0) ∧ ¬ RyE L P.1 (pzS P)) = true then (1, ((1 - pzS P : Nat) : Int)) else if prB' ((¬ L 18 0 = 0 ∧ 0 ≤ L 10 0) ∧ ¬ RyE L P.1 (1 - pzS P)) = true then (1, (pzS P : Int)) else er2 L P) (fun b => by rw [if_pos (prb_e.mpr ⟨c, b⟩)]) e with q | ⟨b, _, e⟩
    · exact q
    rw [if_neg (fun z => (prb_e.mp z).2 b)]
    replace e := nx_e e
    cases f with
    | zero => exact absurd e (by rw [sX15_early_2]; exact fun z => nomatch z)
    | succ f =>
      rw [sX15_early_2] at e
      unfold sX15_early_71 sX15_early_45 at e
      replace e := bn_e (show ¬ (2 : Int32) ≤ 0 + 1 by decide) e
      replace e := ce_e W.1.1 e
      replace e := bn_e (fun z => c.1 (by rw [← l18, z, z0])) e
      replace e := ce_e W.1.1 e
      replace e := bn_e (fun z => by have l := l10; rw [z, zm] at l; have := c.2; omega) e
      replace e := bn_e (show ¬ (0 : Int32) + 1 = 0 by decide) e
      rcases one s1 (by omega) (d' := pzS P) (by omega) (r := if prB' ((¬ L 18 0 = 0 ∧ 0 ≤ L 10 0) ∧ ¬ RyE L P.1 (1 - pzS P)) = true then (1, (pzS P : Int)) else er2 L P) (fun b => by rw [if_pos (prb_e.mpr ⟨c, b⟩)]) e with q | ⟨b', _, e⟩
      · exact q
      rw [if_neg (fun z => (prb_e.mp z).2 b')]
      replace e := nx_e e
      cases f with
      | zero => exact absurd e (by rw [sX15_early_2]; exact fun z => nomatch z)
      | succ f =>
        rw [sX15_early_2] at e
        unfold sX15_early_71 at e
        replace e := bp_e (show (2 : Int32) ≤ 0 + 1 + 1 by decide) e
        exact er_73 H K O W R F e
/-- early, whole -/
theorem er_r (H : LOk L) (K : LawK L) (O : PzOk L P) (W : RW0 V h L) (R : RbP V h P) (e : sX15_early F h (V 16) (V 13) = some o) : ErA V h o (er1 L P) := by
  unfold sX15_early at e
  exact er_2 H K O W R F e
end
/-- a list that is being thinned out -/
def KpR (V : Nat → Nat) (h : Hp) (kept : List MvT) (n : Nat) (rest : List MvT) : Prop := (hI h (V 14) 0).toInt = ((n + rest.length : Nat) : Int) ∧ kept.length ≤ n ∧ (∀ j, j < kept.length → kept[j]? = some (rowM V h j)) ∧ ∀ j, j < rest.length → rest[j]? = some (rowM V h (n + j))
/-- where men must take -/
def mustF (L : Nat → Nat → Int) (ls : List MvT) : List MvT := if ¬ L 16 0 = 0 ∧ ls.any tkB = true then ls.filter tkB else ls
noncomputable def sfB (L : Nat → Nat → Int) (P : Pz) (v : MvT) : Bool := prB' (sfP L P v)
/-- the moves of a position -/
noncomputable def lgL (L : Nat → Nat → Int) (P : Pz) : List MvT := if 0 < (er1 L P).1 then [] else mustF L ((moP L P).filter (sfB L P))
abbrev wse : List (Nat × Nat) := [(66, 999), (67, 999), (68, 999), (69, 999), (70, 999), (71, 999), (72, 999)]
abbrev wlg : List (Nat × Nat) := [(14, 0), (66, 999), (67, 999), (68, 999), (69, 999), (70, 999), (71, 999), (72, 999), (16, 23), (16, 24), (16, 29), (86, 999), (87, 999), (88, 999), (213, 1), (213, 2), (213, 3), (213, 7), (262, 999), (263, 999), (264, 999), (265, 999)]
section
variable {F : Nat} {V : Nat → Nat} {L : Nat → Nat → Int} {h o : Hp} {P : Pz}
theorem kpr_n {kept rest : List MvT} {n : Nat} {v : MvT} (K : KpR V h kept n (v :: rest)) : KpR V h kept (n + 1) rest := by
  obtain ⟨a, b, c, d⟩ := K
  refine ⟨by rw [a, List.length_cons]; omega, by omega, c, fun j hj => ?_⟩
  have e := d (j + 1) (by rw [List.length_cons]; omega)
  rw [show n + (j + 1) = n + 1 + j by omega] at e
  exact e
theorem kpr_f (D : VD V) {g : Hp} {kept rest : List MvT} {n : Nat} {Ls : List (Nat × Nat)} (K : KpR V h kept n rest) (A : FrV V (wl Ls) h g) (nn : ∀ p, p ∈ Ls → p.1 ∈ vql ∧ ¬ p.1 = 14 ∧ ¬ (66 ≤ p.1 ∧ p.1 ≤ 72)) : KpR V g kept n rest := by
  have hL : ∀ p, p ∈ Ls → p.1 ∈ vql := fun p hp => (nn p hp).1
  have nk : ∀ k, (66 ≤ k ∧ k ≤ 72) → ∀ p, p ∈ Ls → ¬ p.1 = k := fun k hk p hp z => (nn p hp).2.2 (by rw [z]; exact hk)
  have rw' : ∀ i, rowM V g i = rowM V h i := fun i => by
    unfold rowM
    rw [fvI D A 66 i (nk 66 (by decide)) (by decide) hL, fvI D A 67 i (nk 67 (by decide)) (by decide) hL, fvI D A 68 i (nk 68 (by decide)) (by decide) hL, fvI D A 69 i (nk 69 (by decide)) (by decide) hL, fvI D A 70 i (nk 70 (by decide)) (by decide) hL, fvI D A 71 i (nk 71 (by decide)) (by decide) hL, fvI D A 72 i (nk 72 (by decide)) (by decide) hL]
  exact ⟨by rw [fvI D A 14 0 (fun p hp => (nn p hp).2.1) (by decide) hL]; exact K.1, K.2.1, fun j hj => by rw [rw']; exact K.2.2.1 j hj, fun j hj => by rw [rw']; exact K.2.2.2 j hj⟩
/-- one row to another place -/
theorem set_r (D : VD V) {x1 x3 : Int32} (W : WMf V h) (e : sX13_set h (V 14) x1 (V 14) x3 = some o) : FrV V (wl wse) h o ∧ ∀ j, rowM V o j = if j = x1.toNatClampNeg then rowM V h x3.toNatClampNeg else rowM V h j := by
  unfold sX13_set at e
  obtain ⟨w1, w2, w3, w4, w5, w6, w7⟩ := W
  replace e := ce_e w1 e
  replace e := ce_e w1 e
  iterate 2 replace e := gg_e e
  replace e := nm_s e; obtain ⟨h5, u5, e⟩ := e
  have F1 : FrV V (wl [(66, 999)]) h h5 := by rw [u5]; exact fv_w (wl_9 (by decide))
  replace e := ce_e (by rw [F1.1]; exact w2) e
  replace e := ce_e (by rw [F1.1]; exact w2) e
  iterate 2 replace e := gg_e e
  replace e := nm_s e; obtain ⟨h10, u10, e⟩ := e
  have F2 : FrV V (wl [(67, 999)]) h5 h10 := by rw [u10]; exact fv_w (wl_9 (by decide))
  have G2 : FrV V (wl [(66, 999), (67, 999)]) h h10 := fv_t (fv_s F1 (by decide)) (fv_s F2 (by decide))
  replace e := ce_e (by rw [G2.1]; exact w3) e
  replace e := ce_e (by rw [G2.1]; exact w3) e
  iterate 2 replace e := gg_e e
  replace e := nm_s e; obtain ⟨h15, u15, e⟩ := e
  have F3 : FrV V (wl [(68, 999)]) h10 h15 := by rw [u15]; exact fv_w (wl_9 (by decide))
  have G3 : FrV V (wl [(66, 999), (67, 999), (68, 999)]) h h15 := fv_t (fv_s G2 (by decide)) (fv_s F3 (by decide))
  replace e := ce_e (by rw [G3.1]; exact w4) e
  replace e := ce_e (by rw [G3.1]; exact w4) e
  iterate 2 replace e := gg_e e
  replace e := nm_s e; obtain ⟨h20, u20, e⟩ := e
  have F4 : FrV V (wl [(69, 999)]) h15 h20 := by rw [u20]; exact fv_w (wl_9 (by decide))
  have G4 : FrV V (wl [(66, 999), (67, 999), (68, 999), (69, 999)]) h h20 := fv_t (fv_s G3 (by decide)) (fv_s F4 (by decide))
  replace e := ce_e (by rw [G4.1]; exact w5) e
  replace e := ce_e (by rw [G4.1]; exact w5) e
  iterate 2 replace e := gg_e e
  replace e := nm_s e; obtain ⟨h25, u25, e⟩ := e
  have F5 : FrV V (wl [(70, 999)]) h20 h25 := by rw [u25]; exact fv_w (wl_9 (by decide))
  have G5 : FrV V (wl [(66, 999), (67, 999), (68, 999), (69, 999), (70, 999)]) h h25 := fv_t (fv_s G4 (by decide)) (fv_s F5 (by decide))
  replace e := ce_e (by rw [G5.1]; exact w6) e
  replace e := ce_e (by rw [G5.1]; exact w6) e
  iterate 2 replace e := gg_e e
  replace e := nm_s e; obtain ⟨h30, u30, e⟩ := e
  have F6 : FrV V (wl [(71, 999)]) h25 h30 := by rw [u30]; exact fv_w (wl_9 (by decide))
  have G6 : FrV V (wl [(66, 999), (67, 999), (68, 999), (69, 999), (70, 999), (71, 999)]) h h30 := fv_t (fv_s G5 (by decide)) (fv_s F6 (by decide))
  replace e := ce_e (by rw [G6.1]; exact w7) e
  replace e := ce_e (by rw [G6.1]; exact w7) e
  iterate 2 replace e := gg_e e
  replace e := nm_s e; obtain ⟨h35, u35, e⟩ := e
  have F7 : FrV V (wl [(72, 999)]) h30 h35 := by rw [u35]; exact fv_w (wl_9 (by decide))
  have G7 : FrV V (wl wse) h h35 := fv_t (fv_s G6 (by decide)) (fv_s F7 (by decide))
  rw [so_e e]
  refine ⟨G7, fun j => ?_⟩
  have S6 : FrV V (wl [(72, 999), (71, 999)]) h25 h35 := fv_t (fv_s F6 (by decide)) (fv_s F7 (by decide))
  have S5 : FrV V (wl [(72, 999), (71, 999), (70, 999)]) h20 h35 := fv_t (fv_s F5 (by decide)) (fv_s S6 (by decide))
  have S4 : FrV V (wl [(72, 999), (71, 999), (70, 999), (69, 999)]) h15 h35 := fv_t (fv_s F4 (by decide)) (fv_s S5 (by decide))
  have S3 : FrV V (wl [(72, 999), (71, 999), (70, 999), (69, 999), (68, 999)]) h10 h35 := fv_t (fv_s F3 (by decide)) (fv_s S4 (by decide))
  have S2 : FrV V (wl [(72, 999), (71, 999), (70, 999), (69, 999), (68, 999), (67, 999)]) h5 h35 := fv_t (fv_s F2 (by decide)) (fv_s S3 (by decide))
  have a1 : hI h35 (V 66) j = if j = x1.toNatClampNeg then hI h (V 66) x3.toNatClampNeg else hI h (V 66) j := by
    rw [fvI D S2 66 j, u5, r_I]
    by_cases c : j = x1.toNatClampNeg
    · rw [if_pos ⟨rfl, c⟩, if_pos c]
    · rw [if_neg (fun z => c z.2), if_neg c]
  have a2 : hI h35 (V 67) j = if j = x1.toNatClampNeg then hI h (V 67) x3.toNatClampNeg else hI h (V 67) j := by
    rw [fvI D S3 67 j, u10, r_I, fvI D F1 67 x3.toNatClampNeg, fvI D F1 67 j]
    by_cases c : j = x1.toNatClampNeg
    · rw [if_pos ⟨rfl, c⟩, if_pos c]
    · rw [if_neg (fun z => c z.2), if_neg c]
  have a3 : hI h35 (V 68) j = if j = x1.toNatClampNeg then hI h (V 68) x3.toNatClampNeg else hI h (V 68) j := by
    rw [fvI D S4 68 j, u15, r_I, fvI D G2 68 x3.toNatClampNeg, fvI D G2 68 j]
    by_cases c : j = x1.toNatClampNeg
    · rw [if_pos ⟨rfl, c⟩, if_pos c]
    · rw [if_neg (fun z => c z.2), if_neg c]
  have a4 : hI h35 (V 69) j = if j = x1.toNatClampNeg then hI h (V 69) x3.toNatClampNeg else hI h (V 69) j := by
    rw [fvI D S5 69 j, u20, r_I, fvI D G3 69 x3.toNatClampNeg, fvI D G3 69 j]
    by_cases c : j = x1.toNatClampNeg
    · rw [if_pos ⟨rfl, c⟩, if_pos c]
    · rw [if_neg (fun z => c z.2), if_neg c]
  have a5 : hI h35 (V 70) j = if j = x1.toNatClampNeg then hI h (V 70) x3.toNatClampNeg else hI h (V 70) j := by
    rw [fvI D S6 70 j, u25, r_I, fvI D G4 70 x3.toNatClampNeg, fvI D G4 70 j]
    by_cases c : j = x1.toNatClampNeg
    · rw [if_pos ⟨rfl, c⟩, if_pos c]
    · rw [if_neg (fun z => c z.2), if_neg c]
  have a6 : hI h35 (V 71) j = if j = x1.toNatClampNeg then hI h (V 71) x3.toNatClampNeg else hI h (V 71) j := by
    rw [fvI D F7 71 j, u30, r_I, fvI D G5 71 x3.toNatClampNeg, fvI D G5 71 j]
    by_cases c : j = x1.toNatClampNeg
    · rw [if_pos ⟨rfl, c⟩, if_pos c]
    · rw [if_neg (fun z => c z.2), if_neg c]
  have a7 : hI h35 (V 72) j = if j = x1.toNatClampNeg then hI h (V 72) x3.toNatClampNeg else hI h (V 72) j := by
    rw [u35, r_I, fvI D G6 72 x3.toNatClampNeg, fvI D G6 72 j]
    by_cases c : j = x1.toNatClampNeg
    · rw [if_pos ⟨rfl, c⟩, if_pos c]
    · rw [if_neg (fun z => c z.2), if_neg c]
  unfold rowM
  rw [a1, a2, a3, a4, a5, a6, a7]
  by_cases c : j = x1.toNatClampNeg
  · rw [if_pos c, if_pos c, if_pos c, if_pos c, if_pos c, if_pos c, if_pos c, if_pos c]
  · rw [if_neg c, if_neg c, if_neg c, if_neg c, if_neg c, if_neg c, if_neg c, if_neg c]
theorem kpr_y (D : VD V) {kept rest : List MvT} {n : Nat} {v : MvT} {x1 x3 : Int32} (K : KpR V h kept n (v :: rest)) (W : WMf V h) (e1 : x1.toNatClampNeg = kept.length) (e3 : x3.toNatClampNeg = n) (e : sX13_set h (V 14) x1 (V 14) x3 = some o) : FrV V (wl wse) h o ∧ KpR V o (kept ++ [v]) (n + 1) rest := by
  obtain ⟨A, r⟩ := set_r D W e
  refine ⟨A, ?_⟩
  obtain ⟨a, b, c, d⟩ := K
  have d0 : some v = some (rowM V h n) := d 0 (by rw [List.length_cons]; omega)
  refine ⟨by rw [fvI D A 14 0, a, List.length_cons]; omega, by rw [List.length_append]; exact Nat.succ_le_succ b, fun j hj => ?_, fun j hj => ?_⟩
  · rw [List.length_append] at hj
    have hj : j < kept.length + 1 := hj
    rw [r j, e1, e3]
    by_cases q : j = kept.length
    · rw [if_pos q, q, ge_m]
      exact d0
    · rw [if_neg q, List.getElem?_append_left (by omega)]
      exact c j (by omega)
  · have e := d (j + 1) (by rw [List.length_cons]; omega)
    rw [show n + (j + 1) = n + 1 + j by omega] at e
    rw [r (n + 1 + j), if_neg (by omega)]
    exact e
theorem kpr_end (D : VD V) {kept : List MvT} {n : Nat} {x : Int32} (K : KpR V h kept n []) (ex : x.toInt = (kept.length : Int)) : RLs V (wI h (V 14) 0 x) kept := by
  refine ⟨by rw [r_I, if_pos ⟨rfl, rfl⟩, ex], fun i hi => ?_⟩
  rw [K.2.2.1 i hi]
  unfold rowM
  rw [rI_a (vne D), rI_a (vne D), rI_a (vne D), rI_a (vne D), rI_a (vne D), rI_a (vne D), rI_a (vne D)]
/-- takings alone -/
theorem lg_110 (D : VD V) : ∀ (f : Nat) {h : Hp} {x3 x5 : Int32} {kept rest : List MvT} {n : Nat}, WMf V h → x3.toInt = (kept.length : Int) → x5.toInt = (n : Int) → n + rest.length ≤ 100000 → KpR V h kept n rest → sX15_legal_110 F f h (V 14) x3 x5 = some o → FrV V (wl wml) h o ∧ RLs V o (kept ++ rest.filter tkB) := by
  have z1 : (1 : Int32).toInt = 1 := rfl
  have zm : (-1 : Int32).toInt = -1 := by decide
  intro f
  induction f with
  | zero => intro h x3 x5 kept rest n _ _ _ _ _ e; exact absurd e (by rw [sX15_legal_110]; exact fun z => nomatch z)
  | succ f ih =>
    intro h x3 x5 kept rest n W e3 e5 lm K e
    have K1 := K.1
    have K2 := K.2.1
    rw [sX15_legal_110] at e
    unfold sX15_legal_152 sX15_legal_141 at e
    cases rest with
    | nil =>
      replace e := bp_e (by
        apply ii_le.mpr
        rw [K1, e5]
        exact Int.le_refl _) e
      replace e := nm_s e; obtain ⟨g, ug, e⟩ := e
      rw [so_e e, List.filter_nil, List.append_nil, ug]
      exact ⟨fv_w rfl, kpr_end D K e3⟩
    | cons v rest =>
      have ll : (v :: rest).length = rest.length + 1 := List.length_cons
      have c5 : x5.toNatClampNeg = n := by have := nc_i (x := x5) (by omega); omega
      have c3 : x3.toNatClampNeg = kept.length := by have := nc_i (x := x3) (by omega); omega
      have t5 : (x5 + (1 : Int32)).toInt = ((n + 1 : Nat) : Int) := by rw [ta (by rw [z1]; omega), z1, e5]; omega
      replace e := bn_e (fun z => by have := le_i z; omega) e
      replace e := ce_e W.2.2.2.2.1 e
      replace e := gg_e e
      have d0 : v = rowM V h n := Option.some.inj (K.2.2.2 0 (by omega))
      have tv : (hI h (V 70) n).toInt = v.2.2.2.2.1 := by rw [d0]; rfl
      rcases br_s e with ⟨y, e⟩ | ⟨y, e⟩ <;> rw [c5] at y
      · have b : tkB v = false := by
          unfold tkB
          rw [decide_eq_true (by rw [← tv, y, zm])]; rfl
        rw [List.filter_cons_of_neg (by rw [b]; decide)]
        exact ih W e3 t5 (by omega) (kpr_n K) (nx_e e)
      · have b : tkB v = true := by
          unfold tkB
          rw [decide_eq_false (fun z => y (Int32.toInt_inj.mp (by rw [tv, z, zm])))]; rfl
        rw [List.filter_cons_of_pos b]
        replace e := cl_s e; obtain ⟨g, eg, e⟩ := e
        obtain ⟨A, Kg⟩ := kpr_y D K W c3 c5 eg
        have t3 : (x3 + (1 : Int32)).toInt = ((kept ++ [v]).length : Int) := by rw [ta (by rw [z1]; omega), z1, e3, List.length_append]; rfl
        obtain ⟨A', R⟩ := ih (wmf_f W A) t3 t5 (by omega) Kg (nx_e (nx_e e))
        refine ⟨fv_t (fv_s A (by decide)) A', ?_⟩
        rw [List.append_assoc] at R
        exact R
theorem any_app {a : List MvT} {v : MvT} : (a ++ [v]).any tkB = (a.any tkB || tkB v) := by
  rw [List.any_append]
  simp
theorem lg_28 (D : VD V) (H : LOk L) (KL : LawK L) (O : PzOk L P) : ∀ (f : Nat) {h : Hp} {x3 x4 x5 : Int32} {kept rest : List MvT} {n : Nat}, LgW V h L P → x3.toInt = (kept.length : Int) → x5.toInt = (n : Int) → ((x4 = 0 ∧ kept.any tkB = false) ∨ (x4 = 1 ∧ kept.any tkB = true)) → n + rest.length ≤ 100000 → (∀ v, v ∈ rest → MvGd L P v) → KpR V h kept n rest → sX15_legal_28 F f h (V 16) (V 13) (V 14) x3 x4 x5 = some o → FrV V (wl wlg) h o ∧ RLs V o (mustF L (kept ++ rest.filter (sfB L P))) := by
  have z0 : (0 : Int32).toInt = 0 := rfl
  have z1 : (1 : Int32).toInt = 1 := rfl
  have zm : (-1 : Int32).toInt = -1 := by decide
  intro f
  induction f with
  | zero => intro h x3 x4 x5 kept rest n _ _ _ _ _ _ _ e; exact absurd e (by rw [sX15_legal_28]; exact fun z => nomatch z)
  | succ f ih =>
    intro h x3 x4 x5 kept rest n W e3 e5 e4 lm good K e
    have K1 := K.1
    have K2 := K.2.1
    rw [sX15_legal_28] at e
    unfold sX15_legal_152 sX15_legal_79 sX15_legal_73 at e
    cases rest with
    | nil =>
      replace e := bp_e (by
        apply ii_le.mpr
        rw [K1, e5]
        exact Int.le_refl _) e
      replace e := nm_s e; obtain ⟨g, ug, e⟩ := e
      have A : FrV V (wl [(14, 0)]) h g := by rw [ug]; exact fv_w rfl
      have Rk : RLs V g kept := by rw [ug]; exact kpr_end D K e3
      have Wg := lgw_f D W A (by decide) rfl rfl rfl (by decide)
      have l16 : (hI g (V 15) 16).toInt = L 16 0 := lw_0 (rwd_b Wg.1 Wg.2.2.1) (by decide) 0
      rw [List.filter_nil, List.append_nil]
      replace e := ce_e Wg.1.1.1 e
      unfold mustF
      rcases br_s e with ⟨y, e⟩ | ⟨y, e⟩
      · rw [y, z0] at l16
        rw [if_neg (fun z => z.1 l16.symm), so_e e]
        exact ⟨fv_s A (by decide), Rk⟩
      have n16 : ¬ L 16 0 = 0 := fun z => y (Int32.toInt_inj.mp (by rw [l16, z, z0]))
      rcases e4 with ⟨a, b⟩ | ⟨a, b⟩
      · replace e := bp_e a e
        rw [if_neg (fun z => by rw [b] at z; exact absurd z.2 (by decide)), so_e e]
        exact ⟨fv_s A (by decide), Rk⟩
      · replace e := bn_e (by rw [a]; decide) e
        rw [if_pos ⟨n16, b⟩]
        obtain ⟨B, Z⟩ := lg_110 D F (kept := []) (rest := kept) (n := 0) Wg.2.1 rfl rfl (by have : ([] : List MvT).length = 0 := rfl; omega) ⟨by rw [Rk.1, Nat.zero_add], Nat.le_refl _, fun j hj => absurd hj (Nat.not_lt_zero _), fun j hj => by rw [Nat.zero_add]; exact Rk.2 j hj⟩ e
        exact ⟨fv_t (fv_s A (by decide)) (fv_s B (by decide)), Z⟩
    | cons v rest =>
      have ll : (v :: rest).length = rest.length + 1 := List.length_cons
      have c5 : x5.toNatClampNeg = n := by have := nc_i (x := x5) (by omega); omega
      have c3 : x3.toNatClampNeg = kept.length := by have := nc_i (x := x3) (by omega); omega
      have t5 : (x5 + (1 : Int32)).toInt = ((n + 1 : Nat) : Int) := by rw [ta (by rw [z1]; omega), z1, e5]; omega
      have d0 : v = rowM V h n := Option.some.inj (K.2.2.2 0 (by omega))
      have good' : ∀ w, w ∈ rest → MvGd L P w := fun w hw => good w (by simp [hw])
      replace e := bn_e (fun z => by have := le_i z; omega) e
      replace e := cl_s e; obtain ⟨o6, eo6, e⟩ := e
      obtain ⟨A, q⟩ := sf_r D H KL O (good v (by simp)) W (by rw [c5]; exact d0.symm) eo6
      have Al : FrV V (wl wlg) h o6.2 := fv_s A (by decide)
      have W6 := lgw_f D W A (by decide) rfl rfl rfl (by decide)
      have K6 := kpr_f D K A (by decide)
      rcases q with ⟨q1, q2⟩ | ⟨q1, q2⟩
      · replace e := bp_e q1 e
        have b : sfB L P v = false := prb_f.mpr q2
        rw [List.filter_cons_of_neg (by rw [b]; decide)]
        obtain ⟨B, Z⟩ := ih W6 e3 t5 e4 (by omega) good' (kpr_n K6) (nx_e e)
        exact ⟨fv_t Al B, Z⟩
      · replace e := bn_e (by rw [q1]; decide) e
        have b : sfB L P v = true := prb_e.mpr q2
        rw [List.filter_cons_of_pos b]
        replace e := cl_s e; obtain ⟨g, eg, e⟩ := e
        obtain ⟨B, Kg⟩ := kpr_y D K6 W6.2.1 c3 c5 eg
        have Wg := lgw_f D W6 B (by decide) rfl rfl rfl (by decide)
        have t3 : (x3 + (1 : Int32)).toInt = ((kept ++ [v]).length : Int) := by rw [ta (by rw [z1]; omega), z1, e3, List.length_append]; rfl
        have tv : (hI g (V 70) kept.length).toInt = v.2.2.2.2.1 := by
          have := Kg.2.2.1 kept.length (by rw [List.length_append]; exact Nat.lt_succ_self _)
          rw [ge_m] at this
          rw [Option.some.inj this]
          rfl
        have go : ∀ {x : Int32}, ((x = 0 ∧ tkB v = false) ∨ (x = 1 ∧ tkB v = true)) → sX15_legal_28 F f g (V 16) (V 13) (V 14) (x3 + (1 : Int32)) (x4 ||| x) (x5 + (1 : Int32)) = some o → FrV V (wl wlg) h o ∧ RLs V o (mustF L (kept ++ v :: rest.filter (sfB L P))) := fun {x} hx u => by
          obtain ⟨C, Z⟩ := ih Wg t3 t5 (by
            rw [any_app]
            rcases e4 with ⟨a, b⟩ | ⟨a, b⟩
            · rcases hx with ⟨c, d⟩ | ⟨c, d⟩
              · exact Or.inl ⟨by rw [a, c]; rfl, by rw [b, d]; rfl⟩
              · exact Or.inr ⟨by rw [a, c]; rfl, by rw [b, d]; rfl⟩
            · rcases hx with ⟨c, d⟩ | ⟨c, d⟩
              · exact Or.inr ⟨by rw [a, c]; rfl, by rw [b, d]; rfl⟩
              · exact Or.inr ⟨by rw [a, c]; rfl, by rw [b, d]; rfl⟩) (by omega) good' Kg u
          refine ⟨fv_t Al (fv_t (fv_s B (by decide)) C), ?_⟩
          rw [List.append_assoc] at Z
          exact Z
        replace e := ce_e Wg.2.1.2.2.2.2.1 e
        replace e := gg_e e
        rcases br_s e with ⟨y, e⟩ | ⟨y, e⟩ <;> rw [c3] at y
        · refine go (Or.inl ⟨rfl, ?_⟩) (nx_e (nx_e (nx_e e)))
          unfold tkB
          rw [decide_eq_true (by rw [← tv, y, zm])]; rfl
        · refine go (Or.inr ⟨rfl, ?_⟩) (nx_e (nx_e (nx_e e)))
          unfold tkB
          rw [decide_eq_false (fun z => y (Int32.toInt_inj.mp (by rw [tv, z, zm])))]; rfl
/-- what tryAll needs, out of what legal needs -/
theorem ral_lg (O : PzOk L P) (H : LOk L) (W : LgW V h L P) : RAl V h L P.1 (ovP P) (rtP P) (pzQ P 0) (pzS P) (hdP P) := by
  obtain ⟨w0, wm, rb, vp, w28, w86, w87, w88⟩ := W
  have sq := sq_64 H
  refine ⟨⟨rwd_b w0 rb, ⟨w86, w87, w88⟩, rb.1.2.1, fun t => ?_⟩, wm, rb.1.2.2.1, rb.2.2.1, fun q hq => by rw [rb.2.2.2.1 q hq]; rfl, fun z => ?_, fun m hm => (rb.2.2.2.2.2.2.1 (2 * m + pzS P) (by have := O.2.2.1; omega)).symm⟩
  · have n3 := rb.2.2.2.2.1
    constructor
    · rintro ⟨k, k1, k2, k3⟩
      refine ⟨k, k1, by omega, ?_⟩
      have := rb.2.2.2.2.2.1 k (by omega)
      omega
    · rintro ⟨i, i1, i2, e⟩
      refine ⟨i, i1, by omega, ?_⟩
      rw [rb.2.2.2.2.2.1 i i2, e]
  · have p := ov_p O z
    exact ⟨rb.2.2.2.2.2.1 0 (by omega), by omega, p.2.2.1⟩
theorem moa_len (H : LOk L) (K : LawK L) (O : PzOk L P) : (moP L P).length ≤ 2977 := by
  have sq := sq_64 H
  unfold moP moA moD
  split
  · have := mo_2977 (L := L) (M := P.1) (ov := ovP P) (rt := rtP P) (p0 := pzQ P 0) (sd := (pzS P : Int)) (hd := hdP P) H O.1 (lawk_b K) (ov_0 O) (n := 64) (K := 0) (by decide) (by decide)
    exact this
  · exact mo_2977 H O.1 (lawk_b K) (ov_0 O) (by decide) (by omega)
/-- legal, whole -/
theorem lg_r (D : VD V) (H : LOk L) (K : LawK L) (O : PzOk L P) (W : LgW V h L P) (e : sX15_legal F h (V 16) (V 13) (V 14) = some o) : FrV V (wl wlg) h o ∧ RLs V o (lgL L P) := by
  have z0 : (0 : Int32).toInt = 0 := rfl
  unfold sX15_legal at e
  replace e := nm_s e; obtain ⟨g, ug, e⟩ := e
  have A : FrV V (wl [(14, 0)]) h g := by rw [ug]; exact fv_w rfl
  have Wg := lgw_f D W A (by decide) rfl rfl rfl (by decide)
  replace e := cl_s e; obtain ⟨o2, eo2, e⟩ := e
  obtain ⟨B, q1, _⟩ := er_r H K O Wg.1 Wg.2.2.1 eo2
  have AB : FrV V (wl wlg) h o2.2 := fv_t (fv_s A (by decide)) (fv_s B (by decide))
  have W2 := lgw_f D Wg B (by decide) rfl rfl rfl (by decide)
  unfold lgL
  rcases br_s e with ⟨c, e⟩ | ⟨c, e⟩
  · have c := le_i c
    rw [q1, z0] at c
    rw [if_neg (by omega)]
    replace e := cl_s e; obtain ⟨g4, eg4, e⟩ := e
    obtain ⟨C, R⟩ := ta_r D H O.1 (lawk_b K) O.2.2.1 (ral_lg O H W2) eg4
    have W4 := lgw_f D W2 C (by decide) rfl rfl rfl (by decide)
    have ln := moa_len H K O
    obtain ⟨E, Z⟩ := lg_28 D H K O F (kept := []) (rest := moP L P) (n := 0) W4 rfl rfl (Or.inl ⟨rfl, rfl⟩) (by omega) (fun v hv => mo_g H K O hv) ⟨by rw [R.1, Nat.zero_add]; rfl, Nat.le_refl _, fun j hj => absurd hj (Nat.not_lt_zero _), fun j hj => by rw [Nat.zero_add]; exact R.2 j hj⟩ e
    exact ⟨fv_t AB (fv_t (fv_s C (by decide)) E), Z⟩
  · have c := nle_i c
    rw [q1, z0] at c
    rw [if_pos c, so_e e]
    refine ⟨AB, ?_, fun i hi => absurd hi (Nat.not_lt_zero _)⟩
    rw [fvI D B 14 0, ug, r_I, if_pos ⟨rfl, rfl⟩]
    rfl
end
end
