/-! heaps worked out by computing: the typed heap behind a constructor -/
theorem adoptW {ρ : Nat → Nat} {c : Cm} {h o : Hp} (T : TH ρ c h) (O : Old h o) (ρ' w' : Nat → Nat) (le : h.1.1 ≤ o.1.1)
    (e1 : ∀ a, a < h.1.1 → ρ' a = ρ a) (e2 : ∀ a, o.1.1 ≤ a → ρ' a = 0) (ew : ∀ a, a < h.1.1 → w' a = cw c a)
    (n2 : ∀ a i, h.1.1 ≤ a → Rg (rgI (ρ' a) i).1 (rgI (ρ' a) i).2 (hI o a i) ∧ rP (c.2.1 50) (w' a) (ρ' a) i (hI o a i))
    (n3 : ∀ a i, h.1.1 ≤ a → rfK (ρ' a) i ≠ 0 → ∃ r, hR o a i = some r ∧ ρ' r = rfK (ρ' a) i)
    (n4 : ∀ a i, h.1.1 ≤ a → rfN (ρ' a) i ≠ 0 → ∀ r, hR o a i = some r → ρ' r = rfN (ρ' a) i) (n5 : ∀ a, h.1.1 ≤ a → rln (ρ' a) ≠ 0 → hN o a = rln (ρ' a))
    (n6 : ∀ t tb, h.1.1 ≤ t → ρ' t = 10 → hR o t 0 = some tb → (hI o t 1).toInt ≤ (hN o tb : Int) ∧ hN o tb ≤ 1200)
    (n7 : ∀ p i r, h.1.1 ≤ p → ρ' p = 4 → i < 3 → hR o p i = some r → h.1.1 ≤ r ∧ (∀ d, hJ o r d = 0))
    (n7u : ∀ p q i r, h.1.1 ≤ p → h.1.1 ≤ q → ρ' p = 4 → ρ' q = 4 → i < 3 → hR o p i = some r → hR o q i = some r → p = q)
    (n8 : ∀ j, j ≠ 50 → c.2.1 j = false) (n9 : ∀ a b, h.1.1 ≤ a → (sgl (ρ' a) || (ρ' a == 32 || ρ' a == 2)) = true → ρ' a = ρ' b → (sgl (ρ' a) = true ∨ w' a = w' b) → a = b)
    (nw : ∀ a i r, h.1.1 ≤ a → inh (ρ' a) = true → hR o a i = some r → w' r = w' a) (nk : ∀ a i r, h.1.1 ≤ a → kid (ρ' a) i ≠ 0 → hR o a i = some r → w' r = kid (ρ' a) i)
    (nr : ∀ a i r, h.1.1 ≤ a → ρ' a ≠ 0 → hR o a i = some r → r < o.1.1) :
    TH ρ' (o.1, (c.2.1, (w', c.2.2.2))) o := by
  obtain ⟨⟨t1, t2, t3, t4, t5, t6, t7, t8, t9⟩, ⟨o1, o2, o3, o4⟩, f⟩ := T
  rw [← t1] at o3 o4
  have lt : ∀ a, ρ a ≠ 0 → a < h.1.1 := o3
  have rl : ∀ a i r, ρ a ≠ 0 → hR h a i = some r → r < h.1.1 := o4
  refine ⟨⟨rfl, fun a i => ?_, fun a i hk => ?_, fun a i hk r hr => ?_, fun a hk => ?_, ?_, ?_, fun a i hk hm => ?_, fun a b hab hs => ?_⟩, ⟨fun a i r hi hr => ?_, fun a i r hk hr => ?_, fun a ha => ?_, fun a i r ha hr => ?_⟩, Nat.le_trans f.1 le, fun a i l h0 hs => ?_, fun a l h0 => ?_⟩
  · by_cases q : a < h.1.1
    · rw [e1 a q, (O a q).1]
      have y := t2 a i
      rw [← ew a q] at y
      exact y
    · exact n2 a i (by omega)
  · by_cases q : a < h.1.1
    · rw [e1 a q] at hk ⊢
      obtain ⟨r, h1, h2⟩ := t3 a i hk
      have hr0 : ρ r ≠ 0 := by rw [h2]; exact hk
      exact ⟨r, by rw [(O a q).2.2.1]; exact h1, by rw [e1 r (lt r hr0)]; exact h2⟩
    · exact n3 a i (by omega) hk
  · by_cases q : a < h.1.1
    · rw [e1 a q] at hk ⊢
      rw [(O a q).2.2.1] at hr
      have h2 := t4 a i hk r hr
      rw [e1 r (lt r (by rw [h2]; exact hk))]; exact h2
    · exact n4 a i (by omega) hk r hr
  · by_cases q : a < h.1.1
    · rw [e1 a q] at hk ⊢
      rw [(O a q).2.2.2]; exact t5 a hk
    · exact n5 a (by omega) hk
  · intro t tb ht hr
    by_cases q : t < h.1.1
    · rw [e1 t q] at ht
      rw [(O t q).2.2.1] at hr
      have hb := rl t 0 tb (by rw [ht]; decide) hr
      rw [(O t q).1, (O tb hb).2.2.2]
      exact t6 t tb ht hr
    · exact n6 t tb (by omega) ht hr
  · refine ⟨fun p q i a hi hp hq h1 h2 => ?_, fun p on of hp ho hf s hs d hd hb => ?_⟩
    · by_cases u : p < h.1.1
      · rw [e1 p u] at hp
        rw [(O p u).2.2.1] at h1
        have ha := rl p i a (by rw [hp]; decide) h1
        by_cases v : q < h.1.1
        · rw [e1 q v] at hq
          rw [(O q v).2.2.1] at h2
          exact t7.1 p q i a hi hp hq h1 h2
        · have := (n7 q i a (by omega) hq hi h2).1
          omega
      · by_cases v : q < h.1.1
        · rw [e1 q v] at hq
          rw [(O q v).2.2.1] at h2
          have ha := rl q i a (by rw [hq]; decide) h2
          have := (n7 p i a (by omega) hp hi h1).1
          omega
        · exact n7u p q i a (by omega) (by omega) hp hq hi h1 h2
    · by_cases u : p < h.1.1
      · rw [e1 p u] at hp
        rw [(O p u).2.2.1] at ho hf
        have b1 := rl p 0 on (by rw [hp]; decide) ho
        have b2 := rl p 1 of (by rw [hp]; decide) hf
        rw [(O of b2).2.1] at hb
        rw [(O on b1).1]
        exact t7.2 p on of hp ho hf s hs d hd hb
      · rw [(n7 p 1 of (by omega) hp (by decide) hf).2] at hb
        exact absurd hb (by rw [bj_zero]; decide)
  · by_cases q : a < h.1.1
    · rw [e1 a q] at hk hm
      obtain ⟨r, hr⟩ := t8 a i hk hm
      exact ⟨r, by rw [(O a q).2.2.1]; exact hr⟩
    · have hm' : c.2.1 (nid (ρ' a) i) = true := hm
      rw [n8 _ (nid50 _ _)] at hm'; exact absurd hm' (by decide)
  · by_cases q : a < h.1.1
    · by_cases v : b < h.1.1
      · rw [e1 a q] at hab hs
        rw [e1 b v] at hab
        refine t9 a b hab (hs.imp id (fun z => ⟨z.1, ?_⟩))
        rw [← ew a q, ← ew b v]
        exact z.2
      · refine (n9 b a (by omega) ?_ hab.symm ?_).symm
        · rw [hab] at hs
          rw [Bool.or_eq_true, Bool.or_eq_true, beq_iff_eq, beq_iff_eq]
          exact hs.imp id (fun z => z.1)
        · rw [hab] at hs
          exact hs.imp id (fun z => z.2.symm)
    · refine n9 a b (by omega) ?_ hab ?_
      · rw [Bool.or_eq_true, Bool.or_eq_true, beq_iff_eq, beq_iff_eq]
        exact hs.imp id (fun z => z.1)
      · exact hs.imp id (fun z => z.2)
  · show w' r = w' a
    by_cases q : a < h.1.1
    · rw [e1 a q] at hi
      rw [(O a q).2.2.1] at hr
      have a0 : ρ a ≠ 0 := fun z => by rw [z] at hi; exact absurd hi (by decide)
      rw [ew a q, ew r (rl a i r a0 hr)]
      exact o1 a i r hi hr
    · exact nw a i r (by omega) hi hr
  · show w' r = _
    by_cases q : a < h.1.1
    · rw [e1 a q] at hk ⊢
      rw [(O a q).2.2.1] at hr
      have a0 : ρ a ≠ 0 := fun z => by rw [z] at hk; exact absurd rfl hk
      rw [ew r (rl a i r a0 hr)]
      exact o2 a i r hk hr
    · exact nk a i r (by omega) hk hr
  · show a < o.1.1
    by_cases q : a < o.1.1
    · exact q
    · exact absurd (e2 a (by omega)) ha
  · show r < o.1.1
    by_cases q : a < h.1.1
    · rw [e1 a q] at ha
      rw [(O a q).2.2.1] at hr
      have := rl a i r ha hr
      omega
    · exact nr a i r (by omega) ha hr
  · have la : a < h.1.1 := Nat.lt_of_lt_of_le l f.1
    rw [e1 a la] at h0
    have hs' : cPm c (ρ a) (cw c a) i = false := by
      have : cPm c (ρ' a) (w' a) i = false := hs
      rw [e1 a la, ew a la] at this
      exact this
    obtain ⟨p1, p2, p3⟩ := f.2.1 a i l h0 hs'
    exact ⟨((O a la).1 i).trans p1, ((O a la).2.1 i).trans p2, ((O a la).2.2.1 i).trans p3⟩
  · have la : a < h.1.1 := Nat.lt_of_lt_of_le l f.1
    rw [e1 a la] at h0
    exact (O a la).2.2.2.trans (f.2.2 a l h0)

theorem lkI_m : ∀ (l : List (Nat × Int32)) (i : Nat), (∃ p, p ∈ l ∧ p.1 = i ∧ lkI l i = p.2) ∨ lkI l i = 0
  | [], _ => Or.inr rfl
  | p :: l, i => by
    by_cases e : i = p.1
    · exact Or.inl ⟨p, List.mem_cons_self, e.symm, by show (if i = p.1 then p.2 else lkI l i) = _; rw [if_pos e]⟩
    · have z : lkI (p :: l) i = lkI l i := by show (if i = p.1 then p.2 else lkI l i) = _; rw [if_neg e]
      rcases lkI_m l i with ⟨q, m, x, y⟩ | y
      · exact Or.inl ⟨q, List.mem_cons_of_mem _ m, x, z.trans y⟩
      · exact Or.inr (z.trans y)
theorem lkR_e : ∀ (l : List (Nat × Option Nat)) (i r : Nat), lkR l i = some r → (i, some r) ∈ l
  | [], _, _, e => nomatch e
  | p :: l, i, r, e => by
    have z : (if i = p.1 then p.2 else lkR l i) = some r := e
    by_cases q : i = p.1
    · rw [if_pos q] at z
      have : p = (i, some r) := by rw [q, ← z]
      rw [this]; exact List.mem_cons_self
    · rw [if_neg q] at z
      exact List.mem_cons_of_mem _ (lkR_e l i r z)
theorem lkJ_z : ∀ (l : List (Nat × Int64)) (i : Nat), (l.all fun p => decide (p.2 = 0)) = true → lkJ l i = 0
  | [], _, _ => rfl
  | p :: l, i, e => by
    rw [List.all_cons, Bool.and_eq_true, decide_eq_true_eq] at e
    show (if i = p.1 then p.2 else lkJ l i) = 0
    by_cases q : i = p.1
    · rw [if_pos q]; exact e.1
    · rw [if_neg q]; exact lkJ_z l i e.2
def bnd (k : Nat) : Nat := bif Nat.beq k 4 then 5 else bif Nat.beq k 16 then 72 else bif Nat.beq k 57 then 60 else 21
theorem rfK_b (k i : Nat) (h : rfK k i ≠ 0) : (k ≤ 16 ∨ k = 39 ∨ k = 40 ∨ k = 57) ∧ i < bnd k := by
  unfold rfK at h
  split at h
  all_goals first
    | exact ⟨by decide, by decide⟩
    | exact absurd rfl h
    | (refine ⟨by decide, ?_⟩; split at h <;> first | exact absurd rfl h | (show _ < 21; omega) | (show _ < 60; omega))
theorem rg_zero (k i : Nat) : (k = 16 ∧ (i = 11 ∨ i = 12 ∨ i = 13)) ∨ ((rgI k i).1 ≤ 0 ∧ 0 ≤ (rgI k i).2) := by
  unfold rgI
  split
  all_goals first
    | exact Or.inr (by decide)
    | (refine Or.inr ?_; unfold rgO1; split <;> decide)
    | (refine Or.inr ?_; unfold rgO2; split <;> decide)
    | (refine Or.inr ?_; unfold rgO3; split <;> decide)
    | (refine Or.inr ?_; unfold rgO4; split <;> decide)
    | (refine Or.inr ?_; unfold rgO5; split <;> decide)
    | (refine Or.inr ?_; unfold rgO6; split <;> decide)
    | (refine Or.inr ?_; unfold rgO7; split <;> decide)
    | (refine Or.inr ?_; unfold rgO8; split <;> decide)
    | (refine Or.inr ?_; unfold rgO10; split <;> decide)
    | (refine Or.inr ?_; unfold rgO11; split <;> decide)
    | (refine Or.inr ?_; unfold rgO13; split <;> decide)
    | (refine Or.inr ?_; unfold rgO14; split <;> decide)
    | (refine Or.inr ?_; unfold rgO15; split <;> decide)
    | (unfold rgO16; split <;> first | exact Or.inr (by decide) | exact Or.inl ⟨rfl, by decide⟩)
theorem ky_zero : KyX 0 := fun s _ _ => by
  have z : ((0 : Int32) >>> (((5 : Int32) * s) &&& 31)) = 0 := by
    apply Int32.toBitVec_inj.mp
    rw [Int32.toBitVec_shiftRight]
    exact BitVec.zero_sshiftRight
  rw [z]; decide
theorem gm_zero : GM 0 := ⟨⟨by decide, by decide⟩, Or.inl ⟨by decide, by decide⟩, Or.inl ⟨by decide, by decide⟩⟩
theorem rp_zero {q : Bool} {w k i : Nat} (hq : q = true → k ≠ 32) : rP q w k i 0 := by
  refine ⟨fun _ => gq_0 gm_zero, fun _ => Or.inl rfl, fun _ => fl_0, fun e => ⟨by show (0 : Int) ≤ _; omega, fun z => absurd e (hq z)⟩, fun _ => Or.inr (by decide), fun _ z => absurd z (by decide), fun _ => ky_zero⟩
def rPb (k i : Nat) (x : Int32) : Bool := !(spc k) || decide (x = 0) || (k == 32 && decide (x.toInt ≤ (i : Int))) || (k == 73 && rgb 97 122 x) || (k == 75 && (decide (x &&& (8 : Int32) = 0) || decide (x &&& (16 : Int32) = 0)))
theorem rp_bq {q : Bool} {w k i : Nat} {x : Int32} (hq : q = true → k ≠ 32) (h : rPb k i x = true) : rP q w k i x := by
  unfold rPb at h
  rw [Bool.or_eq_true, Bool.or_eq_true, Bool.or_eq_true, Bool.or_eq_true] at h
  rcases h with (((h | h) | h) | h) | h
  · exact rp0 (by rw [Bool.not_eq_true'] at h; exact h)
  · rw [decide_eq_true_eq.mp h]; exact rp_zero hq
  · rw [Bool.and_eq_true, beq_iff_eq, decide_eq_true_eq] at h
    rw [h.1] at hq ⊢
    exact rpD ⟨h.2, fun z => absurd rfl (hq z)⟩
  · rw [Bool.and_eq_true, beq_iff_eq] at h
    rw [h.1]
    exact rpL (Or.inr (rg_b h.2))
  · rw [Bool.and_eq_true, beq_iff_eq, Bool.or_eq_true, decide_eq_true_eq, decide_eq_true_eq] at h
    rw [h.1]
    exact rpF h.2
def gt3 {α : Type} (d : α) (t : List (List (List α))) (a : Nat) : α := lget d (lget [] (lget [] t (a / 64)) (a / 8 % 8)) (a % 8)
abbrev Rt : Type := List (List (List (Nat × Nat)))
def ro (t : Rt) (S a : Nat) : Nat := if a < S then (gt3 (0, 0) t a).1 else 0
def wo (t : Rt) (a : Nat) : Nat := (gt3 (0, 0) t a).2
def ckE (t : Rt) (S k w : Nat) (p : Nat × Option Nat) : Bool := match p.2 with
  | none => true
  | some r => (rfN k p.1 == 0 || ro t S r == rfN k p.1) && ((!(inh k) || wo t r == w) && ((kid k p.1 == 0 || wo t r == kid k p.1) && (k == 0 || decide (r < S))))
def ckK (t : Rt) (S k : Nat) (l : List (Nat × Option Nat)) : Bool := !(decide (k ≤ 16) || (k == 39 || (k == 40 || k == 57))) || (List.range (bnd k)).all fun i => rfK k i == 0 || match lkR l i with
  | none => false
  | some r => ro t S r == rfK k i
def nb (hi ng : Nat) (x : Int32) : Bool := bif Nat.blt x.toBitVec.toNat 2147483648 then Nat.ble x.toBitVec.toNat hi else Nat.ble (4294967296 - x.toBitVec.toNat) ng
theorem nb_e {hi ng : Nat} {x : Int32} (h : nb hi ng x = true) : -(ng : Int) ≤ x.toInt ∧ x.toInt ≤ (hi : Int) := by
  have e : x.toInt = if 2 * x.toBitVec.toNat < 2 ^ 32 then (x.toBitVec.toNat : Int) else (x.toBitVec.toNat : Int) - ((2 ^ 32 : Nat) : Int) := BitVec.toInt_eq_toNat_cond _
  have lt := x.toBitVec.isLt
  unfold nb at h
  generalize x.toBitVec.toNat = n at *
  have p : (2 : Nat) ^ 32 = 4294967296 := rfl
  rw [p] at e lt
  cases q : Nat.blt n 2147483648 with
  | true =>
    have q' : n < 2147483648 := Nat.le_of_ble_eq_true q
    rw [q] at h
    have h' : n ≤ hi := Nat.le_of_ble_eq_true h
    rw [if_pos (by omega)] at e
    omega
  | false =>
    have q' : ¬ n < 2147483648 := fun z => by rw [show Nat.blt n 2147483648 = true from Nat.ble_eq_true_of_le z] at q; exact absurd q (by decide)
    rw [q] at h
    have h' : 4294967296 - n ≤ ng := Nat.le_of_ble_eq_true h
    rw [if_neg (by omega)] at e
    omega
def ckG (k : Nat) (l : List (Nat × Int32)) : Bool := (bif Nat.beq k 34 then l.all (fun p => nb 23 2 p.2) else l.all fun p => rgb (rgI k p.1).1 (rgI k p.1).2 p.2 && rPb k p.1 p.2) && (!(k == 16) || (rgb 3 8 (lkI l 11) && (rgb 3 8 (lkI l 12) && rgb 9 64 (lkI l 13))))
theorem ckG_m {k : Nat} {l : List (Nat × Int32)} (h : ckG k l = true) {p : Nat × Int32} (m : p ∈ l) : Rg (rgI k p.1).1 (rgI k p.1).2 p.2 ∧ ∀ {q : Bool} {w : Nat}, (q = true → k ≠ 32) → rP q w k p.1 p.2 := by
  unfold ckG at h
  rw [Bool.and_eq_true] at h
  have z := h.1
  cases q : Nat.beq k 34 with
  | true =>
    have k34 : k = 34 := Nat.eq_of_beq_eq_true q
    rw [q] at z
    have z' : (l.all fun p => nb 23 2 p.2) = true := z
    subst k34
    have r := nb_e (List.all_eq_true.mp z' p m)
    refine ⟨⟨?_, ?_⟩, fun _ => rp0 rfl⟩
    · show (-2 : Int) ≤ _
      omega
    · show _ ≤ (23 : Int)
      omega
  | false =>
    rw [q] at z
    have z' : (l.all fun p => rgb (rgI k p.1).1 (rgI k p.1).2 p.2 && rPb k p.1 p.2) = true := z
    have w := List.all_eq_true.mp z' p m
    rw [Bool.and_eq_true] at w
    exact ⟨rg_b w.1, fun hq => rp_bq hq w.2⟩
def ckX (q : Qs) (a k : Nat) (c : Cel) : Bool := (!(k == 10) || match lkR c.2.2.2.2 0 with
  | none => true
  | some tb => decide ((lkI c.2.2.1 1).toInt ≤ (cN q tb : Int)) && decide (cN q tb ≤ 1200)) && (!(k == 4) || ((decide (lkR c.2.2.2.2 0 = some (a + 1)) && (decide (lkR c.2.2.2.2 1 = some (a + 2)) && decide (lkR c.2.2.2.2 2 = some (a + 3)))) && ((cg q (a + 1)).2.2.2.1.all (fun p => decide (p.2 = 0)) && ((cg q (a + 2)).2.2.2.1.all (fun p => decide (p.2 = 0)) && (cg q (a + 3)).2.2.2.1.all (fun p => decide (p.2 = 0))))))
def ckU (t : Rt) (S a k w : Nat) : Bool := !(sgl k || (k == 32 || k == 2)) || (List.range S).all fun b => !(ro t S b == k) || (!(sgl k) && !(wo t b == w)) || a == b
def ckC (t : Rt) (S : Nat) (q : Qs) (a : Nat) : Bool := match gt3 (0, 0) t a with
  | (k, w) => match cg q a with
    | (kd, n, I, J, R) => ckG k I && (R.all (ckE t S k w) && (ckK t S k R && ((rln k == 0 || n == rln k) && (ckX q a k (kd, n, I, J, R) && ckU t S a k w))))
def ckT (t : Rt) (S : Nat) (q : Qs) : Bool := decide (q.1.1 = S) && (List.range S).all (ckC t S q)
theorem ckC_e {t : Rt} {S a : Nat} {q : Qs} (h : ckT t S q = true) (l : a < S) : ckG (ro t S a) (cg q a).2.2.1 = true ∧ (cg q a).2.2.2.2.all (ckE t S (ro t S a) (wo t a)) = true ∧ ckK t S (ro t S a) (cg q a).2.2.2.2 = true ∧ (rln (ro t S a) = 0 ∨ cN q a = rln (ro t S a)) ∧ ckX q a (ro t S a) (cg q a) = true ∧ ckU t S a (ro t S a) (wo t a) = true := by
  unfold ckT at h
  rw [Bool.and_eq_true] at h
  have z := List.all_eq_true.mp h.2 a (List.mem_range.mpr l)
  have y : ckC t S q a = (ckG (gt3 (0, 0) t a).1 (cg q a).2.2.1 && ((cg q a).2.2.2.2.all (ckE t S (gt3 (0, 0) t a).1 (gt3 (0, 0) t a).2) && (ckK t S (gt3 (0, 0) t a).1 (cg q a).2.2.2.2 && ((rln (gt3 (0, 0) t a).1 == 0 || (cg q a).2.1 == rln (gt3 (0, 0) t a).1) && (ckX q a (gt3 (0, 0) t a).1 (cg q a) && ckU t S a (gt3 (0, 0) t a).1 (gt3 (0, 0) t a).2))))) := rfl
  rw [y] at z
  have e : ro t S a = (gt3 (0, 0) t a).1 := if_pos l
  rw [← e] at z
  simp only [Bool.and_eq_true, Bool.or_eq_true, beq_iff_eq] at z
  exact z
section
variable {ρ : Nat → Nat} {c : Cm} {u : Hp} {t : Rt} {S : Nat} {q : Qs}
/-- roles and holders behind it -/
def roJ (ρ : Nat → Nat) (t : Rt) (S m : Nat) (a : Nat) : Nat := if a < m then ρ a else ro t S (a - m)
def woJ (c : Cm) (t : Rt) (m : Nat) (a : Nat) : Nat := if a < m then cw c a else wo t (a - m)
theorem roJ_n {m a : Nat} : roJ ρ t S m (m + a) = ro t S a := by unfold roJ; rw [if_neg (by omega), Nat.add_sub_cancel_left]
theorem woJ_n {m a : Nat} : woJ c t m (m + a) = wo t a := by unfold woJ; rw [if_neg (by omega), Nat.add_sub_cancel_left]
theorem adj (T : TH ρ c u) (h : ckT t S q = true) (hq : c.2.1 50 = true → ∀ a, ro t S a ≠ 32) (hm : ∀ j, j ≠ 50 → c.2.1 j = false) (hd : ∀ a b, ρ a ≠ 0 → ro t S b ≠ ρ a) : TH (roJ ρ t S u.1.1) ((rel u q).1, (c.2.1, (woJ c t u.1.1, c.2.2.2))) (rel u q) := by
  have q1 : q.1.1 = S := by
    unfold ckT at h
    rw [Bool.and_eq_true, decide_eq_true_eq] at h
    exact h.1
  have out : ∀ a, ¬ a < S → ro t S a = 0 := fun a l => if_neg l
  have nw : ∀ a, u.1.1 ≤ a → ∃ b, a = u.1.1 + b := fun a l => ⟨a - u.1.1, by omega⟩
  have R : ∀ a i, hR (rel u q) (u.1.1 + a) i = (cR q a i).map (u.1.1 + ·) := fun a i => l_R u q a i
  have N : ∀ a, hN (rel u q) (u.1.1 + a) = cN q a := fun a => l_N u q a
  have I : ∀ a i, hI (rel u q) (u.1.1 + a) i = cI q a i := fun a i => l_I u q a i
  have J : ∀ a i, hJ (rel u q) (u.1.1 + a) i = cJ q a i := fun a i => l_J u q a i
  have Rs : ∀ {a i r}, hR (rel u q) (u.1.1 + a) i = some r → ∃ b, r = u.1.1 + b ∧ cR q a i = some b := fun {a i r} e => by
    rw [R] at e
    cases z : cR q a i with
    | none => rw [z] at e; exact nomatch e
    | some b => rw [z] at e; exact ⟨b, (Option.some.inj e).symm, rfl⟩
  have en : ∀ {a i b}, a < S → cR q a i = some b → ckE t S (ro t S a) (wo t a) (i, some b) = true := fun {a i b} l e => List.all_eq_true.mp (ckC_e h l).2.1 _ (lkR_e _ _ _ e)
  have en' : ∀ {a i b}, a < S → cR q a i = some b → (rfN (ro t S a) i = 0 ∨ ro t S b = rfN (ro t S a) i) ∧ (inh (ro t S a) = false ∨ wo t b = wo t a) ∧ (kid (ro t S a) i = 0 ∨ wo t b = kid (ro t S a) i) ∧ (ro t S a = 0 ∨ b < S) := fun {a i b} l e => by
    have z : ((rfN (ro t S a) i == 0 || ro t S b == rfN (ro t S a) i) && ((!(inh (ro t S a)) || wo t b == wo t a) && ((kid (ro t S a) i == 0 || wo t b == kid (ro t S a) i) && (ro t S a == 0 || decide (b < S))))) = true := en l e
    simpa only [Bool.and_eq_true, Bool.or_eq_true, beq_iff_eq, Bool.not_eq_true', decide_eq_true_eq] using z
  have s4 : ∀ {a}, a < S → ro t S a = 4 → (cR q a 0 = some (a + 1) ∧ cR q a 1 = some (a + 2) ∧ cR q a 2 = some (a + 3)) ∧ (∀ d, cJ q (a + 1) d = 0) ∧ (∀ d, cJ q (a + 2) d = 0) ∧ ∀ d, cJ q (a + 3) d = 0 := fun {a} l e => by
    have z := (ckC_e h l).2.2.2.2.1
    rw [e] at z
    unfold ckX at z
    rw [Bool.and_eq_true] at z
    have z2 := z.2
    simp only [beq_self_eq_true, Bool.not_true, Bool.false_or, Bool.and_eq_true, decide_eq_true_eq] at z2
    exact ⟨z2.1, fun d => lkJ_z _ d z2.2.1, fun d => lkJ_z _ d z2.2.2.1, fun d => lkJ_z _ d z2.2.2.2⟩
  refine adoptW (o := rel u q) T (fun b l => ?_) (roJ ρ t S u.1.1) (woJ c t u.1.1) (Nat.le_add_right _ _) (fun a l => if_pos l) (fun a l => ?_) (fun a l => if_pos l) (fun a i l => ?_) (fun a i l hk => ?_) (fun a i l hk r hr => ?_) (fun a l hk => ?_) (fun x tb l hx hr => ?_) (fun p i r l hp hi hr => ?_) (fun p p2 i r l1 l2 hp hp2 hi hr hr2 => ?_) hm (fun a b l hs hab hw => ?_) (fun a i r l hi hr => ?_) (fun a i r l hk hr => ?_) (fun a i r l h0 hr => ?_)
  · obtain ⟨_, k2, k3, k4, k5⟩ := rel_lo u q l
    exact ⟨fun i => congrFun k3 i, fun i => congrFun k4 i, fun i => congrFun k5 i, k2⟩
  · have l : u.1.1 + q.1.1 ≤ a := l
    obtain ⟨b, rfl⟩ := nw a (by omega)
    rw [roJ_n]; exact out b (by omega)
  · obtain ⟨b, rfl⟩ := nw a l
    rw [roJ_n, woJ_n, I]
    by_cases lb : b < S
    · have z := (ckC_e h lb).1
      have zm := @ckG_m _ _ z
      unfold ckG at z
      rw [Bool.and_eq_true] at z
      rcases lkI_m (cg q b).2.2.1 i with ⟨p, m, x, y⟩ | y
      · have w := zm m
        have y' : cI q b i = p.2 := y
        rw [y', ← x]
        exact ⟨w.1, w.2 (fun e => hq e b)⟩
      · have y' : cI q b i = 0 := y
        refine ⟨?_, by rw [y']; exact rp_zero (fun e => hq e b)⟩
        rcases rg_zero (ro t S b) i with ⟨k16, hi⟩ | zz
        · have z2 := z.2
          rw [k16] at z2 ⊢
          simp only [beq_self_eq_true, Bool.not_true, Bool.false_or, Bool.and_eq_true] at z2
          rcases hi with rfl | rfl | rfl
          · exact rg_b z2.1
          · exact rg_b z2.2.1
          · exact rg_b z2.2.2
        · rw [y']; exact zz
    · rw [out b lb]
      exact ⟨rg_top _, rp0 rfl⟩
  · obtain ⟨b, rfl⟩ := nw a l
    rw [roJ_n] at hk ⊢
    have lb : b < S := Decidable.byContradiction fun z => hk (by rw [out b z]; rfl)
    have z := (ckC_e h lb).2.2.1
    obtain ⟨d, hi⟩ := rfK_b _ _ hk
    unfold ckK at z
    rw [Bool.or_eq_true] at z
    rcases z with z | z
    · exfalso
      rw [Bool.not_eq_true', Bool.or_eq_false_iff, Bool.or_eq_false_iff, Bool.or_eq_false_iff, decide_eq_false_iff_not, beq_eq_false_iff_ne, beq_eq_false_iff_ne, beq_eq_false_iff_ne] at z
      rcases d with d | d | d | d
      · exact z.1 d
      · exact z.2.1 d
      · exact z.2.2.1 d
      · exact z.2.2.2 d
    · have w := List.all_eq_true.mp z i (List.mem_range.mpr hi)
      rw [Bool.or_eq_true, beq_iff_eq] at w
      rcases w with w | w
      · exact absurd w hk
      · rw [R]
        have e : cR q b i = lkR (cg q b).2.2.2.2 i := rfl
        cases y : lkR (cg q b).2.2.2.2 i with
        | none => rw [y] at w; exact nomatch w
        | some r =>
          rw [y] at w
          rw [e, y]
          exact ⟨u.1.1 + r, rfl, by rw [roJ_n]; exact beq_iff_eq.mp w⟩
  · obtain ⟨b, rfl⟩ := nw a l
    rw [roJ_n] at hk ⊢
    have lb : b < S := Decidable.byContradiction fun z => hk (by rw [out b z]; rfl)
    obtain ⟨r', rfl, er⟩ := Rs hr
    rw [roJ_n]
    exact (en' lb er).1.elim (fun z => absurd z hk) id
  · obtain ⟨b, rfl⟩ := nw a l
    rw [roJ_n] at hk ⊢
    have lb : b < S := Decidable.byContradiction fun z => hk (by rw [out b z]; rfl)
    rw [N]
    exact (ckC_e h lb).2.2.2.1.elim (fun z => absurd z hk) id
  · obtain ⟨b, rfl⟩ := nw x l
    rw [roJ_n] at hx
    have lb : b < S := Decidable.byContradiction fun z => by rw [out b z] at hx; exact absurd hx (by decide)
    obtain ⟨r', rfl, er⟩ := Rs hr
    have z := (ckC_e h lb).2.2.2.2.1
    rw [hx] at z
    unfold ckX at z
    rw [Bool.and_eq_true] at z
    have z1 := z.1
    have er' : lkR (cg q b).2.2.2.2 0 = some r' := er
    rw [er'] at z1
    simp only [beq_self_eq_true, Bool.not_true, Bool.false_or, Bool.and_eq_true, decide_eq_true_eq] at z1
    rw [I, N]
    exact z1
  · obtain ⟨b, rfl⟩ := nw p l
    rw [roJ_n] at hp
    have lb : b < S := Decidable.byContradiction fun z => by rw [out b z] at hp; exact absurd hp (by decide)
    obtain ⟨r', rfl, er⟩ := Rs hr
    obtain ⟨⟨x0, x1, x2⟩, y0, y1, y2⟩ := s4 lb hp
    refine ⟨by omega, fun d => ?_⟩
    rw [J]
    have : i = 0 ∨ i = 1 ∨ i = 2 := by omega
    rcases this with rfl | rfl | rfl
    · rw [x0] at er; rw [← Option.some.inj er]; exact y0 d
    · rw [x1] at er; rw [← Option.some.inj er]; exact y1 d
    · rw [x2] at er; rw [← Option.some.inj er]; exact y2 d
  · obtain ⟨b, rfl⟩ := nw p l1
    obtain ⟨b2, rfl⟩ := nw p2 l2
    rw [roJ_n] at hp hp2
    have lb : b < S := Decidable.byContradiction fun z => by rw [out b z] at hp; exact absurd hp (by decide)
    have lb2 : b2 < S := Decidable.byContradiction fun z => by rw [out b2 z] at hp2; exact absurd hp2 (by decide)
    obtain ⟨r', e', er⟩ := Rs hr
    obtain ⟨r2, e2, er2⟩ := Rs hr2
    obtain ⟨⟨x0, x1, x2⟩, _⟩ := s4 lb hp
    obtain ⟨⟨w0, w1, w2⟩, _⟩ := s4 lb2 hp2
    have : i = 0 ∨ i = 1 ∨ i = 2 := by omega
    rcases this with rfl | rfl | rfl
    · rw [x0] at er; rw [w0] at er2; have := Option.some.inj er; have := Option.some.inj er2; omega
    · rw [x1] at er; rw [w1] at er2; have := Option.some.inj er; have := Option.some.inj er2; omega
    · rw [x2] at er; rw [w2] at er2; have := Option.some.inj er; have := Option.some.inj er2; omega
  · obtain ⟨x, rfl⟩ := nw a l
    rw [roJ_n] at hs hab hw
    rw [woJ_n] at hw
    have k0 : ro t S x ≠ 0 := fun z => by rw [z] at hs; exact absurd hs (by decide)
    have lx : x < S := Decidable.byContradiction fun z => k0 (out x z)
    by_cases lb : b < u.1.1
    · exfalso
      have e : roJ ρ t S u.1.1 b = ρ b := if_pos lb
      rw [e] at hab
      exact hd b x (by rw [← hab]; exact k0) hab
    · obtain ⟨y, rfl⟩ := nw b (by omega)
      rw [roJ_n] at hab
      rw [woJ_n] at hw
      have ly : y < S := Decidable.byContradiction fun z => k0 (by rw [hab, out y z])
      have z := (ckC_e h lx).2.2.2.2.2
      unfold ckU at z
      rw [hs, Bool.not_true, Bool.false_or] at z
      have w := List.all_eq_true.mp z y (List.mem_range.mpr ly)
      rw [← hab] at w
      simp only [beq_self_eq_true, Bool.not_true, Bool.false_or, Bool.or_eq_true, Bool.and_eq_true, Bool.not_eq_true', beq_eq_false_iff_ne, beq_iff_eq] at w
      rcases w with ⟨w1, w2⟩ | w
      · rcases hw with hw | hw
        · rw [hw] at w1; exact absurd w1 (by decide)
        · exact absurd hw.symm w2
      · rw [w]
  · obtain ⟨b, rfl⟩ := nw a l
    rw [roJ_n] at hi
    have lb : b < S := Decidable.byContradiction fun z => by rw [out b z] at hi; exact absurd hi (by decide)
    obtain ⟨r', rfl, er⟩ := Rs hr
    rw [woJ_n, woJ_n]
    exact (en' lb er).2.1.elim (fun z => by rw [z] at hi; exact absurd hi (by decide)) id
  · obtain ⟨b, rfl⟩ := nw a l
    rw [roJ_n] at hk ⊢
    have lb : b < S := Decidable.byContradiction fun z => by rw [out b z] at hk; exact absurd rfl hk
    obtain ⟨r', rfl, er⟩ := Rs hr
    rw [woJ_n]
    exact (en' lb er).2.2.1.elim (fun z => absurd z hk) id
  · obtain ⟨b, rfl⟩ := nw a l
    rw [roJ_n] at h0
    have lb : b < S := Decidable.byContradiction fun z => h0 (out b z)
    obtain ⟨r', rfl, er⟩ := Rs hr
    show u.1.1 + r' < u.1.1 + q.1.1
    have := (en' lb er).2.2.2.elim (fun z => absurd z h0) id
    omega
end
