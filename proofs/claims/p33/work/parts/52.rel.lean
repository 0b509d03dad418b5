abbrev Cel : Type := Nat × Nat × List (Nat × Int32) × List (Nat × Int64) × List (Nat × Option Nat)
def lkI : List (Nat × Int32) → Nat → Int32
  | [], _ => 0
  | p :: l, i => if i = p.1 then p.2 else lkI l i
def lkJ : List (Nat × Int64) → Nat → Int64
  | [], _ => 0
  | p :: l, i => if i = p.1 then p.2 else lkJ l i
def lkR : List (Nat × Option Nat) → Nat → Option Nat
  | [], _ => none
  | p :: l, i => if i = p.1 then p.2 else lkR l i
theorem lkI_c (i : Nat) (v : Int32) (l : List (Nat × Int32)) : lkI ((i, v) :: l) = upd (lkI l) i v := funext fun j => by
  show (if j = i then v else lkI l j) = _
  rfl
theorem lkJ_c (i : Nat) (v : Int64) (l : List (Nat × Int64)) : lkJ ((i, v) :: l) = vp_updL (lkJ l) i v := funext fun j => by
  show (if j = i then v else lkJ l j) = _
  rfl
theorem lkR_c (i : Nat) (v : Option Nat) (l : List (Nat × Option Nat)) : lkR ((i, v) :: l) = va_up (lkR l) i v := funext fun j => by
  show (if j = i then v else lkR l j) = _
  rfl
theorem lkI_0 : (fun _ => (0 : Int32)) = lkI [] := funext fun _ => rfl
theorem lkJ_0 : (fun _ => (0 : Int64)) = lkJ [] := funext fun _ => rfl
theorem lkR_0 : (fun _ => (none : Option Nat)) = lkR [] := funext fun _ => rfl
theorem lkR_m (n : Nat) : (fun _ => (none : Option Nat)) = fun i => (lkR [] i).map (n + ·) := funext fun _ => rfl
def rgR (b : Nat) : Nat → List (Nat × Option Nat)
  | 0 => []
  | m + 1 => (m, some (b + m)) :: rgR b m
theorem lk_rg (b : Nat) : ∀ m i, lkR (rgR b m) i = if i < m then some (b + i) else none
  | 0, i => by rw [if_neg (by omega)]; rfl
  | m + 1, i => by
    show (if i = m then some (b + m) else lkR (rgR b m) i) = _
    rw [lk_rg b m i]
    by_cases e : i = m
    · rw [if_pos e, if_pos (by omega), e]
    · rw [if_neg e]
      by_cases l : i < m
      · rw [if_pos l, if_pos (by omega)]
      · rw [if_neg l, if_neg (by omega)]
abbrev Qs : Type := (Nat × Nat) × List (List (List Cel))
def cd : Cel := (99, 0, [], [], [])
def lget {α : Type} (d : α) : List α → Nat → α
  | [], _ => d
  | x :: _, 0 => x
  | _ :: xs, k + 1 => lget d xs k
def lset {α : Type} (d : α) : List α → Nat → α → List α
  | [], 0, v => [v]
  | [], k + 1, v => d :: lset d [] k v
  | _ :: xs, 0, v => v :: xs
  | x :: xs, k + 1, v => x :: lset d xs k v
theorem lget_lset {α : Type} (d : α) : ∀ (l : List α) (k : Nat) (v : α) (j : Nat), lget d (lset d l k v) j = if j = k then v else lget d l j
  | [], 0, v, 0 => rfl
  | [], 0, v, j + 1 => rfl
  | [], k + 1, v, 0 => rfl
  | [], k + 1, v, j + 1 => by
    show lget d (lset d [] k v) j = _
    rw [lget_lset d [] k v j]
    by_cases e : j = k
    · simp [e]
    · simp [e, lget]
  | x :: xs, 0, v, 0 => rfl
  | x :: xs, 0, v, j + 1 => rfl
  | x :: xs, k + 1, v, 0 => rfl
  | x :: xs, k + 1, v, j + 1 => by
    show lget d (lset d xs k v) j = _
    rw [lget_lset d xs k v j]
    by_cases e : j = k
    · simp [e]
    · simp [e, lget]
def cg (q : Qs) (a : Nat) : Cel := lget cd (lget [] (lget [] q.2 (a / 64)) (a / 8 % 8)) (a % 8)
def cset (q : Qs) (a : Nat) (c : Cel) : List (List (List Cel)) :=
  lset [] q.2 (a / 64) (lset [] (lget [] q.2 (a / 64)) (a / 8 % 8) (lset cd (lget [] (lget [] q.2 (a / 64)) (a / 8 % 8)) (a % 8) c))
theorem cg_cset (q : Qs) (a : Nat) (c : Cel) (p : Nat × Nat) (b : Nat) : cg (p, cset q a c) b = if b = a then c else cg q b := by
  unfold cg cset
  simp only [lget_lset]
  by_cases e : b = a
  · subst e; simp [lget_lset]
  · rw [if_neg e]
    by_cases e1 : b / 64 = a / 64
    · rw [if_pos e1, lget_lset]
      by_cases e2 : b / 8 % 8 = a / 8 % 8
      · rw [if_pos e2, lget_lset, if_neg (by omega), e1, e2]
      · rw [if_neg e2, e1]
    · rw [if_neg e1]
def cS (q : Qs) : Nat := q.1.1
def cK (q : Qs) (a : Nat) : Nat := (cg q a).1
def cN (q : Qs) (a : Nat) : Nat := (cg q a).2.1
def cI (q : Qs) (a i : Nat) : Int32 := lkI (cg q a).2.2.1 i
def cJ (q : Qs) (a i : Nat) : Int64 := lkJ (cg q a).2.2.2.1 i
def cR (q : Qs) (a i : Nat) : Option Nat := lkR (cg q a).2.2.2.2 i
def qwI (q : Qs) (a i : Nat) (v : Int32) : Qs := (q.1, cset q a ((cg q a).1, (cg q a).2.1, (i, v) :: (cg q a).2.2.1, (cg q a).2.2.2))
def qwJ (q : Qs) (a i : Nat) (v : Int64) : Qs := (q.1, cset q a ((cg q a).1, (cg q a).2.1, (cg q a).2.2.1, (i, v) :: (cg q a).2.2.2.1, (cg q a).2.2.2.2))
def qwR (q : Qs) (a i : Nat) (v : Option Nat) : Qs := (q.1, cset q a ((cg q a).1, (cg q a).2.1, (cg q a).2.2.1, (cg q a).2.2.2.1, (i, v) :: (cg q a).2.2.2.2))
def qnC (q : Qs) (k n z : Nat) : Qs := ((q.1.1 + 1, q.1.2 + z), cset q q.1.1 (k, n, [], [], []))
def rel (u : Hp) (q : Qs) : Hp := ((hS u + q.1.1, hL u + q.1.2), (fun b => if b < hS u then hK u b else cK q (b - hS u)), (fun b => if b < hS u then hN u b else cN q (b - hS u)), (fun b => if b < hS u then hI u b else cI q (b - hS u)), (fun b => if b < hS u then hJ u b else cJ q (b - hS u)), (fun b => if b < hS u then hR u b else fun i => (cR q (b - hS u) i).map (hS u + ·)))
abbrev rm1 (u : Hp) : Qs → Hp := rel u
abbrev rm2 (u : Hp) {α : Type} : α × Qs → α × Hp := fun r => (r.1, rel u r.2)
abbrev rm3 (u : Hp) : Nat × Qs → Nat × Hp := fun r => (hS u + r.1, rel u r.2)
theorem l_I (u : Hp) (q : Qs) (a i : Nat) : hI (rel u q) ((hS u) + a) i = cI q a i := by
  show (if (hS u) + a < (hS u) then hI u ((hS u) + a) else cI q ((hS u) + a - (hS u))) i = _
  rw [if_neg (by omega), Nat.add_sub_cancel_left]
theorem l_J (u : Hp) (q : Qs) (a i : Nat) : hJ (rel u q) ((hS u) + a) i = cJ q a i := by
  show (if (hS u) + a < (hS u) then hJ u ((hS u) + a) else cJ q ((hS u) + a - (hS u))) i = _
  rw [if_neg (by omega), Nat.add_sub_cancel_left]
theorem l_N (u : Hp) (q : Qs) (a : Nat) : hN (rel u q) ((hS u) + a) = cN q a := by
  show (if (hS u) + a < (hS u) then hN u ((hS u) + a) else cN q ((hS u) + a - (hS u))) = _
  rw [if_neg (by omega), Nat.add_sub_cancel_left]
theorem l_R (u : Hp) (q : Qs) (a i : Nat) : hR (rel u q) ((hS u) + a) i = (cR q a i).map ((hS u) + ·) := by
  show (if (hS u) + a < (hS u) then hR u ((hS u) + a) else fun i => (cR q ((hS u) + a - (hS u)) i).map ((hS u) + ·)) i = _
  rw [if_neg (by omega), Nat.add_sub_cancel_left]
theorem rel_eq {u h : Hp} {q : Qs} (h1 : h.1 = ((hS u) + q.1.1, hL u + q.1.2)) (hk : ∀ b, hK h b = hK (rel u q) b) (hn : ∀ b, hN h b = hN (rel u q) b) (hi : ∀ b, hI h b = hI (rel u q) b) (hj : ∀ b, hJ h b = hJ (rel u q) b) (hr : ∀ b, hR h b = hR (rel u q) b) : h = rel u q := by
  have e1 : hK h = hK (rel u q) := funext hk
  have e2 : hN h = hN (rel u q) := funext hn
  have e3 : hI h = hI (rel u q) := funext hi
  have e4 : hJ h = hJ (rel u q) := funext hj
  have e5 : hR h = hR (rel u q) := funext hr
  have e6 : h = (h.1, hK h, hN h, hI h, hJ h, hR h) := rfl
  rw [e6, e1, e2, e3, e4, e5, h1]
  rfl
def Top (u : Hp) : Prop := ∀ b, hS u ≤ b → hK u b = 99 ∧ hN u b = 0 ∧ hI u b = (fun _ => 0) ∧ hJ u b = (fun _ => 0) ∧ hR u b = (fun _ => none)
theorem rel_lo (u : Hp) (q : Qs) {b : Nat} (hb : b < (hS u)) : hK (rel u q) b = hK u b ∧ hN (rel u q) b = hN u b ∧ hI (rel u q) b = hI u b ∧ hJ (rel u q) b = hJ u b ∧ hR (rel u q) b = hR u b :=
  ⟨if_pos hb, if_pos hb, if_pos hb, if_pos hb, if_pos hb⟩
theorem rel_hi (u : Hp) (q : Qs) (a : Nat) : hK (rel u q) ((hS u) + a) = (cg q a).1 ∧ hN (rel u q) ((hS u) + a) = (cg q a).2.1 ∧ hI (rel u q) ((hS u) + a) = lkI (cg q a).2.2.1 ∧ hJ (rel u q) ((hS u) + a) = lkJ (cg q a).2.2.2.1 ∧ hR (rel u q) ((hS u) + a) = (fun i => (lkR (cg q a).2.2.2.2 i).map ((hS u) + ·)) := by
  have h0 : ¬ ((hS u) + a < (hS u)) := by omega
  have h1 : (hS u) + a - (hS u) = a := by omega
  refine ⟨?_, ?_, ?_, ?_, ?_⟩
  · show (if (hS u) + a < (hS u) then hK u ((hS u) + a) else cK q ((hS u) + a - (hS u))) = _
    rw [if_neg h0, h1]; rfl
  · show (if (hS u) + a < (hS u) then hN u ((hS u) + a) else cN q ((hS u) + a - (hS u))) = _
    rw [if_neg h0, h1]; rfl
  · show (if (hS u) + a < (hS u) then hI u ((hS u) + a) else cI q ((hS u) + a - (hS u))) = _
    rw [if_neg h0, h1]; rfl
  · show (if (hS u) + a < (hS u) then hJ u ((hS u) + a) else cJ q ((hS u) + a - (hS u))) = _
    rw [if_neg h0, h1]; rfl
  · show (if (hS u) + a < (hS u) then hR u ((hS u) + a) else fun i => (cR q ((hS u) + a - (hS u)) i).map ((hS u) + ·)) = _
    rw [if_neg h0, h1]; rfl
theorem rel_of {u h : Hp} {q : Qs} (h1 : h.1 = ((hS u) + q.1.1, hL u + q.1.2)) (lo : ∀ b, b < (hS u) → hK h b = hK u b ∧ hN h b = hN u b ∧ hI h b = hI u b ∧ hJ h b = hJ u b ∧ hR h b = hR u b) (hi : ∀ a, hK h ((hS u) + a) = (cg q a).1 ∧ hN h ((hS u) + a) = (cg q a).2.1 ∧ hI h ((hS u) + a) = lkI (cg q a).2.2.1 ∧ hJ h ((hS u) + a) = lkJ (cg q a).2.2.2.1 ∧ hR h ((hS u) + a) = (fun i => (lkR (cg q a).2.2.2.2 i).map ((hS u) + ·))) : h = rel u q := by
  have hb : ∀ b, b < (hS u) ∨ ∃ a, b = (hS u) + a := fun b => by
    by_cases e : b < (hS u)
    · exact .inl e
    · exact .inr ⟨b - (hS u), by omega⟩
  apply rel_eq h1
  all_goals
    intro b
    rcases hb b with e | ⟨a, rfl⟩
  · rw [(lo b e).1, (rel_lo u q e).1]
  · rw [(hi a).1, (rel_hi u q a).1]
  · rw [(lo b e).2.1, (rel_lo u q e).2.1]
  · rw [(hi a).2.1, (rel_hi u q a).2.1]
  · rw [(lo b e).2.2.1, (rel_lo u q e).2.2.1]
  · rw [(hi a).2.2.1, (rel_hi u q a).2.2.1]
  · rw [(lo b e).2.2.2.1, (rel_lo u q e).2.2.2.1]
  · rw [(hi a).2.2.2.1, (rel_hi u q a).2.2.2.1]
  · rw [(lo b e).2.2.2.2, (rel_lo u q e).2.2.2.2]
  · rw [(hi a).2.2.2.2, (rel_hi u q a).2.2.2.2]
theorem l_wI (u : Hp) (q : Qs) (a i : Nat) (v : Int32) : wI (rel u q) ((hS u) + a) i v = rel u (qwI q a i v) := by
  apply rel_of
  · rfl
  · intro b hb
    obtain ⟨h1, h2, h3, h4, h5⟩ := rel_lo u q hb
    refine ⟨h1, h2, ?_, h4, h5⟩
    rw [wI_I, if_neg (by omega)]; exact h3
  · intro b
    obtain ⟨h1, h2, h3, h4, h5⟩ := rel_hi u q b
    unfold qwI
    rw [cg_cset, wI_I, wI_K, wI_N, wI_J, wI_R, h1, h2, h3, h4, h5]
    by_cases e : b = a
    · subst e; simp [lkI_c, lkJ_c]
    · have : (hS u) + b ≠ (hS u) + a := by omega
      simp [e]
theorem l_wJ (u : Hp) (q : Qs) (a i : Nat) (v : Int64) : wJ (rel u q) ((hS u) + a) i v = rel u (qwJ q a i v) := by
  apply rel_of
  · rfl
  · intro b hb
    obtain ⟨h1, h2, h3, h4, h5⟩ := rel_lo u q hb
    refine ⟨h1, h2, h3, ?_, h5⟩
    rw [wJ_J, if_neg (by omega)]; exact h4
  · intro b
    obtain ⟨h1, h2, h3, h4, h5⟩ := rel_hi u q b
    unfold qwJ
    rw [cg_cset, wJ_I, wJ_K, wJ_N, wJ_J, wJ_R, h1, h2, h3, h4, h5]
    by_cases e : b = a
    · subst e; simp [lkI_c, lkJ_c]
    · have : (hS u) + b ≠ (hS u) + a := by omega
      simp [e]
theorem l_wR' (u : Hp) (q : Qs) (a i : Nat) (v : Option Nat) : wR (rel u q) ((hS u) + a) i (v.map ((hS u) + ·)) = rel u (qwR q a i v) := by
  apply rel_of
  · rfl
  · intro b hb
    obtain ⟨h1, h2, h3, h4, h5⟩ := rel_lo u q hb
    refine ⟨h1, h2, h3, h4, ?_⟩
    rw [wR_R, if_neg (by omega)]; exact h5
  · intro b
    obtain ⟨h1, h2, h3, h4, h5⟩ := rel_hi u q b
    unfold qwR
    rw [cg_cset, wR_I, wR_K, wR_N, wR_J, wR_R, h1, h2, h3, h4, h5]
    by_cases e : b = a
    · subst e
      simp only [if_true, true_and]
      funext j
      by_cases e2 : j = i
      · simp [lkR_c, va_up, e2]
      · simp [lkR_c, va_up, e2]
    · have : (hS u) + b ≠ (hS u) + a := by omega
      simp [e]
theorem l_wR (u : Hp) (q : Qs) (a i b : Nat) : wR (rel u q) ((hS u) + a) i (some ((hS u) + b)) = rel u (qwR q a i (some b)) := l_wR' u q a i (some b)
theorem l_wR0 (u : Hp) (q : Qs) (a i : Nat) : wR (rel u q) ((hS u) + a) i none = rel u (qwR q a i none) := l_wR' u q a i none
theorem l_nC (u : Hp) (q : Qs) (k m z : Nat) : nC (rel u q) k m z = rel u (qnC q k m z) := by
  have hs : (rel u q).1.1 = (hS u) + q.1.1 := rfl
  apply rel_of
  · show ((hS u) + q.1.1 + 1, hL u + q.1.2 + z) = ((hS u) + (q.1.1 + 1), hL u + (q.1.2 + z))
    rw [Nat.add_assoc, Nat.add_assoc]
  · intro b hb
    obtain ⟨h1, h2, h3, h4, h5⟩ := rel_lo u q hb
    have hne : b ≠ (hS u) + q.1.1 := by omega
    refine ⟨(if_neg hne).trans h1, (if_neg hne).trans h2, (if_neg hne).trans h3, (if_neg hne).trans h4, (if_neg hne).trans h5⟩
  · intro b
    obtain ⟨h1, h2, h3, h4, h5⟩ := rel_hi u q b
    unfold qnC
    rw [cg_cset]
    by_cases e : b = q.1.1
    · subst e
      rw [if_pos rfl]
      exact ⟨if_pos rfl, if_pos rfl, (if_pos rfl).trans lkI_0, (if_pos rfl).trans lkJ_0, (if_pos rfl).trans (lkR_m _)⟩
    · have hne : (hS u) + b ≠ (hS u) + q.1.1 := by omega
      rw [if_neg e]
      exact ⟨(if_neg hne).trans h1, (if_neg hne).trans h2, (if_neg hne).trans h3, (if_neg hne).trans h4, (if_neg hne).trans h5⟩
theorem nm_rel {β : Type} (u : Hp) (q : Qs) (k : Hp → Option β) : nm (rel u q) k = nm q (fun a => k (rel u a)) := id rfl
theorem nm_hS {β : Type} (u : Hp) (q : Qs) (k : Nat → Option β) : nm (hS (rel u q)) k = nm (cS q) (fun a => k ((hS u) + a)) := id rfl
theorem l_onr {β : Type} (n : Nat) (x : Option Nat) (a : Option β) (k : Nat → Option β) : onr (x.map (n + ·)) a k = onr x a (fun r => k (n + r)) := by
  cases x <;> rfl
theorem m_onr {α β : Type} (f : α → β) (x : Option Nat) (a : Option α) (k : Nat → Option α) : (onr x a k).map f = onr x (a.map f) (fun r => (k r).map f) := by
  cases x <;> rfl
def cinner (k : Nat) : Nat → Qs → Qs
  | 0, q => q
  | m + 1, q => cinner k m (qnC q 17 k k)
def couter (q : Qs) (m : Nat) : Qs := ((q.1.1 + 1, q.1.2 + m), cset q q.1.1 (23, m, [], [], rgR (q.1.1 + 1) m))
def qnM (q : Qs) (m k : Nat) : Qs := cinner k m (couter q m)
theorem cinner_1 (k : Nat) : ∀ (m : Nat) (q : Qs), (cinner k m q).1 = (q.1.1 + m, q.1.2 + m * k)
  | 0, q => by simp [cinner]
  | m + 1, q => by
    rw [cinner, cinner_1 k m]
    show (q.1.1 + 1 + m, q.1.2 + k + m * k) = _
    rw [Nat.succ_mul]
    congr 1
    · omega
    · omega
theorem cinner_g (k : Nat) : ∀ (m : Nat) (q : Qs) (a : Nat), cg (cinner k m q) a = if q.1.1 ≤ a ∧ a < q.1.1 + m then ((17, k, [], [], []) : Cel) else cg q a
  | 0, q, a => by
    rw [cinner, if_neg (by omega)]
  | m + 1, q, a => by
    rw [cinner, cinner_g k m]
    have e : (qnC q 17 k k).1.1 = q.1.1 + 1 := rfl
    have e2 : cg (qnC q 17 k k) a = if a = q.1.1 then ((17, k, [], [], []) : Cel) else cg q a := by
      unfold qnC; rw [cg_cset]
    rw [e, e2]
    by_cases h1 : q.1.1 + 1 ≤ a ∧ a < q.1.1 + 1 + m
    · rw [if_pos h1, if_pos (by omega)]
    · rw [if_neg h1]
      by_cases h2 : a = q.1.1
      · rw [if_pos h2, if_pos (by omega)]
      · rw [if_neg h2, if_neg (by omega)]
theorem l_nM (u : Hp) (q : Qs) (m k : Nat) : nM (rel u q) m k = rel u (qnM q m k) := by
  have hg : ∀ a, cg (qnM q m k) a = if q.1.1 + 1 ≤ a ∧ a < q.1.1 + 1 + m then ((17, k, [], [], []) : Cel) else if a = q.1.1 then ((23, m, [], [], rgR (q.1.1 + 1) m) : Cel) else cg q a := by
    intro a
    unfold qnM
    rw [cinner_g]
    have : cg (couter q m) a = if a = q.1.1 then ((23, m, [], [], rgR (q.1.1 + 1) m) : Cel) else cg q a := by
      unfold couter; rw [cg_cset]
    rw [this]
    rfl
  have hs : (rel u q).1.1 = (hS u) + q.1.1 := rfl
  apply rel_of
  · have e : (qnM q m k).1 = (q.1.1 + 1 + m, q.1.2 + m + m * k) := cinner_1 k m (couter q m)
    rw [e]
    show ((hS u) + q.1.1 + 1 + m, hL u + q.1.2 + m + m * k) = ((hS u) + (q.1.1 + 1 + m), hL u + (q.1.2 + m + m * k))
    congr 1
    · omega
    · omega
  · intro b hb
    obtain ⟨h1, h2, h3, h4, h5⟩ := rel_lo u q hb
    have n1 : b ≠ (hS u) + q.1.1 := by omega
    have n2 : ¬ ((hS u) + q.1.1 < b ∧ b < (hS u) + q.1.1 + 1 + m) := by omega
    have n3 : ¬ ((hS u) + q.1.1 ≤ b ∧ b < (hS u) + q.1.1 + 1 + m) := by omega
    exact ⟨(if_neg n1).trans ((if_neg n2).trans h1), (if_neg n1).trans ((if_neg n2).trans h2), (if_neg n3).trans h3, (if_neg n3).trans h4, (if_neg n1).trans ((if_neg n2).trans h5)⟩
  · intro a
    obtain ⟨h1, h2, h3, h4, h5⟩ := rel_hi u q a
    rw [hg]
    by_cases e : a = q.1.1
    · subst e
      have n1 : (hS u) + q.1.1 = (hS u) + q.1.1 := rfl
      have n3 : (hS u) + q.1.1 ≤ (hS u) + q.1.1 ∧ (hS u) + q.1.1 < (hS u) + q.1.1 + 1 + m := by omega
      rw [if_neg (by omega), if_pos rfl]
      refine ⟨if_pos rfl, if_pos rfl, (if_pos n3).trans lkI_0, (if_pos n3).trans lkJ_0, (if_pos rfl).trans ?_⟩
      funext i
      show _ = (lkR (rgR (q.1.1 + 1) m) i).map (hS u + ·)
      rw [lk_rg]
      by_cases hi : i < m
      · simp [hi, hs, Nat.add_assoc]
      · simp [hi]
    · have n1 : (hS u) + a ≠ (hS u) + q.1.1 := by omega
      by_cases e2 : q.1.1 + 1 ≤ a ∧ a < q.1.1 + 1 + m
      · have n2 : (hS u) + q.1.1 < (hS u) + a ∧ (hS u) + a < (hS u) + q.1.1 + 1 + m := by omega
        have n3 : (hS u) + q.1.1 ≤ (hS u) + a ∧ (hS u) + a < (hS u) + q.1.1 + 1 + m := by omega
        rw [if_pos e2]
        exact ⟨(if_neg n1).trans (if_pos n2), (if_neg n1).trans (if_pos n2), (if_pos n3).trans lkI_0, (if_pos n3).trans lkJ_0, (if_neg n1).trans ((if_pos n2).trans (lkR_m _))⟩
      · have n2 : ¬ ((hS u) + q.1.1 < (hS u) + a ∧ (hS u) + a < (hS u) + q.1.1 + 1 + m) := by omega
        have n3 : ¬ ((hS u) + q.1.1 ≤ (hS u) + a ∧ (hS u) + a < (hS u) + q.1.1 + 1 + m) := by omega
        rw [if_neg e2, if_neg e]
        exact ⟨(if_neg n1).trans ((if_neg n2).trans h1), (if_neg n1).trans ((if_neg n2).trans h2), (if_neg n3).trans h3, (if_neg n3).trans h4, (if_neg n1).trans ((if_neg n2).trans h5)⟩
theorem top_rel {u : Hp} (T : Top u) : u = rel u ((0, 0), []) := by
  apply rel_of
  · rfl
  · intro b hb; exact ⟨rfl, rfl, rfl, rfl, rfl⟩
  · intro a
    obtain ⟨h1, h2, h3, h4, h5⟩ := T (hS u + a) (Nat.le_add_right _ _)
    have z : cg ((0, 0), []) a = cd := rfl
    rw [z]
    exact ⟨h1, h2, h3.trans lkI_0, h4.trans lkJ_0, h5.trans (lkR_m _)⟩
theorem top_00 (n : Nat) : Top (h00 n) := fun b hb => ⟨rfl, rfl, rfl, rfl, rfl⟩

def fcN {β : Type} (n : Nat) (k : Nat → β) : β := match n with
  | 0 => k 0
  | Nat.succ m => k (Nat.succ m)
theorem fcN_eq {β : Type} (n : Nat) (k : Nat → Option β) : fcN n k = nm n k := by cases n <;> rfl
theorem fcN_ap {β : Type} (n : Nat) (k : Nat → β) : fcN n k = k n := by cases n <;> rfl
def mkI (n : Nat) (h : n < 4294967296) : Int32 := Int32.ofUInt32 (UInt32.ofBitVec (BitVec.ofFin ⟨n, h⟩))
def fcI {β : Type} (v : Int32) (k : Int32 → β) : β := fcN v.toBitVec.toNat fun n => if h : n < 4294967296 then k (mkI n h) else k v
theorem fcI_ap {β : Type} (v : Int32) (k : Int32 → β) : fcI v k = k v := by
  unfold fcI
  rw [fcN_ap, dif_pos v.toBitVec.isLt]
  rfl
theorem fcI_eq {β : Type} (v : Int32) (k : Int32 → Option β) : fcI v k = nm v k := fcI_ap v k
def lgk {α β : Type} (d : α) : List α → Nat → (α → β) → β
  | [], _, K => K d
  | x :: _, 0, K => K x
  | _ :: xs, k + 1, K => lgk d xs k K
theorem lgk_eq {α β : Type} (d : α) : ∀ (l : List α) (k : Nat) (K : α → β), lgk d l k K = K (lget d l k)
  | [], _, _ => rfl
  | _ :: _, 0, _ => rfl
  | _ :: xs, k + 1, K => lgk_eq d xs k K
def lsk {α β : Type} (d : α) : Nat → List α → α → (List α → β) → β
  | 0, [], v, K => K [v]
  | 0, _ :: xs, v, K => K (v :: xs)
  | k + 1, [], v, K => lsk d k [] v (fun t => K (d :: t))
  | k + 1, x :: xs, v, K => lsk d k xs v (fun t => K (x :: t))
theorem lsk_eq {α β : Type} (d : α) : ∀ (k : Nat) (l : List α) (v : α) (K : List α → β), lsk d k l v K = K (lset d l k v)
  | 0, [], _, _ => rfl
  | 0, _ :: _, _, _ => rfl
  | k + 1, [], v, K => lsk_eq d k [] v (fun t => K (d :: t))
  | k + 1, x :: xs, v, K => lsk_eq d k xs v (fun t => K (x :: t))
def cgk {β : Type} (t : List (List (List Cel))) (a : Nat) (K : Cel → β) : β := lgk [] t (a / 64) fun m => lgk [] m (a / 8 % 8) fun r => lgk cd r (a % 8) K
def csk {β : Type} (t : List (List (List Cel))) (a : Nat) (c : Cel) (K : List (List (List Cel)) → β) : β :=
  lgk [] t (a / 64) fun m => lgk [] m (a / 8 % 8) fun r => lsk cd (a % 8) r c fun r1 => lsk [] (a / 8 % 8) m r1 fun m1 => lsk [] (a / 64) t m1 K
theorem cgk_eq {β : Type} (q : Qs) (a : Nat) (K : Cel → β) : cgk q.2 a K = K (cg q a) := by
  unfold cgk; rw [lgk_eq, lgk_eq, lgk_eq]; rfl
theorem csk_eq {β : Type} (q : Qs) (a : Nat) (c : Cel) (K : List (List (List Cel)) → β) : csk q.2 a c K = K (cset q a c) := by
  unfold csk; rw [lgk_eq, lgk_eq, lsk_eq, lsk_eq, lsk_eq]; rfl
def cwIk {β : Type} (q : Qs) (a i : Nat) (v : Int32) (K : Qs → β) : β := fcN a fun a => fcN i fun i => fcI v fun v => match q with
  | (p, t) => cgk t a fun c => match c with
    | (k, n, I, J, R) => csk t a (k, n, (i, v) :: I, J, R) fun t => K (p, t)
def cwJk {β : Type} (q : Qs) (a i : Nat) (v : Int64) (K : Qs → β) : β := fcN a fun a => fcN i fun i => match q with
  | (p, t) => cgk t a fun c => match c with
    | (k, n, I, J, R) => csk t a (k, n, I, (i, v) :: J, R) fun t => K (p, t)
def cwRk {β : Type} (q : Qs) (a i : Nat) (v : Option Nat) (K : Qs → β) : β := fcN a fun a => fcN i fun i => match q with
  | (p, t) => cgk t a fun c => match c with
    | (k, n, I, J, R) => match v with
      | none => csk t a (k, n, I, J, (i, none) :: R) fun t => K (p, t)
      | some r => fcN r fun r => csk t a (k, n, I, J, (i, some r) :: R) fun t => K (p, t)
def cnCk {β : Type} (q : Qs) (k n z : Nat) (K : Qs → β) : β := fcN n fun n => match q with
  | ((s, l), t) => fcN (Nat.succ s) fun s1 => fcN (l + z) fun l1 => csk t s (k, n, [], [], []) fun t => K ((s1, l1), t)
def cnMk {β : Type} (q : Qs) (m k : Nat) (K : Qs → β) : β := K (qnM q m k)
theorem cwIk_eq {β : Type} (q : Qs) (a i : Nat) (v : Int32) (K : Qs → Option β) : cwIk q a i v K = nm (qwI q a i v) K := by
  unfold cwIk
  rw [fcN_ap, fcN_ap, fcI_ap]
  show cgk q.2 a (fun c => csk q.2 a (c.1, c.2.1, (i, v) :: c.2.2.1, c.2.2.2.1, c.2.2.2.2) fun t => K (q.1, t)) = _
  rw [cgk_eq, csk_eq]; rfl
theorem cwJk_eq {β : Type} (q : Qs) (a i : Nat) (v : Int64) (K : Qs → Option β) : cwJk q a i v K = nm (qwJ q a i v) K := by
  unfold cwJk
  rw [fcN_ap, fcN_ap]
  show cgk q.2 a (fun c => csk q.2 a (c.1, c.2.1, c.2.2.1, (i, v) :: c.2.2.2.1, c.2.2.2.2) fun t => K (q.1, t)) = _
  rw [cgk_eq, csk_eq]; rfl
theorem cwRk_eq {β : Type} (q : Qs) (a i : Nat) (v : Option Nat) (K : Qs → Option β) : cwRk q a i v K = nm (qwR q a i v) K := by
  unfold cwRk
  rw [fcN_ap, fcN_ap]
  cases v with
  | none =>
    show cgk q.2 a (fun c => csk q.2 a (c.1, c.2.1, c.2.2.1, c.2.2.2.1, (i, none) :: c.2.2.2.2) fun t => K (q.1, t)) = _
    rw [cgk_eq, csk_eq]; rfl
  | some r =>
    show cgk q.2 a (fun c => fcN r fun r => csk q.2 a (c.1, c.2.1, c.2.2.1, c.2.2.2.1, (i, some r) :: c.2.2.2.2) fun t => K (q.1, t)) = _
    rw [cgk_eq, fcN_ap, csk_eq]; rfl
theorem cnCk_eq {β : Type} (q : Qs) (k n z : Nat) (K : Qs → Option β) : cnCk q k n z K = nm (qnC q k n z) K := by
  unfold cnCk
  rw [fcN_ap]
  show fcN (Nat.succ q.1.1) (fun s1 => fcN (q.1.2 + z) fun l1 => csk q.2 q.1.1 (k, n, [], [], []) fun t => K ((s1, l1), t)) = _
  rw [fcN_ap, fcN_ap, csk_eq]; rfl
theorem cnMk_eq {β : Type} (q : Qs) (m k : Nat) (K : Qs → Option β) : cnMk q m k K = nm (qnM q m k) K := id rfl
theorem mapN {α β : Type} (f : α → β) : Option.map f none = none := id rfl
