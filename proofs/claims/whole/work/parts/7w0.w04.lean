section
/-! ENDINGS, pure: a queue over a table -/
section
abbrev EtS := (Nod → Int) × (Nod → Nat) × List Nod
def upE {β : Type} (f : Nod → β) (x : Nod) (v : β) : Nod → β := fun y => if y = x then v else f y
def sumL : List Nod → (Nod → Nat) → Nat
  | [], _ => 0
  | y :: l, f => f y + sumL l f
def remS (D P : List Nod) (f : Nod → Nat) : Nat := sumL D (fun y => if y ∈ P then 0 else f y)
def alB (ta : Nod → Bool) (x : Nod) (e : Nod × Bool) : Bool := decide (e.1 = x) && (e.2 || !ta x)
def tcE (ta : Nod → Bool) (cur : Int) (S : EtS) (e : Nod × Bool) : EtS := if S.1 e.1 = 3000000 ∧ (e.2 = true ∨ ta e.1 = false) then (if cur < 0 then (upE S.1 e.1 (-cur - 1), S.2.1, S.2.2 ++ [e.1]) else if S.2.1 e.1 = 1 then (upE S.1 e.1 (1 - cur), upE S.2.1 e.1 0, S.2.2 ++ [e.1]) else (S.1, upE S.2.1 e.1 (S.2.1 e.1 - 1), S.2.2)) else S
theorem upe_s {β : Type} {f : Nod → β} {x : Nod} {v : β} : upE f x v x = v := if_pos rfl
theorem upe_o {β : Type} {f : Nod → β} {x y : Nod} {v : β} (n : ¬ y = x) : upE f x v y = f y := if_neg n
theorem suml_e {f g : Nod → Nat} : ∀ (l : List Nod), (∀ y, y ∈ l → f y = g y) → sumL l f = sumL l g := by
  intro l
  induction l with
  | nil => intro _; rfl
  | cons a l ih =>
    intro h
    show f a + sumL l f = g a + sumL l g
    rw [h a (List.mem_cons_self ..), ih (fun y hy => h y (List.mem_cons_of_mem _ hy))]
theorem suml_0 {f : Nod → Nat} : ∀ (l : List Nod), sumL l f = 0 → ∀ y, y ∈ l → f y = 0 := by
  intro l
  induction l with
  | nil => intro _ y hy; exact absurd hy (List.not_mem_nil)
  | cons a l ih =>
    intro h y hy
    have h : f a + sumL l f = 0 := h
    rcases List.mem_cons.mp hy with c | c
    · rw [c]; omega
    · exact ih (by omega) y c
theorem suml_z {f : Nod → Nat} : ∀ (l : List Nod), (∀ y, y ∈ l → f y = 0) → sumL l f = 0 := by
  intro l
  induction l with
  | nil => intro _; rfl
  | cons a l ih =>
    intro h
    show f a + sumL l f = 0
    rw [h a (List.mem_cons_self ..), ih (fun y hy => h y (List.mem_cons_of_mem _ hy))]
theorem rem_n {D : List Nod} {f : Nod → Nat} : remS D [] f = sumL D f := suml_e D (fun y _ => if_neg (List.not_mem_nil))
theorem rem_0 {D P : List Nod} {f : Nod → Nat} (h : remS D P f = 0) {y : Nod} (hy : y ∈ D) (n : ¬ y ∈ P) : f y = 0 := by
  have z := suml_0 D h y hy
  have z : (if y ∈ P then 0 else f y) = 0 := z
  rw [if_neg n] at z
  exact z
theorem rem_s {f : Nod → Nat} {P : List Nod} {y : Nod} (n : ¬ y ∈ P) : ∀ (D : List Nod), D.Nodup → y ∈ D → remS D P f = f y + remS D (P ++ [y]) f := by
  intro D
  induction D with
  | nil => intro _ h; exact absurd h (List.not_mem_nil)
  | cons a D ih =>
    intro nd h
    have nd := List.nodup_cons.mp nd
    have mm : ∀ z, ¬ z = y → (z ∈ P ++ [y] ↔ z ∈ P) := fun z zy => by
      rw [List.mem_append, List.mem_singleton]
      exact ⟨fun c => c.elim id (fun c => absurd c zy), Or.inl⟩
    have hd : ∀ Q : List Nod, remS (a :: D) Q f = (if a ∈ Q then 0 else f a) + remS D Q f := fun Q => rfl
    rw [hd, hd]
    by_cases c : a = y
    · have e : remS D (P ++ [y]) f = remS D P f := suml_e D (fun z hz => by
        have zy : ¬ z = y := fun w => nd.1 (by rw [c, ← w]; exact hz)
        by_cases q : z ∈ P
        · rw [if_pos q, if_pos ((mm z zy).mpr q)]
        · rw [if_neg q, if_neg (fun w => q ((mm z zy).mp w))])
      rw [c, if_neg n, if_pos (List.mem_append.mpr (Or.inr (List.mem_singleton.mpr rfl))), e]
      omega
    · have hy : y ∈ D := (List.mem_cons.mp h).resolve_left (fun z => c z.symm)
      have i := ih nd.2 hy
      by_cases q : a ∈ P
      · rw [if_pos q, if_pos ((mm a c).mpr q), i]; omega
      · rw [if_neg q, if_neg (fun w => q ((mm a c).mp w)), i]; omega
theorem nd_len {α : Type} [DecidableEq α] : ∀ (Q D : List α), Q.Nodup → (∀ x, x ∈ Q → x ∈ D) → Q.length ≤ D.length := by
  intro Q
  induction Q with
  | nil => intro D _ _; exact Nat.zero_le _
  | cons a Q ih =>
    intro D nd s
    have nd := List.nodup_cons.mp nd
    have aD := s a (List.mem_cons_self ..)
    have i := ih (D.erase a) nd.2 (fun x hx => (List.mem_erase_of_ne (fun z => nd.1 (by rw [← z]; exact hx))).mpr (s x (List.mem_cons_of_mem _ hx)))
    rw [List.length_erase_of_mem aD] at i
    have : 0 < D.length := List.length_pos_of_mem aD
    show Q.length + 1 ≤ D.length
    omega
end
section
variable {D : List Nod} {K : Nod → Nod → Nat} {v0 : Nod → Option Int} {Ar : Nod → Nod → Prop} {ta : Nod → Bool} {S : EtS} {P R : List Nod} {y : Nod}
noncomputable def dpE (w : Int) : Int := if 0 < w then 1000000 - w else 1000000 + w
def DcE (w : Int) : Prop := ∃ d : Nat, d < 1000000 ∧ (w = 1000000 - (d : Int) ∨ w = (d : Int) - 1000000)
/-- what holds of table and queue all the way -/
def CoE (D : List Nod) (v0 : Nod → Option Int) (Ar : Nod → Nod → Prop) (S : EtS) (Op : Nod → Prop) : Prop := (S.2.2.Nodup ∧ (∀ x, x ∈ S.2.2 → x ∈ D) ∧ (∀ x, S.1 x = 3000000 → x ∈ D)) ∧ (∀ x, x ∈ D → (x ∈ S.2.2 ↔ DcE (S.1 x))) ∧ S.2.2.Pairwise (fun a b => dpE (S.1 a) ≤ dpE (S.1 b)) ∧ (∀ (i : Nat) (x : Nod), S.2.2[i]? = some x → dpE (S.1 x) ≤ (i : Int)) ∧ ∀ x, x ∈ D → (∃ w, v0 x = some w ∧ S.1 x = w) ∨ (v0 x = none ∧ ((S.1 x = 3000000 ∧ 0 < S.2.1 x ∧ Op x) ∨ ∃ n, LW Ar S.1 x n ∨ LL Ar S.1 x n))
/-- between two of the queue -/
def BeI (D : List Nod) (K : Nod → Nod → Nat) (v0 : Nod → Option Int) (Ar : Nod → Nod → Prop) (ta : Nod → Bool) (S : EtS) (P R : List Nod) : Prop := S.2.2 = P ++ R ∧ CoE D v0 Ar S (fun x => S.2.1 x = remS D P (K x) ∧ ∀ z, z ∈ P → Ar x z → 0 < S.1 z) ∧ ∀ a b, a ∈ R → b ∈ R → dpE (S.1 b) ≤ dpE (S.1 a) + 1
/-- while one is gone back from -/
def MiE (D : List Nod) (K : Nod → Nod → Nat) (v0 : Nod → Option Int) (Ar : Nod → Nod → Prop) (ta : Nod → Bool) (S : EtS) (P : List Nod) (y : Nod) (cur : Int) (R : List Nod) (dn rs : List (Nod × Bool)) : Prop := (S.2.2 = P ++ y :: R ∧ S.1 y = cur ∧ ∀ x, K x y = (dn ++ rs).countP (alB ta x)) ∧ CoE D v0 Ar S (fun x => S.2.1 x = remS D (P ++ [y]) (K x) + rs.countP (alB ta x) ∧ (∀ z, z ∈ P → Ar x z → 0 < S.1 z) ∧ (cur < 0 → dn.countP (alB ta x) = 0)) ∧ ∀ b, b ∈ R → dpE (S.1 b) ≤ dpE cur + 1
theorem dp_w {w : Int} {d : Nat} (h : d < 1000000) (e : w = 1000000 - (d : Int)) : dpE w = (d : Int) := by
  unfold dpE; rw [if_pos (by omega)]; omega
theorem dp_l {w : Int} {d : Nat} (h : d < 1000000) (e : w = (d : Int) - 1000000) : dpE w = (d : Int) := by
  unfold dpE; rw [if_neg (by omega)]; omega
theorem dc_d {w : Int} (h : DcE w) : 0 ≤ dpE w ∧ dpE w < 1000000 ∧ ((0 < w ∧ w = 1000000 - dpE w) ∨ (w < 0 ∧ w = dpE w - 1000000)) ∧ ¬ w = 3000000 := by
  obtain ⟨d, hd, e | e⟩ := h
  · rw [dp_w hd e]; omega
  · rw [dp_l hd e]; omega
theorem al_n {ta : Nod → Bool} {x : Nod} {e : Nod × Bool} (h : ¬ x = e.1) : alB ta x e = false := by
  unfold alB
  rw [decide_eq_false (fun z => h z.symm)]
  rfl
theorem al_y {ta : Nod → Bool} {e : Nod × Bool} : alB ta e.1 e = true ↔ (e.2 = true ∨ ta e.1 = false) := by
  unfold alB
  rw [decide_eq_true rfl, Bool.true_and, Bool.or_eq_true, Bool.not_eq_true']
/-- what was decided stays so -/
theorem dec_k {W : Nod → Int} {x ν : Nod} {w : Int} {n n0 : Nat} (o : W ν = 3000000) (n6 : n0 < 1000000) (ew : w = 1000000 - (n0 : Int) ∨ w = (n0 : Int) - 1000000) (nn : n ≤ n0 + 1) (ne : ¬ x = ν) (h : LW Ar W x n ∨ LL Ar W x n) : LW Ar (upE W ν w) x n ∨ LL Ar (upE W ν w) x n := by
  rcases h with ⟨a, b, c, ⟨y, ay, ey⟩, m⟩ | ⟨a, b, c, ⟨y, ay, ey⟩, m⟩
  · have yn : ¬ y = ν := fun z => by rw [z, o] at ey; omega
    refine Or.inl ⟨a, b, by rw [upe_o ne]; exact c, ⟨y, ay, by rw [upe_o yn]; exact ey⟩, fun z d az d6 ez => ?_⟩
    by_cases q : z = ν
    · rw [q, upe_s] at ez
      rcases ew with f | f <;> omega
    · rw [upe_o q] at ez
      exact m z d az d6 ez
  · have yn : ¬ y = ν := fun z => by rw [z, o] at ey; omega
    refine Or.inr ⟨a, b, by rw [upe_o ne]; exact c, ⟨y, ay, by rw [upe_o yn]; exact ey⟩, fun z az => ?_⟩
    obtain ⟨d, hd, ed⟩ := m z az
    have q : ¬ z = ν := fun q => by rw [q, o] at ed; omega
    exact ⟨d, hd, by rw [upe_o q]; exact ed⟩
/-- a place is decided and joins the queue -/
theorem co_add {Op Op' : Nod → Prop} {ν : Nod} {w : Int} {n0 : Nat} {C' : Nod → Nat} (C : CoE D v0 Ar S Op) (D6 : D.length < 1000000) (νD : ν ∈ D) (o : S.1 ν = 3000000) (nv : v0 ν = none) (ew : w = 1000000 - (n0 : Int) ∨ w = (n0 : Int) - 1000000) (le : ∀ x, x ∈ S.2.2 → dpE (S.1 x) ≤ (n0 : Int)) (nl : n0 ≤ S.2.2.length) (new : LW Ar (upE S.1 ν w) ν n0 ∨ LL Ar (upE S.1 ν w) ν n0) (cc : ∀ x, ¬ x = ν → C' x = S.2.1 x) (op : ∀ x, ¬ x = ν → S.1 x = 3000000 → Op x → Op' x) : CoE D v0 Ar (upE S.1 ν w, C', S.2.2 ++ [ν]) Op' := by
  obtain ⟨⟨c1, c2, c3⟩, c4, c5, c6, c7⟩ := C
  have ql := nd_len S.2.2 D c1 c2
  have n6 : n0 < 1000000 := by omega
  have nq : ¬ ν ∈ S.2.2 := fun z => (dc_d ((c4 ν νD).mp z)).2.2.2 o
  have dn : dpE w = (n0 : Int) := by rcases ew with f | f
                                     · exact dp_w n6 f
                                     · exact dp_l n6 f
  have up : ∀ x, x ∈ S.2.2 → upE S.1 ν w x = S.1 x := fun x hx => upe_o (fun z => nq (by rw [← z]; exact hx))
  have w3 : ¬ w = 3000000 := by rcases ew with f | f <;> omega
  refine ⟨⟨?_, fun x hx => ?_, fun x hx => ?_⟩, fun x hx => ?_, ?_, fun i x hx => ?_, fun x hx => ?_⟩
  · show (S.2.2 ++ [ν]).Nodup
    rw [List.nodup_append]
    refine ⟨c1, by simp, fun a ha b hb => ?_⟩
    rw [List.mem_singleton.mp hb]
    exact fun z => nq (by rw [← z]; exact ha)
  · rcases List.mem_append.mp hx with z | z
    · exact c2 x z
    · rw [List.mem_singleton.mp z]; exact νD
  · have hx : upE S.1 ν w x = 3000000 := hx
    by_cases q : x = ν
    · rw [q]; exact νD
    · rw [upe_o q] at hx; exact c3 x hx
  · show x ∈ S.2.2 ++ [ν] ↔ DcE (upE S.1 ν w x)
    by_cases q : x = ν
    · rw [q, upe_s]
      exact ⟨fun _ => ⟨n0, n6, ew⟩, fun _ => List.mem_append.mpr (Or.inr (List.mem_singleton.mpr rfl))⟩
    · rw [upe_o q, ← c4 x hx, List.mem_append, List.mem_singleton]
      exact ⟨fun z => z.resolve_right q, Or.inl⟩
  · show (S.2.2 ++ [ν]).Pairwise (fun a b => dpE (upE S.1 ν w a) ≤ dpE (upE S.1 ν w b))
    rw [List.pairwise_append]
    refine ⟨List.Pairwise.imp_of_mem (fun {a b} ha hb r => by rw [up a ha, up b hb]; exact r) c5, List.pairwise_singleton _ _, fun a ha b hb => ?_⟩
    rw [List.mem_singleton.mp hb, upe_s, up a ha, dn]
    exact le a ha
  · have hx : (S.2.2 ++ [ν])[i]? = some x := hx
    show dpE (upE S.1 ν w x) ≤ (i : Int)
    by_cases q : i < S.2.2.length
    · rw [List.getElem?_append_left q] at hx
      rw [up x (List.mem_of_getElem? hx)]
      exact c6 i x hx
    · rw [List.getElem?_append_right (by omega)] at hx
      have hm := List.mem_singleton.mp (List.mem_of_getElem? hx)
      rw [hm, upe_s, dn]
      omega
  · show (∃ u, v0 x = some u ∧ upE S.1 ν w x = u) ∨ (v0 x = none ∧ ((upE S.1 ν w x = 3000000 ∧ 0 < C' x ∧ Op' x) ∨ ∃ n, LW Ar (upE S.1 ν w) x n ∨ LL Ar (upE S.1 ν w) x n))
    by_cases q : x = ν
    · rw [q]
      exact Or.inr ⟨nv, Or.inr ⟨n0, new⟩⟩
    · rw [upe_o q, cc x q]
      rcases c7 x hx with z | ⟨z, ⟨z1, z2, z3⟩ | ⟨n, z1⟩⟩
      · exact Or.inl z
      · exact Or.inr ⟨z, Or.inl ⟨z1, z2, op x q z1 z3⟩⟩
      · refine Or.inr ⟨z, Or.inr ⟨n, dec_k o n6 ew ?_ q z1⟩⟩
        have xd : DcE (S.1 x) ∧ dpE (S.1 x) = (n : Int) := by
          rcases z1 with ⟨_, b, c, _⟩ | ⟨_, b, c, _⟩
          · exact ⟨⟨n, b, Or.inl c⟩, dp_w b c⟩
          · exact ⟨⟨n, b, Or.inr c⟩, dp_l b c⟩
        have := le x ((c4 x hx).mpr xd.1)
        omega
end
end
section
/-! ENDINGS, pure: going back from one of the queue -/
section
variable {D : List Nod} {K : Nod → Nod → Nat} {v0 : Nod → Option Int} {Ar : Nod → Nod → Prop} {ta : Nod → Bool} {S : EtS} {P R : List Nod} {dn rs : List (Nod × Bool)} {y : Nod} {cur : Int} {e : Nod × Bool}
theorem mi_y (M : MiE D K v0 Ar ta S P y cur R dn rs) : y ∈ D ∧ DcE cur ∧ ∀ x, x ∈ S.2.2 → dpE (S.1 x) ≤ dpE cur + 1 := by
  obtain ⟨⟨m1, m2, m3⟩, ⟨⟨c1, c2, c3⟩, c4, c5, c6, c7⟩, m5⟩ := M
  have yq : y ∈ S.2.2 := by rw [m1]; exact List.mem_append.mpr (Or.inr (List.mem_cons_self ..))
  refine ⟨c2 y yq, by rw [← m2]; exact (c4 y (c2 y yq)).mp yq, fun x hx => ?_⟩
  rw [m1] at hx c5
  obtain ⟨p1, p2, p3⟩ := List.pairwise_append.mp c5
  rcases List.mem_append.mp hx with z | z
  · have := p3 x z y (List.mem_cons_self ..)
    rw [m2] at this
    omega
  · rcases List.mem_cons.mp z with z | z
    · rw [z, m2]; omega
    · exact m5 x z
theorem co_op {Op Op' : Nod → Prop} (C : CoE D v0 Ar S Op) (op : ∀ x, x ∈ D → S.1 x = 3000000 → Op x → Op' x) : CoE D v0 Ar S Op' := by
  obtain ⟨a, b, c, d, c7⟩ := C
  refine ⟨a, b, c, d, fun x hx => ?_⟩
  rcases c7 x hx with z | ⟨z, ⟨z1, z2, z3⟩ | z1⟩
  · exact Or.inl z
  · exact Or.inr ⟨z, Or.inl ⟨z1, z2, op x hx z1 z3⟩⟩
  · exact Or.inr ⟨z, Or.inr z1⟩
theorem mi_step (vb : ∀ x w, v0 x = some w → w = 0 ∨ w = 1000000 ∨ w = -1000000) (ar : ∀ x z, x ∈ D → v0 x = none → z ∈ D → (Ar x z ↔ 0 < K x z)) (ad : ∀ x z, x ∈ D → Ar x z → z ∈ D) (D6 : D.length < 1000000) (M : MiE D K v0 Ar ta S P y cur R dn (e :: rs)) : ∃ R', MiE D K v0 Ar ta (tcE ta cur S e) P y cur R' (dn ++ [e]) rs := by
  obtain ⟨yD, dc, le⟩ := mi_y M
  obtain ⟨d0, d1, dw, d3⟩ := dc_d dc
  obtain ⟨⟨m1, m2, m3⟩, C, m5⟩ := id M
  have yq : y ∈ S.2.2 := by rw [m1]; exact List.mem_append.mpr (Or.inr (List.mem_cons_self ..))
  have m3' : ∀ x, K x y = ((dn ++ [e]) ++ rs).countP (alB ta x) := fun x => by rw [m3, List.append_assoc]; rfl
  unfold tcE
  by_cases c : S.1 e.1 = 3000000 ∧ (e.2 = true ∨ ta e.1 = false)
  rotate_left
  · rw [if_neg c]
    refine ⟨R, ⟨m1, m2, m3'⟩, co_op C (fun x hx o ⟨a, b, d⟩ => ?_), m5⟩
    have f : alB ta x e = false := by
      by_cases q : x = e.1
      · rw [q]
        have := fun z => c ⟨by rw [← q]; exact o, al_y.mp z⟩
        exact Bool.eq_false_iff.mpr this
      · exact al_n q
    refine ⟨?_, b, fun n => ?_⟩
    · rw [a, List.countP_cons_of_neg (by rw [f]; decide)]
    · rw [List.countP_append, d n, List.countP_cons_of_neg (by rw [f]; decide)]
      rfl
  rw [if_pos c]
  have νD : e.1 ∈ D := C.1.2.2 e.1 c.1
  have f1 : alB ta e.1 e = true := al_y.mpr c.2
  have ku : ∀ {z : Nod}, z = y → 0 < K e.1 z := fun {z} q => by
    rw [q, m3, List.countP_append, List.countP_cons_of_pos f1]
    omega
  obtain ⟨nv, c0, o1, o2, o3⟩ : v0 e.1 = none ∧ 0 < S.2.1 e.1 ∧ S.2.1 e.1 = remS D (P ++ [y]) (K e.1) + (e :: rs).countP (alB ta e.1) ∧ (∀ z, z ∈ P → Ar e.1 z → 0 < S.1 z) ∧ (cur < 0 → dn.countP (alB ta e.1) = 0) := by
    rcases C.2.2.2.2 e.1 νD with ⟨w, z1, z2⟩ | ⟨z, ⟨z1, z2, z3⟩ | ⟨n, z1⟩⟩
    · have := vb _ _ z1
      rw [z2] at c
      omega
    · exact ⟨z, z2, z3⟩
    · have q := c.1
      rcases z1 with z1 | z1
      · have := z1.2.2.1; omega
      · have := z1.2.2.1; have := z1.2.1; omega
  rw [List.countP_cons_of_pos f1] at o1
  have ay : Ar e.1 y := (ar e.1 y νD nv yD).mpr (ku rfl)
  have yn : ¬ y = e.1 := fun q => d3 (by rw [← m2, q]; exact c.1)
  have pn : ∀ z, z ∈ P → ¬ z = e.1 := fun z hz q => by
    have hq : z ∈ S.2.2 := by rw [m1]; exact List.mem_append.mpr (Or.inl hz)
    exact (dc_d ((C.2.1 z (C.1.2.1 z hq)).mp hq)).2.2.2 (by rw [q]; exact c.1)
  obtain ⟨n0, hn0⟩ : ∃ n0 : Nat, (n0 : Int) = dpE cur + 1 := ⟨(dpE cur + 1).toNat, by omega⟩
  have pw := C.2.2.1
  rw [m1] at pw
  obtain ⟨_, pw2, pw3⟩ := List.pairwise_append.mp pw
  have pw4 := (List.pairwise_cons.mp pw2).1
  have nl : n0 ≤ S.2.2.length := by
    have yi : S.2.2[P.length]? = some y := by rw [m1, List.getElem?_append_right (Nat.le_refl _), Nat.sub_self]; rfl
    have a := C.2.2.2.1 P.length y yi
    rw [m2] at a
    have b : S.2.2.length = P.length + (R.length + 1) := by rw [m1, List.length_append, List.length_cons]
    omega
  have new_q : ∀ w, (S.2.2 ++ [e.1] = P ++ y :: (R ++ [e.1]) ∧ upE S.1 e.1 w y = cur ∧ ∀ x, K x y = ((dn ++ [e]) ++ rs).countP (alB ta x)) := fun w => ⟨by rw [m1, List.append_assoc]; rfl, by rw [upe_o yn]; exact m2, m3'⟩
  have new_b : ∀ w, dpE w = (n0 : Int) → ∀ b, b ∈ R ++ [e.1] → dpE (upE S.1 e.1 w b) ≤ dpE cur + 1 := fun w ew b hb => by
    by_cases q : b = e.1
    · rw [q, upe_s, ew]; omega
    · rw [upe_o q]
      rcases List.mem_append.mp hb with z | z
      · exact m5 b z
      · exact absurd (List.mem_singleton.mp z) q
  have others : ∀ x, ¬ x = e.1 → (e :: rs).countP (alB ta x) = rs.countP (alB ta x) ∧ (dn ++ [e]).countP (alB ta x) = dn.countP (alB ta x) := fun x q => by
    have f := al_n (ta := ta) q
    exact ⟨List.countP_cons_of_neg (by rw [f]; decide), by rw [List.countP_append, List.countP_cons_of_neg (by rw [f]; decide)]; rfl⟩
  have n6 : n0 < 1000000 := by
    have := nd_len S.2.2 D C.1.1 C.1.2.1
    omega
  by_cases cn : cur < 0
  · rw [if_pos cn]
    have ec : cur = dpE cur - 1000000 := (dw.resolve_left (fun z => by omega)).2
    have ew : -cur - 1 = 1000000 - (n0 : Int) := by omega
    refine ⟨R ++ [e.1], new_q _, co_add C D6 νD c.1 nv (Or.inl ew) (fun x hx => by rw [hn0]; exact le x hx) nl (Or.inl ⟨by omega, n6, by rw [upe_s, ew], ⟨y, ay, by rw [upe_o yn, m2]; omega⟩, fun z d az d6 ez => ?_⟩) (fun _ _ => rfl) (fun x q o ⟨a, b, d⟩ => ⟨by show S.2.1 x = _; rw [a, (others x q).1], fun z hz az => ?_, fun n => by rw [(others x q).2]; exact d n⟩), new_b _ (dp_w n6 ew)⟩
    · by_cases q : z = e.1
      · rw [q, upe_s] at ez; omega
      · rw [upe_o q] at ez
        have zD := ad _ z νD az
        have zq : z ∈ S.2.2 := (C.2.1 z zD).mpr ⟨d, d6, Or.inr ez⟩
        have dz := dp_l d6 ez
        rw [m1] at zq
        rcases List.mem_append.mp zq with w | w
        · have := o2 z w az; omega
        · rcases List.mem_cons.mp w with w | w
          · rw [w, m2] at ez; omega
          · have := pw4 z w
            rw [m2] at this
            omega
    · show 0 < upE S.1 e.1 _ z
      rw [upe_o (pn z hz)]; exact b z hz az
  · rw [if_neg cn]
    have ec : cur = 1000000 - dpE cur := (dw.resolve_right (fun z => by omega)).2
    by_cases c1 : S.2.1 e.1 = 1
    · rw [if_pos c1]
      have ew : 1 - cur = (n0 : Int) - 1000000 := by omega
      have r0 : remS D (P ++ [y]) (K e.1) = 0 := by omega
      refine ⟨R ++ [e.1], new_q _, co_add C D6 νD c.1 nv (Or.inr ew) (fun x hx => by rw [hn0]; exact le x hx) nl (Or.inr ⟨by omega, n6, by rw [upe_s, ew], ⟨y, ay, by rw [upe_o yn, m2]; omega⟩, fun z az => ?_⟩) (fun x q => upe_o q) (fun x q o ⟨a, b, d⟩ => ⟨by show upE S.2.1 e.1 0 x = _; rw [upe_o q, a, (others x q).1], fun z hz az => ?_, fun n => absurd n cn⟩), new_b _ (dp_l n6 ew)⟩
      · have zD := ad _ z νD az
        have kz := (ar e.1 z νD nv zD).mp az
        have zP : z ∈ P ++ [y] := Classical.byContradiction (fun w => by
          have := rem_0 r0 zD w
          omega)
        have zq : z ∈ P ∨ z = y := by
          rcases List.mem_append.mp zP with w | w
          · exact Or.inl w
          · exact Or.inr (List.mem_singleton.mp w)
        have ze : ¬ z = e.1 := by
          rcases zq with w | w
          · exact pn z w
          · rw [w]; exact yn
        rw [upe_o ze]
        rcases zq with w | w
        · have hq : z ∈ S.2.2 := by rw [m1]; exact List.mem_append.mpr (Or.inl w)
          obtain ⟨g0, g1, g2, g3⟩ := dc_d ((C.2.1 z zD).mp hq)
          have pos := o2 z w az
          have := pw3 z w y (List.mem_cons_self ..)
          rw [m2] at this
          have gz := (g2.resolve_right (fun q => by omega)).2
          exact ⟨(dpE (S.1 z)).toNat, by omega, by omega⟩
        · rw [w, m2]
          exact ⟨(dpE cur).toNat, by omega, by omega⟩
      · show 0 < upE S.1 e.1 _ z
        rw [upe_o (pn z hz)]; exact b z hz az
    · rw [if_neg c1]
      obtain ⟨k1, k2, k3, k4, k5⟩ := C
      refine ⟨R, ⟨m1, m2, m3'⟩, ⟨k1, k2, k3, k4, fun x hx => ?_⟩, m5⟩
      show (∃ w, v0 x = some w ∧ S.1 x = w) ∨ (v0 x = none ∧ ((S.1 x = 3000000 ∧ 0 < upE S.2.1 e.1 (S.2.1 e.1 - 1) x ∧ _) ∨ ∃ n, LW Ar S.1 x n ∨ LL Ar S.1 x n))
      rcases k5 x hx with z | ⟨z, ⟨z1, z2, a, b, d⟩ | z1⟩
      · exact Or.inl z
      · refine Or.inr ⟨z, Or.inl ⟨z1, ?_, ?_, b, fun n => absurd n cn⟩⟩
        · by_cases q : x = e.1
          · rw [q, upe_s]; omega
          · rw [upe_o q]; exact z2
        · show upE S.2.1 e.1 (S.2.1 e.1 - 1) x = _
          by_cases q : x = e.1
          · rw [q, upe_s, o1]; omega
          · rw [upe_o q, a, (others x q).1]
      · exact Or.inr ⟨z, Or.inr z1⟩
theorem mi_fold (vb : ∀ x w, v0 x = some w → w = 0 ∨ w = 1000000 ∨ w = -1000000) (ar : ∀ x z, x ∈ D → v0 x = none → z ∈ D → (Ar x z ↔ 0 < K x z)) (ad : ∀ x z, x ∈ D → Ar x z → z ∈ D) (D6 : D.length < 1000000) : ∀ (rs dn : List (Nod × Bool)) (S : EtS) (R : List Nod), MiE D K v0 Ar ta S P y cur R dn rs → ∃ R', MiE D K v0 Ar ta (rs.foldl (tcE ta cur) S) P y cur R' (dn ++ rs) [] := by
  intro rs
  induction rs with
  | nil => intro dn S R M; exact ⟨R, by rw [List.append_nil]; exact M⟩
  | cons e rs ih =>
    intro dn S R M
    obtain ⟨R1, M1⟩ := mi_step vb ar ad D6 M
    obtain ⟨R2, M2⟩ := ih _ _ _ M1
    refine ⟨R2, ?_⟩
    rw [List.append_assoc] at M2
    exact M2
/-- one of the queue, whole -/
theorem be_step (vb : ∀ x w, v0 x = some w → w = 0 ∨ w = 1000000 ∨ w = -1000000) (nd : D.Nodup) (ar : ∀ x z, x ∈ D → v0 x = none → z ∈ D → (Ar x z ↔ 0 < K x z)) (ad : ∀ x z, x ∈ D → Ar x z → z ∈ D) (D6 : D.length < 1000000) {l : List (Nod × Bool)} (hl : ∀ x, K x y = l.countP (alB ta x)) (B : BeI D K v0 Ar ta S P (y :: R)) : ∃ R', BeI D K v0 Ar ta (l.foldl (tcE ta (S.1 y)) S) (P ++ [y]) R' := by
  obtain ⟨b1, C, b3⟩ := B
  have yq : y ∈ S.2.2 := by rw [b1]; exact List.mem_append.mpr (Or.inr (List.mem_cons_self ..))
  have yD := C.1.2.1 y yq
  have yP : ¬ y ∈ P := fun z => by
    have h := C.1.1
    rw [b1] at h
    exact (List.nodup_append.mp h).2.2 y z y (List.mem_cons_self ..) rfl
  have M : MiE D K v0 Ar ta S P y (S.1 y) R [] l := by
    refine ⟨⟨b1, rfl, hl⟩, co_op C (fun x hx o ⟨a, b⟩ => ⟨?_, b, fun _ => rfl⟩), fun b hb => b3 y b (List.mem_cons_self ..) (List.mem_cons_of_mem _ hb)⟩
    rw [a, rem_s yP D nd yD, hl x, Nat.add_comm]
  obtain ⟨R', M'⟩ := mi_fold vb ar ad D6 _ _ _ _ M
  obtain ⟨_, dc', le'⟩ := mi_y M'
  obtain ⟨⟨m1, m2, m3⟩, C', m5⟩ := M'
  have dc := dc_d dc'
  have pw := C'.2.2.1
  rw [m1] at pw
  have pw4 := (List.pairwise_cons.mp (List.pairwise_append.mp pw).2.1).1
  refine ⟨R', by rw [m1, List.append_assoc]; rfl, co_op C' (fun x hx o ⟨a, b, d⟩ => ⟨by rw [a]; rfl, fun z hz az => ?_⟩), fun a b ha hb => ?_⟩
  · rcases List.mem_append.mp hz with w | w
    · exact b z w az
    · have zy := List.mem_singleton.mp w
      rw [zy, m2]
      apply Classical.byContradiction
      intro n
      have nk := d (by rcases dc.2.2.1 with q | q <;> omega)
      have nv : v0 x = none := by
        rcases C'.2.2.2.2 x hx with ⟨w, z1, z2⟩ | ⟨z, _⟩
        · have := vb _ _ z1
          rw [o] at z2
          omega
        · exact z
      rw [zy] at az
      have := (ar x y hx nv yD).mp az
      rw [hl x] at this
      rw [List.nil_append] at nk
      omega
  · have x := m5 b hb
    have z := pw4 a ha
    rw [m2] at z
    omega
/-- at the end -/
theorem be_end {T : Nod → Int} (vb : ∀ x w, v0 x = some w → w = 0 ∨ w = 1000000 ∨ w = -1000000) (ar : ∀ x z, x ∈ D → v0 x = none → z ∈ D → (Ar x z ↔ 0 < K x z)) (ad : ∀ x z, x ∈ D → Ar x z → z ∈ D) (B : BeI D K v0 Ar ta S P []) (tt : ∀ x, x ∈ D → T x = if S.1 x = 3000000 then 0 else S.1 x) : LocT (fun x => x ∈ D) v0 Ar T := by
  obtain ⟨b1, ⟨⟨c1, c2, c3⟩, c4, c5, c6, c7⟩, _⟩ := B
  rw [List.append_nil] at b1
  have same : ∀ z, z ∈ D → ∀ w, DcE w → (S.1 z = w ↔ T z = w) := fun z hz w dw => by
    have d := dc_d dw
    rw [tt z hz]
    by_cases q : S.1 z = 3000000
    · rw [if_pos q]
      have := d.2.2.2
      have : ¬ w = 0 := by rcases d.2.2.1 with g | g <;> omega
      constructor <;> intro h <;> omega
    · rw [if_neg q]
  intro x hx
  rcases c7 x hx with ⟨w, z1, z2⟩ | ⟨z, ⟨z1, z2, z3, z4⟩ | ⟨n, z1⟩⟩
  · have := vb _ _ z1
    exact Or.inl ⟨w, z1, by rw [tt x hx, if_neg (by omega)]; exact z2⟩
  · refine Or.inr ⟨z, Or.inr (Or.inr ⟨by rw [tt x hx, if_pos z1], fun y d ay d6 ey => ?_, ?_⟩)⟩
    · have yD := ad x y hx ay
      have dw : DcE ((d : Int) - 1000000) := ⟨d, d6, Or.inr rfl⟩
      have es := (same y yD _ dw).mpr ey
      have yq := (c4 y yD).mpr (by rw [es]; exact dw)
      rw [b1] at yq
      have := z4 y yq ay
      omega
    · apply Classical.byContradiction
      intro no
      have all : ∀ y, y ∈ D → (if y ∈ P then 0 else K x y) = 0 := fun y yD => by
        by_cases q : y ∈ P
        · exact if_pos q
        · rw [if_neg q]
          apply Classical.byContradiction
          intro k
          have ay := (ar x y hx z yD).mpr (by omega)
          refine no ⟨y, ay, fun d d6 ey => q ?_⟩
          have dw : DcE (1000000 - (d : Int)) := ⟨d, d6, Or.inl rfl⟩
          have es := (same y yD _ dw).mpr ey
          rw [← b1]
          exact (c4 y yD).mpr (by rw [es]; exact dw)
      have : remS D P (K x) = 0 := suml_z D all
      omega
  · refine Or.inr ⟨z, ?_⟩
    rcases z1 with ⟨a, b, c, ⟨y, ay, ey⟩, m⟩ | ⟨a, b, c, ⟨y, ay, ey⟩, m⟩
    · refine Or.inl ⟨n, a, b, (same x hx _ ⟨n, b, Or.inl rfl⟩).mp c, ⟨y, ay, ?_⟩, fun y' d ay' d6 ey' => m y' d ay' d6 ((same y' (ad x y' hx ay') _ ⟨d, d6, Or.inr rfl⟩).mpr ey')⟩
      exact (same y (ad x y hx ay) _ ⟨n - 1, by omega, Or.inr (by omega)⟩).mp ey
    · refine Or.inr (Or.inl ⟨n, a, b, (same x hx _ ⟨n, b, Or.inr rfl⟩).mp c, ⟨y, ay, ?_⟩, fun y' ay' => ?_⟩)
      · exact (same y (ad x y hx ay) _ ⟨n - 1, by omega, Or.inl (by omega)⟩).mp ey
      · obtain ⟨d, hd, ed⟩ := m y' ay'
        exact ⟨d, hd, (same y' (ad x y' hx ay') _ ⟨d, by omega, Or.inl rfl⟩).mp ed⟩
end
end
section
/-! ENDINGS, the class: its row of men -/
def WRo (n a i : Nat) : Prop := a = n + 72 ∨ (a = n + 62 ∧ i = 8)
def RwE (n : Nat) (h : Hp) (m : Nat) (f : Nat → Int) : Prop := (hI h (n + 62) 8).toInt = (m : Int) ∧ ∀ i, i < m → (hI h (n + 72) i).toInt = f i - 64
def DkT (n : Nat) (h o : Hp) : Prop := (∀ g, DyK n g h → DyK n g o) ∧ HNR h o
section
variable {n F m : Nat} {g h h0 o : Hp} {f : Nat → Int} {x1 x2 x3 : Int32} {M M' : Nat → Int} {v y : Int} {p s : Nat}
theorem dkt_0 : DkT n h h := ⟨fun _ k => k, hnr_0⟩
theorem dkt_t {u : Hp} (a : DkT n h o) (b : DkT n o u) : DkT n h u := ⟨fun g k => b.1 g (a.1 g k), fun x => (b.2.1 x).trans (a.2.1 x), fun x i => (b.2.2 x i).trans (a.2.2 x i)⟩
theorem dkt_w {a i : Nat} {v : Int32} (d : DkT n h0 h) : DkT n h0 (wI h a i v) := ⟨fun g k => dk_wI (d.1 g k), fun x => d.2.1 x, fun x j => d.2.2 x j⟩
theorem enu_g (e : ∀ s, s < 64 → M s = M' s) (E : EnU M m f) : EnU M' m f := by
  refine ⟨E.1, fun i hi => ?_, fun s hs ms => ?_⟩
  · obtain ⟨s, a, b, c⟩ := E.2.1 i hi
    exact ⟨s, a, by rw [← e s a]; exact b, by rw [← e s a]; exact c⟩
  · rw [← e s hs] at ms ⊢
    exact E.2.2 s hs ms
theorem enu_ni (E : EnU M m f) (s64 : s < 64) (ms : M s = 0) : ∀ i, i < m → ¬ f i = 64 * y + (s : Int) := fun i hi c => by
  obtain ⟨s', a, b, d⟩ := E.2.1 i hi
  have : s' = s := by omega
  rw [this] at b
  omega
/-- one man more -/
theorem enu_in (E : EnU M m f) (s64 : s < 64) (ms : M s = 0) (y0 : 0 < y) (pm : p ≤ m) (a : ∀ i, i < p → f i < 64 * y + (s : Int)) (b : ∀ i, p ≤ i → i < m → 64 * y + (s : Int) < f i) : EnU (updM M s y) (m + 1) (inFx f p (64 * y + (s : Int))) := by
  have up : ∀ s', ¬ s' = s → updM M s y s' = M s' := fun s' c => if_neg c
  have us : updM M s y s = y := if_pos rfl
  obtain ⟨r1, r2, r3⟩ := ins_r (f := f) (x := 64 * y + (s : Int)) pm
  refine ⟨ins_s E.1 pm a b, fun i hi => ?_, fun s' hs' ms' => ?_⟩
  · rcases r1 i hi with c | ⟨j, hj, c⟩
    · exact ⟨s, s64, by rw [us]; exact y0, by rw [us]; exact c⟩
    · obtain ⟨s', q1, q2, q3⟩ := E.2.1 j hj
      have ne : ¬ s' = s := fun z => by rw [z, ms] at q2; omega
      exact ⟨s', q1, by rw [up s' ne]; exact q2, by rw [up s' ne, c]; exact q3⟩
  · by_cases c : s' = s
    · rw [c, us]
      exact r2
    · rw [up s' c] at ms' ⊢
      obtain ⟨j, hj, ej⟩ := E.2.2 s' hs' ms'
      obtain ⟨i, hi, ei⟩ := r3 j hj
      exact ⟨i, hi, by rw [ei]; exact ej⟩
theorem mnc_le : ∀ (B : Nat), (∀ s, s < B → 0 < M s → 0 < M' s) → mnC M B ≤ mnC M' B := by
  intro B
  induction B with
  | zero => intro _; exact Nat.le_refl _
  | succ B ih =>
    intro h
    have i := ih (fun s hs => h s (by omega))
    show mnC M B + (if 0 < M B then 1 else 0) ≤ mnC M' B + (if 0 < M' B then 1 else 0)
    by_cases c : 0 < M B
    · rw [if_pos c, if_pos (h B (by omega) c)]; omega
    · rw [if_neg c]; split <;> omega
/-- addToRow -/
theorem atr_w (S : ∀ i, i + 1 < m → f i < f (i + 1)) (ni : ∀ i, i < m → ¬ f i = v) (k0 : DyK n h0 h0) (ev : x1.toInt = v - 64) (m4 : m ≤ 4) : ∀ (fu : Nat) {h : Hp} {x2 : Int32} {j : Nat}, DkT n h0 h → FrW (WRo n) h0 h → (hI h (n + 62) 8).toInt = (m : Int) → x2.toInt = (j : Int) → j ≤ m → (∀ i, i < j → (hI h (n + 72) i).toInt = f i - 64) → (∀ i, j < i → i ≤ m → (hI h (n + 72) i).toInt = f (i - 1) - 64) → (∀ i, j ≤ i → i < m → v < f i) → sX0_addToRow_5 F fu h (n + 62) x1 x2 = some o → DkT n h0 o ∧ FrW (WRo n) h0 o ∧ ∃ p, p ≤ m ∧ (∀ i, i < p → f i < v) ∧ (∀ i, p ≤ i → i < m → v < f i) ∧ RwE n o (m + 1) (inFx f p v) := by
  have z1 : (1 : Int32).toInt = 1 := rfl
  have z0 : (0 : Int32).toInt = 0 := rfl
  intro fu
  induction fu with
  | zero => intro h x2 j _ _ _ _ _ _ _ _ e; exact absurd e (by rw [sX0_addToRow_5]; exact fun z => nomatch z)
  | succ fu ih =>
    intro h x2 j dk Fr e8 e2 jm lo hi gt e
    have kh := dk.1 _ k0
    have s6 := dk_610 kh
    rw [sX0_addToRow_5] at e
    have r7 := dk_e (a := 62) (f := 7) (b := 72) kh (by decide +kernel)
    have n2 : x2.toNatClampNeg = j := by have := nc_i (x := x2) (by omega); omega
    have fin : (∀ i, i < j → f i < v) → sX0_addToRow_41 F h (n + 62) x1 x2 = some o → DkT n h0 o ∧ FrW (WRo n) h0 o ∧ ∃ p, p ≤ m ∧ (∀ i, i < p → f i < v) ∧ (∀ i, p ≤ i → i < m → v < f i) ∧ RwE n o (m + 1) (inFx f p v) := fun lt e => by
      unfold sX0_addToRow_41 at e
      replace e := ce_e r7 e
      replace e := gg_e e
      obtain ⟨h3, w3, e⟩ := nm_s e
      obtain ⟨h4, w4, e⟩ := nm_s e
      have eo := so_e e
      rw [n2] at w3
      have e83 : hI h3 (n + 62) 8 = hI h (n + 62) 8 := by rw [w3, rI_a (by omega)]
      refine ⟨by rw [eo, w4, w3]; exact dkt_w (dkt_w dk), by rw [eo, w4, w3]; exact fw_wI (fw_wI Fr (Or.inl rfl)) (Or.inr ⟨rfl, rfl⟩), j, jm, lt, gt, ?_, fun i hi' => ?_⟩
      · rw [eo, w4, rI_s, e83, ta (by rw [z1, e8]; omega), z1, e8]; omega
      · rw [eo, w4, rI_a (by omega), w3]
        by_cases c : i = j
        · rw [c, rI_s, ev]
          unfold inFx
          rw [if_neg (Nat.lt_irrefl _), if_pos rfl]
        · rw [rI_o c]
          unfold inFx
          by_cases d : i < j
          · rw [if_pos d]; exact lo i d
          · rw [if_neg d, if_neg c]; exact hi i (by omega) (by omega)
    rcases br_s e with ⟨c, e⟩ | ⟨c, e⟩
    · have c := le_i c
      exact fin (fun i hi' => by omega) e
    have c := nle_i c
    rw [z0] at c
    replace e := ce_e r7 e
    replace e := gg_e e
    have n3 : (x2 - (1 : Int32)).toNatClampNeg = j - 1 := by
      have a : (x2 - (1 : Int32)).toInt = (j : Int) - 1 := by rw [ts (by rw [z1]; omega), z1, e2]
      have := nc_i (x := x2 - (1 : Int32)) (by omega)
      omega
    have vj := lo (j - 1) (by omega)
    rcases br_s e with ⟨c2, e⟩ | ⟨c2, e⟩
    · have c2 := le_i c2
      rw [n3, vj, ev] at c2
      have lt1 : f (j - 1) < v := by
        have := ni (j - 1) (by omega)
        omega
      have mono : ∀ b a : Nat, a ≤ b → b < m → f a ≤ f b := by
        intro b
        induction b with
        | zero => intro a ha _; have : a = 0 := by omega
                  rw [this]; exact Int.le_refl _
        | succ b ihb =>
          intro a ha hb
          by_cases q : a = b + 1
          · rw [q]; exact Int.le_refl _
          · have := ihb a (by omega) (by omega)
            have := S b hb
            omega
      exact fin (fun i hi' => by have := mono (j - 1) i (by omega) (by omega); omega) e
    · have c2 := nle_i c2
      rw [n3, vj, ev] at c2
      replace e := ce_e r7 e
      replace e := ce_e r7 e
      replace e := gg_e e
      replace e := gg_e e
      obtain ⟨h9, w9, e⟩ := nm_s e
      obtain ⟨v10, w10, e⟩ := nm_s e
      rw [n2, n3] at w9
      have y10 : v10.toInt = ((j - 1 : Nat) : Int) := by
        have zm : (-1 : Int32).toInt = -1 := rfl
        rw [w10, ta (by rw [zm]; omega), zm]; omega
      refine ih (j := j - 1) (by rw [w9]; exact dkt_w dk) (by rw [w9]; exact fw_wI Fr (Or.inl rfl)) (by rw [w9, rI_a (by omega)]; exact e8) y10 (by omega) (fun i hi' => ?_) (fun i a b => ?_) (fun i a b => ?_) e
      · rw [w9, rI_o (by omega)]; exact lo i (by omega)
      · by_cases q : i = j
        · rw [q, w9, rI_s]; exact vj
        · rw [w9, rI_o q]; exact hi i (by omega) b
      · by_cases q : i = j - 1
        · rw [q]; omega
        · exact gt i (by omega) b
theorem atr_k (S : ∀ i, i + 1 < m → f i < f (i + 1)) (ni : ∀ i, i < m → ¬ f i = v) (k0 : DyK n h h) (ev : x1.toInt = v - 64) (m4 : m ≤ 4) (R : RwE n h m f) (e : sX0_addToRow F h (n + 62) x1 = some o) : DkT n h o ∧ FrW (WRo n) h o ∧ ∃ p, p ≤ m ∧ (∀ i, i < p → f i < v) ∧ (∀ i, p ≤ i → i < m → v < f i) ∧ RwE n o (m + 1) (inFx f p v) := by
  unfold sX0_addToRow at e
  obtain ⟨v1, w1, e⟩ := nm_s e
  exact atr_w S ni k0 ev m4 F (j := m) dkt_0 fw_0 R.1 (by rw [w1]; exact R.1) (Nat.le_refl _) R.2 (fun i a b => by omega) (fun i a b => by omega) e
/-- gatherRow: the men of a board, with another man on one square -/
theorem gat_w {b : Nat} {tg : Nat → Int} (k0 : DyK n h0 h0) (bb : hR h0 b 0 = some (b + 1)) (nw : ∀ i, ¬ WRo n (b + 1) i) (bs : b + 1 < hS h0) (onM : ∀ s, s < 64 → (hI h0 (b + 1) s).toInt = M s - 1) (m24 : ∀ s, s < 64 → 0 ≤ M s ∧ M s ≤ 24) (t24 : ∀ s, s < 64 → 0 ≤ tg s ∧ tg s ≤ 24) (i2 : -1 ≤ x2.toInt ∧ x2.toInt ≤ 63) (et : ∀ s : Nat, s < 64 → 0 < M s → (x2.toInt = (s : Int) → tg s = x3.toInt + 1) ∧ (¬ x2.toInt = (s : Int) → tg s = M s)) (tz : ∀ s, s < 64 → ¬ 0 < M s → tg s = 0) (c5 : mnC tg 64 ≤ 5) : ∀ (fu : Nat) {h : Hp} {x4 : Int64} {x6 : Int32} {i m : Nat} {f : Nat → Int}, DkT n h0 h → FrW (WRo n) h0 h → (∀ s, s < 64 → bitJ x4 s = true → 0 < M s) → EnU (fun s => if bitJ x4 s = true then 0 else tg s) m f → RwE n h m f → x6.toInt = (i : Int) → i ≤ 64 → (∀ s, s < i → bitJ x4 s = false) → sX0_gatherRow_14 F fu h (n + 62) b x2 x3 x4 x6 = some o → DkT n h0 o ∧ FrW (WRo n) h0 o ∧ ∃ m f, EnU tg m f ∧ RwE n o m f := by
  have z1 : (1 : Int32).toInt = 1 := rfl
  have z64 : (64 : Int32).toInt = 64 := rfl
  have z5 : (5 : Int32).toInt = 5 := rfl
  intro fu
  induction fu with
  | zero => intro h x4 x6 i m f _ _ _ _ _ _ _ _ e; exact absurd e (by rw [sX0_gatherRow_14]; exact fun z => nomatch z)
  | succ fu ih =>
    intro h x4 x6 i m f dk Fr bo E R e6 i64 lo e
    have kh := dk.1 _ k0
    have s6 := dk_610 kh
    rw [sX0_gatherRow_14] at e
    unfold sX0_gatherRow_95 at e
    have fin : (∀ s, s < 64 → bitJ x4 s = false) → some h = some o → DkT n h0 o ∧ FrW (WRo n) h0 o ∧ ∃ m f, EnU tg m f ∧ RwE n o m f := fun z e => by
      rw [so_e e]
      exact ⟨dk, Fr, m, f, enu_g (fun s hs => by show (if bitJ x4 s = true then 0 else tg s) = tg s; rw [z s hs]; rfl) E, R⟩
    rcases br_s e with ⟨c, e⟩ | ⟨c, e⟩
    · have c := le_i c
      rw [z64] at c
      exact fin (fun s hs => lo s (by omega)) e
    have c := nle_i c
    rw [z64] at c
    rcases br_s e with ⟨c2, e⟩ | ⟨c2, e⟩
    · have x0 : x4 = 0 := cmp_eq c2
      exact fin (fun s _ => by rw [x0, bj_zero]) e
    obtain ⟨o3, e3, e⟩ := cl_s e
    obtain ⟨p3, s, s64, v3, bs', kl, rest⟩ := low_v e3 c2
    rw [p3] at e
    obtain ⟨v4, w4, e⟩ := nm_s e
    rw [← w4] at rest
    have Ms := bo s s64 bs'
    have si : i ≤ s := by
      apply Classical.byContradiction
      intro z
      rw [lo s (by omega)] at bs'
      exact nomatch bs'
    have es := et s s64 Ms
    have ts' := t24 s s64
    have n3 : o3.1.toNatClampNeg = s := by have := nc_i (x := o3.1) (by omega); omega
    -- what comes behind
    have nxt : ∀ {u : Hp} {m' : Nat} {f' : Nat → Int}, DkT n h0 u → FrW (WRo n) h0 u → EnU (fun x => if bitJ v4 x = true then 0 else tg x) m' f' → RwE n u m' f' → sX0_gatherRow_89 F (sX0_gatherRow_14 F fu) u (n + 62) b x2 x3 v4 x6 = some o → DkT n h0 o ∧ FrW (WRo n) h0 o ∧ ∃ m f, EnU tg m f ∧ RwE n o m f := fun {u m' f'} du Fu Eu Ru e => by
      unfold sX0_gatherRow_89 at e
      obtain ⟨v1, w1, e⟩ := nm_s e
      refine ih (i := i + 1) du Fu (fun x hx b => bo x hx ?_) Eu Ru (by rw [w1, ta (by rw [z1]; omega), z1]; omega) (by omega) (fun x hx => ?_) e
      · rw [rest x hx, Bool.and_eq_true] at b
        exact b.1
      · rw [rest x (by omega)]
        by_cases d : x < s
        · rw [kl x d]; rfl
        · have d' : s = x := by omega
          rw [decide_eq_true d']; cases bitJ x4 x <;> rfl
    -- the square's man
    have body : ∀ {t0 : Int32}, t0.toInt = tg s - 1 → sX0_gatherRow_61 F (sX0_gatherRow_14 F fu) h (n + 62) b x2 x3 v4 x6 o3.1 t0 = some o → DkT n h0 o ∧ FrW (WRo n) h0 o ∧ ∃ m f, EnU tg m f ∧ RwE n o m f := fun {t0} e0 e => by
      unfold sX0_gatherRow_61 at e
      rcases br_s e with ⟨c3, e⟩ | ⟨c3, e⟩
      · have t0z : tg s = 0 := by
          have zm : (-1 : Int32).toInt = -1 := rfl
          rw [c3, zm] at e0; omega
        refine nxt dk Fr (enu_g (fun x hx => ?_) E) R e
        show (if bitJ x4 x = true then 0 else tg x) = (if bitJ v4 x = true then 0 else tg x)
        rw [rest x hx]
        by_cases d : s = x
        · rw [← d, bs', t0z]; simp
        · rw [decide_eq_false d]; simp
      · have tp : 0 < tg s := by
          have : ¬ t0.toInt = -1 := fun z => c3 (Int32.toInt_inj.mp z)
          omega
        have ms0 : (if bitJ x4 s = true then 0 else tg s) = 0 := if_pos bs'
        have ni := enu_ni (y := tg s) E s64 ms0
        obtain ⟨p, pm, pa, pb⟩ := ins_x E.1 ni
        have E1 := enu_in E s64 ms0 tp pm pa pb
        have E2 : EnU (fun x => if bitJ v4 x = true then 0 else tg x) (m + 1) (inFx f p (64 * tg s + (s : Int))) := by
          refine enu_g (fun x hx => ?_) E1
          show (if x = s then tg s else if bitJ x4 x = true then 0 else tg x) = (if bitJ v4 x = true then 0 else tg x)
          rw [rest x hx]
          by_cases d : x = s
          · rw [if_pos d, d, decide_eq_true rfl]; simp
          · rw [if_neg d, decide_eq_false (fun w => d w.symm)]; simp
        have m5 : m + 1 ≤ 5 := by
          have a := enu_n E2
          have b := mnc_le (M := fun x => if bitJ v4 x = true then 0 else tg x) (M' := tg) 64 (fun x hx q => by
            have q : 0 < (if bitJ v4 x = true then 0 else tg x) := q
            split at q
            · omega
            · exact q)
          omega
        replace e := bn_e (fun z => by have z := le_i z; rw [z5, R.1] at z; omega) e
        obtain ⟨o5, e5, e⟩ := cl_s e
        have em : ((t0 <<< ((6 : Int32) &&& 31)) ||| o3.1).toInt = (64 * tg s + (s : Int)) - 64 := by
          have a : (t0 <<< ((6 : Int32) &&& 31)).toInt = t0.toInt * ((2 ^ 6 : Nat) : Int) := shl_i (m := 6) rfl (by omega) (by omega)
          rw [Int32.or_comm, or_i (x := o3.1) (y := t0 <<< ((6 : Int32) &&& 31)) (m := 6) (z := t0.toInt) (by omega) (by omega) (by omega) a (by rw [a]; omega), a]
          omega
        obtain ⟨d5, F5, p', pm', pa', pb', R5⟩ := atr_k (f := f) (v := 64 * tg s + (s : Int)) E.1 ni (dk_self kh) em (by omega) R e5
        have pp : p' = p := by
          rcases Nat.lt_trichotomy p p' with q | q | q
          · have := pa' p q
            have := pb p (Nat.le_refl _) (by omega)
            omega
          · exact q.symm
          · have := pa p' q
            have := pb' p' (Nat.le_refl _) (by omega)
            omega
        rw [pp] at R5
        exact nxt (dkt_t dk d5) (fw_t Fr F5) E2 R5 e
    rcases br_s e with ⟨c3, e⟩ | ⟨c3, e⟩
    · refine body ?_ e
      have := es.1 (by rw [← c3]; exact v3)
      omega
    · replace e := ce_e ((dk.2.2 b 0).trans bb) e
      replace e := gg_e e
      refine body ?_ e
      rw [n3, (Fr.2 (b + 1) s bs (nw s)).1, onM s s64, es.2 (fun z => c3 (Int32.toInt_inj.mp (by rw [v3, z])))]
theorem occ_w {b : Nat} {u : Int64 × Hp} (e1 : hR h b 1 = some (b + 2)) (B : ∀ d, d < 2 → Bts (hJ h (b + 2) d) M d) (e : sX3_occupied h b = some u) : u.2 = h ∧ ∀ s, s < 64 → (bitJ u.1 s = true ↔ 0 < M s) := by
  unfold sX3_occupied at e
  replace e := ce_e e1 e
  replace e := gg_e e
  replace e := ce_e e1 e
  replace e := gg_e e
  have y := so_e e
  refine ⟨by rw [y], fun s hs => ?_⟩
  rw [y]
  show bitJ (hJ h (b + 2) 0 ||| hJ h (b + 2) 1) s = true ↔ _
  rw [bj_or, Bool.or_eq_true]
  have a : bitJ (hJ h (b + 2) 0) s = true ↔ (0 < M s ∧ (M s - 1) % 2 = ((0 : Nat) : Int)) := B 0 (by decide) s hs
  have b' : bitJ (hJ h (b + 2) 1) s = true ↔ (0 < M s ∧ (M s - 1) % 2 = ((1 : Nat) : Int)) := B 1 (by decide) s hs
  rw [a, b']
  constructor
  · intro z
    rcases z with z | z <;> exact z.1
  · intro z
    by_cases c : (M s - 1) % 2 = 0
    · exact Or.inl ⟨z, by omega⟩
    · exact Or.inr ⟨z, by omega⟩
theorem gat_k {b : Nat} {tg : Nat → Int} (k0 : DyK n h h) (bb : hR h b 0 = some (b + 1)) (b2 : hR h b 1 = some (b + 2)) (nw : ∀ i, ¬ WRo n (b + 1) i) (bs : b + 1 < hS h) (onM : ∀ s, s < 64 → (hI h (b + 1) s).toInt = M s - 1) (B : ∀ d, d < 2 → Bts (hJ h (b + 2) d) M d) (m24 : ∀ s, s < 64 → 0 ≤ M s ∧ M s ≤ 24) (t24 : ∀ s, s < 64 → 0 ≤ tg s ∧ tg s ≤ 24) (i2 : -1 ≤ x2.toInt ∧ x2.toInt ≤ 63) (et : ∀ s : Nat, s < 64 → 0 < M s → (x2.toInt = (s : Int) → tg s = x3.toInt + 1) ∧ (¬ x2.toInt = (s : Int) → tg s = M s)) (tz : ∀ s, s < 64 → ¬ 0 < M s → tg s = 0) (c5 : mnC tg 64 ≤ 5) (e : sX0_gatherRow F h (n + 62) b x2 x3 = some o) : DkT n h o ∧ FrW (WRo n) h o ∧ ∃ m f, EnU tg m f ∧ RwE n o m f := by
  have s6 := dk_610 k0
  unfold sX0_gatherRow at e
  obtain ⟨h1, w1, e⟩ := nm_s e
  have d1 : DkT n h h1 := by rw [w1]; exact dkt_w dkt_0
  have F1 : FrW (WRo n) h h1 := by rw [w1]; exact fw_wI fw_0 (Or.inr ⟨rfl, rfl⟩)
  obtain ⟨o2, e2, e⟩ := cl_s e
  obtain ⟨q2, bits⟩ := occ_w (M := M) ((d1.2.2 b 1).trans b2) (fun d hd => by rw [w1]; exact B d hd) e2
  rw [q2] at e
  refine gat_w (M := M) (tg := tg) k0 bb nw bs onM m24 t24 i2 et tz c5 F (i := 0) (m := 0) (f := fun _ => 0) d1 F1 (fun s hs z => (bits s hs).mp z) ⟨fun i hi => by omega, fun i hi => by omega, fun s hs z => ?_⟩ ⟨by rw [w1, rI_s]; rfl, fun i hi => by omega⟩ rfl (Nat.zero_le _) (fun s hs => by omega) e
  exfalso
  have z : 0 < (if bitJ o2.1 s = true then 0 else tg s) := z
  by_cases c : bitJ o2.1 s = true
  · rw [if_pos c] at z; omega
  · rw [if_neg c, tz s hs (fun w => c ((bits s hs).mpr w))] at z; omega
end
end
section
/-! ENDINGS, the class: key and number of its row -/
section
variable {n F m q : Nat} {g h h0 : Hp} {o : Int32 × Hp} {f : Nat → Int} {x1 x2 x3 : Int32} {v : Int} {p : Nat} {d : Nat → Nat}
theorem kor_s {E : Nat → Int} (g : D24 E) {i : Nat} (i5 : i < 5) {x w y : Int32} (ey : y.toInt = (i : Int)) (ex : x.toInt = K5 (fun j => if j < i then E j else 0)) (ew : w.toInt = E i) : (x ||| (w <<< (((5 : Int32) * y) &&& 31))).toInt = K5 (fun j => if j < i + 1 then E j else 0) := by
  have g0 := g 0
  have g1 := g 1
  have g2 := g 2
  have g3 := g 3
  have g4 := g 4
  have c : i = 0 ∨ i = 1 ∨ i = 2 ∨ i = 3 ∨ i = 4 := by omega
  rcases c with c | c | c | c | c <;> subst c
  · have ly : y = 0 := Int32.toInt_inj.mp (by rw [ey]; rfl)
    subst ly
    have ex : x.toInt = 0 + 32 * 0 + 1024 * 0 + 32768 * 0 + 1048576 * 0 := ex
    have a : (w <<< (((5 : Int32) * 0) &&& 31)).toInt = w.toInt * ((2 ^ 0 : Nat) : Int) := shl_i (m := 0) rfl (by omega) (by omega)
    rw [or_i (m := 0) (z := w.toInt) (by omega) (by omega) (by omega) a (by rw [a]; omega), a, ew]
    show _ = E 0 + 32 * 0 + 1024 * 0 + 32768 * 0 + 1048576 * 0
    omega
  · have ly : y = 1 := Int32.toInt_inj.mp (by rw [ey]; rfl)
    subst ly
    have ex : x.toInt = E 0 + 32 * 0 + 1024 * 0 + 32768 * 0 + 1048576 * 0 := ex
    have a : (w <<< (((5 : Int32) * 1) &&& 31)).toInt = w.toInt * ((2 ^ 5 : Nat) : Int) := shl_i (m := 5) rfl (by omega) (by omega)
    rw [or_i (m := 5) (z := w.toInt) (by omega) (by omega) (by omega) a (by rw [a]; omega), a, ew]
    show _ = E 0 + 32 * E 1 + 1024 * 0 + 32768 * 0 + 1048576 * 0
    omega
  · have ly : y = 2 := Int32.toInt_inj.mp (by rw [ey]; rfl)
    subst ly
    have ex : x.toInt = E 0 + 32 * E 1 + 1024 * 0 + 32768 * 0 + 1048576 * 0 := ex
    have a : (w <<< (((5 : Int32) * 2) &&& 31)).toInt = w.toInt * ((2 ^ 10 : Nat) : Int) := shl_i (m := 10) rfl (by omega) (by omega)
    rw [or_i (m := 10) (z := w.toInt) (by omega) (by omega) (by omega) a (by rw [a]; omega), a, ew]
    show _ = E 0 + 32 * E 1 + 1024 * E 2 + 32768 * 0 + 1048576 * 0
    omega
  · have ly : y = 3 := Int32.toInt_inj.mp (by rw [ey]; rfl)
    subst ly
    have ex : x.toInt = E 0 + 32 * E 1 + 1024 * E 2 + 32768 * 0 + 1048576 * 0 := ex
    have a : (w <<< (((5 : Int32) * 3) &&& 31)).toInt = w.toInt * ((2 ^ 15 : Nat) : Int) := shl_i (m := 15) rfl (by omega) (by omega)
    rw [or_i (m := 15) (z := w.toInt) (by omega) (by omega) (by omega) a (by rw [a]; omega), a, ew]
    show _ = E 0 + 32 * E 1 + 1024 * E 2 + 32768 * E 3 + 1048576 * 0
    omega
  · have ly : y = 4 := Int32.toInt_inj.mp (by rw [ey]; rfl)
    subst ly
    have ex : x.toInt = E 0 + 32 * E 1 + 1024 * E 2 + 32768 * E 3 + 1048576 * 0 := ex
    have a : (w <<< (((5 : Int32) * 4) &&& 31)).toInt = w.toInt * ((2 ^ 20 : Nat) : Int) := shl_i (m := 20) rfl (by omega) (by omega)
    rw [or_i (m := 20) (z := w.toInt) (by omega) (by omega) (by omega) a (by rw [a]; omega), a, ew]
    show _ = E 0 + 32 * E 1 + 1024 * E 2 + 32768 * E 3 + 1048576 * E 4
    omega
/-- men of the row: their values -/
def RwV (m : Nat) (f : Nat → Int) : Prop := ∀ i, i < m → 64 ≤ f i ∧ f i < 1600
theorem kor_k (k0 : DyK n g h) (m5 : m ≤ 5) (R : RwE n h m f) (V : RwV m f) (e : sX0_keyOfRow F h (n + 62) = some o) : o.2 = h ∧ KeyR o.1 (fun i => f i / 64) m := by
  have z1 : (1 : Int32).toInt = 1 := rfl
  have D : D24 (fun i => if i < m then f i / 64 else 0) := fun i => by
    show 0 ≤ (if i < m then f i / 64 else 0) ∧ (if i < m then f i / 64 else 0) ≤ 24
    split
    · rename_i c
      have := V i c
      omega
    · omega
  have go : ∀ (fu : Nat) {x1 x2 : Int32} {i : Nat}, x2.toInt = (i : Int) → i ≤ m → x1.toInt = K5 (fun j => if j < i then (if j < m then f j / 64 else 0) else 0) → sX0_keyOfRow_4 F fu h (n + 62) x1 x2 = some o → o.2 = h ∧ KeyR o.1 (fun i => f i / 64) m := by
    intro fu
    induction fu with
    | zero => intro x1 x2 i _ _ _ e; exact absurd e (by rw [sX0_keyOfRow_4]; exact fun z => nomatch z)
    | succ fu ih =>
      intro x1 x2 i e2 im e1 e
      rw [sX0_keyOfRow_4] at e
      rcases br_s e with ⟨c, e⟩ | ⟨c, e⟩
      · have c := le_i c
        rw [R.1] at c
        have im' : i = m := by omega
        rw [so_e e]
        refine ⟨rfl, m5, fun j hj => ?_, ?_⟩
        · have := V j hj
          show 1 ≤ f j / 64 ∧ f j / 64 ≤ 24
          omega
        · show x1.toInt = _
          rw [e1, im']
          refine k5_eq (fun j _ => ?_)
          show (if j < m then (if j < m then f j / 64 else 0) else 0) = (if j < m then f j / 64 else 0)
          by_cases q : j < m
          · rw [if_pos q]
          · rw [if_neg q, if_neg q]
      · have c := nle_i c
        rw [R.1] at c
        have n2 : x2.toNatClampNeg = i := by have := nc_i (x := x2) (by omega); omega
        replace e := ce_e (dk_e (a := 62) (f := 7) (b := 72) k0 (by decide +kernel)) e
        replace e := gg_e e
        obtain ⟨v4, w4, e⟩ := nm_s e
        obtain ⟨v5, w5, e⟩ := nm_s e
        rw [n2] at w4
        have rv := R.2 i (by omega)
        have vv := V i (by omega)
        have sh : ((hI h (n + 72) i) >>> ((6 : Int32) &&& 31)).toInt = f i / 64 - 1 := by
          rw [shr_i 6 rfl, rv]
          show (f i - 64) / 64 = f i / 64 - 1
          omega
        have ew : (((hI h (n + 72) i) >>> ((6 : Int32) &&& 31)) + (1 : Int32)).toInt = (fun i => if i < m then f i / 64 else 0) i := by
          show _ = if i < m then f i / 64 else 0
          rw [if_pos (by omega), ta (by rw [sh, z1]; omega), sh, z1]; omega
        have st := kor_s D (i := i) (by omega) e2 e1 ew
        refine ih (i := i + 1) (by rw [w5, ta (by rw [z1]; omega), z1]; omega) (by omega) ?_ e
        rw [w4]
        exact st
  unfold sX0_keyOfRow at e
  exact go F (i := 0) rfl (Nat.zero_le _) rfl e
/-- powers of the number of squares -/
def PwE (n : Nat) (h : Hp) (q : Nat) : Prop := ∀ i, i ≤ 5 → (hI h (n + 71) i).toInt = ((q ^ i : Nat) : Int)
theorem pow_30 {j : Nat} (q64 : q ≤ 64) (j5 : j ≤ 5) : q ^ j ≤ 1073741824 := by
  have a : q ^ j ≤ 64 ^ j := Nat.pow_le_pow_left q64 j
  have b : 64 ^ j ≤ 64 ^ 5 := Nat.pow_le_pow_right (by decide) j5
  have c : (64 : Nat) ^ 5 = 1073741824 := by decide
  omega
theorem num_w {j : Nat} {x y w : Int32} (q0 : 0 < q) (q64 : q ≤ 64) (j4 : j ≤ 4) (dq : ∀ i, i ≤ j → d i < q) (ex : x.toInt = (nmV q d j : Int)) (ey : y.toInt = (d j : Int)) (ew : w.toInt = ((q ^ j : Nat) : Int)) : (x + y * w).toInt = (nmV q d (j + 1) : Int) := by
  have a := nmv_lt q0 (j + 1) (s := d) (fun i hi => dq i (by omega))
  have b := pow_30 (j := j + 1) q64 (by omega)
  have e : nmV q d (j + 1) = nmV q d j + d j * q ^ j := rfl
  have m : (y * w).toInt = ((d j * q ^ j : Nat) : Int) := by
    have c : y.toInt * w.toInt = ((d j * q ^ j : Nat) : Int) := by rw [ey, ew]; exact (Int.natCast_mul _ _).symm
    rw [tm (by rw [c]; omega), c]
  rw [ta (by rw [ex, m]; omega), ex, m, e]
  omega
theorem num_64 {Q : Prop} {K : Hp → Nat → Int32 → Int32 → Int32 → Int32 → Int32 → Option (Int32 × Hp)} {x4 x5 : Int32} {i j : Nat} (k0 : DyK n g h) (Pw : PwE n h q) (q0 : 0 < q) (q64 : q ≤ 64) (R : RwE n h m f) (V : RwV m f) (j4 : j ≤ 4) (im : i < m) (m5 : m ≤ 5) (dq : ∀ i, i ≤ j → d i < q) (ed : d j = (f i % 64).toNat) (e2 : x2.toInt = (nmV q d j : Int)) (e3 : x3.toInt = (j : Int)) (e5 : x5.toInt = (i : Int)) (hK : ∀ {y2 y3 y5 : Int32}, y2.toInt = (nmV q d (j + 1) : Int) → y3.toInt = ((j + 1 : Nat) : Int) → y5.toInt = ((i + 1 : Nat) : Int) → K h (n + 62) x1 y2 y3 x4 y5 = some o → Q) (e : sX0_numberOf_64 F K h (n + 62) x1 x2 x3 x4 x5 = some o) : Q := by
  have z1 : (1 : Int32).toInt = 1 := rfl
  have z63 : (63 : Int32).toInt = 63 := rfl
  have n5 : x5.toNatClampNeg = i := by have := nc_i (x := x5) (by omega); omega
  have n3 : x3.toNatClampNeg = j := by have := nc_i (x := x3) (by omega); omega
  unfold sX0_numberOf_64 at e
  replace e := ce_e (dk_e (a := 62) (f := 7) (b := 72) k0 (by decide +kernel)) e
  replace e := gg_e e
  replace e := ce_e (dk_e (a := 62) (f := 6) (b := 71) k0 (by decide +kernel)) e
  replace e := gg_e e
  obtain ⟨v5, w5, e⟩ := nm_s e
  obtain ⟨v6, w6, e⟩ := nm_s e
  obtain ⟨v7, w7, e⟩ := nm_s e
  rw [n5, n3] at w5
  have rv := R.2 i im
  have vv := V i im
  have ea : ((hI h (n + 72) i) &&& (63 : Int32)).toInt = (d j : Int) := by
    rw [and_i (m := 6) (by omega) (by decide) (by rw [z63]; rfl), rv, ed]
    show (f i - 64) % 64 = _
    omega
  refine hK ?_ ?_ ?_ e
  · rw [w5]; exact num_w q0 q64 j4 dq e2 ea (Pw j (by omega))
  · rw [w6, ta (by rw [z1]; omega), z1]; omega
  · rw [w7, ta (by rw [z1]; omega), z1]; omega
/-- behind the man who came -/
theorem num_pl {c : Nat} (k0 : DyK n g h) (Pw : PwE n h q) (q0 : 0 < q) (q64 : q ≤ 64) (R : RwE n h m f) (V : RwV m f) (mc : m + c ≤ 5) (dq : ∀ i, i < m + c → d i < q) : ∀ (fu : Nat) {x2 x3 x4 x5 : Int32} {i : Nat}, x5.toInt = (i : Int) → i ≤ m → x3.toInt = ((i + c : Nat) : Int) → x2.toInt = (nmV q d (i + c) : Int) → ¬ x4 = 0 → (∀ j, i ≤ j → j < m → d (j + c) = (f j % 64).toNat) → sX0_numberOf_19 F fu h (n + 62) x1 x2 x3 x4 x5 = some o → o.2 = h ∧ o.1.toInt = (nmV q d (m + c) : Int) := by
  intro fu
  induction fu with
  | zero => intro x2 x3 x4 x5 i _ _ _ _ _ _ e; exact absurd e (by rw [sX0_numberOf_19]; exact fun z => nomatch z)
  | succ fu ih =>
    intro x2 x3 x4 x5 i e5 im e3 e2 n4 ed e
    rw [sX0_numberOf_19] at e
    rcases br_s e with ⟨c1, e⟩ | ⟨c1, e⟩
    · have c1 := le_i c1
      rw [R.1] at c1
      have im' : i = m := by omega
      replace e := bn_e n4 e
      unfold sX0_numberOf_115 at e
      rw [so_e e, ← im']
      exact ⟨rfl, e2⟩
    · have c1 := nle_i c1
      rw [R.1] at c1
      replace e := bn_e n4 e
      refine num_64 (j := i + c) (i := i) k0 Pw q0 q64 R V (by omega) (by omega) (by omega) (fun i' hi' => dq i' (by omega)) (ed i (Nat.le_refl _) (by omega)) e2 e3 e5 (fun {y2 y3 y5} a b c' e => ?_) e
      rw [show i + c + 1 = i + 1 + c by omega] at a b
      exact ih (i := i + 1) c' (by omega) b a n4 (fun j h1 h2 => ed j (by omega) h2) e
/-- a man comes to the row -/
theorem num_un (k0 : DyK n g h) (Pw : PwE n h q) (q0 : 0 < q) (q64 : q ≤ 64) (R : RwE n h m f) (V : RwV m f) (m4 : m ≤ 4) (dq : ∀ i, i < m + 1 → d i < q) (ev : x1.toInt = v - 64) (v64 : 64 ≤ v) (pm : p ≤ m) (pa : ∀ i, i < p → f i ≤ v) (pb : ∀ i, p ≤ i → i < m → v < f i) (ed : ∀ i, i < m + 1 → d i = (inFx f p v i % 64).toNat) : ∀ (fu : Nat) {x2 x3 x5 : Int32} {i : Nat}, x5.toInt = (i : Int) → i ≤ p → x3.toInt = (i : Int) → x2.toInt = (nmV q d i : Int) → sX0_numberOf_19 F fu h (n + 62) x1 x2 x3 (0 : Int32) x5 = some o → o.2 = h ∧ o.1.toInt = (nmV q d (m + 1) : Int) := by
  have z1 : (1 : Int32).toInt = 1 := rfl
  have z63 : (63 : Int32).toInt = 63 := rfl
  have dp : d p = (v % 64).toNat := by
    rw [ed p (by omega)]
    unfold inFx
    rw [if_neg (Nat.lt_irrefl _), if_pos rfl]
  have ea : (x1 &&& (63 : Int32)).toInt = (d p : Int) := by
    rw [and_i (m := 6) (by omega) (by decide) (by rw [z63]; rfl), ev, dp]
    show (v - 64) % 64 = _
    omega
  intro fu
  induction fu with
  | zero => intro x2 x3 x5 i _ _ _ _ e; exact absurd e (by rw [sX0_numberOf_19]; exact fun z => nomatch z)
  | succ fu ih =>
    intro x2 x3 x5 i e5 ip e3 e2 e
    rw [sX0_numberOf_19] at e
    have n5 : x5.toNatClampNeg = i := by have := nc_i (x := x5) (by omega); omega
    have n3 : x3.toNatClampNeg = i := by have := nc_i (x := x3) (by omega); omega
    have r6 := dk_e (a := 62) (f := 6) (b := 71) k0 (by decide +kernel)
    have r7 := dk_e (a := 62) (f := 7) (b := 72) k0 (by decide +kernel)
    rcases br_s e with ⟨c1, e⟩ | ⟨c1, e⟩
    · have c1 := le_i c1
      rw [R.1] at c1
      have im' : i = m := by omega
      have pi : p = i := by omega
      replace e := bp_e rfl e
      replace e := ce_e r6 e
      replace e := gg_e e
      unfold sX0_numberOf_115 at e
      rw [so_e e]
      refine ⟨rfl, ?_⟩
      show (x2 + (x1 &&& (63 : Int32)) * hI h (n + 71) x3.toNatClampNeg).toInt = _
      rw [n3, ← im']
      exact num_w q0 q64 (by omega) (fun i' hi' => dq i' (by omega)) e2 (by rw [ea, pi]) (Pw i (by omega))
    · have c1 := nle_i c1
      rw [R.1] at c1
      replace e := bp_e rfl e
      replace e := ce_e r7 e
      replace e := gg_e e
      have rv := R.2 i (by omega)
      rcases br_s e with ⟨c2, e⟩ | ⟨c2, e⟩
      · have c2 := le_i c2
        rw [n5, rv, ev] at c2
        have ip' : i < p := by
          apply Classical.byContradiction
          intro z
          have := pb i (by omega) (by omega)
          omega
        have di : d i = (f i % 64).toNat := by
          rw [ed i (by omega)]
          unfold inFx
          rw [if_pos ip']
        refine num_64 (j := i) (i := i) k0 Pw q0 q64 R V (by omega) (by omega) (by omega) (fun i' hi' => dq i' (by omega)) di e2 e3 e5 (fun {y2 y3 y5} a b c' e => ?_) e
        exact ih (i := i + 1) c' ip' b a e
      · have c2 := nle_i c2
        rw [n5, rv, ev] at c2
        have pi : p = i := by
          apply Classical.byContradiction
          intro z
          have := pa i (by omega)
          omega
        replace e := ce_e r6 e
        replace e := gg_e e
        obtain ⟨v11, w11, e⟩ := nm_s e
        obtain ⟨v12, w12, e⟩ := nm_s e
        rw [n3] at w11
        have y11 : v11.toInt = (nmV q d (i + 1) : Int) := by
          rw [w11]
          exact num_w q0 q64 (by omega) (fun i' hi' => dq i' (by omega)) e2 (by rw [ea, pi]) (Pw i (by omega))
        have y12 : v12.toInt = ((i + 1 : Nat) : Int) := by rw [w12, ta (by rw [z1]; omega), z1]; omega
        have dj : ∀ j, i ≤ j → j < m → d (j + 1) = (f j % 64).toNat := fun j h1 h2 => by
          rw [ed (j + 1) (by omega)]
          unfold inFx
          rw [if_neg (by omega), if_neg (by omega)]
          rfl
        refine num_64 (j := i + 1) (i := i) k0 Pw q0 q64 R V (by omega) (by omega) (by omega) (fun i' hi' => dq i' (by omega)) (dj i (Nat.le_refl _) (by omega)) y11 y12 e5 (fun {y2 y3 y5} a b c' e => ?_) e
        exact num_pl (c := 1) k0 Pw q0 q64 R V (by omega) dq fu (i := i + 1) c' (by omega) b a (show ¬ (1 : Int32) = 0 by decide) (fun j h1 h2 => dj j (by omega) h2) e
theorem num_k (k0 : DyK n g h) (Pw : PwE n h q) (q0 : 0 < q) (q64 : q ≤ 64) (R : RwE n h m f) (V : RwV m f) (m4 : m ≤ 4) (ev : x1.toInt = v - 64) (v64 : 64 ≤ v) (pm : p ≤ m) (pa : ∀ i, i < p → f i ≤ v) (pb : ∀ i, p ≤ i → i < m → v < f i) (dq : ∀ i, i < m + 1 → (inFx f p v i % 64).toNat < q) (e : sX0_numberOf F h (n + 62) x1 = some o) : o.2 = h ∧ o.1.toInt = (nmV q (fun i => (inFx f p v i % 64).toNat) (m + 1) : Int) := by
  have zm : (-1 : Int32).toInt = -1 := rfl
  unfold sX0_numberOf sX0_numberOf_14 at e
  replace e := bn_e (fun z => by rw [z, zm] at ev; omega) e
  exact num_un (d := fun i => (inFx f p v i % 64).toNat) k0 Pw q0 q64 R V m4 dq ev v64 pm pa pb (fun _ _ => rfl) F (i := 0) rfl (Nat.zero_le _) rfl rfl e
theorem num_a (k0 : DyK n g h) (Pw : PwE n h q) (q0 : 0 < q) (q64 : q ≤ 64) (R : RwE n h m f) (V : RwV m f) (m5 : m ≤ 5) (dq : ∀ i, i < m → (f i % 64).toNat < q) (e : sX0_numberOf F h (n + 62) (-1 : Int32) = some o) : o.2 = h ∧ o.1.toInt = (nmV q (fun i => (f i % 64).toNat) m : Int) := by
  unfold sX0_numberOf sX0_numberOf_14 at e
  replace e := bp_e rfl e
  exact num_pl (c := 0) (d := fun i => (f i % 64).toNat) k0 Pw q0 q64 R V m5 dq F (i := 0) rfl (Nat.zero_le _) rfl rfl (show ¬ (1 : Int32) = 0 by decide) (fun _ _ _ => rfl) e
end
end
