/-! the tree of the class's problems -/
def tE : Nat → Nat → Bool := fun k i => (k == 5 && (i == 8 || i == 9)) || (decide (41 ≤ k) && decide (k ≤ 44))
def tW (d : Nat) : Nat → Bool := fun w => w == 1503 || (decide (3100 + d < w) && decide (w ≤ 3108))
theorem tW_t {d j : Nat} (h : d < j) (l : j ≤ 8) : tW d (3100 + j) = true := by
  unfold tW
  rw [decide_eq_true (show 3100 + d < 3100 + j by omega), decide_eq_true (show 3100 + j ≤ 3108 by omega)]
  exact Bool.or_true _
theorem tW_f {d j : Nat} (h : j ≤ d) : tW d (3100 + j) = false := by
  unfold tW
  rw [decide_eq_false (show ¬ 3100 + d < 3100 + j by omega), bq_ne (show 3100 + j ≠ 1503 by omega)]
  rfl
theorem tW_s {d e : Nat} (h : d ≤ e) : ∀ w, tW e w = true → tW d w = true := fun w z => by
  unfold tW at z ⊢
  rw [Bool.or_eq_true, Bool.and_eq_true, decide_eq_true_eq, decide_eq_true_eq] at z ⊢
  exact z.imp id (fun y => ⟨by omega, y.2⟩)
theorem niceC_t : niceC tE := by
  refine ⟨fun k i hk => ?_, rfl, rfl, rfl, rfl, rfl, rfl, fun _ => rfl⟩
  unfold tE
  rw [bq_ne (show k ≠ 5 by omega)]
  by_cases q : 41 ≤ k
  · omega
  · rw [decide_eq_false q]; rfl
/-- a position of the path -/
def PQ (ρ : Nat → Nat) (c : Cm) (x0 d b : Nat) (h : Hp) : Prop := ∃ r, hR h x0 1 = some r ∧ hR h r d = some b ∧ RyP ρ c b h
/-- rows are counted to their most while none is over -/
def RcP (x0 : Nat) (h : Hp) : Prop := (hI h x0 9).toInt = 0 → ∀ r, hR h x0 4 = some r → ∀ j, j < 8 → (hI h r j).toInt ≤ 100000
section
variable {ρ : Nat → Nat} {c : Cm} {h o : Hp} {E : Nat → Nat → Bool} {wp : Nat → Bool} {x0 b d w i F : Nat} {x1 x2 x3 : Int32}
theorem x5R (r0 : ρ x0 = 5) (f : Fr ρ (cat c (SZ E wp) h) h o) (e : E 5 i = false) : hR o x0 i = hR h x0 i := (fr_RI f r0 (by decide) (fun _ => sz_f e rfl (Or.inl rfl))).2.2
theorem x5I (r0 : ρ x0 = 5) (f : Fr ρ (cat c (SZ E wp) h) h o) (e : E 5 i = false) : hI o x0 i = hI h x0 i := (fr_RI f r0 (by decide) (fun _ => sz_f e rfl (Or.inl rfl))).1
theorem path_r (T : TH ρ c h) (r0 : ρ x0 = 5) {r : Nat} (e1 : hR h x0 1 = some r) : ρ r = 39 := by
  obtain ⟨q1, f1, g1⟩ := thR T r0 (i := 1) (k2 := 39) rfl (by decide)
  rw [r_eq f1 e1]; exact g1
theorem path_b (T : TH ρ c h) (r0 : ρ x0 = 5) {r : Nat} (hd : d < 9) (e1 : hR h x0 1 = some r) (e2 : hR h r d = some b) : ρ b = 4 ∧ cw c b = 3100 + d := by
  have h1 := path_r T r0 e1
  have hk : rfK 39 d = 4 := if_pos hd
  obtain ⟨b', e3, e4⟩ := thR T h1 (i := d) (k2 := 4) hk (by decide)
  exact ⟨by rw [r_eq e3 e2]; exact e4, th_id T h1 (w := 3100 + d) e2 rfl (by omega)⟩
theorem pq_r (T : TH ρ c h) (r0 : ρ x0 = 5) (hd : d < 9) (B : PQ ρ c x0 d b h) : ρ b = 4 ∧ cw c b = 3100 + d := by
  obtain ⟨r, e1, e2, _⟩ := B
  exact path_b T r0 hd e1 e2
theorem pq_sz (n : niceC E) (n1 : E 5 1 = false) (n39 : E 39 d = false) (hd : d < 9) (T : TH ρ c h) (r0 : ρ x0 = 5) (f : Fr ρ (cat c (SZ E wp) h) h o) (hb : wp (3100 + d) = false) (B : PQ ρ c x0 d b h) : PQ ρ c x0 d b o := by
  obtain ⟨k1, k3⟩ := pq_r T r0 hd B
  obtain ⟨r, e1, e2, P⟩ := B
  have h1 := path_r T r0 e1
  refine ⟨r, ?_, ?_, ry_sz n T k1 k3 hb f P⟩
  · rw [x5R r0 f n1]; exact e1
  · rw [(fr_RI f h1 (by decide) (fun _ => sz_f n39 rfl (Or.inl rfl))).2.2]; exact e2
theorem s_path {β : Type} {Q : β → Prop} {k : Nat → Option β} (T : TH ρ c h) (r0 : ρ x0 = 5) (i1 : Rg 0 8 x1) (B : PQ ρ c x0 x1.toNatClampNeg b h) (H : Sat (k b) Q) : Sat (cl (hR h x0 1) fun r_1 => gd (inB x1 (hN h r_1)) <| cl (hR h r_1 x1.toNatClampNeg) k) Q := by
  obtain ⟨r, e1, e2, P⟩ := B
  have h1 := path_r T r0 e1
  refine s_ref e1 ?_
  refine s_gd (by rw [thN T h1 (k := 39) (n := 9) rfl (by decide)]; exact rg_inB i1 (by decide)) ?_
  exact s_ref e2 H
theorem s_path0 {β : Type} {Q : β → Prop} {k : Nat → Option β} (T : TH ρ c h) (r0 : ρ x0 = 5) (i1 : Rg 0 8 x1) (H : ∀ r b, hR h x0 1 = some r → hR h r x1.toNatClampNeg = some b → ρ b = 4 → cw c b = 3100 + x1.toNatClampNeg → Sat (k b) Q) : Sat (cl (hR h x0 1) fun r_1 => gd (inB x1 (hN h r_1)) <| cl (hR h r_1 x1.toNatClampNeg) k) Q := by
  obtain ⟨r, e1, h1⟩ := thR T r0 (i := 1) (k2 := 39) rfl (by decide)
  have l9 : x1.toNatClampNeg < 9 := by have := rg_clamp (n := 8) i1 (by decide); omega
  have hk : rfK 39 x1.toNatClampNeg = 4 := if_pos l9
  obtain ⟨b, e3, e4⟩ := thR T h1 (i := x1.toNatClampNeg) (k2 := 4) hk (by decide)
  refine s_ref e1 ?_
  refine s_gd (by rw [thN T h1 (k := 39) (n := 9) rfl (by decide)]; exact rg_inB i1 (by decide)) ?_
  exact s_ref e3 (H r b e1 e3 e4 (path_b T r0 l9 e1 e3).2)
theorem s_lst {β : Type} {Q : β → Prop} {k : Nat → Option β} (T : TH ρ c h) (r0 : ρ x0 = 5) (i1 : Rg 0 7 x1) (H : ∀ b, ρ b = 47 → Sat (k b) Q) : Sat (cl (hR h x0 2) fun r_1 => gd (inB x1 (hN h r_1)) <| cl (hR h r_1 x1.toNatClampNeg) k) Q := by
  obtain ⟨r, e1, h1⟩ := thR T r0 (i := 2) (k2 := 40) rfl (by decide)
  have hk : rfK 40 x1.toNatClampNeg = 47 := if_pos (by have := rg_clamp (n := 7) i1 (by decide); omega)
  obtain ⟨b, e3, e4⟩ := thR T h1 (i := x1.toNatClampNeg) (k2 := 47) hk (by decide)
  refine s_ref e1 ?_
  refine s_gd (by rw [thN T h1 (k := 40) (n := 8) rfl (by decide)]; exact rg_inB i1 (by decide)) ?_
  exact s_ref e3 (H b e4)
/-- what only writes ends, ways and the like keeps all of this -/
theorem rc_sz (n4 : E 5 4 = false) (n9 : E 5 9 = false) (n42 : ∀ i, E 42 i = false) (T : TH ρ c h) (r0 : ρ x0 = 5) (f : Fr ρ (cat c (SZ E wp) h) h o) (P : RcP x0 h) : RcP x0 o := fun z r er j hj => by
  rw [x5I r0 f n9] at z
  rw [x5R r0 f n4] at er
  obtain ⟨q1, f1, g1⟩ := thR T r0 (i := 4) (k2 := 42) rfl (by decide)
  rw [(fr_RI f (show ρ r = 42 by rw [r_eq f1 er]; exact g1) (by decide) (fun _ => sz_f (n42 _) rfl (Or.inl rfl))).1]
  exact P z r er j hj
def eE (k0 : Nat) : Nat → Nat → Bool := fun k _ => k == k0
theorem niceC_e {k0 : Nat} (h : 41 ≤ k0 ∧ k0 ≤ 44) : niceC (eE k0) := by
  have z : ∀ k i, k ≠ k0 → eE k0 k i = false := fun k i hk => by unfold eE; exact bq_ne hk
  exact ⟨fun k i hk => z k i (by omega), z _ _ (by omega), z _ _ (by omega), z _ _ (by omega), z _ _ (by omega), z _ _ (by omega), z _ _ (by omega), fun _ => z _ _ (by omega)⟩
/-- a write into one of the rows, as a frame of the same form -/
theorem fr_e {k0 a j : Nat} {v : Int32} (qa : ρ a = k0) (e : o = wI h a j v) : Fr ρ (cat c (SZ (eE k0) no) h) h o := by
  rw [e]
  exact fu_wI ⟨fun _ _ _ _ => ⟨rfl, rfl, rfl⟩, fun _ _ => rfl⟩ qa (by show SZ (eE k0) no k0 (cw c a) j = true; unfold SZ eE; rw [beq_self_eq_true]; rfl)
end
