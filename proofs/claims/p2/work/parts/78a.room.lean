/-! room: pages that are not made yet are paid for ahead -/
/-- how many of a row's first n are null -/
def nuC (h : Hp) (r : Nat) : Nat → Nat
  | 0 => 0
  | n + 1 => nuC h r n + (if (hR h r n).isNone then 1 else 0)
theorem nuC_eq {h o : Hp} {r : Nat} : ∀ n, (∀ i, i < n → hR o r i = hR h r i) → nuC o r n = nuC h r n := by
  intro n
  induction n with
  | zero => intro _; rfl
  | succ n ih =>
    intro k
    show nuC o r n + _ = nuC h r n + _
    rw [ih (fun i hi => k i (by omega)), k n (by omega)]
theorem nuC_set {h o : Hp} {r v q : Nat} (z : hR h r v = none) (s : hR o r v = some q) (k : ∀ i, ¬ i = v → hR o r i = hR h r i) : ∀ n, v < n → nuC o r n + 1 = nuC h r n := by
  intro n
  induction n with
  | zero => intro l; omega
  | succ n ih =>
    intro l
    show nuC o r n + _ + 1 = nuC h r n + _
    by_cases e : v = n
    · rw [nuC_eq n (fun i hi => k i (by omega)), ← e, s, z]
      rfl
    · have := ih (by omega)
      rw [k n (fun y => e y.symm)]
      omega
/-- a row's price: what stands, and what is still to come, keeps to Bq -/
def Pay (f n p q : Nat) (Bq : Nat × Nat) (x0 : Nat) (h : Hp) : Prop := ∀ r, hR h x0 f = some r → h.1.1 + p * nuC h r n ≤ Bq.1 ∧ h.1.2 + q * nuC h r n ≤ Bq.2
section
variable {ρ ρ1 : Nat → Nat} {c c1 : Cm} {h o g : Hp} {E : Nat → Nat → Bool} {wp : Nat → Bool} {x0 b w i F L : Nat} {x1 x2 x3 : Int32} {n m : Int} {Bq : Nat × Nat}
theorem pay_k {f n p q k : Nat} (T : TH ρ c h) (r0 : ρ x0 = k) (k0 : k ≠ 0) {k2 : Nat} (hk : rfK k f = k2) (h2 : k2 ≠ 0) (e1 : o.1 = h.1) (R : hR o x0 f = hR h x0 f) (Q : ∀ r i, ρ r = k2 → hR o r i = hR h r i) (P : Pay f n p q Bq x0 h) : Pay f n p q Bq x0 o := fun r er => by
  rw [R] at er
  have rr' : ρ r = k2 := rr T (thR T r0 (i := f) (k2 := k2) hk h2) er
  rw [e1, nuC_eq n (fun i _ => Q r i rr')]
  exact P r er
/-- pages of games that stand keep to the law, and are paid for -/
def PgY (ρ : Nat → Nat) (c : Cm) (x0 : Nat) (Bq : Nat × Nat) (h : Hp) : Prop := PgX ρ c x0 h ∧ Pay 15 2408 6 83 Bq x0 h
theorem pgy_sz (nn : niceC E) (n59 : ∀ i, E 59 i = false) (n61 : ∀ i, E 61 i = false) (T : TH ρ c h) (r0 : ρ x0 = 12) (f : Fr ρ (cat c (SZ E wp) h) h o) (hb : ∀ j, wp (8000 + j) = false ∨ ∀ b, Pg x0 j b h → RyX ρ c b h → RyX ρ c b o) (P : PgY ρ c x0 Bq h) (T' : TH ρ c o := by assumption) : PgY ρ c x0 Bq o :=
  ⟨pgx_sz nn n59 n61 T r0 f hb P.1, pay_k T r0 (by decide) (k2 := 59) rfl (by decide) (T'.1.1.trans T.1.1.symm) (x12 r0 f nn.2.2.2.1) (fun r i qr => (fr_RI f qr (by decide) (fun _ => sz_f (n59 _) rfl (Or.inl rfl))).2.2) P.2⟩
theorem pgy_x (T : TH ρ c h) (r0 : ρ x0 = 12) (X : Ext ρ c ρ1 c1) (T1 : TH ρ1 c1 o) (P : PgY ρ c x0 Bq g) : PgY ρ1 c1 x0 Bq g := ⟨pgx_x T r0 X T1 P.1, P.2⟩
theorem pgy_y (X : Ext ρ c ρ1 c1) (P : PgY ρ1 c1 x0 Bq g) : PgY ρ c x0 Bq g := ⟨pgx_y X P.1, P.2⟩
theorem pgy_len {rl : Nat} {n0 : Nat} {v : Int32} (T : TH ρ c h) (r0 : ρ x0 = 12) (er : hR h x0 17 = some rl) (qr : ρ rl = 61) (hv : ∀ k : Nat, (k : Int) ≤ v.toInt → ∀ b, Pg x0 (301 * n0 + k) b h → RyX ρ c b h) (P : PgY ρ c x0 Bq h) (e : o = wI h rl n0 v) : PgY ρ c x0 Bq o := ⟨pgx_len T r0 er qr hv P.1 e, pay_k T r0 (by decide) (k2 := 59) rfl (by decide) (by rw [e]; rfl) (by rw [e]; rfl) (fun r i _ => by rw [e]; rfl) P.2⟩
theorem pgy_w {A : List (Nat × Nat)} (hA : ∀ k i, k = 4 ∨ k = 36 ∨ k = 2 ∨ k = 34 → mS A k i = false) {a j : Nat} {v : Int32} (T : TH ρ c h) (r0 : ρ x0 = 12) (na : ∀ rl, hR h x0 17 = some rl → ¬ rl = a) (f : Fr ρ (cat c (fS A []) h) h o) (P : PgY ρ c x0 Bq h) (e : o = wI h a j v) : PgY ρ c x0 Bq o := ⟨pgx_w hA T r0 na f P.1 e, pay_k T r0 (by decide) (k2 := 59) rfl (by decide) (by rw [e]; rfl) (by rw [e]; rfl) (fun r i _ => by rw [e]; rfl) P.2⟩
/-- filling makes nothing -/
theorem fB_1 {r : Nat} {v x3 : Int32} : ∀ (f : Nat) {h o : Hp} {x2 : Int32}, sJ7_fill_031fb_5 F f h r v x2 x3 = some o → o.1 = h.1 := by
  intro f
  induction f with
  | zero => intro h o x2 e; exact absurd e (by rw [sJ7_fill_031fb_5]; exact fun z => nomatch z)
  | succ f ih =>
    intro h o x2 e
    rw [sJ7_fill_031fb_5] at e
    rcases br_s e with ⟨_, e⟩ | ⟨_, e⟩
    · rw [← Option.some.inj e]
    · have q := ih (gd_s e).2
      rw [q]; rfl
theorem fI_1 {r : Nat} {v x3 : Int32} : ∀ (f : Nat) {h o : Hp} {x2 : Int32}, sJ7_fill_53178_5 F f h r v x2 x3 = some o → o.1 = h.1 := by
  intro f
  induction f with
  | zero => intro h o x2 e; exact absurd e (by rw [sJ7_fill_53178_5]; exact fun z => nomatch z)
  | succ f ih =>
    intro h o x2 e
    rw [sJ7_fill_53178_5] at e
    rcases br_s e with ⟨_, e⟩ | ⟨_, e⟩
    · rw [← Option.some.inj e]
    · have q := ih (gd_s e).2
      rw [q]; rfl
theorem init_1 (e : sX3_init F (nC h 3 0 11) (hS h) = some o) : o.1 = (h.1.1 + 6, h.1.2 + 83) := by
  have ei : sX3_init F (nC h 3 0 11) (hS h) = (cl (hR (poH h) (hS h) 0) fun r_2 => cl (sJ7_fill_031fb F (poH h) r_2 (-1 : Int32)) fun o_3 => cl (hR o_3 (hS h) 2) fun r_1 => cl (sJ7_fill_53178 F o_3 r_1 (-1 : Int32)) fun o_2 => some o_2) := rfl
  rw [ei] at e
  replace e := cl_s e
  obtain ⟨on, k1, e⟩ := e
  replace e := cl_s e
  obtain ⟨o3, e3, e⟩ := e
  replace e := cl_s e
  obtain ⟨ra, k3, e⟩ := e
  replace e := cl_s e
  obtain ⟨o4, e4, e⟩ := e
  rw [← Option.some.inj e]
  unfold sJ7_fill_031fb at e3
  unfold sJ7_fill_53178 at e4
  rw [fI_1 F e4, fB_1 F e3]
  exact poH_1 h
end
