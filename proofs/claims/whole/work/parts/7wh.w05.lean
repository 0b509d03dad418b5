section
/-! ENDINGS, the class: counts and moves -/
section
variable {L : Nat → Nat → Int} {N q : Nat} {nk : Nat → Nat} {rk : Nat → Nat → Int} {x y : Nod} {D : List Nod} {tA : Nod → Bool}
theorem alb_c : ∀ (l : List (Nod × Bool)), l.countP (alB tA x) = l.count (x, true) + (if tA x = true then 0 else l.count (x, false)) := by
  intro l
  induction l with
  | nil => show 0 = 0 + (if tA x = true then 0 else 0); split <;> rfl
  | cons e l ih =>
    obtain ⟨z, b⟩ := e
    by_cases c : z = x
    · subst c
      cases b with
      | true =>
        have h1 : List.count (z, false) ((z, true) :: l) = List.count (z, false) l := List.count_cons_of_ne (fun w => Bool.noConfusion (congrArg Prod.snd w))
        rw [List.countP_cons_of_pos (show alB tA z (z, true) = true from al_y.mpr (Or.inl rfl)), List.count_cons_self, h1, ih]
        omega
      | false =>
        have h1 : List.count (z, true) ((z, false) :: l) = List.count (z, true) l := List.count_cons_of_ne (fun w => Bool.noConfusion (congrArg Prod.snd w))
        rw [h1, List.count_cons_self]
        by_cases t : tA z = true
        · rw [List.countP_cons_of_neg (fun w => by
            rcases al_y.mp w with u | u
            · exact nomatch u
            · have u : tA z = false := u
              rw [t] at u; exact nomatch u), ih, if_pos t, if_pos t]
        · rw [List.countP_cons_of_pos (show alB tA z (z, false) = true from al_y.mpr (Or.inr (by show tA z = false; exact Bool.eq_false_iff.mpr t))), ih, if_neg t, if_neg t]
          omega
    · have f : alB tA x (z, b) = false := al_n (fun w => c w.symm)
      rw [List.countP_cons_of_neg (by rw [f]; decide), ih, List.count_cons_of_ne (fun w => c (congrArg Prod.fst w)), List.count_cons_of_ne (fun w => c (congrArg Prod.fst w))]
theorem ka_b : kA L N nk rk q tA x y = kB L N nk rk q y (x, true) + (if tA x = true then 0 else kB L N nk rk q y (x, false)) := alb_c _
theorem suml_p {f g : Nod → Nat} : ∀ (l : List Nod), sumL l (fun y => f y + g y) = sumL l f + sumL l g := by
  intro l
  induction l with
  | nil => rfl
  | cons a l ih =>
    show f a + g a + sumL l (fun y => f y + g y) = f a + sumL l f + (g a + sumL l g)
    rw [ih]; omega
theorem ka_s {cO cT : Nod → Nat} (hO : cO x = sumL D (fun y => kB L N nk rk q y (x, false))) (hT : cT x = sumL D (fun y => kB L N nk rk q y (x, true))) : sumL D (kA L N nk rk q (taB L cT) x) = cnB L cO cT x := by
  have e : sumL D (kA L N nk rk q (taB L cT) x) = sumL D (fun y => kB L N nk rk q y (x, true) + (if taB L cT x = true then 0 else kB L N nk rk q y (x, false))) := suml_e D (fun y _ => ka_b)
  rw [e, suml_p, ← hT]
  unfold cnB
  by_cases c : taB L cT x = true
  · rw [if_pos c, suml_z D (fun y _ => if_pos c)]
    rfl
  · rw [if_neg c, suml_e D (fun y _ => if_neg c), ← hO]
theorem suml_1 {f : Nod → Nat} : ∀ (l : List Nod), 0 < sumL l f → ∃ y, y ∈ l ∧ 0 < f y := by
  intro l h
  apply Classical.byContradiction
  intro z
  have := suml_z (f := f) l (fun y hy => Classical.byContradiction (fun w => z ⟨y, hy, by omega⟩))
  omega
theorem suml_m {f : Nod → Nat} {y : Nod} : ∀ (l : List Nod), y ∈ l → f y ≤ sumL l f := by
  intro l
  induction l with
  | nil => intro h; exact absurd h (List.not_mem_nil)
  | cons a l ih =>
    intro h
    show f y ≤ f a + sumL l f
    rcases List.mem_cons.mp h with c | c
    · rw [c]; omega
    · have := ih c; omega
/-- a count is of touches -/
theorem kb_x {b : Bool} (Ly : LyE L N nk rk q y) : 0 < kB L N nk rk q y (x, b) ↔ ∃ c, TcY L N nk rk q (ndM nk rk q y) y.2.2 c ∧ tnC N nk rk q (ndM nk rk q y) (1 - y.2.2) c = (x, b) := by
  obtain ⟨l, l1, l2⟩ := Ly
  obtain ⟨m1, m2⟩ := lyc_1 l1 l2
  unfold kB
  rw [List.count_pos_iff, List.mem_map]
  constructor
  · intro ⟨c, h1, h2⟩; exact ⟨c, (m2 c).mp h1, h2⟩
  · intro ⟨c, h1, h2⟩; exact ⟨c, (m2 c).mpr h1, h2⟩
theorem must_t {ls : List MvT} {v : MvT} (hv : v ∈ ls) (t : tkB v = true) : v ∈ mustF L ls := by
  unfold mustF
  split
  · exact List.mem_filter.mpr ⟨hv, t⟩
  · exact hv
theorem lg_in {P : Pz} {v : MvT} (er : ¬ 0 < (er1 L P).1) (hv : v ∈ (moP L P).filter (sfB L P)) (c : tkB v = true ∨ ∀ w, w ∈ (moP L P).filter (sfB L P) → ¬ L 16 0 = 0 → tkB w = false) : v ∈ lgL L P := by
  unfold lgL
  rw [if_neg er]
  rcases c with c | c
  · exact must_t hv c
  · unfold mustF
    rw [if_neg (fun z => by
      obtain ⟨w, hw, tw⟩ := List.any_eq_true.mp z.2
      rw [c w hw z.1] at tw
      exact nomatch tw)]
    exact hv
theorem lg_fl {P : Pz} {v : MvT} (hv : v ∈ lgL L P) : v ∈ (moP L P).filter (sfB L P) := by
  obtain ⟨a, b, _⟩ := lg_sf hv
  exact List.mem_filter.mpr ⟨b, prb_e.mpr a⟩
/-- where a legal move leads, there is a RIGHT place -/
theorem lg_nx (E : LwE L N nk rk q) (rx : RtA L N nk rk q x) {v : MvT} (hv : v ∈ lgL L (ndQ nk rk q x)) : ∃ y, RtA L N nk rk q y ∧ ArA L N nk rk q x y ∧ y.2.2 = 1 - x.2.2 ∧ NdO N nk rk q (zAll L (ndQ nk rk q x) v).1 y.1 y.2.1 := by
  obtain ⟨⟨OK, LD, Nc⟩, Fm, q0, q64, eq⟩ := id E
  obtain ⟨⟨kN, nb, s2⟩, St, w0⟩ := id rx
  obtain ⟨k', num', a, b, c, d⟩ := nd_nx OK.1 OK.2.1 Nc.1 Fm q0 q64 eq kN s2 St w0 (lg_mo hv)
  have A : ArA L N nk rk q x (k', num', 1 - x.2.2) := ⟨rfl, v, hv, a, b, c, d⟩
  exact ⟨(k', num', 1 - x.2.2), cl_A E x _ rx A, A, rfl, a, b, c, d⟩
/-- arcs are counted ones -/
theorem ar_k {cT : Nod → Nat} (E : LwE L N nk rk q) (Dm : ∀ ν, ν ∈ D ↔ RtA L N nk rk q ν) (Ly : ∀ y, y ∈ D → LyE L N nk rk q y) (hT : ∀ x, cT x = sumL D (fun y => kB L N nk rk q y (x, true))) (xD : x ∈ D) (er : ¬ 0 < (er1 L (ndQ nk rk q x)).1) (yD : y ∈ D) : ArA L N nk rk q x y ↔ 0 < kA L N nk rk q (taB L cT) x y := by
  have rx := (Dm x).mp xD
  have ry := (Dm y).mp yD
  constructor
  · intro ⟨es, v, hv, No⟩
    obtain ⟨c, tc, et⟩ := lg_tc E rx ry es hv No
    rw [ka_b]
    cases tv : tkB v with
    | true =>
      rw [tv] at et
      have := (kb_x (Ly y yD)).mpr ⟨c, tc, et⟩
      omega
    | false =>
      rw [tv] at et
      have k := (kb_x (Ly y yD)).mpr ⟨c, tc, et⟩
      have nt : ¬ taB L cT x = true := fun z => by
        have z := of_decide_eq_true z
        rw [hT] at z
        obtain ⟨y', y'D, ky⟩ := suml_1 D z.2
        obtain ⟨c', tc', et'⟩ := (kb_x (Ly y' y'D)).mp ky
        obtain ⟨v', hv', tk', _⟩ := tc_sf E ((Dm y').mp y'D) rx tc' (by rw [et'])
        rw [et'] at tk'
        unfold lgL at hv
        rw [if_neg er] at hv
        unfold mustF at hv
        rw [if_pos ⟨z.1, List.any_eq_true.mpr ⟨v', hv', tk'⟩⟩] at hv
        have := (List.mem_filter.mp hv).2
        rw [tv] at this
        exact nomatch this
      rw [if_neg nt]
      omega
  · intro h
    have : ∃ c b, TcY L N nk rk q (ndM nk rk q y) y.2.2 c ∧ tnC N nk rk q (ndM nk rk q y) (1 - y.2.2) c = (x, b) ∧ (b = true ∨ taB L cT x = false) := by
      rw [ka_b] at h
      by_cases c : 0 < kB L N nk rk q y (x, true)
      · obtain ⟨c, tc, et⟩ := (kb_x (Ly y yD)).mp c
        exact ⟨c, true, tc, et, Or.inl rfl⟩
      · by_cases t : taB L cT x = true
        · rw [if_pos t] at h; omega
        · rw [if_neg t] at h
          obtain ⟨c, tc, et⟩ := (kb_x (x := x) (b := false) (Ly y yD)).mp (by omega)
          exact ⟨c, false, tc, et, Or.inr (Bool.eq_false_iff.mpr t)⟩
    obtain ⟨c, b, tc, et, cb⟩ := this
    obtain ⟨v, hv, tk, es, No⟩ := tc_sf E ry rx tc (by rw [et])
    rw [et] at tk
    refine ⟨es, v, lg_in er hv ?_, No⟩
    rcases cb with cb | cb
    · exact Or.inl (by rw [tk]; exact cb)
    · refine Or.inr (fun w hw mu => ?_)
      cases tw : tkB w with
      | false => rfl
      | true =>
        exfalso
        have lw := lg_in er hw (Or.inl tw)
        obtain ⟨y', ry', _, es', No'⟩ := lg_nx E rx lw
        have y'D := (Dm y').mpr ry'
        obtain ⟨c', tc', et'⟩ := lg_tc E rx ry' es' lw No'
        rw [tw] at et'
        have k := (kb_x (Ly y' y'D)).mpr ⟨c', tc', et'⟩
        have le := suml_m (f := fun y => kB L N nk rk q y (x, true)) D y'D
        have le : kB L N nk rk q y' (x, true) ≤ sumL D (fun y => kB L N nk rk q y (x, true)) := le
        have : taB L cT x = true := decide_eq_true ⟨mu, by rw [hT]; omega⟩
        rw [cb] at this
        exact nomatch this
/-- none are left, no move is legal -/
theorem stk_k {cO cT : Nod → Nat} (E : LwE L N nk rk q) (Dm : ∀ ν, ν ∈ D ↔ RtA L N nk rk q ν) (Ly : ∀ y, y ∈ D → LyE L N nk rk q y) (hO : ∀ x, cO x = sumL D (fun y => kB L N nk rk q y (x, false))) (hT : ∀ x, cT x = sumL D (fun y => kB L N nk rk q y (x, true))) (xD : x ∈ D) (er : ¬ 0 < (er1 L (ndQ nk rk q x)).1) : cnB L cO cT x = 0 ↔ lgL L (ndQ nk rk q x) = [] := by
  have rx := (Dm x).mp xD
  rw [← ka_s (hO x) (hT x)]
  constructor
  · intro z
    apply Classical.byContradiction
    intro w
    obtain ⟨v, hv⟩ := List.exists_mem_of_ne_nil _ w
    obtain ⟨y, ry, A, _⟩ := lg_nx E rx hv
    have yD := (Dm y).mpr ry
    have k := (ar_k E Dm Ly hT xD er yD).mp A
    have := suml_0 D z y yD
    omega
  · intro z
    refine suml_z D (fun y yD => ?_)
    apply Classical.byContradiction
    intro w
    obtain ⟨_, v, hv, _⟩ := (ar_k E Dm Ly hT xD er yD).mpr (by omega)
    rw [z] at hv
    exact absurd hv (List.not_mem_nil)
end
end
section
/-! ENDINGS, the class: no place has more than 3840 moves -/
section
variable {L : Nat → Nat → Int} {N q : Nat} {nk : Nat → Nat} {rk : Nat → Nat → Int} {x y : Nod} {D : List Nod}
theorem flm_l {α β : Type} {f : α → List β} {g : α → Nat} {B : Nat} : ∀ (l : List α), (∀ a, a ∈ l → (f a).length = B) → (l.flatMap f).length = l.length * B := by
  intro l
  induction l with
  | nil => intro _; rw [List.flatMap_nil]; show 0 = 0 * B; omega
  | cons a l ih =>
    intro h
    rw [List.flatMap_cons, List.length_append, h a (List.mem_cons_self ..), ih (fun b hb => h b (List.mem_cons_of_mem _ hb))]
    show B + l.length * B = (l.length + 1) * B
    rw [Nat.add_mul, Nat.one_mul]; omega
/-- squares and men that a move may have: at most 3840 -/
def kpW (nk : Nat → Nat) (q : Nat) (x : Nod) : List (Nat × Nat × Nat) := (List.range (nk x.1)).flatMap (fun i => (List.range 64).flatMap (fun t => (List.range 12).map (fun m => (sqi q x.2.1 i, t, m))))
theorem kpl_l : (kpW nk q x).length = nk x.1 * 768 := by
  unfold kpW
  rw [flm_l (g := fun _ => 0) (B := 768) _ (fun i _ => ?_), List.length_range]
  rw [flm_l (g := fun _ => 0) (B := 12) _ (fun t _ => by rw [List.length_map, List.length_range]), List.length_range]
theorem kpl_m {i t m : Nat} (hi : i < nk x.1) (ht : t < 64) (hm : m < 12) : (sqi q x.2.1 i, t, m) ∈ kpW nk q x := by
  unfold kpW
  exact List.mem_flatMap.mpr ⟨i, List.mem_range.mpr hi, List.mem_flatMap.mpr ⟨t, List.mem_range.mpr ht, List.mem_map.mpr ⟨m, List.mem_range.mpr hm, rfl⟩⟩⟩
/-- touches of a place, each with the position that it comes from -/
noncomputable def zsL (L : Nat → Nat → Int) (N : Nat) (nk : Nat → Nat) (rk : Nat → Nat → Int) (q : Nat) (x : Nod) : List Nod → List (Nod × Cd)
  | [] => []
  | y :: D => ((LYc (TcY L N nk rk q (ndM nk rk q y) y.2.2)).filter (fun c => decide ((tnC N nk rk q (ndM nk rk q y) (1 - y.2.2) c).1 = x))).map (fun c => (y, c)) ++ zsL L N nk rk q x D
theorem ct_fst : ∀ (l : List (Nod × Bool)), l.count (x, false) + l.count (x, true) = l.countP (fun e => decide (e.1 = x)) := by
  intro l
  induction l with
  | nil => rfl
  | cons e l ih =>
    obtain ⟨z, b⟩ := e
    by_cases c : z = x
    · subst c
      rw [List.countP_cons_of_pos (by show decide (z = z) = true; exact decide_eq_true rfl), ← ih]
      cases b with
      | true =>
        have h1 : List.count (z, false) ((z, true) :: l) = List.count (z, false) l := List.count_cons_of_ne (fun w => Bool.noConfusion (congrArg Prod.snd w))
        rw [List.count_cons_self, h1]; omega
      | false =>
        have h1 : List.count (z, true) ((z, false) :: l) = List.count (z, true) l := List.count_cons_of_ne (fun w => Bool.noConfusion (congrArg Prod.snd w))
        rw [List.count_cons_self, h1]; omega
    · rw [List.countP_cons_of_neg (by show ¬ decide (z = x) = true; rw [decide_eq_false c]; decide), ← ih, List.count_cons_of_ne (fun w => c (congrArg Prod.fst w)), List.count_cons_of_ne (fun w => c (congrArg Prod.fst w))]
theorem zs_len : ∀ (D : List Nod), (zsL L N nk rk q x D).length = sumL D (fun y => kB L N nk rk q y (x, false)) + sumL D (fun y => kB L N nk rk q y (x, true)) := by
  intro D
  induction D with
  | nil => rfl
  | cons y D ih =>
    show (_ ++ zsL L N nk rk q x D).length = kB L N nk rk q y (x, false) + sumL D (fun y => kB L N nk rk q y (x, false)) + (kB L N nk rk q y (x, true) + sumL D (fun y => kB L N nk rk q y (x, true)))
    rw [List.length_append, ih, List.length_map, ← List.countP_eq_length_filter]
    have e := ct_fst (x := x) ((LYc (TcY L N nk rk q (ndM nk rk q y) y.2.2)).map (tnC N nk rk q (ndM nk rk q y) (1 - y.2.2)))
    rw [List.countP_map] at e
    have e : kB L N nk rk q y (x, false) + kB L N nk rk q y (x, true) = (LYc (TcY L N nk rk q (ndM nk rk q y) y.2.2)).countP (fun c => decide ((tnC N nk rk q (ndM nk rk q y) (1 - y.2.2) c).1 = x)) := e
    omega
theorem zs_mem {p : Nod × Cd} (Ly : ∀ y, y ∈ D → LyE L N nk rk q y) : p ∈ zsL L N nk rk q x D → p.1 ∈ D ∧ TcY L N nk rk q (ndM nk rk q p.1) p.1.2.2 p.2 ∧ (tnC N nk rk q (ndM nk rk q p.1) (1 - p.1.2.2) p.2).1 = x := by
  induction D with
  | nil => intro h; exact absurd h (List.not_mem_nil)
  | cons y D ih =>
    intro h
    rcases List.mem_append.mp h with z | z
    · obtain ⟨c, hc, ec⟩ := List.mem_map.mp z
      obtain ⟨c1, c2⟩ := List.mem_filter.mp hc
      obtain ⟨l, l1, l2⟩ := Ly y (List.mem_cons_self ..)
      rw [← ec]
      exact ⟨List.mem_cons_self .., ((lyc_1 l1 l2).2 c).mp c1, of_decide_eq_true c2⟩
    · obtain ⟨a, b⟩ := ih (fun y hy => Ly y (List.mem_cons_of_mem _ hy)) z
      exact ⟨List.mem_cons_of_mem _ a, b⟩
theorem zs_nd (nd : D.Nodup) (Ly : ∀ y, y ∈ D → LyE L N nk rk q y) : (zsL L N nk rk q x D).Nodup := by
  induction D with
  | nil => exact List.nodup_nil
  | cons y D ih =>
    have nd := List.nodup_cons.mp nd
    show (_ ++ zsL L N nk rk q x D).Nodup
    rw [List.nodup_append]
    obtain ⟨l, l1, l2⟩ := Ly y (List.mem_cons_self ..)
    refine ⟨?_, ih nd.2 (fun y hy => Ly y (List.mem_cons_of_mem _ hy)), fun a ha b hb z => ?_⟩
    · exact List.Pairwise.map _ (fun a b (h : a ≠ b) => fun (w : (y, a) = (y, b)) => h (congrArg Prod.snd w)) (List.Pairwise.filter _ (lyc_1 l1 l2).1)
    · obtain ⟨c, _, ec⟩ := List.mem_map.mp ha
      have := (zs_mem (fun y hy => Ly y (List.mem_cons_of_mem _ hy)) hb).1
      rw [← z, ← ec] at this
      exact nd.1 this
theorem bnd_k {cO cT : Nod → Nat} (E : LwE L N nk rk q) (nd : D.Nodup) (Dm : ∀ ν, ν ∈ D ↔ RtA L N nk rk q ν) (Ly : ∀ y, y ∈ D → LyE L N nk rk q y) (hO : ∀ x, cO x = sumL D (fun y => kB L N nk rk q y (x, false))) (hT : ∀ x, cT x = sumL D (fun y => kB L N nk rk q y (x, true))) (na : NdA N nk q x) : cO x + cT x ≤ 3840 := by
  obtain ⟨⟨OK, LD, Nc⟩, Fm, q0, q64, eq⟩ := id E
  have L2 := OK.1.2.2.1
  have kr := OK.2.1.2.1
  have R := Fm.1 _ na.1
  rw [hO, hT, ← zs_len]
  have T5 : (kpW nk q x).length ≤ 3840 := by rw [kpl_l]; have := R.1; omega
  refine Nat.le_trans (nd_lf (f := fun p : Nod × Cd => (p.2.1, p.2.2.1, mnO (ndM nk rk q p.1 p.2.2.1))) _ (kpW nk q x) (zs_nd nd Ly) (fun p p' hp hp' e => ?_) (fun p hp => ?_)) T5
  · obtain ⟨y, s, t, m, a⟩ := p
    obtain ⟨y', s', t', m', a'⟩ := p'
    obtain ⟨yD, tc, et⟩ := zs_mem Ly hp
    obtain ⟨yD', tc', et'⟩ := zs_mem Ly hp'
    have yD : y ∈ D := yD
    have yD' : y' ∈ D := yD'
    have ry := (Dm y).mp yD
    have ry' := (Dm y').mp yD'
    have sy : y.2.2 < 2 := ry.1.2.2
    have sy' : y'.2.2 < 2 := ry'.1.2.2
    have e : (s, t, mnO (ndM nk rk q y t)) = (s', t', mnO (ndM nk rk q y' t')) := e
    have es : s = s' := congrArg (fun u => u.1) e
    have e2 : t = t' := congrArg (fun u => u.2.1) e
    have e3 : mnO (ndM nk rk q y t) = mnO (ndM nk rk q y' t') := congrArg (fun u => u.2.2) e
    subst es
    subst e2
    obtain ⟨_, d1, _, c1⟩ := tn_q E sy tc.2 et
    obtain ⟨_, d2, _, c2⟩ := tn_q E sy' tc'.2 et'
    have d1 : x.2.2 = 1 - y.2.2 := d1
    have d2 : x.2.2 = 1 - y'.2.2 := d2
    have sd : y.2.2 = y'.2.2 := by omega
    have sx : x.2.2 < 2 := na.2.2
    rw [← d1] at c1
    rw [← d2] at c2
    have O := tc.2.1.1
    have O' := tc'.2.1.1
    have A := tc.2.1.2
    have A' := tc'.2.1.2
    rw [← d1] at O
    rw [← d2] at O'
    have O : BfO L (ndZ (ndM nk rk q y) x.2.2) s t m := O
    have O' : BfO L (ndZ (ndM nk rk q y') x.2.2) s t m' := O'
    have A : BfA L a := A
    have A' : BfA L a' := A'
    have ne : ¬ s = t := bf_ne O
    have b1 : ∀ z, (if z = s then cdV (m : Int) (x.2.2 : Int) else if z = t then (if a = 15 then 0 else cdV (a : Int) (1 - (x.2.2 : Int))) else ndM nk rk q y z) = ndM nk rk q x z := fun z => congrFun (congrArg (fun u : Pz => u.1) c1) z
    have b2 : ∀ z, (if z = s then cdV (m' : Int) (x.2.2 : Int) else if z = t then (if a' = 15 then 0 else cdV (a' : Int) (1 - (x.2.2 : Int))) else ndM nk rk q y' z) = ndM nk rk q x z := fun z => congrFun (congrArg (fun u : Pz => u.1) c2) z
    have ms : cdV (m : Int) (x.2.2 : Int) = cdV (m' : Int) (x.2.2 : Int) := by
      have p := b1 s
      have r := b2 s
      rw [if_pos rfl] at p r
      rw [p, r]
    have mm : m = m' := by unfold cdV at ms; omega
    have ta' : (if a = 15 then 0 else cdV (a : Int) (1 - (x.2.2 : Int))) = (if a' = 15 then 0 else cdV (a' : Int) (1 - (x.2.2 : Int))) := by
      have p := b1 t
      have r := b2 t
      rw [if_neg (fun w => ne w.symm), if_pos rfl] at p r
      rw [p, r]
    have aa : a = a' := by
      by_cases p : a = 15
      · rw [if_pos p] at ta'
        by_cases r : a' = 15
        · omega
        · rw [if_neg r] at ta'; unfold cdV at ta'; omega
      · rw [if_neg p] at ta'
        by_cases r : a' = 15
        · rw [if_pos r] at ta'; unfold cdV at ta'; omega
        · rw [if_neg r] at ta'; unfold cdV at ta'; omega
    subst mm
    subst aa
    have my : ∀ z, ndM nk rk q y z = ndM nk rk q y' z := fun z => by
      by_cases p : z = s
      · rw [p]
        have u1 : ndM nk rk q y s = 0 := O.1.2.2
        have u2 : ndM nk rk q y' s = 0 := O'.1.2.2
        rw [u1, u2]
      · by_cases r : z = t
        · rw [r]
          have u1 : 0 < ndM nk rk q y t ∧ (ndM nk rk q y t - 1) % 2 = (x.2.2 : Int) := O.2.1.2
          have u2 : 0 < ndM nk rk q y' t ∧ (ndM nk rk q y' t - 1) % 2 = (x.2.2 : Int) := O'.2.1.2
          unfold mnO at e3
          omega
        · have p1 := b1 z
          have p2 := b2 z
          rw [if_neg p, if_neg r] at p1 p2
          rw [p1, p2]
    have yy : y.1 = y'.1 ∧ y.2.1 = y'.2.1 := ndo_u q0 q64 Fm (M := ndM nk rk q y') ⟨ry.1.1, ry.1.2.1, ry.2.1, fun z _ => my z⟩ ⟨ry'.1.1, ry'.1.2.1, ry'.2.1, fun _ _ => rfl⟩
    have ye : y = y' := Prod.ext yy.1 (Prod.ext yy.2 sd)
    rw [ye]
  · obtain ⟨y, s, t, m, a⟩ := p
    obtain ⟨yD, tc, et⟩ := zs_mem Ly hp
    have yD : y ∈ D := yD
    have ry := (Dm y).mp yD
    have sy : y.2.2 < 2 := ry.1.2.2
    obtain ⟨_, d1, Sx, c1⟩ := tn_q E sy tc.2 et
    have O := tc.2.1.1
    have O : BfO L (ndZ (ndM nk rk q y) (1 - y.2.2)) s t m := O
    have b1 : cdV (m : Int) ((1 - y.2.2 : Nat) : Int) = ndM nk rk q x s := by
      have := congrFun (congrArg (fun u : Pz => u.1) c1) s
      have this : (if s = s then cdV (m : Int) ((1 - y.2.2 : Nat) : Int) else _) = ndM nk rk q x s := this
      rw [if_pos rfl] at this
      exact this
    obtain ⟨i, hi, ei, _⟩ := ly_mem (row := rk x.1) (q := q) (num := x.2.1) (s := s) (nk x.1) (fun z => by
      have b1 : cdV (m : Int) ((1 - y.2.2 : Nat) : Int) = lyM (rk x.1) q x.2.1 (nk x.1) s := b1
      rw [z] at b1
      unfold cdV at b1; omega)
    show (s, t, mnO (ndM nk rk q y t)) ∈ kpW nk q x
    rw [← ei]
    have HM : MOk L (ndM nk rk q y) := nd_mok q0 eq (Fm.1 _ ry.1.1)
    have mt : 0 < ndM nk rk q y t := O.2.1.2.1
    have ml := mno_lt (L := L) mt ((HM t O.2.1.1).2 mt).2
    exact kpl_m hi O.2.1.1 (by omega)
end
end
section
/-! ENDINGS, the class: its table keeps to the local rules -/
section
variable {n F N q wA lA qA nT tot : Nat} {h h0 o : Hp} {y : Int32 × Hp} {nk : Nat → Nat} {rk : Nat → Nat → Int} {sb : Nat → Nat} {L : Nat → Nat → Int} {W : Nod → Int} {cO cT : Nod → Nat} {D : List Nod}
/-- what is open has no early end -/
theorem mav_o {ν : Nod} (mv : MaV L nk rk q ν (W ν)) (wo : W ν = 3000000) : ¬ 0 < (er1 L (ndQ nk rk q ν)).1 := by
  rcases mv with z | ⟨_, z | ⟨_, z | z⟩⟩
  · rw [wo] at z; exact absurd z.2 (by decide)
  · rw [wo] at z; exact absurd z.2 (by decide)
  · have := vb_A (L := L) (nk := nk) (rk := rk) (q := q) ν _ z.2
    omega
  · exact z.1
theorem v0_lg {Z : Pz} (er : ¬ 0 < (er1 L Z).1) : v0N L Z = none ↔ ¬ lgL L Z = [] := by
  by_cases c : lgL L Z = []
  · have p : 0 < (enE L Z).1 := by
      have nn : ¬ ¬ lgL L Z = [] := fun z => z c
      unfold enE
      rw [if_neg er, if_neg nn]
      split
      · exact (show (0 : Int) < 5 by decide)
      · exact (show (0 : Int) < 6 by decide)
    have p' : ¬ (enE L Z).1 ≤ 0 := by omega
    unfold v0N
    rw [if_neg p']
    exact ⟨(fun z => nomatch z), fun z => absurd c z⟩
  · have p : enE L Z = (0, 0) := by
      unfold enE
      rw [if_neg er, if_pos c]
    have p' : (enE L Z).1 ≤ 0 := by rw [p]; exact Int.le_refl _
    unfold v0N
    rw [if_pos p']
    exact ⟨fun _ => c, fun _ => rfl⟩
/-- worths at first, over all places -/
noncomputable def wS (L : Nat → Nat → Int) (N : Nat) (nk : Nat → Nat) (rk : Nat → Nat → Int) (q : Nat) (W : Nod → Int) (cO cT : Nod → Nat) : Nod → Int := fun ν => @ite Int (NdA N nk q ν) (Classical.propDecidable _) (wB L nk rk q W cO cT ν) 4000000
theorem ws_n {ν : Nod} (na : NdA N nk q ν) : wS L N nk rk q W cO cT ν = wB L nk rk q W cO cT ν := if_pos na
/-- how each RIGHT place stands at first -/
theorem wb_v (E : LwE L N nk rk q) (mv : ∀ ν, NdA N nk q ν → MaV L nk rk q ν (W ν)) (Dm : ∀ ν, ν ∈ D ↔ RtA L N nk rk q ν) (Ly : ∀ y, y ∈ D → LyE L N nk rk q y) (hO : ∀ x, cO x = sumL D (fun y => kB L N nk rk q y (x, false))) (hT : ∀ x, cT x = sumL D (fun y => kB L N nk rk q y (x, true))) {x : Nod} (xD : x ∈ D) : (∃ w, v0A L nk rk q x = some w ∧ wB L nk rk q W cO cT x = w) ∨ (v0A L nk rk q x = none ∧ wB L nk rk q W cO cT x = 3000000 ∧ W x = 3000000 ∧ 0 < cnB L cO cT x ∧ ¬ 0 < (er1 L (ndQ nk rk q x)).1) := by
  have rx := (Dm x).mp xD
  have m := mv x rx.1
  by_cases wo : W x = 3000000
  · have er := mav_o m wo
    have sk := stk_k E Dm Ly hO hT xD er
    have v0 : v0A L nk rk q x = none ↔ ¬ lgL L (ndQ nk rk q x) = [] := v0_lg er
    by_cases c : cnB L cO cT x = 0
    · left
      cases e : v0A L nk rk q x with
      | none => exact absurd (sk.mp c) (v0.mp e)
      | some w =>
        refine ⟨w, rfl, ?_⟩
        unfold wB
        rw [if_pos ⟨wo, c⟩, e]
    · right
      refine ⟨v0.mpr (fun z => c (sk.mpr z)), ?_, wo, by omega, er⟩
      unfold wB
      rw [if_neg (fun z => c z.2)]
      exact wo
  · left
    have ew : wB L nk rk q W cO cT x = W x := by unfold wB; exact if_neg (fun z => wo z.1)
    have r := (mav_r E rx.1 m).mp rx
    rcases m with z | ⟨_, z | ⟨_, z | z⟩⟩
    · exact absurd z.2 r
    · exact absurd z.2 r
    · exact ⟨W x, z.2, ew⟩
    · exact absurd z.2 wo
/-- the queue begins -/
theorem be_0 {Q : List Nod} (E : LwE L N nk rk q) (mv : ∀ ν, NdA N nk q ν → MaV L nk rk q ν (W ν)) (Dm : ∀ ν, ν ∈ D ↔ RtA L N nk rk q ν) (Ly : ∀ y, y ∈ D → LyE L N nk rk q y) (hO : ∀ x, cO x = sumL D (fun y => kB L N nk rk q y (x, false))) (hT : ∀ x, cT x = sumL D (fun y => kB L N nk rk q y (x, true))) (q1 : Q.Nodup) (q2 : ∀ ν, ν ∈ Q ↔ (NdA N nk q ν ∧ True ∧ (wB L nk rk q W cO cT ν = 1000000 ∨ wB L nk rk q W cO cT ν = -1000000))) : BeI D (kA L N nk rk q (taB L cT)) (v0A L nk rk q) (ArA L N nk rk q) (taB L cT) (wS L N nk rk q W cO cT, cnB L cO cT, Q) [] Q := by
  have DN : ∀ ν, ν ∈ D → NdA N nk q ν := fun ν hν => ((Dm ν).mp hν).1
  have nD : ∀ ν, NdA N nk q ν → ¬ wB L nk rk q W cO cT ν = 4000000 → ν ∈ D := fun ν na z => by
    refine (Dm ν).mpr ((mav_r E na (mv ν na)).mpr (fun w => z ?_))
    unfold wB
    rw [if_neg (fun y => by have := y.1; omega)]
    exact w
  have d0 : ∀ w : Int, w = 1000000 ∨ w = -1000000 → dpE w = 0 := fun w hw => by
    rcases hw with z | z
    · exact dp_w (d := 0) (by decide) z
    · exact dp_l (d := 0) (by decide) (by rw [z]; rfl)
  have qd : ∀ ν, ν ∈ Q → dpE (wS L N nk rk q W cO cT ν) = 0 := fun ν hν => by
    have := (q2 ν).mp hν
    rw [ws_n this.1]
    exact d0 _ this.2.2
  refine ⟨rfl, ⟨⟨q1, fun ν hν => ?_, fun ν hν => ?_⟩, fun ν hν => ?_, ?_, fun i ν hi => ?_, fun ν hν => ?_⟩, fun a b ha hb => ?_⟩
  · have := (q2 ν).mp hν
    exact nD ν this.1 (by rcases this.2.2 with z | z <;> omega)
  · have hν : wS L N nk rk q W cO cT ν = 3000000 := hν
    by_cases na : NdA N nk q ν
    · rw [ws_n na] at hν
      exact nD ν na (by omega)
    · have : wS L N nk rk q W cO cT ν = 4000000 := if_neg na
      omega
  · have na := DN ν hν
    show ν ∈ Q ↔ DcE (wS L N nk rk q W cO cT ν)
    rw [q2, ws_n na]
    constructor
    · intro z
      rcases z.2.2 with w | w
      · exact ⟨0, by decide, Or.inl w⟩
      · exact ⟨0, by decide, Or.inr (by rw [w]; rfl)⟩
    · intro z
      refine ⟨na, trivial, ?_⟩
      have d := dc_d z
      rcases wb_v E mv Dm Ly hO hT hν with ⟨w, v1, v2⟩ | ⟨_, v2, _⟩
      · have := vb_A (L := L) (nk := nk) (rk := rk) (q := q) ν w v1
        rw [v2] at d ⊢
        rcases this with y | y | y
        · rw [y] at d
          rcases d.2.2.1 with u | u <;> omega
        · exact Or.inl y
        · exact Or.inr y
      · exact absurd v2 d.2.2.2
  · show Q.Pairwise (fun a b => dpE (wS L N nk rk q W cO cT a) ≤ dpE (wS L N nk rk q W cO cT b))
    refine List.Pairwise.imp_of_mem (fun {a b} ha hb _ => ?_) q1
    rw [qd a ha, qd b hb]
    exact Int.le_refl _
  · have hi : Q[i]? = some ν := hi
    show dpE (wS L N nk rk q W cO cT ν) ≤ (i : Int)
    rw [qd ν (List.mem_of_getElem? hi)]
    omega
  · show (∃ w, v0A L nk rk q ν = some w ∧ wS L N nk rk q W cO cT ν = w) ∨ (v0A L nk rk q ν = none ∧ ((wS L N nk rk q W cO cT ν = 3000000 ∧ 0 < cnB L cO cT ν ∧ _) ∨ _))
    rw [ws_n (DN ν hν)]
    rcases wb_v E mv Dm Ly hO hT hν with z | ⟨v1, v2, v3, v4, v5⟩
    · exact Or.inl z
    · refine Or.inr ⟨v1, Or.inl ⟨v2, v4, ?_, fun z hz => absurd hz (List.not_mem_nil)⟩⟩
      show cnB L cO cT ν = remS D [] (kA L N nk rk q (taB L cT) ν)
      rw [rem_n, ka_s (hO ν) (hT ν)]
  · have ha : a ∈ Q := ha
    have hb : b ∈ Q := hb
    show dpE (wS L N nk rk q W cO cT b) ≤ dpE (wS L N nk rk q W cO cT a) + 1
    rw [qd a ha, qd b hb]
    decide
/-- what solving leaves -/
def RnE (n : Nat) (L : Nat → Nat → Int) (N : Nat) (nk : Nat → Nat) (rk : Nat → Nat → Int) (sb : Nat → Nat) (q wA lA qA nT : Nat) (h0 : Hp) (o : Int32 × Hp) : Prop := o.1 = 1 ∧ (DkT n h0 o.2 ∧ FrW (fun a i => WAe n wA lA qA a i ∨ (a = n + 62 ∧ (i = 10 ∨ i = 15))) h0 o.2) ∧ (SbE n o.2 L N nk rk sb q wA lA qA nT ∧ BdE n o.2) ∧ hI o.2 (n + 62) 10 = 1 ∧ LocT (RtA L N nk rk q) (v0A L nk rk q) (ArA L N nk rk q) (fun ν => (hI o.2 wA (ixC sb ν)).toInt) ∧ ∀ ν, NdA N nk q ν → ¬ RtA L N nk rk q ν → (hI o.2 wA (ixC sb ν)).toInt = 4000000
theorem run_35' (hF : 700000 ≤ F) (E : LwE L N nk rk q) (k0 : DyK n h0 h0) (S : MkE n L N nk rk sb q wA lA qA nT h0 (fun _ => True) h) (e16 : hI h (n + 62) 16 = 0) (e18 : (hJ h (n + 62) 18).toInt = (sb N : Int)) (e : sX0_run_35 F h (n + 62) = some y) : RnE n L N nk rk sb q wA lA qA nT h0 y ∧ hI y.2 (n + 62) 15 = hI h0 (n + 62) 15 := by
  obtain ⟨⟨dk, Fr⟩, ⟨B, Bd⟩, Mv⟩ := S
  have kh := dk_self (dk.1 _ k0)
  have s6 := dk_610 kh
  have Fc := B.1.2.1
  obtain ⟨⟨r1, r2, r3⟩, ⟨n1, n2, n3⟩, w1, w2, w3, hn⟩ := id B.2.1
  obtain ⟨W, hW⟩ : ∃ W : Nod → Int, W = fun ν => (hI h wA (ixC sb ν)).toInt := ⟨_, rfl⟩
  have mv : ∀ ν, NdA N nk q ν → MaV L nk rk q ν (W ν) := fun ν na => by rw [hW]; exact (Mv ν na trivial).1
  unfold sX0_run_35 sX0_run_45 sX0_run_49 at e
  obtain ⟨h1, u1, e⟩ := nm_s e
  have d1 : DkT n h h1 := by rw [u1]; exact dkt_w dkt_0
  have F1 : FrW (WAe n wA lA qA) h h1 := by rw [u1]; exact fw_wI fw_0 (Or.inr (Or.inr (Or.inr ⟨rfl, rfl⟩)))
  have k1 := dk_self (d1.1 _ kh)
  have B1 := sbe_f kh d1 F1 B
  have I1 : ∀ a i, ¬ (a = n + 62 ∧ i = 17) → hI h1 a i = hI h a i := fun a i p => by rw [u1, r_I, if_neg p]
  have J1 : ∀ a i, hJ h1 a i = hJ h a i := fun a i => by rw [u1]; rfl
  have Bd1 : BdE n h1 := by
    obtain ⟨⟨M, b1, b2, b3, b4⟩, s', t1, t2⟩ := Bd
    exact ⟨⟨M, fun s hs => by rw [I1 _ _ (by omega)]; exact b1 s hs, fun d hd => by rw [J1]; exact b2 d hd, fun d hd => by rw [I1 _ _ (by omega)]; exact b3 d hd, b4⟩, s', t1, by rw [I1 _ _ (by omega)]; exact t2⟩
  obtain ⟨o2, e2, e⟩ := cl_s e
  unfold sX0_countAll at e2
  have C0 : CtE n L N nk rk sb q wA lA qA nT W h1 (fun ν => ν.1 < 0) h1 := by
    refine ⟨⟨dkt_0, fw_0⟩, ⟨B1, Bd1⟩, [], [], List.nodup_nil, fun y => ⟨fun z => absurd z (List.not_mem_nil), fun z => absurd z.2 (Nat.not_lt_zero _)⟩, ⟨B1.2.1, ⟨by rw [u1, rI_s], by rw [I1 _ _ (by omega)]; exact e16⟩, fun ν na => ?_, fun ν na wo => ?_⟩, fun _ => rfl, fun _ z => absurd z (List.not_mem_nil)⟩
    · rw [I1 _ _ (by omega), hW]
    · rw [I1 _ _ (by omega), (Mv ν na trivial).2]
      rfl
  obtain ⟨⟨d2, F2⟩, ⟨B2, Bd2⟩, D, A, nd, Dm', ⟨T2, i1, i2, i3⟩, cnt, Ly⟩ := cnt_2 hF E mv k1 F (k := 0) C0 rfl (Nat.zero_le _) e2
  have k2 := dk_self (d2.1 _ k1)
  have s2 := dk_610 k2
  have Dm : ∀ ν, ν ∈ D ↔ RtA L N nk rk q ν := fun ν => by rw [Dm']; exact ⟨fun z => z.1, fun z => ⟨z, trivial⟩⟩
  obtain ⟨cO, hO'⟩ : ∃ cO : Nod → Nat, cO = fun x => A.count (x, false) := ⟨_, rfl⟩
  obtain ⟨cT, hT'⟩ : ∃ cT : Nod → Nat, cT = fun x => A.count (x, true) := ⟨_, rfl⟩
  have hO : ∀ x, cO x = sumL D (fun y => kB L N nk rk q y (x, false)) := fun x => by rw [hO']; exact cnt _
  have hT : ∀ x, cT x = sumL D (fun y => kB L N nk rk q y (x, true)) := fun x => by rw [hT']; exact cnt _
  have bnd : ∀ ν, NdA N nk q ν → W ν = 3000000 → cO ν + cT ν ≤ 3840 := fun ν na _ => bnd_k E nd Dm Ly hO hT na
  have oD : ∀ ν, NdA N nk q ν → W ν = 3000000 → ν ∈ D := fun ν na wo => (Dm ν).mpr ((mav_r E na (mv ν na)).mpr (by omega))
  have stk : ∀ ν, NdA N nk q ν → W ν = 3000000 → cnB L cO cT ν = 0 → lgL L (ndQ nk rk q ν) = [] := fun ν na wo c => (stk_k E Dm Ly hO hT (oD ν na wo) (mav_o (mv ν na) wo)).mp c
  obtain ⟨o3, e3, e⟩ := cl_s e
  unfold sX0_queueEnds at e3
  have x16 : hI o2 (n + 62) 16 = 0 := i1.2
  have Q0 : QeE n L N nk rk sb q wA lA qA nT W cO cT o2 (fun ν => ν.1 < 0) o2 := by
    refine ⟨⟨dkt_0, fw_0⟩, ⟨B2, Bd2⟩, fun ν na => ⟨fun z => absurd z (Nat.not_lt_zero _), fun _ => ⟨i2 ν na, fun wo => ?_⟩⟩, [], List.nodup_nil, fun ν => ⟨fun z => absurd z (List.not_mem_nil), fun z => absurd z.2.1 (Nat.not_lt_zero _)⟩, by rw [x16]; rfl, fun j ν hj => by rw [List.getElem?_nil] at hj; exact nomatch hj⟩
    have b := bnd ν na wo
    refine bv_i (by omega) ?_
    rw [i3 ν na wo, hO', hT']
  obtain ⟨⟨d3, F3⟩, ⟨B3, Bd3⟩, cs, Q, q1, q2, q3, q4⟩ := qe_2 hF E mv bnd stk k2 F (k := 0) Q0 rfl (Nat.zero_le _) e3
  have k3 := dk_self (d3.1 _ k2)
  have s3 := dk_610 k3
  have Fc3 := B3.1.2.1
  have Be := be_0 E mv Dm Ly hO hT q1 q2
  have DN : ∀ ν, ν ∈ D → NdA N nk q ν := fun ν hν => ((Dm ν).mp hν).1
  have wo3 : ∀ ν, NdA N nk q ν → wB L nk rk q W cO cT ν = 3000000 → W ν = 3000000 ∧ 1 ≤ cnB L cO cT ν := fun ν na z => by
    by_cases wo : W ν = 3000000
    · refine ⟨wo, ?_⟩
      apply Classical.byContradiction
      intro c
      have c0 : cnB L cO cT ν = 0 := by omega
      rcases wb_v E mv Dm Ly hO hT (oD ν na wo) with ⟨w, v1, v2⟩ | ⟨_, _, _, v4, _⟩
      · have := vb_A (L := L) (nk := nk) (rk := rk) (q := q) ν w v1
        omega
      · omega
    · exfalso
      unfold wB at z
      rw [if_neg (fun y => wo y.1)] at z
      exact wo z
  have Tb : TbH n N nk sb q wA lA qA D (taB L cT) o3 (wS L N nk rk q W cO cT, cnB L cO cT, Q) := by
    refine ⟨fun ν na => ?_, fun ν na z => ?_, ⟨q3, q4⟩, q1, fun ν hν => ⟨Be.2.1.1.2.1 ν hν, fun z => ?_⟩, Be.2.1.1.2.2⟩
    · rw [((cs ν na).1 trivial).1]; exact (ws_n na).symm
    · have z : wS L N nk rk q W cO cT ν = 3000000 := z
      rw [ws_n na] at z
      obtain ⟨wo, c1⟩ := wo3 ν na z
      have b := bnd ν na wo
      refine ⟨((cs ν na).1 trivial).2 wo, c1, ?_⟩
      show cnB L cO cT ν < 4096
      unfold cnB
      split <;> omega
    · have na := ((q2 ν).mp hν).1
      have z : wS L N nk rk q W cO cT ν = 3000000 := z
      rw [ws_n na] at z
      rcases ((q2 ν).mp hν).2.2 with w | w <;> omega
  have Nr : ∀ ν, NdA N nk q ν → ¬ ν ∈ D → wS L N nk rk q W cO cT ν = 4000000 := fun ν na hν => by
    rw [ws_n na]
    have w4 : W ν = 4000000 := Classical.byContradiction (fun z => hν ((Dm ν).mpr ((mav_r E na (mv ν na)).mpr z)))
    unfold wB
    rw [if_neg (fun y => by have := y.1; omega)]
    exact w4
  have j18 : (hJ o3 (n + 62) 18).toInt = (sb N : Int) := by
    have X : ∀ {u v : Hp}, DyK n u u → FrW (WAe n wA lA qA) u v → hJ v (n + 62) 18 = hJ u (n + 62) 18 := fun {u v} ku Fv => (Fv.2 (n + 62) 18 (by have := dk_610 ku; omega) (fun z => by unfold WAe WEb WGb WRo WTc at z; omega)).2
    rw [X k2 F3, X k1 F2, J1]
    exact e18
  refine run_51' (tA := taB L cT) (Q := fun y => RnE n L N nk rk sb q wA lA qA nT h0 y ∧ hI y.2 (n + 62) 15 = hI h0 (n + 62) 15) hF E k3 nd Dm (fun x z hx hv hz => ?_) (fun {hh S P} Ru Be' e => ?_) F (P := []) (R := Q) ⟨⟨dkt_0, fw_0⟩, ⟨B3, Bd3⟩, Tb, Nr⟩ Be rfl e
  · have rx := (Dm x).mp hx
    have er : ¬ 0 < (er1 L (ndQ nk rk q x)).1 := fun w => by
      have hv : v0N L (ndQ nk rk q x) = none := hv
      unfold v0N at hv
      have : ¬ (enE L (ndQ nk rk q x)).1 ≤ 0 := by
        unfold enE
        rw [if_pos w]
        omega
      rw [if_neg this] at hv
      exact nomatch hv
    exact ar_k E Dm Ly hT hx er hz
  · obtain ⟨⟨d4, F4⟩, ⟨B4, Bd4⟩, Tb4, Nr4⟩ := Ru
    have k4 := dk_self (d4.1 _ k3)
    have s4 := dk_610 k4
    obtain ⟨⟨_, _, _⟩, ⟨m1, m2, m3⟩, v1, v2, v3, _⟩ := id B4.2.1
    have Fc4 := B4.1.2.1
    unfold sX0_run_131 at e
    have j4 : (hJ hh (n + 62) 18).toInt = (sb N : Int) := by
      rw [(F4.2 (n + 62) 18 (by omega) (fun z => by unfold WAe WEb WGb WRo WTc at z; omega)).2]
      exact j18
    obtain ⟨a1, a2, a3, a4, a5⟩ := run_133' (tot := sb N) k4 B4.2.1 Fc4.2.2.2.2 j4 F (i := 0) dkt_0 fw_0 rfl (Nat.zero_le _) (fun j hj => absurd hj (Nat.not_lt_zero _)) (fun j _ => rfl) e
    have ixN : ∀ ν, NdA N nk q ν → ixC sb ν < sb N := fun ν na => by
      have p1 := sbc_m Fc4 (show ν.1 + 1 ≤ N from na.1) (Nat.le_refl _)
      have p2 := (Fc4.2.1 ν.1 na.1).2
      have p3 := na.2.1
      have p4 := na.2.2
      show sb ν.1 + 2 * ν.2.1 + ν.2.2 < sb N
      omega
    have Tc : ∀ ν, NdA N nk q ν → (hI y.2 wA (ixC sb ν)).toInt = if S.1 ν = 3000000 then 0 else S.1 ν := fun ν na => by
      rw [a5 _ (ixN ν na), Tb4.1 ν na]
    have I5 : ∀ a i, ¬ a = wA → ¬ (a = n + 62 ∧ i = 10) → a < hS hh → hI y.2 a i = hI hh a i ∧ hJ y.2 a i = hJ hh a i := fun a i p1 p2 p3 => a3.2 a i p3 (fun z => by
      rcases z with z | z
      · exact p1 z
      · exact p2 z)
    have F5 : FrW (fun a i => WAe n wA lA qA a i ∨ (a = n + 62 ∧ (i = 10 ∨ i = 15))) hh y.2 := fw_s a3 (fun a i z => by
      rcases z with z | z
      · exact Or.inl (Or.inr (Or.inr (Or.inl (Or.inr (Or.inl z)))))
      · exact Or.inr ⟨z.1, Or.inl z.2⟩)
    have W6 : ∀ {u v : Hp}, FrW (WAe n wA lA qA) u v → FrW (fun a i => WAe n wA lA qA a i ∨ (a = n + 62 ∧ (i = 10 ∨ i = 15))) u v := fun {u v} f => fw_s f (fun _ _ z => Or.inl z)
    refine ⟨⟨a1, ⟨dkt_t (dkt_t (dkt_t (dkt_t (dkt_t dk d1) d2) d3) d4) a2, fw_t (fw_t (fw_t (fw_t (fw_t (W6 (fw_s Fr (fun _ _ c => wma_e c))) (W6 F1)) (W6 F2)) (W6 F3)) (W6 F4)) F5⟩, ⟨?_, ?_⟩, a4, ?_, fun ν na hν => ?_⟩, ?_⟩
    · obtain ⟨⟨a, b, c, e, f⟩, T, Z, Td⟩ := B4
      have X : ∀ j i, j < 610 → ¬ (j = 62 ∧ i = 10) → hI y.2 (n + j) i = hI hh (n + j) i ∧ hJ y.2 (n + j) i = hJ hh (n + j) i := fun j i h1 h2 => I5 _ _ (by omega) (by omega) (by omega)
      refine ⟨⟨cll_f k4 (a2.1 _ k4) (fun j i hj => X j i (by omega) (by omega)) a, ⟨⟨b.1.1, by rw [(X 62 9 (by omega) (by omega)).1]; exact b.1.2⟩, fun j hj => by rw [(X 69 j (by omega) (by omega)).1]; exact b.2.1 j hj, fun j hj => by rw [(X 70 j (by omega) (by omega)).1]; exact b.2.2.1 j hj, b.2.2.2⟩, fun j k h1 h2 => by rw [(X 69 j (by omega) (by omega)).1, (X 69 k (by omega) (by omega)).1]; exact c j k h1 h2, fun i hi => by rw [(X 71 i (by omega) (by omega)).1]; exact e i hi, fun i hi s hs z => by rw [(X 26 i (by omega) (by omega)).2] at z; exact f i hi s hs z⟩, trf_f T a2.2 a3.1, ebz_f k4 a3 (fun a i z l => ?_) Z, ?_⟩
      · rcases z with z | z
        · omega
        · exact Or.inr (Or.inr (Or.inl (by omega)))
      · obtain ⟨⟨rt, Kt⟩, le⟩ := Td
        exact ⟨⟨rt, by rw [(X 62 15 (by omega) (by omega)).1]; exact Kt⟩, le⟩
    · obtain ⟨⟨M, b1, b2, b3, b4⟩, s', t1, t2⟩ := Bd4
      exact ⟨⟨M, fun s hs => by rw [(I5 _ _ (by omega) (by omega) (by omega)).1]; exact b1 s hs, fun d hd => by rw [(I5 _ _ (by omega) (by omega) (by omega)).2]; exact b2 d hd, fun d hd => by rw [(I5 _ _ (by omega) (by omega) (by omega)).1]; exact b3 d hd, b4⟩, s', t1, by rw [(I5 _ _ (by omega) (by omega) (by omega)).1]; exact t2⟩
    · have lc := be_end (T := fun ν => (hI y.2 wA (ixC sb ν)).toInt) (vb_A (L := L) (nk := nk) (rk := rk) (q := q)) (fun x z hx hv hz => by
        have er : ¬ 0 < (er1 L (ndQ nk rk q x)).1 := fun w => by
          have hv : v0N L (ndQ nk rk q x) = none := hv
          unfold v0N at hv
          have : ¬ (enE L (ndQ nk rk q x)).1 ≤ 0 := by
            unfold enE
            rw [if_pos w]
            omega
          rw [if_neg this] at hv
          exact nomatch hv
        exact ar_k E Dm Ly hT hx er hz) (fun x z hx az => (Dm z).mpr (cl_A E x z ((Dm x).mp hx) az)) Be' (fun x hx => Tc x (DN x hx))
      have eR : (fun x => x ∈ D) = RtA L N nk rk q := funext (fun x => propext (Dm x))
      rw [eR] at lc
      exact lc
    · rw [Tc ν na, Nr4 ν na (fun z => hν ((Dm ν).mp z)), if_neg (by decide)]
    · have X : ∀ {u v : Hp}, DyK n u u → FrW (WAe n wA lA qA) u v → hI v (n + 62) 15 = hI u (n + 62) 15 := fun {u v} ku Fv => (Fv.2 (n + 62) 15 (by have := dk_610 ku; omega) (fun z => by unfold WAe WEb WGb WRo WTc at z; omega)).1
      rw [(I5 (n + 62) 15 (by omega) (by omega) (by omega)).1, X k3 F4, X k2 F3, X k1 F2, X kh F1]
      exact (Fr.2 (n + 62) 15 (by have := dk_610 k0; omega) (fun z => by unfold WMa WEb at z; omega)).1
end
end
section
/-! ENDINGS, the class: marking, counting, solving put together; worth and tally by its table -/
section
variable {n F N q wA lA qA nT : Nat} {h h0 : Hp} {o : Int32 × Hp} {nk : Nat → Nat} {rk : Nat → Nat → Int} {sb : Nat → Nat} {L : Nat → Nat → Int} {x1 x2 : Int32} {σ : Sy} {P : Pz}
/-- behind its SETS and its room -/
theorem run_18' (hF : 700000 ≤ F) (E : LwE L N nk rk q) (k0 : DyK n h h) (B : ClL n h L ∧ FmC n h N nk rk sb q ∧ SoK n h N ∧ PwE n h q ∧ FmB n h L) (T : TRf n wA lA qA h) (Z : EbZ n h) (Bd : BdE n h) (ask : (∃ rt, KeyR (hI h (n + 62) 14) rt nT) ∧ ∀ k, k < N → nk k ≤ nT) (e18 : (hJ h (n + 62) 18).toInt = (sb N : Int)) (e : sX0_run_18 F h (n + 62) = some o) : RnE n L N nk rk sb q wA lA qA nT h o ∧ hI o.2 (n + 62) 15 = hI h (n + 62) 14 := by
  have s6 := dk_610 k0
  obtain ⟨a, b, c, p, f⟩ := B
  obtain ⟨_, _, w1, w2, w3, _⟩ := id T
  unfold sX0_run_18 at e
  obtain ⟨h1, u1, e⟩ := nm_s e
  obtain ⟨h2, u2, e⟩ := nm_s e
  have d2 : DkT n h h2 := by rw [u2, u1]; exact dkt_w (dkt_w dkt_0)
  have F2 : FrW (fun a i => a = n + 62 ∧ (i = 15 ∨ i = 16)) h h2 := by rw [u2, u1]; exact fw_wI (fw_wI fw_0 ⟨rfl, Or.inl rfl⟩) ⟨rfl, Or.inr rfl⟩
  have k2 := dk_self (d2.1 _ k0)
  have X : ∀ j i, j < 610 → ¬ (j = 62 ∧ (i = 15 ∨ i = 16)) → hI h2 (n + j) i = hI h (n + j) i ∧ hJ h2 (n + j) i = hJ h (n + j) i := fun j i h1 h2 => F2.2 _ _ (by omega) (fun z => by omega)
  have e15 : hI h2 (n + 62) 15 = hI h (n + 62) 14 := by rw [u2, rI_o (by decide), u1, rI_s]
  have B2 : SbE n h2 L N nk rk sb q wA lA qA nT := by
    refine ⟨⟨cll_f k0 (d2.1 _ k0) (fun j i hj => X j i (by omega) (by omega)) a, ⟨⟨b.1.1, by rw [(X 62 9 (by omega) (by omega)).1]; exact b.1.2⟩, fun j hj => by rw [(X 69 j (by omega) (by omega)).1]; exact b.2.1 j hj, fun j hj => by rw [(X 70 j (by omega) (by omega)).1]; exact b.2.2.1 j hj, b.2.2.2⟩, fun j k h1 h2 => by rw [(X 69 j (by omega) (by omega)).1, (X 69 k (by omega) (by omega)).1]; exact c j k h1 h2, fun i hi => by rw [(X 71 i (by omega) (by omega)).1]; exact p i hi, fun i hi s hs z => by rw [(X 26 i (by omega) (by omega)).2] at z; exact f i hi s hs z⟩, trf_f T d2.2 F2.1, ebz_f k0 F2 (fun a i z l => Or.inr (Or.inr (Or.inl (by omega)))) Z, ?_⟩
    obtain ⟨⟨rt, Kt⟩, le⟩ := ask
    exact ⟨⟨rt, by rw [e15]; exact Kt⟩, le⟩
  have Bd2 : BdE n h2 := by
    obtain ⟨⟨M, b1, b2, b3, b4⟩, s', t1, t2⟩ := Bd
    exact ⟨⟨M, fun s hs => by rw [(X 64 s (by omega) (by omega)).1]; exact b1 s hs, fun d hd => by rw [(X 65 d (by omega) (by omega)).2]; exact b2 d hd, fun d hd => by rw [(X 66 d (by omega) (by omega)).1]; exact b3 d hd, b4⟩, s', t1, by rw [(X 63 5 (by omega) (by omega)).1]; exact t2⟩
  obtain ⟨o3, e3, e⟩ := cl_s e
  have S3 := mka_k hF E k2 B2 Bd2 e3
  have F3 := S3.1.2
  have s2 := dk_610 k2
  -- nothing has been queued while positions were marked
  have t16 : hI o3 (n + 62) 16 = 0 := by rw [(F3.2 (n + 62) 16 (by omega) (fun z => by unfold WMa WEb at z; omega)).1, u2, rI_s]
  have j18 : (hJ o3 (n + 62) 18).toInt = (sb N : Int) := by
    rw [(F3.2 (n + 62) 18 (by omega) (fun z => by unfold WMa WEb at z; omega)).2, (X 62 18 (by omega) (by omega)).2]
    exact e18
  obtain ⟨⟨r1, ⟨r2, r3⟩, r4⟩, r15⟩ := run_35' hF E k2 S3 t16 j18 e
  refine ⟨⟨r1, ⟨dkt_t d2 r2, fw_t (fw_s F2 (fun a i z => by
    rcases z with ⟨z1, z2 | z2⟩
    · exact Or.inr ⟨z1, Or.inr z2⟩
    · exact Or.inl (Or.inr (Or.inr (Or.inl (Or.inr (Or.inr (Or.inr (Or.inr ⟨z1, z2⟩)))))))) ) r3⟩, r4⟩, by rw [r15]; exact e15⟩
/-- where the worth of a position stands -/
def NoA (N : Nat) (nk : Nat → Nat) (rk : Nat → Nat → Int) (sb : Nat → Nat) (q sd : Nat) (M : Nat → Int) (x : Int32) : Prop := (x = (-1 : Int32) ∧ ∀ k num, ¬ NdO N nk rk q M k num) ∨ ∃ k num, NdO N nk rk q M k num ∧ x.toInt = (ixC sb (k, num, sd) : Int)
theorem noa_k {p : Nat} (E : LwE L N nk rk q) (k0 : DyK n h h) (Fc : FmC n h N nk rk sb q) (So : SoK n h N) (Pw : PwE n h q) (sol : ¬ hI h (n + 62) 10 = 0) (O : PzOk L P) (p6 : n + 153 ≤ p ∧ p + 5 < n + 513) (A : CpA h p (L 10 0) P) (e : sX0_nodeOfAll F h (n + 62) p = some o) : (DkT n h o.2 ∧ FrW (WRo n) h o.2) ∧ NoA N nk rk sb q (pzS P) P.1 o.1 := by
  have zm : (-1 : Int32).toInt = -1 := rfl
  have z2 : (2 : Int32).toInt = 2 := rfl
  have z5 : (5 : Int32).toInt = 5 := rfl
  have s6 := dk_610 k0
  obtain ⟨⟨OK, LD, Nc⟩, Fm, q0, q64, eq⟩ := id E
  obtain ⟨⟨a0, a1, a2, a3, a4⟩, Po, es, _⟩ := id A
  have HM : MOk L P.1 := O.1
  have sd2 : pzS P < 2 := O.2.2.1
  unfold sX0_nodeOfAll sX0_nodeOfAll_18 sX0_nodeOfAll_64 at e
  replace e := bn_e sol e
  obtain ⟨o2, e2, e⟩ := cl_s e
  obtain ⟨p2, bits⟩ := occ_w (M := P.1) a1 Po.2.1 e2
  rw [p2] at e
  obtain ⟨o3, e3, e⟩ := cl_s e
  obtain ⟨p3, v3⟩ := bitc_v e3
  rw [pcb_m (M := P.1) 64 bits] at v3
  rw [p3] at e
  rcases br_s e with ⟨c, e⟩ | ⟨c, e⟩
  rotate_left
  · have c := nle_i c
    rw [v3, z5] at c
    rw [so_e e]
    refine ⟨⟨dkt_0, fw_0⟩, Or.inl ⟨rfl, fun k num No => ?_⟩⟩
    have := ndo_n q0 q64 Fm No
    have := (Fm.1 k No.1).1
    omega
  have c := le_i c
  rw [v3, z5] at c
  obtain ⟨h5, e5, e⟩ := cl_s e
  have m24 : ∀ s, s < 64 → 0 ≤ P.1 s ∧ P.1 s ≤ 24 := Po.2.2.2
  obtain ⟨d5, F5, m, f, Eg, R5⟩ := gat_k (b := p) (M := P.1) (tg := P.1) k0 a0 a1 (fun i z => by unfold WRo at z; omega) (by omega) Po.1 Po.2.1 m24 m24 (by rw [zm]; omega) (fun s hs ms => ⟨fun z => by rw [zm] at z; omega, fun _ => rfl⟩) (fun s hs ms => by have := (m24 s hs).1; omega) (by omega) e5
  have m5 : m ≤ 5 := by rw [enu_n Eg]; omega
  have V : RwV m f := fun i hi => by
    obtain ⟨s, s64, b1, b2⟩ := Eg.2.1 i hi
    have := m24 s s64
    omega
  have gq : ∀ i, i < m → (f i % 64).toNat < q := fun i hi => by
    obtain ⟨s, s64, b1, b2⟩ := Eg.2.1 i hi
    have := ((HM s s64).2 b1).1
    omega
  have k5 := dk_self (d5.1 _ k0)
  have s5 := dk_610 k5
  have X : ∀ j i, j < 610 → ¬ j = 72 → ¬ (j = 62 ∧ i = 8) → hI h5 (n + j) i = hI h (n + j) i := fun j i h1 h2 h3 => (F5.2 _ _ (by omega) (fun z => by unfold WRo at z; omega)).1
  have Fc5 : FmC n h5 N nk rk sb q := ⟨⟨Fc.1.1, by rw [X 62 9 (by omega) (by omega) (by omega)]; exact Fc.1.2⟩, fun j hj => by rw [X 69 j (by omega) (by omega) (by omega)]; exact Fc.2.1 j hj, fun j hj => by rw [X 70 j (by omega) (by omega) (by omega)]; exact Fc.2.2.1 j hj, Fc.2.2.2⟩
  have So5 : SoK n h5 N := fun j k h1 h2 => by rw [X 69 j (by omega) (by omega) (by omega), X 69 k (by omega) (by omega) (by omega)]; exact So j k h1 h2
  have Pw5 : PwE n h5 q := fun i hi => by rw [X 71 i (by omega) (by omega) (by omega)]; exact Pw i hi
  obtain ⟨o6, e6, e⟩ := cl_s e
  obtain ⟨p6', K6⟩ := kor_k k5 m5 R5 V e6
  rw [p6'] at e
  obtain ⟨o7, e7, e⟩ := cl_s e
  obtain ⟨p7, fs⟩ := fis_k k5 So5 Fc5 e7
  rw [p7] at e
  have row : ∀ k num, NdO N nk rk q P.1 k num → nk k = m ∧ ∀ i, i < m → rk k i = f i / 64 := fun k num No => by
    obtain ⟨g1, g2⟩ := enu_u (enu_g No.2.2.2 (enu_l q0 q64 (Fm.1 k No.1) No.2.2.1)) Eg
    refine ⟨g1, fun i hi => ?_⟩
    have z := g2 i (by omega)
    have z : 64 * rk k i + (sqi q num i : Int) = f i := z
    have lt := sqi_lt (num := num) (i := i) q0
    omega
  rcases br_s e with ⟨c7, e⟩ | ⟨c7, e⟩
  · rw [so_e e]
    refine ⟨⟨d5, F5⟩, Or.inl ⟨rfl, fun k num No => ?_⟩⟩
    rcases fs with ⟨_, fs⟩ | ⟨k', _, fs, _⟩
    · obtain ⟨g1, g2⟩ := row k num No
      have Kk := (Fc5.2.1 k No.1).1
      rw [g1] at Kk
      exact fs k No.1 (key_x (key_e m5 Kk g2) K6)
    · rw [c7, zm] at fs; omega
  rcases fs with ⟨fs, _⟩ | ⟨kk, kN, vk, ek⟩
  · exact absurd fs c7
  have n7 : o7.1.toNatClampNeg = kk := by have := nc_i (x := o7.1) (by omega); omega
  have Kk := (Fc5.2.1 kk kN).1
  rw [ek] at Kk
  obtain ⟨nn, rkk⟩ := key_u Kk K6
  replace e := ce_e (dk_e (a := 62) (f := 5) (b := 70) k5 (by decide +kernel)) e
  replace e := gg_e e
  obtain ⟨o11, e11, e⟩ := cl_s e
  obtain ⟨p11, v11⟩ := num_a k5 Pw5 q0 q64 R5 V m5 gq e11
  rw [p11] at e
  have Rk := Fm.1 kk kN
  rw [nn] at Rk
  have P0 : ∀ s, 0 ≤ (if s < 64 then P.1 s else 0) := fun s => by
    by_cases z : s < 64
    · rw [if_pos z]; exact (m24 s z).1
    · rw [if_neg z]; exact Int.le_refl _
  have Eg' : EnU (fun s => if s < 64 then P.1 s else 0) m f := enu_g (fun s hs => (if_pos hs).symm) Eg
  obtain ⟨x1', x2', x3'⟩ := nd_ex q0 Rk Eg' (fun i hi => (rkk i (by omega)).symm) gq P0
  have No : NdO N nk rk q P.1 kk (nmV q (fun i => (f i % 64).toNat) m) := by
    refine ⟨kN, by rw [nn]; exact x2', by rw [nn]; exact x1', fun s hs => ?_⟩
    rw [nn, x3' s hs]
    exact if_pos hs
  have il := at_l (ν := (kk, nmV q (fun i => (f i % 64).toNat) m, pzS P)) Fc ⟨No.1, No.2.1, sd2⟩
  have il : sb kk + 2 * nmV q (fun i => (f i % 64).toNat) m + pzS P < 600000 := il
  have sk := Fc5.2.2.1 kk (by omega)
  rw [so_e e]
  refine ⟨⟨d5, F5⟩, Or.inr ⟨kk, _, No, ?_⟩⟩
  have ms : (hI h5 p 5).toInt = (pzS P : Int) := by
    rw [(F5.2 p 5 (by omega) (fun z => by unfold WRo at z; omega)).1]
    exact es
  have m2 : ((2 : Int32) * o11.1).toInt = 2 * (nmV q (fun i => (f i % 64).toNat) m : Int) := by rw [tm (by rw [z2, v11]; omega), z2, v11]
  have m3 : ((hI h5 (n + 70) o7.1.toNatClampNeg) + ((2 : Int32) * o11.1)).toInt = (sb kk : Int) + 2 * (nmV q (fun i => (f i % 64).toNat) m : Int) := by
    rw [n7, ta (by rw [sk, m2]; omega), sk, m2]
  show (((hI h5 (n + 70) o7.1.toNatClampNeg) + ((2 : Int32) * o11.1)) + (hI h5 p 5)).toInt = ((sb kk + 2 * nmV q (fun i => (f i % 64).toNat) m + pzS P : Nat) : Int)
  rw [ta (by rw [m3, ms]; omega), m3, ms]
  omega
end
end
section
/-! ENDINGS, the class: the calls worth and tally, by its table -/
noncomputable def tlW (T : Nod → Int) (k sd : Nat) (w : Int) (m : Nat) : Nat := sN (fun num => if T (k, num, sd) = w then 1 else 0) m
section
variable {n F N q wA nT kT sd : Nat} {h : Hp} {o : Int32 × Hp} {nk : Nat → Nat} {rk : Nat → Nat → Int} {sb : Nat → Nat} {x1 x2 x3 : Int32} {σ : Sy}
theorem caw_k (k : DyK n h h) (Ok : SyOk σ) (R : RelC n h σ) (E : LwE (syL σ) N nk rk q) (Fc : FmC n h N nk rk sb q) (So : SoK n h N) (Pw : PwE n h q) (sol : ¬ hI h (n + 62) 10 = 0) (r11 : hR h (n + 62) 11 = some wA) (wb : n + 610 ≤ wA ∧ wA < hS h) (rg : ∀ ν, NdA N nk q ν → -1000000 ≤ (hI h wA (ixC sb ν)).toInt ∧ (hI h wA (ixC sb ν)).toInt ≤ 4000000) (e : sX11_worth F h n x1 = some o) : (DkT n h o.2 ∧ FrW (WRo n) h o.2) ∧ ((sPl σ x1 = none ∧ o.1.toInt = -102) ∨ ∃ P, sPl σ x1 = some P ∧ WtA (syL σ) N nk rk q (fun ν => (hI h wA (ixC sb ν)).toInt) P o.1.toInt) := by
  have z2 : (2000000 : Int32).toInt = 2000000 := rfl
  have zm : (-1 : Int32).toInt = -1 := rfl
  have s6 := dk_610 k
  unfold sX11_worth sX11_worth_48 at e
  obtain ⟨o1, e1, e⟩ := cl_s e
  obtain ⟨q1, c1⟩ := isp_c k R.2.1 e1
  rw [q1] at e
  rcases c1 with ⟨d1, d2⟩ | ⟨d1, P, d2⟩
  · rw [so_e (bp_e d1 e)]
    exact ⟨⟨dkt_0, fw_0⟩, Or.inl ⟨d2, rfl⟩⟩
  replace e := bn_e d1 e
  obtain ⟨_, _, b3, _⟩ := spl_b d2
  have A := cpl_p R.2.1 d2
  have Oz := spl_ok Ok d2
  obtain ⟨r3, e3, e⟩ := cl_s e
  have y3 := dk_ed (a := 0) (b := 62) k (by decide +kernel) e3
  subst y3
  obtain ⟨r4, e4, e⟩ := cl_s e
  have y4 := dk_ed (a := 0) (b := 148) k (by decide +kernel) e4
  subst y4
  replace e := gg_e e
  obtain ⟨r6, e6, e⟩ := cl_s e
  have y6 := pl_at k b3 e6
  subst y6
  obtain ⟨o7, e7, e⟩ := cl_s e
  obtain ⟨⟨d7, F7⟩, na⟩ := noa_k E k Fc So Pw sol Oz (by omega) A e7
  have k7 := dk_self (d7.1 _ k)
  rcases na with ⟨a1, a2⟩ | ⟨kk, num, No, ev⟩
  · rw [so_e (bp_e a1 e)]
    exact ⟨⟨d7, F7⟩, Or.inr ⟨P, d2, Or.inl ⟨rfl, a2⟩⟩⟩
  · replace e := bn_e (fun z => by rw [z, zm] at ev; omega) e
    obtain ⟨r9, e9, e⟩ := cl_s e
    have y9 := dk_ed (a := 0) (b := 62) k7 (by decide +kernel) e9
    subst y9
    have r11' : hR o7.2 (n + 62) 11 = some wA := by rw [d7.2.2]; exact r11
    replace e := ce_e r11' e
    replace e := gg_e e
    have n7 : o7.1.toNatClampNeg = ixC sb (kk, num, pzS P) := by have := nc_i (x := o7.1) (by omega); omega
    have tv : hI o7.2 wA o7.1.toNatClampNeg = hI h wA (ixC sb (kk, num, pzS P)) := by
      rw [n7]
      exact (F7.2 wA _ wb.2 (fun z => by unfold WRo at z; omega)).1
    have r := rg (kk, num, pzS P) ⟨No.1, No.2.1, Oz.2.2.1⟩
    rw [so_e e]
    refine ⟨⟨d7, F7⟩, Or.inr ⟨P, d2, Or.inr ⟨kk, num, No, ?_⟩⟩⟩
    show ((2000000 : Int32) + hI o7.2 wA o7.1.toNatClampNeg).toInt = 2000000 + (hI h wA (ixC sb (kk, num, pzS P))).toInt
    rw [tv, ta (by rw [z2]; omega), z2]
/-- nothing is solved -/
theorem caw_0 (k : DyK n h h) (R : RelC n h σ) (sol : hI h (n + 62) 10 = 0) (e : sX11_worth F h n x1 = some o) : o.2 = h ∧ ((sPl σ x1 = none ∧ o.1.toInt = -102) ∨ ∃ P, sPl σ x1 = some P ∧ o.1.toInt = -103) := by
  unfold sX11_worth sX11_worth_48 at e
  obtain ⟨o1, e1, e⟩ := cl_s e
  obtain ⟨q1, c1⟩ := isp_c k R.2.1 e1
  rw [q1] at e
  rcases c1 with ⟨d1, d2⟩ | ⟨d1, P, d2⟩
  · rw [so_e (bp_e d1 e)]
    exact ⟨rfl, Or.inl ⟨d2, rfl⟩⟩
  replace e := bn_e d1 e
  obtain ⟨r3, e3, e⟩ := cl_s e
  have y3 := dk_ed (a := 0) (b := 62) k (by decide +kernel) e3
  subst y3
  obtain ⟨r4, e4, e⟩ := cl_s e
  replace e := gg_e e
  obtain ⟨r6, e6, e⟩ := cl_s e
  obtain ⟨o7, e7, e⟩ := cl_s e
  unfold sX0_nodeOfAll sX0_nodeOfAll_18 at e7
  replace e7 := bp_e sol e7
  have y7 := so_e e7
  rw [y7] at e
  rw [so_e (bp_e rfl e)]
  exact ⟨rfl, Or.inr ⟨P, d2, rfl⟩⟩
theorem ctw_29 (k : DyK n h h) (Fc : FmC n h N nk rk sb q) (r11 : hR h (n + 62) 11 = some wA) (kN : kT < N) (e1 : x1.toInt = (sd : Int)) (sd2 : sd < 2) (e3 : x3.toInt = (kT : Int)) : ∀ (fu : Nat) {x4 x5 : Int32} {m : Nat}, x5.toInt = ((sb kT + 2 * m : Nat) : Int) → m ≤ q ^ nk kT → x4.toInt = (tlW (fun ν => (hI h wA (ixC sb ν)).toInt) kT sd x2.toInt m : Int) → tlW (fun ν => (hI h wA (ixC sb ν)).toInt) kT sd x2.toInt m ≤ m → sX0_countWorth_29 F fu h (n + 62) x1 x2 x3 x4 x5 = some o → o.2 = h ∧ o.1.toInt = (tlW (fun ν => (hI h wA (ixC sb ν)).toInt) kT sd x2.toInt (q ^ nk kT) : Int) := by
  have z1 : (1 : Int32).toInt = 1 := rfl
  have z0 : (0 : Int32).toInt = 0 := rfl
  have z2 : (2 : Int32).toInt = 2 := rfl
  have zm : (-1 : Int32).toInt = -1 := rfl
  have N10 := Fc.1.1
  have sk := (Fc.2.1 kT kN).2
  have le := sbc_m Fc (show kT + 1 ≤ N by omega) (Nat.le_refl _)
  have l6 := Fc.2.2.2.2
  have s2 := Fc.2.2.1 (kT + 1) (by omega)
  intro fu
  induction fu with
  | zero => intro x4 x5 m _ _ _ _ e; exact absurd e (by rw [sX0_countWorth_29]; exact fun z => nomatch z)
  | succ fu ih =>
    intro x4 x5 m e5 mq e4 lm e
    rw [sX0_countWorth_29] at e
    unfold sX0_countWorth_76 sX0_countWorth_67 at e
    replace e := bn_e (fun z => by rw [z, zm] at e3; omega) e
    have n3 : (x3 + (1 : Int32)).toNatClampNeg = kT + 1 := by
      have a : (x3 + (1 : Int32)).toInt = (kT : Int) + 1 := by rw [ta (by rw [z1]; omega), z1, e3]
      have := nc_i (x := x3 + (1 : Int32)) (by omega); omega
    replace e := ce_e (dk_e (a := 62) (f := 5) (b := 70) k (by decide +kernel)) e
    replace e := gg_e e
    rcases br_s e with ⟨c, e⟩ | ⟨c, e⟩ <;> rw [n3] at c
    · have c := le_i c
      rw [s2, e5] at c
      have mm : m = q ^ nk kT := by omega
      rw [so_e e]
      exact ⟨rfl, by rw [← mm]; exact e4⟩
    have c := nle_i c
    rw [s2, e5] at c
    have ml : m < q ^ nk kT := by omega
    replace e := ce_e r11 e
    replace e := gg_e e
    have na : NdA N nk q (kT, m, sd) := ⟨kN, ml, sd2⟩
    have il := at_l (ν := (kT, m, sd)) Fc na
    have il : sb kT + 2 * m + sd < 600000 := il
    have nx : (x5 + x1).toNatClampNeg = ixC sb (kT, m, sd) := by
      have a : (x5 + x1).toInt = ((sb kT + 2 * m + sd : Nat) : Int) := by rw [ta (by rw [e5, e1]; omega), e5, e1]; omega
      have := nc_i (x := x5 + x1) (by omega)
      show _ = sb kT + 2 * m + sd
      omega
    have st : tlW (fun ν => (hI h wA (ixC sb ν)).toInt) kT sd x2.toInt (m + 1) = tlW (fun ν => (hI h wA (ixC sb ν)).toInt) kT sd x2.toInt m + (if (hI h wA (ixC sb (kT, m, sd))).toInt = x2.toInt then 1 else 0) := rfl
    have y5 : (x5 + (2 : Int32)).toInt = ((sb kT + 2 * (m + 1) : Nat) : Int) := by rw [ta (by rw [e5, z2]; omega), e5, z2]; omega
    rcases br_s e with ⟨c2, e⟩ | ⟨c2, e⟩ <;> rw [nx] at c2
    · replace e := nx_e e
      replace e := nx_e e
      have ct : (hI h wA (ixC sb (kT, m, sd))).toInt = x2.toInt := by rw [c2]
      rw [if_pos ct] at st
      exact ih (m := m + 1) y5 ml (by rw [ta (by rw [e4, z1]; omega), e4, z1, st]; omega) (by omega) e
    · replace e := nx_e e
      replace e := nx_e e
      have ct : ¬ (hI h wA (ixC sb (kT, m, sd))).toInt = x2.toInt := fun z => c2 (Int32.toInt_inj.mp z)
      rw [if_neg ct] at st
      exact ih (m := m + 1) y5 ml (by rw [ta (by rw [e4, z0]; omega), e4, z0, st]; omega) (by omega) e
theorem ctw_k (k : DyK n h h) (Fc : FmC n h N nk rk sb q) (So : SoK n h N) (r11 : hR h (n + 62) 11 = some wA) (kN : kT < N) (ek : hI h (n + 69) kT = hI h (n + 62) 15) (e1 : x1.toInt = (sd : Int)) (sd2 : sd < 2) (e : sX0_countWorth F h (n + 62) x1 x2 = some o) : o.2 = h ∧ o.1.toInt = (tlW (fun ν => (hI h wA (ixC sb ν)).toInt) kT sd x2.toInt (q ^ nk kT) : Int) := by
  have zm : (-1 : Int32).toInt = -1 := rfl
  unfold sX0_countWorth sX0_countWorth_27 at e
  obtain ⟨o1, e1', e⟩ := cl_s e
  obtain ⟨p1, fs⟩ := fis_k k So Fc e1'
  rw [p1] at e
  rcases fs with ⟨_, fs⟩ | ⟨k', kN', v, ek'⟩
  · exact absurd ek (fs kT kN)
  have kk : k' = kT := by
    rcases Nat.lt_trichotomy k' kT with c | c | c
    · have := So k' kT c kN
      rw [ek', ek] at this; omega
    · exact c
    · have := So kT k' c kN'
      rw [ek', ek] at this; omega
  rw [kk] at v
  replace e := bn_e (fun z => by rw [z, zm] at v; omega) e
  replace e := ce_e (dk_e (a := 62) (f := 5) (b := 70) k (by decide +kernel)) e
  replace e := gg_e e
  have n1 : o1.1.toNatClampNeg = kT := by have := nc_i (x := o1.1) (by omega); omega
  rw [n1] at e
  exact ctw_29 k Fc r11 kN e1 sd2 v F (m := 0) (Fc.2.2.1 kT (by omega)) (Nat.zero_le _) rfl (Nat.le_refl _) e
end
end
