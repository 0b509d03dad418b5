section
/-! what a position keeps to besides: no man that becomes others stands on its last rank; without catch and blast the ROYAL man of the side not to move is safe -/
section
variable {L : Nat → Nat → Int} {P : Pz} {v : MvT}
theorem pze_w (O : PzOk L P) (w0 : wrN L P = 0) : PzE L P := by
  unfold wrN at w0
  by_cases c2 : prB' (F2p L P) = true
  · rw [if_pos c2] at w0; exact absurd w0 (by decide)
  rw [if_neg c2] at w0
  unfold wr3 at w0
  by_cases c3 : prB' (F3p L P) = true
  · rw [if_pos c3] at w0; exact absurd w0 (by decide)
  rw [if_neg c3] at w0
  unfold wr4 at w0
  by_cases c4 : prB' (F4p L P) = true
  · rw [if_pos c4] at w0; exact absurd w0 (by decide)
  rw [if_neg c4] at w0
  unfold wr5 at w0
  by_cases c5 : prB' (F5p L P) = true
  · rw [if_pos c5] at w0; exact absurd w0 (by decide)
  rw [if_neg c5] at w0
  unfold wr6 at w0
  by_cases c6 : prB' (RyH L P.1 (1 - pzS P)) = true
  · rw [if_pos c6] at w0; exact absurd w0 (by decide)
  rw [if_neg c6] at w0
  unfold wr7 at w0
  by_cases c7 : prB' (F7p L P) = true
  · rw [if_pos c7] at w0; exact absurd w0 (by decide)
  refine ⟨fun z => c3 (prb_e.mpr z), fun _ z => c6 (prb_e.mpr z), fun z d hd => ?_⟩
  have n7 : ¬ 0 < pzC P 0 + pzC P 1 := fun y => c7 (prb_e.mpr ⟨z, y⟩)
  have b0 := O.2.2.2.2.2.2.1 0 (by decide)
  have b1 := O.2.2.2.2.2.2.1 1 (by decide)
  have : d = 0 ∨ d = 1 := by omega
  rcases this with y | y
  · rw [y]; omega
  · rw [y]; omega
/-- a move by a STEP, of one lead -/
theorem mvl_i {M : Nat → Int} {p0 : Nat} {sd : Int} {m s t j : Nat} {k : Int} {b : Bool} (hv : v ∈ mvL L M p0 sd m s t j k b) : (v.1 = (s : Int) ∧ v.2.1 = (t : Int) ∧ v.2.2.1 = (m : Int) ∧ v.2.2.2.2.1 = tkV M p0 t b ∧ v.2.2.2.2.2.1 = (if b = true then 1 else 0) ∧ v.2.2.2.2.2.2 = (if fbt (L 75 j) 4 = true ∧ 1 < k then k else 0)) ∧ ((v.2.2.2.1 = -1 ∧ ¬ (0 < L 81 m ∧ rkF L t sd = L 1 0 ∧ ¬ (¬ L 18 0 = 0 ∧ ¬ tkV M p0 t b = -1))) ∨ ((0 < L 81 m ∧ rkF L t sd = L 1 0 ∧ ¬ (¬ L 18 0 = 0 ∧ ¬ tkV M p0 t b = -1)) ∧ ∃ q : Nat, (q : Int) < L 81 m ∧ v.2.2.2.1 = L 80 (6 * m + q))) := by
  unfold mvL at hv
  split at hv
  · rename_i c
    rw [List.mem_map] at hv
    obtain ⟨x, hx, ev⟩ := hv
    rw [List.mem_range] at hx
    rw [← ev]
    exact ⟨⟨rfl, rfl, rfl, rfl, rfl, rfl⟩, Or.inr ⟨c, x, by omega, rfl⟩⟩
  · rename_i c
    rw [List.mem_singleton] at hv
    rw [hv]
    exact ⟨⟨rfl, rfl, rfl, rfl, rfl, rfl⟩, Or.inl ⟨rfl, c⟩⟩
/-- where a move that is tried comes from -/
theorem mo_i (H : LOk L) (hv : v ∈ moP L P) : (∃ (s t : Nat) (q : Nat × Int), s < 64 ∧ t < 64 ∧ 0 < P.1 s ∧ (P.1 s - 1) % 2 = (pzS P : Int) ∧ ldF (ldD L P.1 (ovP P) true (pzS P) (mnO (P.1 s)) s) t = some q ∧ v ∈ mvL L P.1 (pzQ P 0) (pzS P) (mnO (P.1 s)) s t q.1 q.2 (prB' (ByT L (ovP P) true q.1 t))) ∨ (∃ (s p : Nat) (d : Int), s < 64 ∧ (d = 1 ∨ d = -1) ∧ 0 < P.1 s ∧ (P.1 s - 1) % 2 = (pzS P : Int) ∧ v = csV L s d p ∧ CstP L P.1 (rtP P) (pzS P) s d p) ∨ ∃ t m : Nat, (t : Int) < L 0 0 * L 1 0 ∧ (m : Int) < L 2 0 ∧ v = ((-1 : Int), (t : Int), (m : Int), (-1 : Int), (-1 : Int), (3 : Int), (0 : Int)) ∧ ¬ (((t : Int) / L 0 0 = 0 ∨ (t : Int) / L 0 0 = L 1 0 - 1) ∧ 0 < L 81 m) := by
  have sq := sq_64 H
  have L2 := H.2.2.1
  unfold moP moA at hv
  rw [List.mem_append] at hv
  rcases hv with hv | hv
  · rw [List.mem_flatMap] at hv
    obtain ⟨s, hs, hv⟩ := hv
    rw [List.mem_range] at hs
    unfold moF at hv
    split at hv
    · rename_i c
      rw [List.mem_flatMap] at hv
      obtain ⟨t, ht, hv⟩ := hv
      rw [List.mem_range] at ht
      unfold moS at hv
      rw [List.mem_append] at hv
      have cs : ∀ d : Int, (d = 1 ∨ d = -1) → v ∈ csD L P.1 (rtP P) (pzS P) s d t → (∃ (s p : Nat) (d : Int), s < 64 ∧ (d = 1 ∨ d = -1) ∧ 0 < P.1 s ∧ (P.1 s - 1) % 2 = (pzS P : Int) ∧ v = csV L s d p ∧ CstP L P.1 (rtP P) (pzS P) s d p) := fun d hd hv => by
        unfold csD at hv
        split at hv
        · rename_i ex
          rw [List.mem_singleton] at hv
          exact ⟨s, _, d, hs, hd, c.1, c.2, hv, (Classical.choose_spec ex).2⟩
        · exact absurd hv (by simp)
      rcases hv with hv | hv
      · cases e : ldF (ldD L P.1 (ovP P) true (pzS P) (mnO (P.1 s)) s) t with
        | none =>
          rw [sta_none e] at hv
          exact absurd hv (by simp)
        | some q =>
          rw [sta_some e] at hv
          exact Or.inl ⟨s, t, q, hs, ht, c.1, c.2, e, hv⟩
      · split at hv
        · rw [List.mem_append] at hv
          rcases hv with hv | hv
          · exact Or.inr (Or.inl (cs _ (Or.inr rfl) hv))
          · exact Or.inr (Or.inl (cs _ (Or.inl rfl) hv))
        · exact absurd hv (by simp)
    · exact absurd hv (by simp)
  · unfold moD at hv
    split at hv
    · exact absurd hv (by simp)
    · rw [List.mem_flatMap] at hv
      obtain ⟨t, ht, hv⟩ := hv
      rw [List.mem_range] at ht
      unfold drL at hv
      split at hv
      · rw [List.mem_flatMap] at hv
        obtain ⟨m, hm, hv⟩ := hv
        rw [List.mem_range] at hm
        unfold drM at hv
        split at hv
        · rename_i c
          rw [List.mem_singleton] at hv
          exact Or.inr (Or.inr ⟨t, m, by omega, by omega, hv, c.2⟩)
        · exact absurd hv (by simp)
      · exact absurd hv (by simp)
/-- men behind a move: where something else stands -/
theorem shm_v {M : Nat → Int} {p0 : Nat} {cas sd : Int} (q : Nat) : shM M p0 cas sd v q = 0 ∨ shM M p0 cas sd v q = M q ∨ (q = v.2.1.toNat ∧ ((v.2.2.2.2.2.1 = 3 ∧ shM M p0 cas sd v q = cdV v.2.2.1 sd) ∨ (¬ v.2.2.2.2.2.1 = 3 ∧ shM M p0 cas sd v q = nwV sd v))) ∨ (v.2.2.2.2.2.1 = 2 ∧ q = ((v.1 + v.2.1) / 2).toNat ∧ shM M p0 cas sd v q = cdV cas sd) := by
  unfold shM
  by_cases k3 : v.2.2.2.2.2.1 = 3
  · rw [if_pos k3]
    unfold updM
    by_cases c : q = v.2.1.toNat
    · rw [if_pos c]; exact Or.inr (Or.inr (Or.inl ⟨c, Or.inl ⟨k3, rfl⟩⟩))
    · rw [if_neg c]; exact Or.inr (Or.inl rfl)
  rw [if_neg k3]
  unfold updM mdM
  by_cases c : q = v.2.1.toNat
  · rw [if_pos c]; exact Or.inr (Or.inr (Or.inl ⟨c, Or.inr ⟨k3, rfl⟩⟩))
  rw [if_neg c]
  by_cases c2 : q = v.1.toNat
  · rw [if_pos c2]; exact Or.inl rfl
  rw [if_neg c2]
  by_cases k2 : v.2.2.2.2.2.1 = 2
  · rw [if_pos k2]
    unfold updM
    by_cases c4 : q = ((v.1 + v.2.1) / 2).toNat
    · rw [if_pos c4]; exact Or.inr (Or.inr (Or.inr ⟨k2, c4, rfl⟩))
    rw [if_neg c4]
    by_cases c5 : q = v.2.2.2.2.2.2.toNat
    · rw [if_pos c5]; exact Or.inl rfl
    · rw [if_neg c5]; exact Or.inr (Or.inl rfl)
  rw [if_neg k2]
  by_cases k1 : v.2.2.2.2.2.1 = 1
  · rw [if_pos k1]
    unfold updM
    by_cases c5 : q = p0
    · rw [if_pos c5]; exact Or.inl rfl
    · rw [if_neg c5]; exact Or.inr (Or.inl rfl)
  · rw [if_neg k1]; exact Or.inr (Or.inl rfl)
/-- the rank of a square between the ROYAL man and his castling man -/
theorem mid_rk {fi : Int} (b : 3 ≤ fi ∧ fi ≤ 8) {s p n : Nat} {d : Int} (hd : d = 1 ∨ d = -1) (n1 : 1 ≤ n) (a : 0 ≤ (s : Int) % fi + n * d) (c : (s : Int) % fi + n * d < fi) (e : (p : Int) = s + n * d) : ((s : Int) + d) / fi = (p : Int) / fi := by
  have : fi = 3 ∨ fi = 4 ∨ fi = 5 ∨ fi = 6 ∨ fi = 7 ∨ fi = 8 := by omega
  rcases hd with z | z <;> subst z <;> rcases this with z | z | z | z | z | z <;> subst z <;> omega
/-- no man that becomes others stands on its last rank behind a move -/
theorem f3_m (H : LOk L) (K : LawK L) (LD : LtD L) (O : PzOk L P) (E : ¬ F3p L P) (hv : v ∈ moP L P) : ¬ F3p L (zAll L P v) := by
  intro ⟨q, q64, f1, f2, f3⟩
  rw [zall_m] at f1 f2 f3
  have G := mo_g H K O hv
  have isd := isd_i O
  have zm := zmen_e H G q q64
  have nb : mkM L P v q = zMen P v q ∧ ((L 18 0 = 0 ∨ v.2.2.2.2.1 = -1) ∨ ¬ q = v.2.1.toNat) := by
    unfold mkM at f1 ⊢
    by_cases c : L 18 0 = 0 ∨ v.2.2.2.2.1 = -1
    · rw [if_pos c]; exact ⟨rfl, Or.inl c⟩
    · rw [if_neg c] at f1 ⊢
      unfold blM at f1 ⊢
      by_cases c2 : BlS L (zMen P v) v.2.1.toNat q
      · rw [if_pos c2] at f1; omega
      · rw [if_neg c2]
        exact ⟨rfl, Or.inr (fun z => c2 (Or.inl z))⟩
  rw [nb.1, zm] at f1 f2 f3
  have rk : ∀ {m : Int}, cdV m (pzS P : Int) - 1 = 2 * m + (pzS P : Int) := fun {m} => by unfold cdV; omega
  have mo : ∀ {m : Int}, 0 ≤ m → mnO (cdV m (pzS P : Int)) = m.toNat ∧ (cdV m (pzS P : Int) - 1) % 2 = (pzS P : Int) := fun {m} m0 => by
    unfold mnO
    rw [rk]
    omega
  rcases shm_v (M := P.1) (p0 := pzQ P 0) (cas := L 12 0) (sd := (pzS P : Int)) (v := v) q with z | z | ⟨et, z⟩ | ⟨k2, em, z⟩
  · rw [z] at f1; omega
  · rw [z] at f1 f2 f3
    exact E ⟨q, q64, f1, f2, f3⟩
  · rcases mo_i H hv with ⟨s, t, u, s64, t64, m0, es, el, hm⟩ | ⟨s, p, d, s64, hd, m0, es, ev, C⟩ | ⟨t, m, tL, mL, ev, nd⟩
    · obtain ⟨⟨v1, v2, v3, v4, v5, v6⟩, vb⟩ := mvl_i hm
      have z : shM P.1 (pzQ P 0) (L 12 0) (pzS P : Int) v q = nwV (pzS P : Int) v := by
        rcases z with ⟨k3, _⟩ | ⟨_, z⟩
        · rw [v5] at k3
          split at k3
          · exact absurd k3 (by decide)
          · exact absurd k3 (by decide)
        · exact z
      have qt : q = t := by rw [et, v2]; omega
      rw [z] at f2 f3
      unfold nwV at f2 f3
      rcases vb with ⟨b1, nc⟩ | ⟨_, x, hx, b1⟩
      · rw [if_pos b1, v3] at f2 f3
        obtain ⟨e1, e2⟩ := mo (m := ((mnO (P.1 s) : Nat) : Int)) (by omega)
        rw [e1] at f2
        rw [e2] at f3
        have e3 : ((mnO (P.1 s) : Nat) : Int).toNat = mnO (P.1 s) := by omega
        rw [e3] at f2
        rw [qt] at f3
        refine nc ⟨f2, f3, fun y => ?_⟩
        rcases nb.2 with w | w
        · rw [v4] at w
          exact w.elim y.1 y.2
        · exact w et
      · have m12 := mno_12 H O.1 s64 m0
        have kb := (K.1 _ m12).2 x hx
        rw [if_neg (by rw [b1]; omega), b1] at f2
        obtain ⟨e1, _⟩ := mo (m := L 80 (6 * mnO (P.1 s) + x)) kb.1.1
        rw [e1, (LD.2 _ x m12 hx).1] at f2
        omega
    · have r0 := K.2.2.2.2
      have v3 : v.2.2.1 = L 10 0 := by rw [ev]; rfl
      have v4 : v.2.2.2.1 = -1 := by rw [ev]; rfl
      have v6 : v.2.2.2.2.2.1 = 2 := by rw [ev]; rfl
      have z : shM P.1 (pzQ P 0) (L 12 0) (pzS P : Int) v q = nwV (pzS P : Int) v := by
        rcases z with ⟨k3, _⟩ | ⟨_, z⟩
        · omega
        · exact z
      have mg := G.1.2.1
      rw [z] at f2
      unfold nwV at f2
      rw [if_pos v4, v3] at f2
      rw [v3] at mg
      obtain ⟨e1, _⟩ := mo (m := L 10 0) mg.1
      rw [e1, r0 mg.1] at f2
      omega
    · have v3 : v.2.2.1 = (m : Int) := by rw [ev]
      have v2 : v.2.1 = (t : Int) := by rw [ev]
      have v6 : v.2.2.2.2.2.1 = 3 := by rw [ev]
      have z : shM P.1 (pzQ P 0) (L 12 0) (pzS P : Int) v q = cdV v.2.2.1 (pzS P : Int) := by
        rcases z with ⟨_, z⟩ | ⟨n3, _⟩
        · exact z
        · exact absurd v6 n3
      rw [z, v3] at f2 f3
      obtain ⟨e1, e2⟩ := mo (m := (m : Int)) (by omega)
      rw [e1] at f2
      rw [e2] at f3
      have e3 : ((m : Nat) : Int).toNat = m := by omega
      rw [e3] at f2
      have qt : q = t := by rw [et, v2]; omega
      rw [qt] at f3
      refine nd ⟨?_, f2⟩
      unfold rkF at f3
      rcases isd with y | y
      · rw [if_pos y] at f3; exact Or.inr (by omega)
      · rw [if_neg (by omega)] at f3; exact Or.inl (by omega)
  · rcases mo_i H hv with ⟨s, t, u, s64, t64, m0, es, el, hm⟩ | ⟨s, p, d, s64, hd, m0, es, ev, C⟩ | ⟨t, m, tL, mL, ev, nd⟩
    · obtain ⟨⟨v1, v2, v3, v4, v5, v6⟩, vb⟩ := mvl_i hm
      rw [v5] at k2
      split at k2
      · exact absurd k2 (by decide)
      · exact absurd k2 (by decide)
    · obtain ⟨⟨n, n1, n2, n3, n4, n5, n6⟩, far, rt, mp, _⟩ := C
      have sL := ((O.1 s s64).2 m0).1
      have sq := sq_64 H
      have on := on_rk H sL n2 n3
      rw [← n4] at on
      obtain ⟨c0, d', hd', mc, r1⟩ := O.2.2.2.1 p (by omega) rt
      have ed : (d' : Int) = (pzS P : Int) := by
        rw [mc] at mp
        unfold cdV at mp
        omega
      have md := mid_rk H.1 hd n1 n2 n3 n4
      have v1 : v.1 = (s : Int) := by rw [ev]; rfl
      have v2 : v.2.1 = (s : Int) + 2 * d := by rw [ev]; rfl
      obtain ⟨d2, hd2, c1, c2, c3, c4, _⟩ := mvgd_c H G k2
      have qe : (q : Int) = (s : Int) + d := by
        rw [em, c2]
        have : d2 = d := by omega
        rw [this, v1] at c4
        rw [this, v1]
        omega
      rw [z] at f3
      obtain ⟨_, e2⟩ := mo (m := L 12 0) c0
      rw [e2] at f3
      unfold rkF at f3 r1
      rw [qe, md] at f3
      rw [ed] at r1
      have l1 := H.2.1.1
      by_cases y : (pzS P : Int) = 0
      · rw [if_pos y] at f3 r1; omega
      · rw [if_neg y] at f3 r1; omega
    · have v6 : v.2.2.2.2.2.1 = 3 := by rw [ev]
      omega
theorem lg_sf (hv : v ∈ lgL L P) : sfP L P v ∧ v ∈ moP L P ∧ ¬ 0 < (er1 L P).1 := by
  unfold lgL at hv
  by_cases c : 0 < (er1 L P).1
  · rw [if_pos c] at hv; exact absurd hv (by simp)
  rw [if_neg c] at hv
  have : v ∈ (moP L P).filter (sfB L P) := by
    unfold mustF at hv
    split at hv
    · exact (List.mem_filter.mp hv).1
    · exact hv
  have y := List.mem_filter.mp this
  exact ⟨prb_e.mp y.2, y.1, c⟩
/-- without catch and blast: the ROYAL man of the side that has moved is safe -/
theorem f6_m (H : LOk L) (K : LawK L) (N : NcL L) (O : PzOk L P) (E : ¬ RyH L P.1 (1 - pzS P)) (hv : v ∈ lgL L P) : ¬ RyH L (zAll L P v).1 (1 - pzS (zAll L P v)) := by
  obtain ⟨sf, hm, _⟩ := lg_sf hv
  have G := mo_g H K O hm
  have S2 := O.2.2.1
  have isd := isd_i O
  have c1 : (1 : Int) - ((1 - pzS P : Nat) : Int) = (pzS P : Int) := by omega
  rw [zall_m, zall_s, show 1 - (1 - pzS P) = pzS P by omega]
  intro ry
  have mk : ∀ s, s < 64 → mkM L P v s = shM P.1 (pzQ P 0) (L 12 0) (pzS P : Int) v s := fun s hs => by
    unfold mkM
    rw [if_pos (Or.inl N.1)]
    exact zmen_e H G s hs
  obtain ⟨q, q64, r0, eq, _⟩ := id ry
  -- it was there before
  have re : RyE L P.1 (pzS P) := by
    rw [mk q q64] at eq
    rcases shm_v (M := P.1) (p0 := pzQ P 0) (cas := L 12 0) (sd := (pzS P : Int)) (v := v) q with z | z | ⟨et, z⟩ | ⟨k2, em, z⟩
    · rw [z] at eq; omega
    · rw [z] at eq; exact ⟨q, q64, r0, eq⟩
    · rcases z with ⟨k3, z⟩ | ⟨k3, z⟩
      · rw [z] at eq
        unfold cdV at eq
        rcases G.1.2.2.2.1 with y | y
        · exact absurd (show v.2.2.1 = L 10 0 by omega) y.2
        · omega
      · rw [z] at eq
        unfold nwV cdV at eq
        obtain ⟨sL, sv⟩ := mvgd_s G k3
        have sq := sq_64 H
        rcases G.1.2.2.1 with b | b
        · rw [if_pos b] at eq
          unfold cdV at sv
          exact ⟨v.1.toNat, by omega, r0, by rw [sv]; omega⟩
        · rw [if_neg (by omega)] at eq
          exact absurd (show v.2.2.2.1 = L 10 0 by omega) b.2.2
    · rw [z] at eq
      unfold cdV at eq
      have := K.2.2.1
      omega
  rcases (sf.1 re).2 with ⟨⟨r, r64, _, er⟩, ng⟩ | y
  rotate_left
  · exact y ry
  -- the other one has gone away
  have side : ¬ (P.1 r - 1) % 2 = (pzS P : Int) := by rw [er]; omega
  have tc : shT (pzQ P 0) v r := Classical.byContradiction fun nt => ng ⟨r, r64, r0, by rw [mk r r64, shm_o nt]; exact er⟩
  rcases mo_i H hm with ⟨s, t, u, s64, t64, m0, es, el, hm'⟩ | ⟨s, p, d, s64, hd, m0, es, ev, C⟩ | ⟨t, m, tL, mL, ev, nd⟩
  · obtain ⟨⟨v1, v2, v3, v4, v5, v6⟩, vb⟩ := mvl_i hm'
    obtain ⟨⟨i, hi, ej, ld, g⟩, _⟩ := ldf_i el
    have vL := (O.1 s s64).2 m0
    have mL := (mno_lt (L := L) m0 vL.2).1
    have nby : ¬ ByT L (ovP P) true u.1 t := fun y => by
      have := N.2 _ i mL hi
      rw [← ej, y.2.1] at this
      exact absurd this (by decide)
    rw [prb_f.mpr nby, if_neg (by decide)] at v5
    have rt : r = t := by
      rcases tc with y | ⟨_, y⟩ | ⟨y, _⟩ | ⟨y, _⟩
      · rw [y, v2]; omega
      · have : r = s := by rw [y, v1]; omega
        rw [this] at side
        exact absurd es side
      · omega
      · omega
    rcases g with g | ⟨_, _, g⟩ | ⟨g, _⟩
    · exact nby g
    · refine E ⟨r, r64, r0, er, ?_⟩
      rw [c1, rt]
      exact ⟨s, i, u.2, vL.1, m0, es, hi, by rw [← ej]; exact g, by rw [← ej]; exact ld⟩
    · rw [← rt, er] at g
      omega
  · have v6 : v.2.2.2.2.2.1 = 2 := by rw [ev]; rfl
    obtain ⟨d2, hd2, c1, c2, c3, c4, c5, c6, c7, _⟩ := mvgd_c H G v6
    obtain ⟨sL, sv⟩ := mvgd_s G (by omega)
    obtain ⟨_, _, g3, g4, _⟩ := G.2.2.2.2.2.1 v6
    unfold cdV at sv g4
    rcases tc with y | ⟨_, y⟩ | ⟨y, _⟩ | ⟨_, y | y⟩
    · rw [y, c7] at er; omega
    · rw [y, sv] at side; omega
    · omega
    · rw [y, g4] at side; omega
    · rw [y, c2, c6] at er; omega
  · have v6 : v.2.2.2.2.2.1 = 3 := by rw [ev]
    obtain ⟨_, _, _, g4, _⟩ := G.2.2.2.2.2.2.1 v6
    rcases tc with y | ⟨y, _⟩ | ⟨y, _⟩ | ⟨y, _⟩
    · rw [y, g4] at er; omega
    · exact y v6
    · omega
    · omega
theorem pze_m {i : Nat} (H : LOk L) (K : LawK L) (LD : LtD L) (O : PzOk L P) (E : PzE L P) (e : (lgL L P)[i]? = some v) : PzE L (zAll L P v) := ⟨f3_m H K LD O E.1 (lg_sf (List.mem_of_getElem? e)).2.1, fun N => f6_m H K N O (E.2.1 N) (List.mem_of_getElem? e), fun z d hd => by
  rw [zall_c, prb_f.mpr (fun y => by have := y.2.1; omega), if_neg (by decide)]
  exact E.2.2 z d hd⟩
end
end
section
/-! calls of the class: how a position ends, who won; free places; go -/
section
variable {n F : Nat} {h : Hp} {σ : Sy} {o : Int32 × Hp} {x1 x2 x3 : Int32}
/-- how a position at p ends -/
theorem en_k {p tp : Nat} {own : Nat → Nat} {L : Nat → Nat → Int} {P : Pz} (k : DyK n h h) (O : OwS n h own) (bp : BkE own h p 1 tp) (np : ¬ tp = 1 ∧ ¬ tp = 8 ∧ tp < 20000) (H : LOk L) (K : LawK L) (Oz : PzOk L P) (C : ClL n h L) (A : CpA h p (L 10 0) P) (e : sX5_endOf F h (n + 30) p = some o) : FrW (CSc n) h o.2 ∧ DyK n h o.2 ∧ o.1.toInt = (enE L P).1 := by
  have D : VD (vK n (hS h) p (n + 32) (hS h + 1000 * 3) (hS h + 1000 * 9) (n + 31)) := vd_k O bp (bk_sh O) (bke_o (c := 3)) (bke_o (c := 9)) (bk_room O) (by omega)
  have CC : CcB (vK n (hS h) p (n + 32) (hS h + 1000 * 3) (hS h + 1000 * 9) (n + 31)) h L P := ccb_k k C A (ln_d k.1 (a := 31) (w := 4096) (by decide))
  have kk := dk_X5_endOf k e
  obtain ⟨f, y⟩ := en_c D H K Oz CC (dk_e (a := 30) (f := 2) (b := 31) k (by decide +kernel)) e
  refine ⟨?_, kk, y⟩
  rcases f with f | f
  · rw [f]; exact fw_0
  · have f' := fw_v (W := CSc n) (sb := csB) (cs := [2, 10]) f (show hS h ≤ hS o.2 from hs_g kk.1) (by decide +kernel) (fun j f i z _ => csb_c z) (fun c hc j i hj => ?_)
    · exact f'
    · simp only [List.mem_cons, List.not_mem_nil, or_false] at hc
      rcases hc with z | z <;> subst z
      · exact Or.inl ⟨by show n + 30 ≤ n + 32 + j; omega, by have hj : j < 6 := hj; show n + 32 + j ≤ n + 47; omega⟩
      · have hj : j < 1 := hj
        exact Or.inl ⟨by show n + 30 ≤ n + 31 + j; omega, by show n + 31 + j ≤ n + 47; omega⟩
theorem win_k {p : Nat} {L : Nat → Nat → Int} {P : Pz} {g : Hp} (k : DyK n g h) (z22 : 0 ≤ L 22 0 ∧ L 22 0 ≤ 2) (Oz : PzOk L P) (C : ClL n h L) (A : CpA h p (L 10 0) P) (e2 : x2.toInt = (enE L P).1) (e : sX5_winnerOf h (n + 30) p x2 = some o) : o.2 = h ∧ o.1.toInt = (if 0 < (enE L P).1 then (enE L P).2 else -1) := by
  have M : MkC (vK n (hS h) p 0 0 0 0) h L := cll_k.mpr C
  exact win_c (V := vK n (hS h) p 0 0 0 0) Oz z22 M.1.1.1 M.2 (cpa_k.mpr A) e2 e
/-- ended -/
noncomputable def anEnd (σ : Sy) (x1 : Int32) : Int := plE σ x1 (-102) (fun P => (enE (syL σ) P).1)
theorem ca_ended (k : DyK n h h) (Ok : SyOk σ) (R : RelC n h σ) (e : sX11_ended F h n x1 = some o) : CaO n h σ o (anEnd σ x1) := by
  unfold sX11_ended sX11_ended_26 at e
  obtain ⟨o1, e1, e⟩ := cl_s e
  obtain ⟨q1, c1⟩ := isp_c k R.2.1 e1
  rw [q1] at e
  unfold anEnd
  rcases c1 with ⟨d1, d2⟩ | ⟨d1, P, d2⟩
  · rw [so_e (bp_e d1 e), ple_n d2]
    exact cao_0 k R rfl rfl
  replace e := bn_e d1 e
  rw [ple_s d2]
  obtain ⟨_, _, b3, _⟩ := spl_b d2
  obtain ⟨r3, e3, e⟩ := cl_s e
  have y3 := dk_ed (a := 0) (b := 30) k (by decide +kernel) e3
  subst y3
  obtain ⟨r4, e4, e⟩ := cl_s e
  have y4 := dk_ed (a := 0) (b := 148) k (by decide +kernel) e4
  subst y4
  replace e := gg_e e
  obtain ⟨r6, e6, e⟩ := cl_s e
  have y6 := pl_at k b3 e6
  subst y6
  obtain ⟨o7, e7, e⟩ := cl_s e
  obtain ⟨own, O, _⟩ := k.1.1
  obtain ⟨f, k7, y⟩ := en_k k O (bk_pl O b3) (by omega) Ok.1.1 Ok.1.2.1 (spl_ok Ok d2) R.1 (cpl_p R.2.1 d2) e7
  rw [so_e e]
  exact cao_s k Ok R f k7 y
/-- result -/
noncomputable def anRes (σ : Sy) (x1 : Int32) : Int := plE σ x1 (-102) (fun P => if 0 < (enE (syL σ) P).1 then (enE (syL σ) P).2 else -1)
theorem ca_result (k : DyK n h h) (Ok : SyOk σ) (R : RelC n h σ) (e : sX11_result F h n x1 = some o) : CaO n h σ o (anRes σ x1) := by
  unfold sX11_result at e
  obtain ⟨o1, e1, e⟩ := cl_s e
  obtain ⟨q1, c1⟩ := isp_c k R.2.1 e1
  rw [q1] at e
  unfold anRes
  rcases c1 with ⟨d1, d2⟩ | ⟨d1, P, d2⟩
  · rw [so_e (bp_e d1 e), ple_n d2]
    exact cao_0 k R rfl rfl
  replace e := bn_e d1 e
  rw [ple_s d2]
  obtain ⟨_, _, b3, _⟩ := spl_b d2
  obtain ⟨r3, e3, e⟩ := cl_s e
  have y3 := dk_ed (a := 0) (b := 30) k (by decide +kernel) e3
  subst y3
  obtain ⟨r4, e4, e⟩ := cl_s e
  have y4 := dk_ed (a := 0) (b := 148) k (by decide +kernel) e4
  subst y4
  replace e := gg_e e
  obtain ⟨r6, e6, e⟩ := cl_s e
  have y6 := pl_at k b3 e6
  subst y6
  obtain ⟨r7, e7, e⟩ := cl_s e
  have y7 := dk_ed (a := 0) (b := 30) k (by decide +kernel) e7
  subst y7
  obtain ⟨r8, e8, e⟩ := cl_s e
  have y8 := dk_ed (a := 0) (b := 148) k (by decide +kernel) e8
  subst y8
  replace e := gg_e e
  obtain ⟨r10, e10, e⟩ := cl_s e
  have y10 := pl_at k b3 e10
  subst y10
  obtain ⟨o11, e11, e⟩ := cl_s e
  obtain ⟨own, O, _⟩ := k.1.1
  obtain ⟨f, k7, y⟩ := en_k k O (bk_pl O b3) (by omega) Ok.1.1 Ok.1.2.1 (spl_ok Ok d2) R.1 (cpl_p R.2.1 d2) e11
  have R' := relc_cs k Ok R f k7
  obtain ⟨o12, e12, e⟩ := cl_s e
  obtain ⟨w1, w2⟩ := win_k k7 Ok.1.2.2.2.1 (spl_ok Ok d2) R'.1 (cpl_p R'.2.1 d2) y e12
  rw [so_e e]
  exact cao_s k Ok R (by rw [w1]; exact f) (by rw [w1]; exact k7) w2
/-- the least free place -/
def frE (σ : Sy) : Nat → Int
  | 0 => -1
  | j + 1 => if syP σ (59 - j) = none then ((59 - j : Nat) : Int) else frE σ j
theorem fp_2 {g : Hp} (k : DyK n g h) (R : CPl n h σ) : ∀ (f : Nat) {x1 : Int32} {i : Nat}, x1.toInt = (i : Int) → i ≤ 60 → sX11_freePlace_2 F f h n x1 = some o → o.2 = h ∧ o.1.toInt = frE σ (60 - i) := by
  have z60 : (60 : Int32).toInt = 60 := rfl
  have z1 : (1 : Int32).toInt = 1 := rfl
  intro f
  induction f with
  | zero => intro x1 i _ _ e; exact absurd e (by rw [sX11_freePlace_2]; exact fun z => nomatch z)
  | succ f ih =>
    intro x1 i e1 l e
    rw [sX11_freePlace_2] at e
    rcases br_s e with ⟨c, e⟩ | ⟨c, e⟩
    · have := le_i c
      rw [so_e e, show 60 - i = 0 by omega]
      exact ⟨rfl, rfl⟩
    have c := nle_i c
    obtain ⟨r2, e2, e⟩ := cl_s e
    have y2 := dk_ed (a := 0) (b := 149) k (by decide +kernel) e2
    subst y2
    replace e := gg_e e
    have nc : x1.toNatClampNeg = i := by have := nc_i (x := x1) (by omega); omega
    rw [nc] at e
    rw [show 60 - i = (59 - i) + 1 by omega]
    show o.2 = h ∧ o.1.toInt = (if syP σ (59 - (59 - i)) = none then ((59 - (59 - i) : Nat) : Int) else frE σ (59 - i))
    rw [show 59 - (59 - i) = i by omega]
    rcases R i (by omega) with ⟨a, b⟩ | ⟨P, a, b, _⟩
    · rw [so_e (bp_e b e), if_pos a]
      exact ⟨rfl, e1⟩
    · replace e := nx_e (bn_e (by rw [b]; decide) e)
      rw [if_neg (by rw [a]; exact fun z => nomatch z)]
      have := ih (x1 := x1 + 1) (i := i + 1) (by rw [ta (by rw [z1]; omega), z1, e1]; omega) (by omega) e
      rw [show 60 - (i + 1) = 59 - i by omega] at this
      exact this
theorem fp_c {g : Hp} (k : DyK n g h) (R : CPl n h σ) (e : sX11_freePlace F h n = some o) : o.2 = h ∧ o.1.toInt = frE σ 60 := fp_2 k R F (i := 0) rfl (by decide) e
theorem fre_b : ∀ j, j ≤ 60 → frE σ j = -1 ∨ ∃ p : Nat, p < 60 ∧ frE σ j = (p : Int) ∧ syP σ p = none := by
  intro j
  induction j with
  | zero => intro _; exact Or.inl rfl
  | succ j ih =>
    intro l
    show (if syP σ (59 - j) = none then ((59 - j : Nat) : Int) else frE σ j) = -1 ∨ ∃ p : Nat, p < 60 ∧ (if syP σ (59 - j) = none then ((59 - j : Nat) : Int) else frE σ j) = (p : Int) ∧ syP σ p = none
    by_cases c : syP σ (59 - j) = none
    · rw [if_pos c]
      exact Or.inr ⟨59 - j, by omega, rfl, c⟩
    · rw [if_neg c]
      exact ih (by omega)
/-- a position comes to a place -/
def syPut (σ : Sy) (p : Nat) (P : Option Pz) : Sy := (syL σ, fun q => if q = p then P else syP σ q, syG σ, syQ σ, syMv σ, syF σ, syO σ)
theorem syput_o {p : Nat} {P : Option Pz} (Ok : SyOk σ) (h1 : ∀ Q, P = some Q → PzOk (syL σ) Q ∧ PzE (syL σ) Q) : SyOk (syPut σ p P) := ⟨Ok.1, fun q hq Q e => by
  have e : (if q = p then P else syP σ q) = some Q := e
  by_cases c : q = p
  · rw [if_pos c] at e; exact (h1 Q e).1
  · rw [if_neg c] at e; exact Ok.2.1 q hq Q e, Ok.2.2.1, Ok.2.2.2.1, Ok.2.2.2.2.1, fun q hq Q e => by
  have e : (if q = p then P else syP σ q) = some Q := e
  by_cases c : q = p
  · rw [if_pos c] at e; exact (h1 Q e).2
  · rw [if_neg c] at e; exact Ok.2.2.2.2.2.1 q hq Q e, Ok.2.2.2.2.2.2⟩
/-- a copy of a position: from src to dst -/
theorem cpy_k {src dst t1 t2 : Nat} {own : Nat → Nat} {ro : Int} {P : Pz} {g o : Hp} (k : DyK n g h) (O : OwS n h own) (b1 : BkE own h src 1 t1) (b2 : BkE own h dst 2 t2) (nt : ¬ t1 = t2 ∧ t1 < 20000 ∧ t2 < 20000) (A : CpA h src ro P) (T : ∀ q, q ∈ fsP → hR h dst q.1 = some (dst + q.2)) (e : sX3_copyFrom F h dst src = some o) : FrW (fun a _ => dst ≤ a ∧ a < dst + 6) h o ∧ DyK n g o ∧ CpA o dst ro P := by
  have D : VD (vK n (hS h) src dst (hS h + 1000 * 3) (hS h + 1000 * 9) (hS h + 1000 * 10)) := vd_k O b1 b2 (bke_o (c := 3)) (bke_o (c := 9)) (bke_o (c := 10)) (by omega)
  have kk := dk_X3_copyFrom k e
  obtain ⟨f, c, _⟩ := cp_c D (cpa_k.mpr A) ⟨T (0, 1) (by decide), T (1, 2) (by decide), T (2, 3) (by decide), T (3, 4) (by decide), T (4, 5) (by decide)⟩ e
  have k3 := dk_X3_copyFrom (dk_self k) e
  refine ⟨fw_v (sb := fun _ _ => false) (cs := [2]) f (hs_g k3.1) (by decide +kernel) (fun _ _ _ z => nomatch z) (fun c hc j i hj => ?_), kk, cpa_2.mp c⟩
  simp only [List.mem_cons, List.not_mem_nil, or_false] at hc
  subst hc
  have hj : j < 6 := hj
  exact ⟨by show dst ≤ dst + j; omega, by show dst + j < dst + 6; omega⟩
end
end
section
/-! calls of the class: go, drop -/
section
variable {n F : Nat} {h : Hp} {σ : Sy} {o : Int32 × Hp} {x1 x2 x3 : Int32}
theorem mk_k {p tp : Nat} {own : Nat → Nat} {L : Nat → Nat → Int} {P : Pz} {v : MvT} {x : Int32} {g o : Hp} (k : DyK n g h) (O : OwS n h own) (bp : BkE own h p 1 tp) (np : tp < 20000) (H : LOk L) (K : LawK L) (Oz : PzOk L P) (G : MvGd L P v) (M' : MvC x v) (C : ClL n h L) (A : CpA h p (L 10 0) P) (e : sX5_make F h (n + 30) p x = some o) : FrW (fun a _ => (p ≤ a ∧ a < p + 6) ∨ a = n + 38) h o ∧ DyK n g o ∧ CpA o p (L 10 0) (zAll L P v) := by
  have D : VD (vK n (hS h) p (hS h + 1000 * 2) (hS h + 1000 * 3) (hS h + 1000 * 9) (hS h + 1000 * 10)) := vd_k O bp (bke_o (c := 2)) (bke_o (c := 3)) (bke_o (c := 9)) (bke_o (c := 10)) (by omega)
  obtain ⟨f, c⟩ := mkc_c D H K Oz G M' (cll_k.mpr C) (cpa_k.mpr A) e
  have k3 := dk_X5_make (dk_self k) e
  refine ⟨fw_v (sb := fun j _ => Nat.beq j 38) (cs := [1]) f (hs_g k3.1) (by decide +kernel) (fun j f i z _ => ?_) (fun c hc j i hj => ?_), dk_X5_make k e, cpa_k.mp c⟩
  · have z := Nat.eq_of_beq_eq_true z
    right
    show n + j = n + 38
    omega
  · simp only [List.mem_cons, List.not_mem_nil, or_false] at hc
    subst hc
    have hj : j < 6 := hj
    left
    exact ⟨by show p ≤ p + j; omega, by show p + j < p + 6; omega⟩
/-- behind a write to one place only -/
theorem relc_pl {p : Nat} {h' : Hp} {P : Option Pz} {W : Nat → Nat → Prop} (k : DyK n h h) (Ok : SyOk σ) (R : RelC n h σ) (hp : p < 60) (F : FrW W h h') (k' : DyK n h h') (w : ∀ a i, W a i → CSc n a i ∨ (a = n + 149 ∧ i = p) ∨ (n + (153 + 6 * p) ≤ a ∧ a < n + (153 + 6 * p) + 6)) (N : CPi n h' (syPut σ p P) p) : RelC n h' (syPut σ p P) := by
  obtain ⟨R1, R2, R3, R4, R5⟩ := R
  obtain ⟨x1, x2, x3⟩ := relc_g k k' F (fun j i hj c => by
    have c := w _ _ c
    unfold CSc at c
    unfold cFt at hj
    omega) R1 R4 R5
  refine ⟨x1, fun q hq => ?_, fun g' hg => ?_, x2, x3⟩
  · by_cases z : q = p
    · rw [z]; exact N
    · have y := cpi_f k k' F hq (fun c => by
        have c := w _ _ c
        unfold CSc at c
        omega) (fun j i hj c => by
        have c := w _ _ c
        unfold CSc at c
        omega) (R2 q hq)
      have e : syP (syPut σ p P) q = syP σ q := if_neg z
      rcases y with ⟨a, b⟩ | ⟨Q, a, b, c⟩
      · exact Or.inl ⟨by rw [e]; exact a, b⟩
      · exact Or.inr ⟨Q, by rw [e]; exact a, b, c⟩
  · exact cgi_f k k' F hg (lgle Ok g' hg) (fun c => by
      have c := w _ _ c
      unfold CSc at c
      omega) (fun q hq c => by
      have c := w _ _ c
      unfold CSc at c
      omega) (fun q a hq e lo hi j f hj c => by
      have c := w _ _ c
      unfold CSc at c
      omega) (R3 g' hg)
/-- go -/
noncomputable def anGo (σ : Sy) (x1 x2 : Int32) : Int := match mvI σ x1 x2 with
  | none => -102
  | some _ => if frE σ 60 = -1 then -104 else frE σ 60
noncomputable def syGo (σ : Sy) (x1 x2 : Int32) : Sy := match sPl σ x1 with
  | none => σ
  | some P => match mvI σ x1 x2 with
    | none => σ
    | some v => if frE σ 60 = -1 then σ else syPut σ (frE σ 60).toNat (some (zAll (syL σ) P v))
theorem nar_1 : vp_nar .boolean (1 : Int32) = 1 := rfl
theorem nar_0 : vp_nar .boolean (0 : Int32) = 0 := rfl
theorem ca_go (k : DyK n h h) (Ok : SyOk σ) (R : RelC n h σ) (e : sX11_go F h n x1 x2 = some o) : CaO n h (syGo σ x1 x2) o (anGo σ x1 x2) := by
  have z0 : (0 : Int32).toInt = 0 := rfl
  have zm : (-1 : Int32).toInt = -1 := rfl
  unfold sX11_go sX11_go_13 at e
  unfold anGo
  have syn : mvI σ x1 x2 = none → syGo σ x1 x2 = σ := fun z => by
    unfold syGo
    rw [z]
    cases sPl σ x1 <;> rfl
  rcases br_s e with ⟨c3, e⟩ | ⟨c3, e⟩
  · have := lt_i c3
    have q : mvI σ x1 x2 = none := mvi_l (by omega)
    rw [so_e e, q, syn q]
    exact cao_0 k R rfl rfl
  have c3 := nlt_i c3
  have nc := nc_i (x := x2) (by omega)
  obtain ⟨o2, e2, e⟩ := cl_s e
  rcases lm_c' k Ok R e2 with ⟨z, y1, y2⟩ | ⟨P, z, f, k2, m, y⟩
  · rw [y2, y1] at e
    rcases br_s e with ⟨c4, e⟩ | ⟨c4, e⟩
    · have := lt_i c4
      omega
    · have q : mvI σ x1 x2 = none := mvi_n z
      rw [so_e e, q, syn q]
      exact cao_0 k R rfl rfl
  have R2 := relc_cs k Ok R f k2
  rcases br_s e with ⟨c4, e⟩ | ⟨c4, e⟩
  rotate_left
  · have := nlt_i c4
    have q : mvI σ x1 x2 = none := by rw [mvi_s z (by omega)]; exact List.getElem?_eq_none (by omega)
    rw [so_e e, q, syn q]
    exact cao_s k Ok R f k2 rfl
  have c4 := lt_i c4
  obtain ⟨v, ev, mv⟩ := m x2.toNatClampNeg (by omega)
  have q : mvI σ x1 x2 = some v := by rw [mvi_s z (by omega)]; exact ev
  rw [q]
  have Oz := spl_ok Ok z
  have G := lg_gd Ok.1.1 Ok.1.2.1 Oz ev
  obtain ⟨_, _, b3, spe⟩ := spl_b z
  obtain ⟨o4, e4, e⟩ := cl_s e
  obtain ⟨p1, p2⟩ := fp_c k2 R2.2.1 e4
  rw [p1] at e
  have yes : syGo σ x1 x2 = if frE σ 60 = -1 then σ else syPut σ (frE σ 60).toNat (some (zAll (syL σ) P v)) := by
    unfold syGo
    rw [z, q]
  rw [yes]
  show CaO n h _ o (if frE σ 60 = -1 then -104 else frE σ 60)
  rcases br_s e with ⟨c5, e⟩ | ⟨c5, e⟩
  · have c5 : o4.1.toInt = -1 := by rw [c5]; rfl
    rw [so_e e, if_pos (by omega), if_pos (by omega)]
    exact cao_s k Ok R f k2 rfl
  have c5 := ne_i c5
  rw [zm] at c5
  rw [if_neg (by omega), if_neg (by omega)]
  rcases fre_b (σ := σ) 60 (by decide) with w | ⟨p, hp, w, wn⟩
  · omega
  have np : o4.1.toNatClampNeg = p := by have := nc_i (x := o4.1) (by omega); omega
  rw [w, show (p : Int).toNat = p by omega]
  have pne : ¬ p = x1.toNatClampNeg := fun u => by rw [u, spe] at wn; exact nomatch wn
  obtain ⟨r6, e6, e⟩ := cl_s e
  have y6 := dk_ed (a := 0) (b := 148) k2 (by decide +kernel) e6
  subst y6
  replace e := gg_e e
  obtain ⟨r8, e8, e⟩ := cl_s e
  have y8 := pl_at k2 b3 e8
  subst y8
  obtain ⟨o9, e9, e⟩ := cl_s e
  -- settle
  unfold sX11_settle at e9
  obtain ⟨s1, f1, e9⟩ := cl_s e9
  have g1 := dk_ed (a := 0) (b := 149) k2 (by decide +kernel) f1
  subst g1
  replace e9 := gg_e e9
  obtain ⟨h3, w3, e9⟩ := nm_s e9
  rw [np, nar_1] at w3
  have k3 : DyK n h h3 := by rw [w3]; exact dk_wI k2
  have k33 : DyK n o2.2 h3 := by rw [w3]; exact dk_wI (dk_self k2)
  obtain ⟨s4, f4, e9⟩ := cl_s e9
  have g4 := dk_ed (a := 0) (b := 148) k3 (by decide +kernel) f4
  subst g4
  replace e9 := gg_e e9
  rw [np] at e9
  obtain ⟨s6, f6, e9⟩ := cl_s e9
  have g6 := pl_at k3 hp f6
  subst g6
  obtain ⟨o7, f7, e9⟩ := cl_s e9
  have F3 : FrW (fun a i => a = n + 149 ∧ i = p) o2.2 h3 := ⟨by rw [w3]; exact Nat.le_refl _, fun a i l nw => by rw [w3]; exact ⟨by rw [r_I, if_neg nw], rfl⟩⟩
  have A2 := cpl_p R2.2.1 z
  have s6 := dk_610 k2
  have A3 : CpA h3 (n + (153 + 6 * x1.toNatClampNeg)) (syL σ 10 0) P := cpa_f A2 (pl_R k3 b3) (fun j i hj => F3.2 _ _ (by omega) (fun u => by omega))
  have C3 : ClL n h3 (syL σ) := cll_f k2 k33 (fun j i hj => F3.2 _ _ (by omega) (fun u => by omega)) R2.1
  obtain ⟨own, O, _⟩ := k3.1.1
  have bd : BkE own h3 (n + (153 + 6 * p)) 2 (30 + p) := bk_12 (bk_pl O hp) (by omega)
  obtain ⟨F7, k7, A7⟩ := cpy_k k3 O (bk_pl O b3) bd (by omega) A3 (pl_R k3 hp) f7
  have k77 := dk_X3_copyFrom (dk_self k3) f7
  have C7 : ClL n o7 (syL σ) := cll_f k3 k77 (fun j i hj => F7.2 _ _ (by have := dk_610 k3; omega) (fun u => by omega)) C3
  have e9 := so_e e9
  subst e9
  -- make
  obtain ⟨r10, e10, e⟩ := cl_s e
  have y10 := dk_ed (a := 0) (b := 30) k7 (by decide +kernel) e10
  subst y10
  obtain ⟨r11, e11, e⟩ := cl_s e
  have y11 := dk_ed (a := 0) (b := 148) k7 (by decide +kernel) e11
  subst y11
  replace e := gg_e e
  rw [np] at e
  obtain ⟨r13, e13, e⟩ := cl_s e
  have y13 := pl_at k7 hp e13
  subst y13
  obtain ⟨r14, e14, e⟩ := cl_s e
  have y14 := dk_ed (a := 0) (b := 147) k7 (by decide +kernel) e14
  subst y14
  replace e := gg_e e
  obtain ⟨o16, e16, e⟩ := cl_s e
  obtain ⟨own7, O7, _⟩ := k7.1.1
  have ml : hI o9 (n + 147) x2.toNatClampNeg = hI o2.2 (n + 147) x2.toNatClampNeg := by
    rw [(F7.2 (n + 147) x2.toNatClampNeg (by have := dk_610 k3; omega) (fun u => by omega)).1, (F3.2 (n + 147) x2.toNatClampNeg (by omega) (fun u => by omega)).1]
  obtain ⟨F16, k16, A16⟩ := mk_k k7 O7 (bk_pl O7 hp) (by omega) Ok.1.1 Ok.1.2.1 Oz G (by rw [ml]; exact mv) C7 A7 e16
  rw [so_e e]
  have FF : FrW (fun a i => CSc n a i ∨ (a = n + 149 ∧ i = p) ∨ (n + (153 + 6 * p) ≤ a ∧ a < n + (153 + 6 * p) + 6)) h o16 := fw_t (fw_s f (fun a i c => Or.inl c)) (fw_t (fw_s F3 (fun a i c => Or.inr (Or.inl c))) (fw_t (fw_s F7 (fun a i c => Or.inr (Or.inr c))) (fw_s F16 (fun a i c => by
    rcases c with c | c
    · exact Or.inr (Or.inr c)
    · exact Or.inl (Or.inl ⟨by omega, by omega⟩)))))
  have k16' : DyK n h o16 := k16
  have u1 : hI o16 (n + 149) p = 1 := by
    rw [(F16.2 (n + 149) p (by have := dk_610 k7; omega) (fun u => by omega)).1, (F7.2 (n + 149) p (by have := dk_610 k3; omega) (fun u => by omega)).1, w3, r_I, if_pos ⟨rfl, rfl⟩]
  refine ⟨by show o4.1.toInt = (p : Int); omega, relc_pl k Ok R hp FF k16' (fun _ _ c => c) (Or.inr ⟨zAll (syL σ) P v, if_pos rfl, u1, A16⟩), k16', frc_w k FF (fun a i c _ => ?_)⟩
  rcases c with c | c | c
  · exact Or.inl (cs_c c)
  · exact Or.inl (by omega)
  · exact Or.inl (by omega)
end
end
section
/-! calls of the reference that look -/
/-- a call of the reference -/
def RaO (n j : Nat) (h : Hp) (σ' : Sy) (o : Int32 × Hp) (a : Int) : Prop := o.1.toInt = a ∧ RelR n j o.2 σ' ∧ DyK n h o.2 ∧ FrR n h o.2
def RlA (h : Hp) (v : Nat) (ms : List MvT) : Prop := RLs (fun k => v + kof k) h ms
def rwA (h : Hp) (v i : Nat) : MvT := rowM (fun k => v + kof k) h i
section
variable {n j F : Nat} {h : Hp} {σ : Sy} {o : Int32 × Hp} {x1 x2 x3 : Int32}
theorem rla_m {s p q r v w : Nat} {ms : List MvT} : RLs (vM n s p q r v w) h ms ↔ RlA h v ms := by
  unfold RlA RLs rowM
  exact Iff.rfl
theorem rs_c {a i : Nat} (c : RS n a i) : (a = n + 513 ∧ ¬ (i = 1 ∨ i = 49 ∨ i = 50 ∨ i = 59 ∨ (64 ≤ i ∧ i ≤ 68) ∨ i = 70)) ∨ (n + 515 ≤ a ∧ a < n + 592) ∨ (n + 602 ≤ a ∧ a < n + 607) := by
  unfold RS at c
  omega
theorem rao_0 {a : Int} (k : DyK n h h) (R : RelR n j h σ) (e : o.2 = h) (ea : o.1.toInt = a) : RaO n j h σ o a := ⟨ea, by rw [e]; exact R, by rw [e]; exact k, by rw [e]; exact frr_0⟩
theorem relr_rs {h' : Hp} (k : DyK n h h) (Ok : SyOk σ) (R : RelR n j h σ) (F : FrW (RS n) h h') (k' : DyK n h h') : RelR n j h' σ := relr_f k k' F (fun j i hj c => by
    unfold RS at c
    rcases hj with hj | hj
    · unfold rFt at hj; omega
    · omega) (fun q hq h5 i a hi e lo hi' j f hj c => by unfold RS at c; omega) (lgle Ok) R
theorem rao_s {a : Int} (k : DyK n h h) (Ok : SyOk σ) (R : RelR n j h σ) (F : FrW (RS n) h o.2) (k' : DyK n h o.2) (ea : o.1.toInt = a) : RaO n j h σ o a := ⟨ea, relr_rs k Ok R F k', k', frr_w k F (fun a i c _ => Or.inl (rs_c c))⟩
theorem rpl_p {P : Pz} (R : RPl n h σ) (e : sPl σ x1 = some P) : ∃ a, hR h (n + 536) x1.toNatClampNeg = some a ∧ RbA h a P := by
  obtain ⟨_, _, c, d⟩ := spl_b e
  rcases R _ c with ⟨a, _⟩ | ⟨Q, b, a, _, p3, p4⟩
  · rw [a] at d; exact nomatch d
  · rw [a] at d
    rw [← Option.some.inj d]
    exact ⟨b, p3, p4⟩
theorem has_r {g : Hp} (k : DyK n g h) (R : RPl n h σ) (e : sX15_has h (n + 513) x1 = some o) : o.2 = h ∧ ((o.1 = 0 ∧ sPl σ x1 = none) ∨ (¬ o.1 = 0 ∧ ∃ P, sPl σ x1 = some P)) := by
  have z0 : (0 : Int32).toInt = 0 := rfl
  have z60 : (60 : Int32).toInt = 60 := rfl
  unfold sX15_has sX15_has_23 sX15_has_24 at e
  rcases br_s e with ⟨c, e⟩ | ⟨c, e⟩
  · rw [so_e (gg_e e)]
    have := lt_i c
    exact ⟨rfl, Or.inl ⟨rfl, if_neg (by omega)⟩⟩
  have c := nlt_i c
  rcases br_s e with ⟨c2, e⟩ | ⟨c2, e⟩
  · rw [so_e (gg_e e)]
    have := le_i c2
    exact ⟨rfl, Or.inl ⟨rfl, if_neg (by omega)⟩⟩
  have c2 := nle_i c2
  obtain ⟨r3, e3, e⟩ := cl_s e
  have y3 := dk_ed (a := 513) (b := 537) k (by decide +kernel) e3
  subst y3
  replace e := gg_e e
  have nc := nc_i (x := x1) (by omega)
  have sp : sPl σ x1 = syP σ x1.toNatClampNeg := if_pos ⟨by omega, by omega⟩
  rcases R x1.toNatClampNeg (by omega) with ⟨a, b⟩ | ⟨P, _, a, b, _⟩
  · rw [so_e (gg_e (bp_e (by rw [b]; exact Int32.le_refl _) e))]
    exact ⟨rfl, Or.inl ⟨rfl, by rw [sp]; exact a⟩⟩
  · rw [so_e (gg_e (bn_e (fun z => by have := le_i z; omega) e))]
    exact ⟨rfl, Or.inr ⟨by show ¬ (1 : Int32) = 0; decide, P, by rw [sp]; exact a⟩⟩
theorem squ_r (R : RLw n h (syL σ)) : (hI h (n + 513) 13).toInt = syL σ 0 0 * syL σ 1 0 ∧ (hI h (n + 513) 11).toInt = syL σ 0 0 ∧ (hI h (n + 513) 12).toInt = syL σ 1 0 := by
  obtain ⟨w, _, _, _, C⟩ := R
  exact ⟨C.2.2.2.2, C.2.2.1, C.2.2.2.1⟩
/-- at -/
theorem ra_at (k : DyK n h h) (Ok : SyOk σ) (R : RelR n j h σ) (e : sX15_at h (n + 513) x1 x2 = some o) : RaO n j h σ o (anAt σ x1 x2) := by
  have z0 : (0 : Int32).toInt = 0 := rfl
  have z1 : (1 : Int32).toInt = 1 := rfl
  have sq := (squ_r R.1).1
  unfold sX15_at sX15_at_12 sX15_at_61 at e
  unfold anAt
  rcases br_s e with ⟨c, e⟩ | ⟨c, e⟩
  · have := lt_i c
    rw [so_e e, prb_f.mpr (fun z => by unfold sqI at z; omega), if_neg (by decide)]
    exact rao_0 k R rfl rfl
  have c := nlt_i c
  rcases br_s e with ⟨c2, e⟩ | ⟨c2, e⟩
  rotate_left
  · have := nlt_i c2
    rw [so_e e, prb_f.mpr (fun z => by unfold sqI at z; omega), if_neg (by decide)]
    exact rao_0 k R rfl rfl
  have c2 := lt_i c2
  rw [prb_e.mpr (show sqI σ x2 from ⟨by omega, by omega⟩), if_pos rfl]
  obtain ⟨o3, e3, e⟩ := cl_s e
  obtain ⟨q3, c3⟩ := has_r k R.2.1 e3
  rw [q3] at e
  rcases c3 with ⟨d3, d4⟩ | ⟨d3, P, d4⟩
  · rw [so_e (bp_e d3 e), ple_n d4]
    exact rao_0 k R rfl rfl
  replace e := bn_e d3 e
  rw [ple_s d4]
  obtain ⟨_, _, b3, _⟩ := spl_b d4
  obtain ⟨b, eb, A⟩ := rpl_p R.2.1 d4
  have s64 := (sq_64 Ok.1.1).2
  have nc := nc_i (x := x2) (by omega)
  have Av := A.2.1 x2.toNatClampNeg (by omega)
  have Av : (hI h (b + 1) x2.toNatClampNeg).toInt = P.1 x2.toNatClampNeg := Av
  have rg := (spl_ok Ok d4).1 x2.toNatClampNeg (by omega)
  have L12 := Ok.1.1.2.2.1
  obtain ⟨r5, e5, e⟩ := cl_s e
  have y5 := dk_ed (a := 513) (b := 536) k (by decide +kernel) e5
  subst y5
  replace e := gg_e e
  replace e := ce_e eb e
  replace e := ce_e A.1.1 e
  replace e := gg_e e
  rcases br_s e with ⟨c6, e⟩ | ⟨c6, e⟩
  · rw [so_e e]
    have c6 : (hI h (b + 1) x2.toNatClampNeg).toInt = 0 := by
      have : hI h (b + 1) x2.toNatClampNeg = 0 := c6
      rw [this]; rfl
    exact rao_0 k R rfl (by rw [← Av, c6]; rfl)
  · obtain ⟨r11, e11, e⟩ := cl_s e
    have y11 := dk_ed (a := 513) (b := 536) k (by decide +kernel) e11
    subst y11
    replace e := gg_e e
    replace e := ce_e eb e
    replace e := ce_e A.1.1 e
    replace e := gg_e e
    rw [so_e e]
    exact rao_0 k R rfl (by
      show (hI h (b + 1) x2.toNatClampNeg - 1).toInt = _
      rw [ts (by rw [z1, Av]; omega), z1, Av])
/-- boards as things -/
theorem bke_b {own : Nat → Nat} {q : Nat × Nat × Nat × Nat × List (Nat × Nat)} {i a : Nat} (D : DnS n h own) (hq : q ∈ fam) (w5 : q.2.2.1 = 5) (t2 : q.2.2.2.1 + q.2.1 < 20000 ∧ 0 < q.2.2.2.1) (hi : i < q.2.1) (e : hR h (n + q.1) i = some a) : BkE own h a 4 (q.2.2.2.1 + i) := by
  obtain ⟨_, a2, _⟩ := bk_dy D hq hi e
  rw [w5] at a2
  exact Or.inl ⟨a2, by omega, by omega⟩
theorem bke_p {own : Nat → Nat} {i a : Nat} (D : DnS n h own) (hi : i < 60) (e : hR h (n + 536) i = some a) : BkE own h a 4 (4000 + i) := bke_b (q := (536, 60, 5, 4000, fsB)) D (by decide) rfl (by decide) hi e
theorem bk_beh {own : Nat → Nat} (O : OwS n h own) : BkE own h (n + 547) 5 103 := Or.inl ⟨bk_st O (by decide) (by decide), by decide, by decide⟩
theorem bk_made {own : Nat → Nat} (O : OwS n h own) : BkE own h (n + 568) 4 104 := Or.inl ⟨bk_st O (by decide) (by decide), by decide, by decide⟩
theorem bk_ml {own : Nat → Nat} (O : OwS n h own) : BkE own h (n + 552) 7 108 := Or.inl ⟨bk_st O (by decide) (by decide), by decide, by decide⟩
theorem bk_mo {own : Nat → Nat} (O : OwS n h own) : BkE own h (n + 560) 7 109 := Or.inl ⟨bk_st O (by decide) (by decide), by decide, by decide⟩
theorem bk_lw {own : Nat → Nat} {w : Nat} (O : OwS n h own) (hw : w = 516 ∨ w = 526) : BkE own h (n + w) 8 (if w = 516 then 100 else 101) := by
  rcases hw with z | z <;> subst z
  · exact Or.inl ⟨bk_st O (by decide) (by decide), by decide, by decide⟩
  · exact Or.inl ⟨bk_st O (by decide) (by decide), by decide, by decide⟩
/-- attacked -/
theorem att_m {b t w : Nat} {own : Nat → Nat} {L : Nat → Nat → Int} {P : Pz} {g : Hp} (k : DyK n g h) (O : OwS n h own) (hw : w = 516 ∨ w = 526) (bb : BkE own h b 4 t) (nt : 200 ≤ t ∧ t < 20000) (H : LOk L) (HM : MOk L P.1) (C : RfL n h (n + w) L) (A : RbA h b P) (q0 : 0 ≤ x2.toInt) (d3 : Rg 0 1 x3) (e : sX15_isAttacked F h (n + 513) b x2 x3 = some o) : FrW (RS n) h o.2 ∧ DyK n g o.2 ∧ ((o.1 = 0 ∧ ¬ AttP L P.1 x3.toInt x2.toNatClampNeg) ∨ (o.1 = 1 ∧ AttP L P.1 x3.toInt x2.toNatClampNeg)) := by
  have D : VD (vM n (hS h) b (hS h + 1000 * 5) (hS h + 1000 * 6) (hS h + 1000 * 7) (n + w)) := vd_m O bb (bke_o (c := 5)) (bke_o (c := 6)) (bke_o (c := 7)) (bk_lw O hw) (by split <;> omega)
  have W0 : RW0 (vM n (hS h) b (hS h + 1000 * 5) (hS h + 1000 * 6) (hS h + 1000 * 7) (n + w)) h L := rfl_m.mpr C
  obtain ⟨f, c⟩ := att_r D H HM q0 d3 (rwd_b W0 (rba_m.mpr A)) e
  have k3 := dk_X15_isAttacked (dk_self k) e
  exact ⟨fw_v (W := RS n) (sb := rsB) (cs := []) f (hs_g k3.1) (by decide +kernel) (fun j f i z y => rsb_c z y) (fun c hc => absurd hc (List.not_mem_nil)), dk_X15_isAttacked k e, c⟩
theorem ra_hit (k : DyK n h h) (Ok : SyOk σ) (R : RelR n j h σ) (e : sX15_attacked F h (n + 513) x1 x2 x3 = some o) : RaO n j h σ o (anHit σ x1 x2 x3) := by
  have z0 : (0 : Int32).toInt = 0 := rfl
  have z1 : (1 : Int32).toInt = 1 := rfl
  have sq := (squ_r R.1).1
  unfold sX15_attacked sX15_attacked_21 sX15_attacked_57 at e
  unfold anHit
  have no : ¬ (sqI σ x2 ∧ sdI x3) → ∀ {o : Int32 × Hp}, o = ((-101 : Int32), h) → RaO n j h σ o (if prB' (sqI σ x2 ∧ sdI x3) = true then plE σ x1 (-102) (fun P => if prB' (AttP (syL σ) P.1 x3.toInt x2.toNatClampNeg) = true then 1 else 0) else -101) := fun u {o} v => by
    rw [v, prb_f.mpr u, if_neg (by decide)]
    exact rao_0 k R rfl rfl
  rcases br_s e with ⟨c, e⟩ | ⟨c, e⟩
  · have := lt_i c
    exact no (fun z => by have := z.1; unfold sqI at this; omega) (so_e e)
  have c := nlt_i c
  rcases br_s e with ⟨c2, e⟩ | ⟨c2, e⟩
  · have := le_i c2
    exact no (fun z => by have := z.1; unfold sqI at this; omega) (so_e e)
  have c2 := nle_i c2
  rcases br_s e with ⟨c3, e⟩ | ⟨c3, e⟩
  · have := lt_i c3
    exact no (fun z => by
      rcases z.2 with y | y <;> (rw [y] at this; exact absurd this (by decide))) (so_e e)
  have c3 := nlt_i c3
  rcases br_s e with ⟨c4, e⟩ | ⟨c4, e⟩
  rotate_left
  · have := nle_i c4
    exact no (fun z => by
      rcases z.2 with y | y <;> (rw [y] at this; exact absurd this (by decide))) (so_e e)
  have c4 := le_i c4
  have d3 : sdI x3 := by
    have : x3.toInt = 0 ∨ x3.toInt = 1 := by omega
    rcases this with y | y
    · exact Or.inl (Int32.toInt_inj.mp (y.trans z0.symm))
    · exact Or.inr (Int32.toInt_inj.mp (y.trans z1.symm))
  have d2 : sqI σ x2 := ⟨by omega, by omega⟩
  rw [prb_e.mpr ⟨d2, d3⟩, if_pos rfl]
  obtain ⟨o3, e3, e⟩ := cl_s e
  obtain ⟨q3, c3⟩ := has_r k R.2.1 e3
  rw [q3] at e
  rcases c3 with ⟨d5, d6⟩ | ⟨d5, P, d6⟩
  · rw [so_e (bp_e d5 e), ple_n d6]
    exact rao_0 k R rfl rfl
  replace e := bn_e d5 e
  rw [ple_s d6]
  obtain ⟨_, _, b3, _⟩ := spl_b d6
  obtain ⟨b, eb, A⟩ := rpl_p R.2.1 d6
  obtain ⟨r7, e7, e⟩ := cl_s e
  have y7 := dk_ed (a := 513) (b := 536) k (by decide +kernel) e7
  subst y7
  replace e := gg_e e
  replace e := ce_e eb e
  obtain ⟨o10, e10, e⟩ := cl_s e
  obtain ⟨own, Dw⟩ := k.1.1
  obtain ⟨w, hw, _, _, C⟩ := R.1
  obtain ⟨f, k', c10⟩ := att_m k Dw.1 hw (bke_p Dw b3 eb) (by omega) Ok.1.1 (spl_ok Ok d6).1 C A d2.1 (sdi_r d3) e10
  rcases c10 with ⟨d7, d8⟩ | ⟨d7, d8⟩
  · rw [so_e (bp_e d7 e)]
    exact rao_s k Ok R f k' (by rw [prb_f.mpr d8, if_neg (by decide)]; rfl)
  · rw [so_e (bn_e (by rw [d7]; decide) e)]
    exact rao_s k Ok R f k' (by rw [prb_e.mpr d8, if_pos rfl]; rfl)
/-- legal moves of a board at b, in a list at v -/
theorem lgw_m {b s r v w : Nat} {L : Nat → Nat → Int} {P : Pz} {g : Hp} (k : DyK n g h) (C : RfL n h w L) (A : RbA h b P) (T : ∀ p, p ∈ fsM → hR h v p.1 = some (v + p.2)) : LgW (vM n s b (n + 547) r v w) h L P := by
  have W0 : RW0 (vM n s b (n + 547) r v w) h L := rfl_m.mpr C
  refine ⟨W0, ⟨T (1, 1) (by decide), T (2, 2) (by decide), T (3, 3) (by decide), T (4, 4) (by decide), T (5, 5) (by decide), T (6, 6) (by decide), T (7, 7) (by decide)⟩, rba_m.mpr A, ⟨dk_e (a := 547) (f := 0) (b := 548) k (by decide +kernel), dk_e (a := 547) (f := 4) (b := 549) k (by decide +kernel), dk_e (a := 547) (f := 5) (b := 550) k (by decide +kernel), dk_e (a := 547) (f := 6) (b := 551) k (by decide +kernel)⟩, dk_e (a := 513) (f := 28) (b := 547) k (by decide +kernel), dk_e (a := 513) (f := 25) (b := 544) k (by decide +kernel), dk_e (a := 513) (f := 26) (b := 545) k (by decide +kernel), dk_e (a := 513) (f := 27) (b := 546) k (by decide +kernel)⟩
theorem leg_m {b t v tv w : Nat} {own : Nat → Nat} {L : Nat → Nat → Int} {P : Pz} {g o : Hp} (k : DyK n g h) (O : OwS n h own) (hw : w = 516 ∨ w = 526) (bb : BkE own h b 4 t) (bv : BkE own h v 7 tv) (nt : 104 ≤ t ∧ t < 20000 ∧ 108 ≤ tv ∧ tv < 20000 ∧ ¬ t = tv) (H : LOk L) (K : LawK L) (Oz : PzOk L P) (C : RfL n h (n + w) L) (A : RbA h b P) (T : ∀ p, p ∈ fsM → hR h v p.1 = some (v + p.2)) (e : sX15_legal F h (n + 513) b v = some o) : FrW (fun a i => RS n a i ∨ (v ≤ a ∧ a < v + 8)) h o ∧ DyK n g o ∧ RlA o v (lgL L P) := by
  have D : VD (vM n (hS h) b (n + 547) (hS h + 1000 * 6) v (n + w)) := vd_m O bb (bk_beh O) (bke_o (c := 6)) bv (bk_lw O hw) (by split <;> omega)
  obtain ⟨f, c⟩ := lg_r D H K Oz (lgw_m k C A T) e
  have k3 := dk_X15_legal (dk_self k) e
  refine ⟨fw_v (sb := rsB) (cs := [5, 7]) f (hs_g k3.1) (by decide +kernel) (fun j f i z y => Or.inl (rsb_c z y)) (fun c hc j i hj => ?_), dk_X15_legal k e, rla_m.mp c⟩
  simp only [List.mem_cons, List.not_mem_nil, or_false] at hc
  rcases hc with z | z <;> subst z
  · have hj : j < 5 := hj
    exact Or.inl (Or.inr (Or.inl ⟨by show n + 543 ≤ n + 547 + j; omega, by show n + 547 + j ≤ n + 572; omega⟩))
  · have hj : j < 8 := hj
    exact Or.inr ⟨by show v ≤ v + j; omega, by show v + j < v + 8; omega⟩
theorem lst_T {g : Hp} (k : DyK n g h) : ∀ p, p ∈ fsM → hR h (n + 552) p.1 = some (n + 552 + p.2) := fun p hp => by
  have : ∀ q, q ∈ fsM → (552, q.1, 552 + q.2) ∈ edL := by decide +kernel
  have := dk_e k (this p hp)
  rw [show n + (552 + p.2) = n + 552 + p.2 by omega] at this
  exact this
theorem oth_T {g : Hp} (k : DyK n g h) : ∀ p, p ∈ fsM → hR h (n + 560) p.1 = some (n + 560 + p.2) := fun p hp => by
  have : ∀ q, q ∈ fsM → (560, q.1, 560 + q.2) ∈ edL := by decide +kernel
  have := dk_e k (this p hp)
  rw [show n + (560 + p.2) = n + 560 + p.2 by omega] at this
  exact this
/-- moves -/
theorem mvs_r (k : DyK n h h) (Ok : SyOk σ) (R : RelR n j h σ) (e : sX15_moves F h (n + 513) x1 = some o) : (sPl σ x1 = none ∧ o = ((-102 : Int32), h)) ∨ ∃ P, sPl σ x1 = some P ∧ FrW (RS n) h o.2 ∧ DyK n h o.2 ∧ RlA o.2 (n + 552) (lgL (syL σ) P) ∧ o.1.toInt = ((lgL (syL σ) P).length : Int) := by
  unfold sX15_moves at e
  obtain ⟨o1, e1, e⟩ := cl_s e
  obtain ⟨q1, c1⟩ := has_r k R.2.1 e1
  rw [q1] at e
  rcases c1 with ⟨d1, d2⟩ | ⟨d1, P, d2⟩
  · exact Or.inl ⟨d2, so_e (bp_e d1 e)⟩
  replace e := bn_e d1 e
  obtain ⟨_, _, b3, _⟩ := spl_b d2
  obtain ⟨b, eb, A⟩ := rpl_p R.2.1 d2
  obtain ⟨r3, e3, e⟩ := cl_s e
  have y3 := dk_ed (a := 513) (b := 536) k (by decide +kernel) e3
  subst y3
  replace e := gg_e e
  replace e := ce_e eb e
  obtain ⟨r6, e6, e⟩ := cl_s e
  have y6 := dk_ed (a := 513) (b := 552) k (by decide +kernel) e6
  subst y6
  obtain ⟨o7, e7, e⟩ := cl_s e
  obtain ⟨own, Dw⟩ := k.1.1
  obtain ⟨w, hw, _, _, C⟩ := R.1
  obtain ⟨f, k7, m⟩ := leg_m k Dw.1 hw (bke_p Dw b3 eb) (bk_ml Dw.1) (by omega) Ok.1.1 Ok.1.2.1 (spl_ok Ok d2) C A (lst_T k) e7
  obtain ⟨r8, e8, e⟩ := cl_s e
  have y8 := dk_ed (a := 513) (b := 552) k7 (by decide +kernel) e8
  subst y8
  rw [so_e e]
  exact Or.inr ⟨P, d2, fw_s f (fun a i c => by
    rcases c with c | c
    · exact c
    · exact Or.inr (Or.inl ⟨by omega, by omega⟩)), k7, m, m.1⟩
theorem ra_moves (k : DyK n h h) (Ok : SyOk σ) (R : RelR n j h σ) (e : sX15_moves F h (n + 513) x1 = some o) : RaO n j h σ o (anMvs σ x1) := by
  unfold anMvs
  rcases mvs_r k Ok R e with ⟨z, y⟩ | ⟨P, z, f, k', _, y⟩
  · rw [y, ple_n z]
    exact rao_0 k R rfl rfl
  · rw [ple_s z]
    exact rao_s k Ok R f k' y
end
end
