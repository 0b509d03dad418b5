section
/-! positions and moves as they must be -/
/-- what the RULES keep to, beside LOk -/
def LawK (L : Nat → Nat → Int) : Prop := (∀ m : Nat, m < 12 → (0 ≤ L 81 m ∧ L 81 m ≤ 6) ∧ ∀ q : Nat, (q : Int) < L 81 m → (0 ≤ L 80 (6 * m + q) ∧ L 80 (6 * m + q) < L 2 0) ∧ ¬ L 80 (6 * m + q) = L 10 0) ∧ (-1 ≤ L 10 0 ∧ L 10 0 < L 2 0) ∧ (-1 ≤ L 12 0 ∧ L 12 0 < L 2 0 ∧ (0 ≤ L 12 0 → 0 ≤ L 10 0 ∧ ¬ L 12 0 = L 10 0)) ∧ (∀ m i : Nat, (m : Int) < L 2 0 → (i : Int) < L 74 m → ¬ (fbt (L 75 (8 * m + i)) 3 = true ∧ fbt (L 75 (8 * m + i)) 4 = true)) ∧ (0 ≤ L 10 0 → L 81 (L 10 0).toNat = 0)
theorem lawk_b {L : Nat → Nat → Int} (K : LawK L) : lwBk L := fun m hm => (K.1 m hm).1
def ovP (P : Pz) (t : Nat) : Prop := ∃ i, 1 ≤ i ∧ i < pzN P ∧ pzQ P i = t
def rtP (P : Pz) (q : Nat) : Prop := pzR P q = true
def hdP (P : Pz) (m : Nat) : Int := pzH P (2 * m + pzS P)
/-- a position in use -/
def PzOk (L : Nat → Nat → Int) (P : Pz) : Prop := MOk L P.1 ∧ UnM P.1 (L 10 0) ∧ pzS P < 2 ∧ (∀ q, q < 64 → pzR P q = true → 0 ≤ L 12 0 ∧ ∃ d : Nat, d < 2 ∧ P.1 q = cdV (L 12 0) d ∧ rkF L q d = 1) ∧ (pzN P = 0 ∨ (2 ≤ pzN P ∧ pzN P ≤ 7 ∧ (∀ i, i < pzN P → (pzQ P i : Int) < L 0 0 * L 1 0) ∧ 0 < P.1 (pzQ P 0) ∧ ¬ (P.1 (pzQ P 0) - 1) % 2 = (pzS P : Int) ∧ ∀ i, 1 ≤ i → i < pzN P → P.1 (pzQ P i) = 0)) ∧ ((∀ d, d < 24 → 0 ≤ pzH P d ∧ pzH P d ≤ 16) ∧ (∀ d : Nat, d < 24 → (L 2 0 ≤ ((d / 2 : Nat) : Int) ∨ ((d / 2 : Nat) : Int) = L 10 0) → pzH P d = 0) ∧ (L 15 0 = 0 → ∀ d, d < 24 → pzH P d = 0)) ∧ (∀ d, d < 2 → 0 ≤ pzC P d ∧ pzC P d ≤ 9) ∧ (0 ≤ pzK P ∧ pzK P ≤ 200)
/-- all moves tried in a position -/
noncomputable def moP (L : Nat → Nat → Int) (P : Pz) : List MvT := moA L P.1 (ovP P) (rtP P) (pzQ P 0) (pzS P) (hdP P)
/-- a good move -/
def MvGd (L : Nat → Nat → Int) (P : Pz) (v : MvT) : Prop := MvO L P.1 (pzQ P 0) (pzS P) v ∧ (v.2.2.1 < L 2 0 ∧ v.2.2.2.1 < L 2 0) ∧ (v.2.2.2.2.1 = -1 ∨ (0 ≤ v.2.2.2.2.1 ∧ v.2.2.2.2.1 < L 2 0)) ∧ (v.2.2.2.2.2.1 = 0 → v.2.2.2.2.1 = (if 0 < P.1 v.2.1.toNat then ((mnO (P.1 v.2.1.toNat) : Nat) : Int) else -1) ∧ (0 < P.1 v.2.1.toNat → ¬ (P.1 v.2.1.toNat - 1) % 2 = (pzS P : Int))) ∧ (v.2.2.2.2.2.1 = 1 → 1 < pzN P ∧ P.1 v.2.1.toNat = 0 ∧ v.2.2.2.2.1 = ((mnO (P.1 (pzQ P 0)) : Nat) : Int)) ∧ (v.2.2.2.2.2.1 = 2 → v.2.2.2.2.1 = -1 ∧ v.2.2.2.1 = -1 ∧ v.2.2.1 = L 10 0 ∧ P.1 v.2.2.2.2.2.2.toNat = cdV (L 12 0) (pzS P) ∧ (v.2.2.2.2.2.2 - v.1 ≥ 3 ∨ v.2.2.2.2.2.2 - v.1 ≤ -3) ∧ v.2.2.2.2.2.2 < L 0 0 * L 1 0) ∧ (v.2.2.2.2.2.1 = 3 → v.1 = -1 ∧ v.2.2.2.2.1 = -1 ∧ v.2.2.2.1 = -1 ∧ P.1 v.2.1.toNat = 0 ∧ v.2.2.2.2.2.2 = 0 ∧ 0 < pzH P (2 * v.2.2.1.toNat + pzS P)) ∧ (v.2.2.2.2.2.1 < 2 → v.2.2.2.2.2.2 = 0 ∨ (2 ≤ v.2.2.2.2.2.2 ∧ PsL L v ∧ ∀ j : Nat, 1 ≤ j → (j : Int) < v.2.2.2.2.2.2 → P.1 (v.1 + j * ((v.2.1 - v.1) / v.2.2.2.2.2.2)).toNat = 0)) ∧ (¬ v.2.2.2.2.2.1 = 3 → ¬ v.1 = v.2.1)
section
variable {L : Nat → Nat → Int} {P : Pz} {v : MvT}
theorem ov_0 (O : PzOk L P) : ∀ q, ovP P q → P.1 q = 0 := fun q ⟨i, i1, i2, e⟩ => by
  rcases O.2.2.2.2.1 with z | z
  · omega
  · rw [← e]; exact z.2.2.2.2.2 i i1 i2
theorem ov_p (O : PzOk L P) (h : ∃ t, ovP P t) : 1 < pzN P ∧ (pzQ P 0 : Int) < L 0 0 * L 1 0 ∧ 0 < P.1 (pzQ P 0) ∧ ¬ (P.1 (pzQ P 0) - 1) % 2 = (pzS P : Int) := by
  obtain ⟨t, i, i1, i2, _⟩ := h
  rcases O.2.2.2.2.1 with z | z
  · omega
  · exact ⟨by omega, z.2.2.1 0 (by omega), z.2.2.2.1, z.2.2.2.2.1⟩
theorem own_v {M : Nat → Int} {s : Nat} {sd : Int} (m0 : 0 < M s) (e : (M s - 1) % 2 = sd) : M s = cdV ((mnO (M s) : Nat) : Int) sd := by
  unfold cdV mnO
  omega
/-- moves by STEPS -/
theorem sta_g {s t : Nat} (H : LOk L) (K : LawK L) (O : PzOk L P) (s64 : s < 64) (m0 : 0 < P.1 s) (es : (P.1 s - 1) % 2 = (pzS P : Int)) (hv : v ∈ stA L P.1 (ovP P) (pzQ P 0) (pzS P) (mnO (P.1 s)) s t) : MvGd L P v := by
  have HM := O.1
  have L2 := H.2.2.1
  have sq := sq_64 H
  have sL := ((HM s s64).2 m0).1
  have vL := ((HM s s64).2 m0).2
  have mL := (mno_lt (L := L) m0 vL).1
  have m12 := mno_12 H HM s64 m0
  cases e : ldF (ldD L P.1 (ovP P) true (pzS P) (mnO (P.1 s)) s) t with
  | none =>
    rw [sta_none e] at hv
    exact absurd hv (by simp)
  | some q =>
    rw [sta_some e] at hv
    obtain ⟨⟨i, hi, ej, ld, g⟩, _⟩ := ldf_i e
    have J : StR L q.1 := by rw [ej]; exact (H.2.2.2 _ mL).2 i hi
    have tL := rch_on H ld.1
    have t64 : t < 64 := by omega
    obtain ⟨d, hd, on, et, st, ts'⟩ := rch_st ld.1.2
    have k1 := ld.1.2.1
    have k2 := ld.1.2.2.1
    have k7 : q.2 ≤ 7 := by have := J.2.2.2.2.1.2; omega
    have vr := v_rg (sd := (pzS P : Int)) (fo := fbt (L 75 q.1) 2) (d := d) J.2.1 J.2.2.1
    have ne : ¬ (t : Int) - s = 0 := fun z => by
      have := rch_ne J ld.1
      rw [z, Int.zero_ediv] at this
      exact this rfl
    -- whom he takes
    have tk : ∀ {b : Bool}, (b = true → ovP P t) → tkV P.1 (pzQ P 0) t b = -1 ∨ (0 ≤ tkV P.1 (pzQ P 0) t b ∧ tkV P.1 (pzQ P 0) t b < L 2 0) := fun {b} hb => by
      unfold tkV
      split
      · rename_i c
        have p := ov_p O ⟨t, hb c⟩
        have := (mno_lt (L := L) p.2.2.1 ((HM (pzQ P 0) (by omega)).2 p.2.2.1).2).1
        omega
      · split
        · rename_i c
          have := (mno_lt (L := L) c ((HM t t64).2 c).2).1
          omega
        · exact Or.inl rfl
    -- PASS that he makes
    have pa : ∀ {p : Int}, p = (if fbt (L 75 q.1) 4 = true ∧ 1 < q.2 then q.2 else 0) → p = 0 ∨ (2 ≤ p ∧ (p ≤ 7 ∧ ∃ X Y : Int, (-7 ≤ X ∧ X ≤ 7) ∧ (-7 ≤ Y ∧ Y ≤ 7) ∧ onK (L 0 0) (L 1 0) (s : Int) X Y p ∧ (t : Int) = tgt (L 0 0) (s : Int) X Y p) ∧ ∀ j : Nat, 1 ≤ j → (j : Int) < p → P.1 ((s : Int) + j * (((t : Int) - s) / p)).toNat = 0) := fun {p} ep => by
      by_cases c : fbt (L 75 q.1) 4 = true ∧ 1 < q.2
      · rw [if_pos c] at ep
        rw [ep]
        refine Or.inr ⟨by omega, ⟨k7, _, _, vr.1, vr.2, on, et⟩, fun j j1 j2 => ?_⟩
        have o0 : ovN L q.1 = 0 := by
          unfold ovN
          rw [if_neg]
          intro z
          have := K.2.2.2.1 (mnO (P.1 s)) i mL hi
          rw [← ej] at this
          exact this ⟨z, c.1⟩
        have cz := ld.2
        rw [o0] at cz
        have := (cnp_0 _).mp cz j j1 (by omega)
        have on' := pth_on H sL ld.1 (i := (j : Int)) (by omega) (by omega)
        have := (HM ((s : Int) + j * (((t : Int) - s) / q.2)).toNat (by omega)).1
        omega
      · rw [if_neg c] at ep
        exact Or.inl ep
    have by1 : prB' (ByT L (ovP P) true q.1 t) = true → ovP P t := fun z => (prb_e.mp z).2.2
    -- the square come to
    have k0 : prB' (ByT L (ovP P) true q.1 t) = false → 0 < P.1 t → ¬ (P.1 t - 1) % 2 = (pzS P : Int) := fun z p => by
      rcases g with g | ⟨_, n, _⟩ | ⟨n, _⟩
      · exact absurd g (prb_f.mp z)
      · exact n
      · exact absurd p n
    -- put together
    have all : ∀ {b' : Int}, (b' = -1 ∨ (0 ≤ b' ∧ b' < L 2 0 ∧ ¬ b' = L 10 0)) → v = ((s : Int), (t : Int), ((mnO (P.1 s) : Nat) : Int), b', tkV P.1 (pzQ P 0) t (prB' (ByT L (ovP P) true q.1 t)), (if prB' (ByT L (ovP P) true q.1 t) = true then 1 else 0), (if fbt (L 75 q.1) 4 = true ∧ 1 < q.2 then q.2 else 0)) → MvGd L P v := fun {b'} hb ev => by
      have tN : ((t : Int)).toNat = t := by omega
      have sN' : ((s : Int)).toNat = s := by omega
      have v1 : v.1 = (s : Int) := by rw [ev]
      have v2 : v.2.1 = (t : Int) := by rw [ev]
      have v3 : v.2.2.1 = ((mnO (P.1 s) : Nat) : Int) := by rw [ev]
      have v4 : v.2.2.2.1 = b' := by rw [ev]
      have v5 : v.2.2.2.2.1 = tkV P.1 (pzQ P 0) t (prB' (ByT L (ovP P) true q.1 t)) := by rw [ev]
      have v6 : v.2.2.2.2.2.1 = (if prB' (ByT L (ovP P) true q.1 t) = true then 1 else 0) := by rw [ev]
      have v7 : v.2.2.2.2.2.2 = (if fbt (L 75 q.1) 4 = true ∧ 1 < q.2 then q.2 else 0) := by rw [ev]
      have kk : v.2.2.2.2.2.1 = 0 ∨ v.2.2.2.2.2.1 = 1 := by
        rw [v6]; split
        · exact Or.inr rfl
        · exact Or.inl rfl
      have b1 : v.2.2.2.2.2.1 = 1 → prB' (ByT L (ovP P) true q.1 t) = true := fun z => by
        rw [v6] at z
        split at z
        · rename_i c; exact c
        · exact absurd z (by decide)
      have b0 : v.2.2.2.2.2.1 = 0 → prB' (ByT L (ovP P) true q.1 t) = false := fun z => by
        rw [v6] at z
        split at z
        · exact absurd z (by decide)
        · rename_i c; exact Bool.eq_false_iff.mpr c
      refine ⟨⟨by rw [v2]; omega, by rw [v3]; omega, by rw [v4]; omega, Or.inr ⟨by omega, by rw [v1]; omega, ?_⟩, fun z => ?_, fun z => by omega⟩, ⟨by rw [v3]; exact mL, by rw [v4]; omega⟩, by rw [v5]; exact tk by1, fun z => ?_, fun z => ?_, fun z => by omega, fun z => by omega, fun z => ?_, fun z => by rw [v1, v2]; omega⟩
      · rw [v1, v3, sN']
        exact own_v m0 es
      · have := (ov_p O ⟨t, by1 (b1 z)⟩).2.1
        omega
      · rw [v2, tN, v5]
        refine ⟨?_, k0 (b0 z)⟩
        unfold tkV
        rw [if_neg (by rw [b0 z]; decide)]
      · have p := ov_p O ⟨t, by1 (b1 z)⟩
        rw [v2, tN, v5]
        refine ⟨p.1, ov_0 O t (by1 (b1 z)), ?_⟩
        unfold tkV
        rw [if_pos (b1 z)]
      · have := pa v7
        unfold PsL
        rw [v1, v2]
        exact this
    unfold mvL at hv
    split at hv
    · rw [List.mem_map] at hv
      obtain ⟨x, hx, ev⟩ := hv
      rw [List.mem_range] at hx
      have := (K.1 _ m12).2 x (by omega)
      exact all (Or.inr ⟨this.1.1, this.1.2, this.2⟩) ev.symm
    · rw [List.mem_singleton] at hv
      exact all (Or.inl rfl) hv
/-- castling -/
theorem csd_g {s t : Nat} {d : Int} (H : LOk L) (K : LawK L) (O : PzOk L P) (s64 : s < 64) (m0 : 0 < P.1 s) (es : (P.1 s - 1) % 2 = (pzS P : Int)) (er : ((mnO (P.1 s) : Nat) : Int) = L 10 0) (id : d = 1 ∨ d = -1) (hv : v ∈ csD L P.1 (rtP P) (pzS P) s d t) : MvGd L P v := by
  have HM := O.1
  have L2 := H.2.2.1
  have sq := sq_64 H
  have sL := ((HM s s64).2 m0).1
  have isd := O.2.2.1
  by_cases ex : ∃ p, (t : Int) = (s : Int) + 2 * d ∧ CstP L P.1 (rtP P) (pzS P) s d p
  · obtain ⟨p, et, z⟩ := ex
    rw [csd_y et z, List.mem_singleton] at hv
    obtain ⟨nr, far, rt, mp, _⟩ := z
    obtain ⟨a1, a2, a3⟩ := nrm_3 H sL id nr far
    have nr' := nr
    obtain ⟨n, n1, n2, n3, n4, n5, n6⟩ := nr'
    have pL := on_rk H sL n2 n3
    rw [← n4] at pL
    have p64 : p < 64 := by omega
    obtain ⟨c0, d', hd', mc, rk⟩ := O.2.2.2.1 p p64 rt
    have ed : (d' : Int) = (pzS P : Int) := by
      rw [mc] at mp
      unfold cdV at mp
      omega
    have kc := K.2.2.1
    have kr := K.2.1
    have v1 : v.1 = (s : Int) := by rw [hv]; rfl
    have v2 : v.2.1 = (s : Int) + 2 * d := by rw [hv]; rfl
    have v3 : v.2.2.1 = L 10 0 := by rw [hv]; rfl
    have v4 : v.2.2.2.1 = -1 := by rw [hv]; rfl
    have v5 : v.2.2.2.2.1 = -1 := by rw [hv]; rfl
    have v6 : v.2.2.2.2.2.1 = 2 := by rw [hv]; rfl
    have v7 : v.2.2.2.2.2.2 = (p : Int) := by rw [hv]; rfl
    have sN' : ((s : Int)).toNat = s := by omega
    have pN : ((p : Int)).toNat = p := by omega
    refine ⟨⟨by rw [v2]; exact a2, by rw [v3]; omega, Or.inl v4, Or.inr ⟨Or.inr (Or.inr v6), by rw [v1]; omega, ?_⟩, fun z => by omega, fun _ => ⟨d, id, by rw [v1, v2], by rw [v7]; omega, by rw [v1, v7, sN', pN]; exact nr, by omega, (kc.2.2 c0).2, by rw [v1]; exact a1, by rw [v7, v1, pN]; omega⟩⟩, ⟨by rw [v3]; exact kr.2, by rw [v4]; omega⟩, Or.inl v5, fun z => by omega, fun z => by omega, fun _ => ⟨v5, v4, v3, by rw [v7, pN, mc, ed], by rw [v7, v1]; exact far, by rw [v7]; exact pL.2⟩, fun z => by omega, fun z => by omega, fun _ => by rw [v1, v2]; omega⟩
    rw [v1, v3, sN', ← er]
    exact own_v m0 es
  · rw [csd_n (fun p a b => ex ⟨p, a, b⟩)] at hv
    exact absurd hv (by simp)
/-- men out of the hand -/
theorem drl_g {t : Nat} (H : LOk L) (K : LawK L) (O : PzOk L P) (tL : (t : Int) < L 0 0 * L 1 0) (hv : v ∈ drL L P.1 (hdP P) t) : MvGd L P v := by
  have L2 := H.2.2.1
  have isd := O.2.2.1
  unfold drL at hv
  split at hv
  · rename_i m0
    rw [List.mem_flatMap] at hv
    obtain ⟨m, hm, hv⟩ := hv
    rw [List.mem_range] at hm
    unfold drM at hv
    split at hv
    · rename_i c
      rw [List.mem_singleton] at hv
      have v1 : v.1 = -1 := by rw [hv]
      have v2 : v.2.1 = (t : Int) := by rw [hv]
      have v3 : v.2.2.1 = (m : Int) := by rw [hv]
      have v4 : v.2.2.2.1 = -1 := by rw [hv]
      have v5 : v.2.2.2.2.1 = -1 := by rw [hv]
      have v6 : v.2.2.2.2.2.1 = 3 := by rw [hv]
      have v7 : v.2.2.2.2.2.2 = 0 := by rw [hv]
      have tN : ((t : Int)).toNat = t := by omega
      have mN : ((m : Int)).toNat = m := by omega
      have hp : 0 < pzH P (2 * m + pzS P) := c.1
      refine ⟨⟨by rw [v2]; omega, by rw [v3]; omega, Or.inl v4, Or.inl ⟨v6, fun z => ?_⟩, fun z => by omega, fun z => by omega⟩, ⟨by rw [v3]; omega, by rw [v4]; omega⟩, Or.inl v5, fun z => by omega, fun z => by omega, fun z => by omega, fun _ => ⟨v1, v5, v4, by rw [v2, tN]; exact m0, v7, by rw [v3, mN]; exact hp⟩, fun z => by omega, fun z => absurd v6 z⟩
      have := O.2.2.2.2.2.1.2.1 (2 * m + pzS P) (by omega) (Or.inr (by rw [show (2 * m + pzS P) / 2 = m by omega, ← v3]; exact z))
      omega
    · exact absurd hv (by simp)
  · exact absurd hv (by simp)
/-- all moves that are tried are good -/
theorem mo_g (H : LOk L) (K : LawK L) (O : PzOk L P) (hv : v ∈ moP L P) : MvGd L P v := by
  have sq := sq_64 H
  unfold moP moA at hv
  rw [List.mem_append] at hv
  rcases hv with hv | hv
  · rw [List.mem_flatMap] at hv
    obtain ⟨s, hs, hv⟩ := hv
    rw [List.mem_range] at hs
    unfold moF at hv
    split at hv
    · rename_i c
      rw [List.mem_flatMap] at hv
      obtain ⟨t, ht, hv⟩ := hv
      unfold moS at hv
      rw [List.mem_append] at hv
      rcases hv with hv | hv
      · exact sta_g H K O hs c.1 c.2 hv
      · split at hv
        · rename_i er
          rw [List.mem_append] at hv
          rcases hv with hv | hv
          · exact csd_g H K O hs c.1 c.2 er (Or.inr rfl) hv
          · exact csd_g H K O hs c.1 c.2 er (Or.inl rfl) hv
        · exact absurd hv (by simp)
    · exact absurd hv (by simp)
  · unfold moD at hv
    split at hv
    · exact absurd hv (by simp)
    · rw [List.mem_flatMap] at hv
      obtain ⟨t, ht, hv⟩ := hv
      rw [List.mem_range] at ht
      exact drl_g H K O (by omega) hv
end
end
section
/-! the position behind a move -/
section
variable {L : Nat → Nat → Int} {P : Pz} {v : MvT}
theorem mvgd_k (G : MvGd L P v) : v.2.2.2.2.2.1 = 0 ∨ v.2.2.2.2.2.1 = 1 ∨ v.2.2.2.2.2.1 = 2 ∨ v.2.2.2.2.2.1 = 3 := by
  rcases G.1.2.2.2.1 with z | z
  · exact Or.inr (Or.inr (Or.inr z.1))
  · omega
/-- a man who is not dropped leaves a square -/
theorem mvgd_s (G : MvGd L P v) (n3 : ¬ v.2.2.2.2.2.1 = 3) : (0 ≤ v.1 ∧ v.1 < L 0 0 * L 1 0) ∧ P.1 v.1.toNat = cdV v.2.2.1 (pzS P) := by
  rcases G.1.2.2.2.1 with z | z
  · exact absurd z.1 n3
  · exact z.2
/-- castling: the squares lie apart -/
theorem mvgd_c (H : LOk L) (G : MvGd L P v) (k2 : v.2.2.2.2.2.1 = 2) : ∃ d : Int, (d = 1 ∨ d = -1) ∧ v.2.1 = v.1 + 2 * d ∧ (v.1 + v.2.1) / 2 = v.1 + d ∧ 0 ≤ v.2.2.2.2.2.2 ∧ (0 ≤ v.1 + d ∧ v.1 + d < L 0 0 * L 1 0) ∧ (v.2.2.2.2.2.2 - v.1 ≥ 3 ∨ v.2.2.2.2.2.2 - v.1 ≤ -3) ∧ P.1 (v.1 + d).toNat = 0 ∧ P.1 v.2.1.toNat = 0 ∧ NrM L P.1 v.1.toNat d v.2.2.2.2.2.2.toNat := by
  obtain ⟨d, id, et, p0, nr, _, _, a1, _⟩ := G.1.2.2.2.2.2 k2
  have far := (G.2.2.2.2.2.1 k2).2.2.2.2.1
  have s0 := (mvgd_s G (by omega)).1.1
  have nr' := nr
  obtain ⟨n, n1, n2, n3, n4, n5, n6⟩ := nr'
  have sc : ((v.1.toNat : Nat) : Int) = v.1 := by omega
  rw [sc] at n4 n6
  have n4 : v.2.2.2.2.2.2 = v.1 + n * d := by omega
  have nd : 3 ≤ n := by
    rcases id with z | z
    · rw [z, Int.mul_one] at n4; omega
    · rw [z, Int.mul_neg, Int.mul_one] at n4; omega
  have e1 := n6 1 (by omega) (by omega)
  have e2 := n6 2 (by omega) (by omega)
  rw [show ((1 : Nat) : Int) * d = d by omega] at e1
  rw [show ((2 : Nat) : Int) * d = 2 * d by omega, ← et] at e2
  exact ⟨d, id, et, by omega, p0, a1, far, e1, e2, nr⟩
/-- men behind it -/
theorem zmen_e (H : LOk L) (G : MvGd L P v) : ∀ s, s < 64 → zMen P v s = shM P.1 (pzQ P 0) (L 12 0) (pzS P) v s := by
  intro s hs
  unfold zMen zNew shM mdM zCs zLv
  rcases mvgd_k G with k | k | k | k
  · rw [if_neg (show ¬ v.2.2.2.2.2.1 = 2 by omega), if_neg (show ¬ v.2.2.2.2.2.1 = 3 by omega), if_neg (show ¬ v.2.2.2.2.2.1 = 3 by omega), if_neg (show ¬ v.2.2.2.2.2.1 = 2 by omega), if_neg (show ¬ v.2.2.2.2.2.1 = 1 by omega)]
    by_cases c : v.2.2.2.2.1 = -1
    · rw [if_pos c, if_neg (show ¬ v.2.2.2.2.2.1 = 1 by omega)]; rfl
    · rw [if_neg c, if_neg (show ¬ v.2.2.2.2.2.1 = 1 by omega)]
      show updM (updM (updM P.1 v.2.1.toNat 0) v.1.toNat 0) v.2.1.toNat _ s = _
      unfold updM
      by_cases d : s = v.2.1.toNat
      · rw [if_pos d, if_pos d]
      · rw [if_neg d, if_neg d, if_neg d]
  · rw [if_neg (show ¬ v.2.2.2.2.2.1 = 2 by omega), if_neg (show ¬ v.2.2.2.2.2.1 = 3 by omega), if_neg (show ¬ v.2.2.2.2.2.1 = 3 by omega), if_neg (show ¬ v.2.2.2.2.2.1 = 2 by omega), if_pos k]
    have := (G.2.2.2.2.1 k).2.2
    rw [if_neg (show ¬ v.2.2.2.2.1 = -1 by omega), if_pos k]
    rfl
  · obtain ⟨d, id, et, em, p0, a1, far, _, _, _⟩ := mvgd_c H G k
    have q := G.2.2.2.2.2.1 k
    have s0 := (mvgd_s G (by omega)).1.1
    have t0 := G.1.1.1
    rw [if_pos k, if_neg (show ¬ v.2.2.2.2.2.1 = 3 by omega), if_neg (show ¬ v.2.2.2.2.2.1 = 3 by omega), if_pos k, if_pos q.1, q.2.2.2.1]
    show updM (updM (updM (updM P.1 v.1.toNat 0) v.2.1.toNat (nwV (pzS P) v)) v.2.2.2.2.2.2.toNat 0) ((v.1 + v.2.1) / 2).toNat (cdV (L 12 0) (pzS P)) s = updM (updM (updM (updM P.1 v.2.2.2.2.2.2.toNat 0) ((v.1 + v.2.1) / 2).toNat (cdV (L 12 0) (pzS P))) v.1.toNat 0) v.2.1.toNat (nwV (pzS P) v) s
    rw [em]
    unfold updM
    by_cases c1 : s = v.2.1.toNat
    · rw [if_neg (show ¬ s = (v.1 + d).toNat by omega), if_neg (show ¬ s = v.2.2.2.2.2.2.toNat by omega), if_pos c1, if_pos c1]
    · by_cases c2 : s = v.1.toNat
      · rw [if_neg (show ¬ s = (v.1 + d).toNat by omega), if_neg (show ¬ s = v.2.2.2.2.2.2.toNat by omega), if_neg c1, if_pos c2, if_neg c1, if_pos c2]
      · rw [if_neg c1, if_neg c2, if_neg c1, if_neg c2]
  · have q := G.2.2.2.2.2.2.1 k
    rw [if_neg (show ¬ v.2.2.2.2.2.1 = 2 by omega), if_pos k, if_pos k, if_pos q.2.1]
    unfold nwV
    rw [if_pos q.2.2.1]
    rfl
theorem mok_c {M M' : Nat → Int} (HM : MOk L M) (e : ∀ s, s < 64 → M' s = M s) : MOk L M' := fun s hs => by rw [e s hs]; exact HM s hs
theorem un_c {M M' : Nat → Int} {ro : Int} (U : UnM M ro) (e : ∀ s, s < 64 → M' s = M s) : UnM M' ro := fun r d s t hd hs ht a b => U r d s t hd hs ht (by rw [← e s hs]; exact a) (by rw [← e t ht]; exact b)
theorem mok_u {M : Nat → Int} {x : Nat} {w : Int} (HM : MOk L M) (h : w = 0 ∨ (0 < w ∧ w ≤ 2 * L 2 0 ∧ (x : Int) < L 0 0 * L 1 0)) : MOk L (updM M x w) := fun s hs => by
  unfold updM
  split
  · rename_i c
    rw [c]
    omega
  · exact HM s hs
theorem cd_in {m sd : Int} (isd : sd = 0 ∨ sd = 1) (m0 : 0 ≤ m) (m1 : m < L 2 0) : 0 < cdV m sd ∧ cdV m sd ≤ 2 * L 2 0 := by
  unfold cdV
  omega
theorem isd_i (O : PzOk L P) : (pzS P : Int) = 0 ∨ (pzS P : Int) = 1 := by have := O.2.2.1; omega
/-- whom he becomes -/
theorem nw_in (O : PzOk L P) (G : MvGd L P v) : 0 < nwV (pzS P) v ∧ nwV (pzS P) v ≤ 2 * L 2 0 := by
  unfold nwV
  have m := G.1.2.1
  have b := G.1.2.2.1
  have l := G.2.1
  split
  · exact cd_in (isd_i O) m.1 l.1
  · exact cd_in (isd_i O) (by omega) l.2
theorem mok_sh (H : LOk L) (K : LawK L) (O : PzOk L P) (G : MvGd L P v) : MOk L (shM P.1 (pzQ P 0) (L 12 0) (pzS P) v) := by
  have HM := O.1
  have t := G.1.1
  have nw := nw_in O G
  unfold shM
  split
  · have := cd_in (L := L) (isd_i O) G.1.2.1.1 G.2.1.1
    exact mok_u HM (Or.inr ⟨this.1, this.2, by omega⟩)
  · refine mok_u (mok_u ?_ (Or.inl rfl)) (Or.inr ⟨nw.1, nw.2, by omega⟩)
    unfold mdM
    split
    · rename_i k
      obtain ⟨d, id, et, em, p0, a1, far, _, _, _⟩ := mvgd_c H G k
      obtain ⟨_, _, _, _, _, c0, _⟩ := G.1.2.2.2.2.2 k
      have := cd_in (L := L) (isd_i O) c0.1 K.2.2.1.2.1
      exact mok_u (mok_u HM (Or.inl rfl)) (Or.inr ⟨this.1, this.2, by rw [em]; omega⟩)
    · split
      · exact mok_u HM (Or.inl rfl)
      · exact HM
/-- the man who is caught is no own man -/
theorem p0_ne (O : PzOk L P) (G : MvGd L P v) (k : v.2.2.2.2.2.1 = 1) : ¬ pzQ P 0 = v.1.toNat ∧ ¬ pzQ P 0 = v.2.1.toNat ∧ pzQ P 0 < 64 := by
  have q := G.2.2.2.2.1 k
  have s := mvgd_s G (by omega)
  have isd := isd_i O
  have p64 := G.1.2.2.2.2.1 k
  rcases O.2.2.2.2.1 with z | z
  · omega
  · refine ⟨fun e => ?_, fun e => ?_, p64⟩
    · have a := z.2.2.2.2.1
      rw [e, s.2] at a
      unfold cdV at a
      omega
    · have a := z.2.2.2.1
      rw [e, q.2.1] at a
      omega
theorem un_shm (H : LOk L) (O : PzOk L P) (G : MvGd L P v) : UnM (shM P.1 (pzQ P 0) (L 12 0) (pzS P) v) (L 10 0) := by
  have U := O.2.1
  have isd := isd_i O
  have sq := sq_64 H
  unfold shM
  by_cases k3 : v.2.2.2.2.2.1 = 3
  · rw [if_pos k3]
    rcases G.1.2.2.2.1 with z | z
    · exact un_o U (cd_ne isd z.2)
    · omega
  rw [if_neg k3]
  obtain ⟨s1, s2⟩ := mvgd_s G k3
  have bn := G.1.2.2.1
  have key : ∀ {M1 : Nat → Int}, UnM M1 (L 10 0) → M1 v.1.toNat = cdV v.2.2.1 (pzS P) → UnM (updM (updM M1 v.1.toNat 0) v.2.1.toNat (nwV (pzS P) v)) (L 10 0) := fun {M1} U1 m1 => by
    have := un_sh (t := v.2.1.toNat) (b := if v.2.2.2.1 = -1 then 15 else v.2.2.2.1) isd U1 (show v.1.toNat < 64 by omega) (fun n => by
      split at n
      · exact absurd rfl n
      · rename_i c
        rw [if_neg c]
        omega) m1
    unfold nwV
    by_cases c : v.2.2.2.1 = -1
    · rw [if_pos c]
      rw [if_pos c, if_pos rfl] at this
      exact this
    · rw [if_neg c]
      rw [if_neg c, if_neg (show ¬ v.2.2.2.1 = 15 by omega)] at this
      exact this
  unfold mdM
  by_cases k2 : v.2.2.2.2.2.1 = 2
  · rw [if_pos k2]
    obtain ⟨d, id, et, em, p0, a1, far, _, _, _⟩ := mvgd_c H G k2
    obtain ⟨_, _, _, _, _, _, cr, _⟩ := G.1.2.2.2.2.2 k2
    refine key (un_o (un_0 U) (cd_ne isd cr)) ?_
    rw [upm_o (by rw [em]; omega), upm_o (by omega)]
    exact s2
  · rw [if_neg k2]
    by_cases k1 : v.2.2.2.2.2.1 = 1
    · rw [if_pos k1]
      refine key (un_0 U) ?_
      rw [upm_o (fun z => (p0_ne O G k1).1 z.symm)]
      exact s2
    · rw [if_neg k1]
      exact key U s2
/-- men behind a move, blast too -/
noncomputable def mkM (L : Nat → Nat → Int) (P : Pz) (v : MvT) : Nat → Int := if L 18 0 = 0 ∨ v.2.2.2.2.1 = -1 then zMen P v else blM L (zMen P v) v.2.1.toNat
theorem zmen_ok (H : LOk L) (K : LawK L) (O : PzOk L P) (G : MvGd L P v) : MOk L (zMen P v) ∧ UnM (zMen P v) (L 10 0) := ⟨mok_c (mok_sh H K O G) (zmen_e H G), un_c (un_shm H O G) (zmen_e H G)⟩
theorem mkm_ok (H : LOk L) (K : LawK L) (O : PzOk L P) (G : MvGd L P v) : MOk L (mkM L P v) ∧ UnM (mkM L P v) (L 10 0) := by
  obtain ⟨a, b⟩ := zmen_ok H K O G
  unfold mkM
  split
  · exact ⟨a, b⟩
  · exact ⟨mok_bl a, un_bl b⟩
theorem ztk0_m : (zTk0 L (P.1, pzS P, pzR P, 0, pzQ P, pzH P, pzC P, pzK P) v (pzS P) (pzQ P 0)).1 = (if v.2.2.2.2.1 = -1 then P else zCm P (if v.2.2.2.2.2.1 = 1 then pzQ P 0 else v.2.1.toNat) 0).1 := by
  unfold zTk0
  split
  · rfl
  · rw [ztk_m]; rfl
theorem zroy_m {T : Pz} {sd : Nat} : (zRoy L T sd v).1 = T.1 := by
  unfold zRoy
  split <;> rfl
theorem zpass_m {T : Pz} : (zPass T v).1 = T.1 := by
  unfold zPass
  split <;> rfl
/-- men of the whole -/
theorem zall_m : (zAll L P v).1 = mkM L P v := by
  unfold zAll mkM zB
  have e : (zRoy L (zNew P (zLv (zTk0 L (P.1, pzS P, pzR P, 0, pzQ P, pzH P, pzC P, pzK P) v (pzS P) (pzQ P 0)) v (pzS P)) v (pzS P)) (pzS P) v).1 = zMen P v := by
    rw [zroy_m]
    exact znew_m (zlv_m ztk0_m)
  by_cases c : L 18 0 = 0 ∨ v.2.2.2.2.1 = -1
  · rw [if_pos c, if_pos c]
    show (zPass _ v).1 = _
    rw [zpass_m, e]
  · rw [if_neg c, if_neg c]
    show blM L (zRoy L _ (pzS P) v).1 v.2.1.toNat = _
    rw [e]
theorem zall_s : pzS (zAll L P v) = 1 - pzS P := rfl
theorem zall_k : pzK (zAll L P v) = zCnt L P v := rfl
/-- squares that it touches -/
def tcQ (L : Nat → Nat → Int) (P : Pz) (v : MvT) (q : Nat) : Prop := shT (pzQ P 0) v q ∨ (¬ (L 18 0 = 0 ∨ v.2.2.2.2.1 = -1) ∧ BlS L (zMen P v) v.2.1.toNat q)
/-- rights behind it -/
theorem zall_r (H : LOk L) (G : MvGd L P v) {q : Nat} (hq : q < 64) : pzR (zAll L P v) q = true ↔ (pzR P q = true ∧ ¬ tcQ L P v q ∧ ¬ (¬ v.2.2.2.2.2.1 = 3 ∧ v.2.2.1 = L 10 0 ∧ (q : Int) < L 0 0 * L 1 0 ∧ rkF L q (pzS P) = 1)) := by
  -- what is taken
  have a1 : ∀ {T : Pz}, pzR (zTk L T v (pzS P) (pzQ P 0)) q = true ↔ (pzR T q = true ∧ ¬ q = (if v.2.2.2.2.2.1 = 1 then pzQ P 0 else v.2.1.toNat)) := fun {T} => by
    have : pzR (zTk L T v (pzS P) (pzQ P 0)) q = (pzR T q && !decide (q = (if v.2.2.2.2.2.1 = 1 then pzQ P 0 else v.2.1.toNat))) := by
      unfold zTk
      split <;> rfl
    rw [this, Bool.and_eq_true, Bool.not_eq_true', decide_eq_false_iff_not]
  have a0 : pzR (zTk0 L (P.1, pzS P, pzR P, 0, pzQ P, pzH P, pzC P, pzK P) v (pzS P) (pzQ P 0)) q = true ↔ (pzR P q = true ∧ ¬ (¬ v.2.2.2.2.1 = -1 ∧ q = (if v.2.2.2.2.2.1 = 1 then pzQ P 0 else v.2.1.toNat))) := by
    unfold zTk0
    split
    · rename_i c
      exact ⟨fun z => ⟨z, fun y => y.1 c⟩, fun z => z.1⟩
    · rename_i c
      rw [a1]
      exact ⟨fun z => ⟨z.1, fun y => z.2 y.2⟩, fun z => ⟨z.1, fun y => z.2 ⟨c, y⟩⟩⟩
  have a2 : ∀ {T : Pz}, pzR (zLv T v (pzS P)) q = true ↔ (pzR T q = true ∧ ¬ (¬ v.2.2.2.2.2.1 = 3 ∧ q = v.1.toNat)) := fun {T} => by
    unfold zLv
    split
    · rename_i c
      exact ⟨fun z => ⟨z, fun y => y.1 c⟩, fun z => z.1⟩
    · rename_i c
      show (pzR T q && !decide (q = v.1.toNat)) = true ↔ _
      rw [Bool.and_eq_true, Bool.not_eq_true', decide_eq_false_iff_not]
      exact ⟨fun z => ⟨z.1, fun y => z.2 y.2⟩, fun z => ⟨z.1, fun y => z.2 ⟨c, y⟩⟩⟩
  have a3 : ∀ {T : Pz}, pzR (zNew P T v (pzS P)) q = true ↔ (pzR T q = true ∧ ¬ q = v.2.1.toNat ∧ ¬ (v.2.2.2.2.2.1 = 2 ∧ (q = v.2.2.2.2.2.2.toNat ∨ q = ((v.1 + v.2.1) / 2).toNat))) := fun {T} => by
    unfold zNew zCs
    split
    · rename_i c
      show (((pzR T q && !decide (q = v.2.1.toNat)) && !decide (q = v.2.2.2.2.2.2.toNat)) && !decide (q = ((v.1 + v.2.1) / 2).toNat)) = true ↔ _
      rw [Bool.and_eq_true, Bool.and_eq_true, Bool.and_eq_true, Bool.not_eq_true', Bool.not_eq_true', Bool.not_eq_true', decide_eq_false_iff_not, decide_eq_false_iff_not, decide_eq_false_iff_not]
      constructor
      · rintro ⟨⟨⟨x, y⟩, z⟩, w⟩
        exact ⟨x, y, fun u => u.2.elim z w⟩
      · rintro ⟨x, y, z⟩
        exact ⟨⟨⟨x, y⟩, fun u => z ⟨c, Or.inl u⟩⟩, fun u => z ⟨c, Or.inr u⟩⟩
    · rename_i c
      show (pzR T q && !decide (q = v.2.1.toNat)) = true ↔ _
      rw [Bool.and_eq_true, Bool.not_eq_true', decide_eq_false_iff_not]
      exact ⟨fun z => ⟨z.1, z.2, fun y => c y.1⟩, fun z => ⟨z.1, z.2.1⟩⟩
  have a4 : ∀ {T : Pz}, pzR (zRoy L T (pzS P) v) q = true ↔ (pzR T q = true ∧ ¬ (¬ v.2.2.2.2.2.1 = 3 ∧ v.2.2.1 = L 10 0 ∧ (q : Int) < L 0 0 * L 1 0 ∧ rkF L q (pzS P) = 1)) := fun {T} => by
    unfold zRoy
    split
    · rename_i c
      show (pzR T q && !prB' ((q : Int) < L 0 0 * L 1 0 ∧ rkF L q (pzS P) = 1)) = true ↔ _
      rw [Bool.and_eq_true, Bool.not_eq_true', prb_f]
      exact ⟨fun z => ⟨z.1, fun y => z.2 y.2.2⟩, fun z => ⟨z.1, fun y => z.2 ⟨c.1, c.2, y⟩⟩⟩
    · rename_i c
      exact ⟨fun z => ⟨z, fun y => c ⟨y.1, y.2.1⟩⟩, fun z => z.1⟩
  have em : (zRoy L (zNew P (zLv (zTk0 L (P.1, pzS P, pzR P, 0, pzQ P, pzH P, pzC P, pzK P) v (pzS P) (pzQ P 0)) v (pzS P)) v (pzS P)) (pzS P) v).1 = zMen P v := by
    rw [zroy_m]
    exact znew_m (zlv_m ztk0_m)
  have a5 : ∀ {T : Pz}, T.1 = zMen P v → (pzR (zB L T v) q = true ↔ (pzR T q = true ∧ ¬ (¬ (L 18 0 = 0 ∨ v.2.2.2.2.1 = -1) ∧ BlS L (zMen P v) v.2.1.toNat q))) := fun {T} eT => by
    unfold zB
    split
    · rename_i c
      have : pzR (zPass T v) = pzR T := by
        unfold zPass
        split <;> rfl
      rw [this]
      exact ⟨fun z => ⟨z, fun y => y.1 c⟩, fun z => z.1⟩
    · rename_i c
      show (pzR T q && !prB' (BlS L T.1 v.2.1.toNat q)) = true ↔ _
      rw [Bool.and_eq_true, Bool.not_eq_true', prb_f, eT]
      exact ⟨fun z => ⟨z.1, fun y => z.2 y.2⟩, fun z => ⟨z.1, fun y => z.2 ⟨c, y⟩⟩⟩
  have main : pzR (zAll L P v) q = true ↔ pzR (zB L (zRoy L (zNew P (zLv (zTk0 L (P.1, pzS P, pzR P, 0, pzQ P, pzH P, pzC P, pzK P) v (pzS P) (pzQ P 0)) v (pzS P)) v (pzS P)) (pzS P) v) v) q = true := Iff.rfl
  rw [main, a5 em, a4, a3, a2, a0]
  unfold tcQ shT
  have k1 : v.2.2.2.2.2.1 = 1 → ¬ v.2.2.2.2.1 = -1 := fun k => by have := (G.2.2.2.2.1 k).2.2; omega
  constructor
  · rintro ⟨⟨⟨⟨⟨x1, x2⟩, x3⟩, x4, x5⟩, x6⟩, x7⟩
    refine ⟨x1, ?_, x6⟩
    rintro ((y | y | y | y) | y)
    · exact x4 y
    · exact x3 y
    · exact x2 ⟨k1 y.1, by rw [if_pos y.1]; exact y.2⟩
    · exact x5 y
    · exact x7 y
  · rintro ⟨x1, x2, x3⟩
    refine ⟨⟨⟨⟨⟨x1, fun y => x2 (Or.inl ?_)⟩, fun y => x2 (Or.inl (Or.inr (Or.inl y)))⟩, fun y => x2 (Or.inl (Or.inl y)), fun y => x2 (Or.inl (Or.inr (Or.inr (Or.inr y))))⟩, x3⟩, fun y => x2 (Or.inr y)⟩
    have y2 := y.2
    split at y2
    · rename_i c
      exact Or.inr (Or.inr (Or.inl ⟨c, y2⟩))
    · exact Or.inl y2
end
end
section
/-! the position behind a move is as it must be -/
section
variable {L : Nat → Nat → Int} {P : Pz} {v : MvT}
theorem zall_n : pzN (zAll L P v) = (if (L 18 0 = 0 ∨ v.2.2.2.2.1 = -1) ∧ v.2.2.2.2.2.1 < 2 ∧ 0 < v.2.2.2.2.2.2 then v.2.2.2.2.2.2.toNat else 0) ∧ ((L 18 0 = 0 ∨ v.2.2.2.2.1 = -1) ∧ v.2.2.2.2.2.1 < 2 ∧ 0 < v.2.2.2.2.2.2 → pzQ (zAll L P v) = psQ v) := by
  have n0 : ∀ {T : Pz}, pzN T = 0 → pzN (zRoy L (zNew P (zLv T v (pzS P)) v (pzS P)) (pzS P) v) = 0 := fun {T} e => by
    have a : pzN (zLv T v (pzS P)) = 0 := by
      unfold zLv
      split <;> exact e
    have b : pzN (zNew P (zLv T v (pzS P)) v (pzS P)) = 0 := by
      unfold zNew zCs
      split <;> exact a
    unfold zRoy
    split <;> exact b
  have e0 : pzN (zTk0 L (P.1, pzS P, pzR P, 0, pzQ P, pzH P, pzC P, pzK P) v (pzS P) (pzQ P 0)) = 0 := by
    unfold zTk0 zTk
    split
    · rfl
    · split <;> rfl
  have n1 := n0 e0
  have m1 : pzN (zAll L P v) = pzN (zB L (zRoy L (zNew P (zLv (zTk0 L (P.1, pzS P, pzR P, 0, pzQ P, pzH P, pzC P, pzK P) v (pzS P) (pzQ P 0)) v (pzS P)) v (pzS P)) (pzS P) v) v) := rfl
  have m2 : pzQ (zAll L P v) = pzQ (zB L (zRoy L (zNew P (zLv (zTk0 L (P.1, pzS P, pzR P, 0, pzQ P, pzH P, pzC P, pzK P) v (pzS P) (pzQ P 0)) v (pzS P)) v (pzS P)) (pzS P) v) v) := rfl
  rw [m1, m2]
  generalize zRoy L (zNew P (zLv (zTk0 L (P.1, pzS P, pzR P, 0, pzQ P, pzH P, pzC P, pzK P) v (pzS P) (pzQ P 0)) v (pzS P)) v (pzS P)) (pzS P) v = T at n1 ⊢
  unfold zB zPass
  by_cases c : L 18 0 = 0 ∨ v.2.2.2.2.1 = -1
  · rw [if_pos c]
    by_cases d : v.2.2.2.2.2.1 < 2 ∧ 0 < v.2.2.2.2.2.2
    · rw [if_pos d, if_pos ⟨c, d⟩]
      exact ⟨rfl, fun _ => rfl⟩
    · rw [if_neg d, if_neg (fun z => d z.2)]
      exact ⟨n1, fun z => absurd z.2 d⟩
  · rw [if_neg c, if_neg (fun z => c z.1)]
    exact ⟨n1, fun z => absurd z.1 c⟩
/-- men in hand behind it -/
theorem zall_h {d : Nat} : pzH (zAll L P v) d = (if v.2.2.2.2.2.1 = 3 ∧ d = 2 * v.2.2.1.toNat + pzS P then (if ¬ v.2.2.2.2.1 = -1 ∧ (¬ L 15 0 = 0 ∧ ¬ v.2.2.2.2.1 = L 10 0 ∧ pzH P (2 * v.2.2.2.2.1.toNat + pzS P) < 16) ∧ d = 2 * v.2.2.2.2.1.toNat + pzS P then pzH P d + 1 else pzH P d) - 1 else (if ¬ v.2.2.2.2.1 = -1 ∧ (¬ L 15 0 = 0 ∧ ¬ v.2.2.2.2.1 = L 10 0 ∧ pzH P (2 * v.2.2.2.2.1.toNat + pzS P) < 16) ∧ d = 2 * v.2.2.2.2.1.toNat + pzS P then pzH P d + 1 else pzH P d)) := by
  have e0 : ∀ d, pzH (zTk0 L (P.1, pzS P, pzR P, 0, pzQ P, pzH P, pzC P, pzK P) v (pzS P) (pzQ P 0)) d = (if ¬ v.2.2.2.2.1 = -1 ∧ (¬ L 15 0 = 0 ∧ ¬ v.2.2.2.2.1 = L 10 0 ∧ pzH P (2 * v.2.2.2.2.1.toNat + pzS P) < 16) ∧ d = 2 * v.2.2.2.2.1.toNat + pzS P then pzH P d + 1 else pzH P d) := fun d => by
    unfold zTk0 zTk
    by_cases c : v.2.2.2.2.1 = -1
    · rw [if_pos c, if_neg (fun z => z.1 c)]
    · rw [if_neg c]
      by_cases b : ¬ L 15 0 = 0 ∧ ¬ v.2.2.2.2.1 = L 10 0 ∧ pzH P (2 * v.2.2.2.2.1.toNat + pzS P) < 16
      · rw [if_pos b]
        show (if d = 2 * v.2.2.2.2.1.toNat + pzS P then pzH P (2 * v.2.2.2.2.1.toNat + pzS P) + 1 else pzH P d) = _
        by_cases a : d = 2 * v.2.2.2.2.1.toNat + pzS P
        · rw [if_pos a, if_pos ⟨c, b, a⟩, a]
        · rw [if_neg a, if_neg (fun z => a z.2.2)]
      · rw [if_neg b]
        show pzH P d = _
        rw [if_neg (fun z => b z.2.1)]
  have e1 : ∀ {T : Pz} {d : Nat}, pzH (zLv T v (pzS P)) d = (if v.2.2.2.2.2.1 = 3 ∧ d = 2 * v.2.2.1.toNat + pzS P then pzH T d - 1 else pzH T d) := fun {T d} => by
    unfold zLv
    by_cases c : v.2.2.2.2.2.1 = 3
    · rw [if_pos c]
      show (if d = 2 * v.2.2.1.toNat + pzS P then pzH T (2 * v.2.2.1.toNat + pzS P) - 1 else pzH T d) = _
      by_cases a : d = 2 * v.2.2.1.toNat + pzS P
      · rw [if_pos a, if_pos ⟨c, a⟩, a]
      · rw [if_neg a, if_neg (fun z => a z.2)]
    · rw [if_neg c, if_neg (fun z => c z.1)]
      rfl
  have e2 : ∀ {T : Pz}, pzH (zB L (zRoy L (zNew P T v (pzS P)) (pzS P) v) v) = pzH T := fun {T} => by
    have a : pzH (zNew P T v (pzS P)) = pzH T := by
      unfold zNew zCs
      split <;> rfl
    have b : pzH (zRoy L (zNew P T v (pzS P)) (pzS P) v) = pzH T := by
      unfold zRoy
      split <;> exact a
    unfold zB zPass
    split
    · split <;> exact b
    · exact b
  show pzH (zB L (zRoy L (zNew P (zLv (zTk0 L (P.1, pzS P, pzR P, 0, pzQ P, pzH P, pzC P, pzK P) v (pzS P) (pzQ P 0)) v (pzS P)) v (pzS P)) (pzS P) v) v) d = _
  rw [e2, e1, e0]
/-- checks behind it -/
theorem zall_c {d : Nat} : pzC (zAll L P v) d = (if prB' (ckP L (mkM L P v) (pzS P) d) = true then (if pzC P d + 1 < 9 then pzC P d + 1 else 9) else pzC P d) := by
  have e : pzC (zB L (zRoy L (zNew P (zLv (zTk0 L (P.1, pzS P, pzR P, 0, pzQ P, pzH P, pzC P, pzK P) v (pzS P) (pzQ P 0)) v (pzS P)) v (pzS P)) (pzS P) v) v) = pzC P := by
    have a0 : pzC (zTk0 L (P.1, pzS P, pzR P, 0, pzQ P, pzH P, pzC P, pzK P) v (pzS P) (pzQ P 0)) = pzC P := by
      unfold zTk0
      split
      · rfl
      · rw [ztk_C]
    have a : pzC (zLv (zTk0 L (P.1, pzS P, pzR P, 0, pzQ P, pzH P, pzC P, pzK P) v (pzS P) (pzQ P 0)) v (pzS P)) = pzC P := by
      unfold zLv
      split <;> exact a0
    have b : pzC (zNew P (zLv (zTk0 L (P.1, pzS P, pzR P, 0, pzQ P, pzH P, pzC P, pzK P) v (pzS P) (pzQ P 0)) v (pzS P)) v (pzS P)) = pzC P := by
      unfold zNew zCs
      split <;> exact a
    have c : pzC (zRoy L (zNew P (zLv (zTk0 L (P.1, pzS P, pzR P, 0, pzQ P, pzH P, pzC P, pzK P) v (pzS P) (pzQ P 0)) v (pzS P)) v (pzS P)) (pzS P) v) = pzC P := by
      unfold zRoy
      split <;> exact b
    unfold zB zPass
    split
    · split <;> exact c
    · exact c
  have m := zall_m (L := L) (P := P) (v := v)
  have m : (zB L (zRoy L (zNew P (zLv (zTk0 L (P.1, pzS P, pzR P, 0, pzQ P, pzH P, pzC P, pzK P) v (pzS P) (pzQ P 0)) v (pzS P)) v (pzS P)) (pzS P) v) v).1 = mkM L P v := m
  show (if prB' (ckP L (zB L (zRoy L (zNew P (zLv (zTk0 L (P.1, pzS P, pzR P, 0, pzQ P, pzH P, pzC P, pzK P) v (pzS P) (pzQ P 0)) v (pzS P)) v (pzS P)) (pzS P) v) v).1 (pzS P) d) = true then (if pzC (zB L (zRoy L (zNew P (zLv (zTk0 L (P.1, pzS P, pzR P, 0, pzQ P, pzH P, pzC P, pzK P) v (pzS P) (pzQ P 0)) v (pzS P)) v (pzS P)) (pzS P) v) v) d + 1 < 9 then pzC (zB L (zRoy L (zNew P (zLv (zTk0 L (P.1, pzS P, pzR P, 0, pzQ P, pzH P, pzC P, pzK P) v (pzS P) (pzQ P 0)) v (pzS P)) v (pzS P)) (pzS P) v) v) d + 1 else 9) else pzC (zB L (zRoy L (zNew P (zLv (zTk0 L (P.1, pzS P, pzR P, 0, pzQ P, pzH P, pzC P, pzK P) v (pzS P) (pzQ P 0)) v (pzS P)) v (pzS P)) (pzS P) v) v) d) = _
  rw [e, m]
/-- squares that are not touched keep their men -/
theorem shm_o {M : Nat → Int} {p0 : Nat} {cas sd : Int} {q : Nat} (n : ¬ shT p0 v q) : shM M p0 cas sd v q = M q := by
  have n1 : ¬ q = v.2.1.toNat := fun z => n (Or.inl z)
  unfold shM
  split
  · rw [upm_o n1]
  · rename_i k3
    have n2 : ¬ q = v.1.toNat := fun z => n (Or.inr (Or.inl ⟨k3, z⟩))
    rw [upm_o n1, upm_o n2]
    unfold mdM
    split
    · rename_i k2
      rw [upm_o (fun z => n (Or.inr (Or.inr (Or.inr ⟨k2, Or.inr z⟩)))), upm_o (fun z => n (Or.inr (Or.inr (Or.inr ⟨k2, Or.inl z⟩))))]
    · split
      · rename_i k1
        rw [upm_o (fun z => n (Or.inr (Or.inr (Or.inl ⟨k1, z⟩))))]
      · rfl
theorem mkm_o (H : LOk L) (G : MvGd L P v) {q : Nat} (hq : q < 64) (n : ¬ tcQ L P v q) : mkM L P v q = P.1 q := by
  have a : zMen P v q = P.1 q := by
    rw [zmen_e H G q hq]
    exact shm_o (fun z => n (Or.inl z))
  unfold mkM
  split
  · exact a
  · rename_i c
    rw [blm_n (fun z => n (Or.inr ⟨c, z⟩))]
    exact a
theorem sh_t {M : Nat → Int} {p0 : Nat} {cas sd : Int} (n3 : ¬ v.2.2.2.2.2.1 = 3) : shM M p0 cas sd v v.2.1.toNat = nwV sd v := by
  unfold shM
  rw [if_neg n3, upm_s]
/-- a square gone over lies apart from both ends -/
theorem ps_ne {s t k st : Int} {i : Nat} (e : t - s = k * st) (ne : ¬ s = t) (i1 : 1 ≤ i) (ik : (i : Int) < k) : ¬ s + i * st = t ∧ ¬ s + i * st = s := by
  have nz : ¬ st = 0 := fun z => by
    rw [z, Int.mul_zero] at e
    omega
  constructor
  · intro z
    have : (k - i) * st = 0 := by rw [Int.sub_mul]; omega
    rcases Int.mul_eq_zero.mp this with y | y
    · omega
    · exact nz y
  · intro z
    have : (i : Int) * st = 0 := by omega
    rcases Int.mul_eq_zero.mp this with y | y
    · omega
    · exact nz y
theorem pz_ok (H : LOk L) (K : LawK L) (O : PzOk L P) (G : MvGd L P v) : PzOk L (zAll L P v) := by
  have sq := sq_64 H
  have L2 := H.2.2.1
  have isd := O.2.2.1
  have hO := O.2.2.2.2.2.1
  have mg := G.1.2.1
  have lg := G.2.1
  obtain ⟨mo, un⟩ := mkm_ok H K O G
  refine ⟨by rw [zall_m]; exact mo, by rw [zall_m]; exact un, by rw [zall_s]; omega, fun q hq r => ?_, ?_, ⟨fun d hd => ?_, fun d hd z => ?_, fun z d hd => ?_⟩, fun d hd => ?_, ?_⟩
  · obtain ⟨r1, r2, _⟩ := (zall_r H G hq).mp r
    rw [zall_m, mkm_o H G hq r2]
    exact O.2.2.2.1 q hq r1
  · obtain ⟨n1, n2⟩ := zall_n (L := L) (P := P) (v := v)
    by_cases c : (L 18 0 = 0 ∨ v.2.2.2.2.1 = -1) ∧ v.2.2.2.2.2.1 < 2 ∧ 0 < v.2.2.2.2.2.2
    · rw [if_pos c] at n1
      rw [n1, n2 c, zall_m, zall_s]
      have k3 : ¬ v.2.2.2.2.2.1 = 3 := by have := c.2.1; omega
      obtain ⟨⟨s0, sL⟩, ms⟩ := mvgd_s G k3
      obtain ⟨t0, tL⟩ := G.1.1
      rcases G.2.2.2.2.2.2.2.1 c.2.1 with z | ⟨k2, ⟨k7, X, Y, iX, iY, on, et⟩, em⟩
      · have := c.2.2; omega
      have ed : v.2.1 - v.1 = v.2.2.2.2.2.2 * (Y * L 0 0 + X) := by rw [et, tgt_s]; omega
      have est : (v.2.1 - v.1) / v.2.2.2.2.2.2 = Y * L 0 0 + X := by rw [ed, Int.mul_ediv_cancel_left _ (by omega)]
      have ne := G.2.2.2.2.2.2.2.2 k3
      have mk : mkM L P v = zMen P v := if_pos c.1
      have q0 : psQ v 0 = v.2.1.toNat := if_pos rfl
      have fi := H.1
      have on' : ∀ i : Nat, 1 ≤ i → (i : Int) < v.2.2.2.2.2.2 → 0 ≤ v.1 + i * (Y * L 0 0 + X) ∧ v.1 + i * (Y * L 0 0 + X) < L 0 0 * L 1 0 := fun i i1 i2 => by
        have m := onk_mid (show 0 < L 0 0 by omega) s0 sL on (j := (i : Int)) ⟨by omega, by omega⟩
        have := tgt_on (show 0 < L 0 0 by omega) m
        rw [tgt_s] at this
        exact ⟨this.1, this.2.1⟩
      have qi : ∀ i : Nat, 1 ≤ i → psQ v i = (v.1 + i * (Y * L 0 0 + X)).toNat := fun i i1 => by
        unfold psQ
        rw [if_neg (by omega), est]
      have mt : zMen P v v.2.1.toNat = nwV (pzS P) v := by rw [zmen_e H G _ (by omega)]; exact sh_t k3
      have nw := nw_in O G
      refine Or.inr ⟨by omega, by omega, fun i hi => ?_, by rw [q0, mk, mt]; exact nw.1, ?_, fun i i1 i2 => ?_⟩
      · by_cases i0 : i = 0
        · rw [i0, q0]; omega
        · rw [qi i (by omega)]
          have := on' i (by omega) (by omega)
          omega
      · rw [q0, mk, mt]
        unfold nwV cdV
        omega
      · have o1 := on' i i1 (by omega)
        have pn := ps_ne ed ne i1 (show (i : Int) < v.2.2.2.2.2.2 by omega)
        have e0 := em i i1 (by omega)
        rw [est] at e0
        rw [qi i i1, mk, zmen_e H G _ (by omega)]
        unfold shM
        rw [if_neg k3, upm_o (by omega), upm_o (by omega)]
        unfold mdM
        rw [if_neg (by have := c.2.1; omega)]
        split
        · by_cases w : (v.1 + i * (Y * L 0 0 + X)).toNat = pzQ P 0
          · rw [w, upm_s]
          · rw [upm_o w]; exact e0
        · exact e0
    · rw [if_neg c] at n1
      exact Or.inl n1
  · rw [zall_h]
    have h1 := hO.1 d hd
    by_cases a : v.2.2.2.2.2.1 = 3 ∧ d = 2 * v.2.2.1.toNat + pzS P
    · rw [if_pos a]
      have g := G.2.2.2.2.2.2.1 a.1
      rw [if_neg (fun z => z.1 g.2.1)]
      have := g.2.2.2.2.2
      rw [← a.2] at this
      omega
    · rw [if_neg a]
      split
      · rename_i c
        have := c.2.1.2.2
        rw [← c.2.2] at this
        omega
      · exact h1
  · rw [zall_h]
    have h1 := hO.2.1 d hd z
    have g := G.2.2.1
    rw [if_neg (fun a => by
      have g3 := G.2.2.2.2.2.2.1 a.1
      have := g3.2.2.2.2.2
      rw [← a.2] at this
      omega), if_neg (fun a => by
      have a1 := a.1
      have a2 := a.2.1.2.1
      have a3 := a.2.2
      omega)]
    exact h1
  · rw [zall_h]
    have h1 := hO.2.2 z d hd
    rw [if_neg (fun a => by
      have g3 := G.2.2.2.2.2.2.1 a.1
      have := g3.2.2.2.2.2
      rw [← a.2] at this
      omega), if_neg (fun a => a.2.1.1 z)]
    exact h1
  · rw [zall_c]
    have c := O.2.2.2.2.2.2.1 d hd
    split
    · split <;> omega
    · exact c
  · rw [zall_k]
    unfold zCnt
    have k := O.2.2.2.2.2.2.2
    split
    · omega
    · split <;> omega
end
end
section
/-! the reference: whether a move is safe -/
/-- the ROYAL man of a side stands on the board -/
def RyE (L : Nat → Nat → Int) (M : Nat → Int) (d : Nat) : Prop := ∃ s : Nat, s < 64 ∧ 0 ≤ L 10 0 ∧ M s = 1 + 2 * L 10 0 + d
/-- a move that may be made -/
def sfP (L : Nat → Nat → Int) (P : Pz) (v : MvT) : Prop := (RyE L P.1 (pzS P) → RyE L (mkM L P v) (pzS P) ∧ ((RyE L P.1 (1 - pzS P) ∧ ¬ RyE L (mkM L P v) (1 - pzS P)) ∨ ¬ RyH L (mkM L P v) (pzS P))) ∧ (L 17 0 = 0 ∨ ¬ RyH L (mkM L P v) (1 - pzS P))
theorem roa_e {L : Nat → Nat → Int} {x : Int32} {M : Nat → Int} {d : Nat} (R : RoA x M (L 10 0) d) : (x = (-1 : Int32) ∧ ¬ RyE L M d) ∨ (¬ x = (-1 : Int32) ∧ Rg 0 63 x ∧ 0 ≤ L 10 0 ∧ M x.toNatClampNeg = 1 + 2 * L 10 0 + d ∧ RyE L M d) := by
  rcases R with ⟨a, b⟩ | ⟨a, b, c⟩
  · exact Or.inl ⟨a, fun ⟨s, hs, r, m⟩ => b s hs r m⟩
  · refine Or.inr ⟨fun z => ?_, a, b, c, x.toNatClampNeg, ?_, b, c⟩
    · rw [z] at a; exact absurd a.1 (by decide)
    · have := nc_i a.1
      have := a.2
      omega
theorem ryh_n {L : Nat → Nat → Int} {M : Nat → Int} {d : Nat} (n : ¬ RyE L M d) : ¬ RyH L M d := fun ⟨s, hs, r, m, _⟩ => n ⟨s, hs, r, m⟩
section
variable {F : Nat} {V : Nat → Nat} {L : Nat → Nat → Int} {h : Hp} {T P : Pz} {v : MvT} {o : Int32 × Hp}
theorem ryh_u {M : Nat → Int} {d : Nat} {x : Nat} {b : Int32} (U : UnM M (L 10 0)) (hd : d < 2) (x64 : x < 64) (a2 : 0 ≤ L 10 0) (a3 : M x = 1 + 2 * L 10 0 + d) (q : (b = 0 ∧ ¬ AttP L M (1 - (d : Int)) x) ∨ (b = 1 ∧ AttP L M (1 - (d : Int)) x)) : (b = 0 ∧ ¬ RyH L M d) ∨ (b = 1 ∧ RyH L M d) := by
  rcases q with ⟨q, n⟩ | ⟨q, n⟩
  · refine Or.inl ⟨q, fun ⟨s, hs, r, m, at'⟩ => ?_⟩
    have es := U r d s x hd hs x64 m a3
    rw [es] at at'
    exact n at'
  · exact Or.inr ⟨q, x, x64, a2, a3, n⟩
/-- on the board that was written -/
theorem ryh_t (D : VD V) {x by' : Int32} {d : Nat} (H : LOk L) (HT : MOk L T.1) (U : UnM T.1 (L 10 0)) (W : RW0 V h L) (R : RbT V h T) (hd : d < 2) (a1 : Rg 0 63 x) (a2 : 0 ≤ L 10 0) (a3 : T.1 x.toNatClampNeg = 1 + 2 * L 10 0 + d) (eb : by'.toInt = 1 - (d : Int)) (e : sX15_isAttacked F h (V 16) (V 213) x by' = some o) : FrV V (wl wdx) h o.2 ∧ ((o.1 = 0 ∧ ¬ RyH L T.1 d) ∨ (o.1 = 1 ∧ RyH L T.1 d)) := by
  obtain ⟨G, q⟩ := att_r (vd_r D) H HT a1.1 ⟨by omega, by omega⟩ (rwd_t W R) e
  have ca := nc_i a1.1
  have a63 := a1.2
  rw [eb] at q
  exact ⟨fv_s (fv_sr G) (by decide), ryh_u U hd (by omega) a2 a3 q⟩
theorem ryh_b (D : VD V) {x by' : Int32} {d : Nat} (H : LOk L) (HT : MOk L P.1) (U : UnM P.1 (L 10 0)) (W : RW0 V h L) (R : RbP V h P) (hd : d < 2) (a1 : Rg 0 63 x) (a2 : 0 ≤ L 10 0) (a3 : P.1 x.toNatClampNeg = 1 + 2 * L 10 0 + d) (eb : by'.toInt = 1 - (d : Int)) (e : sX15_isAttacked F h (V 16) (V 13) x by' = some o) : FrV V (wl wdx) h o.2 ∧ ((o.1 = 0 ∧ ¬ RyH L P.1 d) ∨ (o.1 = 1 ∧ RyH L P.1 d)) := by
  obtain ⟨G, q⟩ := att_r D H HT a1.1 ⟨by omega, by omega⟩ (rwd_b W R) e
  have ca := nc_i a1.1
  have a63 := a1.2
  rw [eb] at q
  exact ⟨G, ryh_u U hd (by omega) a2 a3 q⟩
theorem rbt_f (D : VD V) {Ls : List (Nat × Nat)} {g : Hp} (R : RbT V h T) (A : FrV V (wl Ls) h g) (n : ∀ p, p ∈ Ls → p.1 ∈ vql ∧ ¬ p.1 = 213 ∧ ¬ p.1 = 262 ∧ ¬ p.1 = 263 ∧ ¬ p.1 = 264 ∧ ¬ p.1 = 265) : RbT V g T := by
  have hL : ∀ p, p ∈ Ls → p.1 ∈ vql := fun p hp => (n p hp).1
  have n13 : ∀ p, p ∈ Ls → ¬ p.1 = 213 := fun p hp => (n p hp).2.1
  have n62 : ∀ p, p ∈ Ls → ¬ p.1 = 262 := fun p hp => (n p hp).2.2.1
  have n63 : ∀ p, p ∈ Ls → ¬ p.1 = 263 := fun p hp => (n p hp).2.2.2.1
  have n64 : ∀ p, p ∈ Ls → ¬ p.1 = 264 := fun p hp => (n p hp).2.2.2.2.1
  have n65 : ∀ p, p ∈ Ls → ¬ p.1 = 265 := fun p hp => (n p hp).2.2.2.2.2
  obtain ⟨a, b, c, d, e, f, g, i, j⟩ := R
  exact ⟨⟨by rw [A.1]; exact a.1, by rw [A.1]; exact a.2.1, by rw [A.1]; exact a.2.2.1, by rw [A.1]; exact a.2.2.2⟩, fun s hs => by rw [fvI D A 262 s n62 (by decide) hL]; exact b s hs, by rw [fvI D A 213 1 n13 (by decide) hL]; exact c, fun q hq => by rw [fvJ D A 213 2 n13 (by decide) hL]; exact d q hq, by rw [fvI D A 213 3 n13 (by decide) hL]; exact e, fun q hq => by rw [fvI D A 263 q n63 (by decide) hL]; exact f q hq, fun q hq => by rw [fvI D A 264 q n64 (by decide) hL]; exact g q hq, fun q hq => by rw [fvI D A 265 q n65 (by decide) hL]; exact i q hq, by rw [fvI D A 213 7 n13 (by decide) hL]; exact j⟩
/-- the other side's ROYAL man, where men are shy -/
theorem sf_114 (D : VD V) {x4 : Int32} {sd : Nat} (H : LOk L) (HT : MOk L T.1) (U : UnM T.1 (L 10 0)) (W : RW0 V h L) (R : RbT V h T) (w28 : hR h (V 16) 28 = some (V 213)) (isd : sd < 2) (bs : (hI h (V 13) 1).toInt = (sd : Int)) (ro : RoA x4 T.1 (L 10 0) (1 - sd)) (e : sX15_isSafe_114 F h (V 16) (V 13) x4 = some o) : FrV V (wl wdx) h o.2 ∧ ((o.1 = 0 ∧ ¬ (L 17 0 = 0 ∨ ¬ RyH L T.1 (1 - sd))) ∨ (o.1 = 1 ∧ (L 17 0 = 0 ∨ ¬ RyH L T.1 (1 - sd)))) := by
  have z0 : (0 : Int32).toInt = 0 := rfl
  have l17 : (hI h (V 15) 17).toInt = L 17 0 := lw_0 (rwd_t W R) (by decide) 0
  unfold sX15_isSafe_114 sX15_isSafe_147 sX15_isSafe_152 at e
  replace e := ce_e W.1.1 e
  rcases br_s e with ⟨c, e⟩ | ⟨c, e⟩
  · rw [so_e (gg_e e)]
    rw [c, z0] at l17
    exact ⟨fv_0, Or.inr ⟨rfl, Or.inl l17.symm⟩⟩
  have n17 : ¬ L 17 0 = 0 := fun z => c (Int32.toInt_inj.mp (by rw [l17, z, z0]))
  rcases roa_e ro with ⟨r1, r2⟩ | ⟨r1, r2, r3, r4, r5⟩
  · replace e := bp_e r1 e
    rw [so_e (gg_e e)]
    exact ⟨fv_0, Or.inr ⟨rfl, Or.inr (ryh_n r2)⟩⟩
  replace e := bn_e r1 e
  replace e := ce_e w28 e
  replace e := cl_s e; obtain ⟨o5, eo5, e⟩ := e
  obtain ⟨A, q⟩ := ryh_t D H HT U W R (d := 1 - sd) (by omega) r2 r3 r4 (by rw [bs]; omega) eo5
  rcases br_s e with ⟨y, e⟩ | ⟨y, e⟩
  · rw [so_e (gg_e e)]
    refine ⟨A, Or.inr ⟨rfl, Or.inr ?_⟩⟩
    rcases q with ⟨_, q⟩ | ⟨q, _⟩
    · exact q
    · rw [q] at y; exact absurd y (by decide)
  · rw [so_e (gg_e e)]
    refine ⟨A, Or.inl ⟨rfl, fun z => ?_⟩⟩
    rcases q with ⟨q, _⟩ | ⟨_, q⟩
    · exact y q
    · rcases z with z | z
      · exact n17 z
      · exact z q
theorem sf_80 (D : VD V) {x4 x5 t0 : Int32} {sd : Nat} (H : LOk L) (HT : MOk L T.1) (U : UnM T.1 (L 10 0)) (W : RW0 V h L) (R : RbT V h T) (w28 : hR h (V 16) 28 = some (V 213)) (isd : sd < 2) (bs : (hI h (V 13) 1).toInt = (sd : Int)) (ro : RoA x4 T.1 (L 10 0) (1 - sd)) (ow : RoA x5 T.1 (L 10 0) sd) (e : sX15_isSafe_80 F h (V 16) (V 13) x4 x5 t0 = some o) : FrV V (wl wdx) h o.2 ∧ ((o.1 = 0 ∧ ¬ ((RyE L T.1 sd ∧ (¬ t0 = 0 ∨ ¬ RyH L T.1 sd)) ∧ (L 17 0 = 0 ∨ ¬ RyH L T.1 (1 - sd)))) ∨ (o.1 = 1 ∧ (RyE L T.1 sd ∧ (¬ t0 = 0 ∨ ¬ RyH L T.1 sd)) ∧ (L 17 0 = 0 ∨ ¬ RyH L T.1 (1 - sd)))) := by
  have z1 : (1 : Int32).toInt = 1 := rfl
  unfold sX15_isSafe_80 sX15_isSafe_112 at e
  rcases roa_e ow with ⟨r1, r2⟩ | ⟨r1, r2, r3, r4, r5⟩
  · replace e := bp_e r1 e
    rw [so_e e]
    exact ⟨fv_0, Or.inl ⟨rfl, fun z => r2 z.1.1⟩⟩
  replace e := bn_e r1 e
  have fin : ∀ {g : Hp}, FrV V (wl wdx) h g → (¬ t0 = 0 ∨ ¬ RyH L T.1 sd) → sX15_isSafe_114 F g (V 16) (V 13) x4 = some o → FrV V (wl wdx) h o.2 ∧ ((o.1 = 0 ∧ ¬ ((RyE L T.1 sd ∧ (¬ t0 = 0 ∨ ¬ RyH L T.1 sd)) ∧ (L 17 0 = 0 ∨ ¬ RyH L T.1 (1 - sd)))) ∨ (o.1 = 1 ∧ (RyE L T.1 sd ∧ (¬ t0 = 0 ∨ ¬ RyH L T.1 sd)) ∧ (L 17 0 = 0 ∨ ¬ RyH L T.1 (1 - sd)))) := fun {g} G k u => by
    obtain ⟨A, q⟩ := sf_114 D H HT U (rw0_f D W G (by decide) rfl rfl rfl) (rbt_f D R G (by decide)) (by rw [G.1]; exact w28) isd (by rw [fvI D G 13 1]; exact bs) ro u
    refine ⟨fv_t G A, ?_⟩
    rcases q with ⟨q1, q2⟩ | ⟨q1, q2⟩
    · exact Or.inl ⟨q1, fun z => q2 z.2⟩
    · exact Or.inr ⟨q1, ⟨r5, k⟩, q2⟩
  rcases br_s e with ⟨c, e⟩ | ⟨c, e⟩
  · replace e := ce_e w28 e
    replace e := cl_s e; obtain ⟨o4, eo4, e⟩ := e
    obtain ⟨A, q⟩ := ryh_t D H HT U W R (d := sd) isd r2 r3 r4 (by rw [ts (by rw [z1, bs]; omega), z1, bs]) eo4
    rcases br_s e with ⟨y, e⟩ | ⟨y, e⟩
    · refine fin A (Or.inr ?_) e
      rcases q with ⟨_, q⟩ | ⟨q, _⟩
      · exact q
      · rw [q] at y; exact absurd y (by decide)
    · rw [so_e e]
      refine ⟨A, Or.inl ⟨rfl, fun z => ?_⟩⟩
      rcases q with ⟨q, _⟩ | ⟨_, q⟩
      · exact y q
      · rcases z.1.2 with w | w
        · exact w c
        · exact w q
  · exact fin fv_0 (Or.inl c) e
/-- what legal needs of the world -/
def LgW (V : Nat → Nat) (h : Hp) (L : Nat → Nat → Int) (P : Pz) : Prop := RW0 V h L ∧ WMf V h ∧ RbP V h P ∧ VPr (vR V) h ∧ hR h (V 16) 28 = some (V 213) ∧ hR h (V 16) 25 = some (V 86) ∧ hR h (V 16) 26 = some (V 87) ∧ hR h (V 16) 27 = some (V 88)
theorem lgw_f (D : VD V) {Ls : List (Nat × Nat)} {g : Hp} (W : LgW V h L P) (A : FrV V (wl Ls) h g) (n : ∀ p, p ∈ Ls → p.1 ∈ vql ∧ ¬ p.1 = 15 ∧ ¬ (73 ≤ p.1 ∧ p.1 ≤ 81)) (n11 : wl Ls 16 11 = false) (n12 : wl Ls 16 12 = false) (n13 : wl Ls 16 13 = false) (n' : ∀ p, p ∈ Ls → p.1 ∈ vql ∧ ¬ p.1 = 13 ∧ ¬ p.1 = 62 ∧ ¬ p.1 = 63 ∧ ¬ p.1 = 64 ∧ ¬ p.1 = 65) : LgW V g L P :=
  ⟨rw0_f D W.1 A n n11 n12 n13, wmf_f W.2.1 A, rbp_f D W.2.2.1 A n', ⟨by rw [A.1]; exact W.2.2.2.1.1, by rw [A.1]; exact W.2.2.2.1.2.1, by rw [A.1]; exact W.2.2.2.1.2.2.1, by rw [A.1]; exact W.2.2.2.1.2.2.2⟩, by rw [A.1]; exact W.2.2.2.2.1, by rw [A.1]; exact W.2.2.2.2.2.1, by rw [A.1]; exact W.2.2.2.2.2.2.1, by rw [A.1]; exact W.2.2.2.2.2.2.2⟩
/-- make, for good moves -/
theorem mkg_r (D : VD V) {x3 : Int32} {o : Hp} (H : LOk L) (K : LawK L) (O : PzOk L P) (G : MvGd L P v) (W : MkW V h L P v x3.toNatClampNeg) (Tp : VPr (vR V) h) (e : sX15_make F h (V 16) (V 13) (V 14) x3 (V 213) = some o) : FrV V (wl wmk) h o ∧ RbT V o (zAll L P v) := by
  have L2 := H.2.2.1
  have kr := K.2.1
  obtain ⟨mo, un⟩ := zmen_ok H K O G
  have kk := mvgd_k G
  have lg := G.2.1
  refine mk_r D H ⟨kr.1, by omega⟩ W Tp O.2.2.1 O.2.2.2.2.2.2.1 O.2.2.2.2.2.2.2 O.2.2.2.2.2.1.1 G.1.2.1 G.1.1 (by omega) (fun n => (mvgd_s G n).1) (fun a b => ?_) (fun k => ?_) (by have := G.1.2.2.1; omega) (by have := G.2.2.1; omega) (fun k => ?_) mo un e
  · rcases G.2.2.2.2.2.2.2.1 a with z | z
    · omega
    · exact z.2.1
  · have := (G.2.2.2.2.2.1 k).2.2.2.2.2
    have sq := sq_64 H
    obtain ⟨_, _, _, p0, _⟩ := G.1.2.2.2.2.2 k
    omega
  · exact ⟨by have := (G.2.2.2.2.1 k).1; omega, (p0_ne O G k).2.2⟩
theorem sf_r (D : VD V) {x3 : Int32} (H : LOk L) (K : LawK L) (O : PzOk L P) (G : MvGd L P v) (W : LgW V h L P) (row : rowM V h x3.toNatClampNeg = v) (e : sX15_isSafe F h (V 16) (V 13) (V 14) x3 = some o) : FrV V (wl wmk) h o.2 ∧ ((o.1 = 0 ∧ ¬ sfP L P v) ∨ (o.1 = 1 ∧ sfP L P v)) := by
  have z1 : (1 : Int32).toInt = 1 := rfl
  have L2 := H.2.2.1
  have isd := O.2.2.1
  have kr : -1 ≤ L 10 0 ∧ L 10 0 ≤ 11 := ⟨K.2.1.1, by have := K.2.1.2; omega⟩
  obtain ⟨mo, un⟩ := mkm_ok H K O G
  unfold sX15_isSafe sX15_isSafe_79 at e
  replace e := ce_e W.2.2.2.2.1 e
  replace e := cl_s e; obtain ⟨g, eg, e⟩ := e
  obtain ⟨A, R⟩ := mkg_r D H K O G ⟨W.1, W.2.1, row, W.2.2.1⟩ W.2.2.2.1 eg
  have Wg := rw0_m D W.1 A
  have Rb := rbp_f D W.2.2.1 A (by decide)
  have w28 : hR g (V 16) 28 = some (V 213) := by rw [A.1]; exact W.2.2.2.2.1
  have bs := Rb.2.2.1
  have s1 : ((1 : Int32) - (hI g (V 13) 1)).toInt = ((1 - pzS P : Nat) : Int) := by rw [ts (by rw [z1, bs]; omega), z1, bs]; omega
  have em := zall_m (L := L) (P := P) (v := v)
  have HT : MOk L (zAll L P v).1 := by rw [em]; exact mo
  have U : UnM (zAll L P v).1 (L 10 0) := by rw [em]; exact un
  have T1 := rwd_t Wg R
  have B1 := rwd_b Wg Rb
  replace e := ce_e w28 e
  replace e := cl_s e; obtain ⟨o4, eo4, e⟩ := e
  obtain ⟨w4, r4⟩ := roy_r H HT T1 kr s1 (by omega) eo4
  rw [w4] at e
  replace e := cl_s e; obtain ⟨o5, eo5, e⟩ := e
  obtain ⟨w5, r5⟩ := roy_r H O.1 B1 kr bs isd eo5
  rw [w5] at e
  unfold sfP
  rw [← em]
  rcases roa_e r5 with ⟨a1, a2⟩ | ⟨a1, _, _, _, a5⟩
  · replace e := bp_e a1 e
    obtain ⟨B, q⟩ := sf_114 D H HT U Wg R w28 isd bs r4 e
    refine ⟨fv_t A (fv_s B (by decide)), ?_⟩
    rcases q with ⟨q1, q2⟩ | ⟨q1, q2⟩
    · exact Or.inl ⟨q1, fun z => q2 z.2⟩
    · exact Or.inr ⟨q1, fun z => absurd z a2, q2⟩
  replace e := bn_e a1 e
  replace e := ce_e w28 e
  replace e := cl_s e; obtain ⟨o8, eo8, e⟩ := e
  obtain ⟨w8, r8⟩ := roy_r H HT T1 kr bs isd eo8
  rw [w8] at e
  replace e := cl_s e; obtain ⟨o9, eo9, e⟩ := e
  obtain ⟨w9, r9⟩ := roy_r H O.1 B1 kr s1 (by omega) eo9
  rw [w9] at e
  have fin : ∀ {t0 : Int32}, (¬ t0 = 0 ↔ (RyE L P.1 (1 - pzS P) ∧ ¬ RyE L (zAll L P v).1 (1 - pzS P))) → sX15_isSafe_80 F g (V 16) (V 13) o4.1 o8.1 t0 = some o → FrV V (wl wmk) h o.2 ∧ ((o.1 = 0 ∧ ¬ ((RyE L P.1 (pzS P) → RyE L (zAll L P v).1 (pzS P) ∧ ((RyE L P.1 (1 - pzS P) ∧ ¬ RyE L (zAll L P v).1 (1 - pzS P)) ∨ ¬ RyH L (zAll L P v).1 (pzS P))) ∧ (L 17 0 = 0 ∨ ¬ RyH L (zAll L P v).1 (1 - pzS P)))) ∨ (o.1 = 1 ∧ (RyE L P.1 (pzS P) → RyE L (zAll L P v).1 (pzS P) ∧ ((RyE L P.1 (1 - pzS P) ∧ ¬ RyE L (zAll L P v).1 (1 - pzS P)) ∨ ¬ RyH L (zAll L P v).1 (pzS P))) ∧ (L 17 0 = 0 ∨ ¬ RyH L (zAll L P v).1 (1 - pzS P)))) := fun {t0} ht u => by
    obtain ⟨B, q⟩ := sf_80 D H HT U Wg R w28 isd bs r4 r8 u
    refine ⟨fv_t A (fv_s B (by decide)), ?_⟩
    rw [ht] at q
    rcases q with ⟨q1, q2⟩ | ⟨q1, q2⟩
    · exact Or.inl ⟨q1, fun z => q2 ⟨z.1 a5, z.2⟩⟩
    · exact Or.inr ⟨q1, fun _ => q2.1, q2.2⟩
  rcases roa_e r9 with ⟨b1, b2⟩ | ⟨b1, _, _, _, b5⟩
  · exact fin ⟨fun z => absurd rfl z, fun z => absurd z.1 b2⟩ (bp_e b1 e)
  replace e := bn_e b1 e
  rcases roa_e r4 with ⟨c1, c2⟩ | ⟨c1, _, _, _, c5⟩
  · exact fin ⟨fun _ => ⟨b5, c2⟩, fun _ => by decide⟩ (bp_e c1 e)
  · exact fin ⟨fun z => absurd rfl z, fun z => absurd c5 z.2⟩ (bn_e c1 e)
end
end
