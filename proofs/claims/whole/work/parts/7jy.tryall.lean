/-! the reference: all moves that are tried -/
abbrev wta : List (Nat × Nat) := [(14, 0), (66, 999), (67, 999), (68, 999), (69, 999), (70, 999), (71, 999), (72, 999), (16, 23), (16, 24), (86, 999), (87, 999), (88, 999)]
def RAl (V : Nat → Nat) (h : Hp) (L : Nat → Nat → Int) (M : Nat → Int) (ov rt : Nat → Prop) (p0 sd : Nat) (hd : Nat → Int) : Prop := LdW V h L M ov ∧ WMf V h ∧ hR h (V 13) 5 = some (V 64) ∧ (hI h (V 13) 1).toInt = (sd : Int) ∧ (∀ q, q < 64 → (bitJ (hJ h (V 13) 2) q = true ↔ rt q)) ∧ ((∃ t, ov t) → (hI h (V 63) 0).toInt = (p0 : Int) ∧ p0 < 64 ∧ 0 < M p0) ∧ ∀ m, m < 12 → hd m = (hI h (V 64) (2 * m + sd)).toInt
section
variable {F : Nat} {V : Nat → Nat} {L : Nat → Nat → Int} {M : Nat → Int} {o : Hp} {ov rt : Nat → Prop} {p0 sd : Nat} {hd : Nat → Int}
theorem ral_f (D : VD V) {h g : Hp} (P : RAl V h L M ov rt p0 sd hd) (A : FrV V (wl wta) h g) : RAl V g L M ov rt p0 sd hd :=
  ⟨ldw_f D P.1 A (by decide) (by decide) rfl rfl rfl rfl (by decide), wmf_f P.2.1 A, by rw [A.1]; exact P.2.2.1, by rw [fvi D A 13 1]; exact P.2.2.2.1, fun q hq => by rw [fvj D A 13 2]; exact P.2.2.2.2.1 q hq, fun z => by rw [fvI D A 63 0]; exact P.2.2.2.2.2.1 z, fun m hm => by rw [fvI D A 64 (2 * m + sd)]; exact P.2.2.2.2.2.2 m hm⟩
theorem ta_50 (D : VD V) {k : Hp → Nat → Nat → Nat → Int32 → Option Hp} {x3 x4 : Int32} {s : Nat} {ms : List MvT} (H : LOk L) (HM : MOk L M) (B : lwBk L) (e3 : x3.toInt = (s : Int)) (sL : (s : Int) < L 0 0 * L 1 0) (m0 : 0 < M s) (e4 : x4.toInt = M s) (esd : (M s - 1) % 2 = (sd : Int)) (isd : sd < 2) (lm : ms.length < 80000) : ∀ (f : Nat) {h : Hp} {x5 : Int32} {t : Nat}, x5.toInt = (t : Int) → (t : Int) ≤ L 0 0 * L 1 0 → RAl V h L M ov rt p0 sd hd → RwS L ov true V h (ldD L M ov true sd (mnO (M s)) s) → RLs V h (ms ++ (List.range t).flatMap (moS L M ov rt p0 sd s)) → sX15_tryAll_50 F k f h (V 16) (V 13) (V 14) x3 x4 x5 = some o → ∃ g, FrV V (wl wta) h g ∧ RLs V g (ms ++ (List.range (L 0 0 * L 1 0).toNat).flatMap (moS L M ov rt p0 sd s)) ∧ k g (V 16) (V 13) (V 14) (x3 + (1 : Int32)) = some o := by
  have z1 : (1 : Int32).toInt = 1 := rfl
  have zm : (-1 : Int32).toInt = -1 := by decide
  have sq := sq_64 H
  have L2 := H.2.2.1
  have s64 : s < 64 := by omega
  have m12 := mno_12 H HM s64 m0
  have mL := (mno_lt (L := L) m0 ((HM s s64).2 m0).2).1
  have vL := ((HM s s64).2 m0).2
  have Hst : ∀ x : Nat, (x : Int) < L 74 (mnO (M s)) → StR L (8 * mnO (M s) + x) := fun x hx => (H.2.2.2 _ mL).2 x hx
  have tv : (x4 - (1 : Int32)).toInt = M s - 1 := by rw [ts (by rw [z1]; omega), z1, e4]
  have sh : ((x4 - (1 : Int32)) >>> ((1 : Int32) &&& 31)).toInt = ((mnO (M s) : Nat) : Int) := by
    rw [shr_i 1 (by decide), tv, (mno_lt (L := L) m0 vL).2]
    rfl
  intro f
  induction f with
  | zero => intro h x5 t _ _ _ _ _ e; exact absurd e (by rw [sX15_tryAll_50]; exact fun z => nomatch z)
  | succ f ih =>
    intro h x5 t e5 tL A R S e
    have f13 := A.1.1.2.1.2.2.2
    rw [sX15_tryAll_50] at e
    unfold sX15_tryAll_114 sX15_manOf at e
    rcases br_s e with ⟨c, e⟩ | ⟨c, e⟩
    · have c := le_i c
      rw [f13, e5] at c
      have : (L 0 0 * L 1 0).toNat = t := by omega
      rw [this]
      exact ⟨h, fv_0, S, nx_e e⟩
    have c := nle_i c
    rw [f13, e5] at c
    have c5 : x5.toNatClampNeg = t := by have := nc_i (x := x5) (by omega); omega
    have t5 : (x5 + (1 : Int32)).toInt = ((t + 1 : Nat) : Int) := by rw [ta (by rw [z1]; omega), z1, e5]; omega
    have ln : ((List.range t).flatMap (moS L M ov rt p0 sd s)).length ≤ 8 * t := by
      rw [fl_sn]
      have := sn_le (f := fun t => (moS L M ov rt p0 sd s t).length) (g := fun _ => 8) t (fun t _ => mos_8 (B _ m12))
      rw [sn_k] at this
      exact this
    have k84 : ∀ {g : Hp}, FrV V (wl wtc) h g → RLs V g (ms ++ (List.range t).flatMap (moS L M ov rt p0 sd s) ++ stA L M ov p0 sd (mnO (M s)) s t) → sX15_tryAll_84 F k (sX15_tryAll_50 F k f) g (V 16) (V 13) (V 14) x3 x4 x5 = some o → ∃ g, FrV V (wl wta) h g ∧ RLs V g (ms ++ (List.range (L 0 0 * L 1 0).toNat).flatMap (moS L M ov rt p0 sd s)) ∧ k g (V 16) (V 13) (V 14) (x3 + (1 : Int32)) = some o := fun {g} G Rg' u => by
      have Ga : FrV V (wl wta) h g := fv_s G (by decide)
      have Ag := ral_f D A Ga
      have Wg := Ag.1.1
      have l10 : (hI g (V 15) 10).toInt = L 10 0 := lw_0 Wg (by decide) 0
      unfold sX15_tryAll_84 sX15_tryAll_108 sX15_manOf at u
      replace u := cl_s u; obtain ⟨o1, eo1, u⟩ := u
      rw [so_e eo1] at u
      replace u := ce_e Wg.1.1 u
      rcases br_s u with ⟨y, u⟩ | ⟨y, u⟩
      · have y : ((x4 - (1 : Int32)) >>> ((1 : Int32) &&& 31)) = hI g (V 15) 10 := y
        rw [y, l10] at sh
        replace u := cl_s u; obtain ⟨g2, eg2, u⟩ := u
        obtain ⟨A2, R2⟩ := tcs_r D H HM isd e3 sL e5 c (by
          have := sta_6 (L := L) (M := M) (ov := ov) (p0 := p0) (sd := sd) (s := s) (t := t) (B _ m12)
          rw [List.length_append, List.length_append]
          omega) Wg Ag.2.1 Ag.2.2.2.1 Ag.2.2.2.2.1 Rg' eg2
        have G2 := fv_t G A2
        have Ga2 : FrV V (wl wta) h g2 := fv_s G2 (by decide)
        obtain ⟨g', G', R', u'⟩ := ih (t := t + 1) t5 (by omega) (ral_f D A Ga2) (rws_k R (fun i => fvI D G2 86 i) (fun i => fvI D G2 87 i) (fun i => fvI D G2 88 i)) (by
          rw [flat_s]
          unfold moS
          rw [if_pos sh.symm, ← List.append_assoc, ← List.append_assoc]
          exact R2) (nx_e u)
        exact ⟨g', fv_t Ga2 G', R', u'⟩
      · have n : ¬ ((mnO (M s) : Nat) : Int) = L 10 0 := fun z => y (Int32.toInt_inj.mp (by
          show ((x4 - (1 : Int32)) >>> ((1 : Int32) &&& 31)).toInt = (hI g (V 15) 10).toInt
          rw [sh, z, l10]))
        obtain ⟨g', G', R', u'⟩ := ih (t := t + 1) t5 (by omega) Ag (rws_k R (fun i => fvI D G 86 i) (fun i => fvI D G 87 i) (fun i => fvI D G 88 i)) (by
          rw [flat_s]
          unfold moS
          rw [if_neg n, List.append_nil, ← List.append_assoc]
          exact Rg') (nx_e u)
        exact ⟨g', fv_t Ga G', R', u'⟩
    replace e := ce_e A.1.2.1.1 e
    replace e := gg_e e
    rcases br_s e with ⟨y, e⟩ | ⟨y, e⟩ <;> rw [c5] at y
    · refine k84 fv_0 ?_ e
      rcases R t c with ⟨_, no⟩ | ⟨j, _, r86, _⟩
      · rw [sta_n no, List.append_nil]
        exact S
      · rw [y, zm] at r86
        omega
    · rcases R t c with ⟨r, _⟩ | ⟨j, k', r86, r87, r88, dj, mn⟩
      · exact absurd r y
      replace e := cl_s e; obtain ⟨o5, eo5, e⟩ := e
      rw [so_e eo5] at e
      replace e := cl_s e; obtain ⟨g, eg, e⟩ := e
      have dj' := dj
      obtain ⟨i, hi, ej, ld, _⟩ := dj'
      have J : StR L j := by rw [ej]; exact Hst i hi
      have k1 := ld.1.2.1
      have k2 := ld.1.2.2.1
      have k3 := J.2.2.2.2.1.2
      obtain ⟨A1, R1⟩ := ts_r (by' := prB' (ByT L ov true j t)) (p0 := p0) D H HM A.1.1 A.2.1 A.1.2.1.1 A.1.2.1.2.1 A.1.2.1.2.2 A.1.2.2.1 S (by
        rw [List.length_append]
        omega) e3 e5 c sh m12 (B _ m12) J r86 r87 (by
        rcases r88 with ⟨a, b⟩ | ⟨a, b⟩
        · exact Or.inl ⟨a, prb_f.mpr b⟩
        · exact Or.inr ⟨a, prb_e.mpr b⟩) (fun z => A.2.2.2.2.2.1 ⟨t, (prb_e.mp z).2.2⟩) A.2.2.2.1 ⟨k1, by omega⟩ eg
      refine k84 (fv_s A1 (by decide)) ?_ e
      rw [sta_s (ldf_s dj mn (fun k'' hk => ldd_u Hst dj hk))]
      exact R1
theorem ta_7 (D : VD V) (H : LOk L) (HM : MOk L M) (B : lwBk L) (isd : sd < 2) : ∀ (f : Nat) {h : Hp} {x3 : Int32} {s : Nat}, x3.toInt = (s : Int) → (s : Int) ≤ L 0 0 * L 1 0 → RAl V h L M ov rt p0 sd hd → RLs V h ((List.range s).flatMap (moF L M ov rt p0 sd)) → sX15_tryAll_7 F f h (V 16) (V 13) (V 14) x3 = some o → FrV V (wl wta) h o ∧ RLs V o (moA L M ov rt p0 sd hd) := by
  have z0 : (0 : Int32).toInt = 0 := rfl
  have z1 : (1 : Int32).toInt = 1 := rfl
  have sq := sq_64 H
  have L2 := H.2.2.1
  intro f
  induction f with
  | zero => intro h x3 s _ _ _ _ e; exact absurd e (by rw [sX15_tryAll_7]; exact fun z => nomatch z)
  | succ f ih =>
    intro h x3 s e3 sL A S e
    have f13 := A.1.1.2.1.2.2.2
    have ln := mofs_crude (L := L) (M := M) (ov := ov) (rt := rt) (p0 := p0) (sd := sd) H HM B (n := s) (by omega)
    rw [sX15_tryAll_7] at e
    unfold sX15_tryAll_114 at e
    rcases br_s e with ⟨c, e⟩ | ⟨c, e⟩
    · have c := le_i c
      rw [f13, e3] at c
      have es : (L 0 0 * L 1 0).toNat = s := by omega
      obtain ⟨A', R'⟩ := td_122 D H (ms := (List.range s).flatMap (moF L M ov rt p0 sd)) (by omega) isd F (t := 0) z0 (by omega) A.1.1 A.2.1 A.2.2.1 A.2.2.2.1 A.2.2.2.2.2.2 (by
        have : (if L 15 0 = 0 then [] else (List.range 0).flatMap (drL L M hd)) = ([] : List MvT) := by split <;> rfl
        rw [this, List.append_nil]
        exact S) e
      refine ⟨fv_s A' (by decide), ?_⟩
      unfold moA moD
      rw [fm_64 (K := s) (by omega) (fun t a b => mof_64 HM b (by omega))]
      exact R'
    have c := nle_i c
    rw [f13, e3] at c
    have c3 : x3.toNatClampNeg = s := by have := nc_i (x := x3) (by omega); omega
    have t3 : (x3 + (1 : Int32)).toInt = ((s + 1 : Nat) : Int) := by rw [ta (by rw [z1]; omega), z1, e3]; omega
    have hm := HM s (by omega)
    replace e := ce_e A.1.1.2.2.1 e
    replace e := gg_e e
    replace e := nm_s e; obtain ⟨v4, u4, e⟩ := e
    have mv : v4.toInt = M s := by rw [u4, c3]; exact A.1.1.2.2.2 _ (by omega)
    have nxt : ∀ {g : Hp}, FrV V (wl wta) h g → RLs V g ((List.range s).flatMap (moF L M ov rt p0 sd) ++ moF L M ov rt p0 sd s) → sX15_tryAll_7 F f g (V 16) (V 13) (V 14) (x3 + (1 : Int32)) = some o → FrV V (wl wta) h o ∧ RLs V o (moA L M ov rt p0 sd hd) := fun {g} G Rg' u => by
      obtain ⟨A', R'⟩ := ih (s := s + 1) t3 (by omega) (ral_f D A G) (by rw [flat_s]; exact Rg') u
      exact ⟨fv_t G A', R'⟩
    have non : ¬ (0 < M s ∧ (M s - 1) % 2 = (sd : Int)) → moF L M ov rt p0 sd s = [] := fun n => if_neg n
    rcases br_s e with ⟨y, e⟩ | ⟨y, e⟩
    · have y := le_i y
      rw [mv, z0] at y
      refine nxt fv_0 ?_ (nx_e e)
      rw [non (fun z => by have := z.1; omega), List.append_nil]
      exact S
    have y := nle_i y
    rw [mv, z0] at y
    have vL := (hm.2 y).2
    have tv : (v4 - (1 : Int32)).toInt = M s - 1 := by rw [ts (by rw [z1]; omega), z1, mv]
    have sdv : ((v4 - (1 : Int32)) &&& (1 : Int32)).toInt = (M s - 1) % 2 := by rw [and1_i (by omega), tv]
    unfold sX15_sideOf at e
    replace e := cl_s e; obtain ⟨o6, eo6, e⟩ := e
    rw [so_e eo6] at e
    rcases br_s e with ⟨w, e⟩ | ⟨w, e⟩
    rotate_left
    · refine nxt fv_0 ?_ (nx_e e)
      rw [non (fun z => w (Int32.toInt_inj.mp (by
        show ((v4 - (1 : Int32)) &&& (1 : Int32)).toInt = (hI h (V 13) 1).toInt
        rw [sdv, A.2.2.2.1]; exact z.2))), List.append_nil]
      exact S
    have w : ((v4 - (1 : Int32)) &&& (1 : Int32)) = hI h (V 13) 1 := w
    rw [w, A.2.2.2.1] at sdv
    replace e := cl_s e; obtain ⟨g, eg, e⟩ := e
    obtain ⟨Al, Rl⟩ := ld_r (ct := true) D H HM A.1 (s := x3) (by omega) (by omega) ⟨fun z => absurd z (by decide), fun z => nomatch z⟩ (by rw [c3]; exact y) eg
    rw [c3, ← sdv] at Rl
    have Ga : FrV V (wl wta) h g := fv_s Al (by decide)
    have Ag := ral_f D A Ga
    obtain ⟨g', G', R', u'⟩ := ta_50 D H HM B e3 c y mv sdv.symm isd (ms := (List.range s).flatMap (moF L M ov rt p0 sd)) (by omega) F (t := 0) z0 (by omega) Ag Rl (by
      show RLs V g (_ ++ [])
      rw [List.append_nil]
      exact rls_f D S Al (by decide)) e
    refine nxt (fv_t Ga G') ?_ u'
    have : moF L M ov rt p0 sd s = (List.range (L 0 0 * L 1 0).toNat).flatMap (moS L M ov rt p0 sd s) := by
      unfold moF
      rw [if_pos ⟨y, sdv.symm⟩]
      exact fm_64 (by omega) (fun t a b => mos_64 H c (by omega))
    rw [this]
    exact R'
/-- tryAll, whole -/
theorem ta_r (D : VD V) {h : Hp} (H : LOk L) (HM : MOk L M) (B : lwBk L) (isd : sd < 2) (A : RAl V h L M ov rt p0 sd hd) (e : sX15_tryAll F h (V 16) (V 13) (V 14) = some o) : FrV V (wl wta) h o ∧ RLs V o (moA L M ov rt p0 sd hd) := by
  have sq := sq_64 H
  unfold sX15_tryAll at e
  replace e := nm_s e; obtain ⟨g, ug, e⟩ := e
  have G : FrV V (wl wta) h g := by rw [ug]; exact fv_w rfl
  obtain ⟨A', R'⟩ := ta_7 D H HM B isd F (s := 0) rfl (by omega) (ral_f D A G) ⟨by rw [ug, r_I, if_pos ⟨rfl, rfl⟩]; rfl, fun i hi => absurd hi (Nat.not_lt_zero _)⟩ e
  exact ⟨fv_t G A', R'⟩
end
