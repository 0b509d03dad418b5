section
/-! ENDINGS, the class: queueEnds whole -/
theorem nd_lf {α β : Type} [DecidableEq β] {f : α → β} : ∀ (Q : List α) (T : List β), Q.Nodup → (∀ x y, x ∈ Q → y ∈ Q → f x = f y → x = y) → (∀ x, x ∈ Q → f x ∈ T) → Q.length ≤ T.length := by
  intro Q
  induction Q with
  | nil => intro T _ _ _; exact Nat.zero_le _
  | cons a Q ih =>
    intro T nd inj s
    have nd := List.nodup_cons.mp nd
    have aT := s a (List.mem_cons_self ..)
    have i := ih (T.erase (f a)) nd.2 (fun x y hx hy => inj x y (List.mem_cons_of_mem _ hx) (List.mem_cons_of_mem _ hy)) (fun x hx => (List.mem_erase_of_ne (fun z => nd.1 (by
      have := inj x a (List.mem_cons_of_mem _ hx) (List.mem_cons_self ..) z
      rw [← this]; exact hx))).mpr (s x (List.mem_cons_of_mem _ hx)))
    rw [List.length_erase_of_mem aT] at i
    have : 0 < T.length := List.length_pos_of_mem aT
    show Q.length + 1 ≤ T.length
    omega
section
variable {n F N q wA lA qA nT k num sd : Nat} {h h0 o : Hp} {nk : Nat → Nat} {rk : Nat → Nat → Int} {sb : Nat → Nat} {L : Nat → Nat → Int} {x1 x2 x3 x4 x5 x6 : Int32} {Pd Pd' : Nod → Prop} {W : Nod → Int} {cO cT : Nod → Nat} {D : List Nod}
theorem nod_l (Fc : FmC n h N nk rk sb q) {Q : List Nod} (nd : Q.Nodup) (s : ∀ ν, ν ∈ Q → NdA N nk q ν) : Q.length ≤ 600000 := by
  have := nd_lf (f := ixC sb) Q (List.range 600000) nd (fun x y hx hy z => at_c Fc (s x hx) (s y hy) z) (fun x hx => List.mem_range.mpr (at_l Fc (s x hx)))
  rw [List.length_range] at this
  exact this
/-- a place that is settled waits, or not -/
theorem qe_156 {K2 : Hp → Nat → Int32 → Option Hp} {K : Hp → Nat → Int32 → Int32 → Option Hp} {P : Hp → Prop} {ν : Nod} {u : Hp} (k0 : DyK n h0 h0) (S : QeE n L N nk rk sb q wA lA qA nT W cO cT h0 Pd h) (na : NdA N nk q ν) (np : ¬ Pd ν) (e2 : x2.toInt = (ixC sb ν : Int)) (du : DkT n h u) (Fu : FrW (WAe n wA lA qA) h u) (Bu : BdE n u) (uw : ∀ i, ¬ i = ixC sb ν → hI u wA i = hI h wA i) (ul : ∀ i, ¬ i = ixC sb ν → hI u lA i = hI h lA i) (uq : ∀ i, hI u qA i = hI h qA i) (uc : hI u (n + 62) 16 = hI h (n + 62) 16) (vw : (hI u wA (ixC sb ν)).toInt = wB L nk rk q W cO cT ν) (vl : W ν = 3000000 → (hI u lA (ixC sb ν)).toInt = (cnB L cO cT ν : Int) + (if taB L cT ν = true then 16777216 else 0)) (hK : ∀ {u' : Hp}, QeE n L N nk rk sb q wA lA qA nT W cO cT h0 (fun y => Pd y ∨ y = ν) u' → K u' (n + 62) x1 (x2 + (1 : Int32)) = some o → P o) (e : sX0_queueEnds_156 F K2 K u (n + 62) x1 x2 = some o) : P o := by
  have z1 : (1 : Int32).toInt = 1 := rfl
  obtain ⟨⟨dk, Fr⟩, ⟨B, Bd⟩, cs, Q, q1, q2, q3, q4⟩ := S
  have kh := dk_self (dk.1 _ k0)
  have s6 := dk_610 kh
  have Bu' := sbe_f kh du Fu B
  have Fc := B.1.2.1
  have Tu := Bu'.2.1
  obtain ⟨⟨r1, r2, r3⟩, ⟨n1, n2, n3⟩, w1, w2, w3, hn⟩ := id Tu
  have nq : ¬ ν ∈ Q := fun z => np ((q2 ν).mp z).2.1
  have nx : x2.toNatClampNeg = ixC sb ν := by have := nc_i (x := x2) (by omega); omega
  have ql : Q.length < 600000 := by
    have := nod_l Fc (Q := ν :: Q) (List.nodup_cons.mpr ⟨nq, q1⟩) (fun y hy => by
      rcases List.mem_cons.mp hy with z | z
      · rw [z]; exact na
      · exact ((q2 y).mp z).1)
    exact this
  have cells : ∀ {u' : Hp}, (∀ i, hI u' wA i = hI u wA i) → (∀ i, hI u' lA i = hI u lA i) → ∀ y, NdA N nk q y → ((Pd y ∨ y = ν) → (hI u' wA (ixC sb y)).toInt = wB L nk rk q W cO cT y ∧ (W y = 3000000 → (hI u' lA (ixC sb y)).toInt = (cnB L cO cT y : Int) + (if taB L cT y = true then 16777216 else 0))) ∧ (¬ (Pd y ∨ y = ν) → (hI u' wA (ixC sb y)).toInt = W y ∧ (W y = 3000000 → (hI u' lA (ixC sb y)).toInt = ((cO y + 4096 * cT y : Nat) : Int))) := fun {u'} a b y ny => by
    by_cases z : y = ν
    · rw [z, a, b]
      exact ⟨fun _ => ⟨vw, vl⟩, fun w => absurd (Or.inr rfl) w⟩
    · rw [a, b, uw _ (ix_u Fc na ny z), ul _ (ix_u Fc na ny z)]
      refine ⟨fun w => (cs y ny).1 (w.resolve_right z), fun w => (cs y ny).2 (fun v => w (Or.inl v))⟩
  have no : ¬ (wB L nk rk q W cO cT ν = 1000000 ∨ wB L nk rk q W cO cT ν = -1000000) → sX0_queueEnds_183 F K2 K u (n + 62) x1 x2 = some o → P o := fun nw e => by
    unfold sX0_queueEnds_183 at e
    replace e := nx_e e
    refine hK ⟨⟨dkt_t dk du, fw_t Fr Fu⟩, ⟨Bu', Bu⟩, cells (fun _ => rfl) (fun _ => rfl), Q, q1, fun y => ?_, by rw [uc]; exact q3, fun j y hj => by rw [uq]; exact q4 j y hj⟩ e
    rw [q2]
    constructor
    · intro z; exact ⟨z.1, Or.inl z.2.1, z.2.2⟩
    · intro ⟨z1, z2, z3⟩
      rcases z2 with z2 | z2
      · exact ⟨z1, z2, z3⟩
      · rw [z2] at z3; exact absurd z3 nw
  have yes : (wB L nk rk q W cO cT ν = 1000000 ∨ wB L nk rk q W cO cT ν = -1000000) → sX0_queueEnds_178 F K2 K u (n + 62) x1 x2 = some o → P o := fun yw e => by
    unfold sX0_queueEnds_178 sX0_queueEnds_183 at e
    obtain ⟨o1, e1, e⟩ := cl_s e
    replace e := nx_e e
    have eo := psh_k (j := Q.length) Tu (by rw [uc]; exact q3) ql e1
    rw [uc] at eo
    have d1 : DkT n u o1 := by rw [eo]; exact dkt_w (dkt_w dkt_0)
    have F1 : FrW (WAe n wA lA qA) u o1 := by
      rw [eo]
      exact fw_wI (fw_wI fw_0 (Or.inr (Or.inr (Or.inl (Or.inr (Or.inr (Or.inr (Or.inl rfl)))))))) (Or.inr (Or.inr (Or.inl (Or.inr (Or.inr (Or.inr (Or.inr ⟨rfl, rfl⟩)))))))
    have ku := dk_self (du.1 _ kh)
    have I1 : ∀ a i, ¬ a = qA → ¬ a = n + 62 → hI o1 a i = hI u a i := fun a i p1 p2 => by rw [eo, rI_a p2, rI_a p1]
    have J1 : ∀ a i, hJ o1 a i = hJ u a i := fun a i => by rw [eo]; rfl
    refine hK ⟨⟨dkt_t (dkt_t dk du) d1, fw_t (fw_t Fr Fu) F1⟩, ⟨sbe_f ku d1 F1 Bu', ?_⟩, cells (fun i => I1 _ _ n2 (by omega)) (fun i => I1 _ _ n3 (by omega)), Q ++ [ν], ?_, fun y => ?_, ?_, fun j y hj => ?_⟩ e
    · obtain ⟨⟨M, b1, b2, b3, b4⟩, s', t1, t2⟩ := Bu
      exact ⟨⟨M, fun s hs => by rw [I1 _ _ (by omega) (by omega)]; exact b1 s hs, fun d hd => by rw [J1]; exact b2 d hd, fun d hd => by rw [I1 _ _ (by omega) (by omega)]; exact b3 d hd, b4⟩, s', t1, by rw [I1 _ _ (by omega) (by omega)]; exact t2⟩
    · rw [List.nodup_append]
      refine ⟨q1, by simp, fun a ha b hb => ?_⟩
      rw [List.mem_singleton.mp hb]
      exact fun z => nq (by rw [← z]; exact ha)
    · rw [List.mem_append, q2, List.mem_singleton]
      constructor
      · intro z
        rcases z with z | z
        · exact ⟨z.1, Or.inl z.2.1, z.2.2⟩
        · rw [z]; exact ⟨na, Or.inr rfl, yw⟩
      · intro ⟨z1, z2, z3⟩
        rcases z2 with z2 | z2
        · exact Or.inl ⟨z1, z2, z3⟩
        · exact Or.inr z2
    · rw [eo, rI_s, ta (by rw [z1, q3]; omega), z1, q3, List.length_append]
      show _ = ((Q.length + 1 : Nat) : Int)
      omega
    · rw [eo, rI_a (by omega)]
      by_cases c : j < Q.length
      · rw [List.getElem?_append_left c] at hj
        rw [rI_o (by omega), uq]
        exact q4 j y hj
      · rw [List.getElem?_append_right (by omega)] at hj
        have cj : j = Q.length := by
          have := (List.getElem?_eq_some_iff.mp hj).1
          have : j - Q.length < 1 := this
          omega
        have hm := List.mem_singleton.mp (List.mem_of_getElem? hj)
        rw [cj, rI_s, hm]
        exact e2
  unfold sX0_queueEnds_156 at e
  replace e := ce_e r1 e
  replace e := gg_e e
  rcases br_s e with ⟨c, e⟩ | ⟨c, e⟩ <;> rw [nx] at c
  · exact yes (Or.inl (by rw [← vw, c]; rfl)) e
  replace e := ce_e r1 e
  replace e := gg_e e
  rcases br_s e with ⟨c', e⟩ | ⟨c', e⟩ <;> rw [nx] at c'
  · exact yes (Or.inr (by rw [← vw, c']; rfl)) e
  · refine no (fun z => ?_) e
    rcases z with z | z
    · exact c (Int32.toInt_inj.mp (by rw [vw, z]; rfl))
    · exact c' (Int32.toInt_inj.mp (by rw [vw, z]; rfl))
theorem en_5 {M : Nat → Int} {sd : Nat} (er : ¬ 0 < (er1 L (ndZ M sd)).1) (lg : lgL L (ndZ M sd) = []) : (RyH L M sd → (enE L (ndZ M sd)).1 = 5) ∧ (¬ RyH L M sd → (enE L (ndZ M sd)).1 = 6) := by
  constructor
  · intro z
    have z : RyH L (ndZ M sd).1 (pzS (ndZ M sd)) := z
    unfold enE
    rw [if_neg er, if_neg (fun y => y lg), if_pos (prb_e.mpr z)]
  · intro z
    have z : ¬ RyH L (ndZ M sd).1 (pzS (ndZ M sd)) := z
    unfold enE
    rw [if_neg er, if_neg (fun y => y lg), if_neg (fun y => z (prb_e.mp y))]
/-- one place -/
theorem qe_1 {K2 : Hp → Nat → Int32 → Option Hp} {K : Hp → Nat → Int32 → Int32 → Option Hp} {P : Hp → Prop} (hF : 700000 ≤ F) (E : LwE L N nk rk q) (mv : ∀ ν, NdA N nk q ν → MaV L nk rk q ν (W ν)) (bnd : ∀ ν, NdA N nk q ν → W ν = 3000000 → cO ν + cT ν ≤ 3840) (stk : ∀ ν, NdA N nk q ν → W ν = 3000000 → cnB L cO cT ν = 0 → lgL L (ndQ nk rk q ν) = []) (k0 : DyK n h0 h0) (S : QeE n L N nk rk sb q wA lA qA nT W cO cT h0 Pd h) (kN : k < N) (nb : num < q ^ nk k) (sd2 : sd < 2) (np : ¬ Pd (k, num, sd)) (e1 : x1.toInt = (k : Int)) (e2 : x2.toInt = (ixC sb (k, num, sd) : Int)) (hK : ∀ {u' : Hp}, QeE n L N nk rk sb q wA lA qA nT W cO cT h0 (fun y => Pd y ∨ y = (k, num, sd)) u' → K u' (n + 62) x1 (x2 + (1 : Int32)) = some o → P o) (e : (cl (hR h (n + 62) 11) fun r_5 => gd (inB x2 (hN h r_5)) <| br ((hI h r_5 x2.toNatClampNeg) = (3000000 : Int32)) (cl (sX0_settleCount h (n + 62) x2) fun o_8 => sX0_queueEnds_45 F K2 K o_8 (n + 62) x1 x2) (sX0_queueEnds_45 F K2 K h (n + 62) x1 x2)) = some o) : P o := by
  have na : NdA N nk q (k, num, sd) := ⟨kN, nb, sd2⟩
  obtain ⟨⟨OK, LD, Nc⟩, Fm, q0, q64, eq⟩ := id E
  obtain ⟨⟨dk, Fr⟩, ⟨B, Bd⟩, cs, Q, q1, q2, q3, q4⟩ := id S
  have kh := dk_self (dk.1 _ k0)
  have s6 := dk_610 kh
  obtain ⟨⟨C, Fc, So, Pw, Fb⟩, T, Z, Td⟩ := id B
  obtain ⟨⟨r1, r2, r3⟩, ⟨n1, n2, n3⟩, w1, w2, w3, hn⟩ := id T
  obtain ⟨cw, cl'⟩ := (cs _ na).2 np
  have nx : x2.toNatClampNeg = ixC sb (k, num, sd) := by have := nc_i (x := x2) (by omega); omega
  have ns1 : x1.toNatClampNeg = k := by have := nc_i (x := x1) (by omega); omega
  replace e := ce_e r1 e
  replace e := gg_e e
  rcases br_s e with ⟨c, e⟩ | ⟨c, e⟩ <;> rw [nx] at c
  rotate_left
  · have wn : ¬ W (k, num, sd) = 3000000 := fun z => c (Int32.toInt_inj.mp (by rw [cw, z]; rfl))
    unfold sX0_queueEnds_45 sX0_queueEnds_73 sX0_queueEnds_74 at e
    replace e := ce_e r1 e
    replace e := gg_e e
    replace e := bn_e (by rw [nx]; exact c) e
    replace e := bp_e rfl e
    exact qe_156 k0 S na np e2 dkt_0 fw_0 Bd (fun _ _ => rfl) (fun _ _ => rfl) (fun _ => rfl) rfl (by unfold wB; rw [if_neg (fun z => wn z.1)]; exact cw) (fun z => absurd z wn) hK e
  have wo : W (k, num, sd) = 3000000 := by rw [← cw, c]; rfl
  obtain ⟨o8, e8, e⟩ := cl_s e
  obtain ⟨v, ev, vv⟩ := stl_k (L := L) (cO := cO) (cT := cT) (ν := (k, num, sd)) C kh T e2 (cl' wo) (bnd _ na wo) e8
  have d8 : DkT n h o8 := by rw [ev]; exact dkt_w dkt_0
  have F8 : FrW (WAe n wA lA qA) h o8 := by rw [ev]; exact fw_wI fw_0 (Or.inr (Or.inr (Or.inl (Or.inr (Or.inr (Or.inl rfl))))))
  have B8 := sbe_f kh d8 F8 B
  have I8 : ∀ a i, ¬ a = lA → hI o8 a i = hI h a i := fun a i p => by rw [ev, rI_a p]
  have J8 : ∀ a i, hJ o8 a i = hJ h a i := fun a i => by rw [ev]; rfl
  have Bd8 : BdE n o8 := by
    obtain ⟨⟨M, b1, b2, b3, b4⟩, s', t1, t2⟩ := Bd
    exact ⟨⟨M, fun s hs => by rw [I8 _ _ (by omega)]; exact b1 s hs, fun d hd => by rw [J8]; exact b2 d hd, fun d hd => by rw [I8 _ _ (by omega)]; exact b3 d hd, b4⟩, s', t1, by rw [I8 _ _ (by omega)]; exact t2⟩
  have k8 := dk_self (d8.1 _ kh)
  have cb : cnB L cO cT (k, num, sd) < 4096 := by
    have := bnd _ na wo
    unfold cnB
    split <;> omega
  obtain ⟨⟨r18, r28, r38⟩, _⟩ := id B8.2.1
  have l8 : (hI o8 lA (ixC sb (k, num, sd))).toInt = (cnB L cO cT (k, num, sd) : Int) + (if taB L cT (k, num, sd) = true then 16777216 else 0) := by rw [ev, rI_s]; exact vv
  have m12 : ((hI o8 lA (ixC sb (k, num, sd))) &&& (4095 : Int32)).toInt = (cnB L cO cT (k, num, sd) : Int) := by
    rw [and_i (m := 12) (by rw [l8]; split <;> omega) (by decide) rfl, l8]
    show _ % (4096 : Int) = _
    split <;> omega
  unfold sX0_queueEnds_45 at e
  replace e := ce_e r18 e
  replace e := gg_e e
  replace e := bp_e (by rw [nx, I8 _ _ n1]; exact c) e
  replace e := ce_e r28 e
  replace e := gg_e e
  rcases br_s e with ⟨c2, e⟩ | ⟨c2, e⟩ <;> rw [nx] at c2
  rotate_left
  · have cn : ¬ cnB L cO cT (k, num, sd) = 0 := fun z => c2 (Int32.toInt_inj.mp (by rw [m12, z]; rfl))
    unfold sX0_queueEnds_73 sX0_queueEnds_74 at e
    replace e := bp_e rfl e
    exact qe_156 k0 S na np e2 d8 F8 Bd8 (fun i z => I8 _ _ n1) (fun i z => by rw [ev, rI_o z]) (fun i => I8 _ _ (fun y => n3 y.symm)) (I8 _ _ (by omega)) (by unfold wB; rw [if_neg (fun z => cn z.2), I8 _ _ n1]; exact cw) (fun _ => l8) hK e
  -- stuck
  have c0 : cnB L cO cT (k, num, sd) = 0 := by
    have z0 : (0 : Int32).toInt = 0 := rfl
    rw [c2, z0] at m12; omega
  have lg := stk _ na wo c0
  have rt := (mav_r E na (mv _ na)).mpr (by rw [wo]; decide)
  have sst : StN L nk rk q k num := by
    rcases mv _ na with z | z
    · rw [wo] at z; exact absurd z.2 (by decide)
    · exact z.1
  have er : ¬ 0 < (er1 L (ndQ nk rk q (k, num, sd))).1 := by
    rcases mv _ na with z | ⟨_, z | ⟨_, z | z⟩⟩
    · rw [wo] at z; exact absurd z.2 (by decide)
    · rw [wo] at z; exact absurd z.2 (by decide)
    · have := vb_A (L := L) (nk := nk) (rk := rk) (q := q) (k, num, sd) _ z.2
      omega
    · exact z.1
  unfold sX0_queueEnds_74 at e
  replace e := bn_e (show ¬ (1 : Int32) = 0 by decide) e
  replace e := ce_e (dk_e (a := 62) (f := 4) (b := 69) k8 (by decide +kernel)) e
  replace e := gg_e e
  replace e := ce_e (dk_e (a := 62) (f := 5) (b := 70) k8 (by decide +kernel)) e
  replace e := gg_e e
  obtain ⟨y, e6, e⟩ := cl_s e
  rw [ns1] at e6
  have sk := B8.1.2.1.2.2.1 k (by omega)
  have il := at_l (ν := (k, num, sd)) Fc na
  have il : sb k + 2 * num + sd < 600000 := il
  have e2' : x2.toInt = ((sb k + 2 * num + sd : Nat) : Int) := e2
  have sub : ∀ {w : Int32}, w.toInt = (sb k : Int) → (x2 - w).toInt = ((2 * num + sd : Nat) : Int) := fun {w} ew => by rw [ts (by rw [e2', ew]; omega), e2', ew]; omega
  have nu : ((x2 - (hI o8 (n + 70) k)) >>> ((1 : Int32) &&& 31)).toInt = (num : Int) := by rw [ti_shr1, sub sk]; omega
  obtain ⟨d6, F6, B6, Bd6, st⟩ := lay_e hF E k8 B8 Bd8 kN nb nu e6
  obtain ⟨y1, _, Po⟩ := st.resolve_left (fun z => z.2 sst)
  replace e := bn_e (by rw [y1]; decide) e
  have k6 := dk_self (d6.1 _ k8)
  replace e := ce_e (dk_e (a := 62) (f := 3) (b := 63) k6 (by decide +kernel)) e
  replace e := ce_e (dk_e (a := 62) (f := 5) (b := 70) k6 (by decide +kernel)) e
  replace e := gg_e e
  obtain ⟨h11, u11, e⟩ := nm_s e
  rw [ns1] at u11
  have sv : ((x2 - (hI y.2 (n + 70) k)) &&& (1 : Int32)).toInt = (sd : Int) := by
    have a := sub (B6.1.2.1.2.2.1 k (by omega))
    rw [and1_i (by omega), a]; omega
  have d11 : DkT n y.2 h11 := by rw [u11]; exact dkt_w dkt_0
  have F11 : FrW (WAe n wA lA qA) y.2 h11 := by rw [u11]; exact fw_wI fw_0 (Or.inr (Or.inl ⟨rfl, rfl⟩))
  have B11 := sbe_f k6 d11 F11 B6
  have k11 := dk_self (d11.1 _ k6)
  have I11 : ∀ a i, ¬ a = n + 63 → hI h11 a i = hI y.2 a i := fun a i p => by rw [u11, rI_a p]
  have P11 : PosC h11 (n + 64) (n + 65) (n + 66) (lyM (rk k) q num (nk k)) (L 10 0) := ⟨fun s hs => by rw [I11 _ _ (by omega)]; exact Po.1 s hs, fun d hd => by rw [u11]; exact Po.2.1 d hd, fun d hd => by rw [I11 _ _ (by omega)]; exact Po.2.2.1 d hd, Po.2.2.2⟩
  have s11 : (hI h11 (n + 63) 5).toInt = (sd : Int) := by rw [u11, rI_s]; exact sv
  have A11 : CpA h11 (n + 63) (L 10 0) (ndZ (lyM (rk k) q num (nk k)) sd) := eb_cpa k11 P11 B11.2.2.1 s11
  have HM := nd_mok (num := num) q0 eq (Fm.1 k kN)
  have Oz := nd_pz (sd := sd) HM (nd_un (Fm.1 k kN)) sd2
  replace e := ce_e B11.2.1.1.1 e
  replace e := ce_e (dk_e (a := 62) (f := 2) (b := 30) k11 (by decide +kernel)) e
  replace e := ce_e (dk_e (a := 62) (f := 3) (b := 63) k11 (by decide +kernel)) e
  replace e := ce_e (dk_e (a := 62) (f := 3) (b := 63) k11 (by decide +kernel)) e
  obtain ⟨o16, e16, e⟩ := cl_s e
  obtain ⟨p16, v16⟩ := ryh_k (d := sd) OK.1 Oz B11.1.1 A11 s11 sd2 e16
  rw [p16] at e
  have en := en_5 er lg
  have fin : ∀ {t0 : Int32}, t0.toInt = (enE L (ndZ (lyM (rk k) q num (nk k)) sd)).1 → 0 < (enE L (ndZ (lyM (rk k) q num (nk k)) sd)).1 → sX0_queueEnds_152 F K2 K h11 (n + 62) x1 x2 t0 (n + 62) x2 wA = some o → P o := fun {t0} et pe e => by
    unfold sX0_queueEnds_152 at e
    obtain ⟨o1, e1', e⟩ := cl_s e
    obtain ⟨p1, v1⟩ := ew_k k11 OK.2.2.2.1 Oz B11.1.1 A11 et pe e1'
    rw [p1] at e
    replace e := gg_e e
    obtain ⟨h3, u3, e⟩ := nm_s e
    rw [nx] at u3
    have dd : DkT n h h3 := by rw [u3]; exact dkt_w (dkt_t (dkt_t d8 d6) d11)
    have F6' : FrW (WAe n wA lA qA) o8 y.2 := fw_s F6 (fun _ _ c => Or.inl c)
    have FF : FrW (WAe n wA lA qA) h h3 := by rw [u3]; exact fw_wI (fw_t (fw_t F8 F6') F11) (Or.inr (Or.inr (Or.inl (Or.inr (Or.inl rfl)))))
    have I3 : ∀ a i, ¬ a = wA → hI h3 a i = hI h11 a i := fun a i p => by rw [u3, rI_a p]
    have X : ∀ a i, n + 610 ≤ a → a < hS o8 → hI h11 a i = hI o8 a i := fun a i p1 p2 => by rw [I11 _ _ (by omega), (F6.2 a i p2 (fun z => by unfold WEb at z; omega)).1]
    have s8 := F8.1
    refine qe_156 k0 S na np e2 dd FF ⟨⟨lyM (rk k) q num (nk k), fun s hs => by rw [I3 _ _ (by omega)]; exact P11.1 s hs, fun d hd => by rw [u3]; exact P11.2.1 d hd, fun d hd => by rw [I3 _ _ (by omega)]; exact (pos_eb P11).2.2.1 d hd, P11.2.2.2⟩, sd, sd2, by rw [I3 _ _ (by omega)]; exact s11⟩ (fun i z => by rw [u3, rI_o z, X _ _ w1.1 (by omega), I8 _ _ n1]) (fun i z => by rw [I3 _ _ (fun y => n1 y.symm), X _ _ w2.1 (by omega), ev, rI_o z]) (fun i => by rw [I3 _ _ (fun y => n2 y.symm), X _ _ w3.1 (by omega), I8 _ _ (fun y => n3 y.symm)]) (by
      rw [I3 _ _ (by omega), I11 _ _ (by omega), (F6.2 (n + 62) 16 (by omega) (fun z => by unfold WEb at z; omega)).1, I8 _ _ (by omega)]) (by
      rw [u3, rI_s]
      unfold wB
      rw [if_pos ⟨wo, c0⟩]
      have v1 : v0A L nk rk q (k, num, sd) = some o1.1.toInt := v1
      rw [v1]) (fun _ => by rw [I3 _ _ (fun y => n1 y.symm), X _ _ w2.1 (by omega)]; exact l8) hK e
  rcases br_s e with ⟨c3, e⟩ | ⟨c3, e⟩
  · have nr : ¬ RyH L (lyM (rk k) q num (nk k)) sd := by
      rcases v16 with z | z
      · exact z.2
      · rw [z.1] at c3; exact absurd c3 (by decide)
    have e6 : (enE L (ndZ (lyM (rk k) q num (nk k)) sd)).1 = 6 := en.2 nr
    exact fin (t0 := 6) (by rw [e6]; rfl) (by rw [e6]; decide) e
  · have ry : RyH L (lyM (rk k) q num (nk k)) sd := by
      rcases v16 with z | z
      · exact absurd z.1 c3
      · exact z.2
    have e5 : (enE L (ndZ (lyM (rk k) q num (nk k)) sd)).1 = 5 := en.1 ry
    exact fin (t0 := 5) (by rw [e5]; rfl) (by rw [e5]; decide) e
theorem qe_17 {K2 : Hp → Nat → Int32 → Option Hp} {P : Hp → Prop} (hF : 700000 ≤ F) (E : LwE L N nk rk q) (mv : ∀ ν, NdA N nk q ν → MaV L nk rk q ν (W ν)) (bnd : ∀ ν, NdA N nk q ν → W ν = 3000000 → cO ν + cT ν ≤ 3840) (stk : ∀ ν, NdA N nk q ν → W ν = 3000000 → cnB L cO cT ν = 0 → lgL L (ndQ nk rk q ν) = []) (k0 : DyK n h0 h0) (kN : k < N) (e1 : x1.toInt = (k : Int)) (np : ∀ y, Pd y → ¬ y.1 = k) (hK : ∀ {u : Hp}, QeE n L N nk rk sb q wA lA qA nT W cO cT h0 (fun ν => Pd ν ∨ ν.1 = k) u → K2 u (n + 62) (x1 + (1 : Int32)) = some o → P o) : ∀ (fu : Nat) {h : Hp} {x2 : Int32} {j : Nat}, QeE n L N nk rk sb q wA lA qA nT W cO cT h0 (fun ν => Pd ν ∨ (ν.1 = k ∧ 2 * ν.2.1 + ν.2.2 < j)) h → x2.toInt = ((sb k + j : Nat) : Int) → j ≤ 2 * q ^ nk k → sX0_queueEnds_17 F K2 fu h (n + 62) x1 x2 = some o → P o := by
  have z1 : (1 : Int32).toInt = 1 := rfl
  intro fu
  induction fu with
  | zero => intro h x2 j _ _ _ e; exact absurd e (by rw [sX0_queueEnds_17]; exact fun z => nomatch z)
  | succ fu ih =>
    intro h x2 j S e2 jq e
    obtain ⟨⟨dk, Fr⟩, ⟨B, Bd⟩, _⟩ := id S
    have kh := dk.1 _ k0
    have Fc := B.1.2.1
    have N10 := Fc.1.1
    rw [sX0_queueEnds_17] at e
    have n2 : (x1 + (1 : Int32)).toNatClampNeg = k + 1 := by
      have a : (x1 + (1 : Int32)).toInt = (k : Int) + 1 := by rw [ta (by rw [z1]; omega), z1, e1]
      have := nc_i (x := x1 + (1 : Int32)) (by omega); omega
    replace e := ce_e (dk_e (a := 62) (f := 5) (b := 70) kh (by decide +kernel)) e
    replace e := gg_e e
    have s2 := Fc.2.2.1 (k + 1) (by omega)
    have sk := (Fc.2.1 k kN).2
    have le := sbc_m Fc (show k + 1 ≤ N by omega) (Nat.le_refl _)
    have l6 := Fc.2.2.2.2
    rcases br_s e with ⟨c, e⟩ | ⟨c, e⟩ <;> rw [n2] at c
    · have c := le_i c
      rw [s2, e2] at c
      replace e := nx_e e
      refine hK (qee_w S (fun ν na => ⟨fun z => ?_, fun z => ?_⟩)) e
      · rcases z with z | z
        · exact Or.inl z
        · exact Or.inr z.1
      · rcases z with z | z
        · exact Or.inl z
        · refine Or.inr ⟨z, ?_⟩
          have a := na.2.1
          have b := na.2.2
          rw [z] at a
          omega
    have c := nle_i c
    rw [s2, e2] at c
    refine qe_1 (Pd := fun ν => Pd ν ∨ (ν.1 = k ∧ 2 * ν.2.1 + ν.2.2 < j)) (k := k) (num := j / 2) (sd := j % 2) (K := sX0_queueEnds_17 F K2 fu) (P := P) hF E mv bnd stk k0 S kN (by omega) (by omega) (fun z => ?_) e1 (by rw [e2]; show _ = ((sb k + 2 * (j / 2) + j % 2 : Nat) : Int); omega) (fun {u} S' e => ih (j := j + 1) (qee_w S' (fun ν na => ⟨fun z => ?_, fun z => ?_⟩)) (by rw [ta (by rw [z1, e2]; omega), z1, e2]; omega) (by omega) e) e
    · rcases z with z | z
      · exact np _ z rfl
      · have : 2 * (j / 2) + j % 2 < j := z.2
        omega
    · rcases z with (z | z) | z
      · exact Or.inl z
      · exact Or.inr ⟨z.1, by omega⟩
      · rw [z]
        refine Or.inr ⟨rfl, ?_⟩
        show 2 * (j / 2) + j % 2 < j + 1
        omega
    · rcases z with z | ⟨y1, y2⟩
      · exact Or.inl (Or.inl z)
      · by_cases w : 2 * ν.2.1 + ν.2.2 < j
        · exact Or.inl (Or.inr ⟨y1, w⟩)
        · have b := na.2.2
          exact Or.inr (Prod.ext y1 (Prod.ext (show ν.2.1 = j / 2 by omega) (show ν.2.2 = j % 2 by omega)))
theorem qe_2 (hF : 700000 ≤ F) (E : LwE L N nk rk q) (mv : ∀ ν, NdA N nk q ν → MaV L nk rk q ν (W ν)) (bnd : ∀ ν, NdA N nk q ν → W ν = 3000000 → cO ν + cT ν ≤ 3840) (stk : ∀ ν, NdA N nk q ν → W ν = 3000000 → cnB L cO cT ν = 0 → lgL L (ndQ nk rk q ν) = []) (k0 : DyK n h0 h0) : ∀ (fu : Nat) {h : Hp} {x1 : Int32} {k : Nat}, QeE n L N nk rk sb q wA lA qA nT W cO cT h0 (fun ν => ν.1 < k) h → x1.toInt = (k : Int) → k ≤ N → sX0_queueEnds_2 F fu h (n + 62) x1 = some o → QeE n L N nk rk sb q wA lA qA nT W cO cT h0 (fun _ => True) o := by
  have z1 : (1 : Int32).toInt = 1 := rfl
  intro fu
  induction fu with
  | zero => intro h x1 k _ _ _ e; exact absurd e (by rw [sX0_queueEnds_2]; exact fun z => nomatch z)
  | succ fu ih =>
    intro h x1 k S e1 kN e
    obtain ⟨⟨dk, Fr⟩, ⟨B, Bd⟩, _⟩ := id S
    have kh := dk.1 _ k0
    have Fc := B.1.2.1
    have N10 := Fc.1.1
    have e9 := Fc.1.2
    rw [sX0_queueEnds_2] at e
    rcases br_s e with ⟨c, e⟩ | ⟨c, e⟩
    · have c := le_i c
      rw [e9] at c
      rw [so_e e]
      exact qee_w S (fun ν na => ⟨fun _ => trivial, fun _ => by have := na.1; omega⟩)
    have c := nle_i c
    rw [e9] at c
    have n1 : x1.toNatClampNeg = k := by have := nc_i (x := x1) (by omega); omega
    replace e := ce_e (dk_e (a := 62) (f := 5) (b := 70) kh (by decide +kernel)) e
    replace e := gg_e e
    obtain ⟨v4, w4, e⟩ := nm_s e
    rw [n1] at w4
    have s1 := Fc.2.2.1 k (by omega)
    refine qe_17 (Pd := fun ν => ν.1 < k) (P := fun o => QeE n L N nk rk sb q wA lA qA nT W cO cT h0 (fun _ => True) o) hF E mv bnd stk k0 (by omega) e1 (fun y z w => by have z : y.1 < k := z; omega) (fun {u} S' e => ih (k := k + 1) (qee_w S' (fun ν na => ⟨fun z => ?_, fun z => ?_⟩)) (by rw [ta (by rw [z1]; omega), z1]; omega) (by omega) e) F (j := 0) (qee_w S (fun ν na => ⟨fun z => Or.inl z, fun z => ?_⟩)) (by rw [w4, s1]; rfl) (Nat.zero_le _) e
    · show ν.1 < k + 1
      rcases z with z | z
      · have z : ν.1 < k := z
        omega
      · omega
    · have z : ν.1 < k + 1 := z
      by_cases w : ν.1 = k
      · exact Or.inr w
      · exact Or.inl (show ν.1 < k by omega)
    · rcases z with z | z
      · exact z
      · exact absurd z.2 (Nat.not_lt_zero _)
end
end
section
/-! ENDINGS, the class: the queue is worked off -/
section
variable {n F N q wA lA qA nT k num sd tot : Nat} {h h0 : Hp} {o : Int32 × Hp} {nk : Nat → Nat} {rk : Nat → Nat → Int} {sb : Nat → Nat} {L : Nat → Nat → Int} {x1 x2 : Int32} {D : List Nod} {tA : Nod → Bool} {S S0 : EtS} {P R : List Nod}
/-- how often a place is touched from another, where it counts -/
noncomputable def kA (L : Nat → Nat → Int) (N : Nat) (nk : Nat → Nat) (rk : Nat → Nat → Int) (q : Nat) (tA : Nod → Bool) (x y : Nod) : Nat := ((LYc (TcY L N nk rk q (ndM nk rk q y) y.2.2)).map (tnC N nk rk q (ndM nk rk q y) (1 - y.2.2))).countP (alB tA x)
theorem tbh_f {u : Hp} (k0 : DyK n h h) (T : TRf n wA lA qA h) (Fu : FrW (fun a i => WEb (n + 63) a i ∨ (a = n + 62 ∧ i = 17)) h u) (B : TbH n N nk sb q wA lA qA D tA h S) : TbH n N nk sb q wA lA qA D tA u S := by
  have s6 := dk_610 k0
  obtain ⟨_, _, w1, w2, w3, _⟩ := T
  obtain ⟨b1, b2, ⟨b3, b4⟩, b5⟩ := B
  refine ⟨fun ν na => ?_, fun ν na wo => ?_, ⟨?_, fun j ν hj => ?_⟩, b5⟩
  · rw [(Fu.2 wA _ w1.2 (fun z => by unfold WEb at z; omega)).1]; exact b1 ν na
  · rw [(Fu.2 lA _ w2.2 (fun z => by unfold WEb at z; omega)).1]; exact b2 ν na wo
  · rw [(Fu.2 (n + 62) 16 (by omega) (fun z => by unfold WEb at z; omega)).1]; exact b3
  · rw [(Fu.2 qA _ w3.2 (fun z => by unfold WEb at z; omega)).1]; exact b4 j ν hj
/-- what holds between two of the queue -/
def RuE (n : Nat) (L : Nat → Nat → Int) (N : Nat) (nk : Nat → Nat) (rk : Nat → Nat → Int) (sb : Nat → Nat) (q wA lA qA nT : Nat) (D : List Nod) (tA : Nod → Bool) (h0 h : Hp) (S : EtS) : Prop := (DkT n h0 h ∧ FrW (WAe n wA lA qA) h0 h) ∧ (SbE n h L N nk rk sb q wA lA qA nT ∧ BdE n h) ∧ TbH n N nk sb q wA lA qA D tA h S ∧ ∀ ν, NdA N nk q ν → ¬ ν ∈ D → S.1 ν = 4000000
theorem tc_kp {cur : Int} {ν : Nod} : ∀ (l : List (Nod × Bool)) (S : EtS), ¬ S.1 ν = 3000000 → (l.foldl (tcE tA cur) S).1 ν = S.1 ν := by
  intro l
  induction l with
  | nil => intro S _; rfl
  | cons e l ih =>
    intro S h
    have k : (tcE tA cur S e).1 ν = S.1 ν := by
      unfold tcE
      split
      · rename_i c
        have ne : ¬ ν = e.1 := fun z => h (by rw [z]; exact c.1)
        split
        · exact upe_o ne
        · split
          · exact upe_o ne
          · rfl
      · rfl
    show (l.foldl (tcE tA cur) (tcE tA cur S e)).1 ν = S.1 ν
    rw [ih _ (by rw [k]; exact h), k]
theorem sb_un (Fc : FmC n h N nk rk sb q) {k k' i : Nat} (a : k < N) (b : k' < N) (h1 : sb k ≤ i) (h2 : i < sb (k + 1)) (h3 : sb k' ≤ i) (h4 : i < sb (k' + 1)) : k = k' := by
  rcases Nat.lt_trichotomy k k' with c | c | c
  · have := sbc_m Fc (show k + 1 ≤ k' by omega) (by omega)
    omega
  · exact c
  · have := sbc_m Fc (show k' + 1 ≤ k by omega) (by omega)
    omega
theorem run_51' {Q : Int32 × Hp → Prop} (hF : 700000 ≤ F) (E : LwE L N nk rk q) (k0 : DyK n h0 h0) (nd : D.Nodup) (Dm : ∀ ν, ν ∈ D ↔ RtA L N nk rk q ν) (ar : ∀ x z, x ∈ D → v0A L nk rk q x = none → z ∈ D → (ArA L N nk rk q x z ↔ 0 < kA L N nk rk q tA x z)) (fin : ∀ {h : Hp} {S : EtS} {P : List Nod}, RuE n L N nk rk sb q wA lA qA nT D tA h0 h S → BeI D (kA L N nk rk q tA) (v0A L nk rk q) (ArA L N nk rk q) tA S P [] → sX0_run_131 F h (n + 62) = some o → Q o) : ∀ (fu : Nat) {h : Hp} {x1 : Int32} {S : EtS} {P R : List Nod}, RuE n L N nk rk sb q wA lA qA nT D tA h0 h S → BeI D (kA L N nk rk q tA) (v0A L nk rk q) (ArA L N nk rk q) tA S P R → x1.toInt = (P.length : Int) → sX0_run_51 F fu h (n + 62) x1 = some o → Q o := by
  have z1 : (1 : Int32).toInt = 1 := rfl
  have z6 : (600000 : Int32).toInt = 600000 := rfl
  obtain ⟨⟨OK, LD, Nc⟩, Fm, q0, q64, eq⟩ := id E
  intro fu
  induction fu with
  | zero => intro h x1 S P R _ _ _ e; exact absurd e (by rw [sX0_run_51]; exact fun z => nomatch z)
  | succ fu ih =>
    intro h x1 S P R Ru Be e1 e
    obtain ⟨⟨dk, Fr⟩, ⟨B, Bd⟩, Tb, Nr⟩ := id Ru
    have kh := dk_self (dk.1 _ k0)
    have s6 := dk_610 kh
    obtain ⟨⟨C, Fc, So, Pw, Fb⟩, T, Z, Td⟩ := id B
    obtain ⟨⟨r1, r2, r3⟩, ⟨n1, n2, n3⟩, w1, w2, w3, hn⟩ := id T
    obtain ⟨b1, b2, ⟨b3, b4⟩, b5, b6, b7⟩ := id Tb
    obtain ⟨e0, Co, _⟩ := id Be
    have DN : ∀ ν, ν ∈ D → NdA N nk q ν := fun ν hν => ((Dm ν).mp hν).1
    have D6 : D.length ≤ 600000 := nod_l Fc nd DN
    have Ql := nd_len S.2.2 D b5 (fun y hy => (b6 y hy).1)
    have pl : S.2.2.length = P.length + R.length := by rw [e0, List.length_append]
    rw [sX0_run_51] at e
    rcases br_s e with ⟨c1, e⟩ | ⟨c1, e⟩
    · have c1 := le_i c1
      rw [b3, e1] at c1
      have r0 : R = [] := List.eq_nil_of_length_eq_zero (by omega)
      rw [r0] at Be
      exact fin Ru Be e
    have c1 := nle_i c1
    rw [b3, e1] at c1
    replace e := bn_e (fun z => by have z := le_i z; rw [z6, e1] at z; omega) e
    cases R with
    | nil => exact absurd c1 (by rw [pl]; show ¬ _ < ((P.length + 0 : Nat) : Int); omega)
    | cons y R =>
      obtain ⟨k, num, sd⟩ := y
      have yq : S.2.2[P.length]? = some (k, num, sd) := by rw [e0, List.getElem?_append_right (Nat.le_refl _), Nat.sub_self]; rfl
      have ym : (k, num, sd) ∈ S.2.2 := List.mem_of_getElem? yq
      have yD := (b6 _ ym).1
      have rt := (Dm _).mp yD
      have na := rt.1
      obtain ⟨kN, nb, sd2⟩ := id na
      have kN : k < N := kN
      have nb : num < q ^ nk k := nb
      have sd2 : sd < 2 := sd2
      have St : StD (rk k) q num (nk k) := rt.2.1
      have Rk := Fm.1 k kN
      have nx1 : x1.toNatClampNeg = P.length := by have := nc_i (x := x1) (by omega); omega
      replace e := ce_e r3 e
      replace e := gg_e e
      obtain ⟨v5, w5, e⟩ := nm_s e
      rw [nx1] at w5
      have y5 : v5.toInt = ((sb k + 2 * num + sd : Nat) : Int) := by rw [w5]; exact b4 _ _ yq
      have il := at_l (ν := (k, num, sd)) Fc na
      have il : sb k + 2 * num + sd < 600000 := il
      obtain ⟨o6, e6, e⟩ := cl_s e
      have sk := (Fc.2.1 k kN).2
      have le := sbc_m Fc (show k + 1 ≤ N by omega) (Nat.le_refl _)
      obtain ⟨p6, kk, kkN, v6, g1, g2⟩ := sto_k kh Fc (by omega) y5 (by omega) e6
      have kke : kk = k := sb_un Fc kkN kN g1 g2 (by omega) (by omega)
      rw [kke] at v6
      rw [p6] at e
      have n6 : o6.1.toNatClampNeg = k := by have := nc_i (x := o6.1) (by omega); omega
      have nx5 : v5.toNatClampNeg = ixC sb (k, num, sd) := by
        have := nc_i (x := v5) (by omega)
        show _ = sb k + 2 * num + sd
        omega
      unfold sX0_run_77 at e
      replace e := ce_e r1 e
      replace e := gg_e e
      obtain ⟨h3, u3, e⟩ := nm_s e
      rw [nx5] at u3
      have d3 : DkT n h h3 := by rw [u3]; exact dkt_w dkt_0
      have F3 : FrW (fun a i => WEb (n + 63) a i ∨ (a = n + 62 ∧ i = 17)) h h3 := by rw [u3]; exact fw_wI fw_0 (Or.inr ⟨rfl, rfl⟩)
      have F3' : FrW (WAe n wA lA qA) h h3 := by rw [u3]; exact fw_wI fw_0 (Or.inr (Or.inr (Or.inr ⟨rfl, rfl⟩)))
      have k3 := dk_self (d3.1 _ kh)
      have B3 := sbe_f kh d3 F3' B
      have Tb3 := tbh_f kh T F3 Tb
      have Bd3 : BdE n h3 := by
        obtain ⟨⟨M, m1, m2, m3, m4⟩, s', t1, t2⟩ := Bd
        have I3 : ∀ a i, ¬ a = n + 62 → hI h3 a i = hI h a i := fun a i p => by rw [u3, rI_a p]
        exact ⟨⟨M, fun s hs => by rw [I3 _ _ (by omega)]; exact m1 s hs, fun d hd => by rw [u3]; exact m2 d hd, fun d hd => by rw [I3 _ _ (by omega)]; exact m3 d hd, m4⟩, s', t1, by rw [I3 _ _ (by omega)]; exact t2⟩
      have c3 : (hI h3 (n + 62) 17).toInt = S.1 (k, num, sd) := by rw [u3, rI_s]; exact b1 _ na
      replace e := ce_e (dk_e (a := 62) (f := 4) (b := 69) k3 (by decide +kernel)) e
      replace e := gg_e e
      replace e := ce_e (dk_e (a := 62) (f := 5) (b := 70) k3 (by decide +kernel)) e
      replace e := gg_e e
      obtain ⟨y, e8, e⟩ := cl_s e
      rw [n6] at e8
      have sub : ∀ {w : Int32}, w.toInt = (sb k : Int) → (v5 - w).toInt = ((2 * num + sd : Nat) : Int) := fun {w} ew => by rw [ts (by rw [y5, ew]; omega), y5, ew]; omega
      have nu : ((v5 - (hI h3 (n + 70) k)) >>> ((1 : Int32) &&& 31)).toInt = (num : Int) := by rw [ti_shr1, sub (B3.1.2.1.2.2.1 k (by omega))]; omega
      obtain ⟨d8, F8, B8, Bd8, st⟩ := lay_e hF E k3 B3 Bd3 kN nb nu e8
      have nol := (nol_f3 (sd := sd) q0 q64 Rk St).mpr ((nd_wr (sd := sd) Nc.1 (nd_un (q := q) (num := num) Rk)).mp rt.2.2).1
      obtain ⟨y1, _, Po⟩ := st.resolve_left (fun z => z.2 ⟨St, nol⟩)
      have k8 := dk_self (d8.1 _ k3)
      have Tb8 := tbh_f k3 B3.2.1 (fw_s F8 (fun _ _ c => Or.inl c)) Tb3
      have c8 : (hI y.2 (n + 62) 17).toInt = S.1 (k, num, sd) := by rw [(F8.2 (n + 62) 17 (by have := F3.1; omega) (fun z => by unfold WEb at z; omega)).1]; exact c3
      unfold sX0_run_108 sX0_run_125 at e
      replace e := bn_e (by rw [y1]; decide) e
      replace e := ce_e (dk_e (a := 62) (f := 5) (b := 70) k8 (by decide +kernel)) e
      replace e := gg_e e
      obtain ⟨o4, e4, e⟩ := cl_s e
      rw [n6] at e4
      replace e := nx_e e
      have sv : ((v5 - (hI y.2 (n + 70) k)) &&& (1 : Int32)).toInt = (sd : Int) := by
        have a := sub (B8.1.2.1.2.2.1 k (by omega))
        rw [and1_i (by omega), a]; omega
      have dc : DcE (S.1 (k, num, sd)) := (Co.2.1 _ yD).mp ym
      have c5 : mnC (lyM (rk k) q num (nk k)) 64 ≤ 5 := by
        rw [← enu_n (enu_l q0 q64 Rk St)]; exact Rk.1
      obtain ⟨_, s', s2', es'⟩ := id Bd8
      obtain ⟨⟨d9, F9⟩, l, l1, l2, l3⟩ := gob_k (A := []) hF (tci_q (S0 := S) (tA := tA) (wA := wA) (lA := lA) (qA := qA) B8.1.2.1 D6 dc) E k8 ⟨w1.1, w2.1, w3.1⟩ ⟨B8.1, Po⟩ B8.2.2.2 B8.2.2.1 es' s2' (nd_mok q0 eq Rk) (nd_un Rk) (ly_0 Rk) c5 sd2 sv ⟨B8.2.1, c8, Tb8⟩ e4
      rw [List.nil_append] at l3
      obtain ⟨_, _, Tb9⟩ := l3
      have s8 := dk_610 k8
      have X : ∀ j i, j < 610 → ¬ j = 72 → ¬ j = 62 → hI o4 (n + j) i = hI y.2 (n + j) i ∧ hJ o4 (n + j) i = hJ y.2 (n + j) i := fun j i h1 h2 h3 => F9.2 _ _ (by omega) (fun z => by unfold WGb WRo WTc at z; omega)
      have Po9 : PosC o4 (n + 64) (n + 65) (n + 66) (lyM (rk k) q num (nk k)) (L 10 0) := ⟨fun s hs => by rw [(X 64 s (by omega) (by omega) (by omega)).1]; exact Po.1 s hs, fun d hd => by rw [(X 65 d (by omega) (by omega) (by omega)).2]; exact Po.2.1 d hd, fun d hd => by rw [(X 66 d (by omega) (by omega) (by omega)).1]; exact Po.2.2.1 d hd, Po.2.2.2⟩
      have F9' : FrW (WAe n wA lA qA) y.2 o4 := fw_s F9 (fun _ _ c => Or.inr (Or.inr (Or.inl c)))
      obtain ⟨R', Be'⟩ := be_step (y := (k, num, sd)) (ta := tA) (K := kA L N nk rk q tA) (vb_A (L := L) (nk := nk) (rk := rk) (q := q)) nd ar (fun x z hx az => (Dm z).mpr (cl_A E x z ((Dm x).mp hx) az)) (by omega) (l := l.map (tnC N nk rk q (lyM (rk k) q num (nk k)) (1 - sd))) (fun x => (lyc_p l1 l2 _ _).symm) Be
      refine ih ⟨⟨dkt_t (dkt_t (dkt_t dk d3) d8) d9, fw_t (fw_t (fw_t Fr F3') (fw_s F8 (fun _ _ c => Or.inl c))) F9'⟩, ⟨sbe_f k8 d9 F9' B8, ⟨_, pos_eb Po9⟩, s', s2', by rw [(X 63 5 (by omega) (by omega) (by omega)).1]; exact es'⟩, Tb9, fun ν na hν => by rw [tc_kp _ _ (by rw [Nr ν na hν]; decide)]; exact Nr ν na hν⟩ Be' ?_ e
      rw [ta (by rw [z1]; omega), z1, List.length_append]
      show _ = ((P.length + 1 : Nat) : Int)
      omega
/-- what is open at the end is drawn -/
theorem run_133' {tot : Nat} (k0 : DyK n h0 h0) (T0 : TRf n wA lA qA h0) (t6 : tot ≤ 600000) (e18 : (hJ h0 (n + 62) 18).toInt = (tot : Int)) : ∀ (fu : Nat) {h : Hp} {x1 : Int32} {i : Nat}, DkT n h0 h → FrW (fun a _ => a = wA) h0 h → x1.toInt = (i : Int) → i ≤ tot → (∀ j, j < i → (hI h wA j).toInt = (if (hI h0 wA j).toInt = 3000000 then 0 else (hI h0 wA j).toInt)) → (∀ j, i ≤ j → hI h wA j = hI h0 wA j) → sX0_run_133 F fu h (n + 62) x1 = some o → o.1 = 1 ∧ DkT n h0 o.2 ∧ FrW (fun a i => a = wA ∨ (a = n + 62 ∧ i = 10)) h0 o.2 ∧ hI o.2 (n + 62) 10 = 1 ∧ ∀ j, j < tot → (hI o.2 wA j).toInt = (if (hI h0 wA j).toInt = 3000000 then 0 else (hI h0 wA j).toInt) := by
  have z1 : (1 : Int32).toInt = 1 := rfl
  have s0 := dk_610 k0
  intro fu
  induction fu with
  | zero => intro h x1 i _ _ _ _ _ _ e; exact absurd e (by rw [sX0_run_133]; exact fun z => nomatch z)
  | succ fu ih =>
    intro h x1 i dk Fr e1 it lo hi e
    have T := trf_f T0 dk.2 Fr.1
    obtain ⟨⟨r1, r2, r3⟩, _, w1, _⟩ := id T
    rw [sX0_run_133] at e
    have j18 : hJ h (n + 62) 18 = hJ h0 (n + 62) 18 := (Fr.2 (n + 62) 18 (by omega) (fun z => by omega)).2
    have t18 : (hJ h (n + 62) 18).toInt32.toInt = (tot : Int) := by rw [j18, t6432 (by omega) (by omega), e18]
    rcases br_s e with ⟨c, e⟩ | ⟨c, e⟩
    · have c := le_i c
      rw [t18] at c
      obtain ⟨h2, u2, e⟩ := nm_s e
      have eo := so_e e
      rw [eo, u2]
      refine ⟨rfl, dkt_w dk, fw_wI (fw_s Fr (fun _ _ c => Or.inl c)) (Or.inr ⟨rfl, rfl⟩), rI_s, fun j hj => ?_⟩
      rw [rI_a (by omega)]
      exact lo j (by omega)
    have c := nle_i c
    rw [t18] at c
    have nx : x1.toNatClampNeg = i := by have := nc_i (x := x1) (by omega); omega
    replace e := ce_e r1 e
    replace e := ce_e r1 e
    replace e := gg_e e
    have hh := hi i (Nat.le_refl _)
    have nxt : ∀ {t0 : Int32}, t0.toInt = (if (hI h0 wA i).toInt = 3000000 then 0 else (hI h0 wA i).toInt) → sX0_run_168 F (sX0_run_133 F fu) h (n + 62) x1 t0 x1 wA = some o → o.1 = 1 ∧ DkT n h0 o.2 ∧ FrW (fun a i => a = wA ∨ (a = n + 62 ∧ i = 10)) h0 o.2 ∧ hI o.2 (n + 62) 10 = 1 ∧ ∀ j, j < tot → (hI o.2 wA j).toInt = (if (hI h0 wA j).toInt = 3000000 then 0 else (hI h0 wA j).toInt) := fun {t0} et e => by
      unfold sX0_run_168 at e
      replace e := gg_e e
      obtain ⟨h2, u2, e⟩ := nm_s e
      obtain ⟨v3, w3, e⟩ := nm_s e
      rw [nx] at u2
      refine ih (i := i + 1) (by rw [u2]; exact dkt_w dk) (by rw [u2]; exact fw_wI Fr rfl) (by rw [w3, ta (by rw [z1]; omega), z1]; omega) (by omega) (fun j hj => ?_) (fun j hj => ?_) e
      · by_cases z : j = i
        · rw [z, u2, rI_s]; exact et
        · rw [u2, rI_o z]; exact lo j (by omega)
      · rw [u2, rI_o (by omega)]; exact hi j (by omega)
    rcases br_s e with ⟨c2, e⟩ | ⟨c2, e⟩ <;> rw [nx] at c2
    · refine nxt ?_ e
      rw [← hh, c2, if_pos (show (3000000 : Int32).toInt = 3000000 from rfl)]
      rfl
    · replace e := ce_e r1 e
      replace e := gg_e e
      rw [nx] at e
      refine nxt ?_ e
      rw [if_neg (fun z => c2 (Int32.toInt_inj.mp (by rw [hh, z]; rfl))), hh]
end
end
section
/-! ENDINGS, pure: what is touched, and moves -/
section
variable {L : Nat → Nat → Int} {B : Pz} {s t m a : Nat}
/-- a move that is taken back is a safe one -/
theorem bf_sf (H : LOk L) (K : LawK L) (HM : MOk L B.1) (S2 : pzS B < 2) (F3 : ¬ F3p L B) (nb : L 18 0 = 0) (O : BfO L B s t m) (A : BfA L a) (W : BfW L B s t m a) (Sa : BfS L B) (w0 : wrN L (gsP B s t m a) = 0) : ∃ v, v ∈ moP L (gsP B s t m a) ∧ sfP L (gsP B s t m a) v ∧ tkB v = !decide (a = 15) ∧ ∀ q : Nat, (q : Int) < L 0 0 * L 1 0 → (zAll L (gsP B s t m a) v).1 q = B.1 q := by
  obtain ⟨i, k, hi, fl, ldm⟩ := W
  obtain ⟨nh, ny⟩ := Sa
  have sq := sq_64 H
  have L2 := H.2.2.1
  have ne := bf_ne O
  have bt := bfo_t O
  have Og := wr_ok H K (gs_rd H HM S2 O A) w0
  have J : StR L (8 * m + i) := (H.2.2.2 _ O.2.2.1).2 i hi
  have gmn := gs_mn (B := B) (m := m) S2
  have ld := (led_g (a := a) H J O).mpr ldm
  have gd : GdT L (gsP B s t m a).1 (pzS B) (8 * m + i) t := by
    by_cases c : a = 15
    · rw [if_pos c] at fl
      exact Or.inr ⟨by rw [gs_t ne, if_pos c]; omega, fl⟩
    · rw [if_neg c] at fl
      refine Or.inl ⟨?_, ?_, fl⟩
      · rw [gs_t ne, if_neg c]; unfold cdV; omega
      · rw [gs_t ne, if_neg c]; unfold cdV; omega
  have g0 : 0 < (gsP B s t m a).1 s := by rw [gs_s]; exact gmn.2.2
  have g1 : ((gsP B s t m a).1 s - 1) % 2 = (pzS (gsP B s t m a) : Int) := by rw [gs_s]; exact gmn.2.1
  have g2 : mnO ((gsP B s t m a).1 s) = m := by rw [gs_s]; exact gmn.1
  obtain ⟨q, eq⟩ := ldf_x (D := ldD L (gsP B s t m a).1 (ovP (gsP B s t m a)) true (pzS (gsP B s t m a)) (mnO ((gsP B s t m a).1 s)) s) (t := t) ⟨8 * m + i, k, i, by rw [g2]; exact hi, by rw [g2], ld, Or.inr gd⟩
  have by0 : prB' (ByT L (ovP (gsP B s t m a)) true q.1 t) = false := prb_f.mpr (fun z => gs_ov z.2.2)
  have F3a' : ¬ (0 < L 81 (mnO (B.1 t)) ∧ rkF L t (pzS B) = L 1 0) := fun z => F3 ⟨t, O.2.1.1, O.2.1.2.1, z.1, by rw [O.2.1.2.2]; exact z.2⟩
  have ex : ∃ v, v ∈ mvL L (gsP B s t m a).1 (pzQ (gsP B s t m a) 0) (pzS (gsP B s t m a)) (mnO ((gsP B s t m a).1 s)) s t q.1 q.2 (prB' (ByT L (ovP (gsP B s t m a)) true q.1 t)) ∧ nwV (pzS B) v = B.1 t := by
    rw [g2]
    unfold mvL
    by_cases c : 0 < L 81 m ∧ rkF L t (pzS (gsP B s t m a)) = L 1 0 ∧ ¬ (¬ L 18 0 = 0 ∧ ¬ tkV (gsP B s t m a).1 (pzQ (gsP B s t m a) 0) t (prB' (ByT L (ovP (gsP B s t m a)) true q.1 t)) = -1)
    · rw [if_pos c]
      rcases O.2.2.2 with z | ⟨_, x, hx, ex⟩
      · exact absurd ⟨by rw [← z]; exact c.1, c.2.1⟩ F3a'
      · refine ⟨_, List.mem_map.mpr ⟨x, List.mem_range.mpr (by omega), rfl⟩, ?_⟩
        show cdV (if L 80 (6 * m + x) = -1 then _ else L 80 (6 * m + x)) (pzS B) = B.1 t
        rw [if_neg (by rw [ex]; omega), ex]
        exact bt.symm
    · rw [if_neg c]
      refine ⟨_, List.mem_singleton.mpr rfl, ?_⟩
      show cdV (if (-1 : Int) = -1 then (m : Int) else _) (pzS B) = B.1 t
      rw [if_pos rfl]
      rcases O.2.2.2 with z | ⟨z, x, hx, _⟩
      · rw [z]; exact bt.symm
      · exact absurd ⟨by omega, z, fun y => y.1 nb⟩ c
  obtain ⟨v, hv, vn⟩ := ex
  have hm : v ∈ moP L (gsP B s t m a) := mem_mo O.1.1 O.2.1.1 g0 g1 eq hv
  obtain ⟨⟨v1, v2, v3, v4, v5, v6⟩, _⟩ := mvl_i hv
  rw [by0, if_neg (by decide)] at v5
  have mk := gs_mk H K nb Og O hm v1 v2 v5 vn
  have mk' : ∀ q, q < 64 → B.1 q = mkM L (gsP B s t m a) v q := fun q hq => (mk q hq).symm
  have sf : sfP L (gsP B s t m a) v := by
    refine ⟨fun re => ⟨rye_e mk ((gs_ry H K S2 O).mp re), Or.inr (fun y => nh (ryh_e H mk' y))⟩, ?_⟩
    rcases ny with z | z
    · exact Or.inl z
    · exact Or.inr (fun y => z (ryh_e H mk' y))
  refine ⟨v, hm, sf, ?_, fun q hq => by rw [zall_m]; exact mk q (by omega)⟩
  unfold tkB
  rw [v4, by0]
  unfold tkV
  rw [if_neg (by decide)]
  by_cases c : a = 15
  · rw [if_neg (by rw [gs_t ne, if_pos c]; omega), decide_eq_true c]
    rfl
  · rw [if_pos (by rw [gs_t ne, if_neg c]; unfold cdV; omega), decide_eq_false c, decide_eq_false (by omega)]
end
section
variable {L : Nat → Nat → Int} {N q : Nat} {nk : Nat → Nat} {rk : Nat → Nat → Int} {x y : Nod} {c : Cd} {D : List Nod}
/-- a laid board beyond the squares -/
theorem ly_z (q0 : 0 < q) (q64 : q ≤ 64) {k num s : Nat} (h : 64 ≤ s) : lyM (rk k) q num (nk k) s = 0 := by
  apply Classical.byContradiction
  intro z
  obtain ⟨i, _, e, _⟩ := ly_mem (nk k) z
  have := sqi_lt (num := num) (i := i) q0
  omega
/-- the position behind the touch -/
theorem tn_q (E : LwE L N nk rk q) (sd2 : y.2.2 < 2) (tc : TcC L N nk rk q (ndZ (ndM nk rk q y) (1 - y.2.2)) c) (e : (tnC N nk rk q (ndM nk rk q y) (1 - y.2.2) c).1 = x) : NdA N nk q x ∧ x.2.2 = 1 - y.2.2 ∧ StD (rk x.1) q x.2.1 (nk x.1) ∧ cdP (ndZ (ndM nk rk q y) (1 - y.2.2)) c = ndQ nk rk q x := by
  obtain ⟨_, Fm, q0, q64, eq⟩ := E
  obtain ⟨⟨O, _⟩, _, _, k, num, No⟩ := tc
  have e1 : (tnC N nk rk q (ndM nk rk q y) (1 - y.2.2) c).1 = (k, num, 1 - y.2.2) := ndw_e q0 q64 Fm No
  rw [e1] at e
  rw [← e]
  refine ⟨⟨No.1, No.2.1, by show 1 - y.2.2 < 2; omega⟩, rfl, No.2.2.1, ?_⟩
  have fe : (cdP (ndZ (ndM nk rk q y) (1 - y.2.2)) c).1 = lyM (rk k) q num (nk k) := by
    funext s
    by_cases z : s < 64
    · exact (No.2.2.2 s z).symm
    · have s1 : ¬ s = c.1 := fun w => z (by rw [w]; exact O.1.1)
      have s2 : ¬ s = c.2.1 := fun w => z (by rw [w]; exact O.2.1.1)
      rw [gs_o s1 s2, ly_z q0 q64 (by omega)]
      exact ly_z q0 q64 (by omega)
  show ndZ (cdP (ndZ (ndM nk rk q y) (1 - y.2.2)) c).1 (1 - y.2.2) = ndZ (lyM (rk k) q num (nk k)) (1 - y.2.2)
  rw [fe]
/-- a touch is a safe move -/
theorem tc_sf (E : LwE L N nk rk q) (ry : RtA L N nk rk q y) (rx : RtA L N nk rk q x) (tc : TcY L N nk rk q (ndM nk rk q y) y.2.2 c) (e : (tnC N nk rk q (ndM nk rk q y) (1 - y.2.2) c).1 = x) : ∃ v, v ∈ (moP L (ndQ nk rk q x)).filter (sfB L (ndQ nk rk q x)) ∧ tkB v = (tnC N nk rk q (ndM nk rk q y) (1 - y.2.2) c).2 ∧ y.2.2 = 1 - x.2.2 ∧ NdO N nk rk q (zAll L (ndQ nk rk q x) v).1 y.1 y.2.1 := by
  obtain ⟨⟨OK, LD, Nc⟩, Fm, q0, q64, eq⟩ := id E
  obtain ⟨ny, Sty, wy⟩ := id ry
  obtain ⟨nx, Stx, wx⟩ := id rx
  obtain ⟨sh, tc⟩ := tc
  have sd2 : y.2.2 < 2 := ny.2.2
  obtain ⟨_, ex, _, ec⟩ := tn_q E sd2 tc e
  obtain ⟨⟨O, Aa⟩, nr, W, _⟩ := id tc
  have HM : MOk L (ndM nk rk q y) := nd_mok q0 eq (Fm.1 _ ny.1)
  have wy' := (nd_wr (sd := y.2.2) Nc.1 (nd_un (q := q) (num := y.2.1) (Fm.1 _ ny.1))).mp wy
  have F3 : ¬ F3p L (ndZ (ndM nk rk q y) (1 - y.2.2)) := fun ⟨s, s64, f⟩ => wy'.1 ⟨s, s64, f⟩
  have Sa : BfS L (ndZ (ndM nk rk q y) (1 - y.2.2)) := by
    refine ⟨wy'.2, ?_⟩
    have e1 : 1 - pzS (ndZ (ndM nk rk q y) (1 - y.2.2)) = y.2.2 := by show 1 - (1 - y.2.2) = y.2.2; omega
    rw [e1]
    exact sh
  have w0 : wrN L (gsP (ndZ (ndM nk rk q y) (1 - y.2.2)) c.1 c.2.1 c.2.2.1 c.2.2.2) = 0 := by
    have : wrN L (cdP (ndZ (ndM nk rk q y) (1 - y.2.2)) c) = 0 := by rw [ec]; exact wx
    exact this
  obtain ⟨v, hm, sf, tk, ld⟩ := bf_sf OK.1 OK.2.1 HM (by show 1 - y.2.2 < 2; omega) F3 Nc.1 O Aa W Sa w0
  have ec' : gsP (ndZ (ndM nk rk q y) (1 - y.2.2)) c.1 c.2.1 c.2.2.1 c.2.2.2 = ndQ nk rk q x := ec
  rw [ec'] at hm sf ld
  refine ⟨v, List.mem_filter.mpr ⟨hm, prb_e.mpr sf⟩, tk, by omega, ny.1, ny.2.1, Sty, fun s hs => ?_⟩
  have HMx : MOk L (ndM nk rk q x) := nd_mok q0 eq (Fm.1 _ nx.1)
  have Ox := nd_ok OK.1 OK.2.1 HMx nx.2.2 wx
  have Oz := pz_ok OK.1 OK.2.1 Ox (mo_g OK.1 OK.2.1 Ox hm)
  by_cases z : (s : Int) < L 0 0 * L 1 0
  · exact (ld s z).symm
  · have a := Oz.1 s hs
    have b := HM s hs
    have b0 : ¬ 0 < lyM (rk y.1) q y.2.1 (nk y.1) s := fun w => z (b.2 w).1
    have a0 : ¬ 0 < (zAll L (ndQ nk rk q x) v).1 s := fun w => z (a.2 w).1
    have b1 : 0 ≤ lyM (rk y.1) q y.2.1 (nk y.1) s := b.1
    have a1 : 0 ≤ (zAll L (ndQ nk rk q x) v).1 s := a.1
    omega
/-- a legal move is a touch -/
theorem lg_tc (E : LwE L N nk rk q) (rx : RtA L N nk rk q x) (ry : RtA L N nk rk q y) (es : y.2.2 = 1 - x.2.2) {v : MvT} (hv : v ∈ lgL L (ndQ nk rk q x)) (No : NdO N nk rk q (zAll L (ndQ nk rk q x) v).1 y.1 y.2.1) : ∃ c, TcY L N nk rk q (ndM nk rk q y) y.2.2 c ∧ tnC N nk rk q (ndM nk rk q y) (1 - y.2.2) c = (x, tkB v) := by
  obtain ⟨⟨OK, LD, Nc⟩, Fm, q0, q64, eq⟩ := id E
  have H := OK.1
  have K := OK.2.1
  have L2 := H.2.2.1
  have kr := K.2.1
  obtain ⟨nx, Stx, wx⟩ := id rx
  obtain ⟨ny, Sty, wy⟩ := id ry
  have sx2 : x.2.2 < 2 := nx.2.2
  have d1 : 1 - y.2.2 = x.2.2 := by omega
  have Rx := Fm.1 _ nx.1
  have HMx : MOk L (lyM (rk x.1) q x.2.1 (nk x.1)) := nd_mok q0 eq Rx
  have Ox := nd_ok H K HMx sx2 wx
  obtain ⟨sf, hm, ne1⟩ := lg_sf hv
  have G := mo_g H K Ox hm
  have k0 := nd_k0 H K Ox hm
  have mk := nd_mk H K Nc.1 Ox hm
  obtain ⟨s, t, s64, t64, a1, a2, ne, ms, es', a3, bb, tk⟩ := nd_mv H K wx HMx sx2 hm
  obtain ⟨M, hM⟩ : ∃ M, M = lyM (rk x.1) q x.2.1 (nk x.1) := ⟨_, rfl⟩
  obtain ⟨M', hM'⟩ : ∃ M', M' = lyM (rk y.1) q y.2.1 (nk y.1) := ⟨_, rfl⟩
  rw [← hM] at ms es' a3 bb tk
  have My : ∀ z, z < 64 → M' z = (if z = t then nwV x.2.2 v else if z = s then 0 else M z) := fun z hz => by
    have a := No.2.2.2 z hz
    have b := mk z hz
    rw [a1, a2, ← a] at b
    rw [hM', hM]
    exact b
  have mL := ((HMx s s64).2 (by rw [hM] at ms; exact ms))
  have mno := mno_lt (L := L) ms (by rw [hM]; exact mL.2)
  have m12 : mnO (M s) < 12 := by omega
  have Ms : M s = cdV ((mnO (M s) : Nat) : Int) (x.2.2 : Int) := (cdv_m ms es').symm
  -- what stands on t behind the move
  have nw : nwV x.2.2 v = cdV (if mvB v = -1 then mvM v else mvB v) x.2.2 := rfl
  have nwt : 0 < nwV x.2.2 v ∧ (nwV x.2.2 v - 1) % 2 = (x.2.2 : Int) ∧ ((nwV x.2.2 v = M s) ∨ ∃ u : Nat, (u : Int) < L 81 (mnO (M s)) ∧ nwV x.2.2 v = cdV (L 80 (6 * mnO (M s) + u)) x.2.2) := by
    by_cases c : mvB v = -1
    · rw [nw, if_pos c, a3, ← Ms]
      exact ⟨ms, es', Or.inl rfl⟩
    · rw [nw, if_neg c]
      rcases bb with z | ⟨u, hu, z⟩
      · exact absurd z c
      · rw [z]
        have lk := ((K.1 _ m12).2 u hu).1
        refine ⟨by unfold cdV; omega, by unfold cdV; omega, Or.inr ⟨u, hu, rfl⟩⟩
  obtain ⟨w, hw⟩ : ∃ w, w = nwV x.2.2 v := ⟨_, rfl⟩
  rw [← hw] at nwt
  rw [← hw] at My
  obtain ⟨w0, w1, w2⟩ := nwt
  have Mt' : M' t = w := by rw [My t t64, if_pos rfl]
  have Ms' : M' s = 0 := by rw [My s s64, if_neg ne, if_pos rfl]
  -- whoever is taken
  obtain ⟨a, ha, hA, hr⟩ : ∃ a : Nat, (M t = (if a = 15 then 0 else cdV a (1 - (x.2.2 : Int)))) ∧ BfA L a ∧ ¬ (a : Int) = L 10 0 := by
    by_cases c : 0 < M t
    · obtain ⟨t1, t2⟩ := tk c
      have mt := ((HMx t t64).2 (by rw [hM] at c; exact c))
      have mt2 : M t ≤ 2 * L 2 0 := by rw [hM]; exact mt.2
      have ml := mno_lt (L := L) c mt2
      refine ⟨mnO (M t), ?_, Or.inr ml.1, t2⟩
      rw [if_neg (by omega)]
      have := ml.2
      unfold cdV
      omega
    · refine ⟨15, ?_, Or.inl rfl, by omega⟩
      rw [if_pos rfl]
      have : 0 ≤ M t := by rw [hM]; exact (HMx t t64).1
      omega
  have brd : updM (updM M' t (if a = 15 then 0 else cdV a (1 - (x.2.2 : Int)))) s (cdV ((mnO (M s) : Nat) : Int) (x.2.2 : Int)) = M := by
    funext z
    show (if z = s then _ else if z = t then _ else M' z) = M z
    by_cases c1 : z = s
    · rw [if_pos c1, c1]; exact Ms.symm
    · rw [if_neg c1]
      by_cases c2 : z = t
      · rw [if_pos c2, c2]; exact ha.symm
      · rw [if_neg c2]
        by_cases z6 : z < 64
        · rw [My z z6, if_neg c2, if_neg c1]
        · rw [hM', hM]
          show lyM _ _ _ _ z = lyM _ _ _ _ z
          rw [ly_z q0 q64 (by omega), ly_z q0 q64 (by omega)]
  have gsE : gsP (ndZ M' x.2.2) s t (mnO (M s)) a = ndQ nk rk q x := by
    show ndZ (updM (updM M' t (if a = 15 then 0 else cdV a (1 - (x.2.2 : Int)))) s (cdV ((mnO (M s) : Nat) : Int) (x.2.2 : Int))) x.2.2 = ndZ (lyM (rk x.1) q x.2.1 (nk x.1)) x.2.2
    rw [brd, hM]
  have sL : (s : Int) < L 0 0 * L 1 0 := mL.1
  have O : BfO L (ndZ M' x.2.2) s t (mnO (M s)) := by
    refine ⟨⟨s64, sL, Ms'⟩, ⟨t64, by show 0 < M' t; rw [Mt']; exact w0, by show (M' t - 1) % 2 = (x.2.2 : Int); rw [Mt']; exact w1⟩, mno.1, ?_⟩
    show mnO (M s) = mnO (M' t) ∨ (rkF L t x.2.2 = L 1 0 ∧ ∃ k : Nat, (k : Int) < L 81 (mnO (M s)) ∧ L 80 (6 * mnO (M s) + k) = ((mnO (M' t) : Nat) : Int))
    rw [Mt']
    by_cases pmt : 0 < L 81 (mnO (M s)) ∧ rkF L t x.2.2 = L 1 0
    · have pm := nd_pm (M := lyM (rk x.1) q x.2.1 (nk x.1)) (s := s) (t := t) H K Nc.1 sx2 (by rw [← hM]; exact m12) (by rw [← hM]; exact pmt) hm a1 a2
      rw [← hM, ← hw] at pm
      obtain ⟨u, hu, eu⟩ := pm.1
      have lk := (K.1 _ m12).2 u hu
      refine Or.inr ⟨pmt.2, u, hu, ?_⟩
      have g : ∀ z : Int, 0 ≤ z → z = ((mnO (cdV z (x.2.2 : Int)) : Nat) : Int) := fun z hz => by unfold cdV mnO; omega
      rw [eu]
      exact g _ lk.1.1
    · have np := nd_np (M := lyM (rk x.1) q x.2.1 (nk x.1)) (s := s) (t := t) H K Nc.1 sx2 HMx wx (by rw [← hM]; exact ms) (by rw [← hM]; exact es') (by rw [← hM]; exact pmt) hm a1 a2
      rw [← hM, ← hw] at np
      exact Or.inl (by rw [np])
  have R : BfR L (ndZ M' x.2.2) s t (mnO (M s)) a := by
    refine ⟨O, hA, ?_, ?_⟩
    · rw [gsE]
      rcases mo_i H hm with ⟨s', t', u, _, _, _, _, el, mv⟩ | ⟨_, p, _, _, _, _, _, ev, cs⟩ | ⟨_, _, _, _, ev, _⟩
      · have iv := mvl_j mv
        have b1 : mvS v = (s' : Int) := congrArg (fun u : MvT => u.1) iv
        have b2 : mvD v = (t' : Int) := congrArg (fun u : MvT => u.2.1) iv
        have ss : s' = s := by omega
        have tt : t' = t := by omega
        subst ss
        subst tt
        obtain ⟨⟨i, hi, ej, ld, g⟩, _⟩ := ldf_i el
        have hi : (i : Int) < L 74 (mnO (lyM (rk x.1) q x.2.1 (nk x.1) s')) := hi
        have ej : u.1 = 8 * mnO (lyM (rk x.1) q x.2.1 (nk x.1) s') + i := ej
        rw [← hM] at hi ej
        refine ⟨u.1, u.2, i, hi, ej, ld, Or.inr ?_⟩
        rcases g with g | g
        · exact absurd g.2.2 (fun ⟨i, i1, i2, _⟩ => absurd i2 (Nat.not_lt_zero _))
        · exact g
      · have : mvK v = 2 := by rw [ev]; rfl
        omega
      · have : mvK v = 3 := by rw [ev]
        omega
    · unfold BfL
      rw [gsE]
      refine ⟨wx, v, hv, by have k0 : v.2.2.2.2.2.1 = 0 := k0
                            omega, fun z hz => ?_⟩
      have z6 : z < 64 := by omega
      show (zAll L (ndQ nk rk q x) v).1 z = M' z
      rw [← No.2.2.2 z z6, hM']
  have S2 : pzS (ndZ M' x.2.2) < 2 := sx2
  have HMy : MOk L (ndZ M' x.2.2).1 := by
    show MOk L M'
    rw [hM']
    exact nd_mok q0 eq (Fm.1 _ ny.1)
  obtain ⟨_, ⟨_, _⟩, W, Sa, _⟩ := bf_rc H K HMy S2 Nc.1 R
  have Nx : NdO N nk rk q (gsP (ndZ M' x.2.2) s t (mnO (M s)) a).1 x.1 x.2.1 := by
    rw [gsE]
    exact ⟨nx.1, nx.2.1, Stx, fun _ _ => rfl⟩
  suffices goal : ∃ c, TcY L N nk rk q M' y.2.2 c ∧ tnC N nk rk q M' (1 - y.2.2) c = (x, tkB v) by
    rw [hM'] at goal
    exact goal
  refine ⟨(s, t, mnO (M s), a), ?_, ?_⟩
  · unfold TcY
    rw [d1]
    refine ⟨?_, ⟨O, hA⟩, hr, W, x.1, x.2.1, Nx⟩
    have e1 : 1 - pzS (ndZ M' x.2.2) = y.2.2 := by show 1 - x.2.2 = y.2.2; omega
    have := Sa.2
    rw [e1] at this
    exact this
  · rw [d1]
    have e1 : ndW N nk rk q (cdP (ndZ M' x.2.2) (s, t, mnO (M s), a)).1 x.2.2 = x := ndw_e q0 q64 Fm Nx
    show (ndW N nk rk q (cdP (ndZ M' x.2.2) (s, t, mnO (M s), a)).1 x.2.2, !decide (a = 15)) = (x, tkB v)
    rw [e1]
    refine congrArg (fun b => (x, b)) ?_
    have ga := (G.2.2.2.1 k0).1
    have ga : mvA v = (if 0 < (lyM (rk x.1) q x.2.1 (nk x.1)) (mvD v).toNat then ((mnO ((lyM (rk x.1) q x.2.1 (nk x.1)) (mvD v).toNat) : Nat) : Int) else -1) := ga
    rw [a2, ← hM] at ga
    have ga : mvA v = (if 0 < M t then ((mnO (M t) : Nat) : Int) else -1) := ga
    unfold tkB
    show (!decide (a = 15)) = !decide (mvA v = -1)
    rw [ga]
    by_cases c : a = 15
    · rw [if_pos c] at ha
      rw [decide_eq_true c, if_neg (by omega)]
      rfl
    · rw [if_neg c] at ha
      have pt : 0 < M t := by rw [ha]; unfold cdV; omega
      rw [decide_eq_false c, if_pos pt, decide_eq_false (by omega)]
end
end
