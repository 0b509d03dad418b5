/-! the class: whether a way leads to its end -/
theorem wd6_all : ∀ k : Fin 8, ∀ f : Fin 64, ((nI (f.val + 64 * k.val)) &&& (63 : Int32)) = nI f.val := by decide +kernel
/-- a way's fields -/
theorem wd_f {w : Int32} {t : Nat} {fl k : Int} (ht : t < 64) (hf : 0 ≤ fl ∧ fl ≤ 63) (hk : 0 ≤ k ∧ k ≤ 7) (e : w.toInt = t + 64 * fl + 4096 * k) : (w &&& (63 : Int32)).toInt = (t : Int) ∧ ((w >>> ((6 : Int32) &&& 31)) &&& (63 : Int32)).toInt = fl ∧ (w >>> ((12 : Int32) &&& 31)).toInt = k := by
  have s6 : (w >>> ((6 : Int32) &&& 31)).toInt = w.toInt / 64 := shr_i 6 (by decide)
  have s12 : (w >>> ((12 : Int32) &&& 31)).toInt = w.toInt / 4096 := shr_i 12 (by decide)
  have c6 : ((2 ^ 6 : Nat) : Int) = 64 := by decide
  refine ⟨?_, ?_, ?_⟩
  · rw [and_i (m := 6) (by omega) (by decide) rfl, c6]; omega
  · rw [and_i (m := 6) (by rw [s6]; omega) (by decide) rfl, s6, c6]; omega
  · rw [s12]; omega
section
variable {F : Nat} {V : Nat → Nat} {h : Hp} {L : Nat → Nat → Int} {M : Nat → Int} {o : Int32 × Hp}
/-- whether the squares between let it pass -/
theorem op_v {x1 : Int32} {occ : Int64} {c s t i : Nat} {k : Int} (H : LOk L) (J : StR L (8 * (c / 2) + i)) (wc : WCf V h) (sL : (s : Int) < L 0 0 * L 1 0) (ht : t < 64) (rk : RchL L (8 * (c / 2) + i) ((c % 2 : Nat) : Int) s t k) (wd : (hI h (V 51) x1.toNatClampNeg).toInt = t + 64 * L 75 (8 * (c / 2) + i) + 4096 * k) (bt : ∀ q, q < 64 → (bitJ (hJ h (V 52) x1.toNatClampNeg) q = true ↔ ∃ j : Nat, 1 ≤ j ∧ (j : Int) < k ∧ (q : Int) = s + j * (((t : Int) - s) / k))) (bo : ∀ q, q < 64 → (bitJ occ q = true ↔ 0 < M q)) (e : sX10_isOpen h (V 11) x1 occ = some o) : o.2 = h ∧ ((o.1 = 0 ∧ ¬ cnP M s (((t : Int) - s) / k) (k - 1).toNat = ovN L (8 * (c / 2) + i)) ∨ (o.1 = 1 ∧ cnP M s (((t : Int) - s) / k) (k - 1).toNat = ovN L (8 * (c / 2) + i))) := by
  have kr := rk.2.2.1
  have k1 := rk.2.1
  have r7 := J.2.2.2.2.1
  obtain ⟨_, wd8⟩ := wd_e ht J.1 ⟨by omega, by omega⟩ wd
  obtain ⟨m0, m1⟩ := met_b (M := M) H J sL rk bt bo
  unfold sX10_isOpen sX10_isOpen_37 sX10_isOpen_61 sX10_isOpen_62 at e
  replace e := ce_e wc.2.2.1 e
  replace e := gg_e e
  replace e := nm_s e; obtain ⟨v3, u3, e⟩ := e
  rw [← u3] at m0 m1
  replace e := ce_e wc.2.1 e
  replace e := gg_e e
  have cz : ∀ y : Int64, lg_cmp y (0 : Int64) = 0 ↔ y = 0 := fun y => ⟨cmp_eq, fun z => by rw [z]; decide⟩
  rcases br_s e with ⟨ov, e⟩ | ⟨ov, e⟩
  · have o0 : ovN L (8 * (c / 2) + i) = 0 := by
      unfold ovN
      rw [if_neg (by rw [wd8.mp ov]; decide)]
    rw [o0]
    rcases br_s e with ⟨z, e⟩ | ⟨z, e⟩
    · rw [so_e (gg_e e)]
      exact ⟨rfl, Or.inr ⟨rfl, m0.mp ((cz _).mp z)⟩⟩
    · rw [so_e (gg_e e)]
      exact ⟨rfl, Or.inl ⟨rfl, fun y => z ((cz _).mpr (m0.mpr y))⟩⟩
  · have o1 : ovN L (8 * (c / 2) + i) = 1 := by
      unfold ovN
      rw [if_pos]
      cases y : fbt (L 75 (8 * (c / 2) + i)) 3 with
      | true => rfl
      | false => exact absurd (wd8.mpr y) ov
    rw [o1]
    rcases br_s e with ⟨z, e⟩ | ⟨z, e⟩
    · rw [so_e (gg_e e)]
      exact ⟨rfl, Or.inl ⟨rfl, by rw [m0.mp ((cz _).mp z)]; decide⟩⟩
    have nz : ¬ v3 = 0 := fun y => z ((cz _).mpr y)
    rcases br_s e with ⟨y, e⟩ | ⟨y, e⟩
    · rw [so_e (gg_e e)]
      exact ⟨rfl, Or.inr ⟨rfl, (m1 nz).mp ((cz _).mp y)⟩⟩
    · rw [so_e (gg_e e)]
      exact ⟨rfl, Or.inl ⟨rfl, fun x => y ((cz _).mpr ((m1 nz).mpr x))⟩⟩
theorem occ_b {v : Int64} (P1 : ∀ d, d < 2 → Bts (hJ h (V 35) d) M d) (u : v = (hJ h (V 35) 0) ||| (hJ h (V 35) 1)) : ∀ q, q < 64 → (bitJ v q = true ↔ 0 < M q) := fun q hq => by
  rw [u, bj_or, Bool.or_eq_true, P1 0 (by decide) q hq, P1 1 (by decide) q hq]
  constructor
  · rintro (z | z)
    · exact z.1
    · exact z.1
  · intro z
    by_cases c : (M q - 1) % 2 = 0
    · exact Or.inl ⟨z, c⟩
    · exact Or.inr ⟨z, by omega⟩
/-- a square's bit in a row of bits -/
theorem bit_z {A : Int64} {x : Int32} (i : Rg 0 63 x) : lg_cmp (A &&& ((1 : Int64) <<< (x.toInt64 &&& 63))) (0 : Int64) = 0 ↔ ¬ bitJ A x.toNatClampNeg = true := by
  have cx := nc_i i.1
  have x63 := i.2
  have cz : ∀ y : Int64, lg_cmp y (0 : Int64) = 0 ↔ y = 0 := fun y => ⟨cmp_eq, fun z => by rw [z]; decide⟩
  rw [cz, j_zero]
  constructor
  · intro y b
    have := y x.toNatClampNeg (by omega)
    rw [bj_and, b, bj_one i, decide_eq_true rfl] at this
    exact absurd this (by decide)
  · intro y s hs
    rw [bj_and, bj_one i]
    by_cases c : x.toNatClampNeg = s
    · rw [← c]
      cases d : bitJ A x.toNatClampNeg with
      | false => rfl
      | true => exact absurd d y
    · rw [decide_eq_false c, Bool.and_false]
theorem leads_v {x2 sd : Int32} {ov : Nat → Prop} {c s t i : Nat} {k : Int} {ro : Int} (H : LOk L) (HM : MOk L M) (J : StR L (8 * (c / 2) + i)) (w6 : hR h (V 6) 1 = some (V 11)) (wc : WCf V h) (Pc : VPc V h) (P : PosC h (V 34) (V 35) (V 36) M ro) (sL : (s : Int) < L 0 0 * L 1 0) (ht : t < 64) (rk : RchL L (8 * (c / 2) + i) ((c % 2 : Nat) : Int) s t k) (wd : (hI h (V 51) x2.toNatClampNeg).toInt = t + 64 * L 75 (8 * (c / 2) + i) + 4096 * k) (bt : ∀ q, q < 64 → (bitJ (hJ h (V 52) x2.toNatClampNeg) q = true ↔ ∃ j : Nat, 1 ≤ j ∧ (j : Int) < k ∧ (q : Int) = s + j * (((t : Int) - s) / k))) (isd : sd.toInt = ((c % 2 : Nat) : Int)) (bov : ∀ q, q < 64 → (bitJ (hJ h (V 4) 10) q = true ↔ ov q)) (ove : ∀ q, ov q → M q = 0) (e : sX5_leads h (V 6) (V 4) x2 sd = some o) : o.2 = h ∧ ((o.1 = 0 ∧ ¬ LdG L M ov (decide (sd = hI h (V 4) 5)) ((c % 2 : Nat) : Int) (8 * (c / 2) + i) s t k) ∨ (o.1 = 1 ∧ LdG L M ov (decide (sd = hI h (V 4) 5)) ((c % 2 : Nat) : Int) (8 * (c / 2) + i) s t k)) := by
  have z1 : (1 : Int32).toInt = 1 := rfl
  have kr := rk.2.2.1
  have k1 := rk.2.1
  have r7 := J.2.2.2.2.1
  obtain ⟨f63, ffl, _⟩ := wd_f ht J.1 ⟨by omega, by omega⟩ wd
  have cs := nc_i (x := sd) (by omega)
  unfold sX5_leads sX5_leads_62 at e
  replace e := ce_e w6 e
  replace e := ce_e wc.2.1 e
  replace e := gg_e e
  replace e := nm_s e; obtain ⟨v4, u4, e⟩ := e
  rw [← u4] at ffl
  replace e := ce_e w6 e
  replace e := ce_e wc.2.1 e
  replace e := gg_e e
  replace e := nm_s e; obtain ⟨v8, u8, e⟩ := e
  have it : Rg 0 63 ((hI h (V 51) x2.toNatClampNeg) &&& (63 : Int32)) := ⟨by omega, by omega⟩
  have ct : ((hI h (V 51) x2.toNatClampNeg) &&& (63 : Int32)).toNatClampNeg = t := by have := nc_i it.1; omega
  have bz : ∀ A : Int64, lg_cmp (A &&& v8) (0 : Int64) = 0 ↔ ¬ bitJ A t = true := fun A => by rw [u8, bit_z it, ct]
  obtain ⟨fb0, fb1, _, _, _, fb5⟩ := fb_e (x := v4) ⟨by rw [ffl]; exact J.1.1, by rw [ffl]; exact J.1.2⟩
  rw [ffl] at fb0 fb1 fb5
  have dec : ∀ {b : Bool}, (b = true ∨ b = false) := fun {b} => by cases b <;> simp
  replace e := ce_e Pc.2.1 e
  replace e := gg_e e
  have own := P.2.1 sd.toNatClampNeg (by omega) t ht
  rw [cs, isd] at own
  rcases br_s e with ⟨q, e⟩ | ⟨q, e⟩
  rotate_left
  · -- an own man
    have b : bitJ (hJ h (V 35) sd.toNatClampNeg) t = true := by
      cases y : bitJ (hJ h (V 35) sd.toNatClampNeg) t with
      | true => rfl
      | false => exact absurd ((bz _).mpr (by rw [y]; decide)) q
    obtain ⟨m1, m2⟩ := own.mp b
    rw [so_e e]
    refine ⟨rfl, Or.inl ⟨rfl, ?_⟩⟩
    rintro ⟨_, z | (z | z)⟩
    · have := ove t z.2.2
      omega
    · exact z.2.1 m2
    · exact z.1 m1
  have nown : ¬ (0 < M t ∧ (M t - 1) % 2 = ((c % 2 : Nat) : Int)) := fun z => (bz _).mp q (own.mpr z)
  replace e := ce_e w6 e
  unfold sX3_occupied at e
  replace e := cl_s e; obtain ⟨o13, eo13, e⟩ := e
  replace eo13 := ce_e Pc.2.1 eo13
  replace eo13 := gg_e eo13
  replace eo13 := ce_e Pc.2.1 eo13
  replace eo13 := gg_e eo13
  rw [so_e eo13] at e
  replace e := cl_s e; obtain ⟨o14, eo14, e⟩ := e
  dsimp only at eo14
  have bo := occ_b (M := M) P.2.1 (v := (hJ h (V 35) (0 : Int32).toNatClampNeg) ||| (hJ h (V 35) (1 : Int32).toNatClampNeg)) rfl
  obtain ⟨w14, v14⟩ := op_v H J wc sL ht rk wd bt bo eo14
  rw [w14] at e
  rcases br_s e with ⟨op, e⟩ | ⟨op, e⟩
  · rw [so_e e]
    refine ⟨rfl, Or.inl ⟨rfl, ?_⟩⟩
    rintro ⟨z, _⟩
    rcases v14 with ⟨_, y⟩ | ⟨y, _⟩
    · exact y z.2
    · rw [y] at op; exact absurd op (by decide)
  have opn : Led L M (8 * (c / 2) + i) ((c % 2 : Nat) : Int) s t k := by
    rcases v14 with ⟨y, _⟩ | ⟨_, y⟩
    · exact absurd y op
    · exact ⟨rk, y⟩
  -- to whom it leads
  have k94 : ¬ ByT L ov (decide (sd = hI h (V 4) 5)) (8 * (c / 2) + i) t → sX5_leads_94 h (V 4) sd v4 v8 = some o → o.2 = h ∧ ((o.1 = 0 ∧ ¬ LdG L M ov (decide (sd = hI h (V 4) 5)) ((c % 2 : Nat) : Int) (8 * (c / 2) + i) s t k) ∨ (o.1 = 1 ∧ LdG L M ov (decide (sd = hI h (V 4) 5)) ((c % 2 : Nat) : Int) (8 * (c / 2) + i) s t k)) := fun nb u => by
    unfold sX5_leads_94 sX5_leads_115 sX5_leads_129 sX5_leads_138 at u
    replace u := ce_e Pc.2.1 u
    replace u := gg_e u
    have t1 : ((1 : Int32) - sd).toInt = 1 - ((c % 2 : Nat) : Int) := by rw [ts (by rw [z1]; omega), z1, isd]
    have c1 := nc_i (x := (1 : Int32) - sd) (by omega)
    have oth := P.2.1 ((1 : Int32) - sd).toNatClampNeg (by omega) t ht
    rw [c1, t1] at oth
    rcases br_s u with ⟨y, u⟩ | ⟨y, u⟩
    · have em : ¬ 0 < M t := fun z => (bz _).mp y (oth.mpr ⟨z, by
        by_cases w : (M t - 1) % 2 = ((c % 2 : Nat) : Int)
        · exact absurd ⟨z, w⟩ nown
        · omega⟩)
      replace u := bp_e rfl u
      rcases br_s u with ⟨g, u⟩ | ⟨g, u⟩
      · rw [so_e (gg_e u)]
        exact ⟨rfl, Or.inr ⟨rfl, opn, Or.inr (Or.inr ⟨em, fb1.mp g⟩)⟩⟩
      · rw [so_e (gg_e u)]
        refine ⟨rfl, Or.inl ⟨rfl, ?_⟩⟩
        rintro ⟨_, z | (z | z)⟩
        · exact nb z
        · exact em z.1
        · exact g (fb1.mpr z.2)
    · have b : bitJ (hJ h (V 35) ((1 : Int32) - sd).toNatClampNeg) t = true := by
        cases y' : bitJ (hJ h (V 35) ((1 : Int32) - sd).toNatClampNeg) t with
        | true => rfl
        | false => exact absurd ((bz _).mpr (by rw [y']; decide)) y
      obtain ⟨m1, m2⟩ := oth.mp b
      replace u := bn_e (by decide) u
      rcases br_s u with ⟨g, u⟩ | ⟨g, u⟩
      · rw [so_e (gg_e u)]
        exact ⟨rfl, Or.inr ⟨rfl, opn, Or.inr (Or.inl ⟨m1, fun z => by omega, fb0.mp g⟩)⟩⟩
      · rw [so_e (gg_e u)]
        refine ⟨rfl, Or.inl ⟨rfl, ?_⟩⟩
        rintro ⟨_, z | (z | z)⟩
        · exact nb z
        · exact g (fb0.mpr z.2.2)
        · exact z.1 m1
  rcases br_s e with ⟨g, e⟩ | ⟨g, e⟩
  · refine k94 (fun z => ?_) e
    have := z.2.1
    rw [fb5.mp g] at this
    exact absurd this (by decide)
  have f5 : fbt (L 75 (8 * (c / 2) + i)) 5 = true := by
    cases y : fbt (L 75 (8 * (c / 2) + i)) 5 with
    | true => rfl
    | false => exact absurd (fb5.mpr y) g
  rcases br_s e with ⟨sdE, e⟩ | ⟨sdE, e⟩
  rotate_left
  · refine k94 (fun z => ?_) e
    exact sdE (of_decide_eq_true z.1)
  rcases br_s e with ⟨y, e⟩ | ⟨y, e⟩
  · exact k94 (fun z => (bz _).mp y ((bov t ht).mpr z.2.2)) e
  · have b : bitJ (hJ h (V 4) 10) t = true := by
      cases y' : bitJ (hJ h (V 4) 10) t with
      | true => rfl
      | false => exact absurd ((bz _).mpr (by rw [y']; decide)) y
    rw [so_e e]
    exact ⟨rfl, Or.inr ⟨rfl, opn, Or.inl ⟨decide_eq_true sdE, f5, (bov t ht).mp b⟩⟩⟩
end
