section
/-! PROBLEM of the reference: the call -/
section
variable {n d F D p j : Nat} {g h : Hp} {L : Nat → Nat → Int} {P Q : Pz} {v : MvT} {o : Int32 × Hp} {x1 x2 x3 x4 x5 : Int32} {K G : Int} {σ : Sy} {pb : Option Pb}
theorem kri_s {i : Nat} {x : Int32} (k : DyK n g h) (C : KrI n h (kyL L K G (d + 1) P i)) (ix : x.toInt = (i : Int)) (le : (kyL L K G (d + 1) P i).length < 3000) (t : 0 < mvG L P (mvV L K G d true P) i) : KrI n (wI (wI h (n + 608) (hI h (n + 513) 70).toNatClampNeg x) (n + 513) 70 (hI (wI h (n + 608) (hI h (n + 513) 70).toNatClampNeg x) (n + 513) 70 + (1 : Int32))) (kyL L K G (d + 1) P (i + 1)) := by
  have z1 : (1 : Int32).toInt = 1 := rfl
  obtain ⟨c1, c2⟩ := C
  have n7 : (hI h (n + 513) 70).toNatClampNeg = (kyL L K G (d + 1) P i).length := by have := nc_i (x := hI h (n + 513) 70) (by omega); omega
  have y7 : hI (wI h (n + 608) (hI h (n + 513) 70).toNatClampNeg x) (n + 513) 70 = hI h (n + 513) 70 := by rw [r_I, if_neg (fun z => by omega)]
  have ks : kyL L K G (d + 1) P (i + 1) = kyL L K G (d + 1) P i ++ [i] := by
    rw [kyl_s]
    exact congrArg _ (if_pos t)
  rw [ks]
  refine ⟨?_, fun q hq => ?_⟩
  · rw [rI_s, y7, ta (by omega), c1, z1, List.length_append]
    rfl
  · rw [List.length_append] at hq
    have hq : q < (kyL L K G (d + 1) P i).length + 1 := hq
    rw [r_I, if_neg (fun z => by omega), r_I, n7]
    rcases Nat.lt_or_ge q (kyL L K G (d + 1) P i).length with z | z
    · obtain ⟨y, y1, y2⟩ := c2 q z
      rw [if_neg (fun w => by omega)]
      exact ⟨y, by rw [List.getElem?_append_left z]; exact y1, y2⟩
    · have qq : q = (kyL L K G (d + 1) P i).length := by omega
      rw [if_pos ⟨rfl, qq⟩]
      refine ⟨i, ?_, ix⟩
      rw [List.getElem?_append_right z, qq, Nat.sub_self]
      rfl
theorem kri_0 {i : Nat} (C : KrI n h (kyL L K G (d + 1) P i)) (t : ¬ 0 < mvG L P (mvV L K G d true P) i) : KrI n h (kyL L K G (d + 1) P (i + 1)) := by
  have ks : kyL L K G (d + 1) P (i + 1) = kyL L K G (d + 1) P i := by
    rw [kyl_s]
    exact (congrArg (fun z => kyL L K G (d + 1) P i ++ z) (if_neg t)).trans (List.append_nil _)
  rw [ks]; exact C
/-- the loop over first moves; d + 1 moves in all -/
theorem rp_197 {h0 : Hp} {N : Nat} (OK : LwOk L) (Oz : PzOk L P) (nv : 1 ≤ N ∧ N ≤ 4) (kv : 0 ≤ K ∧ K ≤ 3) (dl : d + 1 = lsP K N) (i2 : x2.toInt = K) (i3 : x3.toInt = G) (i4 : x4.toInt = (N : Int)) (bd : trV L K G (d + 1) true P ≤ 100000) : ∀ (f : Nat) {u : Hp} {x6 x7 : Int32} {i : Nat}, DyK n h0 u → FrP n h0 u → RLw n u L → RxD n L u 0 P → x7.toInt = (i : Int) → i ≤ (lgL L P).length → x6.toInt = (smT (mvG L P (mvV L K G d true P)) i : Nat) → KrI n u (kyL L K G (d + 1) P i) → (∀ a i, a = n + 513 ∧ 64 ≤ i ∧ i ≤ 68 → hI u a i = hI h0 a i) → sX15_problem_197 F f u (n + 513) x2 x3 x4 x6 x7 = some o → DyK n h0 o.2 ∧ FrP n h0 o.2 ∧ o.1.toInt = (trV L K G (d + 1) true P : Nat) ∧ KrI n o.2 (kyL L K G (d + 1) P (lgL L P).length) ∧ (∀ a i, a = n + 513 ∧ 64 ≤ i ∧ i ≤ 68 → hI o.2 a i = hI h0 a i) := by
  have z1 : (1 : Int32).toInt = 1 := rfl
  have z0 : (0 : Int32).toInt = 0 := rfl
  have z2 : (2 : Int32).toInt = 2 := rfl
  have i32 : ∀ {a b : Int32}, ¬ a = b → ¬ a.toInt = b.toInt := fun z y => z (Int32.toInt_inj.mp y)
  have ln := lgl_le OK.1 OK.2.1 Oz
  have ts : trV L K G (d + 1) true P = smT (mvG L P (mvV L K G d true P)) (lgL L P).length := trv_s (by omega)
  rw [ts] at bd ⊢
  intro f
  induction f with
  | zero => intro u x6 x7 i _ _ _ _ _ _ _ _ _ e; exact absurd e (by rw [sX15_problem_197]; exact fun z => nomatch z)
  | succ f ih =>
    intro u x6 x7 i ku fu Ru Xu i7 il i6 Ku Hu e
    rw [sX15_problem_197] at e
    replace e := ce_e (dk_e (a := 513) (f := 34) (b := 574) ku (by decide +kernel)) e
    replace e := gg_e e
    obtain ⟨l, el, Al⟩ := Xu.2
    replace e := ce_e (show hR u (n + 574) (0 : Int32).toNatClampNeg = some l from el) e
    have m0 : (hI u l 0).toInt = ((lgL L P).length : Int) := Al.1
    rcases br_s e with ⟨c, e⟩ | ⟨c, e⟩
    · have c := le_i c
      have ii : i = (lgL L P).length := by omega
      rw [so_e e, ← ii]
      exact ⟨ku, fu, i6, Ku, Hu⟩
    have c := nle_i c
    have li : i < (lgL L P).length := by omega
    obtain ⟨v, ev⟩ : ∃ v, (lgL L P)[i]? = some v := ⟨_, List.getElem?_eq_getElem li⟩
    have mv : mvG L P (mvV L K G d true P) i = mvV L K G d true P v := mvg_s ev
    have s1 : smT (mvG L P (mvV L K G d true P)) (i + 1) = smT (mvG L P (mvV L K G d true P)) i + mvG L P (mvV L K G d true P) i := rfl
    have s2 : smT (mvG L P (mvV L K G d true P)) (i + 1) ≤ smT (mvG L P (mvV L K G d true P)) (lgL L P).length := smt_m li
    have i7' : (x7 + (1 : Int32)).toInt = ((i + 1 : Nat) : Int) := by rw [ta (by omega), i7, z1]; omega
    have kl : (kyL L K G (d + 1) P i).length ≤ i := kyl_le i
    -- t was counted for this move
    have tail : ∀ {w : Hp} {t : Int32}, DyK n u w → FrD n 1 u w → t.toInt = (mvG L P (mvV L K G d true P) i : Nat) → sX15_problem_270 F (sX15_problem_197 F f) w (n + 513) x2 x3 x4 x6 x7 t = some o → DyK n h0 o.2 ∧ FrP n h0 o.2 ∧ o.1.toInt = (smT (mvG L P (mvV L K G d true P)) (lgL L P).length : Nat) ∧ KrI n o.2 (kyL L K G (d + 1) P (lgL L P).length) ∧ (∀ a i, a = n + 513 ∧ 64 ≤ i ∧ i ≤ 68 → hI o.2 a i = hI h0 a i) := fun {w t} kw fw it e => by
      have kw0 := dk_t ku kw
      have Fw : FrP n h0 w := frp_t ku fu (frp_d fw)
      have Rw := rlw_d ku kw fw Ru
      have Xw := rxd_f ku kw fw (by decide) (by decide) Xu
      have Kw := kri_d ku fw Ku
      have Hw : ∀ a i, a = n + 513 ∧ 64 ≤ i ∧ i ≤ 68 → hI w a i = hI h0 a i := fun a i hh => by
        rw [← Hu a i hh]
        exact (fw.2 a i (by have := dk_610 ku; omega) (fun c => by
          have := rdw_lo ku (by omega) c
          unfold RS at this
          omega)).1
      unfold sX15_problem_270 sX15_problem_305 at e
      replace e := nx_e e
      have sm : (x6 + t).toInt = (smT (mvG L P (mvV L K G d true P)) (i + 1) : Nat) := by rw [ta (by omega), i6, it]; omega
      rcases br_s e with ⟨c, e⟩ | ⟨c, e⟩
      · have c := le_i c
        replace e := nx_e e
        exact ih (i := i + 1) kw0 Fw Rw Xw i7' (by omega) sm (kri_0 Kw (by omega)) Hw e
      · have c := nle_i c
        replace e := ce_e (dk_e (a := 513) (f := 69) (b := 608) kw0 (by decide +kernel)) e
        replace e := gg_e e
        obtain ⟨h5, w5, e⟩ := nm_s e
        obtain ⟨h6, w6, e⟩ := nm_s e
        replace e := nx_e e
        have p5 : PbR n (n + 608) (hI w (n + 513) 70).toNatClampNeg := Or.inr rfl
        have p6 : PbR n (n + 513) 70 := Or.inl ⟨rfl, Or.inr rfl⟩
        have k5 : DyK n h0 h5 := by rw [w5]; exact dk_wI kw0
        have k6 : DyK n h0 h6 := by rw [w6]; exact dk_wI k5
        have F6 : FrP n h0 h6 := by rw [w6, w5]; exact frp_w (frp_w Fw p5) p6
        have R6 : RLw n h6 L := by rw [w6]; exact rlw_w k5 p6 (by rw [w5]; exact rlw_w kw0 p5 Rw)
        have X6 : RxD n L h6 0 P := by rw [w6]; exact rxd_w k5 (by decide) (by omega) (by rw [w5]; exact rxd_w kw0 (by decide) (by omega) Xw)
        have K6 : KrI n h6 (kyL L K G (d + 1) P (i + 1)) := by rw [w6, w5]; exact kri_s kw0 Kw i7 (by omega) (by omega)
        have H6 : ∀ a i, a = n + 513 ∧ 64 ≤ i ∧ i ≤ 68 → hI h6 a i = hI h0 a i := fun a i hh => by
          rw [← Hw a i hh, w6, r_I, if_neg (fun z => by omega), w5, r_I, if_neg (fun z => by omega)]
        exact ih (i := i + 1) k6 F6 R6 X6 i7' (by omega) sm K6 H6 e
    rcases br_s e with ⟨c2, e⟩ | ⟨c2, e⟩
    · have c2 := le_i c2
      obtain ⟨o6, e6, e⟩ := cl_s e
      have rk : rK K N = d := by unfold rK; unfold lsP at dl; split at dl <;> split <;> first | omega | (split at dl <;> omega)
      obtain ⟨k6, f6, y6⟩ := (am_all (n := n) (F := F) (G := G) OK (K := K) ⟨by omega, by omega⟩ 40).2 (d := 0) (N := N) (i := i) (dk_self ku) Ru Xu Oz nv.1 (by omega) rfl i7 ev i4 i2 i3 e6
      rw [rk] at y6
      unfold sX15_problem_262 at e
      rcases y6 with ⟨y1, y2⟩ | ⟨y1, y2⟩
      · exact tail k6 f6 (by rw [mv, y2]; rfl) (bp_e y1 e)
      · exact tail k6 f6 (by rw [mv, y2]; rfl) (bn_e y1 e)
    have c2 := nle_i c2
    have k23 : K = 2 ∨ K = 3 := by omega
    have by' : ∀ {x y : Int32}, x.toInt = ((d + 1 : Nat) : Int) → y = (if K = 3 then 1 else 0) → sX15_problem_244 F (sX15_problem_197 F f) u (n + 513) x2 x3 x4 x6 x7 y x x7 0 (n + 513) = some o → DyK n h0 o.2 ∧ FrP n h0 o.2 ∧ o.1.toInt = (smT (mvG L P (mvV L K G d true P)) (lgL L P).length : Nat) ∧ KrI n o.2 (kyL L K G (d + 1) P (lgL L P).length) ∧ (∀ a i, a = n + 513 ∧ 64 ≤ i ∧ i ≤ 68 → hI o.2 a i = hI h0 a i) := fun {x y} ix iy e => by
      unfold sX15_problem_244 sX15_problem_248 at e
      obtain ⟨o6, e6, e⟩ := cl_s e
      have d8 : d + 1 ≤ 8 := by rw [dl]; unfold lsP; split <;> first | omega | (split <;> omega)
      obtain ⟨k6, f6, y6⟩ := (gr_all (n := n) (F := F) (G := G) OK k23 40).2 (d := 0) (r := d + 1) (i := i) (e := true) (dk_self ku) Ru Xu Oz (by omega) (by omega) rfl i7 ev ix iy i3 (by rw [show d + 1 - 1 = d by omega]; omega) e6
      rw [show d + 1 - 1 = d by omega] at y6
      exact tail k6 f6 (by rw [mv]; exact y6) e
    have ls : K = 2 → d + 1 = 2 * N := fun z => by rw [dl]; unfold lsP; rw [if_neg (by omega), if_neg (by omega)]
    have ls3 : K = 3 → d + 1 = N := fun z => by rw [dl]; unfold lsP; rw [if_neg (by omega), if_pos z]
    have z3 : (3 : Int32).toInt = 3 := rfl
    unfold sX15_problem_234 at e
    have s3 : ∀ {x : Int32}, x.toInt = ((d + 1 : Nat) : Int) → br (x2 = (3 : Int32)) (sX15_problem_244 F (sX15_problem_197 F f) u (n + 513) x2 x3 x4 x6 x7 (1 : Int32) x x7 0 (n + 513)) (sX15_problem_244 F (sX15_problem_197 F f) u (n + 513) x2 x3 x4 x6 x7 (0 : Int32) x x7 0 (n + 513)) = some o → DyK n h0 o.2 ∧ FrP n h0 o.2 ∧ o.1.toInt = (smT (mvG L P (mvV L K G d true P)) (lgL L P).length : Nat) ∧ KrI n o.2 (kyL L K G (d + 1) P (lgL L P).length) ∧ (∀ a i, a = n + 513 ∧ 64 ≤ i ∧ i ≤ 68 → hI o.2 a i = hI h0 a i) := fun {x} ix e => by
      rcases br_s e with ⟨c, e⟩ | ⟨c, e⟩
      · have K3 : K = 3 := by rw [← i2, c]; rfl
        exact by' ix (by rw [if_pos K3]) e
      · have K3 : ¬ K = 3 := by rw [← i2]; exact i32 c
        exact by' ix (by rw [if_neg K3]) e
    rcases br_s e with ⟨c3, e⟩ | ⟨c3, e⟩
    · have K2 : K = 2 := by rw [← i2, c3]; rfl
      have l2 := ls K2
      exact s3 (by rw [tm (by rw [z2, i4]; omega), z2, i4]; omega) e
    · have K2 : ¬ K = 2 := by rw [← i2]; exact i32 c3
      have l3 := ls3 (by omega)
      exact s3 (by rw [i4]; omega) e
end
end
section
/-! PROBLEM of the reference: the whole call -/
section
variable {n d F D p j : Nat} {g h : Hp} {L : Nat → Nat → Int} {P Q : Pz} {v : MvT} {o : Int32 × Hp} {x1 x2 x3 x4 x5 : Int32} {K G : Int} {σ : Sy} {pb : Option Pb}
/-- no more than the ROWS there are -/
theorem trv_bd {N : Nat} (nv : 1 ≤ N) (kv : 0 ≤ K ∧ K ≤ 3) (Oz : PzOk L P) (OK : LwOk L) (nr : ¬ ovR L (decide (K = 3)) (lsP K N) P) : trV L K G (lsP K N) true P ≤ 100000 := by
  have l1 : 1 ≤ lsP K N := by unfold lsP; split <;> first | omega | (split <;> omega)
  have ln := lgl_le OK.1 OK.2.1 Oz
  rcases Int.lt_or_le K 2 with c | c
  · have k1 : K ≤ 1 := by omega
    have s := trv_s (L := L) (G := G) (show ¬ K = 4 by omega) (r := lsP K N - 1) (e := true) (P := P)
    rw [show lsP K N - 1 + 1 = lsP K N by omega] at s
    rw [s]
    have b : ∀ m, smT (mvG L P (mvV L K G (lsP K N - 1) true P)) m ≤ m := fun m => by
      induction m with
      | zero => exact Nat.le_refl _
      | succ m ih =>
        have y : mvG L P (mvV L K G (lsP K N - 1) true P) m ≤ 1 := by
          unfold mvG
          split
          · exact Nat.zero_le _
          · rw [mvv_t k1]; split <;> omega
        exact Nat.add_le_add ih y
    have := b (lgL L P).length
    omega
  · have t := trv_le (L := L) (G := G) c (lsP K N - 1) true P
    rw [show lsP K N - 1 + 1 = lsP K N by omega] at t
    rcases Nat.lt_or_ge 100000 (rwN L (decide (K = 3)) (lsP K N) P) with z | z
    · exact absurd ⟨lsP K N, l1, Nat.le_refl _, z⟩ nr
    · omega
/-- the problem is written down, and its ROWS are looked at -/
theorem rp_120 {b N : Nat} (k : DyK n g h) (OK : LwOk L) (Oz : PzOk L P) (R : RLw n h L) (hp : x1.toInt = (p : Int) ∧ p < 60) (eb : hR h (n + 536) p = some b) (A : RbA h b P) (s0 : 0 < (hI h (n + 537) p).toInt) (nv : 1 ≤ N ∧ N ≤ 4) (kv : 0 ≤ K ∧ K ≤ 3) (i2 : x2.toInt = K) (i3 : x3.toInt = G) (i4 : x4.toInt = (N : Int)) (bd : trV L K G (lsP K N) true P ≤ 100000) {t : Int32} (t0 : ¬ t = 0) (e : sX15_problem_120 F h (n + 513) x1 x2 x3 x4 t = some o) : DyK n h o.2 ∧ FrP n h o.2 ∧ o.1.toInt = (trV L K G (lsP K N) true P : Nat) ∧ RPb n o.2 L (some (p, P, K, G, N)) := by
  have k := dk_self k
  have s6 := dk_610 k
  have xp : x1.toNatClampNeg = p := by have := nc_i (x := x1) (by omega); omega
  unfold sX15_problem_120 at e
  replace e := bn_e t0 e
  obtain ⟨h2, w2, e⟩ := nm_s e
  have k2 : DyK n h h2 := by rw [w2]; exact dk_wI k
  replace e := ce_e (dk_e (a := 513) (f := 15) (b := 537) k2 (by decide +kernel)) e
  replace e := gg_e e
  obtain ⟨h5, w5, e⟩ := nm_s e
  obtain ⟨h6, w6, e⟩ := nm_s e
  obtain ⟨h7, w7, e⟩ := nm_s e
  obtain ⟨h8, w8, e⟩ := nm_s e
  obtain ⟨h9, w9, e⟩ := nm_s e
  have q : ∀ i, (64 ≤ i ∧ i ≤ 68) ∨ i = 70 → PbR n (n + 513) i := fun i c => Or.inl ⟨rfl, c⟩
  have k9 : DyK n h h9 := by rw [w9, w8, w7, w6, w5]; exact dk_wI (dk_wI (dk_wI (dk_wI (dk_wI k2))))
  have F9 : FrP n h h9 := by
    rw [w9, w8, w7, w6, w5, w2]
    exact frp_w (frp_w (frp_w (frp_w (frp_w (frp_w fw_0 (q 64 (by omega))) (q 65 (by omega))) (q 66 (by omega))) (q 67 (by omega))) (q 68 (by omega))) (q 70 (by omega))
  have R9 : RLw n h9 L := by
    have r2 : RLw n h2 L := by rw [w2]; exact rlw_w k (q 64 (by omega)) R
    have r5 : RLw n h5 L := by rw [w5]; exact rlw_w k2 (q 65 (by omega)) r2
    have k5 : DyK n h h5 := by rw [w5]; exact dk_wI k2
    have r6 : RLw n h6 L := by rw [w6]; exact rlw_w k5 (q 66 (by omega)) r5
    have k6 : DyK n h h6 := by rw [w6]; exact dk_wI k5
    have r7 : RLw n h7 L := by rw [w7]; exact rlw_w k6 (q 67 (by omega)) r6
    have k7 : DyK n h h7 := by rw [w7]; exact dk_wI k6
    have r8 : RLw n h8 L := by rw [w8]; exact rlw_w k7 (q 68 (by omega)) r7
    have k8 : DyK n h h8 := by rw [w8]; exact dk_wI k7
    rw [w9]; exact rlw_w k8 (q 70 (by omega)) r8
  have st : ∀ i, hI h9 (n + 537) i = hI h (n + 537) i := fun i => by
    rw [w9, w8, w7, w6, w5, w2]
    rw [rI_a (by omega), rI_a (by omega), rI_a (by omega), rI_a (by omega), rI_a (by omega), rI_a (by omega)]
  have f64 : hI h9 (n + 513) 64 = x1 := by
    rw [w9, w8, w7, w6, w5, w2]
    rw [rI_o (by decide), rI_o (by decide), rI_o (by decide), rI_o (by decide), rI_o (by decide), rI_s]
  have f65 : hI h9 (n + 513) 65 = hI h (n + 537) p := by
    rw [w9, w8, w7, w6, w5]
    rw [rI_o (by decide), rI_o (by decide), rI_o (by decide), rI_o (by decide), rI_s, w2, rI_a (by omega), xp]
  have f66 : hI h9 (n + 513) 66 = x2 := by
    rw [w9, w8, w7, w6]
    rw [rI_o (by decide), rI_o (by decide), rI_o (by decide), rI_s]
  have f67 : hI h9 (n + 513) 67 = x3 := by
    rw [w9, w8, w7]
    rw [rI_o (by decide), rI_o (by decide), rI_s]
  have f68 : hI h9 (n + 513) 68 = x4 := by
    rw [w9, w8]
    rw [rI_o (by decide), rI_s]
  have f70 : hI h9 (n + 513) 70 = 0 := by
    rw [w9]
    rw [rI_s]
  obtain ⟨own, Dw⟩ := k.1.1
  obtain ⟨b1, ⟨b2, b3⟩, bT⟩ := bk_dy Dw (q := (536, 60, 5, 4000, fsB)) (by decide) hp.2 eb
  have b1 : n + 610 ≤ b := b1
  have b2 : b + 5 ≤ hS h := b2
  have eb9 : hR h9 (n + 536) p = some b := ks_r k9 (q := (536, 60, 5, 4000, fsB)) (by decide) eb
  obtain ⟨own9, D9⟩ := k9.1.1
  obtain ⟨_, _, bT9⟩ := bk_dy D9 (q := (536, 60, 5, 4000, fsB)) (by decide) hp.2 eb9
  have A9 : RbA h9 b P := rba_f A bT9 (fun j f hj => F9.2 (b + j) f (by omega) (fun c => by
    rcases c with c | c
    · refine nrd Dw (by omega) (fun e _ he => ?_) c
      have b3 : own (b + j) = 4000 + p := b3 j hj
      omega
    · unfold PbR at c; omega))
  obtain ⟨o10, e10, e⟩ := cl_s e
  obtain ⟨_, k10, k10', f10, ec, _⟩ := db_d (d := 0) k9 rfl e10
  obtain ⟨eb10, A10⟩ := plc_d k9 k10' (frn_d f10) hp.2 eb9 A9
  have R10 := rlw_d (d := 0) k9 k10' (frn_d f10) R9
  unfold sX15_problem_167 sX15_problem_176 sX15_problem_182 sX15_problem_191 at e
  replace e := ce_e (dk_e (a := 513) (f := 14) (b := 536) k10 (by decide +kernel)) e
  replace e := gg_e e
  replace e := ce_e (show hR o10.2 (n + 536) x1.toNatClampNeg = some b by rw [xp]; exact eb10) e
  obtain ⟨o11, e11, e⟩ := cl_s e
  obtain ⟨k11, k11', f11, B11⟩ := cp_d k10 hp.2 eb10 A10 ec e11
  have R11 := rlw_d k10 k11' f11 R10
  obtain ⟨o12, e12, e⟩ := cl_s e
  obtain ⟨_, k12, k12', f12, ec12, _⟩ := db_d (d := 0) k11 rfl e12
  have B12 := rbd_n k11 k12' f12 (by decide) B11
  have R12 := rlw_d (d := 0) k11 k12' (frn_d f12) R11
  replace e := ce_e (dk_e (a := 513) (f := 34) (b := 574) k12 (by decide +kernel)) e
  replace e := gg_e e
  obtain ⟨l, el, e⟩ := cl_s e
  obtain ⟨bb, ebb, Abb⟩ := B12
  have yb := r_eq ec12 ebb
  subst yb
  obtain ⟨o13, e13, e⟩ := cl_s e
  obtain ⟨k13, k13', f13, M13, B13⟩ := leg_d OK Oz k12 R12 (by decide) ebb Abb (show hR o12.2 (n + 574) 0 = some l from el) e13
  have R13 := rlw_d k12 k13' f13 R12
  have F13 : FrD n 0 h9 o13 := frd_t (dk_t k10' (dk_t k11' k12')) (frd_t (dk_t k10' k11') (frd_t k10' (frn_d f10) f11) (frn_d f12)) f13
  have kk13 : DyK n h9 o13 := dk_t k10' (dk_t k11' (dk_t k12' k13'))
  have s9 := dk_610 k9
  have q13 : ∀ a i, (a = n + 513 ∧ ((64 ≤ i ∧ i ≤ 68) ∨ i = 70)) ∨ a = n + 608 ∨ a = n + 537 → hI o13 a i = hI h9 a i := fun a i hh => (F13.2 a i (by omega) (fun c => by
    have := rdw_lo k9 (by omega) c
    unfold RS at this
    omega)).1
  have l1 : 1 ≤ lsP K N := by unfold lsP; split <;> first | omega | (split <;> omega)
  have K13 : KrI n o13 (kyL L K G (lsP K N - 1 + 1) P 0) := ⟨by rw [q13 _ _ (Or.inl ⟨rfl, Or.inr rfl⟩), f70]; rfl, fun i hi => absurd hi (Nat.not_lt_zero _)⟩
  have dl : lsP K N - 1 + 1 = lsP K N := by omega
  obtain ⟨kz, fz, vz, Kz, Hz⟩ := rp_197 (h0 := o13) (i := 0) OK Oz nv kv dl i2 i3 i4 (by rw [dl]; exact bd) F (dk_self k13) fw_0 R13 ⟨B13, M13⟩ rfl (Nat.zero_le _) rfl K13 (fun _ _ _ => rfl) e
  rw [dl] at vz Kz
  have s13 := dk_610 k13
  have Sz : ∀ i, hI o.2 (n + 537) i = hI h (n + 537) i := fun i => by
    rw [← st i, ← q13 (n + 537) i (Or.inr (Or.inr rfl))]
    exact (fz.2 (n + 537) i (by omega) (fun c => by
      have := frp_lo k13 (by omega) c
      unfold RS PbR at this
      omega)).1
  have fi : ∀ i, 64 ≤ i ∧ i ≤ 68 → hI o.2 (n + 513) i = hI h9 (n + 513) i := fun i hi => by
    rw [Hz _ _ ⟨rfl, hi⟩, q13 _ _ (Or.inl ⟨rfl, Or.inl hi⟩)]
  refine ⟨dk_t k9 (dk_t kk13 kz), frp_t (dk_t k9 kk13) (frp_t k9 F9 (frp_d F13)) fz, vz, hp.2, ?_, ?_, ?_, ?_, ?_, ?_, Kz⟩
  · rw [fi 64 (by omega), f64]; exact hp.1
  · rw [fi 65 (by omega), f65, Sz]
  · rw [fi 65 (by omega), f65]; exact s0
  · rw [fi 66 (by omega), f66]; exact i2
  · rw [fi 67 (by omega), f67]; exact i3
  · rw [fi 68 (by omega), f68]; exact i4
theorem ra_prob (k : DyK n h h) (Ok : SyOk σ) (R : RelR n j h σ) (C : RPb n h (syL σ) pb) (e : sX15_problem F h (n + 513) x1 x2 x3 x4 = some o) : RaZ n j h σ (PbR n) o (anPrb σ x1 x2 x3 x4) ∧ RPb n o.2 (syL σ) (pbN σ pb x1 x2 x3 x4) ∧ SerN n h o.2 := by
  suffices hh : RaZ n j h σ (PbR n) o (anPrb σ x1 x2 x3 x4) ∧ RPb n o.2 (syL σ) (pbN σ pb x1 x2 x3 x4) ∧ FrP n h o.2 from ⟨hh.1, hh.2.1, ser_p k hh.2.2⟩
  have z0 : (0 : Int32).toInt = 0 := rfl
  have z1 : (1 : Int32).toInt = 1 := rfl
  have z2 : (2 : Int32).toInt = 2 := rfl
  have z3 : (3 : Int32).toInt = 3 := rfl
  have z4 : (4 : Int32).toInt = 4 := rfl
  have i32 : ∀ {a b : Int32}, ¬ a = b → ¬ a.toInt = b.toInt := fun z y => z (Int32.toInt_inj.mp y)
  unfold sX15_problem sX15_problem_30 at e
  unfold anPrb pbN
  have no : ¬ prV x2 x3 x4 → some ((-101 : Int32), h) = some o → RaZ n j h σ (PbR n) o (if prB' (prV x2 x3 x4) = true then plE σ x1 (-102) (fun P => if 0 < (enE (syL σ) P).1 then -103 else if prB' (ovR (syL σ) (decide (x2.toInt = 3)) (lsP x2.toInt x4.toNatClampNeg) P) = true then -104 else (trV (syL σ) x2.toInt x3.toInt (lsP x2.toInt x4.toNatClampNeg) true P : Int)) else -101) ∧ RPb n o.2 (syL σ) (if prB' (prV x2 x3 x4) = true then (match sPl σ x1 with
  | none => pb
  | some P => if 0 < (enE (syL σ) P).1 then pb else if prB' (ovR (syL σ) (decide (x2.toInt = 3)) (lsP x2.toInt x4.toNatClampNeg) P) = true then pb else some (x1.toNatClampNeg, P, x2.toInt, x3.toInt, x4.toNatClampNeg)) else pb) ∧ FrP n h o.2 := fun z e => by
    rw [so_e e, prb_f.mpr z, if_neg (by decide), if_neg (by decide)]
    exact ⟨raz_o (rao_0 k R rfl rfl), C, fw_0⟩
  rcases br_s e with ⟨c, e⟩ | ⟨c, e⟩
  · have := lt_i c
    exact no (fun z => by unfold prV at z; omega) e
  have a1 := nlt_i c
  rcases br_s e with ⟨c, e⟩ | ⟨c, e⟩
  · have := lt_i c
    exact no (fun z => by unfold prV at z; omega) e
  have a2 := nlt_i c
  rcases br_s e with ⟨c, e⟩ | ⟨c, e⟩
  · have := lt_i c
    exact no (fun z => by unfold prV at z; omega) e
  have a3 := nlt_i c
  rcases br_s e with ⟨c, e⟩ | ⟨c, e⟩
  · have := lt_i c
    exact no (fun z => by unfold prV at z; omega) e
  have a4 := nlt_i c
  rcases br_s e with ⟨c, e⟩ | ⟨c, e⟩
  · have := lt_i c
    exact no (fun z => by unfold prV at z; omega) e
  have a5 := nlt_i c
  rcases br_s e with ⟨c, e⟩ | ⟨c, e⟩
  rotate_left
  · have := nle_i c
    exact no (fun z => by unfold prV at z; omega) e
  have a6 := le_i c
  clear no
  rw [prb_e.mpr (show prV x2 x3 x4 by unfold prV; omega), if_pos rfl, if_pos rfl]
  have n4 := nc_i (x := x4) (by omega)
  unfold sX15_problem_38 sX15_problem_63 sX15_problem_96 sX15_problem_117 at e
  obtain ⟨o1, e1, e⟩ := cl_s e
  rcases mvs_r k Ok R e1 with ⟨z, y⟩ | ⟨P, z, f, k1, m, y⟩
  · rw [y] at e
    rw [so_e (bp_e rfl e), ple_n z, z]
    exact ⟨raz_o (rao_0 k R rfl rfl), C, fw_0⟩
  replace e := bn_e (ne102 y) e
  rw [ple_s z, z]
  show RaZ n j h σ (PbR n) o (if 0 < (enE (syL σ) P).1 then -103 else if prB' (ovR (syL σ) (decide (x2.toInt = 3)) (lsP x2.toInt x4.toNatClampNeg) P) = true then -104 else (trV (syL σ) x2.toInt x3.toInt (lsP x2.toInt x4.toNatClampNeg) true P : Int)) ∧ RPb n o.2 (syL σ) (if 0 < (enE (syL σ) P).1 then pb else if prB' (ovR (syL σ) (decide (x2.toInt = 3)) (lsP x2.toInt x4.toNatClampNeg) P) = true then pb else some (x1.toNatClampNeg, P, x2.toInt, x3.toInt, x4.toNatClampNeg)) ∧ FrP n h o.2
  have R1 := relr_rs k Ok R f k1
  have Oz := spl_ok Ok z
  obtain ⟨p1, p2, b3, p4⟩ := spl_b z
  obtain ⟨b, eb, A⟩ := rpl_p R1.2.1 z
  obtain ⟨r3, e3, e⟩ := cl_s e
  have y3 := dk_ed (a := 513) (b := 536) k1 (by decide +kernel) e3
  subst y3
  replace e := gg_e e
  replace e := ce_e eb e
  replace e := ce_e (dk_e (a := 513) (f := 30) (b := 552) k1 (by decide +kernel)) e
  obtain ⟨o7, e7, e⟩ := cl_s e
  obtain ⟨own, Dw⟩ := k1.1.1
  have R1' := R1.1
  obtain ⟨w, hw, _, _, Cw⟩ := R1'
  obtain ⟨f7, k7, c7, _⟩ := end_m k1 Dw.1 hw (bke_p Dw b3 eb) (by omega) Ok.1.1 Ok.1.2.1 Oz Cw A m.1 e7
  have k7' : DyK n o1.2 o7.2 := by
    obtain ⟨_, kk, _⟩ := end_m (dk_self k1) Dw.1 hw (bke_p Dw b3 eb) (by omega) Ok.1.1 Ok.1.2.1 Oz Cw A m.1 e7
    exact kk
  have F7 : FrD n 0 h o7.2 := frd_s (fw_t f f7)
  have C7 := rpb_d k F7 C
  have en := ene_b (L := syL σ) (P := P)
  rcases br_s e with ⟨c, e⟩ | ⟨c, e⟩
  rotate_left
  · have c := nle_i c
    rw [so_e e, if_pos (by omega), if_pos (by omega)]
    exact ⟨raz_p k Ok R (frp_d F7) k7 rfl, C7, frp_d F7⟩
  have c := le_i c
  have ne : ¬ 0 < (enE (syL σ) P).1 := by omega
  rw [if_neg ne, if_neg ne]
  have R7 := rlw_d (d := 0) k1 k7' (frd_s f7) R1.1
  obtain ⟨eb7, A7⟩ := plc_d k1 k7' (frd_s f7) b3 eb A
  have tail : ∀ {ser : Bool} {y : Int32}, ser = decide (x2.toInt = 3) → y.toInt = (lsP x2.toInt x4.toNatClampNeg : Nat) → (cl (sX15_isRoom F o7.2 (n + 513) b y (if ser = true then 1 else 0)) fun o_1 => sX15_problem_120 F o_1.2 (n + 513) x1 x2 x3 x4 o_1.1) = some o → RaZ n j h σ (PbR n) o (if prB' (ovR (syL σ) (decide (x2.toInt = 3)) (lsP x2.toInt x4.toNatClampNeg) P) = true then -104 else (trV (syL σ) x2.toInt x3.toInt (lsP x2.toInt x4.toNatClampNeg) true P : Int)) ∧ RPb n o.2 (syL σ) (if prB' (ovR (syL σ) (decide (x2.toInt = 3)) (lsP x2.toInt x4.toNatClampNeg) P) = true then pb else some (x1.toNatClampNeg, P, x2.toInt, x3.toInt, x4.toNatClampNeg)) ∧ FrP n h o.2 := fun {ser y} es iy e => by
    obtain ⟨o8, e8, e⟩ := cl_s e
    have l8 : lsP x2.toInt x4.toNatClampNeg ≤ 8 := by unfold lsP; split <;> first | omega | (split <;> omega)
    obtain ⟨k8, f8, y8⟩ := rm_r (ser := ser) Ok.1 Oz l8 b3 iy k7 R7 eb7 A7 e8
    rw [es] at y8
    have F8 : FrD n 0 h o8.2 := frd_t k7 F7 f8
    rcases y8 with ⟨y1, y2⟩ | ⟨y1, y2⟩
    · unfold sX15_problem_120 at e
      rw [so_e (bp_e y1 e), prb_e.mpr y2, if_pos rfl, if_pos rfl]
      exact ⟨raz_p k Ok R (frp_d F8) (dk_t k7 k8) rfl, rpb_d k F8 C, frp_d F8⟩
    · rw [prb_f.mpr y2, if_neg (by decide), if_neg (by decide)]
      obtain ⟨eb8, A8⟩ := plc_d k7 k8 f8 b3 eb7 A7
      have R8 := relr_d k (dk_t k7 k8) F8 (fun g hg => (Ok.2.2.1 g hg).1.2) R
      have px : x1.toInt = ((x1.toNatClampNeg : Nat) : Int) := by have := nc_i (x := x1) (by omega); omega
      have s0 : 0 < (hI o8.2 (n + 537) x1.toNatClampNeg).toInt := by
        rcases R8.2.1 x1.toNatClampNeg b3 with ⟨q1, _⟩ | ⟨_, _, _, q2, _⟩
        · rw [p4] at q1; exact nomatch q1
        · exact q2
      obtain ⟨k9, f9, v9, P9⟩ := rp_120 (K := x2.toInt) (G := x3.toInt) (N := x4.toNatClampNeg) (dk_t k7 k8) Ok.1 Oz R8.1 ⟨px, b3⟩ eb8 A8 s0 (by omega) (by omega) rfl rfl (by omega) (trv_bd (by omega) (by omega) Oz Ok.1 y2) y1 e
      exact ⟨raz_p k Ok R (frp_t (dk_t k7 k8) (frp_d F8) f9) (dk_t (dk_t k7 k8) k9) v9, P9, frp_t (dk_t k7 k8) (frp_d F8) f9⟩
  -- the three lengths
  have at3 : ∀ {y : Int32}, y.toInt = (lsP x2.toInt x4.toNatClampNeg : Nat) → (cl (hR o7.2 (n + 513) 14) fun r_1 => gd (inB x1 (hN o7.2 r_1)) <| cl (hR o7.2 r_1 x1.toNatClampNeg) fun r_3 => br (x2 = (3 : Int32)) (cl (sX15_isRoom F o7.2 (n + 513) r_3 y (1 : Int32)) fun o_1 => sX15_problem_120 F o_1.2 (n + 513) x1 x2 x3 x4 o_1.1) (cl (sX15_isRoom F o7.2 (n + 513) r_3 y (0 : Int32)) fun o_1 => sX15_problem_120 F o_1.2 (n + 513) x1 x2 x3 x4 o_1.1)) = some o → RaZ n j h σ (PbR n) o (if prB' (ovR (syL σ) (decide (x2.toInt = 3)) (lsP x2.toInt x4.toNatClampNeg) P) = true then -104 else (trV (syL σ) x2.toInt x3.toInt (lsP x2.toInt x4.toNatClampNeg) true P : Int)) ∧ RPb n o.2 (syL σ) (if prB' (ovR (syL σ) (decide (x2.toInt = 3)) (lsP x2.toInt x4.toNatClampNeg) P) = true then pb else some (x1.toNatClampNeg, P, x2.toInt, x3.toInt, x4.toNatClampNeg)) ∧ FrP n h o.2 := fun {y} iy e => by
    replace e := ce_e (dk_e (a := 513) (f := 14) (b := 536) k7 (by decide +kernel)) e
    replace e := gg_e e
    replace e := ce_e eb7 e
    rcases br_s e with ⟨c, e⟩ | ⟨c, e⟩
    · exact tail (ser := true) (by rw [c]; rfl) iy e
    · exact tail (ser := false) (decide_eq_false (i32 c)).symm iy e
  rcases br_s e with ⟨c0, e⟩ | ⟨c0, e⟩
  · refine at3 ?_ e
    have K0 : x2.toInt = 0 := by rw [c0]; rfl
    rw [ts (by rw [tm (by rw [z2]; omega), z2, z1]; omega), tm (by rw [z2]; omega), z2, z1]
    unfold lsP
    rw [if_pos K0]
    omega
  have K0 := i32 c0
  rcases br_s e with ⟨c3, e⟩ | ⟨c3, e⟩
  · refine at3 ?_ e
    have K3 : x2.toInt = 3 := by rw [c3]; rfl
    unfold lsP
    rw [if_neg (by omega), if_pos K3]
    omega
  · refine at3 ?_ e
    have K3 := i32 c3
    rw [tm (by rw [z2]; omega), z2]
    unfold lsP
    rw [if_neg (by omega), if_neg (by omega)]
    omega
end
end
section
/-! KEY and REFUTES, both sides -/
/-- what a problem keeps to -/
def PbO (σ : Sy) : Option Pb → Prop
  | none => True
  | some (p, P, K, _, N) => p < 60 ∧ syP σ p = some P ∧ (0 ≤ K ∧ K ≤ 3) ∧ 1 ≤ N ∧ N ≤ 4
noncomputable def anKey (L : Nat → Nat → Int) (pb : Option Pb) (x1 : Int32) : Int := match pb with
  | none => -1
  | some (_, P, K, G, N) => if 0 ≤ x1.toInt then (match (kyL L K G (lsP K N) P (lgL L P).length)[x1.toNatClampNeg]? with
    | none => -1
    | some y => (y : Int)) else -1
noncomputable def anRef (L : Nat → Nat → Int) (pb : Option Pb) (x1 : Int32) : Int := match pb with
  | none => -1
  | some (_, P, K, G, N) => if K ≤ 1 ∧ 0 ≤ x1.toInt ∧ x1.toInt < ((lgL L P).length : Int) then (mvG L P (rfV L K G (lsP K N - 1) P) x1.toNatClampNeg : Nat) else -1
section
variable {n d F D p j : Nat} {g h : Hp} {L : Nat → Nat → Int} {P Q : Pz} {v : MvT} {o : Int32 × Hp} {x1 x2 x3 x4 x5 : Int32} {K G : Int} {σ : Sy} {pb : Option Pb}
theorem keyc_v (k : DyK n g h) (C : CPb n h L pb) (e : sX11_key h n x1 = some o) : o.1.toInt = anKey L pb x1 := by
  have z0 : (0 : Int32).toInt = 0 := rfl
  unfold sX11_key at e
  replace e := ce_e (dk_e (a := 0) (f := 11) (b := 76) k (by decide +kernel)) e
  obtain ⟨o2, e2, e⟩ := cl_s e
  rw [so_e e]
  show o2.1.toInt = _
  unfold sX4_keyAt sX4_keyAt_21 sX4_keyAt_22 at e2
  cases pb with
  | none =>
    obtain ⟨c1, c2⟩ := C
    show o2.1.toInt = -1
    rcases br_s e2 with ⟨c, e2⟩ | ⟨c, e2⟩
    · rw [so_e e2]; rfl
    have c := nlt_i c
    rcases br_s e2 with ⟨c3, e2⟩ | ⟨c3, e2⟩
    · rw [so_e e2]; rfl
    · rw [c1] at c3
      have c3 := nle_i c3
      omega
  | some q =>
    obtain ⟨p, P, K, G, N⟩ := q
    obtain ⟨_, ⟨c1, c2⟩, _⟩ := C
    show o2.1.toInt = if 0 ≤ x1.toInt then (match (kyL L K G (lsP K N) P (lgL L P).length)[x1.toNatClampNeg]? with
    | none => -1
    | some y => (y : Int)) else -1
    rcases br_s e2 with ⟨c, e2⟩ | ⟨c, e2⟩
    · have := lt_i c
      rw [so_e e2, if_neg (by omega)]; rfl
    have c := nlt_i c
    rw [if_pos (by omega)]
    have nc := nc_i (x := x1) (by omega)
    rcases br_s e2 with ⟨c3, e2⟩ | ⟨c3, e2⟩
    · have := le_i c3
      rw [so_e e2, List.getElem?_eq_none (by omega)]; rfl
    · have c3 := nle_i c3
      replace e2 := ce_e (dk_e (a := 76) (f := 12) (b := 91) k (by decide +kernel)) e2
      replace e2 := gg_e e2
      obtain ⟨y, y1, y2⟩ := c2 x1.toNatClampNeg (by omega)
      rw [so_e e2, y1]
      exact y2
theorem refc_v (k : DyK n g h) (C : CPb n h L pb) (e : sX11_refutes h n x1 = some o) : o.1.toInt = anRef L pb x1 := by
  have z0 : (0 : Int32).toInt = 0 := rfl
  unfold sX11_refutes at e
  replace e := ce_e (dk_e (a := 0) (f := 11) (b := 76) k (by decide +kernel)) e
  obtain ⟨o2, e2, e⟩ := cl_s e
  rw [so_e e]
  show o2.1.toInt = _
  unfold sX4_refutesOf sX4_refutesOf_21 sX4_refutesOf_22 at e2
  cases pb with
  | none =>
    obtain ⟨c1, c2⟩ := C
    show o2.1.toInt = -1
    rcases br_s e2 with ⟨c, e2⟩ | ⟨c, e2⟩
    · rw [so_e e2]; rfl
    have c := nlt_i c
    rcases br_s e2 with ⟨c3, e2⟩ | ⟨c3, e2⟩
    · rw [so_e e2]; rfl
    · rw [c2] at c3
      have c3 := nle_i c3
      omega
  | some q =>
    obtain ⟨p, P, K, G, N⟩ := q
    obtain ⟨_, _, c1, c2⟩ := C
    show o2.1.toInt = if K ≤ 1 ∧ 0 ≤ x1.toInt ∧ x1.toInt < ((lgL L P).length : Int) then ((mvG L P (rfV L K G (lsP K N - 1) P) x1.toNatClampNeg : Nat) : Int) else -1
    rcases br_s e2 with ⟨c, e2⟩ | ⟨c, e2⟩
    · have := lt_i c
      rw [so_e e2, if_neg (by omega)]; rfl
    have c := nlt_i c
    have nc := nc_i (x := x1) (by omega)
    by_cases ck : K ≤ 1
    · rw [if_pos ck] at c1
      rcases br_s e2 with ⟨c3, e2⟩ | ⟨c3, e2⟩
      · have := le_i c3
        rw [so_e e2, if_neg (by omega)]; rfl
      · have c3 := nle_i c3
        replace e2 := ce_e (dk_e (a := 76) (f := 13) (b := 92) k (by decide +kernel)) e2
        replace e2 := gg_e e2
        rw [so_e e2, if_pos (by omega)]
        exact c2 ck x1.toNatClampNeg (by omega)
    · rw [if_neg ck] at c1
      rcases br_s e2 with ⟨c3, e2⟩ | ⟨c3, e2⟩
      · rw [so_e e2, if_neg (by omega)]; rfl
      · have c3 := nle_i c3
        omega
/-- is there a problem -/
theorem isp_v (k : DyK n g h) (C : RPb n h L pb) (e : sX15_isProblem h (n + 513) = some o) : o.2 = h ∧ ((o.1 = 0 ∧ pb = none) ∨ (¬ o.1 = 0 ∧ ¬ pb = none)) := by
  have z0 : (0 : Int32).toInt = 0 := rfl
  unfold sX15_isProblem sX15_isProblem_27 sX15_isProblem_28 at e
  cases pb with
  | none =>
    obtain ⟨_, c1⟩ := C
    rcases br_s e with ⟨c, e⟩ | ⟨c, e⟩
    · replace e := gg_e e
      rw [so_e e]
      exact ⟨rfl, Or.inl ⟨rfl, rfl⟩⟩
    have c := nle_i c
    obtain ⟨c2, c3⟩ := c1.resolve_left (by omega)
    replace e := ce_e (dk_e (a := 513) (f := 15) (b := 537) k (by decide +kernel)) e
    replace e := gg_e e
    rcases br_s e with ⟨c4, e⟩ | ⟨c4, e⟩
    · exact absurd c4 c3
    · replace e := gg_e e
      rw [so_e e]
      exact ⟨rfl, Or.inl ⟨rfl, rfl⟩⟩
  | some q =>
    obtain ⟨p, P, K, G, N⟩ := q
    obtain ⟨c1, c2, c3, c4, _⟩ := C
    rcases br_s e with ⟨c, e⟩ | ⟨c, e⟩
    · have := le_i c; omega
    replace e := ce_e (dk_e (a := 513) (f := 15) (b := 537) k (by decide +kernel)) e
    replace e := gg_e e
    have np : (hI h (n + 513) 64).toNatClampNeg = p := by have := nc_i (x := hI h (n + 513) 64) (by omega); omega
    rcases br_s e with ⟨c5, e⟩ | ⟨c5, e⟩
    · replace e := gg_e e
      rw [so_e e]
      exact ⟨rfl, Or.inr ⟨show ¬ (1 : Int32) = 0 by decide, fun z => nomatch z⟩⟩
    · exact absurd (by rw [np]; exact c3) c5
theorem keyr_v (k : DyK n g h) (C : RPb n h L pb) (e : sX15_key h (n + 513) x1 = some o) : o.1.toInt = anKey L pb x1 := by
  have z0 : (0 : Int32).toInt = 0 := rfl
  unfold sX15_key sX15_key_19 sX15_key_29 at e
  obtain ⟨o1, e1, e⟩ := cl_s e
  obtain ⟨y, c⟩ := isp_v k C e1
  rw [y] at e
  rcases c with ⟨c1, c2⟩ | ⟨c1, c2⟩
  · rw [so_e (bp_e c1 e), c2]; rfl
  replace e := bn_e c1 e
  cases pb with
  | none => exact absurd rfl c2
  | some q =>
    obtain ⟨p, P, K, G, N⟩ := q
    obtain ⟨_, _, _, _, _, _, _, c8, c9⟩ := C
    show o.1.toInt = if 0 ≤ x1.toInt then (match (kyL L K G (lsP K N) P (lgL L P).length)[x1.toNatClampNeg]? with
    | none => -1
    | some y => (y : Int)) else -1
    rcases br_s e with ⟨c, e⟩ | ⟨c, e⟩
    · have := lt_i c
      rw [so_e e, if_neg (by omega)]; rfl
    have c := nlt_i c
    rw [if_pos (by omega)]
    have nc := nc_i (x := x1) (by omega)
    rcases br_s e with ⟨c3, e⟩ | ⟨c3, e⟩
    · have c3 := lt_i c3
      replace e := ce_e (dk_e (a := 513) (f := 69) (b := 608) k (by decide +kernel)) e
      replace e := gg_e e
      obtain ⟨y, y1, y2⟩ := c9 x1.toNatClampNeg (by omega)
      rw [so_e e, y1]
      exact y2
    · have := nlt_i c3
      rw [so_e e, List.getElem?_eq_none (by omega)]; rfl
/-- how many replies are not answered -/
theorem rf_107 {h0 : Hp} {N : Nat} (OK : LwOk L) (Oq : PzOk L Q) (nv : 1 ≤ N ∧ N ≤ 4) (kv : 0 ≤ K ∧ K ≤ 1) : ∀ (f : Nat) {u : Hp} {x2 x3 : Int32} {i : Nat}, DyK n h0 u → FrD n 0 h0 u → RLw n u L → RxD n L u 1 Q → (hI u (n + 513) 68).toInt = (N : Int) → (hI u (n + 513) 66).toInt = K → (hI u (n + 513) 67).toInt = G → x3.toInt = (i : Int) → i ≤ (lgL L Q).length → x2.toInt = (smT (mvG L Q (mvV L K G (rK K N - 1) false Q)) i : Nat) → smT (mvG L Q (mvV L K G (rK K N - 1) false Q)) i ≤ i → sX15_refutes_107 F f u (n + 513) x2 x3 = some o → DyK n h0 o.2 ∧ FrD n 0 h0 o.2 ∧ o.1.toInt = (smT (mvG L Q (mvV L K G (rK K N - 1) false Q)) (lgL L Q).length : Nat) := by
  have z1 : (1 : Int32).toInt = 1 := rfl
  have z0 : (0 : Int32).toInt = 0 := rfl
  have ln := lgl_le OK.1 OK.2.1 Oq
  intro f
  induction f with
  | zero => intro u x2 x3 i _ _ _ _ _ _ _ _ _ _ _ e; exact absurd e (by rw [sX15_refutes_107]; exact fun z => nomatch z)
  | succ f ih =>
    intro u x2 x3 i ku fu Ru Xu f68 f66 f67 i3 il i2 sl e
    rw [sX15_refutes_107] at e
    replace e := ce_e (dk_e (a := 513) (f := 34) (b := 574) ku (by decide +kernel)) e
    replace e := gg_e e
    obtain ⟨l, el, Al⟩ := Xu.2
    replace e := ce_e (show hR u (n + 574) (1 : Int32).toNatClampNeg = some l from el) e
    have m0 : (hI u l 0).toInt = ((lgL L Q).length : Int) := Al.1
    rcases br_s e with ⟨c, e⟩ | ⟨c, e⟩
    · have c := le_i c
      have ii : i = (lgL L Q).length := by omega
      rw [so_e e, ← ii]
      exact ⟨ku, fu, i2⟩
    have c := nle_i c
    have li : i < (lgL L Q).length := by omega
    obtain ⟨v, ev⟩ : ∃ v, (lgL L Q)[i]? = some v := ⟨_, List.getElem?_eq_getElem li⟩
    have mv : mvG L Q (mvV L K G (rK K N - 1) false Q) i = mvV L K G (rK K N - 1) false Q v := mvg_s ev
    have s1 : smT (mvG L Q (mvV L K G (rK K N - 1) false Q)) (i + 1) = smT (mvG L Q (mvV L K G (rK K N - 1) false Q)) i + mvG L Q (mvV L K G (rK K N - 1) false Q) i := rfl
    obtain ⟨o5, e5, e⟩ := cl_s e
    obtain ⟨k5, f5, y5⟩ := (am_all (n := n) (F := F) (G := G) OK kv 40).1 (d := 1) (N := N) (i := i) (dk_self ku) Ru Xu Oq nv.1 (by omega) rfl i3 ev f68 f66 f67 e5
    have s6 := dk_610 ku
    have q5 : ∀ i, 64 ≤ i ∧ i ≤ 68 → hI o5.2 (n + 513) i = hI u (n + 513) i := fun i hi => (f5.2 _ _ (by omega) (fun c => by
      have := rdw_lo ku (by omega) c
      unfold RS at this
      omega)).1
    unfold sX15_refutes_139 sX15_refutes_147 at e
    have go : ∀ {t : Int32}, t.toInt = (mvG L Q (mvV L K G (rK K N - 1) false Q) i : Nat) → mvG L Q (mvV L K G (rK K N - 1) false Q) i ≤ 1 → (nm (x2 + t) fun v_1 => nm (x3 + (1 : Int32)) fun v_2 => sX15_refutes_107 F f o5.2 (n + 513) v_1 v_2) = some o → DyK n h0 o.2 ∧ FrD n 0 h0 o.2 ∧ o.1.toInt = (smT (mvG L Q (mvV L K G (rK K N - 1) false Q)) (lgL L Q).length : Nat) := fun {t} it t1 e => by
      replace e := nx_e (nx_e e)
      exact ih (i := i + 1) (dk_t ku k5) (frd_t ku fu (frd_m (by omega) f5)) (rlw_d ku k5 f5 Ru) (rxd_f ku k5 f5 (by omega) (by omega) Xu) (by rw [q5 68 (by omega)]; exact f68) (by rw [q5 66 (by omega)]; exact f66) (by rw [q5 67 (by omega)]; exact f67) (by rw [ta (by omega), i3, z1]; omega) (by omega) (by rw [ta (by omega), i2, it]; omega) (by omega) e
    rcases y5 with ⟨y1, y2⟩ | ⟨y1, y2⟩
    · exact go (by rw [mv, y2]; rfl) (by omega) (bp_e y1 e)
    · exact go (by rw [mv, y2]; rfl) (by omega) (bn_e y1 e)
theorem rfv_e {N : Nat} (kv : 0 ≤ K ∧ K ≤ 1) (nv : 1 ≤ N) : rfV L K G (lsP K N - 1) P v = smT (mvG L (zAll L P v) (mvV L K G (rK K N - 1) false (zAll L P v))) (lgL L (zAll L P v)).length := by
  have rk : lsP K N - 1 = rK K N := by unfold lsP rK; split <;> first | omega | (split <;> omega)
  rw [rk]
  unfold rfV
  by_cases c : 0 < rK K N
  · rw [if_pos c]
    have s := trv_s (L := L) (G := G) (show ¬ K = 4 by omega) (r := rK K N - 1) (e := false) (P := zAll L P v)
    rw [show rK K N - 1 + 1 = rK K N by omega] at s
    exact s
  · rw [if_neg c]
    have K0 : K = 0 := by unfold rK at c; split at c <;> omega
    have r0 : rK K N - 1 = 0 := by omega
    rw [r0]
    have all : ∀ m, m ≤ (lgL L (zAll L P v)).length → smT (mvG L (zAll L P v) (mvV L K G 0 false (zAll L P v))) m = m := fun m => by
      induction m with
      | zero => intro _; rfl
      | succ m ih =>
        intro hm
        obtain ⟨w, ew⟩ : ∃ w, (lgL L (zAll L P v))[m]? = some w := ⟨_, List.getElem?_eq_getElem hm⟩
        show smT _ m + mvG L (zAll L P v) _ m = _
        rw [ih (by omega), mvg_s ew, mvv_f kv.2, if_neg (by omega)]
    exact (all _ (Nat.le_refl _)).symm
end
end
section
/-! REFUTES of the reference; ROWS, joint -/
section
variable {n d F D p j : Nat} {g h : Hp} {L : Nat → Nat → Int} {P Q : Pz} {v : MvT} {o o' : Int32 × Hp} {x1 x2 x3 x4 x5 : Int32} {K G : Int} {σ : Sy} {pb : Option Pb}
/-- a first move, its replies -/
theorem rf_49 {N : Nat} (k : DyK n g h) (OK : LwOk L) (Oz : PzOk L P) (R : RLw n h L) (X : RxD n L h 0 P) (nv : 1 ≤ N ∧ N ≤ 4) (kv : 0 ≤ K ∧ K ≤ 1) (f68 : (hI h (n + 513) 68).toInt = (N : Int)) (f66 : (hI h (n + 513) 66).toInt = K) (f67 : (hI h (n + 513) 67).toInt = G) (e : sX15_refutes_49 F h (n + 513) x1 = some o) : DyK n h o.2 ∧ FrD n 0 h o.2 ∧ o.1.toInt = if 0 ≤ x1.toInt ∧ x1.toInt < ((lgL L P).length : Int) then ((mvG L P (rfV L K G (lsP K N - 1) P) x1.toNatClampNeg : Nat) : Int) else -1 := by
  have k := dk_self k
  have z0 : (0 : Int32).toInt = 0 := rfl
  have z1 : (1 : Int32).toInt = 1 := rfl
  unfold sX15_refutes_49 sX15_refutes_66 at e
  rcases br_s e with ⟨c, e⟩ | ⟨c, e⟩
  · have := lt_i c
    rw [so_e e, if_neg (by omega)]
    exact ⟨k, frd_0, rfl⟩
  have c := nlt_i c
  have nc := nc_i (x := x1) (by omega)
  replace e := ce_e (dk_e (a := 513) (f := 34) (b := 574) k (by decide +kernel)) e
  replace e := gg_e e
  obtain ⟨l, el, Al⟩ := X.2
  replace e := ce_e (show hR h (n + 574) (0 : Int32).toNatClampNeg = some l from el) e
  have m0 : (hI h l 0).toInt = ((lgL L P).length : Int) := Al.1
  rcases br_s e with ⟨c2, e⟩ | ⟨c2, e⟩
  rotate_left
  · have := nlt_i c2
    rw [so_e e, if_neg (by omega)]
    exact ⟨k, frd_0, rfl⟩
  have c2 := lt_i c2
  rw [if_pos (by omega)]
  obtain ⟨v, ev⟩ : ∃ v, (lgL L P)[x1.toNatClampNeg]? = some v := ⟨_, List.getElem?_eq_getElem (by omega)⟩
  rw [mvg_s ev, rfv_e kv nv.1]
  have Oq := pz_ok OK.1 OK.2.1 Oz (lg_gd OK.1 OK.2.1 Oz ev)
  obtain ⟨o6, e6, e⟩ := cl_s e
  obtain ⟨k6, f6, X6, _⟩ := st_d OK Oz k R X (by decide) rfl (by omega) ev e6
  have R6 := rlw_d k k6 f6 R
  have s6 := dk_610 k
  have fi : ∀ {w : Hp}, FrD n 0 h w → ∀ i, 64 ≤ i ∧ i ≤ 68 → hI w (n + 513) i = hI h (n + 513) i := fun {w} fw i hi => (fw.2 _ _ (by omega) (fun c => by
    have := rdw_lo k (by omega) c
    unfold RS at this
    omega)).1
  have F6 : FrD n 0 h o6 := frd_m (by omega) f6
  have none' : ∀ {w : Hp}, 0 < (enE L (zAll L P v)).1 → DyK n h w → FrD n 0 h w → some ((0 : Int32), w) = some o → DyK n h o.2 ∧ FrD n 0 h o.2 ∧ o.1.toInt = (smT (mvG L (zAll L P v) (mvV L K G (rK K N - 1) false (zAll L P v))) (lgL L (zAll L P v)).length : Nat) := fun {w} ee kw fw e => by
    rw [so_e e, lg_en ee]
    exact ⟨kw, fw, rfl⟩
  have rest : ∀ {w : Hp}, DyK n h w → FrD n 0 h w → RLw n w L → RxD n L w 1 (zAll L P v) → sX15_refutes_93 F w (n + 513) = some o → DyK n h o.2 ∧ FrD n 0 h o.2 ∧ o.1.toInt = (smT (mvG L (zAll L P v) (mvV L K G (rK K N - 1) false (zAll L P v))) (lgL L (zAll L P v)).length : Nat) := fun {w} kw fw Rw Xw e => by
    unfold sX15_refutes_93 sX15_refutes_98 sX15_refutes_101 at e
    obtain ⟨o2, e2, e⟩ := cl_s e
    obtain ⟨k2, f2, y2⟩ := he_d OK Oq kw Rw Xw rfl e2
    have F2 : FrD n 0 h o2.2 := frd_t kw fw (frd_m (by omega) f2)
    rcases y2 with ⟨y1, y2⟩ | ⟨y1, y2⟩
    · have q := fi F2
      exact rf_107 (i := 0) OK Oq nv kv F (dk_t kw k2) F2 (rlw_d kw k2 f2 Rw) (rxd_f kw k2 f2 (by omega) (by omega) Xw) (by rw [q 68 (by omega)]; exact f68) (by rw [q 66 (by omega)]; exact f66) (by rw [q 67 (by omega)]; exact f67) rfl (Nat.zero_le _) rfl (Nat.le_refl _) (bp_e y1 e)
    · exact none' y2 (dk_t kw k2) F2 (bn_e y1 e)
  unfold sX15_refutes_74 sX15_refutes_90 sX15_refutes_101 at e
  rcases br_s e with ⟨c3, e⟩ | ⟨c3, e⟩
  · obtain ⟨o7, e7, e⟩ := cl_s e
    obtain ⟨k7, f7, y7⟩ := gl_d (G := G) OK Oq k6 R6 X6 rfl (by rw [fi F6 67 (by omega)]; exact f67) e7
    have F7 : FrD n 0 h o7.2 := frd_t k6 F6 (frd_m (by omega) f7)
    rcases y7 with ⟨y1, y2⟩ | ⟨y1, y2⟩
    · exact rest (dk_t k6 k7) F7 (rlw_d k6 k7 f7 R6) (rxd_f k6 k7 f7 (by omega) (by omega) X6) (bp_e y1 e)
    · exact none' (glb_e y2) (dk_t k6 k7) F7 (bn_e y1 e)
  · exact rest k6 F6 R6 X6 e
theorem ra_ref (k : DyK n h h) (Ok : SyOk σ) (R : RelR n j h σ) (C : RPb n h (syL σ) pb) (O : PbO σ pb) (e : sX15_refutes F h (n + 513) x1 = some o) : RaO n j h σ o (anRef (syL σ) pb x1) ∧ FrD n 0 h o.2 := by
  have z1 : (1 : Int32).toInt = 1 := rfl
  unfold sX15_refutes sX15_refutes_4 sX15_refutes_15 at e
  obtain ⟨o1, e1, e⟩ := cl_s e
  obtain ⟨y, c⟩ := isp_v k C e1
  rw [y] at e
  rcases c with ⟨c1, c2⟩ | ⟨c1, c2⟩
  · rw [so_e (bp_e c1 e), c2]
    exact ⟨rao_0 k R rfl rfl, frd_0⟩
  replace e := bn_e c1 e
  cases pb with
  | none => exact absurd rfl c2
  | some q =>
    obtain ⟨p, P, K, G, N⟩ := q
    obtain ⟨q1, q2, q3, q4, q5, q6, q7, _⟩ := C
    obtain ⟨_, sp, kv, nv⟩ := O
    have ans : anRef (syL σ) (some (p, P, K, G, N)) x1 = if K ≤ 1 ∧ 0 ≤ x1.toInt ∧ x1.toInt < ((lgL (syL σ) P).length : Int) then ((mvG (syL σ) P (rfV (syL σ) K G (lsP K N - 1) P) x1.toNatClampNeg : Nat) : Int) else -1 := rfl
    rw [ans]
    rcases br_s e with ⟨ck, e⟩ | ⟨ck, e⟩
    rotate_left
    · have := nle_i ck
      rw [so_e e, if_neg (by omega)]
      exact ⟨rao_0 k R rfl rfl, frd_0⟩
    have ck := le_i ck
    obtain ⟨b, eb, A, Oz⟩ : ∃ b, hR h (n + 536) p = some b ∧ RbA h b P ∧ PzOk (syL σ) P := by
      rcases R.2.1 p q1 with ⟨w1, _⟩ | ⟨P', a, w1, _, w2, w3⟩
      · rw [sp] at w1; exact nomatch w1
      · rw [sp] at w1
        have := Option.some.inj w1
        subst this
        exact ⟨a, w2, w3, Ok.2.1 p q1 _ sp⟩
    have np : (hI h (n + 513) 64).toNatClampNeg = p := by have := nc_i (x := hI h (n + 513) 64) (by omega); omega
    obtain ⟨o3, e3, e⟩ := cl_s e
    obtain ⟨_, k3, k3', f3, ec, _⟩ := db_d (d := 0) k rfl e3
    have s6 := dk_610 k
    have fi : ∀ {w : Hp}, FrD n 0 h w → ∀ i, 64 ≤ i ∧ i ≤ 68 → hI w (n + 513) i = hI h (n + 513) i := fun {w} fw i hi => (fw.2 _ _ (by omega) (fun c => by
      have := rdw_lo k (by omega) c
      unfold RS at this
      omega)).1
    have F3 : FrD n 0 h o3.2 := frn_d f3
    obtain ⟨eb3, A3⟩ := plc_d k k3' F3 q1 eb A
    have R3 := rlw_d k k3' F3 R.1
    unfold sX15_refutes_22 sX15_refutes_34 sX15_refutes_40 at e
    replace e := ce_e (dk_e (a := 513) (f := 14) (b := 536) k3 (by decide +kernel)) e
    replace e := gg_e e
    replace e := ce_e (show hR o3.2 (n + 536) (hI o3.2 (n + 513) 64).toNatClampNeg = some b by rw [fi F3 64 (by omega), np]; exact eb3) e
    obtain ⟨o4, e4, e⟩ := cl_s e
    obtain ⟨k4, k4', f4, B4⟩ := cp_d k3 q1 eb3 A3 ec e4
    have R4 := rlw_d k3 k4' f4 R3
    obtain ⟨o5, e5, e⟩ := cl_s e
    obtain ⟨_, k5, k5', f5, ec5, _⟩ := db_d (d := 0) k4 rfl e5
    obtain ⟨bb, ebb, Abb⟩ := rbd_n k4 k5' f5 (by decide) B4
    have R5 := rlw_d (d := 0) k4 k5' (frn_d f5) R4
    have yb := r_eq ec5 ebb
    subst yb
    replace e := ce_e (dk_e (a := 513) (f := 34) (b := 574) k5 (by decide +kernel)) e
    replace e := gg_e e
    obtain ⟨l, el, e⟩ := cl_s e
    obtain ⟨o6, e6, e⟩ := cl_s e
    obtain ⟨k6, k6', f6, M6, B6⟩ := leg_d Ok.1 Oz k5 R5 (by decide) ebb Abb (show hR o5.2 (n + 574) 0 = some l from el) e6
    have F6 : FrD n 0 h o6 := frd_t k5 (frd_t k4 (frd_t k3 F3 f4) (frn_d f5)) f6
    have q := fi F6
    obtain ⟨k7, f7, v7⟩ := rf_49 (K := K) (G := G) k6 Ok.1 Oz (rlw_d k5 k6' f6 R5) ⟨B6, M6⟩ nv ⟨kv.1, by omega⟩ (by rw [q 68 (by omega)]; exact q7) (by rw [q 66 (by omega)]; exact q5) (by rw [q 67 (by omega)]; exact q6) e
    have F7 : FrD n 0 h o.2 := frd_t k6 F6 f7
    refine ⟨rao_d k Ok R F7 (dk_t k6 k7) ?_, F7⟩
    rw [v7]
    by_cases cc : 0 ≤ x1.toInt ∧ x1.toInt < ((lgL (syL σ) P).length : Int)
    · rw [if_pos cc, if_pos ⟨by omega, cc⟩]
    · rw [if_neg cc, if_neg (fun z => cc z.2)]
theorem j_rows (J : JI n j h) (e : sX11_rows F h n x1 x2 = some o) (e' : sX15_rows F o.2 (n + 513) x1 x2 = some o') : o.1 = o'.1 ∧ JI n j o'.2 := ji_z (f := id) (an := fun σ => anRow σ x1 x2) (Z := PbZ n) (Z' := fun _ _ => False) J (fun a i c => by unfold PbZ at c; omega) (fun _ _ c => c.elim) (fun _ c => c) (fun _ _ => rfl) (fun _ _ => rfl) (fun _ k Ok R => ca_rows k Ok R e) (fun _ k Ok R => raz_o (ra_rows k Ok R e'))
end
end
section
/-! both sides between calls, the problem too -/
/-- no serial is greater than the counter -/
def SerB (n : Nat) (h : Hp) : Prop := ∀ p, p < 60 → (hI h (n + 537) p).toInt ≤ (hI h (n + 513) 16).toInt
def JP (n j : Nat) (h : Hp) : Prop := DyK n h h ∧ (TzN n h ∧ SerB n h) ∧ ∃ σ l1 l2 pb, SyOk σ ∧ RelC n h (syOut σ l1) ∧ RelR n j h (syOut σ l2) ∧ CPb n h (syL σ) pb ∧ RPb n h (syL σ) pb ∧ PbO σ pb
section
variable {n d F j : Nat} {g h : Hp} {L : Nat → Nat → Int} {o o' : Int32 × Hp} {x1 x2 x3 x4 x5 : Int32} {σ : Sy} {pb : Option Pb}
theorem jp_ji (J : JP n j h) : JI n j h := by
  obtain ⟨k, tz, σ, l1, l2, pb, Ok, C, R, _⟩ := J
  exact ⟨k, tz.1, σ, l1, l2, Ok, C, R⟩
theorem ser_b {o : Hp} (S : SerN n h o) (B : SerB n h) : SerB n o := fun p hp => by
  have b := B p hp
  have s := S.1
  rcases S.2 p hp with c | ⟨_, _, c⟩
  · rw [c]; omega
  · exact c
theorem ser_c {o : Hp} (F : FrC0 n h o) (B : SerB n h) : SerB n o := fun p hp => by
  rw [(F.2.1 (n + 537) p (by omega) (by omega)).1, (F.2.1 (n + 513) 16 (by omega) (by omega)).1]
  exact B p hp
/-- the class' call leaves the reference's problem -/
theorem rpb_o {o : Hp} (F : FrC0 n h o) (C : RPb n h L pb) : RPb n o L pb := rpb_c (fun a i hh => (F.2.1 a i (by omega) (by omega)).1) C
/-- the reference's call leaves the class' problem -/
theorem cpb_o {o : Hp} (k : DyK n g h) (F : FrR0 n h o) (C : CPb n h L pb) : CPb n o L pb := cpb_f (W := fun a i => ¬ ((a = n + 76 ∧ 14 ≤ i) ∨ a = n + 91 ∨ a = n + 92)) k ⟨F.1, fun a i _ nw => by
  have hh := Classical.not_not.mp nw
  exact F.2.1 a i (by omega) (by omega)⟩ (fun _ _ c => c) C
/-- the problem of the reference stays, where places stay -/
theorem rpb_s {o : Hp} {σ' : Sy} (Z : ∀ a i, (a = n + 513 ∧ ((64 ≤ i ∧ i ≤ 68) ∨ i = 70)) ∨ a = n + 608 → hI o a i = hI h a i) (S : SerN n h o) (R0 : RSe n j h) (C : RPb n h L pb) : RPb n o L pb := by
  have f64 := Z (n + 513) 64 (Or.inl ⟨rfl, by omega⟩)
  have f65 := Z (n + 513) 65 (Or.inl ⟨rfl, by omega⟩)
  have z0 : (0 : Int32).toInt = 0 := rfl
  cases pb with
  | none =>
    obtain ⟨c1, c2⟩ := C
    have s1 := S.1
    refine ⟨by rw [f65]; omega, ?_⟩
    rw [f65, f64]
    rcases c2 with c2 | ⟨c2, c3⟩
    · exact Or.inl c2
    · refine Or.inr ⟨c2, ?_⟩
      have nc := nc_i (x := hI h (n + 513) 64) (by omega)
      rcases S.2 (hI h (n + 513) 64).toNatClampNeg (by omega) with s | ⟨s2, s3, _⟩
      · rw [s]; exact c3
      · intro z
        rw [z] at s3
        omega
  | some q =>
    obtain ⟨p, P, K, G, N⟩ := q
    obtain ⟨c1, c2, c3, c4, c5, c6, c7, c8, c9⟩ := C
    have sp : hI o (n + 537) p = hI h (n + 537) p := by
      rcases S.2 p c1 with s | ⟨s2, _⟩
      · exact s
      · rw [← c3, s2, z0] at c4; omega
    exact ⟨c1, by rw [f64]; exact c2, by rw [f65, sp]; exact c3, by rw [f65]; exact c4, by rw [Z (n + 513) 66 (Or.inl ⟨rfl, by omega⟩)]; exact c5, by rw [Z (n + 513) 67 (Or.inl ⟨rfl, by omega⟩)]; exact c6, by rw [Z (n + 513) 68 (Or.inl ⟨rfl, by omega⟩)]; exact c7, by rw [Z (n + 513) 70 (Or.inl ⟨rfl, by omega⟩)]; exact c8, fun i hi => by rw [Z (n + 608) i (Or.inr rfl)]; exact c9 i hi⟩
/-- as ji_z: a call that leaves the law, the places that are taken and the problem -/
theorem jp_z {j' : Nat} {Z Z' : Nat → Nat → Prop} {f : Sy → Sy} {an : Sy → Int} (J : JP n j h) (zc : ∀ a i, Z a i → a < n + 513 ∧ ¬ a = n + 29) (zp : ∀ a i, Z a i → ¬ ((a = n + 76 ∧ 14 ≤ i) ∨ a = n + 91 ∨ a = n + 92)) (zr : ∀ a i, Z' a i → n + 513 ≤ a ∧ a < n + 610) (zq : ∀ a i, Z' a i → ¬ ((a = n + 513 ∧ ((64 ≤ i ∧ i ≤ 68) ∨ i = 70)) ∨ a = n + 608)) (ok : ∀ σ, SyOk σ → SyOk (f σ)) (fo : ∀ σ l, f (syOut σ l) = syOut (f σ) l) (fl : ∀ σ, syL (f σ) = syL σ) (fp : ∀ σ p P, SyOk σ → p < 60 → syP σ p = some P → syP (f σ) p = some P) (ao : ∀ σ l, an (syOut σ l) = an σ) (ca : ∀ σ, DyK n h h → SyOk σ → RelC n h σ → CaZ n h (f σ) Z o (an σ)) (ra : ∀ σ, DyK n o.2 o.2 → SyOk σ → RelR n j o.2 σ → RaZ n j' o.2 (f σ) Z' o' (an σ) ∧ SerN n o.2 o'.2) : o.1 = o'.1 ∧ JP n j' o'.2 := by
  obtain ⟨k, tz, σ, l1, l2, pb, Ok, C, R, Pc, Pr, Po⟩ := J
  have s6 := dk_610 k
  obtain ⟨a1, a2, a3, a4⟩ := ca _ k (syo_ok Ok) C
  have A0 := frz_o k a4 (fun a i c => (zc a i c).1)
  have R1 := relr_c k a3 A0 (lgle (syo_ok (l := l2) Ok)) R
  obtain ⟨⟨b1, b2, b3, b4⟩, sn⟩ := ra _ (dk_self a3) (syo_ok Ok) R1
  rw [fo] at a2 b2
  rw [ao] at a1 b1
  have B0 := frzr_o (dk_self a3) b4 zr
  have C2 := relc_r (dk_self a3) b3 B0 (lgle (syo_ok (l := l1) (ok σ Ok))) a2
  have s3 := dk_610 a3
  have Pc1 : CPb n o.2 (syL σ) pb := cpb_f k a4 (fun a i c => by
    rcases c with c | c
    · unfold CW at c
      rcases c with c | ⟨q, b, hq, er, l, _⟩
      · omega
      · obtain ⟨own, Dw⟩ := k.1.1
        obtain ⟨y, _⟩ := bk_dy Dw (q := (150, 2408, 6, 1000, fsP)) (by decide) hq er
        have y : n + 610 ≤ b := y
        omega
    · exact zp a i c) Pc
  have Pr2 : RPb n o'.2 (syL σ) pb := rpb_s (σ' := f σ) (fun a i hh => (b4.2 a i (by omega) (fun c => by
    rcases c with c | c
    · unfold RWr at c
      rcases c with c | ⟨q, hq, _, i', b, hi, er, l, _⟩
      · omega
      · obtain ⟨own, Dw⟩ := a3.1.1
        obtain ⟨y, _⟩ := bk_dy Dw hq hi er
        omega
    · exact zq a i c hh)).1) sn R1.2.2.2.2.2 (rpb_o A0 Pr)
  refine ⟨Int32.toInt_inj.mp (a1.trans b1.symm), dk_self b3, ⟨tzn_r B0 (tzn_c k a4 zc tz.1), ser_b sn (ser_c A0 tz.2)⟩, f σ, l1, l2, pb, ok σ Ok, C2, b2, ?_, ?_, ?_⟩
  · rw [fl]; exact cpb_o (dk_self a3) B0 Pc1
  · rw [fl]; exact Pr2
  · cases pb with
    | none => trivial
    | some q =>
      obtain ⟨p, P, K, G, N⟩ := q
      exact ⟨Po.1, fp σ p P Ok Po.1 Po.2.1, Po.2.2⟩
end
end
section
/-! PROBLEM, KEY, REFUTES, ROWS, joint -/
section
variable {n d F j : Nat} {g h : Hp} {L : Nat → Nat → Int} {o o' : Int32 × Hp} {x1 x2 x3 x4 x5 : Int32} {σ : Sy} {pb : Option Pb}
theorem pbo_n (O : PbO σ pb) : PbO σ (pbN σ pb x1 x2 x3 x4) := by
  unfold pbN
  split
  · rename_i c
    have c := prb_e.mp c
    obtain ⟨c1, _, c3, c4⟩ := c
    have nc := nc_i (x := x4) (by omega)
    cases z : sPl σ x1 with
    | none => exact O
    | some P =>
      show PbO σ (if 0 < (enE (syL σ) P).1 then pb else if prB' (ovR (syL σ) (decide (x2.toInt = 3)) (lsP x2.toInt x4.toNatClampNeg) P) = true then pb else some (x1.toNatClampNeg, P, x2.toInt, x3.toInt, x4.toNatClampNeg))
      split
      · exact O
      · split
        · exact O
        · obtain ⟨_, _, b3, b4⟩ := spl_b z
          exact ⟨b3, b4, c1, by omega, by omega⟩
  · exact O
theorem jp_problem (J : JP n j h) (e : sX11_problem F h n x1 x2 x3 x4 = some o) (e' : sX15_problem F o.2 (n + 513) x1 x2 x3 x4 = some o') : o.1 = o'.1 ∧ JP n j o'.2 := by
  obtain ⟨k, tz, σ, l1, l2, pb, Ok, C, R, Pc, Pr, Po⟩ := J
  obtain ⟨⟨a1, a2, a3, a4⟩, Pc1⟩ := ca_prob (σ := syOut σ l1) k (syo_ok Ok) C Pc e
  have zc : ∀ a i, PbY n a i → a < n + 513 ∧ ¬ a = n + 29 := fun a i c => by unfold PbY PbZ at c; omega
  have A0 := frz_o k a4 (fun a i c => (zc a i c).1)
  have R1 := relr_c k a3 A0 (lgle (syo_ok (l := l2) Ok)) R
  obtain ⟨⟨b1, b2, b3, b4⟩, Pr2, sn2⟩ := ra_prob (σ := syOut σ l2) (dk_self a3) (syo_ok Ok) R1 (rpb_o A0 Pr) e'
  have zr : ∀ a i, PbR n a i → n + 513 ≤ a ∧ a < n + 610 := fun a i c => by unfold PbR at c; omega
  have sn : SerN n o.2 o'.2 := sn2
  have B0 := frzr_o (dk_self a3) b4 zr
  have C2 := relc_r (dk_self a3) b3 B0 (lgle (syo_ok (l := l1) Ok)) a2
  exact ⟨Int32.toInt_inj.mp (a1.trans b1.symm), dk_self b3, ⟨tzn_r B0 (tzn_c k a4 zc tz.1), ser_b sn (ser_c A0 tz.2)⟩, σ, l1, l2, pbN σ pb x1 x2 x3 x4, Ok, C2, b2, cpb_o (dk_self a3) B0 Pc1, Pr2, pbo_n Po⟩
theorem jp_key (J : JP n j h) (e : sX11_key h n x1 = some o) (e' : sX15_key o.2 (n + 513) x1 = some o') : o.1 = o'.1 ∧ JP n j o'.2 := by
  have J' := J
  obtain ⟨k, tz, σ, l1, l2, pb, Ok, C, R, Pc, Pr, Po⟩ := J
  have y := keyc_h e
  rw [y] at e'
  have y' := keyr_h e'
  rw [y']
  exact ⟨Int32.toInt_inj.mp ((keyc_v k Pc e).trans (keyr_v k Pr e').symm), J'⟩
theorem jp_refutes (J : JP n j h) (e : sX11_refutes h n x1 = some o) (e' : sX15_refutes F o.2 (n + 513) x1 = some o') : o.1 = o'.1 ∧ JP n j o'.2 := by
  obtain ⟨k, tz, σ, l1, l2, pb, Ok, C, R, Pc, Pr, Po⟩ := J
  have y := refc_h e
  rw [y] at e'
  have Po' : PbO (syOut σ l2) pb := by
    cases pb with
    | none => trivial
    | some q => exact Po
  obtain ⟨⟨b1, b2, b3, b4⟩, f⟩ := ra_ref (σ := syOut σ l2) k (syo_ok Ok) R Pr Po' e'
  have B0 : FrR0 n h o'.2 := frzr_o (Z := fun _ _ => False) k (fw_s b4.1 (fun _ _ c => Or.inl c)) (fun _ _ c => c.elim)
  have C2 := relc_r k b3 B0 (lgle (syo_ok (l := l1) Ok)) C
  exact ⟨Int32.toInt_inj.mp ((refc_v k Pc e).trans b1.symm), dk_self b3, ⟨tzn_r B0 tz.1, ser_b b4.2 tz.2⟩, σ, l1, l2, pb, Ok, C2, b2, cpb_o k B0 Pc, rpb_d k f Pr, Po⟩
/-- a call of the class that leaves the class' problem, and one of the reference that looks -/
theorem jp_l {Z : Nat → Nat → Prop} {an : Sy → Int} (J : JP n j h) (zc : ∀ a i, Z a i → a < n + 513 ∧ ¬ a = n + 29) (zp : ∀ a i, Z a i → ¬ ((a = n + 76 ∧ 14 ≤ i) ∨ a = n + 91 ∨ a = n + 92)) (ao : ∀ σ l, an (syOut σ l) = an σ) (ca : ∀ σ, DyK n h h → SyOk σ → RelC n h σ → CaZ n h σ Z o (an σ)) (ra : ∀ σ, DyK n o.2 o.2 → SyOk σ → RelR n j o.2 σ → RaO n j o.2 σ o' (an σ)) : o.1 = o'.1 ∧ JP n j o'.2 := jp_z (f := id) (Z' := fun _ _ => False) J zc zp (fun _ _ c => c.elim) (fun _ _ c => c.elim) (fun _ c => c) (fun _ _ => rfl) (fun _ => rfl) (fun _ _ _ _ _ c => c) ao ca (fun σ k Ok R => ⟨raz_o (ra σ k Ok R), (ra σ k Ok R).2.2.2.2⟩)
end
end
