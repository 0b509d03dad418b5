section
/-! ENDINGS, the reference: solve behind its SETS, with what is linked -/
section
variable {n F N q tot : Nat} {h hA : Hp} {nk : Nat → Nat} {rk : Nat → Nat → Int} {bk : Nat → Nat} {o : Int32 × Hp} {x3 x4 : Int32} {L : Nat → Nat → Int}
/-- behind solve -/
def SwE (n : Nat) (g hA : Hp) (L : Nat → Nat → Int) (N : Nat) (nk : Nat → Nat) (rk : Nat → Nat → Int) (bk : Nat → Nat) (q : Nat) (o : Int32 × Hp) : Prop := DyK n g o.2 ∧ FrW (WSv n hA) hA o.2 ∧ ((∀ a, hR o.2 (n + 513) 52 = some a → (n + 610 ≤ a ∧ a < hS o.2) ∧ (hR hA (n + 513) 52 = some a ∨ hS hA ≤ a) ∧ (hR hA (n + 513) 52 = some a ∨ OuF n o.2 a)) ∧ (∀ q, q ∈ fam → ∀ i b, hR o.2 (n + q.1) i = some b → hR hA (n + q.1) i = some b ∨ hS hA ≤ b) ∧ ∀ f, hR o.2 (n + 62) f = hR hA (n + 62) f) ∧ (hI o.2 (n + 513) 50).toInt = (N : Int) ∧ LocT (RtA L N nk rk q) (v0A L nk rk q) (ArA L N nk rk q) (TbR n o.2 bk) ∧ ∀ ν, NdA N nk q ν → ¬ RtA L N nk rk q ν → TbR n o.2 bk ν = 3000000
theorem sw_304 {g h1 : Hp} {km all : Nat} (hF : 700000 ≤ F) (E : LwE L N nk rk q) (kA : DyK n hA hA) (k1g : DyK n g h1) (F1 : FrW (WSv n hA) hA h1) (B : BgB n h1 L N nk rk bk (mbF nk q) q km tot all) (kmo : hR hA (n + 513) 52 = some km ∨ hS hA ≤ km) (rh : ∀ q, q ∈ fam → ∀ i b, hR h1 (n + q.1) i = some b → hR hA (n + q.1) i = some b ∨ hS hA ≤ b) (r62 : ∀ f, hR h1 (n + 62) f = hR hA (n + 62) f) (om : hR hA (n + 513) 52 = some km ∨ OuF n h1 km) (l97 : hN h1 (n + 597) = 9376) (e3 : x3.toInt = (all : Int)) (e : sX15_solve_304 F h1 (n + 513) x3 = some o) : SwE n g hA L N nk rk bk q o := by
  have k1 : DyK n h1 h1 := dk_self k1g
  have s1 := dk_610 k1
  unfold sX15_solve_304 at e
  obtain ⟨b1, b2, b3, b4, b5⟩ := id B
  refine sv_307 (g := g) k1 (by omega) b4.2.2 b5.2.2 e3 (fun {h2} k2g k2 F2 hn2 z2 e => ?_) F (i := 0) k1g k1 fw_0 (fun a ha => absurd ha (Nat.not_lt_zero _)) (fun _ => rfl) rfl (Nat.zero_le _) e
  refine sv_330 (g := g) (dk_self k2) (by rw [hn2]; exact l97) (fun {h3} k3g k3 F3 z3 e => ?_) F (i := 0) k2g (dk_self k2) fw_0 (fun a ha => absurd ha (Nat.not_lt_zero _)) (fun _ => rfl) rfl (Nat.zero_le _) e
  have k13 : DyK n h1 h3 := dk_t k2 k3
  have s2 := dk_610 k2
  have km6 := b4.1
  have F13 : FrW (WAl n km) h1 h3 := fw_t (fw_s F2 (fun _ _ c => Or.inr (Or.inr (Or.inr (Or.inr c))))) (fw_s F3 (fun _ _ c => Or.inr (Or.inr (Or.inr (Or.inl c)))))
  have B3 := bgb_f k1 k13 F13 (fun _ _ c => c) B
  have nodn : ∀ ν, ¬ DnP 0 0 ν := fun ν z => by
    rcases z with z | ⟨_, z⟩
    · exact absurd z (Nat.not_lt_zero _)
    · exact absurd z (Nat.not_lt_zero _)
  have kmS2 : km < hS h2 := Nat.lt_of_lt_of_le b4.2.1 F2.1
  obtain ⟨r1, r2, r3, r4, r5, r6⟩ := sv_357 (g := g) hF E (dk_self k3) B3 F (k := 0) k3g (dk_self k3) fw_0 ⟨fun ν na dn => absurd dn (nodn ν), fun a b ha hb => ⟨fun z => by
    rw [z3 a ha, bj_zero] at z
    exact absurd z (by decide), fun ⟨ν, ⟨_, d, _⟩, _⟩ => absurd d (nodn ν)⟩, fun a b ha hb => ⟨fun z => by
    rw [(F3.2 km a kmS2 (fun c => by omega)).2, z2 a ha, bj_zero] at z
    exact absurd z (by decide), fun ⟨ν, _, _, ⟨_, d, _⟩, _⟩ => absurd d (nodn ν)⟩⟩ rfl (Nat.zero_le _) e
  have kmw : WSv n hA km 0 → True := fun _ => trivial
  have up : ∀ a i, WAl n km a i → WSv n hA a i := fun a i c => by
    rcases c with c | c | c | c | c
    · exact Or.inl c
    · exact Or.inr (Or.inl c)
    · exact Or.inr (Or.inr (Or.inl c))
    · exact Or.inr (Or.inr (Or.inr (Or.inr (Or.inl c))))
    · rw [c]
      rcases kmo with z | z
      · exact Or.inr (Or.inr (Or.inr (Or.inr (Or.inr (Or.inr (Or.inr (Or.inr (Or.inl z))))))))
      · exact Or.inr (Or.inr (Or.inr (Or.inr (Or.inr (Or.inr (Or.inr (Or.inr (Or.inr z))))))))
  refine ⟨r1, fw_t F1 (fw_t (fw_s F13 up) (fw_s r3 (fun a i c => ?_))), ⟨fun a ea => ?_, fun q hq i b eb => ?_, fun f => ?_⟩, r4, r5, r6⟩
  · rcases c with c | c | c
    · exact up a i c
    · rcases c with c | c | c
      · exact Or.inr (Or.inr (Or.inr (Or.inr (Or.inr (Or.inl c)))))
      · exact Or.inr (Or.inr (Or.inr (Or.inr (Or.inr (Or.inr (Or.inl c))))))
      · exact Or.inr (Or.inr (Or.inl c))
    · exact Or.inr (Or.inr (Or.inr (Or.inr (Or.inr (Or.inr (Or.inr (Or.inl c)))))))
  · have k1o : DyK n h1 o.2 := dk_t k13 r2
    rw [(k1o.2.2.2 (by omega)).2, b4.2.2] at ea
    rw [← Option.some.inj ea]
    exact ⟨⟨b4.1, Nat.lt_of_lt_of_le b4.2.1 (Nat.le_trans F2.1 (Nat.le_trans F3.1 r3.1))⟩, kmo, om.imp id (fun z => ouf_k k1o b4.2.1 z)⟩
  · have k1o : DyK n h1 o.2 := dk_t k13 r2
    rcases k1o.2.2.1 q hq i b eb with z | z
    · exact rh q hq i b z
    · exact Or.inr (Nat.le_trans F1.1 z)
  · have k1o : DyK n h1 o.2 := dk_t k13 r2
    rw [(k1o.2.2.2 (by omega)).1 f]
    exact r62 f
theorem sw_246 {g : Hp} (hF : 700000 ≤ F) (E : LwE L N nk rk q) (z0 : hS g = 0) (kA : DyK n hA hA) (B : SfB n hA L N nk rk bk q tot) : ∀ (f : Nat) {h : Hp} {x3 x4 : Int32} {k : Nat}, DyK n g h → DyK n hA h → FrW (fun a _ => a = n + 596) hA h → x4.toInt = (k : Int) → k ≤ N → x3.toInt = (mbF nk q k : Int) → 2 * mbF nk q k ≤ 3000000 → (∀ k', k' < k → (hI h (n + 596) k').toInt = (mbF nk q k' : Int)) → hN h (n + 597) = 9376 → sX15_solve_246 F f h (n + 513) x3 x4 = some o → SwE n g hA L N nk rk bk q o := by
  have z1 : (1 : Int32).toInt = 1 := rfl
  have z2 : (2 : Int32).toInt = 2 := rfl
  have sA := dk_610 kA
  obtain ⟨⟨c1, c2, c3⟩, c4, c5, c6⟩ := id B
  intro f
  induction f with
  | zero => intro h x3 x4 k _ _ _ _ _ _ _ _ _ e; exact absurd e (by rw [sX15_solve_246]; exact fun z => nomatch z)
  | succ f ih =>
    intro h x3 x4 k kg kh Fr e4 kN e3 b3 ms l97 e
    rw [sX15_solve_246] at e
    have s6 := dk_610 kh
    have C1 := rlw_k kA kh Fr (fun j i hj z => by omega) c1
    have C2 := fmr_f kA Fr (fun j i hj z => by omega) c2
    have C3 : (hI h (n + 513) 13).toInt = (q : Int) := by rw [(Fr.2 (n + 513) 13 (by omega) (fun c => by omega)).1]; exact c3
    have C4 : (hI h (n + 513) 49).toInt = (N : Int) := by rw [(Fr.2 (n + 513) 49 (by omega) (fun c => by omega)).1]; exact c4
    have C5 : (hJ h (n + 513) 59).toInt = (tot : Int) := by rw [(Fr.2 (n + 513) 59 (by omega) (fun c => by omega)).2]; exact c5.1
    have R52 : hR h (n + 513) 52 = hR hA (n + 513) 52 := (kh.2.2.2 (by omega)).2
    rcases br_s e with ⟨c, e⟩ | ⟨c, e⟩
    · have c := le_i c
      rw [C4] at c
      have kk : k = N := by omega
      rw [kk] at ms e3 b3
      have Mb : ∀ {u : Hp}, (∀ i, hI u (n + 596) i = hI h (n + 596) i) → MbS n u N nk q (mbF nk q) (mbF nk q N) := fun eu => ⟨fun k' hk => ⟨by rw [eu]; exact ms k' hk, mbf_m hk⟩, fun j k' hj _ => mbf_m hj, by omega⟩
      have FA : FrW (WSv n hA) hA h := fw_s Fr (fun _ _ c => Or.inr (Or.inr (Or.inr (Or.inl c))))
      cases ok : hR h (n + 513) 52 with
      | some km =>
        rw [ok] at e
        have e : sX15_solve_304 F h (n + 513) x3 = some o := e
        have okA := ok
        rw [R52] at okA
        obtain ⟨m1, m2⟩ := c6 km okA
        exact sw_304 hF E kA kg FA ⟨⟨C1, C2, C3⟩, C4, ⟨C5, c5.2⟩, ⟨m1, Nat.lt_of_lt_of_le m2 Fr.1, ok⟩, Mb (fun _ => rfl)⟩ (Or.inl okA) (fun q hq i b eb => kh.2.2.1 q hq i b eb) (fun f => (kh.2.2.2 (by omega)).1 f) (Or.inl okA) l97 e3 e
      | none =>
        rw [ok] at e
        have e : (nm (hS h) fun a_4 => nm (nC h 18 (1500000 : Int32).toNatClampNeg (1500000 : Int32).toNatClampNeg) fun h_5 => sX15_solve_301 F h_5 (n + 513) x3 a_4 (n + 513)) = some o := e
        obtain ⟨a4, wa, e⟩ := nm_s e
        obtain ⟨h5, w5, e⟩ := nm_s e
        unfold sX15_solve_301 at e
        obtain ⟨h1, w1, e⟩ := nm_s e
        have k5 : DyK n g h5 := by rw [w5]; exact dk_nC kg
        have k1 : DyK n g h1 := by rw [w1]; exact dk_wZ k5 (by decide) (Or.inr z0)
        have k15 : DyK n hA h5 := by rw [w5]; exact dk_nC kh
        have hs5 : hS h5 = hS h + 1 := by rw [w5, nC_S]
        have hs1 : hS h1 = hS h + 1 := by rw [w1]; exact hs5
        have I5 : ∀ a i, a < hS h → hI h1 a i = hI h a i ∧ hJ h1 a i = hJ h a i := fun a i l => by
          have y1 : hI h1 a i = hI h5 a i := by rw [w1]; rfl
          have y2 : hJ h1 a i = hJ h5 a i := by rw [w1]; rfl
          rw [y1, y2, w5, nC_I, nC_J, if_neg (by omega), if_neg (by omega)]
          exact ⟨rfl, rfl⟩
        have Fh1 : FrW (fun _ _ => False) h h1 := ⟨by omega, fun a i l _ => I5 a i l⟩
        have ek : hR h1 (n + 513) 52 = some (hS h) := by rw [w1, wa, r_R, if_pos ⟨rfl, rfl⟩]
        have K1 := dk_self k1
        have F1 : FrW (WSv n hA) hA h1 := fw_t FA (fw_s Fh1 (fun _ _ c => c.elim))
        have rf : ∀ f, ¬ f = 52 → hR h1 (n + 513) f = hR h (n + 513) f := fun f hf => by rw [w1, r_R, if_neg (fun z => hf z.2), w5, nC_R, if_neg (by omega)]
        have D1 : RLw n h1 L := rlw_v kh k1 Fh1 (fun j i hj z => z) (rf 4 (by decide)) (rf 5 (by decide)) C1
        refine sw_304 (h1 := h1) (km := hS h) hF E kA k1 F1 ⟨⟨D1, fmr_f (dk_self kh) Fh1 (fun j i hj z => z) C2, by rw [(I5 (n + 513) 13 (by omega)).1]; exact C3⟩, by rw [(I5 (n + 513) 49 (by omega)).1]; exact C4, ⟨by rw [(I5 (n + 513) 59 (by omega)).2]; exact C5, c5.2⟩, ⟨by omega, by omega, ek⟩, Mb (fun i => (I5 (n + 596) i (by omega)).1)⟩ (Or.inr Fr.1) (fun q hq i b eb => by
          have f := fam_lt q hq
          have z : ¬ q.1 = 513 := f.2.2.1
          rw [w1, r_R, if_neg (fun y => z (by omega)), w5, nC_R, if_neg (by omega)] at eb
          exact kh.2.2.1 q hq i b eb) (fun f => by
          rw [w1, r_R, if_neg (fun y => by omega), w5, nC_R, if_neg (by omega)]
          exact (kh.2.2.2 (by omega)).1 f) (Or.inr (ouf_r (fun a i l1 l2 l3 => by rw [w1, r_R, if_neg (fun y => l3 y.1), w5, nC_R, if_neg (by omega)]) (ouf_n (dk_self kh) (Nat.le_refl _)))) (by
          rw [w1]
          show hN h5 (n + 597) = 9376
          rw [w5, nC_N, if_neg (by omega)]
          exact l97) e3 e
    · have c := nle_i c
      rw [C4] at c
      have kN' : k < N := by omega
      obtain ⟨⟨a1, a2⟩, _⟩ := id C2
      obtain ⟨b1, b2, _, b4, b5⟩ := a2 k kN'
      have n4 : x4.toNatClampNeg = k := by have := nc_i (x := x4) (by omega); omega
      replace e := ce_e (dk_e (a := 513) (f := 53) (b := 596) kh (by decide +kernel)) e
      replace e := gg_e e
      obtain ⟨h8, w8, e⟩ := nm_s e
      rw [n4] at w8
      have k8 : DyK n hA h8 := by rw [w8]; exact dk_wI kh
      have k8g : DyK n g h8 := by rw [w8]; exact dk_wI kg
      have F8 : FrW (fun a _ => a = n + 596) hA h8 := by rw [w8]; exact fw_wI Fr rfl
      have q8 : (hI h8 (n + 513) 13).toInt = (q : Int) := by rw [w8, rI_a (by omega)]; exact C3
      have m8 : (hI h8 (n + 592) k).toInt = ((nk k : Nat) : Int) := by rw [w8, rI_a (by omega)]; exact b1.1
      obtain ⟨o9, e9, e⟩ := cl_s e
      unfold sX15_sizeOf at e9
      obtain ⟨p9, v9⟩ := szr_4 k8 E.2.2.1 E.2.2.2.1 q8 m8 (by omega) b2 e4 (by omega) F (i := 0) rfl (Nat.zero_le _) (by rw [Nat.pow_zero]; rfl) e9
      rw [p9] at e
      unfold sX15_solve_270 at e
      replace e := ce_e (dk_e (a := 513) (f := 46) (b := 592) k8 (by decide +kernel)) e
      replace e := gg_e e
      obtain ⟨v3, w3, e⟩ := nm_s e
      obtain ⟨v4, w4, e⟩ := nm_s e
      rw [n4] at w3
      have hd : (o9.1 / (2 : Int32)).toInt = ((q ^ nk k : Nat) : Int) := by
        rw [td (a := 0) (b := 600000) (c := 2) (d := 2) ⟨by omega, by omega⟩ ⟨by rw [z2]; decide, by rw [z2]; decide⟩ ⟨by decide, by decide⟩, v9, z2]
        omega
      have pq : q ^ nk k * nk k ≤ q ^ nk k * 5 := Nat.mul_le_mul_left _ b2
      have pe : ((q ^ nk k : Nat) : Int) * ((nk k : Nat) : Int) = ((nk k * q ^ nk k : Nat) : Int) := by rw [← Int.natCast_mul, Nat.mul_comm]
      have pc : nk k * q ^ nk k = q ^ nk k * nk k := Nat.mul_comm _ _
      have mu : ((o9.1 / (2 : Int32)) * hI h8 (n + 592) k).toInt = ((nk k * q ^ nk k : Nat) : Int) := by
        rw [tm (by rw [hd, m8, pe]; omega), hd, m8, pe]
      have mf : mbF nk q (k + 1) = mbF nk q k + nk k * q ^ nk k := rfl
      have bd : 2 * mbF nk q (k + 1) ≤ 3000000 := by
        have := mb_2 C2 kN'
        rw [mf]
        omega
      have y3 : v3.toInt = (mbF nk q (k + 1) : Int) := by
        rw [w3, ta (by rw [mu]; omega), mu, mf]; omega
      refine ih k8g k8 F8 (k := k + 1) (by rw [w4, ta (by rw [z1]; omega), z1]; omega) (by omega) y3 bd (fun k' hk' => ?_) (by rw [w8]; exact l97) e
      by_cases z : k' = k
      · rw [z, w8, rI_s]; exact e3
      · rw [w8, rI_o z]; exact ms k' (by omega)
end
end
section
/-! ENDINGS, the reference: from its call to its table -/
def WAx (n a i : Nat) : Prop := (a = n + 513 ∧ (i = 1 ∨ i = 49 ∨ i = 50 ∨ i = 59)) ∨ (n + 592 ≤ a ∧ a ≤ n + 594) ∨ (n + 598 ≤ a ∧ a ≤ n + 600)
section
variable {n F N q tot w : Nat} {h1 g g5 hA : Hp} {L L' : Nat → Nat → Int} {x1 : Int32} {o2 o3 b : Int32 × Hp} {nk : Nat → Nat} {rk : Nat → Nat → Int} {bk : Nat → Nat}
theorem rlw_e {h : Hp} (A : RLw n h L) (B : RLw n h L') : L = L' := by
  obtain ⟨w, hw, e4, _, C⟩ := A
  obtain ⟨w', hw', e4', _, C'⟩ := B
  rw [e4] at e4'
  have : w = w' := by have := Option.some.inj e4'; omega
  rw [← this] at C'
  exact C.2.1.symm.trans C'.2.1
theorem rso_g (k1 : DyK n h1 h1) (J : Jo (n + 600) (wI h1 (n + 513) 1 0) g ∧ hS g = hS (wI h1 (n + 513) 1 0)) : DyK n h1 g ∧ FrW (WAx n) h1 g := by
  obtain ⟨⟨a, b, c, d⟩, s⟩ := J
  have s' : hS g = hS h1 := s
  refine ⟨dk_c k1 (fun x i => a x i) (fun x => b x) s', by omega, fun x i l nw => ?_⟩
  have n6 : ¬ x = n + 600 := fun z => nw (by unfold WAx; omega)
  have n5 : ¬ (x = n + 513 ∧ i = 1) := fun z => nw (by unfold WAx; omega)
  rw [d x i n6, c x i, r_I, if_neg n5]
  exact ⟨rfl, rfl⟩
theorem rso_5 (k1 : DyK n h1 h1) (J : Jo (n + 600) (wI h1 (n + 513) 1 0) g ∧ hS g = hS (wI h1 (n + 513) 1 0)) (F5 : F5r (n + 513) (n + 599) g g5) : (DyK n h1 g5 ∧ FrW (WAx n) h1 g5) ∧ hI g5 (n + 513) 50 = 0 := by
  obtain ⟨kg, Fg⟩ := rso_g k1 J
  obtain ⟨⟨a1, a2⟩, b, c, d, e⟩ := F5
  refine ⟨⟨dk_c kg b a2 a1, fw_t Fg ⟨by omega, fun x i l nw => ⟨d x i (fun z => nw (by unfold WAx; omega)) (fun z => nw (by unfold WAx; omega)), c x i (fun z => nw (by unfold WAx; omega))⟩⟩⟩, e⟩
theorem rso_2 (k1 : DyK n h1 h1) (J : Jo (n + 600) (wI h1 (n + 513) 1 0) g ∧ hS g = hS (wI h1 (n + 513) 1 0)) (F5 : F5r (n + 513) (n + 599) g g5) (e : sX15_addSet F g5 (n + 513) x1 = some o2) : (DyK n h1 o2.2 ∧ FrW (WAx n) h1 o2.2) ∧ hI o2.2 (n + 513) 50 = 0 := by
  obtain ⟨⟨k5, F5'⟩, z⟩ := rso_5 k1 J F5
  obtain ⟨a, c⟩ := wa_X15_addSet k5 e
  have s := dk_610 k5
  exact ⟨⟨a, fw_t F5' (fw_s c (fun x i w => by unfold WAd at w; unfold WAx; omega))⟩, by rw [(c.2 (n + 513) 50 (by omega) (fun w => by unfold WAd at w; omega)).1]; exact z⟩
theorem rso_3 (k1 : DyK n h1 h1) (J : Jo (n + 600) (wI h1 (n + 513) 1 0) g ∧ hS g = hS (wI h1 (n + 513) 1 0)) (F5 : F5r (n + 513) (n + 599) g g5) (e : sX15_addSet F g5 (n + 513) x1 = some o2) (e3 : sX15_addAll F o2.2 (n + 513) = some o3) : (DyK n h1 o3.2 ∧ FrW (WAx n) h1 o3.2) ∧ hI o3.2 (n + 513) 50 = 0 := by
  obtain ⟨⟨k5, F5'⟩, z⟩ := rso_2 k1 J F5 e
  obtain ⟨a, c⟩ := wa_X15_addAll k5 e3
  have s := dk_610 k5
  exact ⟨⟨a, fw_t F5' (fw_s c (fun x i w => by unfold WAd at w; unfold WAx; omega))⟩, by rw [(c.2 (n + 513) 50 (by omega) (fun w => by unfold WAd at w; omega)).1]; exact z⟩
/-- the reference's table -/
theorem rsv_k (hF : 700000 ≤ F) (E : LwE L N nk rk q) (kA : DyK n hA hA) (Rl : RLw n hA L) (Fm : FmR n hA N nk rk bk q) (eq : (hI hA (n + 513) 13).toInt = (q : Int)) (eN : (hI hA (n + 513) 49).toInt = (N : Int)) (et : (hJ hA (n + 513) 59).toInt = (tot : Int)) (t6 : tot ≤ 600000) (bt : ∀ k, k < N → bk k + 2 * q ^ nk k ≤ tot) (mk : ∀ a, hR hA (n + 513) 52 = some a → n + 610 ≤ a ∧ a < hS hA) (l97 : hN hA (n + 597) = 9376) (e : sX15_solve_246 F F hA (n + 513) (0 : Int32) (0 : Int32) = some b) : SwE n (hp0 hA) hA L N nk rk bk q b :=
  sw_246 (tot := tot) hF E rfl kA ⟨⟨Rl, Fm, eq⟩, eN, ⟨et, t6, bt⟩, mk⟩ F (k := 0) (dk_hp0 kA) kA fw_0 rfl (Nat.zero_le _) rfl (by show 2 * 0 ≤ 3000000; decide) (fun k' hk => absurd hk (Nat.not_lt_zero _)) l97 e
end
end
section
/-! ENDINGS: what stands of them stays -/
def EnC (j i : Nat) : Prop := (j = 62 ∧ (i = 9 ∨ i = 10 ∨ i = 15)) ∨ (63 ≤ j ∧ j ≤ 71) ∨ (592 ≤ j ∧ j ≤ 595) ∨ j = 598 ∨ j = 599 ∨ (j = 513 ∧ i = 50)
section
variable {n N q wA lA qA : Nat} {h o g : Hp} {L : Nat → Nat → Int} {nk : Nat → Nat} {rk : Nat → Nat → Int} {bk p r sb : Nat → Nat} {W : Nat → Nat → Prop}
theorem bde_f (k : DyK n g h) (F : FrW W h o) (dj : ∀ j i, 63 ≤ j ∧ j ≤ 66 → ¬ W (n + j) i) (B : BdE n h) : BdE n o := by
  have s := dk_610 k
  have I : ∀ j i, 63 ≤ j ∧ j ≤ 66 → hI o (n + j) i = hI h (n + j) i ∧ hJ o (n + j) i = hJ h (n + j) i := fun j i hj => F.2 _ _ (by omega) (dj j i hj)
  obtain ⟨⟨M, b1, b2, b3, b4⟩, s', t1, t2⟩ := B
  exact ⟨⟨M, fun s hs => by rw [(I 64 s (by omega)).1]; exact b1 s hs, fun d hd => by rw [(I 65 d (by omega)).2]; exact b2 d hd, fun d hd => by rw [(I 66 d (by omega)).1]; exact b3 d hd, b4⟩, s', t1, by rw [(I 63 5 (by omega)).1]; exact t2⟩
theorem rmb_f (s : hS h ≤ hS o) (r62 : ∀ f, hR o (n + 62) f = hR h (n + 62) f) (ou : ∀ w, w < hS h → OuF n h w → OuF n o w) (R : RmB n wA lA qA h) : RmB n wA lA qA o := by
  obtain ⟨⟨a, b, c⟩, d, ⟨e, f, i⟩, x, y, z⟩ := R
  exact ⟨⟨by rw [r62]; exact a, by rw [r62]; exact b, by rw [r62]; exact c⟩, d, ⟨⟨e.1, by omega⟩, ⟨f.1, by omega⟩, ⟨i.1, by omega⟩⟩, ou _ e.2 x, ou _ f.2 y, ou _ i.2 z⟩
/-- one table stays -/
theorem ens_f (k : DyK n g h) (F : FrW W h o) (r62 : hR o (n + 62) 11 = hR h (n + 62) 11) (dj : ∀ j i, EnC j i → ¬ W (n + j) i) (rm : ∀ i, ¬ W wA i) (E : EnS n h L N nk rk bk p r sb q wA) : EnS n o L N nk rk bk p r sb q wA := by
  have s := dk_610 k
  have I : ∀ j i, EnC j i → hI o (n + j) i = hI h (n + j) i ∧ hJ o (n + j) i = hJ h (n + j) i := fun j i hj => F.2 _ _ (by unfold EnC at hj; omega) (dj j i hj)
  obtain ⟨e10, e1, ⟨fc, so, pw, ⟨w1, w2, w3⟩, kp⟩, ⟨n1, fm, e50⟩, ev⟩ := E
  have c : ∀ j i, (j = 62 ∧ (i = 9 ∨ i = 10 ∨ i = 15)) ∨ (63 ≤ j ∧ j ≤ 71) ∨ (592 ≤ j ∧ j ≤ 595) ∨ j = 598 ∨ j = 599 ∨ (j = 513 ∧ i = 50) → hI o (n + j) i = hI h (n + j) i ∧ hJ o (n + j) i = hJ h (n + j) i := fun j i hj => I j i hj
  refine ⟨by rw [(c 62 10 (by omega)).1]; exact e10, e1, ⟨⟨⟨fc.1.1, by rw [(c 62 9 (by omega)).1]; exact fc.1.2⟩, fun j hj => by rw [(c 69 j (by omega)).1]; exact fc.2.1 j hj, fun j hj => by rw [(c 70 j (by omega)).1]; exact fc.2.2.1 j hj, fc.2.2.2⟩, fun j k h1 h2 => by rw [(c 69 j (by omega)).1, (c 69 k (by omega)).1]; exact so j k h1 h2, fun i hi => by rw [(c 71 i (by omega)).1]; exact pw i hi, ⟨by rw [r62]; exact w1, w2, by have := F.1; omega⟩, by rw [(c 69 _ (by omega)).1, (c 62 15 (by omega)).1]; exact kp⟩, ⟨n1, fmr_f (dk_self k) F (fun j i hj => dj j i (by unfold EnC; omega)) fm, by rw [(c 513 50 (by omega)).1]; exact e50⟩, fun ν na => ?_⟩
  have t1 : TbR n o bk ν = TbR n h bk ν := by unfold TbR; rw [(c 595 _ (by omega)).1]
  have t2 : ∀ ν, TbC o wA sb ν = TbC h wA sb ν := fun ν => by unfold TbC; rw [(F.2 wA _ w3 (rm _)).1]
  rw [t1, t2]
  exact ev ν na
theorem ebz_g (k : DyK n g h) (F : FrW W h o) (dj : ∀ j i, 63 ≤ j ∧ j ≤ 68 → ¬ W (n + j) i) (Z : EbZ n h) : EbZ n o := ebz_f k F (fun a i w l => by
  by_cases c : n + 63 ≤ a ∧ a ≤ n + 68
  · exfalso
    refine dj (a - n) i (by omega) ?_
    rw [show n + (a - n) = a by omega]
    exact w
  · omega) Z
/-- nothing of endings is written -/
theorem enj_f (k : DyK n h h) (k' : DyK n h o) (F : FrW W h o) (dj : ∀ j i, EnC j i → ¬ W (n + j) i) (rm : ∀ a i, hR h (n + 62) 11 = some a → n + 610 ≤ a → a < hS h → OuF n h a → ¬ W a i) (lw : ∀ L, RLw n o L → RLw n h L) (E : EnJ n h) : EnJ n o := by
  have s := dk_610 k
  obtain ⟨⟨Z, B, Rm, Mk⟩, El⟩ := E
  have kk := k'.2.2.2 (by omega)
  have ou : ∀ w, w < hS h → OuF n h w → OuF n o w := fun w l O => ouf_k k' l O
  refine ⟨⟨ebz_g k F (fun j i hj => dj j i (by unfold EnC; omega)) Z, bde_f k F (fun j i hj => dj j i (by unfold EnC; omega)) B, ?_, fun a ea => ?_⟩, fun L hL => ?_⟩
  · rcases Rm with z | ⟨wA, lA, qA, R⟩
    · exact Or.inl (by rw [kk.1]; exact z)
    · exact Or.inr ⟨wA, lA, qA, rmb_f F.1 kk.1 ou R⟩
  · rw [kk.2] at ea
    obtain ⟨m1, m2, m3⟩ := Mk a ea
    exact ⟨⟨m1.1, by have := F.1; omega⟩, ou a m1.2 m2, fun f hf => by rw [kk.1]; exact m3 f hf⟩
  · rcases El L (lw L hL) with ⟨a, b⟩ | ⟨N, nk, rk, bk, p, r, sb, q, wA, En⟩
    · exact Or.inl ⟨by rw [(F.2 (n + 62) 10 (by omega) (dj 62 10 (by unfold EnC; omega))).1]; exact a, by rw [(F.2 (n + 513) 50 (by omega) (dj 513 50 (by unfold EnC; omega))).1]; exact b⟩
    · have w := En.2.2.1.2.2.2.1
      have O : OuF n h wA := by
        rcases Rm with z | ⟨wA', lA, qA, R⟩
        · rw [w.1] at z
          have := Option.some.inj z
          omega
        · have y := R.1.1
          rw [w.1] at y
          rw [Option.some.inj y]
          exact R.2.2.2.1
      exact Or.inr ⟨N, nk, rk, bk, p, r, sb, q, wA, ens_f k F (kk.1 11) dj (fun i => rm wA i w.1 w.2.1 w.2.2 O) En⟩
end
end
section
/-! ENDINGS: solve leaves both with one table -/
def WCy (n wA lA qA a : Nat) (_i : Nat) : Prop := (n + 62 ≤ a ∧ a ≤ n + 72) ∨ a = n + 1 ∨ a = wA ∨ a = lA ∨ a = qA
def WRy (n : Nat) (h1 : Hp) (a i : Nat) : Prop := WAx n a i ∨ RS n a i ∨ WLs n a i ∨ (n + 595 ≤ a ∧ a ≤ n + 597) ∨ WWn n a i ∨ a = n + 607 ∨ hR h1 (n + 513) 52 = some a ∨ hS h1 ≤ a
/-- behind both solves -/
def SoO (n : Nat) (h : Hp) (a b : Int32 × Hp) : Prop := (∃ wA lA qA, (DyK n a.2 a.2 ∧ KsG n h a.2) ∧ FrW (WCy n wA lA qA) h a.2 ∧ (∀ w, w = wA ∨ w = lA ∨ w = qA → (n + 62 ≤ w ∧ w ≤ n + 72) ∨ (n + 610 ≤ w ∧ OuF n h w)) ∧ ∀ x, hR a.2 (n + 513) 52 = some x → n + 610 ≤ x ∧ OuF n a.2 x) ∧ (DyK n b.2 b.2 ∧ KsG n a.2 b.2) ∧ FrW (WRy n a.2) a.2 b.2 ∧ EnJ n b.2 ∧ (hR b.2 (n + 62) 11 = some (n + 73) → hR h (n + 62) 11 = some (n + 73)) ∧ a.1 = b.1
section
variable {n F lw m : Nat} {h y g g5 : Hp} {L : Nat → Nat → Int} {a b o6 u o2 o3 : Int32 × Hp} {hc2 : Hp} {v key x1 : Int32} {row : Nat → Int32} {ρ : Nat → Nat} {c : Cm}
theorem clrs_k (k : DyK n g y) (e : sX11_solve_71 F y n v = some a) : a = (v, wI y (n + 1) 1 0) := by
  have r : hR y n 0 = some (n + 1) := dk_e (a := 0) (f := 0) (b := 1) k (by decide +kernel)
  unfold sX11_solve_71 sX11_solve_78 sX9_clear at e
  replace e := ce_e r e
  replace e := ce_e (y := wI y (n + 1) 1 0) rfl e
  exact so_e e
theorem enmk_a (k0 : DyK n h h) (Mk : EnMk n h) (KG : KsG n h y) (R : ∀ x i, x < hS h → ¬ (x = n + 62 ∧ 11 ≤ i ∧ i ≤ 13) → hR y x i = hR h x i) {x : Nat} (e : hR y (n + 513) 52 = some x) : hR h (n + 513) 52 = some x ∧ (n + 610 ≤ x ∧ x < hS h) ∧ OuF n y x := by
  have s := dk_610 k0
  rw [R _ _ (by omega) (fun z => by omega)] at e
  obtain ⟨m1, m2, _⟩ := Mk x e
  exact ⟨e, m1, ouf_r (fun a i l1 l2 l3 => R a i (by omega) (fun z => l2 z.1)) m2⟩
/-- nothing is run -/
theorem esl_1 (k0 : DyK n h h) (EJ : EnJ n h) (Rl : RLw n h L) (ey : y = h ∨ ∃ key, y = wI h (n + 62) 14 key) (e : sX11_solve_71 F y n v = some a) (eb : b.1 = v) (J : Jo (n + 600) (wI a.2 (n + 513) 1 0) b.2 ∧ hS b.2 = hS (wI a.2 (n + 513) 1 0)) : SoO n h a b := by
  have s0 := dk_610 k0
  have ky : DyK n h y ∧ FrW (fun a i => a = n + 62 ∧ i = 14) h y ∧ HSN h y := by
    rcases ey with z | ⟨key, z⟩
    · rw [z]; exact ⟨k0, fw_0, hsn_0⟩
    · rw [z]; exact ⟨dk_wI k0, fw_wI fw_0 ⟨rfl, rfl⟩, hsn_0⟩
  have ea := clrs_k ky.1 e
  have ha : a.2 = wI y (n + 1) 1 0 := by rw [ea]
  have ka : DyK n h a.2 := by rw [ha]; exact dk_wI ky.1
  have Fa : FrW (fun a i => (a = n + 62 ∧ i = 14) ∨ a = n + 1) h a.2 := by rw [ha]; exact fw_wI (fw_s ky.2.1 (fun _ _ z => Or.inl z)) (Or.inr rfl)
  have Ha : HSN h a.2 := by rw [ha]; exact ky.2.2
  have kaa := dk_self ka
  have sa := dk_610 kaa
  obtain ⟨kb, Fb⟩ := rso_g kaa J
  have Fb' : FrW (fun a i => (a = n + 513 ∧ i = 1) ∨ a = n + 600) a.2 b.2 := by
    obtain ⟨⟨_, _, c, d⟩, s⟩ := J
    have s' : hS b.2 = hS a.2 := s
    refine ⟨by omega, fun x i l nw => ?_⟩
    rw [d x i (fun z => nw (Or.inr z)), c x i, r_I, if_neg (fun z => nw (Or.inl z))]
    exact ⟨rfl, rfl⟩
  have Ea : EnJ n a.2 := enj_f k0 ka Fa (fun j i hj z => by unfold EnC at hj; omega) (fun x i _ l _ _ z => by omega) (fun L' hL' => by
    have : RLw n a.2 L := rlw_k k0 ka Fa (fun j i hj z => by omega) Rl
    rw [rlw_e hL' this]; exact Rl) EJ
  have Rla : RLw n a.2 L := rlw_k k0 ka Fa (fun j i hj z => by omega) Rl
  have Eb : EnJ n b.2 := enj_f kaa kb Fb' (fun j i hj z => by unfold EnC at hj; omega) (fun x i _ l _ _ z => by omega) (fun L' hL' => by
    have : RLw n b.2 L := rlw_k kaa kb Fb' (fun j i hj z => by omega) Rla
    rw [rlw_e hL' this]; exact Rla) Ea
  refine ⟨⟨n + 62, n + 62, n + 62, ⟨kaa, ka.1.2.2.2⟩, fw_s Fa (fun x i z => by unfold WCy; omega), fun w hw => Or.inl (by omega), fun x ex => ?_⟩, ⟨dk_self kb, kb.1.2.2.2⟩, fw_s Fb (fun x i z => Or.inl z), Eb, fun z => by rw [← ((dk_t ka kb).2.2.2 (by omega)).1 11]; exact z, by rw [ea, eb]⟩
  obtain ⟨m1, m2, _⟩ := Ea.1.2.2.2 x ex
  exact ⟨m1.1, m2⟩
/-- there is no room -/
theorem esl_2 (k0 : DyK n h h) (EJ : EnJ n h) (k1 : DyK n a.2 a.2) (er : sX0_run F (wI h (n + 62) 14 key) (n + 62) = some o6) (eu : sX0_gatherSets F (wI (wI h (n + 62) 14 key) (n + 62) 10 0) (n + 62) = some u) (e55 : sX11_solve_55 F o6.2 n o6.1 = some a) (u0 : u.1 = 0) (b1 : b.1 = (-104 : Int32)) (J : Jo (n + 600) (wI a.2 (n + 513) 1 0) g ∧ hS g = hS (wI a.2 (n + 513) 1 0)) (F5 : F5r (n + 513) (n + 599) g g5) (ex : ∃ o2, sX15_addSet F g5 (n + 513) x1 = some o2 ∧ (b.2 = o2.2 ∨ ∃ o3, sX15_addAll F o2.2 (n + 513) = some o3 ∧ b.2 = o3.2)) : SoO n h a b := by
  have s0 := dk_610 k0
  have kq : DyK n h (wI (wI h (n + 62) 14 key) (n + 62) 10 0) := dk_wI (dk_wI k0)
  obtain ⟨ku, Fu⟩ := wg_X0_gatherSets kq eu
  have Hu := hs0_X0_gatherSets (g := h) (h := wI (wI h (n + 62) 14 key) (n + 62) 10 0) hsn_0 eu
  have Fq : FrW (fun a i => a = n + 62 ∧ (i = 10 ∨ i = 14)) h (wI (wI h (n + 62) 14 key) (n + 62) 10 0) := fw_wI (fw_wI fw_0 ⟨rfl, Or.inr rfl⟩) ⟨rfl, Or.inl rfl⟩
  have Fhu : FrW (fun a _ => n + 62 ≤ a ∧ a ≤ n + 72 ∧ ¬ (n + 63 ≤ a ∧ a ≤ n + 68)) h u.2 := fw_t (fw_s Fq (fun a i z => by omega)) (fw_s Fu (fun a i z => by unfold WGt at z; omega))
  have sq : hS (wI (wI h (n + 62) 14 key) (n + 62) 10 0) = hS h := rfl
  have z10 : hI u.2 (n + 62) 10 = 0 := by rw [(Fu.2 (n + 62) 10 (by omega) (fun z => by unfold WGt at z; omega)).1, rI_s]
  have e6 : o6 = ((0 : Int32), u.2) := by
    unfold sX0_run at er
    replace er := nx_e er
    replace er := ce_e eu er
    unfold sX0_run_9 at er
    replace er := bp_e u0 er
    exact so_e er
  rw [e6] at e55
  unfold sX11_solve_55 sX11_solve_70 at e55
  replace e55 := bp_e rfl e55
  have ea := clrs_k ku e55
  have ha : a.2 = wI u.2 (n + 1) 1 0 := by rw [ea]
  have ka : DyK n h a.2 := by rw [ha]; exact dk_wI ku
  have Fa : FrW (fun a _ => (n + 62 ≤ a ∧ a ≤ n + 72 ∧ ¬ (n + 63 ≤ a ∧ a ≤ n + 68)) ∨ a = n + 1) h a.2 := by rw [ha]; exact fw_wI (fw_s Fhu (fun _ _ z => Or.inl z)) (Or.inr rfl)
  have sa := dk_610 k1
  have za : hI a.2 (n + 62) 10 = 0 := by rw [ha, rI_a (by omega)]; exact z10
  obtain ⟨⟨kb, Fb⟩, zb⟩ : (DyK n a.2 b.2 ∧ FrW (WAx n) a.2 b.2) ∧ hI b.2 (n + 513) 50 = 0 := by
    obtain ⟨o2, e2, z | ⟨o3, e3, z⟩⟩ := ex
    · rw [z]; exact rso_2 k1 J F5 e2
    · rw [z]; exact rso_3 k1 J F5 e2 e3
  have k12 : DyK n h b.2 := dk_t ka kb
  have kk := k12.2.2.2 (by omega)
  have F2 : FrW (fun a i => ((n + 62 ≤ a ∧ a ≤ n + 72 ∧ ¬ (n + 63 ≤ a ∧ a ≤ n + 68)) ∨ a = n + 1) ∨ WAx n a i) h b.2 := fw_t (fw_s Fa (fun _ _ z => Or.inl z)) (fw_s Fb (fun _ _ z => Or.inr z))
  have ou : ∀ w, w < hS h → OuF n h w → OuF n b.2 w := fun w l O => ouf_k k12 l O
  obtain ⟨⟨Z, B, Rm, Mk⟩, _⟩ := id EJ
  have Eb : EnJ n b.2 := by
    refine ⟨⟨ebz_g k0 F2 (fun j i hj z => by unfold WAx at z; omega) Z, bde_f k0 F2 (fun j i hj z => by unfold WAx at z; omega) B, ?_, fun x ex => ?_⟩, fun L' _ => Or.inl ⟨?_, zb⟩⟩
    · rcases Rm with z | ⟨wA, lA, qA, R⟩
      · exact Or.inl (by rw [kk.1]; exact z)
      · exact Or.inr ⟨wA, lA, qA, rmb_f F2.1 kk.1 ou R⟩
    · rw [kk.2] at ex
      obtain ⟨m1, m2, m3⟩ := Mk x ex
      exact ⟨⟨m1.1, by have := F2.1; omega⟩, ou x m1.2 m2, fun f hf => by rw [kk.1]; exact m3 f hf⟩
    · rw [(Fb.2 (n + 62) 10 (by omega) (fun z => by unfold WAx at z; omega)).1]; exact za
  refine ⟨⟨n + 62, n + 62, n + 62, ⟨k1, ka.1.2.2.2⟩, fw_s Fa (fun x i z => by unfold WCy; omega), fun w hw => Or.inl (by omega), fun x ex => ?_⟩, ⟨dk_self kb, kb.1.2.2.2⟩, fw_s Fb (fun x i z => Or.inl z), Eb, fun z => by rw [← kk.1 11]; exact z, by rw [ea, b1]⟩
  rw [(ka.2.2.2 (by omega)).2] at ex
  obtain ⟨m1, m2, _⟩ := Mk x ex
  exact ⟨m1.1, ouf_k ka m1.2 m2⟩
end
end
section
/-! ENDINGS: solve leaves both with one table: solved -/
section
variable {n F lw m : Nat} {h y g g5 : Hp} {L : Nat → Nat → Int} {a b o6 u o2 o3 : Int32 × Hp} {hc2 : Hp} {v key x1 : Int32} {row : Nat → Int32} {ρ : Nat → Nat} {c : Cm}
theorem ouf_x {o : Hp} {w : Nat} (nw : ∀ q, q ∈ fam → ∀ i b, hR o (n + q.1) i = some b → hR h (n + q.1) i = some b ∨ hS h ≤ b) (l : w < hS h) (O : OuF n h w) : OuF n o w := fun q hq i b hi e => by
  rcases nw q hq i b e with z | z
  · exact O q hq i b hi z
  · exact fun y => by omega
theorem esl_3 (hF : 700000 ≤ F) (k0 : DyK n h h) (Lk : LwOk L) (LD : LtD L) (Cl : ClL n h L) (Fb : FmB n h L) (EJ : EnJ n h) (Rm : RmK n h) (k1 : DyK n a.2 a.2) (Rl1 : RLw n a.2 L) (e4 : hR a.2 (n + 513) 4 = some lw) (er : sX0_run F (wI h (n + 62) 14 key) (n + 62) = some o6) (eu : sX0_gatherSets F (wI (wI h (n + 62) 14 key) (n + 62) 10 0) (n + 62) = some u) (e55 : sX11_solve_55 F o6.2 n o6.1 = some a) (Kk : Kq key m row) (Gk : GdR L m row) (nc : hI a.2 lw 18 = 0 ∧ ∃ o9, sX15_hasCatches F (wI a.2 (n + 513) 1 0) (n + 513) = some o9 ∧ o9.1 = 0) (J : Jo (n + 600) (wI a.2 (n + 513) 1 0) g ∧ hS g = hS (wI a.2 (n + 513) 1 0)) (F5 : F5r (n + 513) (n + 599) g g5) (u1 : u.1 = 1) (e2 : sX15_addSet F g5 (n + 513) x1 = some o2) (e3 : sX15_addAll F o2.2 (n + 513) = some o3) (Js : JS (n + 62) (n + 69) (n + 71) (n + 513) (n + 592) (n + 593) (n + 598) (n + 599) hc2 o3.2) (TT : TH ρ c o3.2 ∧ SlR ρ (n + 513) (n + 592) (n + 593) (n + 594) (n + 598) (n + 599) (n + 600) o3.2 ∧ SE (n + 513) o3.2 ∧ AllS (n + 513) (n + 592) (n + 593) (n + 599) (n + 598) lw (lw + 8) (lw + 9) o3.2) (fk : 1 ≤ (hI hc2 (n + 62) 9).toInt ∧ hI hc2 (n + 69) 0 = key) (e104 : sX0_gatherSets_104 F hc2 (n + 62) = some u) (e246 : sX15_solve_246 F F o3.2 (n + 513) (0 : Int32) (0 : Int32) = some b) : SoO n h a b := by
  have s0 := dk_610 k0
  have s1 := dk_610 k1
  obtain ⟨w, hw, w4, _, C1⟩ := id Rl1
  have hlw : lw = n + w := Option.some.inj (e4.symm.trans w4)
  subst hlw
  obtain ⟨⟨kA1, FA⟩, z50⟩ := rso_3 k1 J F5 e2 e3
  have kA := dk_self kA1
  have sA := dk_610 kA
  have RlA : RLw n o3.2 L := rlw_k k1 kA1 FA (fun j i hj z => by unfold WAx at z; omega) Rl1
  have CA : RfL n o3.2 (n + w) L := by
    obtain ⟨w', _, w4', _, C'⟩ := id RlA
    rw [kA1.1.2.2.2.2.2 4 (Or.inl rfl), w4] at w4'
    have : w' = w := by have := Option.some.inj w4'; omega
    rw [this] at C'
    exact C'
  obtain ⟨T3, Q3, P3, A3⟩ := TT
  have isq : Rg 9 64 (hI o3.2 (n + 513) 13) := thI T3 Q3.1.1 (k := 16) (i := 13) rfl
  have isq1 := isq.1
  have isq2 := isq.2
  obtain ⟨q, eq⟩ : ∃ q : Nat, (hI o3.2 (n + 513) 13).toInt = (q : Int) := ⟨(hI o3.2 (n + 513) 13).toInt.toNat, by omega⟩
  have eqL : (q : Int) = L 0 0 * L 1 0 := by
    rw [← eq]
    exact CA.2.2.2.2
  -- the class' SETS
  have kq : DyK n h (wI (wI h (n + 62) 14 key) (n + 62) 10 0) := dk_wI (dk_wI k0)
  have Fq : FrW (fun a i => a = n + 62 ∧ (i = 10 ∨ i = 14)) h (wI (wI h (n + 62) 14 key) (n + 62) 10 0) := fw_wI (fw_wI fw_0 ⟨rfl, Or.inr rfl⟩) ⟨rfl, Or.inl rfl⟩
  have Clq : ClL n (wI (wI h (n + 62) 14 key) (n + 62) 10 0) L := cll_f k0 kq (fun j i hj => Fq.2 _ _ (by omega) (fun z => by omega)) Cl
  obtain ⟨Gu, N, p, r, sb, ⟨eN, e59⟩, Pm, fc, so, pw, e18, ⟨cN, uN⟩, hp⟩ := cgt_k hF (dk_self kq) eu Js e104 eq
  have N1 : 1 ≤ N := by have := fk.1; omega
  have gal := gal_k (nT := m) hF Lk (dk_self kq) Clq (by rw [rI_o (by decide), rI_s]; exact ⟨m, row, Kk, Nat.le_refl _, Gk⟩) eu (by rw [u1]; decide)
  have Gd : ∀ k, k < N → GdK L m (hI hc2 (n + 69) k) := fun k hk => by
    rw [← hp k hk]
    exact gal (p k) (by rw [uN]; have := Pm.2.2.2 k hk; omega)
  obtain ⟨⟨Fm, nkT⟩, FmR', S3⟩ := rfm_k T3 Q3 P3 A3 Js CA Lk eN eq Gd
  have Nc : NcL L := by
    obtain ⟨n18, o9, e9, z9⟩ := nc
    have Rl2 : RLw n (wI a.2 (n + 513) 1 0) L := rlw_k k1 (dk_wI k1) (W := fun a i => a = n + 513 ∧ i = 1) (fw_wI fw_0 ⟨rfl, rfl⟩) (fun j i hj z => by omega) Rl1
    obtain ⟨w', _, w4', _, C'⟩ := Rl2
    have w4' : hR a.2 (n + 513) 4 = some (n + w') := w4'
    rw [w4] at w4'
    have : w' = w := by have := Option.some.inj w4'; omega
    rw [this] at C'
    exact ncl_h (o := o9) Lk.1 C' (by rw [rI_a (by omega)]; exact n18) e9 z9
  have E : LwE L N (nkH n o3.2) (rkH n o3.2) q := ⟨⟨Lk, LD, Nc⟩, Fm, by omega, by omega, eqL⟩
  have kp : hI u.2 (n + 69) (p 0) = key := (hp 0 N1).trans fk.2
  obtain ⟨⟨Z, B, Rm', Mk⟩, _⟩ := id EJ
  obtain ⟨wA, lA, qA, ⟨r1, k6, KG6⟩, ⟨F6, R6⟩, ⟨⟨c1, c2, c3⟩, no⟩, RmB6, ⟨Z6, B6⟩, ⟨e10, e15⟩, ⟨f6, s6, p6, kp6, e9⟩, lc, l4⟩ := cru_k (nk := fun k => nkH n o3.2 (r k)) (rk := fun k => rkH n o3.2 (r k)) (p := p) (sb := sb) (nT := m) hF (pm_lwe Pm E) N1 (Pm.2.2.2 0 N1) k0 Cl Fb Z B Rm ⟨⟨_, keyr_q Kk⟩, fun k hk => nkT (r k) (Pm.2.2.1 k hk)⟩ eu Gu ⟨fc, so, pw, e18, kp⟩ u1 er
  unfold sX11_solve_55 sX11_solve_70 at e55
  replace e55 := bn_e (by rw [r1]; decide) e55
  have r10 : hR o6.2 n 10 = some (n + 62) := dk_e (a := 0) (f := 10) (b := 62) k6 (by decide +kernel)
  replace e55 := ce_e r10 e55
  have ea := clrs_k k6 e55
  have ha : a.2 = wI o6.2 (n + 1) 1 0 := by rw [ea]
  have sa6 : hS a.2 = hS o6.2 := by rw [ha]; rfl
  have Ra : ∀ x i, hR a.2 x i = hR o6.2 x i := fun x i => by rw [ha]; rfl
  have Rh : ∀ x i, x < hS h → ¬ (x = n + 62 ∧ 11 ≤ i ∧ i ≤ 13) → hR a.2 x i = hR h x i := fun x i l np => by rw [Ra]; exact R6 x i l np
  have KGa : KsG n h a.2 := ⟨by rw [sa6]; exact KG6.1, fun q hq i x ex => by rw [Ra]; exact KG6.2.1 q hq i x ex, fun f hf => by rw [Ra]; exact KG6.2.2 f hf⟩
  have Fa : FrW (WCy n wA lA qA) h a.2 := by rw [ha]; exact fw_wI (fw_s F6 (fun x i z => by unfold WCx at z; unfold WCy; omega)) (Or.inr (Or.inl rfl))
  have I6 : ∀ x i, ¬ x = n + 1 → hI a.2 x i = hI o6.2 x i ∧ hJ a.2 x i = hJ o6.2 x i := fun x i nx => by rw [ha, rI_a nx]; exact ⟨rfl, rfl⟩
  have kk := kA1.2.2.2 (by omega)
  obtain ⟨⟨q1, q2, q3⟩, qd, ⟨⟨v1, v2⟩, ⟨v3, v4⟩, ⟨v5, v6⟩⟩, y1, y2, y3⟩ := id RmB6
  have mA : ∀ x, hR o3.2 (n + 513) 52 = some x → hR h (n + 513) 52 = some x ∧ (n + 610 ≤ x ∧ x < hS h) ∧ OuF n a.2 x := fun x ex => enmk_a k0 Mk KGa Rh (by rw [← kk.2]; exact ex)
  have hh : hS h ≤ hS a.2 := KGa.1
  have hA' : hS a.2 ≤ hS o3.2 := FA.1
  have l97 : hN o3.2 (n + 597) = 9376 := by
    obtain ⟨x, ex, qx⟩ := thR T3 Q3.1.1 (i := 54) (k2 := 105) rfl (by decide)
    have := dk_ed (a := 513) (f := 54) (b := 597) kA (by decide +kernel) ex
    rw [this] at qx
    exact thN T3 qx (k := 105) (n := 9376) rfl (by decide)
  obtain ⟨kb, Fb2, ⟨mk2, nw2, r62⟩, e50, lcR, l3⟩ := rsv_k (tot := sb N) hF E kA RlA FmR' eq eN e59 fc.2.2.2.2 (fun k hk => by have := S3 k hk; rw [e59] at this; omega) (fun x ex => by obtain ⟨_, m1, _⟩ := mA x ex; omega) l97 e246
  have kb2 := dk_self kb
  -- masks are no rooms
  have mr : ∀ x, hR o3.2 (n + 513) 52 = some x → ¬ wA = x ∧ ¬ lA = x ∧ ¬ qA = x := fun x ex => by
    obtain ⟨m0, m1, _⟩ := mA x ex
    rcases no with ⟨z1, z2, z3⟩ | ⟨z1, z2, z3⟩
    · omega
    · have m3 := (Mk x m0).2.2
      exact ⟨fun z => m3 11 (by omega) (by rw [← z]; exact z1), fun z => m3 12 (by omega) (by rw [← z]; exact z2), fun z => m3 13 (by omega) (by rw [← z]; exact z3)⟩
  -- the class' cells stay
  have Xb : ∀ x i, x < hS a.2 → (x < n + 513 ∨ x = wA) → hI b.2 x i = hI a.2 x i ∧ hJ b.2 x i = hJ a.2 x i := fun x i l hx => by
    have nA : ¬ WAx n x i := fun z => by unfold WAx at z; omega
    have nS : ¬ WSv n o3.2 x i := fun z => by
      unfold WSv RS WLs WWn at z
      rcases z with z | z | z | z | z | z | z | z | z | z
      · omega
      · omega
      · omega
      · omega
      · omega
      · omega
      · omega
      · omega
      · obtain ⟨_, m1, _⟩ := mA x z
        have := mr x z
        omega
      · omega
    have e1 := FA.2 x i l nA
    have e2 := Fb2.2 x i (by omega) nS
    exact ⟨e2.1.trans e1.1, e2.2.trans e1.2⟩
  have Xj : ∀ j i, 2 ≤ j → j < 513 → hI b.2 (n + j) i = hI o6.2 (n + j) i ∧ hJ b.2 (n + j) i = hJ o6.2 (n + j) i := fun j i h1 h2 => by
    have e1 := Xb (n + j) i (by omega) (Or.inl (by omega))
    have e2 := I6 (n + j) i (by omega)
    exact ⟨e1.1.trans e2.1, e1.2.trans e2.2⟩
  have F6b : FrW (fun x _ => ¬ (n + 2 ≤ x ∧ x < n + 513)) o6.2 b.2 := ⟨by have := Fb2.1; omega, fun x i l nw => by
    have := Xj (x - n) i (by omega) (by omega)
    rw [show n + (x - n) = x by omega] at this
    exact this⟩
  have RA : ∀ x, x < hS a.2 → OuF n a.2 x → OuF n b.2 x := fun x l O => ouf_x nw2 (Nat.lt_of_lt_of_le l hA') (ouf_k kA1 l O)
  have ouA : ∀ {x : Nat}, OuF n o6.2 x → OuF n a.2 x := fun O => ouf_r (fun x i _ _ _ => Ra x i) O
  have R62 : ∀ f, hR b.2 (n + 62) f = hR o6.2 (n + 62) f := fun f => by rw [r62 f, kk.1 f, Ra]
  have RmBb : RmB n wA lA qA b.2 := rmb_f F6b.1 R62 (fun x l O => RA x (by omega) (ouA O)) RmB6
  have b13 : EnMk n b.2 := fun x ex => by
    obtain ⟨m1, m2, m3⟩ := mk2 x ex
    refine ⟨m1, ?_, fun f hf => ?_⟩
    · rcases m3 with z | z
      · obtain ⟨_, m4, m5⟩ := mA x z
        exact RA x (by omega) m5
      · exact z
    · rw [R62]
      have ne : ¬ wA = x ∧ ¬ lA = x ∧ ¬ qA = x := by
        rcases m2 with z | z
        · exact mr x z
        · omega
      rcases hf with z | z | z <;> rw [z]
      · rw [q1]; exact fun y => ne.1 (Option.some.inj y)
      · rw [q2]; exact fun y => ne.2.1 (Option.some.inj y)
      · rw [q3]; exact fun y => ne.2.2 (Option.some.inj y)
  have Ft : ∀ j i, (j = 513 ∧ (i = 13 ∨ i = 49)) ∨ (592 ≤ j ∧ j ≤ 594) ∨ (598 ≤ j ∧ j ≤ 599) → hI b.2 (n + j) i = hI o3.2 (n + j) i ∧ hJ b.2 (n + j) i = hJ o3.2 (n + j) i := fun j i hj => Fb2.2 _ _ (by omega) (fun z => by
      unfold WSv RS WLs WWn at z
      rcases z with z | z | z | z | z | z | z | z | z | z
      · omega
      · omega
      · omega
      · omega
      · omega
      · omega
      · omega
      · omega
      · obtain ⟨_, m1, _⟩ := mA _ z
        omega
      · omega)
  have EnSb : EnS n b.2 L N (nkH n o3.2) (rkH n o3.2) (bkH n o3.2) p r sb q wA := by
    have Ev : EnV n b.2 L N (nkH n o3.2) (rkH n o3.2) (bkH n o3.2) p sb q wA := env_k (T := fun ν => (hI o6.2 wA (ixC sb ν)).toInt) E Pm lcR l3 lc l4 (fun ν na => by
      unfold TbC
      rw [(Xb wA _ (by omega) (Or.inr rfl)).1, (I6 wA _ (by omega)).1]
      rfl)
    refine ⟨by rw [(Xj 62 10 (by omega) (by omega)).1, e10]; decide, ⟨E, Pm⟩, ⟨⟨⟨f6.1.1, by rw [(Xj 62 9 (by omega) (by omega)).1]; exact f6.1.2⟩, fun j hj => by rw [(Xj 69 j (by omega) (by omega)).1]; exact f6.2.1 j hj, fun j hj => by rw [(Xj 70 j (by omega) (by omega)).1]; exact f6.2.2.1 j hj, f6.2.2.2⟩, fun j k h1 h2 => by rw [(Xj 69 j (by omega) (by omega)).1, (Xj 69 k (by omega) (by omega)).1]; exact s6 j k h1 h2, fun i hi => by rw [(Xj 71 i (by omega) (by omega)).1]; exact p6 i hi, ⟨RmBb.1.1, RmBb.2.2.1.1.1, RmBb.2.2.1.1.2⟩, by rw [(Xj 69 _ (by omega) (by omega)).1, (Xj 62 15 (by omega) (by omega)).1, kp6, e15]⟩, ⟨N1, fmr_f kA Fb2 (fun j i hj z => by
      unfold WSv RS WLs WWn at z
      rcases z with z | z | z | z | z | z | z | z | z | z
      · omega
      · omega
      · omega
      · omega
      · omega
      · omega
      · omega
      · omega
      · obtain ⟨_, m1, _⟩ := mA _ z
        omega
      · omega) FmR', e50⟩, Ev⟩
  have Rlb : RLw n b.2 L := rlw_v kA kb Fb2 (fun j i hj z => by
      unfold WSv RS WLs WWn at z
      rcases z with z | z | z | z | z | z | z | z | z | z
      · omega
      · omega
      · omega
      · omega
      · omega
      · omega
      · omega
      · omega
      · obtain ⟨_, m1, _⟩ := mA _ z
        omega
      · omega) (kb.1.2.2.2.2.2 4 (Or.inl rfl)) (kb.1.2.2.2.2.2 5 (Or.inr rfl)) RlA
  have EJb : EnJ n b.2 := by
    refine ⟨⟨ebz_g k6 F6b (fun j i hj z => z ⟨by omega, by omega⟩) Z6, bde_f k6 F6b (fun j i hj z => z ⟨by omega, by omega⟩) B6, Or.inr ⟨wA, lA, qA, RmBb⟩, b13⟩, fun L' hL' => ?_⟩
    rw [rlw_e hL' Rlb]
    exact Or.inr ⟨N, _, _, _, p, r, sb, q, wA, EnSb⟩
  have ab : a.1 = b.1 := by
    apply Int32.toInt_inj.mp
    rw [t246 F e246, (Ft 513 49 (by omega)).1, eN, ea]
    show (hI o6.2 (n + 62) 9).toInt = _
    exact f6.1.2
  refine ⟨⟨wA, lA, qA, ⟨k1, KGa⟩, Fa, fun x hx => Or.inr ?_, fun x ex => ?_⟩, ⟨kb2, ⟨by have := Fb2.1; omega, fun q hq i x ex => kb.1.2.2.2.2.1 q hq i x (kA1.1.2.2.2.2.1 q hq i x ex), fun f hf => (kb.1.2.2.2.2.2 f hf).trans (kA1.1.2.2.2.2.2 f hf)⟩⟩, fw_t (fw_s FA (fun x i z => Or.inl z)) ⟨Fb2.1, fun x i l nw => Fb2.2 x i l (fun z => nw ?_)⟩, EJb, fun z => by
    rw [RmBb.1.1] at z
    have := Option.some.inj z
    omega, ab⟩
  · rcases hx with z | z | z <;> rw [z]
    · exact ⟨v1, c1⟩
    · exact ⟨v3, c2⟩
    · exact ⟨v5, c3⟩
  · obtain ⟨_, m1, m2⟩ := enmk_a k0 Mk KGa Rh ex
    exact ⟨m1.1, m2⟩
  · unfold WSv at z
    unfold WRy
    rcases z with z | z | z | z | z | z | z | z | z | z
    · exact Or.inr (Or.inl z)
    · exact Or.inr (Or.inr (Or.inl z))
    · exact Or.inr (Or.inr (Or.inr (Or.inl (by omega))))
    · exact Or.inr (Or.inr (Or.inr (Or.inl (by omega))))
    · exact Or.inr (Or.inr (Or.inr (Or.inl (by omega))))
    · exact Or.inr (Or.inr (Or.inr (Or.inr (Or.inl z))))
    · exact Or.inr (Or.inr (Or.inr (Or.inr (Or.inr (Or.inl z)))))
    · exact Or.inl (Or.inl ⟨z.1, Or.inr (Or.inr (Or.inl z.2))⟩)
    · rw [kk.2] at z
      exact Or.inr (Or.inr (Or.inr (Or.inr (Or.inr (Or.inr (Or.inl z))))))
    · exact Or.inr (Or.inr (Or.inr (Or.inr (Or.inr (Or.inr (Or.inr (Nat.le_trans hA' z)))))))
end
end
section
/-! ENDINGS: what stands of them stays over a call of each side -/
section
variable {n j F : Nat} {h o1 : Hp} {σ : Sy} {o o' : Int32 × Hp} {x1 x2 x3 x4 x5 : Int32} {l : List Int} {L : Nat → Nat → Int} {Z Z' : Nat → Nat → Prop}
theorem enj_c (k : DyK n h h) (a3 : DyK n h o1) (a4 : FrW (fun a i => CW n h a i ∨ Z a i) h o1) (zc : ∀ a i, Z a i → a < n + 513) (zn : ∀ a i, Z a i → ¬ (n + 62 ≤ a ∧ a ≤ n + 71)) (R : RLw n h L) (R1 : RLw n o1 L) (EJ : EnJ n h) : EnJ n o1 := by
  refine enj_f k a3 a4 (fun j i hj c => ?_) (fun a i _ la _ O c => ?_) (fun L' hL' => by rw [rlw_e hL' R1]; exact R) EJ
  · rcases c with c | c
    · unfold CW at c
      rcases c with c | ⟨q, b, hq, er, l, _⟩
      · unfold EnC at hj; omega
      · obtain ⟨own, Dw⟩ := k.1.1
        obtain ⟨y, _⟩ := bk_dy Dw (q := (150, 2408, 6, 1000, fsP)) (by decide) hq er
        have y : n + 610 ≤ b := y
        unfold EnC at hj
        omega
    · have := zc _ _ c
      have := zn _ _ c
      unfold EnC at hj
      omega
  · rcases c with c | c
    · unfold CW at c
      rcases c with c | ⟨q, b, hq, er, l, l'⟩
      · omega
      · exact O (150, 2408, 6, 1000, fsP) (by decide) q b hq er ⟨l, l'⟩
    · have := zc _ _ c
      omega
theorem enj_r (k : DyK n h h) (a3 : DyK n h o1) (a4 : FrW (fun a i => RWr n h a i ∨ Z a i) h o1) (zr : ∀ a i, Z a i → n + 513 ≤ a ∧ a < n + 610) (zm : ∀ a i, Z a i → ¬ (n + 592 ≤ a ∧ a ≤ n + 599) ∧ ¬ (a = n + 513 ∧ i = 50)) (R : RLw n h L) (R1 : RLw n o1 L) (EJ : EnJ n h) : EnJ n o1 := by
  refine enj_f k a3 a4 (fun j i hj c => ?_) (fun a i _ la _ O c => ?_) (fun L' hL' => by rw [rlw_e hL' R1]; exact R) EJ
  · rcases c with c | c
    · unfold RWr at c
      rcases c with c | ⟨q, hq, _, i', b, hi, er, l, _⟩
      · unfold EnC at hj; omega
      · obtain ⟨own, Dw⟩ := k.1.1
        obtain ⟨y, _⟩ := bk_dy Dw hq hi er
        unfold EnC at hj
        omega
    · have := zr _ _ c
      have := zm _ _ c
      unfold EnC at hj
      omega
  · rcases c with c | c
    · unfold RWr at c
      rcases c with c | ⟨q, hq, _, i', b, hi, er, l, l'⟩
      · omega
      · exact O q hq i' b hi er ⟨l, l'⟩
    · have := zr _ _ c
      omega
theorem enq_z {j' : Nat} {f : Sy → Sy} {an : Sy → Int} (J : JP n j h) (EJ : EnJ n h) (zc : ∀ a i, Z a i → a < n + 513 ∧ ¬ a = n + 29) (zn : ∀ a i, Z a i → ¬ (n + 62 ≤ a ∧ a ≤ n + 71)) (zr : ∀ a i, Z' a i → n + 513 ≤ a ∧ a < n + 610) (zm : ∀ a i, Z' a i → ¬ (n + 592 ≤ a ∧ a ≤ n + 599) ∧ ¬ (a = n + 513 ∧ i = 50)) (fl : ∀ σ, syL (f σ) = syL σ) (ca : ∀ σ, DyK n h h → SyOk σ → RelC n h σ → CaZ n h (f σ) Z o (an σ)) (ra : ∀ σ, DyK n o.2 o.2 → SyOk σ → RelR n j o.2 σ → RaZ n j' o.2 (f σ) Z' o' (an σ)) : EnJ n o'.2 := by
  obtain ⟨k, tz, σ, l1, l2, pb, Ok, C, R, Pc, Pr, Po⟩ := J
  obtain ⟨a1, a2, a3, a4⟩ := ca _ k (syo_ok Ok) C
  have A0 := frz_o k a4 (fun a i c => (zc a i c).1)
  have R1 := relr_c k a3 A0 (lgle (syo_ok (l := l2) Ok)) R
  obtain ⟨b1, b2, b3, b4⟩ := ra _ (dk_self a3) (syo_ok Ok) R1
  have E1 := enj_c k a3 a4 (fun a i c => (zc a i c).1) zn R.1 R1.1 EJ
  have b21 := b2.1
  rw [fl] at b21
  exact enj_r (dk_self a3) b3 b4 zr zm R1.1 b21 E1
theorem enq_k {j' : Nat} {f f' : Sy → Sy} {an an' : Sy → Int} (J : JP n j h) (EJ : EnJ n h) (zc : ∀ a i, Z a i → a < n + 513 ∧ ¬ a = n + 29) (zn : ∀ a i, Z a i → ¬ (n + 62 ≤ a ∧ a ≤ n + 71)) (zr : ∀ a i, Z' a i → n + 513 ≤ a ∧ a < n + 610) (zm : ∀ a i, Z' a i → ¬ (n + 592 ≤ a ∧ a ≤ n + 599) ∧ ¬ (a = n + 513 ∧ i = 50)) (fo : ∀ σ l, ∃ l', f (syOut σ l) = syOut σ l') (fo' : ∀ σ l, ∃ l', f' (syOut σ l) = syOut σ l') (ca : ∀ σ, DyK n h h → SyOk σ → RelC n h σ → CaZ n h (f σ) Z o (an σ)) (ra : ∀ σ, DyK n o.2 o.2 → SyOk σ → RelR n j o.2 σ → RaZ n j' o.2 (f' σ) Z' o' (an' σ) ∧ SerN n o.2 o'.2) : EnJ n o'.2 := by
  obtain ⟨k, tz, σ, l1, l2, pb, Ok, C, R, Pc, Pr, Po⟩ := J
  obtain ⟨a1, a2, a3, a4⟩ := ca _ k (syo_ok Ok) C
  have A0 := frz_o k a4 (fun a i c => (zc a i c).1)
  have R1 := relr_c k a3 A0 (lgle (syo_ok (l := l2) Ok)) R
  obtain ⟨⟨b1, b2, b3, b4⟩, _⟩ := ra _ (dk_self a3) (syo_ok Ok) R1
  have E1 := enj_c k a3 a4 (fun a i c => (zc a i c).1) zn R.1 R1.1 EJ
  obtain ⟨m2, e2⟩ := fo' σ l2
  have b21 := b2.1
  rw [e2] at b21
  exact enj_r (dk_self a3) b3 b4 zr zm R1.1 b21 E1
theorem enq_g {j' : Nat} {f : Sy → Sy} {an : Sy → Int} (J : JP n j h) (EJ : EnJ n h) (_ok : ∀ σ, SyOk σ → SyOk (f σ)) (_fo : ∀ σ l, f (syOut σ l) = syOut (f σ) l) (_ao : ∀ σ l, an (syOut σ l) = an σ) (ca : ∀ σ, DyK n h h → SyOk σ → RelC n h σ → CaO n h (f σ) o (an σ)) (ra : ∀ σ, DyK n o.2 o.2 → SyOk σ → RelR n j o.2 σ → RaO n j' o.2 (f σ) o' (an σ)) (fx : FxL f) : EnJ n o'.2 :=
  enq_z (Z := fun _ _ => False) (Z' := fun _ _ => False) J EJ (fun _ _ c => c.elim) (fun _ _ c => c.elim) (fun _ _ c => c.elim) (fun _ _ c => c.elim) (fun σ => (fx σ).1) (fun σ k Ok R => caz_o (ca σ k Ok R)) (fun σ k Ok R => raz_o (ra σ k Ok R))
theorem enq_ll {an : Sy → Int} (J : JP n j h) (EJ : EnJ n h) (ao : ∀ σ l, an (syOut σ l) = an σ) (ca : ∀ σ, DyK n h h → SyOk σ → RelC n h σ → CaO n h σ o (an σ)) (ra : ∀ σ, DyK n o.2 o.2 → SyOk σ → RelR n j o.2 σ → RaO n j o.2 σ o' (an σ)) : EnJ n o'.2 := enq_g (f := id) J EJ (fun _ c => c) (fun _ _ => rfl) ao ca ra fx_id
theorem enq_l {an : Sy → Int} (J : JP n j h) (EJ : EnJ n h) (zc : ∀ a i, Z a i → a < n + 513 ∧ ¬ a = n + 29) (zn : ∀ a i, Z a i → ¬ (n + 62 ≤ a ∧ a ≤ n + 71)) (_ao : ∀ σ l, an (syOut σ l) = an σ) (ca : ∀ σ, DyK n h h → SyOk σ → RelC n h σ → CaZ n h σ Z o (an σ)) (ra : ∀ σ, DyK n o.2 o.2 → SyOk σ → RelR n j o.2 σ → RaO n j o.2 σ o' (an σ)) : EnJ n o'.2 := enq_z (f := id) (Z' := fun _ _ => False) J EJ zc zn (fun _ _ c => c.elim) (fun _ _ c => c.elim) (fun _ => rfl) ca (fun σ k Ok R => raz_o (ra σ k Ok R))
theorem enq_wr {f : Sy → Sy} {an : Sy → Int} (J : JP n j h) (EJ : EnJ n h) (fo : ∀ σ l, ∃ l', f (syOut σ l) = syOut σ l') (_ao : ∀ σ l, an (syOut σ l) = an σ) (ca : ∀ σ, DyK n h h → SyOk σ → RelC n h σ → CaO n h (f σ) o (an σ)) (ra : ∀ σ, DyK n o.2 o.2 → SyOk σ → RelR n j o.2 σ → RaO n j o.2 (f σ) o' (an σ)) : EnJ n o'.2 := enq_k (Z := fun _ _ => False) (Z' := fun _ _ => False) J EJ (fun _ _ c => c.elim) (fun _ _ c => c.elim) (fun _ _ c => c.elim) (fun _ _ c => c.elim) fo fo (fun σ k Ok R => caz_o (ca σ k Ok R)) (fun σ k Ok R => ⟨raz_o (ra σ k Ok R), (ra σ k Ok R).2.2.2.2⟩)
theorem enq_problem (J : JP n j h) (EJ : EnJ n h) (e : sX11_problem F h n x1 x2 x3 x4 = some o) (e' : sX15_problem F o.2 (n + 513) x1 x2 x3 x4 = some o') : EnJ n o'.2 := by
  obtain ⟨k, tz, σ, l1, l2, pb, Ok, C, R, Pc, Pr, Po⟩ := J
  obtain ⟨⟨a1, a2, a3, a4⟩, Pc1⟩ := ca_prob (σ := syOut σ l1) k (syo_ok Ok) C Pc e
  have zc : ∀ a i, PbY n a i → a < n + 513 ∧ ¬ a = n + 29 := fun a i c => by unfold PbY PbZ at c; omega
  have A0 := frz_o k a4 (fun a i c => (zc a i c).1)
  have R1 := relr_c k a3 A0 (lgle (syo_ok (l := l2) Ok)) R
  obtain ⟨⟨b1, b2, b3, b4⟩, Pr2, sn2⟩ := ra_prob (σ := syOut σ l2) (dk_self a3) (syo_ok Ok) R1 (rpb_o A0 Pr) e'
  have E1 := enj_c k a3 a4 (fun a i c => (zc a i c).1) (fun a i c => by unfold PbY PbZ at c; omega) R.1 R1.1 EJ
  exact enj_r (dk_self a3) b3 b4 (fun a i c => by unfold PbR at c; omega) (fun a i c => by unfold PbR at c; omega) R1.1 b2.1 E1
theorem enq_key (EJ : EnJ n h) (e : sX11_key h n x1 = some o) (e' : sX15_key o.2 (n + 513) x1 = some o') : EnJ n o'.2 := by
  rw [keyc_h e] at e'
  rw [keyr_h e']
  exact EJ
theorem enq_refutes (J : JP n j h) (EJ : EnJ n h) (e : sX11_refutes h n x1 = some o) (e' : sX15_refutes F o.2 (n + 513) x1 = some o') : EnJ n o'.2 := by
  obtain ⟨k, tz, σ, l1, l2, pb, Ok, C, R, Pc, Pr, Po⟩ := J
  rw [refc_h e] at e'
  have Po' : PbO (syOut σ l2) pb := by
    cases pb with
    | none => trivial
    | some q => exact Po
  obtain ⟨⟨b1, b2, b3, b4⟩, f⟩ := ra_ref (σ := syOut σ l2) k (syo_ok Ok) R Pr Po' e'
  exact enj_r (Z := fun _ _ => False) k b3 (fw_s b4.1 (fun _ _ c => Or.inl c)) (fun _ _ c => c.elim) (fun _ _ c => c.elim) R.1 b2.1 EJ
end
end
