section
/-! ENDINGS, the reference: solve behind its SETS -/
section
variable {n F N q tot : Nat} {h hA : Hp} {nk : Nat → Nat} {rk : Nat → Nat → Int} {bk : Nat → Nat} {o : Int32 × Hp} {x3 x4 : Int32} {L : Nat → Nat → Int}
/-- the SETS as addAll leaves them -/
def SfB (n : Nat) (h : Hp) (L : Nat → Nat → Int) (N : Nat) (nk : Nat → Nat) (rk : Nat → Nat → Int) (bk : Nat → Nat) (q tot : Nat) : Prop := (RLw n h L ∧ FmR n h N nk rk bk q ∧ (hI h (n + 513) 13).toInt = (q : Int)) ∧ (hI h (n + 513) 49).toInt = (N : Int) ∧ ((hJ h (n + 513) 59).toInt = (tot : Int) ∧ tot ≤ 600000 ∧ ∀ k, k < N → bk k + 2 * q ^ nk k ≤ tot) ∧ ∀ a, hR h (n + 513) 52 = some a → n + 610 ≤ a ∧ a < hS h
def WSv (n : Nat) (h : Hp) (a i : Nat) : Prop := RS n a i ∨ WLs n a i ∨ a = n + 595 ∨ a = n + 596 ∨ a = n + 597 ∨ WWn n a i ∨ a = n + 607 ∨ (a = n + 513 ∧ i = 50) ∨ hR h (n + 513) 52 = some a ∨ hS h ≤ a
/-- behind solve -/
def SvE (n : Nat) (g hA : Hp) (L : Nat → Nat → Int) (N : Nat) (nk : Nat → Nat) (rk : Nat → Nat → Int) (bk : Nat → Nat) (q : Nat) (o : Int32 × Hp) : Prop := DyK n g o.2 ∧ FrW (WSv n hA) hA o.2 ∧ (∀ a, hR o.2 (n + 513) 52 = some a → n + 610 ≤ a ∧ a < hS o.2) ∧ (hI o.2 (n + 513) 50).toInt = (N : Int) ∧ LocT (RtA L N nk rk q) (v0A L nk rk q) (ArA L N nk rk q) (TbR n o.2 bk) ∧ ∀ ν, NdA N nk q ν → ¬ RtA L N nk rk q ν → TbR n o.2 bk ν = 3000000
theorem rlw_v {W : Nat → Nat → Prop} {g g' h o : Hp} {L : Nat → Nat → Int} (k : DyK n g h) (k' : DyK n g' o) (F : FrW W h o) (dj : ∀ j i, (j = 513 ∧ (i = 11 ∨ i = 12 ∨ i = 13)) ∨ (516 ≤ j ∧ j ≤ 535) → ¬ W (n + j) i) (f4 : hR o (n + 513) 4 = hR h (n + 513) 4) (f5 : hR o (n + 513) 5 = hR h (n + 513) 5) (R : RLw n h L) : RLw n o L := by
  have s6 := dk_610 k
  have I : ∀ j i, (j = 513 ∧ (i = 11 ∨ i = 12 ∨ i = 13)) ∨ (516 ≤ j ∧ j ≤ 535) → hI o (n + j) i = hI h (n + j) i ∧ hJ o (n + j) i = hJ h (n + j) i := fun j i hj => F.2 _ _ (by omega) (dj j i hj)
  obtain ⟨w, hw, e4, e5, C⟩ := R
  refine ⟨w, hw, by rw [f4]; exact e4, by rw [f5]; exact e5, ?_⟩
  have e : ∀ j i, j < 10 → hI o (n + w + j) i = hI h (n + w + j) i ∧ hJ o (n + w + j) i = hJ h (n + w + j) i := fun j i hj => by
    have := I (w + j) i (by omega)
    rw [show n + (w + j) = n + w + j by omega] at this
    exact this
  refine rw0_i (V := vM n 0 0 0 0 0 (n + w)) C (funext fun i => (e 0 i (by decide)).1) (e 0 21 (by decide)).2 (fun q q1 q2 => ?_) (I 513 11 (by omega)).1 (I 513 12 (by omega)).1 (I 513 13 (by omega)).1 ⟨f4.trans e4, lx_e k' hw (f := 3) (b := 1) (by decide), lx_e k' hw (f := 4) (b := 2) (by decide), lx_e k' hw (f := 5) (b := 3) (by decide), lx_e k' hw (f := 6) (b := 4) (by decide), lx_e k' hw (f := 7) (b := 5) (by decide), lx_e k' hw (f := 8) (b := 6) (by decide), lx_e k' hw (f := 9) (b := 7) (by decide), lx_e k' hw (f := 13) (b := 8) (by decide), lx_e k' hw (f := 14) (b := 9) (by decide)⟩
  have : q = 73 ∨ q = 74 ∨ q = 75 ∨ q = 76 ∨ q = 77 ∨ q = 78 ∨ q = 79 ∨ q = 80 ∨ q = 81 := by omega
  rcases this with z | z | z | z | z | z | z | z | z <;> subst z
  · exact funext fun i => (e 1 i (by decide)).1
  · exact funext fun i => (e 2 i (by decide)).1
  · exact funext fun i => (e 3 i (by decide)).1
  · exact funext fun i => (e 4 i (by decide)).1
  · exact funext fun i => (e 5 i (by decide)).1
  · exact funext fun i => (e 6 i (by decide)).1
  · exact funext fun i => (e 7 i (by decide)).1
  · exact funext fun i => (e 8 i (by decide)).1
  · exact funext fun i => (e 9 i (by decide)).1
theorem sv_304 {g h1 : Hp} {km all : Nat} (hF : 700000 ≤ F) (E : LwE L N nk rk q) (kA : DyK n hA hA) (k1g : DyK n g h1) (F1 : FrW (WSv n hA) hA h1) (B : BgB n h1 L N nk rk bk (mbF nk q) q km tot all) (kmo : hR hA (n + 513) 52 = some km ∨ hS hA ≤ km) (l97 : hN h1 (n + 597) = 9376) (e3 : x3.toInt = (all : Int)) (e : sX15_solve_304 F h1 (n + 513) x3 = some o) : SvE n g hA L N nk rk bk q o := by
  have k1 : DyK n h1 h1 := dk_self k1g
  have s1 := dk_610 k1
  unfold sX15_solve_304 at e
  obtain ⟨b1, b2, b3, b4, b5⟩ := id B
  refine sv_307 (g := g) k1 (by omega) b4.2.2 b5.2.2 e3 (fun {h2} k2g k2 F2 hn2 z2 e => ?_) F (i := 0) k1g k1 fw_0 (fun a ha => absurd ha (Nat.not_lt_zero _)) (fun _ => rfl) rfl (Nat.zero_le _) e
  refine sv_330 (g := g) (dk_self k2) (by rw [hn2]; exact l97) (fun {h3} k3g k3 F3 z3 e => ?_) F (i := 0) k2g (dk_self k2) fw_0 (fun a ha => absurd ha (Nat.not_lt_zero _)) (fun _ => rfl) rfl (Nat.zero_le _) e
  have k13 : DyK n h1 h3 := dk_t k2 k3
  have s2 := dk_610 k2
  have km6 := b4.1
  have F13 : FrW (WAl n km) h1 h3 := fw_t (fw_s F2 (fun _ _ c => Or.inr (Or.inr (Or.inr (Or.inr c))))) (fw_s F3 (fun _ _ c => Or.inr (Or.inr (Or.inr (Or.inl c)))))
  have B3 := bgb_f k1 k13 F13 (fun _ _ c => c) B
  have nodn : ∀ ν, ¬ DnP 0 0 ν := fun ν z => by
    rcases z with z | ⟨_, z⟩
    · exact absurd z (Nat.not_lt_zero _)
    · exact absurd z (Nat.not_lt_zero _)
  have kmS2 : km < hS h2 := Nat.lt_of_lt_of_le b4.2.1 F2.1
  obtain ⟨r1, r2, r3, r4, r5, r6⟩ := sv_357 (g := g) hF E (dk_self k3) B3 F (k := 0) k3g (dk_self k3) fw_0 ⟨fun ν na dn => absurd dn (nodn ν), fun a b ha hb => ⟨fun z => by
    rw [z3 a ha, bj_zero] at z
    exact absurd z (by decide), fun ⟨ν, ⟨_, d, _⟩, _⟩ => absurd d (nodn ν)⟩, fun a b ha hb => ⟨fun z => by
    rw [(F3.2 km a kmS2 (fun c => by omega)).2, z2 a ha, bj_zero] at z
    exact absurd z (by decide), fun ⟨ν, _, _, ⟨_, d, _⟩, _⟩ => absurd d (nodn ν)⟩⟩ rfl (Nat.zero_le _) e
  have kmw : WSv n hA km 0 → True := fun _ => trivial
  have up : ∀ a i, WAl n km a i → WSv n hA a i := fun a i c => by
    rcases c with c | c | c | c | c
    · exact Or.inl c
    · exact Or.inr (Or.inl c)
    · exact Or.inr (Or.inr (Or.inl c))
    · exact Or.inr (Or.inr (Or.inr (Or.inr (Or.inl c))))
    · rw [c]
      rcases kmo with z | z
      · exact Or.inr (Or.inr (Or.inr (Or.inr (Or.inr (Or.inr (Or.inr (Or.inr (Or.inl z))))))))
      · exact Or.inr (Or.inr (Or.inr (Or.inr (Or.inr (Or.inr (Or.inr (Or.inr (Or.inr z))))))))
  refine ⟨r1, fw_t F1 (fw_t (fw_s F13 up) (fw_s r3 (fun a i c => ?_))), fun a ea => ?_, r4, r5, r6⟩
  · rcases c with c | c | c
    · exact up a i c
    · rcases c with c | c | c
      · exact Or.inr (Or.inr (Or.inr (Or.inr (Or.inr (Or.inl c)))))
      · exact Or.inr (Or.inr (Or.inr (Or.inr (Or.inr (Or.inr (Or.inl c))))))
      · exact Or.inr (Or.inr (Or.inl c))
    · exact Or.inr (Or.inr (Or.inr (Or.inr (Or.inr (Or.inr (Or.inr (Or.inl c)))))))
  · have k1o : DyK n h1 o.2 := dk_t k13 r2
    rw [(k1o.2.2.2 (by omega)).2, b4.2.2] at ea
    rw [← Option.some.inj ea]
    exact ⟨b4.1, Nat.lt_of_lt_of_le b4.2.1 (Nat.le_trans F2.1 (Nat.le_trans F3.1 r3.1))⟩
theorem sv_246 {g : Hp} (hF : 700000 ≤ F) (E : LwE L N nk rk q) (z0 : hS g = 0) (kA : DyK n hA hA) (B : SfB n hA L N nk rk bk q tot) : ∀ (f : Nat) {h : Hp} {x3 x4 : Int32} {k : Nat}, DyK n g h → DyK n hA h → FrW (fun a _ => a = n + 596) hA h → x4.toInt = (k : Int) → k ≤ N → x3.toInt = (mbF nk q k : Int) → 2 * mbF nk q k ≤ 3000000 → (∀ k', k' < k → (hI h (n + 596) k').toInt = (mbF nk q k' : Int)) → hN h (n + 597) = 9376 → sX15_solve_246 F f h (n + 513) x3 x4 = some o → SvE n g hA L N nk rk bk q o := by
  have z1 : (1 : Int32).toInt = 1 := rfl
  have z2 : (2 : Int32).toInt = 2 := rfl
  have sA := dk_610 kA
  obtain ⟨⟨c1, c2, c3⟩, c4, c5, c6⟩ := id B
  intro f
  induction f with
  | zero => intro h x3 x4 k _ _ _ _ _ _ _ _ _ e; exact absurd e (by rw [sX15_solve_246]; exact fun z => nomatch z)
  | succ f ih =>
    intro h x3 x4 k kg kh Fr e4 kN e3 b3 ms l97 e
    rw [sX15_solve_246] at e
    have s6 := dk_610 kh
    have C1 := rlw_k kA kh Fr (fun j i hj z => by omega) c1
    have C2 := fmr_f kA Fr (fun j i hj z => by omega) c2
    have C3 : (hI h (n + 513) 13).toInt = (q : Int) := by rw [(Fr.2 (n + 513) 13 (by omega) (fun c => by omega)).1]; exact c3
    have C4 : (hI h (n + 513) 49).toInt = (N : Int) := by rw [(Fr.2 (n + 513) 49 (by omega) (fun c => by omega)).1]; exact c4
    have C5 : (hJ h (n + 513) 59).toInt = (tot : Int) := by rw [(Fr.2 (n + 513) 59 (by omega) (fun c => by omega)).2]; exact c5.1
    have R52 : hR h (n + 513) 52 = hR hA (n + 513) 52 := (kh.2.2.2 (by omega)).2
    rcases br_s e with ⟨c, e⟩ | ⟨c, e⟩
    · have c := le_i c
      rw [C4] at c
      have kk : k = N := by omega
      rw [kk] at ms e3 b3
      have Mb : ∀ {u : Hp}, (∀ i, hI u (n + 596) i = hI h (n + 596) i) → MbS n u N nk q (mbF nk q) (mbF nk q N) := fun eu => ⟨fun k' hk => ⟨by rw [eu]; exact ms k' hk, mbf_m hk⟩, fun j k' hj _ => mbf_m hj, by omega⟩
      have FA : FrW (WSv n hA) hA h := fw_s Fr (fun _ _ c => Or.inr (Or.inr (Or.inr (Or.inl c))))
      cases ok : hR h (n + 513) 52 with
      | some km =>
        rw [ok] at e
        have e : sX15_solve_304 F h (n + 513) x3 = some o := e
        have okA := ok
        rw [R52] at okA
        obtain ⟨m1, m2⟩ := c6 km okA
        exact sv_304 hF E kA kg FA ⟨⟨C1, C2, C3⟩, C4, ⟨C5, c5.2⟩, ⟨m1, Nat.lt_of_lt_of_le m2 Fr.1, ok⟩, Mb (fun _ => rfl)⟩ (Or.inl okA) l97 e3 e
      | none =>
        rw [ok] at e
        have e : (nm (hS h) fun a_4 => nm (nC h 18 (1500000 : Int32).toNatClampNeg (1500000 : Int32).toNatClampNeg) fun h_5 => sX15_solve_301 F h_5 (n + 513) x3 a_4 (n + 513)) = some o := e
        obtain ⟨a4, wa, e⟩ := nm_s e
        obtain ⟨h5, w5, e⟩ := nm_s e
        unfold sX15_solve_301 at e
        obtain ⟨h1, w1, e⟩ := nm_s e
        have k5 : DyK n g h5 := by rw [w5]; exact dk_nC kg
        have k1 : DyK n g h1 := by rw [w1]; exact dk_wZ k5 (by decide) (Or.inr z0)
        have k15 : DyK n hA h5 := by rw [w5]; exact dk_nC kh
        have hs5 : hS h5 = hS h + 1 := by rw [w5, nC_S]
        have hs1 : hS h1 = hS h + 1 := by rw [w1]; exact hs5
        have I5 : ∀ a i, a < hS h → hI h1 a i = hI h a i ∧ hJ h1 a i = hJ h a i := fun a i l => by
          have y1 : hI h1 a i = hI h5 a i := by rw [w1]; rfl
          have y2 : hJ h1 a i = hJ h5 a i := by rw [w1]; rfl
          rw [y1, y2, w5, nC_I, nC_J, if_neg (by omega), if_neg (by omega)]
          exact ⟨rfl, rfl⟩
        have Fh1 : FrW (fun _ _ => False) h h1 := ⟨by omega, fun a i l _ => I5 a i l⟩
        have ek : hR h1 (n + 513) 52 = some (hS h) := by rw [w1, wa, r_R, if_pos ⟨rfl, rfl⟩]
        have K1 := dk_self k1
        have F1 : FrW (WSv n hA) hA h1 := fw_t FA (fw_s Fh1 (fun _ _ c => c.elim))
        have rf : ∀ f, ¬ f = 52 → hR h1 (n + 513) f = hR h (n + 513) f := fun f hf => by rw [w1, r_R, if_neg (fun z => hf z.2), w5, nC_R, if_neg (by omega)]
        have D1 : RLw n h1 L := rlw_v kh k1 Fh1 (fun j i hj z => z) (rf 4 (by decide)) (rf 5 (by decide)) C1
        refine sv_304 (h1 := h1) (km := hS h) hF E kA k1 F1 ⟨⟨D1, fmr_f (dk_self kh) Fh1 (fun j i hj z => z) C2, by rw [(I5 (n + 513) 13 (by omega)).1]; exact C3⟩, by rw [(I5 (n + 513) 49 (by omega)).1]; exact C4, ⟨by rw [(I5 (n + 513) 59 (by omega)).2]; exact C5, c5.2⟩, ⟨by omega, by omega, ek⟩, Mb (fun i => (I5 (n + 596) i (by omega)).1)⟩ (Or.inr Fr.1) (by
          rw [w1]
          show hN h5 (n + 597) = 9376
          rw [w5, nC_N, if_neg (by omega)]
          exact l97) e3 e
    · have c := nle_i c
      rw [C4] at c
      have kN' : k < N := by omega
      obtain ⟨⟨a1, a2⟩, _⟩ := id C2
      obtain ⟨b1, b2, _, b4, b5⟩ := a2 k kN'
      have n4 : x4.toNatClampNeg = k := by have := nc_i (x := x4) (by omega); omega
      replace e := ce_e (dk_e (a := 513) (f := 53) (b := 596) kh (by decide +kernel)) e
      replace e := gg_e e
      obtain ⟨h8, w8, e⟩ := nm_s e
      rw [n4] at w8
      have k8 : DyK n hA h8 := by rw [w8]; exact dk_wI kh
      have k8g : DyK n g h8 := by rw [w8]; exact dk_wI kg
      have F8 : FrW (fun a _ => a = n + 596) hA h8 := by rw [w8]; exact fw_wI Fr rfl
      have q8 : (hI h8 (n + 513) 13).toInt = (q : Int) := by rw [w8, rI_a (by omega)]; exact C3
      have m8 : (hI h8 (n + 592) k).toInt = ((nk k : Nat) : Int) := by rw [w8, rI_a (by omega)]; exact b1.1
      obtain ⟨o9, e9, e⟩ := cl_s e
      unfold sX15_sizeOf at e9
      obtain ⟨p9, v9⟩ := szr_4 k8 E.2.2.1 E.2.2.2.1 q8 m8 (by omega) b2 e4 (by omega) F (i := 0) rfl (Nat.zero_le _) (by rw [Nat.pow_zero]; rfl) e9
      rw [p9] at e
      unfold sX15_solve_270 at e
      replace e := ce_e (dk_e (a := 513) (f := 46) (b := 592) k8 (by decide +kernel)) e
      replace e := gg_e e
      obtain ⟨v3, w3, e⟩ := nm_s e
      obtain ⟨v4, w4, e⟩ := nm_s e
      rw [n4] at w3
      have hd : (o9.1 / (2 : Int32)).toInt = ((q ^ nk k : Nat) : Int) := by
        rw [td (a := 0) (b := 600000) (c := 2) (d := 2) ⟨by omega, by omega⟩ ⟨by rw [z2]; decide, by rw [z2]; decide⟩ ⟨by decide, by decide⟩, v9, z2]
        omega
      have pq : q ^ nk k * nk k ≤ q ^ nk k * 5 := Nat.mul_le_mul_left _ b2
      have pe : ((q ^ nk k : Nat) : Int) * ((nk k : Nat) : Int) = ((nk k * q ^ nk k : Nat) : Int) := by rw [← Int.natCast_mul, Nat.mul_comm]
      have pc : nk k * q ^ nk k = q ^ nk k * nk k := Nat.mul_comm _ _
      have mu : ((o9.1 / (2 : Int32)) * hI h8 (n + 592) k).toInt = ((nk k * q ^ nk k : Nat) : Int) := by
        rw [tm (by rw [hd, m8, pe]; omega), hd, m8, pe]
      have mf : mbF nk q (k + 1) = mbF nk q k + nk k * q ^ nk k := rfl
      have bd : 2 * mbF nk q (k + 1) ≤ 3000000 := by
        have := mb_2 C2 kN'
        rw [mf]
        omega
      have y3 : v3.toInt = (mbF nk q (k + 1) : Int) := by
        rw [w3, ta (by rw [mu]; omega), mu, mf]; omega
      refine ih k8g k8 F8 (k := k + 1) (by rw [w4, ta (by rw [z1]; omega), z1]; omega) (by omega) y3 bd (fun k' hk' => ?_) (by rw [w8]; exact l97) e
      by_cases z : k' = k
      · rw [z, w8, rI_s]; exact e3
      · rw [w8, rI_o z]; exact ms k' (by omega)
end
end
section
/-! ENDINGS, the reference: the state of a board -/
section
variable {n F N q : Nat} {g h h0 : Hp} {nk : Nat → Nat} {rk : Nat → Nat → Int} {bk : Nat → Nat} {o : Int32 × Hp} {L : Nat → Nat → Int} {M : Nat → Int}
/-- how many men -/
def mnC (M : Nat → Int) (B : Nat) : Nat := sN (fun s => if 0 < M s then 1 else 0) B
theorem enb_n : ∀ (B : Nat), B ≤ 64 → ∃ n f, EnB M B n f ∧ n = mnC M B := by
  intro B
  induction B with
  | zero => intro _; exact ⟨0, fun _ => 0, ⟨fun i hi => absurd hi (Nat.not_lt_zero _), fun i hi => absurd hi (Nat.not_lt_zero _), fun s hs => absurd hs (Nat.not_lt_zero _)⟩, rfl⟩
  | succ B ih =>
    intro b64
    obtain ⟨n, f, ⟨a1, a2, a3⟩, nb⟩ := ih (by omega)
    have sc : mnC M (B + 1) = mnC M B + (if 0 < M B then 1 else 0) := rfl
    by_cases c : 0 < M B
    · have nx : ∀ i, i < n → ¬ f i = 64 * M B + (B : Int) := fun i hi z => by
        obtain ⟨s, sb, _, e⟩ := a2 i hi
        omega
      obtain ⟨p, pn, l, r⟩ := ins_x a1 nx
      obtain ⟨r1, r2, r3⟩ := ins_r (f := f) (x := 64 * M B + (B : Int)) pn
      refine ⟨n + 1, inFx f p (64 * M B + (B : Int)), ⟨ins_s a1 pn l r, fun i hi => ?_, fun s hs m => ?_⟩, by rw [sc, if_pos c, nb]⟩
      · rcases r1 i hi with e | ⟨j, hj, e⟩
        · exact ⟨B, Nat.lt_succ_self _, c, e⟩
        · obtain ⟨s, sb, m, es⟩ := a2 j hj
          exact ⟨s, by omega, m, e.trans es⟩
      · by_cases z : s = B
        · obtain ⟨i, hi, e⟩ := r2
          exact ⟨i, hi, by rw [e, z]⟩
        · obtain ⟨j, hj, es⟩ := a3 s (by omega) m
          obtain ⟨i, hi, e⟩ := r3 j hj
          exact ⟨i, hi, e.trans es⟩
    · refine ⟨n, f, ⟨a1, fun i hi => ?_, fun s hs m => ?_⟩, by rw [sc, if_neg c, nb]; rfl⟩
      · obtain ⟨s, sb, m, es⟩ := a2 i hi
        exact ⟨s, by omega, m, es⟩
      · by_cases z : s = B
        · rw [z] at m; exact absurd m c
        · exact a3 s (by omega) m
theorem enu_n {m : Nat} {f : Nat → Int} (E : EnU M m f) : m = mnC M 64 := by
  obtain ⟨n', f', E', e⟩ := enb_n (M := M) 64 (Nat.le_refl _)
  rw [← e]
  exact (enu_u E E').1
theorem mnc_m : ∀ {a b : Nat}, a ≤ b → mnC M a ≤ mnC M b := by
  intro a b h
  induction b with
  | zero => have : a = 0 := by omega
            rw [this]; exact Nat.le_refl _
  | succ b ih =>
    by_cases c : a = b + 1
    · rw [c]; exact Nat.le_refl _
    · have := ih (by omega)
      have e : mnC M (b + 1) = mnC M b + (if 0 < M b then 1 else 0) := rfl
      omega
/-- men of squares below s, in the row -/
def SobI (n : Nat) (h : Hp) (M : Nat → Int) (s c : Nat) : Prop := c = mnC M s ∧ (∀ a, a < c → ∃ s' : Nat, s' < s ∧ 0 < M s' ∧ (hI h (n + 600) a).toInt = M s' ∧ (hI h (n + 601) a).toInt = (s' : Int)) ∧ (∀ s', s' < s → 0 < M s' → ∃ a, a < c ∧ (hI h (n + 600) a).toInt = M s' ∧ (hI h (n + 601) a).toInt = (s' : Int)) ∧ ∀ a b, a < b → b < c → (hI h (n + 601) a).toInt < (hI h (n + 601) b).toInt
theorem ndo_5 (q0 : 0 < q) (q64 : q ≤ 64) (Fm : Fam L N nk rk) {k num : Nat} (O : NdO N nk rk q M k num) : mnC M 64 ≤ 5 := by
  have R := Fm.1 k O.1
  have E := enu_l q0 q64 R O.2.2.1
  have E2 : EnU M (nk k) (fun i => 64 * rk k i + (sqi q num i : Int)) := by
    refine ⟨E.1, fun i hi => ?_, fun s hs ms => ?_⟩
    · obtain ⟨s, a, b, c⟩ := E.2.1 i hi
      exact ⟨s, a, by rw [← O.2.2.2 s a]; exact b, by rw [← O.2.2.2 s a]; exact c⟩
    · rw [← O.2.2.2 s hs] at ms ⊢
      exact E.2.2 s hs ms
  rw [← enu_n E2]
  exact R.1
theorem sob_4 {b : Nat} {P : Pz} (hF : 700000 ≤ F) (k0 : DyK n h0 h0) (q0 : 0 < q) (q64 : q ≤ 64) (eq : (q : Int) = L 0 0 * L 1 0) (eq13 : (hI h0 (n + 513) 13).toInt = (q : Int)) (S : FmR n h0 N nk rk bk q) (Fm : Fam L N nk rk) (H : LOk L) (Oz : PzOk L P) (b6 : n + 610 ≤ b ∧ b + 5 ≤ hS h0) (eb : hR h0 b 0 = some (b + 1)) (A : RbA h0 b P) : ∀ (f : Nat) {h : Hp} {x2 x3 : Int32} {s c : Nat}, DyK n g h → DyK n h0 h → FrW (WSo n) h0 h → (∀ a i, hR h a i = hR h0 a i) → SobI n h P.1 s c → x2.toInt = (c : Int) → c ≤ 5 → x3.toInt = (s : Int) → s ≤ q → sX15_stateOfBoard_4 F f h (n + 513) b x2 x3 = some o → FrW (WSo n) h0 o.2 ∧ DyK n g o.2 ∧ DyK n h0 o.2 ∧ StA n N nk rk bk q (pzS P) P.1 o.1 := by
  have z1 : (1 : Int32).toInt = 1 := rfl
  have z5 : (5 : Int32).toInt = 5 := rfl
  have z0 : (0 : Int32).toInt = 0 := rfl
  have s0 := dk_610 k0
  have L2 := H.2.2.1
  have HM := Oz.1
  have out : ∀ x, x < 64 → 0 < P.1 x → x < q := fun x hx m => by
    have := ((HM x hx).2 m).1
    omega
  intro f
  induction f with
  | zero => intro h x2 x3 s c _ _ _ _ _ _ _ _ _ e; exact absurd e (by rw [sX15_stateOfBoard_4]; exact fun z => nomatch z)
  | succ f ih =>
    intro h x2 x3 s c kg kh Fr hr I e2 c5 e3 sq e
    rw [sX15_stateOfBoard_4] at e
    have s6 := dk_610 kh
    have q13 : (hI h (n + 513) 13).toInt = (q : Int) := by rw [(Fr.2 (n + 513) 13 (by omega) (fun c => by unfold WSo at c; omega)).1]; exact eq13
    have bI : ∀ j i, j < 5 → hI h (b + j) i = hI h0 (b + j) i := fun j i hj => (Fr.2 _ _ (by omega) (fun c => by unfold WSo at c; omega)).1
    have nonx : ∀ x, 0 ≤ (if x < 64 then P.1 x else 0) := fun x => by
      split
      · rename_i c; exact (HM x c).1
      · omega
    rcases br_s e with ⟨d, e⟩ | ⟨d, e⟩
    · have d := le_i d
      rw [q13] at d
      have se : s = q := by omega
      rw [se] at I
      obtain ⟨o2, e2', e⟩ := cl_s e
      have oe : o = o2 := by rw [so_e e]
      have S' := fmr_f k0 Fr (fun j i hj c => by unfold WSo at c; omega) S
      have sv : (hI h b 1).toInt = (pzS P : Int) := by
        have := bI 0 1 (by decide)
        rw [Nat.add_zero] at this
        rw [this]
        exact A.2.2.1
      have B : RwB n h c := fun a ha => by
        obtain ⟨s', l, m, r1, r2⟩ := I.2.1 a ha
        have := (HM s' (by omega)).2 m
        rw [r1, r2]
        exact ⟨⟨by omega, by omega⟩, by omega, by omega⟩
      obtain ⟨r1, r2, r3, r4⟩ := sof_k (g := g) (M := fun x => if x < 64 then P.1 x else 0) hF (dk_self kh) kg q0 q64 eq q13 S' Fm (fun x hx => by
        show 0 ≤ (if x < 64 then P.1 x else 0) ∧ (0 < (if x < 64 then P.1 x else 0) → (x : Int) < L 0 0 * L 1 0 ∧ (if x < 64 then P.1 x else 0) ≤ 2 * L 2 0)
        rw [if_pos hx]; exact HM x hx) nonx c5 e2 sv Oz.2.2.1 B (fun a b' ab hb z => by
        have := I.2.2.2 a b' ab hb
        have ba := B a (by omega)
        have bb := B b' hb
        have z : 64 * (hI h (n + 600) a).toInt + (hI h (n + 601) a).toInt = 64 * (hI h (n + 600) b').toInt + (hI h (n + 601) b').toInt := z
        omega) (fun a ha => by
        obtain ⟨s', l, m, r1, r2⟩ := I.2.1 a ha
        rw [r1, r2]
        show (if ((s' : Int)).toNat < 64 then P.1 ((s' : Int)).toNat else 0) = P.1 s'
        rw [show ((s' : Int)).toNat = s' by omega, if_pos (by omega)]) (fun x hx m => by
        have m : 0 < (if x < 64 then P.1 x else 0) := m
        rw [if_pos hx] at m
        obtain ⟨a, ha, r1, r2⟩ := I.2.2.1 x (out x hx m) m
        refine ⟨a, ha, ?_⟩
        show 64 * (hI h (n + 600) a).toInt + (hI h (n + 601) a).toInt = 64 * (if x < 64 then P.1 x else 0) + (x : Int)
        rw [if_pos hx, r1, r2]) e2'
      rw [oe]
      refine ⟨fw_t Fr r1, r2, dk_t kh r3, ?_⟩
      have ev : ∀ x, x < 64 → (if x < 64 then P.1 x else 0) = P.1 x := fun x hx => if_pos hx
      rcases r4 with ⟨z, w⟩ | ⟨k, num, O, z⟩
      · exact Or.inl ⟨z, fun k num O => w k num (ndo_e (fun x hx => (ev x hx).symm) O)⟩
      · exact Or.inr ⟨k, num, ndo_e ev O, z⟩
    · have d := nle_i d
      rw [q13] at d
      have sl : s < q := by omega
      have n3 : x3.toNatClampNeg = s := by have := nc_i (x := x3) (by omega); omega
      have n2 : x2.toNatClampNeg = c := by have := nc_i (x := x2) (by omega); omega
      have mv : (hI h (b + 1) s).toInt = P.1 s := by rw [bI 1 s (by decide)]; exact A.2.1 s (by omega)
      have ebh : hR h b 0 = some (b + 1) := by rw [hr]; exact eb
      have sc : mnC P.1 (s + 1) = mnC P.1 s + (if 0 < P.1 s then 1 else 0) := rfl
      have y31 : (x3 + (1 : Int32)).toInt = ((s + 1 : Nat) : Int) := by rw [ta (by rw [z1]; omega), z1]; omega
      replace e := ce_e ebh e
      replace e := gg_e e
      unfold sX15_stateOfBoard_50 at e
      rcases br_s e with ⟨d1, e⟩ | ⟨d1, e⟩ <;> rw [n3] at d1
      · have d1 := le_i d1
        rw [mv, z0] at d1
        have nm' : ¬ 0 < P.1 s := by omega
        refine ih kg kh Fr hr (s := s + 1) (c := c) ⟨by rw [sc, if_neg nm']; exact I.1, fun a ha => ?_, fun s' hs' m => ?_, I.2.2.2⟩ e2 c5 y31 (by omega) (nx_e e)
        · obtain ⟨s', l, r⟩ := I.2.1 a ha
          exact ⟨s', by omega, r⟩
        · by_cases z : s' = s
          · rw [z] at m; exact absurd m nm'
          · exact I.2.2.1 s' (by omega) m
      · have d1 := nle_i d1
        rw [mv, z0] at d1
        rcases br_s e with ⟨d2, e⟩ | ⟨d2, e⟩
        · have c55 : c = 5 := by
            have := congrArg Int32.toInt d2
            rw [e2, z5] at this
            omega
          rw [so_e e]
          refine ⟨Fr, kg, kh, Or.inl ⟨rfl, fun k num O => ?_⟩⟩
          have a := ndo_5 q0 q64 Fm O
          have b := mnc_m (M := P.1) (show s + 1 ≤ 64 by omega)
          have c' := I.1
          rw [sc, if_pos d1] at b
          omega
        · have c4 : c < 5 := by
            apply Classical.byContradiction
            intro z
            exact d2 (Int32.toInt_inj.mp (by rw [e2, z5]; omega))
          replace e := ce_e (dk_e (a := 513) (f := 57) (b := 600) kh (by decide +kernel)) e
          replace e := ce_e ebh e
          replace e := gg_e e
          replace e := gg_e e
          obtain ⟨h11, w11, e⟩ := nm_s e
          rw [n2, n3] at w11
          have k11 : DyK n h0 h11 := by rw [w11]; exact dk_wI kh
          replace e := ce_e (dk_e (a := 513) (f := 58) (b := 601) k11 (by decide +kernel)) e
          replace e := gg_e e
          obtain ⟨h14, w14, e⟩ := nm_s e
          obtain ⟨v15, w15, e⟩ := nm_s e
          rw [n2] at w14
          have e14 : h14 = wI (wI h (n + 600) c (hI h (b + 1) s)) (n + 601) c x3 := by rw [w14, w11]
          have c0 : ∀ a, ¬ a = c → hI h14 (n + 600) a = hI h (n + 600) a := fun a z => by rw [e14, rI_a (by omega), rI_o z]
          have c1 : ∀ a, ¬ a = c → hI h14 (n + 601) a = hI h (n + 601) a := fun a z => by rw [e14, rI_o z, rI_a (by omega)]
          have m0 : hI h14 (n + 600) c = hI h (b + 1) s := by rw [e14, rI_a (by omega), rI_s]
          have m1 : hI h14 (n + 601) c = x3 := by rw [e14, rI_s]
          refine ih (by rw [e14]; exact dk_wI (dk_wI kg)) (by rw [e14]; exact dk_wI (dk_wI kh)) (by rw [e14]; exact fw_wI (fw_wI Fr (Or.inl rfl)) (Or.inr rfl)) (fun a i => by rw [e14]; exact hr a i) (s := s + 1) (c := c + 1) ⟨by rw [sc, if_pos d1]; have := I.1; omega, fun a ha => ?_, fun s' hs' m => ?_, fun a b' ab hb => ?_⟩ (by rw [w15, ta (by rw [z1]; omega), z1]; omega) (by omega) y31 (by omega) (nx_e e)
          · by_cases z : a = c
            · rw [z, m0, m1]; exact ⟨s, Nat.lt_succ_self _, d1, mv, e3⟩
            · rw [c0 a z, c1 a z]
              obtain ⟨s', l, r⟩ := I.2.1 a (by omega)
              exact ⟨s', by omega, r⟩
          · by_cases z : s' = s
            · rw [z]; exact ⟨c, Nat.lt_succ_self _, by rw [m0]; exact mv, by rw [m1]; exact e3⟩
            · obtain ⟨a, ha, r1, r2⟩ := I.2.2.1 s' (by omega) m
              exact ⟨a, by omega, by rw [c0 a (by omega)]; exact r1, by rw [c1 a (by omega)]; exact r2⟩
          · by_cases z : b' = c
            · rw [z, m1, c1 a (by omega)]
              obtain ⟨s', l, _, _, r⟩ := I.2.1 a (by omega)
              rw [r, e3]; omega
            · rw [c1 a (by omega), c1 b' z]
              exact I.2.2.2 a b' ab (by omega)
end
end
section
/-! ENDINGS, the reference: worth, tally -/
section
variable {n j F N q : Nat} {g h : Hp} {nk : Nat → Nat} {rk : Nat → Nat → Int} {bk : Nat → Nat} {o : Int32 × Hp} {σ : Sy} {x1 x2 : Int32}
/-- the reference has a table -/
def REn (n : Nat) (h : Hp) (N : Nat) (nk : Nat → Nat) (rk : Nat → Nat → Int) (bk : Nat → Nat) (q : Nat) : Prop := 1 ≤ N ∧ FmR n h N nk rk bk q ∧ (hI h (n + 513) 50).toInt = (N : Int)
/-- what worth answers, by a table T -/
def WtA (L : Nat → Nat → Int) (N : Nat) (nk : Nat → Nat) (rk : Nat → Nat → Int) (q : Nat) (T : Nod → Int) (P : Pz) (a : Int) : Prop := (a = -103 ∧ ∀ k num, ¬ NdO N nk rk q P.1 k num) ∨ ∃ k num, NdO N nk rk q P.1 k num ∧ a = 2000000 + T (k, num, pzS P)
theorem raw_k (hF : 700000 ≤ F) (k : DyK n h h) (Ok : SyOk σ) (R : RelR n j h σ) (E : LwE (syL σ) N nk rk q) (En : REn n h N nk rk bk q) (eq13 : (hI h (n + 513) 13).toInt = (q : Int)) (rg : ∀ ν, NdA N nk q ν → -1000000 ≤ TbR n h bk ν ∧ TbR n h bk ν ≤ 3000000) (e : sX15_worth F h (n + 513) x1 = some o) : FrW (WSo n) h o.2 ∧ DyK n h o.2 ∧ ((sPl σ x1 = none ∧ o.1.toInt = -102) ∨ ∃ P, sPl σ x1 = some P ∧ WtA (syL σ) N nk rk q (TbR n h bk) P o.1.toInt) := by
  have z2 : (2000000 : Int32).toInt = 2000000 := rfl
  have zm : (-1 : Int32).toInt = -1 := rfl
  have s6 := dk_610 k
  unfold sX15_worth at e
  obtain ⟨o1, e1, e⟩ := cl_s e
  obtain ⟨q1, c1⟩ := has_r k R.2.1 e1
  rw [q1] at e
  rcases c1 with ⟨d1, d2⟩ | ⟨d1, P0, d2⟩
  · rw [so_e (bp_e d1 e)]
    exact ⟨fw_0, k, Or.inl ⟨d2, rfl⟩⟩
  replace e := bn_e d1 e
  replace e := bn_e (fun z => by
    have := En.2.2
    rw [z] at this
    have zz : (0 : Int32).toInt = 0 := rfl
    have := En.1
    omega) e
  obtain ⟨_, _, b3, _⟩ := spl_b d2
  obtain ⟨b, eb, A⟩ := rpl_p R.2.1 d2
  have Oz := spl_ok Ok d2
  replace e := ce_e (dk_e (a := 513) (f := 14) (b := 536) k (by decide +kernel)) e
  replace e := gg_e e
  replace e := ce_e eb e
  obtain ⟨o7, e7, e⟩ := cl_s e
  obtain ⟨own, Dw⟩ := k.1.1
  obtain ⟨blo, bbk, bT⟩ := bk_dy Dw (q := (536, 60, 5, 4000, fsB)) (by decide) b3 eb
  obtain ⟨blo', bhi⟩ := dy_lo k (q := (536, 60, 5, 4000, fsB)) (by decide) b3 eb
  unfold sX15_stateOfBoard at e7
  obtain ⟨f7, _, k7, sa⟩ := sob_4 (g := h) hF k E.2.2.1 E.2.2.2.1 E.2.2.2.2 eq13 En.2.1 E.2.1 Ok.1.1 Oz ⟨blo', bhi⟩ (bT (0, 1) (by decide)) A F (s := 0) (c := 0) k k fw_0 (fun _ _ => rfl) ⟨rfl, fun a ha => absurd ha (Nat.not_lt_zero _), fun a ha => absurd ha (Nat.not_lt_zero _), fun a b _ hb => absurd hb (Nat.not_lt_zero _)⟩ rfl (Nat.zero_le _) rfl (Nat.zero_le _) e7
  unfold sX15_worth_32 sX15_worth_53 at e
  rcases sa with ⟨s1, s2⟩ | ⟨kk, num, O, ev⟩
  · rw [so_e (bp_e s1 e)]
    exact ⟨f7, k7, Or.inr ⟨P0, d2, Or.inl ⟨rfl, s2⟩⟩⟩
  · replace e := bn_e (fun z => by rw [z, zm] at ev; omega) e
    replace e := ce_e (dk_e (a := 513) (f := 51) (b := 595) k7 (by decide +kernel)) e
    replace e := gg_e e
    have n7 : o7.1.toNatClampNeg = bk kk + 2 * num + pzS P0 := by have := nc_i (x := o7.1) (by omega); omega
    have tv : hI o7.2 (n + 595) o7.1.toNatClampNeg = hI h (n + 595) (bk kk + 2 * num + pzS P0) := by
      rw [n7]
      exact (f7.2 (n + 595) _ (by omega) (fun c => by unfold WSo at c; omega)).1
    have r := rg (kk, num, pzS P0) ⟨O.1, O.2.1, Oz.2.2.1⟩
    have r : -1000000 ≤ (hI h (n + 595) (bk kk + 2 * num + pzS P0)).toInt ∧ (hI h (n + 595) (bk kk + 2 * num + pzS P0)).toInt ≤ 3000000 := r
    rw [so_e e]
    refine ⟨f7, k7, Or.inr ⟨P0, d2, Or.inr ⟨kk, num, O, ?_⟩⟩⟩
    show ((2000000 : Int32) + hI o7.2 (n + 595) o7.1.toNatClampNeg).toInt = 2000000 + (hI h (n + 595) (bk kk + 2 * num + pzS P0)).toInt
    rw [tv, ta (by rw [z2]; omega), z2]
/-- how many of a side have a worth -/
def tlC (T : Nod → Int) (sd : Nat) (w : Int) (m : Nat) : Nat := sN (fun num => if T (0, num, sd) = w then 1 else 0) m
theorem tal_48 (k : DyK n h h) (En : REn n h N nk rk bk q) {sd : Nat} {x4 : Int32} (e4 : x4.toInt = ((2 * q ^ nk 0 : Nat) : Int)) : ∀ (f : Nat) {x3 x5 : Int32} {m : Nat}, x5.toInt = ((2 * m + sd : Nat) : Int) → sd < 2 → m ≤ q ^ nk 0 → x3.toInt = (tlC (TbR n h bk) sd x2.toInt m : Int) → tlC (TbR n h bk) sd x2.toInt m ≤ m → sX15_tally_48 F f h (n + 513) x2 x3 x4 x5 = some o → o.2 = h ∧ o.1.toInt = (tlC (TbR n h bk) sd x2.toInt (q ^ nk 0) : Int) := by
  have z1 : (1 : Int32).toInt = 1 := rfl
  have z2 : (2 : Int32).toInt = 2 := rfl
  have z0 : (0 : Int32).toInt = 0 := rfl
  obtain ⟨N1, ⟨⟨a1, a2⟩, _⟩, _⟩ := id En
  obtain ⟨b1, b2, b3, b4, b5⟩ := a2 0 (by omega)
  intro f
  induction f with
  | zero => intro x3 x5 m _ _ _ _ _ e; exact absurd e (by rw [sX15_tally_48]; exact fun z => nomatch z)
  | succ f ih =>
    intro x3 x5 m e5 sd2 ml e3 tl e
    rw [sX15_tally_48] at e
    rcases br_s e with ⟨c, e⟩ | ⟨c, e⟩
    · have c := le_i c
      have : m = q ^ nk 0 := by omega
      rw [so_e e, ← this]
      exact ⟨rfl, e3⟩
    · have c := nle_i c
      have ml' : m < q ^ nk 0 := by omega
      replace e := ce_e (dk_e (a := 513) (f := 51) (b := 595) k (by decide +kernel)) e
      replace e := ce_e (dk_e (a := 513) (f := 48) (b := 594) k (by decide +kernel)) e
      replace e := gg_e e
      replace e := gg_e e
      have zz : (0 : Int32).toNatClampNeg = 0 := rfl
      rw [zz] at e
      have v : (hI h (n + 594) 0 + x5).toInt = ((bk 0 + 2 * m + sd : Nat) : Int) := by rw [ta (by rw [b4]; omega), b4]; omega
      have nv : (hI h (n + 594) 0 + x5).toNatClampNeg = bk 0 + 2 * m + sd := by have := nc_i (x := hI h (n + 594) 0 + x5) (by omega); omega
      rw [nv] at e
      have sc : tlC (TbR n h bk) sd x2.toInt (m + 1) = tlC (TbR n h bk) sd x2.toInt m + (if TbR n h bk (0, m, sd) = x2.toInt then 1 else 0) := rfl
      have tb : TbR n h bk (0, m, sd) = (hI h (n + 595) (bk 0 + 2 * m + sd)).toInt := rfl
      have y5 : (x5 + (2 : Int32)).toInt = ((2 * (m + 1) + sd : Nat) : Int) := by rw [ta (by rw [z2]; omega), z2]; omega
      unfold sX15_tally_79 at e
      rcases br_s e with ⟨c1, e⟩ | ⟨c1, e⟩
      · have eq : TbR n h bk (0, m, sd) = x2.toInt := by rw [tb, c1]
        rw [if_pos eq] at sc
        exact ih y5 sd2 (by omega) (by rw [ta (by rw [z1]; omega), z1, sc]; omega) (by omega) (nx_e (nx_e e))
      · have eq : ¬ TbR n h bk (0, m, sd) = x2.toInt := fun z => c1 (Int32.toInt_inj.mp (by rw [← tb]; exact z))
        rw [if_neg eq] at sc
        exact ih y5 sd2 (by omega) (by rw [ta (by rw [z0]; omega), z0, sc]; omega) (by omega) (nx_e (nx_e e))
end
end
section
/-! ENDINGS, the class: keys of SETS -/
def KeyR (x : Int32) (row : Nat → Int) (m : Nat) : Prop := m ≤ 5 ∧ (∀ i, i < m → 1 ≤ row i ∧ row i ≤ 24) ∧ x.toInt = K5 (fun i => if i < m then row i else 0)
section
variable {F m : Nat} {h : Hp} {x x1 : Int32} {row : Nat → Int} {o : Int32 × Hp}
theorem key_24 (K : KeyR x row m) : D24 (fun i => if i < m then row i else 0) := by
  intro i
  show 0 ≤ (if i < m then row i else 0) ∧ (if i < m then row i else 0) ≤ 24
  split
  · rename_i c
    have := K.2.1 i c
    omega
  · omega
theorem key_0 (K : KeyR x row m) : 0 ≤ x.toInt := by
  have g := key_24 K
  have g0 := g 0
  have g1 := g 1
  have g2 := g 2
  have g3 := g 3
  have g4 := g 4
  rw [K.2.2]
  unfold K5
  omega
theorem kci_x {i : Nat} (K : KeyR x row m) (e1 : x1.toInt = (i : Int)) (i5 : i < 5) (e : sX0_codeIn h x x1 = some o) : o.2 = h ∧ o.1.toInt = (if i < m then row i else 0) - 1 := by
  have z1 : (1 : Int32).toInt = 1 := rfl
  unfold sX0_codeIn at e
  have n1 : x1.toNatClampNeg = i := by have := nc_i (x := x1) (by omega); omega
  have d := dig_k (key_24 K) K.2.2 (s := x1) ⟨by omega, by omega⟩
  rw [n1] at d
  have d : ((x >>> (((5 : Int32) * x1) &&& 31)) &&& (31 : Int32)).toInt = (if i < m then row i else 0) := d
  have g : 0 ≤ (if i < m then row i else 0) ∧ (if i < m then row i else 0) ≤ 24 := key_24 K i
  generalize (if i < m then row i else 0) = y at d g ⊢
  rw [so_e e]
  refine ⟨rfl, ?_⟩
  show (((x >>> (((5 : Int32) * x1) &&& 31)) &&& (31 : Int32)) - (1 : Int32)).toInt = _
  rw [ts (by rw [d, z1]; omega), d, z1]
theorem ksz_v (K : KeyR x row m) : szI x.toInt = m := by
  obtain ⟨m5, r, e⟩ := K
  have p : ∀ i, i < m → 1 ≤ row i ∧ row i ≤ 24 := r
  rw [e]
  unfold K5
  have c : m = 0 ∨ m = 1 ∨ m = 2 ∨ m = 3 ∨ m = 4 ∨ m = 5 := by omega
  rcases c with c | c | c | c | c | c <;> subst c <;> simp only [show ∀ a b : Nat, (a < b) = (a < b) from fun _ _ => rfl] <;> unfold szI
  · rfl
  · have := p 0 (by decide)
    show (if (row 0 + 32 * 0 + 1024 * 0 + 32768 * 0 + 1048576 * 0) % 32 = 0 then 0 else _) = 1
    rw [if_neg (by omega), if_pos (by omega)]
  · have := p 0 (by decide)
    have := p 1 (by decide)
    show (if (row 0 + 32 * row 1 + 1024 * 0 + 32768 * 0 + 1048576 * 0) % 32 = 0 then 0 else _) = 2
    rw [if_neg (by omega), if_neg (by omega), if_pos (by omega)]
  · have := p 0 (by decide)
    have := p 1 (by decide)
    have := p 2 (by decide)
    show (if (row 0 + 32 * row 1 + 1024 * row 2 + 32768 * 0 + 1048576 * 0) % 32 = 0 then 0 else _) = 3
    rw [if_neg (by omega), if_neg (by omega), if_neg (by omega), if_pos (by omega)]
  · have := p 0 (by decide)
    have := p 1 (by decide)
    have := p 2 (by decide)
    have := p 3 (by decide)
    show (if (row 0 + 32 * row 1 + 1024 * row 2 + 32768 * row 3 + 1048576 * 0) % 32 = 0 then 0 else _) = 4
    rw [if_neg (by omega), if_neg (by omega), if_neg (by omega), if_neg (by omega), if_pos (by omega)]
  · have := p 0 (by decide)
    have := p 1 (by decide)
    have := p 2 (by decide)
    have := p 3 (by decide)
    have := p 4 (by decide)
    show (if (row 0 + 32 * row 1 + 1024 * row 2 + 32768 * row 3 + 1048576 * row 4) % 32 = 0 then 0 else _) = 5
    rw [if_neg (by omega), if_neg (by omega), if_neg (by omega), if_neg (by omega), if_neg (by omega)]
theorem ksz_x (hF : 700000 ≤ F) (K : KeyR x row m) (e : sX0_sizeOf F h x = some o) : o.2 = h ∧ o.1.toInt = (m : Int) := by
  obtain ⟨o', e', a, b⟩ := size_q (F := F) (h := h) hF (key_0 K)
  rw [e] at e'
  have oo := Option.some.inj e'
  rw [← oo] at a b
  refine ⟨a, ?_⟩
  rw [b, ksz_v K]
  have := K.1
  exact z_toInt (by omega)
end
end
section
/-! ENDINGS, the class: men are taken off its board -/
/-- a board whose ROYAL squares hold men of their side, whatever RULES they were laid under -/
def EbW (h : Hp) (p : Nat) (M : Nat → Int) : Prop := (∀ s, s < 64 → (hI h (p + 1) s).toInt = M s - 1) ∧ (∀ d, d < 2 → Bts (hJ h (p + 2) d) M d) ∧ (∀ d : Nat, d < 2 → hI h (p + 3) d = (-1 : Int32) ∨ (Rg 0 63 (hI h (p + 3) d) ∧ 0 < M (hI h (p + 3) d).toNatClampNeg ∧ (M (hI h (p + 3) d).toNatClampNeg - 1) % 2 = (d : Int))) ∧ ∀ s, s < 64 → 0 ≤ M s ∧ M s ≤ 24
section
variable {p : Nat} {h o : Hp} {M : Nat → Int} {x1 x3 : Int32} {s : Nat}
def WEb (p a i : Nat) : Prop := a = p + 1 ∨ a = p + 2 ∨ a = p + 3 ∨ (a = p ∧ i = 7)
theorem ebw_rm (e0 : hR h p 0 = some (p + 1)) (e1 : hR h p 1 = some (p + 2)) (e2 : hR h p 2 = some (p + 3)) (B : EbW h p M) (ex : x1.toInt = (s : Int)) (s64 : s < 64) (ms : 0 < M s) (e : sX3_put h p x1 (-1 : Int32) x3 = some o) : EbW o p (updM M s 0) ∧ FrW (WEb p) h o ∧ (∀ a i, hR o a i = hR h a i) := by
  have z0 : (0 : Int32).toInt = 0 := rfl
  have z64 : (64 : Int32).toInt = 64 := rfl
  obtain ⟨b1, b2, b3, b4⟩ := B
  have n1 : x1.toNatClampNeg = s := by have := nc_i (x := x1) (by omega); omega
  have r1 : Rg 0 63 x1 := ⟨by omega, by omega⟩
  have m24 := b4 s s64
  have v := b1 s s64
  unfold sX3_put at e
  replace e := bn_e (fun z => by have := lt_i z; omega) e
  replace e := bp_e (Int32.lt_iff_toInt_lt.mpr (by rw [z64]; omega)) e
  obtain ⟨v3, w3, e⟩ := nm_s e
  replace e := ce_e e0 e
  replace e := gg_e e
  obtain ⟨v6, w6, e⟩ := nm_s e
  rw [n1] at w6
  have y6 : v6.toInt = M s - 1 := by rw [w6]; exact v
  replace e := bn_e (fun z => by have := lt_i z; omega) e
  have sd : (v6 &&& (1 : Int32)).toInt = (M s - 1) % 2 := by rw [and1_i (by omega), y6]
  obtain ⟨d, hd⟩ : ∃ d : Nat, (v6 &&& (1 : Int32)).toNatClampNeg = d := ⟨_, rfl⟩
  have nd := nc_i (x := v6 &&& (1 : Int32)) (by omega)
  have dv : (d : Int) = (M s - 1) % 2 := by omega
  have d2 : d < 2 := by omega
  replace e := ce_e e1 e
  replace e := gg_e e
  replace e := gg_e e
  obtain ⟨h11, w11, e⟩ := nm_s e
  rw [hd] at w11
  have R11 : ∀ a i, hR h11 a i = hR h a i := fun a i => by rw [w11]; rfl
  replace e := ce_e (by rw [R11]; exact e2) e
  replace e := gg_e e
  -- what put writes last
  have fin : ∀ {u : Hp}, (∀ a i, hR u a i = hR h a i) → FrW (WEb p) h u → (∀ i, hI u (p + 1) i = hI h (p + 1) i) → (∀ i, hJ u (p + 2) i = hJ h11 (p + 2) i) → (∀ e, e < 2 → hI u (p + 3) e = (-1 : Int32) ∨ (hI u (p + 3) e = hI h (p + 3) e ∧ ¬ (e = d ∧ hI h (p + 3) e = x1))) → sX3_put_70 u p x1 (-1 : Int32) x3 v3 = some o → EbW o p (updM M s 0) ∧ FrW (WEb p) h o ∧ (∀ a i, hR o a i = hR h a i) := fun {u} Ru Fu i1 j2 r3 e => by
    unfold sX3_put_70 sX3_put_111 at e
    replace e := ce_e (by rw [Ru]; exact e0) e
    replace e := gg_e e
    obtain ⟨h3, u3, e⟩ := nm_s e
    rw [n1] at u3
    replace e := bp_e (by decide) e
    have eo := so_e (nx_e e)
    have on : ∀ i, hI o (p + 1) i = if i = s then (-1 : Int32) else hI h (p + 1) i := fun i => by
      rw [eo]
      show hI h3 (p + 1) i = _
      rw [u3, r_I]
      by_cases z : i = s
      · rw [if_pos ⟨rfl, z⟩, if_pos z]; decide
      · rw [if_neg (fun y => z y.2), if_neg z, i1]
    have of : ∀ i, hJ o (p + 2) i = hJ h11 (p + 2) i := fun i => by
      rw [eo, r_J, if_neg (fun z => by omega), u3]
      exact j2 i
    have ra : ∀ i, hI o (p + 3) i = hI u (p + 3) i := fun i => by
      rw [eo]
      show hI h3 (p + 3) i = _
      rw [u3, rI_a (by omega)]
    refine ⟨⟨fun x hx => ?_, fun f hf => ?_, fun f hf => ?_, fun x hx => ?_⟩, ?_, fun a i => by rw [eo, u3]; exact Ru a i⟩
    · rw [on]
      show _ = (if x = s then 0 else M x) - 1
      by_cases z : x = s
      · rw [if_pos z, if_pos z]; rfl
      · rw [if_neg z, if_neg z]; exact b1 x hx
    · rw [of]
      intro x hx
      show _ ↔ (0 < (if x = s then 0 else M x) ∧ ((if x = s then 0 else M x) - 1) % 2 = (f : Int))
      have old := b2 f hf x hx
      by_cases fd : f = d
      · have e11 : hJ h11 (p + 2) f = hJ h (p + 2) d &&& (v3 ^^^ (-1 : Int64)) := by rw [w11, r_J, if_pos ⟨rfl, fd⟩]
        rw [e11, bj_and, bj_not _ hx, w3, bj_one r1, n1]
        rw [fd] at old
        by_cases z : x = s
        · rw [if_pos z, decide_eq_true z.symm]
          exact ⟨(fun y => absurd y (by rw [Bool.not_true, Bool.and_false]; decide)), fun y => absurd y.1 (by decide)⟩
        · rw [if_neg z, decide_eq_false (fun y => z y.symm), Bool.not_false, Bool.and_true, fd]
          exact old
      · have e11 : hJ h11 (p + 2) f = hJ h (p + 2) f := by rw [w11, r_J, if_neg (fun z => fd z.2)]
        rw [e11]
        by_cases z : x = s
        · rw [if_pos z]
          rw [z] at old
          exact ⟨fun y => by
            rw [z] at y
            have := (old.mp y).2
            omega, fun y => absurd y.1 (by decide)⟩
        · rw [if_neg z]; exact old
    · rw [ra]
      rcases r3 f hf with z | ⟨z, nz⟩
      · exact Or.inl z
      · rw [z]
        rcases b3 f hf with y | ⟨y1, y2, y3⟩
        · exact Or.inl y
        · have ns : ¬ (hI h (p + 3) f).toNatClampNeg = s := fun w => by
            rw [w] at y3
            have fd : f = d := by omega
            refine nz ⟨fd, Int32.toInt_inj.mp ?_⟩
            have := nc_i (x := hI h (p + 3) f) y1.1
            omega
          refine Or.inr ⟨y1, ?_, ?_⟩
          · show 0 < (if (hI h (p + 3) f).toNatClampNeg = s then 0 else M (hI h (p + 3) f).toNatClampNeg)
            rw [if_neg ns]; exact y2
          · show ((if (hI h (p + 3) f).toNatClampNeg = s then 0 else M (hI h (p + 3) f).toNatClampNeg) - 1) % 2 = (f : Int)
            rw [if_neg ns]; exact y3
    · show 0 ≤ (if x = s then 0 else M x) ∧ (if x = s then 0 else M x) ≤ 24
      split
      · omega
      · exact b4 x hx
    · rw [eo, u3]
      exact fw_wJ (fw_wI Fu (Or.inl rfl)) (Or.inr (Or.inr (Or.inr ⟨rfl, rfl⟩)))
  have F11 : FrW (WEb p) h h11 := by rw [w11]; exact fw_wJ fw_0 (Or.inr (Or.inl rfl))
  have i11 : ∀ a i, hI h11 a i = hI h a i := fun a i => by rw [w11]; rfl
  rcases br_s e with ⟨c, e⟩ | ⟨c, e⟩ <;> rw [hd] at c
  · replace e := ce_e (by rw [R11]; exact e2) e
    replace e := gg_e e
    obtain ⟨h17, w17, e⟩ := nm_s e
    rw [hd] at w17
    refine fin (u := h17) (fun a i => by rw [w17]; exact R11 a i) (by rw [w17]; exact fw_wI F11 (Or.inr (Or.inr (Or.inl rfl)))) (fun i => by rw [w17, rI_a (by omega), i11]) (fun i => by rw [w17]; rfl) (fun f hf => ?_) e
    rw [w17, r_I]
    by_cases z : f = d
    · rw [if_pos ⟨rfl, z⟩]; exact Or.inl rfl
    · rw [if_neg (fun y => z y.2), i11]; exact Or.inr ⟨rfl, fun y => z y.1⟩
  · refine fin (u := h11) R11 F11 (fun i => i11 _ i) (fun _ => rfl) (fun f hf => Or.inr ⟨i11 _ f, fun y => c ?_⟩) e
    rw [i11]
    rw [← y.1]
    exact y.2
end
end
section
/-! ENDINGS, the class: its board is cleared -/
section
variable {n F : Nat} {g h h0 : Hp} {o : Int32 × Hp} {x1 x2 : Int32}
theorem e63f (k : DyK n g h) : ∀ u, u ∈ fsP → hR h (n + 63) u.1 = some (n + 63 + u.2) := fun u hu => by
  have : ∀ q, q ∈ fsP → (63, q.1, 63 + q.2) ∈ edL := by decide +kernel
  have := dk_e k (this u hu)
  rw [show n + (63 + u.2) = n + 63 + u.2 by omega] at this
  exact this
/-- all men off -/
theorem lay_11 {Q : Prop} (k0 : DyK n h0 h0) (fin : ∀ {h' : Hp}, DyK n g h' → DyK n h0 h' → FrW (WEb (n + 63)) h0 h' → EbW h' (n + 63) (fun _ => 0) → sX0_layOut_55 F h' (n + 62) x1 x2 = some o → Q) : ∀ (f : Nat) {h : Hp} {x3 : Int64} {x5 : Int32} {i : Nat} {M : Nat → Int}, DyK n g h → DyK n h0 h → FrW (WEb (n + 63)) h0 h → EbW h (n + 63) M → (∀ s, s < 64 → (bitJ x3 s = true ↔ 0 < M s)) → x5.toInt = (i : Int) → i ≤ 64 → (∀ s, s < i → bitJ x3 s = false) → sX0_layOut_11 F f h (n + 62) x1 x2 x3 x5 = some o → Q := by
  have z1 : (1 : Int32).toInt = 1 := rfl
  have z64 : (64 : Int32).toInt = 64 := rfl
  intro f
  induction f with
  | zero => intro h x3 x5 i M _ _ _ _ _ _ _ _ e; exact absurd e (by rw [sX0_layOut_11]; exact fun z => nomatch z)
  | succ f ih =>
    intro h x3 x5 i M kg kh Fr B bo e5 i64 lo e
    rw [sX0_layOut_11] at e
    -- the board is clear
    have clr : (∀ s, s < 64 → bitJ x3 s = false) → EbW h (n + 63) (fun _ => 0) := fun z => by
      have m0 : ∀ s, s < 64 → M s = 0 := fun s hs => by
        have a := (B.2.2.2 s hs).1
        have b : ¬ 0 < M s := fun y => by
          have := (bo s hs).mpr y
          rw [z s hs] at this
          exact nomatch this
        omega
      refine ⟨fun s hs => by rw [B.1 s hs, m0 s hs], fun d hd s hs => ?_, fun d hd => ?_, fun s hs => (show (0 : Int) ≤ 0 ∧ (0 : Int) ≤ 24 by decide)⟩
      · rw [B.2.1 d hd s hs, m0 s hs]
      · rcases B.2.2.1 d hd with y | ⟨y1, y2, _⟩
        · exact Or.inl y
        · have := nc_i (x := hI h (n + 63 + 3) d) y1.1
          have := y1.2
          rw [m0 _ (by omega)] at y2
          exact absurd y2 (by decide)
    rcases br_s e with ⟨c, e⟩ | ⟨c, e⟩
    · have c := le_i c
      exact fin kg kh Fr (clr (fun s hs => lo s (by omega))) e
    have c := nle_i c
    rcases br_s e with ⟨c2, e⟩ | ⟨c2, e⟩
    · have x0 : x3 = 0 := cmp_eq c2
      exact fin kg kh Fr (clr (fun s _ => by rw [x0, bj_zero])) e
    replace e := ce_e (dk_e (a := 62) (f := 3) (b := 63) kh (by decide +kernel)) e
    obtain ⟨o4, e4, e⟩ := cl_s e
    obtain ⟨p4, k, k64, v4, bk, kl, rest⟩ := low_v e4 c2
    rw [p4] at e
    replace e := ce_e (dk_e (a := 62) (f := 0) (b := 5) kh (by decide +kernel)) e
    obtain ⟨o6, e6, e⟩ := cl_s e
    have t := e63f kh
    obtain ⟨B6, F6, R6⟩ := ebw_rm (t (0, 1) (by decide)) (t (1, 2) (by decide)) (t (2, 3) (by decide)) B v4 k64 ((bo k k64).mp bk) e6
    obtain ⟨v7, w7, e⟩ := nm_s e
    obtain ⟨v8, w8, e⟩ := nm_s e
    have k6 : DyK n h0 o6 := dk_X3_put kh e6
    have k6g : DyK n g o6 := dk_X3_put kg e6
    have ki : i ≤ k := by
      apply Classical.byContradiction
      intro z
      rw [lo k (by omega)] at bk
      exact nomatch bk
    refine ih k6g k6 (fw_t Fr F6) B6 (fun s hs => ?_) (i := i + 1) (by rw [w8, ta (by rw [z1]; omega), z1]; omega) (by omega) (fun s hs => ?_) e
    · rw [w7, rest s hs]
      show _ ↔ 0 < (if s = k then 0 else M s)
      by_cases z : s = k
      · rw [if_pos z, decide_eq_true z.symm]
        exact ⟨(fun y => absurd y (by rw [Bool.not_true, Bool.and_false]; decide)), fun y => absurd y (by decide)⟩
      · rw [if_neg z, decide_eq_false (fun y => z y.symm), Bool.not_false, Bool.and_true]
        exact bo s hs
    · rw [w7, rest s (by omega)]
      by_cases z : s = k
      · rw [decide_eq_true z.symm, Bool.not_true, Bool.and_false]
      · rw [kl s (by omega), Bool.false_and]
end
end
section
/-! ENDINGS, the class: men of a number on its board -/
theorem cs6_all : ∀ c : Fin 24, ∀ s : Fin 64, ((nI c.val <<< ((6 : Int32) &&& 31)) ||| nI s.val) = nI (64 * c.val + s.val) := by decide +kernel
theorem cs6 {x y : Int32} {c s : Nat} (ex : x.toInt = (c : Int)) (ey : y.toInt = (s : Int)) (c24 : c < 24) (s64 : s < 64) : ((x <<< ((6 : Int32) &&& 31)) ||| y).toInt = ((64 * c + s : Nat) : Int) := by
  have a : x = nI c := Int32.toInt_inj.mp (by rw [ex]; exact (z_toInt (by omega)).symm)
  have b : y = nI s := Int32.toInt_inj.mp (by rw [ey]; exact (z_toInt (by omega)).symm)
  rw [a, b, cs6_all ⟨c, c24⟩ ⟨s, s64⟩]
  exact z_toInt (by omega)
/-- no man that should have become another -/
def NoL (L : Nat → Nat → Int) (row : Nat → Int) (q num m : Nat) : Prop := ∀ i, i < m → ¬ (0 < L 81 (mnO (row i)) ∧ rkF L (sqi q num i : Int) ((row i - 1) % 2) = L 1 0)
section
variable {n F q num m : Nat} {g h h0 : Hp} {o : Int32 × Hp} {x1 x5 x6 : Int32} {L : Nat → Nat → Int} {row : Nat → Int}
/-- what layOut tells -/
def LyR (n : Nat) (g h0 : Hp) (L : Nat → Nat → Int) (row : Nat → Int) (q num m : Nat) (o : Int32 × Hp) : Prop := FrW (WEb (n + 63)) h0 o.2 ∧ DyK n g o.2 ∧ DyK n h0 o.2 ∧ ∃ i, i ≤ m ∧ PosC o.2 (n + 64) (n + 65) (n + 66) (lyM row q num i) (L 10 0) ∧ ((o.1 = 0 ∧ ¬ (StD row q num m ∧ NoL L row q num m)) ∨ (o.1 = 1 ∧ i = m ∧ StD row q num m ∧ NoL L row q num m))
theorem lay_79 (H : LOk L) (k0 : DyK n h0 h0) (C0 : ClL n h0 L) (q0 : 0 < q) (eq : (q : Int) = L 0 0 * L 1 0) (n6 : num ≤ 600000) (R : RwO L row m) (K : KeyR x1 row m) (e5 : x5.toInt = (m : Int)) (e6 : x6.toInt = (q : Int)) : ∀ (f : Nat) {h : Hp} {x7 x8 x9 : Int32} {i : Nat}, DyK n g h → DyK n h0 h → FrW (WEb (n + 63)) h0 h → PosC h (n + 64) (n + 65) (n + 66) (lyM row q num i) (L 10 0) → x9.toInt = (i : Int) → i ≤ m → x7.toInt = ((num / q ^ i : Nat) : Int) → ((i = 0 ∧ x8 = (-1 : Int32)) ∨ (0 < i ∧ x8.toInt = 64 * (row (i - 1) - 1) + (sqi q num (i - 1) : Int))) → StD row q num i → NoL L row q num i → sX0_layOut_79 F f h (n + 62) x1 x5 x6 x7 x8 x9 = some o → LyR n g h0 L row q num m o := by
  have z1 : (1 : Int32).toInt = 1 := rfl
  have z0 : (0 : Int32).toInt = 0 := rfl
  have zm : (-1 : Int32).toInt = -1 := rfl
  have s0 := dk_610 k0
  have sq := sq_64 H
  have L2 := H.2.2.1
  have q64 : q ≤ 64 := by omega
  have rp : ∀ i, i < m → 1 ≤ row i := fun i hi => (R.2.1 i hi).1
  intro f
  induction f with
  | zero => intro h x7 x8 x9 i _ _ _ _ _ _ _ _ _ _ e; exact absurd e (by rw [sX0_layOut_79]; exact fun z => nomatch z)
  | succ f ih =>
    intro h x7 x8 x9 i kg kh Fr P e9 im e7 e8 St Nl e
    rw [sX0_layOut_79] at e
    unfold sX0_layOut_240 at e
    have s6 := dk_610 kh
    rcases br_s e with ⟨c, e⟩ | ⟨c, e⟩
    · have c := le_i c
      have ie : i = m := by omega
      rw [so_e e]
      rw [ie] at P St Nl
      exact ⟨Fr, kg, kh, m, Nat.le_refl _, P, Or.inr ⟨rfl, rfl, St, Nl⟩⟩
    have c := nle_i c
    have im' : i < m := by omega
    replace e := bn_e (fun z => by have := le_i z; omega) e
    have dn : num / q ^ i ≤ num := Nat.div_le_self _ _
    have r7 : Rg 0 600000 x7 := by
      obtain ⟨d, hd⟩ : ∃ d, d = num / q ^ i := ⟨_, rfl⟩
      rw [← hd] at e7 dn
      exact ⟨by omega, by omega⟩
    have r6 : Rg 1 64 x6 := ⟨by omega, by omega⟩
    replace e := gg_e e
    obtain ⟨v4, w4, e⟩ := nm_s e
    replace e := gg_e e
    obtain ⟨v6, w6, e⟩ := nm_s e
    have y4 : v4.toInt = (sqi q num i : Int) := by
      rw [w4, tr r7 r6 ⟨by decide, by decide⟩, e7, e6]
      unfold sqi
      omega
    have y6 : v6.toInt = ((num / q ^ (i + 1) : Nat) : Int) := by
      rw [w6, td r7 r6 ⟨by decide, by decide⟩, e7, e6, Nat.pow_succ, ← Nat.div_div_eq_div_mul]
      omega
    have lq := sqi_lt (num := num) (i := i) q0
    obtain ⟨o7, e7', e⟩ := cl_s e
    have m5 := K.1
    obtain ⟨p7, v7⟩ := kci_x K e9 (by omega) e7'
    rw [if_pos im'] at v7
    rw [p7] at e
    have rb := R.2.1 i im'
    obtain ⟨cd, hcd⟩ : ∃ cd : Nat, (cd : Int) = row i - 1 := ⟨(row i - 1).toNat, by omega⟩
    have vc : o7.1.toInt = (cd : Int) := by omega
    have enc := cs6 vc y4 (by omega) (by omega)
    have s8 : (x8 >>> ((6 : Int32) &&& 31)).toInt = x8.toInt / 64 := ti_shr6
    -- whether like men fall
    have tail : ∀ {t0 : Int32}, FlB t0 (¬ (0 < i → row (i - 1) = row i → sqi q num (i - 1) ≤ sqi q num i)) → sX0_layOut_141 F (sX0_layOut_79 F f) h (n + 62) x1 x5 x6 v6 x9 v4 o7.1 t0 = some o → LyR n g h0 L row q num m o := fun {t0} ft e => by
      unfold sX0_layOut_141 at e
      have C := cll_f k0 kh (fun j i hj => Fr.2 _ _ (by omega) (fun c => by unfold WEb at c; omega)) C0
      replace e := ce_e (dk_e (a := 62) (f := 0) (b := 5) kh (by decide +kernel)) e
      obtain ⟨ob, eb, e⟩ := cl_s e
      have mn : mnO (row i) = cd / 2 := by
        have : mnO (row i) = ((row i - 1) / 2).toNat := rfl
        omega
      have sh : (o7.1 >>> ((1 : Int32) &&& 31)).toInt = ((cd / 2 : Nat) : Int) := by rw [ti_shr1, vc]; omega
      obtain ⟨pb, qb⟩ := beo_c (V := vK n 0 0 0 0 0 0) (m := cd / 2) C.2.2.1 sh (by omega) eb
      rw [pb] at e
      have p178 : ∀ {t1 : Int32}, FlB t1 (0 < L 81 (mnO (row i)) ∧ rkF L (sqi q num i : Int) ((row i - 1) % 2) = L 1 0) → sX0_layOut_178 F (sX0_layOut_79 F f) h (n + 62) x1 x5 x6 v6 x9 v4 o7.1 t0 t1 = some o → LyR n g h0 L row q num m o := fun {t1} fl e => by
        unfold sX0_layOut_178 sX0_layOut_204 at e
        have no : ¬ (StD row q num m ∧ NoL L row q num m) → some ((0 : Int32), h) = some o → LyR n g h0 L row q num m o := fun z e => by
          rw [so_e e]
          exact ⟨Fr, kg, kh, i, im, P, Or.inl ⟨rfl, z⟩⟩
        rcases br_s e with ⟨c1, e⟩ | ⟨c1, e⟩
        rotate_left
        · exact no (fun z => flb_1 ft c1 (z.1 i im').2) e
        rcases br_s e with ⟨c2, e⟩ | ⟨c2, e⟩
        rotate_left
        · exact no (fun z => z.2 i im' (flb_1 fl c2)) e
        have ri := Classical.not_not.mp (flb_0 ft c1)
        have nl := flb_0 fl c2
        have t := e63f kh
        have n4 : v4.toNatClampNeg = sqi q num i := by have := nc_i (x := v4) (by omega); omega
        replace e := ce_e (dk_e (a := 62) (f := 3) (b := 63) kh (by decide +kernel)) e
        replace e := ce_e (t (0, 1) (by decide)) e
        replace e := gg_e e
        have pv := P.1 (sqi q num i) (by omega)
        rcases br_s e with ⟨c3, e⟩ | ⟨c3, e⟩ <;> rw [n4] at c3
        · have c3 : hI h (n + 64) (sqi q num i) = (-1 : Int32) := c3
          have mz : lyM row q num i (sqi q num i) = 0 := by rw [c3, zm] at pv; omega
          obtain ⟨w7, u7, e⟩ := nm_s e
          replace e := ce_e (dk_e (a := 62) (f := 3) (b := 63) kh (by decide +kernel)) e
          replace e := ce_e (dk_e (a := 62) (f := 0) (b := 5) kh (by decide +kernel)) e
          obtain ⟨o10, e10, e⟩ := cl_s e
          obtain ⟨w11, u11, e⟩ := nm_s e
          have l4 : (hI h (n + 5) 4).toInt = L 10 0 := C.2.2.2.1.1
          have P' : PosC h (n + 64) (n + 65) (n + 66) (lyM row q num i) (hI h (n + 5) 4).toInt := by rw [l4]; exact P
          obtain ⟨q1, q2, q3, q4, _⟩ := put_c (on := n + 64) (of := n + 65) (ra := n + 66) (t (0, 1) (by decide)) (t (1, 2) (by decide)) (t (2, 3) (by decide)) (by omega) (by omega) ⟨by omega, by omega⟩ ⟨by omega, by omega⟩ P' (Or.inl (by rw [n4]; exact mz)) e10
          rw [l4, n4, vc, show (cd : Int) + 1 = row i by omega] at q1
          have k10 : DyK n h0 o10 := dk_X3_put kh e10
          have k10g : DyK n g o10 := dk_X3_put kg e10
          have F10 : FrW (WEb (n + 63)) h o10 := ⟨hs_g (dk_X3_put (dk_self kh) e10).1, fun a i l nw => ⟨q3 a i (fun z => nw (Or.inl z)) (fun z => nw (Or.inr (Or.inr (Or.inl z)))), q4 a i (fun z => nw (Or.inr (Or.inl z))) (fun z => nw (Or.inr (Or.inr (Or.inr z))))⟩⟩
          refine ih k10g k10 (fw_t Fr F10) (i := i + 1) q1 (by rw [u11, ta (by rw [z1]; omega), z1]; omega) (by omega) y6 (Or.inr ⟨by omega, ?_⟩) (fun j hj => ?_) (fun j hj => ?_) e
          · rw [u7, enc]
            show _ = 64 * (row i - 1) + (sqi q num i : Int)
            omega
          · by_cases z : j = i
            · rw [z]; exact ⟨mz, ri⟩
            · exact St j (by omega)
          · by_cases z : j = i
            · rw [z]; exact nl
            · exact Nl j (by omega)
        · refine no (fun z => c3 (Int32.toInt_inj.mp ?_)) e
          show (hI h (n + 64) (sqi q num i)).toInt = _
          rw [pv, (z.1 i im').1, zm]
          rfl
      unfold sX0_layOut_177 at e
      rcases qb with ⟨b1, b2⟩ | ⟨b1, b2⟩
      · exact p178 (flz (fun z => b2 (by rw [← mn]; exact z.1))) (bp_e b1 e)
      · replace e := bn_e (by rw [b1]; decide) e
        replace e := ce_e (dk_e (a := 62) (f := 0) (b := 5) kh (by decide +kernel)) e
        obtain ⟨ol, el, e⟩ := cl_s e
        have sdv : (o7.1 &&& (1 : Int32)).toInt = (row i - 1) % 2 := by rw [and1_i (by omega), vc]; omega
        obtain ⟨pl, ql⟩ := last_v (V := vK n 0 0 0 0 0 0) H C.2.1 (dk_e (a := 5) (f := 20) (b := 12) kh (by decide +kernel)) y4 (by omega) ⟨by omega, by omega⟩ el
        rw [pl] at e
        rw [sdv] at ql
        rcases ql with ⟨l1, l2⟩ | ⟨l1, l2⟩
        · exact p178 (flz (fun z => l2 z.2)) (bp_e l1 e)
        · exact p178 (flo ⟨by rw [mn]; exact b2, l2⟩) (bn_e (by rw [l1]; decide) e)
    unfold sX0_layOut_140 at e
    rcases br_s e with ⟨c1, e⟩ | ⟨c1, e⟩
    · have c1 : x8.toInt / 64 = (cd : Int) := by rw [← s8, ← vc]; exact congrArg Int32.toInt c1
      rcases e8 with ⟨a, b⟩ | ⟨a, b⟩
      · rw [b, zm] at c1; omega
      have lp := sqi_lt (num := num) (i := i - 1) q0
      have re : row (i - 1) = row i := by omega
      rcases br_s e with ⟨c2, e⟩ | ⟨c2, e⟩
      · have c2 := le_i c2
        rw [enc] at c2
        exact tail (flz (fun z => z (fun _ _ => by omega))) e
      · have c2 := nle_i c2
        rw [enc] at c2
        exact tail (flo (fun z => by have := z a re; omega)) e
    · refine tail (flz (fun z => z (fun i0 re => ?_))) e
      rcases e8 with ⟨a, _⟩ | ⟨_, b⟩
      · omega
      · have lp := sqi_lt (num := num) (i := i - 1) q0
        exact absurd (Int32.toInt_inj.mp (by rw [s8, vc, b]; omega)) c1
end
end
section
/-! ENDINGS, the class: layOut whole -/
section
variable {n F q num m : Nat} {g h : Hp} {o : Int32 × Hp} {x1 x2 : Int32} {L : Nat → Nat → Int} {row : Nat → Int} {M : Nat → Int} {ro : Int}
theorem pos_eb (P : PosC h (n + 64) (n + 65) (n + 66) M ro) : EbW h (n + 63) M := by
  refine ⟨P.1, P.2.1, fun d hd => ?_, P.2.2.2⟩
  rcases P.2.2.1 d hd with ⟨z, _⟩ | ⟨a, b, c⟩
  · exact Or.inl z
  · have c : M (hI h (n + 66) d).toNatClampNeg = 1 + 2 * ro + (d : Int) := c
    refine Or.inr ⟨a, ?_, ?_⟩
    · show 0 < M (hI h (n + 66) d).toNatClampNeg
      rw [c]; omega
    · show (M (hI h (n + 66) d).toNatClampNeg - 1) % 2 = (d : Int)
      rw [c]; omega
theorem ly_k (hF : 700000 ≤ F) (H : LOk L) (k0 : DyK n h h) (kg : DyK n g h) (C0 : ClL n h L) (q0 : 0 < q) (eq : (q : Int) = L 0 0 * L 1 0) (n6 : num ≤ 600000) (R : RwO L row m) (K : KeyR x1 row m) (e2 : x2.toInt = (num : Int)) (B : EbW h (n + 63) M) (e : sX0_layOut F h (n + 62) x1 x2 = some o) : LyR n g h L row q num m o := by
  have t := e63f k0
  have s0 := dk_610 k0
  unfold sX0_layOut at e
  replace e := ce_e (dk_e (a := 62) (f := 3) (b := 63) k0 (by decide +kernel)) e
  obtain ⟨o2, eo, e⟩ := cl_s e
  unfold sX3_occupied at eo
  replace eo := ce_e (t (1, 2) (by decide)) eo
  replace eo := gg_e eo
  replace eo := ce_e (t (1, 2) (by decide)) eo
  replace eo := gg_e eo
  have y := so_e eo
  have h2 : o2.2 = h := by rw [y]
  rw [h2] at e
  have bits : ∀ s, s < 64 → (bitJ o2.1 s = true ↔ 0 < M s) := fun s hs => by
    rw [y]
    show bitJ (hJ h (n + 65) 0 ||| hJ h (n + 65) 1) s = true ↔ _
    rw [bj_or, Bool.or_eq_true]
    have a := B.2.1 0 (by decide) s hs
    have b := B.2.1 1 (by decide) s hs
    have a : bitJ (hJ h (n + 65) 0) s = true ↔ (0 < M s ∧ (M s - 1) % 2 = ((0 : Nat) : Int)) := a
    have b : bitJ (hJ h (n + 65) 1) s = true ↔ (0 < M s ∧ (M s - 1) % 2 = ((1 : Nat) : Int)) := b
    rw [a, b]
    constructor
    · intro z
      rcases z with z | z <;> exact z.1
    · intro z
      by_cases c : (M s - 1) % 2 = 0
      · exact Or.inl ⟨z, by omega⟩
      · exact Or.inr ⟨z, by omega⟩
  refine lay_11 (g := g) k0 (fun {h'} k'g k' F' B' e => ?_) F (i := 0) (M := M) kg k0 fw_0 B bits rfl (Nat.zero_le _) (fun s hs => absurd hs (Nat.not_lt_zero _)) e
  unfold sX0_layOut_55 at e
  obtain ⟨o1, e1, e⟩ := cl_s e
  obtain ⟨p1, v1⟩ := ksz_x hF K e1
  rw [p1] at e
  replace e := ce_e (dk_e (a := 62) (f := 0) (b := 5) k' (by decide +kernel)) e
  obtain ⟨v3, w3, e⟩ := nm_s e
  have C' := cll_f k0 k' (fun j i hj => F'.2 _ _ (by omega) (fun c => by unfold WEb at c; omega)) C0
  have y3 : v3.toInt = (q : Int) := by
    rw [w3]
    have : (hI h' (n + 5) 2).toInt = L 0 0 * L 1 0 := C'.2.1.2.2.1
    rw [this, eq]
  have P0 : PosC h' (n + 64) (n + 65) (n + 66) (lyM row q num 0) (L 10 0) := by
    refine ⟨B'.1, B'.2.1, fun d hd => ?_, B'.2.2.2⟩
    rcases B'.2.2.1 d hd with z | ⟨_, z, _⟩
    · refine Or.inl ⟨z, fun s hs r0 c => ?_⟩
      have c : (0 : Int) = 1 + 2 * L 10 0 + (d : Int) := c
      omega
    · have z : (0 : Int) < 0 := z
      omega
  have r := lay_79 (g := g) H (dk_self k') C' q0 eq n6 R K v1 y3 F (i := 0) k'g (dk_self k') fw_0 P0 rfl (Nat.zero_le _) (by rw [Nat.pow_zero, Nat.div_one]; exact e2) (Or.inl ⟨rfl, rfl⟩) (fun j hj => absurd hj (Nat.not_lt_zero _)) (fun j hj => absurd hj (Nat.not_lt_zero _)) e
  exact ⟨fw_t F' r.1, r.2.1, dk_t k' r.2.2.1, r.2.2.2⟩
/-- it stands, and no man is late: nothing is wrong but checks -/
theorem nol_f3 (q0 : 0 < q) (q64 : q ≤ 64) (R : RwO L row m) (St : StD row q num m) {sd : Nat} : NoL L row q num m ↔ ¬ F3p L (ndZ (lyM row q num m) sd) := by
  have rp : ∀ i, i < m → 1 ≤ row i := fun i hi => (R.2.1 i hi).1
  have A := ly_at rp St m (Nat.le_refl _)
  constructor
  · intro z ⟨s, s64, f⟩
    have f : F3a L (lyM row q num m) s := f
    obtain ⟨i, hi, es, ev⟩ := ly_mem (row := row) (q := q) (num := num) (s := s) m (fun y => by have := f.1; omega)
    unfold F3a at f
    rw [ev] at f
    exact z i hi ⟨f.2.1, by rw [es]; exact f.2.2⟩
  · intro z i hi y
    have lq := sqi_lt (num := num) (i := i) q0
    refine z ⟨sqi q num i, by omega, ?_⟩
    show F3a L (lyM row q num m) (sqi q num i)
    unfold F3a
    rw [A i hi]
    exact ⟨by have := rp i hi; omega, y⟩
end
end
