/-! countAll, run -/
theorem lw_k {ρ : Nat → Nat} {c : Cm} {h o : Hp} {E : List (Nat × Nat)} (K : Kf ρ E h o) (y0 : mS E 2 0 = false := by rfl) (y1 : mS E 2 1 = false := by rfl) (y2 : mS E 2 2 = false := by rfl) (P : LwR ρ c h) : LwR ρ c o := fun L rL wL q => P L rL wL (by
  rw [kfI 0 K rL (by decide) y0, kfI 1 K rL (by decide) y1, kfI 2 K rL (by decide) y2] at q
  exact q)
section
variable {ρ : Nat → Nat} {c : Cm} {h o : Hp} {x0 b wy ks st pw ro L F : Nat} {sq : Int} {x1 x2 x3 : Int32} {β : Type} {Q : β → Prop}
theorem s_lay {k : Int32 × Hp → Option β} (hF : 700000 ≤ F) (hO : pmO c 1003 [(34, 999), (35, 999), (36, 999), (4, 7)]) (T : TH ρ c h) (r0 : ρ x0 = 1) (W : EnW x0 b wy ks st pw ro L sq h) (lw : LwR ρ c h) (i1 : Rg 0 33554431 x1) (i2 : Rg 0 599999 x2) (ky : KyX x1) (H : ∀ o : Int32 × Hp, TH ρ c o.2 → EnW x0 b wy ks st pw ro L sq o.2 → LwR ρ c o.2 → Kf ρ GBL h o.2 → PoS sq b o.2 → Rg 0 1 o.1 → Sat (k o) Q) : Sat (cl (sX0_layOut F h x0 x1 x2) k) Q := by
  refine s_cIfq (S := fS [] [(1003, [(34, 999), (35, 999), (36, 999), (4, 7)])]) T (fs_sub pmA_n (fs_c (pmO_s hO rfl) fs_n)) (layOut_q hF (fs_o (.head _)) (th_in _ T) r0 W.1.2.2.1 W.1.1 i1 i2 lw ky) (fun o To io fo Po => ?_)
  have K : Kf ρ GBL h o.2 := kf_of fo rfl
  have eL := W.2.2.2.2.2.1
  rw [eL] at Po
  exact H o To (enw_f T r0 fo rfl W) (lw_k K (P := lw)) K Po io
theorem s_gob {k : Hp → Option β} (hF : 700000 ≤ F) (hA : pmA c TBL) (T : TH ρ c h) (r0 : ρ x0 = 1) (W : EnW x0 b wy ks st pw ro L sq h) (lw : LwR ρ c h) (B : PoS sq b h) (i1 : Rg 0 1 x1) (H : ∀ o : Hp, TH ρ c o → EnW x0 b wy ks st pw ro L sq o → LwR ρ c o → Kf ρ GBL h o → PoS sq b o → Sat (k o) Q) : Sat (cl (sX0_goBack F h x0 x1) k) Q := by
  refine s_cVf (S := fS TBL []) T (fs_sub (pmA_s hA rfl) fs_n) (gb_q hF fs_a (th_in _ T) r0 W B i1) (fun o To fo => ?_)
  have K : Kf ρ TBL h o := kf_of fo rfl
  have rb : ρ b = 4 := rr T (thR T r0 (i := 3) (k2 := 4) rfl (by decide)) W.1.2.2.1
  exact H o To (enw_f T r0 fo rfl W) (lw_k K (P := lw)) (kf_m K rfl) (pos_k T rb K (P := B))
theorem ca_q (hF : 700000 ≤ F) (hA : pmA c TBL) (hO : pmO c 1003 [(34, 999), (35, 999), (36, 999), (4, 7)]) (T : TH ρ c h) (r0 : ρ x0 = 1) (W : EnW x0 b wy ks st pw ro L sq h) (lw : LwR ρ c h) : Sat (sX0_countAll F h x0) (ZV ρ c) := by
  have i9 := thI T r0 (k := 1) (i := 9) (lo := 0) (hi := 1024) rfl
  have b9 := i9.2
  have qs : ρ st = 21 := rr T (thR T r0 (i := 5) (k2 := 21) rfl (by decide)) W.1.2.2.2.2.1
  have qk : ρ ks = 20 := rr T (thR T r0 (i := 4) (k2 := 20) rfl (by decide)) W.1.2.2.2.1
  have z1 : (1 : Int32).toInt = 1 := rfl
  have z2 : (2 : Int32).toInt = 2 := rfl
  have l2 : ∀ (f : Nat) {g : Hp} {x1 : Int32}, TH ρ c g → EnW x0 b wy ks st pw ro L sq g → LwR ρ c g → Kf ρ GBL h g → 0 ≤ x1.toInt → (1025 - x1.toInt).toNat < f → Sat (sX0_countAll_2 F f g x0 x1) (ZV ρ c) := by
    intro f
    induction f with
    | zero => intros; omega
    | succ f ih =>
      intro g x1 Tg Wg lg Kg a1 hf
      rw [sX0_countAll_2]
      refine s_br (fun _ => s_some Tg) (fun l => ?_)
      have l := nle_i l
      rw [kfI 9 Kg r0] at l
      have i1 : Rg 0 1023 x1 := ⟨a1, by omega⟩
      have ny := nc_s i1 (by decide)
      have e5 := Wg.1.2.2.2.2.1
      have g5 : inB x1 (hN g st) := by rw [thN Tg qs (k := 21) (n := 1025) rfl (by decide)]; exact rg_inB (rg_m i1 (by decide) : Rg 0 1024 x1) (by decide)
      refine s_ref e5 ?_
      refine s_gd (by rw [thN Tg qs (k := 21) (n := 1025) rfl (by decide)]; exact rg_inB (⟨by omega, by omega⟩ : Rg 0 1024 (x1 + (1 : Int32))) (by decide)) ?_
      refine s_ref e5 (s_gd g5 ?_)
      refine s_q (fun v6 e6 => ?_)
      have ia := thI Tg qs (k := 21) (i := x1.toNatClampNeg) (lo := 0) (hi := 600000) rfl
      have ib := thI Tg qs (k := 21) (i := (x1 + (1 : Int32)).toNatClampNeg) (lo := 0) (hi := 600000) rfl
      have ia0 := ia.1
      have ia1 := ia.2
      have ib0 := ib.1
      have ib1 := ib.2
      have t6 : v6.toInt = ((hI g st (x1 + (1 : Int32)).toNatClampNeg).toInt - (hI g st x1.toNatClampNeg).toInt) / 2 := by rw [e6, ti_shr1, ts (by omega)]
      clear e6
      obtain ⟨S0, eS0⟩ : ∃ S0 : Int32, S0 = hI g st x1.toNatClampNeg := ⟨_, rfl⟩
      rw [← eS0] at t6 ia0 ia1
      have l30 : ∀ (f3 : Nat) {g2 : Hp} {x3 : Int32}, TH ρ c g2 → EnW x0 b wy ks st pw ro L sq g2 → LwR ρ c g2 → Kf ρ GBL g g2 → 0 ≤ x3.toInt → (600002 - x3.toInt).toNat < f3 → Sat (sX0_countAll_30 F (sX0_countAll_2 F f) f3 g2 x0 x1 v6 x3) (ZV ρ c) := by
        intro f3
        induction f3 with
        | zero => intros; omega
        | succ f3 ih3 =>
          intro g2 x3 T2 W2 lg2 K2 a3 hf3
          rw [sX0_countAll_30]
          unfold sX0_countAll_73
          refine s_br (fun _ => ?_) (fun l3 => ?_)
          · refine s_q (fun y ey => ?_)
            have ty : y.toInt = x1.toInt + 1 := by rw [ey]; exact ny.2
            clear ey
            exact ih T2 W2 lg2 (kf_t Kg K2) (by omega) (by omega)
          have l3 := nle_i l3
          have e52 := W2.1.2.2.2.2.1
          refine s_ref e52 ?_
          refine s_gd (by rw [thN T2 qs (k := 21) (n := 1025) rfl (by decide)]; exact rg_inB (rg_m i1 (by decide) : Rg 0 1024 x1) (by decide)) ?_
          refine s_q (fun v5 ev5 => ?_)
          have s5 : hI g2 st x1.toNatClampNeg = S0 := by rw [kfI _ K2 qs, eS0]
          rw [s5] at ev5
          have m5 : ((2 : Int32) * x3).toInt = 2 * x3.toInt := by rw [tm (by rw [z2]; omega), z2]
          have t5 : v5.toInt = S0.toInt + 2 * x3.toInt := by rw [ev5, ta (by rw [m5]; omega), m5]
          clear ev5
          have t51 : (v5 + (1 : Int32)).toInt = v5.toInt + 1 := by rw [ta (by rw [z1]; omega), z1]
          have i3 : Rg 0 600000 x3 := ⟨a3, by omega⟩
          have n3 := nc_s i3 (by decide)
          obtain ⟨rw', ew, qw'⟩ := thR T2 r0 (i := 11) (k2 := 24) rfl (by decide)
          have hn : hN g2 rw' = 600000 := W2.2.2.2.2.1 11 rw' (Or.inl rfl) ew
          have b138 : ∀ {g3 : Hp}, TH ρ c g3 → EnW x0 b wy ks st pw ro L sq g3 → LwR ρ c g3 → Kf ρ GBL g g3 → Sat (sX0_countAll_138 F (sX0_countAll_2 F f) (sX0_countAll_30 F (sX0_countAll_2 F f) f3) g3 x0 x1 v6 x3) (ZV ρ c) := fun T3 W3 lg3 K3 => by
            unfold sX0_countAll_138
            refine s_q (fun y ey => ?_)
            have ty : y.toInt = x3.toInt + 1 := by rw [ey]; exact n3.2
            clear ey
            exact ih3 T3 W3 lg3 K3 (by omega) (by omega)
          have b78 : ∀ {t : Int32}, Sat (sX0_countAll_78 F (sX0_countAll_2 F f) (sX0_countAll_30 F (sX0_countAll_2 F f) f3) g2 x0 x1 v6 x3 v5 t) (ZV ρ c) := fun {t} => by
            unfold sX0_countAll_78
            refine s_br (fun _ => b138 T2 W2 lg2 K2) (fun _ => ?_)
            have e42 := W2.1.2.2.2.1
            refine s_ref e42 ?_
            refine s_gd (by rw [thN T2 qk (k := 20) (n := 1024) rfl (by decide)]; exact rg_inB i1 (by decide)) ?_
            refine s_lay hF hO T2 r0 W2 lg2 (thI T2 qk (k := 20) (lo := 0) (hi := 33554431) rfl) (⟨a3, by omega⟩) (thKy T2 qk) (fun o4 T4 W4 lg4 K4 B4 i4 => ?_)
            refine s_br (fun _ => b138 T4 W4 lg4 (kf_t K2 K4)) (fun _ => ?_)
            have l105 : ∀ (f6 : Nat) {g3 : Hp} {x6 : Int32}, TH ρ c g3 → EnW x0 b wy ks st pw ro L sq g3 → LwR ρ c g3 → Kf ρ GBL g g3 → PoS sq b g3 → 0 ≤ x6.toInt → (3 - x6.toInt).toNat < f6 → Sat (sX0_countAll_105 F (sX0_countAll_2 F f) (sX0_countAll_30 F (sX0_countAll_2 F f) f3) f6 g3 x0 x1 v6 x3 v5 x6) (ZV ρ c) := by
              intro f6
              induction f6 with
              | zero => intros; omega
              | succ f6 ih6 =>
                intro g3 x6 T3 W3 lg3 K3 B3 a6 hf6
                rw [sX0_countAll_105]
                refine s_br (fun _ => b138 T3 W3 lg3 K3) (fun l6 => ?_)
                have l6 := nle_i l6
                rw [z2] at l6
                have i6 : Rg 0 1 x6 := ⟨a6, by omega⟩
                have n6 := nc_s i6 (by decide)
                have t56 : (v5 + x6).toInt = v5.toInt + x6.toInt := ta (by omega)
                obtain ⟨r3, e3, _⟩ := thR T3 r0 (i := 11) (k2 := 24) rfl (by decide)
                have hn3 : hN g3 r3 = 600000 := W3.2.2.2.2.1 11 r3 (Or.inl rfl) e3
                refine s_ref e3 ?_
                refine s_gd (by rw [hn3]; exact rg_inB (⟨by omega, by omega⟩ : Rg 0 599999 (v5 + x6)) (by decide)) ?_
                have nx : ∀ {g4 : Hp}, TH ρ c g4 → EnW x0 b wy ks st pw ro L sq g4 → LwR ρ c g4 → Kf ρ GBL g g4 → PoS sq b g4 → Sat (sX0_countAll_132 F (sX0_countAll_2 F f) (sX0_countAll_30 F (sX0_countAll_2 F f) f3) (sX0_countAll_105 F (sX0_countAll_2 F f) (sX0_countAll_30 F (sX0_countAll_2 F f) f3) f6) g4 x0 x1 v6 x3 v5 x6) (ZV ρ c) := fun T4 W4 lg4 K4 B4 => by
                  unfold sX0_countAll_132
                  refine s_q (fun y ey => ?_)
                  have ty : y.toInt = x6.toInt + 1 := by rw [ey]; exact n6.2
                  clear ey
                  exact ih6 T4 W4 lg4 K4 B4 (by omega) (by omega)
                refine s_br (fun _ => nx T3 W3 lg3 K3 B3) (fun _ => ?_)
                exact s_gob hF hA T3 r0 W3 lg3 B3 i6 (fun g4 T4 W4 lg4 K4 B4 => nx T4 W4 lg4 (kf_t K3 K4) B4)
            exact l105 F T4 W4 lg4 (kf_t K2 K4) B4 (by decide) (by show (3 - 0 : Int).toNat < F; omega)
          refine s_ref ew ?_
          refine s_gd (by rw [hn]; exact rg_inB (⟨by omega, by omega⟩ : Rg 0 599999 v5) (by decide)) ?_
          refine s_br (fun _ => ?_) (fun _ => b78)
          refine s_ref ew ?_
          refine s_gd (by rw [hn]; exact rg_inB (⟨by omega, by omega⟩ : Rg 0 599999 (v5 + (1 : Int32))) (by decide)) ?_
          exact s_br (fun _ => b78) (fun _ => b78)
      exact l30 F Tg Wg lg kf_r (by decide) (by show (600002 - 0 : Int).toNat < F; omega)
  unfold sX0_countAll
  exact l2 F T W lw kf_r (by decide) (by show (1025 - 0 : Int).toNat < F; omega)
/-- the set of a node begins no later -/
theorem setOf_q (hF : 700000 ≤ F) (T : TH ρ c h) (r0 : ρ x0 = 1) (e5 : hR h x0 5 = some st) (z : (hI h st 0).toInt = 0) (i1 : Rg 0 599999 x1) : Sat (sX0_setOf F h x0 x1) (fun o => o.2 = h ∧ Rg 0 1023 o.1 ∧ (hI h st o.1.toNatClampNeg).toInt ≤ x1.toInt) := by
  refine sat_and (zX0_setOf hF T r0 i1) (fun o e Z => ⟨Z.1, Z.2, ?_⟩)
  have lp : ∀ (f : Nat) {x2 x3 : Int32}, (hI h st x2.toNatClampNeg).toInt ≤ x1.toInt → sX0_setOf_9 F f h x0 x1 x2 x3 = some o → (hI h st o.1.toNatClampNeg).toInt ≤ x1.toInt := by
    intro f
    induction f with
    | zero => intro x2 x3 _ e; exact absurd e (by rw [sX0_setOf_9]; exact fun z => nomatch z)
    | succ f ih =>
      intro x2 x3 a e
      rw [sX0_setOf_9] at e
      unfold sX0_setOf_45 at e
      replace e := br_s e
      rcases e with ⟨_, e⟩ | ⟨_, e⟩
      · rw [← Option.some.inj e]; exact a
      replace e := nm_s e
      obtain ⟨v2, _, e⟩ := e
      replace e := cl_s e
      obtain ⟨r3, e3, e⟩ := e
      have q3 : r3 = st := r_eq e5 e3
      subst q3
      replace e := (gd_s e).2
      replace e := br_s e
      rcases e with ⟨_, e⟩ | ⟨l, e⟩
      · replace e := nm_s e
        obtain ⟨v6, _, e⟩ := e
        exact ih a e
      · refine ih ?_ e
        have := nlt_i l
        omega
  unfold sX0_setOf at e
  replace e := nm_s e
  obtain ⟨v1, _, e⟩ := e
  have i10 := i1.1
  exact lp F (by show (hI h st 0).toInt ≤ _; omega) e
end
