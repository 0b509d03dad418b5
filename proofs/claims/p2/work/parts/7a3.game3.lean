section
variable {zq : Nat} {ρ : Nat → Nat} {c : Cm} {h o : Hp} {E : Nat → Nat → Bool} {wb wl : Nat → Bool} {x0 d b l w i F : Nat} {Bq : Nat × Nat} {x1 x2 : Int32}
theorem game_loopw (hF : 700000 ≤ F) : ∀ (f : Nat) {ρ : Nat → Nat} {c : Cm} {h : Hp} {b i : Nat} {x1 x2 x4 x5 : Int32}, (∀ k w i, SY gmE2 (is 2528) g2 k w i = true → cPm c k w i = true) → TH ρ c h → ρ x0 = 16 → Rg 0 7 x1 → SqOk x0 h → GaY zq Bq x0 h → Gb x0 i b h → 0 ≤ x5.toInt → (301 - x5.toInt).toNat < f → Sat (sX15_game_88 F f h x0 x1 x2 b x4 x5) (MkI ρ c (-2147483648) 2147483647 (GaY zq Bq x0)) := by
  intro f
  induction f with
  | zero => intros; omega
  | succ f ih =>
    intro ρ c h b i x1 x2 x4 x5 hp T r0 i1 sq G B a5 hf
    rw [sX15_game_88]
    unfold sX15_game_160 sX15_game_155 sX15_game_109 sX15_game_113 sX15_game_121
    have ex : ∀ {y : Int32}, Sat (some (y, h)) (MkI ρ c (-2147483648) 2147483647 (GaY zq Bq x0)) := s_some ⟨ρ, c, ex_0, T, rg_top _, G⟩
    refine s_played T r0 i1 (fun r er qr => ?_)
    refine s_br (fun _ => s_br (fun _ => ex) (fun _ => s_br (fun _ => ex) (fun _ => s_br (fun _ => ex) (fun _ => ex)))) (fun n1 => ?_)
    have l5 := nlt_i n1
    have p300 := thI T qr (k := 94) (i := x1.toNatClampNeg) (lo := -1) (hi := 300) rfl
    have i5 : Rg 0 300 x5 := ⟨a5, by have := p300.2; omega⟩
    refine s_gamew hp (fun _ => gm2_t) T r0 i1 i5 G (fun o1 ρ1 c1 X1 T1 f1 G1 B1 kp => ?_)
    have r1 := ex_r X1 r0 (by decide)
    have hp1 := ex_hp X1 hp
    have sq1 := sq_sy nice_92 T r0 f1 sq
    have B2 := kp _ _ B
    obtain ⟨kb, wb'⟩ := gb_r T1 r1 B2
    obtain ⟨kg, wg⟩ := gb_r T1 r1 B1
    refine s_same hF hp1 rfl rfl T1 r1 sq1 kg wg (by omega) (G1.1 _ _ B1).1 kb wb' (by omega) (G1.1 _ _ B2).1 (fun o2 T2 i2 f2 => ?_)
    have sq2 := sq_sy nice_0 T1 r1 f2 sq1
    have G2 := gaw_sy nice_0 (fun _ => rfl) T1 r1 f2 (fun j => Or.inl (no5 (by decide))) G1
    have B3 := (gb_sy nice_0 rfl T1 r1 f2).mp B2
    have go : ∀ t : Int32, Sat (nm (x4 + t) fun v_1 => nm (x5 + (1 : Int32)) fun v_2 => sX15_game_88 F f o2.2 x0 x1 x2 b v_1 v_2) (MkI ρ c (-2147483648) 2147483647 (GaY zq Bq x0)) := fun t => by
      refine s_q (fun u eu => ?_)
      refine s_q (fun v ev => ?_)
      have ev2 : v.toInt = x5.toInt + 1 := by rw [ev]; exact (nc_s i5 (by decide)).2
      exact mI_ext X1 (ih hp1 T2 r1 i1 sq2 G2 B3 (by omega) (by have := i5.2; omega))
    exact s_br (fun _ => go 0) (fun _ => go 1)
theorem game_w (hF : 700000 ≤ F) (hp : ∀ k w i, SY gmE2 (is 2528) g2 k w i = true → cPm c k w i = true) (T : TH ρ c h) (r0 : ρ x0 = 16) (sq : SqOk x0 h) (G : GaY zq Bq x0 h) : Sat (sX15_game F h x0 x1 x2) (MkI ρ c (-2147483648) 2147483647 (GaY zq Bq x0)) := by
  unfold sX15_game
  refine s_dP0 (zX15_isGame hF T (rg_top _)) (fun oo eb e ii pp => ?_)
  rw [e]
  unfold sX15_game_4 sX15_game_16
  have ex : ∀ {y : Int32}, Sat (some (y, h)) (MkI ρ c (-2147483648) 2147483647 (GaY zq Bq x0)) := s_some ⟨ρ, c, ex_0, T, rg_top _, G⟩
  refine s_br (fun _ => ex) (fun nz => ?_)
  have i1 := pp nz
  refine s_br (fun _ => ex) (fun _ => ?_)
  refine s_br (fun _ => ?_) (fun _ => ex)
  refine s_played T r0 i1 (fun r er qr => ?_)
  refine s_br (fun _ => ex) (fun n1 => ?_)
  refine s_played T r0 i1 (fun r' er' qr' => ?_)
  have : r' = r := r_eq er er'
  subst this
  have i2 : Rg 0 300 (hI h r' x1.toNatClampNeg) := rg_nlo n1 (thI T qr' (k := 94) (lo := -1) (hi := 300) rfl) (rg_b rfl : Rg (-1) (-1) (-1 : Int32))
  refine s_gamew hp (fun _ => gm2_t) T r0 i1 i2 G (fun o3 ρ1 c1 X1 T1 f1 G1 B1 _ => ?_)
  have r1 := ex_r X1 r0 (by decide)
  have hp1 := ex_hp X1 hp
  have sq1 := sq_sy nice_92 T r0 f1 sq
  unfold sX15_game_43
  refine s_br (fun _ => ?_) (fun _ => ?_)
  · exact s_played T1 r1 i1 (fun r9 er9 qr9 => s_some ⟨ρ1, c1, X1, T1, rg_top _, G1⟩)
  refine s_br (fun _ => ?_) (fun _ => ?_)
  · obtain ⟨ls, els, qls⟩ := thR T1 r1 (i := 30) (k2 := 14) rfl (by decide)
    refine s_ref els ?_
    refine s_legalGw hF hp1 rfl rfl T1 r1 sq1 G1 B1 els (fun o4 T4 f4 sq4 G4 B4 el4 mv4 _ => ?_)
    unfold sX15_game_69 sX15_game_81
    refine s_ref el4 ?_
    obtain ⟨kg, wg⟩ := gb_r T4 r1 B4
    have hn : ∀ k w i, SY noE no no k w i = true → cPm c1 k w i = true := fun k w i m => hp1 k w i (sy_sub (fun _ _ z => noE_f z) (fun _ z => no_f z) (fun _ z => no_f z) m)
    refine s_cIf T4 hn (zX15_endedBy hF (pmA_s (syA (sx_c _)) rfl) rfl (th_in _ T4) r1 kg (thI T4 qls (k := 14) (i := 0) (lo := 0) (hi := 3000) rfl)) (fun o5 T5 i5 f5 => ?_)
    exact s_some ⟨ρ1, c1, X1, T5, rg_top _, gaw_sy nice_0 (fun _ => rfl) T4 r1 f5 (fun j => Or.inl rfl) G4⟩
  · exact mI_ext X1 (game_loopw hF F hp1 T1 r1 i1 sq1 G1 B1 (by decide) (by show (301 - (0 : Int)).toNat < F; omega))
/-- what the book's loops keep -/
def BQw (zq : Nat) (Bq : Nat × Nat) (x0 pi pb : Nat) (h : Hp) : Prop := SqOk x0 h ∧ GaY zq Bq x0 h ∧ BK x0 pi pb h
theorem book_inw (hF : 700000 ≤ F) {K : Hp → Nat → Int32 → Int32 → Int32 → Int32 → Option (Int32 × Hp)} {pb : Nat} {x1 x2 x4 : Int32} (ip : Rg 0 59 x1) (i4 : Rg 0 7 x4)
    (R : ∀ {ρ : Nat → Nat} {c : Cm} {h : Hp} {x3 v : Int32}, (∀ k w i, SY gmE2 (is 2528) g2 k w i = true → cPm c k w i = true) → TH ρ c h → ρ x0 = 16 → BQw zq Bq x0 x1.toNatClampNeg pb h → v.toInt = x4.toInt + 1 → Sat (K h x0 x1 x2 x3 v) (MkI ρ c (-2147483648) 2147483647 (GaY zq Bq x0))) :
    ∀ (f : Nat) {ρ : Nat → Nat} {c : Cm} {h : Hp} {x3 x5 : Int32}, (∀ k w i, SY gmE2 (is 2528) g2 k w i = true → cPm c k w i = true) → TH ρ c h → ρ x0 = 16 → BQw zq Bq x0 x1.toNatClampNeg pb h → 0 ≤ x5.toInt → (301 - x5.toInt).toNat < f → Sat (sX15_book_48 F K f h x0 x1 x2 x3 x4 x5) (MkI ρ c (-2147483648) 2147483647 (GaY zq Bq x0)) := by
  intro f
  induction f with
  | zero => intros; omega
  | succ f ih =>
    intro ρ c h x3 x5 hp T r0 W a5 hf
    obtain ⟨sq, G, B⟩ := W
    rw [sX15_book_48]
    have up : ∀ {x3 : Int32}, Sat (sX15_book_141 F K h x0 x1 x2 x3 x4) (MkI ρ c (-2147483648) 2147483647 (GaY zq Bq x0)) := fun {x3} => by
      unfold sX15_book_141
      refine s_q (fun v ev => ?_)
      exact R hp T r0 ⟨sq, G, B⟩ (by rw [ev]; exact (nc_s i4 (by decide)).2)
    refine s_played T r0 i4 (fun r er qr => ?_)
    refine s_br (fun _ => up) (fun n1 => ?_)
    have l5 := nlt_i n1
    have p300 := thI T qr (k := 94) (i := x4.toNatClampNeg) (lo := -1) (hi := 300) rfl
    have i5 : Rg 0 300 x5 := ⟨a5, by have := p300.2; omega⟩
    have on : ∀ {ρ2 : Nat → Nat} {c2 : Cm} {g : Hp} {x3 : Int32}, Ext ρ c ρ2 c2 → TH ρ2 c2 g → BQw zq Bq x0 x1.toNatClampNeg pb g → Sat (sX15_book_135 F K (sX15_book_48 F K f) g x0 x1 x2 x3 x4 x5) (MkI ρ c (-2147483648) 2147483647 (GaY zq Bq x0)) := fun {ρ2 c2 g x3} Y T2 W2 => by
      unfold sX15_book_135
      refine s_q (fun v ev => ?_)
      have ev2 : v.toInt = x5.toInt + 1 := by rw [ev]; exact (nc_s i5 (by decide)).2
      exact mI_ext Y (ih (ex_hp Y hp) T2 (ex_r Y r0 (by decide)) W2 (by omega) (by have := i5.2; omega))
    have go : Sat (sX15_book_106 F K (sX15_book_48 F K f) h x0 x1 x2 x3 x4 x5) (MkI ρ c (-2147483648) 2147483647 (GaY zq Bq x0)) := by
      unfold sX15_book_106
      refine s_gamew hp (fun _ => gm2_t) T r0 i4 i5 G (fun o1 ρ1 c1 X1 T1 f1 G1 B1 _ => ?_)
      have r1 := ex_r X1 r0 (by decide)
      have hp1 := ex_hp X1 hp
      have sq1 := sq_sy nice_92 T r0 f1 sq
      have BK1 := bk_sy nice_92 (fun _ => rfl) T r0 f1 rfl B
      obtain ⟨kb, wb'⟩ := bk_r T1 r1 BK1
      obtain ⟨kg, wg⟩ := gb_r T1 r1 B1
      have PB : PE pb o1.2 := by obtain ⟨_, _, _, q⟩ := BK1; exact q
      unfold sX15_book_116
      refine s_bk T1 r1 ip BK1 ?_
      refine s_same hF hp1 rfl rfl T1 r1 sq1 kg wg (by omega) (G1.1 _ _ B1).1 kb wb' (by decide) PB (fun o2 T2 i2 f2 => ?_)
      have W2 : BQw zq Bq x0 x1.toNatClampNeg pb o2.2 := ⟨sq_sy nice_0 T1 r1 f2 sq1, gaw_sy nice_0 (fun _ => rfl) T1 r1 f2 (fun j => Or.inl (no5 (by decide))) G1, bk_sy nice_0 (fun _ => rfl) T1 r1 f2 rfl BK1⟩
      unfold sX15_book_125 sX15_book_133
      exact s_br (fun _ => s_q (fun v ev => on X1 T2 W2)) (fun _ => s_q (fun v ev => on X1 T2 W2))
    refine s_played T r0 i4 (fun r' er' qr' => ?_)
    refine s_br (fun _ => up) (fun n2 => ?_)
    refine s_br (fun _ => go) (fun n3 => ?_)
    refine s_played T r0 i4 (fun r2 er2 qr2 => ?_)
    refine s_br (fun _ => on ex_0 T ⟨sq, G, B⟩) (fun n4 => ?_)
    obtain ⟨gm, egm, qgm⟩ := thR T r0 (i := 38) (k2 := 93) rfl (by decide)
    refine s_ref egm ?_
    refine s_gd (by rw [thN T qgm (k := 93) (n := 2408) rfl (by decide)]; exact rg_inB (gi_r i4 i5) (by decide)) ?_
    exact s_br (fun _ => go) (fun _ => on ex_0 T ⟨sq, G, B⟩)
theorem book_outw (hF : 700000 ≤ F) {pb : Nat} {x1 x2 : Int32} (ip : Rg 0 59 x1) : ∀ (f : Nat) {ρ : Nat → Nat} {c : Cm} {h : Hp} {x3 x4 : Int32}, (∀ k w i, SY gmE2 (is 2528) g2 k w i = true → cPm c k w i = true) → TH ρ c h → ρ x0 = 16 → BQw zq Bq x0 x1.toNatClampNeg pb h → 0 ≤ x4.toInt → (8 - x4.toInt).toNat < f → Sat (sX15_book_38 F f h x0 x1 x2 x3 x4) (MkI ρ c (-2147483648) 2147483647 (GaY zq Bq x0)) := by
  intro f
  induction f with
  | zero => intros; omega
  | succ f ih =>
    intro ρ c h x3 x4 hp T r0 W a4 hf
    rw [sX15_book_38]
    refine s_br (fun _ => s_some ⟨ρ, c, ex_0, T, rg_top _, W.2.1⟩) (fun n1 => ?_)
    have l4 : x4.toInt < 8 := nle_i n1
    exact book_inw hF ip ⟨a4, by omega⟩ (fun {ρ2 c2 g y v} hp2 T2 r2 W2 ev => ih hp2 T2 r2 W2 (by omega) (by omega)) F hp T r0 W (by decide) (by show (301 - (0 : Int)).toNat < F; omega)
theorem book_w (hF : 700000 ≤ F) (hp : ∀ k w i, SY gmE2 (is 2528) g2 k w i = true → cPm c k w i = true) (T : TH ρ c h) (r0 : ρ x0 = 16) (bd : BdP x0 h) (sq : SqOk x0 h) (G : GaY zq Bq x0 h) : Sat (sX15_book F h x0 x1 x2) (MkI ρ c (-2147483648) 2147483647 (GaY zq Bq x0)) := by
  unfold sX15_book
  have hs : ∀ k w i, SY noE (is 2528) (is 2530) k w i = true → cPm c k w i = true := fun k w i m => hp k w i (sy_sub (fun _ _ z => noE_f z) (fun _ z => z) (fun w z => by rw [is_e z]; rfl) m)
  refine s_cIfq T hs (zX15_moves hF (pmA_s (syA (sx_c _)) rfl) (pmO_s (syB (sx_c _) is_s) rfl) (pmO_s (syM (sx_c _) is_s) rfl) (th_in _ T) r0 (rg_top _) bd sq) (fun o1 T1 i1 f1 p1 => ?_)
  have sq1 := sq_sy nice_0 T r0 f1 sq
  have G1 := gaw_sy nice_0 (fun _ => rfl) T r0 f1 (fun j => Or.inl (no5 (by decide))) G
  unfold sX15_book_5 sX15_book_30 sX15_book_33
  have ex : ∀ {y : Int32}, Sat (some (y, o1.2)) (MkI ρ c (-2147483648) 2147483647 (GaY zq Bq x0)) := s_some ⟨ρ, c, ex_0, T1, rg_top _, G1⟩
  refine s_br (fun _ => ex) (fun nz => ?_)
  have nz' : ¬ o1.1.toInt = -102 := ne_i nz
  have ip : Rg 0 59 x1 := p1.1.resolve_left nz'
  obtain ⟨b, B1⟩ := bk_of T1 r0 (mp_hb (p1.2 nz'))
  have go : Sat (sX15_book_38 F F o1.2 x0 x1 x2 0 0) (MkI ρ c (-2147483648) 2147483647 (GaY zq Bq x0)) := book_outw hF ip F hp T1 r0 ⟨sq1, G1, B1⟩ (by decide) (by show (8 - (0 : Int)).toNat < F; omega)
  refine s_br (fun _ => go) (fun _ => ?_)
  refine s_br (fun _ => ex) (fun _ => ?_)
  obtain ⟨ls, els, qls⟩ := thR T1 r0 (i := 30) (k2 := 14) rfl (by decide)
  refine s_ref els ?_
  exact s_br (fun _ => go) (fun _ => ex)
end
