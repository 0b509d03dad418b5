section
section
variable {ρ : Nat → Nat} {c : Cm} {h o : Hp} {E : Nat → Nat → Bool} {wb wl : Nat → Bool} {x0 d b l w i F : Nat} {x1 x2 : Int32}
def saB : Nat → Bool := fun w => w == 2528
/-- boards are held against each other -/
theorem s_same {β : Type} {Q : β → Prop} {k : Int32 × Hp → Option β} {y : Nat} {wx wy : Nat} (hF : 700000 ≤ F) (hp : ∀ k w i, SY E wb wl k w i = true → cPm c k w i = true) (h1 : wb 2528 = true) (h3 : wl 2531 = true) (T : TH ρ c h) (r0 : ρ x0 = 16) (sq : SqOk x0 h) (rb : ρ b = 13) (eb : cw c b = wx) (nb : wx ≠ 2528) (P : PE b h) (ry : ρ y = 13) (ey : cw c y = wy) (ny : wy ≠ 2528) (Py : PE y h) (H : ∀ o, TH ρ c o.2 → Rg 0 1 o.1 → Fr ρ (cat c (SY noE (is 2528) (is 2531)) h) h o.2 → Sat (k o) Q) : Sat (cl (sX15_isSame F h x0 b y) k) Q := by
  have hs : ∀ k w i, SY noE (is 2528) (is 2531) k w i = true → cPm c k w i = true := fun k w i m => hp k w i (sy_sub (fun _ _ z => noE_f z) (fun w z => by rw [is_e z]; exact h1) (fun w z => by rw [is_e z]; exact h3) m)
  exact s_cIf T hs (zX15_isSame hF (pmA_s (syA (sx_c _)) rfl) (pmO_s (syB (sx_c _) is_s) rfl) (pmO_s (w := 2531) (syM (sx_c _) is_s) rfl) eb ey nb ny (th_in _ T) r0 rb ry sq P Py) H
def g2 : Nat → Bool := fun w => w == 2530 || w == 2531
theorem game_loop (hF : 700000 ≤ F) : ∀ (f : Nat) {ρ : Nat → Nat} {c : Cm} {h : Hp} {b i : Nat} {x1 x2 x4 x5 : Int32}, (∀ k w i, SY gmE (is 2528) g2 k w i = true → cPm c k w i = true) → TH ρ c h → ρ x0 = 16 → Rg 0 7 x1 → SqOk x0 h → GaP x0 h → Gb x0 i b h → 0 ≤ x5.toInt → (301 - x5.toInt).toNat < f → Sat (sX15_game_88 F f h x0 x1 x2 b x4 x5) (MkI ρ c (-2147483648) 2147483647 (GaP x0)) := by
  intro f
  induction f with
  | zero => intros; omega
  | succ f ih =>
    intro ρ c h b i x1 x2 x4 x5 hp T r0 i1 sq G B a5 hf
    rw [sX15_game_88]
    unfold sX15_game_160 sX15_game_155 sX15_game_109 sX15_game_113 sX15_game_121
    have ex : ∀ {y : Int32}, Sat (some (y, h)) (MkI ρ c (-2147483648) 2147483647 (GaP x0)) := s_some ⟨ρ, c, ex_0, T, rg_top _, G⟩
    refine s_played T r0 i1 (fun r er qr => ?_)
    refine s_br (fun _ => s_br (fun _ => ex) (fun _ => s_br (fun _ => ex) (fun _ => s_br (fun _ => ex) (fun _ => ex)))) (fun n1 => ?_)
    have l5 := nlt_i n1
    have p300 := thI T qr (k := 94) (i := x1.toNatClampNeg) (lo := -1) (hi := 300) rfl
    have i5 : Rg 0 300 x5 := ⟨a5, by have := p300.2; omega⟩
    refine s_game hp (fun _ => rfl) T r0 i1 i5 G (fun o1 ρ1 c1 X1 T1 f1 G1 B1 kp => ?_)
    have r1 := ex_r X1 r0 (by decide)
    have hp1 := ex_hp X1 hp
    have sq1 := sq_sy nice_92 T r0 f1 sq
    have B2 := kp _ _ B
    obtain ⟨kb, wb'⟩ := gb_r T1 r1 B2
    obtain ⟨kg, wg⟩ := gb_r T1 r1 B1
    refine s_same hF hp1 rfl rfl T1 r1 sq1 kg wg (by omega) (G1 _ _ B1) kb wb' (by omega) (G1 _ _ B2) (fun o2 T2 i2 f2 => ?_)
    have sq2 := sq_sy nice_0 T1 r1 f2 sq1
    have G2 := ga_sy nice_0 (fun _ => rfl) T1 r1 f2 (fun j => Or.inl (no5 (by decide))) G1
    have B3 := (gb_sy nice_0 rfl T1 r1 f2).mp B2
    have go : ∀ t : Int32, Sat (nm (x4 + t) fun v_1 => nm (x5 + (1 : Int32)) fun v_2 => sX15_game_88 F f o2.2 x0 x1 x2 b v_1 v_2) (MkI ρ c (-2147483648) 2147483647 (GaP x0)) := fun t => by
      refine s_q (fun u eu => ?_)
      refine s_q (fun v ev => ?_)
      have ev2 : v.toInt = x5.toInt + 1 := by rw [ev]; exact (nc_s i5 (by decide)).2
      exact mI_ext X1 (ih hp1 T2 r1 i1 sq2 G2 B3 (by omega) (by have := i5.2; omega))
    exact s_br (fun _ => go 0) (fun _ => go 1)
theorem zX15_game (hF : 700000 ≤ F) (hp : ∀ k w i, SY gmE (is 2528) g2 k w i = true → cPm c k w i = true) (T : TH ρ c h) (r0 : ρ x0 = 16) (sq : SqOk x0 h) (G : GaP x0 h) : Sat (sX15_game F h x0 x1 x2) (MkI ρ c (-2147483648) 2147483647 (GaP x0)) := by
  unfold sX15_game
  refine s_dP0 (zX15_isGame hF T (rg_top _)) (fun oo eb e ii pp => ?_)
  rw [e]
  unfold sX15_game_4 sX15_game_16
  have ex : ∀ {y : Int32}, Sat (some (y, h)) (MkI ρ c (-2147483648) 2147483647 (GaP x0)) := s_some ⟨ρ, c, ex_0, T, rg_top _, G⟩
  refine s_br (fun _ => ex) (fun nz => ?_)
  have i1 := pp nz
  refine s_br (fun _ => ex) (fun _ => ?_)
  refine s_br (fun _ => ?_) (fun _ => ex)
  refine s_played T r0 i1 (fun r er qr => ?_)
  refine s_br (fun _ => ex) (fun n1 => ?_)
  refine s_played T r0 i1 (fun r' er' qr' => ?_)
  have : r' = r := r_eq er er'
  subst this
  have i2 : Rg 0 300 (hI h r' x1.toNatClampNeg) := rg_nlo n1 (thI T qr' (k := 94) (lo := -1) (hi := 300) rfl) (rg_b rfl : Rg (-1) (-1) (-1 : Int32))
  refine s_game hp (fun _ => rfl) T r0 i1 i2 G (fun o3 ρ1 c1 X1 T1 f1 G1 B1 _ => ?_)
  have r1 := ex_r X1 r0 (by decide)
  have hp1 := ex_hp X1 hp
  have sq1 := sq_sy nice_92 T r0 f1 sq
  unfold sX15_game_43
  refine s_br (fun _ => ?_) (fun _ => ?_)
  · exact s_played T1 r1 i1 (fun r9 er9 qr9 => s_some ⟨ρ1, c1, X1, T1, rg_top _, G1⟩)
  refine s_br (fun _ => ?_) (fun _ => ?_)
  · obtain ⟨ls, els, qls⟩ := thR T1 r1 (i := 30) (k2 := 14) rfl (by decide)
    refine s_ref els ?_
    refine s_legalG hF hp1 rfl rfl T1 r1 sq1 G1 B1 els (fun o4 T4 f4 sq4 G4 B4 el4 mv4 => ?_)
    unfold sX15_game_69 sX15_game_81
    refine s_ref el4 ?_
    obtain ⟨kg, wg⟩ := gb_r T4 r1 B4
    have hn : ∀ k w i, SY noE no no k w i = true → cPm c1 k w i = true := fun k w i m => hp1 k w i (sy_sub (fun _ _ z => noE_f z) (fun _ z => no_f z) (fun _ z => no_f z) m)
    refine s_cIf T4 hn (zX15_endedBy hF (pmA_s (syA (sx_c _)) rfl) rfl (th_in _ T4) r1 kg (thI T4 qls (k := 14) (i := 0) (lo := 0) (hi := 3000) rfl)) (fun o5 T5 i5 f5 => ?_)
    exact s_some ⟨ρ1, c1, X1, T5, rg_top _, ga_sy nice_0 (fun _ => rfl) T4 r1 f5 (fun j => Or.inl rfl) G4⟩
  · exact mI_ext X1 (game_loop hF F hp1 T1 r1 i1 sq1 G1 B1 (by decide) (by show (301 - (0 : Int)).toNat < F; omega))
/-- what the book's loops keep -/
def BQ (x0 pi pb : Nat) (h : Hp) : Prop := SqOk x0 h ∧ GaP x0 h ∧ BK x0 pi pb h
theorem book_in (hF : 700000 ≤ F) {K : Hp → Nat → Int32 → Int32 → Int32 → Int32 → Option (Int32 × Hp)} {pb : Nat} {x1 x2 x4 : Int32} (ip : Rg 0 59 x1) (i4 : Rg 0 7 x4)
    (R : ∀ {ρ : Nat → Nat} {c : Cm} {h : Hp} {x3 v : Int32}, (∀ k w i, SY gmE (is 2528) g2 k w i = true → cPm c k w i = true) → TH ρ c h → ρ x0 = 16 → BQ x0 x1.toNatClampNeg pb h → v.toInt = x4.toInt + 1 → Sat (K h x0 x1 x2 x3 v) (MkI ρ c (-2147483648) 2147483647 (GaP x0))) :
    ∀ (f : Nat) {ρ : Nat → Nat} {c : Cm} {h : Hp} {x3 x5 : Int32}, (∀ k w i, SY gmE (is 2528) g2 k w i = true → cPm c k w i = true) → TH ρ c h → ρ x0 = 16 → BQ x0 x1.toNatClampNeg pb h → 0 ≤ x5.toInt → (301 - x5.toInt).toNat < f → Sat (sX15_book_48 F K f h x0 x1 x2 x3 x4 x5) (MkI ρ c (-2147483648) 2147483647 (GaP x0)) := by
  intro f
  induction f with
  | zero => intros; omega
  | succ f ih =>
    intro ρ c h x3 x5 hp T r0 W a5 hf
    obtain ⟨sq, G, B⟩ := W
    rw [sX15_book_48]
    have up : ∀ {x3 : Int32}, Sat (sX15_book_141 F K h x0 x1 x2 x3 x4) (MkI ρ c (-2147483648) 2147483647 (GaP x0)) := fun {x3} => by
      unfold sX15_book_141
      refine s_q (fun v ev => ?_)
      exact R hp T r0 ⟨sq, G, B⟩ (by rw [ev]; exact (nc_s i4 (by decide)).2)
    refine s_played T r0 i4 (fun r er qr => ?_)
    refine s_br (fun _ => up) (fun n1 => ?_)
    have l5 := nlt_i n1
    have p300 := thI T qr (k := 94) (i := x4.toNatClampNeg) (lo := -1) (hi := 300) rfl
    have i5 : Rg 0 300 x5 := ⟨a5, by have := p300.2; omega⟩
    have on : ∀ {ρ2 : Nat → Nat} {c2 : Cm} {g : Hp} {x3 : Int32}, Ext ρ c ρ2 c2 → TH ρ2 c2 g → BQ x0 x1.toNatClampNeg pb g → Sat (sX15_book_135 F K (sX15_book_48 F K f) g x0 x1 x2 x3 x4 x5) (MkI ρ c (-2147483648) 2147483647 (GaP x0)) := fun {ρ2 c2 g x3} Y T2 W2 => by
      unfold sX15_book_135
      refine s_q (fun v ev => ?_)
      have ev2 : v.toInt = x5.toInt + 1 := by rw [ev]; exact (nc_s i5 (by decide)).2
      exact mI_ext Y (ih (ex_hp Y hp) T2 (ex_r Y r0 (by decide)) W2 (by omega) (by have := i5.2; omega))
    have go : Sat (sX15_book_106 F K (sX15_book_48 F K f) h x0 x1 x2 x3 x4 x5) (MkI ρ c (-2147483648) 2147483647 (GaP x0)) := by
      unfold sX15_book_106
      refine s_game hp (fun _ => rfl) T r0 i4 i5 G (fun o1 ρ1 c1 X1 T1 f1 G1 B1 _ => ?_)
      have r1 := ex_r X1 r0 (by decide)
      have hp1 := ex_hp X1 hp
      have sq1 := sq_sy nice_92 T r0 f1 sq
      have BK1 := bk_sy nice_92 (fun _ => rfl) T r0 f1 rfl B
      obtain ⟨kb, wb'⟩ := bk_r T1 r1 BK1
      obtain ⟨kg, wg⟩ := gb_r T1 r1 B1
      have PB : PE pb o1.2 := by obtain ⟨_, _, _, q⟩ := BK1; exact q
      unfold sX15_book_116
      refine s_bk T1 r1 ip BK1 ?_
      refine s_same hF hp1 rfl rfl T1 r1 sq1 kg wg (by omega) (G1 _ _ B1) kb wb' (by decide) PB (fun o2 T2 i2 f2 => ?_)
      have W2 : BQ x0 x1.toNatClampNeg pb o2.2 := ⟨sq_sy nice_0 T1 r1 f2 sq1, ga_sy nice_0 (fun _ => rfl) T1 r1 f2 (fun j => Or.inl (no5 (by decide))) G1, bk_sy nice_0 (fun _ => rfl) T1 r1 f2 rfl BK1⟩
      unfold sX15_book_125 sX15_book_133
      exact s_br (fun _ => s_q (fun v ev => on X1 T2 W2)) (fun _ => s_q (fun v ev => on X1 T2 W2))
    refine s_played T r0 i4 (fun r' er' qr' => ?_)
    refine s_br (fun _ => up) (fun n2 => ?_)
    refine s_br (fun _ => go) (fun n3 => ?_)
    refine s_played T r0 i4 (fun r2 er2 qr2 => ?_)
    refine s_br (fun _ => on ex_0 T ⟨sq, G, B⟩) (fun n4 => ?_)
    obtain ⟨gm, egm, qgm⟩ := thR T r0 (i := 38) (k2 := 93) rfl (by decide)
    refine s_ref egm ?_
    refine s_gd (by rw [thN T qgm (k := 93) (n := 2408) rfl (by decide)]; exact rg_inB (gi_r i4 i5) (by decide)) ?_
    exact s_br (fun _ => go) (fun _ => on ex_0 T ⟨sq, G, B⟩)
theorem book_out (hF : 700000 ≤ F) {pb : Nat} {x1 x2 : Int32} (ip : Rg 0 59 x1) : ∀ (f : Nat) {ρ : Nat → Nat} {c : Cm} {h : Hp} {x3 x4 : Int32}, (∀ k w i, SY gmE (is 2528) g2 k w i = true → cPm c k w i = true) → TH ρ c h → ρ x0 = 16 → BQ x0 x1.toNatClampNeg pb h → 0 ≤ x4.toInt → (8 - x4.toInt).toNat < f → Sat (sX15_book_38 F f h x0 x1 x2 x3 x4) (MkI ρ c (-2147483648) 2147483647 (GaP x0)) := by
  intro f
  induction f with
  | zero => intros; omega
  | succ f ih =>
    intro ρ c h x3 x4 hp T r0 W a4 hf
    rw [sX15_book_38]
    refine s_br (fun _ => s_some ⟨ρ, c, ex_0, T, rg_top _, W.2.1⟩) (fun n1 => ?_)
    have l4 : x4.toInt < 8 := nle_i n1
    exact book_in hF ip ⟨a4, by omega⟩ (fun {ρ2 c2 g y v} hp2 T2 r2 W2 ev => ih hp2 T2 r2 W2 (by omega) (by omega)) F hp T r0 W (by decide) (by show (301 - (0 : Int)).toNat < F; omega)
theorem zX15_book (hF : 700000 ≤ F) (hp : ∀ k w i, SY gmE (is 2528) g2 k w i = true → cPm c k w i = true) (T : TH ρ c h) (r0 : ρ x0 = 16) (bd : BdP x0 h) (sq : SqOk x0 h) (G : GaP x0 h) : Sat (sX15_book F h x0 x1 x2) (MkI ρ c (-2147483648) 2147483647 (GaP x0)) := by
  unfold sX15_book
  have hs : ∀ k w i, SY noE (is 2528) (is 2530) k w i = true → cPm c k w i = true := fun k w i m => hp k w i (sy_sub (fun _ _ z => noE_f z) (fun _ z => z) (fun w z => by rw [is_e z]; rfl) m)
  refine s_cIfq T hs (zX15_moves hF (pmA_s (syA (sx_c _)) rfl) (pmO_s (syB (sx_c _) is_s) rfl) (pmO_s (syM (sx_c _) is_s) rfl) (th_in _ T) r0 (rg_top _) bd sq) (fun o1 T1 i1 f1 p1 => ?_)
  have sq1 := sq_sy nice_0 T r0 f1 sq
  have G1 := ga_sy nice_0 (fun _ => rfl) T r0 f1 (fun j => Or.inl (no5 (by decide))) G
  unfold sX15_book_5 sX15_book_30 sX15_book_33
  have ex : ∀ {y : Int32}, Sat (some (y, o1.2)) (MkI ρ c (-2147483648) 2147483647 (GaP x0)) := s_some ⟨ρ, c, ex_0, T1, rg_top _, G1⟩
  refine s_br (fun _ => ex) (fun nz => ?_)
  have nz' : ¬ o1.1.toInt = -102 := ne_i nz
  have ip : Rg 0 59 x1 := p1.1.resolve_left nz'
  obtain ⟨b, B1⟩ := bk_of T1 r0 (mp_hb (p1.2 nz'))
  have go : Sat (sX15_book_38 F F o1.2 x0 x1 x2 0 0) (MkI ρ c (-2147483648) 2147483647 (GaP x0)) := book_out hF ip F hp T1 r0 ⟨sq1, G1, B1⟩ (by decide) (by show (8 - (0 : Int)).toNat < F; omega)
  refine s_br (fun _ => go) (fun _ => ?_)
  refine s_br (fun _ => ex) (fun _ => ?_)
  obtain ⟨ls, els, qls⟩ := thR T1 r0 (i := 30) (k2 := 14) rfl (by decide)
  refine s_ref els ?_
  exact s_br (fun _ => go) (fun _ => ex)
end
end
section
def poH (h : Hp) : Hp := (wR (nC (wR (nC (wR (nC (wR (nC (wR (nC (nC h 3 0 11) 16 (64 : Int32).toNatClampNeg (64 : Int32).toNatClampNeg) (hS h) 0 (some (hS h + 1))) 18 (2 : Int32).toNatClampNeg (2 : Int32).toNatClampNeg) (hS h) 1 (some (hS h + 2))) 17 (2 : Int32).toNatClampNeg (2 : Int32).toNatClampNeg) (hS h) 2 (some (hS h + 3))) 18 (2 : Int32).toNatClampNeg (2 : Int32).toNatClampNeg) (hS h) 3 (some (hS h + 4))) 17 (2 : Int32).toNatClampNeg (2 : Int32).toNatClampNeg) (hS h) 4 (some (hS h + 5)))
theorem poH_1 (h : Hp) : (poH h).1 = (h.1.1 + 6, h.1.2 + 83) := by
  show (h.1.1 + 1 + 1 + 1 + 1 + 1 + 1, h.1.2 + 11 + (64 : Int32).toNatClampNeg + (2 : Int32).toNatClampNeg + (2 : Int32).toNatClampNeg + (2 : Int32).toNatClampNeg + (2 : Int32).toNatClampNeg) = _
  generalize hx2 : (2 : Int32).toNatClampNeg = y2
  have e2 : y2 = 2 := by rw [← hx2]; decide
  generalize hx64 : (64 : Int32).toNatClampNeg = y64
  have e64 : y64 = 64 := by rw [← hx64]; decide
  exact congr (congrArg Prod.mk (by omega)) (by omega)
theorem poH_o (h : Hp) : Old h (poH h) := fun b hb => by
  have nn : ∀ k, b ≠ hS h + k := fun k q => by
    have : hS h = h.1.1 := rfl
    omega
  have n0 : b ≠ hS h := nn 0
  refine ⟨fun i => ?_, fun i => ?_, fun i => ?_, ?_⟩
  · have := n0; have a1 := nn 1; have a2 := nn 2; have a3 := nn 3; have a4 := nn 4; have a5 := nn 5
    simp [hS] at this a1 a2 a3 a4 a5
    simp [poH, hI, hJ, hR, hN, nC, wR, va_up, hS, *]
  · have := n0; have a1 := nn 1; have a2 := nn 2; have a3 := nn 3; have a4 := nn 4; have a5 := nn 5
    simp [hS] at this a1 a2 a3 a4 a5
    simp [poH, hI, hJ, hR, hN, nC, wR, va_up, hS, *]
  · have := n0; have a1 := nn 1; have a2 := nn 2; have a3 := nn 3; have a4 := nn 4; have a5 := nn 5
    simp [hS] at this a1 a2 a3 a4 a5
    simp [poH, hI, hJ, hR, hN, nC, wR, va_up, hS, *]
  · have := n0; have a1 := nn 1; have a2 := nn 2; have a3 := nn 3; have a4 := nn 4; have a5 := nn 5
    simp [hS] at this a1 a2 a3 a4 a5
    simp [poH, hI, hJ, hR, hN, nC, wR, va_up, hS, *]
theorem z4I (i : Nat) : Rg (rgI 4 i).1 (rgI 4 i).2 0 := by
  show Rg (rgO4 i).1 (rgO4 i).2 0
  unfold rgO4; split <;> exact rg_b rfl
theorem z4K (i : Nat) (h : rfK 4 i ≠ 0) : i = 0 ∨ i = 1 ∨ i = 2 ∨ i = 3 ∨ i = 4 := by
  unfold rfK at h; split at h <;> simp_all
theorem poH_I (h : Hp) (k i : Nat) (hk : k < 6) : hI (poH h) (h.1.1 + k) i = 0 := by
  match k, hk with
  | 0, _ | 1, _ | 2, _ | 3, _ | 4, _ | 5, _ => simp [poH, hI, nC, wR, va_up, hS]
theorem poH_J (h : Hp) (k i : Nat) (hk : k < 6) : hJ (poH h) (h.1.1 + k) i = 0 := by
  match k, hk with
  | 0, _ | 1, _ | 2, _ | 3, _ | 4, _ | 5, _ => simp [poH, hJ, nC, wR, va_up, hS]
theorem poH_R (h : Hp) (i : Nat) : hR (poH h) h.1.1 i = if i = 4 then some (h.1.1 + 5) else if i = 3 then some (h.1.1 + 4) else if i = 2 then some (h.1.1 + 3) else if i = 1 then some (h.1.1 + 2) else if i = 0 then some (h.1.1 + 1) else none := by
  have q1 : h.1.1 ≠ h.1.1 + 1 := by omega
  have q2 : h.1.1 ≠ h.1.1 + 1 + 1 := by omega
  have q3 : h.1.1 ≠ h.1.1 + 1 + 1 + 1 := by omega
  have q4 : h.1.1 ≠ h.1.1 + 1 + 1 + 1 + 1 := by omega
  have q5 : h.1.1 ≠ h.1.1 + 1 + 1 + 1 + 1 + 1 := by omega
  simp [poH, hR, nC, wR, va_up, hS, q1, q2, q3, q4, q5]
theorem poH_Ra (h : Hp) (k i : Nat) (h0 : 0 < k) (hk : k < 6) : hR (poH h) (h.1.1 + k) i = none := by
  match k, h0, hk with
  | 1, _, _ | 2, _, _ | 3, _, _ | 4, _, _ | 5, _, _ => simp [poH, hR, nC, wR, va_up, hS]
theorem poH_N (h : Hp) : hN (poH h) (h.1.1 + 1) = 64 ∧ hN (poH h) (h.1.1 + 2) = 2 ∧ hN (poH h) (h.1.1 + 3) = 2 ∧ hN (poH h) (h.1.1 + 4) = 2 ∧ hN (poH h) (h.1.1 + 5) = 2 := by
  refine ⟨?_, ?_, ?_, ?_, ?_⟩ <;> simp [poH, hN, nC, wR, va_up, hS] <;> decide
/-- a new object takes its role, and the holder that is asked for -/
theorem newPosH {ρ : Nat → Nat} {c : Cm} {h : Hp} (T : TH ρ c h) (w : Nat) : ∃ ρ' c', Ext ρ c ρ' c' ∧ TH ρ' c' (poH h) ∧ ρ' (hS h) = 4 ∧ cw c' (hS h) = w ∧ Old h (poH h) := by
  have t1 : h.1 = c.1 := T.1.1
  have lt : ∀ a, ρ a ≠ 0 → a < h.1.1 := fun a ha => by rw [t1]; exact T.2.1.2.2.1 a ha
  obtain ⟨n, hn⟩ : ∃ n, n = h.1.1 := ⟨_, rfl⟩
  obtain ⟨ρ', hρ⟩ : ∃ ρ' : Nat → Nat, ρ' = fun a => if a = n then 4 else if a = n + 1 then 34 else if a = n + 2 then 35 else if a = n + 3 then 36 else if a = n + 4 then 37 else if a = n + 5 then 38 else ρ a := ⟨_, rfl⟩
  have r0 : ρ' n = 4 := by rw [hρ]; simp
  have r1 : ρ' (n + 1) = 34 := by rw [hρ]; simp
  have r2 : ρ' (n + 2) = 35 := by rw [hρ]; simp
  have r3 : ρ' (n + 3) = 36 := by rw [hρ]; simp
  have r4 : ρ' (n + 4) = 37 := by rw [hρ]; simp
  have r5 : ρ' (n + 5) = 38 := by rw [hρ]; simp
  have ro : ∀ a, a < n → ρ' a = ρ a := fun a ha => by
    have u0 : a ≠ n := by omega
    have u1 : a ≠ n + 1 := by omega
    have u2 : a ≠ n + 2 := by omega
    have u3 : a ≠ n + 3 := by omega
    have u4 : a ≠ n + 4 := by omega
    have u5 : a ≠ n + 5 := by omega
    rw [hρ]; simp [u0, u1, u2, u3, u4, u5]
  have rN : ∀ a, n + 6 ≤ a → ρ' a = 0 := fun a ha => by
    have u0 : a ≠ n := by omega
    have u1 : a ≠ n + 1 := by omega
    have u2 : a ≠ n + 2 := by omega
    have u3 : a ≠ n + 3 := by omega
    have u4 : a ≠ n + 4 := by omega
    have u5 : a ≠ n + 5 := by omega
    have z : ρ a = 0 := by
      by_cases q : ρ a = 0
      · exact q
      · have := lt a q; omega
    rw [hρ]; simp [u0, u1, u2, u3, u4, u5, z]
  have five : ∀ a, n ≤ a → a = n ∨ a = n + 1 ∨ a = n + 2 ∨ a = n + 3 ∨ a = n + 4 ∨ a = n + 5 ∨ n + 6 ≤ a := fun a ha => by omega
  have I0 : ∀ k i, k < 6 → hI (poH h) (n + k) i = 0 := fun k i hk => by rw [hn]; exact poH_I h k i hk
  have J0 : ∀ k i, k < 6 → hJ (poH h) (n + k) i = 0 := fun k i hk => by rw [hn]; exact poH_J h k i hk
  have R0 : ∀ i, hR (poH h) n i = if i = 4 then some (n + 5) else if i = 3 then some (n + 4) else if i = 2 then some (n + 3) else if i = 1 then some (n + 2) else if i = 0 then some (n + 1) else none := fun i => by rw [hn]; exact poH_R h i
  have Ra : ∀ k i, 0 < k → k < 6 → hR (poH h) (n + k) i = none := fun k i h0 hk => by rw [hn]; exact poH_Ra h k i h0 hk
  have N0 := poH_N h
  rw [← hn] at N0
  have o1 : (poH h).1.1 = n + 6 := by rw [poH_1, hn]
  have o2 : (poH h).1.2 = h.1.2 + 83 := by rw [poH_1]
  have Rr : ∀ i r, hR (poH h) n i = some r → n ≤ r ∧ r < n + 6 := fun i r hr => by
    rw [R0] at hr
    split at hr
    · have := Option.some.inj hr; omega
    · have _ := hr
      split at hr
      · have := Option.some.inj hr; omega
      · have _ := hr
        split at hr
        · have := Option.some.inj hr; omega
        · have _ := hr
          split at hr
          · have := Option.some.inj hr; omega
          · have _ := hr
            split at hr
            · have := Option.some.inj hr; omega
            · exact absurd hr (by simp)
  obtain ⟨w', hw⟩ : ∃ w' : Nat → Nat, w' = fun a => if n ≤ a then w else cw c a := ⟨_, rfl⟩
  have wn : ∀ a, n ≤ a → w' a = w := fun a ha => by rw [hw]; simp [ha]
  have wo : ∀ a, a < n → w' a = cw c a := fun a ha => by
    have : ¬ n ≤ a := by omega
    rw [hw]; simp [this]
  have TT := adopt T (poH_o h) ρ' w' (by rw [o1]; omega) (by rw [← hn]; exact ro) (by rw [o1]; exact rN) (by rw [← hn]; exact wo)
    (fun a i ha => by
      rw [← hn] at ha
      rcases five a ha with q | q | q | q | q | q | q
      · rw [q, r0, show hI (poH h) n i = 0 from I0 0 i (by decide)]; exact ⟨z4I i, rp0 rfl⟩
      · rw [q, r1, show hI (poH h) (n + 1) i = 0 from I0 1 i (by decide)]; exact ⟨rg_b rfl, rp0 rfl⟩
      · rw [q, r2, show hI (poH h) (n + 2) i = 0 from I0 2 i (by decide)]; exact ⟨rg_b rfl, rp0 rfl⟩
      · rw [q, r3, show hI (poH h) (n + 3) i = 0 from I0 3 i (by decide)]; exact ⟨rg_b rfl, rp0 rfl⟩
      · rw [q, r4, show hI (poH h) (n + 4) i = 0 from I0 4 i (by decide)]; exact ⟨rg_b rfl, rp0 rfl⟩
      · rw [q, r5, show hI (poH h) (n + 5) i = 0 from I0 5 i (by decide)]; exact ⟨rg_b rfl, rp0 rfl⟩
      · rw [rN a q]; exact ⟨rg_top _, rp0 rfl⟩)
    (fun a i ha hk => by
      rw [← hn] at ha
      rcases five a ha with q | q | q | q | q | q | q
      · rw [q, r0] at hk ⊢
        rcases z4K i hk with z | z | z | z | z
        · exact ⟨n + 1, by rw [R0, z]; rfl, by rw [r1, z]; rfl⟩
        · exact ⟨n + 2, by rw [R0, z]; rfl, by rw [r2, z]; rfl⟩
        · exact ⟨n + 3, by rw [R0, z]; rfl, by rw [r3, z]; rfl⟩
        · exact ⟨n + 4, by rw [R0, z]; rfl, by rw [r4, z]; rfl⟩
        · exact ⟨n + 5, by rw [R0, z]; rfl, by rw [r5, z]; rfl⟩
      · rw [q, r1] at hk; exact absurd rfl hk
      · rw [q, r2] at hk; exact absurd rfl hk
      · rw [q, r3] at hk; exact absurd rfl hk
      · rw [q, r4] at hk; exact absurd rfl hk
      · rw [q, r5] at hk; exact absurd rfl hk
      · rw [rN a q] at hk; exact absurd rfl hk)
    (fun a i ha => by
      rw [← hn] at ha
      rcases five a ha with q | q | q | q | q | q | q
      · rw [q, r0]; rfl
      · rw [q, r1]; rfl
      · rw [q, r2]; rfl
      · rw [q, r3]; rfl
      · rw [q, r4]; rfl
      · rw [q, r5]; rfl
      · rw [rN a q]; rfl)
    (fun a ha hk => by
      rw [← hn] at ha
      rcases five a ha with q | q | q | q | q | q | q
      · rw [q, r0] at hk; exact absurd rfl hk
      · rw [q, r1]; exact N0.1
      · rw [q, r2]; exact N0.2.1
      · rw [q, r3]; exact N0.2.2.1
      · rw [q, r4]; exact N0.2.2.2.1
      · rw [q, r5]; exact N0.2.2.2.2
      · rw [rN a q] at hk; exact absurd rfl hk)
    (fun a ha => by
      rw [← hn] at ha
      rcases five a ha with q | q | q | q | q | q | q
      · rw [q, r0]; decide
      · rw [q, r1]; decide
      · rw [q, r2]; decide
      · rw [q, r3]; decide
      · rw [q, r4]; decide
      · rw [q, r5]; decide
      · rw [rN a q]; decide)
    (fun p i r ha hp hi hr => by
      rw [← hn] at ha ⊢
      rcases five p ha with q | q | q | q | q | q | q
      · rw [q] at hr
        have y := Rr i r hr
        refine ⟨y.1, fun d => ?_⟩
        have := J0 (r - n) d (by omega)
        rw [show n + (r - n) = r by omega] at this
        exact this
      · rw [q, r1] at hp; exact absurd hp (by decide)
      · rw [q, r2] at hp; exact absurd hp (by decide)
      · rw [q, r3] at hp; exact absurd hp (by decide)
      · rw [q, r4] at hp; exact absurd hp (by decide)
      · rw [q, r5] at hp; exact absurd hp (by decide)
      · rw [rN p q] at hp; exact absurd hp (by decide))
    (fun p q' i r ha hb hp hp' _ _ _ => by
      have e1 : ∀ p, n ≤ p → ρ' p = 4 → p = n := fun p ha hp => by
        rcases five p ha with q | q | q | q | q | q | q
        · exact q
        · rw [q, r1] at hp; exact absurd hp (by decide)
        · rw [q, r2] at hp; exact absurd hp (by decide)
        · rw [q, r3] at hp; exact absurd hp (by decide)
        · rw [q, r4] at hp; exact absurd hp (by decide)
        · rw [q, r5] at hp; exact absurd hp (by decide)
        · rw [rN p q] at hp; exact absurd hp (by decide)
      rw [← hn] at ha hb
      rw [e1 p ha hp, e1 q' hb hp'])
    (fun a i ha => by
      rw [← hn] at ha
      rcases five a ha with q | q | q | q | q | q | q
      · rw [q, r0]; rfl
      · rw [q, r1]; rfl
      · rw [q, r2]; rfl
      · rw [q, r3]; rfl
      · rw [q, r4]; rfl
      · rw [q, r5]; rfl
      · rw [rN a q]; rfl)
    (fun a ha => by
      rw [← hn] at ha
      rcases five a ha with q | q | q | q | q | q | q
      · rw [q, r0]; rfl
      · rw [q, r1]; rfl
      · rw [q, r2]; rfl
      · rw [q, r3]; rfl
      · rw [q, r4]; rfl
      · rw [q, r5]; rfl
      · rw [rN a q]; rfl)
    (fun a i r ha hi hr => by
      rw [← hn] at ha
      rcases five a ha with q | q | q | q | q | q | q
      · rw [q] at hr ⊢
        rw [wn r (Rr i r hr).1, wn n (Nat.le_refl _)]
      · rw [q, r1] at hi; exact absurd hi (by decide)
      · rw [q, r2] at hi; exact absurd hi (by decide)
      · rw [q, r3] at hi; exact absurd hi (by decide)
      · rw [q, r4] at hi; exact absurd hi (by decide)
      · rw [q, r5] at hi; exact absurd hi (by decide)
      · rw [rN a q] at hi; exact absurd hi (by decide))
    (fun a i ha => by
      rw [← hn] at ha
      rcases five a ha with q | q | q | q | q | q | q
      · rw [q, r0]; rfl
      · rw [q, r1]; rfl
      · rw [q, r2]; rfl
      · rw [q, r3]; rfl
      · rw [q, r4]; rfl
      · rw [q, r5]; rfl
      · rw [rN a q]; rfl)
    (fun a i r ha h0 hr => by
      rw [← hn] at ha
      rcases five a ha with q | q | q | q | q | q | q
      · rw [q] at hr; rw [o1]; exact (Rr i r hr).2
      · rw [q, Ra 1 i (by decide) (by decide)] at hr; exact absurd hr (by simp)
      · rw [q, Ra 2 i (by decide) (by decide)] at hr; exact absurd hr (by simp)
      · rw [q, Ra 3 i (by decide) (by decide)] at hr; exact absurd hr (by simp)
      · rw [q, Ra 4 i (by decide) (by decide)] at hr; exact absurd hr (by simp)
      · rw [q, Ra 5 i (by decide) (by decide)] at hr; exact absurd hr (by simp)
      · exact absurd (rN a q) h0)
  have hS0 : hS h = n := hn.symm
  refine ⟨ρ', ((poH h).1, (c.2.1, (w', c.2.2.2))), ⟨fun a ha => ?_, rfl, rfl, ?_, fun a l => ro a (by rw [hn, t1]; exact l)⟩, TT, by rw [hS0]; exact r0, by rw [hS0]; exact wn n (Nat.le_refl _), poH_o h⟩
  · have := lt a ha
    exact ⟨ro a (by omega), wo a (by omega)⟩
  · show c.1.1 ≤ (poH h).1.1
    rw [o1, ← t1]; omega
end
section
/-- filling leaves longs as they are -/
theorem fB_J {F r : Nat} {v x3 : Int32} : ∀ (f : Nat) {h o : Hp} {x2 : Int32}, sJ7_fill_031fb_5 F f h r v x2 x3 = some o → ∀ a i, hJ o a i = hJ h a i := by
  intro f
  induction f with
  | zero => intro h o x2 e; exact absurd e (by rw [sJ7_fill_031fb_5]; exact fun z => nomatch z)
  | succ f ih =>
    intro h o x2 e a i
    rw [sJ7_fill_031fb_5] at e
    rcases br_s e with ⟨_, e⟩ | ⟨_, e⟩
    · rw [← Option.some.inj e]
    · have q := ih (gd_s e).2 a i
      rw [q]; rfl
theorem fI_J {F r : Nat} {v x3 : Int32} : ∀ (f : Nat) {h o : Hp} {x2 : Int32}, sJ7_fill_53178_5 F f h r v x2 x3 = some o → ∀ a i, hJ o a i = hJ h a i := by
  intro f
  induction f with
  | zero => intro h o x2 e; exact absurd e (by rw [sJ7_fill_53178_5]; exact fun z => nomatch z)
  | succ f ih =>
    intro h o x2 e a i
    rw [sJ7_fill_53178_5] at e
    rcases br_s e with ⟨_, e⟩ | ⟨_, e⟩
    · rw [← Option.some.inj e]
    · have q := ih (gd_s e).2 a i
      rw [q]; rfl
/-! pages of the class's games -/
section
variable {ρ ρ1 : Nat → Nat} {c c1 : Cm} {h o g : Hp} {x0 b i : Nat}
/-- the law is one, also behind what was made -/
theorem law_ext (T : TH ρ c h) (r0 : ρ x0 = 12) (X : Ext ρ c ρ1 c1) (T1 : TH ρ1 c1 o) {L : Nat} (hL : ρ1 L = 2) (wL : cw c1 L = 2102) : ρ L = 2 ∧ cw c L = 2102 := by
  obtain ⟨L0, e0, q0⟩ := thR T r0 (i := 2) (k2 := 2) rfl (by decide)
  have w0 : cw c L0 = 2102 := th_id T r0 (w := 2102) e0 rfl (by decide)
  have q1 := ex_r X q0 (by decide)
  have w1 := ex_w X q0 (by decide) w0
  have e : L = L0 := T1.1.2.2.2.2.2.2.2.2 L L0 (by rw [hL, q1]) (Or.inr ⟨Or.inr hL, by rw [wL, w1]⟩)
  rw [e]; exact ⟨q0, w0⟩
theorem ry_x (T : TH ρ c h) (r0 : ρ x0 = 12) (X : Ext ρ c ρ1 c1) (T1 : TH ρ1 c1 o) (P : RyP ρ c b g) : RyP ρ1 c1 b g := fun ra e j hj n L hL wL => by
  obtain ⟨a, w⟩ := law_ext T r0 X T1 hL wL
  exact P ra e j hj n L a w
theorem ry_y (X : Ext ρ c ρ1 c1) (P : RyP ρ1 c1 b g) : RyP ρ c b g := fun ra e j hj n L hL wL => P ra e j hj n L (ex_r X hL (by decide)) (ex_w X hL (by decide) wL)
theorem lw_x (T : TH ρ c h) (r0 : ρ x0 = 12) (X : Ext ρ c ρ1 c1) (T1 : TH ρ1 c1 o) (P : LwR ρ c g) : LwR ρ1 c1 g := fun L hL wL q => by
  obtain ⟨a, w⟩ := law_ext T r0 X T1 hL wL
  rw [X.2.1]; exact P L a w q
theorem lw_y (X : Ext ρ c ρ1 c1) (P : LwR ρ1 c1 g) : LwR ρ c g := fun L hL wL q => by
  have := P L (ex_r X hL (by decide)) (ex_w X hL (by decide) wL) q
  rw [X.2.1] at this; exact this
theorem hr_x {x1 : Int32} (T : TH ρ c h) (r0 : ρ x0 = 12) (X : Ext ρ c ρ1 c1) (T1 : TH ρ1 c1 o) (P : HasR ρ c x0 x1 g) : HasR ρ1 c1 x0 x1 g := ⟨P.1, fun r e b eb => ry_x T r0 X T1 (P.2 r e b eb)⟩
theorem pl_x (T : TH ρ c h) (r0 : ρ x0 = 12) (X : Ext ρ c ρ1 c1) (T1 : TH ρ1 c1 o) (P : PlP ρ c x0 g) : PlP ρ1 c1 x0 g := fun r u e1 e2 i hi n b eb => ry_x T r0 X T1 (P r u e1 e2 i hi n b eb)
theorem pl_y (X : Ext ρ c ρ1 c1) (P : PlP ρ1 c1 x0 g) : PlP ρ c x0 g := fun r u e1 e2 i hi n b eb => ry_y X (P r u e1 e2 i hi n b eb)
def Pg (x0 i b : Nat) (h : Hp) : Prop := ∃ r, hR h x0 15 = some r ∧ hR h r i = some b
theorem pg_r (T : TH ρ c h) (r0 : ρ x0 = 12) (B : Pg x0 i b h) : ρ b = 4 ∧ cw c b = 8000 + i := by
  obtain ⟨r, e1, e2⟩ := B
  obtain ⟨q1, f1, g1⟩ := thR T r0 (i := 15) (k2 := 59) rfl (by decide)
  have h1 : ρ r = 59 := by rw [r_eq f1 e1]; exact g1
  exact ⟨thRn T h1 (k2 := 4) rfl (by decide) e2, th_id T h1 (w := 8000 + i) e2 rfl (by omega)⟩
theorem pg_u {b' : Nat} (B : Pg x0 i b h) (B' : Pg x0 i b' h) : b' = b := by
  obtain ⟨r, s1, s2⟩ := B
  obtain ⟨r', s1', s2'⟩ := B'
  rw [r_eq s1 s1'] at s2'
  exact r_eq s2 s2'
/-- pages of games that stand tell no royal man that the law has not -/
def PgP (ρ : Nat → Nat) (c : Cm) (x0 : Nat) (h : Hp) : Prop := ∀ rl, hR h x0 17 = some rl → ∀ n k : Nat, n < 8 → (k : Int) ≤ (hI h rl n).toInt → ∀ b, Pg x0 (301 * n + k) b h → RyP ρ c b h
end
/-- a new position: no man anywhere -/
theorem newPos {ρ : Nat → Nat} {c : Cm} {F : Nat} {h : Hp} {w : Nat} (hF : 700000 ≤ F) (hO : pmO c w [(34, 999), (36, 999)]) (T : TH ρ c h) : Sat (sX3_init F (nC h 3 0 11) (hS h)) (fun o => ∃ ρ' c', Ext ρ c ρ' c' ∧ TH ρ' c' o ∧ ρ' (hS h) = 4 ∧ cw c' (hS h) = w ∧ Old h o ∧ ∀ ra, hR o (hS h) 2 = some ra → ∀ i, i < 2 → hI o ra i = -1) := by
  obtain ⟨ρ1, c1, X1, T1, a1, w1, O1⟩ := newPosH T w
  have hO1 := ex_O X1 hO
  have e : sX3_init F (nC h 3 0 11) (hS h) = (cl (hR (poH h) (hS h) 0) fun r_2 => cl (sJ7_fill_031fb F (poH h) r_2 (-1 : Int32)) fun o_3 => cl (hR o_3 (hS h) 2) fun r_1 => cl (sJ7_fill_53178 F o_3 r_1 (-1 : Int32)) fun o_2 => some o_2) := rfl
  rw [e]
  obtain ⟨on, k1, p1⟩ := thR T1 a1 (i := 0) (k2 := 34) rfl (by decide)
  obtain ⟨of, k2, p2⟩ := thR T1 a1 (i := 1) (k2 := 35) rfl (by decide)
  obtain ⟨ra, k3, p3⟩ := thR T1 a1 (i := 2) (k2 := 36) rfl (by decide)
  have z : (0 : Int32).toInt = 0 := rfl
  have won : cw c1 on = w := th_ih T1 a1 rfl k1 w1
  have wra : cw c1 ra = w := th_ih T1 a1 rfl k3 w1
  refine s_ref k1 ?_
  have s1 : Sat (sJ7_fill_031fb F (poH h) on (-1 : Int32)) (fun g => THx ρ1 c1 (hS h) g ∧ ∀ a i, hR g a i = hR (poH h) a i) := by
    unfold sJ7_fill_031fb
    refine s_nm ?_
    rw [thN T1 p1 (k := 34) (n := 64) rfl (by decide)]
    exact fillBx5 (fun i => by rw [won]; exact hO1 34 i rfl) a1 p1 F (thx_of T1) k1 ⟨by rw [z]; omega, by rw [z]; omega⟩ (by rw [z]; omega)
  obtain ⟨o3, e3, T3x, g3⟩ := s1
  have e3' := e3
  unfold sJ7_fill_031fb at e3'
  have n1 := thN T1 p1 (k := 34) (n := 64) rfl (by decide)
  have e3'' : sJ7_fill_031fb_5 F F (poH h) on (-1 : Int32) (0 : Int32) (nI 64) = some o3 := by rw [← n1]; exact e3'
  obtain ⟨⟨_, n3⟩, q3, _, _⟩ := fB (by decide) F (by decide) e3''
  have j3 : ∀ a i, hJ o3 a i = hJ (poH h) a i := fun a i => fB_J F e3'' a i
  have hs0 : hS h = h.1.1 := rfl
  have ofn : ∀ d, hJ (poH h) of d = 0 := fun d => by
    have e1 : of = h.1.1 + 2 := r_eq (show hR (poH h) (hS h) 1 = some (h.1.1 + 2) from poH_R h 1) k2
    rw [e1]; exact poH_J h 2 d (by decide)
  have T3 : TH ρ1 c1 o3 := thx_to T3x (fun on' of' ho hf s hs d hd hb => by
    rw [g3, k2] at hf
    rw [← Option.some.inj hf, j3, ofn, bj_zero] at hb
    exact absurd hb (by decide))
  refine s_val e3 ?_
  have k33 : hR o3 (hS h) 2 = some ra := by rw [g3]; exact k3
  refine s_ref k33 ?_
  obtain ⟨o4, e4, T4⟩ := zJ7_fill_53178 hF T3 p3 (lo := -1) (hi := 63) (n := 2) (x1 := (-1 : Int32)) (rg_b rfl) (fun _ => rfl) rfl (by decide) (by decide) (by decide) (by decide) (fun i => by rw [wra]; exact hO1 36 i rfl)
  refine s_val e4 ?_
  have e4' := e4
  unfold sJ7_fill_53178 at e4'
  have n4 := thN T3 p3 (k := 36) (n := 2) rfl (by decide)
  have e4'' : sJ7_fill_53178_5 F F o3 ra (-1 : Int32) (0 : Int32) (nI 2) = some o4 := by rw [← n4]; exact e4'
  obtain ⟨⟨g4, m4⟩, q4, _, v4⟩ := fI (by decide) F (by decide) e4''
  have j4 : ∀ a i, hJ o4 a i = hJ o3 a i := fun a i => fI_J F e4'' a i
  have lon : h.1.1 ≤ on := by
    have e1 : on = h.1.1 + 1 := r_eq (show hR (poH h) (hS h) 0 = some (h.1.1 + 1) from poH_R h 0) k1
    omega
  have lra : h.1.1 ≤ ra := by
    have e1 : ra = h.1.1 + 3 := r_eq (show hR (poH h) (hS h) 2 = some (h.1.1 + 3) from poH_R h 2) k3
    omega
  refine s_some ⟨ρ1, c1, X1, T4, a1, w1, fun a ha => ?_, fun ra' er i hi => ?_⟩
  · obtain ⟨b1, b2, b3, b4⟩ := O1 a ha
    refine ⟨fun i => ?_, fun i => ?_, fun i => ?_, ?_⟩
    · rw [q4 a i (by omega), q3 a i (by omega)]; exact b1 i
    · rw [j4, j3]; exact b2 i
    · rw [g4, g3]; exact b3 i
    · rw [m4, n3]; exact b4
  · rw [g4, k33] at er
    rw [← Option.some.inj er]
    exact v4 i (by rw [z]; omega) hi
end
section
def ppL : List (Nat × Nat) := [(34, 999), (35, 999), (36, 999), (37, 999), (38, 999), (4, 5), (4, 6), (4, 7), (4, 8), (4, 9), (4, 10)]
def saC : List (Nat × Nat) := [(47, 999), (6, 4), (6, 5), (6, 6), (6, 7), (6, 8), (6, 9)]
/-- what is written by the class: places told by E, the referee's own, positions by their holders -/
def SZ (E : Nat → Nat → Bool) (wp : Nat → Bool) (k w i : Nat) : Bool := (E k i || mS saC k i) || (mS ppL k i && wp w)
theorem sz_sub {E E' : Nat → Nat → Bool} {wp wp' : Nat → Bool} (h1 : ∀ k i, E k i = true → E' k i = true) (h2 : ∀ i, wp i = true → wp' i = true) {k w i : Nat} (m : SZ E wp k w i = true) : SZ E' wp' k w i = true := by
  unfold SZ at m ⊢
  rw [Bool.or_eq_true, Bool.or_eq_true, Bool.and_eq_true] at m ⊢
  rcases m with (a | a) | ⟨a, b⟩
  · exact Or.inl (Or.inl (h1 _ _ a))
  · exact Or.inl (Or.inr a)
  · exact Or.inr ⟨a, h2 _ b⟩
theorem sz_f {E : Nat → Nat → Bool} {wp : Nat → Bool} {k w i : Nat} (h1 : E k i = false) (h2 : mS saC k i = false) (h3 : mS ppL k i = false ∨ wp w = false) : SZ E wp k w i = false := by
  unfold SZ
  have a3 : (mS ppL k i && wp w) = false := by
    rcases h3 with h | h
    · rw [h]; rfl
    · rw [h, Bool.and_false]
  rw [h1, h2, a3]; rfl
def niceC (E : Nat → Nat → Bool) : Prop := (∀ k i, k = 4 ∨ (34 ≤ k ∧ k ≤ 38) ∨ k = 2 → E k i = false) ∧ E 12 13 = false ∧ E 12 14 = false ∧ E 12 15 = false ∧ E 12 17 = false ∧ E 12 6 = false ∧ E 12 12 = false ∧ ∀ i, E 57 i = false
theorem niceC_0 : niceC noE := ⟨fun _ _ _ => rfl, rfl, rfl, rfl, rfl, rfl, rfl, fun _ => rfl⟩
section
variable {ρ : Nat → Nat} {c : Cm} {h o : Hp} {E : Nat → Nat → Bool} {wp : Nat → Bool} {x0 b w i F : Nat}
theorem szA (hp : ∀ k w i, SZ E wp k w i = true → cPm c k w i = true) : pmA c saC := fun w k i m => hp k w i (by unfold SZ; rw [m, Bool.or_true, Bool.true_or])
theorem szE (hp : ∀ k w i, SZ E wp k w i = true → cPm c k w i = true) {k : Nat} (m : E k i = true) : ∀ w, cPm c k w i = true := fun w => hp k w i (by unfold SZ; rw [m, Bool.true_or, Bool.true_or])
theorem szP (hp : ∀ k w i, SZ E wp k w i = true → cPm c k w i = true) (hw : wp w = true) : pmO c w ppL := fun k i m => hp k w i (by unfold SZ; rw [m, hw, Bool.and_true, Bool.or_true])
theorem ry_sz (n : niceC E) (T : TH ρ c h) (rb : ρ b = 4) (ew : cw c b = w) (hb : wp w = false) (f : Fr ρ (cat c (SZ E wp) h) h o) (P : RyP ρ c b h) : RyP ρ c b o :=
  ry_fr T rb f (sz_f (n.1 _ _ (by omega)) rfl (Or.inl rfl)) (fun i => sz_f (n.1 _ _ (by omega)) rfl (Or.inr (by rw [ew]; exact hb))) (fun _ => sz_f (n.1 _ _ (by omega)) rfl (Or.inl rfl)) P
theorem lw_sz (n : niceC E) (T : TH ρ c h) (f : Fr ρ (cat c (SZ E wp) h) h o) (P : LwR ρ c h) : LwR ρ c o :=
  lw_fr T f (fun _ => sz_f (n.1 _ _ (by omega)) rfl (Or.inl rfl)) (fun _ => sz_f (n.1 _ _ (by omega)) rfl (Or.inl rfl)) (fun _ => sz_f (n.1 _ _ (by omega)) rfl (Or.inl rfl)) P
theorem x12 (r0 : ρ x0 = 12) (f : Fr ρ (cat c (SZ E wp) h) h o) (e : E 12 i = false) : hR o x0 i = hR h x0 i := (fr_RI f r0 (by decide) (fun _ => sz_f e rfl (Or.inl rfl))).2.2
theorem pg_sz (n : niceC E) (n59 : E 59 i = false) (T : TH ρ c h) (r0 : ρ x0 = 12) (f : Fr ρ (cat c (SZ E wp) h) h o) : Pg x0 i b h ↔ Pg x0 i b o := by
  obtain ⟨q1, f1, g1⟩ := thR T r0 (i := 15) (k2 := 59) rfl (by decide)
  have a1 := x12 (i := 15) r0 f n.2.2.2.1
  have a2 := (fr_RI f g1 (by decide) (fun _ => sz_f n59 rfl (Or.inl rfl)) : hI o q1 i = _ ∧ _).2.2
  constructor
  · rintro ⟨r, e1, e2⟩
    have : r = q1 := r_eq f1 e1
    subst this
    exact ⟨r, by rw [a1]; exact e1, by rw [a2]; exact e2⟩
  · rintro ⟨r, e1, e2⟩
    rw [a1] at e1
    have : r = q1 := r_eq f1 e1
    subst this
    rw [a2] at e2
    exact ⟨r, e1, e2⟩
/-- pages stay good where lengths stay, and the pages that are written are good -/
theorem pgp_sz (n : niceC E) (n59 : ∀ i, E 59 i = false) (n61 : ∀ i, E 61 i = false) (T : TH ρ c h) (r0 : ρ x0 = 12) (f : Fr ρ (cat c (SZ E wp) h) h o) (hb : ∀ j, wp (8000 + j) = false ∨ ∀ b, Pg x0 j b h → RyP ρ c b h → RyP ρ c b o) (P : PgP ρ c x0 h) : PgP ρ c x0 o := fun rl el m k hm hk b B => by
  rw [x12 r0 f n.2.2.2.2.1] at el
  obtain ⟨q1, f1, g1⟩ := thR T r0 (i := 17) (k2 := 61) rfl (by decide)
  have h1 : ρ rl = 61 := by rw [r_eq f1 el]; exact g1
  rw [(fr_RI f h1 (by decide) (fun _ => sz_f (n61 _) rfl (Or.inl rfl))).1] at hk
  have B0 := (pg_sz n (n59 _) T r0 f).mpr B
  obtain ⟨k1, k2⟩ := pg_r T r0 B0
  have P0 := P rl el m k hm hk b B0
  rcases hb (301 * m + k) with q | q
  · exact ry_sz n T k1 k2 q f P0
  · exact q b B0 P0
end
theorem gi_v {x1 x2 : Int32} (i1 : Rg 0 7 x1) (i2 : Rg 0 300 x2) : gi x1 x2 = 301 * x1.toNatClampNeg + x2.toNatClampNeg := by
  have m : Rg 0 2107 (x1 * (301 : Int32)) := rg_mulc i1 (rg_b rfl : Rg 301 301 (301 : Int32)) (by decide)
  have a := nc_i (gi_r i1 i2).1
  have e1 := ti_add m i2 (by decide)
  have e2 := ti_mulc i1 (rg_b rfl : Rg 301 301 (301 : Int32)) (by decide)
  have b1 := nc_i i1.1
  have b2 := nc_i i2.1
  unfold gi
  omega
def g59 (n : Nat) : Nat → Nat → Bool := fun k i => k == 59 && i == n
theorem niceC_59 {n : Nat} : niceC (g59 n) := by
  refine ⟨fun k i hk => ?_, rfl, rfl, rfl, rfl, rfl, rfl, fun _ => rfl⟩
  unfold g59
  rw [bq_ne (show k ≠ 59 by omega)]; rfl
section
variable {ρ : Nat → Nat} {c : Cm} {h o : Hp} {E : Nat → Nat → Bool} {wp : Nat → Bool} {x0 b w i F : Nat} {x1 x2 : Int32}
theorem pageP (hF : 700000 ≤ F) (h9 : ∀ w, cPm c 59 w (gi x1 x2) = true) (hO : pmO c (8000 + gi x1 x2) [(34, 999), (36, 999)]) (T : TH ρ c h) (r0 : ρ x0 = 12) (i1 : Rg 0 7 x1) (i2 : Rg 0 300 x2) (P : PgP ρ c x0 h) : Sat (sX11_page F h x0 x1 x2) (fun o => ∃ ρ' c', Ext ρ c ρ' c' ∧ TH ρ' c' o.2 ∧ Pg x0 (gi x1 x2) o.1 o.2 ∧ (∀ j b, Pg x0 j b h → Pg x0 j b o.2 ∧ (RyP ρ c b h → RyP ρ c b o.2)) ∧ PgP ρ c x0 o.2 ∧ (∀ rl, hR h x0 17 = some rl → x2.toInt ≤ (hI h rl x1.toNatClampNeg).toInt → RyP ρ c o.1 o.2)) := by
  have gv := gi_v i1 i2
  have c1' : x1.toNatClampNeg ≤ 7 := rg_clamp i1 (by decide)
  have nx2 := nc_i i2.1
  unfold sX11_page
  refine s_q (fun v ev => ?_)
  have iv : Rg 0 2407 v := by rw [ev]; exact gi_r i1 i2
  have eg : gi x1 x2 = v.toNatClampNeg := by rw [ev]; rfl
  rw [eg] at h9 hO gv ⊢
  obtain ⟨r, er, qr⟩ := thR T r0 (i := 15) (k2 := 59) rfl (by decide)
  refine s_ref er ?_
  refine s_gd (by rw [thN T qr (k := 59) (n := 2408) rfl (by decide)]; exact rg_inB iv (by decide)) ?_
  have t1 : h.1 = c.1 := T.1.1
  cases q : hR h r v.toNatClampNeg with
  | none =>
    show Sat (cl (hR h x0 15) _) _
    refine s_ref er ?_
    refine s_q (fun a ea => ?_)
    refine s_q (fun h8 e8 => ?_)
    subst ea
    subst e8
    unfold sX11_page_25 sX11_page_29 sX11_page_30
    obtain ⟨o1, eo1, ρ1, c1, X1, T1, a1, w1, O1, M1⟩ := newPos hF hO T
    refine s_val eo1 ?_
    have r01 := ex_r X1 r0 (by decide)
    have qr1 := ex_r X1 qr (by decide)
    have lt : ∀ a, ρ a ≠ 0 → a < h.1.1 := fun a ha => by rw [t1]; exact T.2.1.2.2.1 a ha
    have lt0 : x0 < h.1.1 := lt x0 (by rw [r0]; decide)
    have ltr : r < h.1.1 := lt r (by rw [qr]; decide)
    have er1 : hR o1 x0 15 = some r := by rw [(O1 x0 lt0).2.2.1]; exact er
    refine s_gd (by rw [thN T1 qr1 (k := 59) (n := 2408) rfl (by decide)]; exact rg_inB iv (by decide)) ?_
    refine s_q (fun h2 e2 => ?_)
    have T2 : TH ρ1 c1 h2 := by
      rw [e2]
      exact th_wRe T1 qr1 (k2 := 4) rfl (by decide) a1 (by decide) (by decide) rfl rfl rfl w1 (ex_p X1 (h9 _))
    have er2 : hR h2 x0 15 = some r := by rw [e2, r_R, if_neg (ne_r r01 qr1 (by decide))]; exact er1
    refine s_ref er2 ?_
    refine s_gd (by rw [thN T2 qr1 (k := 59) (n := 2408) rfl (by decide)]; exact rg_inB iv (by decide)) ?_
    have ee : hR h2 r v.toNatClampNeg = some (hS h) := by rw [e2, r_R, if_pos ⟨rfl, rfl⟩]
    have neR : ∀ a k j, ρ a = k → k ≠ 0 → k ≠ 59 → hR h2 a j = hR h a j := fun a k j ha h0 h59 => by
      rw [e2, r_R, if_neg (ne_r (ex_r X1 ha h0) qr1 h59), (O1 a (lt a (by rw [ha]; exact h0))).2.2.1]
    have neI : ∀ a, ρ a ≠ 0 → ∀ j, hI h2 a j = hI h a j := fun a ha j => by rw [e2]; exact (O1 a (lt a ha)).1 j
    have old : ∀ j b, Pg x0 j b h2 → j = v.toNatClampNeg ∧ b = hS h ∨ Pg x0 j b h := fun j b ⟨r', g1, g2⟩ => by
      have : r' = r := r_eq er2 g1
      subst this
      by_cases z : j = v.toNatClampNeg
      · rw [z] at g2; exact Or.inl ⟨z, r_eq ee g2⟩
      · rw [e2, r_R, if_neg (fun y => z y.2), (O1 r' ltr).2.2.1] at g2
        exact Or.inr ⟨r', er, g2⟩
    have ryk : ∀ b, ρ b = 4 → RyP ρ c b h → RyP ρ c b h2 := fun b rb P ra e j hj nn L hL wL => by
      rw [neR b 4 2 rb (by decide) (by decide)] at e
      obtain ⟨ra', f3, s3⟩ := thR T rb (i := 2) (k2 := 36) rfl (by decide)
      rw [neI ra (by rw [r_eq f3 e, s3]; decide)] at nn
      rw [neI L (by rw [hL]; decide)]
      exact P ra e j hj nn L hL wL
    have ryn : RyP ρ c (hS h) h2 := fun ra e j hj nn => by
      have e1 : hR o1 (hS h) 2 = some ra := by rw [e2, r_R, if_neg (ne_r a1 qr1 (by decide))] at e; exact e
      have : hI h2 ra j = -1 := by rw [e2]; exact M1 ra e1 j hj
      rw [this] at nn
      exact absurd nn (by decide)
    have kp : ∀ j b, Pg x0 j b h → Pg x0 j b h2 ∧ (RyP ρ c b h → RyP ρ c b h2) := fun j b B => by
      refine ⟨?_, ryk b (pg_r T r0 B).1⟩
      obtain ⟨r', g1, g2⟩ := B
      have : r' = r := r_eq er g1
      subst this
      have z : j ≠ v.toNatClampNeg := fun z => by rw [z, q] at g2; exact absurd g2 (by simp)
      exact ⟨r', er2, by rw [e2, r_R, if_neg (fun y => z y.2), (O1 r' ltr).2.2.1]; exact g2⟩
    refine s_ref ee (s_some ⟨ρ1, c1, X1, T2, ⟨r, er2, ee⟩, kp, fun rl el m k hm hk b B => ?_, fun _ _ _ => ryn⟩)
    rcases old _ _ B with ⟨z, zb⟩ | B0
    · rw [zb]; exact ryn
    · obtain ⟨q1, f1, g1⟩ := thR T r0 (i := 17) (k2 := 61) rfl (by decide)
      rw [neR x0 12 17 r0 (by decide) (by decide)] at el
      rw [neI rl (by rw [r_eq f1 el, g1]; decide)] at hk
      exact ryk b (pg_r T r0 B0).1 (P rl el m k hm hk b B0)
  | some r4 =>
    show Sat (sX11_page_30 F h x0 v) _
    unfold sX11_page_30
    refine s_ref er ?_
    refine s_gd (by rw [thN T qr (k := 59) (n := 2408) rfl (by decide)]; exact rg_inB iv (by decide)) ?_
    exact s_ref q (s_some ⟨ρ, c, ex_0, T, ⟨r, er, q⟩, fun _ _ B => ⟨B, id⟩, P, fun rl el le => P rl el x1.toNatClampNeg x2.toNatClampNeg (by omega) (by omega) r4 ⟨r, er, by rw [← gv]; exact q⟩⟩)
theorem s_page {β : Type} {Q : β → Prop} {k : Nat × Hp → Option β} (hF : 700000 ≤ F) (hp : ∀ k w i, SZ E wp k w i = true → cPm c k w i = true) (hi : ∀ i, E 59 i = true) (hw : ∀ j, j ≤ 2407 → wp (8000 + j) = true) (T : TH ρ c h) (r0 : ρ x0 = 12) (i1 : Rg 0 7 x1) (i2 : Rg 0 300 x2) (P : PgP ρ c x0 h) (H : ∀ o ρ1 c1, Ext ρ c ρ1 c1 → TH ρ1 c1 o.2 → Fr ρ (cat c (SZ (g59 (gi x1 x2)) (is (8000 + gi x1 x2))) h) h o.2 → Pg x0 (gi x1 x2) o.1 o.2 → (∀ j b, Pg x0 j b h → Pg x0 j b o.2 ∧ (RyP ρ c b h → RyP ρ c b o.2)) → PgP ρ c x0 o.2 → (∀ rl, hR h x0 17 = some rl → x2.toInt ≤ (hI h rl x1.toNatClampNeg).toInt → RyP ρ c o.1 o.2) → Sat (k o) Q) : Sat (cl (sX11_page F h x0 x1 x2) k) Q :=
  s_mk (g := fun (o : Nat × Hp) => o.2) (P := fun (o : Nat × Hp) (_ : Nat → Nat) (_ : Cm) => Pg x0 (gi x1 x2) o.1 o.2 ∧ (∀ j b, Pg x0 j b h → Pg x0 j b o.2 ∧ (RyP ρ c b h → RyP ρ c b o.2)) ∧ PgP ρ c x0 o.2 ∧ (∀ rl, hR h x0 17 = some rl → x2.toInt ≤ (hI h rl x1.toNatClampNeg).toInt → RyP ρ c o.1 o.2)) T (fun k w i m => hp k w i (sz_sub (fun k i z => by
      unfold g59 at z
      rw [Bool.and_eq_true, beq_iff_eq] at z
      rw [z.1]; exact hi i) (fun w z => by rw [is_e z]; exact hw _ (rg_clamp (gi_r i1 i2) (by decide))) m))
    (pageP (c := cat c (SZ (g59 (gi x1 x2)) (is (8000 + gi x1 x2))) h) hF (szE (sx_c _) (by unfold g59; rw [beq_self_eq_true, beq_self_eq_true]; rfl)) (pmO_s (szP (sx_c _) is_s) rfl) (th_in _ T) r0 i1 i2 P) (fun _ _ _ _ _ p => p) (fun o ρ1 c1 X T1 f p => H o ρ1 c1 X T1 f p.1 p.2.1 p.2.2.1 p.2.2.2)
end
end
section
section
variable {ρ ρ1 : Nat → Nat} {c c1 : Cm} {h o g : Hp} {E : Nat → Nat → Bool} {wp : Nat → Bool} {x0 b w i F : Nat} {x1 x2 x3 : Int32}
theorem pgp_x (T : TH ρ c h) (r0 : ρ x0 = 12) (X : Ext ρ c ρ1 c1) (T1 : TH ρ1 c1 o) (P : PgP ρ c x0 g) : PgP ρ1 c1 x0 g := fun rl el m k hm hk b B => ry_x T r0 X T1 (P rl el m k hm hk b B)
theorem pgp_y (X : Ext ρ c ρ1 c1) (P : PgP ρ1 c1 x0 g) : PgP ρ c x0 g := fun rl el m k hm hk b B => ry_y X (P rl el m k hm hk b B)
theorem ry_w {A : List (Nat × Nat)} (hA : ∀ k i, k = 4 ∨ k = 36 ∨ k = 2 → mS A k i = false) (T : TH ρ c h) (rb : ρ b = 4) (f : Fr ρ (cat c (fS A []) h) h o) (P : RyP ρ c b h) : RyP ρ c b o :=
  ry_fr T rb f (fs_nf (hA _ _ (by omega))) (fun i => fs_nf (hA _ _ (by omega))) (fun _ => fs_nf (hA _ _ (by omega))) P
theorem c61 : ∀ k i, k = 4 ∨ k = 36 ∨ k = 2 → mS [(61, 999)] k i = false := fun k i h1 => by
  show ((61 == k && (999 == 999 || 999 == i)) || false) = false
  rw [bq_ne (show 61 ≠ k by omega)]; rfl
theorem c60 : ∀ k i, k = 4 ∨ k = 36 ∨ k = 2 → mS [(60, 999)] k i = false := fun k i h1 => by
  show ((60 == k && (999 == 999 || 999 == i)) || false) = false
  rw [bq_ne (show 60 ≠ k by omega)]; rfl
/-- the length of a game is set -/
theorem pgp_len {rl : Nat} {n0 : Nat} {v : Int32} (T : TH ρ c h) (r0 : ρ x0 = 12) (er : hR h x0 17 = some rl) (qr : ρ rl = 61) (hv : ∀ k : Nat, (k : Int) ≤ v.toInt → ∀ b, Pg x0 (301 * n0 + k) b h → RyP ρ c b h) (P : PgP ρ c x0 h) (e : o = wI h rl n0 v) : PgP ρ c x0 o := fun rl' el m k hm hk b B => by
  have f := fr1I (c := c) (A := [(61, 999)]) (k := 61) qr rfl e
  have el' : hR h x0 17 = some rl' := by rw [e] at el; exact el
  have : rl' = rl := r_eq er el'
  subst this
  have B0 : Pg x0 (301 * m + k) b h := by obtain ⟨r, s1, s2⟩ := B; exact ⟨r, by rw [e] at s1; exact s1, by rw [e] at s2; exact s2⟩
  refine ry_w c61 T (pg_r T r0 B0).1 f ?_
  by_cases z : m = n0
  · subst z
    rw [he_s e] at hk
    exact hv k hk b B0
  · rw [e, r_I, if_neg (fun y => z y.2)] at hk
    exact P rl' el' m k hm hk b B0
theorem pgp_w {A : List (Nat × Nat)} (hA : ∀ k i, k = 4 ∨ k = 36 ∨ k = 2 → mS A k i = false) {a j : Nat} {v : Int32} (T : TH ρ c h) (r0 : ρ x0 = 12) (na : ∀ rl, hR h x0 17 = some rl → ¬ rl = a) (f : Fr ρ (cat c (fS A []) h) h o) (P : PgP ρ c x0 h) (e : o = wI h a j v) : PgP ρ c x0 o := fun rl' el m k hm hk b B => by
  have el' : hR h x0 17 = some rl' := by rw [e] at el; exact el
  have B0 : Pg x0 (301 * m + k) b h := by obtain ⟨r, s1, s2⟩ := B; exact ⟨r, by rw [e] at s1; exact s1, by rw [e] at s2; exact s2⟩
  refine ry_w hA T (pg_r T r0 B0).1 f ?_
  rw [e, r_I, if_neg (fun y => na rl' el' y.1)] at hk
  exact P rl' el' m k hm hk b B0
theorem s_len {β : Type} {Q : β → Prop} {k : Nat → Option β} (T : TH ρ c h) (r0 : ρ x0 = 12) (i1 : Rg 0 7 x1) (H : ∀ r, hR h x0 17 = some r → ρ r = 61 → Sat (k r) Q) : Sat (cl (hR h x0 17) fun r => gd (inB x1 (hN h r)) (k r)) Q := by
  obtain ⟨r, er, qr⟩ := thR T r0 (i := 17) (k2 := 61) rfl (by decide)
  refine s_ref er ?_
  exact s_gd (by rw [thN T qr (k := 61) (n := 8) rfl (by decide)]; exact rg_inB i1 (by decide)) (H r er qr)
/-- a place of the class, with its position -/
def PC (ρ : Nat → Nat) (c : Cm) (x0 i b : Nat) (h : Hp) : Prop := ∃ r, hR h x0 13 = some r ∧ hR h r i = some b ∧ RyP ρ c b h
theorem pc_r (T : TH ρ c h) (r0 : ρ x0 = 12) (hi : i < 60) {ρ' : Nat → Nat} {c' : Cm} (B : PC ρ' c' x0 i b h) : ρ b = 4 ∧ cw c b = 3200 := by
  obtain ⟨r, e1, e2, _⟩ := B
  obtain ⟨q1, f1, g1⟩ := thR T r0 (i := 13) (k2 := 57) rfl (by decide)
  have h1 : ρ r = 57 := by rw [r_eq f1 e1]; exact g1
  have hk : rfK 57 i = 4 := if_pos hi
  obtain ⟨b', e3, e4⟩ := thR T h1 (i := i) (k2 := 4) hk (by decide)
  exact ⟨by rw [r_eq e3 e2]; exact e4, th_id T h1 (w := 3200) e2 rfl (by decide)⟩
theorem pc_of (T : TH ρ c h) (r0 : ρ x0 = 12) (H : HasR ρ c x0 x1 h) : ∃ b, PC ρ c x0 x1.toNatClampNeg b h := by
  obtain ⟨q1, f1, g1⟩ := thR T r0 (i := 13) (k2 := 57) rfl (by decide)
  have hk : rfK 57 x1.toNatClampNeg = 4 := if_pos H.1
  obtain ⟨b, e3, e4⟩ := thR T g1 (i := x1.toNatClampNeg) (k2 := 4) hk (by decide)
  exact ⟨b, q1, f1, e3, H.2 q1 f1 b e3⟩
theorem pc_sz (n : niceC E) (hi : i < 60) (T : TH ρ c h) (r0 : ρ x0 = 12) (f : Fr ρ (cat c (SZ E wp) h) h o) (hb : wp 3200 = false) (B : PC ρ c x0 i b h) : PC ρ c x0 i b o := by
  obtain ⟨k1, k3⟩ := pc_r T r0 hi B
  obtain ⟨r, e1, e2, P⟩ := B
  obtain ⟨q1, f1, g1⟩ := thR T r0 (i := 13) (k2 := 57) rfl (by decide)
  have h1 : ρ r = 57 := by rw [r_eq f1 e1]; exact g1
  refine ⟨r, ?_, ?_, ry_sz n T k1 k3 hb f P⟩
  · rw [x12 r0 f n.2.1]; exact e1
  · rw [(fr_RI f h1 (by decide) (fun _ => sz_f (n.2.2.2.2.2.2.2 _) rfl (Or.inl rfl))).2.2]; exact e2
theorem pc_x (T : TH ρ c h) (r0 : ρ x0 = 12) (X : Ext ρ c ρ1 c1) (T1 : TH ρ1 c1 o) (B : PC ρ c x0 i b g) : PC ρ1 c1 x0 i b g := by
  obtain ⟨r, e1, e2, P⟩ := B
  exact ⟨r, e1, e2, ry_x T r0 X T1 P⟩
theorem s_pc {β : Type} {Q : β → Prop} {k : Nat → Option β} {ρ' : Nat → Nat} {c' : Cm} (T : TH ρ c h) (r0 : ρ x0 = 12) (i1 : Rg 0 59 x1) (B : PC ρ' c' x0 x1.toNatClampNeg b h) (H : Sat (k b) Q) : Sat (cl (hR h x0 13) fun r_1 => gd (inB x1 (hN h r_1)) <| cl (hR h r_1 x1.toNatClampNeg) k) Q := by
  obtain ⟨r, e1, e2, P⟩ := B
  obtain ⟨q1, f1, g1⟩ := thR T r0 (i := 13) (k2 := 57) rfl (by decide)
  have h1 : ρ r = 57 := by rw [r_eq f1 e1]; exact g1
  refine s_ref e1 ?_
  refine s_gd (by rw [thN T h1 (k := 57) (n := 60) rfl (by decide)]; exact rg_inB i1 (by decide)) ?_
  exact s_ref e2 H
def pgE : Nat → Nat → Bool := fun k _ => k == 59 || k == 60 || k == 61
def pgW : Nat → Bool := fun w => w == 1503 || (decide (8000 ≤ w) && decide (w ≤ 10407))
theorem pgW_t {j : Nat} (h : j ≤ 2407) : pgW (8000 + j) = true := by
  unfold pgW
  rw [decide_eq_true (show 8000 ≤ 8000 + j by omega), decide_eq_true (show 8000 + j ≤ 10407 by omega)]
  exact Bool.or_true _
theorem no8 {n j : Nat} (h : n < 8000) : is n (8000 + j) = false := is_f (by omega)
/-- a page takes a position over -/
theorem s_copyP {β : Type} {Q : β → Prop} {k : Hp → Option β} {y wy : Nat} (hF : 700000 ≤ F) (hp : ∀ k w i, SZ E wp k w i = true → cPm c k w i = true) (hi : wp (8000 + i) = true) (T : TH ρ c h) (r0 : ρ x0 = 12) (B : Pg x0 i b h) (ry : ρ y = 4) (P : RyP ρ c y h) (pg : PgP ρ c x0 h) (H : ∀ o, TH ρ c o → Fr ρ (cat c (SZ noE (is (8000 + i))) h) h o → Pg x0 i b o → RyP ρ c b o → PgP ρ c x0 o → Sat (k o) Q) : Sat (cl (sX3_copyFrom F h b y) k) Q := by
  obtain ⟨k1, k2⟩ := pg_r T r0 B
  have hs : ∀ k w i', SZ noE (is (8000 + i)) k w i' = true → cPm c k w i' = true := fun k w i' m => hp k w i' (sz_sub (fun _ _ z => noE_f z) (fun w z => by rw [is_e z]; exact hi) m)
  refine s_cVfq T hs (s_weq (zX3_copyFrom hF (by show pmO _ (cw c b) _; rw [k2]; exact pmO_s (szP (sx_c _) is_s) rfl) (th_in _ T) k1 ry)) (fun o T1 f e => ?_)
  have P1 := ry_copy T k1 ry e P
  refine H o T1 f ((pg_sz niceC_0 rfl T r0 f).mp B) P1 (pgp_sz niceC_0 (fun _ => rfl) (fun _ => rfl) T r0 f (fun j => ?_) pg)
  by_cases q : j = i
  · subst q
    exact Or.inr (fun b' B' _ => by rw [pg_u B B']; exact P1)
  · exact Or.inl (is_f (by omega))
theorem zX11_start (hF : 700000 ≤ F) (hp : ∀ k w i, SZ pgE pgW k w i = true → cPm c k w i = true) (T : TH ρ c h) (r0 : ρ x0 = 12) (pl : PlP ρ c x0 h) (pg : PgP ρ c x0 h) : Sat (sX11_start F h x0 x1 x2) (MkI ρ c (-102) 0 (PgP ρ c x0)) := by
  unfold sX11_start
  refine s_dP0 (zX11_isGame hF T (rg_top _)) (fun oo eb e ii pp => ?_)
  rw [e]
  unfold sX11_start_4
  refine s_br (fun _ => s_some ⟨ρ, c, ex_0, T, rg_b rfl, pg⟩) (fun nz => ?_)
  have i1 := pp nz
  refine s_dP0 (zX11_isPlace hF T r0 (rg_top _)) (fun o2 eb2 e2 ii2 pp2 => ?_)
  rw [e2]
  unfold sX11_start_15
  refine s_br (fun _ => s_some ⟨ρ, c, ex_0, T, rg_b rfl, pg⟩) (fun nz2 => ?_)
  have i2 := pp2 nz2
  have l60 : x2.toNatClampNeg < 60 := by have := rg_clamp (n := 59) i2 (by decide); omega
  obtain ⟨b, B⟩ := pc_of T r0 (hr_of T r0 pl eb2 nz2)
  have i0 : Rg 0 300 (0 : Int32) := rg_b rfl
  refine s_page hF hp (fun _ => rfl) (fun j hj => pgW_t hj) T r0 i1 i0 pg (fun o3 ρ1 c1 X1 T1 f1 B1 kp1 pg1 _ => ?_)
  have r1 := ex_r X1 r0 (by decide)
  have hp1 := ex_hp X1 hp
  have B2 := pc_x T r0 X1 T1 (pc_sz niceC_59 l60 T r0 f1 (is_f (by omega)) B)
  obtain ⟨kb, wb'⟩ := pc_r T1 r1 l60 B2
  have PB : RyP ρ1 c1 b o3.2 := by obtain ⟨_, _, _, q⟩ := B2; exact q
  unfold sX11_start_27
  refine s_pc T1 r1 i2 B2 ?_
  have lg : gi x1 0 ≤ 2407 := rg_clamp (gi_r i1 i0) (by decide)
  refine s_copyP (wy := 3200) hF hp1 (pgW_t lg) T1 r1 B1 kb PB (pgp_x T r0 X1 T1 pg1) (fun o4 T4 f4 B4 P4 pg4 => ?_)
  unfold sX11_start_36
  refine s_len T4 r1 i1 (fun r er qr => ?_)
  refine s_hq (th_wI T4 qr (k := 61) (lo := -1) (hi := 300) rfl (rg_b rfl) (by decide) (by decide) (szE hp1 rfl _)) (fun g5 T5 e5 => ?_)
  refine s_some ⟨ρ1, c1, X1, T5, rg_b rfl, pgp_y X1 (pgp_len T4 r1 er qr (fun k hk b' B' => ?_) pg4 e5)⟩
  have zz : (0 : Int32).toInt = 0 := rfl
  have k0 : k = 0 := by omega
  have gv := gi_v i1 i0
  have z0 : (0 : Int32).toNatClampNeg = 0 := rfl
  rw [z0] at gv
  rw [k0, ← gv] at B'
  rw [pg_u B4 B']; exact P4
theorem zX11_add (hF : 700000 ≤ F) (hp : ∀ k w i, SZ pgE pgW k w i = true → cPm c k w i = true) (T : TH ρ c h) (r0 : ρ x0 = 12) (lw : LwR ρ c h) (pg : PgP ρ c x0 h) : Sat (sX11_add F h x0 x1 x2) (MkI ρ c (-104) 300 (PgP ρ c x0)) := by
  unfold sX11_add
  refine s_dP0 (zX11_isGame hF T (rg_top _)) (fun oo eb e ii pp => ?_)
  rw [e]
  unfold sX11_add_4
  refine s_br (fun _ => s_some ⟨ρ, c, ex_0, T, rg_b rfl, pg⟩) (fun nz => ?_)
  have i1 := pp nz
  refine s_len T r0 i1 (fun r er qr => ?_)
  refine s_q (fun p0 ep0 => ?_)
  refine s_br (fun _ => s_some ⟨ρ, c, ex_0, T, rg_b rfl, pg⟩) (fun n1 => ?_)
  have i2 : Rg 0 300 p0 := rg_nlo n1 (by rw [ep0]; exact thI T qr (k := 61) (lo := -1) (hi := 300) rfl) (rg_b rfl : Rg (-1) (-1) (-1 : Int32))
  refine s_page hF hp (fun _ => rfl) (fun j hj => pgW_t hj) T r0 i1 i2 pg (fun o3 ρ1 c1 X1 T1 f1 B1 kp1 pg1 us1 => ?_)
  have r1 := ex_r X1 r0 (by decide)
  have qr1 := ex_r X1 qr (by decide)
  have hp1 := ex_hp X1 hp
  have lw1 := lw_x T r0 X1 T1 (lw_sz niceC_59 T f1 lw)
  have P1 := ry_x T r0 X1 T1 (us1 r er (by rw [ep0]; exact Int.le_refl _))
  have pg1' := pgp_x T r0 X1 T1 pg1
  obtain ⟨k1, w1⟩ := pg_r T1 r1 B1
  unfold sX11_add_31
  obtain ⟨rf, erf, qrf⟩ := thR T1 r1 (i := 6) (k2 := 6) rfl (by decide)
  refine s_ref erf ?_
  obtain ⟨ls, els, qls⟩ := thR T1 r1 (i := 12) (k2 := 47) rfl (by decide)
  refine s_ref els ?_
  have hs : ∀ k w i, SZ noE (is 1503) k w i = true → cPm c1 k w i = true := fun k w i m => hp1 k w i (sz_sub (fun _ _ z => noE_f z) (fun w z => by rw [is_e z]; rfl) m)
  refine s_cIf T1 hs (zX5_collect hF (pmA_s (szA (sx_c _)) rfl) (pmO_s (szP (sx_c _) is_s) rfl) w1 rfl (by omega) (th_in _ T1) qrf k1 qls (rg_b rfl) lw1 P1) (fun o4 T4 i4 f4 => ?_)
  have P4 := ry_sz niceC_0 T1 k1 w1 (no8 (by decide)) f4 P1
  have pg4 := pgp_sz niceC_0 (fun _ => rfl) (fun _ => rfl) T1 r1 f4 (fun j => Or.inl (no8 (by decide))) pg1'
  have B4 := (pg_sz niceC_0 rfl T1 r1 f4).mp B1
  unfold sX11_add_49 sX11_add_61
  have ex : ∀ {y : Int32}, Rg (-104) 300 y → Sat (some (y, o4.2)) (MkI ρ c (-104) 300 (PgP ρ c x0)) := fun hy => s_some ⟨ρ1, c1, X1, T4, hy, pgp_y X1 pg4⟩
  refine s_br (fun _ => ex (rg_b rfl)) (fun n2 => ?_)
  refine s_br (fun n3 => ?_) (fun _ => ex (rg_b rfl))
  refine s_br (fun n4 => ?_) (fun _ => ex (rg_b rfl))
  have l3 : p0.toInt < 300 := lt_i n4
  have i3 : Rg 0 299 p0 := ⟨i2.1, by omega⟩
  have i5 : Rg 0 300 (p0 + (1 : Int32)) := rg_add i3 (rg_b rfl : Rg 1 1 (1 : Int32)) (by decide)
  have lx2 := lt_i n3
  have ix : Rg 0 4095 x2 := ⟨nlt_i n2, by have := i4.2; omega⟩
  refine s_page hF hp1 (fun _ => rfl) (fun j hj => pgW_t hj) T4 r1 i1 i5 pg4 (fun o5 ρ5 c5 X5 T5 f5 B5 kp5 pg5 _ => ?_)
  have r5 := ex_r X5 r1 (by decide)
  have hp5 := ex_hp X5 hp1
  obtain ⟨B45, Q45⟩ := kp5 _ _ B4
  have P5 := ry_x T4 r1 X5 T5 (Q45 P4)
  have pg5' := pgp_x T4 r1 X5 T5 pg5
  obtain ⟨k5, w5⟩ := pg_r T5 r5 B45
  have lg : gi x1 (p0 + 1) ≤ 2407 := rg_clamp (gi_r i1 i5) (by decide)
  unfold sX11_add_82
  refine s_copyP (wy := 0) hF hp5 (pgW_t lg) T5 r5 B5 k5 P5 pg5' (fun o6 T6 f6 B6 P6 pg6 => ?_)
  unfold sX11_add_91
  obtain ⟨rf6, erf6, qrf6⟩ := thR T6 r5 (i := 6) (k2 := 6) rfl (by decide)
  refine s_ref erf6 ?_
  obtain ⟨ls6, els6, qls6⟩ := thR T6 r5 (i := 12) (k2 := 47) rfl (by decide)
  refine s_ref els6 ?_
  refine s_gd (by rw [thN T6 qls6 (k := 47) (n := 4096) rfl (by decide)]; exact rg_inB ix (by decide)) ?_
  obtain ⟨k6, w6⟩ := pg_r T6 r5 B6
  have hs6 : ∀ k w i, SZ noE (is (8000 + gi x1 (p0 + 1))) k w i = true → cPm c5 k w i = true := fun k w i m => hp5 k w i (sz_sub (fun _ _ z => noE_f z) (fun w z => by rw [is_e z]; exact pgW_t lg) m)
  refine s_cVfq T6 hs6 (zX5_make hF (pmO_s (szP (sx_c _) is_s) rfl) w6 (th_in _ T6) qrf6 k6 (rg_top _) (thG T6 qls6)) (fun o7 T7 f7 rc7 => ?_)
  have P7 : RyP ρ5 c5 o5.1 o7 := rc7 _ k6 P6
  have pg7 : PgP ρ5 c5 x0 o7 := pgp_sz niceC_0 (fun _ => rfl) (fun _ => rfl) T6 r5 f7 (fun j => Or.inr (fun b B Pb => rc7 b (pg_r T6 r5 B).1 Pb)) pg6
  have B7 := (pg_sz niceC_0 rfl T6 r5 f7).mp B6
  unfold sX11_add_106
  obtain ⟨md, emd, qmd⟩ := thR T7 r5 (i := 16) (k2 := 60) rfl (by decide)
  refine s_ref emd ?_
  refine s_gd (by rw [thN T7 qmd (k := 60) (n := 2408) rfl (by decide)]; exact rg_inB (gi_r i1 i2) (by decide)) ?_
  refine s_hq (th_wI T7 qmd (k := 60) (lo := 0) (hi := 4095) rfl ix (by decide) (by decide) (szE hp5 rfl _)) (fun g8 T8 e8 => ?_)
  have f8 := fr1I (c := c5) (A := [(60, 999)]) (k := 60) qmd rfl e8
  obtain ⟨r7, er7, qr7⟩ := thR T7 r5 (i := 17) (k2 := 61) rfl (by decide)
  have pg8 := pgp_w c60 T7 r5 (fun rl el z => by rw [r_eq er7 el] at z; rw [z, qmd] at qr7; exact absurd qr7 (by decide)) f8 pg7 e8
  have P8 := ry_w c60 T7 (pg_r T7 r5 B7).1 f8 P7
  have B8 : Pg x0 (gi x1 (p0 + 1)) o5.1 g8 := by obtain ⟨q, s1, s2⟩ := B7; exact ⟨q, by rw [e8]; exact s1, by rw [e8]; exact s2⟩
  refine s_len T8 r5 i1 (fun r9 er9 qr9 => ?_)
  refine s_hq (th_wI T8 qr9 (k := 61) (lo := -1) (hi := 300) rfl (rg_m i5 (by decide)) (by decide) (by decide) (szE hp5 rfl _)) (fun g9 T9 e9 => ?_)
  -- the length was the one that was read
  have el9 : (hI g8 r9 x1.toNatClampNeg) = p0 := by
    have a1 : hR o3.2 x0 17 = some r := by rw [x12 r0 f1 rfl]; exact er
    have a4 : hR o4.2 x0 17 = some r := by rw [x12 r1 f4 rfl]; exact a1
    have a5 : hR o5.2 x0 17 = some r := by rw [x12 r1 f5 rfl]; exact a4
    have a6 : hR o6 x0 17 = some r := by rw [x12 r5 f6 rfl]; exact a5
    have a7 : hR o7 x0 17 = some r := by rw [x12 r5 f7 rfl]; exact a6
    have a8 : hR g8 x0 17 = some r := by rw [e8]; exact a7
    have : r9 = r := r_eq a8 er9
    subst this
    have q5 := ex_r X5 qr1 (by decide)
    rw [e8, r_I, if_neg (ne_r q5 qmd (by decide)), (fr_RI f7 q5 (by decide) (fun _ => sz_f rfl rfl (Or.inl rfl))).1, (fr_RI f6 q5 (by decide) (fun _ => sz_f rfl rfl (Or.inl rfl))).1, (fr_RI f5 qr1 (by decide) (fun _ => sz_f rfl rfl (Or.inl rfl))).1, (fr_RI f4 qr1 (by decide) (fun _ => sz_f rfl rfl (Or.inl rfl))).1, (fr_RI f1 qr (by decide) (fun _ => sz_f rfl rfl (Or.inl rfl))).1]
    exact ep0.symm
  refine s_some ⟨ρ5, c5, ex_t X1 X5, T9, rg_m i5 (by decide), pgp_y (ex_t X1 X5) (pgp_len T8 r5 er9 qr9 (fun k hk b' B' => ?_) pg8 e9)⟩
  have ep1 := (nc_s i3 (by decide)).2
  have gv := gi_v i1 i5
  have np1 := nc_i i5.1
  rw [ep1] at hk
  by_cases z : k = (p0 + (1 : Int32)).toNatClampNeg
  · rw [z, ← gv] at B'
    rw [pg_u B8 B']; exact P8
  · exact pg8 r9 er9 x1.toNatClampNeg k (by have := rg_clamp (n := 7) i1 (by decide); omega) (by rw [el9]; omega) b' B'
end
end
