section
section
variable {zq : Nat} {ρ : Nat → Nat} {c : Cm} {h o : Hp} {E : Nat → Nat → Bool} {wb wl : Nat → Bool} {x0 d b l w i F : Nat} {Bq : Nat × Nat} {x1 x2 : Int32}
theorem game_loopw (hF : 700000 ≤ F) : ∀ (f : Nat) {ρ : Nat → Nat} {c : Cm} {h : Hp} {b i : Nat} {x1 x2 x4 x5 : Int32}, (∀ k w i, SY gmE2 (is 2528) g2 k w i = true → cPm c k w i = true) → TH ρ c h → ρ x0 = 16 → Rg 0 7 x1 → SqOk x0 h → GaY zq Bq x0 h → Gb x0 i b h → 0 ≤ x5.toInt → (301 - x5.toInt).toNat < f → Sat (sX15_game_88 F f h x0 x1 x2 b x4 x5) (MkI ρ c (-2147483648) 2147483647 (GaY zq Bq x0)) := by
  intro f
  induction f with
  | zero => intros; omega
  | succ f ih =>
    intro ρ c h b i x1 x2 x4 x5 hp T r0 i1 sq G B a5 hf
    rw [sX15_game_88]
    unfold sX15_game_160 sX15_game_155 sX15_game_109 sX15_game_113 sX15_game_121
    have ex : ∀ {y : Int32}, Sat (some (y, h)) (MkI ρ c (-2147483648) 2147483647 (GaY zq Bq x0)) := s_some ⟨ρ, c, ex_0, T, rg_top _, G⟩
    refine s_played T r0 i1 (fun r er qr => ?_)
    refine s_br (fun _ => s_br (fun _ => ex) (fun _ => s_br (fun _ => ex) (fun _ => s_br (fun _ => ex) (fun _ => ex)))) (fun n1 => ?_)
    have l5 := nlt_i n1
    have p300 := thI T qr (k := 94) (i := x1.toNatClampNeg) (lo := -1) (hi := 300) rfl
    have i5 : Rg 0 300 x5 := ⟨a5, by have := p300.2; omega⟩
    refine s_gamew hp (fun _ => gm2_t) T r0 i1 i5 G (fun o1 ρ1 c1 X1 T1 f1 G1 B1 kp => ?_)
    have r1 := ex_r X1 r0 (by decide)
    have hp1 := ex_hp X1 hp
    have sq1 := sq_sy nice_92 T r0 f1 sq
    have B2 := kp _ _ B
    obtain ⟨kb, wb'⟩ := gb_r T1 r1 B2
    obtain ⟨kg, wg⟩ := gb_r T1 r1 B1
    refine s_same hF hp1 rfl rfl T1 r1 sq1 kg wg (by omega) (G1.1 _ _ B1).1 kb wb' (by omega) (G1.1 _ _ B2).1 (fun o2 T2 i2 f2 => ?_)
    have sq2 := sq_sy nice_0 T1 r1 f2 sq1
    have G2 := gaw_sy nice_0 (fun _ => rfl) T1 r1 f2 (fun j => Or.inl (no5 (by decide))) G1
    have B3 := (gb_sy nice_0 rfl T1 r1 f2).mp B2
    have go : ∀ t : Int32, Sat (nm (x4 + t) fun v_1 => nm (x5 + (1 : Int32)) fun v_2 => sX15_game_88 F f o2.2 x0 x1 x2 b v_1 v_2) (MkI ρ c (-2147483648) 2147483647 (GaY zq Bq x0)) := fun t => by
      refine s_q (fun u eu => ?_)
      refine s_q (fun v ev => ?_)
      have ev2 : v.toInt = x5.toInt + 1 := by rw [ev]; exact (nc_s i5 (by decide)).2
      exact mI_ext X1 (ih hp1 T2 r1 i1 sq2 G2 B3 (by omega) (by have := i5.2; omega))
    exact s_br (fun _ => go 0) (fun _ => go 1)
theorem game_w (hF : 700000 ≤ F) (hp : ∀ k w i, SY gmE2 (is 2528) g2 k w i = true → cPm c k w i = true) (T : TH ρ c h) (r0 : ρ x0 = 16) (sq : SqOk x0 h) (G : GaY zq Bq x0 h) : Sat (sX15_game F h x0 x1 x2) (MkI ρ c (-2147483648) 2147483647 (GaY zq Bq x0)) := by
  unfold sX15_game
  refine s_dP0 (zX15_isGame hF T (rg_top _)) (fun oo eb e ii pp => ?_)
  rw [e]
  unfold sX15_game_4 sX15_game_16
  have ex : ∀ {y : Int32}, Sat (some (y, h)) (MkI ρ c (-2147483648) 2147483647 (GaY zq Bq x0)) := s_some ⟨ρ, c, ex_0, T, rg_top _, G⟩
  refine s_br (fun _ => ex) (fun nz => ?_)
  have i1 := pp nz
  refine s_br (fun _ => ex) (fun _ => ?_)
  refine s_br (fun _ => ?_) (fun _ => ex)
  refine s_played T r0 i1 (fun r er qr => ?_)
  refine s_br (fun _ => ex) (fun n1 => ?_)
  refine s_played T r0 i1 (fun r' er' qr' => ?_)
  have : r' = r := r_eq er er'
  subst this
  have i2 : Rg 0 300 (hI h r' x1.toNatClampNeg) := rg_nlo n1 (thI T qr' (k := 94) (lo := -1) (hi := 300) rfl) (rg_b rfl : Rg (-1) (-1) (-1 : Int32))
  refine s_gamew hp (fun _ => gm2_t) T r0 i1 i2 G (fun o3 ρ1 c1 X1 T1 f1 G1 B1 _ => ?_)
  have r1 := ex_r X1 r0 (by decide)
  have hp1 := ex_hp X1 hp
  have sq1 := sq_sy nice_92 T r0 f1 sq
  unfold sX15_game_43
  refine s_br (fun _ => ?_) (fun _ => ?_)
  · exact s_played T1 r1 i1 (fun r9 er9 qr9 => s_some ⟨ρ1, c1, X1, T1, rg_top _, G1⟩)
  refine s_br (fun _ => ?_) (fun _ => ?_)
  · obtain ⟨ls, els, qls⟩ := thR T1 r1 (i := 30) (k2 := 14) rfl (by decide)
    refine s_ref els ?_
    refine s_legalGw hF hp1 rfl rfl T1 r1 sq1 G1 B1 els (fun o4 T4 f4 sq4 G4 B4 el4 mv4 _ => ?_)
    unfold sX15_game_69 sX15_game_81
    refine s_ref el4 ?_
    obtain ⟨kg, wg⟩ := gb_r T4 r1 B4
    have hn : ∀ k w i, SY noE no no k w i = true → cPm c1 k w i = true := fun k w i m => hp1 k w i (sy_sub (fun _ _ z => noE_f z) (fun _ z => no_f z) (fun _ z => no_f z) m)
    refine s_cIf T4 hn (zX15_endedBy hF (pmA_s (syA (sx_c _)) rfl) rfl (th_in _ T4) r1 kg (thI T4 qls (k := 14) (i := 0) (lo := 0) (hi := 3000) rfl)) (fun o5 T5 i5 f5 => ?_)
    exact s_some ⟨ρ1, c1, X1, T5, rg_top _, gaw_sy nice_0 (fun _ => rfl) T4 r1 f5 (fun j => Or.inl rfl) G4⟩
  · exact mI_ext X1 (game_loopw hF F hp1 T1 r1 i1 sq1 G1 B1 (by decide) (by show (301 - (0 : Int)).toNat < F; omega))
/-- what the book's loops keep -/
def BQw (zq : Nat) (Bq : Nat × Nat) (x0 pi pb : Nat) (h : Hp) : Prop := SqOk x0 h ∧ GaY zq Bq x0 h ∧ BK x0 pi pb h
theorem book_inw (hF : 700000 ≤ F) {K : Hp → Nat → Int32 → Int32 → Int32 → Int32 → Option (Int32 × Hp)} {pb : Nat} {x1 x2 x4 : Int32} (ip : Rg 0 59 x1) (i4 : Rg 0 7 x4)
    (R : ∀ {ρ : Nat → Nat} {c : Cm} {h : Hp} {x3 v : Int32}, (∀ k w i, SY gmE2 (is 2528) g2 k w i = true → cPm c k w i = true) → TH ρ c h → ρ x0 = 16 → BQw zq Bq x0 x1.toNatClampNeg pb h → v.toInt = x4.toInt + 1 → Sat (K h x0 x1 x2 x3 v) (MkI ρ c (-2147483648) 2147483647 (GaY zq Bq x0))) :
    ∀ (f : Nat) {ρ : Nat → Nat} {c : Cm} {h : Hp} {x3 x5 : Int32}, (∀ k w i, SY gmE2 (is 2528) g2 k w i = true → cPm c k w i = true) → TH ρ c h → ρ x0 = 16 → BQw zq Bq x0 x1.toNatClampNeg pb h → 0 ≤ x5.toInt → (301 - x5.toInt).toNat < f → Sat (sX15_book_48 F K f h x0 x1 x2 x3 x4 x5) (MkI ρ c (-2147483648) 2147483647 (GaY zq Bq x0)) := by
  intro f
  induction f with
  | zero => intros; omega
  | succ f ih =>
    intro ρ c h x3 x5 hp T r0 W a5 hf
    obtain ⟨sq, G, B⟩ := W
    rw [sX15_book_48]
    have up : ∀ {x3 : Int32}, Sat (sX15_book_141 F K h x0 x1 x2 x3 x4) (MkI ρ c (-2147483648) 2147483647 (GaY zq Bq x0)) := fun {x3} => by
      unfold sX15_book_141
      refine s_q (fun v ev => ?_)
      exact R hp T r0 ⟨sq, G, B⟩ (by rw [ev]; exact (nc_s i4 (by decide)).2)
    refine s_played T r0 i4 (fun r er qr => ?_)
    refine s_br (fun _ => up) (fun n1 => ?_)
    have l5 := nlt_i n1
    have p300 := thI T qr (k := 94) (i := x4.toNatClampNeg) (lo := -1) (hi := 300) rfl
    have i5 : Rg 0 300 x5 := ⟨a5, by have := p300.2; omega⟩
    have on : ∀ {ρ2 : Nat → Nat} {c2 : Cm} {g : Hp} {x3 : Int32}, Ext ρ c ρ2 c2 → TH ρ2 c2 g → BQw zq Bq x0 x1.toNatClampNeg pb g → Sat (sX15_book_135 F K (sX15_book_48 F K f) g x0 x1 x2 x3 x4 x5) (MkI ρ c (-2147483648) 2147483647 (GaY zq Bq x0)) := fun {ρ2 c2 g x3} Y T2 W2 => by
      unfold sX15_book_135
      refine s_q (fun v ev => ?_)
      have ev2 : v.toInt = x5.toInt + 1 := by rw [ev]; exact (nc_s i5 (by decide)).2
      exact mI_ext Y (ih (ex_hp Y hp) T2 (ex_r Y r0 (by decide)) W2 (by omega) (by have := i5.2; omega))
    have go : Sat (sX15_book_106 F K (sX15_book_48 F K f) h x0 x1 x2 x3 x4 x5) (MkI ρ c (-2147483648) 2147483647 (GaY zq Bq x0)) := by
      unfold sX15_book_106
      refine s_gamew hp (fun _ => gm2_t) T r0 i4 i5 G (fun o1 ρ1 c1 X1 T1 f1 G1 B1 _ => ?_)
      have r1 := ex_r X1 r0 (by decide)
      have hp1 := ex_hp X1 hp
      have sq1 := sq_sy nice_92 T r0 f1 sq
      have BK1 := bk_sy nice_92 (fun _ => rfl) T r0 f1 rfl B
      obtain ⟨kb, wb'⟩ := bk_r T1 r1 BK1
      obtain ⟨kg, wg⟩ := gb_r T1 r1 B1
      have PB : PE pb o1.2 := by obtain ⟨_, _, _, q⟩ := BK1; exact q
      unfold sX15_book_116
      refine s_bk T1 r1 ip BK1 ?_
      refine s_same hF hp1 rfl rfl T1 r1 sq1 kg wg (by omega) (G1.1 _ _ B1).1 kb wb' (by decide) PB (fun o2 T2 i2 f2 => ?_)
      have W2 : BQw zq Bq x0 x1.toNatClampNeg pb o2.2 := ⟨sq_sy nice_0 T1 r1 f2 sq1, gaw_sy nice_0 (fun _ => rfl) T1 r1 f2 (fun j => Or.inl (no5 (by decide))) G1, bk_sy nice_0 (fun _ => rfl) T1 r1 f2 rfl BK1⟩
      unfold sX15_book_125 sX15_book_133
      exact s_br (fun _ => s_q (fun v ev => on X1 T2 W2)) (fun _ => s_q (fun v ev => on X1 T2 W2))
    refine s_played T r0 i4 (fun r' er' qr' => ?_)
    refine s_br (fun _ => up) (fun n2 => ?_)
    refine s_br (fun _ => go) (fun n3 => ?_)
    refine s_played T r0 i4 (fun r2 er2 qr2 => ?_)
    refine s_br (fun _ => on ex_0 T ⟨sq, G, B⟩) (fun n4 => ?_)
    obtain ⟨gm, egm, qgm⟩ := thR T r0 (i := 38) (k2 := 93) rfl (by decide)
    refine s_ref egm ?_
    refine s_gd (by rw [thN T qgm (k := 93) (n := 2408) rfl (by decide)]; exact rg_inB (gi_r i4 i5) (by decide)) ?_
    exact s_br (fun _ => go) (fun _ => on ex_0 T ⟨sq, G, B⟩)
theorem book_outw (hF : 700000 ≤ F) {pb : Nat} {x1 x2 : Int32} (ip : Rg 0 59 x1) : ∀ (f : Nat) {ρ : Nat → Nat} {c : Cm} {h : Hp} {x3 x4 : Int32}, (∀ k w i, SY gmE2 (is 2528) g2 k w i = true → cPm c k w i = true) → TH ρ c h → ρ x0 = 16 → BQw zq Bq x0 x1.toNatClampNeg pb h → 0 ≤ x4.toInt → (8 - x4.toInt).toNat < f → Sat (sX15_book_38 F f h x0 x1 x2 x3 x4) (MkI ρ c (-2147483648) 2147483647 (GaY zq Bq x0)) := by
  intro f
  induction f with
  | zero => intros; omega
  | succ f ih =>
    intro ρ c h x3 x4 hp T r0 W a4 hf
    rw [sX15_book_38]
    refine s_br (fun _ => s_some ⟨ρ, c, ex_0, T, rg_top _, W.2.1⟩) (fun n1 => ?_)
    have l4 : x4.toInt < 8 := nle_i n1
    exact book_inw hF ip ⟨a4, by omega⟩ (fun {ρ2 c2 g y v} hp2 T2 r2 W2 ev => ih hp2 T2 r2 W2 (by omega) (by omega)) F hp T r0 W (by decide) (by show (301 - (0 : Int)).toNat < F; omega)
theorem book_w (hF : 700000 ≤ F) (hp : ∀ k w i, SY gmE2 (is 2528) g2 k w i = true → cPm c k w i = true) (T : TH ρ c h) (r0 : ρ x0 = 16) (bd : BdP x0 h) (sq : SqOk x0 h) (G : GaY zq Bq x0 h) : Sat (sX15_book F h x0 x1 x2) (MkI ρ c (-2147483648) 2147483647 (GaY zq Bq x0)) := by
  unfold sX15_book
  have hs : ∀ k w i, SY noE (is 2528) (is 2530) k w i = true → cPm c k w i = true := fun k w i m => hp k w i (sy_sub (fun _ _ z => noE_f z) (fun _ z => z) (fun w z => by rw [is_e z]; rfl) m)
  refine s_cIfq T hs (zX15_moves hF (pmA_s (syA (sx_c _)) rfl) (pmO_s (syB (sx_c _) is_s) rfl) (pmO_s (syM (sx_c _) is_s) rfl) (th_in _ T) r0 (rg_top _) bd sq) (fun o1 T1 i1 f1 p1 => ?_)
  have sq1 := sq_sy nice_0 T r0 f1 sq
  have G1 := gaw_sy nice_0 (fun _ => rfl) T r0 f1 (fun j => Or.inl (no5 (by decide))) G
  unfold sX15_book_5 sX15_book_30 sX15_book_33
  have ex : ∀ {y : Int32}, Sat (some (y, o1.2)) (MkI ρ c (-2147483648) 2147483647 (GaY zq Bq x0)) := s_some ⟨ρ, c, ex_0, T1, rg_top _, G1⟩
  refine s_br (fun _ => ex) (fun nz => ?_)
  have nz' : ¬ o1.1.toInt = -102 := ne_i nz
  have ip : Rg 0 59 x1 := p1.1.resolve_left nz'
  obtain ⟨b, B1⟩ := bk_of T1 r0 (mp_hb (p1.2 nz'))
  have go : Sat (sX15_book_38 F F o1.2 x0 x1 x2 0 0) (MkI ρ c (-2147483648) 2147483647 (GaY zq Bq x0)) := book_outw hF ip F hp T1 r0 ⟨sq1, G1, B1⟩ (by decide) (by show (8 - (0 : Int)).toNat < F; omega)
  refine s_br (fun _ => go) (fun _ => ?_)
  refine s_br (fun _ => ex) (fun _ => ?_)
  obtain ⟨ls, els, qls⟩ := thR T1 r0 (i := 30) (k2 := 14) rfl (by decide)
  refine s_ref els ?_
  exact s_br (fun _ => go) (fun _ => ex)
end
end
section
/-! places over frames; now and go of the reference -/
section
variable {zq : Nat} {ρ : Nat → Nat} {c : Cm} {h o : Hp} {E : Nat → Nat → Bool} {wb wl : Nat → Bool} {x0 d b l w i F : Nat} {Bq : Nat × Nat} {x1 x2 : Int32}
theorem bdy_fr {S : Nat → Nat → Nat → Bool} (T : TH ρ c h) (rx : ρ x0 = 16) (f : Fr ρ (cat c S h) h o) (s1 : ∀ w, S 16 w 14 = false) (s2 : ∀ w, S 16 w 15 = false) (s3 : ∀ w i, S 84 w i = false) (s4 : ∀ w i, S 85 w i = false) (b0 : ∀ i, i < 7 → S 13 3400 i = false) (m : ∀ i, S 62 3400 i = false) (p : ∀ i, S 63 3400 i = false) (q : ∀ i, S 64 3400 i = false) (P : BdY zq Bq x0 h) (T' : TH ρ c o := by assumption) : BdY zq Bq x0 o := by
  refine ⟨fun r s e1 e2 i hi hs => ?_, fun r e1 i j a b ne ea eb k hk M M' m1 m2 => ?_, ?_⟩
  · rw [(fr_RI f rx (by decide) s1).2.2] at e1
    rw [(fr_RI f rx (by decide) s2).2.2] at e2
    have q1 := rr T (thR T rx (i := 14) (k2 := 84) rfl (by decide)) e1
    have q2 := rr T (thR T rx (i := 15) (k2 := 85) rfl (by decide)) e2
    rw [(fr_RI f q2 (by decide) (fun w => s4 w _)).1] at hs
    obtain ⟨b, eb, pb⟩ := P.1 r s e1 e2 i hi hs
    have wb : cw c b = 3400 := th_id T q1 eb rfl (by decide)
    exact ⟨b, by rw [(fr_RI f q1 (by decide) (fun w => s3 w _)).2.2]; exact eb, pz_fr T (thRn T q1 (k2 := 13) rfl (by decide) eb) f (fun i hi => by rw [wb]; exact b0 i (by omega)) (by rw [wb]; exact m) (by rw [wb]; exact p) (by rw [wb]; exact q) pb⟩
  · rw [(fr_RI f rx (by decide) s1).2.2] at e1
    have q1 := rr T (thR T rx (i := 14) (k2 := 84) rfl (by decide)) e1
    rw [(fr_RI f q1 (by decide) (fun w => s3 w _)).2.2] at ea eb
    have ra := thRn T q1 (k2 := 13) rfl (by decide) ea
    have wa : cw c a = 3400 := th_id T q1 ea rfl (by decide)
    have rb := thRn T q1 (k2 := 13) rfl (by decide) eb
    have wb : cw c b = 3400 := th_id T q1 eb rfl (by decide)
    have hS : S 13 3400 k = false := b0 k (by omega)
    rw [(f.1 a k (by rw [ra]; decide) (by rw [ra]; show S 13 (cw c a) k = false; rw [wa]; exact hS)).2.2] at m1
    rw [(f.1 b k (by rw [rb]; decide) (by rw [rb]; show S 13 (cw c b) k = false; rw [wb]; exact hS)).2.2] at m2
    exact P.2.1 r e1 i j a b ne ea eb k hk M M' m1 m2
  · exact pay_k0 T rx (k2 := 84) rfl (by decide) (T'.1.1.trans T.1.1.symm) (fr_RI f rx (by decide) s1).2.2 (fun r i qr => (fr_RI f qr (by decide) (fun w => s3 w i)).2.2) P.2.2
/-- over an extension (something made): all but the price -/
theorem bdy_x {S : Nat → Nat → Nat → Bool} {Bk : Nat × Nat} (T : TH ρ c h) (rx : ρ x0 = 16) (f : Fr ρ (cat c S h) h o) (s1 : ∀ w, S 16 w 14 = false) (s2 : ∀ w, S 16 w 15 = false) (s3 : ∀ w i, S 84 w i = false) (s4 : ∀ w i, S 85 w i = false) (b0 : ∀ i, i < 7 → S 13 3400 i = false) (m : ∀ i, S 62 3400 i = false) (p : ∀ i, S 63 3400 i = false) (q : ∀ i, S 64 3400 i = false) (P : BdY zq Bq x0 h) (Y : Pay 14 60 5 162 Bk x0 o) : BdY zq Bk x0 o := by
  refine ⟨fun r s e1 e2 i hi hs => ?_, fun r e1 i j a b ne ea eb k hk M M' m1 m2 => ?_, Y⟩
  · rw [(fr_RI f rx (by decide) s1).2.2] at e1
    rw [(fr_RI f rx (by decide) s2).2.2] at e2
    have q1 := rr T (thR T rx (i := 14) (k2 := 84) rfl (by decide)) e1
    have q2 := rr T (thR T rx (i := 15) (k2 := 85) rfl (by decide)) e2
    rw [(fr_RI f q2 (by decide) (fun w => s4 w _)).1] at hs
    obtain ⟨b, eb, pb⟩ := P.1 r s e1 e2 i hi hs
    have wb : cw c b = 3400 := th_id T q1 eb rfl (by decide)
    exact ⟨b, by rw [(fr_RI f q1 (by decide) (fun w => s3 w _)).2.2]; exact eb, pz_fr T (thRn T q1 (k2 := 13) rfl (by decide) eb) f (fun i hi => by rw [wb]; exact b0 i (by omega)) (by rw [wb]; exact m) (by rw [wb]; exact p) (by rw [wb]; exact q) pb⟩
  · rw [(fr_RI f rx (by decide) s1).2.2] at e1
    have q1 := rr T (thR T rx (i := 14) (k2 := 84) rfl (by decide)) e1
    rw [(fr_RI f q1 (by decide) (fun w => s3 w _)).2.2] at ea eb
    have ra := thRn T q1 (k2 := 13) rfl (by decide) ea
    have wa : cw c a = 3400 := th_id T q1 ea rfl (by decide)
    have rb := thRn T q1 (k2 := 13) rfl (by decide) eb
    have wb : cw c b = 3400 := th_id T q1 eb rfl (by decide)
    have hS : S 13 3400 k = false := b0 k (by omega)
    rw [(f.1 a k (by rw [ra]; decide) (by rw [ra]; show S 13 (cw c a) k = false; rw [wa]; exact hS)).2.2] at m1
    rw [(f.1 b k (by rw [rb]; decide) (by rw [rb]; show S 13 (cw c b) k = false; rw [wb]; exact hS)).2.2] at m2
    exact P.2.1 r e1 i j a b ne ea eb k hk M M' m1 m2
theorem bdy_sy (n : nice E) (n84 : ∀ i, E 84 i = false) (n85 : ∀ i, E 85 i = false) (n15 : E 16 15 = false) (hb : wb 3400 = false) (T : TH ρ c h) (r0 : ρ x0 = 16) (f : Fr ρ (cat c (SY E wb wl) h) h o) (P : BdY zq Bq x0 h) (T' : TH ρ c o := by assumption) : BdY zq Bq x0 o := by
  have z : ∀ k i, (k = 13 ∨ k = 14 ∨ (62 ≤ k ∧ k ≤ 72) ∨ k = 15) → mS saL k i = false → mS mpL k i = false → SY E wb wl k 3400 i = false := fun k i a0 a1 a2 => sy_f (n.1 k i a0) a1 (Or.inr hb) (Or.inl a2)
  exact bdy_fr T r0 f (fun _ => sy_f n.2.2.2.2.2 rfl (Or.inl rfl) (Or.inl rfl)) (fun _ => sy_f n15 rfl (Or.inl rfl) (Or.inl rfl)) (fun _ i => sy_f (n84 i) rfl (Or.inl rfl) (Or.inl rfl)) (fun _ i => sy_f (n85 i) rfl (Or.inl rfl) (Or.inl rfl)) (fun i _ => z _ _ (by omega) rfl rfl) (fun i => z _ _ (by omega) rfl rfl) (fun i => z _ _ (by omega) rfl rfl) (fun i => z _ _ (by omega) rfl rfl) P
/-- the prices of two rows together -/
def PayJ (Bq : Nat × Nat) (x0 : Nat) (h : Hp) : Prop := ∀ r q, hR h x0 14 = some r → hR h x0 37 = some q → h.1.1 + 5 * nuC h r 60 + 5 * nuC h q 2408 ≤ Bq.1 ∧ h.1.2 + 162 * nuC h r 60 + 162 * nuC h q 2408 ≤ Bq.2
/-- places and games -/
def BG (zq : Nat) (Bq : Nat × Nat) (x0 : Nat) (h : Hp) : Prop := (∃ B, BdY zq B x0 h) ∧ (∃ B, GaY zq B x0 h) ∧ PayJ Bq x0 h
theorem now_w (hF : 700000 ≤ F) (hp : ∀ k w i, SY (fun k i => kpE k i || (k == 92 && decide (i ≤ 2407))) (is 3400) no k w i = true → cPm c k w i = true) (T : TH ρ c h) (r0 : ρ x0 = 16) (K : BG zq Bq x0 h) : Sat (sX15_now F h x0 x1) (MkI ρ c (-104) 59 (BG zq Bq x0)) := by
  have K' := K
  obtain ⟨⟨B0, bd⟩, ⟨B1, G0⟩, J⟩ := K
  unfold sX15_now
  refine s_dP0 (zX15_isGame hF T (rg_top _)) (fun oo eb e ii pp => ?_)
  rw [e]
  unfold sX15_now_4 sX15_now_40
  refine s_br (fun _ => s_some ⟨ρ, c, ex_0, T, rg_b rfl, K'⟩) (fun nz => ?_)
  have i1 := pp nz
  refine s_played T r0 i1 (fun r er qr => ?_)
  refine s_br (fun _ => s_some ⟨ρ, c, ex_0, T, rg_b rfl, K'⟩) (fun n1 => ?_)
  refine s_played T r0 i1 (fun r' er' qr' => ?_)
  have : r' = r := r_eq er er'
  subst this
  have i2 : Rg 0 300 (hI h r' x1.toNatClampNeg) := rg_nlo n1 (thI T qr' (k := 94) (lo := -1) (hi := 300) rfl) (rg_b rfl : Rg (-1) (-1) (-1 : Int32))
  obtain ⟨ra, ea, qa⟩ := thR T r0 (i := 14) (k2 := 84) rfl (by decide)
  obtain ⟨rg, eg, qg⟩ := thR T r0 (i := 37) (k2 := 92) rfl (by decide)
  have J0 := J ra rg ea eg
  have G : GaY zq (Bq.1 - 5 * nuC h ra 60, Bq.2 - 162 * nuC h ra 60) x0 h := ⟨G0.1, fun q eq => by
    have : q = rg := r_eq eg eq
    subst this
    show _ ≤ Bq.1 - 5 * nuC h ra 60 ∧ _ ≤ Bq.2 - 162 * nuC h ra 60
    omega⟩
  refine s_gamew hp (fun i hi => by show (kpE 92 i || (92 == 92 && decide (i ≤ 2407))) = true; rw [decide_eq_true hi]; exact Bool.or_true _) T r0 i1 i2 G (fun o3 ρ1 c1 X1 T1 f1 G1 B1 _ => ?_)
  have r1 := ex_r X1 r0 (by decide)
  have hp1 := ex_hp X1 hp
  have ea1 : hR o3.2 x0 14 = some ra := by rw [(fr_RI f1 r0 (by decide) (fun _ => sy_f rfl rfl (Or.inl rfl) (Or.inl rfl))).2.2]; exact ea
  have eg1 : hR o3.2 x0 37 = some rg := by rw [(fr_RI f1 r0 (by decide) (fun _ => sy_f rfl rfl (Or.inl rfl) (Or.inl rfl))).2.2]; exact eg
  have na : nuC o3.2 ra 60 = nuC h ra 60 := nuC_eq 60 (fun i _ => (fr_RI f1 qa (by decide) (fun _ => sy_f rfl rfl (Or.inl rfl) (Or.inl rfl))).2.2)
  have J1 := G1.2 rg eg1
  have J1' : o3.2.1.1 + 5 * nuC o3.2 rg 2408 ≤ Bq.1 - 5 * nuC h ra 60 ∧ o3.2.1.2 + 162 * nuC o3.2 rg 2408 ≤ Bq.2 - 162 * nuC h ra 60 := J1
  have Y1 : Pay 14 60 5 162 (Bq.1 - 5 * nuC o3.2 rg 2408, Bq.2 - 162 * nuC o3.2 rg 2408) x0 o3.2 := fun q eq => by
    have : q = ra := r_eq ea1 eq
    subst this
    rw [na]
    show _ ≤ Bq.1 - 5 * nuC o3.2 rg 2408 ∧ _ ≤ Bq.2 - 162 * nuC o3.2 rg 2408
    omega
  have z : ∀ k i, (k = 13 ∨ k = 14 ∨ (62 ≤ k ∧ k ≤ 72) ∨ k = 15) → mS saL k i = false → mS mpL k i = false → SY (g92 (gi x1 (hI h r' x1.toNatClampNeg))) no no k 3400 i = false := fun k i a0 a1 a2 => sy_f (nice_92.1 k i a0) a1 (Or.inr rfl) (Or.inl a2)
  have bd1 := bdy_x T r0 f1 (fun _ => sy_f rfl rfl (Or.inl rfl) (Or.inl rfl)) (fun _ => sy_f rfl rfl (Or.inl rfl) (Or.inl rfl)) (fun _ i => sy_f rfl rfl (Or.inl rfl) (Or.inl rfl)) (fun _ i => sy_f rfl rfl (Or.inl rfl) (Or.inl rfl)) (fun i _ => z _ _ (by omega) rfl rfl) (fun i => z _ _ (by omega) rfl rfl) (fun i => z _ _ (by omega) rfl rfl) (fun i => z _ _ (by omega) rfl rfl) bd Y1
  obtain ⟨kg, wg⟩ := gb_r T1 r1 B1
  unfold sX15_now_37
  have hs : ∀ k w i, SY kpE (is 3400) no k w i = true → cPm c1 k w i = true := fun k w i m => hp1 k w i (sy_sub (fun k i z => by rw [z]; rfl) (fun _ z => z) (fun _ z => z) m)
  refine s_mI (S := SY kpE (is 3400) no) T1 hs (keep_y hF (fun w k i m => sx_c _ k w i (by unfold SY kpE; rw [m, Bool.true_or, Bool.true_or])) (pmO_s (syB (sx_c _) is_s) rfl) wg (th_in _ T1) r1 kg bd1 (G1.1 _ _ B1)) (fun o4 ρ4 c4 X4 T4 f4 j4 bd4 => ?_)
  have eg4 : hR o4.2 x0 37 = some rg := by rw [(fr_RI f4 r1 (by decide) (fun _ => sy_f rfl rfl (Or.inl rfl) (Or.inl rfl))).2.2]; exact eg1
  have qg1 := ex_r X1 qg (by decide)
  have ng : nuC o4.2 rg 2408 = nuC o3.2 rg 2408 := nuC_eq 2408 (fun i _ => (fr_RI f4 qg1 (by decide) (fun _ => sy_f rfl rfl (Or.inl rfl) (Or.inl rfl))).2.2)
  have GG : ∀ i b, Gb x0 i b o4.2 → PZ zq b o4.2 := fun i b B => by
    have B0 := (gb_sy nice_kp rfl T1 r1 f4).mpr B
    obtain ⟨k1, k2⟩ := gb_r T1 r1 B0
    exact pz_sy nice_kp T1 k1 k2 (is_f (by omega)) f4 (G1.1 i b B0)
  have J4 : PayJ Bq x0 o4.2 := fun q p e1 e2 => by
    have y2 : p = rg := r_eq eg4 e2
    subst y2
    have J2 : o4.2.1.1 + 5 * nuC o4.2 q 60 ≤ Bq.1 - 5 * nuC o3.2 p 2408 ∧ o4.2.1.2 + 162 * nuC o4.2 q 60 ≤ Bq.2 - 162 * nuC o3.2 p 2408 := bd4.2.2 q e1
    rw [ng]
    omega
  exact s_some ⟨ρ4, c4, ex_t X1 X4, T4, j4, ⟨_, bd4⟩, ⟨(o4.2.1.1 + 5 * nuC o4.2 rg 2408, o4.2.1.2 + 162 * nuC o4.2 rg 2408), GG, fun q eq => by
    have : q = rg := r_eq eg4 eq
    subst this
    exact ⟨Nat.le_refl _, Nat.le_refl _⟩⟩, J4⟩
/-- moves of a board: they fit it -/
theorem s_legalZ {β : Type} {Q : β → Prop} {k : Hp → Option β} (hF : 700000 ≤ F) (hp : ∀ k w i, SY E wb wl k w i = true → cPm c k w i = true) (h1 : wb 2528 = true) (h3 : wl 2530 = true) (T : TH ρ c h) (r0 : ρ x0 = 16) (sq : SqOk x0 h) (k1 : ρ b = 13) (k3 : cw c b = w) (nb : w ≠ 2528) (P : PE b h) (el : hR h x0 30 = some l) (H : ∀ o, TH ρ c o → Fr ρ (cat c (SY noE (is 2528) (is 2530)) h) h o → SqOk x0 o → hR o x0 30 = some l → MvB x0 b l o → MvZ b l o → Sat (k o) Q) : Sat (cl (sX15_legal F h x0 b l) k) Q := by
  obtain ⟨l', el', ql'⟩ := thR T r0 (i := 30) (k2 := 14) rfl (by decide)
  have ql : ρ l = 14 := by rw [r_eq el' el]; exact ql'
  have wl' : cw c l = 2530 := th_id T r0 (w := 2530) el rfl (by decide)
  have hs : ∀ k w i, SY noE (is 2528) (is 2530) k w i = true → cPm c k w i = true := fun k w i m => hp k w i (sy_sub (fun _ _ z => noE_f z) (fun w z => by rw [is_e z]; exact h1) (fun w z => by rw [is_e z]; exact h3) m)
  obtain ⟨M, eM, rM⟩ := thR T k1 (i := 0) (k2 := 62) rfl (by decide)
  obtain ⟨lf, e1, q1⟩ := thR T ql (i := 1) (k2 := 66) rfl (by decide)
  obtain ⟨lt, e2, q2⟩ := thR T ql (i := 2) (k2 := 67) rfl (by decide)
  obtain ⟨lx, e5, q5⟩ := thR T ql (i := 5) (k2 := 70) rfl (by decide)
  obtain ⟨lk, e6, q6⟩ := thR T ql (i := 6) (k2 := 71) rfl (by decide)
  obtain ⟨lo, e7, q7⟩ := thR T ql (i := 7) (k2 := 72) rfl (by decide)
  have Z := legal_z (c := c) (x0 := x0) (lf := lf) (lt := lt) (lx := lx) (lk := lk) (lo := lo) (wl := 2530) hF (pmA_s (syA hp) rfl) (pmO_s (syB hp h1) rfl) (pmO_s (syM hp h3) rfl) k3 nb wl' T r0 k1 ql sq P ⟨e1, e2, e5, e6, e7⟩ eM
  refine s_cVfq T hs (s_weq2 (zX15_legal hF (pmA_s (syA (sx_c _)) rfl) (pmO_s (syB (sx_c _) is_s) rfl) (pmO_s (w := 2530) (syM (sx_c _) is_s) rfl) k3 wl' nb (th_in _ T) r0 k1 ql sq P)) (fun o T1 f mv => ?_)
  obtain ⟨mv, eo⟩ := mv
  have L : L2 l lf lt lx lk lo (hI h M) (hI h b 1) (hI h b 3).toInt o := by
    obtain ⟨o', eo', _, z⟩ := Z
    have : o' = o := by rw [eo'] at eo; exact Option.some.inj eo
    rw [← this]; exact z
  have zb : ∀ k i, (k = 13 ∨ (62 ≤ k ∧ k ≤ 65)) → SY noE (is 2528) (is 2530) k (cw c b) i = false := fun k i hk => by
    rcases hk with z | z
    · rw [z]; exact sy_f rfl rfl (Or.inr (by rw [k3]; exact is_f nb)) (Or.inl rfl)
    · have : k = 62 ∨ k = 63 ∨ k = 64 ∨ k = 65 := by omega
      rcases this with z | z | z | z <;> rw [z] <;> exact sy_f rfl rfl (Or.inr (by rw [k3]; exact is_f nb)) (Or.inl rfl)
  have fb : ∀ i, hI o b i = hI h b i ∧ hR o b i = hR h b i := fun i => by
    have := f.1 b i (by rw [k1]; decide) (by rw [k1]; exact zb 13 i (Or.inl rfl))
    exact ⟨this.1, this.2.2⟩
  have fM : ∀ i, hI o M i = hI h M i := fun i => (f.1 M i (by rw [rM]; decide) (by rw [rM]; show SY noE (is 2528) (is 2530) 62 (cw c M) i = false; rw [th_ih T k1 (by decide) eM rfl]; exact zb 62 i (Or.inr (by decide)))).1
  have fl : ∀ i, 1 ≤ i → i < 8 → hR o l i = hR h l i := fun i a1 a2 => by
    have : SY noE (is 2528) (is 2530) 14 (cw c l) i = false := by
      rcases (by omega : i = 1 ∨ i = 2 ∨ i = 3 ∨ i = 4 ∨ i = 5 ∨ i = 6 ∨ i = 7) with z | z | z | z | z | z | z <;> rw [z] <;> exact sy_f rfl rfl (Or.inl rfl) (Or.inl rfl)
    exact (f.1 l i (by rw [ql]; decide) (by rw [ql]; exact this)).2.2
  have mz : MvZ b l o := by
    intro M' lf' lt' lx' lk' lo' p0 p1 p2 p5 p6 p7
    rw [(fb 0).2] at p0
    rw [fl _ (by decide) (by decide)] at p1 p2 p5 p6 p7
    have y0 := r_eq eM p0
    have y1 := r_eq e1 p1
    have y2 := r_eq e2 p2
    have y5 := r_eq e5 p5
    have y6 := r_eq e6 p6
    have y7 := r_eq e7 p7
    subst y0; subst y1; subst y2; subst y5; subst y6; subst y7
    rw [(fb 1).1, (fb 3).1, show hI o M' = hI h M' from funext fM]
    exact L
  exact H o T1 f (sq_sy nice_0 T r0 f sq) (by rw [(fr_RI f r0 (by decide) (fun _ => sy_f rfl rfl (Or.inl rfl) (Or.inl rfl))).2.2]; exact el) mv mz
def goB : Nat → Bool := fun w => w == 2528 || (w == 2532 || w == 3400)
theorem moves_w (hF : 700000 ≤ F) (hp : ∀ k w i, SY E wb wl k w i = true → cPm c k w i = true) (h1 : wb 2528 = true) (h3 : wl 2530 = true) (T : TH ρ c h) (r0 : ρ x0 = 16) (bd : BdY zq Bq x0 h) (sq : SqOk x0 h) : Sat (sX15_moves F h x0 x1) (fun o => TH ρ c o.2 ∧ BdY zq Bq x0 o.2 ∧ SqOk x0 o.2 ∧ (o.1 = (-102 : Int32) ∨ (Rg 0 59 x1 ∧ ∃ b l, BK x0 x1.toNatClampNeg b o.2 ∧ PZ zq b o.2 ∧ hR o.2 x0 30 = some l ∧ MvB x0 b l o.2 ∧ MvZ b l o.2))) := by
  unfold sX15_moves
  refine s_dP0 (zX15_has hF T r0 (rg_top _)) (fun o1 eb1 e1 ii1 pp1 => ?_)
  rw [e1]
  refine s_br (fun _ => s_some ⟨T, bd, sq, Or.inl rfl⟩) (fun nz => ?_)
  have i1 := pp1 nz
  obtain ⟨b, BKb, PZb⟩ := bw_of T r0 bd eb1 nz
  obtain ⟨kb, wb'⟩ := bk_r T r0 BKb
  refine s_bk T r0 i1 BKb ?_
  obtain ⟨ls, els, qls⟩ := thR T r0 (i := 30) (k2 := 14) rfl (by decide)
  refine s_ref els ?_
  refine s_legalZ hF hp h1 h3 T r0 sq kb wb' (by decide) PZb.1 els (fun o4 T4 f4 sq4 el4 mv4 mz4 => ?_)
  refine s_ref el4 ?_
  exact s_some ⟨T4, bdy_sy nice_0 (fun _ => rfl) (fun _ => rfl) rfl rfl T r0 f4 bd, sq4, Or.inr ⟨i1, b, ls, bk_sy nice_0 (fun _ => rfl) T r0 f4 rfl BKb, pz_sy nice_0 T kb wb' rfl f4 PZb, el4, mv4, mz4⟩⟩
theorem go_w (hF : 700000 ≤ F) (hp : ∀ k w i, SY kpE goB (is 2530) k w i = true → cPm c k w i = true) (T : TH ρ c h) (r0 : ρ x0 = 16) (bd : BdY zq Bq x0 h) (sq : SqOk x0 h) : Sat (sX15_go F h x0 x1 x2) (MkI ρ c (-104) 59 (BdY zq Bq x0)) := by
  unfold sX15_go
  obtain ⟨o1, e1, T1, bd1, sq1, P1⟩ := moves_w (x1 := x1) hF hp rfl is_s T r0 bd sq
  refine s_val e1 ?_
  unfold sX15_go_5 sX15_go_25
  have bad : Sat (some ((-102 : Int32), o1.2)) (MkI ρ c (-104) 59 (BdY zq Bq x0)) := s_some ⟨ρ, c, ex_0, T1, rg_b rfl, bd1⟩
  refine s_br (fun _ => bad) (fun nz => ?_)
  obtain ⟨i1, b, l, BKb, PZb, el, mv, mz⟩ := P1.resolve_left nz
  obtain ⟨kb, wb'⟩ := bk_r T1 r0 BKb
  have ql := rr T1 (thR T1 r0 (i := 30) (k2 := 14) rfl (by decide)) el
  have wl1 : cw c l = 2530 := th_id T1 r0 (w := 2530) el rfl (by decide)
  refine s_br (fun _ => bad) (fun n2 => ?_)
  refine s_ref el ?_
  refine s_br (fun n3 => ?_) (fun _ => bad)
  refine s_dI0 (zX15_freePlace hF T1 r0) (fun o5 e5 e5' i5 => ?_)
  rw [e5']
  unfold sX15_go_32
  refine s_br (fun _ => s_some ⟨ρ, c, ex_0, T1, rg_b rfl, bd1⟩) (fun _ => ?_)
  refine s_bk T1 r0 i1 BKb ?_
  refine s_ref el ?_
  obtain ⟨t, et, qt⟩ := thR T1 r0 (i := 32) (k2 := 13) rfl (by decide)
  have wt : cw c t = 2532 := th_id T1 r0 (w := 2532) et rfl (by decide)
  refine s_ref et ?_
  have h3000 := thI T1 ql (k := 14) (i := 0) (lo := 0) (hi := 3000) rfl
  have lt := lt_i n3
  have ix : Rg 0 2999 x2 := ⟨nlt_i n2, by have := h3000.2; omega⟩
  have hs : ∀ k w i, SY noE (is 2532) no k w i = true → cPm c k w i = true := fun k w i m => hp k w i (sy_sub (fun _ _ z => noE_f z) (fun w z => by rw [is_e z]; rfl) (fun _ z => no_f z) m)
  refine s_cVfq T1 hs (s_weq2 (zX15_make hF (pmA_s (syA (sx_c _)) rfl) (pmO_s (w := 2532) (syB (sx_c _) is_s) rfl) wb' wl1 wt (th_in _ T1) r0 kb ql ix qt sq1 mv lt)) (fun o6 T6 f6 P6 => ?_)
  have W6 : PZ zq t o6 := ⟨P6.1, make_z T1 r0 kb ql qt (fun P1 P p1 p2 z => by
    have v1 : cw c P1 = 3400 := th_ih T1 kb (by decide) p1 wb'
    have v2 : cw c P = 2532 := th_ih T1 qt (by decide) p2 wt
    rw [z, v2] at v1
    exact absurd v1 (by decide)) PZb.2 mv mz ⟨ix.1, lt⟩ P6.2⟩
  have bd6 := bdy_sy nice_0 (fun _ => rfl) (fun _ => rfl) rfl rfl T1 r0 f6 bd1
  unfold sX15_go_58 sX15_go_66
  have et6 : hR o6 x0 32 = some t := by rw [(fr_RI f6 r0 (by decide) (fun _ => sy_f rfl rfl (Or.inl rfl) (Or.inl rfl))).2.2]; exact et
  refine s_ref et6 ?_
  obtain ⟨o7, e7, ρ7, c7, X7, T7, j7, bd7⟩ := keep_y (F := F) hF (fun w k i m => hp k w i (by unfold SY kpE; rw [m, Bool.true_or, Bool.true_or])) (pmO_s (syB (w := 3400) hp rfl) rfl) wt T6 r0 qt bd6 W6
  exact s_val e7 (s_some ⟨ρ7, c7, X7, T7, j7, bd7⟩)
end
end
section
/-! a position that is not wrong can be written -/
theorem bit_tst {a : Int64} {x : Int32} (i : Rg 0 63 x) (b : bitJ a x.toNatClampNeg = true) : lg_cmp ((a >>> (x.toInt64 &&& 63)) &&& (1 : Int64)) (1 : Int64) = 0 := by
  have e : (a >>> (x.toInt64 &&& 63)) &&& (1 : Int64) = (1 : Int64) := by
    apply Int64.toBitVec_inj.mp
    apply BitVec.eq_of_getLsbD_eq
    intro j hj
    show bitJ ((a >>> (x.toInt64 &&& 63)) &&& (1 : Int64)) j = bitJ (1 : Int64) j
    rw [bj_and]
    have all : ∀ j : Fin 64, bitJ (1 : Int64) j.val = true → j.val = 0 := by decide +kernel
    cases q : bitJ (1 : Int64) j with
    | false => rw [Bool.and_false]
    | true =>
      have z : j = 0 := all ⟨j, hj⟩ q
      rw [z, bit_shr i, b]; rfl
  rw [e]
  decide
/-- squares of the first and the last rank, counted -/
def cEd (F R : Nat) : Nat → Nat
  | 0 => 0
  | n + 1 => cEd F R n + if n / F = 0 ∨ n / F + 1 = R then 1 else 0
theorem ce_16 : ∀ F, F < 9 → ∀ R, R < 9 → cEd F R (F * R) ≤ 16 := by decide +kernel
theorem crt_ce {a : Int64} {F R : Nat} : ∀ n, (∀ i, i < n → bitJ a i = true → i / F = 0 ∨ i / F + 1 = R) → cRt a n ≤ cEd F R n := by
  intro n
  induction n with
  | zero => intro _; exact Nat.le_refl _
  | succ n ih =>
    intro k
    rw [cRt, cEd]
    have := ih (fun i hi => k i (by omega))
    cases w : bitJ a n with
    | false => simp; omega
    | true => rw [if_pos rfl, if_pos (k n (by omega) w)]; omega
section
variable {ρ : Nat → Nat} {c : Cm} {h o g h0 : Hp} {x0 b Ro M P R A B Ri F : Nat}
/-- what wrongOf leaves -/
def VF (x0 Ro : Nat) (h o : Hp) : Prop := (∀ a i, hR o a i = hR h a i) ∧ (∀ a i, hJ o a i = hJ h a i) ∧ ∀ a i, ¬ a = Ro → ¬ (a = x0 ∧ (i = 23 ∨ i = 24)) → hI o a i = hI h a i
theorem vf_0 : VF x0 Ro h h := ⟨fun _ _ => rfl, fun _ _ => rfl, fun _ _ _ _ => rfl⟩
theorem vf_t (p : VF x0 Ro h g) (q : VF x0 Ro g o) : VF x0 Ro h o := ⟨fun a i => (q.1 a i).trans (p.1 a i), fun a i => (q.2.1 a i).trans (p.2.1 a i), fun a i n1 n2 => (q.2.2 a i n1 n2).trans (p.2.2 a i n1 n2)⟩
theorem vf_w {i : Nat} {v : Int32} : VF x0 Ro h (wI h Ro i v) := ⟨fun _ _ => rfl, fun _ _ => rfl, fun a i n _ => rI_a n⟩
theorem vf_3 {l : Nat} (k : TF 3 ρ x0 l h o) : VF x0 Ro h o := ⟨k.1, k.2.1, fun a i _ n => k.2.2.2 a i (Or.inl rfl) (Or.inl (by decide)) (Or.inl rfl) n⟩
/-- where things lie, for wrongOf -/
def VP (ρ : Nat → Nat) (x0 b Ro M P R A B Ri : Nat) (h : Hp) : Prop := AP ρ x0 R A B h ∧ (hR h x0 22 = some Ro ∧ hR h b 0 = some M ∧ hR h b 4 = some P ∧ hR h R 8 = some Ri) ∧ (ρ Ro = 86 ∧ ρ b = 13 ∧ ρ M = 62 ∧ ρ P = 63 ∧ ρ R = 15 ∧ ρ Ri = 78) ∧ (∀ i, Rg 0 7 (hI h Ri i)) ∧ (Rg 3 8 (hI h x0 11) ∧ Rg 3 8 (hI h x0 12) ∧ Rg 9 64 (hI h x0 13) ∧ SqOk x0 h) ∧ ∀ i, Rg 0 24 (hI h M i)
theorem vp_k (k : VF x0 Ro h o) (Q : VP ρ x0 b Ro M P R A B Ri h) : VP ρ x0 b Ro M P R A B Ri o := by
  obtain ⟨⟨⟨a1, a2, a3⟩, ⟨b1, b2, b3⟩, c1, c2⟩, ⟨e1, e2, e3, e4⟩, ⟨r1, r2, r3, r4, r5, r6⟩, ri, ⟨f1, f2, f3, f4⟩, mr⟩ := Q
  have kI : ∀ {a q : Nat} (i : Nat), ρ a = q → q ≠ 86 → q ≠ 16 → hI o a i = hI h a i := fun {a q} i ra n1 n2 => k.2.2 a i (fun z => n1 (by rw [← ra, z]; exact r1)) (fun z => n2 (by rw [← ra, z.1]; exact b1))
  have nx : ¬ x0 = Ro := fun z => by rw [z, r1] at b1; exact absurd b1 (by decide)
  have kx : ∀ i, ¬ (i = 23 ∨ i = 24) → hI o x0 i = hI h x0 i := fun i n => k.2.2 x0 i nx (fun z => n z.2)
  refine ⟨⟨⟨by rw [k.1]; exact a1, by rw [k.1]; exact a2, by rw [k.1]; exact a3⟩, ⟨b1, b2, b3⟩, fun i => by rw [kI i b2 (by decide) (by decide)]; exact c1 i, fun i => by rw [kI i b3 (by decide) (by decide)]; exact c2 i⟩, ⟨by rw [k.1]; exact e1, by rw [k.1]; exact e2, by rw [k.1]; exact e3, by rw [k.1]; exact e4⟩, ⟨r1, r2, r3, r4, r5, r6⟩, fun i => by rw [kI i r6 (by decide) (by decide)]; exact ri i, ⟨by rw [kx 11 (by decide)]; exact f1, by rw [kx 12 (by decide)]; exact f2, by rw [kx 13 (by decide)]; exact f3, ?_⟩, fun i => by rw [kI i r3 (by decide) (by decide)]; exact mr i⟩
  unfold SqOk
  rw [kx 11 (by decide), kx 12 (by decide), kx 13 (by decide)]
  exact f4
theorem v_rk {q s : Int32} {o : Int32 × Hp} (Q : VP ρ x0 b Ro M P R A B Ri h) (hq : 0 ≤ q.toInt) (hl : q.toInt < (hI h x0 13).toInt) (e : sX15_rankFor h x0 q s = some o) (e1 : o.1 = (1 : Int32)) : q.toNatClampNeg / (hI h x0 11).toNatClampNeg = 0 ∨ q.toNatClampNeg / (hI h x0 11).toNatClampNeg + 1 = (hI h x0 12).toNatClampNeg := by
  obtain ⟨_, _, _, _, ⟨⟨f1, f1'⟩, ⟨f2, f2'⟩, ⟨f3, f3'⟩, f4⟩, _⟩ := Q
  have z1 : (1 : Int32).toInt = 1 := rfl
  have cq := nc_i hq
  have cf := nc_i (x := hI h x0 11) (by omega)
  have cr := nc_i (x := hI h x0 12) (by omega)
  have dv : (q / hI h x0 11).toInt = q.toInt / (hI h x0 11).toInt := td (a := 0) (b := 63) (c := 3) (d := 8) ⟨hq, by omega⟩ ⟨f1, f1'⟩ (by decide)
  have dn : ((q.toNatClampNeg / (hI h x0 11).toNatClampNeg : Nat) : Int) = q.toInt / (hI h x0 11).toInt := by
    rw [Int.natCast_ediv, cq, cf]
  have d0 : 0 ≤ q.toInt / (hI h x0 11).toInt := Int.ediv_nonneg hq (by omega)
  have d64 : q.toInt / (hI h x0 11).toInt ≤ 63 := Int.le_trans (Int.ediv_le_self _ hq) (by omega)
  rcases (rank_post e).2 with w | w
  · rw [w] at e1
    have := congrArg Int32.toInt e1
    rw [ta (by rw [dv, z1]; omega), dv, z1] at this
    exact Or.inl (by omega)
  · rw [w] at e1
    have := congrArg Int32.toInt e1
    rw [ts (by rw [dv]; omega), dv, z1] at this
    exact Or.inr (by omega)
theorem v_right {q : Int32} {o : Int32 × Hp} (Q : VP ρ x0 b Ro M P R A B Ri h) (hq : 0 ≤ q.toInt) (hl : q.toInt < (hI h x0 13).toInt) (e : sX15_isRight F h x0 b q = some o) : o.2 = h ∧ (o.1 = 0 ∨ q.toNatClampNeg / (hI h x0 11).toNatClampNeg = 0 ∨ q.toNatClampNeg / (hI h x0 11).toNatClampNeg + 1 = (hI h x0 12).toNatClampNeg) := by
  unfold sX15_isRight sX15_isRight_49 sX15_isRight_86 sX15_isRight_87 at e
  simp only [nm] at e
  replace e := cl_s e; obtain ⟨_, _, e⟩ := e
  replace e := (gd_s e).2
  replace e := br_s e; rcases e with ⟨_, e⟩ | ⟨_, e⟩
  · rw [← Option.some.inj e]; exact ⟨rfl, Or.inl rfl⟩
  replace e := cl_s e; obtain ⟨_, _, e⟩ := e
  replace e := br_s e; rcases e with ⟨_, e⟩ | ⟨_, e⟩
  · rw [← Option.some.inj e]; exact ⟨rfl, Or.inl rfl⟩
  replace e := cl_s e; obtain ⟨o7, e7, e⟩ := e
  unfold sX15_manOf at e7
  have := Option.some.inj e7; subst this
  dsimp only at e
  replace e := cl_s e; obtain ⟨_, _, e⟩ := e
  replace e := br_s e; rcases e with ⟨_, e⟩ | ⟨_, e⟩
  · replace e := cl_s e; obtain ⟨o10, e10, e⟩ := e
    unfold sX15_sideOf at e10
    have := Option.some.inj e10; subst this
    dsimp only at e
    replace e := cl_s e; obtain ⟨o11, e11, e⟩ := e
    rw [(rank_post e11).1] at e
    replace e := br_s e; rcases e with ⟨r1, e⟩ | ⟨_, e⟩
    · have fin := v_rk Q hq hl e11 r1
      replace e := cl_s e; obtain ⟨o13, e13, e⟩ := e
      unfold sX15_sideOf at e13
      have := Option.some.inj e13; subst this
      dsimp only at e
      replace e := cl_s e; obtain ⟨o14, e14, e⟩ := e
      rw [roy_h e14] at e
      replace e := br_s e; rcases e with ⟨_, e⟩ | ⟨_, e⟩
      · rw [← Option.some.inj (gd_s e).2]; exact ⟨rfl, Or.inr fin⟩
      replace e := cl_s e; obtain ⟨o16, e16, e⟩ := e
      unfold sX15_sideOf at e16
      have := Option.some.inj e16; subst this
      dsimp only at e
      replace e := cl_s e; obtain ⟨o17, e17, e⟩ := e
      rw [(rank_post e17).1] at e
      replace e := br_s e; rcases e with ⟨_, e⟩ | ⟨_, e⟩
      · rw [← Option.some.inj (gd_s e).2]; exact ⟨rfl, Or.inr fin⟩
      · rw [← Option.some.inj (gd_s e).2]; exact ⟨rfl, Or.inr fin⟩
    · rw [← Option.some.inj e]; exact ⟨rfl, Or.inl rfl⟩
  · rw [← Option.some.inj e]; exact ⟨rfl, Or.inl rfl⟩
theorem v_by {x2 x3 x4 : Int32} {o : Int32 × Hp} (Q : VP ρ x0 b Ro M P R A B Ri h) (e : sX15_isPassBy F h x0 b x2 x3 x4 = some o) : o.2 = h ∧ (o.1 = 0 ∨ (hI h b 3).toInt ≤ 7) := by
  have lp : ∀ (f : Nat) {g : Hp} {x5 x6 x7 : Int32}, sX15_isPassBy_86 F f g x0 b x5 x6 x7 = some o → o.2 = g := by
    intro f
    induction f with
    | zero => intro g x5 x6 x7 e; exact absurd e (by simp [sX15_isPassBy_86])
    | succ f ih =>
      intro g x5 x6 x7 e
      unfold sX15_isPassBy_86 at e
      simp only [nm] at e
      replace e := br_s e; rcases e with ⟨_, e⟩ | ⟨_, e⟩
      · rw [← Option.some.inj e]
      replace e := cl_s e; obtain ⟨o2, e2, e⟩ := e
      rw [onw_h e2] at e
      replace e := cl_s e; obtain ⟨_, _, e⟩ := e
      replace e := (gd_s e).2
      replace e := br_s e; rcases e with ⟨_, e⟩ | ⟨_, e⟩
      · exact ih e
      · rw [← Option.some.inj e]
  unfold sX15_isPassBy sX15_isPassBy_81 sX15_isPassBy_83 at e
  simp only [nm] at e
  replace e := cl_s e; obtain ⟨R', er, e⟩ := e
  have y : R' = R := r_eq Q.1.1.1 er
  subst y
  replace e := cl_s e; obtain ⟨Ri', eri, e⟩ := e
  have y : Ri' = Ri := r_eq Q.2.1.2.2.2 eri
  subst y
  replace e := (gd_s e).2
  replace e := br_s e; rcases e with ⟨le, e⟩ | ⟨_, e⟩
  · have le := le_i le
    have l7 : (hI h b 3).toInt ≤ 7 := by have := (Q.2.2.2.1 x3.toNatClampNeg).2; omega
    replace e := cl_s e; obtain ⟨o6, e6, e⟩ := e
    rw [onw_h e6] at e
    replace e := br_s e; rcases e with ⟨_, e⟩ | ⟨_, e⟩
    · rw [← Option.some.inj e]; exact ⟨rfl, Or.inl rfl⟩
    replace e := cl_s e; obtain ⟨_, _, e⟩ := e
    replace e := (gd_s e).2
    replace e := br_s e; rcases e with ⟨_, e⟩ | ⟨_, e⟩
    · rw [← Option.some.inj e]; exact ⟨rfl, Or.inl rfl⟩
    replace e := cl_s e; obtain ⟨_, _, e⟩ := e
    replace e := cl_s e; obtain ⟨_, _, e⟩ := e
    replace e := (gd_s e).2
    replace e := br_s e; rcases e with ⟨_, e⟩ | ⟨_, e⟩
    · exact ⟨lp F e, Or.inr l7⟩
    replace e := cl_s e; obtain ⟨o15, e15, e⟩ := e
    rw [(rank_post e15).1] at e
    replace e := cl_s e; obtain ⟨_, _, e⟩ := e
    replace e := cl_s e; obtain ⟨_, _, e⟩ := e
    replace e := (gd_s e).2
    replace e := br_s e; rcases e with ⟨_, e⟩ | ⟨_, e⟩
    · exact ⟨lp F e, Or.inr l7⟩
    · rw [← Option.some.inj e]; exact ⟨rfl, Or.inl rfl⟩
  · rw [← Option.some.inj e]; exact ⟨rfl, Or.inl rfl⟩
theorem v_107 {K : Hp → Nat → Nat → Int32 → Int32 → Int32 → Int32 → Option (Int32 × Hp)} {x2 x3 x4 x5 x6 : Int32} {o : Int32 × Hp} (hK : ∀ {g : Hp} {y : Int32}, VP ρ x0 b Ro M P R A B Ri g → K g x0 b x2 x3 x4 y = some o → VF x0 Ro g o.2 ∧ (o.1 = 0 ∨ (hI g b 3).toInt ≤ 7)) : ∀ (f : Nat) {h : Hp} {x7 : Int32}, VP ρ x0 b Ro M P R A B Ri h → sX15_isPass_107 F K f h x0 b x2 x3 x4 x5 x6 x7 = some o → VF x0 Ro h o.2 ∧ (o.1 = 0 ∨ (hI h b 3).toInt ≤ 7) := by
  intro f
  induction f with
  | zero => intro h x7 _ e; exact absurd e (by simp [sX15_isPass_107])
  | succ f ih =>
    intro h x7 Q e
    unfold sX15_isPass_107 sX15_isPass_164 sX15_isPass_158 at e
    simp only [nm] at e
    replace e := br_s e; rcases e with ⟨_, e⟩ | ⟨_, e⟩
    · exact hK Q e
    replace e := cl_s e; obtain ⟨_, _, e⟩ := e
    replace e := cl_s e; obtain ⟨_, _, e⟩ := e
    replace e := (gd_s e).2
    replace e := br_s e; rcases e with ⟨_, e⟩ | ⟨_, e⟩
    · exact hK Q e
    replace e := cl_s e; obtain ⟨o6, e6, e⟩ := e
    have k6 : VF x0 Ro h o6.2 := vf_3 (hv_z (l := 0) Q.1 e6)
    have Q6 := vp_k k6 Q
    have b3 : hI o6.2 b 3 = hI h b 3 := k6.2.2 b 3 (fun z => by have := Q.2.2.1; rw [z, this.1] at this; exact absurd this.2.1 (by decide)) (fun z => by have := Q.2.2.1.2.1; rw [z.1, Q.1.2.1.1] at this; exact absurd this (by decide))
    have up : VF x0 Ro o6.2 o.2 ∧ (o.1 = 0 ∨ (hI o6.2 b 3).toInt ≤ 7) → VF x0 Ro h o.2 ∧ (o.1 = 0 ∨ (hI h b 3).toInt ≤ 7) := fun w => ⟨vf_t k6 w.1, by rw [← b3]; exact w.2⟩
    replace e := br_s e; rcases e with ⟨_, e⟩ | ⟨_, e⟩
    · exact up (ih Q6 e)
    replace e := cl_s e; obtain ⟨o8, e8, e⟩ := e
    obtain ⟨h8, w8⟩ := v_by Q6 e8
    rw [h8] at e
    replace e := br_s e; rcases e with ⟨_, e⟩ | ⟨n8, e⟩
    · exact up (ih Q6 e)
    · rw [← Option.some.inj e] at up ⊢
      exact up ⟨vf_0, Or.inr (w8.resolve_left n8)⟩
theorem v_pass {o : Int32 × Hp} (Q : VP ρ x0 b Ro M P R A B Ri h) (e : sX15_isPass F h x0 b = some o) : VF x0 Ro h o.2 ∧ (o.1 = 0 ∨ ((hI h b 3).toInt ≤ 7 ∧ 0 < (hI h M (hI h P 0).toNatClampNeg).toInt ∧ ¬ (hI h M (hI h P 0).toNatClampNeg - (1 : Int32)) &&& (1 : Int32) = hI h b 1)) := by
  have b75 : ∀ (f : Nat) {g : Hp} {x2 x3 x4 x5 : Int32}, VP ρ x0 b Ro M P R A B Ri g → sX15_isPass_75 F f g x0 b x2 x3 x4 x5 = some o → VF x0 Ro g o.2 ∧ (o.1 = 0 ∨ (hI g b 3).toInt ≤ 7) := by
    intro f
    induction f with
    | zero => intro g x2 x3 x4 x5 _ e; exact absurd e (by simp [sX15_isPass_75])
    | succ f ih =>
      intro g x2 x3 x4 x5 Q e
      unfold sX15_isPass_75 sX15_manOf at e
      simp only [nm] at e
      replace e := cl_s e; obtain ⟨_, _, e⟩ := e
      replace e := cl_s e; obtain ⟨_, _, e⟩ := e
      replace e := cl_s e; obtain ⟨o3, e3, e⟩ := e
      have := Option.some.inj e3; subst this
      dsimp only at e
      replace e := (gd_s e).2
      replace e := br_s e; rcases e with ⟨_, e⟩ | ⟨_, e⟩
      · rw [← Option.some.inj e]; exact ⟨vf_0, Or.inl rfl⟩
      replace e := cl_s e; obtain ⟨o6, e6, e⟩ := e
      have := Option.some.inj e6; subst this
      dsimp only at e
      exact v_107 (fun Q e => ih Q e) F Q e
  have b34 : ∀ (f : Nat) {x2 x3 x4 : Int32}, sX15_isPass_34 F f h x0 b x2 x3 x4 = some o → VF x0 Ro h o.2 ∧ (o.1 = 0 ∨ (hI h b 3).toInt ≤ 7) := by
    intro f
    induction f with
    | zero => intro x2 x3 x4 e; exact absurd e (by simp [sX15_isPass_34])
    | succ f ih =>
      intro x2 x3 x4 e
      unfold sX15_isPass_34 sX15_sideOf at e
      simp only [nm] at e
      replace e := br_s e; rcases e with ⟨_, e⟩ | ⟨_, e⟩
      · replace e := cl_s e; obtain ⟨o2, e2, e⟩ := e
        have := Option.some.inj e2; subst this
        dsimp only at e
        exact b75 F Q e
      replace e := cl_s e; obtain ⟨_, _, e⟩ := e
      replace e := cl_s e; obtain ⟨_, _, e⟩ := e
      replace e := (gd_s e).2
      replace e := (gd_s e).2
      replace e := br_s e; rcases e with ⟨_, e⟩ | ⟨_, e⟩
      · exact ih e
      · rw [← Option.some.inj e]; exact ⟨vf_0, Or.inl rfl⟩
  unfold sX15_isPass sX15_isPass_29 sX15_sideOf at e
  simp only [nm] at e
  replace e := cl_s e; obtain ⟨P', ep, e⟩ := e
  have y : P' = P := r_eq Q.2.1.2.2.1 ep
  subst y
  replace e := (gd_s e).2
  replace e := cl_s e; obtain ⟨M', em, e⟩ := e
  have y : M' = M := r_eq Q.2.1.2.1 em
  subst y
  replace e := (gd_s e).2
  have z0 : (0 : Int32).toNatClampNeg = 0 := rfl
  rw [z0] at e
  replace e := br_s e; rcases e with ⟨_, e⟩ | ⟨n0, e⟩
  · rw [← Option.some.inj e]; exact ⟨vf_0, Or.inl rfl⟩
  replace e := cl_s e; obtain ⟨o8, e8, e⟩ := e
  have := Option.some.inj e8; subst this
  dsimp only at e
  replace e := br_s e; rcases e with ⟨_, e⟩ | ⟨ns, e⟩
  · rw [← Option.some.inj e]; exact ⟨vf_0, Or.inl rfl⟩
  obtain ⟨k, w⟩ := b34 F e
  refine ⟨k, w.imp id (fun l7 => ⟨l7, ?_, ns⟩)⟩
  have m0 := (Q.2.2.2.2.2 (hI h P' 0).toNatClampNeg).1
  have : ¬ (hI h M' (hI h P' 0).toNatClampNeg).toInt = 0 := fun z => n0 (Int32.toInt_inj.mp z)
  omega
end
end
section
/-! wrongOf by its equation: rights, passes -/
section
variable {ρ : Nat → Nat} {c : Cm} {h o g h0 : Hp} {x0 b Ro M P R A B Ri F : Nat}
/-- what a position that is not wrong has -/
def VR (x0 b M P : Nat) (h : Hp) : Prop := cRt (hJ h b 2) (hI h x0 13).toNatClampNeg ≤ 16 ∧ (hI h b 3).toInt ≤ 8 ∧ (0 < (hI h b 3).toInt → 0 < (hI h M (hI h P 0).toNatClampNeg).toInt ∧ ¬ (hI h M (hI h P 0).toNatClampNeg - (1 : Int32)) &&& (1 : Int32) = hI h b 1)
theorem npos {x : Int32} {g : Hp} {o : Int32 × Hp} (e : some (x, g) = some o) (le : o.1 ≤ 0) (p : 0 < x.toInt) : False := by
  rw [← Option.some.inj e] at le
  have := le_i le
  have z0 : (0 : Int32).toInt = 0 := rfl
  have : x.toInt ≤ (0 : Int32).toInt := this
  omega
theorem w_242 {o : Int32 × Hp} (le : o.1 ≤ 0) : ∀ (f : Nat) {h : Hp} {x4 : Int32}, VP ρ x0 b Ro M P R A B Ri h → 0 ≤ x4.toInt → (∀ i : Nat, (i : Int) < x4.toInt → bitJ (hJ h b 2) i = true → i / (hI h x0 11).toNatClampNeg = 0 ∨ i / (hI h x0 11).toNatClampNeg + 1 = (hI h x0 12).toNatClampNeg) → sX15_wrongOf_242 F f h x0 b x4 = some o → VR x0 b M P h := by
  have z0 : (0 : Int32).toInt = 0 := rfl
  have z1 : (1 : Int32).toInt = 1 := rfl
  intro f
  induction f with
  | zero => intro h x4 _ _ _ e; exact absurd e (by simp [sX15_wrongOf_242])
  | succ f ih =>
    intro h x4 Q a4 C e
    unfold sX15_wrongOf_242 sX15_wrongOf_277 at e
    simp only [nm] at e
    obtain ⟨⟨f1, f1'⟩, ⟨f2, f2'⟩, ⟨f3, f3'⟩, f4⟩ := Q.2.2.2.2.1
    replace e := br_s e; rcases e with ⟨l4, e⟩ | ⟨l4, e⟩
    · have l4 := le_i l4
      have cs := nc_i (x := hI h x0 13) (by omega)
      have cf := nc_i (x := hI h x0 11) (by omega)
      have cr := nc_i (x := hI h x0 12) (by omega)
      have es : (hI h x0 13).toNatClampNeg = (hI h x0 11).toNatClampNeg * (hI h x0 12).toNatClampNeg := by
        have : (((hI h x0 11).toNatClampNeg * (hI h x0 12).toNatClampNeg : Nat) : Int) = (hI h x0 11).toInt * (hI h x0 12).toInt := by rw [Int.natCast_mul, cf, cr]
        have f4' : (hI h x0 13).toInt = (hI h x0 11).toInt * (hI h x0 12).toInt := f4
        omega
      have r16 : cRt (hJ h b 2) (hI h x0 13).toNatClampNeg ≤ 16 := by
        refine Nat.le_trans (crt_ce (F := (hI h x0 11).toNatClampNeg) (R := (hI h x0 12).toNatClampNeg) _ (fun i hi bi => C i (by omega) bi)) ?_
        rw [es]
        exact ce_16 _ (by omega) _ (by omega)
      replace e := br_s e; rcases e with ⟨p0, e⟩ | ⟨p0, e⟩
      · have p0 := le_i p0
        exact ⟨r16, by omega, fun n => by omega⟩
      · replace e := cl_s e; obtain ⟨o3, e3, e⟩ := e
        obtain ⟨k3, w3⟩ := v_pass Q e3
        replace e := br_s e; rcases e with ⟨_, e⟩ | ⟨n3, e⟩
        · exact (npos e le (by decide)).elim
        · obtain ⟨u1, u2, u3⟩ := w3.resolve_left n3
          exact ⟨r16, by omega, fun _ => ⟨u2, u3⟩⟩
    have l4 := nle_i l4
    have t4 : (x4 + (1 : Int32)).toInt = x4.toInt + 1 := ta (by rw [z1]; omega)
    have c4 := nc_i a4
    replace e := br_s e; rcases e with ⟨_, e⟩ | ⟨nb, e⟩
    · replace e := cl_s e; obtain ⟨o6, e6, e⟩ := e
      obtain ⟨h6, w6⟩ := v_right Q a4 l4 e6
      rw [h6] at e
      replace e := br_s e; rcases e with ⟨_, e⟩ | ⟨n6, e⟩
      · exact (npos e le (by decide)).elim
      · refine ih Q (by omega) (fun i hi bi => ?_) e
        by_cases z : i = x4.toNatClampNeg
        · rw [z]; exact w6.resolve_left n6
        · exact C i (by omega) bi
    · refine ih Q (by omega) (fun i hi bi => ?_) e
      by_cases z : i = x4.toNatClampNeg
      · exact absurd (bit_tst (x := x4) ⟨a4, by omega⟩ (by rw [← z]; exact bi)) nb
      · exact C i (by omega) bi
theorem vr_k (k : VF x0 Ro h g) (Q : VP ρ x0 b Ro M P R A B Ri h) (V : VR x0 b M P g) : VR x0 b M P h := by
  obtain ⟨⟨_, ⟨b1, _, _⟩, _, _⟩, _, ⟨r1, r2, r3, r4, r5, r6⟩, _⟩ := Q
  have kI : ∀ {a q : Nat} (i : Nat), ρ a = q → q ≠ 86 → q ≠ 16 → hI g a i = hI h a i := fun {a q} i ra n1 n2 => k.2.2 a i (fun z => n1 (by rw [← ra, z]; exact r1)) (fun z => n2 (by rw [← ra, z.1]; exact b1))
  have nx : ¬ x0 = Ro := fun z => by rw [z, r1] at b1; exact absurd b1 (by decide)
  have kx : hI g x0 13 = hI h x0 13 := k.2.2 x0 13 nx (fun z => by rcases z.2 with w | w <;> exact absurd w (by decide))
  unfold VR at V ⊢
  rw [k.2.1, kx, kI 3 r2 (by decide) (by decide), kI 0 r4 (by decide) (by decide), kI _ r3 (by decide) (by decide), kI 1 r2 (by decide) (by decide)] at V
  exact V
theorem w_165 {x2 t0 : Int32} {o : Int32 × Hp} (le : o.1 ≤ 0) (Q : VP ρ x0 b Ro M P R A B Ri h) (e : sX15_wrongOf_165 F h x0 b x2 t0 = some o) : VR x0 b M P h := by
  unfold sX15_wrongOf_165 sX15_wrongOf_231 sX15_wrongOf_233 at e
  have go : ∀ {x2 : Int32}, br (x2 = 0) (sX15_wrongOf_242 F F h x0 b (0 : Int32)) (some ((3 : Int32), h)) = some o → VR x0 b M P h := fun {x2} e => by
    replace e := br_s e; rcases e with ⟨_, e⟩ | ⟨_, e⟩
    · exact w_242 le F Q (by decide) (fun i hi => absurd hi (by show ¬ (i : Int) < 0; omega)) e
    · exact (npos e le (by decide)).elim
  replace e := cl_s e; obtain ⟨_, _, e⟩ := e
  replace e := (gd_s e).2
  replace e := br_s e; rcases e with ⟨_, e⟩ | ⟨_, e⟩
  · exact (npos e le (by decide)).elim
  replace e := cl_s e; obtain ⟨_, _, e⟩ := e
  replace e := (gd_s e).2
  replace e := br_s e; rcases e with ⟨_, e⟩ | ⟨_, e⟩
  · exact (npos e le (by decide)).elim
  replace e := br_s e; rcases e with ⟨_, e⟩ | ⟨_, e⟩
  · replace e := cl_s e; obtain ⟨_, _, e⟩ := e
    replace e := br_s e; rcases e with ⟨_, e⟩ | ⟨_, e⟩
    · exact go e
    replace e := cl_s e; obtain ⟨_, _, e⟩ := e
    replace e := br_s e; rcases e with ⟨_, e⟩ | ⟨_, e⟩
    · exact go e
    replace e := cl_s e; obtain ⟨_, _, e⟩ := e
    replace e := (gd_s e).2
    replace e := br_s e; rcases e with ⟨_, e⟩ | ⟨_, e⟩
    · replace e := cl_s e; obtain ⟨_, _, e⟩ := e
      replace e := (gd_s e).2
      replace e := br_s e; rcases e with ⟨_, e⟩ | ⟨_, e⟩
      · exact go e
      · exact (npos e le (by decide)).elim
    · exact (npos e le (by decide)).elim
  · exact (npos e le (by decide)).elim
theorem w_18 {o : Int32 × Hp} (le : o.1 ≤ 0) : ∀ (f : Nat) {h : Hp} {x2 x3 : Int32}, VP ρ x0 b Ro M P R A B Ri h → sX15_wrongOf_18 F f h x0 b x2 x3 = some o → VR x0 b M P h := by
  intro f
  induction f with
  | zero => intro h x2 x3 _ e; exact absurd e (by simp [sX15_wrongOf_18])
  | succ f ih =>
    intro h x2 x3 Q e
    unfold sX15_wrongOf_18 sX15_wrongOf_109 sX15_wrongOf_164 at e
    simp only [nm] at e
    have b70 : ∀ {x2 x4 t0 t1 t2 : Int32}, sX15_wrongOf_70 F (sX15_wrongOf_18 F f) h x0 b x2 x3 x4 t0 t1 t2 Ro = some o → VR x0 b M P h := fun {x2 x4 t0 t1 t2} e => by
      unfold sX15_wrongOf_70 sX15_wrongOf_106 sX15_wrongOf_107 sX15_wrongOf_109 sX15_manOf sX15_sideOf at e
      replace e := (gd_s e).2
      replace e := nm_s e; obtain ⟨h2, w2, e⟩ := e
      have k2 : VF x0 Ro h h2 := by rw [w2]; exact vf_w
      have Q2 := vp_k k2 Q
      simp only [nm] at e
      replace e := cl_s e; obtain ⟨o3, e3, e⟩ := e
      have := Option.some.inj e3; subst this
      dsimp only at e
      replace e := cl_s e; obtain ⟨o4, e4, e⟩ := e
      rw [oth_post e4] at e
      replace e := br_s e; rcases e with ⟨_, e⟩ | ⟨_, e⟩
      · exact vr_k k2 Q (ih Q2 e)
      replace e := cl_s e; obtain ⟨o6, e6, e⟩ := e
      have := Option.some.inj e6; subst this
      dsimp only at e
      replace e := cl_s e; obtain ⟨o7, e7, e⟩ := e
      rw [(rank_post e7).1] at e
      replace e := br_s e; rcases e with ⟨_, e⟩ | ⟨_, e⟩
      · exact vr_k k2 Q (ih Q2 e)
      · exact vr_k k2 Q (ih Q2 e)
    replace e := br_s e; rcases e with ⟨_, e⟩ | ⟨_, e⟩
    · replace e := cl_s e; obtain ⟨_, _, e⟩ := e
      replace e := br_s e; rcases e with ⟨_, e⟩ | ⟨_, e⟩
      · exact w_165 le Q e
      replace e := cl_s e; obtain ⟨_, _, e⟩ := e
      replace e := cl_s e; obtain ⟨_, _, e⟩ := e
      replace e := (gd_s e).2
      replace e := cl_s e; obtain ⟨_, _, e⟩ := e
      replace e := cl_s e; obtain ⟨_, _, e⟩ := e
      replace e := (gd_s e).2
      replace e := br_s e; rcases e with ⟨_, e⟩ | ⟨_, e⟩
      · exact w_165 le Q e
      · exact w_165 le Q e
    replace e := cl_s e; obtain ⟨_, _, e⟩ := e
    replace e := (gd_s e).2
    replace e := br_s e; rcases e with ⟨_, e⟩ | ⟨_, e⟩
    · exact ih Q e
    replace e := cl_s e; obtain ⟨r15, e15, e⟩ := e
    have y : r15 = Ro := r_eq Q.2.1.1 e15
    subst y
    replace e := cl_s e; obtain ⟨o16, e16, e⟩ := e
    unfold sX15_sideOf at e16
    have := Option.some.inj e16; subst this
    dsimp only at e
    replace e := (gd_s e).2
    replace e := cl_s e; obtain ⟨o18, e18, e⟩ := e
    unfold sX15_manOf at e18
    have := Option.some.inj e18; subst this
    dsimp only at e
    replace e := cl_s e; obtain ⟨_, _, e⟩ := e
    replace e := br_s e; rcases e with ⟨_, e⟩ | ⟨_, e⟩
    · exact b70 e
    · exact b70 e
/-- a position that is not wrong: few rights, few squares gone over -/
theorem wrong_w {o : Int32 × Hp} (T : TH ρ c h) (r0 : ρ x0 = 16) (rb : ρ b = 13) (sq : SqOk x0 h) (eM : hR h b 0 = some M) (eP : hR h b 4 = some P) (e : sX15_wrongOf F h x0 b = some o) (le : o.1 ≤ 0) : VR x0 b M P h := by
  obtain ⟨Ro, eRo, rRo⟩ := thR T r0 (i := 22) (k2 := 86) rfl (by decide)
  obtain ⟨R, eR, rR⟩ := thR T r0 (i := 4) (k2 := 15) rfl (by decide)
  obtain ⟨A, eA, rA⟩ := thR T rR (i := 6) (k2 := 76) rfl (by decide)
  obtain ⟨B, eB, rB⟩ := thR T rR (i := 7) (k2 := 77) rfl (by decide)
  obtain ⟨Ri, eRi, rRi⟩ := thR T rR (i := 8) (k2 := 78) rfl (by decide)
  have rM := rr T (thR T rb (i := 0) (k2 := 62) rfl (by decide)) eM
  have rP := rr T (thR T rb (i := 4) (k2 := 63) rfl (by decide)) eP
  have Q : VP ρ x0 b Ro M P R A B Ri h := ⟨⟨⟨eR, eA, eB⟩, ⟨r0, rA, rB⟩, fun i => thI T rA rfl, fun i => thI T rB rfl⟩, ⟨eRo, eM, eP, eRi⟩, ⟨rRo, rb, rM, rP, rR, rRi⟩, fun i => thI T rRi rfl, ⟨thI T r0 rfl, thI T r0 rfl, thI T r0 rfl, sq⟩, fun i => thI T rM rfl⟩
  unfold sX15_wrongOf at e
  simp only [nm] at e
  replace e := cl_s e; obtain ⟨r1, e1, e⟩ := e
  have y : r1 = Ro := r_eq eRo e1
  subst y
  replace e := (gd_s e).2
  replace e := cl_s e; obtain ⟨r4, e4, e⟩ := e
  have y : r4 = r1 := r_eq eRo e4
  subst y
  replace e := (gd_s e).2
  have k : VF x0 r4 h (wI (wI h r4 (0 : Int32).toNatClampNeg (0 : Int32)) r4 (1 : Int32).toNatClampNeg (0 : Int32)) := vf_t vf_w vf_w
  exact vr_k k Q (w_18 le F (vp_k k Q) e)
/-- hands as they are read -/
theorem rh_18 {H : Nat} : ∀ (f : Nat) {h : Hp} {x2 : Int32} {o : Int32 × Hp}, hR h b 5 = some H → hN h H = 24 → ¬ H = x0 → 0 ≤ x2.toInt → x2.toInt ≤ 32 → (∀ i, 0 ≤ (hI h H i).toInt) → (∀ i, (hI h H i).toInt ≤ 16) → sH h H 0 12 + sH h H 1 12 = x2.toInt → sX15_readHands_18 F f h x0 b x2 = some o → sH o.2 H 0 12 + sH o.2 H 1 12 ≤ 32 := by
  have z0 : (0 : Int32).toInt = 0 := rfl
  have z1 : (1 : Int32).toInt = 1 := rfl
  have look_h : ∀ {h : Hp} {o : Int32 × Hp}, sX15_look h x0 = some o → o.2 = h := fun {h o} e => by
    unfold sX15_look sX15_look_24 at e
    replace e := br_s e; rcases e with ⟨_, e⟩ | ⟨_, e⟩
    · rw [← Option.some.inj e]
    replace e := cl_s e; obtain ⟨_, _, e⟩ := e
    replace e := (gd_s e).2
    rw [← Option.some.inj e]
  have man_h : ∀ (f : Nat) {h : Hp} {x y : Int32} {o : Int32 × Hp}, sX15_manLetter_2 F f h x0 x y = some o → o.2 = h := by
    intro f
    induction f with
    | zero => intro h x y o e; exact absurd e (by simp [sX15_manLetter_2])
    | succ f ih =>
      intro h x y o e
      unfold sX15_manLetter_2 sX15_valueOf at e
      simp only [nm] at e
      replace e := cl_s e; obtain ⟨_, _, e⟩ := e
      replace e := br_s e; rcases e with ⟨_, e⟩ | ⟨_, e⟩
      · rw [← Option.some.inj e]
      replace e := cl_s e; obtain ⟨_, _, e⟩ := e
      replace e := cl_s e; obtain ⟨_, _, e⟩ := e
      replace e := (gd_s e).2
      replace e := br_s e; rcases e with ⟨_, e⟩ | ⟨_, e⟩
      · replace e := cl_s e; obtain ⟨o3, e3, e⟩ := e
        have := Option.some.inj e3; subst this
        rw [← Option.some.inj e]
      replace e := cl_s e; obtain ⟨_, _, e⟩ := e
      replace e := cl_s e; obtain ⟨_, _, e⟩ := e
      replace e := (gd_s e).2
      replace e := br_s e; rcases e with ⟨_, e⟩ | ⟨_, e⟩
      · replace e := cl_s e; obtain ⟨o3, e3, e⟩ := e
        have := Option.some.inj e3; subst this
        rw [← Option.some.inj e]
      · exact ih e
  intro f
  induction f with
  | zero => intro h x2 o _ _ _ _ _ _ _ _ e; exact absurd e (by simp [sX15_readHands_18])
  | succ f ih =>
    intro h x2 o eH nH nx a2 l2 pos l16 su e
    have b31 : sX15_readHands_31 F (sX15_readHands_18 F f) h x0 b x2 = some o → sH o.2 H 0 12 + sH o.2 H 1 12 ≤ 32 := fun e => by
      unfold sX15_readHands_31 sX15_readHands_63 sX15_manLetter at e
      simp only [nm] at e
      replace e := cl_s e; obtain ⟨o1, e1, e⟩ := e
      rw [look_h e1] at e
      replace e := cl_s e; obtain ⟨o2, e2, e⟩ := e
      rw [man_h F e2] at e
      replace e := br_s e; rcases e with ⟨_, e⟩ | ⟨_, e⟩
      · rw [← Option.some.inj e]; show sH h H 0 12 + sH h H 1 12 ≤ 32; omega
      replace e := br_s e; rcases e with ⟨_, e⟩ | ⟨n32, e⟩
      · rw [← Option.some.inj e]; show sH h H 0 12 + sH h H 1 12 ≤ 32; omega
      replace e := cl_s e; obtain ⟨H', eh, e⟩ := e
      have y : H' = H := r_eq eH eh
      subst y
      have gi := (gd_s e).1
      rw [nH] at gi
      have gb := inb_r gi
      have cq := nc_i gb.1
      replace e := (gd_s e).2
      replace e := br_s e; rcases e with ⟨_, e⟩ | ⟨n16, e⟩
      · rw [← Option.some.inj e]; show sH h H' 0 12 + sH h H' 1 12 ≤ 32; omega
      replace e := cl_s e; obtain ⟨H'', eh', e⟩ := e
      have y : H'' = H' := r_eq eH eh'
      subst y
      replace e := (gd_s e).2
      replace e := (gd_s e).2
      obtain ⟨j, hj⟩ : ∃ j, j = (o2.1 - (1 : Int32)).toNatClampNeg := ⟨_, rfl⟩
      rw [← hj] at e n16 cq
      have vj := l16 j
      have pj := pos j
      have o16 : (16 : Int32).toInt = 16 := rfl
      have v15 : ¬ (hI h H'' j).toInt = 16 := fun z => n16 (Int32.toInt_inj.mp (by rw [z, o16]))
      have tv : (hI h H'' j + (1 : Int32)).toInt = (hI h H'' j).toInt + 1 := by rw [ta (by rw [z1]; omega), z1]
      have x32 : ¬ x2.toInt = 32 := fun z => n32 (Int32.toInt_inj.mp z)
      have t2 : (x2 + (1 : Int32)).toInt = x2.toInt + 1 := by rw [ta (by rw [z1]; omega), z1]
      have kH : ∀ i, hI (wI (wI h H'' j (hI h H'' j + (1 : Int32))) x0 19 (hI (wI h H'' j (hI h H'' j + (1 : Int32))) x0 19 + (1 : Int32))) H'' i = if i = j then hI h H'' j + (1 : Int32) else hI h H'' i := fun i => by
        rw [rI_a nx, r_I]
        by_cases z : i = j
        · rw [if_pos ⟨rfl, z⟩, if_pos z]
        · rw [if_neg (fun w => z w.2), if_neg z]
      have tt := tot_H (M := x0 + H'' + 1) (h := h) (o := wI (wI h H'' j (hI h H'' j + (1 : Int32))) x0 19 (hI (wI h H'' j (hI h H'' j + (1 : Int32))) x0 19 + (1 : Int32))) (by omega) (fun i => by rw [rI_a (by omega), rI_a (by omega)]) kH
      refine ih (h := wI (wI h H'' j (hI h H'' j + (1 : Int32))) x0 19 (hI (wI h H'' j (hI h H'' j + (1 : Int32))) x0 19 + (1 : Int32))) (x2 := x2 + (1 : Int32)) eH nH nx (by omega) (by omega) (fun i => ?_) (fun i => ?_) ?_ e
      · rw [kH]
        by_cases z : i = j
        · rw [if_pos z, tv]; omega
        · rw [if_neg z]; exact pos i
      · rw [kH]
        by_cases z : i = j
        · rw [if_pos z, tv]; omega
        · rw [if_neg z]; exact l16 i
      · unfold tot at tt
        rw [mc_eq (g := hI h (x0 + H'' + 1)) 64 (fun i _ => by rw [rI_a (by omega), rI_a (by omega)]), tv] at tt
        omega
    unfold sX15_readHands_18 at e
    replace e := br_s e; rcases e with ⟨_, e⟩ | ⟨_, e⟩
    · exact b31 e
    replace e := cl_s e; obtain ⟨o2, e2, e⟩ := e
    rw [look_h e2] at e
    replace e := br_s e; rcases e with ⟨_, e⟩ | ⟨_, e⟩
    · replace e := cl_s e; obtain ⟨o4, e4, e⟩ := e
      replace e := (gd_s e).2
      have k4 : ∀ i, hI o4.2 H i = hI h H i := fun i => by
        unfold sX15_reads at e4
        replace e4 := cl_s e4; obtain ⟨o1, e1, e4⟩ := e4
        rw [look_h e1] at e4
        replace e4 := br_s e4; rcases e4 with ⟨_, e4⟩ | ⟨_, e4⟩
        · replace e4 := nm_s e4; obtain ⟨h3, w3, e4⟩ := e4
          rw [← Option.some.inj e4]
          show hI h3 H i = _
          rw [w3, rI_a nx]
        · rw [← Option.some.inj e4]
      rw [← Option.some.inj e]
      show sH o4.2 H 0 12 + sH o4.2 H 1 12 ≤ 32
      rw [sh_eq (h := h) 12 (fun i _ => k4 _), sh_eq (h := h) 12 (fun i _ => k4 _)]
      omega
    · exact b31 e
end
end
