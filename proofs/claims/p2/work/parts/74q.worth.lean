/-- what is solved stands -/
def EnR (x0 : Nat) (h : Hp) : Prop := ¬ hI h x0 50 = 0 → SE x0 h ∧ 1 ≤ (hI h x0 49).toInt
section
variable {ρ : Nat → Nat} {c : Cm} {h o : Hp} {x0 a b F r4 r : Nat} {n n0 m sq : Int} {x1 x2 x3 x4 x5 x6 x7 : Int32}
/-- a man and his place are put at the row's end -/
theorem row_put {Q : Int32 × Hp → Prop} {v s : Int32} {k : Hp → Option (Int32 × Hp)} (hA : pmA c rwpL) (T : TH ρ c h) (r0 : ρ x0 = 16) (i2 : Rg 0 4 x2) (iv : Rg 0 24 v) (is : Rg 0 63 s) (ls : s.toInt < (hI h x0 13).toInt) (P : SE x0 h) (L : PL x0 x2.toInt h) {ro : Nat} (eo : hR h x0 57 = some ro)
    (K : ∀ o, TH ρ c o → Fr ρ (cat c (fS rwpL []) h) h o → SE x0 o → PL x0 (x2.toInt + 1) o → Sat (k o) Q) : Sat (gd (inB x2 (hN h ro)) <| nm (wI h ro x2.toNatClampNeg v) fun h_2 => cl (hR h_2 x0 58) fun r_3 => gd (inB x2 (hN h_2 r_3)) <| nm (wI h_2 r_3 x2.toNatClampNeg s) k) Q := by
  have qo : ρ ro = 108 := rr T (thR T r0 (i := 57) (k2 := 108) rfl (by decide)) eo
  have c2 := clamp_i i2.1
  refine s_gd (by rw [thN T qo (k := 108) (n := 6) rfl (by decide)]; exact rg_inB (rg_m i2 (by decide) : Rg 0 5 x2) (by decide)) ?_
  refine s_hq (th_wI T qo (k := 108) (lo := 0) (hi := 24) rfl iv (by decide) (by decide) (pm_a hA rfl)) (fun h3 T3 w3 => ?_)
  obtain ⟨P3, L3⟩ := man_w T r0 qo w3 P L
  obtain ⟨rp, ep, qp⟩ := thR T3 r0 (i := 58) (k2 := 109) rfl (by decide)
  refine s_ref ep ?_
  refine s_gd (by rw [thN T3 qp (k := 109) (n := 6) rfl (by decide)]; exact rg_inB (rg_m i2 (by decide) : Rg 0 5 x2) (by decide)) ?_
  have e13 : hI h3 x0 13 = hI h x0 13 := by rw [w3, r_I, if_neg (ne_r r0 qo (by decide))]
  refine s_hq (th_wI T3 qp (k := 109) (lo := 0) (hi := 63) rfl is (by decide) (by decide) (pm_a hA rfl)) (fun h6 T6 w6 => ?_)
  obtain ⟨P6, _, L6⟩ := pla_w T3 r0 ep qp w6 (by rw [e13]; exact ls) P3 L3
  rw [if_pos c2] at L6
  refine K h6 T6 ?_ P6 L6
  have f : FrG ρ (cat c (fS rwpL []) h) h h6 := by
    rw [w6, w3]
    exact fr_wI (fr_wI (th_in _ T).2.2 qo (fs_a _ _ _ rfl)) qp (fs_a _ _ _ rfl)
  exact fr_u T f
theorem sb_4 (hF : 700000 ≤ F) (hA : pmA c rwpL) (r0 : ρ x0 = 16) (rb : ρ b = 13) : ∀ (f : Nat) {h : Hp} {x2 x3 : Int32}, TH ρ c h → Rg 0 5 x2 → 0 ≤ x3.toInt → SE x0 h → PL x0 x2.toInt h → (65 - x3.toInt).toNat < f → Sat (sX15_stateOfBoard_4 F f h x0 b x2 x3) (SQ2 ρ c x0) := by
  intro f
  induction f with
  | zero => intros; omega
  | succ f ih =>
    intro h x2 x3 T i2 a3 P L hf
    rw [sX15_stateOfBoard_4]
    unfold sX15_stateOfBoard_50
    have s64 := thI T r0 (k := 16) (i := 13) (lo := 9) (hi := 64) rfl
    refine s_br (fun _ => ?_) (fun n1 => ?_)
    · refine s_cl (s_imp (zX15_stateOf hF hA T r0 i2 (thI T rb (k := 13) (i := 1) (lo := 0) (hi := 1) rfl) P L) (fun o ⟨q1, q2, q3⟩ => ?_))
      exact s_some ⟨q1, q2, q3⟩
    · have l3 := nle_i n1
      have i3 : Rg 0 63 x3 := ⟨a3, by have := s64.2; omega⟩
      have b3 := i3.2
      obtain ⟨rm, em, qm⟩ := thR T rb (i := 0) (k2 := 62) rfl (by decide)
      have gm : inB x3 (hN h rm) := by rw [thN T qm (k := 62) (n := 64) rfl (by decide)]; exact rg_inB i3 (by decide)
      have go : ∀ {o : Hp} {y2 : Int32}, TH ρ c o → Rg 0 5 y2 → SE x0 o → PL x0 y2.toInt o → Sat (nm (x3 + (1 : Int32)) fun v_1 => sX15_stateOfBoard_4 F f o x0 b y2 v_1) (SQ2 ρ c x0) := fun {o y2} To iy Po Lo => by
        refine s_q (fun y ey => ?_)
        have ey2 : y.toInt = x3.toInt + 1 := by rw [ey]; exact (nc_s i3 (by decide)).2
        clear ey
        exact ih To iy (by omega) Po Lo (by omega)
      refine s_ref em (s_gd gm ?_)
      refine s_br (fun _ => go T i2 P L) (fun _ => ?_)
      refine s_br (fun _ => s_some ⟨T, rg_b rfl, P⟩) (fun n5 => ?_)
      have i2' : Rg 0 4 x2 := by
        refine ⟨i2.1, ?_⟩
        have := i2.2
        rcases Int.lt_or_le x2.toInt 5 with q | q
        · omega
        · exact absurd (Int32.toInt_inj.mp (by show x2.toInt = 5; omega)) n5
      obtain ⟨ro, eo, qo⟩ := thR T r0 (i := 57) (k2 := 108) rfl (by decide)
      refine s_ref eo (s_ref em (s_gd gm ?_))
      refine row_put (x2 := x2) (s := x3) hA T r0 i2' (thI T qm (k := 62) (lo := 0) (hi := 24) rfl) i3 l3 P L eo (fun o To fo Po Lo => ?_)
      refine s_q (fun y ey => ?_)
      have ey2 : y.toInt = x2.toInt + 1 := by rw [ey]; exact (nc_s i2' (by decide)).2
      clear ey
      have := i2'.1
      have := i2'.2
      exact go To ⟨by omega, by omega⟩ Po (by rw [ey2]; exact Lo)
theorem zX15_stateOfBoard (hF : 700000 ≤ F) (hA : pmA c rwpL) (T : TH ρ c h) (r0 : ρ x0 = 16) (rb : ρ b = 13) (P : SE x0 h) : Sat (sX15_stateOfBoard F h x0 b) (SQ2 ρ c x0) := by
  unfold sX15_stateOfBoard
  have z0 : (0 : Int32).toInt = 0 := rfl
  exact sb_4 hF hA r0 rb F T (rg_b rfl) (by decide) P (fun _ _ i hi => by rw [z0] at hi; omega) (by rw [z0]; omega)
theorem zX15_worth (hF : 700000 ≤ F) (hA : pmA c rwpL) (T : TH ρ c h) (r0 : ρ x0 = 16) (bd : BdP x0 h) (E : EnR x0 h) : Sat (sX15_worth F h x0 x1) (fun o => TH ρ c o.2 ∧ Rg (-103) 5000000 o.1 ∧ EnR x0 o.2) := by
  unfold sX15_worth sX15_worth_32 sX15_worth_53
  refine s_dP0 (zX15_has hF T r0 (rg_top _)) (fun oo eb e ii pp => ?_)
  rw [e]
  refine s_br (fun _ => s_some ⟨T, rg_b rfl, E⟩) (fun nz => ?_)
  have i1 := pp nz
  refine s_br (fun _ => ?_) (fun n50 => ?_)
  · exact s_br (fun _ => s_some ⟨T, rg_b rfl, E⟩) (fun q => absurd rfl q)
  obtain ⟨b, B⟩ := bk_of T r0 (hb_of T r0 bd eb nz)
  obtain ⟨rb, wb⟩ := bk_r T r0 B
  refine s_bk T r0 i1 B ?_
  obtain ⟨P, l1⟩ := E n50
  refine s_cl (s_imp (zX15_stateOfBoard (c := cat c (fS rwpL []) h) hF fs_a (th_in _ T) r0 rb P) (fun o7 ⟨T7', i7, P7⟩ => ?_))
  have T7 := th_out T (fs_sub hA fs_n) T7'
  have f7 := fr_u T T7'.2.2
  have E7 : EnR x0 o7.2 := fun _ => ⟨P7, by rw [(fr_RI f7 r0 (by decide) (fun _ => rfl)).1]; exact l1⟩
  refine s_br (fun _ => s_some ⟨T7, rg_b rfl, E7⟩) (fun nm1 => ?_)
  have i8 : Rg 0 599999 o7.1 := rg_nlo nm1 i7 (rg_b rfl : Rg (-1) (-1) (-1 : Int32))
  obtain ⟨r2, e2, q2⟩ := thR T7 r0 (i := 51) (k2 := 102) rfl (by decide)
  refine s_ref e2 ?_
  refine s_gd (by rw [thN T7 q2 (k := 102) (n := 600000) rfl (by decide)]; exact rg_inB i8 (by decide)) ?_
  exact s_some ⟨T7, rg_m (rg_add (rg_b rfl : Rg 2000000 2000000 (2000000 : Int32)) (thI T7 q2 (k := 102) (lo := -1000000) (hi := 3000000) rfl) (by decide) : Rg 1000000 5000000 _) (by decide), E7⟩
end
