section
/-! ENDINGS: the class' rooms stay where they are: printed by gen7y7.py -/
def L73 (n : Nat) (h : Hp) : Prop := hR h (n + 62) 11 = some (n + 73) → hN h (n + 73) = 0
section
variable {n F : Nat} {h : Hp} {o v : Int32 × Hp} {a1 a2 a3 a4 a5 : Int32}
theorem r62_2 {o1 o2 : Hp} (k : DyK n h h) (a : DyK n h o1) (b : DyK n o1 o2) : hR o2 (n + 62) 11 = hR h (n + 62) 11 := by
  have s := dk_610 k
  have s1 := dk_610 a
  rw [(b.2.2.2 (by omega)).1, (a.2.2.2 (by omega)).1]
theorem r62_told (k : DyK n h h) (ea : sX11_told F h n a1 = some o) (er : sX15_told F o.2 (n + 513) a1 = some v) : hR v.2 (n + 62) 11 = hR h (n + 62) 11 := r62_2 k (dk_X11_told k ea) (dk_X15_told (dk_self (dk_X11_told k ea)) er)
theorem r62_out (k : DyK n h h) (ea : sX11_out h n a1 = some o) (er : sX15_out o.2 (n + 513) a1 = some v) : hR v.2 (n + 62) 11 = hR h (n + 62) 11 := r62_2 k (dk_X11_out k ea) (dk_X15_out (dk_self (dk_X11_out k ea)) er)
theorem r62_position (k : DyK n h h) (ea : sX11_position F h n = some o) (er : sX15_position F o.2 (n + 513) = some v) : hR v.2 (n + 62) 11 = hR h (n + 62) 11 := r62_2 k (dk_X11_position k ea) (dk_X15_position (dk_self (dk_X11_position k ea)) er)
theorem r62_drop (k : DyK n h h) (ea : sX11_drop h n a1 = some o) (er : sX15_drop o.2 (n + 513) a1 = some v) : hR v.2 (n + 62) 11 = hR h (n + 62) 11 := r62_2 k (dk_X11_drop k ea) (dk_X15_drop (dk_self (dk_X11_drop k ea)) er)
theorem r62_write (k : DyK n h h) (ea : sX11_write F h n a1 = some o) (er : sX15_write F o.2 (n + 513) a1 = some v) : hR v.2 (n + 62) 11 = hR h (n + 62) 11 := r62_2 k (dk_X11_write k ea) (dk_X15_write (dk_self (dk_X11_write k ea)) er)
theorem r62_same (k : DyK n h h) (ea : sX11_same F h n a1 a2 = some o) (er : sX15_same F o.2 (n + 513) a1 a2 = some v) : hR v.2 (n + 62) 11 = hR h (n + 62) 11 := r62_2 k (dk_X11_same k ea) (dk_X15_same (dk_self (dk_X11_same k ea)) er)
theorem r62_at (k : DyK n h h) (ea : sX11_at h n a1 a2 = some o) (er : sX15_at o.2 (n + 513) a1 a2 = some v) : hR v.2 (n + 62) 11 = hR h (n + 62) 11 := r62_2 k (dk_X11_at k ea) (dk_X15_at (dk_self (dk_X11_at k ea)) er)
theorem r62_figure (k : DyK n h h) (ea : sX11_figure F h n a1 a2 = some o) (er : sX15_figure F o.2 (n + 513) a1 a2 = some v) : hR v.2 (n + 62) 11 = hR h (n + 62) 11 := r62_2 k (dk_X11_figure k ea) (dk_X15_figure (dk_self (dk_X11_figure k ea)) er)
theorem r62_attacked (k : DyK n h h) (ea : sX11_attacked F h n a1 a2 a3 = some o) (er : sX15_attacked F o.2 (n + 513) a1 a2 a3 = some v) : hR v.2 (n + 62) 11 = hR h (n + 62) 11 := r62_2 k (dk_X11_attacked k ea) (dk_X15_attacked (dk_self (dk_X11_attacked k ea)) er)
theorem r62_moves (k : DyK n h h) (ea : sX11_moves F h n a1 = some o) (er : sX15_moves F o.2 (n + 513) a1 = some v) : hR v.2 (n + 62) 11 = hR h (n + 62) 11 := r62_2 k (dk_X11_moves k ea) (dk_X15_moves (dk_self (dk_X11_moves k ea)) er)
theorem r62_move (k : DyK n h h) (ea : sX11_move F h n a1 a2 a3 = some o) (er : sX15_move F o.2 (n + 513) a1 a2 a3 = some v) : hR v.2 (n + 62) 11 = hR h (n + 62) 11 := r62_2 k (dk_X11_move k ea) (dk_X15_move (dk_self (dk_X11_move k ea)) er)
theorem r62_go (k : DyK n h h) (ea : sX11_go F h n a1 a2 = some o) (er : sX15_go F o.2 (n + 513) a1 a2 = some v) : hR v.2 (n + 62) 11 = hR h (n + 62) 11 := r62_2 k (dk_X11_go k ea) (dk_X15_go (dk_self (dk_X11_go k ea)) er)
theorem r62_rows (k : DyK n h h) (ea : sX11_rows F h n a1 a2 = some o) (er : sX15_rows F o.2 (n + 513) a1 a2 = some v) : hR v.2 (n + 62) 11 = hR h (n + 62) 11 := r62_2 k (dk_X11_rows k ea) (dk_X15_rows (dk_self (dk_X11_rows k ea)) er)
theorem r62_ended (k : DyK n h h) (ea : sX11_ended F h n a1 = some o) (er : sX15_ended F o.2 (n + 513) a1 = some v) : hR v.2 (n + 62) 11 = hR h (n + 62) 11 := r62_2 k (dk_X11_ended k ea) (dk_X15_ended (dk_self (dk_X11_ended k ea)) er)
theorem r62_result (k : DyK n h h) (ea : sX11_result F h n a1 = some o) (er : sX15_result F o.2 (n + 513) a1 = some v) : hR v.2 (n + 62) 11 = hR h (n + 62) 11 := r62_2 k (dk_X11_result k ea) (dk_X15_result (dk_self (dk_X11_result k ea)) er)
theorem r62_say (k : DyK n h h) (ea : sX11_say F h n a1 a2 = some o) (er : sX15_say_ F o.2 (n + 513) a1 a2 = some v) : hR v.2 (n + 62) 11 = hR h (n + 62) 11 := r62_2 k (dk_X11_say k ea) (dk_X15_say_ (dk_self (dk_X11_say k ea)) er)
theorem r62_hear (k : DyK n h h) (ea : sX11_hear F h n a1 = some o) (er : sX15_hear F o.2 (n + 513) a1 = some v) : hR v.2 (n + 62) 11 = hR h (n + 62) 11 := r62_2 k (dk_X11_hear k ea) (dk_X15_hear (dk_self (dk_X11_hear k ea)) er)
theorem r62_start (k : DyK n h h) (ea : sX11_start F h n a1 a2 = some o) (er : sX15_start o.2 (n + 513) a1 a2 = some v) : hR v.2 (n + 62) 11 = hR h (n + 62) 11 := r62_2 k (dk_X11_start k ea) (dk_X15_start (dk_self (dk_X11_start k ea)) er)
theorem r62_add (k : DyK n h h) (ea : sX11_add F h n a1 a2 = some o) (er : sX15_add F o.2 (n + 513) a1 a2 = some v) : hR v.2 (n + 62) 11 = hR h (n + 62) 11 := r62_2 k (dk_X11_add k ea) (dk_X15_add (dk_self (dk_X11_add k ea)) er)
theorem r62_back (k : DyK n h h) (ea : sX11_back h n a1 = some o) (er : sX15_back o.2 (n + 513) a1 = some v) : hR v.2 (n + 62) 11 = hR h (n + 62) 11 := r62_2 k (dk_X11_back k ea) (dk_X15_back (dk_self (dk_X11_back k ea)) er)
theorem r62_game (k : DyK n h h) (ea : sX11_game F h n a1 a2 = some o) (er : sX15_game F o.2 (n + 513) a1 a2 = some v) : hR v.2 (n + 62) 11 = hR h (n + 62) 11 := r62_2 k (dk_X11_game k ea) (dk_X15_game (dk_self (dk_X11_game k ea)) er)
theorem r62_played (k : DyK n h h) (ea : sX11_played h n a1 a2 = some o) (er : sX15_played o.2 (n + 513) a1 a2 = some v) : hR v.2 (n + 62) 11 = hR h (n + 62) 11 := r62_2 k (dk_X11_played k ea) (dk_X15_played (dk_self (dk_X11_played k ea)) er)
theorem r62_now (k : DyK n h h) (ea : sX11_now F h n a1 = some o) (er : sX15_now F o.2 (n + 513) a1 = some v) : hR v.2 (n + 62) 11 = hR h (n + 62) 11 := r62_2 k (dk_X11_now k ea) (dk_X15_now (dk_self (dk_X11_now k ea)) er)
theorem r62_book (k : DyK n h h) (ea : sX11_book F h n a1 a2 = some o) (er : sX15_book F o.2 (n + 513) a1 a2 = some v) : hR v.2 (n + 62) 11 = hR h (n + 62) 11 := r62_2 k (dk_X11_book k ea) (dk_X15_book (dk_self (dk_X11_book k ea)) er)
theorem r62_sees (k : DyK n h h) (ea : sX11_sees F h n a1 a2 a3 = some o) (er : sX15_sees F o.2 (n + 513) a1 a2 a3 = some v) : hR v.2 (n + 62) 11 = hR h (n + 62) 11 := r62_2 k (dk_X11_sees k ea) (dk_X15_sees (dk_self (dk_X11_sees k ea)) er)
theorem r62_view (k : DyK n h h) (ea : sX11_view F h n a1 a2 = some o) (er : sX15_view F o.2 (n + 513) a1 a2 = some v) : hR v.2 (n + 62) 11 = hR h (n + 62) 11 := r62_2 k (dk_X11_view k ea) (dk_X15_view (dk_self (dk_X11_view k ea)) er)
theorem r62_before (k : DyK n h h) (ea : sX11_before F h n a1 = some o) (er : sX15_before F o.2 (n + 513) a1 = some v) : hR v.2 (n + 62) 11 = hR h (n + 62) 11 := r62_2 k (dk_X11_before k ea) (dk_X15_before (dk_self (dk_X11_before k ea)) er)
theorem r62_beforeAt (k : DyK n h h) (ea : sX11_beforeAt F h n a1 = some o) (er : sX15_beforeAt F o.2 (n + 513) a1 = some v) : hR v.2 (n + 62) 11 = hR h (n + 62) 11 := r62_2 k (dk_X11_beforeAt k ea) (dk_X15_beforeAt (dk_self (dk_X11_beforeAt k ea)) er)
theorem r62_worth (k : DyK n h h) (ea : sX11_worth F h n a1 = some o) (er : sX15_worth F o.2 (n + 513) a1 = some v) : hR v.2 (n + 62) 11 = hR h (n + 62) 11 := r62_2 k (dk_X11_worth k ea) (dk_X15_worth (dk_self (dk_X11_worth k ea)) er)
theorem r62_tally (k : DyK n h h) (ea : sX11_tally F h n a1 a2 = some o) (er : sX15_tally F o.2 (n + 513) a1 a2 = some v) : hR v.2 (n + 62) 11 = hR h (n + 62) 11 := r62_2 k (dk_X11_tally k ea) (dk_X15_tally (dk_self (dk_X11_tally k ea)) er)
theorem r62_problem (k : DyK n h h) (ea : sX11_problem F h n a1 a2 a3 a4 = some o) (er : sX15_problem F o.2 (n + 513) a1 a2 a3 a4 = some v) : hR v.2 (n + 62) 11 = hR h (n + 62) 11 := r62_2 k (dk_X11_problem k ea) (dk_X15_problem (dk_self (dk_X11_problem k ea)) er)
theorem r62_key (k : DyK n h h) (ea : sX11_key h n a1 = some o) (er : sX15_key o.2 (n + 513) a1 = some v) : hR v.2 (n + 62) 11 = hR h (n + 62) 11 := r62_2 k (dk_X11_key k ea) (dk_X15_key (dk_self (dk_X11_key k ea)) er)
theorem r62_refutes (k : DyK n h h) (ea : sX11_refutes h n a1 = some o) (er : sX15_refutes F o.2 (n + 513) a1 = some v) : hR v.2 (n + 62) 11 = hR h (n + 62) 11 := r62_2 k (dk_X11_refutes k ea) (dk_X15_refutes (dk_self (dk_X11_refutes k ea)) er)
theorem r62_feed (k : DyK n h h) (ea : sX11_feed h n a1 a2 a3 a4 a5 = some o) (er : sX15_feed F o.2 (n + 513) a1 a2 a3 a4 a5 = some v) : hR v.2 (n + 62) 11 = hR h (n + 62) 11 := r62_2 k (dk_X11_feed k ea) (dk_X15_feed (dk_self (dk_X11_feed k ea)) er)
theorem r62_end (k : DyK n h h) (ea : sX11_end h n a1 = some o) (er : sX15_end o.2 (n + 513) a1 = some v) : hR v.2 (n + 62) 11 = hR h (n + 62) 11 := r62_2 k (dk_X11_end k ea) (dk_X15_end (dk_self (dk_X11_end k ea)) er)
end
end
section
/-! lengths of the class' rooms stay: printed by gen7y7.py out of 7e2, 7e3 -/
def HnP (n : Nat) (h v : Hp) : Prop := ∀ e x, hR h n 10 = some e → hR h e 11 = some x → hN v x = hN h x
section
variable {ρ ρ1 ρ4 : Nat → Nat} {c c1 c4 : Cm} {n m : Nat} {h o1 v1 : Hp} {S S' : Nat → Nat → Nat → Bool}
theorem nh_x (T : TH ρ c h) (r0 : ρ n = 12) (X : ExM ρ (cat c S h) ρ1 c1) (T1 : TH ρ1 c1 o1) (X4 : Ext ρ1 (cat c1 S' o1) ρ4 c4) (T4 : TH ρ4 c4 v1) : HnP n h v1 := fun e x ee ex => by
  have qe : ρ e = 1 := rr T (thR T r0 (i := 10) (k2 := 1) rfl (by decide)) ee
  have qx : ρ x = rfK 1 11 := rr T (thR T qe (i := 11) (k2 := rfK 1 11) rfl (by decide)) ex
  have n0 : ρ x ≠ 0 := by rw [qx]; decide
  have n1 : ρ1 x ≠ 0 := by rw [(X.1 x n0).1]; exact n0
  rw [(ex_f T1 X4 T4).2 x n1, (exm_f T X T1).2 x n0]
end
section
variable {n m : Nat} {L d : Nat × Nat} {h : Hp} {A R : Hp → Option (Int32 × Hp)}
theorem nh_tt (I : SI n m L h) (hc : ∀ {ρ : Nat → Nat} {c : Cm} {B : Nat × Nat}, hpC c → TH ρ c h → ρ n = 12 → ClI ρ c n h → RmC n B h → Sat (A h) (CP ρ c n B (Tp n h))) (hr : ∀ {h1 : Hp} {ρ : Nat → Nat} {c : Cm} {B : Nat × Nat}, hpR c → TH ρ c h1 → ρ m = 16 → RfI m h1 → RmR m B h1 → Sat (R h1) (RP ρ c m (B.1 + d.1, B.2 + d.2) (TpR m h1))) {o' v' : Int32 × Hp} (ea : A h = some o') (er : R o'.2 = some v') : HnP n h v'.2 := by
  obtain ⟨ρ, c, T, r0, rm, I1, P, J, tp⟩ := I
  obtain ⟨B, M, back⟩ := j_c (b := false) (l := false) T r0 rm P J
  obtain ⟨o, eo, ρ1, c1, X, T1, I2, M2, tq⟩ := hc hpC_cl (th_in (clSf false false) T) r0 I1 M
  have r1 : ρ1 n = 12 := by rw [(X.1 n (by rw [r0]; decide)).1]; exact r0
  obtain ⟨P2, J2, t2, m1⟩ := back o.2 ρ1 c1 X T1 r1 M2
  obtain ⟨B3, M3, back3⟩ := j_r (b := false) (l := false) (d := d) T1 r1 m1 I2 J2
  obtain ⟨v, ev, ρ4, c4, X4, T4, P4, M4, t4⟩ := hr hpR_rf (th_in (rfSf false false) T1) m1 P2 M3
  obtain ⟨I5, J5, t5, r5, m5⟩ := back3 v.2 ρ4 c4 X4 T4 M4
  have yo : o = o' := Option.some.inj (eo.symm.trans ea)
  subst yo
  have yv : v = v' := Option.some.inj (ev.symm.trans er)
  subst yv
  exact nh_x T r0 X T1 X4 T4
theorem nh_zz (I : SI n m L h) (hc : ∀ {ρ : Nat → Nat} {c : Cm} {B : Nat × Nat}, hpC c → TH ρ c h → ρ n = 12 → ClI ρ c n h → RmC n B h → Sat (A h) (CP ρ c n B (TpZ n))) (hr : ∀ {h1 : Hp} {ρ : Nat → Nat} {c : Cm} {B : Nat × Nat}, hpR c → TH ρ c h1 → ρ m = 16 → RfI m h1 → RmR m B h1 → Sat (R h1) (RP ρ c m B (fun o => hI o m 1 = 0))) {o' v' : Int32 × Hp} (ea : A h = some o') (er : R o'.2 = some v') : HnP n h v'.2 := by
  obtain ⟨ρ, c, T, r0, rm, I1, P, J, tp⟩ := I
  obtain ⟨B, M, back⟩ := j_c (b := false) (l := false) T r0 rm P J
  obtain ⟨o, eo, ρ1, c1, X, T1, I2, M2, tq⟩ := hc hpC_cl (th_in (clSf false false) T) r0 I1 M
  have r1 : ρ1 n = 12 := by rw [(X.1 n (by rw [r0]; decide)).1]; exact r0
  obtain ⟨P2, J2, t2, m1⟩ := back o.2 ρ1 c1 X T1 r1 M2
  obtain ⟨B3, M3, back3⟩ := j_r (b := false) (l := false) (d := (0, 0)) T1 r1 m1 I2 J2
  obtain ⟨v, ev, ρ4, c4, X4, T4, P4, M4, t4⟩ := hr hpR_rf (th_in (rfSf false false) T1) m1 P2 M3
  obtain ⟨I5, J5, t5, r5, m5⟩ := back3 v.2 ρ4 c4 X4 T4 M4
  have yo : o = o' := Option.some.inj (eo.symm.trans ea)
  subst yo
  have yv : v = v' := Option.some.inj (ev.symm.trans er)
  subst yv
  exact nh_x T r0 X T1 X4 T4
end
section
variable {n m F : Nat} {L : Nat × Nat} {h : Hp} {a1 a2 a3 a4 a5 : Int32}
theorem nh_told (hF : 2000000 ≤ F) (I : SI n m L h) {o v : Int32 × Hp} (ea : sX11_told F h n a1 = some o) (er : sX15_told F o.2 m a1 = some v) : HnP n h v.2 := by
  have hF7 : 700000 ≤ F := by omega
  exact nh_tt (A := fun h => sX11_told F h n a1) (R := fun h => sX15_told F h m a1) (d := (1, 8)) I (fun hp T r I M => by first | exact cw_told hF7 hp T r I M | exact cw_told hF7 T r I M | exact cw_told hp T r I M | exact cw_told T r I M | exact cw_told hF hp T r I M) (fun hp T r P M => by first | exact rw_told hF7 hp T r P M | exact rw_told hF7 T r P M | exact rw_told hF hp T r P M) ea er
theorem nh_out (hF : 2000000 ≤ F) (I : SI n m L h) {o v : Int32 × Hp} (ea : sX11_out h n a1 = some o) (er : sX15_out o.2 m a1 = some v) : HnP n h v.2 := by
  have hF7 : 700000 ≤ F := by omega
  exact nh_tt (A := fun h => sX11_out h n a1) (R := fun h => sX15_out h m a1) (d := (0, 0)) I (fun hp T r I M => by first | exact cw_out hF7 hp T r I M | exact cw_out hF7 T r I M | exact cw_out hp T r I M | exact cw_out T r I M | exact cw_out hF hp T r I M) (fun hp T r P M => by first | exact rw_out hF7 hp T r P M | exact rw_out hF7 T r P M | exact rw_out hF hp T r P M) ea er
theorem nh_position (hF : 2000000 ≤ F) (I : SI n m L h) {o v : Int32 × Hp} (ea : sX11_position F h n = some o) (er : sX15_position F o.2 m = some v) : HnP n h v.2 := by
  have hF7 : 700000 ≤ F := by omega
  exact nh_zz (A := fun h => sX11_position F h n) (R := fun h => sX15_position F h m) I (fun hp T r I M => by first | exact cw_position hF7 hp T r I M | exact cw_position hF7 T r I M | exact cw_position hp T r I M | exact cw_position T r I M | exact cw_position hF hp T r I M) (fun hp T r P M => by first | exact rw_position hF7 hp T r P M | exact rw_position hF7 T r P M | exact rw_position hF hp T r P M) ea er
theorem nh_drop (hF : 2000000 ≤ F) (I : SI n m L h) {o v : Int32 × Hp} (ea : sX11_drop h n a1 = some o) (er : sX15_drop o.2 m a1 = some v) : HnP n h v.2 := by
  have hF7 : 700000 ≤ F := by omega
  exact nh_tt (A := fun h => sX11_drop h n a1) (R := fun h => sX15_drop h m a1) (d := (0, 0)) I (fun hp T r I M => by first | exact cw_drop hF7 hp T r I M | exact cw_drop hF7 T r I M | exact cw_drop hp T r I M | exact cw_drop T r I M | exact cw_drop hF hp T r I M) (fun hp T r P M => by first | exact rw_drop hF7 hp T r P M | exact rw_drop hF7 T r P M | exact rw_drop hF hp T r P M) ea er
theorem nh_write (hF : 2000000 ≤ F) (I : SI n m L h) {o v : Int32 × Hp} (ea : sX11_write F h n a1 = some o) (er : sX15_write F o.2 m a1 = some v) : HnP n h v.2 := by
  have hF7 : 700000 ≤ F := by omega
  exact nh_tt (A := fun h => sX11_write F h n a1) (R := fun h => sX15_write F h m a1) (d := (0, 0)) I (fun hp T r I M => by first | exact cw_write hF7 hp T r I M | exact cw_write hF7 T r I M | exact cw_write hp T r I M | exact cw_write T r I M | exact cw_write hF hp T r I M) (fun hp T r P M => by first | exact rw_write hF7 hp T r P M | exact rw_write hF7 T r P M | exact rw_write hF hp T r P M) ea er
theorem nh_same (hF : 2000000 ≤ F) (I : SI n m L h) {o v : Int32 × Hp} (ea : sX11_same F h n a1 a2 = some o) (er : sX15_same F o.2 m a1 a2 = some v) : HnP n h v.2 := by
  have hF7 : 700000 ≤ F := by omega
  exact nh_tt (A := fun h => sX11_same F h n a1 a2) (R := fun h => sX15_same F h m a1 a2) (d := (0, 0)) I (fun hp T r I M => by first | exact cw_same hF7 hp T r I M | exact cw_same hF7 T r I M | exact cw_same hp T r I M | exact cw_same T r I M | exact cw_same hF hp T r I M) (fun hp T r P M => by first | exact rw_same hF7 hp T r P M | exact rw_same hF7 T r P M | exact rw_same hF hp T r P M) ea er
theorem nh_at (hF : 2000000 ≤ F) (I : SI n m L h) {o v : Int32 × Hp} (ea : sX11_at h n a1 a2 = some o) (er : sX15_at o.2 m a1 a2 = some v) : HnP n h v.2 := by
  have hF7 : 700000 ≤ F := by omega
  exact nh_tt (A := fun h => sX11_at h n a1 a2) (R := fun h => sX15_at h m a1 a2) (d := (0, 0)) I (fun hp T r I M => by first | exact cw_at hF7 hp T r I M | exact cw_at hF7 T r I M | exact cw_at hp T r I M | exact cw_at T r I M | exact cw_at hF hp T r I M) (fun hp T r P M => by first | exact rw_at hF7 hp T r P M | exact rw_at hF7 T r P M | exact rw_at hF hp T r P M) ea er
theorem nh_figure (hF : 2000000 ≤ F) (I : SI n m L h) {o v : Int32 × Hp} (ea : sX11_figure F h n a1 a2 = some o) (er : sX15_figure F o.2 m a1 a2 = some v) : HnP n h v.2 := by
  have hF7 : 700000 ≤ F := by omega
  exact nh_tt (A := fun h => sX11_figure F h n a1 a2) (R := fun h => sX15_figure F h m a1 a2) (d := (1, 8)) I (fun hp T r I M => by first | exact cw_figure hF7 hp T r I M | exact cw_figure hF7 T r I M | exact cw_figure hp T r I M | exact cw_figure T r I M | exact cw_figure hF hp T r I M) (fun hp T r P M => by first | exact rw_figure hF7 hp T r P M | exact rw_figure hF7 T r P M | exact rw_figure hF hp T r P M) ea er
theorem nh_attacked (hF : 2000000 ≤ F) (I : SI n m L h) {o v : Int32 × Hp} (ea : sX11_attacked F h n a1 a2 a3 = some o) (er : sX15_attacked F o.2 m a1 a2 a3 = some v) : HnP n h v.2 := by
  have hF7 : 700000 ≤ F := by omega
  exact nh_tt (A := fun h => sX11_attacked F h n a1 a2 a3) (R := fun h => sX15_attacked F h m a1 a2 a3) (d := (0, 0)) I (fun hp T r I M => by first | exact cw_attacked hF7 hp T r I M | exact cw_attacked hF7 T r I M | exact cw_attacked hp T r I M | exact cw_attacked T r I M | exact cw_attacked hF hp T r I M) (fun hp T r P M => by first | exact rw_attacked hF7 hp T r P M | exact rw_attacked hF7 T r P M | exact rw_attacked hF hp T r P M) ea er
theorem nh_moves (hF : 2000000 ≤ F) (I : SI n m L h) {o v : Int32 × Hp} (ea : sX11_moves F h n a1 = some o) (er : sX15_moves F o.2 m a1 = some v) : HnP n h v.2 := by
  have hF7 : 700000 ≤ F := by omega
  exact nh_tt (A := fun h => sX11_moves F h n a1) (R := fun h => sX15_moves F h m a1) (d := (0, 0)) I (fun hp T r I M => by first | exact cw_moves hF7 hp T r I M | exact cw_moves hF7 T r I M | exact cw_moves hp T r I M | exact cw_moves T r I M | exact cw_moves hF hp T r I M) (fun hp T r P M => by first | exact rw_moves hF7 hp T r P M | exact rw_moves hF7 T r P M | exact rw_moves hF hp T r P M) ea er
theorem nh_move (hF : 2000000 ≤ F) (I : SI n m L h) {o v : Int32 × Hp} (ea : sX11_move F h n a1 a2 a3 = some o) (er : sX15_move F o.2 m a1 a2 a3 = some v) : HnP n h v.2 := by
  have hF7 : 700000 ≤ F := by omega
  exact nh_tt (A := fun h => sX11_move F h n a1 a2 a3) (R := fun h => sX15_move F h m a1 a2 a3) (d := (0, 0)) I (fun hp T r I M => by first | exact cw_move hF7 hp T r I M | exact cw_move hF7 T r I M | exact cw_move hp T r I M | exact cw_move T r I M | exact cw_move hF hp T r I M) (fun hp T r P M => by first | exact rw_move hF7 hp T r P M | exact rw_move hF7 T r P M | exact rw_move hF hp T r P M) ea er
theorem nh_go (hF : 2000000 ≤ F) (I : SI n m L h) {o v : Int32 × Hp} (ea : sX11_go F h n a1 a2 = some o) (er : sX15_go F o.2 m a1 a2 = some v) : HnP n h v.2 := by
  have hF7 : 700000 ≤ F := by omega
  exact nh_tt (A := fun h => sX11_go F h n a1 a2) (R := fun h => sX15_go F h m a1 a2) (d := (0, 0)) I (fun hp T r I M => by first | exact cw_go hF7 hp T r I M | exact cw_go hF7 T r I M | exact cw_go hp T r I M | exact cw_go T r I M | exact cw_go hF hp T r I M) (fun hp T r P M => by first | exact rw_go hF7 hp T r P M | exact rw_go hF7 T r P M | exact rw_go hF hp T r P M) ea er
theorem nh_rows (hF : 2000000 ≤ F) (I : SI n m L h) {o v : Int32 × Hp} (ea : sX11_rows F h n a1 a2 = some o) (er : sX15_rows F o.2 m a1 a2 = some v) : HnP n h v.2 := by
  have hF7 : 700000 ≤ F := by omega
  exact nh_tt (A := fun h => sX11_rows F h n a1 a2) (R := fun h => sX15_rows F h m a1 a2) (d := (0, 0)) I (fun hp T r I M => by first | exact cw_rows hF7 hp T r I M | exact cw_rows hF7 T r I M | exact cw_rows hp T r I M | exact cw_rows T r I M | exact cw_rows hF hp T r I M) (fun hp T r P M => by first | exact rw_rows hF7 hp T r P M | exact rw_rows hF7 T r P M | exact rw_rows hF hp T r P M) ea er
theorem nh_ended (hF : 2000000 ≤ F) (I : SI n m L h) {o v : Int32 × Hp} (ea : sX11_ended F h n a1 = some o) (er : sX15_ended F o.2 m a1 = some v) : HnP n h v.2 := by
  have hF7 : 700000 ≤ F := by omega
  exact nh_tt (A := fun h => sX11_ended F h n a1) (R := fun h => sX15_ended F h m a1) (d := (0, 0)) I (fun hp T r I M => by first | exact cw_ended hF7 hp T r I M | exact cw_ended hF7 T r I M | exact cw_ended hp T r I M | exact cw_ended T r I M | exact cw_ended hF hp T r I M) (fun hp T r P M => by first | exact rw_ended hF7 hp T r P M | exact rw_ended hF7 T r P M | exact rw_ended hF hp T r P M) ea er
theorem nh_result (hF : 2000000 ≤ F) (I : SI n m L h) {o v : Int32 × Hp} (ea : sX11_result F h n a1 = some o) (er : sX15_result F o.2 m a1 = some v) : HnP n h v.2 := by
  have hF7 : 700000 ≤ F := by omega
  exact nh_tt (A := fun h => sX11_result F h n a1) (R := fun h => sX15_result F h m a1) (d := (0, 0)) I (fun hp T r I M => by first | exact cw_result hF7 hp T r I M | exact cw_result hF7 T r I M | exact cw_result hp T r I M | exact cw_result T r I M | exact cw_result hF hp T r I M) (fun hp T r P M => by first | exact rw_result hF7 hp T r P M | exact rw_result hF7 T r P M | exact rw_result hF hp T r P M) ea er
theorem nh_say (hF : 2000000 ≤ F) (I : SI n m L h) {o v : Int32 × Hp} (ea : sX11_say F h n a1 a2 = some o) (er : sX15_say_ F o.2 m a1 a2 = some v) : HnP n h v.2 := by
  have hF7 : 700000 ≤ F := by omega
  exact nh_tt (A := fun h => sX11_say F h n a1 a2) (R := fun h => sX15_say_ F h m a1 a2) (d := (0, 0)) I (fun hp T r I M => by first | exact cw_say hF7 hp T r I M | exact cw_say hF7 T r I M | exact cw_say hp T r I M | exact cw_say T r I M | exact cw_say hF hp T r I M) (fun hp T r P M => by first | exact rw_say hF7 hp T r P M | exact rw_say hF7 T r P M | exact rw_say hF hp T r P M) ea er
theorem nh_hear (hF : 2000000 ≤ F) (I : SI n m L h) {o v : Int32 × Hp} (ea : sX11_hear F h n a1 = some o) (er : sX15_hear F o.2 m a1 = some v) : HnP n h v.2 := by
  have hF7 : 700000 ≤ F := by omega
  exact nh_zz (A := fun h => sX11_hear F h n a1) (R := fun h => sX15_hear F h m a1) I (fun hp T r I M => by first | exact cw_hear hF7 hp T r I M | exact cw_hear hF7 T r I M | exact cw_hear hp T r I M | exact cw_hear T r I M | exact cw_hear hF hp T r I M) (fun hp T r P M => by first | exact rw_hear hF7 hp T r P M | exact rw_hear hF7 T r P M | exact rw_hear hF hp T r P M) ea er
theorem nh_start (hF : 2000000 ≤ F) (I : SI n m L h) {o v : Int32 × Hp} (ea : sX11_start F h n a1 a2 = some o) (er : sX15_start o.2 m a1 a2 = some v) : HnP n h v.2 := by
  have hF7 : 700000 ≤ F := by omega
  exact nh_tt (A := fun h => sX11_start F h n a1 a2) (R := fun h => sX15_start h m a1 a2) (d := (0, 0)) I (fun hp T r I M => by first | exact cw_start hF7 hp T r I M | exact cw_start hF7 T r I M | exact cw_start hp T r I M | exact cw_start T r I M | exact cw_start hF hp T r I M) (fun hp T r P M => by first | exact rw_start hF7 hp T r P M | exact rw_start hF7 T r P M | exact rw_start hF hp T r P M) ea er
theorem nh_add (hF : 2000000 ≤ F) (I : SI n m L h) {o v : Int32 × Hp} (ea : sX11_add F h n a1 a2 = some o) (er : sX15_add F o.2 m a1 a2 = some v) : HnP n h v.2 := by
  have hF7 : 700000 ≤ F := by omega
  exact nh_tt (A := fun h => sX11_add F h n a1 a2) (R := fun h => sX15_add F h m a1 a2) (d := (0, 0)) I (fun hp T r I M => by first | exact cw_add hF7 hp T r I M | exact cw_add hF7 T r I M | exact cw_add hp T r I M | exact cw_add T r I M | exact cw_add hF hp T r I M) (fun hp T r P M => by first | exact rw_add hF7 hp T r P M | exact rw_add hF7 T r P M | exact rw_add hF hp T r P M) ea er
theorem nh_back (hF : 2000000 ≤ F) (I : SI n m L h) {o v : Int32 × Hp} (ea : sX11_back h n a1 = some o) (er : sX15_back o.2 m a1 = some v) : HnP n h v.2 := by
  have hF7 : 700000 ≤ F := by omega
  exact nh_tt (A := fun h => sX11_back h n a1) (R := fun h => sX15_back h m a1) (d := (0, 0)) I (fun hp T r I M => by first | exact cw_back hF7 hp T r I M | exact cw_back hF7 T r I M | exact cw_back hp T r I M | exact cw_back T r I M | exact cw_back hF hp T r I M) (fun hp T r P M => by first | exact rw_back hF7 hp T r P M | exact rw_back hF7 T r P M | exact rw_back hF hp T r P M) ea er
theorem nh_game (hF : 2000000 ≤ F) (I : SI n m L h) {o v : Int32 × Hp} (ea : sX11_game F h n a1 a2 = some o) (er : sX15_game F o.2 m a1 a2 = some v) : HnP n h v.2 := by
  have hF7 : 700000 ≤ F := by omega
  exact nh_tt (A := fun h => sX11_game F h n a1 a2) (R := fun h => sX15_game F h m a1 a2) (d := (0, 0)) I (fun hp T r I M => by first | exact cw_game hF7 hp T r I M | exact cw_game hF7 T r I M | exact cw_game hp T r I M | exact cw_game T r I M | exact cw_game hF hp T r I M) (fun hp T r P M => by first | exact rw_game hF7 hp T r P M | exact rw_game hF7 T r P M | exact rw_game hF hp T r P M) ea er
theorem nh_played (hF : 2000000 ≤ F) (I : SI n m L h) {o v : Int32 × Hp} (ea : sX11_played h n a1 a2 = some o) (er : sX15_played o.2 m a1 a2 = some v) : HnP n h v.2 := by
  have hF7 : 700000 ≤ F := by omega
  exact nh_tt (A := fun h => sX11_played h n a1 a2) (R := fun h => sX15_played h m a1 a2) (d := (0, 0)) I (fun hp T r I M => by first | exact cw_played hF7 hp T r I M | exact cw_played hF7 T r I M | exact cw_played hp T r I M | exact cw_played T r I M | exact cw_played hF hp T r I M) (fun hp T r P M => by first | exact rw_played hF7 hp T r P M | exact rw_played hF7 T r P M | exact rw_played hF hp T r P M) ea er
theorem nh_now (hF : 2000000 ≤ F) (I : SI n m L h) {o v : Int32 × Hp} (ea : sX11_now F h n a1 = some o) (er : sX15_now F o.2 m a1 = some v) : HnP n h v.2 := by
  have hF7 : 700000 ≤ F := by omega
  exact nh_tt (A := fun h => sX11_now F h n a1) (R := fun h => sX15_now F h m a1) (d := (0, 0)) I (fun hp T r I M => by first | exact cw_now hF7 hp T r I M | exact cw_now hF7 T r I M | exact cw_now hp T r I M | exact cw_now T r I M | exact cw_now hF hp T r I M) (fun hp T r P M => by first | exact rw_now hF7 hp T r P M | exact rw_now hF7 T r P M | exact rw_now hF hp T r P M) ea er
theorem nh_book (hF : 2000000 ≤ F) (I : SI n m L h) {o v : Int32 × Hp} (ea : sX11_book F h n a1 a2 = some o) (er : sX15_book F o.2 m a1 a2 = some v) : HnP n h v.2 := by
  have hF7 : 700000 ≤ F := by omega
  exact nh_tt (A := fun h => sX11_book F h n a1 a2) (R := fun h => sX15_book F h m a1 a2) (d := (0, 0)) I (fun hp T r I M => by first | exact cw_book hF7 hp T r I M | exact cw_book hF7 T r I M | exact cw_book hp T r I M | exact cw_book T r I M | exact cw_book hF hp T r I M) (fun hp T r P M => by first | exact rw_book hF7 hp T r P M | exact rw_book hF7 T r P M | exact rw_book hF hp T r P M) ea er
theorem nh_sees (hF : 2000000 ≤ F) (I : SI n m L h) {o v : Int32 × Hp} (ea : sX11_sees F h n a1 a2 a3 = some o) (er : sX15_sees F o.2 m a1 a2 a3 = some v) : HnP n h v.2 := by
  have hF7 : 700000 ≤ F := by omega
  exact nh_tt (A := fun h => sX11_sees F h n a1 a2 a3) (R := fun h => sX15_sees F h m a1 a2 a3) (d := (0, 0)) I (fun hp T r I M => by first | exact cw_sees hF7 hp T r I M | exact cw_sees hF7 T r I M | exact cw_sees hp T r I M | exact cw_sees T r I M | exact cw_sees hF hp T r I M) (fun hp T r P M => by first | exact rw_sees hF7 hp T r P M | exact rw_sees hF7 T r P M | exact rw_sees hF hp T r P M) ea er
theorem nh_view (hF : 2000000 ≤ F) (I : SI n m L h) {o v : Int32 × Hp} (ea : sX11_view F h n a1 a2 = some o) (er : sX15_view F o.2 m a1 a2 = some v) : HnP n h v.2 := by
  have hF7 : 700000 ≤ F := by omega
  exact nh_tt (A := fun h => sX11_view F h n a1 a2) (R := fun h => sX15_view F h m a1 a2) (d := (0, 0)) I (fun hp T r I M => by first | exact cw_view hF7 hp T r I M | exact cw_view hF7 T r I M | exact cw_view hp T r I M | exact cw_view T r I M | exact cw_view hF hp T r I M) (fun hp T r P M => by first | exact rw_view hF7 hp T r P M | exact rw_view hF7 T r P M | exact rw_view hF hp T r P M) ea er
theorem nh_before (hF : 2000000 ≤ F) (I : SI n m L h) {o v : Int32 × Hp} (ea : sX11_before F h n a1 = some o) (er : sX15_before F o.2 m a1 = some v) : HnP n h v.2 := by
  have hF7 : 700000 ≤ F := by omega
  exact nh_tt (A := fun h => sX11_before F h n a1) (R := fun h => sX15_before F h m a1) (d := (0, 0)) I (fun hp T r I M => by first | exact cw_before hF7 hp T r I M | exact cw_before hF7 T r I M | exact cw_before hp T r I M | exact cw_before T r I M | exact cw_before hF hp T r I M) (fun hp T r P M => by first | exact rw_before hF7 hp T r P M | exact rw_before hF7 T r P M | exact rw_before hF hp T r P M) ea er
theorem nh_beforeAt (hF : 2000000 ≤ F) (I : SI n m L h) {o v : Int32 × Hp} (ea : sX11_beforeAt F h n a1 = some o) (er : sX15_beforeAt F o.2 m a1 = some v) : HnP n h v.2 := by
  have hF7 : 700000 ≤ F := by omega
  exact nh_tt (A := fun h => sX11_beforeAt F h n a1) (R := fun h => sX15_beforeAt F h m a1) (d := (0, 0)) I (fun hp T r I M => by first | exact cw_beforeAt hF7 hp T r I M | exact cw_beforeAt hF7 T r I M | exact cw_beforeAt hp T r I M | exact cw_beforeAt T r I M | exact cw_beforeAt hF hp T r I M) (fun hp T r P M => by first | exact rw_beforeAt hF7 hp T r P M | exact rw_beforeAt hF7 T r P M | exact rw_beforeAt hF hp T r P M) ea er
theorem nh_solve (hF : 2000000 ≤ F) (I : SI n m L h) {o v : Int32 × Hp} (ea : sX11_solve F h n = some o) (er : sX15_solve F o.2 m = some v) : HnP n h v.2 := by
  have hF7 : 700000 ≤ F := by omega
  exact nh_zz (A := fun h => sX11_solve F h n) (R := fun h => sX15_solve F h m) I (fun hp T r I M => by first | exact cw_solve hF7 hp T r I M | exact cw_solve hF7 T r I M | exact cw_solve hp T r I M | exact cw_solve T r I M | exact cw_solve hF hp T r I M) (fun hp T r P M => by first | exact rw_solve hF7 hp T r P M | exact rw_solve hF7 T r P M | exact rw_solve hF hp T r P M) ea er
theorem nh_worth (hF : 2000000 ≤ F) (I : SI n m L h) {o v : Int32 × Hp} (ea : sX11_worth F h n a1 = some o) (er : sX15_worth F o.2 m a1 = some v) : HnP n h v.2 := by
  have hF7 : 700000 ≤ F := by omega
  exact nh_tt (A := fun h => sX11_worth F h n a1) (R := fun h => sX15_worth F h m a1) (d := (0, 0)) I (fun hp T r I M => by first | exact cw_worth hF7 hp T r I M | exact cw_worth hF7 T r I M | exact cw_worth hp T r I M | exact cw_worth T r I M | exact cw_worth hF hp T r I M) (fun hp T r P M => by first | exact rw_worth hF7 hp T r P M | exact rw_worth hF7 T r P M | exact rw_worth hF hp T r P M) ea er
theorem nh_tally (hF : 2000000 ≤ F) (I : SI n m L h) {o v : Int32 × Hp} (ea : sX11_tally F h n a1 a2 = some o) (er : sX15_tally F o.2 m a1 a2 = some v) : HnP n h v.2 := by
  have hF7 : 700000 ≤ F := by omega
  exact nh_tt (A := fun h => sX11_tally F h n a1 a2) (R := fun h => sX15_tally F h m a1 a2) (d := (0, 0)) I (fun hp T r I M => by first | exact cw_tally hF7 hp T r I M | exact cw_tally hF7 T r I M | exact cw_tally hp T r I M | exact cw_tally T r I M | exact cw_tally hF hp T r I M) (fun hp T r P M => by first | exact rw_tally hF7 hp T r P M | exact rw_tally hF7 T r P M | exact rw_tally hF hp T r P M) ea er
theorem nh_problem (hF : 2000000 ≤ F) (I : SI n m L h) {o v : Int32 × Hp} (ea : sX11_problem F h n a1 a2 a3 a4 = some o) (er : sX15_problem F o.2 m a1 a2 a3 a4 = some v) : HnP n h v.2 := by
  have hF7 : 700000 ≤ F := by omega
  exact nh_tt (A := fun h => sX11_problem F h n a1 a2 a3 a4) (R := fun h => sX15_problem F h m a1 a2 a3 a4) (d := (0, 0)) I (fun hp T r I M => by first | exact cw_problem hF7 hp T r I M | exact cw_problem hF7 T r I M | exact cw_problem hp T r I M | exact cw_problem T r I M | exact cw_problem hF hp T r I M) (fun hp T r P M => by first | exact rw_problem hF7 hp T r P M | exact rw_problem hF7 T r P M | exact rw_problem hF hp T r P M) ea er
theorem nh_key (hF : 2000000 ≤ F) (I : SI n m L h) {o v : Int32 × Hp} (ea : sX11_key h n a1 = some o) (er : sX15_key o.2 m a1 = some v) : HnP n h v.2 := by
  have hF7 : 700000 ≤ F := by omega
  exact nh_tt (A := fun h => sX11_key h n a1) (R := fun h => sX15_key h m a1) (d := (0, 0)) I (fun hp T r I M => by first | exact cw_key hF7 hp T r I M | exact cw_key hF7 T r I M | exact cw_key hp T r I M | exact cw_key T r I M | exact cw_key hF hp T r I M) (fun hp T r P M => by first | exact rw_key hF7 hp T r P M | exact rw_key hF7 T r P M | exact rw_key hF hp T r P M) ea er
theorem nh_refutes (hF : 2000000 ≤ F) (I : SI n m L h) {o v : Int32 × Hp} (ea : sX11_refutes h n a1 = some o) (er : sX15_refutes F o.2 m a1 = some v) : HnP n h v.2 := by
  have hF7 : 700000 ≤ F := by omega
  exact nh_tt (A := fun h => sX11_refutes h n a1) (R := fun h => sX15_refutes F h m a1) (d := (0, 0)) I (fun hp T r I M => by first | exact cw_refutes hF7 hp T r I M | exact cw_refutes hF7 T r I M | exact cw_refutes hp T r I M | exact cw_refutes T r I M | exact cw_refutes hF hp T r I M) (fun hp T r P M => by first | exact rw_refutes hF7 hp T r P M | exact rw_refutes hF7 T r P M | exact rw_refutes hF hp T r P M) ea er
theorem nh_feed (hF : 2000000 ≤ F) (I : SI n m L h) {o' v' : Int32 × Hp} (ea : sX11_feed h n a1 a2 a3 a4 a5 = some o') (er : sX15_feed F o'.2 m a1 a2 a3 a4 a5 = some v') : HnP n h v'.2 := by
  have hF7 : 700000 ≤ F := by omega
  obtain ⟨ρ, c, T, r0, rm, I1, P, J, tp⟩ := I
  obtain ⟨B, M, back⟩ := j_c (b := true) (l := false) T r0 rm P J
  obtain ⟨t, et, qt⟩ := thR T r0 (i := 0) (k2 := 10) rfl (by decide)
  obtain ⟨o, eo, ⟨ρ1, c1, X, T1, I2, M2, _⟩, q1⟩ := cw_feed (F := F) (x1 := a1) (x2 := a2) (x3 := a3) (x4 := a4) (x5 := a5) hF7 hpC_cl (fun _ => rfl) (th_in (clSf true false) T) r0 I1 M et
  have r1 : ρ1 n = 12 := by rw [(X.1 n (by rw [r0]; decide)).1]; exact r0
  obtain ⟨P2, J2, t2, m1⟩ := back o.2 ρ1 c1 X T1 r1 M2
  obtain ⟨B3, M3, back3⟩ := j_r (b := true) (l := false) (d := (0, 0)) T1 r1 m1 I2 J2
  obtain ⟨v, ev, ⟨ρ4, c4, X4, T4, P4, M4, _⟩, q2⟩ := rw_feed (x1 := a1) (x2 := a2) (x3 := a3) (x4 := a4) (x5 := a5) hF7 hpR_rf (fun _ _ => rfl) (th_in (rfSf true false) T1) m1 P2 M3
  have yo : o = o' := Option.some.inj (eo.symm.trans ea)
  subst yo
  have yv : v = v' := Option.some.inj (ev.symm.trans er)
  subst yv
  exact nh_x T r0 X T1 X4 T4
theorem nh_rules (hF : 2000000 ≤ F) (I : SI n m L h) {o' v' : Int32 × Hp} (ea : sX11_rules F h n = some o') (er : sX15_rules F o'.2 m = some v') : HnP n h v'.2 := by
  have hF7 : 700000 ≤ F := by omega
  obtain ⟨ρ, c, T, r0, rm, I1, P, J, tp, tb, lr, dl, mf⟩ := I
  obtain ⟨B, M, back⟩ := j_c (b := false) (l := true) T r0 rm P J
  obtain ⟨o, eo, ρ1, c1, X, T1, I2, M2, tq⟩ := cw_rules hF7 hpC_cl hlC_cl (th_in (clSf false true) T) r0 I1 M
  have r1 : ρ1 n = 12 := by rw [(X.1 n (by rw [r0]; decide)).1]; exact r0
  obtain ⟨P2, J2, t2, m1⟩ := back o.2 ρ1 c1 X T1 r1 M2
  obtain ⟨B3, M3, back3⟩ := j_r (b := false) (l := true) (d := (0, 0)) T1 r1 m1 I2 J2
  obtain ⟨v, ev, ρ4, c4, X4, T4, P4, M4, t4⟩ := rw_rules hF7 hpR_rf hlR_rf (th_in (rfSf false true) T1) m1 P2 M3
  have yo : o = o' := Option.some.inj (eo.symm.trans ea)
  subst yo
  have yv : v = v' := Option.some.inj (ev.symm.trans er)
  subst yv
  exact nh_x T r0 X T1 X4 T4
theorem nh_end (hF : 2000000 ≤ F) (I : SI n m L h) {o' v' : Int32 × Hp} (ea : sX11_end h n a1 = some o') (er : sX15_end o'.2 m a1 = some v') : HnP n h v'.2 := by
  have hF7 : 700000 ≤ F := by omega
  obtain ⟨ρ, c, T, r0, rm, I1, P, J, tp⟩ := I
  obtain ⟨B, M, back⟩ := j_c (b := false) (l := false) T r0 rm P J
  obtain ⟨t, et, qt⟩ := thR T r0 (i := 0) (k2 := 10) rfl (by decide)
  obtain ⟨o, eo, ⟨ρ1, c1, X, T1, I2, M2, _⟩, q1⟩ := cw_end (F := F) (x1 := a1) hF7 hpC_cl (th_in (clSf false false) T) r0 I1 M et
  have r1 : ρ1 n = 12 := by rw [(X.1 n (by rw [r0]; decide)).1]; exact r0
  obtain ⟨P2, J2, t2, m1⟩ := back o.2 ρ1 c1 X T1 r1 M2
  obtain ⟨B3, M3, back3⟩ := j_r (b := false) (l := false) (d := (0, 0)) T1 r1 m1 I2 J2
  obtain ⟨v, ev, ⟨ρ4, c4, X4, T4, P4, M4, _⟩, q2⟩ := rw_end (F := F) (x1 := a1) hF7 hpR_rf (th_in (rfSf false false) T1) m1 P2 M3
  have yo : o = o' := Option.some.inj (eo.symm.trans ea)
  subst yo
  have yv : v = v' := Option.some.inj (ev.symm.trans er)
  subst yv
  exact nh_x T r0 X T1 X4 T4
end
end
