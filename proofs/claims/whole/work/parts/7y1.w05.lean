section
/-! ENDINGS: what stands of them stays over each call: printed by gen7y1.py out of 7qd, 7qe, 7s9 -/
section
variable {n j F : Nat} {h : Hp} {σ : Sy} {o o' : Int32 × Hp} {x1 x2 x3 x4 x5 : Int32} {l : List Int}
theorem enq_at (J : JP n j h) (EJ : EnJ n h) (e : sX11_at h n x1 x2 = some o) (e' : sX15_at o.2 (n + 513) x1 x2 = some o') : EnJ n o'.2 := enq_ll (an := fun σ => anAt σ x1 x2) J EJ (fun _ _ => rfl) (fun _ k Ok R => ca_at k Ok R e) (fun _ k Ok R => ra_at k Ok R e')
theorem enq_attacked (J : JP n j h) (EJ : EnJ n h) (e : sX11_attacked F h n x1 x2 x3 = some o) (e' : sX15_attacked F o.2 (n + 513) x1 x2 x3 = some o') : EnJ n o'.2 := enq_ll (an := fun σ => anHit σ x1 x2 x3) J EJ (fun _ _ => rfl) (fun _ k Ok R => ca_hit k Ok R e) (fun _ k Ok R => ra_hit k Ok R e')
theorem enq_sees (J : JP n j h) (EJ : EnJ n h) (e : sX11_sees F h n x1 x2 x3 = some o) (e' : sX15_sees F o.2 (n + 513) x1 x2 x3 = some o') : EnJ n o'.2 := enq_ll (an := fun σ => anSee σ x1 x2 x3) J EJ (fun _ _ => rfl) (fun _ k Ok R => ca_see k Ok R e) (fun _ k Ok R => ra_see k Ok R e')
theorem enq_moves (J : JP n j h) (EJ : EnJ n h) (e : sX11_moves F h n x1 = some o) (e' : sX15_moves F o.2 (n + 513) x1 = some o') : EnJ n o'.2 := enq_ll (an := fun σ => anMvs σ x1) J EJ (fun _ _ => rfl) (fun _ k Ok R => ca_moves k Ok R e) (fun _ k Ok R => ra_moves k Ok R e')
theorem enq_move (J : JP n j h) (EJ : EnJ n h) (e : sX11_move F h n x1 x2 x3 = some o) (e' : sX15_move F o.2 (n + 513) x1 x2 x3 = some o') : EnJ n o'.2 := enq_ll (an := fun σ => anMov σ x1 x2 x3) J EJ (fun _ _ => rfl) (fun _ k Ok R => ca_move k Ok R e) (fun _ k Ok R => ra_move k Ok R e')
theorem enq_ended (J : JP n j h) (EJ : EnJ n h) (e : sX11_ended F h n x1 = some o) (e' : sX15_ended F o.2 (n + 513) x1 = some o') : EnJ n o'.2 := enq_ll (an := fun σ => anEnd σ x1) J EJ (fun _ _ => rfl) (fun _ k Ok R => ca_ended k Ok R e) (fun _ k Ok R => ra_ended k Ok R e')
theorem enq_result (J : JP n j h) (EJ : EnJ n h) (e : sX11_result F h n x1 = some o) (e' : sX15_result F o.2 (n + 513) x1 = some o') : EnJ n o'.2 := enq_ll (an := fun σ => anRes σ x1) J EJ (fun _ _ => rfl) (fun _ k Ok R => ca_result k Ok R e) (fun _ k Ok R => ra_result k Ok R e')
theorem enq_same (J : JP n j h) (EJ : EnJ n h) (e : sX11_same F h n x1 x2 = some o) (e' : sX15_same F o.2 (n + 513) x1 x2 = some o') : EnJ n o'.2 := enq_ll (an := fun σ => anSam σ x1 x2) J EJ (fun _ _ => rfl) (fun _ k Ok R => ca_same k Ok R e) (fun _ k Ok R => ra_same k Ok R e')
theorem enq_game (J : JP n j h) (EJ : EnJ n h) (e : sX11_game F h n x1 x2 = some o) (e' : sX15_game F o.2 (n + 513) x1 x2 = some o') : EnJ n o'.2 := enq_ll (an := fun σ => anGam σ x1 x2) J EJ (fun σ l => by
  have c : ∀ P mv g k, cnt (syOut σ l) P mv g k = cnt σ P mv g k := fun P mv g k => by
    induction k with
    | zero => rfl
    | succ k ih =>
      show cnt (syOut σ l) P mv g k + _ = cnt σ P mv g k + _
      rw [ih]; rfl
  have d : ∀ P mv g, cntA (syOut σ l) P mv g = cntA σ P mv g := fun P mv g => c P mv g _
  show anGam (syOut σ l) x1 x2 = anGam σ x1 x2
  unfold anGam
  rw [d]; rfl) (fun _ k Ok R => ca_game k Ok R e) (fun _ k Ok R => ra_game k Ok R e')
theorem enq_figure (J : JP n j h) (EJ : EnJ n h) (e : sX11_figure F h n x1 x2 = some o) (e' : sX15_figure F o.2 (n + 513) x1 x2 = some o') : EnJ n o'.2 := enq_ll (an := fun σ => anFig σ x1 x2) J EJ (fun _ _ => rfl) (fun _ k Ok R => ca_fig k Ok R e) (fun _ k Ok R => ra_fig k Ok R e')
theorem enq_played (J : JP n j h) (EJ : EnJ n h) (e : sX11_played h n x1 x2 = some o) (e' : sX15_played o.2 (n + 513) x1 x2 = some o') : EnJ n o'.2 := enq_ll (an := fun σ => anPld σ x1 x2) J EJ (fun _ _ => rfl) (fun _ k Ok R => ca_played k Ok R e) (fun _ k Ok R => ra_played k Ok R e')
theorem enq_go (J : JP n j h) (EJ : EnJ n h) (j1 : j < 100000) (e : sX11_go F h n x1 x2 = some o) (e' : sX15_go F o.2 (n + 513) x1 x2 = some o') : EnJ n o'.2 := enq_g (f := fun σ => syGo σ x1 x2) (an := fun σ => anGo σ x1 x2) J EJ (fun _ Ok => ok_go Ok) (fun _ _ => go_o) (fun σ l => by
  show anGo (syOut σ l) x1 x2 = anGo σ x1 x2
  unfold anGo
  rw [fre_o]; rfl) (fun _ k Ok R => ca_go k Ok R e) (fun _ k Ok R => ra_go k Ok R j1 e') fx_go
theorem enq_back (J : JP n j h) (EJ : EnJ n h) (e : sX11_back h n x1 = some o) (e' : sX15_back o.2 (n + 513) x1 = some o') : EnJ n o'.2 := enq_g (f := fun σ => syBack σ x1) (an := fun σ => anBack σ x1) J EJ (fun _ Ok => ok_back Ok) (fun σ l => by
  show syBack (syOut σ l) x1 = syOut (syBack σ x1) l
  unfold syBack
  rw [show syG (syOut σ l) = syG σ from rfl]
  repeat' split
  all_goals rfl) (fun _ _ => rfl) (fun _ k Ok R => ca_back k Ok R e) (fun _ k Ok R => ra_back k Ok R e') fx_back
theorem enq_start (J : JP n j h) (EJ : EnJ n h) (e : sX11_start F h n x1 x2 = some o) (e' : sX15_start o.2 (n + 513) x1 x2 = some o') : EnJ n o'.2 := enq_g (f := fun σ => sySta σ x1 x2) (an := fun σ => anSta σ x1 x2) J EJ (fun _ Ok => ok_sta Ok) (fun σ l => by
  show sySta (syOut σ l) x1 x2 = syOut (sySta σ x1 x2) l
  unfold sySta
  rw [show sPl (syOut σ l) x2 = sPl σ x2 from rfl]
  cases sPl σ x2 with
  | none => split <;> rfl
  | some P => split <;> rfl) (fun _ _ => rfl) (fun _ k Ok R => ca_start k Ok R e) (fun _ k Ok R => ra_start k Ok R e') fx_sta
theorem enq_now (J : JP n j h) (EJ : EnJ n h) (j1 : j < 100000) (e : sX11_now F h n x1 = some o) (e' : sX15_now F o.2 (n + 513) x1 = some o') : EnJ n o'.2 := enq_g (f := fun σ => syNow σ x1) (an := fun σ => anNow σ x1) J EJ (fun _ Ok => ok_now Ok) (fun σ l => by
  show syNow (syOut σ l) x1 = syOut (syNow σ x1) l
  unfold syNow
  rw [fre_o, show syG (syOut σ l) = syG σ from rfl]
  repeat' split
  all_goals rfl) (fun σ l => by
  show anNow (syOut σ l) x1 = anNow σ x1
  unfold anNow
  rw [fre_o]
  rfl) (fun _ k Ok R => ca_now k Ok R e) (fun _ k Ok R => ra_now k Ok R j1 e') fx_now
theorem enq_add (J : JP n j h) (EJ : EnJ n h) (e : sX11_add F h n x1 x2 = some o) (e' : sX15_add F o.2 (n + 513) x1 x2 = some o') : EnJ n o'.2 := enq_g (f := fun σ => syAdd σ x1 x2) (an := fun σ => anAdd σ x1 x2) J EJ (fun _ Ok => ok_add Ok) (fun σ l => by
  show syAdd (syOut σ l) x1 x2 = syOut (syAdd σ x1 x2) l
  unfold syAdd
  rw [show gmV (syOut σ l) x1 x2 = gmV σ x1 x2 from rfl, show syG (syOut σ l) = syG σ from rfl]
  cases gmV σ x1 x2 with
  | none => repeat' split
            all_goals rfl
  | some v => repeat' split
              all_goals rfl) (fun _ _ => rfl) (fun _ k Ok R => ca_addm k Ok R e) (fun _ k Ok R => ra_addm k Ok R e') fx_add
theorem enq_beforeAt (J : JP n j h) (EJ : EnJ n h) (j1 : j < 100000) (e : sX11_beforeAt F h n x1 = some o) (e' : sX15_beforeAt F o.2 (n + 513) x1 = some o') : EnJ n o'.2 := enq_g (f := fun σ => syBat σ x1) (an := fun σ => anBat σ x1) J EJ (fun _ Ok => ok_bat Ok) (fun σ l => by
  show syBat (syOut σ l) x1 = syOut (syBat σ x1) l
  unfold syBat
  rw [fre_o, show syF (syOut σ l) = syF σ from rfl]
  repeat' split
  all_goals rfl) (fun σ l => by
  show anBat (syOut σ l) x1 = anBat σ x1
  unfold anBat
  rw [fre_o]
  rfl) (fun _ k Ok R => ca_bat k Ok R e) (fun _ k Ok R => ra_bat k Ok R j1 e') fx_bat
theorem enq_book (J : JP n j h) (EJ : EnJ n h) (e : sX11_book F h n x1 x2 = some o) (e' : sX15_book F o.2 (n + 513) x1 x2 = some o') : EnJ n o'.2 := enq_ll (an := fun σ => anBok σ x1 x2) J EJ (fun σ l => by
  have c : ∀ P mv g k, cnt (syOut σ l) P mv g k = cnt σ P mv g k := fun P mv g k => by
    induction k with
    | zero => rfl
    | succ k ih =>
      show cnt (syOut σ l) P mv g k + _ = cnt σ P mv g k + _
      rw [ih]; rfl
  have d : ∀ P mv g, cntA (syOut σ l) P mv g = cntA σ P mv g := fun P mv g => c P mv g _
  have s : ∀ P mv g, cntS (syOut σ l) P mv g = cntS σ P mv g := fun P mv g => by
    induction g with
    | zero => rfl
    | succ g ih =>
      show cntS (syOut σ l) P mv g + cntA (syOut σ l) P mv g = cntS σ P mv g + cntA σ P mv g
      rw [ih, d]
  show anBok (syOut σ l) x1 x2 = anBok σ x1 x2
  unfold anBok plE
  rw [show sPl (syOut σ l) x1 = sPl σ x1 from rfl]
  cases sPl σ x1 with
  | none => rfl
  | some P =>
    show (if _ then cntS (syOut σ l) P x2.toInt 8 else _) = (if _ then cntS σ P x2.toInt 8 else _)
    rw [s]
    rfl) (fun _ k Ok R => ca_book k Ok R e) (fun _ k Ok R => ra_book k Ok R e')
theorem enq_rows (J : JP n j h) (EJ : EnJ n h) (e : sX11_rows F h n x1 x2 = some o) (e' : sX15_rows F o.2 (n + 513) x1 x2 = some o') : EnJ n o'.2 := enq_l (an := fun σ => anRow σ x1 x2) (Z := PbZ n) J EJ (fun a i c => by unfold PbZ at c; omega) (fun a i c => by unfold PbZ at c; omega) (fun _ _ => rfl) (fun _ k Ok R => ca_rows k Ok R e) (fun _ k Ok R => ra_rows k Ok R e')
theorem enq_write (J : JP n j h) (EJ : EnJ n h) (e : sX11_write F h n x1 = some o) (e' : sX15_write F o.2 (n + 513) x1 = some o') : EnJ n o'.2 := enq_wr (f := fun σ => syWrt σ x1) (an := fun σ => anWrt σ x1) J EJ (fun σ l => by
  show ∃ l', syWrt (syOut σ l) x1 = syOut σ l'
  unfold syWrt
  cases sPl (syOut σ l) x1 with
  | none => exact ⟨l, rfl⟩
  | some P => exact ⟨_, rfl⟩) (fun _ _ => rfl) (fun _ k Ok R => ca_write k Ok R e) (fun _ k Ok R => ra_write k Ok R e')
theorem enq_view (J : JP n j h) (EJ : EnJ n h) (e : sX11_view F h n x1 x2 = some o) (e' : sX15_view F o.2 (n + 513) x1 x2 = some o') : EnJ n o'.2 := enq_wr (f := fun σ => syViw σ x1 x2) (an := fun σ => anViw σ x1 x2) J EJ (fun σ l => by
  show ∃ l', syViw (syOut σ l) x1 x2 = syOut σ l'
  unfold syViw
  cases sPl (syOut σ l) x1 with
  | none => split <;> exact ⟨l, rfl⟩
  | some P =>
    split
    · exact ⟨_, rfl⟩
    · exact ⟨l, rfl⟩) (fun _ _ => rfl) (fun _ k Ok R => ca_view k Ok R e) (fun _ k Ok R => ra_view k Ok R e')
theorem enq_out (J : JP n j h) (EJ : EnJ n h) (e : sX11_out h n x1 = some o) (e' : sX15_out o.2 (n + 513) x1 = some o') : EnJ n o'.2 := enq_k (f := id) (f' := id) (an := fun σ => anOut σ x1) (an' := fun σ => anOut σ x1) (Z := fun _ _ => False) (Z' := fun _ _ => False) J EJ (fun _ _ c => c.elim) (fun _ _ c => c.elim) (fun _ _ c => c.elim) (fun _ _ c => c.elim) (fun _ l => ⟨l, rfl⟩) (fun _ l => ⟨l, rfl⟩) (fun _ k _ R => caz_o (ca_out k R e)) (fun _ k _ R => ⟨raz_o (ra_out k R e'), (ra_out k R e').2.2.2.2⟩)
theorem enq_told (J : JP n j h) (EJ : EnJ n h) (e : sX11_told F h n x1 = some o) (e' : sX15_told F o.2 (n + 513) x1 = some o') : EnJ n o'.2 := enq_k (f := id) (f' := id) (an := fun σ => anTld σ (hI h (n + 1) 1).toInt x1) (an' := fun σ => anTld σ (hI o.2 (n + 513) 1).toInt x1) (Z := fun _ _ => False) (Z' := fun _ _ => False) J EJ (fun _ _ c => c.elim) (fun _ _ c => c.elim) (fun _ _ c => c.elim) (fun _ _ c => c.elim) (fun _ l => ⟨l, rfl⟩) (fun _ l => ⟨l, rfl⟩) (fun _ k _ R => caz_o (ca_told k R rfl e)) (fun _ k Ok R => ⟨raz_o (ra_told k Ok R rfl e'), (ra_told k Ok R rfl e').2.2.2.2⟩)
theorem enq_feed (J : JP n j h) (EJ : EnJ n h) (e : sX11_feed h n x1 x2 x3 x4 x5 = some o) (e' : sX15_feed F o.2 (n + 513) x1 x2 x3 x4 x5 = some o') : EnJ n o'.2 := enq_k (f := id) (f' := id) (an := fun _ => o.1.toInt) (an' := fun _ => o'.1.toInt) (Z := TwC n) (Z' := TwR n) J EJ (fun a i c => by unfold TwC at c; omega) (fun a i c => by unfold TwC at c; omega) (fun a i c => by unfold TwR at c; omega) (fun a i c => by unfold TwR at c; omega) (fun _ l => ⟨l, rfl⟩) (fun _ l => ⟨l, rfl⟩) (fun _ k Ok R => ca_feed k Ok R e) (fun _ k Ok R => ⟨ra_feed k Ok R e', ser_feed k e'⟩)
theorem enq_end (J : JP n j h) (EJ : EnJ n h) (e : sX11_end h n x1 = some o) (e' : sX15_end o.2 (n + 513) x1 = some o') : EnJ n o'.2 := enq_k (f := id) (f' := id) (an := fun _ => o.1.toInt) (an' := fun _ => o'.1.toInt) (Z := TwC n) (Z' := TwR n) J EJ (fun a i c => by unfold TwC at c; omega) (fun a i c => by unfold TwC at c; omega) (fun a i c => by unfold TwR at c; omega) (fun a i c => by unfold TwR at c; omega) (fun _ l => ⟨l, rfl⟩) (fun _ l => ⟨l, rfl⟩) (fun _ k Ok R => ca_end k Ok R e) (fun _ k Ok R => ⟨ra_end k Ok R e', ser_end k e'⟩)
theorem enq_say (J : JP n j h) (EJ : EnJ n h) (e : sX11_say F h n x1 x2 = some o) (e' : sX15_say_ F o.2 (n + 513) x1 x2 = some o') : EnJ n o'.2 := enq_wr (f := fun σ => sySay σ x1 x2) (an := fun σ => anSay σ x1 x2) J EJ (fun σ l => by
  show ∃ l', sySay (syOut σ l) x1 x2 = syOut σ l'
  cases z : sPl (syOut σ l) x1 with
  | none => exact ⟨l, (say_0 z).2⟩
  | some P =>
    cases q : mvI (syOut σ l) x1 x2 with
    | none => exact ⟨l, (say_n z q).2⟩
    | some v => exact ⟨_, (say_s z q).2⟩) (fun _ _ => rfl) (fun _ k Ok R => ca_say k Ok R e) (fun _ k Ok R => ra_say k Ok R e')
end
end
section
/-! ENDINGS: what stands of them over drop, before, hear, position, rules -/
section
variable {n j F : Nat} {g h : Hp} {o o' : Int32 × Hp} {x1 : Int32} {L : Nat → Nat → Int}
theorem enq_drop (J : JP n j h) (EJ : EnJ n h) (e : sX11_drop h n x1 = some o) (e' : sX15_drop o.2 (n + 513) x1 = some o') : EnJ n o'.2 := by
  obtain ⟨k, tz, σ, l1, l2, pb, Ok, C, R, Pc, Pr, Po⟩ := J
  obtain ⟨a1, a2, a3, a4⟩ := ca_drop k (syo_ok Ok) C e
  have zc : ∀ a (_ : Nat), a = n + 76 → a < n + 513 ∧ ¬ a = n + 29 := fun a _ c => by omega
  have A0 := frz_o k a4 (fun a i c => (zc a i c).1)
  have R1 := relr_c k a3 A0 (lgle (syo_ok (l := l2) Ok)) R
  obtain ⟨b1, b2, b3, b4⟩ := ra_drop (dk_self a3) (syo_ok Ok) R1 e'
  have dL : syL (syDrop (syOut σ l2) x1) = syL (syOut σ l2) := by
    unfold syDrop
    cases sPl (syOut σ l2) x1 with
    | none => rfl
    | some P => rfl
  have E1 := enj_c k a3 a4 (fun a i c => (zc a i c).1) (fun a i c => by omega) R.1 R1.1 EJ
  have b21 := b2.1
  rw [dL] at b21
  exact enj_r (Z := fun _ _ => False) (dk_self a3) b3 (fw_s b4 (fun _ _ c => Or.inl c)) (fun _ _ c => c.elim) (fun _ _ c => c.elim) R1.1 b21 E1
theorem enq_before {L : Nat × Nat} (J : JP n j h) (EJ : EnJ n h) (I : SI n (n + 513) L h) (e : sX11_before F h n x1 = some o) (e' : sX15_before F o.2 (n + 513) x1 = some o') : EnJ n o'.2 := by
  have k := J.1
  obtain ⟨s1, s2, s3⟩ := si_bef k I
  refine enq_g (f := fun σ => syBef σ x1) (an := fun σ => anBef σ x1) J EJ (fun _ Ok => ok_bef Ok) (fun _ _ => bef_o) (fun σ l => rfl) (fun σ k Ok R => ca_bef k Ok R (fun i hi s hs b => ?_) s2.1 s2.2 e) (fun σ k' Ok R => ra_bef k' Ok R ?_ e') fx_bef
  · have c2 : (hI h (n + 5) 2).toInt = syL σ 0 0 * syL σ 1 0 := R.1.2.1.2.2.1
    rw [← c2]
    exact s1 i hi s hs b
  · obtain ⟨_, _, σ0, l1, l2, _, Ok0, C0, R0, _⟩ := id J
    have c7 : (hI h (n + 5) 7).toInt = syL σ0 20 0 := C0.1.2.2.2.1.2.2.2.1
    have A := ca_bef k (syo_ok Ok0) C0 (fun i hi s hs b => by
      have c2 : (hI h (n + 5) 2).toInt = syL σ0 0 0 * syL σ0 1 0 := C0.1.2.1.2.2.1
      show (s : Int) < syL σ0 0 0 * syL σ0 1 0
      rw [← c2]
      exact s1 i hi s hs b) s2.1 s2.2 e
    have R1 := relr_c k A.2.2.1 (frc_o k A.2.2.2) (lgle (syo_ok (l := l2) Ok0)) R0
    have := rlw_u R1.1 R.1
    rw [← this]
    show 0 ≤ syL σ0 20 0
    rw [← c7]; exact s3
theorem enq_position {L : Nat × Nat} (J : JP n j h) (EJ : EnJ n h) (j1 : j < 100000) (I : SI n (n + 513) L h) (e : sX11_position F h n = some o) (e' : sX15_position F o.2 (n + 513) = some o') : EnJ n o'.2 := by
  obtain ⟨k, tz, σ, l1, l2, pb, Ok, C, R, Pc, Pr, Po⟩ := J
  obtain ⟨i1, i2, i3, i4, i5, i6⟩ := si_psn k I
  obtain ⟨a, σ', Ok', C', R', k1, k2, f1, f2, sn, fx1, fx2⟩ := psn_k (σ := syOut σ l1) (l := l2) k (syo_ok Ok) C R j1 i1 i2 i3 i4 i5 i6 e e'
  have fx1 : syL σ' = syL σ := fx1
  have A0 := frz_o k f1 (fun a i c => by unfold TwC at c; omega)
  have R1 := relr_c k k1 A0 (lgle (syo_ok (l := l2) Ok)) R
  have E1 := enj_c k k1 f1 (fun a i c => by unfold TwC at c; omega) (fun a i c => by unfold TwC at c; omega) R.1 R1.1 EJ
  have b21 := R'.1
  have b21 : RLw n o'.2 (syL σ') := b21
  rw [fx1] at b21
  exact enj_r (dk_self k1) k2 f2 (fun a i c => by unfold TwR at c; omega) (fun a i c => by unfold TwR at c; omega) R1.1 b21 E1
/-- solved no more -/
theorem fgs_10 : ∀ (f : Nat) {h o : Hp} {x1 : Int32}, DyK n g h → sX11_forgetAll_10 F f h n x1 = some o → hI o (n + 62) 10 = 0 := by
  intro f
  induction f with
  | zero => intro h o x1 _ e; exact absurd e (by rw [sX11_forgetAll_10]; exact fun z => nomatch z)
  | succ f ih =>
    intro h o x1 k e
    rw [sX11_forgetAll_10] at e
    rcases br_s e with ⟨c1, e⟩ | ⟨c1, e⟩
    · replace e := ce_e (dk_e (a := 0) (f := 9) (b := 48) k (by decide +kernel)) e
      replace e := nx_e e
      replace e := ce_e (dk_e (a := 0) (f := 10) (b := 62) (dk_wI k) (by decide +kernel)) e
      replace e := nx_e e
      rw [so_e e, rI_s]
    replace e := ce_e (dk_e (a := 0) (f := 14) (b := 149) k (by decide +kernel)) e
    replace e := gg_e e
    obtain ⟨h8, w8, e⟩ := nm_s e
    have k8 : DyK n g h8 := by rw [w8]; exact dk_wI k
    replace e := ce_e (dk_e (a := 0) (f := 11) (b := 76) k8 (by decide +kernel)) e
    obtain ⟨o10, e10, e⟩ := cl_s e
    have q10 : DyK n g o10 := by
      unfold sX4_forget sX4_forget_23 at e10
      rcases br_s e10 with ⟨y, e10⟩ | ⟨y, e10⟩
      · iterate 3 replace e10 := nx_e e10
        rw [so_e e10]
        exact dk_wI (dk_wI (dk_wI k8))
      · rw [so_e e10]; exact k8
    replace e := nx_e e
    exact ih q10 e
theorem fgs_x {o : Hp} (k : DyK n g h) (e : sX11_forgetAll F h n = some o) : hI o (n + 62) 10 = 0 := by
  unfold sX11_forgetAll at e
  replace e := ce_e (dk_e (a := 0) (f := 17) (b := 152) k (by decide +kernel)) e
  obtain ⟨o2, e2, e⟩ := cl_s e
  have k2 := (wt_J7_fill_53178 (dx_0 k) e2).1.1
  exact fgs_10 F k2 e
theorem ruc_s (k : DyK n h h) (e : sX11_rules F h n = some o) : o.1 = (-1 : Int32) - hI o.2 (n + 21) 2 ∨ hI o.2 (n + 62) 10 = 0 := by
  have s6 := dk_610 k
  unfold sX11_rules at e
  replace e := ce_e (dk_e (a := 0) (f := 4) (b := 21) k (by decide +kernel)) e
  replace e := ce_e (dk_e (a := 0) (f := 0) (b := 1) k (by decide +kernel)) e
  replace e := ce_e (dk_e (a := 0) (f := 3) (b := 13) k (by decide +kernel)) e
  obtain ⟨o4, e4, e⟩ := cl_s e
  obtain ⟨k4, f4⟩ := rdt_x k e4
  replace e := ce_e (dk_e (a := 0) (f := 4) (b := 21) k4 (by decide +kernel)) e
  unfold sX2_faultPlace at e
  replace e := ce_e rfl e
  obtain ⟨v7, w7, e⟩ := nm_s e
  unfold sX11_rules_69 sX9_clear at e
  rcases br_s e with ⟨_, e⟩ | ⟨_, e⟩
  · replace e := ce_e (dk_e (a := 0) (f := 0) (b := 1) k4 (by decide +kernel)) e
    obtain ⟨u, eu, e⟩ := cl_s e
    replace eu := so_e (nx_e eu)
    rw [so_e e, eu]
    refine Or.inl ?_
    show v7 = (-1 : Int32) - hI (wI o4.2 (n + 1) 1 0) (n + 21) 2
    rw [rI_a (by omega), w7]
  · have s4 := dk_610 k4
    replace e := ce_e (dk_e (a := 0) (f := 4) (b := 21) k4 (by decide +kernel)) e
    replace e := ce_e (dk_e (a := 0) (f := 0) (b := 1) k4 (by decide +kernel)) e
    replace e := ce_e (dk_e (a := 0) (f := 2) (b := 5) k4 (by decide +kernel)) e
    obtain ⟨o12, e12, e⟩ := cl_s e
    obtain ⟨k12, B12, f12⟩ := rdl_x k4 e12
    replace e := ce_e (dk_e (a := 0) (f := 5) (b := 22) k12 (by decide +kernel)) e
    replace e := ce_e (dk_e (a := 0) (f := 2) (b := 5) k12 (by decide +kernel)) e
    obtain ⟨o15, e15, e⟩ := cl_s e
    obtain ⟨k15, f15⟩ := lay_x k12 e15
    obtain ⟨o16, e16, e⟩ := cl_s e
    obtain ⟨k16, f16, _⟩ := fg_x k15 e16
    have X := fgs_x k15 e16
    replace e := ce_e (dk_e (a := 0) (f := 2) (b := 5) k16 (by decide +kernel)) e
    replace e := nx_e e
    replace e := ce_e (dk_e (a := 0) (f := 0) (b := 1) k16 (by decide +kernel)) e
    obtain ⟨u, eu, e⟩ := cl_s e
    replace eu := so_e (nx_e eu)
    rw [so_e e, eu]
    refine Or.inr ?_
    show hI (wI o16 (n + 1) 1 0) (n + 62) 10 = 0
    rw [rI_a (by omega)]; exact X
theorem r50_56 : ∀ (f : Nat) {h : Hp} {x2 : Int32}, sX15_rules_56 F f h (n + 513) x2 = some o → hI o.2 (n + 513) 50 = 0 := by
  intro f
  induction f with
  | zero => intro h x2 e; exact absurd e (by rw [sX15_rules_56]; exact fun z => nomatch z)
  | succ f ih =>
    intro h x2 e
    rw [sX15_rules_56] at e
    rcases br_s e with ⟨c1, e⟩ | ⟨c1, e⟩
    · iterate 3 replace e := nx_e e
      obtain ⟨r5, _, e⟩ := cl_s e
      rw [so_e e]
      show hI (wI (wI (wI h (n + 513) 50 0) (n + 513) 44 0) (n + 513) 65 0) (n + 513) 50 = _
      rw [rI_o (by decide), rI_o (by decide), rI_s]
    · obtain ⟨r6, _, e⟩ := cl_s e
      replace e := gg_e e
      obtain ⟨h8, w8, e⟩ := nm_s e
      replace e := nx_e e
      exact ih e
theorem r50_35 : ∀ (f : Nat) {h : Hp} {x2 : Int32}, sX15_rules_35 F f h (n + 513) x2 = some o → hI o.2 (n + 513) 50 = 0 := by
  intro f
  induction f with
  | zero => intro h x2 e; exact absurd e (by rw [sX15_rules_35]; exact fun z => nomatch z)
  | succ f ih =>
    intro h x2 e
    rw [sX15_rules_35] at e
    rcases br_s e with ⟨c1, e⟩ | ⟨c1, e⟩
    · exact r50_56 F e
    · obtain ⟨r6, _, e⟩ := cl_s e
      replace e := gg_e e
      obtain ⟨h8, w8, e⟩ := nm_s e
      replace e := nx_e e
      exact ih e
/-- what the reference links, where RULES are new -/
theorem rur_l {w : Nat} (hw : w = 516 ∨ w = 526) (k : DyK n h h) (e4 : hR h (n + 513) 4 = some (n + (1042 - w))) (e5 : hR h (n + 513) 5 = some (n + w)) (e : sX15_rules F h (n + 513) = some o) : o.1 = (-1 : Int32) - hI o.2 (n + 513) 7 ∨ ((∀ f, hR o.2 (n + 62) f = hR h (n + 62) f) ∧ hR o.2 (n + 513) 52 = hR h (n + 513) 52 ∧ (∀ q, q ∈ fam → ∀ i b, hR o.2 (n + q.1) i = some b → hR h (n + q.1) i = some b ∨ hS h ≤ b) ∧ hI o.2 (n + 513) 50 = 0) := by
  have s0 := dk_610 k
  unfold sX15_rules at e
  replace e := nx_e e
  replace e := nx_e e
  have k1 : DyK n h (wI h (n + 513) 1 0) := dk_wI k
  replace e := ce_e (dk_e (a := 513) (f := 0) (b := 514) k1 (by decide +kernel)) e
  obtain ⟨o4, e4', e⟩ := cl_s e
  obtain ⟨k4, f4⟩ := irf_x hw e5 k1 e4'
  rcases br_s e with ⟨_, e⟩ | ⟨c, e⟩
  · rw [so_e e]; exact Or.inl rfl
  have r4 : hR o4.2 (n + 513) 4 = some (n + (1042 - w)) := by rw [k4.1.2.2.2.2.2 4 (Or.inl rfl)]; exact e4
  have r5 := lx_5 k4 e5
  obtain ⟨o6, e6, e⟩ := cl_s e
  unfold sX15_take at e6
  replace e6 := ce_e r4 e6
  replace e6 := ce_e r5 e6
  obtain ⟨h3, w3, e6⟩ := nm_s e6
  obtain ⟨h4, w4, e6⟩ := nm_s e6
  have t4 : hR h4 (n + 513) 4 = some (n + w) := by rw [w4, r_R, if_neg (fun z => absurd z.2 (by decide)), w3, r_R, if_pos ⟨rfl, rfl⟩]
  have kk3 : DyK n h3 h3 := by rw [w3]; exact dk_y k4 (Or.inr (Or.inr ⟨rfl, Or.inl rfl⟩))
  have kk4 : DyK n h4 h4 := by rw [w4]; exact dk_y kk3 (Or.inr (Or.inr ⟨rfl, Or.inr rfl⟩))
  replace e6 := ce_e t4 e6
  obtain ⟨h6, w6, e6⟩ := nm_s e6
  replace e6 := ce_e (show hR h6 (n + 513) 4 = some (n + w) by rw [w6]; exact t4) e6
  obtain ⟨h8, w8, e6⟩ := nm_s e6
  obtain ⟨h9, w9, e6⟩ := nm_s e6
  rw [so_e e6] at e
  have kk9 : DyK n h4 h9 := by rw [w9, w8, w6]; exact dk_wI (dk_wI (dk_wI kk4))
  obtain ⟨r1, _⟩ := rur_35 (c := 0) F kk9 (by rw [w9, w8, w6]; exact t4) rfl (by decide) (fun p hp => absurd hp (Nat.not_lt_zero _)) e
  have RR : ∀ a i, ¬ (a = n + 513 ∧ (i = 4 ∨ i = 5)) → hR o.2 a i = hR o4.2 a i := fun a i z => by
    have y : hR h9 a i = hR h4 a i := by rw [w9, w8, w6]; rfl
    rw [r1, y, w4, r_R, if_neg (fun q => z ⟨q.1, Or.inr q.2⟩), w3, r_R, if_neg (fun q => z ⟨q.1, Or.inl q.2⟩)]
  have kk := k4.2.2.2 (by omega)
  refine Or.inr ⟨fun f => ?_, ?_, fun q hq i b eb => ?_, r50_35 F e⟩
  · rw [RR _ _ (fun z => by omega)]; exact kk.1 f
  · rw [RR _ _ (fun z => by omega)]; exact kk.2
  · have f := fam_lt q hq
    have z : ¬ q.1 = 513 := f.2.2.1
    rw [RR _ _ (fun y => z (by omega))] at eb
    exact k4.2.2.1 q hq i b eb
end
end
section
/-! ENDINGS: what stands of them over rules and hear -/
section
variable {n j F : Nat} {g h : Hp} {o o' : Int32 × Hp} {x1 : Int32}
theorem enq_rules {L' : Nat × Nat} (J : JP n j h) (EJ : EnJ n h) (I' : SI n (n + 513) L' o'.2) (eq : o.1 = o'.1) (e : sX11_rules F h n = some o) (e' : sX15_rules F o.2 (n + 513) = some o') : EnJ n o'.2 := by
  have zm : (-1 : Int32).toInt = -1 := rfl
  have z0 : (0 : Int32).toInt = 0 := rfl
  obtain ⟨k, tz, σ, l1, l2, pb, Ok, C, R, Pc, Pr, Po⟩ := J
  have s6 := dk_610 k
  obtain ⟨kc, cc⟩ := ruc_x k e
  obtain ⟨w0, hw0, e4, e5, _⟩ := R.1
  obtain ⟨w, hw, ww⟩ : ∃ w, (w = 516 ∨ w = 526) ∧ w0 = 1042 - w := ⟨1042 - w0, by omega, by omega⟩
  have w1 : 1042 - w0 = w := by omega
  rw [w1] at e5
  rw [ww] at e4
  have f4 : hR o.2 (n + 513) 4 = some (n + (1042 - w)) := by rw [kc.1.2.2.2.2.2 4 (Or.inl rfl)]; exact e4
  have f5 : hR o.2 (n + 513) 5 = some (n + w) := by rw [kc.1.2.2.2.2.2 5 (Or.inr rfl)]; exact e5
  obtain ⟨kr, rc⟩ := rur_x hw (dk_self kc) f4 f5 e'
  have s6o := dk_610 kc
  obtain ⟨g1, g2, g3, _⟩ := si_rul kr I'
  have eqi : o.1.toInt = o'.1.toInt := by rw [eq]
  have FRn : ∀ {W : Nat → Nat → Prop}, FrW W o.2 o'.2 → (∀ a i, W a i → n + 513 ≤ a) → ∀ a i, n ≤ a → a < n + 513 → hI o'.2 a i = hI o.2 a i ∧ hJ o'.2 a i = hJ o.2 a i := fun f w a i _ l => f.2 a i (by omega) (fun c => by have := w a i c; omega)
  have lg1 := lgle (syo_ok (l := l1) Ok)
  have lg2 := lgle (syo_ok (l := l2) Ok)
  have bad : ∀ {x : Int32} {m : Int}, Rg 0 m x → m ≤ 1201 → o.1 = (-1 : Int32) - x → o.1.toInt ≤ -1 := fun {x m} r rm y => by
    have := r.1
    have := r.2
    rw [y, ts (by rw [zm]; omega), zm]; omega
  have gq : Rg 0 1201 (hI o.2 (n + 21) 2) := by
    rcases rc with ⟨_, _, fr⟩ | ⟨_, _, _, _, _, _, _, fr⟩
    · rw [← (FRn fr (fun a i c => by unfold WIr TwR at c; omega) (n + 21) 2 (by omega) (by omega)).1]; exact g1
    · rw [← (FRn fr (fun a i c => by unfold WIr TwR at c; omega) (n + 21) 2 (by omega) (by omega)).1]; exact g1
  rcases cc with ⟨c1, fc⟩ | ⟨a, b, c, ⟨ka, Ba, fa⟩, ⟨eb, kb, fb⟩, ⟨kc', fc, u1, u2, u3⟩, oe⟩
  · -- wrong on both sides
    have c1 : o.1.toInt ≤ -1 := by
      rcases c1 with c1 | c1
      · rw [c1]; have := gq.1; omega
      · exact bad gq (by decide) c1
    rcases rc with ⟨_, kr', fr⟩ | ⟨E, r1, _⟩
    rotate_left
    · have := E.1.1.1
      rw [eqi, r1] at c1
      omega
    have R1 : RelR n j o.2 (syOut σ l2) := relr_f k kc fc (fun j i hj c => by
      unfold WRl TwC at c
      rcases hj with hj | hj
      · unfold rFt at hj; omega
      · omega) (fun q hq h5 i a hi e lo hi' j f hj c => by unfold WRl TwC at c; omega) lg2 R
    have R2 : RelR n j o'.2 (syOut σ l2) := relr_x (dk_self kc) kr' fr (fun w' hw' e4' j i hj c => by
      have y : n + w' = n + (1042 - w) := r_eq f4 e4'
      unfold WIr TwR at c
      omega) (fun j i hj c => by unfold WIr TwR at c; omega) (fun q hq h5 i a hi e lo hi' j f hj c => by unfold WIr TwR at c; omega) lg2 R1
    have E1 : EnJ n o.2 := enj_f k kc fc (fun j i hj c => by unfold WRl TwC at c; unfold EnC at hj; omega) (fun a i _ la _ _ c => by unfold WRl TwC at c; omega) (fun L' hL' => by rw [rlw_e hL' R1.1]; exact R.1) EJ
    exact enj_f (dk_self kc) kr' fr (fun j i hj c => by unfold WIr TwR at c; unfold EnC at hj; omega) (fun a i _ la _ _ c => by unfold WIr TwR at c; omega) (fun L' hL' => by rw [rlw_e hL' R2.1]; exact R1.1) E1
  · -- anew on both sides
    rcases rc with ⟨r1, _, fr⟩ | ⟨E, r1, t4, t5, v1, v2, v3, fr⟩
    · have y1 : o.1.toInt ≤ -1 := bad g3 (by decide) (by rw [eq]; exact r1)
      have y2 : o.1 = hI c (n + 5) 3 := by rw [oe]
      have y3 : hI o'.2 (n + 5) 3 = hI c (n + 5) 3 := by
        rw [(FRn fr (fun a i c => by unfold WIr TwR at c; omega) (n + 5) 3 (by omega) (by omega)).1, oe]
        show hI (wI c (n + 1) 1 0) (n + 5) 3 = _
        rw [rI_a (by omega)]
      rw [y2, ← y3] at y1
      have := g2.1
      omega
    have pos : ¬ o.1.toInt ≤ -1 := fun c1 => by
      have := E.1.1.1
      rw [eqi, r1] at c1
      omega
    have qr := FRn fr (fun a i c => by unfold WIr TwR at c; omega)
    have X := (ruc_s k e).resolve_left (fun y => pos (bad gq (by decide) y))
    obtain ⟨r62, r52, nw, z50⟩ := (rur_l hw (dk_self kc) f4 f5 e').resolve_left (fun y => pos (bad g3 (by decide) (by rw [eq]; exact y)))
    have kk := kc.2.2.2 (by omega)
    have Fc : FrW (fun x i => (WRl n 13 x i ∨ WRl n 5 x i) ∨ WLy n x i ∨ WFg n x i ∨ x = n + 1) h o.2 := by
      rw [oe]
      exact fw_wI (fw_t (fw_s fa (fun _ _ c => Or.inl c)) (fw_t (fw_s fb (fun _ _ c => Or.inr (Or.inl c))) (fw_s fc (fun _ _ c => Or.inr (Or.inr (Or.inl c)))))) (Or.inr (Or.inr (Or.inr rfl)))
    have F2 : FrW (fun x i => ¬ (n + 63 ≤ x ∧ x ≤ n + 71)) h o'.2 := fw_t (fw_s Fc (fun x i c z => by unfold WRl WLy WFg at c; omega)) (fw_s fr (fun x i c z => by unfold WIr TwR at c; omega))
    have ou : ∀ w, w < hS h → OuF n h w → OuF n o'.2 w := fun w l O => ouf_x nw (Nat.lt_of_lt_of_le l Fc.1) (ouf_k kc l O)
    obtain ⟨⟨Z, B, Rm, Mk⟩, _⟩ := id EJ
    refine ⟨⟨ebz_g k F2 (fun j i hj z => z ⟨by omega, by omega⟩) Z, bde_f k F2 (fun j i hj z => z ⟨by omega, by omega⟩) B, ?_, fun x ex => ?_⟩, fun L' _ => Or.inl ⟨?_, z50⟩⟩
    · rcases Rm with z | ⟨wA, lA, qA, Rb⟩
      · exact Or.inl (by rw [r62, kk.1]; exact z)
      · exact Or.inr ⟨wA, lA, qA, rmb_f F2.1 (fun f => (r62 f).trans (kk.1 f)) ou Rb⟩
    · rw [r52, kk.2] at ex
      obtain ⟨m1, m2, m3⟩ := Mk x ex
      exact ⟨⟨m1.1, by have := F2.1; omega⟩, ou x m1.2 m2, fun f hf => by rw [r62, kk.1]; exact m3 f hf⟩
    · rw [(qr (n + 62) 10 (by omega) (by omega)).1]; exact X
theorem enq_hear {L : Nat × Nat} (J : JP n j h) (EJ : EnJ n h) (I : SI n (n + 513) L h) (e : sX11_hear F h n x1 = some o) (e' : sX15_hear F o.2 (n + 513) x1 = some o') : EnJ n o'.2 := by
  have k := J.1
  have s6 := dk_610 k
  obtain ⟨_, i2, i3, i4, i5, _⟩ := si_psn k I
  have nc := nc_i (x := hI h (n + 513) 1) i3.1
  have i31 := i3.2
  have ln : ((List.range (hI h (n + 513) 1).toNatClampNeg).map (fun i => (hI h (n + 2) i).toInt)).length = (hI h (n + 513) 1).toNatClampNeg := by rw [List.length_map, List.length_range]
  obtain ⟨tp, htp⟩ : ∃ tp, tp = (List.range (hI h (n + 513) 1).toNatClampNeg).map (fun i => (hI h (n + 2) i).toInt) := ⟨_, rfl⟩
  rw [← htp] at ln
  have cell : ∀ i, i < tp.length → tp[i]? = some (hI h (n + 2) i).toInt := fun i hi => by
    rw [htp, List.getElem?_map, List.getElem?_range (by omega)]
    rfl
  have bnd : ∀ (i : Nat) (x : Int), tp[i]? = some x → i < tp.length ∧ x = (hI h (n + 2) i).toInt := fun i x ex => by
    have hi := (List.getElem?_eq_some_iff.mp ex).1
    rw [cell i hi] at ex
    exact ⟨hi, (Option.some.inj ex).symm⟩
  have Tp : TpC n h tp := ⟨by rw [i2, ln]; omega, cell⟩
  have tb : ∀ (i : Nat) (x : Int), tp[i]? = some x → 0 ≤ x := fun i x ex => by rw [(bnd i x ex).2]; exact (i4 i).1
  have A : ∃ σ0, CaZ n h σ0 (TwC n) o (anHer σ0 x1 tp) := by
    obtain ⟨_, _, σ0, l1, l2, _, Ok0, C0, _⟩ := id J
    exact ⟨_, ca_hear k (syo_ok Ok0) C0 Tp (by omega) tb e⟩
  obtain ⟨σ0, A⟩ := A
  have A0 := frz_o k A.2.2.2 (fun a i c => by unfold TwC at c; omega)
  have c1 : hI o.2 (n + 513) 1 = hI h (n + 513) 1 := (A0.2.1 (n + 513) 1 (by omega) (by omega)).1
  have c2 : ∀ i, hI o.2 (n + 514) i = hI h (n + 514) i := fun i => (A0.2.1 (n + 514) i (by omega) (by omega)).1
  exact enq_k (f := id) (f' := id) (an := fun σ => anHer σ x1 tp) (an' := fun σ => anHer σ x1 tp) (Z := TwC n) (Z' := TwR n) J EJ (fun a i c => by unfold TwC at c; omega) (fun a i c => by unfold TwC at c; omega) (fun a i c => by unfold TwR at c; omega) (fun a i c => by unfold TwR at c; omega) (fun _ l => ⟨l, rfl⟩) (fun _ l => ⟨l, rfl⟩) (fun _ k Ok R => ca_hear k Ok R Tp (by omega) tb e) (fun _ k Ok R => ra_hear k Ok R (by rw [c1, ln]; omega) (fun i x ex => by
    obtain ⟨hi, hx⟩ := bnd i x ex
    rw [c2 i, i5 i (by omega), hx]
    exact ⟨rfl, (i4 i).1, (i4 i).2⟩) (by omega) e')
end
end
section
/-! WORTH: both sides answer alike -/
section
variable {n j F N q wA : Nat} {h : Hp} {σ : Sy} {o o' : Int32 × Hp} {x1 : Int32} {L : Nat → Nat → Int} {nk : Nat → Nat} {rk : Nat → Nat → Int} {bk p r sb : Nat → Nat} {P : Pz}
theorem raw_0 (k : DyK n h h) (R : RelR n j h σ) (z50 : hI h (n + 513) 50 = 0) (e : sX15_worth F h (n + 513) x1 = some o) : o.2 = h ∧ ((sPl σ x1 = none ∧ o.1.toInt = -102) ∨ ∃ P, sPl σ x1 = some P ∧ o.1.toInt = -103) := by
  unfold sX15_worth sX15_worth_32 sX15_worth_53 at e
  obtain ⟨o1, e1, e⟩ := cl_s e
  obtain ⟨q1, c1⟩ := has_r k R.2.1 e1
  rw [q1] at e
  rcases c1 with ⟨d1, d2⟩ | ⟨d1, P0, d2⟩
  · rw [so_e (bp_e d1 e)]
    exact ⟨rfl, Or.inl ⟨d2, rfl⟩⟩
  replace e := bn_e d1 e
  replace e := bp_e z50 e
  replace e := bp_e rfl e
  rw [so_e e]
  exact ⟨rfl, Or.inr ⟨P0, d2, rfl⟩⟩
/-- a place's position is RIGHT -/
theorem rtp_z (E : LwE L N nk rk q) (Pe : PzE L P) (s2 : pzS P < 2) {k num : Nat} (O : NdO N nk rk q P.1 k num) : RtA L N nk rk q (k, num, pzS P) := by
  obtain ⟨⟨Lk, LD, Nc⟩, Fm, q0, q64, _⟩ := E
  refine ⟨⟨O.1, O.2.1, s2⟩, O.2.2.1, ?_⟩
  refine (nd_wr Nc.1 (nd_un (Fm.1 k O.1))).mpr ⟨fun z => Pe.1 ?_, fun z => Pe.2.1 Nc ?_⟩
  · obtain ⟨s, s64, f⟩ := f3_e (M' := P.1) O.2.2.2 z
    exact ⟨s, s64, f⟩
  · exact ryh_e Lk.1 (fun s hs => (O.2.2.2 s hs).symm) z
/-- one answer -/
theorem wta_u (E : EnS n h L N nk rk bk p r sb q wA) (Pe : PzE L P) (s2 : pzS P < 2) {a b : Int} (A : WtA L N (fun k => nk (r k)) (fun k => rk (r k)) q (fun ν => (hI h wA (ixC sb ν)).toInt) P a) (B : WtA L N nk rk q (TbR n h bk) P b) : a = b := by
  obtain ⟨_, ⟨E1, Pm⟩, _, _, Ev⟩ := E
  rcases A with ⟨a1, a2⟩ | ⟨k, num, a1, a2⟩
  · rcases B with ⟨b1, _⟩ | ⟨k', num', b1, _⟩
    · rw [a1, b1]
    · exact absurd ((pm_ndo Pm).mpr (by rw [Pm.2.1]; exact b1)) (a2 (p k') num')
  · have O := (pm_ndo Pm).mp a1
    rcases B with ⟨_, b2⟩ | ⟨k', num', b1, b2⟩
    · exact absurd O (b2 _ _)
    · obtain ⟨y1, y2⟩ := ndo_u E1.2.2.1 E1.2.2.2.1 E1.2.1 O b1
      have rt := rtp_z E1 Pe s2 O
      rcases Ev (r k, num, pzS P) rt.1 with ⟨_, v, _⟩ | ⟨v, _⟩
      · rw [a2, b2, ← y1, ← y2, v]
        show 2000000 + (hI h wA (sb k + 2 * num + pzS P)).toInt = 2000000 + (hI h wA (sb (p (r k)) + 2 * num + pzS P)).toInt
        rw [Pm.1]
      · exact absurd rt v
theorem ens_rg (E : EnS n h L N nk rk bk p r sb q wA) : (∀ ν, NdA N nk q ν → -1000000 ≤ TbR n h bk ν ∧ TbR n h bk ν ≤ 3000000) ∧ ∀ ν, NdA N (fun k => nk (r k)) q ν → -1000000 ≤ (hI h wA (ixC sb ν)).toInt ∧ (hI h wA (ixC sb ν)).toInt ≤ 4000000 := by
  obtain ⟨_, ⟨_, Pm⟩, _, _, Ev⟩ := E
  refine ⟨fun ν na => ?_, fun ν na => ?_⟩
  · rcases Ev ν na with ⟨_, _, a, b⟩ | ⟨_, a, _⟩ <;> omega
  · have e : ((p (r ν.1), ν.2) : Nod) = ν := by rw [Pm.1]
    have t : TbC h wA sb (p (r ν.1), ν.2) = (hI h wA (ixC sb ν)).toInt := by rw [e]; rfl
    rcases Ev (r ν.1, ν.2) ((pm_nda Pm).mp na) with ⟨_, v, a, b⟩ | ⟨_, _, v⟩
    · have v : TbR n h bk (r ν.1, ν.2) = TbC h wA sb (p (r ν.1), ν.2) := v
      rw [t] at v
      omega
    · have v : TbC h wA sb (p (r ν.1), ν.2) = 4000000 := v
      rw [t] at v
      omega
theorem jp_worth (hF : 700000 ≤ F) (J : JP n j h) (EJ : EnJ n h) (e : sX11_worth F h n x1 = some o) (e' : sX15_worth F o.2 (n + 513) x1 = some o') : o.1 = o'.1 ∧ JP n j o'.2 ∧ EnJ n o'.2 ∧ (∀ x i, x = n + 3 ∨ x = n + 4 ∨ (x = n + 513 ∧ i = 3) ∨ x = n + 515 → hI o'.2 x i = hI h x i) := by
  have J0 := J
  obtain ⟨k, tz, σ, l1, l2, pb, Ok, C, R, Pc, Pr, Po⟩ := J
  have s6 := dk_610 k
  rcases EJ.2 _ R.1 with ⟨z10, z50⟩ | ⟨N, nk, rk, bk, p, r, sb, q, wA, En⟩
  · obtain ⟨h1, a1⟩ := caw_0 k C z10 e
    rw [h1] at e'
    obtain ⟨h2, b1⟩ := raw_0 k R z50 e'
    rw [h2]
    refine ⟨Int32.toInt_inj.mp ?_, J0, EJ, fun _ _ _ => rfl⟩
    rcases a1 with ⟨a1, a2⟩ | ⟨P, a1, a2⟩
    · rcases b1 with ⟨_, b2⟩ | ⟨P, b1, _⟩
      · rw [a2, b2]
      · have a1 : sPl σ x1 = none := a1
        have b1 : sPl σ x1 = some P := b1
        rw [a1] at b1; exact nomatch b1
    · rcases b1 with ⟨b1, _⟩ | ⟨P', _, b2⟩
      · have a1 : sPl σ x1 = some P := a1
        have b1 : sPl σ x1 = none := b1
        rw [a1] at b1; exact nomatch b1
      · rw [a2, b2]
  · obtain ⟨e10, ⟨E1, Pm⟩, ⟨fc, so, pw, wb, kp⟩, REn', Ev⟩ := id En
    obtain ⟨rg1, rg2⟩ := ens_rg En
    obtain ⟨⟨d1, F1⟩, a1⟩ := caw_k (σ := syOut σ l1) k (syo_ok Ok) C (pm_lwe Pm E1) fc so pw e10 wb.1 wb.2 rg2 e
    have k1 := d1.1 _ k
    have kk1 := dk_self k1
    have F1' : FrW (fun a i => CW n h a i ∨ WRo n a i) h o.2 := fw_s F1 (fun _ _ c => Or.inr c)
    have A0 := frz_o k F1' (fun a i c => by unfold WRo at c; omega)
    have R1 : RelR n j o.2 (syOut σ l2) := relr_c k k1 A0 (lgle (syo_ok (l := l2) Ok)) R
    have C1 : RelC n o.2 (syOut σ l1) := relc_f k k1 F1 (fun j i hj c => by
      unfold WRo at c
      rcases hj with hj | hj
      · unfold cFt at hj; omega
      · omega) (fun q a hq e lo hi j f hj c => by unfold WRo at c; omega) (lgle (syo_ok (l := l1) Ok)) C
    have E1' : EnS n o.2 (syL σ) N nk rk bk p r sb q wA := ens_f k F1 ((k1.2.2.2 (by omega)).1 11) (fun j i hj c => by unfold WRo at c; unfold EnC at hj; omega) (fun i c => by unfold WRo at c; have := wb.2.1; omega) En
    have EJ1 : EnJ n o.2 := enj_f k k1 F1 (fun j i hj c => by unfold WRo at c; unfold EnC at hj; omega) (fun a i _ la _ _ c => by unfold WRo at c; omega) (fun L' hL' => by rw [rlw_e hL' R1.1]; exact R.1) EJ
    have q13 : (hI o.2 (n + 513) 13).toInt = (q : Int) := by
      obtain ⟨w, _, _, _, Cw⟩ := R1.1
      have y : (hI o.2 (n + 513) 13).toInt = syL σ 0 0 * syL σ 1 0 := Cw.2.2.2.2
      rw [y]
      exact E1.2.2.2.2.symm
    obtain ⟨F2, k2, b1⟩ := raw_k (σ := syOut σ l2) hF kk1 (syo_ok Ok) R1 E1 E1'.2.2.2.1 q13 (ens_rg E1').1 e'
    have B0 := frzr_o (Z := WSo n) kk1 (fw_s F2 (fun _ _ c => Or.inr c)) (fun a i c => by unfold WSo at c; omega)
    have R2 : RelR n j o'.2 (syOut σ l2) := relr_f kk1 k2 F2 (fun j i hj c => by
      unfold WSo at c
      rcases hj with hj | hj
      · unfold rFt at hj; omega
      · omega) (fun q hq h5 i a hi e lo hi' j f hj c => by unfold WSo at c; omega) (lgle (syo_ok (l := l2) Ok)) R1
    have C2 := relc_r kk1 k2 B0 (lgle (syo_ok (l := l1) Ok)) C1
    have EJ2 : EnJ n o'.2 := enj_f kk1 k2 F2 (fun j i hj c => by unfold WSo at c; unfold EnC at hj; omega) (fun a i _ la _ _ c => by unfold WSo at c; omega) (fun L' hL' => by rw [rlw_e hL' R2.1]; exact R1.1) EJ1
    have sn : SerN n o.2 o'.2 := ser_w kk1 F2 (fun a i c z => by unfold WSo at c; omega)
    have s1 := dk_610 kk1
    have Pc1 : CPb n o.2 (syL σ) pb := cpb_f k F1 (fun a i c => by unfold WRo at c; omega) Pc
    have Pr2 : RPb n o'.2 (syL σ) pb := rpb_s (σ' := σ) (fun a i hh => (F2.2 a i (by omega) (fun c => by unfold WSo at c; omega)).1) sn R1.2.2.2.2.2 (rpb_o A0 Pr)
    have t1 : TbR n o.2 bk = TbR n h bk := funext (fun ν => by
      unfold TbR
      rw [(F1.2 (n + 595) _ (by omega) (fun c => by unfold WRo at c; omega)).1])
    refine ⟨Int32.toInt_inj.mp ?_, ⟨dk_self k2, ⟨tzn_r B0 (tzn_c k F1' (fun a i c => by unfold WRo at c; omega) tz.1), ser_b sn (ser_c A0 tz.2)⟩, σ, l1, l2, pb, Ok, C2, R2, cpb_o kk1 B0 Pc1, Pr2, Po⟩, EJ2, fun x i hx => ((F2.2 x i (by omega) (fun c => by unfold WSo at c; omega)).1).trans (F1.2 x i (by omega) (fun c => by unfold WRo at c; omega)).1⟩
    rcases a1 with ⟨a1, a2⟩ | ⟨P, a1, a2⟩
    · rcases b1 with ⟨_, b2⟩ | ⟨P, b1, _⟩
      · rw [a2, b2]
      · have a1 : sPl σ x1 = none := a1
        have b1 : sPl σ x1 = some P := b1
        rw [a1] at b1; exact nomatch b1
    · have a1 : sPl σ x1 = some P := a1
      rcases b1 with ⟨b1, _⟩ | ⟨P', b1, b2⟩
      · have b1 : sPl σ x1 = none := b1
        rw [a1] at b1; exact nomatch b1
      · have b1 : sPl σ x1 = some P' := b1
        rw [a1] at b1
        have y := Option.some.inj b1
        rw [← y, t1] at b2
        obtain ⟨_, _, b3, b4⟩ := spl_b a1
        exact wta_u En (Ok.2.2.2.2.2.1 _ b3 P b4) (spl_ok Ok a1).2.2.1 a2 b2
end
end
section
/-! TALLY and SOLVE: both sides answer alike -/
section
variable {n j F N q wA : Nat} {h : Hp} {σ : Sy} {o o' a b : Int32 × Hp} {x1 x2 : Int32} {L : Nat → Nat → Int} {nk : Nat → Nat} {rk : Nat → Nat → Int} {bk p r sb : Nat → Nat} {P : Pz}
theorem sn_ex {f g : Nat → Nat} : ∀ (m : Nat), (∀ s, s < m → f s = g s) → sN f m = sN g m := by
  intro m
  induction m with
  | zero => intro _; rfl
  | succ m ih =>
    intro h
    show sN f m + f m = sN g m + g m
    rw [ih (fun s hs => h s (by omega)), h m (Nat.lt_succ_self _)]
theorem jp_tally (J : JP n j h) (EJ : EnJ n h) (e : sX11_tally F h n x1 x2 = some o) (e' : sX15_tally F o.2 (n + 513) x1 x2 = some o') : o.1 = o'.1 ∧ JP n j o'.2 ∧ EnJ n o'.2 ∧ o'.2 = h := by
  have z0 : (0 : Int32).toInt = 0 := rfl
  have z1 : (1 : Int32).toInt = 1 := rfl
  have zp : (1000000 : Int32).toInt = 1000000 := rfl
  have J0 := J
  obtain ⟨k, tz, σ, l1, l2, pb, Ok, C, R, Pc, Pr, Po⟩ := J
  have s6 := dk_610 k
  unfold sX11_tally sX11_tally_21 sX11_tally_48 at e
  obtain ⟨o1, e1, e⟩ := cl_s e
  obtain ⟨p1, c1⟩ := isd_c e1
  rw [p1] at e
  have fin : ∀ {v : Int32}, o = (v, h) → o' = (v, o.2) → o.1 = o'.1 ∧ JP n j o'.2 ∧ EnJ n o'.2 ∧ o'.2 = h := fun {v} y1 y2 => by
    rw [y2, y1]; exact ⟨rfl, J0, EJ, rfl⟩
  unfold sX15_tally sX15_tally_23 at e'
  rcases c1 with ⟨d1, d2⟩ | ⟨d1, d2⟩
  · have y1 := so_e (bp_e d1 e)
    refine fin y1 ?_
    rcases br_s e' with ⟨_, e'⟩ | ⟨c1, e'⟩
    · exact so_e e'
    rcases br_s e' with ⟨_, e'⟩ | ⟨c2, e'⟩
    · exact so_e e'
    exfalso
    have c1 := nlt_i c1
    have c2 := nlt_i c2
    rw [z0] at c1
    rw [z1] at c2
    have : x1.toInt = 0 ∨ x1.toInt = 1 := by omega
    rcases this with z | z
    · exact d2 (Or.inl (Int32.toInt_inj.mp (by rw [z]; rfl)))
    · exact d2 (Or.inr (Int32.toInt_inj.mp (by rw [z]; rfl)))
  replace e := bn_e d1 e
  have x01 : ∃ sd : Nat, sd < 2 ∧ x1.toInt = (sd : Int) := by
    rcases d2 with z | z
    · exact ⟨0, by decide, by rw [z]; rfl⟩
    · exact ⟨1, by decide, by rw [z]; rfl⟩
  obtain ⟨sd, sd2, ex1⟩ := x01
  replace e' := bn_e (fun z => by have := lt_i z; rw [z0] at this; omega) e'
  replace e' := bn_e (fun z => by have := lt_i z; rw [z1] at this; omega) e'
  rcases br_s e with ⟨c, e⟩ | ⟨c, e⟩
  · exact fin (so_e e) (so_e (bp_e c e'))
  replace e' := bn_e c e'
  rcases br_s e with ⟨c2, e⟩ | ⟨c2, e⟩
  rotate_left
  · exact fin (so_e e) (so_e (bn_e c2 e'))
  replace e' := bp_e c2 e'
  have r10 : hR h n 10 = some (n + 62) := dk_e (a := 0) (f := 10) (b := 62) k (by decide +kernel)
  replace e := ce_e r10 e
  rcases EJ.2 _ R.1 with ⟨z10, z50⟩ | ⟨N, nk, rk, bk, p, r, sb, q, wA, En⟩
  · have y1 := so_e (bp_e z10 e)
    have y2 : o.2 = h := by rw [y1]
    rw [y2] at e'
    exact fin y1 (by rw [y2]; exact so_e (bp_e z50 e'))
  · obtain ⟨e10, ⟨E1, Pm⟩, ⟨fc, so, pw, wb, kp⟩, REn', Ev⟩ := id En
    have N1 := REn'.1
    replace e := bn_e e10 e
    replace e := ce_e r10 e
    obtain ⟨o8, e8, e⟩ := cl_s e
    obtain ⟨p8, v8⟩ := ctw_k k fc so wb.1 (Pm.2.2.2 0 N1) kp ex1 sd2 e8
    have y1 : o = (o8.1, h) := by rw [so_e e, p8]
    have y2 : o.2 = h := by rw [y1]
    rw [y2] at e'
    have n50 : ¬ hI h (n + 513) 50 = 0 := fun z => by
      have := REn'.2.2
      rw [z, z0] at this
      omega
    replace e' := bn_e n50 e'
    obtain ⟨o6, e6, e'⟩ := cl_s e'
    unfold sX15_sizeOf at e6
    have q13 : (hI h (n + 513) 13).toInt = (q : Int) := by
      obtain ⟨w, _, _, _, Cw⟩ := R.1
      have y : (hI h (n + 513) 13).toInt = syL σ 0 0 * syL σ 1 0 := Cw.2.2.2.2
      rw [y]
      exact E1.2.2.2.2.symm
    obtain ⟨⟨rs1, _⟩, rs2, _, _, rs5⟩ := REn'.2.1.1.2 0 N1
    obtain ⟨p6, v6⟩ := szr_4 (k := 0) k E1.2.2.1 E1.2.2.2.1 q13 rs1 (by decide) rs2 rfl (by omega) F (i := 0) rfl (Nat.zero_le _) (by rw [Nat.pow_zero]; rfl) e6
    rw [p6] at e'
    obtain ⟨h2, v2⟩ := tal_48 k REn' (sd := sd) (x2 := x2) v6 F (m := 0) (by rw [ex1]; omega) sd2 (Nat.zero_le _) rfl (Nat.zero_le _) e'
    have c2 := le_i c2
    rw [zp] at c2
    rw [h2]
    refine ⟨Int32.toInt_inj.mp ?_, J0, EJ, rfl⟩
    rw [y1, v2]
    show o8.1.toInt = _
    rw [v8, Pm.2.1]
    congr 1
    unfold tlW tlC
    refine sn_ex _ (fun num hn => ?_)
    have t : ∀ ν : Nod, TbC h wA sb ν = (hI h wA (ixC sb ν)).toInt := fun _ => rfl
    rcases Ev (0, num, sd) ⟨N1, hn, sd2⟩ with ⟨_, v, _⟩ | ⟨_, v, w⟩
    · have v : TbR n h bk (0, num, sd) = TbC h wA sb (p 0, num, sd) := v
      rw [v, t]
    · have w : TbC h wA sb (p 0, num, sd) = 4000000 := w
      rw [v]
      show (if TbC h wA sb (p 0, num, sd) = x2.toInt then 1 else 0) = _
      rw [w, if_neg (by omega), if_neg (by omega)]
/-- rooms, as the class keeps them -/
theorem rmk_l (l73 : hR h (n + 62) 11 = some (n + 73) → hN h (n + 73) = 0) (Ln : LnI (n + 62) h) (R : EnRm n h) : RmK n h := by
  rcases R with z | ⟨wA, lA, qA, ⟨r1, r2, r3⟩, d, ⟨e1, e2, e3⟩, O1, O2, O3⟩
  · exact Or.inl ⟨n + 73, z, by rw [l73 z]; decide⟩
  · rcases Ln wA r1 with y | y
    · exact Or.inl ⟨wA, r1, by omega⟩
    · exact Or.inr ⟨wA, lA, qA, ⟨⟨r1, r2, r3⟩, d, e1, e2, e3, y 13 qA (by omega) r3⟩, y 11 wA (by omega) r1, O1, O2, O3⟩
theorem jp_solve {Lp : Nat × Nat} (hF : 2000000 ≤ F) (J : JP n j h) (EJ : EnJ n h) (l73 : hR h (n + 62) 11 = some (n + 73) → hN h (n + 73) = 0) (I : SI n (n + 513) Lp h) (ea : sX11_solve F h n = some a) (eb : sX15_solve F a.2 (n + 513) = some b) : a.1 = b.1 ∧ JP n j b.2 ∧ EnJ n b.2 ∧ (hR b.2 (n + 62) 11 = some (n + 73) → hR h (n + 62) 11 = some (n + 73)) ∧ (∀ x i, x = n + 3 ∨ x = n + 4 ∨ (x = n + 513 ∧ i = 3) ∨ x = n + 515 → hI b.2 x i = hI h x i) := by
  have hF7 : 700000 ≤ F := by omega
  have I0 := I
  obtain ⟨k, tz, σ, l1, l2, pb, Ok, C, R, Pc, Pr, Po⟩ := J
  have s6 := dk_610 k
  obtain ⟨ρ, c, T, r0, rm, I1, P, J', tp, tb, lr, dl, mf⟩ := I
  obtain ⟨B, M, back⟩ := j_c (b := false) (l := false) T r0 rm P J'
  obtain ⟨o, eo, ρ1, c1, X, T1, I2, M2, tq⟩ := cw_solve hF7 hpC_cl (th_in (clSf false false) T) r0 I1 M
  have yo : o = a := Option.some.inj (eo.symm.trans ea)
  have r1 : ρ1 n = 12 := by rw [(X.1 n (by rw [r0]; decide)).1]; exact r0
  obtain ⟨P2, J2, t2, m1⟩ := back o.2 ρ1 c1 X T1 r1 M2
  have f := exm_f T X T1
  rw [yo] at T1 P2 f
  have e2 : hR h n 2 = some (n + 5) := dk_e (a := 0) (f := 2) (b := 5) k (by decide +kernel)
  have et : hR h n 0 = some (n + 1) := dk_e (a := 0) (f := 0) (b := 1) k (by decide +kernel)
  have ebt : hR h (n + 1) 0 = some (n + 2) := dk_e (a := 1) (f := 0) (b := 2) k (by decide +kernel)
  have ex1 : hR h (n + 513) 0 = some (n + 514) := dk_e (a := 513) (f := 0) (b := 514) k (by decide +kernel)
  have q2 : ρ (n + 5) = 2 := rr T (thR T r0 (i := 2) (k2 := 2) rfl (by decide)) e2
  obtain ⟨w, hw, el4, el5, Cw⟩ := id R.1
  have ql4 : ρ (n + w) = 15 := rr T (thR T rm (i := 4) (k2 := 15) rfl (by decide)) el4
  have qx1 : ρ (n + 514) = 82 := rr T (thR T rm (i := 0) (k2 := 82) rfl (by decide)) ex1
  have wL : cw c (n + 5) = 2102 := kid_w T r0 (i := 2) (w := 2102) rfl (by decide) e2
  have B1 := lr_f T ql4 f (fun k w i z => cl_rw z)
  have LR0 := lr (n + 5) (n + w) e2 el4
  have LR : LawR (n + 5) (n + w) h a.2 := lawr_k LR0 (fun _ => rfl) rfl (fun _ => rfl) (fun _ _ _ _ _ _ => rfl) B1.1 B1.2.1 B1.2.2.1 B1.2.2.2
  have fm : ∀ i, (i = 0 ∨ i = 4 ∨ i = 5) → hR a.2 (n + 513) i = hR h (n + 513) i := fun i hi => by
    rcases hi with rfl | rfl | rfl <;> exact (fr_RI f rm (by decide) (fun _ => rfl)).2.2
  have fi : ∀ i, (i = 1 ∨ i = 11 ∨ i = 12 ∨ i = 13) → hI a.2 (n + 513) i = hI h (n + 513) i := fun i hi => by
    rcases hi with rfl | rfl | rfl | rfl <;> exact (fr_RI f rm (by decide) (fun _ => rfl)).1
  have sqs : (hI h (n + 5) 2).toInt = (hI a.2 (n + 513) 13).toInt := by
    have s1 := I1.2.2.2.2.2.2.2.2.2.2.2.2 (n + 5) q2 wL
    have s2 : (hI a.2 (n + 513) 13).toInt = (hI a.2 (n + 513) 11).toInt * (hI a.2 (n + 513) 12).toInt := P2.1
    obtain ⟨g1, g2⟩ := mf (n + w) el4
    obtain ⟨Z, ⟨⟨z2, _⟩, ⟨z15, _⟩, _⟩, Q, _⟩ := LR0
    have k0 := Q (0, 0) (by decide)
    have k1 := Q (1, 1) (by decide)
    rw [z2, z15] at k0 k1
    have k0 : hI h (n + 5) 0 = hI h (n + w) 0 := k0
    have k1 : hI h (n + 5) 1 = hI h (n + w) 1 := k1
    rw [s2, fi 11 (by decide), fi 12 (by decide), g1, g2, ← k0, ← k1]
    exact s1.symm
  -- structure and law behind the class' call
  have kz : DyK n (hp0 h) a.2 := dk_X11_solve rfl (dk_hp0 k) ea
  have k1 := dk_self kz
  have s1 := dk_610 k1
  have em : hR a.2 (n + 513) 4 = some (n + w) := by rw [fm 4 (by decide)]; exact el4
  have Rl1 : RLw n a.2 (syL σ) := by
    refine ⟨w, hw, em, by rw [fm 5 (by decide)]; exact el5, ?_⟩
    have rl : ∀ {f b : Nat}, (f, b) ∈ lwF → hR h (n + w) f = some (n + w + b) := fun {f b} m => lx_e k hw m
    have ll : ∀ {f b : Nat}, (f, b) ∈ lwF → (3 ≤ f ∧ f ≤ 9) ∨ f = 13 ∨ f = 14 → hI a.2 (n + w + b) = hI h (n + w + b) := fun {f b} m hf => funext fun i => B1.2.2.2 f _ hf (rl m) i
    refine rw0_i (V := vM n 0 0 0 0 0 (n + w)) Cw (funext fun i => B1.1 i) B1.2.1 (fun q q1 q2 => ?_) (fi 11 (by decide)) (fi 12 (by decide)) (fi 13 (by decide)) ⟨em, lx_e k1 hw (f := 3) (b := 1) (by decide), lx_e k1 hw (f := 4) (b := 2) (by decide), lx_e k1 hw (f := 5) (b := 3) (by decide), lx_e k1 hw (f := 6) (b := 4) (by decide), lx_e k1 hw (f := 7) (b := 5) (by decide), lx_e k1 hw (f := 8) (b := 6) (by decide), lx_e k1 hw (f := 9) (b := 7) (by decide), lx_e k1 hw (f := 13) (b := 8) (by decide), lx_e k1 hw (f := 14) (b := 9) (by decide)⟩
    have : q = 73 ∨ q = 74 ∨ q = 75 ∨ q = 76 ∨ q = 77 ∨ q = 78 ∨ q = 79 ∨ q = 80 ∨ q = 81 := by omega
    rcases this with z | z | z | z | z | z | z | z | z <;> subst z
    · exact ll (f := 3) (b := 1) (by decide) (by omega)
    · exact ll (f := 4) (b := 2) (by decide) (by omega)
    · exact ll (f := 5) (b := 3) (by decide) (by omega)
    · exact ll (f := 6) (b := 4) (by decide) (by omega)
    · exact ll (f := 7) (b := 5) (by decide) (by omega)
    · exact ll (f := 8) (b := 6) (by decide) (by omega)
    · exact ll (f := 9) (b := 7) (by decide) (by omega)
    · exact ll (f := 13) (b := 8) (by decide) (by omega)
    · exact ll (f := 14) (b := 9) (by decide) (by omega)
  have SJ := sol_j hF k k1 Ok.1 C.1 T r0 I1.1 I1.2.2.2.2.2.2.2.2.1 I1.2.2.2.2.2.2.2.2.2.1 T1 m1 P2.1 em (lx_e k1 hw (f := 13) (b := 8) (by decide)) (lx_e k1 hw (f := 14) (b := 9) (by decide)) LR sqs (by rw [fi 1 (by decide)]; exact tp (n + 1) et) (fun i hi => by
    rw [fi 1 (by decide)] at hi
    rw [(fr_RI f qx1 (by decide) (fun _ => rfl)).1]
    exact tb (n + 1) (n + 2) (n + 514) et ebt ex1 i hi) ea eb
  have e10 : hR h n 10 = some (n + 62) := dk_e (a := 0) (f := 10) (b := 62) k (by decide +kernel)
  have RmH : RmK n h := rmk_l l73 (I1.2.2.2.2.2.2.2.2.1 (n + 62) e10).2.1 EJ.1.2.2.1
  have FbH : FmB n h (syL σ) := fun i hi s hs z => by
    obtain ⟨s1, _, _⟩ := si_bef k I0
    have c2 : (hI h (n + 5) 2).toInt = syL σ 0 0 * syL σ 1 0 := C.1.2.1.2.2.1
    rw [← c2]
    exact s1 i hi s hs z
  have SO : SoO n h a b := by
    rcases SJ with ⟨y, v, ey, e71, b1, jb⟩ | ⟨key, o6, u, g, ⟨er, eu, e55⟩, ⟨m, row, Kk, Gk⟩, Jg, nc, ρ', c', x1', g5, F5, alt⟩
    · exact esl_1 k EJ R.1 ey e71 b1 jb
    · rcases alt with ⟨⟨u0, b1⟩, ex⟩ | ⟨u1, o2, o3, hc2, g1, g2, g3, g4, g6, g7, g8⟩
      · exact esl_2 k EJ k1 er eu e55 u0 b1 Jg F5 ex
      · exact esl_3 hF7 k Ok.1 Ok.2.2.2.2.1 C.1 FbH EJ RmH k1 Rl1 em er eu e55 Kk Gk nc Jg F5 u1 g1 g2 g3 g4 g6 g7 g8
  obtain ⟨⟨wA, lA, qA, ⟨_, KGa⟩, Fa, ra, rm'⟩, ⟨kb, KGb⟩, Fb, EJb, r73, ab⟩ := SO
  -- the class' call
  have dA : ∀ {x i : Nat}, WCy n wA lA qA x i → x < n + 610 → (n + 62 ≤ x ∧ x ≤ n + 72) ∨ x = n + 1 := fun {x i} c l => by
    unfold WCy at c
    rcases c with c | c | c
    · exact Or.inl c
    · exact Or.inr c
    · rcases ra x c with z | z
      · exact Or.inl z
      · omega
  have dO : ∀ {q : Nat × Nat × Nat × Nat × List (Nat × Nat)} {i x j f : Nat}, q ∈ fam → i < q.2.1 → hR h (n + q.1) i = some x → n + 610 ≤ x → j < q.2.2.1 → ¬ WCy n wA lA qA (x + j) f := fun {q i x j f} hq hi ex lo hj c => by
    unfold WCy at c
    rcases c with c | c | c
    · omega
    · omega
    · rcases ra _ c with z | ⟨_, O⟩
      · omega
      · exact O q hq i x hi ex ⟨by omega, by omega⟩
  have lg1 := lgle (syo_ok (l := l1) Ok)
  have lg2 := lgle (syo_ok (l := l2) Ok)
  have C1 : RelC n a.2 (syOut σ l1) := relc_v k k1 KGa Fa (fun j i hj c => by
    have := dA c (by unfold cFt at hj; omega)
    unfold cFt at hj
    omega) (fun q x hq e lo hi j f hj => dO (q := (150, 2408, 6, 1000, fsP)) (by decide) hq e lo hj) lg1 C
  have R1 : RelR n j a.2 (syOut σ l2) := relr_v k k1 KGa Fa (fun j i hj c => by
    have := dA c (by unfold rFt at hj; omega)
    unfold rFt at hj
    omega) (fun q hq h5 i x hi e lo hi' j f hj => dO hq hi e lo hj) lg2 R
  have Xa : ∀ x i, x < n + 610 → ¬ (n + 62 ≤ x ∧ x ≤ n + 72) → ¬ x = n + 1 → hI a.2 x i = hI h x i ∧ hJ a.2 x i = hJ h x i := fun x i l p1 p2 => Fa.2 x i (by omega) (fun c => by
    have := dA c l
    omega)
  -- the reference's call
  have dB : ∀ {x i : Nat}, WRy n a.2 x i → x < n + 610 → (x = n + 513 ∧ (i = 1 ∨ i = 49 ∨ i = 50 ∨ i = 59 ∨ i = 23 ∨ i = 24 ∨ i = 29 ∨ i = 36 ∨ i = 62 ∨ i = 63)) ∨ (n + 543 ≤ x ∧ x ≤ n + 572) ∨ (n + 575 ≤ x ∧ x ≤ n + 579) ∨ (n + 592 ≤ x ∧ x ≤ n + 607) := fun {x i} c l => by
    unfold WRy WAx RS WLs WWn at c
    rcases c with c | c | c | c | c | c | c | c
    · omega
    · omega
    · omega
    · omega
    · omega
    · omega
    · have := (rm' x c).1
      omega
    · omega
  have dP : ∀ {q : Nat × Nat × Nat × Nat × List (Nat × Nat)} {i x j f : Nat}, q ∈ fam → i < q.2.1 → hR a.2 (n + q.1) i = some x → n + 610 ≤ x → x + q.2.2.1 ≤ hS a.2 → j < q.2.2.1 → ¬ WRy n a.2 (x + j) f := fun {q i x j f} hq hi ex lo hs hj c => by
    unfold WRy WAx RS WLs WWn at c
    rcases c with c | c | c | c | c | c | c | c
    · omega
    · omega
    · omega
    · omega
    · omega
    · omega
    · exact (rm' _ c).2 q hq i x hi ex ⟨by omega, by omega⟩
    · omega
  have C2 : RelC n b.2 (syOut σ l1) := relc_v k1 kb KGb Fb (fun j i hj c => by
    have := dB c (by unfold cFt at hj; omega)
    unfold cFt at hj
    omega) (fun q x hq e lo hi j f hj => dP (q := (150, 2408, 6, 1000, fsP)) (by decide) hq e lo hi hj) lg1 C1
  have R2 : RelR n j b.2 (syOut σ l2) := relr_v k1 kb KGb Fb (fun j i hj c => by
    have := dB c (by unfold rFt at hj; omega)
    unfold rFt at hj
    omega) (fun q hq h5 i x hi e lo hi' j f hj => dP hq hi e lo hi' hj) lg2 R1
  have Xb : ∀ x i, x < n + 610 → ¬ ((x = n + 513 ∧ (i = 1 ∨ i = 49 ∨ i = 50 ∨ i = 59 ∨ i = 23 ∨ i = 24 ∨ i = 29 ∨ i = 36 ∨ i = 62 ∨ i = 63)) ∨ (n + 543 ≤ x ∧ x ≤ n + 572) ∨ (n + 575 ≤ x ∧ x ≤ n + 579) ∨ (n + 592 ≤ x ∧ x ≤ n + 607)) → hI b.2 x i = hI a.2 x i ∧ hJ b.2 x i = hJ a.2 x i := fun x i l np => Fb.2 x i (by omega) (fun c => np (dB c l))
  have X2 : ∀ x i, x < n + 610 → ¬ (n + 62 ≤ x ∧ x ≤ n + 72) → ¬ x = n + 1 → ¬ ((x = n + 513 ∧ (i = 1 ∨ i = 49 ∨ i = 50 ∨ i = 59 ∨ i = 23 ∨ i = 24 ∨ i = 29 ∨ i = 36 ∨ i = 62 ∨ i = 63)) ∨ (n + 543 ≤ x ∧ x ≤ n + 572) ∨ (n + 575 ≤ x ∧ x ≤ n + 579) ∨ (n + 592 ≤ x ∧ x ≤ n + 607)) → hI b.2 x i = hI h x i := fun x i l p1 p2 p3 => (Xb x i l p3).1.trans (Xa x i l p1 p2).1
  have Pc2 : CPb n b.2 (syL σ) pb := cpb_f (W := fun x i => ¬ ((x = n + 76 ∧ 14 ≤ i) ∨ x = n + 91 ∨ x = n + 92)) k ⟨by have := Fa.1; have := Fb.1; omega, fun x i l nw => by
    have hh := Classical.not_not.mp nw
    have u := Xa x i (by omega) (by omega) (by omega)
    have v := Xb x i (by omega) (by omega)
    exact ⟨v.1.trans u.1, v.2.trans u.2⟩⟩ (fun _ _ c => c) Pc
  have Pr2 : RPb n b.2 (syL σ) pb := rpb_c (fun x i hh => X2 x i (by omega) (by omega) (by omega) (by omega)) Pr
  refine ⟨ab, ⟨kb, ⟨fun x hx => ?_, fun p hp => ?_⟩, σ, l1, l2, pb, Ok, C2, R2, Pc2, Pr2, Po⟩, EJb, r73, fun x i hx => X2 x i (by omega) (by omega) (by omega) (by omega)⟩
  · rw [X2 (n + 29) x (by omega) (by omega) (by omega) (by omega)]
    exact tz.1 x hx
  · rw [X2 (n + 537) p (by omega) (by omega) (by omega) (by omega), X2 (n + 513) 16 (by omega) (by omega) (by omega) (by omega)]
    exact tz.2 p hp
end
end
