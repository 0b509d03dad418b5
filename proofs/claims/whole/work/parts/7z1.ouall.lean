/-! both have given out the same text, over each call: printed by gen7z1.py out of 7qd, 7qe, 7s9 -/
section
variable {n j F : Nat} {h : Hp} {σ : Sy} {o o' : Int32 × Hp} {x1 x2 x3 x4 x5 : Int32} {l : List Int}
theorem ouq_at (J : JP n j h) (O : OuE n h) (e : sX11_at h n x1 x2 = some o) (e' : sX15_at o.2 (n + 513) x1 x2 = some o') : OuE n o'.2 := ouq_ll (an := fun σ => anAt σ x1 x2) J O (fun _ _ => rfl) (fun _ k Ok R => ca_at k Ok R e) (fun _ k Ok R => ra_at k Ok R e')
theorem ouq_attacked (J : JP n j h) (O : OuE n h) (e : sX11_attacked F h n x1 x2 x3 = some o) (e' : sX15_attacked F o.2 (n + 513) x1 x2 x3 = some o') : OuE n o'.2 := ouq_ll (an := fun σ => anHit σ x1 x2 x3) J O (fun _ _ => rfl) (fun _ k Ok R => ca_hit k Ok R e) (fun _ k Ok R => ra_hit k Ok R e')
theorem ouq_sees (J : JP n j h) (O : OuE n h) (e : sX11_sees F h n x1 x2 x3 = some o) (e' : sX15_sees F o.2 (n + 513) x1 x2 x3 = some o') : OuE n o'.2 := ouq_ll (an := fun σ => anSee σ x1 x2 x3) J O (fun _ _ => rfl) (fun _ k Ok R => ca_see k Ok R e) (fun _ k Ok R => ra_see k Ok R e')
theorem ouq_moves (J : JP n j h) (O : OuE n h) (e : sX11_moves F h n x1 = some o) (e' : sX15_moves F o.2 (n + 513) x1 = some o') : OuE n o'.2 := ouq_ll (an := fun σ => anMvs σ x1) J O (fun _ _ => rfl) (fun _ k Ok R => ca_moves k Ok R e) (fun _ k Ok R => ra_moves k Ok R e')
theorem ouq_move (J : JP n j h) (O : OuE n h) (e : sX11_move F h n x1 x2 x3 = some o) (e' : sX15_move F o.2 (n + 513) x1 x2 x3 = some o') : OuE n o'.2 := ouq_ll (an := fun σ => anMov σ x1 x2 x3) J O (fun _ _ => rfl) (fun _ k Ok R => ca_move k Ok R e) (fun _ k Ok R => ra_move k Ok R e')
theorem ouq_ended (J : JP n j h) (O : OuE n h) (e : sX11_ended F h n x1 = some o) (e' : sX15_ended F o.2 (n + 513) x1 = some o') : OuE n o'.2 := ouq_ll (an := fun σ => anEnd σ x1) J O (fun _ _ => rfl) (fun _ k Ok R => ca_ended k Ok R e) (fun _ k Ok R => ra_ended k Ok R e')
theorem ouq_result (J : JP n j h) (O : OuE n h) (e : sX11_result F h n x1 = some o) (e' : sX15_result F o.2 (n + 513) x1 = some o') : OuE n o'.2 := ouq_ll (an := fun σ => anRes σ x1) J O (fun _ _ => rfl) (fun _ k Ok R => ca_result k Ok R e) (fun _ k Ok R => ra_result k Ok R e')
theorem ouq_same (J : JP n j h) (O : OuE n h) (e : sX11_same F h n x1 x2 = some o) (e' : sX15_same F o.2 (n + 513) x1 x2 = some o') : OuE n o'.2 := ouq_ll (an := fun σ => anSam σ x1 x2) J O (fun _ _ => rfl) (fun _ k Ok R => ca_same k Ok R e) (fun _ k Ok R => ra_same k Ok R e')
theorem ouq_game (J : JP n j h) (O : OuE n h) (e : sX11_game F h n x1 x2 = some o) (e' : sX15_game F o.2 (n + 513) x1 x2 = some o') : OuE n o'.2 := ouq_ll (an := fun σ => anGam σ x1 x2) J O (fun σ l => by
  have c : ∀ P mv g k, cnt (syOut σ l) P mv g k = cnt σ P mv g k := fun P mv g k => by
    induction k with
    | zero => rfl
    | succ k ih =>
      show cnt (syOut σ l) P mv g k + _ = cnt σ P mv g k + _
      rw [ih]; rfl
  have d : ∀ P mv g, cntA (syOut σ l) P mv g = cntA σ P mv g := fun P mv g => c P mv g _
  show anGam (syOut σ l) x1 x2 = anGam σ x1 x2
  unfold anGam
  rw [d]; rfl) (fun _ k Ok R => ca_game k Ok R e) (fun _ k Ok R => ra_game k Ok R e')
theorem ouq_figure (J : JP n j h) (O : OuE n h) (e : sX11_figure F h n x1 x2 = some o) (e' : sX15_figure F o.2 (n + 513) x1 x2 = some o') : OuE n o'.2 := ouq_ll (an := fun σ => anFig σ x1 x2) J O (fun _ _ => rfl) (fun _ k Ok R => ca_fig k Ok R e) (fun _ k Ok R => ra_fig k Ok R e')
theorem ouq_played (J : JP n j h) (O : OuE n h) (e : sX11_played h n x1 x2 = some o) (e' : sX15_played o.2 (n + 513) x1 x2 = some o') : OuE n o'.2 := ouq_ll (an := fun σ => anPld σ x1 x2) J O (fun _ _ => rfl) (fun _ k Ok R => ca_played k Ok R e) (fun _ k Ok R => ra_played k Ok R e')
theorem ouq_go (J : JP n j h) (O : OuE n h) (j1 : j < 100000) (e : sX11_go F h n x1 x2 = some o) (e' : sX15_go F o.2 (n + 513) x1 x2 = some o') : OuE n o'.2 := ouq_g (f := fun σ => syGo σ x1 x2) (an := fun σ => anGo σ x1 x2) J O (fun _ Ok => ok_go Ok) (fun _ _ => go_o) (fun σ l => by
  show anGo (syOut σ l) x1 x2 = anGo σ x1 x2
  unfold anGo
  rw [fre_o]; rfl) (fun _ k Ok R => ca_go k Ok R e) (fun _ k Ok R => ra_go k Ok R j1 e') fx_go
theorem ouq_back (J : JP n j h) (O : OuE n h) (e : sX11_back h n x1 = some o) (e' : sX15_back o.2 (n + 513) x1 = some o') : OuE n o'.2 := ouq_g (f := fun σ => syBack σ x1) (an := fun σ => anBack σ x1) J O (fun _ Ok => ok_back Ok) (fun σ l => by
  show syBack (syOut σ l) x1 = syOut (syBack σ x1) l
  unfold syBack
  rw [show syG (syOut σ l) = syG σ from rfl]
  repeat' split
  all_goals rfl) (fun _ _ => rfl) (fun _ k Ok R => ca_back k Ok R e) (fun _ k Ok R => ra_back k Ok R e') fx_back
theorem ouq_start (J : JP n j h) (O : OuE n h) (e : sX11_start F h n x1 x2 = some o) (e' : sX15_start o.2 (n + 513) x1 x2 = some o') : OuE n o'.2 := ouq_g (f := fun σ => sySta σ x1 x2) (an := fun σ => anSta σ x1 x2) J O (fun _ Ok => ok_sta Ok) (fun σ l => by
  show sySta (syOut σ l) x1 x2 = syOut (sySta σ x1 x2) l
  unfold sySta
  rw [show sPl (syOut σ l) x2 = sPl σ x2 from rfl]
  cases sPl σ x2 with
  | none => split <;> rfl
  | some P => split <;> rfl) (fun _ _ => rfl) (fun _ k Ok R => ca_start k Ok R e) (fun _ k Ok R => ra_start k Ok R e') fx_sta
theorem ouq_now (J : JP n j h) (O : OuE n h) (j1 : j < 100000) (e : sX11_now F h n x1 = some o) (e' : sX15_now F o.2 (n + 513) x1 = some o') : OuE n o'.2 := ouq_g (f := fun σ => syNow σ x1) (an := fun σ => anNow σ x1) J O (fun _ Ok => ok_now Ok) (fun σ l => by
  show syNow (syOut σ l) x1 = syOut (syNow σ x1) l
  unfold syNow
  rw [fre_o, show syG (syOut σ l) = syG σ from rfl]
  repeat' split
  all_goals rfl) (fun σ l => by
  show anNow (syOut σ l) x1 = anNow σ x1
  unfold anNow
  rw [fre_o]
  rfl) (fun _ k Ok R => ca_now k Ok R e) (fun _ k Ok R => ra_now k Ok R j1 e') fx_now
theorem ouq_add (J : JP n j h) (O : OuE n h) (e : sX11_add F h n x1 x2 = some o) (e' : sX15_add F o.2 (n + 513) x1 x2 = some o') : OuE n o'.2 := ouq_g (f := fun σ => syAdd σ x1 x2) (an := fun σ => anAdd σ x1 x2) J O (fun _ Ok => ok_add Ok) (fun σ l => by
  show syAdd (syOut σ l) x1 x2 = syOut (syAdd σ x1 x2) l
  unfold syAdd
  rw [show gmV (syOut σ l) x1 x2 = gmV σ x1 x2 from rfl, show syG (syOut σ l) = syG σ from rfl]
  cases gmV σ x1 x2 with
  | none => repeat' split
            all_goals rfl
  | some v => repeat' split
              all_goals rfl) (fun _ _ => rfl) (fun _ k Ok R => ca_addm k Ok R e) (fun _ k Ok R => ra_addm k Ok R e') fx_add
theorem ouq_beforeAt (J : JP n j h) (O : OuE n h) (j1 : j < 100000) (e : sX11_beforeAt F h n x1 = some o) (e' : sX15_beforeAt F o.2 (n + 513) x1 = some o') : OuE n o'.2 := ouq_g (f := fun σ => syBat σ x1) (an := fun σ => anBat σ x1) J O (fun _ Ok => ok_bat Ok) (fun σ l => by
  show syBat (syOut σ l) x1 = syOut (syBat σ x1) l
  unfold syBat
  rw [fre_o, show syF (syOut σ l) = syF σ from rfl]
  repeat' split
  all_goals rfl) (fun σ l => by
  show anBat (syOut σ l) x1 = anBat σ x1
  unfold anBat
  rw [fre_o]
  rfl) (fun _ k Ok R => ca_bat k Ok R e) (fun _ k Ok R => ra_bat k Ok R j1 e') fx_bat
theorem ouq_book (J : JP n j h) (O : OuE n h) (e : sX11_book F h n x1 x2 = some o) (e' : sX15_book F o.2 (n + 513) x1 x2 = some o') : OuE n o'.2 := ouq_ll (an := fun σ => anBok σ x1 x2) J O (fun σ l => by
  have c : ∀ P mv g k, cnt (syOut σ l) P mv g k = cnt σ P mv g k := fun P mv g k => by
    induction k with
    | zero => rfl
    | succ k ih =>
      show cnt (syOut σ l) P mv g k + _ = cnt σ P mv g k + _
      rw [ih]; rfl
  have d : ∀ P mv g, cntA (syOut σ l) P mv g = cntA σ P mv g := fun P mv g => c P mv g _
  have s : ∀ P mv g, cntS (syOut σ l) P mv g = cntS σ P mv g := fun P mv g => by
    induction g with
    | zero => rfl
    | succ g ih =>
      show cntS (syOut σ l) P mv g + cntA (syOut σ l) P mv g = cntS σ P mv g + cntA σ P mv g
      rw [ih, d]
  show anBok (syOut σ l) x1 x2 = anBok σ x1 x2
  unfold anBok plE
  rw [show sPl (syOut σ l) x1 = sPl σ x1 from rfl]
  cases sPl σ x1 with
  | none => rfl
  | some P =>
    show (if _ then cntS (syOut σ l) P x2.toInt 8 else _) = (if _ then cntS σ P x2.toInt 8 else _)
    rw [s]
    rfl) (fun _ k Ok R => ca_book k Ok R e) (fun _ k Ok R => ra_book k Ok R e')
theorem ouq_rows (J : JP n j h) (O : OuE n h) (e : sX11_rows F h n x1 x2 = some o) (e' : sX15_rows F o.2 (n + 513) x1 x2 = some o') : OuE n o'.2 := ouq_l (an := fun σ => anRow σ x1 x2) (Z := PbZ n) J O (fun a i c => by unfold PbZ at c; omega) (fun a i c => by unfold PbZ at c; omega) (fun _ _ => rfl) (fun _ k Ok R => ca_rows k Ok R e) (fun _ k Ok R => ra_rows k Ok R e')
theorem ouq_write (J : JP n j h) (O : OuE n h) (e : sX11_write F h n x1 = some o) (e' : sX15_write F o.2 (n + 513) x1 = some o') : OuE n o'.2 := ouq_wr (f := fun σ => syWrt σ x1) (an := fun σ => anWrt σ x1) J O (fun σ l => by
  show ∃ l', syWrt (syOut σ l) x1 = syOut σ l'
  unfold syWrt
  cases sPl (syOut σ l) x1 with
  | none => exact ⟨l, rfl⟩
  | some P => exact ⟨_, rfl⟩) (fun _ _ => rfl) (fun _ k Ok R => ca_write k Ok R e) (fun _ k Ok R => ra_write k Ok R e')
theorem ouq_view (J : JP n j h) (O : OuE n h) (e : sX11_view F h n x1 x2 = some o) (e' : sX15_view F o.2 (n + 513) x1 x2 = some o') : OuE n o'.2 := ouq_wr (f := fun σ => syViw σ x1 x2) (an := fun σ => anViw σ x1 x2) J O (fun σ l => by
  show ∃ l', syViw (syOut σ l) x1 x2 = syOut σ l'
  unfold syViw
  cases sPl (syOut σ l) x1 with
  | none => split <;> exact ⟨l, rfl⟩
  | some P =>
    split
    · exact ⟨_, rfl⟩
    · exact ⟨l, rfl⟩) (fun _ _ => rfl) (fun _ k Ok R => ca_view k Ok R e) (fun _ k Ok R => ra_view k Ok R e')
theorem ouq_out (J : JP n j h) (O : OuE n h) (e : sX11_out h n x1 = some o) (e' : sX15_out o.2 (n + 513) x1 = some o') : OuE n o'.2 := ouq_k (f := id) (an := fun σ => anOut σ x1) (an' := fun σ => anOut σ x1) (Z := fun _ _ => False) (Z' := fun _ _ => False) J O (fun _ _ c => c.elim) (fun _ _ c => c.elim) (fun _ _ c => c.elim) (fun _ _ c => c.elim) (fun _ l => ⟨l, rfl⟩) (fun _ l => ⟨l, rfl⟩) (fun _ k _ R => caz_o (ca_out k R e)) (fun _ k _ R => ⟨raz_o (ra_out k R e'), (ra_out k R e').2.2.2.2⟩)
theorem ouq_told (J : JP n j h) (O : OuE n h) (e : sX11_told F h n x1 = some o) (e' : sX15_told F o.2 (n + 513) x1 = some o') : OuE n o'.2 := ouq_k (f := id) (an := fun σ => anTld σ (hI h (n + 1) 1).toInt x1) (an' := fun σ => anTld σ (hI o.2 (n + 513) 1).toInt x1) (Z := fun _ _ => False) (Z' := fun _ _ => False) J O (fun _ _ c => c.elim) (fun _ _ c => c.elim) (fun _ _ c => c.elim) (fun _ _ c => c.elim) (fun _ l => ⟨l, rfl⟩) (fun _ l => ⟨l, rfl⟩) (fun _ k _ R => caz_o (ca_told k R rfl e)) (fun _ k Ok R => ⟨raz_o (ra_told k Ok R rfl e'), (ra_told k Ok R rfl e').2.2.2.2⟩)
theorem ouq_feed (J : JP n j h) (O : OuE n h) (e : sX11_feed h n x1 x2 x3 x4 x5 = some o) (e' : sX15_feed F o.2 (n + 513) x1 x2 x3 x4 x5 = some o') : OuE n o'.2 := ouq_k (f := id) (an := fun _ => o.1.toInt) (an' := fun _ => o'.1.toInt) (Z := TwC n) (Z' := TwR n) J O (fun a i c => by unfold TwC at c; omega) (fun a i c => by unfold TwC at c; omega) (fun a i c => by unfold TwR at c; omega) (fun a i c => by unfold TwR at c; omega) (fun _ l => ⟨l, rfl⟩) (fun _ l => ⟨l, rfl⟩) (fun _ k Ok R => ca_feed k Ok R e) (fun _ k Ok R => ⟨ra_feed k Ok R e', ser_feed k e'⟩)
theorem ouq_end (J : JP n j h) (O : OuE n h) (e : sX11_end h n x1 = some o) (e' : sX15_end o.2 (n + 513) x1 = some o') : OuE n o'.2 := ouq_k (f := id) (an := fun _ => o.1.toInt) (an' := fun _ => o'.1.toInt) (Z := TwC n) (Z' := TwR n) J O (fun a i c => by unfold TwC at c; omega) (fun a i c => by unfold TwC at c; omega) (fun a i c => by unfold TwR at c; omega) (fun a i c => by unfold TwR at c; omega) (fun _ l => ⟨l, rfl⟩) (fun _ l => ⟨l, rfl⟩) (fun _ k Ok R => ca_end k Ok R e) (fun _ k Ok R => ⟨ra_end k Ok R e', ser_end k e'⟩)
theorem ouq_say (J : JP n j h) (O : OuE n h) (e : sX11_say F h n x1 x2 = some o) (e' : sX15_say_ F o.2 (n + 513) x1 x2 = some o') : OuE n o'.2 := ouq_wr (f := fun σ => sySay σ x1 x2) (an := fun σ => anSay σ x1 x2) J O (fun σ l => by
  show ∃ l', sySay (syOut σ l) x1 x2 = syOut σ l'
  cases z : sPl (syOut σ l) x1 with
  | none => exact ⟨l, (say_0 z).2⟩
  | some P =>
    cases q : mvI (syOut σ l) x1 x2 with
    | none => exact ⟨l, (say_n z q).2⟩
    | some v => exact ⟨_, (say_s z q).2⟩) (fun _ _ => rfl) (fun _ k Ok R => ca_say k Ok R e) (fun _ k Ok R => ra_say k Ok R e')
end
