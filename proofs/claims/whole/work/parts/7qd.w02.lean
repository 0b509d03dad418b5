section
/-! both sides between calls, the problem too: all calls that leave the law and the places -/
/-- the law stays, and the places that are taken -/
def FxL (f : Sy → Sy) : Prop := ∀ σ, syL (f σ) = syL σ ∧ ∀ p P, syP σ p = some P → syP (f σ) p = some P
section
variable {n j F : Nat} {h : Hp} {σ : Sy} {o o' : Int32 × Hp} {x1 x2 x3 x4 x5 : Int32} {l : List Int}
theorem jp_g {j' : Nat} {f : Sy → Sy} {an : Sy → Int} (J : JP n j h) (ok : ∀ σ, SyOk σ → SyOk (f σ)) (fo : ∀ σ l, f (syOut σ l) = syOut (f σ) l) (ao : ∀ σ l, an (syOut σ l) = an σ) (ca : ∀ σ, DyK n h h → SyOk σ → RelC n h σ → CaO n h (f σ) o (an σ)) (ra : ∀ σ, DyK n o.2 o.2 → SyOk σ → RelR n j o.2 σ → RaO n j' o.2 (f σ) o' (an σ)) (fx : FxL f) : o.1 = o'.1 ∧ JP n j' o'.2 :=
  jp_z (Z := fun _ _ => False) (Z' := fun _ _ => False) J (fun _ _ c => c.elim) (fun _ _ c => c.elim) (fun _ _ c => c.elim) (fun _ _ c => c.elim) ok fo (fun σ => (fx σ).1) (fun σ p P _ _ => (fx σ).2 p P) ao (fun σ k Ok R => caz_o (ca σ k Ok R)) (fun σ k Ok R => ⟨raz_o (ra σ k Ok R), (ra σ k Ok R).2.2.2.2⟩)
theorem fx_id : FxL id := fun _ => ⟨rfl, fun _ _ c => c⟩
theorem jp_ll {an : Sy → Int} (J : JP n j h) (ao : ∀ σ l, an (syOut σ l) = an σ) (ca : ∀ σ, DyK n h h → SyOk σ → RelC n h σ → CaO n h σ o (an σ)) (ra : ∀ σ, DyK n o.2 o.2 → SyOk σ → RelR n j o.2 σ → RaO n j o.2 σ o' (an σ)) : o.1 = o'.1 ∧ JP n j o'.2 := jp_g (f := id) J (fun _ c => c) (fun _ _ => rfl) ao ca ra fx_id
theorem fx_put {X : Option Pz} (c : ¬ frE σ 60 = -1) : syL (syPut σ (frE σ 60).toNat X) = syL σ ∧ ∀ p P, syP σ p = some P → syP (syPut σ (frE σ 60).toNat X) p = some P := by
  refine ⟨rfl, fun p P z => ?_⟩
  rcases fre_b (σ := σ) 60 (by decide) with w | ⟨q, hq, w, wn⟩
  · exact absurd w c
  · have y : ¬ p = (frE σ 60).toNat := fun y => by
      rw [w] at y
      have : p = q := by omega
      rw [this, wn] at z
      exact nomatch z
    show (if p = (frE σ 60).toNat then X else syP σ p) = some P
    rw [if_neg y]; exact z
theorem fx_s : syL σ = syL σ ∧ ∀ p P, syP σ p = some P → syP σ p = some P := ⟨rfl, fun _ _ c => c⟩
theorem fx_go : FxL (fun σ => syGo σ x1 x2) := fun σ => by
  show syL (syGo σ x1 x2) = _ ∧ ∀ p P, _ → syP (syGo σ x1 x2) p = some P
  unfold syGo
  cases sPl σ x1 with
  | none => exact fx_s
  | some P =>
    cases mvI σ x1 x2 with
    | none => exact fx_s
    | some v =>
      by_cases c : frE σ 60 = -1
      · simp only [if_pos c]; exact ⟨trivial, fun _ _ c => c⟩
      · simp only [if_neg c]; exact fx_put c
theorem fx_now : FxL (fun σ => syNow σ x1) := fun σ => by
  show syL (syNow σ x1) = _ ∧ ∀ p P, _ → syP (syNow σ x1) p = some P
  unfold syNow
  split
  · split
    · exact fx_s
    · split
      · exact fx_s
      · rename_i c; exact fx_put c
  · exact fx_s
theorem fx_bat : FxL (fun σ => syBat σ x1) := fun σ => by
  show syL (syBat σ x1) = _ ∧ ∀ p P, _ → syP (syBat σ x1) p = some P
  unfold syBat
  split
  · split
    · exact fx_s
    · rename_i c; exact fx_put c
  · exact fx_s
theorem fx_back : FxL (fun σ => syBack σ x1) := fun σ => by
  show syL (syBack σ x1) = _ ∧ ∀ p P, _ → syP (syBack σ x1) p = some P
  unfold syBack
  repeat' split
  all_goals exact ⟨rfl, fun _ _ c => c⟩
theorem fx_sta : FxL (fun σ => sySta σ x1 x2) := fun σ => by
  show syL (sySta σ x1 x2) = _ ∧ ∀ p P, _ → syP (sySta σ x1 x2) p = some P
  unfold sySta
  cases sPl σ x2 with
  | none => split <;> exact ⟨rfl, fun _ _ c => c⟩
  | some P => split <;> exact ⟨rfl, fun _ _ c => c⟩
theorem fx_add : FxL (fun σ => syAdd σ x1 x2) := fun σ => by
  show syL (syAdd σ x1 x2) = _ ∧ ∀ p P, _ → syP (syAdd σ x1 x2) p = some P
  unfold syAdd
  cases gmV σ x1 x2 with
  | none => repeat' split
            all_goals exact ⟨rfl, fun _ _ c => c⟩
  | some v => repeat' split
              all_goals exact ⟨rfl, fun _ _ c => c⟩
/-- as ji_k -/
theorem jp_k {j' : Nat} {Z Z' : Nat → Nat → Prop} {f f' : Sy → Sy} {an an' : Sy → Int} (J : JP n j h) (zc : ∀ a i, Z a i → a < n + 513 ∧ ¬ a = n + 29) (zp : ∀ a i, Z a i → ¬ ((a = n + 76 ∧ 14 ≤ i) ∨ a = n + 91 ∨ a = n + 92)) (zr : ∀ a i, Z' a i → n + 513 ≤ a ∧ a < n + 610) (zq : ∀ a i, Z' a i → ¬ ((a = n + 513 ∧ ((64 ≤ i ∧ i ≤ 68) ∨ i = 70)) ∨ a = n + 608)) (fo : ∀ σ l, ∃ l', f (syOut σ l) = syOut σ l') (fo' : ∀ σ l, ∃ l', f' (syOut σ l) = syOut σ l') (ca : ∀ σ, DyK n h h → SyOk σ → RelC n h σ → CaZ n h (f σ) Z o (an σ)) (ra : ∀ σ, DyK n o.2 o.2 → SyOk σ → RelR n j o.2 σ → RaZ n j' o.2 (f' σ) Z' o' (an' σ) ∧ SerN n o.2 o'.2) : JP n j' o'.2 ∧ ∃ σ l1 l2, o.1.toInt = an (syOut σ l1) ∧ o'.1.toInt = an' (syOut σ l2) := by
  obtain ⟨k, tz, σ, l1, l2, pb, Ok, C, R, Pc, Pr, Po⟩ := J
  have s6 := dk_610 k
  obtain ⟨a1, a2, a3, a4⟩ := ca _ k (syo_ok Ok) C
  have A0 := frz_o k a4 (fun a i c => (zc a i c).1)
  have R1 := relr_c k a3 A0 (lgle (syo_ok (l := l2) Ok)) R
  obtain ⟨⟨b1, b2, b3, b4⟩, sn⟩ := ra _ (dk_self a3) (syo_ok Ok) R1
  obtain ⟨m1, e1⟩ := fo σ l1
  obtain ⟨m2, e2⟩ := fo' σ l2
  rw [e1] at a2
  rw [e2] at b2
  have B0 := frzr_o (dk_self a3) b4 zr
  have C2 := relc_r (dk_self a3) b3 B0 (lgle (syo_ok (l := m1) Ok)) a2
  have s3 := dk_610 a3
  have Pc1 : CPb n o.2 (syL σ) pb := cpb_f k a4 (fun a i c => by
    rcases c with c | c
    · unfold CW at c
      rcases c with c | ⟨q, b, hq, er, l, _⟩
      · omega
      · obtain ⟨own, Dw⟩ := k.1.1
        obtain ⟨y, _⟩ := bk_dy Dw (q := (150, 2408, 6, 1000, fsP)) (by decide) hq er
        have y : n + 610 ≤ b := y
        omega
    · exact zp a i c) Pc
  have Pr2 : RPb n o'.2 (syL σ) pb := rpb_s (σ' := σ) (fun a i hh => (b4.2 a i (by omega) (fun c => by
    rcases c with c | c
    · unfold RWr at c
      rcases c with c | ⟨q, hq, _, i', b, hi, er, l, _⟩
      · omega
      · obtain ⟨own, Dw⟩ := a3.1.1
        obtain ⟨y, _⟩ := bk_dy Dw hq hi er
        omega
    · exact zq a i c hh)).1) sn R1.2.2.2.2.2 (rpb_o A0 Pr)
  exact ⟨⟨dk_self b3, ⟨tzn_r B0 (tzn_c k a4 zc tz.1), ser_b sn (ser_c A0 tz.2)⟩, σ, m1, m2, pb, Ok, C2, b2, cpb_o (dk_self a3) B0 Pc1, Pr2, Po⟩, σ, l1, l2, a1, b1⟩
/-- as ji_w, of calls that give a text out -/
theorem jp_wr {f : Sy → Sy} {an : Sy → Int} (J : JP n j h) (fo : ∀ σ l, ∃ l', f (syOut σ l) = syOut σ l') (ao : ∀ σ l, an (syOut σ l) = an σ) (ca : ∀ σ, DyK n h h → SyOk σ → RelC n h σ → CaO n h (f σ) o (an σ)) (ra : ∀ σ, DyK n o.2 o.2 → SyOk σ → RelR n j o.2 σ → RaO n j o.2 (f σ) o' (an σ)) : o.1 = o'.1 ∧ JP n j o'.2 := by
  obtain ⟨J', σ, l1, l2, a, b⟩ := jp_k (Z := fun _ _ => False) (Z' := fun _ _ => False) J (fun _ _ c => c.elim) (fun _ _ c => c.elim) (fun _ _ c => c.elim) (fun _ _ c => c.elim) fo fo (fun σ k Ok R => caz_o (ca σ k Ok R)) (fun σ k Ok R => ⟨raz_o (ra σ k Ok R), (ra σ k Ok R).2.2.2.2⟩)
  rw [ao] at a b
  exact ⟨Int32.toInt_inj.mp (a.trans b.symm), J'⟩
theorem jp_at (J : JP n j h) (e : sX11_at h n x1 x2 = some o) (e' : sX15_at o.2 (n + 513) x1 x2 = some o') : o.1 = o'.1 ∧ JP n j o'.2 := jp_ll (an := fun σ => anAt σ x1 x2) J (fun _ _ => rfl) (fun _ k Ok R => ca_at k Ok R e) (fun _ k Ok R => ra_at k Ok R e')
theorem jp_attacked (J : JP n j h) (e : sX11_attacked F h n x1 x2 x3 = some o) (e' : sX15_attacked F o.2 (n + 513) x1 x2 x3 = some o') : o.1 = o'.1 ∧ JP n j o'.2 := jp_ll (an := fun σ => anHit σ x1 x2 x3) J (fun _ _ => rfl) (fun _ k Ok R => ca_hit k Ok R e) (fun _ k Ok R => ra_hit k Ok R e')
theorem jp_sees (J : JP n j h) (e : sX11_sees F h n x1 x2 x3 = some o) (e' : sX15_sees F o.2 (n + 513) x1 x2 x3 = some o') : o.1 = o'.1 ∧ JP n j o'.2 := jp_ll (an := fun σ => anSee σ x1 x2 x3) J (fun _ _ => rfl) (fun _ k Ok R => ca_see k Ok R e) (fun _ k Ok R => ra_see k Ok R e')
theorem jp_moves (J : JP n j h) (e : sX11_moves F h n x1 = some o) (e' : sX15_moves F o.2 (n + 513) x1 = some o') : o.1 = o'.1 ∧ JP n j o'.2 := jp_ll (an := fun σ => anMvs σ x1) J (fun _ _ => rfl) (fun _ k Ok R => ca_moves k Ok R e) (fun _ k Ok R => ra_moves k Ok R e')
theorem jp_move (J : JP n j h) (e : sX11_move F h n x1 x2 x3 = some o) (e' : sX15_move F o.2 (n + 513) x1 x2 x3 = some o') : o.1 = o'.1 ∧ JP n j o'.2 := jp_ll (an := fun σ => anMov σ x1 x2 x3) J (fun _ _ => rfl) (fun _ k Ok R => ca_move k Ok R e) (fun _ k Ok R => ra_move k Ok R e')
theorem jp_ended (J : JP n j h) (e : sX11_ended F h n x1 = some o) (e' : sX15_ended F o.2 (n + 513) x1 = some o') : o.1 = o'.1 ∧ JP n j o'.2 := jp_ll (an := fun σ => anEnd σ x1) J (fun _ _ => rfl) (fun _ k Ok R => ca_ended k Ok R e) (fun _ k Ok R => ra_ended k Ok R e')
theorem jp_result (J : JP n j h) (e : sX11_result F h n x1 = some o) (e' : sX15_result F o.2 (n + 513) x1 = some o') : o.1 = o'.1 ∧ JP n j o'.2 := jp_ll (an := fun σ => anRes σ x1) J (fun _ _ => rfl) (fun _ k Ok R => ca_result k Ok R e) (fun _ k Ok R => ra_result k Ok R e')
theorem jp_same (J : JP n j h) (e : sX11_same F h n x1 x2 = some o) (e' : sX15_same F o.2 (n + 513) x1 x2 = some o') : o.1 = o'.1 ∧ JP n j o'.2 := jp_ll (an := fun σ => anSam σ x1 x2) J (fun _ _ => rfl) (fun _ k Ok R => ca_same k Ok R e) (fun _ k Ok R => ra_same k Ok R e')
theorem jp_game (J : JP n j h) (e : sX11_game F h n x1 x2 = some o) (e' : sX15_game F o.2 (n + 513) x1 x2 = some o') : o.1 = o'.1 ∧ JP n j o'.2 := jp_ll (an := fun σ => anGam σ x1 x2) J (fun σ l => by
  have c : ∀ P mv g k, cnt (syOut σ l) P mv g k = cnt σ P mv g k := fun P mv g k => by
    induction k with
    | zero => rfl
    | succ k ih =>
      show cnt (syOut σ l) P mv g k + _ = cnt σ P mv g k + _
      rw [ih]; rfl
  have d : ∀ P mv g, cntA (syOut σ l) P mv g = cntA σ P mv g := fun P mv g => c P mv g _
  show anGam (syOut σ l) x1 x2 = anGam σ x1 x2
  unfold anGam
  rw [d]; rfl) (fun _ k Ok R => ca_game k Ok R e) (fun _ k Ok R => ra_game k Ok R e')
theorem jp_figure (J : JP n j h) (e : sX11_figure F h n x1 x2 = some o) (e' : sX15_figure F o.2 (n + 513) x1 x2 = some o') : o.1 = o'.1 ∧ JP n j o'.2 := jp_ll (an := fun σ => anFig σ x1 x2) J (fun _ _ => rfl) (fun _ k Ok R => ca_fig k Ok R e) (fun _ k Ok R => ra_fig k Ok R e')
theorem jp_played (J : JP n j h) (e : sX11_played h n x1 x2 = some o) (e' : sX15_played o.2 (n + 513) x1 x2 = some o') : o.1 = o'.1 ∧ JP n j o'.2 := jp_ll (an := fun σ => anPld σ x1 x2) J (fun _ _ => rfl) (fun _ k Ok R => ca_played k Ok R e) (fun _ k Ok R => ra_played k Ok R e')
theorem jp_go (J : JP n j h) (j1 : j < 100000) (e : sX11_go F h n x1 x2 = some o) (e' : sX15_go F o.2 (n + 513) x1 x2 = some o') : o.1 = o'.1 ∧ JP n (j + 1) o'.2 := jp_g (f := fun σ => syGo σ x1 x2) (an := fun σ => anGo σ x1 x2) J (fun _ Ok => ok_go Ok) (fun _ _ => go_o) (fun σ l => by
  show anGo (syOut σ l) x1 x2 = anGo σ x1 x2
  unfold anGo
  rw [fre_o]; rfl) (fun _ k Ok R => ca_go k Ok R e) (fun _ k Ok R => ra_go k Ok R j1 e') fx_go
theorem jp_back (J : JP n j h) (e : sX11_back h n x1 = some o) (e' : sX15_back o.2 (n + 513) x1 = some o') : o.1 = o'.1 ∧ JP n j o'.2 := jp_g (f := fun σ => syBack σ x1) (an := fun σ => anBack σ x1) J (fun _ Ok => ok_back Ok) (fun σ l => by
  show syBack (syOut σ l) x1 = syOut (syBack σ x1) l
  unfold syBack
  rw [show syG (syOut σ l) = syG σ from rfl]
  repeat' split
  all_goals rfl) (fun _ _ => rfl) (fun _ k Ok R => ca_back k Ok R e) (fun _ k Ok R => ra_back k Ok R e') fx_back
theorem jp_start (J : JP n j h) (e : sX11_start F h n x1 x2 = some o) (e' : sX15_start o.2 (n + 513) x1 x2 = some o') : o.1 = o'.1 ∧ JP n j o'.2 := jp_g (f := fun σ => sySta σ x1 x2) (an := fun σ => anSta σ x1 x2) J (fun _ Ok => ok_sta Ok) (fun σ l => by
  show sySta (syOut σ l) x1 x2 = syOut (sySta σ x1 x2) l
  unfold sySta
  rw [show sPl (syOut σ l) x2 = sPl σ x2 from rfl]
  cases sPl σ x2 with
  | none => split <;> rfl
  | some P => split <;> rfl) (fun _ _ => rfl) (fun _ k Ok R => ca_start k Ok R e) (fun _ k Ok R => ra_start k Ok R e') fx_sta
theorem jp_now (J : JP n j h) (j1 : j < 100000) (e : sX11_now F h n x1 = some o) (e' : sX15_now F o.2 (n + 513) x1 = some o') : o.1 = o'.1 ∧ JP n (j + 1) o'.2 := jp_g (f := fun σ => syNow σ x1) (an := fun σ => anNow σ x1) J (fun _ Ok => ok_now Ok) (fun σ l => by
  show syNow (syOut σ l) x1 = syOut (syNow σ x1) l
  unfold syNow
  rw [fre_o, show syG (syOut σ l) = syG σ from rfl]
  repeat' split
  all_goals rfl) (fun σ l => by
  show anNow (syOut σ l) x1 = anNow σ x1
  unfold anNow
  rw [fre_o]
  rfl) (fun _ k Ok R => ca_now k Ok R e) (fun _ k Ok R => ra_now k Ok R j1 e') fx_now
theorem jp_add (J : JP n j h) (e : sX11_add F h n x1 x2 = some o) (e' : sX15_add F o.2 (n + 513) x1 x2 = some o') : o.1 = o'.1 ∧ JP n j o'.2 := jp_g (f := fun σ => syAdd σ x1 x2) (an := fun σ => anAdd σ x1 x2) J (fun _ Ok => ok_add Ok) (fun σ l => by
  show syAdd (syOut σ l) x1 x2 = syOut (syAdd σ x1 x2) l
  unfold syAdd
  rw [show gmV (syOut σ l) x1 x2 = gmV σ x1 x2 from rfl, show syG (syOut σ l) = syG σ from rfl]
  cases gmV σ x1 x2 with
  | none => repeat' split
            all_goals rfl
  | some v => repeat' split
              all_goals rfl) (fun _ _ => rfl) (fun _ k Ok R => ca_addm k Ok R e) (fun _ k Ok R => ra_addm k Ok R e') fx_add
theorem jp_beforeAt (J : JP n j h) (j1 : j < 100000) (e : sX11_beforeAt F h n x1 = some o) (e' : sX15_beforeAt F o.2 (n + 513) x1 = some o') : o.1 = o'.1 ∧ JP n (j + 1) o'.2 := jp_g (f := fun σ => syBat σ x1) (an := fun σ => anBat σ x1) J (fun _ Ok => ok_bat Ok) (fun σ l => by
  show syBat (syOut σ l) x1 = syOut (syBat σ x1) l
  unfold syBat
  rw [fre_o, show syF (syOut σ l) = syF σ from rfl]
  repeat' split
  all_goals rfl) (fun σ l => by
  show anBat (syOut σ l) x1 = anBat σ x1
  unfold anBat
  rw [fre_o]
  rfl) (fun _ k Ok R => ca_bat k Ok R e) (fun _ k Ok R => ra_bat k Ok R j1 e') fx_bat
theorem jp_book (J : JP n j h) (e : sX11_book F h n x1 x2 = some o) (e' : sX15_book F o.2 (n + 513) x1 x2 = some o') : o.1 = o'.1 ∧ JP n j o'.2 := jp_ll (an := fun σ => anBok σ x1 x2) J (fun σ l => by
  have c : ∀ P mv g k, cnt (syOut σ l) P mv g k = cnt σ P mv g k := fun P mv g k => by
    induction k with
    | zero => rfl
    | succ k ih =>
      show cnt (syOut σ l) P mv g k + _ = cnt σ P mv g k + _
      rw [ih]; rfl
  have d : ∀ P mv g, cntA (syOut σ l) P mv g = cntA σ P mv g := fun P mv g => c P mv g _
  have s : ∀ P mv g, cntS (syOut σ l) P mv g = cntS σ P mv g := fun P mv g => by
    induction g with
    | zero => rfl
    | succ g ih =>
      show cntS (syOut σ l) P mv g + cntA (syOut σ l) P mv g = cntS σ P mv g + cntA σ P mv g
      rw [ih, d]
  show anBok (syOut σ l) x1 x2 = anBok σ x1 x2
  unfold anBok plE
  rw [show sPl (syOut σ l) x1 = sPl σ x1 from rfl]
  cases sPl σ x1 with
  | none => rfl
  | some P =>
    show (if _ then cntS (syOut σ l) P x2.toInt 8 else _) = (if _ then cntS σ P x2.toInt 8 else _)
    rw [s]
    rfl) (fun _ k Ok R => ca_book k Ok R e) (fun _ k Ok R => ra_book k Ok R e')
theorem jp_rows (J : JP n j h) (e : sX11_rows F h n x1 x2 = some o) (e' : sX15_rows F o.2 (n + 513) x1 x2 = some o') : o.1 = o'.1 ∧ JP n j o'.2 := jp_l (an := fun σ => anRow σ x1 x2) (Z := PbZ n) J (fun a i c => by unfold PbZ at c; omega) (fun a i c => by unfold PbZ at c; omega) (fun _ _ => rfl) (fun _ k Ok R => ca_rows k Ok R e) (fun _ k Ok R => ra_rows k Ok R e')
theorem jp_write (J : JP n j h) (e : sX11_write F h n x1 = some o) (e' : sX15_write F o.2 (n + 513) x1 = some o') : o.1 = o'.1 ∧ JP n j o'.2 := jp_wr (f := fun σ => syWrt σ x1) (an := fun σ => anWrt σ x1) J (fun σ l => by
  show ∃ l', syWrt (syOut σ l) x1 = syOut σ l'
  unfold syWrt
  cases sPl (syOut σ l) x1 with
  | none => exact ⟨l, rfl⟩
  | some P => exact ⟨_, rfl⟩) (fun _ _ => rfl) (fun _ k Ok R => ca_write k Ok R e) (fun _ k Ok R => ra_write k Ok R e')
theorem jp_view (J : JP n j h) (e : sX11_view F h n x1 x2 = some o) (e' : sX15_view F o.2 (n + 513) x1 x2 = some o') : o.1 = o'.1 ∧ JP n j o'.2 := jp_wr (f := fun σ => syViw σ x1 x2) (an := fun σ => anViw σ x1 x2) J (fun σ l => by
  show ∃ l', syViw (syOut σ l) x1 x2 = syOut σ l'
  unfold syViw
  cases sPl (syOut σ l) x1 with
  | none => split <;> exact ⟨l, rfl⟩
  | some P =>
    split
    · exact ⟨_, rfl⟩
    · exact ⟨l, rfl⟩) (fun _ _ => rfl) (fun _ k Ok R => ca_view k Ok R e) (fun _ k Ok R => ra_view k Ok R e')
theorem kp_out (J : JP n j h) (e : sX11_out h n x1 = some o) (e' : sX15_out o.2 (n + 513) x1 = some o') : JP n j o'.2 := (jp_k (f := id) (f' := id) (an := fun σ => anOut σ x1) (an' := fun σ => anOut σ x1) (Z := fun _ _ => False) (Z' := fun _ _ => False) J (fun _ _ c => c.elim) (fun _ _ c => c.elim) (fun _ _ c => c.elim) (fun _ _ c => c.elim) (fun _ l => ⟨l, rfl⟩) (fun _ l => ⟨l, rfl⟩) (fun _ k _ R => caz_o (ca_out k R e)) (fun _ k _ R => ⟨raz_o (ra_out k R e'), (ra_out k R e').2.2.2.2⟩)).1
theorem kp_told (J : JP n j h) (e : sX11_told F h n x1 = some o) (e' : sX15_told F o.2 (n + 513) x1 = some o') : JP n j o'.2 := (jp_k (f := id) (f' := id) (an := fun σ => anTld σ (hI h (n + 1) 1).toInt x1) (an' := fun σ => anTld σ (hI o.2 (n + 513) 1).toInt x1) (Z := fun _ _ => False) (Z' := fun _ _ => False) J (fun _ _ c => c.elim) (fun _ _ c => c.elim) (fun _ _ c => c.elim) (fun _ _ c => c.elim) (fun _ l => ⟨l, rfl⟩) (fun _ l => ⟨l, rfl⟩) (fun _ k _ R => caz_o (ca_told k R rfl e)) (fun _ k Ok R => ⟨raz_o (ra_told k Ok R rfl e'), (ra_told k Ok R rfl e').2.2.2.2⟩)).1
end
end
section
/-! FEED, END, DROP with the problem -/
section
variable {n j F : Nat} {g h : Hp} {σ : Sy} {o o' : Int32 × Hp} {x1 x2 x3 x4 x5 : Int32} {L : Nat → Nat → Int} {pb : Option Pb}
theorem ser_tw {o : Hp} (k : DyK n g h) (F : FrW (TwR n) h o) : SerN n h o := ser_w k F (fun a i c z => by unfold TwR at c; omega)
theorem ser_feed (k : DyK n h h) (e : sX15_feed F h (n + 513) x1 x2 x3 x4 x5 = some o) : SerN n h o.2 := by
  unfold sX15_feed at e
  rcases br_s e with ⟨_, e⟩ | ⟨_, e⟩
  · exact ser_tw k (fdr_19 F k e)
  · rw [so_e e]; exact ser_0
theorem ser_end (k : DyK n h h) (e : sX15_end h (n + 513) x1 = some o) : SerN n h o.2 := by
  unfold sX15_end sX15_end_12 at e
  rcases br_s e with ⟨_, e⟩ | ⟨_, e⟩
  · rw [so_e e]; exact ser_0
  rcases br_s e with ⟨_, e⟩ | ⟨_, e⟩
  · obtain ⟨h5, w5, e⟩ := nm_s e
    rw [so_e e, w5]
    exact ser_tw k (fw_wI fw_0 (Or.inl ⟨rfl, rfl⟩))
  · rw [so_e e]; exact ser_0
theorem kp_feed (J : JP n j h) (e : sX11_feed h n x1 x2 x3 x4 x5 = some o) (e' : sX15_feed F o.2 (n + 513) x1 x2 x3 x4 x5 = some o') : JP n j o'.2 := (jp_k (f := id) (f' := id) (an := fun _ => o.1.toInt) (an' := fun _ => o'.1.toInt) (Z := TwC n) (Z' := TwR n) J (fun a i c => by unfold TwC at c; omega) (fun a i c => by unfold TwC at c; omega) (fun a i c => by unfold TwR at c; omega) (fun a i c => by unfold TwR at c; omega) (fun _ l => ⟨l, rfl⟩) (fun _ l => ⟨l, rfl⟩) (fun _ k Ok R => ca_feed k Ok R e) (fun _ k Ok R => ⟨ra_feed k Ok R e', ser_feed k e'⟩)).1
theorem kp_end (J : JP n j h) (e : sX11_end h n x1 = some o) (e' : sX15_end o.2 (n + 513) x1 = some o') : JP n j o'.2 := (jp_k (f := id) (f' := id) (an := fun _ => o.1.toInt) (an' := fun _ => o'.1.toInt) (Z := TwC n) (Z' := TwR n) J (fun a i c => by unfold TwC at c; omega) (fun a i c => by unfold TwC at c; omega) (fun a i c => by unfold TwR at c; omega) (fun a i c => by unfold TwR at c; omega) (fun _ l => ⟨l, rfl⟩) (fun _ l => ⟨l, rfl⟩) (fun _ k Ok R => ca_end k Ok R e) (fun _ k Ok R => ⟨ra_end k Ok R e', ser_end k e'⟩)).1
/-- the problem behind a drop -/
def pbE (pb : Option Pb) (p : Nat) : Option Pb := match pb with
  | none => none
  | some q => if q.1 = p then none else some q
def pbD (σ : Sy) (pb : Option Pb) (x1 : Int32) : Option Pb := match sPl σ x1 with
  | none => pb
  | some _ => pbE pb x1.toNatClampNeg
theorem cdr_p (k : DyK n h h) (R : CPl n h σ) (C : CPb n h L pb) (e : sX11_drop h n x1 = some o) : CPb n o.2 L (pbD σ pb x1) := by
  have s6 := dk_610 k
  unfold sX11_drop at e
  unfold pbD
  obtain ⟨o1, e1, e⟩ := cl_s e
  obtain ⟨q1, c1⟩ := isp_c k R e1
  rw [q1] at e
  rcases c1 with ⟨d1, d2⟩ | ⟨d1, P, d2⟩
  · rw [so_e (bp_e d1 e), d2]
    exact C
  replace e := bn_e d1 e
  rw [d2]
  obtain ⟨b1, b2, b3, _⟩ := spl_b d2
  have nc := nc_i (x := x1) (by omega)
  replace e := ce_e (dk_e (a := 0) (f := 14) (b := 149) k (by decide +kernel)) e
  replace e := gg_e e
  obtain ⟨h5, w5, e⟩ := nm_s e
  have k5 : DyK n h h5 := by rw [w5]; exact dk_wI k
  have C5 : CPb n h5 L pb := by
    rw [w5]
    exact cpb_f (W := fun a _ => a = n + 149) k (fw_wI fw_0 rfl) (fun a i c z => by omega) C
  replace e := ce_e (dk_e (a := 0) (f := 11) (b := 76) k5 (by decide +kernel)) e
  obtain ⟨o7, e7, e⟩ := cl_s e
  rw [so_e e]
  show CPb n o7 L (pbE pb x1.toNatClampNeg)
  unfold sX4_forget sX4_forget_23 at e7
  rcases br_s e7 with ⟨c, e7⟩ | ⟨c, e7⟩
  · have e7 := so_e (nx_e (nx_e (nx_e e7)))
    have z14 : hI o7 (n + 76) 14 = 0 := by rw [e7, rI_o (by decide), rI_s]
    have z15 : hI o7 (n + 76) 15 = 0 := by rw [e7, rI_s]
    cases pb with
    | none => exact ⟨z14, z15⟩
    | some q =>
      obtain ⟨p, P', K, G, N⟩ := q
      have pp : p = x1.toNatClampNeg := by
        have := C5.1
        rw [c] at this
        omega
      show CPb n o7 L (if p = x1.toNatClampNeg then none else some (p, P', K, G, N))
      rw [if_pos pp]
      exact ⟨z14, z15⟩
  · rw [so_e e7]
    cases pb with
    | none => exact C5
    | some q =>
      obtain ⟨p, P', K, G, N⟩ := q
      have pp : ¬ p = x1.toNatClampNeg := fun z => by
        have := C5.1
        exact c (Int32.toInt_inj.mp (by rw [this, z]; omega))
      show CPb n h5 L (if p = x1.toNatClampNeg then none else some (p, P', K, G, N))
      rw [if_neg pp]
      exact C5
theorem rdr_p (k : DyK n h h) (R : RelR n j h σ) (B : SerB n h) (C : RPb n h L pb) (e : sX15_drop h (n + 513) x1 = some o) : RPb n o.2 L (pbD σ pb x1) ∧ SerB n o.2 := by
  have z0 : (0 : Int32).toInt = 0 := rfl
  unfold sX15_drop at e
  unfold pbD
  obtain ⟨o1, e1, e⟩ := cl_s e
  obtain ⟨q1, c1⟩ := has_r k R.2.1 e1
  rw [q1] at e
  rcases c1 with ⟨d1, d2⟩ | ⟨d1, P, d2⟩
  · rw [so_e (bp_e d1 e), d2]
    exact ⟨C, B⟩
  replace e := bn_e d1 e
  rw [d2]
  obtain ⟨b1, b2, b3, _⟩ := spl_b d2
  replace e := ce_e (dk_e (a := 513) (f := 15) (b := 537) k (by decide +kernel)) e
  replace e := gg_e e
  replace e := nx_e e
  rw [so_e e]
  have q : ∀ a i, ¬ (a = n + 537 ∧ i = x1.toNatClampNeg) → hI (wI h (n + 537) x1.toNatClampNeg 0) a i = hI h a i := fun a i nw => by rw [r_I, if_neg nw]
  have q0 : hI (wI h (n + 537) x1.toNatClampNeg 0) (n + 537) x1.toNatClampNeg = 0 := rI_s
  have f16 := q (n + 513) 16 (by omega)
  have f64 := q (n + 513) 64 (by omega)
  have f65 := q (n + 513) 65 (by omega)
  refine ⟨?_, fun p hp => ?_⟩
  · show RPb n (wI h (n + 537) x1.toNatClampNeg 0) L (pbE pb x1.toNatClampNeg)
    cases pb with
    | none =>
      obtain ⟨c1, c2⟩ := C
      show _ ∧ _
      rw [f16, f65, f64]
      refine ⟨c1, ?_⟩
      rcases c2 with c2 | ⟨c2, c3⟩
      · exact Or.inl c2
      · by_cases y : (hI h (n + 513) 65).toInt ≤ 0
        · exact Or.inl y
        · refine Or.inr ⟨c2, ?_⟩
          by_cases z : (hI h (n + 513) 64).toNatClampNeg = x1.toNatClampNeg
          · rw [z, q0]
            intro w
            rw [← w] at y
            exact y (by rw [z0]; exact Int.le_refl _)
          · rw [q _ _ (fun w => z w.2)]; exact c3
    | some qq =>
      obtain ⟨p, P', K, G, N⟩ := qq
      show RPb n _ L (if p = x1.toNatClampNeg then none else some (p, P', K, G, N))
      have C' := C
      obtain ⟨c1, c2, c3, c4, c5, c6, c7, c8, c9⟩ := C
      by_cases pp : p = x1.toNatClampNeg
      · rw [if_pos pp]
        show _ ∧ _
        rw [f16, f65, f64]
        have np : (hI h (n + 513) 64).toNatClampNeg = p := by have := nc_i (x := hI h (n + 513) 64) (by omega); omega
        refine ⟨by rw [← c3]; exact B p c1, Or.inr ⟨by omega, ?_⟩⟩
        rw [np, pp, q0]
        intro w
        rw [← w, z0] at c4
        omega
      · rw [if_neg pp]
        exact ⟨c1, by rw [f64]; exact c2, by rw [f65, q _ _ (fun w => pp w.2)]; exact c3, by rw [f65]; exact c4, by rw [q _ _ (by omega)]; exact c5, by rw [q _ _ (by omega)]; exact c6, by rw [q _ _ (by omega)]; exact c7, by rw [q _ _ (by omega)]; exact c8, fun i hi => by rw [q _ _ (by omega)]; exact c9 i hi⟩
  · show (hI (wI h (n + 537) x1.toNatClampNeg 0) (n + 537) p).toInt ≤ (hI (wI h (n + 537) x1.toNatClampNeg 0) (n + 513) 16).toInt
    rw [f16]
    by_cases z : p = x1.toNatClampNeg
    · rw [z, q0, z0]; exact R.2.2.2.2.2.1
    · rw [q _ _ (fun w => z w.2)]; exact B p hp
theorem pbo_d (O : PbO σ pb) : PbO (syDrop σ x1) (pbD σ pb x1) := by
  unfold pbD syDrop
  cases z : sPl σ x1 with
  | none => exact O
  | some P =>
    cases pb with
    | none => trivial
    | some q =>
      obtain ⟨p, P', K, G, N⟩ := q
      show PbO (syPut σ x1.toNatClampNeg none) (if p = x1.toNatClampNeg then none else some (p, P', K, G, N))
      by_cases pp : p = x1.toNatClampNeg
      · rw [if_pos pp]; trivial
      · rw [if_neg pp]
        obtain ⟨o1, o2, o3⟩ := O
        refine ⟨o1, ?_, o3⟩
        show (if p = x1.toNatClampNeg then none else syP σ p) = some P'
        rw [if_neg pp]; exact o2
theorem jp_drop (J : JP n j h) (e : sX11_drop h n x1 = some o) (e' : sX15_drop o.2 (n + 513) x1 = some o') : o.1 = o'.1 ∧ JP n j o'.2 := by
  obtain ⟨k, tz, σ, l1, l2, pb, Ok, C, R, Pc, Pr, Po⟩ := J
  obtain ⟨a1, a2, a3, a4⟩ := ca_drop k (syo_ok Ok) C e
  have Pc1 : CPb n o.2 (syL σ) (pbD σ pb x1) := cdr_p k C.2.1 Pc e
  have zc : ∀ a (_ : Nat), a = n + 76 → a < n + 513 ∧ ¬ a = n + 29 := fun a _ c => by omega
  have A0 := frz_o k a4 (fun a i c => (zc a i c).1)
  have R1 := relr_c k a3 A0 (lgle (syo_ok (l := l2) Ok)) R
  obtain ⟨b1, b2, b3, b4⟩ := ra_drop (dk_self a3) (syo_ok Ok) R1 e'
  obtain ⟨Pr2, sb⟩ := rdr_p (dk_self a3) R1 (ser_c A0 tz.2) (rpb_o A0 Pr) e'
  have B0 : FrR0 n o.2 o'.2 := frzr_o (Z := fun _ _ => False) (dk_self a3) (fw_s b4 (fun _ _ c => Or.inl c)) (fun _ _ c => c.elim)
  have dl : ∀ l, syDrop (syOut σ l) x1 = syOut (syDrop σ x1) l := fun l => by
    unfold syDrop
    rw [show sPl (syOut σ l) x1 = sPl σ x1 from rfl]
    cases sPl σ x1 with
    | none => rfl
    | some P => rfl
  have dL : syL (syDrop σ x1) = syL σ := by
    unfold syDrop
    cases sPl σ x1 with
    | none => rfl
    | some P => rfl
  rw [dl] at a2 b2
  have Ok' := ok_drop (x1 := x1) Ok
  have C2 := relc_r (dk_self a3) b3 B0 (lgle (syo_ok (l := l1) Ok')) a2
  refine ⟨Int32.toInt_inj.mp (a1.trans b1.symm), dk_self b3, ⟨tzn_r B0 (tzn_c k a4 zc tz.1), sb⟩, syDrop σ x1, l1, l2, pbD σ pb x1, Ok', C2, b2, ?_, ?_, pbo_d Po⟩
  · rw [dL]; exact cpb_o (dk_self a3) B0 Pc1
  · rw [dL]; exact Pr2
end
end
