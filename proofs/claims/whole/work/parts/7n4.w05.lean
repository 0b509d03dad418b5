section
/-! both sides between calls: one state, two texts given out -/
/-- the ways' counters are 0 -/
def TzN (n : Nat) (h : Hp) : Prop := ∀ x, x < 512 → hI h (n + 29) x = 0
def JI (n j : Nat) (h : Hp) : Prop := DyK n h h ∧ TzN n h ∧ ∃ σ l1 l2, SyOk σ ∧ RelC n h (syOut σ l1) ∧ RelR n j h (syOut σ l2)
section
variable {n j F : Nat} {h : Hp} {σ : Sy} {o o' : Int32 × Hp} {x1 x2 x3 : Int32}
/-- what a call of the class leaves, Z besides -/
theorem frz_o {Z : Nat → Nat → Prop} {o : Hp} {g : Hp} (k : DyK n g h) (A : FrW (fun a i => CW n h a i ∨ Z a i) h o) (z : ∀ a i, Z a i → a < n + 513) : FrC0 n h o := frc_w0 k A (fun a i c _ => by
  rcases c with c | c
  · exact c.elim (fun c => Or.inl (by omega)) Or.inr
  · exact Or.inl (z a i c))
theorem frzr_o {Z : Nat → Nat → Prop} {o : Hp} {g : Hp} (k : DyK n g h) (A : FrW (fun a i => RWr n h a i ∨ Z a i) h o) (z : ∀ a i, Z a i → n + 513 ≤ a ∧ a < n + 610) : FrR0 n h o := frr_w0 k A (fun a i c _ => by
  rcases c with c | c
  · exact c.elim (fun c => Or.inl (by omega)) Or.inr
  · exact Or.inl (z a i c))
theorem tzn_c {Z : Nat → Nat → Prop} {o : Hp} {g : Hp} (k : DyK n g h) (A : FrW (fun a i => CW n h a i ∨ Z a i) h o) (z : ∀ a i, Z a i → a < n + 513 ∧ ¬ a = n + 29) (T : TzN n h) : TzN n o := fun x hx => by
  have s6 := dk_610 k
  rw [(A.2 (n + 29) x (by omega) (fun c => by
    rcases c with c | c
    · rcases c with c | ⟨q, b, hq, e, c⟩
      · omega
      · obtain ⟨lo, _⟩ := dy_lo k (q := (150, 2408, 6, 1000, fsP)) (by decide) hq e
        omega
    · exact (z _ _ c).2 rfl)).1]
  exact T x hx
theorem tzn_r {o : Hp} (A : FrR0 n h o) (T : TzN n h) : TzN n o := fun x hx => by
  rw [(A.2.1 (n + 29) x (by omega) (by omega)).1]
  exact T x hx
/-- any call: both answer by `an`, both go on by `f` -/
theorem ji_z {j' : Nat} {Z Z' : Nat → Nat → Prop} {f : Sy → Sy} {an : Sy → Int} (J : JI n j h) (zc : ∀ a i, Z a i → a < n + 513 ∧ ¬ a = n + 29) (zr : ∀ a i, Z' a i → n + 513 ≤ a ∧ a < n + 610) (ok : ∀ σ, SyOk σ → SyOk (f σ)) (fo : ∀ σ l, f (syOut σ l) = syOut (f σ) l) (ao : ∀ σ l, an (syOut σ l) = an σ) (ca : ∀ σ, DyK n h h → SyOk σ → RelC n h σ → CaZ n h (f σ) Z o (an σ)) (ra : ∀ σ, DyK n o.2 o.2 → SyOk σ → RelR n j o.2 σ → RaZ n j' o.2 (f σ) Z' o' (an σ)) : o.1 = o'.1 ∧ JI n j' o'.2 := by
  obtain ⟨k, tz, σ, l1, l2, Ok, C, R⟩ := J
  obtain ⟨a1, a2, a3, a4⟩ := ca _ k (syo_ok Ok) C
  have R1 := relr_c k a3 (frz_o k a4 (fun a i c => (zc a i c).1)) (lgle (syo_ok (l := l2) Ok)) R
  obtain ⟨b1, b2, b3, b4⟩ := ra _ (dk_self a3) (syo_ok Ok) R1
  rw [fo] at a2 b2
  rw [ao] at a1 b1
  have C2 := relc_r (dk_self a3) b3 (frzr_o (dk_self a3) b4 zr) (lgle (syo_ok (l := l1) (ok σ Ok))) a2
  exact ⟨Int32.toInt_inj.mp (a1.trans b1.symm), dk_self b3, tzn_r (frzr_o (dk_self a3) b4 zr) (tzn_c k a4 zc tz), f σ, l1, l2, ok σ Ok, C2, b2⟩
theorem ji_g {j' : Nat} {f : Sy → Sy} {an : Sy → Int} (J : JI n j h) (ok : ∀ σ, SyOk σ → SyOk (f σ)) (fo : ∀ σ l, f (syOut σ l) = syOut (f σ) l) (ao : ∀ σ l, an (syOut σ l) = an σ) (ca : ∀ σ, DyK n h h → SyOk σ → RelC n h σ → CaO n h (f σ) o (an σ)) (ra : ∀ σ, DyK n o.2 o.2 → SyOk σ → RelR n j o.2 σ → RaO n j' o.2 (f σ) o' (an σ)) : o.1 = o'.1 ∧ JI n j' o'.2 :=
  ji_z (Z := fun _ _ => False) (Z' := fun _ _ => False) J (fun _ _ c => c.elim) (fun _ _ c => c.elim) ok fo ao (fun σ k Ok R => caz_o (ca σ k Ok R)) (fun σ k Ok R => raz_o (ra σ k Ok R))
/-- a call that only looks -/
theorem ji_l {an : Sy → Int} (J : JI n j h) (ao : ∀ σ l, an (syOut σ l) = an σ) (ca : ∀ σ, DyK n h h → SyOk σ → RelC n h σ → CaO n h σ o (an σ)) (ra : ∀ σ, DyK n o.2 o.2 → SyOk σ → RelR n j o.2 σ → RaO n j o.2 σ o' (an σ)) : o.1 = o'.1 ∧ JI n j o'.2 := ji_g (f := id) J (fun _ c => c) (fun _ _ => rfl) ao ca ra
theorem j_at (J : JI n j h) (e : sX11_at h n x1 x2 = some o) (e' : sX15_at o.2 (n + 513) x1 x2 = some o') : o.1 = o'.1 ∧ JI n j o'.2 := ji_l (an := fun σ => anAt σ x1 x2) J (fun _ _ => rfl) (fun _ k Ok R => ca_at k Ok R e) (fun _ k Ok R => ra_at k Ok R e')
theorem j_attacked (J : JI n j h) (e : sX11_attacked F h n x1 x2 x3 = some o) (e' : sX15_attacked F o.2 (n + 513) x1 x2 x3 = some o') : o.1 = o'.1 ∧ JI n j o'.2 := ji_l (an := fun σ => anHit σ x1 x2 x3) J (fun _ _ => rfl) (fun _ k Ok R => ca_hit k Ok R e) (fun _ k Ok R => ra_hit k Ok R e')
theorem j_sees (J : JI n j h) (e : sX11_sees F h n x1 x2 x3 = some o) (e' : sX15_sees F o.2 (n + 513) x1 x2 x3 = some o') : o.1 = o'.1 ∧ JI n j o'.2 := ji_l (an := fun σ => anSee σ x1 x2 x3) J (fun _ _ => rfl) (fun _ k Ok R => ca_see k Ok R e) (fun _ k Ok R => ra_see k Ok R e')
theorem j_moves (J : JI n j h) (e : sX11_moves F h n x1 = some o) (e' : sX15_moves F o.2 (n + 513) x1 = some o') : o.1 = o'.1 ∧ JI n j o'.2 := ji_l (an := fun σ => anMvs σ x1) J (fun _ _ => rfl) (fun _ k Ok R => ca_moves k Ok R e) (fun _ k Ok R => ra_moves k Ok R e')
theorem j_move (J : JI n j h) (e : sX11_move F h n x1 x2 x3 = some o) (e' : sX15_move F o.2 (n + 513) x1 x2 x3 = some o') : o.1 = o'.1 ∧ JI n j o'.2 := ji_l (an := fun σ => anMov σ x1 x2 x3) J (fun _ _ => rfl) (fun _ k Ok R => ca_move k Ok R e) (fun _ k Ok R => ra_move k Ok R e')
theorem j_ended (J : JI n j h) (e : sX11_ended F h n x1 = some o) (e' : sX15_ended F o.2 (n + 513) x1 = some o') : o.1 = o'.1 ∧ JI n j o'.2 := ji_l (an := fun σ => anEnd σ x1) J (fun _ _ => rfl) (fun _ k Ok R => ca_ended k Ok R e) (fun _ k Ok R => ra_ended k Ok R e')
theorem j_result (J : JI n j h) (e : sX11_result F h n x1 = some o) (e' : sX15_result F o.2 (n + 513) x1 = some o') : o.1 = o'.1 ∧ JI n j o'.2 := ji_l (an := fun σ => anRes σ x1) J (fun _ _ => rfl) (fun _ k Ok R => ca_result k Ok R e) (fun _ k Ok R => ra_result k Ok R e')
theorem j_same (J : JI n j h) (e : sX11_same F h n x1 x2 = some o) (e' : sX15_same F o.2 (n + 513) x1 x2 = some o') : o.1 = o'.1 ∧ JI n j o'.2 := ji_l (an := fun σ => anSam σ x1 x2) J (fun _ _ => rfl) (fun _ k Ok R => ca_same k Ok R e) (fun _ k Ok R => ra_same k Ok R e')
theorem j_game (J : JI n j h) (e : sX11_game F h n x1 x2 = some o) (e' : sX15_game F o.2 (n + 513) x1 x2 = some o') : o.1 = o'.1 ∧ JI n j o'.2 := ji_l (an := fun σ => anGam σ x1 x2) J (fun σ l => by
  have c : ∀ P mv g k, cnt (syOut σ l) P mv g k = cnt σ P mv g k := fun P mv g k => by
    induction k with
    | zero => rfl
    | succ k ih =>
      show cnt (syOut σ l) P mv g k + _ = cnt σ P mv g k + _
      rw [ih]; rfl
  have d : ∀ P mv g, cntA (syOut σ l) P mv g = cntA σ P mv g := fun P mv g => c P mv g _
  show anGam (syOut σ l) x1 x2 = anGam σ x1 x2
  unfold anGam
  rw [d]; rfl) (fun _ k Ok R => ca_game k Ok R e) (fun _ k Ok R => ra_game k Ok R e')
theorem j_figure (J : JI n j h) (e : sX11_figure F h n x1 x2 = some o) (e' : sX15_figure F o.2 (n + 513) x1 x2 = some o') : o.1 = o'.1 ∧ JI n j o'.2 := ji_l (an := fun σ => anFig σ x1 x2) J (fun _ _ => rfl) (fun _ k Ok R => ca_fig k Ok R e) (fun _ k Ok R => ra_fig k Ok R e')
theorem j_played (J : JI n j h) (e : sX11_played h n x1 x2 = some o) (e' : sX15_played o.2 (n + 513) x1 x2 = some o') : o.1 = o'.1 ∧ JI n j o'.2 := ji_l (an := fun σ => anPld σ x1 x2) J (fun _ _ => rfl) (fun _ k Ok R => ca_played k Ok R e) (fun _ k Ok R => ra_played k Ok R e')
end
end
section
/-! both sides between calls: calls that change the state -/
section
variable {n j F : Nat} {h : Hp} {σ : Sy} {o o' : Int32 × Hp} {x1 x2 x3 x4 x5 : Int32} {l : List Int}
/-- as ji_z, but the text given out may be another, and answers are not compared -/
theorem ji_k {j' : Nat} {Z Z' : Nat → Nat → Prop} {f f' g : Sy → Sy} {an an' : Sy → Int} (J : JI n j h) (zc : ∀ a i, Z a i → a < n + 513 ∧ ¬ a = n + 29) (zr : ∀ a i, Z' a i → n + 513 ≤ a ∧ a < n + 610) (ok : ∀ σ, SyOk σ → SyOk (g σ)) (fo : ∀ σ l, ∃ l', f (syOut σ l) = syOut (g σ) l') (fo' : ∀ σ l, ∃ l', f' (syOut σ l) = syOut (g σ) l') (ca : ∀ σ, DyK n h h → SyOk σ → RelC n h σ → CaZ n h (f σ) Z o (an σ)) (ra : ∀ σ, DyK n o.2 o.2 → SyOk σ → RelR n j o.2 σ → RaZ n j' o.2 (f' σ) Z' o' (an' σ)) : JI n j' o'.2 ∧ ∃ σ l1 l2, o.1.toInt = an (syOut σ l1) ∧ o'.1.toInt = an' (syOut σ l2) := by
  obtain ⟨k, tz, σ, l1, l2, Ok, C, R⟩ := J
  obtain ⟨a1, a2, a3, a4⟩ := ca _ k (syo_ok Ok) C
  have R1 := relr_c k a3 (frz_o k a4 (fun a i c => (zc a i c).1)) (lgle (syo_ok (l := l2) Ok)) R
  obtain ⟨b1, b2, b3, b4⟩ := ra _ (dk_self a3) (syo_ok Ok) R1
  obtain ⟨m1, e1⟩ := fo σ l1
  obtain ⟨m2, e2⟩ := fo' σ l2
  rw [e1] at a2
  rw [e2] at b2
  have C2 := relc_r (dk_self a3) b3 (frzr_o (dk_self a3) b4 zr) (lgle (syo_ok (l := m1) (ok σ Ok))) a2
  exact ⟨⟨dk_self b3, tzn_r (frzr_o (dk_self a3) b4 zr) (tzn_c k a4 zc tz), g σ, m1, m2, ok σ Ok, C2, b2⟩, σ, l1, l2, a1, b1⟩
theorem ji_w {j' : Nat} {Z Z' : Nat → Nat → Prop} {f g : Sy → Sy} {an : Sy → Int} (J : JI n j h) (zc : ∀ a i, Z a i → a < n + 513 ∧ ¬ a = n + 29) (zr : ∀ a i, Z' a i → n + 513 ≤ a ∧ a < n + 610) (ok : ∀ σ, SyOk σ → SyOk (g σ)) (fo : ∀ σ l, ∃ l', f (syOut σ l) = syOut (g σ) l') (ao : ∀ σ l, an (syOut σ l) = an σ) (ca : ∀ σ, DyK n h h → SyOk σ → RelC n h σ → CaZ n h (f σ) Z o (an σ)) (ra : ∀ σ, DyK n o.2 o.2 → SyOk σ → RelR n j o.2 σ → RaZ n j' o.2 (f σ) Z' o' (an σ)) : o.1 = o'.1 ∧ JI n j' o'.2 := by
  obtain ⟨J', σ, l1, l2, a, b⟩ := ji_k J zc zr ok fo fo ca ra
  rw [ao] at a b
  exact ⟨Int32.toInt_inj.mp (a.trans b.symm), J'⟩
theorem fre_o : ∀ i, frE (syOut σ l) i = frE σ i
  | 0 => rfl
  | i + 1 => by
    show (if syP σ (59 - i) = none then ((59 - i : Nat) : Int) else frE (syOut σ l) i) = (if syP σ (59 - i) = none then ((59 - i : Nat) : Int) else frE σ i)
    rw [fre_o i]
theorem go_o : syGo (syOut σ l) x1 x2 = syOut (syGo σ x1 x2) l := by
  unfold syGo
  rw [fre_o, show sPl (syOut σ l) x1 = sPl σ x1 from rfl, show mvI (syOut σ l) x1 x2 = mvI σ x1 x2 from rfl]
  cases sPl σ x1 with
  | none => rfl
  | some P =>
    cases mvI σ x1 x2 with
    | none => rfl
    | some v =>
      by_cases c : frE σ 60 = -1
      · simp only [if_pos c]
      · simp only [if_neg c]; rfl
theorem j_go (J : JI n j h) (j1 : j < 100000) (e : sX11_go F h n x1 x2 = some o) (e' : sX15_go F o.2 (n + 513) x1 x2 = some o') : o.1 = o'.1 ∧ JI n (j + 1) o'.2 := ji_g (f := fun σ => syGo σ x1 x2) (an := fun σ => anGo σ x1 x2) J (fun _ Ok => ok_go Ok) (fun _ _ => go_o) (fun σ l => by
  show anGo (syOut σ l) x1 x2 = anGo σ x1 x2
  unfold anGo
  rw [fre_o]; rfl) (fun _ k Ok R => ca_go k Ok R e) (fun _ k Ok R => ra_go k Ok R j1 e')
theorem j_drop (J : JI n j h) (e : sX11_drop h n x1 = some o) (e' : sX15_drop o.2 (n + 513) x1 = some o') : o.1 = o'.1 ∧ JI n j o'.2 := ji_z (f := fun σ => syDrop σ x1) (an := fun σ => anDrop σ x1) (Z := fun a _ => a = n + 76) (Z' := fun _ _ => False) J (fun a i c => by omega) (fun _ _ c => c.elim) (fun _ Ok => ok_drop Ok) (fun σ l => by
  show syDrop (syOut σ l) x1 = syOut (syDrop σ x1) l
  unfold syDrop
  rw [show sPl (syOut σ l) x1 = sPl σ x1 from rfl]
  cases sPl σ x1 with
  | none => rfl
  | some P => rfl) (fun _ _ => rfl) (fun _ k Ok R => ca_drop k Ok R e) (fun _ k Ok R => let x := ra_drop k Ok R e'; ⟨x.1, x.2.1, x.2.2.1, fw_s x.2.2.2 (fun _ _ c => Or.inl c)⟩)
theorem j_back (J : JI n j h) (e : sX11_back h n x1 = some o) (e' : sX15_back o.2 (n + 513) x1 = some o') : o.1 = o'.1 ∧ JI n j o'.2 := ji_g (f := fun σ => syBack σ x1) (an := fun σ => anBack σ x1) J (fun _ Ok => ok_back Ok) (fun σ l => by
  show syBack (syOut σ l) x1 = syOut (syBack σ x1) l
  unfold syBack
  rw [show syG (syOut σ l) = syG σ from rfl]
  repeat' split
  all_goals rfl) (fun _ _ => rfl) (fun _ k Ok R => ca_back k Ok R e) (fun _ k Ok R => ra_back k Ok R e')
theorem j_start (J : JI n j h) (e : sX11_start F h n x1 x2 = some o) (e' : sX15_start o.2 (n + 513) x1 x2 = some o') : o.1 = o'.1 ∧ JI n j o'.2 := ji_g (f := fun σ => sySta σ x1 x2) (an := fun σ => anSta σ x1 x2) J (fun _ Ok => ok_sta Ok) (fun σ l => by
  show sySta (syOut σ l) x1 x2 = syOut (sySta σ x1 x2) l
  unfold sySta
  rw [show sPl (syOut σ l) x2 = sPl σ x2 from rfl]
  cases sPl σ x2 with
  | none => split <;> rfl
  | some P => split <;> rfl) (fun _ _ => rfl) (fun _ k Ok R => ca_start k Ok R e) (fun _ k Ok R => ra_start k Ok R e')
theorem j_now (J : JI n j h) (j1 : j < 100000) (e : sX11_now F h n x1 = some o) (e' : sX15_now F o.2 (n + 513) x1 = some o') : o.1 = o'.1 ∧ JI n (j + 1) o'.2 := ji_g (f := fun σ => syNow σ x1) (an := fun σ => anNow σ x1) J (fun _ Ok => ok_now Ok) (fun σ l => by
  show syNow (syOut σ l) x1 = syOut (syNow σ x1) l
  unfold syNow
  rw [fre_o, show syG (syOut σ l) = syG σ from rfl]
  repeat' split
  all_goals rfl) (fun σ l => by
  show anNow (syOut σ l) x1 = anNow σ x1
  unfold anNow
  rw [fre_o]
  rfl) (fun _ k Ok R => ca_now k Ok R e) (fun _ k Ok R => ra_now k Ok R j1 e')
theorem j_add (J : JI n j h) (e : sX11_add F h n x1 x2 = some o) (e' : sX15_add F o.2 (n + 513) x1 x2 = some o') : o.1 = o'.1 ∧ JI n j o'.2 := ji_g (f := fun σ => syAdd σ x1 x2) (an := fun σ => anAdd σ x1 x2) J (fun _ Ok => ok_add Ok) (fun σ l => by
  show syAdd (syOut σ l) x1 x2 = syOut (syAdd σ x1 x2) l
  unfold syAdd
  rw [show gmV (syOut σ l) x1 x2 = gmV σ x1 x2 from rfl, show syG (syOut σ l) = syG σ from rfl]
  cases gmV σ x1 x2 with
  | none => repeat' split
            all_goals rfl
  | some v => repeat' split
              all_goals rfl) (fun _ _ => rfl) (fun _ k Ok R => ca_addm k Ok R e) (fun _ k Ok R => ra_addm k Ok R e')
theorem j_beforeAt (J : JI n j h) (j1 : j < 100000) (e : sX11_beforeAt F h n x1 = some o) (e' : sX15_beforeAt F o.2 (n + 513) x1 = some o') : o.1 = o'.1 ∧ JI n (j + 1) o'.2 := ji_g (f := fun σ => syBat σ x1) (an := fun σ => anBat σ x1) J (fun _ Ok => ok_bat Ok) (fun σ l => by
  show syBat (syOut σ l) x1 = syOut (syBat σ x1) l
  unfold syBat
  rw [fre_o, show syF (syOut σ l) = syF σ from rfl]
  repeat' split
  all_goals rfl) (fun σ l => by
  show anBat (syOut σ l) x1 = anBat σ x1
  unfold anBat
  rw [fre_o]
  rfl) (fun _ k Ok R => ca_bat k Ok R e) (fun _ k Ok R => ra_bat k Ok R j1 e')
theorem j_write (J : JI n j h) (e : sX11_write F h n x1 = some o) (e' : sX15_write F o.2 (n + 513) x1 = some o') : o.1 = o'.1 ∧ JI n j o'.2 := ji_w (f := fun σ => syWrt σ x1) (g := id) (an := fun σ => anWrt σ x1) (Z := fun _ _ => False) (Z' := fun _ _ => False) J (fun _ _ c => c.elim) (fun _ _ c => c.elim) (fun _ Ok => Ok) (fun σ l => by
  show ∃ l', syWrt (syOut σ l) x1 = syOut σ l'
  unfold syWrt
  cases sPl (syOut σ l) x1 with
  | none => exact ⟨l, rfl⟩
  | some P => exact ⟨_, rfl⟩) (fun _ _ => rfl) (fun _ k Ok R => caz_o (ca_write k Ok R e)) (fun _ k Ok R => raz_o (ra_write k Ok R e'))
theorem j_view (J : JI n j h) (e : sX11_view F h n x1 x2 = some o) (e' : sX15_view F o.2 (n + 513) x1 x2 = some o') : o.1 = o'.1 ∧ JI n j o'.2 := ji_w (f := fun σ => syViw σ x1 x2) (g := id) (an := fun σ => anViw σ x1 x2) (Z := fun _ _ => False) (Z' := fun _ _ => False) J (fun _ _ c => c.elim) (fun _ _ c => c.elim) (fun _ Ok => Ok) (fun σ l => by
  show ∃ l', syViw (syOut σ l) x1 x2 = syOut σ l'
  unfold syViw
  cases sPl (syOut σ l) x1 with
  | none => split <;> exact ⟨l, rfl⟩
  | some P =>
    split
    · exact ⟨_, rfl⟩
    · exact ⟨l, rfl⟩) (fun _ _ => rfl) (fun _ k Ok R => caz_o (ca_view k Ok R e)) (fun _ k Ok R => raz_o (ra_view k Ok R e'))
theorem k_out (J : JI n j h) (e : sX11_out h n x1 = some o) (e' : sX15_out o.2 (n + 513) x1 = some o') : JI n j o'.2 := (ji_k (f := id) (f' := id) (g := id) (an := fun σ => anOut σ x1) (an' := fun σ => anOut σ x1) (Z := fun _ _ => False) (Z' := fun _ _ => False) J (fun _ _ c => c.elim) (fun _ _ c => c.elim) (fun _ Ok => Ok) (fun _ l => ⟨l, rfl⟩) (fun _ l => ⟨l, rfl⟩) (fun _ k _ R => caz_o (ca_out k R e)) (fun _ k _ R => raz_o (ra_out k R e'))).1
theorem k_told (J : JI n j h) (e : sX11_told F h n x1 = some o) (e' : sX15_told F o.2 (n + 513) x1 = some o') : JI n j o'.2 := (ji_k (f := id) (f' := id) (g := id) (an := fun σ => anTld σ (hI h (n + 1) 1).toInt x1) (an' := fun σ => anTld σ (hI o.2 (n + 513) 1).toInt x1) (Z := fun _ _ => False) (Z' := fun _ _ => False) J (fun _ _ c => c.elim) (fun _ _ c => c.elim) (fun _ Ok => Ok) (fun _ l => ⟨l, rfl⟩) (fun _ l => ⟨l, rfl⟩) (fun _ k _ R => caz_o (ca_told k R rfl e)) (fun _ k Ok R => raz_o (ra_told k Ok R rfl e'))).1
theorem k_feed (J : JI n j h) (e : sX11_feed h n x1 x2 x3 x4 x5 = some o) (e' : sX15_feed F o.2 (n + 513) x1 x2 x3 x4 x5 = some o') : JI n j o'.2 := (ji_k (f := id) (f' := id) (g := id) (an := fun _ => o.1.toInt) (an' := fun _ => o'.1.toInt) (Z := TwC n) (Z' := TwR n) J (fun a i c => by unfold TwC at c; omega) (fun a i c => by unfold TwR at c; omega) (fun _ Ok => Ok) (fun _ l => ⟨l, rfl⟩) (fun _ l => ⟨l, rfl⟩) (fun _ k Ok R => ca_feed k Ok R e) (fun _ k Ok R => ra_feed k Ok R e')).1
theorem k_end (J : JI n j h) (e : sX11_end h n x1 = some o) (e' : sX15_end o.2 (n + 513) x1 = some o') : JI n j o'.2 := (ji_k (f := id) (f' := id) (g := id) (an := fun _ => o.1.toInt) (an' := fun _ => o'.1.toInt) (Z := TwC n) (Z' := TwR n) J (fun a i c => by unfold TwC at c; omega) (fun a i c => by unfold TwR at c; omega) (fun _ Ok => Ok) (fun _ l => ⟨l, rfl⟩) (fun _ l => ⟨l, rfl⟩) (fun _ k Ok R => ca_end k Ok R e) (fun _ k Ok R => ra_end k Ok R e')).1
end
end
section
/-! POSITION and BOOK, joint -/
/-- law and taken places stay -/
def FxS (σ σ' : Sy) : Prop := syL σ' = syL σ ∧ ∀ p P, syP σ p = some P → syP σ' p = some P
section
variable {n j F : Nat} {h : Hp} {σ : Sy} {o o' : Int32 × Hp} {x1 x2 : Int32}
theorem fxs_0 : FxS σ σ := ⟨rfl, fun _ _ c => c⟩
theorem psn_k {l : List Int} (k : DyK n h h) (Ok : SyOk σ) (RC : RelC n h σ) (RR : RelR n j h (syOut σ l)) (j1 : j < 100000) (LA : LwA n (n + 513) h) (T1 : hI h (n + 1) 1 = hI h (n + 513) 1) (T3 : Rg 0 1200 (hI h (n + 513) 1)) (T4 : ∀ i, Rg 0 255 (hI h (n + 2) i)) (T5 : ∀ i : Nat, (i : Int) < (hI h (n + 513) 1).toInt → (hI h (n + 514) i).toInt = sg (hI h (n + 2) i).toInt) (LP : ∀ q, q < 60 → hN h (n + (153 + 6 * q) + 1) = 64 ∧ hN h (n + (153 + 6 * q) + 2) = 2 ∧ hN h (n + (153 + 6 * q) + 3) = 2 ∧ hN h (n + (153 + 6 * q) + 4) = 2 ∧ hN h (n + (153 + 6 * q) + 5) = 2) (e : sX11_position F h n = some o) (e' : sX15_position F o.2 (n + 513) = some o') : o.1.toInt = o'.1.toInt ∧ ∃ σ', SyOk σ' ∧ RelC n o.2 σ' ∧ RelR n (j + 1) o'.2 (syOut σ' l) ∧ DyK n h o.2 ∧ DyK n o.2 o'.2 ∧ FrW (fun a i => CW n h a i ∨ TwC n a i) h o.2 ∧ FrW (fun a i => RWr n o.2 a i ∨ TwR n a i) o.2 o'.2 ∧ SerN n o.2 o'.2 ∧ FxS σ σ' := by
  have z0 : (0 : Int32).toInt = 0 := rfl
  have s6 := dk_610 k
  have kc := dk_X11_position k e
  have kr := dk_X15_position (dk_self kc) e'
  have Ok2 : SyOk (syOut σ l) := syo_ok Ok
  have H := Ok.1.1
  have K := Ok.1.2.1
  -- behind the class's call: what the reference stands for
  have refl : ∀ {q : Nat} {W : Nat → Nat → Prop}, q < 60 → FrW W h o.2 → (∀ a i, W a i → WPc n q a i ∨ TwC n a i) → RelR n j o.2 (syOut σ l) ∧ FrW (fun a i => CW n h a i ∨ TwC n a i) h o.2 ∧ ∀ a i, n + 513 ≤ a → a < n + 610 → hI o.2 a i = hI h a i ∧ hJ o.2 a i = hJ h a i := fun {q W} hq F w => by
    have st : ∀ a i, W a i → a < n + 513 := fun a i c => by
      have := w a i c
      unfold WPc WRd TwC at this
      omega
    refine ⟨relr_f k kc F (fun j i hj c => ?_) (fun q' hq' h5 i a hi e lo hi' j f hj c => by have := st _ _ c; omega) (lgle Ok2) RR, fw_s F (fun a i c => ?_), fun a i l l' => F.2 a i (by omega) (fun c => by have := st _ _ c; omega)⟩
    · have := st _ _ c
      rcases hj with hj | hj
      · unfold rFt at hj; omega
      · omega
    · have c := w a i c
      rcases c with c | c
      · unfold WPc WRd at c
        exact Or.inl (Or.inl (by omega))
      · exact Or.inr c
  -- the reference's tape is cleared
  have tape : ∀ {g : Hp}, DyK n h g → RelR n j g (syOut σ l) → RelR n j (wI g (n + 513) 1 0) (syOut σ l) ∧ FrW (fun a i => RWr n g a i ∨ TwR n a i) g (wI g (n + 513) 1 0) ∧ SerN n g (wI g (n + 513) 1 0) := fun {g} kg R => by
    have F : FrW (TwR n) g (wI g (n + 513) 1 0) := fw_cl (Or.inl ⟨rfl, rfl⟩)
    exact ⟨relr_tp (dk_self kg) (dk_wI (dk_self kg)) Ok2 F R, fw_s F (fun _ _ c => Or.inr c), ser_w (dk_self kg) F (fun a i c z => by unfold TwR at c; omega)⟩
  rcases psn_c k RC e with ⟨c1, eo⟩ | ⟨q, hq, fq, no, o8, e8, cc⟩
  · -- no place is free
    have F : FrW (TwC n) h o.2 := by rw [eo]; exact fw_cl (Or.inl rfl)
    obtain ⟨R1, F1, _⟩ := refl (q := 0) (by decide) F (fun a i c => Or.inr c)
    obtain ⟨R2, F2, S2⟩ := tape kc R1
    rcases psn_r (dk_self kc) R1 e' R2.2.1 with ⟨_, eo'⟩ | ⟨c2, _⟩
    · refine ⟨by rw [eo, eo'], σ, Ok, relc_tp k kc Ok F RC, ?_, kc, kr, F1, ?_, by rw [eo']; exact S2, fxs_0⟩
      · rw [eo']; exact rse_m R2 (by omega) (by omega)
      · rw [eo']; exact F2
    · rw [fre_o] at c2
      exact absurd c1 c2
  have kf8 := wf_X7_read hq k e8
  obtain ⟨k8, f8⟩ := kf8
  -- the class behind its reading, its flag v set
  have cls : ∀ {v : Int32} {t : Int32} {Pq : Option Pz}, o = (t, wI (wI o8.2 (n + 149) q v) (n + 1) 1 0) → CPi n (wI o8.2 (n + 149) q v) (syPut σ q Pq) q → SyOk (syPut σ q Pq) → RelC n o.2 (syPut σ q Pq) ∧ RelR n j o.2 (syOut σ l) ∧ FrW (fun a i => CW n h a i ∨ TwC n a i) h o.2 ∧ ∀ a i, n + 513 ≤ a → a < n + 610 → hI o.2 a i = hI h a i ∧ hJ o.2 a i = hJ h a i := fun {v t Pq} eo N Ok' => by
    have F9 : FrW (WPc n q) h (wI o8.2 (n + 149) q v) := fw_wI (fw_s f8 (fun _ _ c => Or.inl c)) (Or.inr ⟨rfl, rfl⟩)
    have k9 : DyK n h (wI o8.2 (n + 149) q v) := dk_wI k8
    have R9 := relc_pl k Ok RC hq F9 k9 (fun a i c => by
      unfold WPc WRd at c
      rcases c with (c | c) | c
      · exact Or.inl (Or.inl ⟨by omega, by omega⟩)
      · exact Or.inr (Or.inr c)
      · exact Or.inr (Or.inl c)) N
    have F10 : FrW (TwC n) (wI o8.2 (n + 149) q v) (wI (wI o8.2 (n + 149) q v) (n + 1) 1 0) := fw_cl (Or.inl rfl)
    have FF : FrW (fun a i => WPc n q a i ∨ TwC n a i) h o.2 := by rw [eo]; exact fw_t (fw_s F9 (fun _ _ c => Or.inl c)) (fw_s F10 (fun _ _ c => Or.inr c))
    refine ⟨?_, refl hq FF (fun _ _ c => c)⟩
    rw [eo]
    exact relc_tp (dk_self k9) (dk_wI (dk_self k9)) Ok' F10 R9
  -- the reference reads, given what the class left
  obtain ⟨w, hw, r4, _, Cr⟩ := RR.1
  have flag0 : ∀ {g : Hp}, CPi n (wI g (n + 149) q 0) (syPut σ q none) q := fun {g} => Or.inl ⟨if_pos rfl, by rw [r_I, if_pos ⟨rfl, rfl⟩]⟩
  have Ok0 : SyOk (syPut σ q none) := by rw [put_no no]; exact Ok
  have common : RelR n j o.2 (syOut σ l) → (∀ a i, n + 513 ≤ a → a < n + 610 → hI o.2 a i = hI h a i ∧ hJ o.2 a i = hJ h a i) → ∃ o4 : Int32 × Hp, RelR n j o4.2 (syOut σ l) ∧ DyK n o.2 o4.2 ∧ (FrW (fun a i => RWr n o.2 a i ∨ TwR n a i) o.2 o4.2 ∧ SerN n o.2 o4.2) ∧ ((o4.1 = 0 ∧ o' = ((-200 : Int32) - hI o4.2 (n + 513) 19, o4.2)) ∨ (¬ o4.1 = 0 ∧ ∃ o3, sX15_wrongOf F o4.2 (n + 513) (n + 538) = some o3 ∧ ((o3.1 ≤ 0 ∧ sX15_keep F o3.2 (n + 513) (n + 538) = some o') ∨ (¬ o3.1 ≤ 0 ∧ o' = ((0 : Int32) - o3.1, o3.2))))) ∧ ((¬ o8.1 = (-1 : Int32) ∧ o4.1 = 0 ∧ o8.1 = hI o4.2 (n + 513) 19 ∧ 0 ≤ o8.1.toInt) ∨ (o8.1 = (-1 : Int32) ∧ o4.1 = 1 ∧ ∃ P, PzRd (syL σ) P ∧ RbA o4.2 (n + 538) P ∧ CRa o8.2 (n + (153 + 6 * q)) (syL σ 10 0) P)) := fun R1 Ic => by
    obtain ⟨R2, F2, S2⟩ := tape kc R1
    rcases psn_r (dk_self kc) R1 e' R2.2.1 with ⟨c, _⟩ | ⟨_, o4, e4, c4⟩
    · rw [fre_o] at c
      omega
    have k2 : DyK n o.2 (wI o.2 (n + 513) 1 0) := dk_wI (dk_self kc)
    obtain ⟨k4, f4⟩ := wg_X15_isPosition k2 e4
    obtain ⟨_, f4'⟩ := wg_X15_isPosition (dk_self k2) e4
    have s6' := dk_610 kc
    have R4 : RelR n j o4.2 (syOut σ l) := relr_f (dk_self k2) (wg_X15_isPosition (dk_self k2) e4).1 f4' (fun j i hj c => by
      unfold WIp at c
      rcases hj with hj | hj
      · unfold rFt at hj; omega
      · omega) (fun q' hq' h5 i a hi e lo hi' j f hj c => by unfold WIp at c; omega) (lgle Ok2) R2
    obtain ⟨own, Dw⟩ := k.1.1
    obtain ⟨w', hw', r4', _, Cr'⟩ := R2.1
    have r42 : hR (wI o.2 (n + 513) 1 0) (n + 513) 4 = some (n + w) := by
      show hR o.2 (n + 513) 4 = _
      rw [kc.1.2.2.2.2.2 4 (Or.inl rfl)]; exact r4
    have ww : n + w' = n + w := r_eq r42 r4'
    have ww : w' = w := by omega
    subst ww
    have I2 : ∀ a i, n + 514 ≤ a → a < n + 610 → hI (wI o.2 (n + 513) 1 0) a i = hI h a i ∧ hJ (wI o.2 (n + 513) 1 0) a i = hJ h a i := fun a i l l' => by
      have := Ic a i (by omega) l'
      rw [rI_a (by omega)]
      exact this
    have kk2 : DyK n h (wI o.2 (n + 513) 1 0) := dk_wI kc
    have Q := psn_q (q := q) k kk2 hw r4 LA Cr (fun a i l l' => I2 a i (by omega) (by omega))
    have N1 : hI o.2 (n + 513) 1 = hI h (n + 513) 1 := (Ic _ _ (by omega) (by omega)).1
    rw [N1] at e4
    have X := rd_j k kk2 Dw.1 hq hw r42 H RC.1 Cr' Q (LP q hq) T1 T3 T4 (fun i hi => by rw [(I2 (n + 514) i (by omega) (by omega)).1]; exact T5 i hi) e8 e4
    refine ⟨o4, R4, k4, ⟨fw_t F2 (fw_s f4' (fun a i c => Or.inl (Or.inl (by unfold WIp at c; omega)))), ser_t S2 (ser_w (dk_self k2) f4' (fun a i c z => by unfold WIp at c; omega))⟩, c4, X⟩
  rcases cc with ⟨c8, eo⟩ | ⟨c8, o11, e11, cc⟩
  · -- it cannot be read
    obtain ⟨RC', R1, F1, Ic⟩ := cls (Pq := none) eo flag0 Ok0
    rw [put_no no] at RC'
    obtain ⟨o4, R4, k4, ⟨F4, S4⟩, c4, X⟩ := common R1 Ic
    rcases X with ⟨_, x2, x3, _⟩ | ⟨x1, _⟩
    · rcases c4 with ⟨_, eo'⟩ | ⟨c, _⟩
      · refine ⟨by rw [eo, eo', x3], σ, Ok, RC', ?_, kc, kr, F1, ?_, by rw [eo']; exact S4, fxs_0⟩
        · rw [eo']; exact rse_m R4 (by omega) (by omega)
        · rw [eo']; exact F4
      · exact absurd x2 c
    · exact absurd x1 c8
  -- it is read: P
  have ft : ∀ {P : Pz}, PzRd (syL σ) P → CRa o8.2 (n + (153 + 6 * q)) (syL σ 10 0) P → o11.2 = o8.2 ∧ o11.1.toInt = wrN (syL σ) P := fun {P} Pd Ca => by
    have C8 : ClL n o8.2 (syL σ) := cll_f k k8 (fun j i hj => f8.2 _ _ (by omega) (fun c => by unfold WRd at c; omega)) RC.1
    have M : MkC (vK n 0 (n + (153 + 6 * q)) 0 0 0 0) o8.2 (syL σ) := cll_k.mpr C8
    exact ft_c (V := vK n 0 (n + (153 + 6 * q)) 0 0 0 0) H K Pd.1 M.1 M.2 (cra_k.mpr Ca) e11
  -- and the reference's judgement
  have rf : ∀ {P : Pz} {o4 o3 : Int32 × Hp}, PzRd (syL σ) P → RelR n j o4.2 (syOut σ l) → DyK n o.2 o4.2 → RbA o4.2 (n + 538) P → sX15_wrongOf F o4.2 (n + 513) (n + 538) = some o3 → RelR n j o3.2 (syOut σ l) ∧ DyK n o4.2 o3.2 ∧ FrW (RS n) o4.2 o3.2 ∧ RbA o3.2 (n + 538) P ∧ o3.1.toInt = wrN (syL σ) P := fun {P o4 o3} Pd R4 k4 A e3 => by
    obtain ⟨own, Dw⟩ := k4.1.1
    obtain ⟨w', hw', _, _, C4⟩ := R4.1
    have s4 := dk_610 k4
    have b538 : BkE own o4.2 (n + 538) 4 102 := Or.inl ⟨bk_st Dw.1 (by decide) (by decide), by decide, by decide⟩
    have D : VD (vM n (hS o4.2) (n + 538) (hS o4.2 + 1000 * 5) (hS o4.2 + 1000 * 6) (hS o4.2 + 1000 * 7) (n + w')) := vd_m Dw.1 b538 (bke_o (c := 5)) (bke_o (c := 6)) (bke_o (c := 7)) (bk_lw Dw.1 hw') (by split <;> omega)
    obtain ⟨f, v⟩ := wr_r D H K Pd.1 (rfl_m.mpr C4) (rba_m.mpr A) (dk_e (a := 513) (f := 22) (b := 543) k4 (by decide +kernel)) e3
    have k3 := dk_X15_wrongOf (dk_self k4) e3
    have F3 : FrW (RS n) o4.2 o3.2 := fw_v (W := RS n) (sb := rsB) (cs := []) f (hs_g k3.1) (by decide +kernel) (fun j f i z y => rsb_c z y) (fun c hc => absurd hc (List.not_mem_nil))
    refine ⟨relr_rs (dk_self k4) Ok2 R4 F3 k3, k3, F3, rba_f A (fun p hp => ?_) (fun j i hj => F3.2 _ _ (by omega) (fun c => by unfold RS at c; omega)), v⟩
    have : ∀ q, q ∈ fsB → (538, q.1, 538 + q.2) ∈ edL := by decide +kernel
    have := dk_e k3 (this p hp)
    rw [show n + (538 + p.2) = n + 538 + p.2 by omega] at this
    exact this
  have wb := fun {P : Pz} => wrn_b (L := syL σ) (P := P)
  rcases cc with ⟨c11, x, ex, eo⟩ | ⟨c11, eo⟩
  · -- nothing is wrong with it
    -- P is known only behind the reference's reading: the class's flag is 1 either way
    have F9 : FrW (fun a i => WPc n q a i ∨ TwC n a i) h o.2 := by
      have y := (wf_X7_read hq k e8).2
      have k11 := dk_X5_faultOf k8 e11
      have y' := (wh_X5_faultOf hq k8 e11).2
      rw [eo]
      exact fw_wI (fw_wI (fw_s (fw_t y y') (fun _ _ c => Or.inl (Or.inl c))) (Or.inl (Or.inr ⟨rfl, rfl⟩))) (Or.inr (Or.inl rfl))
    obtain ⟨R1, F1, Ic⟩ := refl hq F9 (fun _ _ c => c)
    obtain ⟨o4, R4, k4, ⟨F4, S4⟩, c4, X⟩ := common R1 Ic
    rcases X with ⟨x1, _⟩ | ⟨_, x2, P, Pd, A, Ca⟩
    · exact absurd c8 x1
    obtain ⟨g1, g2⟩ := ft Pd Ca
    have w0 : wrN (syL σ) P = 0 := by rw [← g2, c11]; rfl
    have Oz := wr_ok H K Pd w0
    have Cp : CpA o8.2 (n + (153 + 6 * q)) (syL σ 10 0) P := cpa_k.mp (cpr_ok (V := vK n 0 (n + (153 + 6 * q)) 0 0 0 0) H Pd (cra_k.mpr Ca) w0)
    rw [g1] at eo
    have Ok1 : SyOk (syPut σ q (some P)) := syput_o Ok (fun Q e => by rw [← Option.some.inj e]; exact ⟨Oz, pze_w Oz w0⟩)
    obtain ⟨RC', _⟩ := cls (Pq := some P) eo (Or.inr ⟨P, if_pos rfl, by rw [r_I, if_pos ⟨rfl, rfl⟩], cpa_f Cp (fun p hp => pl_e k8 hq hp) (fun j i hj => ⟨by rw [rI_a (by omega)], rfl⟩)⟩) Ok1
    rcases c4 with ⟨c, _⟩ | ⟨_, o3, e3, c4⟩
    · rw [c] at x2; exact absurd x2 (by decide)
    obtain ⟨R3, k3, F3, A3, v3⟩ := rf Pd R4 k4 A e3
    rcases c4 with ⟨_, e5⟩ | ⟨c, _⟩
    · rcases kp_m (dk_self k3) Ok2 R3 j1 (b := n + 538) (t := 102) (fun h' _ own D => Or.inl ⟨bk_st D.1 (by decide) (by decide), by decide, by decide⟩) (by decide) A3 e5 with ⟨c, _⟩ | ⟨p, hp, fp, Y⟩
      · rw [fre_o] at c
        omega
      · rw [fre_o] at fp
        have pq : p = q := by omega
        subst pq
        have k13 : DyK n o.2 o3.2 := dk_t k4 k3
        have S3 := ser_w (dk_self k4) F3 (fun a i c z => by unfold RS at c; omega)
        refine ⟨?_, _, Ok1, RC', Y.2.1, kc, kr, F1, ?_, ser_t S4 (ser_t S3 Y.2.2.2.2), rfl, fun p' P' z => ?_⟩
        · rw [Y.1, eo]; exact ex
        · have F13 : FrW (fun a i => RWr n o.2 a i ∨ TwR n a i) o.2 o3.2 := fw_t F4 (fw_s F3 (fun a i c => Or.inl (Or.inl (rs_c c))))
          exact ⟨Nat.le_trans F13.1 Y.2.2.2.1.1, fun a i l nc => by
            have x := F13.2 a i l nc
            have y := Y.2.2.2.1.2 a i (Nat.lt_of_lt_of_le l F13.1) (fun c => nc (Or.inl (rw_t k13 l c)))
            exact ⟨y.1.trans x.1, y.2.trans x.2⟩⟩
        · have y : ¬ p' = p := fun y => by rw [y, no] at z; exact nomatch z
          show (if p' = p then some P else syP σ p') = some P'
          rw [if_neg y]; exact z
    · have := nle_i c
      rw [v3, w0] at this
      exact absurd this (by decide)
  · -- it breaks a rule
    have F9 : FrW (fun a i => WPc n q a i ∨ TwC n a i) h o.2 := by
      have y := (wf_X7_read hq k e8).2
      have y' := (wh_X5_faultOf hq k8 e11).2
      rw [eo]
      exact fw_wI (fw_wI (fw_s (fw_t y y') (fun _ _ c => Or.inl (Or.inl c))) (Or.inl (Or.inr ⟨rfl, rfl⟩))) (Or.inr (Or.inl rfl))
    obtain ⟨R1, F1, Ic⟩ := refl hq F9 (fun _ _ c => c)
    obtain ⟨o4, R4, k4, ⟨F4, S4⟩, c4, X⟩ := common R1 Ic
    rcases X with ⟨x1, _⟩ | ⟨_, x2, P, Pd, A, Ca⟩
    · exact absurd c8 x1
    obtain ⟨g1, g2⟩ := ft Pd Ca
    rw [g1] at eo
    obtain ⟨RC', _⟩ := cls (Pq := none) eo flag0 Ok0
    rw [put_no no] at RC'
    rcases c4 with ⟨c, _⟩ | ⟨_, o3, e3, c4⟩
    · rw [c] at x2; exact absurd x2 (by decide)
    obtain ⟨R3, k3, F3, A3, v3⟩ := rf Pd R4 k4 A e3
    have eq : o3.1 = o11.1 := Int32.toInt_inj.mp (v3.trans g2.symm)
    have wp : ¬ wrN (syL σ) P = 0 := fun z => c11 (Int32.toInt_inj.mp (by rw [g2, z]; rfl))
    have wbb := wb (P := P)
    rcases c4 with ⟨c, _⟩ | ⟨_, eo'⟩
    · have := le_i c
      rw [v3] at this
      omega
    · refine ⟨?_, σ, Ok, RC', ?_, kc, kr, F1, ?_, by rw [eo']; exact ser_t S4 (ser_w (dk_self k4) F3 (fun a i c z => by unfold RS at c; omega)), fxs_0⟩
      · rw [eo, eo', eq]
        show (-o11.1).toInt = (0 - o11.1).toInt
        rw [Int32.zero_sub]
      · rw [eo']; exact rse_m R3 (by omega) (by omega)
      · rw [eo']; exact fw_t F4 (fw_s F3 (fun a i c => Or.inl (Or.inl (rs_c c))))
theorem j_position {L : Nat × Nat} (J : JI n j h) (j1 : j < 100000) (I : SI n (n + 513) L h) (e : sX11_position F h n = some o) (e' : sX15_position F o.2 (n + 513) = some o') : o.1 = o'.1 ∧ JI n (j + 1) o'.2 := by
  obtain ⟨k, tz, σ, l1, l2, Ok, C, R⟩ := J
  obtain ⟨i1, i2, i3, i4, i5, i6⟩ := si_psn k I
  obtain ⟨a, σ', Ok', C', R', k1, k2, f1, f2, _, _⟩ := psn_k (σ := syOut σ l1) (l := l2) k (syo_ok Ok) C R j1 i1 i2 i3 i4 i5 i6 e e'
  have C2 := relc_r (dk_self k1) k2 (frzr_o (dk_self k1) f2 (fun a i c => by unfold TwR at c; omega)) (lgle Ok') C'
  exact ⟨Int32.toInt_inj.mp a, dk_self k2, tzn_r (frzr_o (dk_self k1) f2 (fun a i c => by unfold TwR at c; omega)) (tzn_c k f1 (fun a i c => by unfold TwC at c; omega) tz), σ', syO σ', l2, Ok', C2, R'⟩
theorem j_book (J : JI n j h) (e : sX11_book F h n x1 x2 = some o) (e' : sX15_book F o.2 (n + 513) x1 x2 = some o') : o.1 = o'.1 ∧ JI n j o'.2 := ji_l (an := fun σ => anBok σ x1 x2) J (fun σ l => by
  have c : ∀ P mv g k, cnt (syOut σ l) P mv g k = cnt σ P mv g k := fun P mv g k => by
    induction k with
    | zero => rfl
    | succ k ih =>
      show cnt (syOut σ l) P mv g k + _ = cnt σ P mv g k + _
      rw [ih]; rfl
  have d : ∀ P mv g, cntA (syOut σ l) P mv g = cntA σ P mv g := fun P mv g => c P mv g _
  have s : ∀ P mv g, cntS (syOut σ l) P mv g = cntS σ P mv g := fun P mv g => by
    induction g with
    | zero => rfl
    | succ g ih =>
      show cntS (syOut σ l) P mv g + cntA (syOut σ l) P mv g = cntS σ P mv g + cntA σ P mv g
      rw [ih, d]
  show anBok (syOut σ l) x1 x2 = anBok σ x1 x2
  unfold anBok plE
  rw [show sPl (syOut σ l) x1 = sPl σ x1 from rfl]
  cases sPl σ x1 with
  | none => rfl
  | some P =>
    show (if _ then cntS (syOut σ l) P x2.toInt 8 else _) = (if _ then cntS σ P x2.toInt 8 else _)
    rw [s]
    rfl) (fun _ k Ok R => ca_book k Ok R e) (fun _ k Ok R => ra_book k Ok R e')
end
end
section
/-! KEY looks alone, on both sides; REFUTES of the class too -/
section
variable {n j F : Nat} {h : Hp} {o o' : Int32 × Hp} {x1 : Int32}
theorem keyc_h (e : sX11_key h n x1 = some o) : o.2 = h := by
  unfold sX11_key at e
  obtain ⟨r1, _, e⟩ := cl_s e
  obtain ⟨o2, e2, e⟩ := cl_s e
  rw [so_e e]
  show o2.2 = h
  unfold sX4_keyAt sX4_keyAt_21 sX4_keyAt_22 at e2
  rcases br_s e2 with ⟨_, e2⟩ | ⟨_, e2⟩
  · rw [so_e e2]
  rcases br_s e2 with ⟨_, e2⟩ | ⟨_, e2⟩
  · rw [so_e e2]
  obtain ⟨r3, _, e2⟩ := cl_s e2
  replace e2 := gg_e e2
  rw [so_e e2]
theorem refc_h (e : sX11_refutes h n x1 = some o) : o.2 = h := by
  unfold sX11_refutes at e
  obtain ⟨r1, _, e⟩ := cl_s e
  obtain ⟨o2, e2, e⟩ := cl_s e
  rw [so_e e]
  show o2.2 = h
  unfold sX4_refutesOf sX4_refutesOf_21 sX4_refutesOf_22 at e2
  rcases br_s e2 with ⟨_, e2⟩ | ⟨_, e2⟩
  · rw [so_e e2]
  rcases br_s e2 with ⟨_, e2⟩ | ⟨_, e2⟩
  · rw [so_e e2]
  obtain ⟨r3, _, e2⟩ := cl_s e2
  replace e2 := gg_e e2
  rw [so_e e2]
theorem isPr_h {x0 : Nat} (e : sX15_isProblem h x0 = some o) : o.2 = h := by
  unfold sX15_isProblem sX15_isProblem_27 sX15_isProblem_28 at e
  rcases br_s e with ⟨_, e⟩ | ⟨_, e⟩
  · rw [so_e (gg_e e)]
  obtain ⟨r2, _, e⟩ := cl_s e
  replace e := gg_e e
  rcases br_s e with ⟨_, e⟩ | ⟨_, e⟩
  · rw [so_e (gg_e e)]
  · rw [so_e (gg_e e)]
theorem keyr_h {x0 : Nat} (e : sX15_key h x0 x1 = some o) : o.2 = h := by
  unfold sX15_key sX15_key_19 sX15_key_29 at e
  obtain ⟨o1, e1, e⟩ := cl_s e
  rw [isPr_h e1] at e
  rcases br_s e with ⟨_, e⟩ | ⟨_, e⟩
  · rw [so_e e]
  rcases br_s e with ⟨_, e⟩ | ⟨_, e⟩
  · rw [so_e e]
  rcases br_s e with ⟨_, e⟩ | ⟨_, e⟩
  · obtain ⟨r5, _, e⟩ := cl_s e
    replace e := gg_e e
    rw [so_e e]
  · rw [so_e e]
theorem k_key (J : JI n j h) (e : sX11_key h n x1 = some o) (e' : sX15_key o.2 (n + 513) x1 = some o') : JI n j o'.2 := by
  rw [keyr_h e', keyc_h e]
  exact J
end
end
section
/-! edges that change while RULES are read -/
def DyX (n : Nat) (X : List (Nat × Nat × Nat)) (g h : Hp) : Prop := DyK n g h ∧ ∀ e, e ∈ X → hR h (n + e.1) e.2.1 = some (n + e.2.2)
abbrev xlO : List (Nat × Nat × Nat) := []
abbrev xlT : List (Nat × Nat × Nat) := [(21, 0, 1), (21, 1, 13)]
abbrev xlL : List (Nat × Nat × Nat) := [(21, 0, 1), (21, 1, 5)]
abbrev xlY : List (Nat × Nat × Nat) := [(22, 7, 5)]
abbrev xlU : List (Nat × Nat × Nat) := [(513, 5, 516)]
abbrev xlV : List (Nat × Nat × Nat) := [(513, 5, 526)]
/-- what is written: reading, of both readers; laying; forgetting; the next token -/
def WRl (n l a _i : Nat) : Prop := a = n + 21 ∨ (n + l ≤ a ∧ a < n + l + 8)
def WRm (n a i : Nat) : Prop := a = n + 21 ∨ (a = n + 5 ∧ 3 ≤ i) ∨ (n + 6 ≤ a ∧ a ≤ n + 10)
def WLy (n a _i : Nat) : Prop := n + 22 ≤ a ∧ a < n + 30
def WFg (n a i : Nat) : Prop := a = n + 149 ∨ a = n + 152 ∨ a = n + 76 ∨ (a = n + 48 ∧ i = 6) ∨ (a = n + 62 ∧ i = 10)
def WIr (n w a i : Nat) : Prop := (a = n + 513 ∧ 6 ≤ i ∧ i ≤ 10) ∨ (n + w ≤ a ∧ a < n + w + 10)
def WBl (n w a i : Nat) : Prop := (a = n + 513 ∧ 6 ≤ i ∧ i ≤ 9) ∨ (a = n + w ∧ 15 ≤ i ∧ i ≤ 21)
def WTk (n a i : Nat) : Prop := a = n + 513 ∧ 6 ≤ i ∧ i ≤ 9
section
variable {n : Nat} {X : List (Nat × Nat × Nat)} {g h o : Hp}
theorem dx_wI {a i : Nat} {v : Int32} (k : DyX n X g h) : DyX n X g (wI h a i v) := ⟨dk_wI k.1, k.2⟩
theorem dx_wJ {a i : Nat} {v : Int64} (k : DyX n X g h) : DyX n X g (wJ h a i v) := ⟨dk_wJ k.1, k.2⟩
theorem dx_ed (k : DyX n X g h) {a f b r : Nat} (m : (a, f, b) ∈ edL) (e : hR h (n + a) f = some r) : r = n + b := dk_ed k.1 m e
theorem dx_xd (k : DyX n X g h) {a f b r : Nat} (m : (a, f, b) ∈ X) (e : hR h (n + a) f = some r) : r = n + b := Option.some.inj (e.symm.trans (k.2 (a, f, b) m))
theorem dx_0 (k : DyK n g h) : DyX n xlO g h := ⟨k, fun _ z => absurd z (List.not_mem_nil)⟩
/-- a reference that no edge of the list speaks of -/
theorem d0_y (k : Dy0 n g h) {x j : Nat} (hx : x = 21 ∨ (x = 22 ∧ j = 7) ∨ (x = 513 ∧ (j = 4 ∨ j = 5))) (a : ∀ y i, ¬ (y = n + x ∧ i = j) → hR o y i = hR h y i) (b : ∀ y, hN o y = hN h y) (c : hS o = hS h) : Dy0 n o o := by
  obtain ⟨⟨own, ⟨o1, o2⟩, d⟩, ⟨e1, e2, e3, e4⟩, ⟨l1, l2⟩, k1, k2, k3⟩ := k
  have nx : ∀ e, e ∈ edL → ¬ (e.1 = 21 ∨ (e.1 = 22 ∧ e.2.1 = 7) ∨ (e.1 = 513 ∧ (e.2.1 = 4 ∨ e.2.1 = 5))) := by decide +kernel
  refine ⟨⟨own, ⟨o1, by omega⟩, fun q hq i hi x' ex => ?_⟩, ⟨fun e he => ?_, fun p hp => ⟨?_, fun q hq => ?_⟩, fun p hp => ⟨?_, fun q hq => ?_⟩, fun p hp => ?_⟩, ⟨fun e he => by rw [b]; exact l1 e he, fun p hp => by rw [b]; exact l2 p hp⟩, Nat.le_refl _, fun _ _ _ _ e => e, fun _ _ => rfl⟩
  · have fl := fam_lt q hq
    rw [a _ _ (fun w => by omega)] at ex
    obtain ⟨x1, ⟨x2, x3⟩, x4⟩ := d q hq i hi x' ex
    refine ⟨x1, ⟨by omega, x3⟩, fun p hp => ?_⟩
    rw [a _ _ (fun w => by omega)]
    exact x4 p hp
  · rw [a _ _ (fun w => nx e he (by omega))]
    exact e1 e he
  · rw [a _ _ (fun w => by omega)]; exact (e2 p hp).1
  · rw [a _ _ (fun w => by omega)]; exact (e2 p hp).2 q hq
  · rw [a _ _ (fun w => by omega)]; exact (e3 p hp).1
  · rw [a _ _ (fun w => by omega)]; exact (e3 p hp).2 q hq
  · rw [a _ _ (fun w => by omega)]; exact e4 p hp
theorem dk_y (k : DyK n g h) {x j : Nat} {v : Option Nat} (hx : x = 21 ∨ (x = 22 ∧ j = 7) ∨ (x = 513 ∧ (j = 4 ∨ j = 5))) : DyK n (wR h (n + x) j v) (wR h (n + x) j v) := by
  have a : ∀ y i, ¬ (y = n + x ∧ i = j) → hR (wR h (n + x) j v) y i = hR h y i := fun y i z => by rw [r_R, if_neg z]
  refine ⟨d0_y k.1 hx a (fun _ => rfl) rfl, fun d hd => ?_, fun _ _ _ _ e => Or.inl e, fun _ => ⟨fun _ => rfl, rfl⟩⟩
  rw [a _ _ (fun w => by omega), a _ _ (fun w => by omega)]
  exact k.2.1 d hd
/-- the class's readers: the base stays -/
theorem dk_yc (k : DyK n g h) {x j : Nat} {v : Option Nat} (hx : x = 21 ∨ (x = 22 ∧ j = 7)) : DyK n g (wR h (n + x) j v) := by
  have y := dk_y (v := v) k (x := x) (j := j) (by omega)
  have a : ∀ y i, ¬ (y = n + x ∧ i = j) → hR (wR h (n + x) j v) y i = hR h y i := fun y i z => by rw [r_R, if_neg z]
  refine ⟨⟨y.1.1, y.1.2.1, y.1.2.2.1, k.1.2.2.2.1, fun q hq i b e => ?_, fun f hf => ?_⟩, y.2.1, fun q hq i b e => ?_, fun z => ⟨fun f => ?_, ?_⟩⟩
  · have fl := fam_lt q hq
    rw [a _ _ (fun w => by omega)]
    exact k.1.2.2.2.2.1 q hq i b e
  · rw [a _ _ (fun w => by omega)]
    exact k.1.2.2.2.2.2 f hf
  · have fl := fam_lt q hq
    rw [a _ _ (fun w => by omega)] at e
    exact k.2.2.1 q hq i b e
  · rw [a _ _ (fun w => by omega)]
    exact (k.2.2.2 z).1 f
  · rw [a _ _ (fun w => by omega)]
    exact (k.2.2.2 z).2
/-- RULES of the class, whatever the bases are -/
theorem cll_e {L : Nat → Nat → Int} {g' : Hp} (k : DyK n g h) (k' : DyK n g' o) (I : ∀ j i, (5 ≤ j ∧ j ≤ 12) ∨ (22 ≤ j ∧ j ≤ 28) → hI o (n + j) i = hI h (n + j) i ∧ hJ o (n + j) i = hJ h (n + j) i) (C : ClL n h L) : ClL n o L := by
  have R : ∀ a f b, (a, f, b) ∈ edL → hR o (n + a) f = hR h (n + a) f := fun a f b m => by rw [dk_e k' m, dk_e k m]
  have e : ∀ j, (5 ≤ j ∧ j ≤ 12) ∨ (22 ≤ j ∧ j ≤ 28) → hI o (n + j) = hI h (n + j) := fun j hj => funext fun i => (I j i hj).1
  have e' : ∀ j, (5 ≤ j ∧ j ≤ 12) ∨ (22 ≤ j ∧ j ≤ 28) → hJ o (n + j) = hJ h (n + j) := fun j hj => funext fun i => (I j i hj).2
  exact mkc_i (V := vK n 0 0 0 0 0 0) C (e 5 (by decide)) (e 6 (by decide)) (e 7 (by decide)) (e 8 (by decide)) (e 9 (by decide)) (e 10 (by decide)) (e 11 (by decide)) (e 12 (by decide)) (e 23 (by decide)) (e 24 (by decide)) (e' 5 (by decide)) (e' 25 (by decide)) (e' 26 (by decide)) (e' 27 (by decide)) (e' 28 (by decide)) (R 30 0 5 (by decide +kernel)) (R 30 1 22 (by decide +kernel)) (R 22 0 23 (by decide +kernel)) (R 22 1 24 (by decide +kernel)) (R 22 2 25 (by decide +kernel)) (R 22 3 26 (by decide +kernel)) (R 22 4 27 (by decide +kernel)) (R 22 5 28 (by decide +kernel)) (R 5 14 6 (by decide +kernel)) (R 5 17 9 (by decide +kernel)) (R 5 18 10 (by decide +kernel)) (R 5 19 11 (by decide +kernel)) (R 5 20 12 (by decide +kernel))
end
end
