/-! both sides have given out the same text -/
def OuE (n : Nat) (h : Hp) : Prop := ∃ (σ : Sy) (l : List Int), COu n h (syOut σ l) ∧ ROu n h (syOut σ l)
section
variable {n j F : Nat} {h : Hp} {σ : Sy} {o o' : Int32 × Hp} {x1 x2 x3 x4 x5 : Int32} {l l' : List Int} {Z Z' : Nat → Nat → Prop}
theorem cou_u {σ' : Sy} (A : COu n h (syOut σ l)) (B : COu n h (syOut σ' l')) : l = l' := by
  have e : l.length = l'.length := by
    have a : (hI h (n + 3) 1).toInt = (l.length : Int) := A.1
    have b : (hI h (n + 3) 1).toInt = (l'.length : Int) := B.1
    omega
  refine List.ext_getElem? (fun i => ?_)
  by_cases c : i < l.length
  · have a : l[i]? = some (hI h (n + 4) i).toInt := A.2 i c
    have b : l'[i]? = some (hI h (n + 4) i).toInt := B.2 i (by show i < l'.length; omega)
    rw [a, b]
  · rw [List.getElem?_eq_none (by omega), List.getElem?_eq_none (by omega)]
theorem rou_u {σ' : Sy} (A : ROu n h (syOut σ l)) (B : ROu n h (syOut σ' l')) : l = l' := by
  have e : l.length = l'.length := by
    have a : (hI h (n + 513) 3).toInt = (l.length : Int) := A.1
    have b : (hI h (n + 513) 3).toInt = (l'.length : Int) := B.1
    omega
  refine List.ext_getElem? (fun i => ?_)
  by_cases c : i < l.length
  · have a : l[i]? = some (hI h (n + 515) i).toInt := A.2 i c
    have b : l'[i]? = some (hI h (n + 515) i).toInt := B.2 i (by show i < l'.length; omega)
    rw [a, b]
  · rw [List.getElem?_eq_none (by omega), List.getElem?_eq_none (by omega)]
theorem oue_l {l1 l2 : List Int} (O : OuE n h) (C : RelC n h (syOut σ l1)) (R : RelR n j h (syOut σ l2)) : l1 = l2 := by
  obtain ⟨σ', l, a, b⟩ := O
  rw [cou_u C.2.2.2.2 a, rou_u R.2.2.2.2.1 b]
theorem ouq_z {j' : Nat} {f : Sy → Sy} {an : Sy → Int} (J : JP n j h) (O : OuE n h) (zc : ∀ a i, Z a i → a < n + 513 ∧ ¬ a = n + 29) (zr : ∀ a i, Z' a i → n + 513 ≤ a ∧ a < n + 610) (ok : ∀ σ, SyOk σ → SyOk (f σ)) (fo : ∀ σ l, f (syOut σ l) = syOut (f σ) l) (ca : ∀ σ, DyK n h h → SyOk σ → RelC n h σ → CaZ n h (f σ) Z o (an σ)) (ra : ∀ σ, DyK n o.2 o.2 → SyOk σ → RelR n j o.2 σ → RaZ n j' o.2 (f σ) Z' o' (an σ)) : OuE n o'.2 := by
  obtain ⟨k, tz, σ, l1, l2, pb, Ok, C, R, Pc, Pr, Po⟩ := J
  have el := oue_l O C R
  subst el
  obtain ⟨a1, a2, a3, a4⟩ := ca _ k (syo_ok Ok) C
  have A0 := frz_o k a4 (fun a i c => (zc a i c).1)
  have R1 := relr_c k a3 A0 (lgle (syo_ok (l := l1) Ok)) R
  obtain ⟨b1, b2, b3, b4⟩ := ra _ (dk_self a3) (syo_ok Ok) R1
  rw [fo] at a2 b2
  have B0 := frzr_o (dk_self a3) b4 zr
  have C2 := relc_r (dk_self a3) b3 B0 (lgle (syo_ok (l := l1) (ok σ Ok))) a2
  exact ⟨_, l1, C2.2.2.2.2, b2.2.2.2.2.1⟩
theorem ouq_k {j' : Nat} {f : Sy → Sy} {an an' : Sy → Int} (J : JP n j h) (O : OuE n h) (zc : ∀ a i, Z a i → a < n + 513 ∧ ¬ a = n + 29) (_zp : ∀ a i, Z a i → ¬ ((a = n + 76 ∧ 14 ≤ i) ∨ a = n + 91 ∨ a = n + 92)) (zr : ∀ a i, Z' a i → n + 513 ≤ a ∧ a < n + 610) (_zq : ∀ a i, Z' a i → ¬ ((a = n + 513 ∧ ((64 ≤ i ∧ i ≤ 68) ∨ i = 70)) ∨ a = n + 608)) (fo : ∀ σ l, ∃ l', f (syOut σ l) = syOut σ l') (_fo' : ∀ σ l, ∃ l', f (syOut σ l) = syOut σ l') (ca : ∀ σ, DyK n h h → SyOk σ → RelC n h σ → CaZ n h (f σ) Z o (an σ)) (ra : ∀ σ, DyK n o.2 o.2 → SyOk σ → RelR n j o.2 σ → RaZ n j' o.2 (f σ) Z' o' (an' σ) ∧ SerN n o.2 o'.2) : OuE n o'.2 := by
  obtain ⟨k, tz, σ, l1, l2, pb, Ok, C, R, Pc, Pr, Po⟩ := J
  have el := oue_l O C R
  subst el
  obtain ⟨a1, a2, a3, a4⟩ := ca _ k (syo_ok Ok) C
  have A0 := frz_o k a4 (fun a i c => (zc a i c).1)
  have R1 := relr_c k a3 A0 (lgle (syo_ok (l := l1) Ok)) R
  obtain ⟨⟨b1, b2, b3, b4⟩, _⟩ := ra _ (dk_self a3) (syo_ok Ok) R1
  obtain ⟨m1, e1⟩ := fo σ l1
  rw [e1] at a2 b2
  have B0 := frzr_o (dk_self a3) b4 zr
  have C2 := relc_r (dk_self a3) b3 B0 (lgle (syo_ok (l := m1) Ok)) a2
  exact ⟨_, m1, C2.2.2.2.2, b2.2.2.2.2.1⟩
theorem ouq_g {j' : Nat} {f : Sy → Sy} {an : Sy → Int} (J : JP n j h) (O : OuE n h) (ok : ∀ σ, SyOk σ → SyOk (f σ)) (fo : ∀ σ l, f (syOut σ l) = syOut (f σ) l) (_ao : ∀ σ l, an (syOut σ l) = an σ) (ca : ∀ σ, DyK n h h → SyOk σ → RelC n h σ → CaO n h (f σ) o (an σ)) (ra : ∀ σ, DyK n o.2 o.2 → SyOk σ → RelR n j o.2 σ → RaO n j' o.2 (f σ) o' (an σ)) (_fx : FxL f) : OuE n o'.2 :=
  ouq_z (Z := fun _ _ => False) (Z' := fun _ _ => False) J O (fun _ _ c => c.elim) (fun _ _ c => c.elim) ok fo (fun σ k Ok R => caz_o (ca σ k Ok R)) (fun σ k Ok R => raz_o (ra σ k Ok R))
theorem ouq_ll {an : Sy → Int} (J : JP n j h) (O : OuE n h) (ao : ∀ σ l, an (syOut σ l) = an σ) (ca : ∀ σ, DyK n h h → SyOk σ → RelC n h σ → CaO n h σ o (an σ)) (ra : ∀ σ, DyK n o.2 o.2 → SyOk σ → RelR n j o.2 σ → RaO n j o.2 σ o' (an σ)) : OuE n o'.2 := ouq_g (f := id) J O (fun _ c => c) (fun _ _ => rfl) ao ca ra fx_id
theorem ouq_l {an : Sy → Int} (J : JP n j h) (O : OuE n h) (zc : ∀ a i, Z a i → a < n + 513 ∧ ¬ a = n + 29) (_zn : ∀ a i, Z a i → ¬ ((a = n + 76 ∧ 14 ≤ i) ∨ a = n + 91 ∨ a = n + 92)) (_ao : ∀ σ l, an (syOut σ l) = an σ) (ca : ∀ σ, DyK n h h → SyOk σ → RelC n h σ → CaZ n h σ Z o (an σ)) (ra : ∀ σ, DyK n o.2 o.2 → SyOk σ → RelR n j o.2 σ → RaO n j o.2 σ o' (an σ)) : OuE n o'.2 := ouq_z (f := id) (Z' := fun _ _ => False) J O zc (fun _ _ c => c.elim) (fun _ c => c) (fun _ _ => rfl) ca (fun σ k Ok R => raz_o (ra σ k Ok R))
theorem ouq_wr {f : Sy → Sy} {an : Sy → Int} (J : JP n j h) (O : OuE n h) (fo : ∀ σ l, ∃ l', f (syOut σ l) = syOut σ l') (_ao : ∀ σ l, an (syOut σ l) = an σ) (ca : ∀ σ, DyK n h h → SyOk σ → RelC n h σ → CaO n h (f σ) o (an σ)) (ra : ∀ σ, DyK n o.2 o.2 → SyOk σ → RelR n j o.2 σ → RaO n j o.2 (f σ) o' (an σ)) : OuE n o'.2 := ouq_k (Z := fun _ _ => False) (Z' := fun _ _ => False) J O (fun _ _ c => c.elim) (fun _ _ c => c.elim) (fun _ _ c => c.elim) (fun _ _ c => c.elim) fo fo (fun σ k Ok R => caz_o (ca σ k Ok R)) (fun σ k Ok R => ⟨raz_o (ra σ k Ok R), (ra σ k Ok R).2.2.2.2⟩)
/-- cells of the texts given out stay -/
theorem oue_f {v : Hp} (I : ∀ a i, a = n + 3 ∨ a = n + 4 ∨ (a = n + 513 ∧ i = 3) ∨ a = n + 515 → hI v a i = hI h a i) (O : OuE n h) : OuE n v := by
  obtain ⟨σ, l, a, b⟩ := O
  refine ⟨σ, l, ⟨?_, fun i hi => ?_⟩, ⟨?_, fun i hi => ?_⟩⟩
  · rw [I (n + 3) 1 (by omega)]; exact a.1
  · rw [I (n + 4) i (by omega)]; exact a.2 i hi
  · rw [I (n + 513) 3 (by omega)]; exact b.1
  · rw [I (n + 515) i (by omega)]; exact b.2 i hi
/-- out and told answer alike -/
theorem an_out (J : JP n j h) (O : OuE n h) (e : sX11_out h n x1 = some o) (e' : sX15_out o.2 (n + 513) x1 = some o') : o.1 = o'.1 := by
  obtain ⟨k, tz, σ, l1, l2, pb, Ok, C, R, Pc, Pr, Po⟩ := J
  have el := oue_l O C R
  subst el
  obtain ⟨a1, a2, a3, a4⟩ := ca_out k C e
  have A0 := frc_o k a4
  have R1 := relr_c k a3 A0 (lgle (syo_ok (l := l1) Ok)) R
  obtain ⟨b1, _⟩ := ra_out (dk_self a3) R1 e'
  exact Int32.toInt_inj.mp (a1.trans b1.symm)
theorem an_told {L : Nat × Nat} (J : JP n j h) (O : OuE n h) (I : SI n (n + 513) L h) (e : sX11_told F h n x1 = some o) (e' : sX15_told F o.2 (n + 513) x1 = some o') : o.1 = o'.1 := by
  obtain ⟨k, tz, σ, l1, l2, pb, Ok, C, R, Pc, Pr, Po⟩ := J
  have s6 := dk_610 k
  have el := oue_l O C R
  subst el
  obtain ⟨_, i2, _⟩ := si_psn k I
  obtain ⟨a1, a2, a3, a4⟩ := ca_told (tp := (hI h (n + 1) 1).toInt) k C rfl e
  have A0 := frc_o k a4
  have R1 := relr_c k a3 A0 (lgle (syo_ok (l := l1) Ok)) R
  have t1 : hI o.2 (n + 513) 1 = hI h (n + 513) 1 := (A0.2.1 (n + 513) 1 (by omega) (by omega)).1
  obtain ⟨b1, _⟩ := ra_told (tp := (hI h (n + 1) 1).toInt) (dk_self a3) (syo_ok Ok) R1 (by rw [t1, i2]) e'
  exact Int32.toInt_inj.mp (a1.trans b1.symm)
end
