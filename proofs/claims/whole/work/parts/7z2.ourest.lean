/-! both have given out the same text: the other calls -/
section
variable {n j F : Nat} {g h : Hp} {o o' : Int32 × Hp} {x1 x2 x3 x4 : Int32}
theorem ouq_problem (J : JP n j h) (O : OuE n h) (e : sX11_problem F h n x1 x2 x3 x4 = some o) (e' : sX15_problem F o.2 (n + 513) x1 x2 x3 x4 = some o') : OuE n o'.2 := by
  obtain ⟨k, tz, σ, l1, l2, pb, Ok, C, R, Pc, Pr, Po⟩ := J
  have el := oue_l O C R
  subst el
  obtain ⟨⟨a1, a2, a3, a4⟩, Pc1⟩ := ca_prob (σ := syOut σ l1) k (syo_ok Ok) C Pc e
  have zc : ∀ a i, PbY n a i → a < n + 513 ∧ ¬ a = n + 29 := fun a i c => by unfold PbY PbZ at c; omega
  have A0 := frz_o k a4 (fun a i c => (zc a i c).1)
  have R1 := relr_c k a3 A0 (lgle (syo_ok (l := l1) Ok)) R
  obtain ⟨⟨b1, b2, b3, b4⟩, Pr2, sn2⟩ := ra_prob (σ := syOut σ l1) (dk_self a3) (syo_ok Ok) R1 (rpb_o A0 Pr) e'
  have B0 := frzr_o (dk_self a3) b4 (fun a i c => by unfold PbR at c; omega)
  have C2 := relc_r (dk_self a3) b3 B0 (lgle (syo_ok (l := l1) Ok)) a2
  exact ⟨_, l1, C2.2.2.2.2, b2.2.2.2.2.1⟩
theorem ouq_key (O : OuE n h) (e : sX11_key h n x1 = some o) (e' : sX15_key o.2 (n + 513) x1 = some o') : OuE n o'.2 := by
  rw [keyc_h e] at e'
  rw [keyr_h e']
  exact O
theorem ouq_refutes (J : JP n j h) (O : OuE n h) (e : sX11_refutes h n x1 = some o) (e' : sX15_refutes F o.2 (n + 513) x1 = some o') : OuE n o'.2 := by
  obtain ⟨k, tz, σ, l1, l2, pb, Ok, C, R, Pc, Pr, Po⟩ := J
  have el := oue_l O C R
  subst el
  rw [refc_h e] at e'
  have Po' : PbO (syOut σ l1) pb := by
    cases pb with
    | none => trivial
    | some q => exact Po
  obtain ⟨⟨b1, b2, b3, b4⟩, f⟩ := ra_ref (σ := syOut σ l1) k (syo_ok Ok) R Pr Po' e'
  have B0 : FrR0 n h o'.2 := frzr_o (Z := fun _ _ => False) k (fw_s b4.1 (fun _ _ c => Or.inl c)) (fun _ _ c => c.elim)
  have C2 := relc_r k b3 B0 (lgle (syo_ok (l := l1) Ok)) C
  exact ⟨_, l1, C2.2.2.2.2, b2.2.2.2.2.1⟩
theorem ouq_drop (J : JP n j h) (O : OuE n h) (e : sX11_drop h n x1 = some o) (e' : sX15_drop o.2 (n + 513) x1 = some o') : OuE n o'.2 := by
  obtain ⟨k, tz, σ, l1, l2, pb, Ok, C, R, Pc, Pr, Po⟩ := J
  have el := oue_l O C R
  subst el
  obtain ⟨a1, a2, a3, a4⟩ := ca_drop k (syo_ok Ok) C e
  have zc : ∀ a (_ : Nat), a = n + 76 → a < n + 513 ∧ ¬ a = n + 29 := fun a _ c => by omega
  have A0 := frz_o k a4 (fun a i c => (zc a i c).1)
  have R1 := relr_c k a3 A0 (lgle (syo_ok (l := l1) Ok)) R
  obtain ⟨b1, b2, b3, b4⟩ := ra_drop (dk_self a3) (syo_ok Ok) R1 e'
  have B0 : FrR0 n o.2 o'.2 := frzr_o (Z := fun _ _ => False) (dk_self a3) (fw_s b4 (fun _ _ c => Or.inl c)) (fun _ _ c => c.elim)
  have dl : syDrop (syOut σ l1) x1 = syOut (syDrop σ x1) l1 := by
    unfold syDrop
    rw [show sPl (syOut σ l1) x1 = sPl σ x1 from rfl]
    cases sPl σ x1 with
    | none => rfl
    | some P => rfl
  rw [dl] at a2 b2
  have C2 := relc_r (dk_self a3) b3 B0 (lgle (syo_ok (l := l1) (ok_drop (x1 := x1) Ok))) a2
  exact ⟨_, l1, C2.2.2.2.2, b2.2.2.2.2.1⟩
theorem ouq_before {L : Nat × Nat} (J : JP n j h) (O : OuE n h) (I : SI n (n + 513) L h) (e : sX11_before F h n x1 = some o) (e' : sX15_before F o.2 (n + 513) x1 = some o') : OuE n o'.2 := by
  have k := J.1
  obtain ⟨s1, s2, s3⟩ := si_bef k I
  refine ouq_g (f := fun σ => syBef σ x1) (an := fun σ => anBef σ x1) J O (fun _ Ok => ok_bef Ok) (fun _ _ => bef_o) (fun σ l => rfl) (fun σ k Ok R => ca_bef k Ok R (fun i hi s hs b => ?_) s2.1 s2.2 e) (fun σ k' Ok R => ra_bef k' Ok R ?_ e') fx_bef
  · have c2 : (hI h (n + 5) 2).toInt = syL σ 0 0 * syL σ 1 0 := R.1.2.1.2.2.1
    rw [← c2]
    exact s1 i hi s hs b
  · obtain ⟨_, _, σ0, l1, l2, _, Ok0, C0, R0, _⟩ := id J
    have c7 : (hI h (n + 5) 7).toInt = syL σ0 20 0 := C0.1.2.2.2.1.2.2.2.1
    have A := ca_bef k (syo_ok Ok0) C0 (fun i hi s hs b => by
      have c2 : (hI h (n + 5) 2).toInt = syL σ0 0 0 * syL σ0 1 0 := C0.1.2.1.2.2.1
      show (s : Int) < syL σ0 0 0 * syL σ0 1 0
      rw [← c2]
      exact s1 i hi s hs b) s2.1 s2.2 e
    have R1 := relr_c k A.2.2.1 (frc_o k A.2.2.2) (lgle (syo_ok (l := l2) Ok0)) R0
    have := rlw_u R1.1 R.1
    rw [← this]
    show 0 ≤ syL σ0 20 0
    rw [← c7]; exact s3
theorem ouq_rules {L' : Nat × Nat} (J : JP n j h) (O : OuE n h) (I' : SI n (n + 513) L' o'.2) (eq : o.1 = o'.1) (e : sX11_rules F h n = some o) (e' : sX15_rules F o.2 (n + 513) = some o') : OuE n o'.2 := by
  have zm : (-1 : Int32).toInt = -1 := rfl
  have z0 : (0 : Int32).toInt = 0 := rfl
  obtain ⟨k, tz, σ, l1, l2, pb, Ok, C, R, Pc, Pr, Po⟩ := J
  have s6 := dk_610 k
  obtain ⟨kc, cc⟩ := ruc_x k e
  obtain ⟨w0, hw0, e4, e5, _⟩ := R.1
  obtain ⟨w, hw, ww⟩ : ∃ w, (w = 516 ∨ w = 526) ∧ w0 = 1042 - w := ⟨1042 - w0, by omega, by omega⟩
  have w1 : 1042 - w0 = w := by omega
  rw [w1] at e5
  rw [ww] at e4
  have f4 : hR o.2 (n + 513) 4 = some (n + (1042 - w)) := by rw [kc.1.2.2.2.2.2 4 (Or.inl rfl)]; exact e4
  have f5 : hR o.2 (n + 513) 5 = some (n + w) := by rw [kc.1.2.2.2.2.2 5 (Or.inr rfl)]; exact e5
  obtain ⟨kr, rc⟩ := rur_x hw (dk_self kc) f4 f5 e'
  have s6o := dk_610 kc
  obtain ⟨g1, g2, g3, _⟩ := si_rul kr I'
  have eqi : o.1.toInt = o'.1.toInt := by rw [eq]
  have FRn : ∀ {W : Nat → Nat → Prop}, FrW W o.2 o'.2 → (∀ a i, W a i → n + 513 ≤ a) → ∀ a i, n ≤ a → a < n + 513 → hI o'.2 a i = hI o.2 a i ∧ hJ o'.2 a i = hJ o.2 a i := fun f w a i _ l => f.2 a i (by omega) (fun c => by have := w a i c; omega)
  have lg1 := lgle (syo_ok (l := l1) Ok)
  have lg2 := lgle (syo_ok (l := l2) Ok)
  have bad : ∀ {x : Int32} {m : Int}, Rg 0 m x → m ≤ 1201 → o.1 = (-1 : Int32) - x → o.1.toInt ≤ -1 := fun {x m} r rm y => by
    have := r.1
    have := r.2
    rw [y, ts (by rw [zm]; omega), zm]; omega
  have gq : Rg 0 1201 (hI o.2 (n + 21) 2) := by
    rcases rc with ⟨_, _, fr⟩ | ⟨_, _, _, _, _, _, _, fr⟩
    · rw [← (FRn fr (fun a i c => by unfold WIr TwR at c; omega) (n + 21) 2 (by omega) (by omega)).1]; exact g1
    · rw [← (FRn fr (fun a i c => by unfold WIr TwR at c; omega) (n + 21) 2 (by omega) (by omega)).1]; exact g1
  rcases cc with ⟨c1, fc⟩ | ⟨a, b, c, ⟨ka, Ba, fa⟩, ⟨eb, kb, fb⟩, ⟨kc', fc, u1, u2, u3⟩, oe⟩
  · -- wrong on both sides
    have c1 : o.1.toInt ≤ -1 := by
      rcases c1 with c1 | c1
      · rw [c1]; have := gq.1; omega
      · exact bad gq (by decide) c1
    rcases rc with ⟨_, kr', fr⟩ | ⟨E, r1, _⟩
    rotate_left
    · have := E.1.1.1
      rw [eqi, r1] at c1
      omega
    exact oue_f (fun a i ha => ((fr.2 a i (by omega) (fun c => by unfold WIr TwR at c; omega)).1).trans (fc.2 a i (by omega) (fun c => by unfold WRl TwC at c; omega)).1) O
  · -- anew on both sides
    rcases rc with ⟨r1, _, fr⟩ | ⟨E, r1, t4, t5, v1, v2, v3, fr⟩
    · have y1 : o.1.toInt ≤ -1 := bad g3 (by decide) (by rw [eq]; exact r1)
      have y2 : o.1 = hI c (n + 5) 3 := by rw [oe]
      have y3 : hI o'.2 (n + 5) 3 = hI c (n + 5) 3 := by
        rw [(FRn fr (fun a i c => by unfold WIr TwR at c; omega) (n + 5) 3 (by omega) (by omega)).1, oe]
        show hI (wI c (n + 1) 1 0) (n + 5) 3 = _
        rw [rI_a (by omega)]
      rw [y2, ← y3] at y1
      have := g2.1
      omega
    have pos : ¬ o.1.toInt ≤ -1 := fun c1 => by
      have := E.1.1.1
      rw [eqi, r1] at c1
      omega
    have qr := FRn fr (fun a i c => by unfold WIr TwR at c; omega)
    have Fc : FrW (fun x i => (WRl n 13 x i ∨ WRl n 5 x i) ∨ WLy n x i ∨ WFg n x i ∨ x = n + 1) h o.2 := by
      rw [oe]
      exact fw_wI (fw_t (fw_s fa (fun _ _ c => Or.inl c)) (fw_t (fw_s fb (fun _ _ c => Or.inr (Or.inl c))) (fw_s fc (fun _ _ c => Or.inr (Or.inr (Or.inl c)))))) (Or.inr (Or.inr (Or.inr rfl)))
    exact oue_f (fun a i ha => ((fr.2 a i (by omega) (fun c => by unfold WIr TwR at c; omega)).1).trans (Fc.2 a i (by omega) (fun c => by unfold WRl WLy WFg at c; omega)).1) O
theorem ouq_hear {L : Nat × Nat} (J : JP n j h) (O : OuE n h) (I : SI n (n + 513) L h) (e : sX11_hear F h n x1 = some o) (e' : sX15_hear F o.2 (n + 513) x1 = some o') : OuE n o'.2 := by
  have k := J.1
  have s6 := dk_610 k
  obtain ⟨_, i2, i3, i4, i5, _⟩ := si_psn k I
  have nc := nc_i (x := hI h (n + 513) 1) i3.1
  have i31 := i3.2
  have ln : ((List.range (hI h (n + 513) 1).toNatClampNeg).map (fun i => (hI h (n + 2) i).toInt)).length = (hI h (n + 513) 1).toNatClampNeg := by rw [List.length_map, List.length_range]
  obtain ⟨tp, htp⟩ : ∃ tp, tp = (List.range (hI h (n + 513) 1).toNatClampNeg).map (fun i => (hI h (n + 2) i).toInt) := ⟨_, rfl⟩
  rw [← htp] at ln
  have cell : ∀ i, i < tp.length → tp[i]? = some (hI h (n + 2) i).toInt := fun i hi => by
    rw [htp, List.getElem?_map, List.getElem?_range (by omega)]
    rfl
  have bnd : ∀ (i : Nat) (x : Int), tp[i]? = some x → i < tp.length ∧ x = (hI h (n + 2) i).toInt := fun i x ex => by
    have hi := (List.getElem?_eq_some_iff.mp ex).1
    rw [cell i hi] at ex
    exact ⟨hi, (Option.some.inj ex).symm⟩
  have Tp : TpC n h tp := ⟨by rw [i2, ln]; omega, cell⟩
  have tb : ∀ (i : Nat) (x : Int), tp[i]? = some x → 0 ≤ x := fun i x ex => by rw [(bnd i x ex).2]; exact (i4 i).1
  have A : ∃ σ0, CaZ n h σ0 (TwC n) o (anHer σ0 x1 tp) := by
    obtain ⟨_, _, σ0, l1, l2, _, Ok0, C0, _⟩ := id J
    exact ⟨_, ca_hear k (syo_ok Ok0) C0 Tp (by omega) tb e⟩
  obtain ⟨σ0, A⟩ := A
  have A0 := frz_o k A.2.2.2 (fun a i c => by unfold TwC at c; omega)
  have c1 : hI o.2 (n + 513) 1 = hI h (n + 513) 1 := (A0.2.1 (n + 513) 1 (by omega) (by omega)).1
  have c2 : ∀ i, hI o.2 (n + 514) i = hI h (n + 514) i := fun i => (A0.2.1 (n + 514) i (by omega) (by omega)).1
  exact ouq_k (f := id) (an := fun σ => anHer σ x1 tp) (an' := fun σ => anHer σ x1 tp) (Z := TwC n) (Z' := TwR n) J O (fun a i c => by unfold TwC at c; omega) (fun a i c => by unfold TwC at c; omega) (fun a i c => by unfold TwR at c; omega) (fun a i c => by unfold TwR at c; omega) (fun _ l => ⟨l, rfl⟩) (fun _ l => ⟨l, rfl⟩) (fun _ k Ok R => ca_hear k Ok R Tp (by omega) tb e) (fun _ k Ok R => ra_hear k Ok R (by rw [c1, ln]; omega) (fun i x ex => by
    obtain ⟨hi, hx⟩ := bnd i x ex
    rw [c2 i, i5 i (by omega), hx]
    exact ⟨rfl, (i4 i).1, (i4 i).2⟩) (by omega) e')
end
