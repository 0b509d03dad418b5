section
/-! the room of both sides together -/
def dP (n : Nat) (h : Hp) (k : Nat) : Prop := ∃ r, hR h n 15 = some r ∧ nuC h r 2408 = k
def dQ (n : Nat) (h : Hp) (k : Nat) : Prop := ∃ e a, hR h n 10 = some e ∧ hR h e 11 = some a ∧ (if hN h a = 600000 then 0 else 1) = k
def capC (n : Nat) (h : Hp) : Prop := ∀ t b, hR h n 0 = some t → hR h t 0 = some b → hN h b = 1200
section
variable {ρ ρ1 : Nat → Nat} {c c1 : Cm} {h o : Hp} {S : Nat → Nat → Nat → Bool} {n m : Nat} {B L : Nat × Nat}
theorem rmc_i {kp ke : Nat} (M : RmC n B h) (hp : dP n h kp) (hq : dQ n h ke) : (h.1.1 + 6 * kp + 3 * ke ≤ B.1 ∧ h.1.2 + 83 * kp + 1800000 * ke ≤ B.2) ∧ capC n h := by
  obtain ⟨r, er, qr⟩ := hp
  obtain ⟨e, a, ee, ea, qa⟩ := hq
  have := M.1 r e a er ee ea
  rw [qr] at this
  refine ⟨?_, M.2⟩
  by_cases z : hN h a = 600000
  · rw [if_pos z] at qa this; rw [if_pos z] at this; omega
  · rw [if_neg z] at qa this; rw [if_neg z] at this; omega
theorem rmc_o {kp ke : Nat} (hp : dP n h kp) (hq : dQ n h ke) (q : h.1.1 + 6 * kp + 3 * ke ≤ B.1 ∧ h.1.2 + 83 * kp + 1800000 * ke ≤ B.2) (cp : capC n h) : RmC n B h := by
  obtain ⟨r, er, qr⟩ := hp
  obtain ⟨e, a, ee, ea, qa⟩ := hq
  refine ⟨fun r' e' a' er' ee' ea' => ?_, cp⟩
  have y1 := r_eq er er'
  have y2 := r_eq ee ee'
  subst y1; subst y2
  have y3 := r_eq ea ea'
  subst y3
  rw [qr]
  by_cases z : hN h a' = 600000
  · rw [if_pos z] at qa; rw [if_pos z, if_pos z]; omega
  · rw [if_neg z] at qa; rw [if_neg z, if_neg z]; omega
theorem dp_i (T : TH ρ c h) (r0 : ρ n = 12) : ∃ k, dP n h k := by
  obtain ⟨r, er, qr⟩ := thR T r0 (i := 15) (k2 := 59) rfl (by decide)
  exact ⟨_, r, er, rfl⟩
theorem dq_i (T : TH ρ c h) (r0 : ρ n = 12) : ∃ k, dQ n h k := by
  obtain ⟨e, ee, qe⟩ := thR T r0 (i := 10) (k2 := 1) rfl (by decide)
  obtain ⟨a, ea, qa⟩ := thR T qe (i := 11) (k2 := 24) rfl (by decide)
  exact ⟨_, e, a, ee, ea, rfl⟩
theorem dp_f {k : Nat} (T : TH ρ c h) (r0 : ρ n = 12) (f : Fr ρ (cat c S h) h o) (s : ∀ w, S 12 w 15 = false) (t : ∀ w i, S 59 w i = false) (d : dP n h k) : dP n o k := by
  obtain ⟨a, ea, qa⟩ := d
  have q := rr T (thR T r0 (i := 15) (k2 := 59) rfl (by decide)) ea
  exact ⟨a, by rw [(fr_RI f r0 (by decide) s).2.2]; exact ea, by rw [nuC_eq 2408 (fun i _ => (fr_RI f q (by decide) (fun w => t w i)).2.2)]; exact qa⟩
theorem dq_f {k : Nat} (T : TH ρ c h) (r0 : ρ n = 12) (f : Fr ρ (cat c S h) h o) (s : ∀ w, S 12 w 10 = false) (t : ∀ w, S 1 w 11 = false) (d : dQ n h k) : dQ n o k := by
  obtain ⟨e, a, ee, ea, qa⟩ := d
  have qe := rr T (thR T r0 (i := 10) (k2 := 1) rfl (by decide)) ee
  have qa' := rr T (thR T qe (i := 11) (k2 := 24) rfl (by decide)) ea
  exact ⟨e, a, by rw [(fr_RI f r0 (by decide) s).2.2]; exact ee, by rw [(fr_RI f qe (by decide) t).2.2]; exact ea, by rw [f.2 a (by rw [qa']; decide)]; exact qa⟩
theorem cap_f (T : TH ρ c h) (r0 : ρ n = 12) (f : Fr ρ (cat c S h) h o) (s : ∀ w, S 12 w 0 = false) (t : ∀ w, S 10 w 0 = false) (d : capC n h) : capC n o := fun t' b et eb => by
  rw [(fr_RI f r0 (by decide) s).2.2] at et
  have qt := rr T (thR T r0 (i := 0) (k2 := 10) rfl (by decide)) et
  rw [(fr_RI f qt (by decide) t).2.2] at eb
  have qb := rr T (thR T qt (i := 0) (k2 := 49) rfl (by decide)) eb
  rw [f.2 b (by rw [qb]; decide)]
  exact d t' b et eb
/-- both sides keep to L together -/
def RmJ (n m : Nat) (L : Nat × Nat) (h : Hp) : Prop := ∃ kp ke na nd ng nf, dP n h kp ∧ dQ n h ke ∧ dA m h na ∧ dD m h nd ∧ dG m h ng ∧ dF m h nf ∧ capC n h ∧ h.1.1 + 6 * kp + 3 * ke + 5 * na + 13 * nd + 5 * ng + 5 * nf + d52 m h ≤ L.1 ∧ h.1.2 + 83 * kp + 1800000 * ke + 162 * na + 21170 * nd + 162 * ng + 162 * nf + 1500000 * d52 m h ≤ L.2
/-- for a call of the class -/
theorem j_c {b l : Bool} (T : TH ρ c h) (r0 : ρ n = 12) (rm : ρ m = 16) (P : RfI m h) (J : RmJ n m L h) : ∃ B, RmC n B h ∧ ∀ o ρ1 c1, ExM ρ (cat c (clSf b l) h) ρ1 c1 → TH ρ1 c1 o → ρ1 n = 12 → RmC n B o → RfI m o ∧ RmJ n m L o ∧ TpR m h o ∧ ρ1 m = 16 := by
  obtain ⟨kp, ke, na, nd, ng, nf, hp, hq, ha, hd, hg, hf, cp, j1, j2⟩ := J
  refine ⟨(L.1 - (5 * na + 13 * nd + 5 * ng + 5 * nf + d52 m h), L.2 - (162 * na + 21170 * nd + 162 * ng + 162 * nf + 1500000 * d52 m h)), rmc_o hp hq (by show _ ≤ L.1 - _ ∧ _ ≤ L.2 - _; omega) cp, fun o ρ1 c1 X T1 r1 M1 => ?_⟩
  obtain ⟨P1, ha', hd', hg', hf', e5, t1, m1⟩ := x_ref T X T1 rm P ha hd hg hf
  obtain ⟨kp', hp'⟩ := dp_i T1 r1
  obtain ⟨ke', hq'⟩ := dq_i T1 r1
  obtain ⟨⟨i1, i2⟩, cp'⟩ := rmc_i M1 hp' hq'
  have i1 : o.1.1 + 6 * kp' + 3 * ke' ≤ L.1 - (5 * na + 13 * nd + 5 * ng + 5 * nf + d52 m h) := i1
  have i2 : o.1.2 + 83 * kp' + 1800000 * ke' ≤ L.2 - (162 * na + 21170 * nd + 162 * ng + 162 * nf + 1500000 * d52 m h) := i2
  refine ⟨P1, ⟨kp', ke', na, nd, ng, nf, hp', hq', ha', hd', hg', hf', cp', ?_, ?_⟩, t1, m1⟩
  · rw [e5]; omega
  · rw [e5]; omega
/-- for a call of the reference -/
theorem j_r {b l : Bool} {d : Nat × Nat} (T : TH ρ c h) (r0 : ρ n = 12) (rm : ρ m = 16) (I : ClI ρ c n h) (J : RmJ n m L h) : ∃ B, RmR m B h ∧ ∀ o ρ1 c1, Ext ρ (cat c (rfSf b l) h) ρ1 c1 → TH ρ1 c1 o → RmR m (B.1 + d.1, B.2 + d.2) o → ClI ρ1 c1 n o ∧ RmJ n m (L.1 + d.1, L.2 + d.2) o ∧ Tp n h o ∧ ρ1 n = 12 ∧ ρ1 m = 16 := by
  obtain ⟨kp, ke, na, nd, ng, nf, hp, hq, ha, hd, hg, hf, cp, j1, j2⟩ := J
  refine ⟨(L.1 - (6 * kp + 3 * ke), L.2 - (83 * kp + 1800000 * ke)), rm_o ha hd hg hf (by show _ ≤ L.1 - _ ∧ _ ≤ L.2 - _; omega), fun o ρ1 c1 X T1 M1 => ?_⟩
  obtain ⟨I1, t1, r1⟩ := x_cls T X T1 r0 I
  have f := ex_f T X T1
  have m1 : ρ1 m = 16 := by rw [(X.1 m (by rw [rm]; decide)).1]; exact rm
  obtain ⟨na', ha'⟩ := da_i T1 m1
  obtain ⟨nd', hd'⟩ := dd_i T1 m1
  obtain ⟨ng', hg'⟩ := dg_i T1 m1
  obtain ⟨nf', hf'⟩ := df_i T1 m1
  obtain ⟨i1, i2⟩ := rm_i M1 ha' hd' hg' hf'
  have i1 : o.1.1 + 5 * na' + 13 * nd' + 5 * ng' + 5 * nf' + d52 m o ≤ L.1 - (6 * kp + 3 * ke) + d.1 := i1
  have i2 : o.1.2 + 162 * na' + 21170 * nd' + 162 * ng' + 162 * nf' + 1500000 * d52 m o ≤ L.2 - (83 * kp + 1800000 * ke) + d.2 := i2
  refine ⟨I1, ⟨kp, ke, na', nd', ng', nf', dp_f T r0 f (fun _ => rfl) (fun _ _ => rfl) hp, dq_f T r0 f (fun _ => rfl) (fun _ => rfl) hq, ha', hd', hg', hf', cap_f T r0 f (fun _ => rfl) (fun _ => rfl) cp, ?_, ?_⟩, t1, r1, m1⟩
  · show _ ≤ L.1 + d.1; omega
  · show _ ≤ L.2 + d.2; omega
end
end
section
/-! a pair of calls: class, then reference -/
/-- what holds between calls -/
def SI (n m : Nat) (L : Nat × Nat) (h : Hp) : Prop := ∃ ρ c, TH ρ c h ∧ ρ n = 12 ∧ ρ m = 16 ∧ ClI ρ c n h ∧ RfI m h ∧ RmJ n m L h ∧ (∀ t, hR h n 0 = some t → hI h t 1 = hI h m 1) ∧ TB n m h ∧ XB n m h
/-- both calls end, whatever they answer -/
def Sf (A B : Hp → Option (Int32 × Hp)) (h : Hp) (Q : Hp → Prop) : Prop := ∃ (a b : Int32) (h1 h2 : Hp), A h = some (a, h1) ∧ B h1 = some (b, h2) ∧ Q h2
section
variable {n m : Nat} {L d : Nat × Nat} {h : Hp} {A R : Hp → Option (Int32 × Hp)}
theorem hpC_cl {b l : Bool} {c : Cm} {h : Hp} : hpC (cat c (clSf b l) h) := ⟨fun k w i z => by
  show clSf b l k w i = true
  unfold clSf
  rw [z]; rfl, fun w => rfl, fun w i z => by
  show ((b || !(w == 2100)) || (lwK 49 && l)) = true
  rw [bq_ne z]
  cases b <;> rfl⟩
theorem hlC_cl {b : Bool} {c : Cm} {h : Hp} : hlC (cat c (clSf b true) h) := fun k w i z => by
  show clSf b true k w i = true
  rcases lw_c z with z | z | z | z | z | z | z | z <;> (rw [z]; rfl)
theorem hpR_rf {b l : Bool} {c : Cm} {h : Hp} : hpR (cat c (rfSf b l) h) := fun k w i z n => by
  show rfSf b l k w i = true
  unfold rfSf
  have y : (k == 16 && (i == 0 || (i == 4 || (i == 5 || (i == 11 || (i == 12 || i == 13)))))) = false := by
    cases q : (k == 16 && (i == 0 || (i == 4 || (i == 5 || (i == 11 || (i == 12 || i == 13)))))) with
    | false => rfl
    | true =>
      rw [Bool.and_eq_true, Bool.or_eq_true, Bool.or_eq_true, Bool.or_eq_true, Bool.or_eq_true, Bool.or_eq_true, beq_iff_eq, beq_iff_eq, beq_iff_eq, beq_iff_eq, beq_iff_eq, beq_iff_eq, beq_iff_eq] at q
      exact absurd q n
  rw [z, y]; rfl
theorem hlR_rf {b : Bool} {c : Cm} {h : Hp} : hlR (cat c (rfSf b true) h) := ⟨fun k w i z => by
  show rfSf b true k w i = true
  rcases rw_c z with z | z | z | z | z | z | z | z | z | z <;> (rw [z]; cases b <;> rfl), fun w i z => by
  show rfSf b true 16 w i = true
  rcases z with z | z | z | z | z <;> (rw [z]; cases b <;> rfl)⟩
theorem st_tt (I : SI n m L h) (hc : ∀ {ρ : Nat → Nat} {c : Cm} {B : Nat × Nat}, hpC c → TH ρ c h → ρ n = 12 → ClI ρ c n h → RmC n B h → Sat (A h) (CP ρ c n B (Tp n h))) (hr : ∀ {h1 : Hp} {ρ : Nat → Nat} {c : Cm} {B : Nat × Nat}, hpR c → TH ρ c h1 → ρ m = 16 → RfI m h1 → RmR m B h1 → Sat (R h1) (RP ρ c m (B.1 + d.1, B.2 + d.2) (TpR m h1))) : Sf A R h (SI n m (L.1 + d.1, L.2 + d.2)) := by
  obtain ⟨ρ, c, T, r0, rm, I1, P, J, tp⟩ := I
  obtain ⟨B, M, back⟩ := j_c (b := false) (l := false) T r0 rm P J
  obtain ⟨o, eo, ρ1, c1, X, T1, I2, M2, tq⟩ := hc hpC_cl (th_in (clSf false false) T) r0 I1 M
  have r1 : ρ1 n = 12 := by rw [(X.1 n (by rw [r0]; decide)).1]; exact r0
  obtain ⟨P2, J2, t2, m1⟩ := back o.2 ρ1 c1 X T1 r1 M2
  obtain ⟨B3, M3, back3⟩ := j_r (b := false) (l := false) (d := d) T1 r1 m1 I2 J2
  obtain ⟨v, ev, ρ4, c4, X4, T4, P4, M4, t4⟩ := hr hpR_rf (th_in (rfSf false false) T1) m1 P2 M3
  obtain ⟨I5, J5, t5, r5, m5⟩ := back3 v.2 ρ4 c4 X4 T4 M4
  refine ⟨o.1, v.1, o.2, v.2, eo, ev, ρ4, c4, T4, r5, m5, I5, P4, J5, fun t et => ?_, ?_, lr_pair T r0 rm X T1 (ex_f T1 X4 T4) tp.2.2⟩
  · obtain ⟨t0, et0, _⟩ := thR T r0 (i := 0) (k2 := 10) rfl (by decide)
    obtain ⟨a1, a2⟩ := tq t0 et0
    obtain ⟨b1, b2⟩ := t5 t0 a1
    have y : t = t0 := r_eq b1 et
    subst y
    have t4' : hI v.2 m 1 = hI o.2 m 1 := t4
    have t2' : hI o.2 m 1 = hI h m 1 := t2
    rw [b2, a2, t4', t2']
    exact tp.1 t et0
  · have t4' : hI v.2 m 1 = hI o.2 m 1 := t4
    have t2' : hI o.2 m 1 = hI h m 1 := t2
    exact tb_k rfl rfl T r0 rm X T1 (ex_f T1 X4 T4) (fun t et => (t5 t (tq t et).1).1) (by rw [t4', t2']; exact Int.le_refl _) tp.2.1
/-- both tapes are empty behind it -/
theorem st_zz (I : SI n m L h) (hc : ∀ {ρ : Nat → Nat} {c : Cm} {B : Nat × Nat}, hpC c → TH ρ c h → ρ n = 12 → ClI ρ c n h → RmC n B h → Sat (A h) (CP ρ c n B (TpZ n))) (hr : ∀ {h1 : Hp} {ρ : Nat → Nat} {c : Cm} {B : Nat × Nat}, hpR c → TH ρ c h1 → ρ m = 16 → RfI m h1 → RmR m B h1 → Sat (R h1) (RP ρ c m B (fun o => hI o m 1 = 0))) : Sf A R h (SI n m L) := by
  obtain ⟨ρ, c, T, r0, rm, I1, P, J, tp⟩ := I
  obtain ⟨B, M, back⟩ := j_c (b := false) (l := false) T r0 rm P J
  obtain ⟨o, eo, ρ1, c1, X, T1, I2, M2, tq⟩ := hc hpC_cl (th_in (clSf false false) T) r0 I1 M
  have r1 : ρ1 n = 12 := by rw [(X.1 n (by rw [r0]; decide)).1]; exact r0
  obtain ⟨P2, J2, t2, m1⟩ := back o.2 ρ1 c1 X T1 r1 M2
  obtain ⟨B3, M3, back3⟩ := j_r (b := false) (l := false) (d := (0, 0)) T1 r1 m1 I2 J2
  obtain ⟨v, ev, ρ4, c4, X4, T4, P4, M4, t4⟩ := hr hpR_rf (th_in (rfSf false false) T1) m1 P2 M3
  obtain ⟨I5, J5, t5, r5, m5⟩ := back3 v.2 ρ4 c4 X4 T4 M4
  refine ⟨o.1, v.1, o.2, v.2, eo, ev, ρ4, c4, T4, r5, m5, I5, P4, J5, fun t et => ?_, fun _ _ _ _ _ _ i hi => ?_, lr_pair T r0 rm X T1 (ex_f T1 X4 T4) tp.2.2⟩
  · obtain ⟨t0, et0, _⟩ := thR T1 r1 (i := 0) (k2 := 10) rfl (by decide)
    obtain ⟨b1, b2⟩ := t5 t0 et0
    have y : t = t0 := r_eq b1 et
    subst y
    have t4' : hI v.2 m 1 = 0 := t4
    rw [b2, t4']
    exact tq t et0
  · have t4' : hI v.2 m 1 = 0 := t4
    have z0 : (0 : Int32).toInt = 0 := rfl
    rw [t4', z0] at hi
    omega
end
end
section
/-! the pairs of calls of the law -/
section
variable {n m F : Nat} {L : Nat × Nat} {h : Hp} {a1 a2 a3 a4 a5 : Int32}
theorem pr_told (hF : 2000000 ≤ F) (I : SI n m L h) : Sf (fun h => sX11_told F h n a1) (fun h => sX15_told F h m a1) h (SI n m (L.1 + 1, L.2 + 8)) := by
  have hF7 : 700000 ≤ F := by omega
  exact st_tt (d := (1, 8)) I (fun hp T r I M => by first | exact cw_told hF7 hp T r I M | exact cw_told hF7 T r I M | exact cw_told hp T r I M | exact cw_told T r I M | exact cw_told hF hp T r I M) (fun hp T r P M => by first | exact rw_told hF7 hp T r P M | exact rw_told hF7 T r P M | exact rw_told hF hp T r P M)
theorem pr_out (hF : 2000000 ≤ F) (I : SI n m L h) : Sf (fun h => sX11_out h n a1) (fun h => sX15_out h m a1) h (SI n m L) := by
  have hF7 : 700000 ≤ F := by omega
  exact st_tt (d := (0, 0)) I (fun hp T r I M => by first | exact cw_out hF7 hp T r I M | exact cw_out hF7 T r I M | exact cw_out hp T r I M | exact cw_out T r I M | exact cw_out hF hp T r I M) (fun hp T r P M => by first | exact rw_out hF7 hp T r P M | exact rw_out hF7 T r P M | exact rw_out hF hp T r P M)
theorem pr_position (hF : 2000000 ≤ F) (I : SI n m L h) : Sf (fun h => sX11_position F h n) (fun h => sX15_position F h m) h (SI n m L) := by
  have hF7 : 700000 ≤ F := by omega
  exact st_zz I (fun hp T r I M => by first | exact cw_position hF7 hp T r I M | exact cw_position hF7 T r I M | exact cw_position hp T r I M | exact cw_position T r I M | exact cw_position hF hp T r I M) (fun hp T r P M => by first | exact rw_position hF7 hp T r P M | exact rw_position hF7 T r P M | exact rw_position hF hp T r P M)
theorem pr_drop (hF : 2000000 ≤ F) (I : SI n m L h) : Sf (fun h => sX11_drop h n a1) (fun h => sX15_drop h m a1) h (SI n m L) := by
  have hF7 : 700000 ≤ F := by omega
  exact st_tt (d := (0, 0)) I (fun hp T r I M => by first | exact cw_drop hF7 hp T r I M | exact cw_drop hF7 T r I M | exact cw_drop hp T r I M | exact cw_drop T r I M | exact cw_drop hF hp T r I M) (fun hp T r P M => by first | exact rw_drop hF7 hp T r P M | exact rw_drop hF7 T r P M | exact rw_drop hF hp T r P M)
theorem pr_write (hF : 2000000 ≤ F) (I : SI n m L h) : Sf (fun h => sX11_write F h n a1) (fun h => sX15_write F h m a1) h (SI n m L) := by
  have hF7 : 700000 ≤ F := by omega
  exact st_tt (d := (0, 0)) I (fun hp T r I M => by first | exact cw_write hF7 hp T r I M | exact cw_write hF7 T r I M | exact cw_write hp T r I M | exact cw_write T r I M | exact cw_write hF hp T r I M) (fun hp T r P M => by first | exact rw_write hF7 hp T r P M | exact rw_write hF7 T r P M | exact rw_write hF hp T r P M)
theorem pr_same (hF : 2000000 ≤ F) (I : SI n m L h) : Sf (fun h => sX11_same F h n a1 a2) (fun h => sX15_same F h m a1 a2) h (SI n m L) := by
  have hF7 : 700000 ≤ F := by omega
  exact st_tt (d := (0, 0)) I (fun hp T r I M => by first | exact cw_same hF7 hp T r I M | exact cw_same hF7 T r I M | exact cw_same hp T r I M | exact cw_same T r I M | exact cw_same hF hp T r I M) (fun hp T r P M => by first | exact rw_same hF7 hp T r P M | exact rw_same hF7 T r P M | exact rw_same hF hp T r P M)
theorem pr_at (hF : 2000000 ≤ F) (I : SI n m L h) : Sf (fun h => sX11_at h n a1 a2) (fun h => sX15_at h m a1 a2) h (SI n m L) := by
  have hF7 : 700000 ≤ F := by omega
  exact st_tt (d := (0, 0)) I (fun hp T r I M => by first | exact cw_at hF7 hp T r I M | exact cw_at hF7 T r I M | exact cw_at hp T r I M | exact cw_at T r I M | exact cw_at hF hp T r I M) (fun hp T r P M => by first | exact rw_at hF7 hp T r P M | exact rw_at hF7 T r P M | exact rw_at hF hp T r P M)
theorem pr_figure (hF : 2000000 ≤ F) (I : SI n m L h) : Sf (fun h => sX11_figure F h n a1 a2) (fun h => sX15_figure F h m a1 a2) h (SI n m (L.1 + 1, L.2 + 8)) := by
  have hF7 : 700000 ≤ F := by omega
  exact st_tt (d := (1, 8)) I (fun hp T r I M => by first | exact cw_figure hF7 hp T r I M | exact cw_figure hF7 T r I M | exact cw_figure hp T r I M | exact cw_figure T r I M | exact cw_figure hF hp T r I M) (fun hp T r P M => by first | exact rw_figure hF7 hp T r P M | exact rw_figure hF7 T r P M | exact rw_figure hF hp T r P M)
theorem pr_attacked (hF : 2000000 ≤ F) (I : SI n m L h) : Sf (fun h => sX11_attacked F h n a1 a2 a3) (fun h => sX15_attacked F h m a1 a2 a3) h (SI n m L) := by
  have hF7 : 700000 ≤ F := by omega
  exact st_tt (d := (0, 0)) I (fun hp T r I M => by first | exact cw_attacked hF7 hp T r I M | exact cw_attacked hF7 T r I M | exact cw_attacked hp T r I M | exact cw_attacked T r I M | exact cw_attacked hF hp T r I M) (fun hp T r P M => by first | exact rw_attacked hF7 hp T r P M | exact rw_attacked hF7 T r P M | exact rw_attacked hF hp T r P M)
theorem pr_moves (hF : 2000000 ≤ F) (I : SI n m L h) : Sf (fun h => sX11_moves F h n a1) (fun h => sX15_moves F h m a1) h (SI n m L) := by
  have hF7 : 700000 ≤ F := by omega
  exact st_tt (d := (0, 0)) I (fun hp T r I M => by first | exact cw_moves hF7 hp T r I M | exact cw_moves hF7 T r I M | exact cw_moves hp T r I M | exact cw_moves T r I M | exact cw_moves hF hp T r I M) (fun hp T r P M => by first | exact rw_moves hF7 hp T r P M | exact rw_moves hF7 T r P M | exact rw_moves hF hp T r P M)
theorem pr_move (hF : 2000000 ≤ F) (I : SI n m L h) : Sf (fun h => sX11_move F h n a1 a2 a3) (fun h => sX15_move F h m a1 a2 a3) h (SI n m L) := by
  have hF7 : 700000 ≤ F := by omega
  exact st_tt (d := (0, 0)) I (fun hp T r I M => by first | exact cw_move hF7 hp T r I M | exact cw_move hF7 T r I M | exact cw_move hp T r I M | exact cw_move T r I M | exact cw_move hF hp T r I M) (fun hp T r P M => by first | exact rw_move hF7 hp T r P M | exact rw_move hF7 T r P M | exact rw_move hF hp T r P M)
theorem pr_go (hF : 2000000 ≤ F) (I : SI n m L h) : Sf (fun h => sX11_go F h n a1 a2) (fun h => sX15_go F h m a1 a2) h (SI n m L) := by
  have hF7 : 700000 ≤ F := by omega
  exact st_tt (d := (0, 0)) I (fun hp T r I M => by first | exact cw_go hF7 hp T r I M | exact cw_go hF7 T r I M | exact cw_go hp T r I M | exact cw_go T r I M | exact cw_go hF hp T r I M) (fun hp T r P M => by first | exact rw_go hF7 hp T r P M | exact rw_go hF7 T r P M | exact rw_go hF hp T r P M)
theorem pr_rows (hF : 2000000 ≤ F) (I : SI n m L h) : Sf (fun h => sX11_rows F h n a1 a2) (fun h => sX15_rows F h m a1 a2) h (SI n m L) := by
  have hF7 : 700000 ≤ F := by omega
  exact st_tt (d := (0, 0)) I (fun hp T r I M => by first | exact cw_rows hF7 hp T r I M | exact cw_rows hF7 T r I M | exact cw_rows hp T r I M | exact cw_rows T r I M | exact cw_rows hF hp T r I M) (fun hp T r P M => by first | exact rw_rows hF7 hp T r P M | exact rw_rows hF7 T r P M | exact rw_rows hF hp T r P M)
theorem pr_ended (hF : 2000000 ≤ F) (I : SI n m L h) : Sf (fun h => sX11_ended F h n a1) (fun h => sX15_ended F h m a1) h (SI n m L) := by
  have hF7 : 700000 ≤ F := by omega
  exact st_tt (d := (0, 0)) I (fun hp T r I M => by first | exact cw_ended hF7 hp T r I M | exact cw_ended hF7 T r I M | exact cw_ended hp T r I M | exact cw_ended T r I M | exact cw_ended hF hp T r I M) (fun hp T r P M => by first | exact rw_ended hF7 hp T r P M | exact rw_ended hF7 T r P M | exact rw_ended hF hp T r P M)
theorem pr_result (hF : 2000000 ≤ F) (I : SI n m L h) : Sf (fun h => sX11_result F h n a1) (fun h => sX15_result F h m a1) h (SI n m L) := by
  have hF7 : 700000 ≤ F := by omega
  exact st_tt (d := (0, 0)) I (fun hp T r I M => by first | exact cw_result hF7 hp T r I M | exact cw_result hF7 T r I M | exact cw_result hp T r I M | exact cw_result T r I M | exact cw_result hF hp T r I M) (fun hp T r P M => by first | exact rw_result hF7 hp T r P M | exact rw_result hF7 T r P M | exact rw_result hF hp T r P M)
theorem pr_say (hF : 2000000 ≤ F) (I : SI n m L h) : Sf (fun h => sX11_say F h n a1 a2) (fun h => sX15_say_ F h m a1 a2) h (SI n m L) := by
  have hF7 : 700000 ≤ F := by omega
  exact st_tt (d := (0, 0)) I (fun hp T r I M => by first | exact cw_say hF7 hp T r I M | exact cw_say hF7 T r I M | exact cw_say hp T r I M | exact cw_say T r I M | exact cw_say hF hp T r I M) (fun hp T r P M => by first | exact rw_say hF7 hp T r P M | exact rw_say hF7 T r P M | exact rw_say hF hp T r P M)
theorem pr_hear (hF : 2000000 ≤ F) (I : SI n m L h) : Sf (fun h => sX11_hear F h n a1) (fun h => sX15_hear F h m a1) h (SI n m L) := by
  have hF7 : 700000 ≤ F := by omega
  exact st_zz I (fun hp T r I M => by first | exact cw_hear hF7 hp T r I M | exact cw_hear hF7 T r I M | exact cw_hear hp T r I M | exact cw_hear T r I M | exact cw_hear hF hp T r I M) (fun hp T r P M => by first | exact rw_hear hF7 hp T r P M | exact rw_hear hF7 T r P M | exact rw_hear hF hp T r P M)
theorem pr_start (hF : 2000000 ≤ F) (I : SI n m L h) : Sf (fun h => sX11_start F h n a1 a2) (fun h => sX15_start h m a1 a2) h (SI n m L) := by
  have hF7 : 700000 ≤ F := by omega
  exact st_tt (d := (0, 0)) I (fun hp T r I M => by first | exact cw_start hF7 hp T r I M | exact cw_start hF7 T r I M | exact cw_start hp T r I M | exact cw_start T r I M | exact cw_start hF hp T r I M) (fun hp T r P M => by first | exact rw_start hF7 hp T r P M | exact rw_start hF7 T r P M | exact rw_start hF hp T r P M)
theorem pr_add (hF : 2000000 ≤ F) (I : SI n m L h) : Sf (fun h => sX11_add F h n a1 a2) (fun h => sX15_add F h m a1 a2) h (SI n m L) := by
  have hF7 : 700000 ≤ F := by omega
  exact st_tt (d := (0, 0)) I (fun hp T r I M => by first | exact cw_add hF7 hp T r I M | exact cw_add hF7 T r I M | exact cw_add hp T r I M | exact cw_add T r I M | exact cw_add hF hp T r I M) (fun hp T r P M => by first | exact rw_add hF7 hp T r P M | exact rw_add hF7 T r P M | exact rw_add hF hp T r P M)
theorem pr_back (hF : 2000000 ≤ F) (I : SI n m L h) : Sf (fun h => sX11_back h n a1) (fun h => sX15_back h m a1) h (SI n m L) := by
  have hF7 : 700000 ≤ F := by omega
  exact st_tt (d := (0, 0)) I (fun hp T r I M => by first | exact cw_back hF7 hp T r I M | exact cw_back hF7 T r I M | exact cw_back hp T r I M | exact cw_back T r I M | exact cw_back hF hp T r I M) (fun hp T r P M => by first | exact rw_back hF7 hp T r P M | exact rw_back hF7 T r P M | exact rw_back hF hp T r P M)
theorem pr_game (hF : 2000000 ≤ F) (I : SI n m L h) : Sf (fun h => sX11_game F h n a1 a2) (fun h => sX15_game F h m a1 a2) h (SI n m L) := by
  have hF7 : 700000 ≤ F := by omega
  exact st_tt (d := (0, 0)) I (fun hp T r I M => by first | exact cw_game hF7 hp T r I M | exact cw_game hF7 T r I M | exact cw_game hp T r I M | exact cw_game T r I M | exact cw_game hF hp T r I M) (fun hp T r P M => by first | exact rw_game hF7 hp T r P M | exact rw_game hF7 T r P M | exact rw_game hF hp T r P M)
theorem pr_played (hF : 2000000 ≤ F) (I : SI n m L h) : Sf (fun h => sX11_played h n a1 a2) (fun h => sX15_played h m a1 a2) h (SI n m L) := by
  have hF7 : 700000 ≤ F := by omega
  exact st_tt (d := (0, 0)) I (fun hp T r I M => by first | exact cw_played hF7 hp T r I M | exact cw_played hF7 T r I M | exact cw_played hp T r I M | exact cw_played T r I M | exact cw_played hF hp T r I M) (fun hp T r P M => by first | exact rw_played hF7 hp T r P M | exact rw_played hF7 T r P M | exact rw_played hF hp T r P M)
theorem pr_now (hF : 2000000 ≤ F) (I : SI n m L h) : Sf (fun h => sX11_now F h n a1) (fun h => sX15_now F h m a1) h (SI n m L) := by
  have hF7 : 700000 ≤ F := by omega
  exact st_tt (d := (0, 0)) I (fun hp T r I M => by first | exact cw_now hF7 hp T r I M | exact cw_now hF7 T r I M | exact cw_now hp T r I M | exact cw_now T r I M | exact cw_now hF hp T r I M) (fun hp T r P M => by first | exact rw_now hF7 hp T r P M | exact rw_now hF7 T r P M | exact rw_now hF hp T r P M)
theorem pr_book (hF : 2000000 ≤ F) (I : SI n m L h) : Sf (fun h => sX11_book F h n a1 a2) (fun h => sX15_book F h m a1 a2) h (SI n m L) := by
  have hF7 : 700000 ≤ F := by omega
  exact st_tt (d := (0, 0)) I (fun hp T r I M => by first | exact cw_book hF7 hp T r I M | exact cw_book hF7 T r I M | exact cw_book hp T r I M | exact cw_book T r I M | exact cw_book hF hp T r I M) (fun hp T r P M => by first | exact rw_book hF7 hp T r P M | exact rw_book hF7 T r P M | exact rw_book hF hp T r P M)
theorem pr_sees (hF : 2000000 ≤ F) (I : SI n m L h) : Sf (fun h => sX11_sees F h n a1 a2 a3) (fun h => sX15_sees F h m a1 a2 a3) h (SI n m L) := by
  have hF7 : 700000 ≤ F := by omega
  exact st_tt (d := (0, 0)) I (fun hp T r I M => by first | exact cw_sees hF7 hp T r I M | exact cw_sees hF7 T r I M | exact cw_sees hp T r I M | exact cw_sees T r I M | exact cw_sees hF hp T r I M) (fun hp T r P M => by first | exact rw_sees hF7 hp T r P M | exact rw_sees hF7 T r P M | exact rw_sees hF hp T r P M)
theorem pr_view (hF : 2000000 ≤ F) (I : SI n m L h) : Sf (fun h => sX11_view F h n a1 a2) (fun h => sX15_view F h m a1 a2) h (SI n m L) := by
  have hF7 : 700000 ≤ F := by omega
  exact st_tt (d := (0, 0)) I (fun hp T r I M => by first | exact cw_view hF7 hp T r I M | exact cw_view hF7 T r I M | exact cw_view hp T r I M | exact cw_view T r I M | exact cw_view hF hp T r I M) (fun hp T r P M => by first | exact rw_view hF7 hp T r P M | exact rw_view hF7 T r P M | exact rw_view hF hp T r P M)
theorem pr_before (hF : 2000000 ≤ F) (I : SI n m L h) : Sf (fun h => sX11_before F h n a1) (fun h => sX15_before F h m a1) h (SI n m L) := by
  have hF7 : 700000 ≤ F := by omega
  exact st_tt (d := (0, 0)) I (fun hp T r I M => by first | exact cw_before hF7 hp T r I M | exact cw_before hF7 T r I M | exact cw_before hp T r I M | exact cw_before T r I M | exact cw_before hF hp T r I M) (fun hp T r P M => by first | exact rw_before hF7 hp T r P M | exact rw_before hF7 T r P M | exact rw_before hF hp T r P M)
theorem pr_beforeAt (hF : 2000000 ≤ F) (I : SI n m L h) : Sf (fun h => sX11_beforeAt F h n a1) (fun h => sX15_beforeAt F h m a1) h (SI n m L) := by
  have hF7 : 700000 ≤ F := by omega
  exact st_tt (d := (0, 0)) I (fun hp T r I M => by first | exact cw_beforeAt hF7 hp T r I M | exact cw_beforeAt hF7 T r I M | exact cw_beforeAt hp T r I M | exact cw_beforeAt T r I M | exact cw_beforeAt hF hp T r I M) (fun hp T r P M => by first | exact rw_beforeAt hF7 hp T r P M | exact rw_beforeAt hF7 T r P M | exact rw_beforeAt hF hp T r P M)
theorem pr_solve (hF : 2000000 ≤ F) (I : SI n m L h) : Sf (fun h => sX11_solve F h n) (fun h => sX15_solve F h m) h (SI n m L) := by
  have hF7 : 700000 ≤ F := by omega
  exact st_zz I (fun hp T r I M => by first | exact cw_solve hF7 hp T r I M | exact cw_solve hF7 T r I M | exact cw_solve hp T r I M | exact cw_solve T r I M | exact cw_solve hF hp T r I M) (fun hp T r P M => by first | exact rw_solve hF7 hp T r P M | exact rw_solve hF7 T r P M | exact rw_solve hF hp T r P M)
theorem pr_worth (hF : 2000000 ≤ F) (I : SI n m L h) : Sf (fun h => sX11_worth F h n a1) (fun h => sX15_worth F h m a1) h (SI n m L) := by
  have hF7 : 700000 ≤ F := by omega
  exact st_tt (d := (0, 0)) I (fun hp T r I M => by first | exact cw_worth hF7 hp T r I M | exact cw_worth hF7 T r I M | exact cw_worth hp T r I M | exact cw_worth T r I M | exact cw_worth hF hp T r I M) (fun hp T r P M => by first | exact rw_worth hF7 hp T r P M | exact rw_worth hF7 T r P M | exact rw_worth hF hp T r P M)
theorem pr_tally (hF : 2000000 ≤ F) (I : SI n m L h) : Sf (fun h => sX11_tally F h n a1 a2) (fun h => sX15_tally F h m a1 a2) h (SI n m L) := by
  have hF7 : 700000 ≤ F := by omega
  exact st_tt (d := (0, 0)) I (fun hp T r I M => by first | exact cw_tally hF7 hp T r I M | exact cw_tally hF7 T r I M | exact cw_tally hp T r I M | exact cw_tally T r I M | exact cw_tally hF hp T r I M) (fun hp T r P M => by first | exact rw_tally hF7 hp T r P M | exact rw_tally hF7 T r P M | exact rw_tally hF hp T r P M)
theorem pr_problem (hF : 2000000 ≤ F) (I : SI n m L h) : Sf (fun h => sX11_problem F h n a1 a2 a3 a4) (fun h => sX15_problem F h m a1 a2 a3 a4) h (SI n m L) := by
  have hF7 : 700000 ≤ F := by omega
  exact st_tt (d := (0, 0)) I (fun hp T r I M => by first | exact cw_problem hF7 hp T r I M | exact cw_problem hF7 T r I M | exact cw_problem hp T r I M | exact cw_problem T r I M | exact cw_problem hF hp T r I M) (fun hp T r P M => by first | exact rw_problem hF7 hp T r P M | exact rw_problem hF7 T r P M | exact rw_problem hF hp T r P M)
theorem pr_key (hF : 2000000 ≤ F) (I : SI n m L h) : Sf (fun h => sX11_key h n a1) (fun h => sX15_key h m a1) h (SI n m L) := by
  have hF7 : 700000 ≤ F := by omega
  exact st_tt (d := (0, 0)) I (fun hp T r I M => by first | exact cw_key hF7 hp T r I M | exact cw_key hF7 T r I M | exact cw_key hp T r I M | exact cw_key T r I M | exact cw_key hF hp T r I M) (fun hp T r P M => by first | exact rw_key hF7 hp T r P M | exact rw_key hF7 T r P M | exact rw_key hF hp T r P M)
theorem pr_refutes (hF : 2000000 ≤ F) (I : SI n m L h) : Sf (fun h => sX11_refutes h n a1) (fun h => sX15_refutes F h m a1) h (SI n m L) := by
  have hF7 : 700000 ≤ F := by omega
  exact st_tt (d := (0, 0)) I (fun hp T r I M => by first | exact cw_refutes hF7 hp T r I M | exact cw_refutes hF7 T r I M | exact cw_refutes hp T r I M | exact cw_refutes T r I M | exact cw_refutes hF hp T r I M) (fun hp T r P M => by first | exact rw_refutes hF7 hp T r P M | exact rw_refutes hF7 T r P M | exact rw_refutes hF hp T r P M)
end
end
section
/-! feed and end: equal answers -/
section
variable {n m F : Nat} {L : Nat × Nat} {h : Hp} {a1 a2 a3 a4 a5 : Int32}
theorem pr_feed (hF : 2000000 ≤ F) (I : SI n m L h) : St (fun h => sX11_feed h n a1 a2 a3 a4 a5) (fun h => sX15_feed F h m a1 a2 a3 a4 a5) h (SI n m L) := by
  have hF7 : 700000 ≤ F := by omega
  obtain ⟨ρ, c, T, r0, rm, I1, P, J, tp⟩ := I
  obtain ⟨B, M, back⟩ := j_c (b := true) (l := false) T r0 rm P J
  obtain ⟨t, et, qt⟩ := thR T r0 (i := 0) (k2 := 10) rfl (by decide)
  obtain ⟨o, eo, ⟨ρ1, c1, X, T1, I2, M2, _⟩, q1⟩ := cw_feed (F := F) (x1 := a1) (x2 := a2) (x3 := a3) (x4 := a4) (x5 := a5) hF7 hpC_cl (fun _ => rfl) (th_in (clSf true false) T) r0 I1 M et
  have r1 : ρ1 n = 12 := by rw [(X.1 n (by rw [r0]; decide)).1]; exact r0
  obtain ⟨P2, J2, t2, m1⟩ := back o.2 ρ1 c1 X T1 r1 M2
  obtain ⟨B3, M3, back3⟩ := j_r (b := true) (l := false) (d := (0, 0)) T1 r1 m1 I2 J2
  obtain ⟨v, ev, ⟨ρ4, c4, X4, T4, P4, M4, _⟩, q2⟩ := rw_feed (x1 := a1) (x2 := a2) (x3 := a3) (x4 := a4) (x5 := a5) hF7 hpR_rf (fun _ _ => rfl) (th_in (rfSf true false) T1) m1 P2 M3
  obtain ⟨I5, J5, t5, r5, m5⟩ := back3 v.2 ρ4 c4 X4 T4 M4
  obtain ⟨t', et', _⟩ := thR T1 r1 (i := 0) (k2 := 10) rfl (by decide)
  have q1 := q1 t' et'
  have t2' : hI o.2 m 1 = hI h m 1 := t2
  rw [t2', ← tp.1 t et] at q2
  unfold FdR at q2
  obtain ⟨b1, b2⟩ := t5 t' et'
  have ans : o.1 = v.1 ∧ (hI o.2 t' 1).toInt = (hI v.2 m 1).toInt := by
    rcases q1 with ⟨x1, x2, x3⟩ | ⟨x1, x2, x3⟩
    · rcases q2 with ⟨y1, y2, y3⟩ | ⟨y1, y2, y3⟩
      · exact ⟨Int32.toInt_inj.mp (by rw [x2, y2]), by rw [x3, y3]⟩
      · omega
    · rcases q2 with ⟨y1, y2, y3⟩ | ⟨y1, y2, y3⟩
      · omega
      · exact ⟨by rw [x2, y2], by rw [x3, y3]⟩
  refine ⟨o.1, o.2, v.2, eo, by rw [ans.1]; exact ev, ρ4, c4, T4, r5, m5, I5, P4, J5, fun u eu => ?_, ?_, lr_pair T r0 rm X T1 (ex_f T1 X4 T4) tp.2.2⟩
  · have y : u = t' := r_eq b1 eu
    subst y
    rw [b2]
    exact Int32.toInt_inj.mp ans.2
  -- the bytes
  have f1 := exm_f T X T1
  have f2 := ex_f T1 X4 T4
  have up : ∀ {a k : Nat}, ρ a = k → ¬ k = 0 → ρ1 a = k := fun {a k} q z => by rw [(X.1 a (by rw [q]; exact z)).1]; exact q
  obtain ⟨bt, ebt, qbt⟩ := thR T qt (i := 0) (k2 := 49) rfl (by decide)
  obtain ⟨x1, ex1, qx1⟩ := thR T rm (i := 0) (k2 := 82) rfl (by decide)
  have nb : ¬ bt = t := fun z => by rw [z, qt] at qbt; exact absurd qbt (by decide)
  have nt : ¬ m = x1 := fun z => by rw [← z, rm] at qx1; exact absurd qx1 (by decide)
  have i0 : Rg 0 1200 (hI h t 1) := thI T qt (k := 10) (i := 1) rfl
  have N1 : hN h bt = 1200 := M.2 t bt et ebt
  have ex2 : hR o.2 m 0 = some x1 := by rw [(fr_RI f1 rm (by decide) (fun _ => rfl)).2.2]; exact ex1
  have lm : hI o.2 m 1 = hI h t 1 := by rw [t2', tp.1 t et]
  have fl := feed_l et ebt nb N1 i0 eo
  have en : hR o.2 n 0 = some t := by
    rcases fl with ⟨_, _, _, z⟩ | ⟨_, _, z⟩
    · exact z
    · rw [z]; exact et
  have y' : t' = t := r_eq en et'
  intro ta' bta xa a1 a2 a3 i hi
  have c1' : ta' = t := by rw [← y']; exact r_eq b1 a1
  rw [c1'] at a2
  have c2' : bta = bt := r_eq (by rw [(fr_RI f2 (up qt (by decide)) (by decide) (fun _ => rfl)).2.2, (fr_RI f1 qt (by decide) (fun _ => rfl)).2.2]; exact ebt) a2
  have c3' : xa = x1 := r_eq (by rw [(fr_RI f2 (up rm (by decide)) (by decide) (fun _ => rfl)).2.2]; exact ex2) a3
  rw [c2', c3', (fr_RI f2 (up qbt (by decide)) (by decide) (fun _ => rfl)).1]
  have ox : ∀ i, hI o.2 x1 i = hI h x1 i := fun i => (fr_RI f1 qx1 (by decide) (fun _ => rfl)).1
  have i00 := i0.1
  have tb := tp.2.1 t bt x1 et ebt ex1
  have lh : (hI h m 1).toInt = (hI h t 1).toInt := by rw [tp.1 t et]
  rcases fl with ⟨l20, _, _, _⟩ | ⟨l20, _, z⟩
  · obtain ⟨u1, u2⟩ := feed_c et ebt nb N1 i0 l20 eo
    obtain ⟨v1, v2⟩ := feed_r nt ex2 (by rw [lm]; exact i00) (by rw [lm]; exact l20) ev
    rw [lm] at v1 v2
    have lv : (hI v.2 m 1).toInt = (hI h t 1).toInt + 20 := by
      rcases q2 with ⟨_, _, y3⟩ | ⟨y1, _, _⟩
      · exact y3
      · omega
    rw [lv] at hi
    by_cases w : i < (hI h t 1).toInt.toNat
    · rw [v2 i w, u2 i w, ox i]
      exact tb i (by omega)
    · have e20 : i = (hI h t 1).toInt.toNat + (i - (hI h t 1).toInt.toNat) := by omega
      have k20 : i - (hI h t 1).toInt.toNat < 20 := by omega
      rw [e20, v1 _ k20, u1 _ k20]
      exact sg_b (cb_m _ (Nat.mod_lt _ (by decide)))
  · have lv : (hI v.2 m 1).toInt = (hI h t 1).toInt := by
      rcases q2 with ⟨y1, _, _⟩ | ⟨_, _, y3⟩
      · omega
      · exact y3
    have ve : v.2 = o.2 := by
      have z20 : (20 : Int32).toInt = 20 := rfl
      have zb : (1200 : Int32).toInt = 1200 := rfl
      have i02 := i0.2
      have ev' := ev
      unfold sX15_feed at ev'
      replace ev' := br_s ev'
      rcases ev' with ⟨q, _⟩ | ⟨_, ev'⟩
      · have q := le_i q
        rw [lm, ta (by rw [z20]; omega), z20, zb] at q
        omega
      · rw [← Option.some.inj ev']
    rw [ve, ox i, z]
    exact tb i (by omega)
theorem pr_end (hF : 2000000 ≤ F) (I : SI n m L h) : St (fun h => sX11_end h n a1) (fun h => sX15_end h m a1) h (SI n m L) := by
  have hF7 : 700000 ≤ F := by omega
  obtain ⟨ρ, c, T, r0, rm, I1, P, J, tp⟩ := I
  obtain ⟨B, M, back⟩ := j_c (b := false) (l := false) T r0 rm P J
  obtain ⟨t, et, qt⟩ := thR T r0 (i := 0) (k2 := 10) rfl (by decide)
  obtain ⟨o, eo, ⟨ρ1, c1, X, T1, I2, M2, _⟩, q1⟩ := cw_end (F := F) (x1 := a1) hF7 hpC_cl (th_in (clSf false false) T) r0 I1 M et
  have r1 : ρ1 n = 12 := by rw [(X.1 n (by rw [r0]; decide)).1]; exact r0
  obtain ⟨P2, J2, t2, m1⟩ := back o.2 ρ1 c1 X T1 r1 M2
  obtain ⟨B3, M3, back3⟩ := j_r (b := false) (l := false) (d := (0, 0)) T1 r1 m1 I2 J2
  obtain ⟨v, ev, ⟨ρ4, c4, X4, T4, P4, M4, _⟩, q2⟩ := rw_end (F := F) (x1 := a1) hF7 hpR_rf (th_in (rfSf false false) T1) m1 P2 M3
  obtain ⟨I5, J5, t5, r5, m5⟩ := back3 v.2 ρ4 c4 X4 T4 M4
  obtain ⟨t', et', _⟩ := thR T1 r1 (i := 0) (k2 := 10) rfl (by decide)
  have q1 := q1 t' et'
  have t2' : hI o.2 m 1 = hI h m 1 := t2
  rw [t2', ← tp.1 t et] at q2
  unfold EdR at q2
  obtain ⟨b1, b2⟩ := t5 t' et'
  have ans : o.1 = v.1 ∧ (hI o.2 t' 1).toInt = (hI v.2 m 1).toInt := by
    rcases q1 with ⟨x1, x1', x2, x3⟩ | ⟨x1, x2, x3⟩
    · rcases q2 with ⟨y1, y1', y2, y3⟩ | ⟨y1, y2, y3⟩
      · exact ⟨by rw [x2, y2], by rw [x3, y3]⟩
      · exact absurd ⟨x1, x1'⟩ y1
    · rcases q2 with ⟨y1, y1', y2, y3⟩ | ⟨y1, y2, y3⟩
      · exact absurd ⟨y1, y1'⟩ x1
      · exact ⟨by rw [x2, y2], by rw [x3, y3]⟩
  refine ⟨o.1, o.2, v.2, eo, by rw [ans.1]; exact ev, ρ4, c4, T4, r5, m5, I5, P4, J5, fun u eu => ?_, ?_, lr_pair T r0 rm X T1 (ex_f T1 X4 T4) tp.2.2⟩
  · have y : u = t' := r_eq b1 eu
    subst y
    rw [b2]
    exact Int32.toInt_inj.mp ans.2
  have en : hR o.2 n 0 = some t := by
    rcases end_l et eo with ⟨_, _, _, _, z⟩ | ⟨_, _, z⟩
    · exact z
    · rw [z]; exact et
  have y' : t' = t := r_eq en et'
  have lh : (hI h m 1).toInt = (hI h t 1).toInt := by rw [tp.1 t et]
  refine tb_k rfl rfl T r0 rm X T1 (ex_f T1 X4 T4) (fun u eu => by rw [r_eq et eu, ← y']; exact b1) ?_ tp.2.1
  rw [lh]
  rcases q2 with ⟨_, y2, _, y3⟩ | ⟨_, _, y3⟩
  · rw [y3]; exact y2
  · rw [y3]; exact Int.le_refl _
end
end
section
/-! rules: answers alike, laws alike -/
theorem pr_rulesE {n m F : Nat} {L : Nat × Nat} {h : Hp} (hF : 2000000 ≤ F) (I : SI n m L h) : St (fun h => sX11_rules F h n) (fun h => sX15_rules F h m) h (SI n m L) := by
  have hF7 : 700000 ≤ F := by omega
  obtain ⟨ρ, c, T, r0, rm, I1, P, J, tp, tb, lr, dl, mf⟩ := I
  obtain ⟨B, M, back⟩ := j_c (b := false) (l := true) T r0 rm P J
  obtain ⟨a, ea, ρ1, c1, X, T1, I2, M2, tq⟩ := cw_rules hF7 hpC_cl hlC_cl (th_in (clSf false true) T) r0 I1 M
  have r1 : ρ1 n = 12 := by rw [(X.1 n (by rw [r0]; decide)).1]; exact r0
  obtain ⟨P2, J2, t2, m1⟩ := back a.2 ρ1 c1 X T1 r1 M2
  obtain ⟨B3, M3, back3⟩ := j_r (b := false) (l := true) (d := (0, 0)) T1 r1 m1 I2 J2
  obtain ⟨b, eb, ρ4, c4, X4, T4', P4, M4, t4⟩ := rw_rules hF7 hpR_rf hlR_rf (th_in (rfSf false true) T1) m1 P2 M3
  obtain ⟨I5, J5, t5, r5, m5⟩ := back3 b.2 ρ4 c4 X4 T4' M4
  have f := exm_f T X T1
  have f2 := ex_f T1 X4 T4'
  have up : ∀ {a k : Nat}, ρ a = k → ¬ k = 0 → ρ1 a = k := fun {a k} q n => by rw [(X.1 a (by rw [q]; exact n)).1]; exact q
  have key : a.1 = b.1 ∧ LwA n m b.2 ∧ DL m b.2 ∧ MFq m b.2 := by
    obtain ⟨rd, erd, qrd⟩ := thR T r0 (i := 4) (k2 := 3) rfl (by decide)
    obtain ⟨t, et, qt⟩ := thR T r0 (i := 0) (k2 := 10) rfl (by decide)
    obtain ⟨L3, e3, q3⟩ := thR T r0 (i := 3) (k2 := 2) rfl (by decide)
    obtain ⟨L2, e2, q2⟩ := thR T r0 (i := 2) (k2 := 2) rfl (by decide)
    obtain ⟨x1, ex1, qx1⟩ := thR T rm (i := 0) (k2 := 82) rfl (by decide)
    have wL : cw c L2 = 2102 := kid_w T r0 (i := 2) (w := 2102) rfl (by decide) e2
    have ex2 : hR a.2 m 0 = some x1 := by rw [(fr_RI f rm (by decide) (fun _ => rfl)).2.2]; exact ex1
    obtain ⟨lw, elw, qlw⟩ := thR T1 m1 (i := 5) (k2 := 15) rfl (by decide)
    obtain ⟨l4, el4, ql4⟩ := thR T1 m1 (i := 4) (k2 := 15) rfl (by decide)
    have l1 : hI a.2 m 1 = hI h m 1 := (fr_RI f rm (by decide) (fun _ => rfl)).1
    have i2 : Rg 0 1200 (hI a.2 m 1) := thI T1 m1 rfl
    have by1 : ∀ i, hI a.2 x1 i = hI h x1 i := fun i => (fr_RI f qx1 (by decide) (fun _ => rfl)).1
    have el4' : hR h m 4 = some l4 := by rw [← (fr_RI f rm (by decide) (fun _ => rfl)).2.2]; exact el4
    have elw' : hR h m 5 = some lw := by rw [← (fr_RI f rm (by decide) (fun _ => rfl)).2.2]; exact elw
    have ql4' : ρ l4 = 15 := rr T (thR T rm (i := 4) (k2 := 15) rfl (by decide)) el4'
    have qlw' : ρ lw = 15 := rr T (thR T rm (i := 5) (k2 := 15) rfl (by decide)) elw'
    obtain ⟨o', ei, R⟩ := rru_q hF7 (hpR_rf (b := false) (l := true)) hlR_rf (th_in (rfSf false true) T1) m1 ex2 el4 elw eb
    obtain ⟨o4, e4, C⟩ := cru_q (c := cat c (fS RUC []) h) hF7 fs_a (th_in _ T) r0 I1 erd et e3 e2 ea
    have tl := tp t et
    have F1 := rd_p T qrd qt q3 T1 (fun a n => (X.1 a n).1) m1 ex2 elw (by rw [l1, ← tl]) i2 (fun bt ebt i hi => by rw [by1]; exact tb t bt x1 et ebt ex1 i (by rw [← l1]; exact hi)) e4 ei
    -- references of the class stay
    have n12 : hR b.2 n 2 = some L2 := by rw [(fr_RI f2 r1 (by decide) (fun _ => rfl)).2.2, (fr_RI f r0 (by decide) (fun _ => rfl)).2.2]; exact e2
    -- the reference's reading, by its equation
    let S : Nat → Prop := fun x => x = m ∨ x = lw ∨ ∃ i, ((3 ≤ i ∧ i ≤ 9) ∨ i = 13 ∨ i = 14) ∧ hR a.2 lw i = some x
    have CS : CR S m (wI a.2 m 1 (0 : Int32)) := ⟨Or.inl rfl, fun l el => by
      have y : l = lw := r_eq elw el
      rw [y]
      exact ⟨Or.inr (Or.inl rfl), fun i r hi er => Or.inr (Or.inr ⟨i, hi, er⟩)⟩⟩
    have ks := ks_X15_isRules CS kz_0 ei
    have kR : ∀ x i, hR o'.2 x i = hR a.2 x i := fun x i => ks.1 x i
    -- the class's law behind the reference's call
    have C2 : ∀ x, lwK (ρ x) = true → ∀ i, hI b.2 x i = hI a.2 x i ∧ hJ b.2 x i = hJ a.2 x i ∧ hR b.2 x i = hR a.2 x i := fun x z i => by
      have n0 : ρ x ≠ 0 := fun q => by rw [q] at z; exact absurd z (by decide)
      have e1 : ρ1 x = ρ x := up rfl n0
      exact f2.1 x i (by rw [e1]; exact n0) (show rfSf false true (ρ1 x) (cw c1 x) i = false by rw [e1]; exact rf_lw z)
    have lwL : lwK (ρ L2) = true := by rw [q2]; rfl
    have lwA : ∀ {g : Hp} {cc : Cm} {j r : Nat}, TH ρ cc g → 14 ≤ j → j ≤ 18 → hR g L2 j = some r → lwK (ρ r) = true := fun {g cc j r} Tg h1 h2 er => by
      obtain ⟨k1, k2, k3⟩ := rf_2 j h1 h2
      have qr : ρ r = j + 13 := rr Tg (thR Tg q2 (i := j) (k2 := j + 13) k1 (by omega)) er
      rw [qr]
      unfold lwK
      rw [Bool.or_eq_true, Bool.and_eq_true, decide_eq_true_iff, decide_eq_true_iff]
      exact Or.inr ⟨by omega, by omega⟩
    rcases C with ⟨c1', c2', f4, lk⟩ | ⟨c1', T4, f4, o12, e12, c2', T12, eL12, lk⟩
    · -- a text that is wrong
      rcases F1 with ⟨_, d1, d2⟩ | ⟨d1, _, _⟩
      rotate_left
      · exact absurd c1' d1
      rcases R with ⟨_, k2, ob, mfb⟩ | ⟨k1, _⟩
      rotate_left
      · exact absurd d1 k1
      have CK : ∀ x, lwK (ρ x) = true → cw c x = 2102 → ∀ i, hI b.2 x i = hI h x i ∧ hJ b.2 x i = hJ h x i ∧ hR b.2 x i = hR h x i := fun x z w i => by
        have n0 : ρ x ≠ 0 := fun q => by rw [q] at z; exact absurd z (by decide)
        have y := f4.1 x i n0 (show rdS 2103 (ρ x) (cw c x) i = false by
          rw [w]
          rcases lw_c z with z | z | z | z | z | z | z | z <;> (rw [z]; rfl))
        have y1 := lk x z i
        have y2 := C2 x z i
        exact ⟨(y2.1.trans y1.1).trans y.1, (y2.2.1.trans y1.2.1).trans y.2.1, (y2.2.2.trans y1.2.2).trans y.2.2⟩
      -- the law in force of the reference
      have ns : ∀ x, rwK (ρ x) = true → ¬ S x → ∀ i, hI b.2 x i = hI h x i ∧ hJ b.2 x i = hJ h x i := fun x z ns i => by
        have n0 : ρ x ≠ 0 := fun q => by rw [q] at z; exact absurd z (by decide)
        have nm : ¬ x = m := fun q => ns (Or.inl q)
        have y := f.1 x i n0 (show clSf false true (ρ x) (cw c x) i = false from cl_rw z)
        rw [ob]
        refine ⟨(ks.2.1 x i ns).trans ((rI_a nm).trans y.1), (ks.2.2 x i ns).trans ?_⟩
        exact y.2.1
      have n4 : ¬ l4 = lw := (dl l4 lw el4' elw').1
      have sl4 : ¬ S l4 := fun z => by
        rcases z with z | z | ⟨i, hi, z⟩
        · rw [z, rm] at ql4'; exact absurd ql4' (by decide)
        · exact n4 z
        · have := rr T1 (thR T1 qlw (i := i) (k2 := rfK 15 i) rfl (by have := rf_15 i hi; omega)) z
          rw [ql4] at this
          have := rf_15 i hi
          omega
      have sr : ∀ {j r : Nat}, ((3 ≤ j ∧ j ≤ 9) ∨ j = 13 ∨ j = 14) → hR h l4 j = some r → rwK (ρ r) = true ∧ ¬ S r := fun {j r} hj er => by
        have k := rf_15 j hj
        have qr : ρ r = rfK 15 j := rr T (thR T ql4' (i := j) (k2 := rfK 15 j) rfl (by omega)) er
        refine ⟨?_, fun z => ?_⟩
        · rw [qr]
          unfold rwK
          rw [Bool.or_eq_true, Bool.and_eq_true, decide_eq_true_iff, decide_eq_true_iff]
          exact Or.inr ⟨by omega, by omega⟩
        · rcases z with z | z | ⟨i, hi, z⟩
          · rw [z, rm] at qr; omega
          · rw [z, qlw'] at qr; omega
          · have q1 := rr T1 (thR T1 qlw (i := i) (k2 := rfK 15 i) rfl (by have := rf_15 i hi; omega)) z
            have q1' : rfK 15 j = rfK 15 i := by rw [← q1, up qr (by omega)]
            have ij : j = i := rf_inj hj hi q1'
            rw [← ij] at z
            have z' : hR h lw j = some r := by rw [← (fr_RI f qlw' (by decide) (fun _ => rfl)).2.2]; exact z
            exact (dl l4 lw el4' elw').2 j r er z'
      have rb : ∀ x i, ρ x = 15 → hR b.2 x i = hR h x i := fun x i q => by
        rw [ob, kR, (fr_RI f q (by decide) (fun _ => rfl)).2.2]
      have mb : ∀ i, hR b.2 m i = hR h m i := fun i => by
        rw [ob, kR, (fr_RI f rm (by decide) (fun _ => rfl)).2.2]
      refine ⟨by rw [c2', k2, d2], fun L' lw' g1 g2 => ?_, fun x y g1 g2 => ?_, fun x g1 => by
        have y2 : x = l4 := r_eq (by rw [mb]; exact el4') g1
        rw [y2, mfb.1, mfb.2, (fr_RI f rm (by decide) (fun _ => rfl)).1, (fr_RI f rm (by decide) (fun _ => rfl)).1, (ns l4 (by rw [ql4']; rfl) sl4 0).1, (ns l4 (by rw [ql4']; rfl) sl4 1).1]
        exact mf l4 el4'⟩
      · have y1 : L' = L2 := r_eq n12 g1
        have y2 : lw' = l4 := r_eq (by rw [mb]; exact el4') g2
        rw [y1, y2]
        refine lawr_k (lr L2 l4 e2 el4') (fun i => (CK L2 lwL wL i).1) (CK L2 lwL wL 13).2.1 (fun i => (CK L2 lwL wL i).2.2) (fun j r h1 h2 er i => ?_) (fun i => (ns l4 (by rw [ql4']; rfl) sl4 i).1) (ns l4 (by rw [ql4']; rfl) sl4 21).2 (fun i => rb l4 i ql4') (fun j r hj er i => ?_)
        · exact (CK r (lwA T h1 h2 er) (th_ih T q2 rfl er wL) i).1
        · exact (ns r (sr hj er).1 (sr hj er).2 i).1
      · rw [mb] at g1 g2
        have y1 : x = l4 := r_eq el4' g1
        have y2 : y = lw := r_eq elw' g2
        rw [y1, y2]
        refine ⟨n4, fun i r er => ?_⟩
        rw [rb l4 i ql4'] at er
        rw [rb lw i qlw']
        exact (dl l4 lw el4' elw').2 i r er
    · -- a text that is taken
      rcases F1 with ⟨d1, _, _⟩ | ⟨_, d1, _⟩
      · exact absurd d1 c1'
      rcases R with ⟨k1, _⟩ | ⟨_, k2, b4, b5, rk, mfb⟩
      · exact absurd k1 d1
      obtain ⟨bt, ebt, qbt⟩ := thR T qt (i := 0) (k2 := 49) rfl (by decide)
      have t4 : hR o4.2 t 0 = hR h t 0 := (fr_RI f4 qt (by decide) (fun _ => rfl)).2.2
      have n4 : hI o4.2 t 1 = hI h t 1 := (fr_RI f4 qt (by decide) (fun _ => rfl)).1
      have F2 := rd_p T4 qrd qt q2 T1 (fun a n => (X.1 a n).1) m1 ex2 elw (by rw [n4, l1, ← tl]) i2 (fun bt' ebt' i hi => by
        have y : bt' = bt := r_eq (by rw [t4]; exact ebt) ebt'
        rw [y, by1, (fr_RI f4 qbt (by decide) (fun _ => rfl)).1]
        exact tb t bt x1 et ebt ex1 i (by rw [← l1]; exact hi)) e12 ei
      rcases F2 with ⟨_, d2, _⟩ | ⟨_, _, R2⟩
      · exact absurd d2 d1
      have CK : ∀ x, lwK (ρ x) = true → ∀ i, hI b.2 x i = hI o12.2 x i ∧ hJ b.2 x i = hJ o12.2 x i ∧ hR b.2 x i = hR o12.2 x i := fun x z i => by
        have y1 := lk x z i
        have y2 := C2 x z i
        exact ⟨y2.1.trans y1.1, y2.2.1.trans y1.2.1, y2.2.2.trans y1.2.2⟩
      have rb : ∀ x i, ρ x = 15 → hR b.2 x i = hR h x i := fun x i q => by
        rw [(rk x (by rw [up q (by decide)]; rfl) i).2.2, kR, (fr_RI f q (by decide) (fun _ => rfl)).2.2]
      have wl : rwK (ρ1 lw) = true := by rw [qlw]; rfl
      refine ⟨?_, fun L' lw' g1 g2 => ?_, fun x y g1 g2 => ?_, fun x g1 => by
        rw [r_eq b4 g1]; exact mfb⟩
      · obtain ⟨Z, ⟨⟨z2, _⟩, ⟨z15, _⟩, _⟩, Q, _⟩ := R2
        have := Q (3, 2) (by decide)
        rw [z2, z15] at this
        rw [c2', k2]; exact this
      · have y1 : L' = L2 := r_eq n12 g1
        have y2 : lw' = lw := r_eq b4 g2
        rw [y1, y2]
        refine lawr_k R2 (fun i => (CK L2 lwL i).1) (CK L2 lwL 13).2.1 (fun i => (CK L2 lwL i).2.2) (fun j r h1 h2 er i => (CK r (lwA T12 h1 h2 er) i).1) (fun i => (rk lw wl i).1) (rk lw wl 21).2.1 (fun i => (rk lw wl i).2.2) (fun j r hj er i => ?_)
        have k := rf_15 j hj
        rw [kR] at er
        have qr : ρ1 r = rfK 15 j := rr T1 (thR T1 qlw (i := j) (k2 := rfK 15 j) rfl (by omega)) er
        refine (rk r ?_ i).1
        rw [qr]
        unfold rwK
        rw [Bool.or_eq_true, Bool.and_eq_true, decide_eq_true_iff, decide_eq_true_iff]
        exact Or.inr ⟨by omega, by omega⟩
      · have y1 : x = lw := r_eq b4 g1
        have y2 : y = l4 := r_eq b5 g2
        rw [y1, y2]
        obtain ⟨d1', d2'⟩ := dl l4 lw el4' elw'
        refine ⟨fun z => d1' z.symm, fun i r er er' => ?_⟩
        rw [rb lw i qlw'] at er
        rw [rb l4 i ql4'] at er'
        exact d2' i r er' er
  refine ⟨a.1, a.2, b.2, ea, by rw [key.1]; exact eb, ρ4, c4, T4', r5, m5, I5, P4, J5, fun t et => ?_, fun _ _ _ _ _ _ i hi => ?_, key.2⟩
  · obtain ⟨t0, et0, _⟩ := thR T1 r1 (i := 0) (k2 := 10) rfl (by decide)
    obtain ⟨b1, b2⟩ := t5 t0 et0
    have y : t = t0 := r_eq b1 et
    subst y
    have t4' : hI b.2 m 1 = 0 := t4
    rw [b2, t4']
    exact tq t et0
  · have t4' : hI b.2 m 1 = 0 := t4
    have z0 : (0 : Int32).toInt = 0 := rfl
    rw [t4', z0] at hi
    omega
end
