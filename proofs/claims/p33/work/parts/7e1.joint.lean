/-! the room of both sides together -/
def dP (n : Nat) (h : Hp) (k : Nat) : Prop := ∃ r, hR h n 15 = some r ∧ nuC h r 2408 = k
def dQ (n : Nat) (h : Hp) (k : Nat) : Prop := ∃ e a, hR h n 10 = some e ∧ hR h e 11 = some a ∧ (if hN h a = 600000 then 0 else 1) = k
def capC (n : Nat) (h : Hp) : Prop := ∀ t b, hR h n 0 = some t → hR h t 0 = some b → hN h b = 1200
section
variable {ρ ρ1 : Nat → Nat} {c c1 : Cm} {h o : Hp} {S : Nat → Nat → Nat → Bool} {n m : Nat} {B L : Nat × Nat}
theorem rmc_i {kp ke : Nat} (M : RmC n B h) (hp : dP n h kp) (hq : dQ n h ke) : (h.1.1 + 6 * kp + 3 * ke ≤ B.1 ∧ h.1.2 + 83 * kp + 1800000 * ke ≤ B.2) ∧ capC n h := by
  obtain ⟨r, er, qr⟩ := hp
  obtain ⟨e, a, ee, ea, qa⟩ := hq
  have := M.1 r e a er ee ea
  rw [qr] at this
  refine ⟨?_, M.2⟩
  by_cases z : hN h a = 600000
  · rw [if_pos z] at qa this; rw [if_pos z] at this; omega
  · rw [if_neg z] at qa this; rw [if_neg z] at this; omega
theorem rmc_o {kp ke : Nat} (hp : dP n h kp) (hq : dQ n h ke) (q : h.1.1 + 6 * kp + 3 * ke ≤ B.1 ∧ h.1.2 + 83 * kp + 1800000 * ke ≤ B.2) (cp : capC n h) : RmC n B h := by
  obtain ⟨r, er, qr⟩ := hp
  obtain ⟨e, a, ee, ea, qa⟩ := hq
  refine ⟨fun r' e' a' er' ee' ea' => ?_, cp⟩
  have y1 := r_eq er er'
  have y2 := r_eq ee ee'
  subst y1; subst y2
  have y3 := r_eq ea ea'
  subst y3
  rw [qr]
  by_cases z : hN h a' = 600000
  · rw [if_pos z] at qa; rw [if_pos z, if_pos z]; omega
  · rw [if_neg z] at qa; rw [if_neg z, if_neg z]; omega
theorem dp_i (T : TH ρ c h) (r0 : ρ n = 12) : ∃ k, dP n h k := by
  obtain ⟨r, er, qr⟩ := thR T r0 (i := 15) (k2 := 59) rfl (by decide)
  exact ⟨_, r, er, rfl⟩
theorem dq_i (T : TH ρ c h) (r0 : ρ n = 12) : ∃ k, dQ n h k := by
  obtain ⟨e, ee, qe⟩ := thR T r0 (i := 10) (k2 := 1) rfl (by decide)
  obtain ⟨a, ea, qa⟩ := thR T qe (i := 11) (k2 := 24) rfl (by decide)
  exact ⟨_, e, a, ee, ea, rfl⟩
theorem dp_f {k : Nat} (T : TH ρ c h) (r0 : ρ n = 12) (f : Fr ρ (cat c S h) h o) (s : ∀ w, S 12 w 15 = false) (t : ∀ w i, S 59 w i = false) (d : dP n h k) : dP n o k := by
  obtain ⟨a, ea, qa⟩ := d
  have q := rr T (thR T r0 (i := 15) (k2 := 59) rfl (by decide)) ea
  exact ⟨a, by rw [(fr_RI f r0 (by decide) s).2.2]; exact ea, by rw [nuC_eq 2408 (fun i _ => (fr_RI f q (by decide) (fun w => t w i)).2.2)]; exact qa⟩
theorem dq_f {k : Nat} (T : TH ρ c h) (r0 : ρ n = 12) (f : Fr ρ (cat c S h) h o) (s : ∀ w, S 12 w 10 = false) (t : ∀ w, S 1 w 11 = false) (d : dQ n h k) : dQ n o k := by
  obtain ⟨e, a, ee, ea, qa⟩ := d
  have qe := rr T (thR T r0 (i := 10) (k2 := 1) rfl (by decide)) ee
  have qa' := rr T (thR T qe (i := 11) (k2 := 24) rfl (by decide)) ea
  exact ⟨e, a, by rw [(fr_RI f r0 (by decide) s).2.2]; exact ee, by rw [(fr_RI f qe (by decide) t).2.2]; exact ea, by rw [f.2 a (by rw [qa']; decide)]; exact qa⟩
theorem cap_f (T : TH ρ c h) (r0 : ρ n = 12) (f : Fr ρ (cat c S h) h o) (s : ∀ w, S 12 w 0 = false) (t : ∀ w, S 10 w 0 = false) (d : capC n h) : capC n o := fun t' b et eb => by
  rw [(fr_RI f r0 (by decide) s).2.2] at et
  have qt := rr T (thR T r0 (i := 0) (k2 := 10) rfl (by decide)) et
  rw [(fr_RI f qt (by decide) t).2.2] at eb
  have qb := rr T (thR T qt (i := 0) (k2 := 49) rfl (by decide)) eb
  rw [f.2 b (by rw [qb]; decide)]
  exact d t' b et eb
/-- both sides keep to L together -/
def RmJ (n m : Nat) (L : Nat × Nat) (h : Hp) : Prop := ∃ kp ke na nd ng nf, dP n h kp ∧ dQ n h ke ∧ dA m h na ∧ dD m h nd ∧ dG m h ng ∧ dF m h nf ∧ capC n h ∧ h.1.1 + 6 * kp + 3 * ke + 5 * na + 13 * nd + 5 * ng + 5 * nf + d52 m h ≤ L.1 ∧ h.1.2 + 83 * kp + 1800000 * ke + 162 * na + 21170 * nd + 162 * ng + 162 * nf + 1500000 * d52 m h ≤ L.2
/-- for a call of the class -/
theorem j_c {b l : Bool} (T : TH ρ c h) (r0 : ρ n = 12) (rm : ρ m = 16) (P : RfI m h) (J : RmJ n m L h) : ∃ B, RmC n B h ∧ ∀ o ρ1 c1, ExM ρ (cat c (clSf b l) h) ρ1 c1 → TH ρ1 c1 o → ρ1 n = 12 → RmC n B o → RfI m o ∧ RmJ n m L o ∧ TpR m h o ∧ ρ1 m = 16 := by
  obtain ⟨kp, ke, na, nd, ng, nf, hp, hq, ha, hd, hg, hf, cp, j1, j2⟩ := J
  refine ⟨(L.1 - (5 * na + 13 * nd + 5 * ng + 5 * nf + d52 m h), L.2 - (162 * na + 21170 * nd + 162 * ng + 162 * nf + 1500000 * d52 m h)), rmc_o hp hq (by show _ ≤ L.1 - _ ∧ _ ≤ L.2 - _; omega) cp, fun o ρ1 c1 X T1 r1 M1 => ?_⟩
  obtain ⟨P1, ha', hd', hg', hf', e5, t1, m1⟩ := x_ref T X T1 rm P ha hd hg hf
  obtain ⟨kp', hp'⟩ := dp_i T1 r1
  obtain ⟨ke', hq'⟩ := dq_i T1 r1
  obtain ⟨⟨i1, i2⟩, cp'⟩ := rmc_i M1 hp' hq'
  have i1 : o.1.1 + 6 * kp' + 3 * ke' ≤ L.1 - (5 * na + 13 * nd + 5 * ng + 5 * nf + d52 m h) := i1
  have i2 : o.1.2 + 83 * kp' + 1800000 * ke' ≤ L.2 - (162 * na + 21170 * nd + 162 * ng + 162 * nf + 1500000 * d52 m h) := i2
  refine ⟨P1, ⟨kp', ke', na, nd, ng, nf, hp', hq', ha', hd', hg', hf', cp', ?_, ?_⟩, t1, m1⟩
  · rw [e5]; omega
  · rw [e5]; omega
/-- for a call of the reference -/
theorem j_r {b l : Bool} {d : Nat × Nat} (T : TH ρ c h) (r0 : ρ n = 12) (rm : ρ m = 16) (I : ClI ρ c n h) (J : RmJ n m L h) : ∃ B, RmR m B h ∧ ∀ o ρ1 c1, Ext ρ (cat c (rfSf b l) h) ρ1 c1 → TH ρ1 c1 o → RmR m (B.1 + d.1, B.2 + d.2) o → ClI ρ1 c1 n o ∧ RmJ n m (L.1 + d.1, L.2 + d.2) o ∧ Tp n h o ∧ ρ1 n = 12 ∧ ρ1 m = 16 := by
  obtain ⟨kp, ke, na, nd, ng, nf, hp, hq, ha, hd, hg, hf, cp, j1, j2⟩ := J
  refine ⟨(L.1 - (6 * kp + 3 * ke), L.2 - (83 * kp + 1800000 * ke)), rm_o ha hd hg hf (by show _ ≤ L.1 - _ ∧ _ ≤ L.2 - _; omega), fun o ρ1 c1 X T1 M1 => ?_⟩
  obtain ⟨I1, t1, r1⟩ := x_cls T X T1 r0 I
  have f := ex_f T X T1
  have m1 : ρ1 m = 16 := by rw [(X.1 m (by rw [rm]; decide)).1]; exact rm
  obtain ⟨na', ha'⟩ := da_i T1 m1
  obtain ⟨nd', hd'⟩ := dd_i T1 m1
  obtain ⟨ng', hg'⟩ := dg_i T1 m1
  obtain ⟨nf', hf'⟩ := df_i T1 m1
  obtain ⟨i1, i2⟩ := rm_i M1 ha' hd' hg' hf'
  have i1 : o.1.1 + 5 * na' + 13 * nd' + 5 * ng' + 5 * nf' + d52 m o ≤ L.1 - (6 * kp + 3 * ke) + d.1 := i1
  have i2 : o.1.2 + 162 * na' + 21170 * nd' + 162 * ng' + 162 * nf' + 1500000 * d52 m o ≤ L.2 - (83 * kp + 1800000 * ke) + d.2 := i2
  refine ⟨I1, ⟨kp, ke, na', nd', ng', nf', dp_f T r0 f (fun _ => rfl) (fun _ _ => rfl) hp, dq_f T r0 f (fun _ => rfl) (fun _ => rfl) hq, ha', hd', hg', hf', cap_f T r0 f (fun _ => rfl) (fun _ => rfl) cp, ?_, ?_⟩, t1, r1, m1⟩
  · show _ ≤ L.1 + d.1; omega
  · show _ ≤ L.2 + d.2; omega
end
