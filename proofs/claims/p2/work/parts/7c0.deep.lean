section
variable {Bq : Nat × Nat} {ρ : Nat → Nat} {c : Cm} {h o : Hp} {p wb wl : Nat → Bool} {x0 d b l w : Nat}
def DWY (Bq : Nat × Nat) (x0 : Nat) (h : Hp) : Prop := SqOk x0 h ∧ DpP x0 h ∧ Pay 33 10 13 21170 Bq x0 h
theorem dwy_p (W : DWY Bq x0 h) : DW x0 h := ⟨W.1, W.2.1⟩
theorem dw_keep0Y (T : TH ρ c h) (r0 : ρ x0 = 16) (f : Fr ρ (cat c (SX (fun _ => false) wb wl) h) h o) (W : DWY Bq x0 h) (q1 : o.1 = h.1 := by first | assumption | (apply th1e <;> assumption)) : DWY Bq x0 o := by
  have z := dw_keep0 T r0 f (dwy_p W)
  exact ⟨z.1, z.2, pay_k0 T r0 (k2 := 90) rfl (by decide) q1 (fr_RI f r0 (by decide) (fun _ => sx_f (Or.inl rfl) rfl (Or.inl rfl) (Or.inl rfl))).2.2 (fun r i qr => (fr_RI f qr (by decide) (fun _ => sx_f (Or.inr rfl) rfl (Or.inl rfl) (Or.inl rfl))).2.2) W.2.2⟩
end
section
variable {Bq : Nat × Nat} {ρ ρ1 : Nat → Nat} {c c1 : Cm} {β : Type} {Q : β → Prop} {h : Hp} {S : Nat → Nat → Nat → Bool} {lo hi : Int} {P : Hp → Prop}
end
theorem deepBY {Bq : Nat × Nat} {ρ : Nat → Nat} {c : Cm} {h : Hp} {x0 : Nat} {x1 : Int32} (h9 : (∀ w, cPm c 90 w x1.toNatClampNeg = true) ∧ ∀ w, cPm c 91 w x1.toNatClampNeg = true) (T : TH ρ c h) (r0 : ρ x0 = 16) (i1 : Rg 0 9 x1) (W : DWY Bq x0 h) : Sat (sX15_deepBoard h x0 x1) (fun o => ∃ ρ' c', Ext ρ c ρ' c' ∧ TH ρ' c' o.2 ∧ DWY Bq x0 o.2 ∧ ∃ l, Dp x0 x1.toNatClampNeg o.1 l o.2) := by
  obtain ⟨r, er, qr⟩ := thR T r0 (i := 33) (k2 := 90) rfl (by decide)
  obtain ⟨m, em, qm⟩ := thR T r0 (i := 34) (k2 := 91) rfl (by decide)
  have t1 : h.1 = c.1 := T.1.1
  cases q : hR h r x1.toNatClampNeg with
  | none =>
    unfold sX15_deepBoard
    refine s_ref er ?_
    refine s_gd (by rw [thN T qr (k := 90) (n := 10) rfl (by decide)]; exact rg_inB i1 (by decide)) ?_
    rw [q]
    show Sat (cl (hR h x0 33) _) _
    refine s_ref er ?_
    refine s_q (fun a ea => ?_)
    refine s_q (fun h8 e8 => ?_)
    subst ea
    subst e8
    unfold sX15_deepBoard_17 sX15_deepBoard_21 sX15_deepBoard_30 sX15_deepBoard_34 sX15_deepBoard_35
    refine s_dd (newBoard T (3500 + x1.toNatClampNeg)) (fun o1 eo1 ho => ?_)
    have ob1 : o1 = boH h := by rw [boH_v] at eo1; exact (Option.some.inj eo1).symm
    obtain ⟨ρ1, c1, X1, T1, a1, w1, O1⟩ := ho
    have r01 := ex_r X1 r0 (by decide)
    have qr1 := ex_r X1 qr (by decide)
    have qm1 := ex_r X1 qm (by decide)
    have lt1 : ∀ x k, ρ x = k → k ≠ 0 → x < h.1.1 := fun x k hx hk => by rw [t1]; exact T.2.1.2.2.1 x (by rw [hx]; exact hk)
    have lt0 := lt1 x0 _ r0 (by decide)
    have er1 : hR o1 x0 33 = some r := by rw [(O1 x0 lt0).2.2.1]; exact er
    have em1 : hR o1 x0 34 = some m := by rw [(O1 x0 lt0).2.2.1]; exact em
    refine s_gd (by rw [thN T1 qr1 (k := 90) (n := 10) rfl (by decide)]; exact rg_inB i1 (by decide)) ?_
    refine s_q (fun h2 e2 => ?_)
    have T2 : TH ρ1 c1 h2 := by
      rw [e2]
      exact th_wRe T1 qr1 (k2 := 13) rfl (by decide) a1 (by decide) (by decide) rfl rfl rfl w1 (ex_p X1 (h9.1 _))
    have er2 : hR h2 x0 33 = some r := by rw [e2, r_R, if_neg (ne_r r01 qr1 (by decide))]; exact er1
    have em2 : hR h2 x0 34 = some m := by rw [e2, r_R, if_neg (ne_r r01 qr1 (by decide))]; exact em1
    have rr2 : ∀ j, hR h2 r j = if j = x1.toNatClampNeg then some (hS h) else hR h r j := fun j => by
      rw [e2, r_R]
      by_cases z : j = x1.toNatClampNeg
      · rw [if_pos ⟨rfl, z⟩, if_pos z]
      · rw [if_neg (fun y => z y.2), if_neg z, (O1 r (lt1 r _ qr (by decide))).2.2.1]
    have mm2 : ∀ j, hR h2 m j = hR h m j := fun j => by
      rw [e2, r_R, if_neg (ne_r qm1 qr1 (by decide)), (O1 m (lt1 m _ qm (by decide))).2.2.1]
    have ii2 : ∀ j, hI h2 x0 j = hI h x0 j := fun j => by rw [e2]; exact (O1 x0 lt0).1 j
    refine s_ref em2 ?_
    refine s_q (fun b eb => ?_)
    refine s_q (fun h5 e5 => ?_)
    subst eb
    subst e5
    refine s_dd (newMoves T2 (3600 + x1.toNatClampNeg)) (fun o3 eo3 ho3 => ?_)
    have ob3 : o3 = moH h2 := by rw [moH_v] at eo3; exact (Option.some.inj eo3).symm
    obtain ⟨ρ3, c3, X3, T3, a3, w3, O3⟩ := ho3
    have r03 := ex_r X3 r01 (by decide)
    have qr3 := ex_r X3 qr1 (by decide)
    have qm3 := ex_r X3 qm1 (by decide)
    have t2 : h2.1 = c1.1 := T2.1.1
    have lt2 : ∀ x k, ρ1 x = k → k ≠ 0 → x < h2.1.1 := fun x k hx hk => by rw [t2]; exact T2.2.1.2.2.1 x (by rw [hx]; exact hk)
    have er3 : hR o3 x0 33 = some r := by rw [(O3 x0 (lt2 x0 _ r01 (by decide))).2.2.1]; exact er2
    have em3 : hR o3 x0 34 = some m := by rw [(O3 x0 (lt2 x0 _ r01 (by decide))).2.2.1]; exact em2
    refine s_gd (by rw [thN T3 qm3 (k := 91) (n := 10) rfl (by decide)]; exact rg_inB i1 (by decide)) ?_
    refine s_q (fun h6 e6 => ?_)
    have T6 : TH ρ3 c3 h6 := by
      rw [e6]
      exact th_wRe T3 qm3 (k2 := 14) rfl (by decide) a3 (by decide) (by decide) rfl rfl rfl w3 (ex_p (ex_t X1 X3) (h9.2 _))
    have er6 : hR h6 x0 33 = some r := by rw [e6, r_R, if_neg (ne_r r03 qm3 (by decide))]; exact er3
    have em6 : hR h6 x0 34 = some m := by rw [e6, r_R, if_neg (ne_r r03 qm3 (by decide))]; exact em3
    have rr6 : ∀ j, hR h6 r j = if j = x1.toNatClampNeg then some (hS h) else hR h r j := fun j => by
      rw [e6, r_R, if_neg (ne_r qr3 qm3 (by decide)), (O3 r (lt2 r _ qr1 (by decide))).2.2.1]; exact rr2 j
    have mm6 : ∀ j, hR h6 m j = if j = x1.toNatClampNeg then some (hS h2) else hR h m j := fun j => by
      rw [e6, r_R]
      by_cases z : j = x1.toNatClampNeg
      · rw [if_pos ⟨rfl, z⟩, if_pos z]
      · rw [if_neg (fun y => z y.2), if_neg z, (O3 m (lt2 m _ qm1 (by decide))).2.2.1]; exact mm2 j
    have ii6 : ∀ j, hI h6 x0 j = hI h x0 j := fun j => by rw [e6]; exact ((O3 x0 (lt2 x0 _ r01 (by decide))).1 j).trans (ii2 j)
    have ee6 : hR h6 r x1.toNatClampNeg = some (hS h) := by rw [rr6, if_pos rfl]
    refine s_ref er6 ?_
    refine s_gd (by rw [thN T6 qr3 (k := 90) (n := 10) rfl (by decide)]; exact rg_inB i1 (by decide)) ?_
    refine s_ref ee6 (s_some ⟨ρ3, c3, ex_t X1 X3, T6, ⟨?_, ?_, ?_⟩, hS h2, r, m, er6, em6, ee6, by rw [mm6, if_pos rfl]⟩)
    · show (hI h6 x0 13).toInt = (hI h6 x0 11).toInt * (hI h6 x0 12).toInt
      rw [ii6, ii6, ii6]; exact W.1
    · intro rb rl g1 g2 d b g3
      have y1 : rb = r := r_eq er6 g1
      have y2 : rl = m := r_eq em6 g2
      rw [y1, rr6] at g3
      rw [y2, mm6]
      by_cases z : d = x1.toNatClampNeg
      · rw [if_pos z]; exact ⟨_, rfl⟩
      · rw [if_neg z] at g3 ⊢
        exact W.2.1 r m er em d b g3
    · intro r' e'
      have y1 : r' = r := r_eq er6 e'
      subst y1
      have l60 := clamp_i i1.1
      have i59 := i1.2
      have cc := nuC_set q ee6 (fun i hi => by rw [rr6, if_neg hi]) 10 (by omega)
      have pb := W.2.2 r' er
      have h21 : h2.1 = (h.1.1 + 5, h.1.2 + 162) := by rw [e2]; show o1.1 = _; rw [ob1]; exact boH_1 h
      have h61 : h6.1 = (h2.1.1 + 8, h2.1.2 + 21008) := by rw [e6]; show o3.1 = _; rw [ob3]; exact moH_1 h2
      rw [h61, h21]
      show h.1.1 + 5 + 8 + 13 * nuC h6 r' 10 ≤ Bq.1 ∧ h.1.2 + 162 + 21008 + 21170 * nuC h6 r' 10 ≤ Bq.2
      omega
  | some b =>
    obtain ⟨l, el⟩ := W.2.1 r m er em _ b q
    have D : Dp x0 x1.toNatClampNeg b l h := ⟨r, m, er, em, q, el⟩
    exact ⟨(b, h), deep_read T r0 i1 D, ρ, c, ex_0, T, W, l, D⟩
section
variable {Bq : Nat × Nat} {ρ : Nat → Nat} {c : Cm} {β : Type} {Q : β → Prop} {h : Hp} {x0 : Nat} {x1 : Int32} {p wb wl : Nat → Bool}
theorem s_deepY {k : Nat × Hp → Option β} (hp : ∀ k w i, SX p wb wl k w i = true → cPm c k w i = true) (hi : p x1.toNatClampNeg = true) (T : TH ρ c h) (r0 : ρ x0 = 16) (i1 : Rg 0 9 x1) (W : DWY Bq x0 h) (H : ∀ o ρ1 c1 l, Ext ρ c ρ1 c1 → TH ρ1 c1 o.2 → Fr ρ (cat c (SX (is x1.toNatClampNeg) no no) h) h o.2 → DWY Bq x0 o.2 → Dp x0 x1.toNatClampNeg o.1 l o.2 → Sat (k o) Q) : Sat (cl (sX15_deepBoard h x0 x1) k) Q :=
  s_mk (g := fun (o : Nat × Hp) => o.2) (P := fun (o : Nat × Hp) (_ : Nat → Nat) (_ : Cm) => DWY Bq x0 o.2 ∧ ∃ l, Dp x0 x1.toNatClampNeg o.1 l o.2) T (fun k w i m => hp k w i (sx_sub (fun i hi' => by rw [is_e hi']; exact hi) (fun _ z => no_f z) (fun _ z => no_f z) m))
    (deepBY (sx9 (sx_c (SX (is x1.toNatClampNeg) no no)) is_s) (th_in _ T) r0 i1 W) (fun _ _ _ _ _ p => p) (fun o ρ1 c1 X T1 f ⟨p1, l, p2⟩ => H o ρ1 c1 l X T1 f p1 p2)
end
