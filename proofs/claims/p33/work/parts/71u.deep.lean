/-- the board at a depth: made, with its list of moves, where it is wanting -/
theorem zX15_deepBoard {ρ : Nat → Nat} {c : Cm} {h : Hp} {x0 : Nat} {x1 : Int32} (hA : pmA c [(90, 999), (91, 999)]) (T : TH ρ c h) (r0 : ρ x0 = 16) (i1 : Rg 0 9 x1) : Sat (sX15_deepBoard h x0 x1) (fun o => ∃ ρ' c', Ext ρ c ρ' c' ∧ TH ρ' c' o.2 ∧ ρ' o.1 = 13 ∧ cw c' o.1 = 3500 + x1.toNatClampNeg) := by
  unfold sX15_deepBoard
  obtain ⟨r, er, qr⟩ := thR T r0 (i := 33) (k2 := 90) rfl (by decide)
  obtain ⟨m, em, qm⟩ := thR T r0 (i := 34) (k2 := 91) rfl (by decide)
  refine s_ref er ?_
  refine s_gd (by rw [thN T qr (k := 90) (n := 10) rfl (by decide)]; exact rg_inB i1 (by decide)) ?_
  have t1 : h.1 = c.1 := T.1.1
  cases q : hR h r x1.toNatClampNeg with
  | none =>
    show Sat (cl (hR h x0 33) _) _
    refine s_ref er ?_
    refine s_q (fun a ea => ?_)
    refine s_q (fun h8 e8 => ?_)
    subst ea
    subst e8
    unfold sX15_deepBoard_17 sX15_deepBoard_21 sX15_deepBoard_30 sX15_deepBoard_34 sX15_deepBoard_35
    refine s_cl (s_imp (newBoard T (3500 + x1.toNatClampNeg)) (fun o1 ho => ?_))
    obtain ⟨ρ1, c1, X1, T1, a1, w1, O1⟩ := ho
    have r01 := ex_r X1 r0 (by decide)
    have qr1 := ex_r X1 qr (by decide)
    have qm1 := ex_r X1 qm (by decide)
    have lt0 : x0 < h.1.1 := by rw [t1]; exact T.2.1.2.2.1 x0 (by rw [r0]; decide)
    have er1 : hR o1 x0 33 = some r := by rw [(O1 x0 lt0).2.2.1]; exact er
    have em1 : hR o1 x0 34 = some m := by rw [(O1 x0 lt0).2.2.1]; exact em
    refine s_gd (by rw [thN T1 qr1 (k := 90) (n := 10) rfl (by decide)]; exact rg_inB i1 (by decide)) ?_
    refine s_q (fun h2 e2 => ?_)
    have T2 : TH ρ1 c1 h2 := by
      rw [e2]
      exact th_wRe T1 qr1 (k2 := 13) rfl (by decide) a1 (by decide) (by decide) rfl rfl rfl w1 (ex_p X1 (pm_a hA rfl))
    have er2 : hR h2 x0 33 = some r := by rw [e2, r_R, if_neg (ne_r r01 qr1 (by decide))]; exact er1
    have em2 : hR h2 x0 34 = some m := by rw [e2, r_R, if_neg (ne_r r01 qr1 (by decide))]; exact em1
    have ee2 : hR h2 r x1.toNatClampNeg = some (hS h) := by rw [e2, r_R, if_pos ⟨rfl, rfl⟩]
    refine s_ref em2 ?_
    refine s_q (fun b eb => ?_)
    refine s_q (fun h5 e5 => ?_)
    subst eb
    subst e5
    refine s_cl (s_imp (newMoves T2 (3600 + x1.toNatClampNeg)) (fun o3 ho3 => ?_))
    obtain ⟨ρ3, c3, X3, T3, a3, w3, O3⟩ := ho3
    have r03 := ex_r X3 r01 (by decide)
    have qr3 := ex_r X3 qr1 (by decide)
    have qm3 := ex_r X3 qm1 (by decide)
    have b3 := ex_r X3 a1 (by decide)
    have v3 := ex_w X3 a1 (by decide) w1
    have t2 : h2.1 = c1.1 := T2.1.1
    have lt2 : ∀ x k, ρ1 x = k → k ≠ 0 → x < h2.1.1 := fun x k hx hk => by rw [t2]; exact T2.2.1.2.2.1 x (by rw [hx]; exact hk)
    have er3 : hR o3 x0 33 = some r := by rw [(O3 x0 (lt2 x0 _ r01 (by decide))).2.2.1]; exact er2
    have ee3 : hR o3 r x1.toNatClampNeg = some (hS h) := by rw [(O3 r (lt2 r _ qr1 (by decide))).2.2.1]; exact ee2
    refine s_gd (by rw [thN T3 qm3 (k := 91) (n := 10) rfl (by decide)]; exact rg_inB i1 (by decide)) ?_
    refine s_q (fun h6 e6 => ?_)
    have T6 : TH ρ3 c3 h6 := by
      rw [e6]
      exact th_wRe T3 qm3 (k2 := 14) rfl (by decide) a3 (by decide) (by decide) rfl rfl rfl w3 (ex_p (ex_t X1 X3) (pm_a hA rfl))
    have er6 : hR h6 x0 33 = some r := by rw [e6, r_R, if_neg (ne_r r03 qm3 (by decide))]; exact er3
    have ee6 : hR h6 r x1.toNatClampNeg = some (hS h) := by rw [e6, r_R, if_neg (ne_r qr3 qm3 (by decide))]; exact ee3
    refine s_ref er6 ?_
    refine s_gd (by rw [thN T6 qr3 (k := 90) (n := 10) rfl (by decide)]; exact rg_inB i1 (by decide)) ?_
    exact s_ref ee6 (s_some ⟨ρ3, c3, ex_t X1 X3, T6, b3, v3⟩)
  | some r4 =>
    show Sat (sX15_deepBoard_35 h x0 x1) _
    unfold sX15_deepBoard_35
    refine s_ref er ?_
    refine s_gd (by rw [thN T qr (k := 90) (n := 10) rfl (by decide)]; exact rg_inB i1 (by decide)) ?_
    exact s_ref q (s_some ⟨ρ, c, ex_0, T, thRn T qr (k2 := 13) rfl (by decide) q, th_id T qr (w := 3500 + x1.toNatClampNeg) q rfl (by omega)⟩)
