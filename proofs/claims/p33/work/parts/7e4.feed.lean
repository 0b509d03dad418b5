/-! feed and end: equal answers -/
section
variable {n m F : Nat} {L : Nat × Nat} {h : Hp} {a1 a2 a3 a4 a5 : Int32}
theorem pr_feed (hF : 2000000 ≤ F) (I : SI n m L h) : St (fun h => sX11_feed h n a1 a2 a3 a4 a5) (fun h => sX15_feed F h m a1 a2 a3 a4 a5) h (SI n m L) := by
  have hF7 : 700000 ≤ F := by omega
  obtain ⟨ρ, c, T, r0, rm, I1, P, J, tp⟩ := I
  obtain ⟨B, M, back⟩ := j_c (b := true) (l := false) T r0 rm P J
  obtain ⟨t, et, qt⟩ := thR T r0 (i := 0) (k2 := 10) rfl (by decide)
  obtain ⟨o, eo, ⟨ρ1, c1, X, T1, I2, M2, _⟩, q1⟩ := cw_feed (F := F) (x1 := a1) (x2 := a2) (x3 := a3) (x4 := a4) (x5 := a5) hF7 hpC_cl (fun _ => rfl) (th_in (clSf true false) T) r0 I1 M et
  have r1 : ρ1 n = 12 := by rw [(X.1 n (by rw [r0]; decide)).1]; exact r0
  obtain ⟨P2, J2, t2, m1⟩ := back o.2 ρ1 c1 X T1 r1 M2
  obtain ⟨B3, M3, back3⟩ := j_r (b := true) (l := false) (d := (0, 0)) T1 r1 m1 I2 J2
  obtain ⟨v, ev, ⟨ρ4, c4, X4, T4, P4, M4, _⟩, q2⟩ := rw_feed (x1 := a1) (x2 := a2) (x3 := a3) (x4 := a4) (x5 := a5) hF7 hpR_rf (fun _ _ => rfl) (th_in (rfSf true false) T1) m1 P2 M3
  obtain ⟨I5, J5, t5, r5, m5⟩ := back3 v.2 ρ4 c4 X4 T4 M4
  obtain ⟨t', et', _⟩ := thR T1 r1 (i := 0) (k2 := 10) rfl (by decide)
  have q1 := q1 t' et'
  have t2' : hI o.2 m 1 = hI h m 1 := t2
  rw [t2', ← tp.1 t et] at q2
  unfold FdR at q2
  obtain ⟨b1, b2⟩ := t5 t' et'
  have ans : o.1 = v.1 ∧ (hI o.2 t' 1).toInt = (hI v.2 m 1).toInt := by
    rcases q1 with ⟨x1, x2, x3⟩ | ⟨x1, x2, x3⟩
    · rcases q2 with ⟨y1, y2, y3⟩ | ⟨y1, y2, y3⟩
      · exact ⟨Int32.toInt_inj.mp (by rw [x2, y2]), by rw [x3, y3]⟩
      · omega
    · rcases q2 with ⟨y1, y2, y3⟩ | ⟨y1, y2, y3⟩
      · omega
      · exact ⟨by rw [x2, y2], by rw [x3, y3]⟩
  refine ⟨o.1, o.2, v.2, eo, by rw [ans.1]; exact ev, ρ4, c4, T4, r5, m5, I5, P4, J5, fun u eu => ?_, ?_, lr_pair T r0 rm X T1 (ex_f T1 X4 T4) tp.2.2⟩
  · have y : u = t' := r_eq b1 eu
    subst y
    rw [b2]
    exact Int32.toInt_inj.mp ans.2
  -- the bytes
  have f1 := exm_f T X T1
  have f2 := ex_f T1 X4 T4
  have up : ∀ {a k : Nat}, ρ a = k → ¬ k = 0 → ρ1 a = k := fun {a k} q z => by rw [(X.1 a (by rw [q]; exact z)).1]; exact q
  obtain ⟨bt, ebt, qbt⟩ := thR T qt (i := 0) (k2 := 49) rfl (by decide)
  obtain ⟨x1, ex1, qx1⟩ := thR T rm (i := 0) (k2 := 82) rfl (by decide)
  have nb : ¬ bt = t := fun z => by rw [z, qt] at qbt; exact absurd qbt (by decide)
  have nt : ¬ m = x1 := fun z => by rw [← z, rm] at qx1; exact absurd qx1 (by decide)
  have i0 : Rg 0 1200 (hI h t 1) := thI T qt (k := 10) (i := 1) rfl
  have N1 : hN h bt = 1200 := M.2 t bt et ebt
  have ex2 : hR o.2 m 0 = some x1 := by rw [(fr_RI f1 rm (by decide) (fun _ => rfl)).2.2]; exact ex1
  have lm : hI o.2 m 1 = hI h t 1 := by rw [t2', tp.1 t et]
  have fl := feed_l et ebt nb N1 i0 eo
  have en : hR o.2 n 0 = some t := by
    rcases fl with ⟨_, _, _, z⟩ | ⟨_, _, z⟩
    · exact z
    · rw [z]; exact et
  have y' : t' = t := r_eq en et'
  intro ta' bta xa a1 a2 a3 i hi
  have c1' : ta' = t := by rw [← y']; exact r_eq b1 a1
  rw [c1'] at a2
  have c2' : bta = bt := r_eq (by rw [(fr_RI f2 (up qt (by decide)) (by decide) (fun _ => rfl)).2.2, (fr_RI f1 qt (by decide) (fun _ => rfl)).2.2]; exact ebt) a2
  have c3' : xa = x1 := r_eq (by rw [(fr_RI f2 (up rm (by decide)) (by decide) (fun _ => rfl)).2.2]; exact ex2) a3
  rw [c2', c3', (fr_RI f2 (up qbt (by decide)) (by decide) (fun _ => rfl)).1]
  have ox : ∀ i, hI o.2 x1 i = hI h x1 i := fun i => (fr_RI f1 qx1 (by decide) (fun _ => rfl)).1
  have i00 := i0.1
  have tb := tp.2.1 t bt x1 et ebt ex1
  have lh : (hI h m 1).toInt = (hI h t 1).toInt := by rw [tp.1 t et]
  rcases fl with ⟨l20, _, _, _⟩ | ⟨l20, _, z⟩
  · obtain ⟨u1, u2⟩ := feed_c et ebt nb N1 i0 l20 eo
    obtain ⟨v1, v2⟩ := feed_r nt ex2 (by rw [lm]; exact i00) (by rw [lm]; exact l20) ev
    rw [lm] at v1 v2
    have lv : (hI v.2 m 1).toInt = (hI h t 1).toInt + 20 := by
      rcases q2 with ⟨_, _, y3⟩ | ⟨y1, _, _⟩
      · exact y3
      · omega
    rw [lv] at hi
    by_cases w : i < (hI h t 1).toInt.toNat
    · rw [v2 i w, u2 i w, ox i]
      exact tb i (by omega)
    · have e20 : i = (hI h t 1).toInt.toNat + (i - (hI h t 1).toInt.toNat) := by omega
      have k20 : i - (hI h t 1).toInt.toNat < 20 := by omega
      rw [e20, v1 _ k20, u1 _ k20]
      exact sg_b (cb_m _ (Nat.mod_lt _ (by decide)))
  · have lv : (hI v.2 m 1).toInt = (hI h t 1).toInt := by
      rcases q2 with ⟨y1, _, _⟩ | ⟨_, _, y3⟩
      · omega
      · exact y3
    have ve : v.2 = o.2 := by
      have z20 : (20 : Int32).toInt = 20 := rfl
      have zb : (1200 : Int32).toInt = 1200 := rfl
      have i02 := i0.2
      have ev' := ev
      unfold sX15_feed at ev'
      replace ev' := br_s ev'
      rcases ev' with ⟨q, _⟩ | ⟨_, ev'⟩
      · have q := le_i q
        rw [lm, ta (by rw [z20]; omega), z20, zb] at q
        omega
      · rw [← Option.some.inj ev']
    rw [ve, ox i, z]
    exact tb i (by omega)
theorem pr_end (hF : 2000000 ≤ F) (I : SI n m L h) : St (fun h => sX11_end h n a1) (fun h => sX15_end h m a1) h (SI n m L) := by
  have hF7 : 700000 ≤ F := by omega
  obtain ⟨ρ, c, T, r0, rm, I1, P, J, tp⟩ := I
  obtain ⟨B, M, back⟩ := j_c (b := false) (l := false) T r0 rm P J
  obtain ⟨t, et, qt⟩ := thR T r0 (i := 0) (k2 := 10) rfl (by decide)
  obtain ⟨o, eo, ⟨ρ1, c1, X, T1, I2, M2, _⟩, q1⟩ := cw_end (F := F) (x1 := a1) hF7 hpC_cl (th_in (clSf false false) T) r0 I1 M et
  have r1 : ρ1 n = 12 := by rw [(X.1 n (by rw [r0]; decide)).1]; exact r0
  obtain ⟨P2, J2, t2, m1⟩ := back o.2 ρ1 c1 X T1 r1 M2
  obtain ⟨B3, M3, back3⟩ := j_r (b := false) (l := false) (d := (0, 0)) T1 r1 m1 I2 J2
  obtain ⟨v, ev, ⟨ρ4, c4, X4, T4, P4, M4, _⟩, q2⟩ := rw_end (F := F) (x1 := a1) hF7 hpR_rf (th_in (rfSf false false) T1) m1 P2 M3
  obtain ⟨I5, J5, t5, r5, m5⟩ := back3 v.2 ρ4 c4 X4 T4 M4
  obtain ⟨t', et', _⟩ := thR T1 r1 (i := 0) (k2 := 10) rfl (by decide)
  have q1 := q1 t' et'
  have t2' : hI o.2 m 1 = hI h m 1 := t2
  rw [t2', ← tp.1 t et] at q2
  unfold EdR at q2
  obtain ⟨b1, b2⟩ := t5 t' et'
  have ans : o.1 = v.1 ∧ (hI o.2 t' 1).toInt = (hI v.2 m 1).toInt := by
    rcases q1 with ⟨x1, x1', x2, x3⟩ | ⟨x1, x2, x3⟩
    · rcases q2 with ⟨y1, y1', y2, y3⟩ | ⟨y1, y2, y3⟩
      · exact ⟨by rw [x2, y2], by rw [x3, y3]⟩
      · exact absurd ⟨x1, x1'⟩ y1
    · rcases q2 with ⟨y1, y1', y2, y3⟩ | ⟨y1, y2, y3⟩
      · exact absurd ⟨y1, y1'⟩ x1
      · exact ⟨by rw [x2, y2], by rw [x3, y3]⟩
  refine ⟨o.1, o.2, v.2, eo, by rw [ans.1]; exact ev, ρ4, c4, T4, r5, m5, I5, P4, J5, fun u eu => ?_, ?_, lr_pair T r0 rm X T1 (ex_f T1 X4 T4) tp.2.2⟩
  · have y : u = t' := r_eq b1 eu
    subst y
    rw [b2]
    exact Int32.toInt_inj.mp ans.2
  have en : hR o.2 n 0 = some t := by
    rcases end_l et eo with ⟨_, _, _, _, z⟩ | ⟨_, _, z⟩
    · exact z
    · rw [z]; exact et
  have y' : t' = t := r_eq en et'
  have lh : (hI h m 1).toInt = (hI h t 1).toInt := by rw [tp.1 t et]
  refine tb_k rfl rfl T r0 rm X T1 (ex_f T1 X4 T4) (fun u eu => by rw [r_eq et eu, ← y']; exact b1) ?_ tp.2.1
  rw [lh]
  rcases q2 with ⟨_, y2, _, y3⟩ | ⟨_, _, y3⟩
  · rw [y3]; exact y2
  · rw [y3]; exact Int.le_refl _
end
