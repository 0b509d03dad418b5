/-! a solution is worked out: each round that goes on leaves fewer open states -/
def opC (h : Hp) (r : Nat) : Nat → Nat
  | 0 => 0
  | n + 1 => opC h r n + if hI h r n = (2000000 : Int32) then 1 else 0
theorem op_le {h : Hp} {r : Nat} : ∀ n, opC h r n ≤ n := by
  intro n
  induction n with
  | zero => exact Nat.le_refl _
  | succ n ih =>
    show opC h r n + (if hI h r n = (2000000 : Int32) then 1 else 0) ≤ n + 1
    split <;> omega
theorem op_eq {h o : Hp} {r : Nat} (e : ∀ i, hI o r i = hI h r i) : ∀ n, opC o r n = opC h r n := by
  intro n
  induction n with
  | zero => rfl
  | succ n ih =>
    show opC o r n + (if hI o r n = (2000000 : Int32) then 1 else 0) = opC h r n + (if hI h r n = (2000000 : Int32) then 1 else 0)
    rw [ih, e]
theorem op_w {h o : Hp} {r j : Nat} {v : Int32} (w : o = wI h r j v) (ov : ¬ v = (2000000 : Int32)) (oj : hI h r j = (2000000 : Int32)) : ∀ n, opC o r n + (if j < n then 1 else 0) = opC h r n := by
  intro n
  induction n with
  | zero => rw [if_neg (by omega)]; rfl
  | succ n ih =>
    show opC o r n + (if hI o r n = (2000000 : Int32) then 1 else 0) + _ = opC h r n + (if hI h r n = (2000000 : Int32) then 1 else 0)
    by_cases z : n = j
    · subst z
      have e : hI o r n = v := by rw [w, r_I, if_pos ⟨rfl, rfl⟩]
      rw [e, if_neg ov, oj, if_pos rfl, if_pos (by omega)]
      rw [if_neg (by omega)] at ih
      omega
    · have e : hI o r n = hI h r n := by rw [w, r_I, if_neg (fun y => z y.2)]
      rw [e]
      by_cases q : j < n
      · rw [if_pos q] at ih
        rw [if_pos (show j < n + 1 by omega)]
        omega
      · rw [if_neg q] at ih
        rw [if_neg (show ¬ j < n + 1 by omega)]
        omega
theorem cmp_lt {x : Int32} {y : Int64} (n : ¬ 0 ≤ lg_cmp x.toInt64 y) : x.toInt < y.toInt := by
  have e : x.toInt64.toInt = x.toInt := Int32.toInt_toInt64 x
  rw [← e]
  generalize x.toInt64 = z at n
  unfold lg_cmp at n
  by_cases q : z > y
  · rw [if_pos q] at n; exact absurd (by decide) n
  · rw [if_neg q] at n
    by_cases q2 : z = y
    · rw [if_pos q2] at n; exact absurd (by decide) n
    · have q' : ¬ y < z := q
      rw [Int64.lt_iff_toInt_lt] at q'
      have : ¬ z.toInt = y.toInt := fun w => q2 (Int64.toInt_inj.mp w)
      omega
section
variable {ρ : Nat → Nat} {c : Cm} {x0 rm re rb rk rs ro rp rt rw mb km R Bc Bm F : Nat} {a : Int} {h o : Hp}
theorem workOut_q (hF : 2000000 ≤ F) (hA : pmA c EWL) (T : TH ρ c h) (W : WkP ρ x0 rm re rb rk rs ro rp rt rw mb km R Bc Bm a h) : Sat (sX15_workOut F h x0) (fun o => TH ρ c o ∧ Kf ρ EWL h o) := by
  have W' := W
  obtain ⟨Q, ⟨e58, e61, e51, e53, e52, e4, e13, e14⟩, ⟨qp, qt, qw, qmb, qkm, qR, qBc, qBm⟩, P, A, D, na, GG⟩ := W'
  have Q' := Q
  obtain ⟨⟨r0, qm, qe, qb, qk, qs, qo⟩, ⟨e46, e47, e48, e55, e56, e57⟩⟩ := Q'
  have z0 : (0 : Int32).toInt = 0 := rfl
  have is := thI T r0 (k := 16) (i := 13) (lo := 9) (hi := 64) rfl
  have s9 := is.1
  have B2 := P.2.1
  have n4 := thI T r0 (k := 16) (i := 49) (lo := 0) (hi := 4096) rfl
  have n41 := n4.2
  have wm : ∀ {g : Hp}, Kf ρ EWL h g → WkP ρ x0 rm re rb rk rs ro rp rt rw mb km R Bc Bm a g := fun Kg => wkp_k T Kg W
  -- the last loop
  have l111 : ∀ (f : Nat) {g : Hp} {x3 : Int32}, TH ρ c g → Kf ρ EWL h g → 0 ≤ x3.toInt → x3.toInt ≤ 600000 → (600001 - x3.toInt).toNat < f → Sat (sX15_workOut_111 F f g x0 x3) (fun o => TH ρ c o ∧ Kf ρ EWL h o) := by
    intro f
    induction f with
    | zero => intros; omega
    | succ f ih =>
      intro g x3 Tg Kg a3 b3 hf
      rw [sX15_workOut_111]
      unfold sX15_workOut_148
      have Wg := wm Kg
      have e51g := Wg.2.1.2.2.1
      refine s_br (fun _ => s_some ⟨Tg, Kg⟩) (fun n1 => ?_)
      have l3 : x3.toInt < (hJ g x0 59).toInt := cmp_lt n1
      have j59 := kfJ 59 Kg r0
      rw [j59] at l3
      have i3 : Rg 0 599999 x3 := ⟨a3, by have := B2.2; omega⟩
      have i32 := i3.2
      have ny := nc_s i3 (by decide)
      have gw : inB x3 (hN g rw) := by rw [thN Tg qw (k := 102) (n := 600000) rfl (by decide)]; exact rg_inB i3 (by decide)
      have fin : ∀ v : Int32, Rg (-1000000) 3000000 v → Sat (gd (inB x3 (hN g rw)) <| nm (wI g rw x3.toNatClampNeg v) fun h_2 => nm (x3 + (1 : Int32)) fun v_3 => sX15_workOut_111 F f h_2 x0 v_3) (fun o => TH ρ c o ∧ Kf ρ EWL h o) := fun v iv => by
        refine s_gd gw ?_
        refine s_hq (th_wI Tg qw (k := 102) (lo := -1000000) (hi := 3000000) rfl iv (by decide) (by decide) (pm_a hA rfl)) (fun h2 T2 w2 => ?_)
        refine s_q (fun y ey => ?_)
        have ey2 : y.toInt = x3.toInt + 1 := by rw [ey]; exact ny.2
        clear ey
        exact ih T2 (kf_t Kg (kf_wI w2 qw)) (by omega) (by omega) (by omega)
      refine s_ref e51g (s_ref e51g (s_gd gw ?_))
      refine s_br (fun _ => fin _ (rg_m (rg_b rfl : Rg 0 0 (0 : Int32)) (by decide))) (fun _ => ?_)
      exact s_ref e51g (s_gd gw (fin _ (thI Tg qw (k := 102) (lo := -1000000) (hi := 3000000) rfl)))
  -- round by round
  have l4 : ∀ (f : Nat) {g : Hp} {x1 x2 : Int32}, TH ρ c g → Kf ρ EWL h g → 1 ≤ x1.toInt → 0 < f → (¬ x2 = 0 → x1.toInt + (opC g rw 600000 : Int) ≤ 600001 ∧ opC g rw 600000 + 1 < f) → Sat (sX15_workOut_4 F f g x0 x1 x2) (fun o => TH ρ c o ∧ Kf ρ EWL h o) := by
    intro f
    induction f with
    | zero => intros; omega
    | succ f ih =>
      intro g x1 x2 Tg Kg a1 _ cnt
      rw [sX15_workOut_4]
      refine s_br (fun _ => l111 F Tg Kg (by decide) (by decide) (by rw [z0]; omega)) (fun nz => ?_)
      obtain ⟨ct1, ct2⟩ := cnt nz
      generalize hC : opC g rw 600000 = C0 at ct1 ct2
      have i1 : Rg 0 2000000 x1 := ⟨by omega, by omega⟩
      have n1' := nc_s (x := x1) (b := 2000000) i1 (by decide)
      -- set by set
      have l12 : ∀ (ff : Nat) {g : Hp} {x2 x3 : Int32}, TH ρ c g → Kf ρ EWL h g → 0 ≤ x3.toInt → (x2 = 0 → opC g rw 600000 ≤ C0) → (¬ x2 = 0 → opC g rw 600000 < C0) → (4097 - x3.toInt).toNat < ff → Sat (sX15_workOut_12 F (sX15_workOut_4 F f) ff g x0 x1 x2 x3) (fun o => TH ρ c o ∧ Kf ρ EWL h o) := by
        intro ff
        induction ff with
        | zero => intros; omega
        | succ ff ih2 =>
          intro g x2 x3 Tg Kg a3 q1 q2 hf
          have Wg := wm Kg
          have k49 := kfI 49 Kg r0
          have k13 := kfI 13 Kg r0
          rw [sX15_workOut_12]
          refine s_br (fun _ => ?_) (fun n1 => ?_)
          · refine s_q (fun y ey => ?_)
            have ey2 : y.toInt = x1.toInt + 1 := by rw [ey]; exact n1'.2
            clear ey
            refine ih Tg Kg (by omega) (by omega) (fun nx => ?_)
            have := q2 nx
            exact ⟨by omega, by omega⟩
          · have l3 := nle_i n1
            rw [k49] at l3
            have i3 : Rg 0 4095 x3 := ⟨a3, by omega⟩
            have c3 := clamp_i a3
            have ny3 := nc_s i3 (by decide)
            have km' := kfI x3.toNatClampNeg Kg qm
            have B3 := P.2.2.1 rm rb e46 e48 x3.toNatClampNeg (by omega)
            have ib := thI T qb (k := 101) (i := x3.toNatClampNeg) (lo := 0) (hi := 600000) rfl
            have ib0 := ib.1
            have B22 := B2.2
            refine s_cl (s_imp (sizeOf_q (x1 := x3) (rm := rm) (by omega) Tg r0 i3 Wg.1.2.1 (by rw [k13, km']; omega)) (fun o3 ⟨e3, v3⟩ => ?_))
            rw [e3]
            rw [k13, km'] at v3
            -- state by state
            have l30 : ∀ (f3 : Nat) {g : Hp} {x2 x5 : Int32}, TH ρ c g → Kf ρ EWL h g → 0 ≤ x5.toInt → (x2 = 0 → opC g rw 600000 ≤ C0) → (¬ x2 = 0 → opC g rw 600000 < C0) → (600001 - x5.toInt).toNat < f3 → Sat (sX15_workOut_30 F (sX15_workOut_4 F f) (sX15_workOut_12 F (sX15_workOut_4 F f) ff) f3 g x0 x1 x2 x3 o3.1 x5) (fun o => TH ρ c o ∧ Kf ρ EWL h o) := by
              intro f3
              induction f3 with
              | zero => intros; omega
              | succ f3 ih3 =>
                intro g x2 x5 Tg Kg a5 q1 q2 hf3
                have Wg := wm Kg
                have k13 := kfI 13 Kg r0
                rw [sX15_workOut_30]
                refine s_br (fun _ => ?_) (fun n5 => ?_)
                · refine s_q (fun y ey => ?_)
                  have ey2 : y.toInt = x3.toInt + 1 := by rw [ey]; exact ny3.2
                  clear ey
                  exact ih2 Tg Kg (by omega) q1 q2 (by omega)
                have l5 := nle_i n5
                have i5 : Rg 0 599999 x5 := ⟨a5, by omega⟩
                have ny5 := nc_s i5 (by decide)
                refine s_ref Wg.1.2.2.2.1 ?_
                refine s_gd (by rw [thN Tg qb (k := 101) (n := 4096) rfl (by decide)]; exact rg_inB i3 (by decide)) ?_
                refine s_q (fun v5 ev => ?_)
                have kb' := kfI x3.toNatClampNeg Kg qb
                have ev2 : v5.toInt = (hI h rb x3.toNatClampNeg).toInt + x5.toInt := by rw [ev, kb', ta (by omega)]
                clear ev
                have iv5 : Rg 0 599999 v5 := ⟨by omega, by omega⟩
                have c5 := clamp_i iv5.1
                refine s_ref Wg.2.1.2.2.1 ?_
                refine s_gd (by rw [thN Tg qw (k := 102) (n := 600000) rfl (by decide)]; exact rg_inB iv5 (by decide)) ?_
                unfold sX15_workOut_73 sX15_workOut_91
                have nxt : ∀ {g2 : Hp} {y2 : Int32}, TH ρ c g2 → Kf ρ EWL h g2 → (y2 = 0 → opC g2 rw 600000 ≤ C0) → (¬ y2 = 0 → opC g2 rw 600000 < C0) → Sat (nm (x5 + (1 : Int32)) fun v_1 => sX15_workOut_30 F (sX15_workOut_4 F f) (sX15_workOut_12 F (sX15_workOut_4 F f) ff) f3 g2 x0 x1 y2 x3 o3.1 v_1) (fun o => TH ρ c o ∧ Kf ρ EWL h o) := fun {g2 y2} T2 K2 p1 p2 => by
                  refine s_q (fun y ey => ?_)
                  have ey2 : y.toInt = x5.toInt + 1 := by rw [ey]; exact ny5.2
                  clear ey
                  exact ih3 T2 K2 (by omega) p1 p2 (by omega)
                refine s_br (fun op => ?_) (fun _ => ?_)
                · refine s_cIfq (S := fS EVL []) (lo := -1000000) (hi := 1000000) (P := fun o => Kf ρ EVL g o.2) Tg (fs_sub (pmA_s hA rfl) fs_n) (s_imp (worthNow_q (by omega) fs_a (th_in _ Tg) Wg i3 (by rw [kfI 49 Kg r0]; exact l3) a5 (by rw [k13, kfI _ Kg qm]; omega) i1) (fun o w => ⟨⟨w.1, w.2.1⟩, w.2.2⟩)) (fun o9 T9 i9 f9 K9 => ?_)
                  have K9' : Kf ρ EWL h o9.2 := kf_t Kg (kf_m K9 rfl)
                  have ow : ∀ i, hI o9.2 rw i = hI g rw i := fun i => kfI i K9 qw
                  have oc : opC o9.2 rw 600000 = opC g rw 600000 := op_eq ow _
                  refine s_br (fun _ => nxt T9 K9' (fun w => by rw [oc]; exact q1 w) (fun w => by rw [oc]; exact q2 w)) (fun _ => ?_)
                  refine s_ref (wm K9').2.1.2.2.1 ?_
                  refine s_gd (by rw [thN T9 qw (k := 102) (n := 600000) rfl (by decide)]; exact rg_inB iv5 (by decide)) ?_
                  refine s_hq (th_wI T9 qw (k := 102) (lo := -1000000) (hi := 3000000) rfl (rg_m i9 (by decide)) (by decide) (by decide) (pm_a hA rfl)) (fun h4 T4 w4 => ?_)
                  have o4 := op_w w4 (fun z => by have := i9.2; rw [z] at this; exact absurd this (by decide)) (by rw [ow]; exact op) 600000
                  rw [if_pos (by have := iv5.2; omega), oc] at o4
                  have le0 : opC g rw 600000 ≤ C0 := by
                    by_cases z : x2 = 0
                    · exact q1 z
                    · have := q2 z; omega
                  exact nxt T4 (kf_t K9' (kf_wI w4 qw)) (fun w => absurd w (by decide)) (fun _ => by omega)
                · exact s_br (fun _ => nxt Tg Kg q1 q2) (fun n => absurd rfl n)
            exact l30 F Tg Kg (by decide) q1 q2 (by rw [z0]; omega)
      exact l12 F Tg Kg (by decide) (fun _ => by omega) (fun w => absurd rfl w) (by rw [z0]; omega)
  unfold sX15_workOut
  have := op_le (h := h) (r := rw) 600000
  exact l4 F T kf_r (by decide) (by omega) (fun _ => ⟨by show (1 : Int) + _ ≤ _; omega, by omega⟩)
end
