/-! solve: all states are begun, and the solution is worked out -/
abbrev EBG : List (Nat × Nat) := [(102, 999), (86, 999), (16, 23), (16, 24), (16, 29), (87, 999), (88, 999), (89, 999), (105, 999), (103, 999), (62, 999), (63, 999), (64, 999), (65, 999), (13, 1), (13, 2), (13, 3), (13, 7), (66, 999), (67, 999), (68, 999), (69, 999), (70, 999), (71, 999), (72, 999), (14, 0)]
section
variable {ρ : Nat → Nat} {c : Cm} {x0 rm re rb rk rs ro rp rt rw mb km R Bc Bm F : Nat} {a : Int} {h o : Hp}
theorem wkp_b (K : Kf ρ EBG h o) (G' : MkG x0 rm mb re km R o) (W : WkP ρ x0 rm re rb rk rs ro rp rt rw mb km R Bc Bm a h) : WkP ρ x0 rm re rb rk rs ro rp rt rw mb km R Bc Bm a o := by
  obtain ⟨⟨⟨r0, qm, qe, qb, qk, qs, qo⟩, ⟨e46, e47, e48, e55, e56, e57⟩⟩, ⟨e58, e61, e51, e53, e52, e4, e13, e14⟩, ⟨qp, qt, qw, qmb, qkm, qR, qBc, qBm⟩, P, A, D, na, G⟩ := W
  refine ⟨⟨⟨r0, qm, qe, qb, qk, qs, qo⟩, ⟨by rw [kfR 46 K r0]; exact e46, by rw [kfR 47 K r0]; exact e47, by rw [kfR 48 K r0]; exact e48, by rw [kfR 55 K r0]; exact e55, by rw [kfR 56 K r0]; exact e56, by rw [kfR 57 K r0]; exact e57⟩⟩, ⟨by rw [kfR 58 K r0]; exact e58, by rw [kfR 61 K r0]; exact e61, by rw [kfR 51 K r0]; exact e51, by rw [kfR 53 K r0]; exact e53, by rw [kfR 52 K r0]; exact e52, by rw [kfR 4 K r0]; exact e4, by rw [kfR 13 K qR]; exact e13, by rw [kfR 14 K qR]; exact e14⟩, ⟨qp, qt, qw, qmb, qkm, qR, qBc, qBm⟩, ?_, ?_, ?_, na, G'⟩
  · exact se_k K r0 qm qe qb qk qs e46 e47 e48 e55 e56 P
  · exact alls_of (kfI 49 K r0) (fun i => kfI i K qm) (fun i => kfI i K qe) (fun i => kfI i K qs) (fun i => kfI i K qk) (kfI 10 K qR) (fun i => kfI i K qBc) (fun i => kfI i K qBm) A
  · intro rm' rb' em' eb' k hk
    rw [kfR 46 K r0] at em'
    rw [kfR 53 K r0] at eb'
    rw [kfI 49 K r0] at hk
    have hz1 := r_eq e46 em'
    subst hz1
    have hz1 := r_eq e53 eb'
    subst hz1
    rw [kfI 13 K r0, kfI 49 K r0]
    simp only [kfI _ K qm, kfI _ K qmb]
    exact D rm' rb' em' eb' k hk
/-- all states are begun, and worked out -/
theorem so_357 (hF : 2000000 ≤ F) (hA : pmA c [(102, 999), (86, 999), (16, 23), (16, 24), (16, 29), (87, 999), (88, 999), (89, 999), (105, 999), (103, 999), (108, 999), (109, 999), (110, 999), (16, 62), (16, 63), (16, 50)]) (hS : pmO c 2560 bS7) (hB : pmO c 2528 bL8) (hL : pmO c 2530 lL8) : ∀ (f : Nat) {g : Hp} {x4 : Int32}, TH ρ c g → WkP ρ x0 rm re rb rk rs ro rp rt rw mb km R Bc Bm a g → SqOk x0 g → hI g R 15 = 0 → 1 ≤ (hI g x0 49).toInt → 0 ≤ x4.toInt → (4097 - x4.toInt).toNat < f → Sat (sX15_solve_357 F f g x0 x4) (fun o => TH ρ c o.2 ∧ EnR x0 o.2) := by
  intro f
  induction f with
  | zero => intros; omega
  | succ f ih =>
    intro g x4 T W sq hz l1 a4 hf
    have W' := W
    obtain ⟨Q, ⟨e58, e61, e51, e53, e52, e4, e13, e14⟩, ⟨qp, qt, qw, qmb, qkm, qR, qBc, qBm⟩, P, A, D, na, GG⟩ := W'
    have Q' := Q
    obtain ⟨⟨r0, qm, qe, qb, qk, qs, qo⟩, ⟨e46, e47, e48, e55, e56, e57⟩⟩ := Q'
    rw [sX15_solve_357]
    unfold sX15_solve_372 sX15_solve_408
    refine s_br (fun _ => ?_) (fun n1 => ?_)
    · refine s_cVfq (S := fS EWL []) (P := fun o => Kf ρ EWL g o) T (fs_sub (pmA_s hA rfl) fs_n) (workOut_q hF fs_a (th_in _ T) W) (fun o2 T2 f2 K2 => ?_)
      have i49 := thI T2 r0 (k := 16) (i := 49) (lo := 0) (hi := 4096) rfl
      refine s_hq (th_wI T2 r0 (k := 16) (i := 50) (lo := 0) (hi := 4096) rfl i49 (by decide) (by decide) (pm_a hA rfl)) (fun h1 T1 w1 => ?_)
      refine s_some ⟨T1, fun _ => ?_⟩
      have W2 := wkp_k T K2 W
      have K1 : Kf ρ [(16, 50)] o2 h1 := kf_wI w1 r0
      refine ⟨se_k K1 r0 qm qe qb qk qs W2.1.2.1 W2.1.2.2.1 W2.1.2.2.2.1 W2.1.2.2.2.2.1 W2.1.2.2.2.2.2.1 W2.2.2.2.1, ?_⟩
      rw [kfI 49 K1 r0, kfI 49 K2 r0]
      exact l1
    · have l4 := nle_i n1
      have s4 := (thI T r0 (k := 16) (i := 49) (lo := 0) (hi := 4096) rfl).2
      have i4 : Rg 0 4095 x4 := ⟨a4, by omega⟩
      have c4 := clamp_i a4
      have ny4 := nc_s i4 (by decide)
      have B3 := P.2.2.1 rm rb e46 e48 x4.toNatClampNeg (by omega)
      have B2 := P.2.1.2
      have ib0 := (thI T qb (k := 101) (i := x4.toNatClampNeg) (lo := 0) (hi := 600000) rfl).1
      refine s_cl (s_imp (sizeOf_q (x1 := x4) (rm := rm) (by omega) T r0 i4 e46 (by omega)) (fun o3 ⟨e3, v3⟩ => ?_))
      rw [e3]
      have l377 : ∀ (ff : Nat) {g2 : Hp} {x6 : Int32}, TH ρ c g2 → WkP ρ x0 rm re rb rk rs ro rp rt rw mb km R Bc Bm a g2 → SqOk x0 g2 → hI g2 R 15 = 0 → hI g2 x0 49 = hI g x0 49 → hI g2 x0 13 = hI g x0 13 → hI g2 rm x4.toNatClampNeg = hI g rm x4.toNatClampNeg → 0 ≤ x6.toInt → (600001 - x6.toInt).toNat < ff → Sat (sX15_solve_377 F (sX15_solve_357 F f) ff g2 x0 x4 o3.1 x6) (fun o => TH ρ c o.2 ∧ EnR x0 o.2) := by
        intro ff
        induction ff with
        | zero => intros; omega
        | succ ff ih2 =>
          intro g2 x6 T2 W2 sq2 hz2 k49 k13 kmm a6 hf2
          rw [sX15_solve_377]
          unfold sX15_solve_392
          refine s_br (fun _ => ?_) (fun n6 => ?_)
          · refine s_q (fun y ey => ?_)
            have ey2 : y.toInt = x4.toInt + 1 := by rw [ey]; exact ny4.2
            clear ey
            exact ih T2 W2 sq2 hz2 (by rw [k49]; exact l1) (by omega) (by omega)
          · have l6 := nle_i n6
            have i6 : Rg 0 599999 x6 := ⟨a6, by omega⟩
            have ny6 := nc_s i6 (by decide)
            refine s_cVfq (S := fS bgA [(2560, bS7), (2528, bL8), (2530, lL8)]) (P := fun o => MkG x0 rm mb re km R o) T2 (fs_sub (pmA_s hA rfl) (fs_c hS (fs_c hB (fs_c hL fs_n)))) (begin_q (a := a) (by omega) fs_a (fs_o (.head _)) (fs_o (.tail _ (.head _))) (fs_o (.tail _ (.tail _ (.head _)))) (th_in _ T2) r0 sq2 W2.2.2.2.1 W2.1.2.1 W2.2.1.2.2.2.1 W2.1.2.2.1 W2.2.1.2.2.2.2.1 qkm W2.2.1.2.2.2.2.2.1 hz2 i4 (by rw [k49]; exact l4) a6 (by rw [k13, kmm]; omega) W2.2.2.2.2.2.1 na W2.2.2.2.2.2.2.2) (fun o5 T5 f5 G5 => ?_)
            have K5 : Kf ρ EBG g2 o5 := kf_of f5 rfl
            refine s_q (fun y ey => ?_)
            have ey2 : y.toInt = x6.toInt + 1 := by rw [ey]; exact ny6.2
            clear ey
            exact ih2 T5 (wkp_b K5 G5 W2) (sq_fr T2 r0 f5 (fun _ => rfl) (fun _ => rfl) (fun _ => rfl) sq2) (by rw [kfI 15 K5 qR]; exact hz2) (by rw [kfI 49 K5 r0]; exact k49) (by rw [kfI 13 K5 r0]; exact k13) (by rw [kfI _ K5 qm]; exact kmm) (by omega) (by omega)
      have z0 : (0 : Int32).toInt = 0 := rfl
      exact l377 F T W sq hz rfl rfl rfl (by decide) (by rw [z0]; omega)
end
