section
variable {ρ : Nat → Nat} {c : Cm} {h o : Hp} {x0 F : Nat} {x1 x2 x3 x4 : Int32}
/-- slots are cleared, sets are added -/
theorem so_203 {Q : Int32 × Hp → Prop} (hF : 700000 ≤ F) (hA : pmA c seL) (r0 : ρ x0 = 16) (i1 : Rg 2 5 x1) (ex : ∀ (o : Hp) (v : Int32), TH ρ c o → hI o x0 50 = 0 → Q (v, o))
    (K : ∀ o, TH ρ c o → SE x0 o → 1 ≤ (hI o x0 49).toInt → hI o x0 50 = 0 → Sat (sX15_solve_246 F F o x0 (0 : Int32) (0 : Int32)) Q) : ∀ (f : Nat) {h : Hp} {x3 : Int32}, TH ρ c h → (hI h x0 49).toInt = 0 → (hJ h x0 59).toInt = 0 → hI h x0 50 = 0 → RW x0 x1.toInt h → 0 ≤ x3.toInt → (∀ r, hR h x0 56 = some r → ∀ j : Nat, (j : Int) < x3.toInt → (hI h r j).toInt ≤ 0) → (16385 - x3.toInt).toNat < f → Sat (sX15_solve_203 F f h x0 x1 x3) Q := by
  intro f
  induction f with
  | zero => intros; omega
  | succ f ih =>
    intro h x3 T e49 e59 e50 R a3 Z hf
    rw [sX15_solve_203]
    unfold sX15_solve_228 sX15_solve_235 sX15_solve_238
    refine s_br (fun l => ?_) (fun n1 => ?_)
    · have l' : (16384 : Int) ≤ x3.toInt := le_i l
      have P := se_init e49 e59 (fun r er j hj => Z r er j (by omega))
      refine s_cl (s_imp (zX15_addSet (c := cat c (fS seL []) h) hF fs_a (th_in _ T) r0 (rg_m i1 (by decide)) P R) (fun o2 ⟨T2', i2, P2, _, l2⟩ => ?_))
      have T2 := th_out T (fs_sub hA fs_n) T2'
      have f2 := fr_u T T2'.2.2
      have z2 : hI o2.2 x0 50 = 0 := by rw [(fr_RI f2 r0 (by decide) (fun _ => rfl)).1]; exact e50
      refine s_br (fun _ => s_some (ex _ _ T2 z2)) (fun nz => ?_)
      refine s_cl (s_imp (zX15_addAll (c := cat c (fS seL []) o2.2) hF fs_a (th_in _ T2) r0 P2 (l2 nz)) (fun o3 ⟨T3', i3, P3, l3⟩ => ?_))
      have T3 := th_out T2 (fs_sub hA fs_n) T3'
      have f3 := fr_u T2 T3'.2.2
      have z3 : hI o3.2 x0 50 = 0 := by rw [(fr_RI f3 r0 (by decide) (fun _ => rfl)).1]; exact z2
      exact s_br (fun _ => s_some (ex _ _ T3 z3)) (fun _ => K _ T3 P3 l3 z3)
    · have l' : x3.toInt < 16384 := nle_i n1
      have i3 : Rg 0 16383 x3 := ⟨a3, by omega⟩
      have c3 := clamp_i a3
      obtain ⟨r, er, qr⟩ := thR T r0 (i := 56) (k2 := 107) rfl (by decide)
      refine s_ref er ?_
      refine s_gd (by rw [thN T qr (k := 107) (n := 16384) rfl (by decide)]; exact rg_inB i3 (by decide)) ?_
      refine s_hq (th_wI T qr (k := 107) (lo := 0) (hi := 4096) rfl (rg_b rfl) (by decide) (by decide) (pm_a hA rfl)) (fun h5 T5 w5 => ?_)
      refine s_q (fun y ey => ?_)
      have ey2 : y.toInt = x3.toInt + 1 := by rw [ey]; exact (nc_s i3 (by decide)).2
      clear ey
      have g5 : ∀ {a k : Nat}, ρ a = k → k ≠ 107 → ∀ i, hI h5 a i = hI h a i := fun {a k} ea hk i => by rw [w5, r_I, if_neg (ne_r ea qr hk)]
      refine ih T5 (by rw [g5 r0 (by decide)]; exact e49) (by rw [w5]; exact e59) (by rw [g5 r0 (by decide)]; exact e50) (fun ro eo i hi => ?_) (by omega) (fun r' er' j hj => ?_) (by omega)
      · rw [w5] at eo
        have eo' : hR h x0 57 = some ro := eo
        rw [g5 (rr T (thR T r0 (i := 57) (k2 := 108) rfl (by decide)) eo') (by decide)]
        exact R ro eo' i hi
      · rw [w5] at er'
        have hz := r_eq er (show hR h x0 56 = some r' from er')
        subst hz
        rw [w5, r_I]
        by_cases z : j = x3.toNatClampNeg
        · rw [if_pos ⟨rfl, z⟩]; decide
        · rw [if_neg (fun q => z q.2)]
          exact Z r' er j (by omega)
end
