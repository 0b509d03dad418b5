/-! the letters of a solution -/
section
variable {ρ : Nat → Nat} {c : Cm} {h o : Hp} {x0 F : Nat} {x1 x2 x3 x4 : Int32}
theorem so_54 {Q : Int32 × Hp → Prop} (hF : 700000 ≤ F) (hA : pmA c [(108, 999)]) (r0 : ρ x0 = 16) (i1 : Rg 0 1200 x1) (ex : ∀ (o : Hp) (v : Int32), TH ρ c o → Q (v, o))
    (K : ∀ o, TH ρ c o → RW x0 x1.toInt o → Rg 2 5 x1 → Sat (nm (wI o x0 49 (0 : Int32)) fun h_3 => nm (wJ h_3 x0 59 (0 : Int64)) fun h_4 => nm (wI h_4 x0 50 (0 : Int32)) fun h_5 => sX15_solve_203 F F h_5 x0 x1 (0 : Int32)) Q) : ∀ (f : Nat) {h : Hp} {x2 x3 : Int32}, TH ρ c h → Rg 0 5 x3 → x3.toInt ≤ x1.toInt → RW x0 x3.toInt h → (6 - x3.toInt).toNat < f → Sat (sX15_solve_54 F f h x0 x1 x2 x3) Q := by
  intro f
  induction f with
  | zero => intros; omega
  | succ f ih =>
    intro h x2 x3 T i3 b3 R hf
    rw [sX15_solve_54]
    have a3 := i3.1
    have c3 := i3.2
    refine s_br (fun l => ?_) (fun n1 => ?_)
    · have l' := le_i l
      refine s_br (fun l2 => ?_) (fun _ => s_some (ex _ _ T))
      have l2' : (2 : Int) ≤ x1.toInt := le_i l2
      have e : x3.toInt = x1.toInt := by omega
      rw [e] at R
      exact K h T R ⟨l2', by omega⟩
    · have l' := nle_i n1
      obtain ⟨r6, e6, q6⟩ := thR T r0 (i := 0) (k2 := 82) rfl (by decide)
      refine s_ref e6 ?_
      refine s_gd (by rw [thN T q6 (k := 82) (n := 1220) rfl (by decide)]; exact rg_inB (rg_m i3 (by decide) : Rg 0 5 x3) (by decide)) ?_
      refine s_cI0q (zX15_manLetter hF T r0 (thI T q6 (k := 82) (lo := -128) (hi := 127) rfl)) (fun o8 e8 i8 _ => ?_)
      rw [e8]
      have f159 : ∀ {v t0 t1 : Int32}, Rg 1 24 v → Rg 0 4 x3 → Sat (sX15_solve_159 F (sX15_solve_54 F f) h x0 x1 x3 v t0 t1) Q := fun {v t0 t1} iv i3' => by
        unfold sX15_solve_159
        refine s_q (fun u _ => ?_)
        obtain ⟨ro, eo, qo⟩ := thR T r0 (i := 57) (k2 := 108) rfl (by decide)
        refine s_ref eo ?_
        refine s_gd (by rw [thN T qo (k := 108) (n := 6) rfl (by decide)]; exact rg_inB i3 (by decide)) ?_
        refine s_hq (th_wI T qo (k := 108) (lo := 0) (hi := 24) rfl (rg_m iv (by decide)) (by decide) (by decide) (pm_a hA rfl)) (fun h4 T4 w4 => ?_)
        refine s_q (fun y ey => ?_)
        have ey2 : y.toInt = x3.toInt + 1 := by rw [ey]; exact (nc_s i3' (by decide)).2
        clear ey
        have cc := clamp_i a3
        have c4 := i3'.2
        refine ih T4 ⟨by omega, by omega⟩ (by omega) (fun ro' eo' i hi => ?_) (by omega)
        rw [w4] at eo'
        have hz := r_eq eo (show hR h x0 57 = some ro' from eo')
        subst hz
        rw [w4, r_I]
        by_cases z : i = x3.toNatClampNeg
        · rw [if_pos ⟨rfl, z⟩]; exact iv.1
        · rw [if_neg (fun q => z q.2)]
          exact R ro' eo i (by omega)
      have f109 : ∀ {v t : Int32}, Rg 0 24 v → Sat (sX15_solve_109 F (sX15_solve_54 F f) h x0 x1 x2 x3 v t) Q := fun {v t} iv => by
        unfold sX15_solve_109 sX15_solve_126 sX15_manOf sX15_solve_138 sX15_solve_154 sX15_sideOf
        refine s_br (fun _ => s_some (ex _ _ T)) (fun nv => ?_)
        have iv' : Rg 1 24 v := rg_nlo nv iv (rg_b rfl : Rg 0 0 (0 : Int32))
        refine s_br (fun _ => s_br (fun _ => s_some (ex _ _ T)) (fun n5 => ?_)) (fun _ => s_some (ex _ _ T))
        have i3' : Rg 0 4 x3 := by
          refine ⟨a3, ?_⟩
          rcases Int.lt_or_le x3.toInt 5 with q | q
          · omega
          · exact absurd (Int32.toInt_inj.mp (by show x3.toInt = 5; omega)) n5
        refine s_cl (s_some ?_)
        dsimp only
        obtain ⟨ru, eu, qu⟩ := thR T r0 (i := 4) (k2 := 15) rfl (by decide)
        refine s_ref eu ?_
        refine s_br (fun _ => ?_) (fun _ => f159 iv' i3')
        refine s_cl (s_some ?_)
        exact f159 iv' i3'
      unfold sX15_solve_69 sX15_solve_108 sX15_manOf sX15_solve_81 sX15_sideOf sX15_solve_97 sX15_solve_108
      refine s_br (fun _ => f109 i8) (fun _ => ?_)
      refine s_cl (s_some ?_)
      dsimp only
      obtain ⟨ru, eu, qu⟩ := thR T r0 (i := 4) (k2 := 15) rfl (by decide)
      refine s_ref eu ?_
      refine s_br (fun _ => ?_) (fun _ => f109 i8)
      refine s_cl (s_some ?_)
      dsimp only
      exact s_br (fun _ => f109 i8) (fun _ => f109 i8)
end
