section
variable {ρ : Nat → Nat} {c : Cm} {h o : Hp} {E : Nat → Nat → Bool} {wp : Nat → Bool} {x0 F : Nat}
def psE : Nat → Nat → Bool := fun k i => k == 58 || (k == 8 && (i == 1 || i == 2))
def e8r : Nat → Nat → Bool := fun k i => k == 8 && (i == 1 || i == 2)
theorem niceC_8r : niceC e8r := by
  refine ⟨fun k i hk => ?_, rfl, rfl, rfl, rfl, rfl, rfl, fun _ => rfl⟩
  unfold e8r
  rw [bq_ne (show k ≠ 8 by omega)]; rfl
/-- a position is read into a free place -/
theorem zX11_positionP (hF : 700000 ≤ F) (hp : ∀ k w i, SZ psE (is 3200) k w i = true → cPm c k w i = true) (hO : pmO c 2100 [(10, 1)]) (T : TH ρ c h) (r0 : ρ x0 = 12) (lw : LwR ρ c h) (pl : PlP ρ c x0 h) : Sat (sX11_position F h x0) (fun o => TH ρ c o.2 ∧ PlP ρ c x0 o.2) := by
  have fin : ∀ {g : Hp} {y : Int32}, TH ρ c g → PlP ρ c x0 g → Sat (sX11_position_104 F g x0 y) (fun o => TH ρ c o.2 ∧ PlP ρ c x0 o.2) := fun {g y} Tg pg => by
    unfold sX11_position_104
    obtain ⟨t, et, rt⟩ := thR Tg r0 (i := 0) (k2 := 10) rfl (by decide)
    refine s_ref et ?_
    have wt : cw c t = 2100 := kid_w Tg r0 (i := 0) rfl (by decide) et
    refine s_cVf (S := fS [] [(2100, [(10, 1)])]) Tg (fs_sub pmA_n (fs_c hO fs_n)) (zX9_clear hF (by rw [show cw (cat c (fS [] [(2100, [(10, 1)])]) g) t = 2100 from wt]; exact fs_o (.head _)) (th_in _ Tg) rt) (fun o2 T2 f2 => ?_)
    exact s_some ⟨T2, pl_fr Tg r0 f2 (fun _ => rfl) (fun _ => rfl) (fun _ _ => rfl) (fun _ _ => rfl) rfl (fun _ => rfl) (fun _ => rfl) pg⟩
  unfold sX11_position
  refine s_cI0 (zX11_freePlace hF T r0) (fun o1 e1 j1 => ?_)
  rw [e1]
  refine s_br (fun _ => fin T pl) (fun n1 => ?_)
  have ip : Rg 0 59 o1.1 := rg_nlo n1 j1 (rg_b rfl : Rg (-1) (-1) (-1 : Int32))
  have l60 : o1.1.toNatClampNeg < 60 := by have := rg_clamp (n := 59) ip (by decide); omega
  obtain ⟨r, er, rr'⟩ := thR T r0 (i := 13) (k2 := 57) rfl (by decide)
  refine s_ref er ?_
  refine s_gd (by rw [thN T rr' (k := 57) (n := 60) rfl (by decide)]; exact rg_inB ip (by decide)) ?_
  have hk : rfK 57 o1.1.toNatClampNeg = 4 := if_pos l60
  obtain ⟨q, eq, rq⟩ := thR T rr' (i := o1.1.toNatClampNeg) (k2 := 4) hk (by decide)
  refine s_ref eq ?_
  have wq : cw c q = 3200 := th_id T rr' (w := 3200) eq rfl (by decide)
  obtain ⟨sc, esc, rsc⟩ := thR T r0 (i := 7) (k2 := 8) rfl (by decide)
  refine s_ref esc ?_
  obtain ⟨t, et, rt⟩ := thR T r0 (i := 0) (k2 := 10) rfl (by decide)
  refine s_ref et ?_
  have hs : ∀ k w i, SZ e8r (is 3200) k w i = true → cPm c k w i = true := fun k w i m => hp k w i (sz_sub (fun k i z => by unfold e8r at z; unfold psE; rw [z, Bool.or_true]) (fun _ z => z) m)
  refine s_cIfq T hs (zX7_read hF (fun w k i m => sx_c _ k w i (by
      have : ((8 == k && (1 == 999 || 1 == i)) || ((8 == k && (2 == 999 || 2 == i)) || false)) = true := m
      have q : e8r k i = true := by
        unfold e8r
        rw [Bool.or_eq_true, Bool.or_false, Bool.and_eq_true, Bool.and_eq_true, beq_iff_eq] at this
        rcases this with ⟨a, b⟩ | ⟨a, b⟩
        · rw [← a]
          have b' : (1 == i) = true := b
          rw [beq_iff_eq] at b'
          rw [← b']; rfl
        · rw [← a]
          have b' : (2 == i) = true := b
          rw [beq_iff_eq] at b'
          rw [← b']; rfl
      unfold SZ; rw [q]; rfl)) (pmO_s (szP (sx_c _) is_s) rfl) rfl wq (th_in _ T) rsc rt rq lw) (fun o8 T8 i8 f8 p8 => ?_)
  obtain ⟨rc8, nm8, ry8⟩ := p8
  have pl8 : PlP ρ c x0 o8.2 := pl_rc T r0 f8 (fun _ => sz_f rfl rfl (Or.inl rfl)) (fun _ => sz_f rfl rfl (Or.inl rfl)) (fun _ _ => sz_f rfl rfl (Or.inl rfl)) (fun _ _ => sz_f rfl rfl (Or.inl rfl)) rc8 pl
  have er8 : hR o8.2 x0 13 = some r := by rw [x12 r0 f8 rfl]; exact er
  have eq8 : hR o8.2 r o1.1.toNatClampNeg = some q := by rw [(fr_RI f8 rr' (by decide) (fun _ => sz_f rfl rfl (Or.inl rfl))).2.2]; exact eq
  obtain ⟨u, eu, ru⟩ := thR T8 r0 (i := 14) (k2 := 58) rfl (by decide)
  have b75 : ∀ {x4 x5 t0 : Int32}, Sat (sX11_position_75 F o8.2 x0 o1.1 x4 x5 t0 o1.1 u) (fun o => TH ρ c o.2 ∧ PlP ρ c x0 o.2) := fun {x4 x5 t0} => by
    unfold sX11_position_75 sX11_position_103
    refine s_gd (by rw [thN T8 ru (k := 58) (n := 60) rfl (by decide)]; exact rg_inB ip (by decide)) ?_
    refine s_hq (th_wI T8 ru (k := 58) (lo := 0) (hi := 1) rfl (rg_narz _) (by decide) (by decide) (szE hp rfl _)) (fun g Tg eg => ?_)
    have fg : Fr ρ (cat c (SZ e58 no) o8.2) o8.2 g := by
      rw [eg]
      exact fu_wI ⟨fun _ _ _ _ => ⟨rfl, rfl, rfl⟩, fun _ _ => rfl⟩ ru (by show SZ e58 no 58 (cw c u) o1.1.toNatClampNeg = true; rfl)
    have plg : PlP ρ c x0 g := fun r' u' er' eu' i hi n b eb => by
      rw [eg] at er' eu' eb
      replace er' : hR o8.2 x0 13 = some r' := er'
      replace eu' : hR o8.2 x0 14 = some u' := eu'
      replace eb : hR o8.2 r' i = some b := eb
      have z1 := r_eq er8 er'
      have z2 := r_eq eu eu'
      subst z1
      subst z2
      have hk2 : rfK 57 i = 4 := if_pos hi
      have rb : ρ b = 4 := rr T8 (thR T8 rr' (i := i) (k2 := 4) hk2 (by decide)) eb
      refine ry_sz niceC_58 T8 rb rfl rfl fg ?_
      by_cases v : i = o1.1.toNatClampNeg
      · rw [v, eq8] at eb
        rw [← Option.some.inj eb]; exact ry8
      · have n' : ¬ hI o8.2 u' i = 0 := fun z => n (by rw [eg, r_I, if_neg (fun y => v y.2)]; exact z)
        exact pl8 r' u' er' eu' i hi n' b eb
    exact s_br (fun _ => s_br (fun _ => fin Tg plg) (fun _ => fin Tg plg)) (fun _ => fin Tg plg)
  have b52 : ∀ {x4 t0 : Int32}, Sat (sX11_position_52 F o8.2 x0 o1.1 x4 t0) (fun o => TH ρ c o.2 ∧ PlP ρ c x0 o.2) := fun {x4 t0} => by
    unfold sX11_position_52 sX11_position_74
    refine s_ref eu ?_
    exact s_br (fun _ => s_br (fun _ => b75) (fun _ => b75)) (fun _ => b75)
  refine s_br (fun _ => ?_) (fun _ => b52)
  obtain ⟨rf, erf, qrf⟩ := thR T8 r0 (i := 6) (k2 := 6) rfl (by decide)
  refine s_ref erf ?_
  refine s_cI0 (zX5_faultOf hF T8 qrf rq (Or.inr nm8)) (fun o11 e11 _ => ?_)
  rw [e11]
  exact b52
end
