/-! the class behind its constructor -/
theorem nu_le (h : Hp) (r : Nat) : ∀ n, nuC h r n ≤ n
  | 0 => Nat.le_refl 0
  | n + 1 => by
    have := nu_le h r n
    show nuC h r n + (if (hR h r n).isNone then 1 else 0) ≤ n + 1
    split <;> omega
def cm0 (n : Nat) : Cm := ((n, 0), (fun _ => false, (fun _ => 0, (fun _ _ _ => true, h00 n))))
theorem th_00 (n : Nat) : TH (fun _ => 0) (cm0 n) (h00 n) := by
  refine ⟨⟨rfl, fun a i => ⟨rg_top _, rp0 rfl⟩, fun a i h => absurd rfl h, fun a i h => absurd rfl h, fun a h => absurd rfl h, fun t tb h => absurd (show (0 : Nat) = 10 from h) (by decide), ⟨fun p q i a _ h => absurd (show (0 : Nat) = 4 from h) (by decide), fun p on of h => absurd (show (0 : Nat) = 4 from h) (by decide)⟩, fun a i h => absurd rfl h, fun a b _ h => ?_⟩, ⟨fun a i r h => absurd (show inh 0 = true from h) (by decide), fun a i r h => absurd rfl h, fun a h => absurd rfl h, fun a i r h => absurd rfl h⟩, Nat.le_refl _, fun a i _ h => absurd rfl h, fun a _ h => absurd rfl h⟩
  rcases h with h | ⟨h | h, _⟩
  · exact absurd (show sgl 0 = true from h) (by decide)
  · exact absurd (show (0 : Nat) = 32 from h) (by decide)
  · exact absurd (show (0 : Nat) = 2 from h) (by decide)
def roA (n : Nat) : Nat → Nat := roJ (fun _ => 0) rtA 513 n
theorem roA_n {n a : Nat} : roA n (n + a) = ro rtA 513 a := roJ_n
theorem roA_c (n a : Nat) : cRo (roA n a) = true := by
  by_cases l : a < n
  · have z : roA n a = 0 := if_pos l
    rw [z]; rfl
  · have z : roA n a = ro rtA 513 (a - n) := if_neg l
    rw [z]; exact rolA _
/-- the law's cells at the start -/
def LV (n : Nat) (o : Hp) : Prop := ∃ q, kdX11_init 2000000 (qq0 11 18) 0 = some q ∧ (∀ k : Nat, 5 ≤ k → k ≤ 10 → ∀ i, hI o (n + k) i = cI q k i) ∧ hJ o (n + 5) 13 = cJ q 5 13 ∧ (∀ i, hR o (n + 5) i = (cR q 5 i).map (n + ·)) ∧ hR o n 2 = some (n + 5)
/-- what the other side, and the room, want of the class at the start -/
def ClS (n : Nat) (c : Cm) (o : Hp) : Prop := TH (roA n) c o ∧ roA n n = 12 ∧ ClI (roA n) c n o ∧ o.1 = (n + 513, 522076) ∧ Top o ∧ capC n o ∧ TpZ n o ∧ (∀ j, j ≠ 50 → c.2.1 j = false) ∧ LV n o
theorem s_class (n : Nat) : ∃ c o, sX11_init 2000000 (nC (h00 n) 11 0 18) n = some o ∧ ClS n c o := by
  have hF : 700000 ≤ 2000000 := by omega
  obtain ⟨o, q, ek, el, ei, cf, o1, tp⟩ := c_start n
  have hq := evA2
  rw [ek] at hq
  have hq' : (ckT rtA 513 q && ckA2 q) = true := hq
  rw [Bool.and_eq_true] at hq'
  obtain ⟨hT, h2⟩ := hq'
  unfold ckA2 at h2
  simp only [Bool.and_eq_true, decide_eq_true_eq] at h2
  obtain ⟨z5, z11, z73, z56, z130, z132, zg, zb⟩ := h2
  have hc := cf.1
  obtain ⟨c, cw1, cm1, cp1, T1⟩ : ∃ c : Cm, (∀ a, cw c (n + a) = wo rtA a) ∧ (∀ j, c.2.1 j = false) ∧ (∀ k w i, cPm c k w i = true) ∧ TH (roA n) c (rel (h00 n) q) :=
    ⟨((rel (h00 n) q).1, (fun _ => false, (woJ (cm0 n) rtA n, (fun _ _ _ => true, h00 n)))), fun _ => woJ_n, fun _ => rfl, fun _ _ _ => rfl, adj (th_00 n) hT (fun z => absurd (show false = true from z) (by decide)) (fun _ _ => rfl) (fun _ _ z => absurd rfl z)⟩
  have pA : ∀ A, pmA c A := fun A w k i _ => cp1 k w i
  generalize hg : rel (h00 n) q = g at T1 el
  have R : ∀ a i, hR g (n + a) i = (cR q a i).map (n + ·) := fun a i => by rw [← hg]; exact l_R (h00 n) q a i
  have N : ∀ a, hN g (n + a) = cN q a := fun a => by rw [← hg]; exact l_N (h00 n) q a
  have I : ∀ a i, hI g (n + a) i = cI q a i := fun a i => by rw [← hg]; exact l_I (h00 n) q a i
  have rq : ∀ {a i b : Nat}, (a, i, b) ∈ rA → hR g (n + a) i = some (n + b) := fun {a i b} hm => by
    rw [R, ckR_e (ckA_R hc) hm]; rfl
  have iq : ∀ {a i : Nat} {k : Int32}, (a, i, k) ∈ iA → hI g (n + a) i = k := fun {a i k} hm => by
    rw [I, ckI_e (ckA_I hc) hm]
  have rq0 : ∀ {i b : Nat}, (0, i, b) ∈ rA → hR g n i = some (n + b) := fun hm => rq hm
  have r0 : roA n n = 12 := by
    have z : roA n (n + 0) = ro rtA 513 0 := roA_n
    exact z.trans (by decide +kernel)
  have rL : roA n (n + 5) = 2 := roA_n.trans (by decide +kernel)
  have rW : roA n (n + 22) = 11 := roA_n.trans (by decide +kernel)
  have wL : cw c (n + 5) = 2102 := (cw1 5).trans (by decide +kernel)
  have i0 : (hI g (n + 5) 0).toInt = 8 := by rw [iq (a := 5) (i := 0) (k := 8) (by decide)]; rfl
  have i1 : (hI g (n + 5) 1).toInt = 8 := by rw [iq (a := 5) (i := 1) (k := 8) (by decide)]; rfl
  have i2 : (hI g (n + 5) 2).toInt = 64 := by rw [iq (a := 5) (i := 2) (k := 64) (by decide)]; rfl
  have i3 : (hI g (n + 5) 3).toInt = 6 := by rw [iq (a := 5) (i := 3) (k := 6) (by decide)]; rfl
  have i4 : (hI g (n + 5) 4).toInt = 0 := by rw [iq (a := 5) (i := 4) (k := 0) (by decide)]; rfl
  have i6 : (hI g (n + 5) 6).toInt = 2 := by rw [I, z56]; rfl
  have gs : GeoS (n + 5) g := fun fo ef _ i hi => by
    rw [rq (a := 5) (i := 19) (b := 11) (by decide)] at ef
    rw [← Option.some.inj ef, I]
    exact of_decide_eq_true (List.all_eq_true.mp zg i (List.mem_range.mpr hi))
  have lz : LwZ (n + 5) g := by
    refine ⟨by omega, by omega, fun bm bc em eb => ?_, by rw [i0, i1, i2]; rfl⟩
    rw [rq (a := 5) (i := 17) (b := 9) (by decide)] at em
    rw [rq (a := 5) (i := 18) (b := 10) (by decide)] at eb
    rw [← Option.some.inj em, ← Option.some.inj eb, i3]
    intro k hk
    have w := List.all_eq_true.mp zb k (List.mem_range.mpr hk)
    rw [Bool.and_eq_true, decide_eq_true_eq] at w
    rw [I]
    refine ⟨w.1, fun i hi => ?_⟩
    have v := List.all_eq_true.mp w.2 i (List.mem_range.mpr (by have := w.1; omega))
    simp only [Bool.or_eq_true, Bool.and_eq_true, decide_eq_true_eq] at v
    rw [I]
    rcases v with v | v
    · omega
    · exact v
  obtain ⟨c', hc', T', lw⟩ := lw_mk1 T1 rL wL gs
  have cwe : cw c' = cw c := by
    rcases hc' with z | z
    · rw [z]
    · rw [z]; rfl
  have w' : cw c' (n + 5) = 2102 := by rw [cwe]; exact wL
  have pA' : ∀ A, pmA c' A := fun A w k i _ => by rcases hc' with z | z <;> (rw [z]; exact cp1 k w i)
  have cm' : ∀ j, j ≠ 50 → c'.2.1 j = false := fun j hj => by
    rcases hc' with z | z
    · rw [z]; exact cm1 j
    · rw [z]
      show (j == 50 || c.2.1 j) = false
      rw [cm1 j, beq_eq_false_iff_ne.mpr hj]; rfl
  obtain ⟨o15, e15, Z15⟩ := zX10_lay (F := 2000000) (c := cat c' (fS [(50, 999), (51, 999), (52, 999), (53, 999), (54, 999), (55, 999), (56, 999), (11, 7), (11, 8)] []) g) hF fs_a rfl (th_in _ T') rW rL w' lw
  have y15 : o15 = o := Option.some.inj (e15.symm.trans el)
  subst y15
  have T15 := th_out T' (fs_sub (pmA_s (pA' [(50, 999), (51, 999), (52, 999), (53, 999), (54, 999), (55, 999), (56, 999), (11, 7), (11, 8)]) rfl) fs_n) Z15
  have f15 := fr_u T' Z15.2.2
  have lw15 : LwR (roA n) c' o15 := lwr_f f15 (fun _ => rfl) lw
  have K15 : Kf (roA n) [(50, 999), (51, 999), (52, 999), (53, 999), (54, 999), (55, 999), (56, 999), (11, 7), (11, 8)] g o15 := kf_of f15 rfl
  have z15 := lz_k T' rL K15 lz
  have IL : ∀ j, hI o15 (n + 5) j = hI g (n + 5) j := fun j => (frx f15 rL (by decide) rfl rfl).1
  have wx15 := lay_wx hF T' rW rL lz.2.2.2 e15
  have fx15 := lay_fx hF T' rW rL e15
  have fm15 := lay_fm hF T' rW rL w' lw e15
  have one : ∀ W', roA n W' = 11 → W' = n + 22 := fun W' rW' => T'.1.2.2.2.2.2.2.2.2 W' (n + 22) (by rw [rW', rW]) (Or.inl (by rw [rW']; rfl))
  have lone : ∀ L', roA n L' = 2 → cw c' L' = 2102 → L' = n + 5 := fun L' rL' wL' => law_1 T' rL w' rL' wL'
  have R15 : ∀ i, hR o15 n i = hR g n i := fun i => (frx f15 r0 (by decide) rfl rfl).2.2
  have I15 : ClI (roA n) c' n o15 := by
    have uz : ∀ u, hR o15 n 14 = some u → ∀ i : Nat, i < 60 → hI o15 u i = 0 := fun u eu i hi => by
      rw [R15, rq0 (i := 14) (b := 149) (by decide)] at eu
      have ru : roA n (n + 149) = 58 := roA_n.trans (by decide +kernel)
      rw [← Option.some.inj eu, (frx f15 ru (by decide) rfl rfl).1, I]
      exact ckA_z hc hi
    refine ⟨lw15, fun r u er eu i hi nu => absurd (uz u eu i hi) nu, fun r u er eu i hi nu => absurd (uz u eu i hi) nu, fun rl el' m k hm hk b B => ?_, fun L' eL' => ?_, fun L' eL' => ?_, fun W' rW' => ?_, fun rt er z => ?_, fun e ee => ?_, fun W' L' rW' rL' wL' => ?_, fun L' rL' wL' => ?_, fun W' L' rW' rL' wL' => ?_, fun L' rL' wL' => ?_⟩
    · rw [R15, rq0 (i := 17) (b := 152) (by decide)] at el'
      have ru : roA n (n + 152) = 61 := roA_n.trans (by decide +kernel)
      rw [← Option.some.inj el', (frx f15 ru (by decide) rfl rfl).1, I, ckA_p hc hm] at hk
      have z1 : (-1 : Int32).toInt = -1 := rfl
      omega
    · rw [R15, rq0 (i := 2) (b := 5) (by decide)] at eL'
      rw [← Option.some.inj eL']
      exact gs_fr T' rL f15 (fun _ => rfl) (fun _ => rfl) (fun _ => rfl) (fun _ => rfl) (fun _ _ => rfl) gs
    · rw [R15, rq0 (i := 3) (b := 13) (by decide)] at eL'
      rw [← Option.some.inj eL']
      have r13 : roA n (n + 13) = 2 := roA_n.trans (by decide +kernel)
      have j0 : (hI g (n + 13) 0).toInt = 0 := by rw [I, z130]; rfl
      have j2 : (hI g (n + 13) 2).toInt = 0 := by rw [I, z132]; rfl
      exact gs_fr T' r13 f15 (fun _ => rfl) (fun _ => rfl) (fun _ => rfl) (fun _ => rfl) (fun _ _ => rfl) (fun fo ef hh i hi => by omega)
    · rw [one W' rW']; exact fm15
    · rw [R15, rq0 (i := 9) (b := 48) (by decide)] at er
      have ru : roA n (n + 48) = 7 := roA_n.trans (by decide +kernel)
      rw [← Option.some.inj er, (frx f15 ru (by decide) rfl rfl).1, iq (a := 48) (i := 6) (k := 0) (by decide)] at z
      exact absurd z (by decide)
    · rw [R15, rq0 (i := 10) (b := 62) (by decide)] at ee
      rw [← Option.some.inj ee]
      have re : roA n (n + 62) = 1 := roA_n.trans (by decide +kernel)
      have Re : ∀ i, hR o15 (n + 62) i = hR g (n + 62) i := fun i => (frx f15 re (by decide) rfl rfl).2.2
      refine ⟨fun r er i => ?_, fun a ea => Or.inl ?_, fun nz => ?_⟩
      · rw [Re] at er
        have q21 : roA n r = 21 := rr T' (thR T' re (i := 5) (k2 := 21) rfl (by decide)) er
        rw [(frx f15 q21 (by decide) rfl rfl).1]
        obtain ⟨b, eb, zb'⟩ := zz_e z5
        rw [R, eb] at er
        rw [← Option.some.inj er]
        show (hI g (n + b) i).toInt % 2 = 0
        rw [I, zb']; rfl
      · rw [Re, R, z11] at ea
        rw [← Option.some.inj ea]
        have q24 : roA n (n + 73) = 24 := roA_n.trans (by decide +kernel)
        show hN o15 (n + 73) = 0
        rw [f15.2 (n + 73) (by rw [q24]; decide), N, z73]
      · exact absurd ((frx f15 re (by decide) rfl rfl).1.trans (iq (a := 62) (i := 10) (k := 0) (by decide))) nz
    · rw [one W' rW', lone L' rL' wL', IL]
      exact fx15
    · rw [lone L' rL' wL']
      exact ⟨z15.1, z15.2.1, z15.2.2.1⟩
    · rw [one W' rW', lone L' rL' wL', IL, IL]
      exact wx15
    · rw [lone L' rL' wL']
      exact z15.2.2.2
  have et : hR o15 n 0 = some (n + 1) := (R15 0).trans (rq0 (i := 0) (b := 1) (by decide))
  have rt : roA n (n + 1) = 10 := roA_n.trans (by decide +kernel)
  have wt : cw c' (n + 1) = 2100 := kid_w T15 r0 (i := 0) rfl (by decide) et
  obtain ⟨o2, e2, Z⟩ := zX9_clear (F := 2000000) (c := cat c' (fS [] [(2100, [(10, 1)])]) o15) hF (by rw [show cw (cat c' (fS [] [(2100, [(10, 1)])]) o15) (n + 1) = 2100 from wt]; exact fs_o (.head _)) (th_in _ T15) rt
  have y2 : o2 = wI o15 (n + 1) 1 0 := by
    unfold sX9_clear at e2
    exact (Option.some.inj e2).symm
  subst y2
  have f2 := fr_u T15 Z.2.2
  have T2 := th_out T15 (fs_sub pmA_n (fs_c (fun k i m => by rcases hc' with z | z <;> (rw [z]; exact cp1 k 2100 i)) fs_n)) Z
  refine ⟨c', _, ei, T2, r0, ci_A rfl T15 r0 f2 I15, o1, tp, fun t b et' eb => ?_, fun t et' => ?_, cm', q, ek, fun k k5 k10 i => ?_, ?_, fun i => ?_, ?_⟩
  · have e' : hR o15 n 0 = some t := et'
    rw [r_eq et e'] at eb
    have eb' : hR o15 (n + 1) 0 = some b := eb
    have R1 : hR o15 (n + 1) 0 = hR g (n + 1) 0 := (frx f15 rt (by decide) rfl rfl).2.2
    rw [R1, rq (a := 1) (i := 0) (b := 2) (by decide)] at eb'
    rw [← Option.some.inj eb']
    have r49 : roA n (n + 2) = 49 := roA_n.trans (by decide +kernel)
    show hN o15 (n + 2) = 1200
    rw [f15.2 (n + 2) (by rw [r49]; decide), N]
    exact ckN_e (ckA_N hc) (a := 2) (n := 1200) (by decide)
  · have e' : hR o15 n 0 = some t := et'
    rw [r_eq et e']
    exact rI_s
  · have lk := lk_f f15 (fun k w i z => by rcases lw_c z with z | z | z | z | z | z | z | z <;> subst z <;> rfl)
    have zk : lwK (roA n (n + k)) = true := by
      rw [roA_n]
      have : k = 5 ∨ k = 6 ∨ k = 7 ∨ k = 8 ∨ k = 9 ∨ k = 10 := by omega
      rcases this with z | z | z | z | z | z <;> (rw [z]; decide +kernel)
    rw [rI_a (by omega), (lk (n + k) zk i).1, I]
  · have lk := lk_f f15 (fun k w i z => by rcases lw_c z with z | z | z | z | z | z | z | z <;> subst z <;> rfl)
    show hJ o15 (n + 5) 13 = _
    rw [(lk (n + 5) (by rw [rL]; rfl) 13).2.1, ← hg]
    exact l_J (h00 n) q 5 13
  · have lk := lk_f f15 (fun k w i z => by rcases lw_c z with z | z | z | z | z | z | z | z <;> subst z <;> rfl)
    show hR o15 (n + 5) i = _
    rw [(lk (n + 5) (by rw [rL]; rfl) i).2.2, R]
  · show hR o15 n 2 = _
    rw [R15]
    exact rq0 (i := 2) (b := 5) (by decide)
