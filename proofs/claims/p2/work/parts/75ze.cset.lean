/-! sets of the class: sizes and sums -/
def szI (X : Int) : Nat := if X % 32 = 0 then 0 else if X / 32 % 32 = 0 then 1 else if X / 1024 % 32 = 0 then 2 else if X / 32768 % 32 = 0 then 3 else if X / 1048576 % 32 = 0 then 4 else 5
theorem sz_le (X : Int) : szI X ≤ 5 := by
  unfold szI
  split
  · omega
  · split
    · omega
    · split
      · omega
      · split
        · omega
        · split <;> omega
section
variable {ρ : Nat → Nat} {c : Cm} {h o : Hp} {x0 ks pw F : Nat} {x x1 : Int32}
theorem size_q (hF : 700000 ≤ F) (a : 0 ≤ x.toInt) : Sat (sX0_sizeOf F h x) (fun o => o.2 = h ∧ o.1 = nI (szI x.toInt)) := by
  have d0 := dig_i a 0 ((5 : Int32) * 0) rfl
  have d1 : ((x >>> (((5 : Int32) * 1) &&& 31)) &&& (31 : Int32)).toInt = x.toInt / 32 % 32 := dig_i a 5 ((5 : Int32) * 1) rfl
  have d2 : ((x >>> (((5 : Int32) * 2) &&& 31)) &&& (31 : Int32)).toInt = x.toInt / 1024 % 32 := dig_i a 10 ((5 : Int32) * 2) rfl
  have d3 : ((x >>> (((5 : Int32) * 3) &&& 31)) &&& (31 : Int32)).toInt = x.toInt / 32768 % 32 := dig_i a 15 ((5 : Int32) * 3) rfl
  have d4 : ((x >>> (((5 : Int32) * 4) &&& 31)) &&& (31 : Int32)).toInt = x.toInt / 1048576 % 32 := dig_i a 20 ((5 : Int32) * 4) rfl
  have e0 : x.toInt / ((2 ^ 0 : Nat) : Int) % 32 = x.toInt % 32 := by show x.toInt / 1 % 32 = _; omega
  rw [e0] at d0
  have z31 : ∀ y : Int32, Rg 0 31 y → (y - (1 : Int32) = (-1 : Int32) ↔ y.toInt = 0) := fun y iy => by
    have z1 : (1 : Int32).toInt = 1 := rfl
    have e := ts (x := y) (y := (1 : Int32)) (by have := iy.1; have := iy.2; rw [z1]; omega)
    rw [z1] at e
    constructor
    · intro w
      rw [w] at e
      have : (-1 : Int32).toInt = -1 := rfl
      omega
    · intro w
      apply Int32.toInt_inj.mp
      rw [e, w]
      rfl
  have r31 : ∀ y : Int32, Rg 0 31 (y &&& (31 : Int32)) := fun y => rg_and (rg_b rfl : Rg 31 31 (31 : Int32)) (by decide)
  obtain ⟨F, rfl⟩ : ∃ G, F = G + 6 := ⟨F - 6, by omega⟩
  have st : ∀ (f : Nat) (s : Int32) (n : Nat) (D : Int), s = nI n → n < 5 → ((x >>> (((5 : Int32) * s) &&& 31)) &&& (31 : Int32)).toInt = D → (D = 0 → szI x.toInt = n) → (¬ D = 0 → Sat (sX0_sizeOf_2 (F + 6) f h x (nI (n + 1))) (fun o => o.2 = h ∧ o.1 = nI (szI x.toInt))) → Sat (sX0_sizeOf_2 (F + 6) (f + 1) h x s) (fun o => o.2 = h ∧ o.1 = nI (szI x.toInt)) := by
    intro f s n D es hn eD p1 p2
    rw [sX0_sizeOf_2]
    unfold sX0_sizeOf_22 sX0_codeIn
    refine s_br (fun l => ?_) (fun _ => ?_)
    · have l := le_i l
      rw [es, z_toInt (by omega)] at l
      exact absurd l (by show ¬ (5 : Int) ≤ _; omega)
    · refine s_cl (s_some ?_)
      dsimp only
      refine s_br (fun w => ?_) (fun w => ?_)
      · rw [z31 _ (r31 _), eD] at w
        exact s_some ⟨rfl, by rw [p1 w]; exact es⟩
      · rw [z31 _ (r31 _), eD] at w
        refine s_q (fun y ey => ?_)
        have : y = nI (n + 1) := by
          apply Int32.toInt_inj.mp
          have z1 : (1 : Int32).toInt = 1 := rfl
          have zn := z_toInt (show n < 2 ^ 31 by omega)
          rw [ey, es, ta (by rw [zn, z1]; omega), zn, z1, z_toInt (by omega)]
          rfl
        rw [this]
        exact p2 w
  unfold sX0_sizeOf
  refine st _ 0 0 _ rfl (by decide) d0 (fun w => by unfold szI; rw [if_pos w]) (fun n0 => ?_)
  refine st _ 1 1 _ rfl (by decide) d1 (fun w => by unfold szI; rw [if_neg n0, if_pos w]) (fun n1 => ?_)
  refine st _ 2 2 _ rfl (by decide) d2 (fun w => by unfold szI; rw [if_neg n0, if_neg n1, if_pos w]) (fun n2 => ?_)
  refine st _ 3 3 _ rfl (by decide) d3 (fun w => by unfold szI; rw [if_neg n0, if_neg n1, if_neg n2, if_pos w]) (fun n3 => ?_)
  refine st _ 4 4 _ rfl (by decide) d4 (fun w => by unfold szI; rw [if_neg n0, if_neg n1, if_neg n2, if_neg n3, if_pos w]) (fun n4 => ?_)
  rw [sX0_sizeOf_2]
  unfold sX0_sizeOf_22
  refine s_br (fun _ => s_some ⟨rfl, ?_⟩) (fun w => absurd (by decide) w)
  unfold szI
  rw [if_neg n0, if_neg n1, if_neg n2, if_neg n3, if_neg n4]
/-- a sum -/
def sm (f : Nat → Int) : Nat → Int
  | 0 => 0
  | n + 1 => sm f n + f n
theorem sm_eq {f g : Nat → Int} : ∀ n, (∀ i, i < n → f i = g i) → sm f n = sm g n := by
  intro n
  induction n with
  | zero => intro _; rfl
  | succ n ih => intro z; show sm f n + f n = sm g n + g n; rw [ih (fun i hi => z i (by omega)), z n (by omega)]
theorem sm_le {f : Nat → Int} (p : ∀ i, 0 ≤ f i) : ∀ n d, sm f n ≤ sm f (n + d) := by
  intro n d
  induction d with
  | zero => exact Int.le_refl _
  | succ d ih => show sm f n ≤ sm f (n + d) + f (n + d); have := p (n + d); omega
theorem sm_0 {f : Nat → Int} (p : ∀ i, 0 ≤ f i) : ∀ n, 0 ≤ sm f n := by
  intro n
  have := sm_le p 0 n
  rw [Nat.zero_add] at this
  exact this
/-- what a set's states count -/
def gK (h : Hp) (pw : Nat) (x : Int32) : Int := 2 * (hI h pw (szI x.toInt)).toInt
/-- the sets' states are no more than the total -/
def SumP (x0 ks pw : Nat) (h : Hp) : Prop := sm (fun i => gK h pw (hI h ks i)) (hI h x0 9).toNatClampNeg ≤ (hJ h x0 18).toInt
theorem addC_q (hF : 700000 ≤ F) (hA : pmA c [(20, 999), (1, 9), (1, 18)]) (T : TH ρ c h) (r0 : ρ x0 = 1) (e4 : hR h x0 4 = some ks) (e6 : hR h x0 6 = some pw) (i1 : Rg 0 33554431 x1) (ky : KyX x1) (S : SumP x0 ks pw h) (t0 : 0 ≤ (hJ h x0 18).toInt) {B : Int} (tb : (hJ h x0 18).toInt ≤ B) (bb : B ≤ 1000000000000) : Sat (sX0_addSet F h x0 x1) (fun o => TH ρ c o ∧ SumP x0 ks pw o ∧ 0 ≤ (hJ o x0 18).toInt ∧ (hJ o x0 18).toInt ≤ B + 2147483648 ∧ Kf ρ [(20, 999), (1, 9), (1, 18)] h o) := by
  have qk : ρ ks = 20 := rr T (thR T r0 (i := 4) (k2 := 20) rfl (by decide)) e4
  have qp : ρ pw = 22 := rr T (thR T r0 (i := 6) (k2 := 22) rfl (by decide)) e6
  have i9 := thI T r0 (k := 1) (i := 9) (lo := 0) (hi := 1024) rfl
  have c9 := clamp_i i9.1
  have lp : ∀ (f : Nat) {x2 : Int32}, 0 ≤ x2.toInt → (1025 - x2.toInt).toNat < f → Sat (sX0_addSet_2 F f h x0 x1 x2) (fun o => TH ρ c o ∧ SumP x0 ks pw o ∧ 0 ≤ (hJ o x0 18).toInt ∧ (hJ o x0 18).toInt ≤ B + 2147483648 ∧ Kf ρ [(20, 999), (1, 9), (1, 18)] h o) := by
    intro f
    induction f with
    | zero => intros; omega
    | succ f ih =>
      intro x2 a2 hf
      rw [sX0_addSet_2]
      unfold sX0_addSet_91
      have b9 := i9.2
      refine s_br (fun _ => ?_) (fun n1 => ?_)
      · refine s_ref e6 ?_
        refine s_cl (s_imp (size_q hF i1.1) (fun o3 ⟨e3, v3⟩ => ?_))
        rw [e3, v3]
        have s5 := sz_le x1.toInt
        have isz : Rg 0 5 (nI (szI x1.toInt)) := ⟨by rw [z_toInt (by omega)]; exact Int.natCast_nonneg _, by rw [z_toInt (by omega)]; omega⟩
        have csz : (nI (szI x1.toInt)).toNatClampNeg = szI x1.toInt := by
          have := clamp_i isz.1
          rw [z_toInt (by omega)] at this
          omega
        refine s_gd (by rw [thN T qp (k := 22) (n := 6) rfl (by decide)]; exact rg_inB isz (by decide)) ?_
        rw [csz]
        have ip := thI T qp (k := 22) (i := szI x1.toInt) (lo := 0) (hi := 1073741824) rfl
        have p0 := ip.1
        have p1 := ip.2
        have ep : ((2 : Int64) * ((hI h pw (szI x1.toInt)).toInt64)).toInt = 2 * (hI h pw (szI x1.toInt)).toInt := by
          have e : ((hI h pw (szI x1.toInt)).toInt64).toInt = (hI h pw (szI x1.toInt)).toInt := Int32.toInt_toInt64 _
          have z2 : (2 : Int64).toInt = 2 := rfl
          rw [tm64 (by rw [e, z2]; omega) (by rw [e, z2]; omega), e, z2]
        have et : ((hJ h x0 18) + ((2 : Int64) * ((hI h pw (szI x1.toInt)).toInt64))).toInt = (hJ h x0 18).toInt + 2 * (hI h pw (szI x1.toInt)).toInt := by
          rw [ta64 (by rw [ep]; omega) (by rw [ep]; omega), ep]
        refine s_hq (th_wJ T (k := 1) (i := 18) r0 (by decide) (pm_a hA rfl)) (fun h5 T5 w5 => ?_)
        have K5 : Kf ρ [(20, 999), (1, 9), (1, 18)] h h5 := kf_wJ w5 r0
        have j5 : (hJ h5 x0 18).toInt = (hJ h x0 18).toInt + 2 * (hI h pw (szI x1.toInt)).toInt := by rw [w5, r_J, if_pos ⟨rfl, rfl⟩, et]
        have E5 : ∀ a i, hI h5 a i = hI h a i := fun a i => by rw [w5]; rfl
        have S5 : SumP x0 ks pw h5 := by
          unfold SumP gK
          simp only [E5]
          rw [j5]
          have : SumP x0 ks pw h := S
          unfold SumP gK at this
          omega
        refine s_br (fun _ => s_some ⟨T5, S5, by omega, by omega, K5⟩) (fun _ => ?_)
        refine s_br (fun _ => s_some ⟨T5, S5, by omega, by omega, K5⟩) (fun n9 => ?_)
        have l9 := nle_i n9
        have z1024 : (1024 : Int32).toInt = 1024 := rfl
        rw [E5, z1024] at l9
        have i9' : Rg 0 1023 (hI h5 x0 9) := by rw [E5]; exact ⟨i9.1, by omega⟩
        refine s_ref (by rw [w5]; exact e4) ?_
        refine s_gd (by rw [thN T5 qk (k := 20) (n := 1024) rfl (by decide)]; exact rg_inB i9' (by decide)) ?_
        refine s_hq (th_wI T5 qk (k := 20) (lo := 0) (hi := 33554431) rfl i1 (by decide) (by decide) (pm_a hA rfl) (rpK ky)) (fun h10 T10 w10 => ?_)
        have nkx : ¬ x0 = ks := ne_r' r0 qk (by decide)
        have npk : ¬ pw = ks := ne_r' qp qk (by decide)
        have k9 : hI h10 x0 9 = hI h x0 9 := by rw [w10, r_I, if_neg (fun w => nkx w.1), E5]
        rw [k9]
        have inc : (hI h x0 9 + (1 : Int32)).toInt = (hI h x0 9).toInt + 1 := ta (by show _ ≤ (hI h x0 9).toInt + 1 ∧ (hI h x0 9).toInt + 1 ≤ _; omega)
        refine s_hq (th_wI T10 r0 (k := 1) (i := 9) (lo := 0) (hi := 1024) rfl ⟨by omega, by omega⟩ (by decide) (by decide) (pm_a hA rfl)) (fun h11 T11 w11 => ?_)
        have K11 : Kf ρ [(20, 999), (1, 9), (1, 18)] h h11 := kf_t K5 (kf_t (kf_wI w10 qk) (kf_wI w11 r0))
        have j11 : hJ h11 x0 18 = hJ h5 x0 18 := by rw [w11]; show hJ h10 x0 18 = _; rw [w10]; rfl
        have kp11 : ∀ i, hI h11 pw i = hI h pw i := fun i => kfI i K11 qp
        have kk11 : ∀ i, hI h11 ks i = if i = (hI h x0 9).toNatClampNeg then x1 else hI h ks i := fun i => by
          rw [w11, r_I, if_neg (fun w => nkx w.1.symm), w10, r_I, E5, E5]
          by_cases w : i = (hI h x0 9).toNatClampNeg
          · rw [if_pos ⟨rfl, w⟩, if_pos w]
          · rw [if_neg (fun z => w z.2), if_neg w]
        have n11 : (hI h11 x0 9).toNatClampNeg = (hI h x0 9).toNatClampNeg + 1 := by
          rw [w11, r_I, if_pos ⟨rfl, rfl⟩]
          have := clamp_i (v := hI h x0 9 + (1 : Int32)) (by omega)
          omega
        refine s_some ⟨T11, ?_, by rw [j11]; omega, by rw [j11]; omega, K11⟩
        unfold SumP gK
        rw [n11, j11, j5]
        show sm (fun i => 2 * (hI h11 pw (szI (hI h11 ks i).toInt)).toInt) (hI h x0 9).toNatClampNeg + 2 * (hI h11 pw (szI (hI h11 ks (hI h x0 9).toNatClampNeg).toInt)).toInt ≤ _
        rw [sm_eq (g := fun i => 2 * (hI h pw (szI (hI h ks i).toInt)).toInt) _ (fun i hi => by rw [kp11, kk11, if_neg (by omega)]), kp11, kk11, if_pos rfl]
        have : SumP x0 ks pw h := S
        unfold SumP gK at this
        omega
      · have l2 := nle_i n1
        have i2 : Rg 0 1023 x2 := ⟨a2, by omega⟩
        refine s_ref e4 ?_
        refine s_gd (by rw [thN T qk (k := 20) (n := 1024) rfl (by decide)]; exact rg_inB i2 (by decide)) ?_
        refine s_br (fun _ => s_some ⟨T, S, t0, by omega, kf_r⟩) (fun _ => ?_)
        refine s_q (fun y ey => ?_)
        have ey2 : y.toInt = x2.toInt + 1 := by rw [ey]; exact (nc_s i2 (by decide)).2
        clear ey
        exact ih (by omega) (by omega)
  unfold sX0_addSet
  have z0 : (0 : Int32).toInt = 0 := rfl
  exact lp F (by decide) (by rw [z0]; omega)
end
