/-! solve and worth of the class -/
def EnA (x0 : Nat) (h : Hp) : Prop := ∀ e, hR h x0 10 = some e → EvP e h ∧ LnI e h ∧ EnQ e h
def FmY (ρ : Nat → Nat) (c : Cm) (h : Hp) : Prop := ∀ wy L, ρ wy = 11 → ρ L = 2 → cw c L = 2102 → FmX wy (hI h L 2).toInt h
abbrev SVL : List (Nat × Nat) := [(20, 999), (21, 999), (22, 999), (1, 9), (1, 18), (1, 11), (1, 12), (1, 13), (23, 999), (1, 8), (24, 999), (25, 999), (26, 999), (1, 16), (1, 17), (1, 10), (1, 15), (1, 14)]
abbrev SVX : List (Nat × Nat) := [(20, 999), (21, 999), (22, 999), (1, 9), (1, 18), (1, 11), (1, 12), (1, 13), (23, 999), (1, 8), (24, 999), (25, 999), (26, 999), (1, 16), (1, 17), (1, 10), (1, 15), (34, 999), (35, 999), (36, 999), (4, 5), (4, 7), (1, 14), (10, 1)]
section
variable {ρ : Nat → Nat} {c : Cm} {h o : Hp} {x0 e F : Nat}
theorem lenp_k {E : List (Nat × Nat)} (T : TH ρ c h) (r0 : ρ e = 1) (K : Kf ρ E h o) (N : ∀ a, ρ a ≠ 0 → hN o a = hN h a) (y1 : mS E 1 11 = false := by rfl) (y2 : mS E 1 12 = false := by rfl) (y3 : mS E 1 13 = false := by rfl) (P : LenP e h) : LenP e o := fun i a hi ea => by
  have q : ∀ j k2, mS E 1 j = false → rfK 1 j = k2 → k2 ≠ 0 → hR o e j = some a → hR h e j = some a ∧ ρ a ≠ 0 := fun j k2 hm hk h0 ej => by
    rw [kfR j K r0 (by decide) hm] at ej
    exact ⟨ej, by rw [rr T (thR T r0 (i := j) (k2 := k2) hk h0) ej]; exact h0⟩
  have z : hR h e i = some a ∧ ρ a ≠ 0 := by
    rcases hi with w | w | w <;> subst w
    · exact q 11 24 y1 rfl (by decide) ea
    · exact q 12 25 y2 rfl (by decide) ea
    · exact q 13 26 y3 rfl (by decide) ea
  rw [N a z.2]
  exact P i a hi z.1
/-- what holds of the endings stays where nothing of them is written -/
theorem ena_k {E : List (Nat × Nat)} (T : TH ρ c h) (r0 : ρ x0 = 12) (K : Kf ρ E h o) (N : ∀ a, ρ a ≠ 0 → hN o a = hN h a) (y0 : mS E 12 10 = false := by rfl) (y1 : ∀ j, ¬ j = 14 → ¬ j = 8 → ¬ j = 17 → ¬ j = 16 → mS E 1 j = false) (y2 : ∀ i, mS E 20 i = false := by intro _; rfl) (y3 : ∀ i, mS E 21 i = false := by intro _; rfl) (y4 : ∀ i, mS E 22 i = false := by intro _; rfl) (y5 : mS E 2 2 = false := by rfl) (P : EnA x0 h) : EnA x0 o := fun e ee => by
  rw [kfR 10 K r0 (by decide) y0] at ee
  have re : ρ e = 1 := rr T (thR T r0 (i := 10) (k2 := 1) rfl (by decide)) ee
  obtain ⟨p1, p2, p3⟩ := P e ee
  have y1' : ∀ j, (j == 14 || j == 8 || j == 17 || j == 16) = false → mS E 1 j = false := fun j hj => by
    rw [Bool.or_eq_false_iff, Bool.or_eq_false_iff, Bool.or_eq_false_iff] at hj
    exact y1 j (fun z => by rw [z] at hj; exact absurd hj.1.1.1 (by decide)) (fun z => by rw [z] at hj; exact absurd hj.1.1.2 (by decide)) (fun z => by rw [z] at hj; exact absurd hj.1.2 (by decide)) (fun z => by rw [z] at hj; exact absurd hj.2 (by decide))
  refine ⟨evp_k T re K (y1' 5 rfl) y3 p1, fun a ea => ?_, fun n => ?_⟩
  · rw [kfR 11 K re (by decide) (y1' 11 rfl)] at ea
    have ra := rr T (thR T re (i := 11) (k2 := 24) rfl (by decide)) ea
    rw [N a (by rw [ra]; decide)]
    exact (p2 a ea).imp id (fun P => lenp_k T re K N (y1' 11 rfl) (y1' 12 rfl) (y1' 13 rfl) P)
  · rw [kfI 10 K re (by decide) (y1' 10 rfl)] at n
    obtain ⟨l, ks, st, pw, L, e0, e4, e5, e6, Pw, S⟩ := p3 n
    have rL : ρ L = 2 := rr T (thR T re (i := 0) (k2 := 2) rfl (by decide)) e0
    have qk : ρ ks = 20 := rr T (thR T re (i := 4) (k2 := 20) rfl (by decide)) e4
    have qs : ρ st = 21 := rr T (thR T re (i := 5) (k2 := 21) rfl (by decide)) e5
    have qp : ρ pw = 22 := rr T (thR T re (i := 6) (k2 := 22) rfl (by decide)) e6
    refine ⟨lenp_k T re K N (y1' 11 rfl) (y1' 12 rfl) (y1' 13 rfl) l, ks, st, pw, L, ?_, ?_, ?_, ?_, fun i hi => ?_, stp_k T re qk qp qs K (y1' 9 rfl) y2 y3 y4 S⟩
    · rw [kfR 0 K re (by decide) (y1' 0 rfl)]; exact e0
    · rw [kfR 4 K re (by decide) (y1' 4 rfl)]; exact e4
    · rw [kfR 5 K re (by decide) (y1' 5 rfl)]; exact e5
    · rw [kfR 6 K re (by decide) (y1' 6 rfl)]; exact e6
    · rw [kfI i K qp (by decide) (y4 i), kfI 2 K rL (by decide) y5]; exact Pw i hi
theorem fmy_k {E : List (Nat × Nat)} (T : TH ρ c h) (K : Kf ρ E h o) (y1 : mS E 11 3 = false := by rfl) (y2 : ∀ i, mS E 53 i = false := by intro _; rfl) (y3 : mS E 2 2 = false := by rfl) (P : FmY ρ c h) : FmY ρ c o := fun wy L rw' rL wL => by
  rw [kfI 2 K rL (by decide) y3]
  exact fmx_k T rw' K y1 y2 (P wy L rw' rL wL)
theorem zX11_solve (hF : 700000 ≤ F) (hA : pmA c SVL) (hO : pmO c 1003 BOL) (hT : pmO c 2100 [(10, 1)]) (T : TH ρ c h) (r0 : ρ x0 = 12) (lw : LwR ρ c h) (en : EnA x0 h) (fm : FmY ρ c h) : Sat (sX11_solve F h x0) (MkI ρ c (-2147483648) 2147483647 (fun o => EnA x0 o ∧ Kf ρ SVX h o)) := by
  obtain ⟨L, eL, rL⟩ := thR T r0 (i := 2) (k2 := 2) rfl (by decide)
  -- the tape is cleared
  have b71 : ∀ {ρ1 : Nat → Nat} {c1 : Cm} {g : Hp} {y : Int32}, Ext ρ c ρ1 c1 → TH ρ1 c1 g → EnA x0 g → Kf ρ SVX h g → Sat (sX11_solve_71 F g x0 y) (MkI ρ c (-2147483648) 2147483647 (fun o => EnA x0 o ∧ Kf ρ SVX h o)) := fun {ρ1 c1 g y} X Tg eg Kg => by
    unfold sX11_solve_71 sX11_solve_78
    have r1 := ex_r X r0 (by decide)
    obtain ⟨t, et, rt⟩ := thR Tg r1 (i := 0) (k2 := 10) rfl (by decide)
    refine s_ref et ?_
    have wt : cw c1 t = 2100 := kid_w Tg r1 (i := 0) rfl (by decide) et
    refine s_cVf (S := fS [] [(2100, [(10, 1)])]) Tg (fs_sub pmA_n (fs_c (ex_O X hT) fs_n)) (zX9_clear hF (by rw [show cw (cat c1 (fS [] [(2100, [(10, 1)])]) g) t = 2100 from wt]; exact fs_o (.head _)) (th_in _ Tg) rt) (fun o2 T2 f2 => ?_)
    have K2 : Kf ρ1 [(10, 1)] g o2 := kf_of f2 rfl
    exact s_some ⟨ρ1, c1, X, T2, rg_top _, ena_k Tg r1 K2 f2.2 (y1 := fun _ _ _ _ _ => rfl) (P := eg), kf_t Kg (kf_m (kf_ex X K2) rfl)⟩
  have out : ∀ {y : Int32}, Sat (sX11_solve_71 F h x0 y) (MkI ρ c (-2147483648) 2147483647 (fun o => EnA x0 o ∧ Kf ρ SVX h o)) := fun {y} => b71 ex_0 T en kf_r
  unfold sX11_solve
  refine s_ref eL ?_
  refine s_cI0 (zX1_isPlain hF T rL) (fun o2 q2 _ => ?_)
  rw [q2]
  unfold sX11_solve_10
  refine s_br (fun _ => out) (fun _ => ?_)
  refine s_ref eL ?_
  refine s_cI0 (zX1_hasCatch hF T rL) (fun o3 q3 _ => ?_)
  rw [q3]
  unfold sX11_solve_20
  refine s_br (fun _ => ?_) (fun _ => out)
  obtain ⟨e, ee, re⟩ := thR T r0 (i := 10) (k2 := 1) rfl (by decide)
  obtain ⟨t, et, rt⟩ := thR T r0 (i := 0) (k2 := 10) rfl (by decide)
  refine s_ref ee (s_ref et ?_)
  refine s_cl (s_imp (readC_q (c := cat c (fS [(1, 14)] []) h) hF fs_a (th_in _ T) re rt (rg_m (thI T rt (k := 10) (i := 1) rfl) (by decide))) (fun o4 ⟨T4', ky, K4⟩ => ?_))
  have T4 := th_out T (fs_sub (pmA_s hA rfl) fs_n) T4'
  have f4 := fr_u T T4'.2.2
  have en4 : EnA x0 o4.2 := ena_k T r0 K4 f4.2 (y1 := fun j h1 _ _ _ => by
    show mS [(1, 14)] 1 j = false
    unfold mS
    simp [List.any]
    exact fun z => h1 z.symm) (P := en)
  unfold sX11_solve_34 sX11_solve_70
  refine s_br (fun z => ?_) (fun _ => b71 ex_0 T4 en4 (kf_m K4 rfl))
  have ee4 : hR o4.2 x0 10 = some e := by rw [kfR 10 K4 r0]; exact ee
  refine s_ref ee4 ?_
  obtain ⟨LE, eLE, rLE⟩ := thR T4 re (i := 0) (k2 := 2) rfl (by decide)
  obtain ⟨wy, ewy, rwy⟩ := thR T4 re (i := 1) (k2 := 11) rfl (by decide)
  have wLE : cw c LE = 2102 := kid_w T4 re (i := 0) (w := 2102) rfl (by decide) eLE
  obtain ⟨p1, p2, p3⟩ := en4 e ee4
  have fm4 : FmY ρ c o4.2 := fmy_k T K4 (P := fm)
  refine s_mI (S := fS RUL [(1003, BOL)]) T4 (fs_sub (pmA_s hA rfl) (fs_c hO fs_n)) (run_q hF fs_a (fs_o (.head _)) (th_in _ T4) re eLE ewy (ky z) p1 p2 (lw_k K4 (P := lw)) (fm4 wy LE rwy rLE wLE)) (fun o5 ρ1 c1 X T5 f5 i5 ⟨w1, w2, w3, K5⟩ => ?_)
  have r1 := ex_r X r0 (by decide)
  have re1 := ex_r X re (by decide)
  have K45 : Kf ρ SVX h o5.2 := kf_t (kf_m K4 rfl) (kf_m K5 rfl)
  have en5 : EnA x0 o5.2 := fun e' ee' => by
    rw [kfR 10 K5 r0] at ee'
    have q : e' = e := r_eq ee4 ee'
    subst q
    exact ⟨w1, w2, w3⟩
  unfold sX11_solve_55 sX11_solve_70
  refine s_br (fun _ => b71 X T5 en5 K45) (fun _ => ?_)
  refine s_ref (by rw [kfR 10 K5 r0]; exact ee4) ?_
  exact b71 X T5 en5 K45
end
