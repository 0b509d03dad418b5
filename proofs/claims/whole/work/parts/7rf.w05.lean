section
/-! RULES, the problem too -/
section
variable {n j F : Nat} {g h : Hp} {o o' : Int32 × Hp}
theorem r65_56 : ∀ (f : Nat) {h : Hp} {x2 : Int32}, sX15_rules_56 F f h (n + 513) x2 = some o → hI o.2 (n + 513) 65 = 0 := by
  intro f
  induction f with
  | zero => intro h x2 e; exact absurd e (by rw [sX15_rules_56]; exact fun z => nomatch z)
  | succ f ih =>
    intro h x2 e
    rw [sX15_rules_56] at e
    rcases br_s e with ⟨c1, e⟩ | ⟨c1, e⟩
    · iterate 3 replace e := nx_e e
      obtain ⟨r5, _, e⟩ := cl_s e
      rw [so_e e]
      show hI (wI (wI (wI h (n + 513) 50 0) (n + 513) 44 0) (n + 513) 65 0) (n + 513) 65 = _
      rw [rI_s]
    · obtain ⟨r6, _, e⟩ := cl_s e
      replace e := gg_e e
      obtain ⟨h8, w8, e⟩ := nm_s e
      replace e := nx_e e
      exact ih e
theorem r65_35 : ∀ (f : Nat) {h : Hp} {x2 : Int32}, sX15_rules_35 F f h (n + 513) x2 = some o → hI o.2 (n + 513) 65 = 0 := by
  intro f
  induction f with
  | zero => intro h x2 e; exact absurd e (by rw [sX15_rules_35]; exact fun z => nomatch z)
  | succ f ih =>
    intro h x2 e
    rw [sX15_rules_35] at e
    rcases br_s e with ⟨c1, e⟩ | ⟨c1, e⟩
    · exact r65_56 F e
    · obtain ⟨r6, _, e⟩ := cl_s e
      replace e := gg_e e
      obtain ⟨h8, w8, e⟩ := nm_s e
      replace e := nx_e e
      exact ih e
theorem r65_x (e : sX15_rules F h (n + 513) = some o) : o.1 = (-1 : Int32) - hI o.2 (n + 513) 7 ∨ hI o.2 (n + 513) 65 = 0 := by
  unfold sX15_rules at e
  replace e := nx_e e
  replace e := nx_e e
  obtain ⟨r3, _, e⟩ := cl_s e
  obtain ⟨o4, _, e⟩ := cl_s e
  rcases br_s e with ⟨_, e⟩ | ⟨c, e⟩
  · rw [so_e e]; exact Or.inl rfl
  · obtain ⟨o6, _, e⟩ := cl_s e
    exact Or.inr (r65_35 F e)
theorem ruc_p (k : DyK n h h) (A : PFg n 0 h) (e : sX11_rules F h n = some o) : o.1 = (-1 : Int32) - hI o.2 (n + 21) 2 ∨ (hI o.2 (n + 76) 14 = 0 ∧ hI o.2 (n + 76) 15 = 0) := by
  have s6 := dk_610 k
  unfold sX11_rules at e
  replace e := ce_e (dk_e (a := 0) (f := 4) (b := 21) k (by decide +kernel)) e
  replace e := ce_e (dk_e (a := 0) (f := 0) (b := 1) k (by decide +kernel)) e
  replace e := ce_e (dk_e (a := 0) (f := 3) (b := 13) k (by decide +kernel)) e
  obtain ⟨o4, e4, e⟩ := cl_s e
  obtain ⟨k4, f4⟩ := rdt_x k e4
  replace e := ce_e (dk_e (a := 0) (f := 4) (b := 21) k4 (by decide +kernel)) e
  unfold sX2_faultPlace at e
  replace e := ce_e rfl e
  obtain ⟨v7, w7, e⟩ := nm_s e
  unfold sX11_rules_69 sX9_clear at e
  rcases br_s e with ⟨_, e⟩ | ⟨_, e⟩
  · replace e := ce_e (dk_e (a := 0) (f := 0) (b := 1) k4 (by decide +kernel)) e
    obtain ⟨u, eu, e⟩ := cl_s e
    replace eu := so_e (nx_e eu)
    rw [so_e e, eu]
    refine Or.inl ?_
    show v7 = (-1 : Int32) - hI (wI o4.2 (n + 1) 1 0) (n + 21) 2
    rw [rI_a (by omega), w7]
  · have s4 := dk_610 k4
    replace e := ce_e (dk_e (a := 0) (f := 4) (b := 21) k4 (by decide +kernel)) e
    replace e := ce_e (dk_e (a := 0) (f := 0) (b := 1) k4 (by decide +kernel)) e
    replace e := ce_e (dk_e (a := 0) (f := 2) (b := 5) k4 (by decide +kernel)) e
    obtain ⟨o12, e12, e⟩ := cl_s e
    obtain ⟨k12, B12, f12⟩ := rdl_x k4 e12
    have s12 := dk_610 k12
    replace e := ce_e (dk_e (a := 0) (f := 5) (b := 22) k12 (by decide +kernel)) e
    replace e := ce_e (dk_e (a := 0) (f := 2) (b := 5) k12 (by decide +kernel)) e
    obtain ⟨o15, e15, e⟩ := cl_s e
    obtain ⟨k15, f15⟩ := lay_x k12 e15
    obtain ⟨o16, e16, e⟩ := cl_s e
    obtain ⟨k16, f16, _⟩ := fg_x k15 e16
    have A15 : PFg n 0 o15 := pfg_f (fun i => ((f15.2 (n + 76) i (by omega) (fun c => by unfold WLy at c; omega)).1.trans (f12.2 (n + 76) i (by omega) (fun c => by unfold WRl at c; omega)).1).trans (f4.2 (n + 76) i (by omega) (fun c => by unfold WRl at c; omega)).1) A
    have X := fgp_x k15 A15 e16
    replace e := ce_e (dk_e (a := 0) (f := 2) (b := 5) k16 (by decide +kernel)) e
    replace e := nx_e e
    replace e := ce_e (dk_e (a := 0) (f := 0) (b := 1) k16 (by decide +kernel)) e
    obtain ⟨u, eu, e⟩ := cl_s e
    replace eu := so_e (nx_e eu)
    rw [so_e e, eu]
    refine Or.inr ⟨?_, ?_⟩
    · show hI (wI o16 (n + 1) 1 0) (n + 76) 14 = 0
      rw [rI_a (by omega)]; exact X.1
    · show hI (wI o16 (n + 1) 1 0) (n + 76) 15 = 0
      rw [rI_a (by omega)]; exact X.2
theorem jp_rules {L L' : Nat × Nat} (J : JP n j h) (I' : SI n (n + 513) L' o'.2) (eq : o.1 = o'.1) (e : sX11_rules F h n = some o) (e' : sX15_rules F o.2 (n + 513) = some o') : JP n j o'.2 := by
  have zm : (-1 : Int32).toInt = -1 := rfl
  have z0 : (0 : Int32).toInt = 0 := rfl
  have JJ := j_rules (L := L) (jp_ji J) I' eq e e'
  obtain ⟨k, tz, σ, l1, l2, pb, Ok, C, R, Pc, Pr, Po⟩ := J
  have s6 := dk_610 k
  obtain ⟨kc, cc⟩ := ruc_x k e
  obtain ⟨w0, hw0, e4, e5, _⟩ := R.1
  obtain ⟨w, hw, ww⟩ : ∃ w, (w = 516 ∨ w = 526) ∧ w0 = 1042 - w := ⟨1042 - w0, by omega, by omega⟩
  have w1 : 1042 - w0 = w := by omega
  rw [w1] at e5
  rw [ww] at e4
  have f4 : hR o.2 (n + 513) 4 = some (n + (1042 - w)) := by rw [kc.1.2.2.2.2.2 4 (Or.inl rfl)]; exact e4
  have f5 : hR o.2 (n + 513) 5 = some (n + w) := by rw [kc.1.2.2.2.2.2 5 (Or.inr rfl)]; exact e5
  obtain ⟨kr, rc⟩ := rur_x hw (dk_self kc) f4 f5 e'
  have s6o := dk_610 kc
  obtain ⟨g1, g2, g3, _⟩ := si_rul kr I'
  have eqi : o.1.toInt = o'.1.toInt := by rw [eq]
  have FRn : ∀ {W : Nat → Nat → Prop}, FrW W o.2 o'.2 → (∀ a i, W a i → n + 513 ≤ a) → ∀ a i, n ≤ a → a < n + 513 → hI o'.2 a i = hI o.2 a i ∧ hJ o'.2 a i = hJ o.2 a i := fun f w a i _ l => f.2 a i (by omega) (fun c => by have := w a i c; omega)
  have lg1 := lgle (syo_ok (l := l1) Ok)
  have lg2 := lgle (syo_ok (l := l2) Ok)
  have bad : ∀ {x : Int32} {m : Int}, Rg 0 m x → m ≤ 1201 → o.1 = (-1 : Int32) - x → o.1.toInt ≤ -1 := fun {x m} r rm y => by
    have := r.1
    have := r.2
    rw [y, ts (by rw [zm]; omega), zm]; omega
  have gq : Rg 0 1201 (hI o.2 (n + 21) 2) := by
    rcases rc with ⟨_, _, fr⟩ | ⟨_, _, _, _, _, _, _, fr⟩
    · rw [← (FRn fr (fun a i c => by unfold WIr TwR at c; omega) (n + 21) 2 (by omega) (by omega)).1]; exact g1
    · rw [← (FRn fr (fun a i c => by unfold WIr TwR at c; omega) (n + 21) 2 (by omega) (by omega)).1]; exact g1
  rcases cc with ⟨c1, fc⟩ | ⟨a, b, c, ⟨ka, Ba, fa⟩, ⟨eb, kb, fb⟩, ⟨kc', fc, u1, u2, u3⟩, oe⟩
  · -- wrong on both sides
    have c1 : o.1.toInt ≤ -1 := by
      rcases c1 with c1 | c1
      · rw [c1]; have := gq.1; omega
      · exact bad gq (by decide) c1
    rcases rc with ⟨_, kr', fr⟩ | ⟨E, r1, _⟩
    rotate_left
    · have := E.1.1.1
      rw [eqi, r1] at c1
      omega
    have C1 : RelC n o.2 (syOut σ l1) := relc_f k kc fc (fun j i hj c => by
      unfold WRl TwC at c
      rcases hj with hj | hj
      · unfold cFt at hj; omega
      · omega) (fun q a hq e lo hi j f hj c => by unfold WRl TwC at c; omega) lg1 C
    have R1 : RelR n j o.2 (syOut σ l2) := relr_f k kc fc (fun j i hj c => by
      unfold WRl TwC at c
      rcases hj with hj | hj
      · unfold rFt at hj; omega
      · omega) (fun q hq h5 i a hi e lo hi' j f hj c => by unfold WRl TwC at c; omega) lg2 R
    have C2 : RelC n o'.2 (syOut σ l1) := relc_f (dk_self kc) kr' fr (fun j i hj c => by
      unfold WIr TwR at c
      rcases hj with hj | hj
      · unfold cFt at hj; omega
      · omega) (fun q a hq e lo hi j f hj c => by unfold WIr TwR at c; omega) lg1 C1
    have R2 : RelR n j o'.2 (syOut σ l2) := relr_x (dk_self kc) kr' fr (fun w' hw' e4' j i hj c => by
      have y : n + w' = n + (1042 - w) := r_eq f4 e4'
      unfold WIr TwR at c
      omega) (fun j i hj c => by unfold WIr TwR at c; omega) (fun q hq h5 i a hi e lo hi' j f hj c => by unfold WIr TwR at c; omega) lg2 R1
    have cl : ∀ a i, n + 513 ≤ a → a < n + 610 → hI o.2 a i = hI h a i := fun a i l1 l2 => (fc.2 a i (by omega) (fun c => by unfold WRl TwC at c; omega)).1
    have sn : SerN n o.2 o'.2 := ser_w (dk_self kc) fr (fun a i c z => by unfold WIr TwR at c; omega)
    have Pc1 : CPb n o.2 (syL σ) pb := cpb_f k fc (fun a i c => by unfold WRl TwC at c; omega) Pc
    have Pc2 : CPb n o'.2 (syL σ) pb := cpb_f (dk_self kc) fr (fun a i c => by unfold WIr TwR at c; omega) Pc1
    have Pr1 : RPb n o.2 (syL σ) pb := rpb_c (fun a i hh => cl a i (by omega) (by omega)) Pr
    have Pr2 : RPb n o'.2 (syL σ) pb := rpb_s (σ' := σ) (fun a i hh => (fr.2 a i (by omega) (fun c => by unfold WIr TwR at c; omega)).1) sn R1.2.2.2.2.2 Pr1
    refine ⟨kr, ⟨fun x hx => ?_, ser_b sn (fun p hp => ?_)⟩, σ, l1, l2, pb, Ok, C2, R2, Pc2, Pr2, Po⟩
    · rw [(FRn fr (fun a i c => by unfold WIr TwR at c; omega) (n + 29) x (by omega) (by omega)).1, (fc.2 (n + 29) x (by omega) (fun c => by unfold WRl TwC at c; omega)).1]
      exact tz.1 x hx
    · rw [cl (n + 537) p (by omega) (by omega), cl (n + 513) 16 (by omega) (by omega)]
      exact tz.2 p hp
  · -- anew on both sides
    rcases rc with ⟨r1, _, fr⟩ | ⟨E, r1, t4, t5, v1, v2, v3, fr⟩
    · have y1 : o.1.toInt ≤ -1 := bad g3 (by decide) (by rw [eq]; exact r1)
      have y2 : o.1 = hI c (n + 5) 3 := by rw [oe]
      have y3 : hI o'.2 (n + 5) 3 = hI c (n + 5) 3 := by
        rw [(FRn fr (fun a i c => by unfold WIr TwR at c; omega) (n + 5) 3 (by omega) (by omega)).1, oe]
        show hI (wI c (n + 1) 1 0) (n + 5) 3 = _
        rw [rI_a (by omega)]
      rw [y2, ← y3] at y1
      have := g2.1
      omega
    have pos : ¬ o.1.toInt ≤ -1 := fun c1 => by
      have := E.1.1.1
      rw [eqi, r1] at c1
      omega
    have qr := FRn fr (fun a i c => by unfold WIr TwR at c; omega)
    have X := (ruc_p k (pfg_c Po Pc) e).resolve_left (fun y => pos (bad gq (by decide) y))
    have f65 := (r65_x e').resolve_left (fun y => pos (bad g3 (by decide) (by rw [eq]; exact y)))
    have sa := dk_610 ka
    have sb := dk_610 kb
    have sc := dk_610 kc'
    have f16 : hI o'.2 (n + 513) 16 = hI h (n + 513) 16 := by
      have y1 := (fr.2 (n + 513) 16 (by omega) (fun c => by unfold WIr TwR at c; omega)).1
      have y2 : hI o.2 (n + 513) 16 = hI c (n + 513) 16 := by
        rw [oe]
        show hI (wI c (n + 1) 1 0) (n + 513) 16 = _
        rw [rI_a (by omega)]
      have y3 := (fc.2 (n + 513) 16 (by omega) (fun c => by unfold WFg at c; omega)).1
      have y4 := (fb.2 (n + 513) 16 (by omega) (fun c => by unfold WLy at c; omega)).1
      have y5 := (fa.2 (n + 513) 16 (by omega) (fun c => by unfold WRl at c; omega)).1
      exact y1.trans (y2.trans (y3.trans (y4.trans y5)))
    have p16 : 0 ≤ (hI o'.2 (n + 513) 16).toInt := by rw [f16]; exact R.2.2.2.2.2.1
    refine jp_n JJ ⟨by rw [(qr (n + 76) 14 (by omega) (by omega)).1]; exact X.1, by rw [(qr (n + 76) 15 (by omega) (by omega)).1]; exact X.2⟩ (by rw [f65]; exact p16) (Or.inl (by rw [f65]; exact Int.le_refl _)) (fun p hp => by rw [v1 p hp]; exact p16)
end
end
section
/-! the SHORT TEXT of a move: pure -/
abbrev mvS (v : MvT) : Int := v.1
abbrev mvD (v : MvT) : Int := v.2.1
abbrev mvM (v : MvT) : Int := v.2.2.1
abbrev mvB (v : MvT) : Int := v.2.2.2.1
abbrev mvA (v : MvT) : Int := v.2.2.2.2.1
abbrev mvK (v : MvT) : Int := v.2.2.2.2.2.1
/-- another of the same man to the same square, from elsewhere -/
def Rv (w v : MvT) : Prop := mvK w ≤ 1 ∧ mvM w = mvM v ∧ mvD w = mvD v ∧ ¬ mvS w = mvS v
def AnyI (ms : List MvT) (v : MvT) (R : MvT → Prop) (i : Nat) : Prop := ∃ q w, q < i ∧ ms[q]? = some w ∧ Rv w v ∧ R w
noncomputable def flT (p : Prop) (c : Int) : List Int := if prB' p = true then [c] else []
def FlB (x : Int32) (p : Prop) : Prop := (x = 1 ∧ p) ∨ (x = 0 ∧ ¬ p)
abbrev SmF (L : Nat → Nat → Int) (v w : MvT) : Prop := mvS w % L 0 0 = mvS v % L 0 0
abbrev SmQ (L : Nat → Nat → Int) (v w : MvT) : Prop := mvS w / L 0 0 = mvS v / L 0 0
abbrev AlwP (L : Nat → Nat → Int) (v : MvT) : Prop := mvM v = L 11 0 ∧ ¬ mvA v = -1
def WhF (L : Nat → Nat → Int) (ms : List MvT) (v : MvT) : Prop := AlwP L v ∨ (AnyI ms v (fun _ => True) ms.length ∧ (¬ AnyI ms v (SmF L v) ms.length ∨ AnyI ms v (SmQ L v) ms.length))
def WhR (L : Nat → Nat → Int) (ms : List MvT) (v : MvT) : Prop := AnyI ms v (SmF L v) ms.length
/-- as much of the square left as is told -/
noncomputable def whT (L : Nat → Nat → Int) (ms : List MvT) (v : MvT) : List Int := flT (WhF L ms v) (97 + mvS v % L 0 0) ++ flT (WhR L ms v) (49 + mvS v / L 0 0)
def sqV (L : Nat → Nat → Int) (t : Int) : List Int := [97 + t % L 0 0, 49 + t / L 0 0]
def lUp (L : Nat → Nat → Int) (m : Int) : Int := L 73 m.toNat - 32
def bcT (L : Nat → Nat → Int) (v : MvT) : List Int := if mvB v = -1 then [] else [61, lUp L (mvB v)]
def tkT (v : MvT) : List Int := if mvA v = -1 then [] else [120]
def mnL (L : Nat → Nat → Int) (v : MvT) : List Int := if mvM v = L 11 0 then [] else [lUp L (mvM v)]
/-- what stands before its mark -/
noncomputable def bmT (L : Nat → Nat → Int) (ms : List MvT) (v : MvT) : List Int :=
  if mvK v = 2 then (if mvD v ≤ mvS v then [79, 45, 79, 45, 79] else [79, 45, 79])
  else if mvK v = 3 then [lUp L (mvM v), 64] ++ sqV L (mvD v)
  else mnL L v ++ whT L ms v ++ tkT v ++ sqV L (mvD v) ++ bcT L v
/-- its mark, or -1 -/
noncomputable def mkV (L : Nat → Nat → Int) (P : Pz) (v : MvT) : Int :=
  if (if 0 < (enE L (zAll L P v)).1 then (enE L (zAll L P v)).2 else -1) = (pzS P : Int) then 35
  else if prB' (RyH L (zAll L P v).1 (pzS (zAll L P v))) = true then 43 else -1
def mkT (m : Int) : List Int := if m = -1 then [] else [m]
section
variable {ms : List MvT} {v w : MvT} {R : MvT → Prop} {i : Nat} {p q : Prop} {c : Int} {x : Int32}
theorem flt_t (h : p) : flT p c = [c] := if_pos (prb_e.mpr h)
theorem flt_n (h : ¬ p) : flT p c = [] := if_neg (fun z => h (prb_e.mp z))
theorem flt_l : (flT p c).length ≤ 1 := by
  unfold flT
  split
  · exact Nat.le_refl _
  · exact Nat.zero_le _
theorem flb_i (B : FlB x p) (e : p ↔ q) : FlB x q := B.imp (fun z => ⟨z.1, e.mp z.2⟩) (fun z => ⟨z.1, fun y => z.2 (e.mpr y)⟩)
theorem flb_0 (B : FlB x p) (e : x = 0) : ¬ p := by
  rcases B with ⟨a, _⟩ | ⟨_, a⟩
  · rw [a] at e; exact absurd e (by decide)
  · exact a
theorem flb_1 (B : FlB x p) (e : ¬ x = 0) : p := by
  rcases B with ⟨_, a⟩ | ⟨a, _⟩
  · exact a
  · exact absurd a e
theorem any_0 : ¬ AnyI ms v R 0 := fun ⟨_, _, c, _⟩ => absurd c (Nat.not_lt_zero _)
/-- one more -/
theorem any_s (e : ms[i]? = some w) : AnyI ms v R (i + 1) ↔ (AnyI ms v R i ∨ (Rv w v ∧ R w)) := by
  constructor
  · rintro ⟨q, u, c, eu, r, y⟩
    by_cases z : q = i
    · rw [z, e] at eu
      rw [← Option.some.inj eu] at r y
      exact Or.inr ⟨r, y⟩
    · exact Or.inl ⟨q, u, by omega, eu, r, y⟩
  · rintro (⟨q, u, c, eu, r, y⟩ | ⟨r, y⟩)
    · exact ⟨q, u, by omega, eu, r, y⟩
    · exact ⟨i, w, by omega, e, r, y⟩
theorem any_n (e : ms[i]? = some w) (n : ¬ Rv w v) : AnyI ms v R i ↔ AnyI ms v R (i + 1) := by
  rw [any_s e]
  exact ⟨Or.inl, fun z => z.elim id (fun y => absurd y.1 n)⟩
theorem any_y (e : ms[i]? = some w) (r : Rv w v) (y : R w) : AnyI ms v R (i + 1) := (any_s e).mpr (Or.inr ⟨r, y⟩)
theorem any_o (e : ms[i]? = some w) (n : ¬ R w) : AnyI ms v R i ↔ AnyI ms v R (i + 1) := by
  rw [any_s e]
  exact ⟨Or.inl, fun z => z.elim id (fun y => absurd y.2 n)⟩
theorem any_t (A : AnyI ms v R i) : AnyI ms v (fun _ => True) i := by
  obtain ⟨q, u, c, eu, r, _⟩ := A
  exact ⟨q, u, c, eu, r, trivial⟩
theorem any_m (A : AnyI ms v R i) : AnyI ms v R (i + 1) := by
  obtain ⟨q, u, c, eu, r, y⟩ := A
  exact ⟨q, u, by omega, eu, r, y⟩
end
theorem bm_len {L : Nat → Nat → Int} {ms : List MvT} {v : MvT} : (bmT L ms v).length ≤ 8 := by
  have i1 : ∀ {p : Prop} [Decidable p] {l : List Int} {m : Nat}, l.length ≤ m → (if p then [] else l).length ≤ m := fun {p _ l m} z => by
    split
    · exact Nat.zero_le _
    · exact z
  have a := flt_l (p := WhF L ms v) (c := 97 + mvS v % L 0 0)
  have b := flt_l (p := WhR L ms v) (c := 49 + mvS v / L 0 0)
  have c := i1 (p := mvM v = L 11 0) (l := [lUp L (mvM v)]) (m := 1) (Nat.le_refl _)
  have d := i1 (p := mvA v = -1) (l := [120]) (m := 1) (Nat.le_refl _)
  have e := i1 (p := mvB v = -1) (l := [61, lUp L (mvB v)]) (m := 2) (Nat.le_refl _)
  unfold bmT
  split
  · split <;> decide
  split
  · exact (by decide : 4 ≤ 8)
  · unfold mnL whT tkT sqV bcT
    simp only [List.length_append]
    have f : ([97 + mvD v % L 0 0, 49 + mvD v / L 0 0] : List Int).length = 2 := rfl
    omega
end
section
/-! the class writes a move -/
def WTx (n T a _i : Nat) : Prop := a = n + T ∨ a = n + T + 1
abbrev TxK (T c : Nat) : Prop := (T = 3 ∧ c = 512) ∨ (T = 46 ∧ c = 16)
def SpT (n T : Nat) (g h : Hp) (L : Nat → Nat → Int) (ms : List MvT) (l : List Int) : Prop := DyK n g h ∧ ClL n h L ∧ ClM n h (n + 147) ms ∧ (hI h (n + T) 1).toInt = (l.length : Int) ∧ ∀ i, i < l.length → l[i]? = some (hI h (n + T + 1) i).toInt
section
variable {n T c F : Nat} {g h o : Hp} {L : Nat → Nat → Int} {ms : List MvT} {l : List Int} {ch x : Int32} {P : Pz}
theorem spx_e (k : DyK n g h) (TT : TxK T c) : hR h (n + T) 0 = some (n + T + 1) ∧ hN h (n + T + 1) = c := by
  rcases TT with ⟨a, b⟩ | ⟨a, b⟩ <;> subst a <;> subst b
  · exact ⟨dk_e (a := 3) (f := 0) (b := 4) k (by decide +kernel), ln_d k.1 (a := 4) (w := 512) (by decide)⟩
  · exact ⟨dk_e (a := 46) (f := 0) (b := 47) k (by decide +kernel), ln_d k.1 (a := 47) (w := 16) (by decide)⟩
theorem apx (TT : TxK T c) (S : SpT n T g h L ms l) (cap : l.length < c) (ic : Rg 0 127 ch) (e : sX9_append h (n + T) ch = some o) : SpT n T g o L ms (l ++ [ch.toInt]) ∧ FrW (WTx n T) h o := by
  have z1 : (1 : Int32).toInt = 1 := rfl
  obtain ⟨k, C, M, d1, d2⟩ := S
  obtain ⟨a, b⟩ := spx_e k TT
  have s6 := dk_610 k
  unfold sX9_append sX9_append_36 at e
  replace e := ce_e a e
  replace e := bn_e (fun z => by have := le_i z; rw [z_toInt (by omega), d1, b] at this; omega) e
  replace e := ce_e a e
  replace e := gg_e e
  have cn : (hI h (n + T) 1).toNatClampNeg = l.length := by have := nc_i (x := hI h (n + T) 1) (by omega); omega
  obtain ⟨h3, u3, e⟩ := nm_s e
  obtain ⟨h4, u4, e⟩ := nm_s e
  rw [cn, and255w ic] at u3
  have k3 : DyK n g h3 := by rw [u3]; exact dk_wI k
  have k4 : DyK n g h4 := by rw [u4]; exact dk_wI k3
  have k4' : DyK n h h4 := by rw [u4, u3]; exact dk_wI (dk_wI (dk_self k))
  have f4 : FrW (WTx n T) h h4 := by
    rw [u4, u3]
    exact fw_wI (fw_wI fw_0 (Or.inr rfl)) (Or.inl rfl)
  have q3 : hI h3 (n + T) 1 = hI h (n + T) 1 := by rw [u3, rI_a (by omega)]
  rw [so_e e]
  refine ⟨⟨k4, cll_f k k4' (fun j i hj => f4.2 _ _ (by omega) (fun c => by unfold WTx at c; omega)) C, fun i hi => ?_, ?_, fun i hi => ?_⟩, f4⟩
  · rw [(f4.2 (n + 147) i (by omega) (fun c => by unfold WTx at c; omega)).1]
    exact M i hi
  · rw [u4, rI_s, q3, ta (by rw [z1]; omega), z1, d1, List.length_append]
    rfl
  · rw [List.length_append] at hi
    have hi : i < l.length + 1 := hi
    rw [u4, rI_a (by omega), u3]
    by_cases y : i = l.length
    · rw [y, rI_s, List.getElem?_append_right (Nat.le_refl _), Nat.sub_self]
      rfl
    · rw [rI_o (fun z => y z), List.getElem?_append_left (by omega)]
      exact d2 i (by omega)
theorem lup_x {m : Int} {o : Int32 × Hp} (H : LOk L) (T : LtO L) (C : ClL n h L) (ex : x.toInt = m) (m0 : 0 ≤ m) (mL : m < L 2 0) (e : sX1_letterOf h (n + 5) ((2 : Int32) * x) = some o) : o.2 = h ∧ o.1.toInt = lUp L m ∧ Rg 0 127 o.1 := by
  have z2 : (2 : Int32).toInt = 2 := rfl
  have L2 := H.2.2.1
  have r := lto_c (V := vK n 0 0 0 0 0 0) (v := 1 + 2 * m) H T C.2 (by rw [tm (by rw [z2, ex]; omega), z2, ex]; omega) (by omega) (by omega) e
  unfold ltP mnO at r
  rw [if_pos (by omega), show (1 + 2 * m - 1) / 2 = m by omega] at r
  exact r
theorem sq_x {t : Int} (H : LOk L) (TT : TxK T c) (S : SpT n T g h L ms l) (cap : l.length + 2 ≤ c) (ex : x.toInt = t) (t0 : 0 ≤ t) (tL : t < L 0 0 * L 1 0) (e : sX7_writeSquare h (n + 5) x (n + T) = some o) : SpT n T g o L ms (l ++ sqV L t) ∧ FrW (WTx n T) h o := by
  have z97 : (97 : Int32).toInt = 97 := rfl
  have z49 : (49 : Int32).toInt = 49 := rfl
  have sq := sq_64 H
  have fi := H.1
  have r0 := Int.emod_nonneg t (show L 0 0 ≠ 0 by omega)
  have r1 := Int.emod_lt_of_pos t (show 0 < L 0 0 by omega)
  have d0 : 0 ≤ t / L 0 0 := Int.ediv_nonneg (by omega) (by omega)
  have d1 : t / L 0 0 ≤ t := Int.ediv_le_self _ (by omega)
  have cx : x.toNatClampNeg = t.toNat := by have := nc_i (x := x) (by omega); omega
  have tc : ((t.toNat : Nat) : Int) = t := by omega
  have sL : ((t.toNat : Nat) : Int) < L 0 0 * L 1 0 := by omega
  have f1 : (hI h (n + 11) t.toNat).toInt = ((t.toNat : Nat) : Int) % L 0 0 := (S.2.1.2.1.2.2.2.2.2 t.toNat sL).1
  rw [tc] at f1
  unfold sX7_writeSquare at e
  replace e := ce_e (dk_e (a := 5) (f := 19) (b := 11) S.1 (by decide +kernel)) e
  replace e := gg_e e
  have t1 : ((97 : Int32) + (hI h (n + 11) t.toNat)).toInt = 97 + t % L 0 0 := by rw [ta (by rw [f1, z97]; omega), f1, z97]
  obtain ⟨o3, eo3, e⟩ := cl_s e
  rw [cx] at eo3
  obtain ⟨S3, A3⟩ := apx TT S (by omega) ⟨by omega, by omega⟩ eo3
  have f2 : (hI o3 (n + 12) t.toNat).toInt = ((t.toNat : Nat) : Int) / L 0 0 := (S3.2.1.2.1.2.2.2.2.2 t.toNat sL).2
  rw [tc] at f2
  replace e := ce_e (dk_e (a := 5) (f := 20) (b := 12) S3.1 (by decide +kernel)) e
  replace e := gg_e e
  have t2 : ((49 : Int32) + (hI o3 (n + 12) t.toNat)).toInt = 49 + t / L 0 0 := by rw [ta (by rw [f2, z49]; omega), f2, z49]
  obtain ⟨o6, eo6, e⟩ := cl_s e
  rw [cx] at eo6
  rw [t1] at S3
  obtain ⟨S6, A6⟩ := apx TT S3 (by rw [List.length_append]; show l.length + 1 < _; omega) ⟨by omega, by omega⟩ eo6
  rw [so_e e]
  rw [t2, List.append_assoc] at S6
  exact ⟨S6, fw_t A3 A6⟩
theorem apa_x {t : Nat} (TT : TxK T c) : ∀ (f : Nat) {h : Hp} {x2 : Int32} {i : Nat} {l : List Int}, SpT n T g h L ms l → x2.toInt = (i : Int) → i ≤ (lB t).length → (lB t).length ≤ 100 → l.length + ((lB t).length - i) ≤ c → (∀ q, q < (lB t).length → Rg 0 127 (schr t (nI q))) → sX9_appendAll_2 F f h (n + T) t x2 = some o → SpT n T g o L ms (l ++ ((List.range' i ((lB t).length - i)).map (fun q => (schr t (nI q)).toInt))) ∧ FrW (WTx n T) h o := by
  have z1 : (1 : Int32).toInt = 1 := rfl
  intro f
  induction f with
  | zero => intro h x2 i l _ _ _ _ _ _ e; exact absurd e (by rw [sX9_appendAll_2]; exact fun z => nomatch z)
  | succ f ih =>
    intro h x2 i l S i2 il lm cap rg e
    rw [sX9_appendAll_2] at e
    rcases br_s e with ⟨c1, e⟩ | ⟨c1, e⟩
    · have c1 := le_i c1
      rw [z_toInt (by omega)] at c1
      have y : (lB t).length - i = 0 := by omega
      rw [so_e e, y]
      exact ⟨by rw [show (List.range' i 0) = [] from rfl, List.map_nil, List.append_nil]; exact S, fw_0⟩
    · have c1 := nle_i c1
      rw [z_toInt (by omega)] at c1
      have xi : x2 = nI i := Int32.toInt_inj.mp (by rw [z_toInt (by omega)]; exact i2)
      replace e := gg_e e
      obtain ⟨o3, eo3, e⟩ := cl_s e
      rw [xi] at eo3
      obtain ⟨S3, A3⟩ := apx TT S (by omega) (rg i (by omega)) eo3
      replace e := nx_e e
      obtain ⟨S4, A4⟩ := ih (i := i + 1) S3 (by rw [ta (by rw [z1]; omega), z1, i2]; omega) (by omega) lm (by rw [List.length_append]; show l.length + 1 + _ ≤ c; omega) rg e
      refine ⟨?_, fw_t A3 A4⟩
      rw [show (lB t).length - i = ((lB t).length - (i + 1)) + 1 by omega, List.range'_succ, List.map_cons]
      rw [List.append_assoc] at S4
      exact S4
end
end
section
/-! the class writes a move: the square left, the whole -/
section
variable {n T c F : Nat} {g h o : Hp} {L : Nat → Nat → Int} {ms : List MvT} {l : List Int} {v : MvT} {x5 x10 x11 : Int32} {P : Pz}
theorem mv_fx {x : Int32} (H : LOk L) (G : MvGd L P v) (M : MvC x v) : (∀ o, sX5_kindOf h x = some o → o.2 = h ∧ o.1.toInt = mvK v) ∧ (∀ o, sX5_leftBy h x = some o → o.2 = h ∧ o.1.toInt = (if mvK v = 3 then 0 else mvS v)) ∧ (∀ o, sX5_comeTo h x = some o → o.2 = h ∧ o.1.toInt = mvD v) ∧ (∀ o, sX5_manOf h x = some o → o.2 = h ∧ o.1.toInt = mvM v) ∧ (∀ o, sX5_becomes h x = some o → o.2 = h ∧ o.1.toInt = mvB v) ∧ (∀ o, sX5_takenBy h x = some o → o.2 = h ∧ o.1.toInt = mvA v) := mv_fd H G M
theorem wl_231 {p : Prop} (H : LOk L) (TT : TxK T c) (S : SpT n T g h L ms l) (cap : l.length < c) (e5 : x5.toInt = mvS v) (s0 : 0 ≤ mvS v) (sL : mvS v < L 0 0 * L 1 0) (B : FlB x11 p) (e : sX8_writeLeft_231 F h (n + 39) (n + T) x5 x11 = some o) : SpT n T g o L ms (l ++ flT p (49 + mvS v / L 0 0)) ∧ FrW (WTx n T) h o := by
  have z49 : (49 : Int32).toInt = 49 := rfl
  have sq := sq_64 H
  have fi := H.1
  have d0 : 0 ≤ mvS v / L 0 0 := Int.ediv_nonneg (by omega) (by omega)
  have d1 : mvS v / L 0 0 ≤ mvS v := Int.ediv_le_self _ (by omega)
  have cx : x5.toNatClampNeg = (mvS v).toNat := by have := nc_i (x := x5) (by omega); omega
  have tc : (((mvS v).toNat : Nat) : Int) = mvS v := by omega
  unfold sX8_writeLeft_231 sX8_writeLeft_254 at e
  rcases br_s e with ⟨c1, e⟩ | ⟨c1, e⟩
  · rw [flt_n (flb_0 B c1), List.append_nil, so_e e]
    exact ⟨S, fw_0⟩
  rw [flt_t (flb_1 B c1)]
  replace e := ce_e (dk_e (a := 39) (f := 0) (b := 5) S.1 (by decide +kernel)) e
  replace e := ce_e (dk_e (a := 5) (f := 20) (b := 12) S.1 (by decide +kernel)) e
  replace e := gg_e e
  have f2 : (hI h (n + 12) (mvS v).toNat).toInt = (((mvS v).toNat : Nat) : Int) / L 0 0 := (S.2.1.2.1.2.2.2.2.2 (mvS v).toNat (by omega)).2
  rw [tc] at f2
  have t2 : ((49 : Int32) + (hI h (n + 12) (mvS v).toNat)).toInt = 49 + mvS v / L 0 0 := by rw [ta (by rw [f2, z49]; omega), f2, z49]
  obtain ⟨o5, eo5, e⟩ := cl_s e
  rw [cx] at eo5
  obtain ⟨S5, A5⟩ := apx TT S cap ⟨by omega, by omega⟩ eo5
  rw [so_e e, ← t2]
  exact ⟨S5, A5⟩
theorem wl_206 {p q : Prop} (H : LOk L) (TT : TxK T c) (S : SpT n T g h L ms l) (cap : l.length + 2 ≤ c) (e5 : x5.toInt = mvS v) (s0 : 0 ≤ mvS v) (sL : mvS v < L 0 0 * L 1 0) (B : FlB x10 p) (B' : FlB x11 q) (e : sX8_writeLeft_206 F h (n + 39) (n + T) x5 x10 x11 = some o) : SpT n T g o L ms (l ++ (flT p (97 + mvS v % L 0 0) ++ flT q (49 + mvS v / L 0 0))) ∧ FrW (WTx n T) h o := by
  have z97 : (97 : Int32).toInt = 97 := rfl
  have sq := sq_64 H
  have fi := H.1
  have r0 := Int.emod_nonneg (mvS v) (show L 0 0 ≠ 0 by omega)
  have r1 := Int.emod_lt_of_pos (mvS v) (show 0 < L 0 0 by omega)
  have cx : x5.toNatClampNeg = (mvS v).toNat := by have := nc_i (x := x5) (by omega); omega
  have tc : (((mvS v).toNat : Nat) : Int) = mvS v := by omega
  unfold sX8_writeLeft_206 at e
  rcases br_s e with ⟨c1, e⟩ | ⟨c1, e⟩
  · rw [flt_n (flb_0 B c1), List.nil_append]
    exact wl_231 H TT S (by omega) e5 s0 sL B' e
  rw [flt_t (flb_1 B c1)]
  replace e := ce_e (dk_e (a := 39) (f := 0) (b := 5) S.1 (by decide +kernel)) e
  replace e := ce_e (dk_e (a := 5) (f := 19) (b := 11) S.1 (by decide +kernel)) e
  replace e := gg_e e
  have f2 : (hI h (n + 11) (mvS v).toNat).toInt = (((mvS v).toNat : Nat) : Int) % L 0 0 := (S.2.1.2.1.2.2.2.2.2 (mvS v).toNat (by omega)).1
  rw [tc] at f2
  have t2 : ((97 : Int32) + (hI h (n + 11) (mvS v).toNat)).toInt = 97 + mvS v % L 0 0 := by rw [ta (by rw [f2, z97]; omega), f2, z97]
  obtain ⟨o5, eo5, e⟩ := cl_s e
  rw [cx] at eo5
  obtain ⟨S5, A5⟩ := apx TT S (by omega) ⟨by omega, by omega⟩ eo5
  rw [t2] at S5
  obtain ⟨S6, A6⟩ := wl_231 H TT S5 (by rw [List.length_append]; show l.length + 1 < c; omega) e5 s0 sL B' e
  rw [List.append_assoc] at S6
  exact ⟨S6, fw_t A5 A6⟩
theorem flo {p : Prop} (h : p) : FlB (1 : Int32) p := Or.inl ⟨rfl, h⟩
theorem flz {p : Prop} (h : ¬ p) : FlB (0 : Int32) p := Or.inr ⟨rfl, h⟩
theorem wl_184 {p a f al : Prop} {x6 x7 x9 : Int32} (H : LOk L) (TT : TxK T c) (S : SpT n T g h L ms l) (cap : l.length + 2 ≤ c) (e5 : x5.toInt = mvS v) (s0 : 0 ≤ mvS v) (sL : mvS v < L 0 0 * L 1 0) (fa : f → a) (B6 : FlB x6 a) (B7 : FlB x7 f) (B9 : FlB x9 al) (B : FlB x10 p) (e : sX8_writeLeft_184 F h (n + 39) (n + T) x5 x6 x7 x9 x10 = some o) : SpT n T g o L ms (l ++ (flT p (97 + mvS v % L 0 0) ++ flT f (49 + mvS v / L 0 0))) ∧ FrW (WTx n T) h o := by
  unfold sX8_writeLeft_184 sX8_writeLeft_205 sX8_writeLeft_201 at e
  rcases br_s e with ⟨c1, e⟩ | ⟨c1, e⟩
  · exact wl_206 H TT S cap e5 s0 sL B (flz (flb_0 B7 c1)) e
  have ff := flb_1 B7 c1
  rcases br_s e with ⟨c2, e⟩ | ⟨c2, e⟩
  · rcases br_s e with ⟨c3, e⟩ | ⟨c3, e⟩
    · exact absurd (fa ff) (flb_0 B6 c3)
    · exact wl_206 H TT S cap e5 s0 sL B (flo ff) e
  · exact wl_206 H TT S cap e5 s0 sL B (flo ff) e
theorem wl_157 {a f r al : Prop} {x6 x7 x8 t0 : Int32} (H : LOk L) (TT : TxK T c) (S : SpT n T g h L ms l) (cap : l.length + 2 ≤ c) (e5 : x5.toInt = mvS v) (s0 : 0 ≤ mvS v) (sL : mvS v < L 0 0 * L 1 0) (fa : f → a) (B6 : FlB x6 a) (B7 : FlB x7 f) (B8 : FlB x8 r) (B9 : FlB t0 al) (e : sX8_writeLeft_157 F h (n + 39) (n + T) x5 x6 x7 x8 t0 = some o) : SpT n T g o L ms (l ++ (flT (al ∨ (a ∧ (¬ f ∨ r))) (97 + mvS v % L 0 0) ++ flT f (49 + mvS v / L 0 0))) ∧ FrW (WTx n T) h o := by
  unfold sX8_writeLeft_157 sX8_writeLeft_183 sX8_writeLeft_179 at e
  rcases br_s e with ⟨c1, e⟩ | ⟨c1, e⟩
  rotate_left
  · exact wl_184 H TT S cap e5 s0 sL fa B6 B7 B9 (flo (Or.inl (flb_1 B9 c1))) e
  have nal := flb_0 B9 c1
  rcases br_s e with ⟨c2, e⟩ | ⟨c2, e⟩
  · exact wl_184 H TT S cap e5 s0 sL fa B6 B7 B9 (flz (fun z => z.elim nal (fun y => flb_0 B6 c2 y.1))) e
  have ya := flb_1 B6 c2
  rcases br_s e with ⟨c3, e⟩ | ⟨c3, e⟩
  · exact wl_184 H TT S cap e5 s0 sL fa B6 B7 B9 (flo (Or.inr ⟨ya, Or.inl (flb_0 B7 c3)⟩)) e
  have yf := flb_1 B7 c3
  rcases br_s e with ⟨c4, e⟩ | ⟨c4, e⟩
  · exact wl_184 H TT S cap e5 s0 sL fa B6 B7 B9 (flz (fun z => z.elim nal (fun y => y.2.elim (fun w => w yf) (flb_0 B8 c4)))) e
  · exact wl_184 H TT S cap e5 s0 sL fa B6 B7 B9 (flo (Or.inr ⟨ya, Or.inr (flb_1 B8 c4)⟩)) e
/-- is another a rival -/
theorem riv_x {w : MvT} {y x3 : Int32} {o : Int32 × Hp} (H : LOk L) (Gw : MvGd L P w) (Gv : MvGd L P v) (Mw : MvC y w) (Mv : MvC x3 v) (e : sX8_isRival h y x3 = some o) : o.2 = h ∧ (o.1 = 0 ↔ ¬ (mvK w ≤ 1 ∧ mvM w = mvM v ∧ mvD w = mvD v)) := by
  have z1 : (1 : Int32).toInt = 1 := rfl
  unfold sX8_isRival sX8_isRival_34 sX8_isRival_35 at e
  have no : ∀ {o : Int32 × Hp}, (gd ((0 : Int32) &&& 1 = 0) (some ((0 : Int32), h)) : Option (Int32 × Hp)) = some o → o = ((0 : Int32), h) := fun z => so_e (gg_e z)
  have fw := mv_fx (h := h) H Gw Mw
  have fv := mv_fx (h := h) H Gv Mv
  obtain ⟨o1, e1, e⟩ := cl_s e
  obtain ⟨p1, q1⟩ := fw.2.2.2.1 o1 e1
  rw [p1] at e
  obtain ⟨o2, e2, e⟩ := cl_s e
  obtain ⟨p2, q2⟩ := fv.2.2.2.1 o2 e2
  rw [p2] at e
  rcases br_s e with ⟨c1, e⟩ | ⟨c1, e⟩
  rotate_left
  · rw [no e]
    exact ⟨rfl, fun _ z => c1 (Int32.toInt_inj.mp (by rw [q1, q2]; exact z.2.1)), fun _ => rfl⟩
  have c1 : mvM w = mvM v := by rw [← q1, ← q2, c1]
  obtain ⟨o4, e4, e⟩ := cl_s e
  obtain ⟨p4, q4⟩ := fw.2.2.1 o4 e4
  rw [p4] at e
  obtain ⟨o5, e5, e⟩ := cl_s e
  obtain ⟨p5, q5⟩ := fv.2.2.1 o5 e5
  rw [p5] at e
  rcases br_s e with ⟨c2, e⟩ | ⟨c2, e⟩
  rotate_left
  · rw [no e]
    exact ⟨rfl, fun _ z => c2 (Int32.toInt_inj.mp (by rw [q4, q5]; exact z.2.2)), fun _ => rfl⟩
  have c2 : mvD w = mvD v := by rw [← q4, ← q5, c2]
  obtain ⟨o7, e7, e⟩ := cl_s e
  obtain ⟨p7, q7⟩ := fw.1 o7 e7
  rw [p7] at e
  rcases br_s e with ⟨c3, e⟩ | ⟨c3, e⟩
  · have c3 := lt_i c3
    rw [q7, z1] at c3
    rw [no e]
    exact ⟨rfl, fun _ z => by have := z.1; omega, fun _ => rfl⟩
  · have c3 := nlt_i c3
    rw [q7, z1] at c3
    rw [so_e (gg_e e)]
    exact ⟨rfl, fun z => absurd z (show ¬ (1 : Int32) = 0 by decide), fun z => absurd ⟨c3, c1, c2⟩ z⟩
/-- rivals are looked through -/
theorem wl_18 {x2 x3 : Int32} (H : LOk L) (TT : TxK T c) (Gs : ∀ (i : Nat) (w : MvT), ms[i]? = some w → MvGd L P w) (Gv : MvGd L P v) (Mv : MvC x3 v) (kv : ¬ mvK v = 3) (e2 : x2.toInt = (ms.length : Int)) (lm : ms.length ≤ 4096) (cap : l.length + 2 ≤ c) (e5 : x5.toInt = mvS v) (s0 : 0 ≤ mvS v) (sL : mvS v < L 0 0 * L 1 0) : ∀ (f : Nat) {h : Hp} {x6 x7 x8 x9 : Int32} {i : Nat}, SpT n T g h L ms l → x9.toInt = (i : Int) → i ≤ ms.length → FlB x6 (AnyI ms v (fun _ => True) i) → FlB x7 (AnyI ms v (SmF L v) i) → FlB x8 (AnyI ms v (SmQ L v) i) → sX8_writeLeft_18 F f h (n + 39) (n + 147) x2 x3 (n + T) x5 x6 x7 x8 x9 = some o → SpT n T g o L ms (l ++ whT L ms v) ∧ FrW (WTx n T) h o := by
  have z1 : (1 : Int32).toInt = 1 := rfl
  have sq := sq_64 H
  intro f
  induction f with
  | zero => intro h x6 x7 x8 x9 i _ _ _ _ _ _ e; exact absurd e (by rw [sX8_writeLeft_18]; exact fun z => nomatch z)
  | succ f ih =>
    intro h x6 x7 x8 x9 i S e9 il B6 B7 B8 e
    have k := S.1
    have e0 := dk_e (a := 39) (f := 0) (b := 5) k (by decide +kernel)
    rw [sX8_writeLeft_18] at e
    have fv := mv_fx (h := h) H Gv Mv
    rcases br_s e with ⟨c1, e⟩ | ⟨c1, e⟩
    · have c1 := le_i c1
      have il : i = ms.length := by omega
      subst il
      unfold sX8_writeLeft_156 at e
      obtain ⟨o2, ea, e⟩ := cl_s e
      obtain ⟨p2, q2⟩ := fv.2.2.2.1 o2 ea
      rw [p2] at e
      replace e := ce_e e0 e
      have pl : (hI h (n + 5) 5).toInt = L 11 0 := S.2.1.2.2.2.1.2.1
      rcases br_s e with ⟨c2, e⟩ | ⟨c2, e⟩
      · have c2 : mvM v = L 11 0 := by rw [← q2, ← pl, c2]
        obtain ⟨o5, eb, e⟩ := cl_s e
        obtain ⟨p5, q5⟩ := fv.2.2.2.2.2 o5 eb
        rw [p5] at e
        rcases br_s e with ⟨c3, e⟩ | ⟨c3, e⟩
        · exact wl_157 (al := AlwP L v) H TT S cap e5 s0 sL any_t B6 B7 B8 (flz (fun z => z.2 (by rw [← q5, c3]; rfl))) e
        · exact wl_157 (al := AlwP L v) H TT S cap e5 s0 sL any_t B6 B7 B8 (flo ⟨c2, fun z => c3 (Int32.toInt_inj.mp (q5.trans z))⟩) e
      · exact wl_157 (al := AlwP L v) H TT S cap e5 s0 sL any_t B6 B7 B8 (flz (fun z => c2 (Int32.toInt_inj.mp (by rw [q2, pl]; exact z.1)))) e
    · have c1 := nle_i c1
      have n9 : x9.toNatClampNeg = i := by have := nc_i (x := x9) (by omega); omega
      obtain ⟨w, ew, mw⟩ := S.2.2.1 i (by omega)
      have Gw := Gs i w ew
      have fw := mv_fx (h := h) H Gw mw
      replace e := gg_e e
      obtain ⟨o8, ea, e⟩ := cl_s e
      rw [n9] at ea
      obtain ⟨p8, q8⟩ := fw.2.1 o8 ea
      rw [p8] at e
      have next : ∀ {y6 y7 y8 : Int32}, FlB y6 (AnyI ms v (fun _ => True) (i + 1)) → FlB y7 (AnyI ms v (SmF L v) (i + 1)) → FlB y8 (AnyI ms v (SmQ L v) (i + 1)) → sX8_writeLeft_124 F (sX8_writeLeft_18 F f) h (n + 39) (n + 147) x2 x3 (n + T) x5 y6 y7 y8 x9 = some o → SpT n T g o L ms (l ++ whT L ms v) ∧ FrW (WTx n T) h o := fun b6 b7 b8 e => by
        unfold sX8_writeLeft_124 at e
        replace e := nx_e e
        exact ih (i := i + 1) S (by rw [ta (by rw [z1]; omega), z1, e9]; omega) (by omega) b6 b7 b8 e
      have skip : ¬ Rv w v → sX8_writeLeft_124 F (sX8_writeLeft_18 F f) h (n + 39) (n + 147) x2 x3 (n + T) x5 x6 x7 x8 x9 = some o → SpT n T g o L ms (l ++ whT L ms v) ∧ FrW (WTx n T) h o := fun nr e => next (flb_i B6 (any_n ew nr)) (flb_i B7 (any_n ew nr)) (flb_i B8 (any_n ew nr)) e
      rcases br_s e with ⟨c2, e⟩ | ⟨c2, e⟩
      · refine skip (fun r => ?_) e
        rw [c2, e5] at q8
        have r1 := r.1
        rw [if_neg (by show ¬ mvK w = 3; omega)] at q8
        exact r.2.2.2 q8.symm
      replace e := gg_e e
      obtain ⟨o11, eb, e⟩ := cl_s e
      rw [n9] at eb
      obtain ⟨p11, q11⟩ := riv_x H Gw Gv mw Mv eb
      rw [p11] at e
      rcases br_s e with ⟨c3, e⟩ | ⟨c3, e⟩
      · exact skip (fun r => q11.mp c3 ⟨r.1, r.2.1, r.2.2.1⟩) e
      have r3 := Classical.not_not.mp (fun z => c3 (q11.mpr z))
      rw [if_neg (by show ¬ mvK w = 3; have := r3.1; omega)] at q8
      have q8 : o8.1.toInt = mvS w := q8
      have rv : Rv w v := ⟨r3.1, r3.2.1, r3.2.2, fun z => c2 (Int32.toInt_inj.mp (by rw [q8, e5]; exact z))⟩
      have gw : 0 ≤ mvS w ∧ mvS w < L 0 0 * L 1 0 := by
        rcases Gw.1.2.2.2.1 with ⟨z, _⟩ | ⟨_, z, _⟩
        · have := r3.1
          have z : mvK w = 3 := z
          omega
        · exact z
      have n5 : x5.toNatClampNeg = (mvS v).toNat := by have := nc_i (x := x5) (by omega); omega
      have n8 : o8.1.toNatClampNeg = (mvS w).toNat := by have := nc_i (x := o8.1) (by omega); omega
      have tv : (((mvS v).toNat : Nat) : Int) = mvS v := by omega
      have tw : (((mvS w).toNat : Nat) : Int) = mvS w := by omega
      have av : (hI h (n + 11) (mvS v).toNat).toInt = mvS v % L 0 0 ∧ (hI h (n + 12) (mvS v).toNat).toInt = mvS v / L 0 0 := by
        have := S.2.1.2.1.2.2.2.2.2 (mvS v).toNat (by omega)
        rw [tv] at this; exact this
      have aw : (hI h (n + 11) (mvS w).toNat).toInt = mvS w % L 0 0 ∧ (hI h (n + 12) (mvS w).toNat).toInt = mvS w / L 0 0 := by
        have := S.2.1.2.1.2.2.2.2.2 (mvS w).toNat (by omega)
        rw [tw] at this; exact this
      have eF := dk_e (a := 5) (f := 19) (b := 11) k (by decide +kernel)
      have eR := dk_e (a := 5) (f := 20) (b := 12) k (by decide +kernel)
      have b6 : FlB (1 : Int32) (AnyI ms v (fun _ => True) (i + 1)) := flo (any_y ew rv trivial)
      -- its rank
      have rnk : ∀ {y7 : Int32}, FlB y7 (AnyI ms v (SmF L v) (i + 1)) → sX8_writeLeft_87 F (sX8_writeLeft_18 F f) h (n + 39) (n + 147) x2 x3 (n + T) x5 (1 : Int32) x8 x9 o8.1 y7 = some o → SpT n T g o L ms (l ++ whT L ms v) ∧ FrW (WTx n T) h o := fun {y7} b7 e => by
        unfold sX8_writeLeft_87 sX8_writeLeft_117 sX8_writeLeft_122 at e
        rcases br_s e with ⟨c4, e⟩ | ⟨c4, e⟩
        · replace e := ce_e e0 e
          replace e := ce_e eR e
          replace e := gg_e e
          replace e := ce_e e0 e
          replace e := ce_e eR e
          replace e := gg_e e
          rcases br_s e with ⟨c5, e⟩ | ⟨c5, e⟩ <;> rw [n5, n8] at c5
          · exact next b6 b7 (flo (any_y ew rv (by show mvS w / L 0 0 = mvS v / L 0 0; rw [← av.2, ← aw.2, c5]))) e
          · exact next b6 b7 (flb_i (flz (flb_0 B8 c4)) (any_o ew (fun z => c5 (Int32.toInt_inj.mp (by rw [av.2, aw.2]; exact z))))) e
        · exact next b6 b7 (flo (any_m (flb_1 B8 c4))) e
      unfold sX8_writeLeft_82 at e
      rcases br_s e with ⟨c4, e⟩ | ⟨c4, e⟩
      · replace e := ce_e e0 e
        replace e := ce_e eF e
        replace e := gg_e e
        replace e := ce_e e0 e
        replace e := ce_e eF e
        replace e := gg_e e
        rcases br_s e with ⟨c5, e⟩ | ⟨c5, e⟩ <;> rw [n5, n8] at c5
        · exact rnk (flo (any_y ew rv (by show mvS w % L 0 0 = mvS v % L 0 0; rw [← av.1, ← aw.1, c5]))) e
        · exact rnk (flb_i (flz (flb_0 B7 c4)) (any_o ew (fun z => c5 (Int32.toInt_inj.mp (by rw [av.1, aw.1]; exact z))))) e
      · exact rnk (flo (any_m (flb_1 B7 c4))) e
theorem wl_x {x2 x3 : Int32} (H : LOk L) (TT : TxK T c) (Gs : ∀ (i : Nat) (w : MvT), ms[i]? = some w → MvGd L P w) (Gv : MvGd L P v) (Mv : MvC x3 v) (kv : ¬ mvK v = 3) (e2 : x2.toInt = (ms.length : Int)) (lm : ms.length ≤ 4096) (cap : l.length + 2 ≤ c) (S : SpT n T g h L ms l) (e : sX8_writeLeft F h (n + 39) (n + 147) x2 x3 (n + T) = some o) : SpT n T g o L ms (l ++ whT L ms v) ∧ FrW (WTx n T) h o := by
  have gv : 0 ≤ mvS v ∧ mvS v < L 0 0 * L 1 0 := by
    rcases Gv.1.2.2.2.1 with ⟨z, _⟩ | ⟨_, z, _⟩
    · exact absurd z kv
    · exact z
  unfold sX8_writeLeft at e
  obtain ⟨o1, e1, e⟩ := cl_s e
  obtain ⟨p1, q1⟩ := (mv_fx (h := h) H Gv Mv).2.1 o1 e1
  rw [if_neg kv] at q1
  rw [p1] at e
  exact wl_18 H TT Gs Gv Mv kv e2 lm cap q1 gv.1 gv.2 F S rfl (Nat.zero_le _) (flz any_0) (flz any_0) (flz any_0) e
end
end
section
/-! the class: the text of a move, its mark, SAY -/
section
variable {n T c F : Nat} {g h o : Hp} {L : Nat → Nat → Int} {ms : List MvT} {l : List Int} {v : MvT} {P : Pz}
theorem wm_141 {x5 x6 : Int32} (H : LOk L) (LT : LtO L) (TT : TxK T c) (Gv : MvGd L P v) (Mv : MvC x5 v) (e6 : x6.toInt = mvD v) (cap : l.length + 4 ≤ c) (S : SpT n T g h L ms l) (e : sX8_writeMove_141 F h (n + 39) (n + T) x5 x6 = some o) : SpT n T g o L ms (l ++ (sqV L (mvD v) ++ bcT L v)) ∧ FrW (WTx n T) h o := by
  have z61 : (61 : Int32).toInt = 61 := rfl
  unfold sX8_writeMove_141 sX8_writeMove_187 at e
  replace e := ce_e (dk_e (a := 39) (f := 0) (b := 5) S.1 (by decide +kernel)) e
  obtain ⟨o2, e2, e⟩ := cl_s e
  obtain ⟨S2, A2⟩ := sq_x H TT S (by omega) e6 Gv.1.1.1 Gv.1.1.2 e2
  have l2 : (l ++ sqV L (mvD v)).length = l.length + 2 := by rw [List.length_append]; rfl
  obtain ⟨o3, e3, e⟩ := cl_s e
  obtain ⟨p3, q3⟩ := (mv_fx (h := o2) H Gv Mv).2.2.2.2.1 o3 e3
  rw [p3] at e
  unfold bcT
  rcases br_s e with ⟨c1, e⟩ | ⟨c1, e⟩
  · rw [if_pos (by rw [← q3, c1]; rfl), List.append_nil, so_e e]
    exact ⟨S2, A2⟩
  have nb : ¬ mvB v = -1 := fun z => c1 (Int32.toInt_inj.mp (q3.trans z))
  rw [if_neg nb]
  have bb : 0 ≤ mvB v ∧ mvB v < L 2 0 := by
    rcases Gv.1.2.2.1 with z | z
    · exact absurd z nb
    · exact ⟨z.1, Gv.2.1.2⟩
  obtain ⟨o5, e5, e⟩ := cl_s e
  obtain ⟨S5, A5⟩ := apx TT S2 (by omega) (ch := (61 : Int32)) ⟨by decide, by decide⟩ e5
  replace e := ce_e (dk_e (a := 39) (f := 0) (b := 5) S5.1 (by decide +kernel)) e
  obtain ⟨o7, e7, e⟩ := cl_s e
  obtain ⟨p7, q7⟩ := (mv_fx (h := o5) H Gv Mv).2.2.2.2.1 o7 e7
  rw [p7] at e
  obtain ⟨o8, e8, e⟩ := cl_s e
  obtain ⟨p8, q8, r8⟩ := lup_x H LT S5.2.1 q7 bb.1 bb.2 e8
  rw [p8] at e
  obtain ⟨o9, e9, e⟩ := cl_s e
  have l5 : (l ++ sqV L (mvD v) ++ [(61 : Int32).toInt]).length = l.length + 3 := by rw [List.length_append, l2]; rfl
  obtain ⟨S9, A9⟩ := apx TT S5 (by omega) r8 e9
  rw [so_e e]
  rw [q8, z61] at S9
  refine ⟨?_, fw_t A2 (fw_t A5 A9)⟩
  have : l ++ (sqV L (mvD v) ++ [61, lUp L (mvB v)]) = l ++ sqV L (mvD v) ++ [61] ++ [lUp L (mvB v)] := by simp only [List.append_assoc, List.cons_append, List.nil_append]
  rw [this]; exact S9
theorem wm_125 {x5 x6 : Int32} (H : LOk L) (LT : LtO L) (TT : TxK T c) (Gv : MvGd L P v) (Mv : MvC x5 v) (e6 : x6.toInt = mvD v) (cap : l.length + 5 ≤ c) (S : SpT n T g h L ms l) (e : sX8_writeMove_125 F h (n + 39) (n + T) x5 x6 = some o) : SpT n T g o L ms (l ++ (tkT v ++ (sqV L (mvD v) ++ bcT L v))) ∧ FrW (WTx n T) h o := by
  have zx : (120 : Int32).toInt = 120 := rfl
  unfold sX8_writeMove_125 at e
  obtain ⟨o1, e1, e⟩ := cl_s e
  obtain ⟨p1, q1⟩ := (mv_fx (h := h) H Gv Mv).2.2.2.2.2 o1 e1
  rw [p1] at e
  unfold tkT
  rcases br_s e with ⟨c1, e⟩ | ⟨c1, e⟩
  · rw [if_pos (by rw [← q1, c1]; rfl), List.nil_append]
    exact wm_141 H LT TT Gv Mv e6 (by omega) S e
  · have na : ¬ mvA v = -1 := fun z => c1 (Int32.toInt_inj.mp (q1.trans z))
    rw [if_neg na]
    obtain ⟨o3, e3, e⟩ := cl_s e
    obtain ⟨S3, A3⟩ := apx TT S (by omega) (ch := (120 : Int32)) ⟨by decide, by decide⟩ e3
    obtain ⟨S4, A4⟩ := wm_141 H LT TT Gv Mv e6 (by rw [List.length_append]; show l.length + 1 + 4 ≤ c; omega) S3 e
    rw [zx, List.append_assoc] at S4
    exact ⟨S4, fw_t A3 A4⟩
theorem wm_115 {x2 x5 x6 : Int32} (H : LOk L) (LT : LtO L) (TT : TxK T c) (Gs : ∀ (i : Nat) (w : MvT), ms[i]? = some w → MvGd L P w) (Gv : MvGd L P v) (Mv : MvC x5 v) (kv : ¬ mvK v = 3) (e2 : x2.toInt = (ms.length : Int)) (lm : ms.length ≤ 4096) (e6 : x6.toInt = mvD v) (cap : l.length + 7 ≤ c) (S : SpT n T g h L ms l) (e : sX8_writeMove_115 F h (n + 39) (n + 147) x2 (n + T) x5 x6 = some o) : SpT n T g o L ms (l ++ (whT L ms v ++ (tkT v ++ (sqV L (mvD v) ++ bcT L v)))) ∧ FrW (WTx n T) h o := by
  unfold sX8_writeMove_115 at e
  obtain ⟨o1, e1, e⟩ := cl_s e
  obtain ⟨S1, A1⟩ := wl_x H TT Gs Gv Mv kv e2 lm (by omega) S e1
  have wl' : (whT L ms v).length ≤ 2 := by
    unfold whT
    rw [List.length_append]
    have a := flt_l (p := WhF L ms v) (c := 97 + mvS v % L 0 0)
    have b := flt_l (p := WhR L ms v) (c := 49 + mvS v / L 0 0)
    omega
  obtain ⟨S2, A2⟩ := wm_125 H LT TT Gv Mv e6 (by rw [List.length_append]; omega) S1 e
  rw [List.append_assoc] at S2
  exact ⟨S2, fw_t A1 A2⟩
theorem oo_26 : (List.range' 0 ((lB 26).length - 0)).map (fun q => (schr 26 (nI q)).toInt) = [79, 45, 79] := by decide +kernel
theorem oo_27 : (List.range' 0 ((lB 27).length - 0)).map (fun q => (schr 27 (nI q)).toInt) = [79, 45, 79, 45, 79] := by decide +kernel
theorem og_26 : ∀ q, q < (lB 26).length → Rg 0 127 (schr 26 (nI q)) := by
  have : ∀ q, q < (lB 26).length → 0 ≤ (schr 26 (nI q)).toInt ∧ (schr 26 (nI q)).toInt ≤ 127 := by decide +kernel
  exact this
theorem og_27 : ∀ q, q < (lB 27).length → Rg 0 127 (schr 27 (nI q)) := by
  have : ∀ q, q < (lB 27).length → 0 ≤ (schr 27 (nI q)).toInt ∧ (schr 27 (nI q)).toInt ≤ 127 := by decide +kernel
  exact this
theorem ol_26 : (lB 26).length = 3 := by decide +kernel
theorem ol_27 : (lB 27).length = 5 := by decide +kernel
/-- writeMove -/
theorem wm_x {x2 x3 : Int32} {i : Nat} (H : LOk L) (LT : LtO L) (TT : TxK T c) (Gs : ∀ (i : Nat) (w : MvT), ms[i]? = some w → MvGd L P w) (ev : ms[i]? = some v) (e2 : x2.toInt = (ms.length : Int)) (e3 : x3.toInt = (i : Int)) (lm : ms.length ≤ 4096) (S : SpT n T g h L ms []) (e : sX8_writeMove F h (n + 39) (n + 147) x2 x3 (n + T) = some o) : SpT n T g o L ms (bmT L ms v) ∧ FrW (WTx n T) h o := by
  have z64 : (64 : Int32).toInt = 64 := rfl
  have z2 : (2 : Int32).toInt = 2 := rfl
  have z3 : (3 : Int32).toInt = 3 := rfl
  have cc : 16 ≤ c := by omega
  have il : i < ms.length := (List.getElem?_eq_some_iff.mp ev).1
  have n3 : x3.toNatClampNeg = i := by have := nc_i (x := x3) (by omega); omega
  obtain ⟨v', ev', Mv⟩ := S.2.2.1 i il
  rw [ev] at ev'
  rw [← Option.some.inj ev'] at Mv
  have Gv := Gs i v ev
  have fv := mv_fx (h := h) H Gv Mv
  unfold sX8_writeMove sX8_writeMove_44 at e
  replace e := gg_e e
  obtain ⟨v2, w2, e⟩ := nm_s e
  rw [n3] at w2
  rw [← w2] at Mv fv
  obtain ⟨o3, ea, e⟩ := cl_s e
  obtain ⟨p3, q3⟩ := fv.2.2.1 o3 ea
  rw [p3] at e
  obtain ⟨o4, eb, e⟩ := cl_s e
  obtain ⟨p4, q4⟩ := fv.1 o4 eb
  rw [p4] at e
  have k0 : DyK n g h := S.1
  unfold bmT
  rcases br_s e with ⟨c1, e⟩ | ⟨c1, e⟩
  · have kv : mvK v = 2 := by rw [← q4, c1]; rfl
    rw [if_pos kv]
    obtain ⟨o17, ec, e⟩ := cl_s e
    obtain ⟨p17, q17⟩ := fv.2.1 o17 ec
    rw [if_neg (by omega)] at q17
    rw [p17] at e
    unfold sX9_appendAll at e
    rcases br_s e with ⟨c2, e⟩ | ⟨c2, e⟩
    · have c2 := le_i c2
      rw [q3, q17] at c2
      rw [if_pos c2]
      obtain ⟨o1, ed, e⟩ := cl_s e
      have l27 := ol_27
      obtain ⟨S1, A1⟩ := apa_x TT F (i := 0) S rfl (Nat.zero_le _) (by omega) (by rw [l27]; show 0 + 5 ≤ c; omega) og_27 ed
      rw [oo_27, List.nil_append] at S1
      rw [so_e e]
      exact ⟨S1, A1⟩
    · have c2 := nle_i c2
      rw [q3, q17] at c2
      rw [if_neg (by omega)]
      obtain ⟨o1, ed, e⟩ := cl_s e
      have l26 := ol_26
      obtain ⟨S1, A1⟩ := apa_x TT F (i := 0) S rfl (Nat.zero_le _) (by omega) (by rw [l26]; show 0 + 3 ≤ c; omega) og_26 ed
      rw [oo_26, List.nil_append] at S1
      rw [so_e e]
      exact ⟨S1, A1⟩
  have kv2 : ¬ mvK v = 2 := fun z => c1 (Int32.toInt_inj.mp (by rw [q4, z2]; exact z))
  rw [if_neg kv2]
  obtain ⟨o6, ec, e⟩ := cl_s e
  obtain ⟨p6, q6⟩ := fv.2.2.2.1 o6 ec
  rw [p6] at e
  have e0 := dk_e (a := 39) (f := 0) (b := 5) k0 (by decide +kernel)
  have ml : 0 ≤ mvM v ∧ mvM v < L 2 0 := ⟨Gv.1.2.1.1, Gv.2.1.1⟩
  rcases br_s e with ⟨c2, e⟩ | ⟨c2, e⟩
  · have kv : mvK v = 3 := by rw [← q4, c2]; rfl
    rw [if_pos kv]
    have dr := Gv.2.2.2.2.2.2.1 kv
    replace e := ce_e e0 e
    obtain ⟨o14, ed, e⟩ := cl_s e
    obtain ⟨p14, q14, r14⟩ := lup_x H LT S.2.1 q6 ml.1 ml.2 ed
    rw [p14] at e
    obtain ⟨o15, ee, e⟩ := cl_s e
    obtain ⟨S15, A15⟩ := apx TT S (by show 0 < c; omega) r14 ee
    obtain ⟨o16, ef, e⟩ := cl_s e
    obtain ⟨S16, A16⟩ := apx TT S15 (by show 1 < c; omega) (ch := (64 : Int32)) ⟨by decide, by decide⟩ ef
    obtain ⟨S17, A17⟩ := wm_125 H LT TT Gv Mv q3 (by show 2 + 5 ≤ c; omega) S16 e
    have t1 : tkT v = [] := if_pos dr.2.1
    have t2 : bcT L v = [] := if_pos dr.2.2.1
    rw [t1, t2, List.nil_append, List.append_nil, q14, z64] at S17
    exact ⟨S17, fw_t A15 (fw_t A16 A17)⟩
  have kv3 : ¬ mvK v = 3 := fun z => c2 (Int32.toInt_inj.mp (by rw [q4, z3]; exact z))
  rw [if_neg kv3]
  replace e := ce_e e0 e
  have pl : (hI h (n + 5) 5).toInt = L 11 0 := S.2.1.2.2.2.1.2.1
  unfold mnL
  rcases br_s e with ⟨c3, e⟩ | ⟨c3, e⟩
  · rw [if_pos (by rw [← q6, ← pl, c3])]
    obtain ⟨S1, A1⟩ := wm_115 H LT TT Gs Gv Mv kv3 e2 lm q3 (by show 0 + 7 ≤ c; omega) S e
    refine ⟨?_, A1⟩
    simp only [List.append_assoc]
    exact S1
  · rw [if_neg (fun z => c3 (Int32.toInt_inj.mp (by rw [q6, pl]; exact z)))]
    replace e := ce_e e0 e
    obtain ⟨o11, ed, e⟩ := cl_s e
    obtain ⟨p11, q11, r11⟩ := lup_x H LT S.2.1 q6 ml.1 ml.2 ed
    rw [p11] at e
    obtain ⟨o12, ee, e⟩ := cl_s e
    obtain ⟨S12, A12⟩ := apx TT S (by show 0 < c; omega) r11 ee
    obtain ⟨S13, A13⟩ := wm_115 H LT TT Gs Gv Mv kv3 e2 lm q3 (by show 1 + 7 ≤ c; omega) S12 e
    refine ⟨?_, fw_t A12 A13⟩
    rw [q11] at S13
    simp only [List.append_assoc]
    exact S13
end
end
