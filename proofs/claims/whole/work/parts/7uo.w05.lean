section
/-! ENDINGS, the reference: workOut -/
theorem cmp_ge' {x : Int32} {y : Int64} (n : 0 ≤ lg_cmp x.toInt64 y) : y.toInt ≤ x.toInt := by
  have e : x.toInt64.toInt = x.toInt := Int32.toInt_toInt64 x
  rw [← e]
  generalize x.toInt64 = z at n
  unfold lg_cmp at n
  by_cases q : z > y
  · have q' : y < z := q
    rw [Int64.lt_iff_toInt_lt] at q'
    omega
  · rw [if_neg q] at n
    by_cases q2 : z = y
    · rw [q2]; exact Int.le_refl _
    · rw [if_neg q2] at n; exact absurd n (by decide)
section
variable {n F N q km tot : Nat} {g h hs o : Hp} {nk : Nat → Nat} {rk : Nat → Nat → Int} {bk : Nat → Nat} {x1 x2 x3 x4 x5 : Int32} {L : Nat → Nat → Int} {p : Nat} {T0 : Nod → Int}
/-- what stays while worths are worked out -/
def WoB (n : Nat) (h : Hp) (L : Nat → Nat → Int) (N : Nat) (nk : Nat → Nat) (rk : Nat → Nat → Int) (bk : Nat → Nat) (q km tot : Nat) : Prop := WkB n h L N nk rk bk q ∧ (hI h (n + 513) 49).toInt = (N : Int) ∧ ((hJ h (n + 513) 59).toInt = (tot : Int) ∧ tot ≤ 600000 ∧ ∀ k, k < N → bk k + 2 * q ^ nk k ≤ tot) ∧ (n + 610 ≤ km ∧ km < hS h) ∧ ∀ ν, RtA L N nk rk q ν → v0A L nk rk q ν = none → MkT n h km L rk nk q ν.1 ν.2.1 ν.2.2
def WWo (n a i : Nat) : Prop := WWn n a i ∨ a = n + 607 ∨ a = n + 595
theorem wob_f (k0 : DyK n hs hs) (kh : DyK n hs h) (Fr : FrW (WWo n) hs h) (B : WoB n hs L N nk rk bk q km tot) : WoB n h L N nk rk bk q km tot := by
  obtain ⟨a, b, c, d, e⟩ := B
  have s0 := dk_610 k0
  refine ⟨wkb_f k0 kh Fr (fun a i c => by unfold WWo WWn at c; omega) a, by rw [(Fr.2 (n + 513) 49 (by omega) (fun c => by unfold WWo WWn at c; omega)).1]; exact b, ⟨by rw [(Fr.2 (n + 513) 59 (by omega) (fun c => by unfold WWo WWn at c; omega)).2]; exact c.1, c.2⟩, ⟨d.1, Nat.lt_of_lt_of_le d.2 Fr.1⟩, fun ν R v => ?_⟩
  obtain ⟨m1, m2, m3⟩ := e ν R v
  refine ⟨by rw [(kh.2.2.2 (by omega)).2]; exact m1, ?_, fun j jm ow x hx => ?_⟩
  · unfold MkB
    rw [(Fr.2 (n + 596) ν.1 (by omega) (fun c => by unfold WWo WWn at c; omega)).1, (Fr.2 (n + 592) ν.1 (by omega) (fun c => by unfold WWo WWn at c; omega)).1]
    exact m2
  · rw [mki_f k0 Fr (fun i => ⟨fun c => by unfold WWo WWn at c; omega, fun c => by unfold WWo WWn at c; omega, fun c => by unfold WWo WWn at c; omega⟩), (Fr.2 km _ d.2 (fun c => by unfold WWo WWn at c; omega)).2]
    exact m3 j jm ow x hx
/-- two places of the table -/
theorem at_inj (S : FmR n h N nk rk bk q) {ν ν' : Nod} (a : NdA N nk q ν) (b : NdA N nk q ν') (e : bk ν.1 + 2 * ν.2.1 + ν.2.2 = bk ν'.1 + 2 * ν'.2.1 + ν'.2.2) : ν = ν' := by
  obtain ⟨k, num, sd⟩ := ν
  obtain ⟨k', num', sd'⟩ := ν'
  have a : k < N ∧ num < q ^ nk k ∧ sd < 2 := a
  have b : k' < N ∧ num' < q ^ nk k' ∧ sd' < 2 := b
  have e : bk k + 2 * num + sd = bk k' + 2 * num' + sd' := e
  have kk : k = k' := by
    rcases Nat.lt_trichotomy k k' with c | c | c
    · have := S.2.1 k k' c b.1
      omega
    · exact c
    · have := S.2.1 k' k c a.1
      omega
  subst kk
  have : num = num' := by omega
  have : sd = sd' := by omega
  subst_vars
  rfl
/-- looked at already in this pass -/
def DnP (kc cc : Nat) (ν : Nod) : Prop := ν.1 < kc ∨ (ν.1 = kc ∧ 2 * ν.2.1 + ν.2.2 < cc)
/-- within pass p -/
def PsS (n : Nat) (h : Hp) (L : Nat → Nat → Int) (N : Nat) (nk : Nat → Nat) (rk : Nat → Nat → Int) (bk : Nat → Nat) (q : Nat) (T0 : Nod → Int) (p kc cc C0 : Nat) (x2 : Int32) : Prop := (∀ ν, NdA N nk q ν → DnP kc cc ν → NwT (ArA L N nk rk q) T0 (TbR n h bk) p ν) ∧ (∀ ν, NdA N nk q ν → ¬ DnP kc cc ν → TbR n h bk ν = T0 ν) ∧ (x2 = 0 → ∀ ν, NdA N nk q ν → TbR n h bk ν = T0 ν) ∧ ((x2 = 0 ∧ opC h (n + 595) 600000 ≤ C0) ∨ (x2 = 1 ∧ opC h (n + 595) 600000 < C0))
/-- a pass is through -/
def PsE (n : Nat) (h : Hp) (L : Nat → Nat → Int) (N : Nat) (nk : Nat → Nat) (rk : Nat → Nat → Int) (bk : Nat → Nat) (q : Nat) (T0 : Nod → Int) (p C0 : Nat) (x2 : Int32) : Prop := (∀ ν, NdA N nk q ν → NwT (ArA L N nk rk q) T0 (TbR n h bk) p ν) ∧ (x2 = 0 → ∀ ν, NdA N nk q ν → TbR n h bk ν = T0 ν) ∧ ((x2 = 0 ∧ opC h (n + 595) 600000 ≤ C0) ∨ (x2 = 1 ∧ opC h (n + 595) 600000 < C0))
/-- the ends of moves are the same in the table so far -/
theorem ps_wi (p1 : 1 ≤ p ∧ p ≤ 700000) {kc cc C0 : Nat} (P : PsS n h L N nk rk bk q T0 p kc cc C0 x2) {ν : Nod} : (WiP (ArA L N nk rk q) (TbR n h bk) p ν ↔ WiP (ArA L N nk rk q) T0 p ν) ∧ (LsP (ArA L N nk rk q) (TbR n h bk) p ν ↔ LsP (ArA L N nk rk q) T0 p ν) := by
  have ch : ∀ y, ArA L N nk rk q ν y → (ν.2.2 < 2 → True) → TbR n h bk y = T0 y ∨ (T0 y = 2000000 ∧ (TbR n h bk y = 1000000 - (p : Int) ∨ TbR n h bk y = (p : Int) - 1000000)) := fun y ar _ => by
    have na : NdA N nk q y := ⟨ar.2.choose_spec.2.1, ar.2.choose_spec.2.2.1, by have := ar.1; omega⟩
    by_cases c : DnP kc cc y
    · exact nwt_c (P.1 y na c)
    · exact Or.inl (P.2.1 y na c)
  constructor
  · constructor
    · intro ⟨y, ar, e⟩
      refine ⟨y, ar, ?_⟩
      rcases ch y ar (fun _ => trivial) with z | ⟨_, z | z⟩
      · rw [← z, e]
      · rw [e] at z; omega
      · rw [e] at z; omega
    · intro ⟨y, ar, e⟩
      refine ⟨y, ar, ?_⟩
      rcases ch y ar (fun _ => trivial) with z | ⟨z, _⟩
      · rw [z, e]
      · rw [e] at z; omega
  · constructor
    · intro l y ar
      have := l y ar
      rcases ch y ar (fun _ => trivial) with z | ⟨_, z | z⟩
      · rw [← z]; exact this
      · omega
      · omega
    · intro l y ar
      have := l y ar
      rcases ch y ar (fun _ => trivial) with z | ⟨z, _⟩
      · rw [z]; exact this
      · omega
theorem wo_30 {K4 : Hp → Nat → Int32 → Int32 → Option Hp} {K12 : Hp → Nat → Int32 → Int32 → Int32 → Option Hp} {k C0 : Nat} {Q : Prop} (hF : 700000 ≤ F) (E : LwE L N nk rk q) (k0 : DyK n hs hs) (B0 : WoB n hs L N nk rk bk q km tot) (kN : k < N) (p1 : 1 ≤ p ∧ p ≤ 700000) (ep : x1.toInt = (p : Int)) (e3 : x3.toInt = (k : Int)) (e4 : x4.toInt = ((2 * q ^ nk k : Nat) : Int)) (opn : ∀ ν, NdA N nk q ν → T0 ν = 2000000 → RtA L N nk rk q ν ∧ v0A L nk rk q ν = none) (fin : ∀ {h' : Hp} {y2 : Int32}, DyK n g h' → DyK n hs h' → FrW (WWo n) hs h' → PsS n h' L N nk rk bk q T0 p (k + 1) 0 C0 y2 → K12 h' (n + 513) x1 y2 (x3 + (1 : Int32)) = some o → Q) : ∀ (f : Nat) {h : Hp} {x2 x5 : Int32} {c : Nat}, DyK n g h → DyK n hs h → FrW (WWo n) hs h → PsS n h L N nk rk bk q T0 p k c C0 x2 → x5.toInt = (c : Int) → c ≤ 2 * q ^ nk k → sX15_workOut_30 F K4 K12 f h (n + 513) x1 x2 x3 x4 x5 = some o → Q := by
  have z1 : (1 : Int32).toInt = 1 := rfl
  have z2 : (2000000 : Int32).toInt = 2000000 := rfl
  have s0 := dk_610 k0
  intro f
  induction f with
  | zero => intro h x2 x5 c _ _ _ _ _ _ e; exact absurd e (by rw [sX15_workOut_30]; exact fun z => nomatch z)
  | succ f ih =>
    intro h x2 x5 c kg kh Fr P e5 cl' e
    rw [sX15_workOut_30] at e
    have s6 := dk_610 kh
    have Bh := wob_f k0 kh Fr B0
    obtain ⟨⟨a1, a2⟩, _⟩ := id Bh.1.2.1
    obtain ⟨b1, b2, b3, b4, b5⟩ := a2 k kN
    rcases br_s e with ⟨d, e⟩ | ⟨d, e⟩
    · have d := le_i d
      have : c = 2 * q ^ nk k := by omega
      obtain ⟨v2, w2, e⟩ := nm_s e
      rw [w2] at e
      refine fin kg kh Fr ⟨fun ν na dn => P.1 ν na ?_, fun ν na dn => P.2.1 ν na (fun z => dn ?_), P.2.2⟩ e
      · rcases dn with z | ⟨_, z⟩
        · by_cases y : ν.1 = k
          · have h1 : ν.2.1 < q ^ nk k := by
              have := na.2.1
              rw [y] at this
              exact this
            have h2 := na.2.2
            exact Or.inr ⟨y, by omega⟩
          · exact Or.inl (by omega)
        · omega
      · rcases z with z | ⟨z, _⟩
        · exact Or.inl (by omega)
        · exact Or.inl (by omega)
    have d := nle_i d
    have cb : c < 2 * q ^ nk k := by omega
    obtain ⟨num, sd, hc, sd2⟩ : ∃ num sd, c = 2 * num + sd ∧ sd < 2 := ⟨c / 2, c % 2, by omega, by omega⟩
    have na : NdA N nk q (k, num, sd) := ⟨kN, by show num < q ^ nk k; omega, sd2⟩
    have n3 : x3.toNatClampNeg = k := by have := nc_i (x := x3) (by omega); omega
    replace e := ce_e (dk_e (a := 513) (f := 48) (b := 594) kh (by decide +kernel)) e
    replace e := gg_e e
    obtain ⟨v5, w5, e⟩ := nm_s e
    rw [n3] at w5
    have y5 : v5.toInt = ((bk k + c : Nat) : Int) := by rw [w5, ta (by rw [b4]; omega), b4]; omega
    have n5 : v5.toNatClampNeg = bk k + 2 * num + sd := by have := nc_i (x := v5) (by omega); omega
    replace e := ce_e (dk_e (a := 513) (f := 51) (b := 595) kh (by decide +kernel)) e
    replace e := gg_e e
    have ndn : ¬ DnP k c (k, num, sd) := fun z => by
      rcases z with z | ⟨_, z⟩
      · exact absurd z (Nat.lt_irrefl _)
      · have z : 2 * num + sd < c := z
        omega
    have t0 : TbR n h bk (k, num, sd) = T0 (k, num, sd) := P.2.1 _ na ndn
    have t0 : (hI h (n + 595) (bk k + 2 * num + sd)).toInt = T0 (k, num, sd) := t0
    have dnx : ∀ ν, NdA N nk q ν → (DnP k (c + 1) ν ↔ (DnP k c ν ∨ ν = (k, num, sd))) := fun ν nv => by
      constructor
      · intro z
        rcases z with z | ⟨z, y⟩
        · exact Or.inl (Or.inl z)
        · by_cases w : 2 * ν.2.1 + ν.2.2 = c
          · refine Or.inr ?_
            obtain ⟨a, b, d⟩ := ν
            have z : a = k := z
            have w : 2 * b + d = c := w
            have nv : d < 2 := nv.2.2
            have : b = num := by omega
            have : d = sd := by omega
            subst_vars
            rfl
          · exact Or.inl (Or.inr ⟨z, by omega⟩)
      · intro z
        rcases z with (z | ⟨z, y⟩) | z
        · exact Or.inl z
        · exact Or.inr ⟨z, by omega⟩
        · rw [z]; exact Or.inr ⟨rfl, by show 2 * num + sd < c + 1; omega⟩
    have y51 : (x5 + (1 : Int32)).toInt = ((c + 1 : Nat) : Int) := by rw [ta (by rw [z1]; omega), z1]; omega
    -- nothing is written
    have keep : ∀ {u : Hp}, DyK n g u → DyK n hs u → FrW (WWo n) hs u → (∀ i, hI u (n + 595) i = hI h (n + 595) i) → NwT (ArA L N nk rk q) T0 (TbR n h bk) p (k, num, sd) → sX15_workOut_91 F K4 K12 (sX15_workOut_30 F K4 K12 f) u (n + 513) x1 x2 x3 x4 x5 = some o → Q := fun {u} kug kuh Fu eu nw e => by
      unfold sX15_workOut_91 at e
      have tb : TbR n u bk = TbR n h bk := funext fun ν => by
        show (hI u (n + 595) _).toInt = (hI h (n + 595) _).toInt
        rw [eu]
      refine ih kug kuh Fu ⟨fun ν nv dn => ?_, fun ν nv dn => ?_, fun z ν nv => ?_, ?_⟩ y51 (by omega) (nx_e e)
      · rw [tb]
        rcases (dnx ν nv).mp dn with z | z
        · exact P.1 ν nv z
        · rw [z]; exact nw
      · rw [tb]; exact P.2.1 ν nv (fun z => dn ((dnx ν nv).mpr (Or.inl z)))
      · rw [tb]; exact P.2.2.1 z ν nv
      · rw [op_eq eu]; exact P.2.2.2
    rcases br_s e with ⟨d2, e⟩ | ⟨d2, e⟩ <;> rw [n5] at d2
    rotate_left
    · unfold sX15_workOut_73 at e
      replace e := bp_e rfl e
      have nt : ¬ T0 (k, num, sd) = 2000000 := fun z => d2 (Int32.toInt_inj.mp (by rw [z2, ← z]; exact t0))
      exact keep kg kh Fr (fun _ => rfl) (Or.inl ⟨nt, t0⟩) e
    have o2 : T0 (k, num, sd) = 2000000 := by rw [← t0, d2]; rfl
    obtain ⟨R, vn⟩ := opn _ na o2
    obtain ⟨o9, e9, e⟩ := cl_s e
    obtain ⟨f9, k9', k9g, r9⟩ := wn_k (p := p) hF E (dk_self kh) kg Bh.1 R (Bh.2.2.2.2 _ R vn) Bh.2.2.2.1.1 Bh.2.2.2.1.2 ep p1 e3 (by rw [e5, hc]) e9
    have k9 : DyK n hs o9.2 := dk_t kh k9'
    have F9 : FrW (WWo n) hs o9.2 := fw_t Fr (fw_s f9 (fun a i c => c.elim Or.inl (fun c => Or.inr (Or.inl c))))
    have t9 : ∀ i, hI o9.2 (n + 595) i = hI h (n + 595) i := fun i => (f9.2 (n + 595) i (by omega) (fun c => by unfold WWn at c; omega)).1
    obtain ⟨wq, lq⟩ := ps_wi p1 P (ν := (k, num, sd))
    unfold sX15_workOut_73 at e
    -- a worth is written
    have wr : ∀ {y : Int}, o9.1.toInt = y → ¬ y = 0 → ¬ y = 2000000 → (∀ T1 : Nod → Int, T1 (k, num, sd) = y → NwT (ArA L N nk rk q) T0 T1 p (k, num, sd)) → Q := fun {y} ey y0 y2 nw => by
      replace e := bn_e (fun z => y0 (by rw [← ey, z]; rfl)) e
      have s9 := dk_610 k9
      replace e := ce_e (dk_e (a := 513) (f := 51) (b := 595) k9 (by decide +kernel)) e
      replace e := gg_e e
      obtain ⟨h4, w4, e⟩ := nm_s e
      rw [n5] at w4
      unfold sX15_workOut_91 at e
      have tq : ∀ ν, NdA N nk q ν → ¬ ν = (k, num, sd) → TbR n h4 bk ν = TbR n h bk ν := fun ν nv ne => by
        show (hI h4 (n + 595) _).toInt = (hI h (n + 595) _).toInt
        rw [w4, rI_o (fun z => ne (at_inj Bh.1.2.1 nv na z)), t9]
      have tv : TbR n h4 bk (k, num, sd) = y := by
        show (hI h4 (n + 595) (bk k + 2 * num + sd)).toInt = y
        rw [w4, rI_s, ey]
      refine ih (by rw [w4]; exact dk_wI k9g) (by rw [w4]; exact dk_wI k9) (by rw [w4]; exact fw_wI F9 (Or.inr (Or.inr rfl))) (x2 := 1) ⟨fun ν nv dn => ?_, fun ν nv dn => ?_, fun z => absurd z (by decide), Or.inr ⟨rfl, ?_⟩⟩ y51 (by omega) (nx_e e)
      · rcases (dnx ν nv).mp dn with z | z
        · by_cases w : ν = (k, num, sd)
          · rw [w]; exact nw _ tv
          · have old := P.1 ν nv z
            unfold NwT at old ⊢
            rw [tq ν nv w]
            exact old
        · rw [z]; exact nw _ tv
      · have w : ¬ ν = (k, num, sd) := fun z => dn ((dnx ν nv).mpr (Or.inr z))
        rw [tq ν nv w]
        exact P.2.1 ν nv (fun z => dn ((dnx ν nv).mpr (Or.inl z)))
      · have ow := op_w (h := o9.2) (r := n + 595) (j := bk k + 2 * num + sd) (v := o9.1) w4 (fun z => y2 (by rw [← ey, z]; rfl)) (by rw [t9]; exact d2) 600000
        rw [if_pos (by omega), op_eq t9] at ow
        rcases P.2.2.2 with z | z <;> omega
    rcases r9 with ⟨w, v⟩ | ⟨nw, ⟨l, v⟩ | ⟨nl, v⟩⟩
    · exact wr v (by omega) (by omega) (fun T1 t => Or.inr ⟨o2, Or.inl ⟨wq.mp w, t⟩⟩)
    · exact wr v (by omega) (by omega) (fun T1 t => Or.inr ⟨o2, Or.inr ⟨fun z => nw (wq.mpr z), Or.inl ⟨lq.mp l, t⟩⟩⟩)
    · replace e := bp_e (Int32.toInt_inj.mp v) e
      exact keep k9g k9 F9 t9 (Or.inr ⟨o2, Or.inr ⟨fun z => nw (wq.mpr z), Or.inr ⟨fun z => nl (lq.mpr z), by rw [← o2]; exact t0⟩⟩⟩) e
end
end
section
/-! ENDINGS, the reference: workOut whole -/
section
variable {n F N q km tot : Nat} {g h hs o : Hp} {nk : Nat → Nat} {rk : Nat → Nat → Int} {bk : Nat → Nat} {x1 x2 x3 : Int32} {L : Nat → Nat → Int} {p : Nat} {T0 : Nod → Int}
theorem szr_4 {k : Nat} (kh : DyK n g h) (q0 : 0 < q) (q64 : q ≤ 64) (eq13 : (hI h (n + 513) 13).toInt = (q : Int)) {m : Nat} (em : (hI h (n + 592) k).toInt = (m : Int)) (k12 : k < 4096) (m5 : m ≤ 5) (e1 : x1.toInt = (k : Int)) (b5 : 2 * q ^ m ≤ 600000) {o : Int32 × Hp} : ∀ (f : Nat) {x2 x3 : Int32} {i : Nat}, x3.toInt = (i : Int) → i ≤ m → x2.toInt = ((2 * q ^ i : Nat) : Int) → sX15_sizeOf_4 F f h (n + 513) x1 x2 x3 = some o → o.2 = h ∧ o.1.toInt = ((2 * q ^ m : Nat) : Int) := by
  have z1 : (1 : Int32).toInt = 1 := rfl
  have n1 : x1.toNatClampNeg = k := by have := nc_i (x := x1) (by omega); omega
  intro f
  induction f with
  | zero => intro x2 x3 i _ _ _ e; exact absurd e (by rw [sX15_sizeOf_4]; exact fun z => nomatch z)
  | succ f ih =>
    intro x2 x3 i e3 im e2 e
    rw [sX15_sizeOf_4] at e
    replace e := ce_e (dk_e (a := 513) (f := 46) (b := 592) kh (by decide +kernel)) e
    replace e := gg_e e
    rcases br_s e with ⟨c, e⟩ | ⟨c, e⟩ <;> rw [n1] at c
    · have c := le_i c
      have : i = m := by omega
      rw [so_e e, ← this]
      exact ⟨rfl, e2⟩
    · have c := nle_i c
      obtain ⟨v4, w4, e⟩ := nm_s e
      obtain ⟨v5, w5, e⟩ := nm_s e
      have pe : 2 * q ^ i * q = 2 * q ^ (i + 1) := by rw [Nat.pow_succ, Nat.mul_assoc]
      have pl : q ^ (i + 1) ≤ q ^ m := Nat.pow_le_pow_right q0 (by omega)
      have pr : ((2 * q ^ i : Nat) : Int) * (q : Int) = ((2 * q ^ (i + 1) : Nat) : Int) := by rw [← Int.natCast_mul, pe]
      exact ih (i := i + 1) (by rw [w5, ta (by rw [z1]; omega), z1]; omega) (by omega) (by rw [w4, tm (by rw [e2, eq13, pr]; omega), e2, eq13, pr]) e
theorem wo_12 {K4 : Hp → Nat → Int32 → Int32 → Option Hp} {C0 : Nat} {Q : Prop} (hF : 700000 ≤ F) (E : LwE L N nk rk q) (k0 : DyK n hs hs) (B0 : WoB n hs L N nk rk bk q km tot) (p1 : 1 ≤ p ∧ p ≤ 700000) (ep : x1.toInt = (p : Int)) (opn : ∀ ν, NdA N nk q ν → T0 ν = 2000000 → RtA L N nk rk q ν ∧ v0A L nk rk q ν = none) (fin : ∀ {h' : Hp} {y2 : Int32}, DyK n g h' → DyK n hs h' → FrW (WWo n) hs h' → PsE n h' L N nk rk bk q T0 p C0 y2 → K4 h' (n + 513) (x1 + (1 : Int32)) y2 = some o → Q) : ∀ (f : Nat) {h : Hp} {x2 x3 : Int32} {k : Nat}, DyK n g h → DyK n hs h → FrW (WWo n) hs h → PsS n h L N nk rk bk q T0 p k 0 C0 x2 → x3.toInt = (k : Int) → k ≤ N → sX15_workOut_12 F K4 f h (n + 513) x1 x2 x3 = some o → Q := by
  have z1 : (1 : Int32).toInt = 1 := rfl
  have s0 := dk_610 k0
  intro f
  induction f with
  | zero => intro h x2 x3 k _ _ _ _ _ _ e; exact absurd e (by rw [sX15_workOut_12]; exact fun z => nomatch z)
  | succ f ih =>
    intro h x2 x3 k kg kh Fr P e3 kN e
    rw [sX15_workOut_12] at e
    have Bh := wob_f k0 kh Fr B0
    obtain ⟨⟨a1, a2⟩, _⟩ := id Bh.1.2.1
    rcases br_s e with ⟨c, e⟩ | ⟨c, e⟩
    · have c := le_i c
      rw [Bh.2.1] at c
      have : k = N := by omega
      rw [this] at P
      exact fin kg kh Fr ⟨fun ν na => P.1 ν na (Or.inl na.1), P.2.2⟩ (nx_e e)
    have c := nle_i c
    rw [Bh.2.1] at c
    have kN' : k < N := by omega
    obtain ⟨b1, b2, b3, b4, b5⟩ := a2 k kN'
    obtain ⟨o3, e3', e⟩ := cl_s e
    unfold sX15_sizeOf at e3'
    obtain ⟨p3, v3⟩ := szr_4 kh E.2.2.1 E.2.2.2.1 Bh.1.2.2.1 b1.1 (by omega) b2 e3 (by omega) F (i := 0) rfl (Nat.zero_le _) (by rw [Nat.pow_zero]; rfl) e3'
    rw [p3] at e
    refine wo_30 (g := g) hF E k0 B0 kN' p1 ep e3 v3 opn (fun kg' kh' F' P' e' => ih kg' kh' F' P' (by rw [ta (by rw [z1]; omega), z1]; omega) (by omega) e') F (c := 0) kg kh Fr P rfl (Nat.zero_le _) e
theorem wo_111 (k0 : DyK n hs hs) (t6 : tot ≤ 600000) (et : (hJ hs (n + 513) 59).toInt = (tot : Int)) : ∀ (f : Nat) {h : Hp} {x3 : Int32} {i : Nat}, DyK n g h → DyK n hs h → FrW (fun a _ => a = n + 595) hs h → x3.toInt = (i : Int) → i ≤ tot → (∀ a, a < i → hI h (n + 595) a = if hI hs (n + 595) a = (2000000 : Int32) then 0 else hI hs (n + 595) a) → (∀ a, i ≤ a → hI h (n + 595) a = hI hs (n + 595) a) → sX15_workOut_111 F f h (n + 513) x3 = some o → DyK n g o ∧ DyK n hs o ∧ FrW (fun a _ => a = n + 595) hs o ∧ ∀ a, a < tot → hI o (n + 595) a = if hI hs (n + 595) a = (2000000 : Int32) then 0 else hI hs (n + 595) a := by
  have z1 : (1 : Int32).toInt = 1 := rfl
  have s0 := dk_610 k0
  intro f
  induction f with
  | zero => intro h x3 i _ _ _ _ _ _ _ e; exact absurd e (by rw [sX15_workOut_111]; exact fun z => nomatch z)
  | succ f ih =>
    intro h x3 i kg kh Fr e3 it lo hi e
    rw [sX15_workOut_111] at e
    have eh : (hJ h (n + 513) 59).toInt = (tot : Int) := by rw [(Fr.2 (n + 513) 59 (by omega) (fun c => by omega)).2]; exact et
    rcases br_s e with ⟨c, e⟩ | ⟨c, e⟩
    · have c := cmp_ge' c
      rw [eh] at c
      rw [so_e e]
      exact ⟨kg, kh, Fr, fun a ha => lo a (by omega)⟩
    have c := cmp_lt c
    rw [eh] at c
    have n3 : x3.toNatClampNeg = i := by have := nc_i (x := x3) (by omega); omega
    have e51 := dk_e (a := 513) (f := 51) (b := 595) kh (by decide +kernel)
    replace e := ce_e e51 e
    replace e := ce_e e51 e
    replace e := gg_e e
    have go : ∀ {y : Int32}, y = (if hI hs (n + 595) i = (2000000 : Int32) then 0 else hI hs (n + 595) i) → sX15_workOut_148 F (sX15_workOut_111 F f) h (n + 513) x3 y x3 (n + 595) = some o → DyK n g o ∧ DyK n hs o ∧ FrW (fun a _ => a = n + 595) hs o ∧ ∀ a, a < tot → hI o (n + 595) a = if hI hs (n + 595) a = (2000000 : Int32) then 0 else hI hs (n + 595) a := fun {y} ey e => by
      unfold sX15_workOut_148 at e
      replace e := gg_e e
      obtain ⟨h2, w2, e⟩ := nm_s e
      obtain ⟨v3, w3, e⟩ := nm_s e
      rw [n3] at w2
      refine ih (by rw [w2]; exact dk_wI kg) (by rw [w2]; exact dk_wI kh) (by rw [w2]; exact fw_wI Fr rfl) (i := i + 1) (by rw [w3, ta (by rw [z1]; omega), z1]; omega) (by omega) (fun a ha => ?_) (fun a ha => ?_) e
      · by_cases z : a = i
        · rw [z, w2, rI_s, ey]
        · rw [w2, rI_o z]; exact lo a (by omega)
      · rw [w2, rI_o (by omega)]; exact hi a (by omega)
    have hh := hi i (Nat.le_refl _)
    rcases br_s e with ⟨c1, e⟩ | ⟨c1, e⟩ <;> rw [n3] at c1
    · have c1 : hI h (n + 595) i = (2000000 : Int32) := c1
      exact go (by rw [← hh, if_pos c1]) e
    · replace e := ce_e e51 e
      replace e := gg_e e
      rw [n3] at e
      have c1 : ¬ hI h (n + 595) i = (2000000 : Int32) := c1
      exact go (by rw [← hh, if_neg c1]) e
theorem wo_4 (hF : 700000 ≤ F) (E : LwE L N nk rk q) (k0 : DyK n hs hs) (B0 : WoB n hs L N nk rk bk q km tot) : ∀ (f : Nat) {h : Hp} {x1 x2 : Int32} {p : Nat}, DyK n g h → DyK n hs h → FrW (WWo n) hs h → x1.toInt = (p : Int) → 1 ≤ p → PasI (RtA L N nk rk q) (v0A L nk rk q) (ArA L N nk rk q) (TbR n h bk) p → (∀ ν, NdA N nk q ν → RtA L N nk rk q ν ∨ TbR n h bk ν = 3000000) → (¬ x2 = 0 → p + opC h (n + 595) 600000 ≤ 600001) → (x2 = 0 → 2 ≤ p ∧ p ≤ 700000 ∧ ∃ T0, PasI (RtA L N nk rk q) (v0A L nk rk q) (ArA L N nk rk q) T0 (p - 1) ∧ (∀ ν, NdA N nk q ν → TbR n h bk ν = T0 ν) ∧ ∀ ν, NdA N nk q ν → NwT (ArA L N nk rk q) T0 (TbR n h bk) (p - 1) ν) → sX15_workOut_4 F f h (n + 513) x1 x2 = some o → DyK n g o ∧ DyK n hs o ∧ FrW (WWo n) hs o ∧ LocT (RtA L N nk rk q) (v0A L nk rk q) (ArA L N nk rk q) (TbR n o bk) ∧ ∀ ν, NdA N nk q ν → ¬ RtA L N nk rk q ν → TbR n o bk ν = 3000000 := by
  have z1 : (1 : Int32).toInt = 1 := rfl
  have s0 := dk_610 k0
  have cl' := cl_A (L := L) E
  intro f
  induction f with
  | zero => intro h x1 x2 p _ _ _ _ _ _ _ _ _ e; exact absurd e (by rw [sX15_workOut_4]; exact fun z => nomatch z)
  | succ f ih =>
    intro h x1 x2 p kg kh Fr ep p1 I nr cnt stop e
    rw [sX15_workOut_4] at e
    have Bh := wob_f k0 kh Fr B0
    have s6 := dk_610 kh
    rcases br_s e with ⟨c, e⟩ | ⟨c, e⟩
    · obtain ⟨p2, p7, T0, I0, eq0, nw⟩ := stop c
      obtain ⟨r1, r2, r3, r4⟩ := wo_111 (hs := h) (dk_self kh) Bh.2.2.1.2.1 Bh.2.2.1.1 F (i := 0) kg (dk_self kh) fw_0 rfl (Nat.zero_le _) (fun a ha => absurd ha (Nat.not_lt_zero _)) (fun a _ => rfl) e
      have at' : ∀ ν, NdA N nk q ν → TbR n o bk ν = if TbR n h bk ν = 2000000 then 0 else TbR n h bk ν := fun ν na => by
        have b := Bh.2.2.1.2.2 ν.1 na.1
        have n1 := na.2.1
        have n2 := na.2.2
        show (hI o (n + 595) (bk ν.1 + 2 * ν.2.1 + ν.2.2)).toInt = if (hI h (n + 595) (bk ν.1 + 2 * ν.2.1 + ν.2.2)).toInt = 2000000 then 0 else (hI h (n + 595) (bk ν.1 + 2 * ν.2.1 + ν.2.2)).toInt
        rw [r4 _ (by omega)]
        by_cases z : hI h (n + 595) (bk ν.1 + 2 * ν.2.1 + ν.2.2) = (2000000 : Int32)
        · rw [if_pos z, if_pos (by rw [z]; rfl)]; rfl
        · have z' : ¬ (hI h (n + 595) (bk ν.1 + 2 * ν.2.1 + ν.2.2)).toInt = 2000000 := fun y => z (Int32.toInt_inj.mp y)
          rw [if_neg z, if_neg z']
      refine ⟨r1, dk_t kh r2, fw_t Fr (fw_s r3 (fun _ _ c => Or.inr (Or.inr c))), ?_, fun ν na n' => ?_⟩
      · refine ps_end (T := T0) (p := p - 1) cl' vb_A (by omega) (by omega) I0 (fun ν R o2 => ?_) (fun ν R => ?_)
        · have w := nw ν R.1
          have e0 := eq0 ν R.1
          rcases w with ⟨z, _⟩ | ⟨_, ⟨_, z⟩ | ⟨a, ⟨_, z⟩ | ⟨b, _⟩⟩⟩
          · exact absurd o2 z
          · rw [e0, o2] at z; omega
          · rw [e0, o2] at z; omega
          · exact ⟨a, b⟩
        · have a := at' ν R.1
          have e0 := eq0 ν R.1
          rw [e0] at a
          by_cases z : T0 ν = 2000000
          · exact Or.inl ⟨z, by rw [a, if_pos z]⟩
          · exact Or.inr ⟨z, by rw [a, if_neg z]⟩
      · rcases nr ν na with z | z
        · exact absurd z n'
        · rw [at' ν na, z]; decide
    · have cn := cnt c
      have opn : ∀ ν, NdA N nk q ν → TbR n h bk ν = 2000000 → RtA L N nk rk q ν ∧ v0A L nk rk q ν = none := fun ν na o2 => by
        rcases nr ν na with R | z
        · refine ⟨R, ?_⟩
          rcases I ν R with ⟨w, a, b⟩ | ⟨a, _⟩
          · have := vb_A ν w a
            rw [b] at o2; omega
          · exact a
        · rw [z] at o2; exact absurd o2 (by decide)
      refine wo_12 (g := g) (p := p) (T0 := TbR n h bk) (C0 := opC h (n + 595) 600000) hF E k0 B0 ⟨p1, by omega⟩ ep opn (fun {h'} {y2} kg' kh' F' P' e' => ?_) F (h := h) (k := 0) kg kh Fr ⟨fun ν na dn => ?_, fun ν na _ => rfl, fun _ ν na => rfl, Or.inl ⟨rfl, Nat.le_refl _⟩⟩ rfl (Nat.zero_le _) e
      · have I' : PasI (RtA L N nk rk q) (v0A L nk rk q) (ArA L N nk rk q) (TbR n h' bk) (p + 1) := ps_next cl' (ne_A E) vb_A p1 (by omega) I (fun ν R => P'.1 ν R.1)
        refine ih kg' kh' F' (p := p + 1) (by rw [ta (by rw [z1]; omega), z1]; omega) (by omega) I' (fun ν na => ?_) (fun y => ?_) (fun y => ⟨by omega, by omega, TbR n h bk, by rw [Nat.add_sub_cancel]; exact I, P'.2.1 y, by rw [Nat.add_sub_cancel]; exact P'.1⟩) e'
        · rcases nr ν na with z | z
          · exact Or.inl z
          · refine Or.inr ?_
            rcases nwt_c (P'.1 ν na) with w | ⟨w, _⟩
            · rw [w, z]
            · rw [z] at w; exact absurd w (by decide)
        · rcases P'.2.2 with z | z
          · exact absurd z.1 y
          · omega
      · rcases dn with z | ⟨_, z⟩
        · exact absurd z (Nat.not_lt_zero _)
        · exact absurd z (Nat.not_lt_zero _)
theorem woR_k (hF : 700000 ≤ F) (E : LwE L N nk rk q) (k0 : DyK n h h) (kg : DyK n g h) (B0 : WoB n h L N nk rk bk q km tot) (ini : ∀ ν, NdA N nk q ν → (RtA L N nk rk q ν ∧ TbR n h bk ν = v0V L (ndQ nk rk q ν)) ∨ (¬ RtA L N nk rk q ν ∧ TbR n h bk ν = 3000000)) (e : sX15_workOut F h (n + 513) = some o) : DyK n g o ∧ DyK n h o ∧ FrW (WWo n) h o ∧ LocT (RtA L N nk rk q) (v0A L nk rk q) (ArA L N nk rk q) (TbR n o bk) ∧ ∀ ν, NdA N nk q ν → ¬ RtA L N nk rk q ν → TbR n o bk ν = 3000000 := by
  unfold sX15_workOut at e
  refine wo_4 hF E k0 B0 F (p := 1) kg k0 fw_0 rfl (Nat.le_refl _) (fun ν R => ?_) (fun ν na => ?_) (fun _ => ?_) (fun z => absurd z (by decide)) e
  · rcases ini ν R.1 with ⟨_, b⟩ | ⟨a, _⟩
    · cases v : v0A L nk rk q ν with
      | none => exact Or.inr ⟨rfl, Or.inl ⟨by rw [b]; exact v0v_n v, fun y d _ h => by omega, fun h => by omega⟩⟩
      | some w => exact Or.inl ⟨w, rfl, by rw [b]; exact v0v_s v⟩
    · exact absurd R a
  · rcases ini ν na with ⟨a, _⟩ | ⟨_, b⟩
    · exact Or.inl a
    · exact Or.inr b
  · have := op_le (h := h) (r := n + 595) 600000
    omega
end
end
section
/-! ENDINGS, the reference: all states begin -/
theorem rk_mono {own : Nat → Int} {sd1 sd2 : Int} {j1 j2 : Nat} (im : ∀ i, (own i < sd1 ∨ (own i = sd1 ∧ i < j1)) ∨ i = j1 → own i < sd2 ∨ (own i = sd2 ∧ i < j2)) (n1 : ¬ (own j1 < sd1 ∨ (own j1 = sd1 ∧ j1 < j1))) : ∀ n, rkC own sd1 j1 n + (if j1 < n then 1 else 0) ≤ rkC own sd2 j2 n := by
  intro n
  induction n with
  | zero => rw [if_neg (Nat.not_lt_zero _)]; exact Int.le_refl _
  | succ n ih =>
    show rkC own sd1 j1 n + (if own n < sd1 ∨ (own n = sd1 ∧ n < j1) then 1 else 0) + (if j1 < n + 1 then 1 else 0) ≤ rkC own sd2 j2 n + (if own n < sd2 ∨ (own n = sd2 ∧ n < j2) then 1 else 0)
    by_cases c : n = j1
    · rw [if_neg (by rw [c]; exact n1), if_pos (show j1 < n + 1 by omega), if_pos (im n (Or.inr c))]
      rw [if_neg (show ¬ j1 < n by omega)] at ih
      omega
    · have e : (if j1 < n + 1 then (1 : Int) else 0) = (if j1 < n then 1 else 0) := by
        by_cases d : j1 < n
        · rw [if_pos d, if_pos (by omega)]
        · rw [if_neg d, if_neg (by omega)]
      rw [e]
      by_cases d : own n < sd1 ∨ (own n = sd1 ∧ n < j1)
      · rw [if_pos d, if_pos (im n (Or.inl d))]; omega
      · rw [if_neg d]
        split <;> omega
theorem rk_lt {own : Nat → Int} {sd : Int} {j : Nat} (oj : own j = sd) : ∀ n, rkC own sd j n + (if j < n then 1 else 0) ≤ (n : Int) := by
  intro n
  induction n with
  | zero => rw [if_neg (Nat.not_lt_zero _)]; exact Int.le_refl _
  | succ n ih =>
    show rkC own sd j n + (if own n < sd ∨ (own n = sd ∧ n < j) then 1 else 0) + (if j < n + 1 then 1 else 0) ≤ ((n + 1 : Nat) : Int)
    by_cases c : n = j
    · rw [if_neg (by rw [c, oj]; omega), if_pos (show j < n + 1 by omega)]
      rw [if_neg (show ¬ j < n by omega)] at ih
      omega
    · have e : (if j < n + 1 then (1 : Int) else 0) = (if j < n then 1 else 0) := by
        by_cases d : j < n
        · rw [if_pos d, if_pos (by omega)]
        · rw [if_neg d, if_neg (by omega)]
      rw [e]
      split <;> omega
theorem rk_inj {own : Nat → Int} {j1 j2 m : Nat} (h1 : j1 < m) (h2 : j2 < m) (e : rkC own (own j1) j1 m = rkC own (own j2) j2 m) : j1 = j2 := by
  apply Classical.byContradiction
  intro ne
  by_cases c : own j1 < own j2 ∨ (own j1 = own j2 ∧ j1 < j2)
  · have := rk_mono (own := own) (sd1 := own j1) (sd2 := own j2) (j1 := j1) (j2 := j2) (fun i hi => by
      rcases hi with (z | z) | z
      · omega
      · omega
      · rw [z]; exact c) (by omega) m
    rw [if_pos h1] at this
    omega
  · have := rk_mono (own := own) (sd1 := own j2) (sd2 := own j1) (j1 := j2) (j2 := j1) (fun i hi => by
      rcases hi with (z | z) | z
      · omega
      · omega
      · rw [z]; omega) (by omega) m
    rw [if_pos h2] at this
    omega
section
variable {n F N q km tot all : Nat} {g h h0 o : Hp} {nk : Nat → Nat} {rk : Nat → Nat → Int} {bk mb : Nat → Nat} {x1 x2 x3 x4 : Int32} {L : Nat → Nat → Int}
/-- where masks lie -/
def MbS (n : Nat) (h : Hp) (N : Nat) (nk : Nat → Nat) (q : Nat) (mb : Nat → Nat) (all : Nat) : Prop := (∀ k, k < N → (hI h (n + 596) k).toInt = (mb k : Int) ∧ mb k + nk k * q ^ nk k ≤ all) ∧ (∀ j k, j < k → k < N → mb j + nk j * q ^ nk j ≤ mb k) ∧ all ≤ 1500000
/-- a mask's place: whose it is -/
theorem msk_v (S : FmR n h N nk rk bk q) (B : MbS n h N nk q mb all) {k num sd j : Nat} (kN : k < N) (nb : num < q ^ nk k) (jm : j < nk k) (ow : (rk k j - 1) % 2 = (sd : Int)) : ∃ r : Nat, r < nk k ∧ mskI n h k num sd j = ((mb k + nk k * num + r : Nat) : Int) ∧ mb k + nk k * num + r < all ∧ ∀ j', j' < nk k → ∀ sd' : Nat, (rk k j' - 1) % 2 = (sd' : Int) → ∀ num', mskI n h k num' sd' j' = ((mb k + nk k * num' + r : Nat) : Int) → j' = j := by
  obtain ⟨⟨a1, a2⟩, _⟩ := S
  obtain ⟨b1, b2, b3, _, _⟩ := a2 k kN
  have z1 : (1 : Int32).toInt = 1 := rfl
  have nn : (hI h (n + 592) k).toNatClampNeg = nk k := by have := nc_i (x := hI h (n + 592) k) (by rw [b1.1]; omega); have := b1.1; omega
  have own : ∀ i, i < nk k → ((hI h (n + 593) (5 * k + i) - (1 : Int32)) &&& (1 : Int32)).toInt = (rk k i - 1) % 2 := fun i hi => by
    have v := b1.2 i hi
    have rb := b3 i hi
    have t : (hI h (n + 593) (5 * k + i) - (1 : Int32)).toInt = rk k i - 1 := by rw [ts (by rw [z1]; omega), z1, v]
    rw [and1_i (by omega), t]
  obtain ⟨m1, m2⟩ := B.1 k kN
  have form : ∀ num' sd' j', mskI n h k num' sd' j' = (mb k : Int) + (nk k : Int) * (num' : Int) + rkC (fun i => ((hI h (n + 593) (5 * k + i) - (1 : Int32)) &&& (1 : Int32)).toInt) (sd' : Int) j' (nk k) := fun num' sd' j' => by
    unfold mskI mkx
    rw [m1, b1.1, nn]
  have oj := own j jm
  rw [ow] at oj
  have r0 := rkC_b (own := fun i => ((hI h (n + 593) (5 * k + i) - (1 : Int32)) &&& (1 : Int32)).toInt) (sd := (sd : Int)) (j := j) (nk k)
  have rl := rk_lt (own := fun i => ((hI h (n + 593) (5 * k + i) - (1 : Int32)) &&& (1 : Int32)).toInt) (sd := (sd : Int)) (j := j) oj (nk k)
  rw [if_pos jm] at rl
  have pm : nk k * num + nk k ≤ nk k * q ^ nk k := by
    rw [← Nat.mul_succ]
    exact Nat.mul_le_mul_left _ nb
  have cm : ∀ num' : Nat, ((nk k * num' : Nat) : Int) = (nk k : Int) * (num' : Int) := fun num' => by rw [Int.natCast_mul]
  refine ⟨(rkC (fun i => ((hI h (n + 593) (5 * k + i) - (1 : Int32)) &&& (1 : Int32)).toInt) (sd : Int) j (nk k)).toNat, by omega, ?_, by omega, fun j' hj' sd' ow' num' e => ?_⟩
  · rw [form, ← cm]; omega
  · rw [form, ← cm] at e
    have oj' := own j' hj'
    rw [ow'] at oj'
    refine rk_inj (own := fun i => ((hI h (n + 593) (5 * k + i) - (1 : Int32)) &&& (1 : Int32)).toInt) hj' jm ?_
    show rkC _ (((hI h (n + 593) (5 * k + j') - (1 : Int32)) &&& (1 : Int32)).toInt) j' (nk k) = rkC _ (((hI h (n + 593) (5 * k + j) - (1 : Int32)) &&& (1 : Int32)).toInt) j (nk k)
    rw [oj, oj']
    omega
/-- two masks at one place are one -/
theorem msk_u (S : FmR n h N nk rk bk q) (B : MbS n h N nk q mb all) {ν ν' : Nod} {j j' : Nat} (na : NdA N nk q ν) (na' : NdA N nk q ν') (jm : j < nk ν.1) (jm' : j' < nk ν'.1) (ow : (rk ν.1 j - 1) % 2 = (ν.2.2 : Int)) (ow' : (rk ν'.1 j' - 1) % 2 = (ν'.2.2 : Int)) (e : mskI n h ν.1 ν.2.1 ν.2.2 j = mskI n h ν'.1 ν'.2.1 ν'.2.2 j') : ν = ν' ∧ j = j' := by
  obtain ⟨k, num, sd⟩ := ν
  obtain ⟨k', num', sd'⟩ := ν'
  have na : k < N ∧ num < q ^ nk k ∧ sd < 2 := na
  have na' : k' < N ∧ num' < q ^ nk k' ∧ sd' < 2 := na'
  have jm : j < nk k := jm
  have jm' : j' < nk k' := jm'
  have ow : (rk k j - 1) % 2 = (sd : Int) := ow
  have ow' : (rk k' j' - 1) % 2 = (sd' : Int) := ow'
  have e : mskI n h k num sd j = mskI n h k' num' sd' j' := e
  obtain ⟨r, rl, f, _, u⟩ := msk_v S B na.1 na.2.1 jm ow
  obtain ⟨r', rl', f', _, _⟩ := msk_v S B na'.1 na'.2.1 jm' ow'
  have pm : nk k * num + nk k ≤ nk k * q ^ nk k := by
    rw [← Nat.mul_succ]
    exact Nat.mul_le_mul_left _ na.2.1
  have pm' : nk k' * num' + nk k' ≤ nk k' * q ^ nk k' := by
    rw [← Nat.mul_succ]
    exact Nat.mul_le_mul_left _ na'.2.1
  have ee : mb k + nk k * num + r = mb k' + nk k' * num' + r' := by
    rw [f, f'] at e
    omega
  have kk : k = k' := by
    rcases Nat.lt_trichotomy k k' with c | c | c
    · have := B.2.1 k k' c na'.1
      omega
    · exact c
    · have := B.2.1 k' k c na.1
      omega
  subst kk
  have nn : num = num' := by
    rcases Nat.lt_trichotomy num num' with c | c | c
    · have : nk k * (num + 1) ≤ nk k * num' := Nat.mul_le_mul_left _ c
      rw [Nat.mul_succ] at this
      omega
    · exact c
    · have : nk k * (num' + 1) ≤ nk k * num := Nat.mul_le_mul_left _ c
      rw [Nat.mul_succ] at this
      omega
  subst nn
  have rr : r = r' := by omega
  subst rr
  have jj := u j' jm' sd' ow' num f'
  subst jj
  rw [ow] at ow'
  have : sd = sd' := by omega
  subst this
  exact ⟨rfl, rfl⟩
abbrev atV (bk : Nat → Nat) (ν : Nod) : Nat := bk ν.1 + 2 * ν.2.1 + ν.2.2
def WAl (n km a i : Nat) : Prop := RS n a i ∨ WLs n a i ∨ a = n + 595 ∨ a = n + 597 ∨ a = km
/-- some states have begun -/
def BgI (n : Nat) (h : Hp) (L : Nat → Nat → Int) (N : Nat) (nk : Nat → Nat) (rk : Nat → Nat → Int) (bk : Nat → Nat) (q km all kc cc : Nat) : Prop := (∀ ν, NdA N nk q ν → DnP kc cc ν → (RtA L N nk rk q ν ∧ TbR n h bk ν = v0V L (ndQ nk rk q ν)) ∨ (¬ RtA L N nk rk q ν ∧ TbR n h bk ν = 3000000)) ∧ (∀ a b : Nat, a < 9376 → b < 64 → (bitJ (hJ h (n + 597) a) b = true ↔ ∃ ν, (RtA L N nk rk q ν ∧ DnP kc cc ν ∧ RyH L (ndM nk rk q ν) ν.2.2) ∧ a = atV bk ν / 64 ∧ b = atV bk ν % 64)) ∧ ∀ a b : Nat, a < all → b < 64 → (bitJ (hJ h km a) b = true ↔ ∃ ν v j, (RtA L N nk rk q ν ∧ DnP kc cc ν ∧ v0A L nk rk q ν = none) ∧ v ∈ lgL L (ndQ nk rk q ν) ∧ j < nk ν.1 ∧ (sqi q ν.2.1 j : Int) = mvS v ∧ mvD v = (b : Int) ∧ (a : Int) = mskI n h ν.1 ν.2.1 ν.2.2 j)
/-- what stays while states begin -/
def BgB (n : Nat) (h : Hp) (L : Nat → Nat → Int) (N : Nat) (nk : Nat → Nat) (rk : Nat → Nat → Int) (bk mb : Nat → Nat) (q km tot all : Nat) : Prop := (RLw n h L ∧ FmR n h N nk rk bk q ∧ (hI h (n + 513) 13).toInt = (q : Int)) ∧ (hI h (n + 513) 49).toInt = (N : Int) ∧ ((hJ h (n + 513) 59).toInt = (tot : Int) ∧ tot ≤ 600000 ∧ ∀ k, k < N → bk k + 2 * q ^ nk k ≤ tot) ∧ (n + 610 ≤ km ∧ km < hS h ∧ hR h (n + 513) 52 = some km) ∧ MbS n h N nk q mb all
theorem bgb_f {W : Nat → Nat → Prop} (k0 : DyK n h0 h0) (kh : DyK n h0 h) (Fr : FrW W h0 h) (w : ∀ a i, W a i → WAl n km a i) (B : BgB n h0 L N nk rk bk mb q km tot all) : BgB n h L N nk rk bk mb q km tot all := by
  obtain ⟨⟨a1, a2, a3⟩, b, c, d, e⟩ := B
  have s0 := dk_610 k0
  have d1 := d.1
  have ww : ∀ {j i : Nat}, j < 610 → W (n + j) i → RS n (n + j) i ∨ (602 ≤ j ∧ j ≤ 606) ∨ j = 595 ∨ j = 597 := fun {j i} l z => by
    rcases w _ _ z with z | z | z | z | z
    · exact Or.inl z
    · unfold WLs at z; omega
    · omega
    · omega
    · omega
  have nr : ∀ {j i : Nat}, 580 ≤ j → ¬ RS n (n + j) i := fun l z => by unfold RS at z; omega
  refine ⟨⟨rlw_k k0 kh Fr (fun j i hj z => by
    rcases ww (by omega) z with z | z
    · unfold RS at z; omega
    · omega) a1, fmr_f k0 Fr (fun j i hj z => by
    rcases ww (by omega) z with z | z
    · exact nr (by omega) z
    · omega) a2, ?_⟩, ?_, ⟨?_, c.2⟩, ⟨d.1, Nat.lt_of_lt_of_le d.2.1 Fr.1, by rw [(kh.2.2.2 (by omega)).2]; exact d.2.2⟩, ⟨fun k hk => ?_, e.2⟩⟩
  · rw [(Fr.2 (n + 513) 13 (by omega) (fun z => by
      rcases ww (by omega) z with z | z
      · unfold RS at z; omega
      · omega)).1]; exact a3
  · rw [(Fr.2 (n + 513) 49 (by omega) (fun z => by
      rcases ww (by omega) z with z | z
      · unfold RS at z; omega
      · omega)).1]; exact b
  · rw [(Fr.2 (n + 513) 59 (by omega) (fun z => by
      rcases ww (by omega) z with z | z
      · unfold RS at z; omega
      · omega)).2]; exact c.1
  · rw [(Fr.2 (n + 596) k (by omega) (fun z => by
      rcases ww (by omega) z with z | z
      · exact nr (by omega) z
      · omega)).1]; exact e.1 k hk
end
end
section
/-! ENDINGS, the reference: all states begin, worths are worked out -/
section
variable {n F N q km tot all : Nat} {g h h0 : Hp} {nk : Nat → Nat} {rk : Nat → Nat → Int} {bk mb : Nat → Nat} {o : Int32 × Hp} {x4 x5 x6 : Int32} {L : Nat → Nat → Int}
theorem ow_v (E : LwE L N nk rk q) {ν : Nod} {v : MvT} {j : Nat} (R : RtA L N nk rk q ν) (hv : v ∈ lgL L (ndQ nk rk q ν)) (jm : j < nk ν.1) (es : (sqi q ν.2.1 j : Int) = mvS v) : (rk ν.1 j - 1) % 2 = (ν.2.2 : Int) := by
  obtain ⟨⟨OK, LD, Nc⟩, Fm, q0, q64, eq⟩ := E
  obtain ⟨⟨kN, nb, s2⟩, St, w0⟩ := R
  have Rw := Fm.1 _ kN
  have rp : ∀ i, i < nk ν.1 → 1 ≤ rk ν.1 i := fun i hi => (Rw.2.1 i hi).1
  have HM := nd_mok (num := ν.2.1) q0 eq Rw
  obtain ⟨s', t', _, _, q1, _, _, _, es', _⟩ := nd_mv OK.1 OK.2.1 w0 HM s2 (lg_mo hv)
  have : s' = sqi q ν.2.1 j := by omega
  rw [this, ly_at rp St _ (Nat.le_refl _) j jm] at es'
  exact es'
theorem sv_377 {K : Hp → Nat → Int32 → Option (Int32 × Hp)} {k : Nat} {Q : Prop} (E : LwE L N nk rk q) (k0 : DyK n h0 h0) (B0 : BgB n h0 L N nk rk bk mb q km tot all) (kN : k < N) (e4 : x4.toInt = (k : Int)) (e5 : x5.toInt = ((2 * q ^ nk k : Nat) : Int)) (fin : ∀ {h' : Hp}, DyK n g h' → DyK n h0 h' → FrW (WAl n km) h0 h' → BgI n h' L N nk rk bk q km all (k + 1) 0 → K h' (n + 513) (x4 + (1 : Int32)) = some o → Q) : ∀ (f : Nat) {h : Hp} {x6 : Int32} {c : Nat}, DyK n g h → DyK n h0 h → FrW (WAl n km) h0 h → BgI n h L N nk rk bk q km all k c → x6.toInt = (c : Int) → c ≤ 2 * q ^ nk k → sX15_solve_377 F K f h (n + 513) x4 x5 x6 = some o → Q := by
  have z1 : (1 : Int32).toInt = 1 := rfl
  obtain ⟨⟨OK, LD, Nc⟩, Fm, q0, q64, eq⟩ := id E
  have s0 := dk_610 k0
  intro f
  induction f with
  | zero => intro h x6 c _ _ _ _ _ _ e; exact absurd e (by rw [sX15_solve_377]; exact fun z => nomatch z)
  | succ f ih =>
    intro h x6 c kg kh Fr I e6 cl' e
    rw [sX15_solve_377] at e
    have Bh := bgb_f k0 kh Fr (fun _ _ z => z) B0
    obtain ⟨⟨a1, a2⟩, _⟩ := id Bh.1.2.1
    obtain ⟨b1, b2, b3, b4, b5⟩ := a2 k kN
    rcases br_s e with ⟨d, e⟩ | ⟨d, e⟩
    · have d := le_i d
      have : c = 2 * q ^ nk k := by omega
      have dd : ∀ ν, NdA N nk q ν → (DnP (k + 1) 0 ν ↔ DnP k c ν) := fun ν na => by
        constructor
        · intro z
          rcases z with z | ⟨_, z⟩
          · by_cases y : ν.1 = k
            · have h1 : ν.2.1 < q ^ nk k := by
                have := na.2.1
                rw [y] at this
                exact this
              have h2 := na.2.2
              exact Or.inr ⟨y, by omega⟩
            · exact Or.inl (by omega)
          · omega
        · intro z
          rcases z with z | ⟨z, _⟩
          · exact Or.inl (by omega)
          · exact Or.inl (by omega)
      refine fin kg kh Fr ⟨fun ν na dn => I.1 ν na ((dd ν na).mp dn), fun a b ha hb => ?_, fun a b ha hb => ?_⟩ (nx_e e)
      · rw [I.2.1 a b ha hb]
        exact ⟨fun ⟨ν, ⟨r, d1, y⟩, z⟩ => ⟨ν, ⟨r, (dd ν r.1).mpr d1, y⟩, z⟩, fun ⟨ν, ⟨r, d1, y⟩, z⟩ => ⟨ν, ⟨r, (dd ν r.1).mp d1, y⟩, z⟩⟩
      · rw [I.2.2 a b ha hb]
        exact ⟨fun ⟨ν, v, j, ⟨r, d1, y⟩, z⟩ => ⟨ν, v, j, ⟨r, (dd ν r.1).mpr d1, y⟩, z⟩, fun ⟨ν, v, j, ⟨r, d1, y⟩, z⟩ => ⟨ν, v, j, ⟨r, (dd ν r.1).mp d1, y⟩, z⟩⟩
    have d := nle_i d
    have cb : c < 2 * q ^ nk k := by omega
    obtain ⟨num, sd, hc, sd2⟩ : ∃ num sd, c = 2 * num + sd ∧ sd < 2 := ⟨c / 2, c % 2, by omega, by omega⟩
    have na : NdA N nk q (k, num, sd) := ⟨kN, by show num < q ^ nk k; omega, sd2⟩
    obtain ⟨o3, e3, e⟩ := cl_s e
    have mB := Bh.2.2.2.2.1 k kN
    have nb' : num < q ^ nk k := na.2.1
    have pm : nk k * num ≤ nk k * q ^ nk k := Nat.mul_le_mul_left _ (by omega)
    have al := Bh.2.2.2.2.2.2
    have S : BgS n h L km k (nk k) q num (rk k) := ⟨Bh.1.1, b1, ⟨by rw [mB.1]; omega, by rw [mB.1, b1.1, ← Int.natCast_mul]; omega⟩, Bh.1.2.2, Bh.2.2.2.1.2.2⟩
    obtain ⟨k3g, k3, r1, r2, r3, r4⟩ := bgn_k (g := g) (at0 := bk k + 2 * num + sd) OK Nc.1 (dk_self kh) kg q0 q64 eq (by omega) Bh.2.2.2.1.1 Bh.2.2.2.1.2.1 (by omega) sd2 S (Fm.1 k kN) (by omega) (by rw [b4]; omega) e4 (by rw [e6, hc]) e3
    have k3h : DyK n h0 o3 := dk_t kh k3
    have F3 : FrW (WAl n km) h0 o3 := fw_t Fr (fw_s r1 (fun a i c => by
      rcases c with c | c | c | c | c
      · exact Or.inl c
      · exact Or.inr (Or.inl c)
      · exact Or.inr (Or.inr (Or.inl c.1))
      · exact Or.inr (Or.inr (Or.inr (Or.inl c.1)))
      · exact Or.inr (Or.inr (Or.inr (Or.inr c)))))
    have s6 := dk_610 kh
    have km6 := Bh.2.2.2.1.1
    unfold sX15_solve_392 at e
    have dnx : ∀ ν, NdA N nk q ν → (DnP k (c + 1) ν ↔ (DnP k c ν ∨ ν = (k, num, sd))) := fun ν nv => by
      constructor
      · intro z
        rcases z with z | ⟨z, y⟩
        · exact Or.inl (Or.inl z)
        · by_cases w : 2 * ν.2.1 + ν.2.2 = c
          · refine Or.inr ?_
            obtain ⟨a, b, d⟩ := ν
            have z : a = k := z
            have w : 2 * b + d = c := w
            have nv : d < 2 := nv.2.2
            have : b = num := by omega
            have : d = sd := by omega
            subst_vars
            rfl
          · exact Or.inl (Or.inr ⟨z, by omega⟩)
      · intro z
        rcases z with (z | ⟨z, y⟩) | z
        · exact Or.inl z
        · exact Or.inr ⟨z, by omega⟩
        · rw [z]; exact Or.inr ⟨rfl, by show 2 * num + sd < c + 1; omega⟩
    have ndn : ¬ DnP k c (k, num, sd) := fun z => by
      rcases z with z | ⟨_, z⟩
      · exact absurd z (Nat.lt_irrefl _)
      · have z : 2 * num + sd < c := z
        omega
    have mkE : ∀ (ν : Nod) j, mskI n o3 ν.1 ν.2.1 ν.2.2 j = mskI n h ν.1 ν.2.1 ν.2.2 j := fun ν j => mki_f kh r1 (fun i => ⟨fun c => by unfold WBg RS WLs at c; omega, fun c => by unfold WBg RS WLs at c; omega, fun c => by unfold WBg RS WLs at c; omega⟩)
    have Ra : RtA L N nk rk q (k, num, sd) ↔ RtN L (rk k) q num (nk k) sd := ⟨fun z => z.2, fun z => ⟨na, z⟩⟩
    refine ih k3g k3h F3 ⟨fun ν nv dn => ?_, fun a b ha hb => ?_, fun a b ha hb => ?_⟩ (c := c + 1) (by rw [ta (by rw [z1]; omega), z1]; omega) (by omega) (nx_e e)
    · by_cases w : ν = (k, num, sd)
      · rw [w]
        rcases r2 with ⟨x, y⟩ | ⟨x, y⟩
        · exact Or.inl ⟨Ra.mpr x, y⟩
        · exact Or.inr ⟨fun z => x (Ra.mp z), y⟩
      · have tq : TbR n o3 bk ν = TbR n h bk ν := by
          show (hI o3 (n + 595) _).toInt = (hI h (n + 595) _).toInt
          rw [(r1.2 (n + 595) _ (by omega) (fun c => by
            rcases c with c | c | c | c | c
            · unfold RS at c; omega
            · unfold WLs at c; omega
            · exact w (at_inj Bh.1.2.1 nv na c.2)
            · omega
            · omega)).1]
        rw [tq]
        rcases (dnx ν nv).mp dn with z | z
        · exact I.1 ν nv z
        · exact absurd z w
    · rw [r3 a b hb, I.2.1 a b ha hb]
      constructor
      · intro z
        rcases z with ⟨ν, ⟨r, d1, y⟩, z⟩ | ⟨⟨x, y⟩, z⟩
        · exact ⟨ν, ⟨r, (dnx ν r.1).mpr (Or.inl d1), y⟩, z⟩
        · exact ⟨(k, num, sd), ⟨Ra.mpr x, (dnx _ na).mpr (Or.inr rfl), y⟩, z⟩
      · intro ⟨ν, ⟨r, d1, y⟩, z⟩
        rcases (dnx ν r.1).mp d1 with w | w
        · exact Or.inl ⟨ν, ⟨r, w, y⟩, z⟩
        · rw [w] at r y z
          exact Or.inr ⟨⟨Ra.mp r, y⟩, z⟩
    · rw [r4 a b hb, I.2.2 a b ha hb]
      constructor
      · intro z
        rcases z with ⟨ν, v, j, ⟨r, d1, y⟩, z1, z2, z3, z4, z5⟩ | ⟨⟨x, y⟩, v, j, z1, z2, z3, z4, z5⟩
        · exact ⟨ν, v, j, ⟨r, (dnx ν r.1).mpr (Or.inl d1), y⟩, z1, z2, z3, z4, by rw [mkE]; exact z5⟩
        · exact ⟨(k, num, sd), v, j, ⟨Ra.mpr x, (dnx _ na).mpr (Or.inr rfl), y⟩, z1, z2, z3, z4, by rw [mkE]; exact z5⟩
      · intro ⟨ν, v, j, ⟨r, d1, y⟩, z1, z2, z3, z4, z5⟩
        rw [mkE] at z5
        rcases (dnx ν r.1).mp d1 with w | w
        · exact Or.inl ⟨ν, v, j, ⟨r, w, y⟩, z1, z2, z3, z4, z5⟩
        · rw [w] at r y z1 z2 z3 z5
          exact Or.inr ⟨⟨Ra.mp r, y⟩, v, j, z1, z2, z3, z4, z5⟩
/-- what solve leaves of the table -/
def SvR (n : Nat) (g h0 : Hp) (L : Nat → Nat → Int) (N : Nat) (nk : Nat → Nat) (rk : Nat → Nat → Int) (bk : Nat → Nat) (q km : Nat) (o : Int32 × Hp) : Prop := DyK n g o.2 ∧ DyK n h0 o.2 ∧ FrW (fun a i => WAl n km a i ∨ WWo n a i ∨ (a = n + 513 ∧ i = 50)) h0 o.2 ∧ (hI o.2 (n + 513) 50).toInt = (N : Int) ∧ LocT (RtA L N nk rk q) (v0A L nk rk q) (ArA L N nk rk q) (TbR n o.2 bk) ∧ ∀ ν, NdA N nk q ν → ¬ RtA L N nk rk q ν → TbR n o.2 bk ν = 3000000
theorem sv_357 (hF : 700000 ≤ F) (E : LwE L N nk rk q) (k0 : DyK n h0 h0) (B0 : BgB n h0 L N nk rk bk mb q km tot all) : ∀ (f : Nat) {h : Hp} {x4 : Int32} {k : Nat}, DyK n g h → DyK n h0 h → FrW (WAl n km) h0 h → BgI n h L N nk rk bk q km all k 0 → x4.toInt = (k : Int) → k ≤ N → sX15_solve_357 F f h (n + 513) x4 = some o → SvR n g h0 L N nk rk bk q km o := by
  have z1 : (1 : Int32).toInt = 1 := rfl
  have s0 := dk_610 k0
  intro f
  induction f with
  | zero => intro h x4 k _ _ _ _ _ _ e; exact absurd e (by rw [sX15_solve_357]; exact fun z => nomatch z)
  | succ f ih =>
    intro h x4 k kg kh Fr I e4 kN e
    rw [sX15_solve_357] at e
    have Bh := bgb_f k0 kh Fr (fun _ _ z => z) B0
    obtain ⟨⟨a1, a2⟩, _⟩ := id Bh.1.2.1
    have s6 := dk_610 kh
    rcases br_s e with ⟨c, e⟩ | ⟨c, e⟩
    · have c := le_i c
      rw [Bh.2.1] at c
      have kk : k = N := by omega
      rw [kk] at I
      have dn : ∀ ν, NdA N nk q ν → DnP N 0 ν := fun ν na => Or.inl na.1
      obtain ⟨o2, e2, e⟩ := cl_s e
      have km6 := Bh.2.2.2.1.1
      have Wo : WoB n h L N nk rk bk q km tot := by
        refine ⟨⟨Bh.1.1, Bh.1.2.1, Bh.1.2.2, fun k' num sd kN' nb sd2 => ?_⟩, Bh.2.1, Bh.2.2.1, ⟨Bh.2.2.2.1.1, Bh.2.2.2.1.2.1⟩, fun ν R vn => ?_⟩
        · have b := (a2 k' kN').2.2.2.2
          rw [I.2.1 _ _ (by omega) (Nat.mod_lt _ (by decide))]
          constructor
          · intro ⟨ν, ⟨r, _, y⟩, z1, z2⟩
            have : atV bk ν = bk k' + 2 * num + sd := by
              have := Nat.div_add_mod (atV bk ν) 64
              have := Nat.div_add_mod (bk k' + 2 * num + sd) 64
              omega
            have w := at_inj Bh.1.2.1 r.1 (ν' := (k', num, sd)) ⟨kN', nb, sd2⟩ this
            rw [w] at r y
            exact ⟨r.2, y⟩
          · intro ⟨r, y⟩
            exact ⟨(k', num, sd), ⟨⟨⟨kN', nb, sd2⟩, r⟩, dn _ ⟨kN', nb, sd2⟩, y⟩, rfl, rfl⟩
        · have mB := Bh.2.2.2.2.1 ν.1 R.1.1
          have b1 := (a2 ν.1 R.1.1).1
          have pm : nk ν.1 * ν.2.1 ≤ nk ν.1 * q ^ nk ν.1 := Nat.mul_le_mul_left _ (by have := R.1.2.1; omega)
          have al := Bh.2.2.2.2.2.2
          refine ⟨Bh.2.2.2.1.2.2, ⟨by rw [mB.1]; omega, by rw [mB.1, b1.1, ← Int.natCast_mul]; omega⟩, fun j jm ow b hb => ?_⟩
          obtain ⟨r, rl, fr, lt, _⟩ := msk_v Bh.1.2.1 Bh.2.2.2.2 R.1.1 R.1.2.1 jm ow
          rw [I.2.2 _ b (by rw [fr]; omega) hb]
          constructor
          · intro ⟨ν', v, j', ⟨r', _, y'⟩, hv, jm', es, ed, ea⟩
            have ow' := ow_v E r' hv jm' es
            have ee : mskI n h ν.1 ν.2.1 ν.2.2 j = mskI n h ν'.1 ν'.2.1 ν'.2.2 j' := by
              rw [← ea, fr]; omega
            obtain ⟨u1, u2⟩ := msk_u Bh.1.2.1 Bh.2.2.2.2 R.1 r'.1 jm jm' ow ow' ee
            subst u1
            subst u2
            exact ⟨v, hv, es.symm, ed⟩
          · intro ⟨v, hv, es, ed⟩
            exact ⟨ν, v, j, ⟨R, dn _ R.1, vn⟩, hv, jm, es.symm, ed, by rw [fr]; omega⟩
      obtain ⟨r1, r2, r3, r4, r5⟩ := woR_k (g := g) hF E (dk_self kh) kg Wo (fun ν na => I.1 ν na (dn ν na)) e2
      unfold sX15_solve_408 at e
      have eo := so_e (nx_e e)
      have s2 := dk_610 r2
      have tb : TbR n (wI o2 (n + 513) 50 (hI o2 (n + 513) 49)) bk = TbR n o2 bk := funext fun ν => by
        show (hI (wI o2 (n + 513) 50 (hI o2 (n + 513) 49)) (n + 595) _).toInt = (hI o2 (n + 595) _).toInt
        rw [rI_a (by omega)]
      have e49 : (hI o2 (n + 513) 49).toInt = (N : Int) := by rw [(r3.2 (n + 513) 49 (by omega) (fun c => by unfold WWo WWn at c; omega)).1]; exact Bh.2.1
      rw [eo]
      refine ⟨dk_wI r1, dk_wI (dk_t kh r2), fw_wI (fw_t (fw_s Fr (fun _ _ c => Or.inl c)) (fw_s r3 (fun _ _ c => Or.inr (Or.inl c)))) (Or.inr (Or.inr ⟨rfl, rfl⟩)), ?_, ?_, fun ν na n' => ?_⟩
      · show (hI (wI o2 (n + 513) 50 (hI o2 (n + 513) 49)) (n + 513) 50).toInt = _
        rw [rI_s]; exact e49
      · show LocT _ _ _ (TbR n (wI o2 (n + 513) 50 (hI o2 (n + 513) 49)) bk)
        rw [tb]; exact r4
      · show TbR n (wI o2 (n + 513) 50 (hI o2 (n + 513) 49)) bk ν = _
        rw [tb]; exact r5 ν na n'
    · have c := nle_i c
      rw [Bh.2.1] at c
      have kN' : k < N := by omega
      obtain ⟨b1, b2, b3, b4, b5⟩ := a2 k kN'
      obtain ⟨o3, e3, e⟩ := cl_s e
      unfold sX15_sizeOf at e3
      obtain ⟨p3, v3⟩ := szr_4 kh E.2.2.1 E.2.2.2.1 Bh.1.2.2 b1.1 (by omega) b2 e4 (by omega) F (i := 0) rfl (Nat.zero_le _) (by rw [Nat.pow_zero]; rfl) e3
      rw [p3] at e
      unfold sX15_solve_372 at e
      exact sv_377 (g := g) E k0 B0 kN' e4 v3 (fun kg' kh' F' I' e' => ih kg' kh' F' I' (by rw [ta (by rw [z1]; omega), z1]; omega) (by omega) e') F (c := 0) kg kh Fr I rfl (Nat.zero_le _) e
end
end
section
/-! ENDINGS, the reference: from the SETS to the table -/
def mbF (nk : Nat → Nat) (q : Nat) : Nat → Nat
  | 0 => 0
  | k + 1 => mbF nk q k + nk k * q ^ nk k
theorem mbf_m {nk : Nat → Nat} {q : Nat} : ∀ {j k : Nat}, j < k → mbF nk q j + nk j * q ^ nk j ≤ mbF nk q k := by
  intro j k
  induction k with
  | zero => intro h; exact absurd h (Nat.not_lt_zero _)
  | succ k ih =>
    intro h
    show mbF nk q j + nk j * q ^ nk j ≤ mbF nk q k + nk k * q ^ nk k
    by_cases c : j = k
    · rw [c]; exact Nat.le_refl _
    · have := ih (by omega)
      omega
def hp0 (h : Hp) : Hp := ((0, h.1.2), h.2)
section
variable {n F N q tot : Nat} {g h h0 : Hp} {nk : Nat → Nat} {rk : Nat → Nat → Int} {bk : Nat → Nat} {o : Int32 × Hp} {x3 x4 : Int32} {L : Nat → Nat → Int}
theorem dk_hp0 (k : DyK n h h) : DyK n (hp0 h) h := by
  obtain ⟨⟨a, b, c, d⟩, e, f⟩ := k
  exact ⟨⟨a, b, c, Nat.zero_le _, d.2.1, d.2.2⟩, e, fun q hq i b e => Or.inl e, fun z => absurd z (Nat.lt_irrefl _)⟩
theorem mb_2 {k : Nat} (S : FmR n h N nk rk bk q) (kN : k < N) : 2 * mbF nk q k ≤ 5 * bk k := by
  induction k with
  | zero => exact Nat.zero_le _
  | succ k ih =>
    have a := ih (by omega)
    have b := S.2.1 k (k + 1) (Nat.lt_succ_self _) kN
    have c := (S.1.2 k (by omega)).2.1
    show 2 * (mbF nk q k + nk k * q ^ nk k) ≤ 5 * bk (k + 1)
    have d : nk k * q ^ nk k ≤ 5 * q ^ nk k := Nat.mul_le_mul_right _ c
    omega
/-- checks forgotten -/
theorem sv_330 {Q : Prop} (k0 : DyK n h0 h0) (l : hN h0 (n + 597) = 9376) (fin : ∀ {h' : Hp}, DyK n g h' → DyK n h0 h' → FrW (fun a _ => a = n + 597) h0 h' → (∀ a, a < 9376 → hJ h' (n + 597) a = 0) → sX15_solve_357 F F h' (n + 513) (0 : Int32) = some o → Q) : ∀ (f : Nat) {h : Hp} {x4 : Int32} {i : Nat}, DyK n g h → DyK n h0 h → FrW (fun a _ => a = n + 597) h0 h → (∀ a, a < i → hJ h (n + 597) a = 0) → (∀ a, hN h a = hN h0 a) → x4.toInt = (i : Int) → i ≤ 9376 → sX15_solve_330 F f h (n + 513) x4 = some o → Q := by
  have z1 : (1 : Int32).toInt = 1 := rfl
  intro f
  induction f with
  | zero => intro h x4 i _ _ _ _ _ _ _ e; exact absurd e (by rw [sX15_solve_330]; exact fun z => nomatch z)
  | succ f ih =>
    intro h x4 i kg kh Fr zs hn e4 il e
    rw [sX15_solve_330] at e
    have ed := dk_e (a := 513) (f := 54) (b := 597) kh (by decide +kernel)
    replace e := ce_e ed e
    have ln : (nI (hN h (n + 597))).toInt = 9376 := by rw [hn, l]; rfl
    rcases br_s e with ⟨c, e⟩ | ⟨c, e⟩
    · have c := le_i c
      have c : (nI (hN h (n + 597))).toInt ≤ x4.toInt := c
      exact fin kg kh Fr (fun a ha => zs a (by omega)) e
    · have c := nle_i c
      have c : x4.toInt < (nI (hN h (n + 597))).toInt := c
      have n4 : x4.toNatClampNeg = i := by have := nc_i (x := x4) (by omega); omega
      replace e := ce_e ed e
      replace e := gg_e e
      obtain ⟨h5, w5, e⟩ := nm_s e
      obtain ⟨v6, w6, e⟩ := nm_s e
      rw [n4] at w5
      refine ih (by rw [w5]; exact dk_wJ kg) (by rw [w5]; exact dk_wJ kh) (by rw [w5]; exact fw_wJ Fr rfl) (i := i + 1) (fun a ha => ?_) (fun a => by rw [w5]; exact hn a) (by rw [w6, ta (by rw [z1]; omega), z1]; omega) (by omega) e
      rw [w5, r_J]
      by_cases z : a = i
      · rw [if_pos ⟨rfl, z⟩]
      · rw [if_neg (fun y => z y.2)]; exact zs a (by omega)
/-- masks forgotten -/
theorem sv_307 {Q : Prop} {km all : Nat} (k0 : DyK n h0 h0) (s00 : 0 < hS h0) (ek : hR h0 (n + 513) 52 = some km) (a15 : all ≤ 1500000) (e3 : x3.toInt = (all : Int)) (fin : ∀ {h' : Hp}, DyK n g h' → DyK n h0 h' → FrW (fun a _ => a = km) h0 h' → (∀ a, hN h' a = hN h0 a) → (∀ a, a < all → hJ h' km a = 0) → sX15_solve_330 F F h' (n + 513) (0 : Int32) = some o → Q) : ∀ (f : Nat) {h : Hp} {x4 : Int32} {i : Nat}, DyK n g h → DyK n h0 h → FrW (fun a _ => a = km) h0 h → (∀ a, a < i → hJ h km a = 0) → (∀ a, hN h a = hN h0 a) → x4.toInt = (i : Int) → i ≤ all → sX15_solve_307 F f h (n + 513) x3 x4 = some o → Q := by
  have z1 : (1 : Int32).toInt = 1 := rfl
  intro f
  induction f with
  | zero => intro h x4 i _ _ _ _ _ _ _ e; exact absurd e (by rw [sX15_solve_307]; exact fun z => nomatch z)
  | succ f ih =>
    intro h x4 i kg kh Fr zs hn e4 il e
    rw [sX15_solve_307] at e
    rcases br_s e with ⟨c, e⟩ | ⟨c, e⟩
    · have c := le_i c
      exact fin kg kh Fr hn (fun a ha => zs a (by omega)) e
    · have c := nle_i c
      have n4 : x4.toNatClampNeg = i := by have := nc_i (x := x4) (by omega); omega
      have ekh : hR h (n + 513) 52 = some km := by rw [(kh.2.2.2 s00).2]; exact ek
      replace e := ce_e ekh e
      replace e := gg_e e
      obtain ⟨h5, w5, e⟩ := nm_s e
      obtain ⟨v6, w6, e⟩ := nm_s e
      rw [n4] at w5
      refine ih (by rw [w5]; exact dk_wJ kg) (by rw [w5]; exact dk_wJ kh) (by rw [w5]; exact fw_wJ Fr rfl) (i := i + 1) (fun a ha => ?_) (fun a => by rw [w5]; exact hn a) (by rw [w6, ta (by rw [z1]; omega), z1]; omega) (by omega) e
      rw [w5, r_J]
      by_cases z : a = i
      · rw [if_pos ⟨rfl, z⟩]
      · rw [if_neg (fun y => z y.2)]; exact zs a (by omega)
end
end
