/-! make: the whole -/
/-- the list's moves fit the board as to who is taken -/
def MvZ (b l : Nat) (h : Hp) : Prop := ∀ M lf lt lx lk lo, hR h b 0 = some M → hR h l 1 = some lf → hR h l 2 = some lt → hR h l 5 = some lx → hR h l 6 = some lk → hR h l 7 = some lo → L2 l lf lt lx lk lo (hI h M) (hI h b 1) (hI h b 3).toInt h
section
variable {zq : Nat} {ρ : Nat → Nat} {c : Cm} {h o : Hp} {x0 x1 x2 x4 F : Nat} {x3 : Int32}
theorem make_z (T : TH ρ c h) (r0 : ρ x0 = 16) (r1 : ρ x1 = 13) (r2 : ρ x2 = 14) (r4 : ρ x4 = 13) (np : ∀ P1 P, hR h x1 4 = some P1 → hR h x4 4 = some P → ¬ P1 = P) (W : WrE zq x1 h) (mv : MvB x0 x1 x2 h) (mz : MvZ x1 x2 h) (i3 : 0 ≤ x3.toInt ∧ x3.toInt < (hI h x2 0).toInt) (e : sX15_make F h x0 x1 x2 x3 x4 = some o) : WrE zq x4 o := by
  obtain ⟨M1, eM1, rM1⟩ := thR T r1 (i := 0) (k2 := 62) rfl (by decide)
  obtain ⟨M, eM, rM⟩ := thR T r4 (i := 0) (k2 := 62) rfl (by decide)
  obtain ⟨P1, eP1, rP1⟩ := thR T r1 (i := 4) (k2 := 63) rfl (by decide)
  obtain ⟨P, eP, rP⟩ := thR T r4 (i := 4) (k2 := 63) rfl (by decide)
  obtain ⟨H1, eH1, rH1⟩ := thR T r1 (i := 5) (k2 := 64) rfl (by decide)
  obtain ⟨H, eH, rH⟩ := thR T r4 (i := 5) (k2 := 64) rfl (by decide)
  obtain ⟨C, eC, rC⟩ := thR T r4 (i := 6) (k2 := 65) rfl (by decide)
  obtain ⟨lf, elf, rlf⟩ := thR T r2 (i := 1) (k2 := 66) rfl (by decide)
  obtain ⟨lt, elt, rlt⟩ := thR T r2 (i := 2) (k2 := 67) rfl (by decide)
  obtain ⟨lm, elm, rlm⟩ := thR T r2 (i := 3) (k2 := 68) rfl (by decide)
  obtain ⟨lb, elb, rlb⟩ := thR T r2 (i := 4) (k2 := 69) rfl (by decide)
  obtain ⟨lx, elx, rlx⟩ := thR T r2 (i := 5) (k2 := 70) rfl (by decide)
  obtain ⟨lk, elk, rlk⟩ := thR T r2 (i := 6) (k2 := 71) rfl (by decide)
  obtain ⟨lo, elo, rlo⟩ := thR T r2 (i := 7) (k2 := 72) rfl (by decide)
  obtain ⟨R, eR, rR⟩ := thR T r0 (i := 4) (k2 := 15) rfl (by decide)
  obtain ⟨A, eA, rA⟩ := thR T rR (i := 6) (k2 := 76) rfl (by decide)
  obtain ⟨B, eB, rB⟩ := thR T rR (i := 7) (k2 := 77) rfl (by decide)
  have nP := np P1 P eP1 eP
  have nM : hN h M = 64 := thN T rM rfl (by decide)
  have nH : hN h H = 24 := thN T rH rfl (by decide)
  obtain ⟨n, hn⟩ : ∃ n, n = x3.toNatClampNeg := ⟨_, rfl⟩
  have cn := nc_i i3.1
  have E := mz M1 lf lt lx lk lo eM1 elf elt elx elk elo n (by omega)
  have N := mv M1 H1 lf lt lm lk lo eM1 eH1 elf elt elm elk elo n (by omega)
  have if' : Rg (-1) 63 (hI h lf n) := thI T rlf rfl
  have it : Rg 0 63 (hI h lt n) := thI T rlt rfl
  have im : Rg 0 11 (hI h lm n) := thI T rlm rfl
  have ib : Rg (-1) 11 (hI h lb n) := thI T rlb rfl
  have ik : Rg 0 3 (hI h lk n) := thI T rlk rfl
  have io : Rg 0 63 (hI h lo n) := thI T rlo rfl
  have is : Rg 0 1 (hI h x1 1) := thI T r1 rfl
  have ip : Rg 0 63 (hI h P1 0) := thI T rP1 rfl
  unfold sX15_make at e
  replace e := cl_s e; obtain ⟨o1, e1, e⟩ := e
  have W1 := wr_copy T r4 r1 W e1
  obtain ⟨f1, fM, fH, f3, f4, f5, f6, fo, fx⟩ := cpy_post r4 r1 rM1 rM rP1 rP rH1 rH rC eM1 eM eP1 eP eH1 eH eC e1
  obtain ⟨_, _, fN⟩ := cpy_j e1
  have kL : ∀ {a q : Nat} (i : Nat), ρ a = q → ¬ (q = 13 ∨ (62 ≤ q ∧ q ≤ 65)) → hI o1 a i = hI h a i := fun {a q} i ra nq => fo a i (by rw [ra]; exact nq)
  have ne : ∀ {a d p q : Nat}, ρ a = p → ρ d = q → p ≠ q → ¬ a = d := fun ha hd hpq z => hpq (by rw [← ha, z]; exact hd)
  replace e := nm_s e; obtain ⟨v2, w2, e⟩ := e
  rw [f6] at w2
  replace e := cl_s e; obtain ⟨a3, q3, e⟩ := e
  have y : a3 = lf := r_eq elf (by rw [f1] at q3; exact q3)
  subst y
  replace e := (gd_s e).2
  replace e := nm_s e; obtain ⟨v5, w5, e⟩ := e
  replace e := cl_s e; obtain ⟨a6, q6, e⟩ := e
  have y : a6 = lt := r_eq elt (by rw [f1] at q6; exact q6)
  subst y
  replace e := (gd_s e).2
  replace e := nm_s e; obtain ⟨v8, w8, e⟩ := e
  replace e := cl_s e; obtain ⟨a9, q9, e⟩ := e
  have y : a9 = lm := r_eq elm (by rw [f1] at q9; exact q9)
  subst y
  replace e := (gd_s e).2
  replace e := nm_s e; obtain ⟨v11, w11, e⟩ := e
  replace e := cl_s e; obtain ⟨a12, q12, e⟩ := e
  have y : a12 = lk := r_eq elk (by rw [f1] at q12; exact q12)
  subst y
  replace e := (gd_s e).2
  replace e := nm_s e; obtain ⟨v14, w14, e⟩ := e
  rw [← hn, kL n rlf (by decide)] at w5
  rw [← hn, kL n rlt (by decide)] at w8
  rw [← hn, kL n rlm (by decide)] at w11
  rw [← hn, kL n rlk (by decide)] at w14
  replace e := nm_s e; obtain ⟨h15, w15, e⟩ := e
  replace e := cl_s e; obtain ⟨a16, q16, e⟩ := e
  have y : a16 = lx := r_eq elx (by rw [w15] at q16; rw [← f1]; exact q16)
  subst y
  have kI : ∀ {a i : Nat}, ¬ a = x4 → hI h15 a i = hI o1 a i := fun {a i} n => by rw [w15, rI_a n]
  have vx : hI h15 a16 n = hI h a16 n := by rw [kI (ne rlx r4 (by decide)), kL n rlx (by decide)]
  replace e := (gd_s e).2
  rw [← hn, vx] at e
  have kR : ∀ a i, hR h15 a i = hR h a i := fun a i => by rw [w15]; exact f1 a i
  have kM : ∀ i, i < 64 → hI h15 M i = hI h M1 i := fun i hi => by rw [kI (ne rM r4 (by decide))]; exact fM i hi
  have kP : hI h15 P1 0 = hI h P1 0 := by rw [kI (ne rP1 r4 (by decide)), fx P1 0 (ne rP1 r4 (by decide)) (ne rP1 rM (by decide)) nP (ne rP1 rH (by decide)) (ne rP1 rC (by decide))]
  have Q : MkZ ρ x0 x1 x2 x4 M P H C R A B P1 lb a16 a12 lo n (hI h a16 n) (hI h a12 n) (hI h lo n) (hI h P1 0) h15 := by
    refine ⟨⟨by rw [kR]; exact eM, by rw [kR]; exact eP, by rw [kR]; exact eH, by rw [kR]; exact eC, by rw [kR]; exact eP1, by rw [kR]; exact elb, by rw [kR]; exact elx, by rw [kR]; exact elk, by rw [kR]; exact elo⟩, ⟨r4, rM, rP, rH, rC, rP1, rlb, rlx, rlk, rlo⟩, nP, ⟨?_, ?_⟩, ⟨vx, ?_, ?_, kP⟩, ?_, ⟨⟨by rw [kR]; exact eR, by rw [kR]; exact eA, by rw [kR]; exact eB⟩, ⟨r0, rA, rB⟩, fun i => ?_, fun i => ?_⟩⟩
    · rw [w15]; show hN o1 M = 64; rw [fN]; exact nM
    · rw [w15]; show hN o1 H = 24; rw [fN]; exact nH
    · rw [kI (ne rlk r4 (by decide)), kL n rlk (by decide)]
    · rw [kI (ne rlo r4 (by decide)), kL n rlo (by decide)]
    · rw [kI (ne rlb r4 (by decide)), kL n rlb (by decide)]; exact ib
    · rw [kI (ne rA r4 (by decide)), kL i rA (by decide)]; exact thI T rA rfl
    · rw [kI (ne rB r4 (by decide)), kL i rB (by decide)]; exact thI T rB rfl
  rw [w2, w5, w8, w11, w14] at e
  obtain ⟨E1, E2', E3, E4, E5⟩ := E
  obtain ⟨N1, N2, N3, N4⟩ := N
  have nc6 : ∀ {x : Int32} {lo' : Int}, Rg lo' 63 x → x.toNatClampNeg < 64 := fun {x lo'} r => by
    by_cases w : 0 ≤ x.toInt
    · have := nc_i w; have := r.2; omega
    · have : x.toNatClampNeg = 0 := by
        show x.toInt.toNat = 0
        omega
      omega
  have W15 : tot M H h15 ≤ 96 := by
    have := W1.1 M H (by rw [f1]; exact eM) (by rw [f1]; exact eH)
    rw [tot_k (h := o1) (fun i => kI (ne rM r4 (by decide))) (fun i => kI (ne rH r4 (by decide)))]
    exact this
  have Z : M0 zq M H x4 (hI h a12 n) (hI h lo n) (hI h x1 1) (hI h a3 n) (hI h a9 n) h15 := by
    refine ⟨⟨W15, by rw [w15]; exact W1.2.1, by rw [w15, rI_s]⟩, fun k3 => ?_, fun k3 => ?_, fun k2 => ?_⟩
    · have hi := N2 (by rw [k3]; rfl)
      have z2 : (2 : Int32).toInt = 2 := rfl
      obtain ⟨m0, m1⟩ := im
      obtain ⟨s0, s1⟩ := is
      have t1 : ((2 : Int32) * hI h a9 n).toInt = 2 * (hI h a9 n).toInt := by rw [tm (by rw [z2]; omega), z2]
      have t2 : ((2 : Int32) * hI h a9 n + hI h x1 1).toInt = 2 * (hI h a9 n).toInt + (hI h x1 1).toInt := by rw [ta (by rw [t1]; omega), t1]
      have := nc_i (x := (2 : Int32) * hI h a9 n + hI h x1 1) (by omega)
      rw [kI (ne rH r4 (by decide)), fH _ (by omega)]
      exact hi
    · rw [kM _ (nc6 if')]; exact (E5 k3).1
    · rw [kM _ (nc6 io)]; exact E3 k2
  have fin : ∀ {x10 : Int32}, (x10 = 0 ∨ ¬ hI h a16 n = (-1 : Int32)) → sX15_make_65 F h15 x0 x1 x2 x3 x4 (hI h x1 1) (hI h a3 n) (hI h a6 n) (hI h a9 n) (hI h a12 n) x10 = some o → WrE zq x4 o := by
    intro x10 hx e
    refine mk_65 hn is E4 ik im Q Z (fun n0 k1 => ?_) (fun n0 k1 => ?_) e
    · have n1 := E2' k1
      obtain ⟨u1, u2⟩ := W.2.2.2 (by omega) M1 P1 eM1 eP1
      refine ⟨by rw [kM _ (nc6 ip)]; exact u1, fun z => u2 ?_⟩
      rw [← z]
      exact (E5 (by rw [k1]; decide)).2
    · obtain ⟨k0, u1, u2⟩ := E1 (hx.resolve_left n0) k1
      exact ⟨k0, by rw [kM _ (nc6 it)]; exact u1, fun z => u2 z.symm⟩
  replace e := br_s e; rcases e with ⟨_, e⟩ | ⟨nx, e⟩
  · exact fin (Or.inl rfl) e
  · exact fin (Or.inr nx) e
end
