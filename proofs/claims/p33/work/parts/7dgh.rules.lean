/-! all sentences -/
def upz (Z : Nat → Nat) (B : Nat) (k : Nat) : Nat := bif Nat.beq k 999 then B else Z k
theorem uz {Z : Nat → Nat} {B i : Nat} (h : i ∈ zl) : upz Z B i = Z i := by
  have n : ¬ i = 999 := fun z => by rw [z] at h; exact absurd h (by decide)
  unfold upz
  cases q : Nat.beq i 999 with
  | true => exact absurd (Nat.eq_of_beq_eq_true q) n
  | false => rfl
theorem zd_u {Z : Nat → Nat} {B : Nat} (D : ZD Z) : ZD (upz Z B) := fun i hi j hj e => D i hi j hj (by rw [uz hi, uz hj] at e; exact e)
section
variable {T : Nat → Int} {N : Int} {F : Nat} {Z : Nat → Nat} {x2 : Int32} {hc hr oc or hc1 : Hp} {x : Int32} {o o' : Int32 × Hp}
theorem ps_z {B : Nat} (P : PS T N Z hc hr) (b : (B : Int) ≤ (hI hc (Z 3) 3).toInt) : PS T N (upz Z B) hc hr := by
  obtain ⟨p1, p2, p3, p4, p5, s1, s2, s3, s4, s5, s6, s7, s8, s9⟩ := P
  exact ⟨p1, p2, p3, p4, p5, s1, s2, s3, s4, s5, s6, s7, s8, s9.1, s9.2.1, s9.2.2.1, b, s9.2.2.2.2⟩
theorem ps_y {B : Nat} (P : PS T N (upz Z B) hc hr) (b : ((Z 999 : Nat) : Int) ≤ (hI hc (Z 3) 3).toInt) : PS T N Z hc hr := by
  obtain ⟨p1, p2, p3, p4, p5, s1, s2, s3, s4, s5, s6, s7, s8, s9⟩ := P
  exact ⟨p1, p2, p3, p4, p5, s1, s2, s3, s4, s5, s6, s7, s8, s9.1, s9.2.1, s9.2.2.1, b, s9.2.2.2.2⟩
/-- the sentence, whatever it is -/
theorem sen_r (n12 : N ≤ 1200) (dg : ∀ j : Nat, (j : Int) < N → 0 ≤ T j ∧ T j ≤ 255) (D : ZD Z) (n2 : x2.toInt = N) (z6 : Z 996 = 0) (z7 : Z 997 = 0) (z8 : Z 998 = 0) (P : PS T N Z hc hr) {R : Int32 × Hp → Option (Int32 × Hp)} (e : (cl (sX2_isWord F hc (Z 3) 4) fun a => br (a.1 = 0) (cl (sX2_isWord F a.2 (Z 3) 13) fun b => br (b.1 = 0) (cl (sX2_takeOther F b.2 (Z 3)) fun v => R v) (cl (sX2_takeBecomes F b.2 (Z 3)) fun v => R v)) (cl (sX2_takeMan F a.2 (Z 3)) fun v => R v)) = some o) {s : Int32 × Hp} (es : sX15_isSentence F hr (Z 16) (Z 82) x2 = some s) : ∃ v, Out2 T N Z v s ∧ R v = some o := by
  replace e := cl_s e
  obtain ⟨a, ea, e⟩ := e
  have es0 := es
  unfold sX15_isSentence at es
  replace es := cl_s es
  obtain ⟨a', ea', es⟩ := es
  obtain ⟨q1, q2, q3⟩ := iw_r n12 P.2.2.1 P.2.2.2.1 P.2.2.2.2.1 (i := 4) (i' := 30) rfl (by decide) ea ea'
  rw [q1] at e
  rw [q2] at es
  replace e := br_s e
  replace es := br_s es
  rcases e with ⟨b, e⟩ | ⟨b, e⟩
  rotate_left
  · rcases es with ⟨b', _⟩ | ⟨_, es⟩
    · rw [← q3] at b'; exact absurd b' b
    replace e := cl_s e
    obtain ⟨v, ev, e⟩ := e
    replace es := cl_s es
    obtain ⟨u, eu, es⟩ := es
    have y : s = u := (Option.some.inj (gd_s es).2).symm
    rw [y]
    exact ⟨v, Or.inl (ma_r n12 dg D n2 z7 z6 P ev eu), e⟩
  rcases es with ⟨b', es⟩ | ⟨b', _⟩
  rotate_left
  · rw [← q3] at b'; exact absurd b b'
  replace e := cl_s e
  obtain ⟨c, ec, e⟩ := e
  replace es := cl_s es
  obtain ⟨c', ec', es⟩ := es
  obtain ⟨t1, t2, t3⟩ := iw_r n12 P.2.2.1 P.2.2.2.1 P.2.2.2.2.1 (i := 13) (i' := 39) rfl (by decide) ec ec'
  rw [t1] at e
  rw [t2] at es
  replace e := br_s e
  replace es := br_s es
  rcases e with ⟨d, e⟩ | ⟨d, e⟩
  rotate_left
  · rcases es with ⟨d', _⟩ | ⟨_, es⟩
    · rw [← t3] at d'; exact absurd d' d
    replace e := cl_s e
    obtain ⟨v, ev, e⟩ := e
    replace es := cl_s es
    obtain ⟨u, eu, es⟩ := es
    have y : s = u := (Option.some.inj (gd_s es).2).symm
    rw [y]
    exact ⟨v, be_r n12 dg D n2 P ev eu, e⟩
  replace e := cl_s e
  obtain ⟨v, ev, e⟩ := e
  exact ⟨v, ot_r n12 dg D n2 z8 P ea' ⟨q2, b'⟩ ec' ⟨t2, by rw [← t3]; exact d⟩ ev es0, e⟩
/-- both readings end alike: at the end, or at one place -/
def Fin2 (Z : Nat → Nat) (o o' : Int32 × Hp) : Prop := (o.1 = 0 ∧ o'.1 = 0 ∧ Fl2 Z o.2 o'.2) ∨ (¬ o.1 = 0 ∧ ¬ o'.1 = 0 ∧ ZC Z o.2 ∧ ZR Z o'.2 ∧ LwS Z o.2 o'.2)
theorem rd_39 (n12 : N ≤ 1200) (dg : ∀ j : Nat, (j : Int) < N → 0 ≤ T j ∧ T j ≤ 255) (D : ZD Z) (n2 : x2.toInt = N) (z999 : Z 999 = 0) (z6 : Z 996 = 0) (z7 : Z 997 = 0) (z8 : Z 998 = 0) : ∀ (f g : Nat) {hc hr : Hp} {xi : Int32}, PS T N Z hc hr → 0 ≤ xi.toInt → xi.toInt ≤ (hI hc (Z 3) 2).toInt → sX2_read_39 F f hc (Z 3) (1 : Int32) xi = some o → sX15_isRules_117 F g hr (Z 16) (Z 82) x2 = some o' → Fin2 Z o o' := by
  have z1 : (1 : Int32).toInt = 1 := rfl
  have z1200 : (1200 : Int32).toInt = 1200 := rfl
  intro f
  induction f with
  | zero => intro g hc hr xi _ _ _ e; exact absurd e (by rw [sX2_read_39]; exact fun z => nomatch z)
  | succ f ih =>
    intro g hc hr xi P x0 xs e e'
    cases g with
    | zero => exact absurd e' (by rw [sX15_isRules_117]; exact fun z => nomatch z)
    | succ g =>
      have f0 := ts_f P.2.2.2.2.1
      have b0 := ts_b P.2.2.2.2.1
      rw [sX2_read_39] at e
      rw [sX15_isRules_117] at e'
      have ke : hI hc (Z 3) 4 = 0 ↔ hI hr (Z 16) 6 = (4 : Int32) := by
        have z0 : (0 : Int32).toInt = 0 := rfl
        have z4 : (4 : Int32).toInt = 4 := rfl
        rw [← Int32.toInt_inj, ← Int32.toInt_inj, f0.2.2.1, z0, z4]
        unfold km
        constructor
        · intro z; rw [if_pos z]
        · intro z
          by_cases q0 : (hI hc (Z 3) 4).toInt = 0
          · exact q0
          · rw [if_neg q0] at z
            by_cases q4 : (hI hc (Z 3) 4).toInt = 4
            · rw [if_pos q4] at z; omega
            · rw [if_neg q4] at z; exact absurd z q4
      -- the end of the text
      have fin : hI hc (Z 3) 4 = 0 → sX2_read_118 F hc (Z 3) (1 : Int32) = some o → Fin2 Z o o' := fun k e => by
        unfold sX2_read_118 sX2_read_133 sX2_read_134 at e
        replace e := br_s e
        rcases e with ⟨z, _⟩ | ⟨_, e⟩
        · exact absurd z (by decide)
        replace e := br_s e
        rcases e with ⟨_, e⟩ | ⟨n, _⟩
        rotate_left
        · exact absurd k n
        replace e' := br_s e'
        rcases e' with ⟨_, e'⟩ | ⟨n, _⟩
        rotate_left
        · exact absurd (ke.mp k) n
        rw [← Option.some.inj (gd_s e).2, ← Option.some.inj e']
        exact Or.inr ⟨i1n0, i1n0, P.1, P.2.1, P.2.2.2.2.2⟩
      replace e := br_s e
      rcases e with ⟨l, e⟩ | ⟨_, e⟩
      · -- a text of 1200 bytes has no sentence more
        have l := le_i l
        rw [z1200] at l
        refine fin ?_ e
        obtain ⟨p, k, A, _, _⟩ := P.2.2.2.2.1
        obtain ⟨_, c⟩ := A
        rcases c with ⟨_, c2, _⟩ | ⟨c1, _⟩
        · exact Int32.toInt_inj.mp c2
        · omega
      replace e := br_s e
      rcases e with ⟨z, _⟩ | ⟨_, e⟩
      · exact absurd z (by decide)
      replace e := br_s e
      rcases e with ⟨k, e⟩ | ⟨k, e⟩
      · exact fin k e
      replace e' := br_s e'
      rcases e' with ⟨n, _⟩ | ⟨_, e'⟩
      · exact absurd (ke.mpr n) k
      replace e' := cl_s e'
      obtain ⟨s, es, e'⟩ := e'
      -- behind a sentence
      have sl : (hI hc (Z 3) 2).toInt < (hI hc (Z 3) 3).toInt := by
        obtain ⟨p, k', A, _, _⟩ := P.2.2.2.2.1
        exact tk_e A (fun z => k (Int32.toInt_inj.mp z))
      have tx : (xi + (1 : Int32)).toInt = xi.toInt + 1 := by rw [ta (by rw [z1]; omega), z1]
      have Pz := ps_z (B := (hI hc (Z 3) 3).toInt.toNat) P (by omega)
      have go : ∀ {v : Int32 × Hp}, Out2 T N (upz Z (hI hc (Z 3) 3).toInt.toNat) v s → sX2_read_94 F (sX2_read_39 F f) v.2 (Z 3) xi v.1 = some o → Fin2 Z o o' := fun {v} q e => by
        have stop : ∀ {h : Hp} {x4 : Int32}, sX2_read_39 F f h (Z 3) (0 : Int32) x4 = some o → o = ((0 : Int32), h) := fun {h x4} e => by
          cases f with
          | zero => exact absurd e (by rw [sX2_read_39]; exact fun z => nomatch z)
          | succ f =>
            rw [sX2_read_39] at e
            unfold sX2_read_118 sX2_read_133 sX2_read_134 at e
            replace e := br_s e
            rcases e with ⟨_, e⟩ | ⟨_, e⟩
            · replace e := br_s e
              rcases e with ⟨_, e⟩ | ⟨z, _⟩
              · exact (Option.some.inj (gd_s e).2).symm
              · exact absurd rfl z
            · replace e := br_s e
              rcases e with ⟨_, e⟩ | ⟨z, _⟩
              · replace e := br_s e
                rcases e with ⟨_, e⟩ | ⟨z, _⟩
                · exact (Option.some.inj (gd_s e).2).symm
                · exact absurd rfl z
              · exact absurd rfl z
        unfold sX2_read_94 sX2_read_110 sX2_read_111 at e
        unfold sX15_isRules_144 at e'
        rcases q with (⟨a1, a2, a3⟩ | ⟨a1, a2, P2⟩) | ⟨a1, a2, a3, a4⟩
        · replace e := br_s e
          rcases e with ⟨_, e⟩ | ⟨n, _⟩
          rotate_left
          · exact absurd a1 n
          replace e := nm_s e
          obtain ⟨v1, _, e⟩ := e
          replace e' := br_s e'
          rcases e' with ⟨_, e'⟩ | ⟨n, _⟩
          rotate_left
          · exact absurd a2 n
          rw [stop e, ← Option.some.inj e']
          exact Or.inl ⟨rfl, rfl, a3⟩
        · replace e := br_s e
          rcases e with ⟨n, _⟩ | ⟨_, e⟩
          · exact absurd n a1
          replace e' := br_s e'
          rcases e' with ⟨n, _⟩ | ⟨_, e'⟩
          · exact absurd n a2
          replace e' := cl_s e'
          obtain ⟨o4, e4, e'⟩ := e'
          obtain ⟨t1, t2⟩ := sg_r P2.2.2.1 P2.2.2.2.1 P2.2.2.2.2.1 (kd := 3) (Or.inl ⟨rfl, rfl⟩) e4
          rw [t1] at e'
          replace e := cl_s e
          obtain ⟨o2, e2, e⟩ := e
          unfold sX2_takeEnd at e2
          replace e2 := br_s e2
          rcases e2 with ⟨k3, e2⟩ | ⟨k3, e2⟩
          rotate_left
          · rw [← Option.some.inj e2] at e
            replace e := br_s e
            rcases e with ⟨_, e⟩ | ⟨n, _⟩
            rotate_left
            · exact absurd rfl n
            replace e := nm_s e
            obtain ⟨v1, _, e⟩ := e
            replace e' := br_s e'
            rcases e' with ⟨_, e'⟩ | ⟨n, _⟩
            · have fl2 : Fl2 (upz Z (hI hc (Z 3) 3).toInt.toNat) v.2 s.2 := ps_fl P2
              rw [stop e, ← Option.some.inj e']
              exact Or.inl ⟨rfl, rfl, fl2⟩
            · exact absurd (t2.mpr (fun z => k3 (Int32.toInt_inj.mp z))) n
          replace e2 := cl_s e2
          obtain ⟨h3, e3, e2⟩ := e2
          rw [← Option.some.inj e2] at e
          replace e := br_s e
          rcases e with ⟨n, _⟩ | ⟨_, e⟩
          · exact absurd n i1n0
          replace e := nm_s e
          obtain ⟨v1, w1, e⟩ := e
          replace e' := br_s e'
          rcases e' with ⟨n, _⟩ | ⟨_, e'⟩
          · exact absurd (show (hI v.2 (Z 3) 4).toInt = 3 by rw [k3]; rfl) (t2.mp n)
          replace e' := cl_s e'
          obtain ⟨o6, e6, e'⟩ := e'
          have P3 := ps_a n12 dg (zd_u D) n2 (ps_b P2).1 (ps_b P2).2 e3 e6
          have A3 := (adv_k n12 dg P2.2.2.1 (ps_b P2).2.2.1 (ps_b P2).2.2.2 e3).2
          have a5 := A3.1.2.1
          have a6 := (tk_b A3).2.1
          have a7 : (((hI hc (Z 3) 3).toInt.toNat : Nat) : Int) ≤ (hI v.2 (Z 3) 3).toInt := P2.2.2.2.2.2.2.2.2.2.2.2.2.2.2.2.2.1
          have a5 : (hI v.2 (Z 3) 3).toInt ≤ (hI h3 (Z 3) 2).toInt := a5
          have a6 : (hI h3 (Z 3) 2).toInt ≤ (hI h3 (Z 3) 3).toInt := a6
          refine ih g (ps_y P3 (by rw [z999]; omega)) (by rw [w1, tx]; omega) (by rw [w1, tx]; omega) e e'
        · replace e := br_s e
          rcases e with ⟨n, _⟩ | ⟨_, e⟩
          · exact absurd n a1
          replace e' := br_s e'
          rcases e' with ⟨_, e'⟩ | ⟨n, _⟩
          rotate_left
          · exact absurd a2 n
          replace e := cl_s e
          obtain ⟨o2, e2, e⟩ := e
          unfold sX2_takeEnd at e2
          replace e2 := br_s e2
          rcases e2 with ⟨k3, _⟩ | ⟨_, e2⟩
          · exact absurd k3 a4
          rw [← Option.some.inj e2] at e
          replace e := br_s e
          rcases e with ⟨_, e⟩ | ⟨n, _⟩
          rotate_left
          · exact absurd rfl n
          replace e := nm_s e
          obtain ⟨v1, _, e⟩ := e
          rw [stop e, ← Option.some.inj e']
          exact Or.inl ⟨rfl, rfl, a3⟩
      obtain ⟨v, q, ev⟩ := sen_r n12 dg (zd_u D) n2 z6 z7 z8 Pz e es
      exact go q ev
end
