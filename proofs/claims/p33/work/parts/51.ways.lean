def lnW : Nat → Nat
  | 1 => 98305
  | 2 => 172032
  | 3 => 172032
  | 4 => 1536
  | 5 => 1536
  | 6 => 64
  | 7 => 512
  | _ => 0
abbrev WA (w : Nat) : Nat → Prop := fun a => w ≤ a ∧ a ≤ w + 7
def Wy (h : Hp) (w l fi ra me : Nat) : Prop :=
  (∀ k, k < 7 → hR h w k = some (w + 1 + k)) ∧ hR h w 7 = some l ∧ (∀ k, 1 ≤ k ∧ k ≤ 7 → hN h (w + k) = lnW k) ∧
  (∀ k, 1 ≤ k ∧ k ≤ 7 → hR h l (13 + k) = some (l + k)) ∧ (∀ k, 1 ≤ k ∧ k ≤ 7 → hN h (l + k) = lnC k) ∧ (w + 7 < l ∨ l + 7 < w) ∧
  hI h l 0 = nI fi ∧ hI h l 1 = nI ra ∧ hI h l 2 = nI (fi * ra) ∧ hI h l 3 = nI me ∧ fi ≤ 8 ∧ ra ≤ 8 ∧ me ≤ 12 ∧
  (∀ m, m < 12 → ∃ c, hI h (l + 3) m = nI c ∧ c ≤ 8)
def Wc (h : Hp) (w : Nat) : Prop := (∃ c, hI h w 8 = nI c ∧ c ≤ 172032) ∧ ∀ j, j < 512 → ∃ v, hI h (w + 7) j = nI v ∧ v ≤ 7
theorem Wy.fx {h h1 : Hp} {w l fi ra me : Nat} (W : Wy h w l fi ra me) (f : Fx (WA w) h h1) : Wy h1 w l fi ra me := by
  obtain ⟨a1, a2, a3, a4, a5, a6, a7, a8, a9, b1, b2, b3, b4, b5⟩ := W
  have e0 : hI h1 l = hI h l := f.I (by unfold WA; omega)
  have e3 : hI h1 (l + 3) = hI h (l + 3) := f.I (by unfold WA; omega)
  refine ⟨fun k hk => (f.R _ _).trans (a1 k hk), (f.R _ _).trans a2, fun k hk => (f.N _).trans (a3 k hk), fun k hk => (f.R _ _).trans (a4 k hk), fun k hk => (f.N _).trans (a5 k hk), a6, ?_, ?_, ?_, ?_, b2, b3, b4, ?_⟩
  · rw [e0]; exact a7
  · rw [e0]; exact a8
  · rw [e0]; exact a9
  · rw [e0]; exact b1
  · rw [e3]; exact b5
section
variable {h : Hp} {w l fi ra me : Nat}
theorem Wy.r0 (W : Wy h w l fi ra me) : hR h w 0 = some (w + 1) := W.1 0 (by decide)
theorem Wy.r1 (W : Wy h w l fi ra me) : hR h w 1 = some (w + 2) := W.1 1 (by decide)
theorem Wy.r2 (W : Wy h w l fi ra me) : hR h w 2 = some (w + 3) := W.1 2 (by decide)
theorem Wy.r3 (W : Wy h w l fi ra me) : hR h w 3 = some (w + 4) := W.1 3 (by decide)
theorem Wy.r4 (W : Wy h w l fi ra me) : hR h w 4 = some (w + 5) := W.1 4 (by decide)
theorem Wy.r5 (W : Wy h w l fi ra me) : hR h w 5 = some (w + 6) := W.1 5 (by decide)
theorem Wy.r6 (W : Wy h w l fi ra me) : hR h w 6 = some (w + 7) := W.1 6 (by decide)
theorem Wy.r7 (W : Wy h w l fi ra me) : hR h w 7 = some l := W.2.1
theorem Wy.n (W : Wy h w l fi ra me) {k : Nat} (hk : 1 ≤ k ∧ k ≤ 7) : hN h (w + k) = lnW k := W.2.2.1 k hk
theorem Wy.lr (W : Wy h w l fi ra me) {k : Nat} (hk : 1 ≤ k ∧ k ≤ 7) : hR h l (13 + k) = some (l + k) := W.2.2.2.1 k hk
theorem Wy.ln (W : Wy h w l fi ra me) {k : Nat} (hk : 1 ≤ k ∧ k ≤ 7) : hN h (l + k) = lnC k := W.2.2.2.2.1 k hk
theorem Wy.files (W : Wy h w l fi ra me) : hI h l 0 = nI fi := W.2.2.2.2.2.2.1
theorem Wy.ranks (W : Wy h w l fi ra me) : hI h l 1 = nI ra := W.2.2.2.2.2.2.2.1
theorem Wy.squares (W : Wy h w l fi ra me) : hI h l 2 = nI (fi * ra) := W.2.2.2.2.2.2.2.2.1
theorem Wy.men (W : Wy h w l fi ra me) : hI h l 3 = nI me := W.2.2.2.2.2.2.2.2.2.1
theorem Wy.fi8 (W : Wy h w l fi ra me) : fi ≤ 8 := W.2.2.2.2.2.2.2.2.2.2.1
theorem Wy.ra8 (W : Wy h w l fi ra me) : ra ≤ 8 := W.2.2.2.2.2.2.2.2.2.2.2.1
theorem Wy.me12 (W : Wy h w l fi ra me) : me ≤ 12 := W.2.2.2.2.2.2.2.2.2.2.2.2.1
theorem Wy.sc (W : Wy h w l fi ra me) {m : Nat} (hm : m < 12) : ∃ c, hI h (l + 3) m = nI c ∧ c ≤ 8 := W.2.2.2.2.2.2.2.2.2.2.2.2.2 m hm
theorem Wy.sq64 (W : Wy h w l fi ra me) : fi * ra ≤ 64 := by
  have := Nat.mul_le_mul W.fi8 W.ra8
  omega
theorem on64 {f r : Nat} (h1 : f < fi) (h2 : r < ra) : r * fi + f < fi * ra := by
  have h3 : (r + 1) * fi ≤ ra * fi := Nat.mul_le_mul_right fi h2
  rw [Nat.succ_mul] at h3
  rw [Nat.mul_comm fi ra]
  omega
theorem w_isOn (W : Wy h w l fi ra me) (x1 x2 : Int32) : (sX10_isOn h w x1 x2 = some (1, h) ∧ ∃ f r, x1 = nI f ∧ x2 = nI r ∧ f < fi ∧ r < ra) ∨ sX10_isOn h w x1 x2 = some (0, h) := by
  have g0 : ((0 : Int32) &&& 1 = 0) := by decide
  have g1 : ((1 : Int32) &&& 1 = 1) := by decide
  unfold sX10_isOn sX10_isOn_34 sX10_isOn_35
  rw [W.r7, cl_some, cl_some, W.files, W.ranks, gd_pos g0, gd_pos g1]
  have f8 := W.fi8
  have r8 := W.ra8
  by_cases c1 : x1 < 0
  · rw [br_pos c1]; exact .inr rfl
  · rw [br_neg c1]
    obtain ⟨e1, b1⟩ := z_nI c1
    by_cases c2 : nI fi ≤ x1
    · rw [br_pos c2]; exact .inr rfl
    · rw [br_neg c2]
      by_cases c3 : x2 < 0
      · rw [br_pos c3]; exact .inr rfl
      · rw [br_neg c3]
        obtain ⟨e2, b2⟩ := z_nI c3
        by_cases c4 : nI ra ≤ x2
        · rw [br_pos c4]; exact .inr rfl
        · rw [br_neg c4]
          refine .inl ⟨rfl, x1.toNatClampNeg, x2.toNatClampNeg, e1, e2, ?_, ?_⟩
          · rw [e1, z_le (by omega) b1] at c2; omega
          · rw [e2, z_le (by omega) b2] at c4; omega
theorem Wc.times {h : Hp} {w : Nat} (C : Wc h w) {i v : Nat} (hv : v ≤ 7) : Wc (wI h (w + 7) i (nI v)) w := by
  refine ⟨?_, fun j hj => ?_⟩
  · obtain ⟨c, e, hc⟩ := C.1
    refine ⟨c, ?_, hc⟩
    rw [r_I, if_neg (by omega)]; exact e
  · rw [r_I]
    by_cases e : w + 7 = w + 7 ∧ j = i
    · rw [if_pos e]; exact ⟨v, rfl, hv⟩
    · rw [if_neg e]; exact C.2 j hj
theorem Wc.same {h h1 : Hp} {w : Nat} (C : Wc h w) (e1 : hI h1 w = hI h w) (e2 : hI h1 (w + 7) = hI h (w + 7)) : Wc h1 w := by
  refine ⟨?_, ?_⟩
  · rw [e1]; exact C.1
  · rw [e2]; exact C.2
abbrev Wq (w : Nat) (h : Hp) (u : Hp) : Prop := Fx (WA w) h u ∧ Wc u w
theorem w_ride_158 {F : Nat} {x3 x9 x10 : Int32} {i : Nat} (hi : i < 8) : ∀ (f : Nat) (h : Hp) (x11 : Int64) (x13 x14 : Int32) (k : Nat), 8 - k < f → 1 ≤ k → k ≤ 8 → Wy h w l fi ra me → Wc h w → Sat (sX10_ride_158 F f h w (nI i) x3 x9 x10 x11 x13 x14 (nI k)) fun o => Wq w h o.2 := by
  intro f
  induction f with
  | zero => intro h x11 x13 x14 k hk; omega
  | succ f ih =>
    intro h x11 x13 x14 k hk k1 k8 W C
    rw [sX10_ride_158]
    have h7 : ∃ m, ((x3 >>> ((14 : Int32) &&& 31)) &&& (7 : Int32)) = nI m ∧ m ≤ 7 := z_and _ (k := 7) (by decide)
    obtain ⟨m, em, hm⟩ := h7
    rw [em]
    apply s_br
    · intro _
      exact s_some ⟨Fx.rf h, C⟩
    · intro c1
      rw [z_lt (by omega) (by omega)] at c1
      rcases w_isOn W x13 x14 with ⟨e, p, r, e1, e2, hp, hr⟩ | e
      · rw [e, cl_some]
        rw [br_neg (show ¬ ((1 : Int32) = 0) by decide)]
        show Sat (cl (hR h w 7) _) _
        rw [W.r7, cl_some, nm_eq, W.r6, cl_some, W.files]
        subst e1 e2
        have o6 := on64 (fi := fi) (ra := ra) hp hr
        have s6 := W.sq64
        rw [z_mul, z_add, show (8 : Int32) = nI 8 from rfl, z_mul, z_add]
        apply s_gd
        · rw [z_inB (by omega), W.n (k := 7) (by decide)]
          show _ < 512
          omega
        · rw [nm_eq, nm_eq, nm_eq, nm_eq, nm_eq, show (1 : Int32) = nI 1 from rfl, z_add]
          have F1 : Fx (WA w) h (wI h (w + 7) (nI ((r * fi + p) * 8 + i)).toNatClampNeg (nI k)) := (Fx.rf h).wI (by unfold WA; omega) _ _
          exact s_imp (ih _ _ _ _ (k + 1) (by omega) (by omega) (by omega) (W.fx F1) (C.times (by omega))) (fun o ho => ⟨F1.tr ho.1, ho.2⟩)
      · rw [e, cl_some, br_pos rfl]
        exact s_some ⟨Fx.rf h, C⟩
end

section
variable {h : Hp} {w l fi ra me F : Nat}
theorem w_ride_124 (hF : 2000 ≤ F) {s i : Nat} (hs : s < 64) (hi : i < 8) (x3 x9 x10 : Int32) (W : Wy h w l fi ra me) (C : Wc h w) : Sat (sX10_ride_124 F h w (nI s) (nI i) x3 x9 x10) fun o => Wq w h o.2 := by
  unfold sX10_ride_124
  rw [W.r7, cl_some, W.lr (k := 6) (by decide), cl_some]
  apply s_gd
  · rw [z_inB (by omega), W.ln (k := 6) (by decide)]; exact hs
  · rw [nm_eq, cl_some, W.lr (k := 7) (by decide), cl_some]
    apply s_gd
    · rw [z_inB (by omega), W.ln (k := 7) (by decide)]; exact hs
    · rw [nm_eq]
      exact w_ride_158 hi F h 0 _ _ 1 (by omega) (by omega) (by omega) W C
theorem w_ride (hF : 2000 ≤ F) {s i : Nat} (hs : s < 64) (hi : i < 8) (x3 x4 x5 : Int32) (W : Wy h w l fi ra me) (C : Wc h w) : Sat (sX10_ride F h w (nI s) (nI i) x3 x4 x5) fun o => Wq w h o.2 := by
  have k := fun x9 x10 => w_ride_124 hF hs hi x3 x9 x10 W C
  have k1 : ∀ x9 x10, Sat (sX10_ride_119 F h w (nI s) (nI i) x3 x9 x10) fun o => Wq w h o.2 := fun x9 x10 => k _ _
  have k2 : ∀ x8 x9 x10, Sat (sX10_ride_101 F h w (nI s) (nI i) x3 x4 x5 x8 x9 x10) fun o => Wq w h o.2 := fun x8 x9 x10 => by
    unfold sX10_ride_101
    exact s_br (fun _ => s_br (fun _ => k _ _) (fun _ => s_br (fun _ => k1 _ _) (fun _ => k _ _))) (fun _ => k1 _ _)
  have k3 : ∀ x8 x9 t0, Sat (sX10_ride_87 F h w (nI s) (nI i) x3 x4 x5 x8 x9 t0) fun o => Wq w h o.2 := fun x8 x9 t0 => by
    unfold sX10_ride_87
    exact s_br (fun _ => k2 _ _ _) (fun _ => k2 _ _ _)
  have k4 : ∀ x6 x7 x8 t0, Sat (sX10_ride_61 F h w (nI s) (nI i) x3 x4 x5 x6 x7 x8 t0) fun o => Wq w h o.2 := fun x6 x7 x8 t0 => by
    unfold sX10_ride_61
    exact s_br (fun _ => s_br (fun _ => k3 _ _ _) (fun _ => k3 _ _ _)) (fun _ => k3 _ _ _)
  have k5 : ∀ x6 x7 t0, Sat (sX10_ride_35 F h w (nI s) (nI i) x3 x4 x5 x6 x7 t0) fun o => Wq w h o.2 := fun x6 x7 t0 => by
    unfold sX10_ride_35
    exact s_br (fun _ => s_br (fun _ => k4 _ _ _ _) (fun _ => k4 _ _ _ _)) (fun _ => k4 _ _ _ _)
  unfold sX10_ride
  rw [nm_eq, nm_eq]
  exact s_br (fun _ => k5 _ _ _) (fun _ => k5 _ _ _)
abbrev Wk {β : Type} (w l fi ra me : Nat) (h0 : Hp) (m : Hp → Option β) (Q : β → Prop) : Prop := ∀ u, Wq w h0 u → Wy u w l fi ra me → Sat (m u) Q
theorem w_reach_123 (hF : 2000 ≤ F) {Q : Int64 × Hp → Prop} {k_10 : Hp → Nat → Int32 → Int32 → Int32 → Int64 → Int32 → Option (Int64 × Hp)} {s i v : Nat} {x1 x3 x7 : Int32} (hs : s < 64) (hi : i < 8) (hv : v ≤ 8) {h0 : Hp}
    (hk : ∀ x4, Wk w l fi ra me h0 (fun u => k_10 u w x1 (nI s) x3 x4 (nI (i + 1))) Q) :
    ∀ (f : Nat) (h : Hp) (x4 : Int64) (j : Nat), 8 - j < f → j ≤ 8 → Wq w h0 h → Wy h w l fi ra me → Sat (sX10_reach_123 F k_10 f h w x1 (nI s) x3 x4 (nI i) x7 (nI v) (nI j)) Q := by
  intro f
  induction f with
  | zero => intro h x4 j hj; omega
  | succ f ih =>
    intro h x4 j hj j8 q W
    rw [sX10_reach_123]
    apply s_br
    · intro _
      unfold sX10_reach_155
      rw [nm_eq, show (1 : Int32) = nI 1 from rfl, z_add]
      exact hk x4 h q W
    · intro c
      rw [z_le (by omega) (by omega)] at c
      apply s_cl
      refine s_imp (w_ride hF hs hi x7 (nI j) _ W q.2) (fun o ho => ?_)
      rw [nm_eq, nm_eq, show (1 : Int32) = nI 1 from rfl, z_add]
      exact ih o.2 _ (j + 1) (by omega) (by omega) ⟨q.1.tr ho.1, ho.2⟩ (W.fx ho.1)
theorem w_reach_88 (hF : 2000 ≤ F) {Q : Int64 × Hp → Prop} {k_10 : Hp → Nat → Int32 → Int32 → Int32 → Int64 → Int32 → Option (Int64 × Hp)} {s i : Nat} {x1 x3 x7 x8 t0 : Int32} {x4 : Int64} (hs : s < 64) (hi : i < 8)
    (hk : ∀ x4, Wk w l fi ra me h (fun u => k_10 u w x1 (nI s) x3 x4 (nI (i + 1))) Q) (W : Wy h w l fi ra me) (C : Wc h w) : Sat (sX10_reach_88 F k_10 h w x1 (nI s) x3 x4 (nI i) x7 x8 t0) Q := by
  have q0 : Wq w h h := ⟨Fx.rf h, C⟩
  have k1 : Sat (sX10_reach_155 F k_10 h w x1 (nI s) x3 x4 (nI i)) Q := by
    unfold sX10_reach_155
    rw [nm_eq, show (1 : Int32) = nI 1 from rfl, z_add]
    exact hk x4 h q0 W
  have k2 : Sat (sX10_reach_105 F k_10 h w x1 (nI s) x3 x4 (nI i) x7) Q := by
    unfold sX10_reach_105 sX10_reach_118
    exact s_br (fun _ => w_reach_123 hF (v := 8) hs hi (by omega) hk F h x4 0 (by omega) (by omega) q0 W) (fun _ => w_reach_123 hF (v := 1) hs hi (by omega) hk F h x4 0 (by omega) (by omega) q0 W)
  unfold sX10_reach_88
  exact s_br (fun _ => k2) (fun _ => s_br (fun _ => k2) (fun _ => k1))
theorem w_reach_10 (hF : 2000 ≤ F) {s m : Nat} {x1 : Int32} (hs : s < 64) (hm : m < 12) : ∀ (f : Nat) (h : Hp) (x4 : Int64) (i : Nat), 8 - i < f → i ≤ 8 → Wy h w l fi ra me → Wc h w → Sat (sX10_reach_10 F f h w x1 (nI s) (nI m) x4 (nI i)) fun o => Wq w h o.2 := by
  intro f
  induction f with
  | zero => intro h x4 i hi; omega
  | succ f ih =>
    intro h x4 i hi i8 W C
    rw [sX10_reach_10, W.r7, cl_some, W.lr (k := 3) (by decide), cl_some]
    apply s_gd
    · rw [z_inB (by omega), W.ln (k := 3) (by decide)]; exact hm
    · obtain ⟨c, ec, c8⟩ := W.sc hm
      rw [z_clamp (by omega), ec]
      apply s_br
      · intro _; exact s_some ⟨Fx.rf h, C⟩
      · intro c1
        rw [z_le (by omega) (by omega)] at c1
        have hk : ∀ x4, Wk w l fi ra me h (fun u => sX10_reach_10 F f u w x1 (nI s) (nI m) x4 (nI (i + 1))) (fun o => Wq w h o.2) := fun x4 u q U =>
          s_imp (ih u x4 (i + 1) (by omega) (by omega) U q.2) (fun o ho => ⟨q.1.tr ho.1, ho.2⟩)
        rw [cl_some, W.lr (k := 2) (by decide), cl_some]
        apply s_gd
        · rw [show (8 : Int32) = nI 8 from rfl, z_mul, z_add, z_inB (by omega), W.ln (k := 2) (by decide)]
          show _ < 96
          omega
        · rw [nm_eq, nm_eq]
          apply s_br
          · intro _
            rw [cl_some, W.lr (k := 7) (by decide), cl_some]
            apply s_gd
            · rw [z_inB (by omega), W.ln (k := 7) (by decide)]; exact hs
            · exact w_reach_88 hF hs (by omega) hk W C
          · intro _
            rw [cl_some, cl_some, W.lr (k := 7) (by decide), cl_some]
            apply s_gd
            · rw [z_inB (by omega), W.ln (k := 7) (by decide)]; exact hs
            · exact w_reach_88 hF hs (by omega) hk W C
theorem z_half {c : Nat} (hc : c < 24) : nI c >>> ((1 : Int32) &&& 31) = nI (c / 2) := by
  have h : ∀ c : Fin 24, nI c.val >>> ((1 : Int32) &&& 31) = nI (c.val / 2) := by decide +kernel
  exact h ⟨c, hc⟩
theorem w_reach (hF : 2000 ≤ F) {s c : Nat} (hs : s < 64) (hc : c < 24) (W : Wy h w l fi ra me) (C : Wc h w) : Sat (sX10_reach F h w (nI c) (nI s)) fun o => Wq w h o.2 := by
  unfold sX10_reach
  rw [nm_eq, z_half (by omega)]
  exact w_reach_10 hF hs (by omega) F h 0 0 (by omega) (by omega) W C
end

section
variable {h : Hp} {w l fi ra me F : Nat}
theorem Wc.count {h : Hp} {w : Nat} (C : Wc h w) {c : Nat} (hc : c ≤ 172032) : Wc (wI h w 8 (nI c)) w := by
  refine ⟨⟨c, ?_, hc⟩, fun j hj => ?_⟩
  · rw [r_I, if_pos ⟨rfl, rfl⟩]
  · rw [r_I, if_neg (by omega)]; exact C.2 j hj
theorem Wc.other {h : Hp} {w : Nat} (C : Wc h w) {a i : Nat} {v : Int32} (ha : a ≠ w) (ha7 : a ≠ w + 7) : Wc (wI h a i v) w := by
  refine C.same ?_ ?_
  · funext j; rw [r_I, if_neg (by omega)]
  · funext j; rw [r_I, if_neg (by omega)]
theorem Wc.long {h : Hp} {w : Nat} (C : Wc h w) {a i : Nat} {v : Int64} : Wc (wJ h a i v) w := C.same rfl rfl
theorem w_addWay_33 {s c t k : Nat} {x4 x8 : Int32} (hc : c < 24) (ht : t < 64) (hk : k ≤ 7) {n : Nat} (hn : n < 172032) (en : hI h w 8 = nI n) (W : Wy h w l fi ra me) (C : Wc h w) : ∀ (f : Nat) (x6 : Int64) (i : Nat), 8 - i < f → i ≤ 8 → Sat (sX10_addWay_33 F f h w (nI c) (nI s) (nI t) x4 (nI k) x6 x8 (nI i)) fun o => Wq w h o := by
  intro f
  induction f with
  | zero => intro x6 i hi; omega
  | succ f ih =>
    intro x6 i hi i8
    rw [sX10_addWay_33]
    apply s_br
    · intro _
      have e64 : nI c * (64 : Int32) + nI t = nI (c * 64 + t) := by rw [show (64 : Int32) = nI 64 from rfl, z_mul, z_add]
      have b64 : c * 64 + t < 1536 := by omega
      rw [e64, W.r1, cl_some, en]
      apply s_gd
      · rw [z_inB (by omega), W.n (k := 2) (by decide)]; exact hn
      · rw [nm_eq, z_clamp (by omega)]
        generalize hu : wI h (w + 2) n _ = u
        have F1 : Fx (WA w) h u := by rw [← hu]; exact (Fx.rf h).wI (by unfold WA; omega) _ _
        have C1 : Wc u w := by rw [← hu]; exact C.other (by omega) (by omega)
        have W1 := W.fx F1
        have en1 : hI u w 8 = nI n := by rw [← hu, r_I, if_neg (by omega)]; exact en
        rw [W1.r2, cl_some, en1]
        apply s_gd
        · rw [z_inB (by omega), W1.n (k := 3) (by decide)]; exact hn
        · rw [nm_eq, z_clamp (by omega), nm_eq]
          have en2 : hI (wJ u (w + 3) n x6) w 8 = nI n := en1
          rw [en2, show (1 : Int32) = nI 1 from rfl, z_add]
          generalize hu2 : wI (wJ u (w + 3) n x6) w 8 (nI (n + 1)) = u2
          have F2 : Fx (WA w) h u2 := by rw [← hu2]; exact (F1.wJ (by unfold WA; omega) _ _).wI (by unfold WA; omega) _ _
          have C2 : Wc u2 w := by rw [← hu2]; exact C1.long.count (by omega)
          have W2 := W.fx F2
          rw [W2.r3, cl_some]
          apply s_gd
          · rw [z_inB (by omega), W2.n (k := 4) (by decide)]; exact b64
          · apply s_gd
            · rw [z_inB (by omega), W2.n (k := 4) (by decide)]; exact b64
            · rw [nm_eq]
              generalize hu3 : wJ u2 (w + 4) _ _ = u3
              have F3 : Fx (WA w) h u3 := by rw [← hu3]; exact F2.wJ (by unfold WA; omega) _ _
              have C3 : Wc u3 w := by rw [← hu3]; exact C2.long
              have W3 := W.fx F3
              apply s_br
              · intro _
                rw [W3.r4, cl_some]
                apply s_gd
                · rw [z_inB (by omega), W3.n (k := 5) (by decide)]; exact b64
                · apply s_gd
                  · rw [z_inB (by omega), W3.n (k := 5) (by decide)]; exact b64
                  · rw [nm_eq]
                    exact s_some ⟨F3.wJ (by unfold WA; omega) _ _, C3.long⟩
              · intro _
                exact s_some ⟨F3, C3⟩
    · intro c1
      rw [z_le (by omega) (by omega)] at c1
      rw [nm_eq, nm_eq, show (1 : Int32) = nI 1 from rfl, z_add]
      exact ih _ (i + 1) (by omega) (by omega)
theorem w_addWay (hF : 2000 ≤ F) {s c t k : Nat} {x4 : Int32} (hc : c < 24) (ht : t < 64) (hk : k ≤ 7) (W : Wy h w l fi ra me) (C : Wc h w) : Sat (sX10_addWay F h w (nI c) (nI s) (nI t) x4 (nI k)) fun o => Wq w h o := by
  unfold sX10_addWay
  obtain ⟨n, en, hn⟩ := C.1
  rw [en, show (172032 : Int32) = nI 172032 from rfl]
  apply s_br
  · intro c1
    rw [z_lt (by omega) (by omega)] at c1
    have k0 := fun x6 x8 => w_addWay_33 (F := F) (s := s) (x4 := x4) (x8 := x8) hc ht hk c1 en W C F x6 1 (by omega) (by omega)
    apply s_br
    · intro _; exact k0 _ _
    · intro c2
      apply s_gd
      · intro e; apply c2; rw [e]; decide
      · exact k0 _ _
  · intro _; exact s_some ⟨Fx.rf h, C⟩
theorem w_layFrom_70 (hF : 2000 ≤ F) {Q : Hp → Prop} {k_30 : Hp → Nat → Int32 → Int32 → Int64 → Int32 → Int32 → Option Hp} {s c t m : Nat} {x3 : Int64} (hc : c < 24) (ht : t < 64) (hm : m < 12) {h0 : Hp}
    (hk : Wk w l fi ra me h0 (fun u => k_30 u w (nI c) (nI s) x3 (nI m) (nI (t + 1))) Q) :
    ∀ (f : Nat) (h : Hp) (i : Nat), 8 - i < f → i ≤ 8 → Wq w h0 h → Wy h w l fi ra me → Sat (sX10_layFrom_70 F k_30 f h w (nI c) (nI s) x3 (nI m) (nI t) (nI i)) Q := by
  intro f
  induction f with
  | zero => intro h i hi; omega
  | succ f ih =>
    intro h i hi i8 q W
    rw [sX10_layFrom_70, W.r7, cl_some, W.lr (k := 3) (by decide), cl_some]
    apply s_gd
    · rw [z_inB (by omega), W.ln (k := 3) (by decide)]; exact hm
    · obtain ⟨cc, ec, c8⟩ := W.sc hm
      rw [z_clamp (by omega), ec]
      apply s_br
      · intro _
        unfold sX10_layFrom_154
        rw [nm_eq, show (1 : Int32) = nI 1 from rfl, z_add]
        exact hk h q W
      · intro c1
        rw [z_le (by omega) (by omega)] at c1
        have e8 : nI t * (8 : Int32) + nI i = nI (t * 8 + i) := by rw [show (8 : Int32) = nI 8 from rfl, z_mul, z_add]
        have b8 : t * 8 + i < 512 := by omega
        rw [e8, W.r6, cl_some]
        apply s_gd
        · rw [z_inB (by omega), W.n (k := 7) (by decide)]; exact b8
        · obtain ⟨v, ev, v7⟩ := q.2.2 (nI (t * 8 + i)).toNatClampNeg (by rw [z_clamp (by omega)]; exact b8)
          rw [nm_eq, ev]
          have go : ∀ u, Wq w h0 u → Wy u w l fi ra me → Sat (sX10_layFrom_148 F k_30 (sX10_layFrom_70 F k_30 f) u w (nI c) (nI s) x3 (nI m) (nI t) (nI i)) Q := fun u qu U => by
            unfold sX10_layFrom_148
            rw [nm_eq, show (1 : Int32) = nI 1 from rfl, z_add]
            exact ih u (i + 1) (by omega) (by omega) qu U
          apply s_br
          · intro _; exact go h q W
          · intro _
            rw [cl_some, W.lr (k := 2) (by decide), cl_some]
            apply s_gd
            · rw [show (8 : Int32) = nI 8 from rfl, z_mul, z_add, z_inB (by omega), W.ln (k := 2) (by decide)]
              show _ < 96
              omega
            · apply s_cl
              refine s_imp (w_addWay hF (s := s) hc ht v7 W q.2) (fun o ho => ?_)
              have Wo := W.fx ho.1
              rw [Wo.r6, cl_some]
              apply s_gd
              · rw [z_inB (by omega), Wo.n (k := 7) (by decide)]; exact b8
              · rw [nm_eq, z_clamp (by omega)]
                have F1 : Fx (WA w) h0 (wI o (w + 7) (t * 8 + i) 0) := (q.1.tr ho.1).wI (by unfold WA; omega) _ _
                have F2 : Fx (WA w) h (wI o (w + 7) (t * 8 + i) 0) := ho.1.wI (by unfold WA; omega) _ _
                exact go _ ⟨F1, ho.2.times (v := 0) (by omega)⟩ (W.fx F2)
theorem w_layFrom_30 (hF : 2000 ≤ F) {s c m : Nat} {x3 : Int64} (hc : c < 24) (hs : s < 64) (hm : m < 12) : ∀ (f : Nat) (h : Hp) (t : Nat), 64 - t < f → t ≤ 64 → Wy h w l fi ra me → Wc h w → Sat (sX10_layFrom_30 F f h w (nI c) (nI s) x3 (nI m) (nI t)) fun o => Wq w h o := by
  intro f
  induction f with
  | zero => intro h t ht; omega
  | succ f ih =>
    intro h t ht t64 W C
    rw [sX10_layFrom_30]
    apply s_br
    · intro _; exact s_some ⟨Fx.rf h, C⟩
    · intro c1
      rw [show (64 : Int32) = nI 64 from rfl, z_le (by omega) (by omega)] at c1
      have ecell : sX10_cell h (nI c) (nI s) (nI t) = some (nI ((c * 64 + s) * 64 + t), h) := by
        unfold sX10_cell
        rw [show (64 : Int32) = nI 64 from rfl, z_mul, z_add, z_mul, z_add]
      rw [W.r0, cl_some, ecell, cl_some]
      apply s_gd
      · show inB (nI ((c * 64 + s) * 64 + t)) (hN h (w + 1))
        rw [z_inB (by omega), W.n (k := 1) (by decide)]
        show _ < 98305
        omega
      · rw [nm_eq]
        generalize hu : wI h (w + 1) _ _ = u
        have F1 : Fx (WA w) h u := by rw [← hu]; exact (Fx.rf h).wI (by unfold WA; omega) _ _
        have C1 : Wc u w := by rw [← hu]; exact C.other (by omega) (by omega)
        have W1 := W.fx F1
        have hk : Wk w l fi ra me u (fun v => sX10_layFrom_30 F f v w (nI c) (nI s) x3 (nI m) (nI (t + 1))) (fun o => Wq w h o) := fun v q V =>
          s_imp (ih v (t + 1) (by omega) (by omega) V q.2) (fun o ho => ⟨(F1.tr q.1).tr ho.1, ho.2⟩)
        apply s_br
        · intro _
          unfold sX10_layFrom_154
          rw [nm_eq, show (1 : Int32) = nI 1 from rfl, z_add]
          exact hk u ⟨Fx.rf u, C1⟩ W1
        · intro _
          exact w_layFrom_70 hF hc (by omega) hm hk F u 0 (by omega) (by omega) ⟨Fx.rf u, C1⟩ W1
theorem w_layFrom (hF : 2000 ≤ F) {s c : Nat} (hc : c < 24) (hs : s < 64) (W : Wy h w l fi ra me) (C : Wc h w) : Sat (sX10_layFrom F h w (nI c) (nI s)) fun o => Wq w h o := by
  unfold sX10_layFrom sX10_layFrom_21
  rw [W.r7, cl_some]
  apply s_br
  · intro _
    rw [nm_eq, z_half hc]
    exact w_layFrom_30 hF hc hs (by omega) F h 0 (by omega) (by omega) W C
  · intro _
    apply s_cl
    refine s_imp (w_reach hF hs hc W C) (fun o ho => ?_)
    rw [nm_eq, z_half hc]
    exact s_imp (w_layFrom_30 hF hc hs (by omega) F o.2 0 (by omega) (by omega) (W.fx ho.1) ho.2) (fun u hu => ⟨ho.1.tr hu.1, hu.2⟩)
end

section
variable {h : Hp} {w l fi ra me F : Nat}
theorem w_layAround_18 (hF : 2000 ≤ F) {Q : Hp → Prop} {k_2 : Hp → Nat → Int32 → Option Hp} {s : Nat} (hs : s < 64) (W : Wy h w l fi ra me) (C : Wc h w)
    (hk : Wk w l fi ra me h (fun u => k_2 u w (nI (s + 1))) Q) : ∀ (f : Nat) (x2 : Int64) (i : Nat), 9 - i < f → i ≤ 9 → Sat (sX10_layAround_18 F k_2 f h w (nI s) x2 (nI i)) Q := by
  intro f
  induction f with
  | zero => intro x2 i hi; omega
  | succ f ih =>
    intro x2 i hi i9
    rw [sX10_layAround_18]
    apply s_br
    · intro _
      rw [W.r5, cl_some]
      apply s_gd
      · rw [z_inB (by omega), W.n (k := 6) (by decide)]; exact hs
      · rw [nm_eq, nm_eq, show (1 : Int32) = nI 1 from rfl, z_add]
        have F1 : Fx (WA w) h (wJ h (w + 6) (nI s).toNatClampNeg x2) := (Fx.rf h).wJ (by unfold WA; omega) _ _
        exact hk _ ⟨F1, C.long⟩ (W.fx F1)
    · intro c1
      rw [show (9 : Int32) = nI 9 from rfl, z_le (by omega) (by omega)] at c1
      have go : ∀ x2, Sat (sX10_layAround_96 F k_2 (sX10_layAround_18 F k_2 f) h w (nI s) x2 (nI i)) Q := fun x2 => by
        unfold sX10_layAround_96
        rw [nm_eq, show (1 : Int32) = nI 1 from rfl, z_add]
        exact ih x2 (i + 1) (by omega) (by omega)
      rw [W.r7, cl_some, W.lr (k := 6) (by decide), cl_some]
      apply s_gd
      · rw [z_inB (by omega), W.ln (k := 6) (by decide)]; exact hs
      · rw [nm_eq, cl_some, W.lr (k := 7) (by decide), cl_some]
        apply s_gd
        · rw [z_inB (by omega), W.ln (k := 7) (by decide)]; exact hs
        · rw [nm_eq]
          apply s_br
          · intro _; exact go _
          · intro _
            rcases w_isOn W (hI h (l + 6) (nI s).toNatClampNeg + (nI i - nI i / 3 * 3) - 1) (hI h (l + 7) (nI s).toNatClampNeg + nI i / 3 - 1) with ⟨e, _⟩ | e
            · rw [e, cl_some, br_neg (show ¬ ((1 : Int32) = 0) by decide)]
              show Sat (cl (hR h w 7) _) Q
              rw [W.r7, cl_some, nm_eq]
              exact go _
            · rw [e, cl_some, br_pos rfl]
              exact go _
theorem w_layAround (hF : 2000 ≤ F) : ∀ (f : Nat) (h : Hp) (s : Nat), 64 - s < f → s ≤ fi * ra → Wy h w l fi ra me → Wc h w → Sat (sX10_layAround_2 F f h w (nI s)) fun o => Wq w h o := by
  intro f
  induction f with
  | zero => intro h s hs; omega
  | succ f ih =>
    intro h s hs s2 W C
    have s6 := W.sq64
    rw [sX10_layAround_2, W.r7, cl_some, W.squares]
    apply s_br
    · intro _; exact s_some ⟨Fx.rf h, C⟩
    · intro c1
      rw [z_le (by omega) (by omega)] at c1
      have hk : Wk w l fi ra me h (fun u => sX10_layAround_2 F f u w (nI (s + 1))) (fun o => Wq w h o) := fun u q U =>
        s_imp (ih u (s + 1) (by omega) (by omega) U q.2) (fun o ho => ⟨q.1.tr ho.1, ho.2⟩)
      exact w_layAround_18 hF (by omega) W C hk F 0 0 (by omega) (by omega)
theorem w_lay_43 (hF : 2000 ≤ F) {Q : Hp → Prop} {k_28 : Hp → Nat → Int32 → Option Hp} {c : Nat} (hc : c < 24) {h0 : Hp} (hk : Wk w l fi ra me h0 (fun u => k_28 u w (nI (c + 1))) Q) : ∀ (f : Nat) (h : Hp) (s : Nat), 64 - s < f → s ≤ 64 → Wq w h0 h → Wy h w l fi ra me → Sat (sX10_lay_43 F k_28 f h w (nI c) (nI s)) Q := by
  intro f
  induction f with
  | zero => intro h s hs; omega
  | succ f ih =>
    intro h s hs s64 q W
    rw [sX10_lay_43]
    apply s_br
    · intro _
      rw [nm_eq, show (1 : Int32) = nI 1 from rfl, z_add]
      exact hk h q W
    · intro c1
      rw [show (64 : Int32) = nI 64 from rfl, z_le (by omega) (by omega)] at c1
      apply s_cl
      refine s_imp (w_layFrom hF hc (by omega) W q.2) (fun o ho => ?_)
      rw [nm_eq, show (1 : Int32) = nI 1 from rfl, z_add]
      exact ih o (s + 1) (by omega) (by omega) ⟨q.1.tr ho.1, ho.2⟩ (W.fx ho.1)
theorem w_lay_28 (hF : 2000 ≤ F) : ∀ (f : Nat) (h : Hp) (c : Nat), 24 - c < f → c ≤ 2 * me → Wy h w l fi ra me → Wc h w → Sat (sX10_lay_28 F f h w (nI c)) fun o => Wq w h o := by
  intro f
  induction f with
  | zero => intro h c hc; omega
  | succ f ih =>
    intro h c hc c2 W C
    have m12 := W.me12
    rw [sX10_lay_28, W.r7, cl_some, W.men, show (2 : Int32) = nI 2 from rfl, z_mul]
    apply s_br
    · intro _
      rw [W.r0, cl_some, cl_some, W.men, z_mul, show (64 : Int32) = nI 64 from rfl, z_mul, z_mul]
      apply s_gd
      · rw [z_inB (by omega), W.n (k := 1) (by decide)]
        show _ < 98305
        omega
      · rw [nm_eq]
        generalize hu : wI h (w + 1) _ _ = u
        have F1 : Fx (WA w) h u := by rw [← hu]; exact (Fx.rf h).wI (by unfold WA; omega) _ _
        have C1 : Wc u w := by rw [← hu]; exact C.other (by omega) (by omega)
        apply s_cl
        unfold sX10_layAround
        refine s_imp (w_layAround hF F u 0 (by omega) (by omega) (W.fx F1) C1) (fun o ho => ?_)
        exact s_some ⟨F1.tr ho.1, ho.2⟩
    · intro c1
      rw [z_le (by omega) (by omega)] at c1
      have hk : Wk w l fi ra me h (fun u => sX10_lay_28 F f u w (nI (c + 1))) (fun o => Wq w h o) := fun u q U =>
        s_imp (ih u (c + 1) (by omega) (by omega) U q.2) (fun o ho => ⟨q.1.tr ho.1, ho.2⟩)
      exact w_lay_43 hF (by omega) hk F h 0 (by omega) (by omega) ⟨Fx.rf h, C⟩ W
theorem w_fillJ {A : Nat → Prop} {a n : Nat} {v : Int64} (ha : A a) (hn : n ≤ 100000) : ∀ (f : Nat) (h : Hp) (i : Nat), n - i < f → i ≤ n → hN h a = n → Sat (sJ7_fill_d0a16_6 F f h a v (nI i) (nI n)) fun o => Fx A h o ∧ hI o = hI h := by
  intro f
  induction f with
  | zero => intro h i hi; omega
  | succ f ih =>
    intro h i hi i2 e
    rw [sJ7_fill_d0a16_6]
    apply s_br
    · intro _; exact s_some ⟨Fx.rf h, rfl⟩
    · intro c1
      rw [z_le (by omega) (by omega)] at c1
      apply s_gd
      · rw [z_inB (by omega), e]; omega
      · rw [nm_eq, nm_eq, show (1 : Int32) = nI 1 from rfl, z_add]
        have F1 : Fx A h (wJ h a (nI i).toNatClampNeg v) := (Fx.rf h).wJ ha _ _
        exact s_imp (ih _ (i + 1) (by omega) (by omega) e) (fun o ho => ⟨F1.tr ho.1, ho.2⟩)
theorem w_lay (hF : 2000 ≤ F) (W : Wy (wR h w 7 (some l)) w l fi ra me) (C : ∀ j, j < 512 → ∃ v, hI h (w + 7) j = nI v ∧ v ≤ 7) : Sat (sX10_lay F h w l) fun o => Wq w (wR h w 7 (some l)) o := by
  unfold sX10_lay
  rw [nm_eq, nm_eq]
  generalize hu : wI (wR h w 7 (some l)) w 8 0 = u
  have F1 : Fx (WA w) (wR h w 7 (some l)) u := by rw [← hu]; exact (Fx.rf _).wI (by unfold WA; omega) _ _
  have W1 := W.fx F1
  have C1 : Wc u w := by
    rw [← hu]
    refine ⟨⟨0, ?_, by omega⟩, fun j hj => ?_⟩
    · rw [r_I, if_pos ⟨rfl, rfl⟩]; rfl
    · rw [r_I, if_neg (by omega)]; exact C j hj
  rw [W1.r3, cl_some]
  apply s_cl
  unfold sJ7_fill_d0a16
  rw [nm_eq, W1.n (k := 4) (by decide)]
  refine s_imp (w_fillJ (A := WA w) (a := w + 4) (n := 1536) (by unfold WA; omega) (by omega) F u 0 (by omega) (by omega) (W1.n (k := 4) (by decide))) (fun o ho => ?_)
  have W2 := W1.fx ho.1
  rw [W2.r4, cl_some]
  apply s_cl
  rw [nm_eq, W2.n (k := 5) (by decide)]
  refine s_imp (w_fillJ (A := WA w) (a := w + 5) (n := 1536) (by unfold WA; omega) (by omega) F o 0 (by omega) (by omega) (W2.n (k := 5) (by decide))) (fun o2 ho2 => ?_)
  have W3 := W2.fx ho2.1
  have C3 : Wc o2 w := C1.same (by rw [ho2.2, ho.2]) (by rw [ho2.2, ho.2])
  exact s_imp (w_lay_28 hF F o2 0 (by omega) (by omega) W3 C3) (fun p hp => ⟨((F1.tr ho.1).tr ho2.1).tr hp.1, hp.2⟩)
end
