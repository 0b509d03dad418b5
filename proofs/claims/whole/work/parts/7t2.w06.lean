section
/-! HEAR: the class -/
section
variable {n F : Nat} {h : Hp} {σ : Sy} {o : Int32 × Hp} {x1 : Int32} {tp : List Int}
theorem her_0 (e : sPl σ x1 = none) : anHer σ x1 tp = -102 := by
  unfold anHer
  rw [e]
theorem her_s {P : Pz} {x : Int} (e : sPl σ x1 = some P) (a : HrS (syL σ) P tp x) : anHer σ x1 tp = x := by
  unfold anHer
  rw [e]
  exact hrv_e a
/-- what hear of the class writes -/
def WHr (n a i : Nat) : Prop := CSc n a i ∨ (a = n + 1 ∧ i = 1)
theorem caz_h {a : Int} (k : DyK n h h) (Ok : SyOk σ) (R : RelC n h σ) (F : FrW (WHr n) h o.2) (k' : DyK n h o.2) (ea : o.1.toInt = a) : CaZ n h σ (TwC n) o a := ⟨ea, relc_f k k' F (fun j i hj c => by unfold cFt at hj; unfold WHr CSc at c; omega) (fun q a hq e lo hi j f hj c => by unfold WHr CSc at c; omega) (lgle Ok) R, k', fw_s F (fun a i c => by
  rcases c with c | c
  · exact Or.inl (Or.inl (cs_c c))
  · exact Or.inr (Or.inl c.1))⟩
theorem hr_105 {x2 : Int32} {a : Int} {u : Hp} (k : DyK n h h) (Ok : SyOk σ) (R : RelC n h σ) (ku : DyK n h u) (Fu : FrW (CSc n) h u) (ea : x2.toInt = a) (e : sX11_hear_105 F u n x2 = some o) : CaZ n h σ (TwC n) o a := by
  unfold sX11_hear_105 sX9_clear at e
  replace e := ce_e (dk_e (a := 0) (f := 0) (b := 1) ku (by decide +kernel)) e
  obtain ⟨h2, e2, e⟩ := cl_s e
  have y2 := so_e (nx_e e2)
  have k2 : DyK n h h2 := by rw [y2]; exact dk_wI ku
  have f2 : FrW (WHr n) h h2 := by rw [y2]; exact fw_wI (fw_s Fu (fun _ _ c => Or.inl c)) (Or.inr ⟨rfl, rfl⟩)
  rw [so_e e]
  exact caz_h (o := (x2, h2)) k Ok R f2 k2 ea
theorem ca_hear (k : DyK n h h) (Ok : SyOk σ) (R : RelC n h σ) (Tp : TpC n h tp) (t12 : tp.length ≤ 1200) (tb : ∀ (i : Nat) (x : Int), tp[i]? = some x → 0 ≤ x) (e : sX11_hear F h n x1 = some o) : CaZ n h σ (TwC n) o (anHer σ x1 tp) := by
  have zm : (-1 : Int32).toInt = -1 := rfl
  have z1 : (1 : Int32).toInt = 1 := rfl
  have s6 := dk_610 k
  unfold sX11_hear sX8_find sX11_hear_94 sX11_hear_104 at e
  obtain ⟨o1, e1, e⟩ := cl_s e
  obtain ⟨q1, c1⟩ := isp_c k R.2.1 e1
  rw [q1] at e
  rcases c1 with ⟨d1, d2⟩ | ⟨d1, P0, d2⟩
  · rw [her_0 d2]
    exact hr_105 k Ok R k fw_0 rfl (bp_e d1 e)
  replace e := bn_e d1 e
  replace e := ce_e (dk_e (a := 0) (f := 8) (b := 39) k (by decide +kernel)) e
  replace e := ce_e (dk_e (a := 0) (f := 12) (b := 147) k (by decide +kernel)) e
  obtain ⟨o5, e5, e⟩ := cl_s e
  rcases lm_c' k Ok R e5 with ⟨z, _⟩ | ⟨P, z, f, k5, m, y⟩
  · rw [d2] at z
    exact nomatch z
  have s5 := dk_610 k5
  have R5 := relc_cs k Ok R f k5
  have Oz := spl_ok Ok z
  have H := Ok.1.1
  have K := Ok.1.2.1
  have LD : LtD (syL σ) := Ok.2.2.2.2.1
  have Gs : ∀ (i : Nat) (w : MvT), (lgL (syL σ) P)[i]? = some w → MvGd (syL σ) P w := fun i w ew => lg_gd H K Oz ew
  obtain ⟨_, _, b3, _⟩ := spl_b z
  have lm : (lgL (syL σ) P).length ≤ 4096 := by
    have := lgl_le H K Oz
    omega
  have Tp5 : TpC n o5.2 tp := ⟨by rw [(f.2 (n + 1) 1 (by omega) (fun c => by unfold CSc at c; omega)).1]; exact Tp.1, fun i hi => by rw [(f.2 (n + 2) i (by omega) (fun c => by unfold CSc at c; omega)).1]; exact Tp.2 i hi⟩
  replace e := ce_e (dk_e (a := 0) (f := 0) (b := 1) k5 (by decide +kernel)) e
  obtain ⟨o7, e7, e⟩ := cl_s e
  obtain ⟨f7, k7', C7, M7, r7⟩ := fi_x (P := P) H Ok.1.2.2.1 Gs lm (dk_self k5) Tp5 t12 y F (i := 0) (dk_self k5) R5.1 m fw_0 rfl (Nat.zero_le _) (fun j u hj _ => absurd hj (Nat.not_lt_zero _)) e7
  have k7 : DyK n h o7.2 := dk_t k5 k7'
  have F7 : FrW (CSc n) h o7.2 := fw_t f (fw_s f7 (fun a i c => by unfold WTx at c; unfold CSc; omega))
  rcases r7 with ⟨r1, r2⟩ | ⟨i, v, r1, ev, q, r3, r4⟩
  · replace e := bp_e r1 e
    exact hr_105 k Ok R k7 F7 (by rw [r1, her_s z (cls_n r2)]; rfl) e
  replace e := bn_e (fun w => by rw [w, zm] at r1; omega) e
  have im : i < (lgL (syL σ) P).length := (List.getElem?_eq_some_iff.mp ev).1
  have Tp7 : TpC n o7.2 tp := ⟨by rw [(F7.2 (n + 1) 1 (by omega) (fun c => by unfold CSc at c; omega)).1]; exact Tp.1, fun i hi => by rw [(F7.2 (n + 2) i (by omega) (fun c => by unfold CSc at c; omega)).1]; exact Tp.2 i hi⟩
  have t1 := Tp7.1
  have s7 := dk_610 k7
  replace e := ce_e (dk_e (a := 0) (f := 8) (b := 39) k7 (by decide +kernel)) e
  replace e := ce_e (dk_e (a := 0) (f := 0) (b := 1) k7 (by decide +kernel)) e
  obtain ⟨o11, e11, e⟩ := cl_s e
  have w11 : o11.2 = o7.2 ∧ ((o11.1 = 0 ∧ ¬ tp.length = (bmT (syL σ) (lgL (syL σ) P) v).length) ∨ (¬ o11.1 = 0 ∧ tp.length = (bmT (syL σ) (lgL (syL σ) P) v).length)) := by
    unfold sX8_isWhole sX8_isWhole_19 at e11
    replace e11 := ce_e (dk_e (a := 39) (f := 3) (b := 46) k7 (by decide +kernel)) e11
    rcases br_s e11 with ⟨c, e11⟩ | ⟨c, e11⟩
    · rw [so_e (gg_e e11)]
      have : (hI o7.2 (n + 1) 1).toInt = (hI o7.2 (n + 46) 1).toInt := congrArg Int32.toInt c
      exact ⟨rfl, Or.inr ⟨(show ¬ (1 : Int32) = 0 by decide), by omega⟩⟩
    · rw [so_e (gg_e e11)]
      exact ⟨rfl, Or.inl ⟨rfl, fun w => c (Int32.toInt_inj.mp (by rw [t1, r3, w]))⟩⟩
  rw [w11.1] at e
  rcases w11.2 with ⟨g1, g2⟩ | ⟨g1, g2⟩
  rotate_left
  · replace e := bn_e g1 e
    exact hr_105 k Ok R k7 F7 (by rw [r1, her_s z (cls_w ev q g2 r4)]) e
  replace e := bp_e g1 e
  have tl : tp.length = (bmT (syL σ) (lgL (syL σ) P) v).length + 1 := by
    rcases q.1 with w | w
    · exact absurd w g2
    · exact w
  replace e := ce_e (dk_e (a := 0) (f := 0) (b := 1) k7 (by decide +kernel)) e
  replace e := ce_e (dk_e (a := 0) (f := 0) (b := 1) k7 (by decide +kernel)) e
  obtain ⟨o15, e15, e⟩ := cl_s e
  obtain ⟨p15, q15⟩ := byt_x (T := 1) (l := tp) (i := (bmT (syL σ) (lgL (syL σ) P) v).length) (dk_e (a := 1) (f := 0) (b := 2) k7 (by decide +kernel)) Tp7.1 Tp7.2 (by
    show (hI o7.2 (n + 1) 1 - (1 : Int32)).toInt = _
    rw [ts (by rw [t1, z1]; omega), t1, z1]; omega) (by omega) e15
  rw [p15] at e
  replace e := ce_e (dk_e (a := 0) (f := 8) (b := 39) k7 (by decide +kernel)) e
  replace e := ce_e (dk_e (a := 0) (f := 13) (b := 148) k7 (by decide +kernel)) e
  replace e := gg_e e
  obtain ⟨r19, e19, e⟩ := cl_s e
  have y19 := pl_at k7 b3 e19
  subst y19
  replace e := ce_e (dk_e (a := 0) (f := 12) (b := 147) k7 (by decide +kernel)) e
  replace e := gg_e e
  obtain ⟨o22, e22, e⟩ := cl_s e
  have n7 : o7.1.toNatClampNeg = i := by have := nc_i (x := o7.1) (by omega); omega
  obtain ⟨v', ev', mv7⟩ := M7 i im
  rw [ev] at ev'
  rw [← Option.some.inj ev'] at mv7
  have A7 : CpA o7.2 (n + (153 + 6 * x1.toNatClampNeg)) (syL σ 10 0) P := cpa_f (cpl_p R.2.1 z) (fun p hp => pl_e k7 b3 hp) (fun j i hj => F7.2 _ _ (by omega) (fun c => by unfold CSc at c; omega))
  rw [n7] at e22
  obtain ⟨f22, k22', r22⟩ := mark_k (dk_self k7) H K Ok.1.2.2.2.1 Oz b3 C7 A7 (Gs i v ev) mv7 e22
  have k22 : DyK n h o22.2 := dk_t k7 k22'
  have F22 : FrW (CSc n) h o22.2 := fw_t F7 (fw_s f22 (fun a i c => by unfold WMk at c; unfold CSc; omega))
  have x0 := tb _ _ q15
  rcases br_s e with ⟨c3, e⟩ | ⟨c3, e⟩
  · replace e := bn_e (show ¬ (1 : Int32) = 0 by decide) e
    refine hr_105 k Ok R k22 F22 ?_ e
    rw [r1, her_s z (cls_y ev q tl q15 (by rw [c3, r22]) x0 r4)]
  · replace e := bp_e rfl e
    refine hr_105 k Ok R k22 F22 ?_ e
    rw [her_s z (cls_x H K Ok.1.2.2.1 LD Oz ev q tl q15 (fun w => c3 (Int32.toInt_inj.mp (by rw [r22]; exact w))) r4)]
    rfl
end
end
section
/-! HEAR: the reference -/
def WHl (n a i : Nat) : Prop := WRt n a i ∨ WOr n a i
section
variable {n j F : Nat} {g h : Hp} {L : Nat → Nat → Int} {P : Pz} {tp : List Int} {o : Int32 × Hp} {x1 x2 x3 x5 : Int32}
/-- bytes of a text and its mark -/
theorem tx_b {ms : List MvT} {v : MvT} (H : LOk L) (T : LtO L) (G : MvGd L P v) : ∀ x, x ∈ bmT L ms v ++ mkT (mkV L P v) → 0 ≤ x ∧ x ≤ 127 := fun x hx => by
  rcases List.mem_append.mp hx with c | c
  · have := bm_m H T G c
    unfold CaL FiL Dig at this
    omega
  · unfold mkT at c
    split at c
    · exact nomatch c
    · have := mkv_b (L := L) (P := P) (v := v)
      rw [List.mem_singleton.mp c]
      omega
theorem hr_104 {K : Hp → Nat → Int32 → Int32 → Int32 → Int32 → Int32 → Option (Int32 × Hp)} {l : List Int} (k : DyK n g h) (out : ∀ i, i < l.length → l[i]? = some (hI h (n + 515) i).toInt) (tpe : ∀ (i : Nat) (x : Int), tp[i]? = some x → (hI h (n + 514) i).toInt = sg x ∧ 0 ≤ x ∧ x ≤ 255) (lb : ∀ x, x ∈ l → 0 ≤ x ∧ x ≤ 127) (e2 : x2.toInt = (tp.length : Int)) (tl : tp.length ≤ l.length) (t12 : tp.length ≤ 1200) : ∀ (f : Nat) {x6 x7 : Int32} {q : Nat}, x7.toInt = (q : Int) → q ≤ tp.length → ((x6 = 0 ∧ ¬ ∀ i, i < tp.length → tp[i]? = l[i]?) ∨ (x6 = 1 ∧ ∀ i, i < q → tp[i]? = l[i]?)) → sX15_hear_104 F K f h (n + 513) x1 x2 x3 x5 x6 x7 = some o → ∃ y6 : Int32, ((y6 = 0 ∧ ¬ ∀ i, i < tp.length → tp[i]? = l[i]?) ∨ (y6 = 1 ∧ ∀ i, i < tp.length → tp[i]? = l[i]?)) ∧ sX15_hear_145 F K h (n + 513) x1 x2 x3 x5 y6 = some o := by
  have z1 : (1 : Int32).toInt = 1 := rfl
  intro f
  induction f with
  | zero => intro x6 x7 q _ _ _ e; exact absurd e (by rw [sX15_hear_104]; exact fun z => nomatch z)
  | succ f ih =>
    intro x6 x7 q e7 qt fl e
    rw [sX15_hear_104] at e
    rcases br_s e with ⟨c, e⟩ | ⟨c, e⟩
    · have c := le_i c
      refine ⟨x6, ?_, e⟩
      rcases fl with z | ⟨z1, z2⟩
      · exact Or.inl z
      · exact Or.inr ⟨z1, fun i hi => z2 i (by omega)⟩
    have c := nle_i c
    rcases br_s e with ⟨c1, e⟩ | ⟨c1, e⟩
    · refine ⟨x6, ?_, e⟩
      rcases fl with z | ⟨z1, z2⟩
      · exact Or.inl z
      · rw [c1] at z1; exact absurd z1 (by decide)
    have fl : ∀ i, i < q → tp[i]? = l[i]? := by
      rcases fl with z | ⟨_, z⟩
      · exact absurd z.1 c1
      · exact z
    have hq : q < tp.length := by omega
    have n7 : x7.toNatClampNeg = q := by have := nc_i (x := x7) (by omega); omega
    replace e := ce_e (dk_e (a := 513) (f := 0) (b := 514) k (by decide +kernel)) e
    replace e := gg_e e
    replace e := ce_e (dk_e (a := 513) (f := 2) (b := 515) k (by decide +kernel)) e
    replace e := gg_e e
    obtain ⟨x, ex⟩ : ∃ x, tp[q]? = some x := ⟨_, List.getElem?_eq_getElem hq⟩
    obtain ⟨t1, t2, t3⟩ := tpe q x ex
    have ly := out q (by omega)
    have lr := lb _ (List.mem_of_getElem? ly)
    unfold sX15_hear_137 at e
    rcases br_s e with ⟨c2, e⟩ | ⟨c2, e⟩ <;> rw [n7] at c2 <;> obtain ⟨v1, w1, e⟩ := nm_s e <;> have e1 : v1.toInt = ((q + 1 : Nat) : Int) := by rw [w1, ta (by rw [z1]; omega), z1]; omega
    · refine ih e1 (by omega) (Or.inr ⟨rfl, fun i hi => ?_⟩) e
      by_cases y : i = q
      · rw [y, ex, ly]
        have : (hI h (n + 514) q).toInt = (hI h (n + 515) q).toInt := congrArg Int32.toInt c2
        rw [t1] at this
        unfold sg at this
        split at this
        · rw [this]
        · omega
      · exact fl i (by omega)
    · refine ih e1 (by omega) (Or.inl ⟨rfl, fun z => c2 (Int32.toInt_inj.mp ?_)⟩) e
      have := z q hq
      rw [ex, ly] at this
      have xy := Option.some.inj this
      show (hI h (n + 514) q).toInt = (hI h (n + 515) q).toInt
      rw [t1, ← xy]
      unfold sg
      rw [if_pos (by omega)]
theorem hr_48 {p b : Nat} (OK : LwOk L) (Oz : PzOk L P) (hp : p < 60) (n1 : x1.toNatClampNeg = p) (kg : DyK n g g) (eb : hR g (n + 536) p = some b) (A : RbA g b P) (Rl : RLw n g L) (M : RlA g (n + 552) (lgL L P)) (lm : (lgL L P).length ≤ 4096) (Gs : ∀ (i : Nat) (w : MvT), (lgL L P)[i]? = some w → MvGd L P w) (tpe : ∀ (i : Nat) (x : Int), tp[i]? = some x → (hI g (n + 514) i).toInt = sg x ∧ 0 ≤ x ∧ x ≤ 255) (e2 : x2.toInt = (tp.length : Int)) (t12 : tp.length ≤ 1200) : ∀ (f : Nat) {h : Hp} {x4 x5 : Int32} {i : Nat}, DyK n g h → FrW (WHl n) g h → x5.toInt = (i : Int) → i ≤ (lgL L P).length → ((x4 = (-1 : Int32) ∧ ∀ (j : Nat) (u : MvT), j < i → (lgL L P)[j]? = some u → ¬ HtP L P tp u) ∨ ∃ (q : Nat) (v : MvT), x4.toInt = (q : Int) ∧ (lgL L P)[q]? = some v ∧ HtP L P tp v ∧ ∀ (j : Nat) (u : MvT), j < q → (lgL L P)[j]? = some u → ¬ HtP L P tp u) → sX15_hear_48 F f h (n + 513) x1 x2 x3 x4 x5 = some o → ∃ (h' : Hp) (y4 : Int32), DyK n g h' ∧ FrW (WHl n) g h' ∧ HrS L P tp y4.toInt ∧ sX15_hear_164 F h' (n + 513) x3 y4 = some o := by
  have z1 : (1 : Int32).toInt = 1 := rfl
  have zm : (-1 : Int32).toInt = -1 := rfl
  have s0 := dk_610 kg
  intro f
  induction f with
  | zero => intro h x4 x5 i _ _ _ _ _ e; exact absurd e (by rw [sX15_hear_48]; exact fun z => nomatch z)
  | succ f ih =>
    intro h x4 x5 i k Fr e5 im st e
    rw [sX15_hear_48] at e
    have s6 := dk_610 k
    have Mh : RlA h (n + 552) (lgL L P) := rla_f M (fun j i hj => (Fr.2 _ _ (by omega) (fun c => by unfold WHl WRt WOr at c; omega)).1)
    have m0 : (hI h (n + 552) 0).toInt = ((lgL L P).length : Int) := Mh.1
    replace e := ce_e (dk_e (a := 513) (f := 30) (b := 552) k (by decide +kernel)) e
    rcases br_s e with ⟨c, e⟩ | ⟨c, e⟩
    · have c := le_i c
      refine ⟨h, x4, k, Fr, ?_, e⟩
      rcases st with ⟨a1, a2⟩ | ⟨q, v, a1, a2⟩
      · exact Or.inl ⟨by rw [a1]; rfl, fun j u eu => a2 j u (by have := (List.getElem?_eq_some_iff.mp eu).1; omega) eu⟩
      · exact Or.inr ⟨q, v, a1, a2⟩
    have c := nle_i c
    rcases br_s e with ⟨c1, e⟩ | ⟨c1, e⟩
    rotate_left
    · refine ⟨h, x4, k, Fr, ?_, e⟩
      rcases st with ⟨a1, a2⟩ | ⟨q, v, a1, a2⟩
      · exact absurd a1 c1
      · exact Or.inr ⟨q, v, a1, a2⟩
    have st : ∀ (j : Nat) (u : MvT), j < i → (lgL L P)[j]? = some u → ¬ HtP L P tp u := by
      rcases st with ⟨_, a2⟩ | ⟨q, v, a1, _⟩
      · exact a2
      · rw [c1, zm] at a1; omega
    obtain ⟨v, ev⟩ : ∃ v, (lgL L P)[i]? = some v := ⟨_, List.getElem?_eq_getElem (by omega)⟩
    obtain ⟨blo, bhi⟩ := dy_lo kg (q := (536, 60, 5, 4000, fsB)) (by decide) hp eb
    have bhi : b + 5 ≤ hS g := bhi
    have ebu := ks_r k (q := (536, 60, 5, 4000, fsB)) (by decide) eb
    have Ah : RbA h b P := by
      obtain ⟨own, Dw⟩ := k.1.1
      exact rba_f A (bk_dy Dw (q := (536, 60, 5, 4000, fsB)) (by decide) hp ebu).2.2 (fun j i hj => Fr.2 _ _ (by omega) (fun c => by unfold WHl WRt WOr at c; omega))
    have Rlh : RLw n h L := rlw_k kg k Fr (fun j i hj c => by unfold WHl WRt WOr at c; omega) Rl
    replace e := ce_e (dk_e (a := 513) (f := 14) (b := 536) k (by decide +kernel)) e
    replace e := gg_e e
    replace e := ce_e (by rw [n1]; exact ebu) e
    obtain ⟨o7, e7, e⟩ := cl_s e
    obtain ⟨S7, F7, k7', b7⟩ := sm_x OK Oz hp ebu Ah k Rlh Mh lm Gs ev e5 e7
    have k7 := S7.1
    have F7 : FrW (WHl n) g o7 := fw_t Fr F7
    have tp7 : ∀ (i : Nat) (x : Int), tp[i]? = some x → (hI o7 (n + 514) i).toInt = sg x ∧ 0 ≤ x ∧ x ≤ 255 := fun i x ex => by
      rw [(F7.2 (n + 514) i (by omega) (fun c => by unfold WHl WRt WOr at c; omega)).1]
      exact tpe i x ex
    have l7 : (hI o7 (n + 513) 3).toInt = ((bmT L (lgL L P) v ++ mkT (mkV L P v)).length : Int) := S7.2.2.2.1
    have lb := tx_b (ms := lgL L P) OK.1 OK.2.2.1 (Gs i v ev)
    have la : (bmT L (lgL L P) v ++ mkT (mkV L P v)).length = (bmT L (lgL L P) v).length + (mkT (mkV L P v)).length := List.length_append
    have fin : ∀ {y6 : Int32}, ((y6 = 0 ∧ ¬ HtP L P tp v) ∨ (y6 = 1 ∧ HtP L P tp v)) → sX15_hear_145 F (sX15_hear_48 F f) o7 (n + 513) x1 x2 x3 x5 y6 = some o → ∃ (h' : Hp) (y4 : Int32), DyK n g h' ∧ FrW (WHl n) g h' ∧ HrS L P tp y4.toInt ∧ sX15_hear_164 F h' (n + 513) x3 y4 = some o := fun {y6} t e => by
      unfold sX15_hear_145 sX15_hear_156 at e
      rcases br_s e with ⟨d, e⟩ | ⟨d, e⟩ <;> obtain ⟨v1, w1, e⟩ := nm_s e <;> have e1 : v1.toInt = ((i + 1 : Nat) : Int) := by rw [w1, ta (by rw [z1]; omega), z1]; omega
      · have nt : ¬ HtP L P tp v := by
          rcases t with t | t
          · exact t.2
          · rw [d] at t; exact absurd t.1 (by decide)
        exact ih k7 F7 e1 (by omega) (Or.inl ⟨rfl, fun j u hj eu => by
          by_cases y : j = i
          · rw [y, ev] at eu
            rw [← Option.some.inj eu]
            exact nt
          · exact st j u (by omega) eu⟩) e
      · have yt : HtP L P tp v := by
          rcases t with t | t
          · exact absurd t.1 d
          · exact t.2
        exact ih k7 F7 e1 (by omega) (Or.inr ⟨i, v, e5, ev, yt, st⟩) e
    have cmp : tp.length = (bmT L (lgL L P) v ++ mkT (mkV L P v)).length ∨ tp.length = (bmT L (lgL L P) v).length → sX15_hear_94 F (sX15_hear_48 F f) o7 (n + 513) x1 x2 x3 x5 = some o → ∃ (h' : Hp) (y4 : Int32), DyK n g h' ∧ FrW (WHl n) g h' ∧ HrS L P tp y4.toInt ∧ sX15_hear_164 F h' (n + 513) x3 y4 = some o := fun ll e => by
      unfold sX15_hear_94 sX15_hear_99 at e
      obtain ⟨y6, t, e⟩ := hr_104 k7 S7.2.2.2.2 tp7 lb e2 (by omega) t12 F (q := 0) rfl (Nat.zero_le _) (Or.inr ⟨rfl, fun i hi => absurd hi (Nat.not_lt_zero _)⟩) e
      refine fin ?_ e
      have eq : HtP L P tp v ↔ ∀ i, i < tp.length → tp[i]? = (bmT L (lgL L P) v ++ mkT (mkV L P v))[i]? := by
        constructor
        · intro w i hi
          rcases w with w | w
          · rw [w] at hi
            rw [List.getElem?_append_left hi, w]
          · rw [w]
        · intro w
          rcases ll with c | c
          · refine Or.inr (List.ext_getElem? (fun i => ?_))
            by_cases d : i < tp.length
            · exact w i d
            · rw [List.getElem?_eq_none (by omega), List.getElem?_eq_none (by omega)]
          · refine Or.inl (List.ext_getElem? (fun i => ?_))
            by_cases d : i < tp.length
            · rw [w i d, List.getElem?_append_left (by omega)]
            · rw [List.getElem?_eq_none (by omega), List.getElem?_eq_none (by omega)]
      rcases t with ⟨t1, t2⟩ | ⟨t1, t2⟩
      · exact Or.inl ⟨t1, fun w => t2 (eq.mp w)⟩
      · exact Or.inr ⟨t1, eq.mpr t2⟩
    rcases br_s e with ⟨c3, e⟩ | ⟨c3, e⟩
    · have : x2.toInt = (hI o7 (n + 513) 3).toInt := congrArg Int32.toInt c3
      exact cmp (Or.inl (by omega)) e
    rcases br_s e with ⟨c4, e⟩ | ⟨c4, e⟩
    · have : x2.toInt = (hI o7 (n + 513) 36).toInt := congrArg Int32.toInt c4
      exact cmp (Or.inr (by omega)) e
    · unfold sX15_hear_99 at e
      have nt : ¬ HtP L P tp v := fun w => by
        rcases w with w | w
        · exact c4 (Int32.toInt_inj.mp (by rw [b7, e2, w]))
        · exact c3 (Int32.toInt_inj.mp (by rw [l7, e2, w]))
      have e : sX15_hear_145 F (sX15_hear_48 F f) o7 (n + 513) x1 x2 x3 x5 0 = some o := by
        cases F with
        | zero => exact absurd e (by rw [sX15_hear_104]; exact fun z => nomatch z)
        | succ F' =>
          rw [sX15_hear_104] at e
          rcases br_s e with ⟨_, e⟩ | ⟨_, e⟩
          · exact e
          · exact bp_e rfl e
      exact fin (Or.inl ⟨rfl, nt⟩) e
end
end
section
/-! HEAR, joint -/
section
variable {n j F : Nat} {h : Hp} {σ : Sy} {o : Int32 × Hp} {x1 : Int32} {tp : List Int}
def WHa (n a i : Nat) : Prop := TwR n a i ∨ RS n a i ∨ a = n + 586 ∨ (a = n + 513 ∧ i = 3) ∨ a = n + 515
theorem raz_h {a : Int} (k : DyK n h h) (R : RelR n j o.2 σ) (F : FrW (WHa n) h o.2) (k' : DyK n h o.2) (ea : o.1.toInt = a) : RaZ n j h σ (TwR n) o a ∧ SerN n h o.2 := ⟨⟨ea, R, k', fw_s F (fun a i c => by
  rcases c with c | c
  · exact Or.inr c
  · exact Or.inl (Or.inl (by unfold RS at c; omega)))⟩, ser_w k F (fun a i c z => by unfold WHa TwR RS at c; omega)⟩
theorem ra_hear (k : DyK n h h) (Ok : SyOk σ) (R : RelR n j h σ) (Tp : (hI h (n + 513) 1).toInt = (tp.length : Int)) (tpe : ∀ (i : Nat) (x : Int), tp[i]? = some x → (hI h (n + 514) i).toInt = sg x ∧ 0 ≤ x ∧ x ≤ 255) (t12 : tp.length ≤ 1200) (e : sX15_hear F h (n + 513) x1 = some o) : RaZ n j h σ (TwR n) o (anHer σ x1 tp) ∧ SerN n h o.2 := by
  have z0 : (0 : Int32).toInt = 0 := rfl
  have s6 := dk_610 k
  unfold sX15_hear at e
  obtain ⟨v1, w1, e⟩ := nm_s e
  obtain ⟨h2, w2, e⟩ := nm_s e
  have k2 : DyK n h h2 := by rw [w2]; exact dk_wI k
  have f2 : FrW (TwR n) h h2 := by rw [w2]; exact fw_wI fw_0 (Or.inl ⟨rfl, rfl⟩)
  have R2 : RelR n j h2 σ := relr_f k k2 f2 (fun j i hj c => by unfold rFt at hj; unfold TwR at c; omega) (fun q hq h5 i a hi er lo hi' jj f hj c => by unfold TwR at c; omega) (lgle Ok) R
  obtain ⟨o3, e3, e⟩ := cl_s e
  rcases mvs_r (dk_self k2) Ok R2 e3 with ⟨z, y⟩ | ⟨P, z, f3, k3', m, y⟩
  · rw [y] at e
    rw [her_0 z, so_e (bp_e rfl e)]
    exact raz_h k R2 (fw_s f2 (fun _ _ c => Or.inl c)) k2 rfl
  replace e := bn_e (ne102 y) e
  have k3 : DyK n h o3.2 := dk_t k2 k3'
  have R3 := relr_rs (dk_self k2) Ok R2 f3 k3'
  have s3 := dk_610 k3
  have F3 : FrW (WHa n) h o3.2 := fw_t (fw_s f2 (fun _ _ c => Or.inl c)) (fw_s f3 (fun _ _ c => Or.inr (Or.inl c)))
  obtain ⟨v5, w5, e⟩ := nm_s e
  have l5 : v5.toInt = ((syO σ).length : Int) := by rw [w5]; exact R3.2.2.2.2.1.1
  replace e := ce_e (dk_e (a := 513) (f := 2) (b := 515) k3 (by decide +kernel)) e
  replace e := ce_e (dk_e (a := 513) (f := 43) (b := 586) k3 (by decide +kernel)) e
  iterate 6 replace e := gg_e e
  obtain ⟨h14, w14, e⟩ := nm_s e
  have n5 : v5.toNatClampNeg = (syO σ).length := by have := nc_i (x := v5) (by omega); omega
  have zz : (0 : Int32).toNatClampNeg = 0 := rfl
  rw [zz, n5] at w14
  have k14' : DyK n o3.2 h14 := by rw [w14]; exact dk_cpI (dk_self k3)
  have k14 : DyK n h h14 := dk_t k3 k14'
  have f14 : FrW (fun a _ => a = n + 586) o3.2 h14 := by
    rw [w14]
    exact ⟨Nat.le_refl _, fun a i _ nw => ⟨by rw [cp_at, if_neg (fun z => nw z.1)], rfl⟩⟩
  have R14 : RelR n j h14 σ := relr_f (dk_self k3) k14' f14 (fun j i hj c => by unfold rFt at hj; omega) (fun q hq h5 i a hi er lo hi' jj f hj c => by omega) (lgle Ok) R3
  have s14 := dk_610 k14
  have F14 : FrW (WHa n) h h14 := fw_t F3 (fw_s f14 (fun _ _ c => Or.inr (Or.inr (Or.inl c))))
  have c14 : ∀ i, i < (syO σ).length → hI h14 (n + 586) i = hI o3.2 (n + 515) i := fun i hi => by
    rw [w14, cp_at, if_pos ⟨rfl, by omega, by omega⟩, show 0 + (i - 0) = i by omega]
  have Oz := spl_ok Ok z
  have H := Ok.1.1
  have K := Ok.1.2.1
  have Gs : ∀ (i : Nat) (w : MvT), (lgL (syL σ) P)[i]? = some w → MvGd (syL σ) P w := fun i w ew => lg_gd H K Oz ew
  obtain ⟨_, _, b3, _⟩ := spl_b z
  obtain ⟨b, eb, A⟩ := rpl_p R14.2.1 z
  have lm : (lgL (syL σ) P).length ≤ 4096 := by
    have := lgl_le H K Oz
    omega
  have m14 : RlA h14 (n + 552) (lgL (syL σ) P) := rla_f m (fun j i hj => (f14.2 _ _ (by omega) (fun c => by omega)).1)
  have tp14 : ∀ (i : Nat) (x : Int), tp[i]? = some x → (hI h14 (n + 514) i).toInt = sg x ∧ 0 ≤ x ∧ x ≤ 255 := fun i x ex => by
    have q2 : hI h2 (n + 514) i = hI h (n + 514) i := by rw [w2, rI_a (by omega)]
    rw [(f14.2 (n + 514) i (by omega) (fun c => by omega)).1, (f3.2 (n + 514) i (by have := dk_610 k2; omega) (fun c => by unfold RS at c; omega)).1, q2]
    exact tpe i x ex
  obtain ⟨h', y4, k', F', hr, e⟩ := hr_48 (p := x1.toNatClampNeg) Ok.1 Oz b3 rfl (dk_self k14) eb A R14.1 m14 lm Gs tp14 (by rw [w1]; exact Tp) t12 F (i := 0) (dk_self k14) fw_0 rfl (Nat.zero_le _) (Or.inl ⟨rfl, fun j u hj _ => absurd hj (Nat.not_lt_zero _)⟩) e
  unfold sX15_hear_164 at e
  replace e := ce_e (dk_e (a := 513) (f := 43) (b := 586) k' (by decide +kernel)) e
  replace e := ce_e (dk_e (a := 513) (f := 2) (b := 515) k' (by decide +kernel)) e
  iterate 6 replace e := gg_e e
  obtain ⟨h9, w9, e⟩ := nm_s e
  obtain ⟨h10, w10, e⟩ := nm_s e
  rw [zz, n5] at w9
  rw [her_s z hr, so_e e]
  have k10' : DyK n h14 h10 := by rw [w10, w9]; exact dk_wI (dk_cpI k')
  have k10 : DyK n h h10 := dk_t k14 k10'
  have f9 : FrW (fun a i => a = n + 515 ∨ (a = n + 513 ∧ i = 3)) h' h10 := by
    rw [w10, w9]
    exact fw_wI ⟨Nat.le_refl _, fun a i _ nw => ⟨by rw [cp_at, if_neg (fun z => nw (Or.inl z.1))], rfl⟩⟩ (Or.inr ⟨rfl, rfl⟩)
  have F10 : FrW (fun a i => RS n a i ∨ (a = n + 513 ∧ i = 3) ∨ a = n + 515) h14 h10 := fw_t (fw_s F' (fun a i c => by unfold WHl WRt WOr at c; unfold RS; omega)) (fw_s f9 (fun a i c => Or.inr (by omega)))
  have R10 : RelR n j h10 (syOut σ (syO σ)) := relr_o (dk_self k14) k10' Ok F10 (fun a i c _ => c) R14 ⟨by rw [w10, rI_s]; exact l5, fun i hi => by
    have hi : i < (syO σ).length := hi
    rw [w10, rI_a (by omega), w9, cp_at, if_pos ⟨rfl, by omega, by omega⟩, show 0 + (i - 0) = i by omega, (F'.2 (n + 586) i (by omega) (fun c => by unfold WHl WRt WOr at c; omega)).1, c14 i hi]
    exact R3.2.2.2.2.1.2 i hi⟩
  exact raz_h (o := (y4, h10)) k R10 (fw_t F14 (fw_s F10 (fun a i c => c.elim (fun c => Or.inr (Or.inl c)) (fun c => c.elim (fun c => Or.inr (Or.inr (Or.inr (Or.inl c)))) (fun c => Or.inr (Or.inr (Or.inr (Or.inr c)))))))) k10 rfl
end
section
variable {n j F : Nat} {h : Hp} {o o' : Int32 × Hp} {x1 : Int32}
theorem jp_hear {L : Nat × Nat} (J : JP n j h) (I : SI n (n + 513) L h) (e : sX11_hear F h n x1 = some o) (e' : sX15_hear F o.2 (n + 513) x1 = some o') : o.1 = o'.1 ∧ JP n j o'.2 := by
  have k := J.1
  have s6 := dk_610 k
  obtain ⟨_, i2, i3, i4, i5, _⟩ := si_psn k I
  have nc := nc_i (x := hI h (n + 513) 1) i3.1
  have i31 := i3.2
  have ln : ((List.range (hI h (n + 513) 1).toNatClampNeg).map (fun i => (hI h (n + 2) i).toInt)).length = (hI h (n + 513) 1).toNatClampNeg := by rw [List.length_map, List.length_range]
  obtain ⟨tp, htp⟩ : ∃ tp, tp = (List.range (hI h (n + 513) 1).toNatClampNeg).map (fun i => (hI h (n + 2) i).toInt) := ⟨_, rfl⟩
  rw [← htp] at ln
  have cell : ∀ i, i < tp.length → tp[i]? = some (hI h (n + 2) i).toInt := fun i hi => by
    rw [htp, List.getElem?_map, List.getElem?_range (by omega)]
    rfl
  have bnd : ∀ (i : Nat) (x : Int), tp[i]? = some x → i < tp.length ∧ x = (hI h (n + 2) i).toInt := fun i x ex => by
    have hi := (List.getElem?_eq_some_iff.mp ex).1
    rw [cell i hi] at ex
    exact ⟨hi, (Option.some.inj ex).symm⟩
  have Tp : TpC n h tp := ⟨by rw [i2, ln]; omega, cell⟩
  have tb : ∀ (i : Nat) (x : Int), tp[i]? = some x → 0 ≤ x := fun i x ex => by rw [(bnd i x ex).2]; exact (i4 i).1
  have A : ∃ σ0, CaZ n h σ0 (TwC n) o (anHer σ0 x1 tp) := by
    obtain ⟨_, _, σ0, l1, l2, _, Ok0, C0, _⟩ := id J
    exact ⟨_, ca_hear k (syo_ok Ok0) C0 Tp (by omega) tb e⟩
  obtain ⟨σ0, A⟩ := A
  have A0 := frz_o k A.2.2.2 (fun a i c => by unfold TwC at c; omega)
  have c1 : hI o.2 (n + 513) 1 = hI h (n + 513) 1 := (A0.2.1 (n + 513) 1 (by omega) (by omega)).1
  have c2 : ∀ i, hI o.2 (n + 514) i = hI h (n + 514) i := fun i => (A0.2.1 (n + 514) i (by omega) (by omega)).1
  obtain ⟨J', σ, l1, l2, a, b⟩ := jp_k (f := id) (f' := id) (an := fun σ => anHer σ x1 tp) (an' := fun σ => anHer σ x1 tp) (Z := TwC n) (Z' := TwR n) J (fun a i c => by unfold TwC at c; omega) (fun a i c => by unfold TwC at c; omega) (fun a i c => by unfold TwR at c; omega) (fun a i c => by unfold TwR at c; omega) (fun _ l => ⟨l, rfl⟩) (fun _ l => ⟨l, rfl⟩) (fun _ k Ok R => ca_hear k Ok R Tp (by omega) tb e) (fun _ k Ok R => ra_hear k Ok R (by rw [c1, ln]; omega) (fun i x ex => by
    obtain ⟨hi, hx⟩ := bnd i x ex
    rw [c2 i, i5 i (by omega), hx]
    exact ⟨rfl, (i4 i).1, (i4 i).2⟩) (by omega) e')
  exact ⟨Int32.toInt_inj.mp (a.trans b.symm), J'⟩
end
end
section
/-! ENDINGS: a table is told by what holds at each of its places -/
section
variable {α : Type} {Rt : α → Prop} {v0 : α → Option Int} {Ar : α → α → Prop} {T T' : α → Int}
def LW (Ar : α → α → Prop) (T : α → Int) (x : α) (n : Nat) : Prop := 1 ≤ n ∧ n < 1000000 ∧ T x = 1000000 - (n : Int) ∧ (∃ y, Ar x y ∧ T y = (n : Int) - 1 - 1000000) ∧ ∀ (y : α) (d : Nat), Ar x y → d < 1000000 → T y = (d : Int) - 1000000 → n ≤ d + 1
def LL (Ar : α → α → Prop) (T : α → Int) (x : α) (n : Nat) : Prop := 1 ≤ n ∧ n < 1000000 ∧ T x = (n : Int) - 1000000 ∧ (∃ y, Ar x y ∧ T y = 1000000 - ((n : Int) - 1)) ∧ ∀ y, Ar x y → ∃ d : Nat, d < n ∧ T y = 1000000 - (d : Int)
def LZo (Ar : α → α → Prop) (T : α → Int) (x : α) : Prop := T x = 0 ∧ (∀ (y : α) (d : Nat), Ar x y → d < 1000000 → ¬ T y = (d : Int) - 1000000) ∧ ∃ y, Ar x y ∧ ∀ d : Nat, d < 1000000 → ¬ T y = 1000000 - (d : Int)
def LocT (Rt : α → Prop) (v0 : α → Option Int) (Ar : α → α → Prop) (T : α → Int) : Prop := ∀ x, Rt x → (∃ w, v0 x = some w ∧ T x = w) ∨ (v0 x = none ∧ ((∃ n, LW Ar T x n) ∨ (∃ n, LL Ar T x n) ∨ LZo Ar T x))
theorem loc_1 (cl : ∀ x y, Rt x → Ar x y → Rt y) (A : LocT Rt v0 Ar T) (B : LocT Rt v0 Ar T') (n : Nat) (ns : n < 1000000) (ih : ∀ m, m < n → ∀ x, Rt x → (T x = 1000000 - (m : Int) ↔ T' x = 1000000 - (m : Int)) ∧ (T x = (m : Int) - 1000000 ↔ T' x = (m : Int) - 1000000)) (x : α) (r : Rt x) : (T x = 1000000 - (n : Int) → T' x = 1000000 - (n : Int)) ∧ (T x = (n : Int) - 1000000 → T' x = (n : Int) - 1000000) := by
  rcases A x r with ⟨w, a1, a2⟩ | ⟨a1, a2⟩ <;> rcases B x r with ⟨w', b1, b2⟩ | ⟨b1, b2⟩
  · rw [a1] at b1
    have ww := Option.some.inj b1
    rw [a2, b2, ww]
    exact ⟨fun z => z, fun z => z⟩
  · rw [a1] at b1; exact nomatch b1
  · rw [a1] at b1; exact nomatch b1
  constructor
  · intro e
    have W : LW Ar T x n := by
      rcases a2 with ⟨m, q⟩ | ⟨m, q⟩ | q
      · have : m = n := by have := q.2.2.1; omega
        rw [← this]; exact q
      · have := q.2.2.1; have := q.2.1; omega
      · have := q.1; omega
    obtain ⟨n1, _, _, ⟨y, ay, ey⟩, _⟩ := W
    have ry := cl x y r ay
    have hn1 : ((n - 1 : Nat) : Int) = (n : Int) - 1 := by omega
    have ty : T' y = (n : Int) - 1 - 1000000 := by
      have := ((ih (n - 1) (by omega) y ry).2).mp (by rw [ey]; omega)
      rw [this]; omega
    rcases b2 with ⟨m, q⟩ | ⟨m, q⟩ | q
    · have le := q.2.2.2.2 y (n - 1) ay (by omega) (by rw [ty]; omega)
      by_cases lt : m < n
      · have := ((ih m lt x r).1).mpr q.2.2.1
        omega
      · have : m = n := by omega
        rw [← this]; exact q.2.2.1
    · obtain ⟨d, dl, de⟩ := q.2.2.2.2 y ay
      have := q.2.1
      omega
    · exact absurd (by rw [ty]; omega) (q.2.1 y (n - 1) ay (by omega))
  · intro e
    have W : LL Ar T x n := by
      rcases a2 with ⟨m, q⟩ | ⟨m, q⟩ | q
      · have := q.2.2.1; have := q.2.1; omega
      · have : m = n := by have := q.2.2.1; omega
        rw [← this]; exact q
      · have := q.1; omega
    obtain ⟨n1, _, _, _, al⟩ := W
    have al' : ∀ y, Ar x y → ∃ d : Nat, d < n ∧ T' y = 1000000 - (d : Int) := fun y ay => by
      obtain ⟨d, dl, de⟩ := al y ay
      exact ⟨d, dl, ((ih d dl y (cl x y r ay)).1).mp de⟩
    rcases b2 with ⟨m, q⟩ | ⟨m, q⟩ | q
    · obtain ⟨y, ay, ey⟩ := q.2.2.2.1
      obtain ⟨d, dl, de⟩ := al' y ay
      have := q.2.1
      omega
    · obtain ⟨y, ay, ey⟩ := q.2.2.2.1
      obtain ⟨d, dl, de⟩ := al' y ay
      have m1 := q.1
      by_cases lt : m < n
      · have := ((ih m lt x r).2).mpr q.2.2.1
        omega
      · have : m = n := by omega
        rw [← this]; exact q.2.2.1
    · obtain ⟨y, ay, ny⟩ := q.2.2
      obtain ⟨d, dl, de⟩ := al' y ay
      exact absurd de (ny d (by omega))
theorem loc_2 (cl : ∀ x y, Rt x → Ar x y → Rt y) (A : LocT Rt v0 Ar T) (B : LocT Rt v0 Ar T') : ∀ n : Nat, n < 1000000 → ∀ x, Rt x → (T x = 1000000 - (n : Int) ↔ T' x = 1000000 - (n : Int)) ∧ (T x = (n : Int) - 1000000 ↔ T' x = (n : Int) - 1000000) := by
  intro n
  induction n using Nat.strongRecOn with
  | ind n ih =>
    intro ns x r
    have i1 : ∀ m, m < n → ∀ x, Rt x → (T x = 1000000 - (m : Int) ↔ T' x = 1000000 - (m : Int)) ∧ (T x = (m : Int) - 1000000 ↔ T' x = (m : Int) - 1000000) := fun m lt => ih m lt (by omega)
    have p := loc_1 cl A B n ns i1 x r
    have q := loc_1 cl B A n ns (fun m lt x r => ⟨(i1 m lt x r).1.symm, (i1 m lt x r).2.symm⟩) x r
    exact ⟨⟨p.1, q.1⟩, ⟨p.2, q.2⟩⟩
theorem loc_u (cl : ∀ x y, Rt x → Ar x y → Rt y) (A : LocT Rt v0 Ar T) (B : LocT Rt v0 Ar T') (x : α) (r : Rt x) : T x = T' x := by
  have H := loc_2 cl A B
  rcases A x r with ⟨w, a1, a2⟩ | ⟨a1, a2⟩ <;> rcases B x r with ⟨w', b1, b2⟩ | ⟨b1, b2⟩
  · rw [a1] at b1
    rw [a2, b2, Option.some.inj b1]
  · rw [a1] at b1; exact nomatch b1
  · rw [a1] at b1; exact nomatch b1
  rcases a2 with ⟨m, q⟩ | ⟨m, q⟩ | q
  · rw [q.2.2.1, ((H m q.2.1 x r).1).mp q.2.2.1]
  · rw [q.2.2.1, ((H m q.2.1 x r).2).mp q.2.2.1]
  · rcases b2 with ⟨m, p⟩ | ⟨m, p⟩ | p
    · rw [p.2.2.1, ((H m p.2.1 x r).1).mpr p.2.2.1]
    · rw [p.2.2.1, ((H m p.2.1 x r).2).mpr p.2.2.1]
    · rw [q.1, p.1]
end
end
section
/-! ENDINGS, pure: positions of a SET by number -/
def sqi (q num i : Nat) : Nat := num / q ^ i % q
def lyM (row : Nat → Int) (q num : Nat) : Nat → Nat → Int
  | 0 => fun _ => 0
  | i + 1 => updM (lyM row q num i) (sqi q num i) (row i)
def StD (row : Nat → Int) (q num n : Nat) : Prop := ∀ i, i < n → lyM row q num i (sqi q num i) = 0 ∧ (0 < i → row (i - 1) = row i → sqi q num (i - 1) ≤ sqi q num i)
def ndZ (M : Nat → Int) (sd : Nat) : Pz := (M, sd, fun _ => false, 0, fun _ => 0, fun _ => 0, fun _ => 0, 0)
/-- men of a SET: values rising, no two like ROYAL ones -/
def RwO (L : Nat → Nat → Int) (row : Nat → Int) (n : Nat) : Prop := n ≤ 5 ∧ (∀ i, i < n → 1 ≤ row i ∧ row i ≤ 2 * L 2 0) ∧ (∀ i, i + 1 < n → row i ≤ row (i + 1)) ∧ ∀ (i j : Nat) (d : Nat), i < j → j < n → d < 2 → 0 ≤ L 10 0 → ¬ (row i = 1 + 2 * L 10 0 + (d : Int) ∧ row j = 1 + 2 * L 10 0 + (d : Int))
/-- men of a board, each once, rising -/
def EnU (M : Nat → Int) (n : Nat) (f : Nat → Int) : Prop := (∀ i, i + 1 < n → f i < f (i + 1)) ∧ (∀ i, i < n → ∃ s : Nat, s < 64 ∧ 0 < M s ∧ f i = 64 * M s + (s : Int)) ∧ ∀ s : Nat, s < 64 → 0 < M s → ∃ i, i < n ∧ f i = 64 * M s + (s : Int)
def nmV (q : Nat) (s : Nat → Nat) : Nat → Nat
  | 0 => 0
  | n + 1 => nmV q s n + s n * q ^ n
section
variable {row row' : Nat → Int} {q num num' n n' k i j s : Nat} {M M' : Nat → Int} {f f' : Nat → Int} {L : Nat → Nat → Int}
theorem sqi_lt (q0 : 0 < q) : sqi q num i < q := Nat.mod_lt _ q0
theorem ly_mem : ∀ (k : Nat), ¬ lyM row q num k s = 0 → ∃ i, i < k ∧ sqi q num i = s ∧ lyM row q num k s = row i := by
  intro k
  induction k with
  | zero => intro h; exact absurd rfl h
  | succ k ih =>
    intro h
    have e : lyM row q num (k + 1) s = if s = sqi q num k then row k else lyM row q num k s := rfl
    by_cases c : s = sqi q num k
    · exact ⟨k, Nat.lt_succ_self _, c.symm, by rw [e, if_pos c]⟩
    · rw [e, if_neg c] at h
      obtain ⟨i, hi, a, b⟩ := ih h
      exact ⟨i, by omega, a, by rw [e, if_neg c]; exact b⟩
theorem ly_at (R : ∀ i, i < n → 1 ≤ row i) (S : StD row q num n) : ∀ (k : Nat), k ≤ n → ∀ i, i < k → lyM row q num k (sqi q num i) = row i := by
  intro k
  induction k with
  | zero => intro _ i hi; exact absurd hi (Nat.not_lt_zero _)
  | succ k ih =>
    intro kn i hi
    have e : lyM row q num (k + 1) (sqi q num i) = if sqi q num i = sqi q num k then row k else lyM row q num k (sqi q num i) := rfl
    by_cases c : i = k
    · rw [e, c, if_pos rfl]
    · have h1 := ih (by omega) i (by omega)
      by_cases d : sqi q num i = sqi q num k
      · have h2 := (S k (by omega)).1
        rw [← d, h1] at h2
        have := R i (by omega)
        omega
      · rw [e, if_neg d]
        exact h1
theorem ly_inj (R : ∀ i, i < n → 1 ≤ row i) (S : StD row q num n) (ij : i < j) (jn : j < n) : ¬ sqi q num i = sqi q num j := fun c => by
  have h1 := ly_at R S j (by omega) i ij
  rw [c, (S j jn).1] at h1
  have := R i (by omega)
  omega
theorem ly_i (R : ∀ i, i < n → 1 ≤ row i) (S : StD row q num n) (hi : i < n) (hj : j < n) (e : sqi q num i = sqi q num j) : i = j := by
  rcases Nat.lt_trichotomy i j with c | c | c
  · exact absurd e (ly_inj R S c hj)
  · exact c
  · exact absurd e.symm (ly_inj R S c hi)
theorem enu_m (E : EnU M n f) (ij : i < j) : j < n → f i < f j := by
  induction j with
  | zero => exact absurd ij (Nat.not_lt_zero _)
  | succ j ih =>
    intro jn
    have a := E.1 j jn
    by_cases c : i = j
    · rw [c]; exact a
    · have := ih (by omega) (by omega)
      omega
theorem enu_1 (E : EnU M n f) (E' : EnU M n' f') : ∀ i, i < n → i < n' ∧ f i = f' i := by
  intro i
  induction i using Nat.strongRecOn with
  | ind i ih =>
    intro hi
    obtain ⟨s, s64, m, e⟩ := E.2.1 i hi
    obtain ⟨j, hj, e'⟩ := E'.2.2 s s64 m
    rcases Nat.lt_trichotomy j i with c | c | c
    · have := (ih j c (by omega)).2
      have := enu_m E c hi
      omega
    · rw [← c]; exact ⟨hj, by rw [c, e, ← c, e']⟩
    · obtain ⟨s', s64', m', e1⟩ := E'.2.1 i (by omega)
      obtain ⟨l, hl, e2⟩ := E.2.2 s' s64' m'
      have lt : f' i < f' j := enu_m E' c hj
      by_cases d : l < i
      · have := (ih l d hl).2
        have := enu_m E' d (by omega)
        omega
      · have : f i ≤ f l := by
          by_cases z : l = i
          · rw [z]; exact Int.le_refl _
          · exact Int.le_of_lt (enu_m E (by omega) hl)
        omega
theorem enu_u (E : EnU M n f) (E' : EnU M n' f') : n = n' ∧ ∀ i, i < n → f i = f' i := by
  refine ⟨?_, fun i hi => (enu_1 E E' i hi).2⟩
  have a : n ≤ n' := by
    by_cases c : n = 0
    · omega
    · have := (enu_1 E E' (n - 1) (by omega)).1
      omega
  have b : n' ≤ n := by
    by_cases c : n' = 0
    · omega
    · have := (enu_1 E' E (n' - 1) (by omega)).1
      omega
  omega
/-- the men that a number lays, rising -/
theorem enu_l (q0 : 0 < q) (q64 : q ≤ 64) (R : RwO L row n) (S : StD row q num n) : EnU (lyM row q num n) n (fun i => 64 * row i + (sqi q num i : Int)) := by
  have R1 : ∀ i, i < n → 1 ≤ row i := fun i hi => (R.2.1 i hi).1
  have A := ly_at R1 S n (Nat.le_refl _)
  refine ⟨fun i hi => ?_, fun i hi => ?_, fun s hs m => ?_⟩
  · have a := R.2.2.1 i hi
    have b := sqi_lt (num := num) (i := i) q0
    by_cases c : row i = row (i + 1)
    · have d := (S (i + 1) hi).2 (by omega) c
      have e : ¬ sqi q num i = sqi q num (i + 1) := ly_inj R1 S (Nat.lt_succ_self i) hi
      have d : sqi q num i ≤ sqi q num (i + 1) := d
      show 64 * row i + (sqi q num i : Int) < 64 * row (i + 1) + (sqi q num (i + 1) : Int)
      omega
    · show 64 * row i + (sqi q num i : Int) < 64 * row (i + 1) + (sqi q num (i + 1) : Int)
      omega
  · have b := sqi_lt (num := num) (i := i) q0
    have := R1 i hi
    refine ⟨sqi q num i, by omega, ?_, ?_⟩
    · rw [A i hi]; omega
    · rw [A i hi]
  · obtain ⟨i, hi, a, b⟩ := ly_mem (row := row) (q := q) (num := num) (s := s) n (fun z => by omega)
    exact ⟨i, hi, by show 64 * row i + (sqi q num i : Int) = _; rw [b, a]⟩
theorem nmv_lt (q0 : 0 < q) {s : Nat → Nat} : ∀ (n : Nat), (∀ i, i < n → s i < q) → nmV q s n < q ^ n := by
  intro n
  induction n with
  | zero => intro _; show 0 < q ^ 0; rw [Nat.pow_zero]; decide
  | succ n ih =>
    intro h
    have a := ih (fun i hi => h i (by omega))
    have b := h n (Nat.lt_succ_self _)
    show nmV q s n + s n * q ^ n < q ^ (n + 1)
    rw [Nat.pow_succ]
    have c : (s n + 1) * q ^ n ≤ q * q ^ n := Nat.mul_le_mul_right _ b
    rw [Nat.add_mul, Nat.one_mul] at c
    rw [Nat.mul_comm (q ^ n) q]
    omega
theorem nmv_at (q0 : 0 < q) {s : Nat → Nat} : ∀ (n : Nat), (∀ i, i < n → s i < q) → ∀ i, i < n → sqi q (nmV q s n) i = s i := by
  intro n
  induction n with
  | zero => intro _ i hi; exact absurd hi (Nat.not_lt_zero _)
  | succ n ih =>
    intro h i hi
    have lt := nmv_lt q0 n (fun i hi => h i (by omega))
    have pn : 0 < q ^ n := Nat.pow_pos q0
    have pi : 0 < q ^ i := Nat.pow_pos q0
    show (nmV q s n + s n * q ^ n) / q ^ i % q = s i
    by_cases c : i = n
    · rw [c, Nat.add_mul_div_right _ _ pn, Nat.div_eq_of_lt lt, Nat.zero_add, Nat.mod_eq_of_lt (h n (Nat.lt_succ_self _))]
    · have e : q ^ n = q ^ (n - i - 1) * q * q ^ i := by
        rw [Nat.mul_assoc, ← Nat.pow_succ', ← Nat.pow_add]
        congr 1
        omega
      rw [e, ← Nat.mul_assoc, Nat.add_mul_div_right _ _ pi, ← Nat.mul_assoc, Nat.add_mul_mod_self_right]
      exact ih (fun i hi => h i (by omega)) i (by omega)
theorem nmv_sq (q0 : 0 < q) : ∀ (n : Nat), nmV q (sqi q num) n = num % q ^ n := by
  intro n
  induction n with
  | zero => show 0 = num % q ^ 0; rw [Nat.pow_zero, Nat.mod_one]
  | succ n ih =>
    show nmV q (sqi q num) n + num / q ^ n % q * q ^ n = num % q ^ (n + 1)
    rw [ih, Nat.pow_succ, Nat.mod_mul]
    rw [Nat.mul_comm]
/-- each position has one number -/
theorem nd_u (q0 : 0 < q) (q64 : q ≤ 64) (R : RwO L row n) (R' : RwO L row' n') (S : StD row q num n) (S' : StD row' q num' n') (b : num < q ^ n) (b' : num' < q ^ n') (e : ∀ s, s < 64 → lyM row q num n s = lyM row' q num' n' s) : n = n' ∧ (∀ i, i < n → row i = row' i) ∧ num = num' := by
  have E := enu_l q0 q64 R S
  have E' := enu_l q0 q64 R' S'
  have E2 : EnU (lyM row q num n) n' (fun i => 64 * row' i + (sqi q num' i : Int)) := by
    refine ⟨E'.1, fun i hi => ?_, fun s hs m => ?_⟩
    · obtain ⟨s, a, b, c⟩ := E'.2.1 i hi
      exact ⟨s, a, by rw [e s a]; exact b, by rw [e s a]; exact c⟩
    · rw [e s hs] at m ⊢
      exact E'.2.2 s hs m
  obtain ⟨nn, ff⟩ := enu_u E E2
  have eqs : ∀ i, i < n → row i = row' i ∧ sqi q num i = sqi q num' i := fun i hi => by
    have h := ff i hi
    have h : 64 * row i + (sqi q num i : Int) = 64 * row' i + (sqi q num' i : Int) := h
    have a := sqi_lt (num := num) (i := i) q0
    have b := sqi_lt (num := num') (i := i) q0
    omega
  refine ⟨nn, fun i hi => (eqs i hi).1, ?_⟩
  have c : ∀ k, k ≤ n → nmV q (sqi q num) k = nmV q (sqi q num') k := fun k => by
    induction k with
    | zero => intro _; rfl
    | succ k ih =>
      intro kn
      show nmV q (sqi q num) k + sqi q num k * q ^ k = nmV q (sqi q num') k + sqi q num' k * q ^ k
      rw [ih (by omega), (eqs k (by omega)).2]
  have d := c n (Nat.le_refl _)
  rw [nmv_sq q0, nmv_sq q0, Nat.mod_eq_of_lt b, Nat.mod_eq_of_lt (by rw [nn]; exact b')] at d
  exact d
/-- and each board of a SET's men has a number -/
theorem nd_ex (q0 : 0 < q) (R : RwO L row n) (E : EnU M n f) (rw' : ∀ i, i < n → f i / 64 = row i) (sq : ∀ i, i < n → (f i % 64).toNat < q) (M0 : ∀ s, 0 ≤ M s) : StD row q (nmV q (fun i => (f i % 64).toNat) n) n ∧ nmV q (fun i => (f i % 64).toNat) n < q ^ n ∧ ∀ s, s < 64 → lyM row q (nmV q (fun i => (f i % 64).toNat) n) n s = M s := by
  obtain ⟨N, hN⟩ : ∃ N, N = nmV q (fun i => (f i % 64).toNat) n := ⟨_, rfl⟩
  rw [← hN]
  have dg : ∀ i, i < n → sqi q N i = (f i % 64).toNat := fun i hi => by rw [hN]; exact nmv_at q0 n sq i hi
  have R1 : ∀ i, i < n → 1 ≤ row i := fun i hi => (R.2.1 i hi).1
  have fi : ∀ i, i < n → f i = 64 * row i + (sqi q N i : Int) ∧ M (sqi q N i) = row i ∧ sqi q N i < 64 := fun i hi => by
    have a := rw' i hi
    have b := dg i hi
    have c := Int.emod_nonneg (f i) (show (64 : Int) ≠ 0 by decide)
    have d := Int.emod_lt_of_pos (f i) (show (0 : Int) < 64 by decide)
    obtain ⟨s, s64, m, e⟩ := E.2.1 i hi
    have e1 : f i % 64 = (s : Int) := by omega
    have e2 : sqi q N i = s := by omega
    refine ⟨by omega, ?_, by omega⟩
    rw [e2]; omega
  have di : ∀ i j, i < j → j < n → ¬ sqi q N i = sqi q N j := fun i j ij jn c => by
    have a := fi i (by omega)
    have b := fi j jn
    have lt := enu_m E ij jn
    rw [c] at a
    omega
  have St : StD row q N n := fun i hi => by
    refine ⟨Classical.byContradiction (fun z => ?_), fun i0 e => ?_⟩
    · obtain ⟨j, hj, a, _⟩ := ly_mem i z
      exact di j i hj hi a
    · have a := fi (i - 1) (by omega)
      have b := fi i hi
      have lt := enu_m E (show i - 1 < i by omega) hi
      omega
  refine ⟨St, by rw [hN]; exact nmv_lt q0 n sq, fun s hs => ?_⟩
  have A := ly_at R1 St n (Nat.le_refl _)
  by_cases c : M s = 0
  · rw [c]
    apply Classical.byContradiction
    intro z
    obtain ⟨i, hi, a, b⟩ := ly_mem n z
    have := (fi i hi).2.1
    rw [a, c] at this
    have := R1 i hi
    omega
  · have m0 := M0 s
    obtain ⟨i, hi, e⟩ := E.2.2 s hs (by omega)
    have a := fi i hi
    have : sqi q N i = s := by omega
    rw [← this, A i hi, a.2.1]
end
end
section
/-! ENDINGS, the reference: a state is laid -/
def WLs (n a _i : Nat) : Prop := n + 602 ≤ a ∧ a ≤ n + 606
section
variable {n F : Nat} {g h h0 : Hp} {L : Nat → Nat → Int} {o : Int32 × Hp} {x1 x2 : Int32} {row : Nat → Int} {M : Nat → Int} {sd q num m k : Nat}
theorem bk602 {own : Nat → Nat} (O : OwS n h own) : BkE own h (n + 602) 4 107 := Or.inl ⟨bk_st O (by decide) (by decide), by decide, by decide⟩
theorem e602 (k : DyK n g h) : ∀ q, q ∈ fsB → hR h (n + 602) q.1 = some (n + 602 + q.2) := st_T k (by decide +kernel)
/-- a man more -/
theorem ndz_put {s : Nat} {v : Int32} {x : Int} (k' : DyK n g (wI h (n + 603) s v)) (A : RbA h (n + 602) (ndZ M sd)) (ev : v.toInt = x) : RbA (wI h (n + 603) s v) (n + 602) (ndZ (updM M s x) sd) := by
  obtain ⟨a1, a2, a3, a4, a5, a6, a7, a8, a9⟩ := A
  have T := e602 k'
  have I : ∀ c i, ¬ c = n + 603 → hI (wI h (n + 603) s v) c i = hI h c i := fun c i z => rI_a z
  refine ⟨⟨T (0, 1) (by decide), T (4, 2) (by decide), T (5, 3) (by decide), T (6, 4) (by decide)⟩, fun q hq => ?_, ?_, fun q hq => a4 q hq, ?_, fun i hi => absurd hi (Nat.not_lt_zero _), fun d hd => ?_, fun d hd => ?_, ?_⟩
  · show (hI (wI h (n + 603) s v) (n + 603) q).toInt = (if q = s then x else M q)
    by_cases c : q = s
    · rw [if_pos c, c, rI_s]; exact ev
    · rw [if_neg c, rI_o c]; exact a2 q hq
  · show (hI (wI h (n + 603) s v) (n + 602) 1).toInt = (sd : Int)
    rw [I _ _ (by omega)]; exact a3
  · show (hI (wI h (n + 603) s v) (n + 602) 3).toInt = 0
    rw [I _ _ (by omega)]; exact a5
  · show (hI (wI h (n + 603) s v) (n + 602 + 3) d).toInt = 0
    rw [I _ _ (by omega)]; exact a7 d hd
  · show (hI (wI h (n + 603) s v) (n + 602 + 4) d).toInt = 0
    rw [I _ _ (by omega)]; exact a8 d hd
  · show (hI (wI h (n + 603) s v) (n + 602) 7).toInt = 0
    rw [I _ _ (by omega)]; exact a9
/-- which SET, how large -/
def RSt (n : Nat) (h : Hp) (k m : Nat) (row : Nat → Int) : Prop := (hI h (n + 592) k).toInt = (m : Int) ∧ ∀ i, i < m → (hI h (n + 593) (5 * k + i)).toInt = row i
theorem rst_f {W : Nat → Nat → Prop} {o : Hp} (kk : DyK n g h) (S : RSt n h k m row) (Fr : FrW W h o) (w : ∀ i, ¬ W (n + 592) i ∧ ¬ W (n + 593) i) : RSt n o k m row := by
  have s6 := dk_610 kk
  refine ⟨?_, fun i hi => ?_⟩
  · rw [(Fr.2 (n + 592) k (by omega) (w k).1).1]; exact S.1
  · rw [(Fr.2 (n + 593) _ (by omega) (w _).2).1]; exact S.2 i hi
theorem ls_27 (k0 : DyK n h0 h0) (q0 : 0 < q) (q64 : q ≤ 64) (n6 : num ≤ 600000) (eq13 : (hI h0 (n + 513) 13).toInt = (q : Int)) (m5 : m ≤ 5) (k12 : k < 4096) (S0 : RSt n h0 k m row) (rp : ∀ i, i < m → 1 ≤ row i) (e1 : x1.toInt = (k : Int)) : ∀ (f : Nat) {h : Hp} {x3 x4 x5 : Int32} {i : Nat}, DyK n g h → DyK n h0 h → FrW (WLs n) h0 h → RbA h (n + 602) (ndZ (lyM row q num i) sd) → x5.toInt = (i : Int) → i ≤ m → x3.toInt = ((num / q ^ i : Nat) : Int) → (0 < i → x4.toInt = (sqi q num (i - 1) : Int)) → StD row q num i → sX15_layState_27 F f h (n + 513) x1 x3 x4 x5 = some o → FrW (WLs n) h0 o.2 ∧ DyK n g o.2 ∧ DyK n h0 o.2 ∧ ((o.1 = 0 ∧ ¬ StD row q num m) ∨ (o.1 = 1 ∧ StD row q num m ∧ RbA o.2 (n + 602) (ndZ (lyM row q num m) sd))) := by
  have z1 : (1 : Int32).toInt = 1 := rfl
  have z5 : (5 : Int32).toInt = 5 := rfl
  have z0 : (0 : Int32).toInt = 0 := rfl
  have s6 := dk_610 k0
  intro f
  induction f with
  | zero => intro h x3 x4 x5 i _ _ _ _ _ _ _ _ _ e; exact absurd e (by rw [sX15_layState_27]; exact fun z => nomatch z)
  | succ f ih =>
    intro h x3 x4 x5 i kg kh Fr A e5 im e3 e4 St e
    rw [sX15_layState_27] at e
    have s7 := dk_610 kh
    have S := rst_f k0 S0 Fr (fun i => ⟨fun c => by unfold WLs at c; omega, fun c => by unfold WLs at c; omega⟩)
    have q13 : (hI h (n + 513) 13).toInt = (q : Int) := by rw [(Fr.2 (n + 513) 13 (by omega) (fun c => by unfold WLs at c; omega)).1]; exact eq13
    have n1 : x1.toNatClampNeg = k := by have := nc_i (x := x1) (by omega); omega
    have em := S.1
    replace e := ce_e (dk_e (a := 513) (f := 46) (b := 592) kh (by decide +kernel)) e
    replace e := gg_e e
    rcases br_s e with ⟨c, e⟩ | ⟨c, e⟩ <;> rw [n1] at c
    · have c := le_i c
      have : i = m := by omega
      rw [so_e e]
      rw [this] at A St
      exact ⟨Fr, kg, kh, Or.inr ⟨rfl, St, A⟩⟩
    have c := nle_i c
    have im' : i < m := by omega
    have pi : 0 < q ^ i := Nat.pow_pos q0
    have dn : num / q ^ i ≤ num := Nat.div_le_self _ _
    have r3 : Rg 0 600000 x3 := by
      obtain ⟨d, hd⟩ : ∃ d, d = num / q ^ i := ⟨_, rfl⟩
      rw [← hd] at e3 dn
      exact ⟨by omega, by omega⟩
    have r13 : Rg 1 64 (hI h (n + 513) 13) := ⟨by omega, by omega⟩
    replace e := gg_e e
    obtain ⟨v5, w5, e⟩ := nm_s e
    replace e := gg_e e
    obtain ⟨v7, w7, e⟩ := nm_s e
    have y5 : v5.toInt = (sqi q num i : Int) := by
      rw [w5, tr r3 r13 ⟨by decide, by decide⟩, e3, q13]
      unfold sqi
      omega
    have y7 : v7.toInt = ((num / q ^ (i + 1) : Nat) : Int) := by
      rw [w7, td r3 r13 ⟨by decide, by decide⟩, e3, q13, Nat.pow_succ, ← Nat.div_div_eq_div_mul]
      omega
    have lq := sqi_lt (num := num) (i := i) q0
    have nv5 : v5.toNatClampNeg = sqi q num i := by have := nc_i (x := v5) (by omega); omega
    replace e := ce_e (dk_e (a := 513) (f := 47) (b := 593) kh (by decide +kernel)) e
    replace e := gg_e e
    obtain ⟨v10, w10, e⟩ := nm_s e
    have ix : (((5 : Int32) * x1) + x5).toInt = ((5 * k + i : Nat) : Int) := by
      rw [ta (by rw [tm (by rw [z5]; omega), z5]; omega), tm (by rw [z5]; omega), z5]; omega
    have nx : (((5 : Int32) * x1) + x5).toNatClampNeg = 5 * k + i := by have := nc_i (x := ((5 : Int32) * x1) + x5) (by omega); omega
    rw [nx] at w10
    have y10 : v10.toInt = row i := by rw [w10]; exact S.2 i im'
    replace e := ce_e (dk_e (a := 513) (f := 60) (b := 602) kh (by decide +kernel)) e
    replace e := ce_e (e602 kh (0, 1) (by decide)) e
    replace e := gg_e e
    have mv : (hI h (n + 603) (sqi q num i)).toInt = lyM row q num i (sqi q num i) := A.2.1 _ (by omega)
    rcases br_s e with ⟨c1, e⟩ | ⟨c1, e⟩ <;> rw [nv5] at c1
    · have c1 := lt_i c1
      rw [z0] at c1
      unfold sX15_layState_109 at e
      rw [so_e e]
      refine ⟨Fr, kg, kh, Or.inl ⟨rfl, fun z => ?_⟩⟩
      have := (z i im').1
      have c1 : 0 < (hI h (n + 603) (sqi q num i)).toInt := c1
      omega
    have c1 := nlt_i c1
    rw [z0] at c1
    have c1 : (hI h (n + 603) (sqi q num i)).toInt ≤ 0 := c1
    have mz : lyM row q num i (sqi q num i) = 0 := by
      apply Classical.byContradiction
      intro z
      obtain ⟨j, hj, _, b⟩ := ly_mem i z
      have := rp j (by omega)
      omega
    have no : ∀ (P : Prop), (P → ¬ (0 < i → row (i - 1) = row i → sqi q num (i - 1) ≤ sqi q num i)) → P → some ((0 : Int32), h) = some o → FrW (WLs n) h0 o.2 ∧ DyK n g o.2 ∧ DyK n h0 o.2 ∧ ((o.1 = 0 ∧ ¬ StD row q num m) ∨ (o.1 = 1 ∧ StD row q num m ∧ RbA o.2 (n + 602) (ndZ (lyM row q num m) sd))) := fun P hP p e => by
      rw [so_e e]
      exact ⟨Fr, kg, kh, Or.inl ⟨rfl, fun z => hP p (z i im').2⟩⟩
    have go : (0 < i → row (i - 1) = row i → sqi q num (i - 1) ≤ sqi q num i) → sX15_layState_111 F (sX15_layState_27 F f) h (n + 513) x1 v7 x5 v5 v10 = some o → FrW (WLs n) h0 o.2 ∧ DyK n g o.2 ∧ DyK n h0 o.2 ∧ ((o.1 = 0 ∧ ¬ StD row q num m) ∨ (o.1 = 1 ∧ StD row q num m ∧ RbA o.2 (n + 602) (ndZ (lyM row q num m) sd))) := fun ris e => by
      unfold sX15_layState_111 at e
      replace e := ce_e (dk_e (a := 513) (f := 60) (b := 602) kh (by decide +kernel)) e
      replace e := ce_e (e602 kh (0, 1) (by decide)) e
      replace e := gg_e e
      obtain ⟨h4, w4, e⟩ := nm_s e
      obtain ⟨v6, w6, e⟩ := nm_s e
      rw [nv5] at w4
      have w4 : h4 = wI h (n + 603) (sqi q num i) v10 := w4
      have kg4 : DyK n g h4 := by rw [w4]; exact dk_wI kg
      have kh4 : DyK n h0 h4 := by rw [w4]; exact dk_wI kh
      have F4 : FrW (WLs n) h0 h4 := by rw [w4]; exact fw_wI Fr ⟨by omega, by omega⟩
      have A4 : RbA h4 (n + 602) (ndZ (lyM row q num (i + 1)) sd) := by
        rw [w4] at kg4 ⊢
        exact ndz_put kg4 A y10
      have y6 : v6.toInt = ((i + 1 : Nat) : Int) := by rw [w6, ta (by rw [z1]; omega), z1]; omega
      refine ih kg4 kh4 F4 A4 y6 (by omega) y7 (fun _ => ?_) (fun j hj => ?_) e
      · rw [y5]
        congr 1
      · by_cases y : j = i
        · rw [y]; exact ⟨mz, ris⟩
        · exact St j (by omega)
    rcases br_s e with ⟨c2, e⟩ | ⟨c2, e⟩
    · have c2 := le_i c2
      exact go (fun z => by omega) e
    have c2 := nle_i c2
    have i0 : 0 < i := by omega
    replace e := ce_e (dk_e (a := 513) (f := 47) (b := 593) kh (by decide +kernel)) e
    replace e := gg_e e
    have ix1 : ((((5 : Int32) * x1) + x5) - (1 : Int32)).toInt = ((5 * k + (i - 1) : Nat) : Int) := by
      rw [ts (by rw [ix, z1]; omega), ix, z1]; omega
    have nx1 : ((((5 : Int32) * x1) + x5) - (1 : Int32)).toNatClampNeg = 5 * k + (i - 1) := by have := nc_i (x := (((5 : Int32) * x1) + x5) - (1 : Int32)) (by omega); omega
    have r1 := S.2 (i - 1) (by omega)
    rcases br_s e with ⟨c3, e⟩ | ⟨c3, e⟩ <;> rw [nx1] at c3
    · have re : row (i - 1) = row i := by rw [← r1, ← y10]; exact congrArg Int32.toInt c3
      have e4 := e4 i0
      rcases br_s e with ⟨c4, e⟩ | ⟨c4, e⟩
      · have c4 := le_i c4
        exact go (fun _ _ => by omega) e
      · have c4 := nle_i c4
        unfold sX15_layState_109 at e
        exact no (sqi q num i < sqi q num (i - 1)) (fun p z => by have := z i0 re; omega) (by omega) e
    · exact go (fun _ z => absurd (Int32.toInt_inj.mp (by rw [y10, ← z]; exact r1)) c3) e
theorem lsr_k (k0 : DyK n h h) (kg : DyK n g h) (q0 : 0 < q) (q64 : q ≤ 64) (n6 : num ≤ 600000) (eq13 : (hI h (n + 513) 13).toInt = (q : Int)) (m5 : m ≤ 5) (k12 : k < 4096) (S0 : RSt n h k m row) (rp : ∀ i, i < m → 1 ≤ row i) (sd2 : sd < 2) (e1 : x1.toInt = (k : Int)) (e2 : x2.toInt = ((2 * num + sd : Nat) : Int)) (e : sX15_layState F h (n + 513) x1 x2 = some o) : FrW (WLs n) h o.2 ∧ DyK n g o.2 ∧ DyK n h o.2 ∧ ((o.1 = 0 ∧ ¬ StD row q num m) ∨ (o.1 = 1 ∧ StD row q num m ∧ RbA o.2 (n + 602) (ndZ (lyM row q num m) sd))) := by
  have z0 : (0 : Int32).toInt = 0 := rfl
  have s6 := dk_610 k0
  unfold sX15_layState sX12_clear at e
  replace e := ce_e (dk_e (a := 513) (f := 60) (b := 602) k0 (by decide +kernel)) e
  obtain ⟨o2, ec, e⟩ := cl_s e
  obtain ⟨own, Dw⟩ := k0.1.1
  have D : VD (vM n (hS h) (n + 602) (hS h + 1000 * 5) (hS h + 1000 * 6) (hS h + 1000 * 7) (n + 516)) := vd_m Dw.1 (bk602 Dw.1) (bke_o (c := 5)) (bke_o (c := 6)) (bke_o (c := 7)) (bk_lw Dw.1 (Or.inl rfl)) (by decide)
  have T := e602 k0
  obtain ⟨B, m1, m2, m3, m4, m5', m6, m7⟩ := clr_2 D F (h := h) (x1 := 0) ⟨T (0, 1) (by decide), T (4, 2) (by decide), T (5, 3) (by decide), T (6, 4) (by decide)⟩ (by decide) (by decide) (fun d hd => by rw [z0] at hd; omega) ec
  have kc : DyK n h o2 := dk_X12_clear k0 (show sX12_clear F h (n + 602) = some o2 from ec)
  have kcg : DyK n g o2 := dk_X12_clear kg (show sX12_clear F h (n + 602) = some o2 from ec)
  have F2 : FrW (WLs n) h o2 := fw_v (W := WLs n) (sb := fun _ _ => false) (cs := [4]) B (hs_g kc.1) (by decide +kernel) (fun j f i z y => nomatch z) (fun c hc j i hj => by
    simp only [List.mem_cons, List.not_mem_nil, or_false] at hc
    subst hc
    have hj : j < 5 := hj
    exact ⟨by show n + 602 ≤ n + 602 + j; omega, by show n + 602 + j ≤ n + 606; omega⟩)
  replace e := ce_e (dk_e (a := 513) (f := 60) (b := 602) kc (by decide +kernel)) e
  obtain ⟨h4, w4, e⟩ := nm_s e
  obtain ⟨v5, w5, e⟩ := nm_s e
  have kh4 : DyK n h h4 := by rw [w4]; exact dk_wI kc
  have kg4 : DyK n g h4 := by rw [w4]; exact dk_wI kcg
  have F4 : FrW (WLs n) h h4 := by rw [w4]; exact fw_wI F2 ⟨by omega, by omega⟩
  have sdv : (x2 &&& (1 : Int32)).toInt = (sd : Int) := by
    rw [and1_i (by omega), e2]; omega
  have nv : v5.toInt = ((num / q ^ 0 : Nat) : Int) := by
    rw [w5, ti_shr1, e2, Nat.pow_zero, Nat.div_one]; omega
  have T4 := e602 kh4
  have I : ∀ c i, ¬ (c = n + 602 ∧ i = 1) → hI h4 c i = hI o2 c i := fun c i z => by rw [w4, r_I, if_neg z]
  have A4 : RbA h4 (n + 602) (ndZ (lyM row q num 0) sd) := by
    refine ⟨⟨T4 (0, 1) (by decide), T4 (4, 2) (by decide), T4 (5, 3) (by decide), T4 (6, 4) (by decide)⟩, fun q hq => ?_, ?_, fun q hq => ?_, ?_, fun i hi => absurd hi (Nat.not_lt_zero _), fun d hd => ?_, fun d hd => ?_, ?_⟩
    · show (hI h4 (n + 603) q).toInt = 0
      rw [I _ _ (fun z => by omega)]
      have := m1 q hq
      have this : hI o2 (n + 603) q = 0 := this
      rw [this]; rfl
    · show (hI h4 (n + 602) 1).toInt = (sd : Int)
      rw [w4, rI_s]; exact sdv
    · show bitJ (hJ h4 (n + 602) 2) q = false
      have : hJ h4 (n + 602) 2 = 0 := by
        rw [w4]
        exact m5'
      rw [this, bj_zero]
    · show (hI h4 (n + 602) 3).toInt = 0
      rw [I _ _ (fun z => by omega)]
      have this : hI o2 (n + 602) 3 = 0 := m6
      rw [this]; rfl
    · show (hI h4 (n + 602 + 3) d).toInt = 0
      rw [I _ _ (fun z => by omega)]
      have this : hI o2 (n + 605) d = 0 := m2 d hd
      rw [this]; rfl
    · show (hI h4 (n + 602 + 4) d).toInt = 0
      rw [I _ _ (fun z => by omega)]
      have this : hI o2 (n + 606) d = 0 := m3 d hd
      rw [this]; rfl
    · show (hI h4 (n + 602) 7).toInt = 0
      rw [I _ _ (fun z => by omega)]
      have this : hI o2 (n + 602) 7 = 0 := m7
      rw [this]; rfl
  exact ls_27 k0 q0 q64 n6 eq13 m5 k12 S0 rp e1 F kg4 kh4 F4 A4 rfl (Nat.zero_le _) nv (fun z => absurd z (Nat.lt_irrefl _)) (fun j hj => absurd hj (Nat.not_lt_zero _)) e
end
end
