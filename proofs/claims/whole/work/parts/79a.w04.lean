section
/-! a call of the class: what it keeps -/
section
variable {ρ ρ1 : Nat → Nat} {c c1 : Cm} {h o g : Hp} {S : Nat → Nat → Nat → Bool} {x0 a b k w i F L : Nat} {B : Nat × Nat} {lo hi : Int} {A : List (Nat × Nat)} {Lo : List (Nat × List (Nat × Nat))}
/-- the tape's length stays -/
def Tp (x0 : Nat) (h o : Hp) : Prop := ∀ t, hR h x0 0 = some t → hR o x0 0 = some t ∧ hI o t 1 = hI h t 1
/-- room: what is made, and what may still be made by the class -/
def RmC (x0 : Nat) (B : Nat × Nat) (h : Hp) : Prop := (∀ r e a, hR h x0 15 = some r → hR h x0 10 = some e → hR h e 11 = some a → h.1.1 + 6 * nuC h r 2408 + (if hN h a = 600000 then 0 else 3) ≤ B.1 ∧ h.1.2 + 83 * nuC h r 2408 + (if hN h a = 600000 then 0 else 1800000) ≤ B.2) ∧ ∀ t b, hR h x0 0 = some t → hR h t 0 = some b → hN h b = 1200
def ExM (ρ : Nat → Nat) (c : Cm) (ρ' : Nat → Nat) (c' : Cm) : Prop := (∀ a, ρ a ≠ 0 → ρ' a = ρ a ∧ cw c' a = cw c a) ∧ c'.2.2.2 = c.2.2.2 ∧ ∀ a, a < c.1.1 → ρ' a = ρ a
theorem exm_0 : ExM ρ c ρ c := ⟨fun _ _ => ⟨rfl, rfl⟩, rfl, fun _ _ => rfl⟩
theorem exm_x (X : Ext ρ c ρ1 c1) : ExM ρ c ρ1 c1 := ⟨X.1, X.2.2.1, X.2.2.2.2⟩
abbrev CP (ρ : Nat → Nat) (c : Cm) (x0 : Nat) (B : Nat × Nat) (Q : Hp → Prop) : Int32 × Hp → Prop := fun o => ∃ ρ' c', ExM ρ c ρ' c' ∧ TH ρ' c' o.2 ∧ ClI ρ' c' x0 o.2 ∧ RmC x0 B o.2 ∧ Q o.2
/-- roles of the class's laws -/
def lwK (k : Nat) : Bool := k == 2 || (decide (27 ≤ k) && decide (k ≤ 33))
def clR (k : Nat) : Bool := (decide (k ≤ 11) || (decide (20 ≤ k) && decide (k ≤ 61))) && ((!(k == 10) && !(k == 49)) && (!(k == 2) && !(decide (27 ≤ k) && decide (k ≤ 33))))
abbrev hlC (c : Cm) : Prop := ∀ k w i, lwK k = true → cPm c k w i = true
/-- what a holder may have written: of Texts the length, and the bytes but the tape's -/
def clW (w : Nat) (p : Nat × Nat) : Bool := clR p.1 || ((p.1 == 10 && p.2 == 1) || (p.1 == 49 && !(w == 2100)))
abbrev hpC (c : Cm) : Prop := (∀ k w i, clR k = true → cPm c k w i = true) ∧ (∀ w, cPm c 10 w 1 = true) ∧ ∀ w i, ¬ w = 2100 → cPm c 49 w i = true
theorem pmA_c (hp : hpC c) (e : (A.all fun p => clR p.1) = true) : pmA c A := fun w k i m => by
  unfold mS at m
  rw [List.any_eq_true] at m
  obtain ⟨p, hp', hm⟩ := m
  rw [Bool.and_eq_true, beq_iff_eq] at hm
  rw [List.all_eq_true] at e
  have := e p hp'
  rw [hm.1] at this
  exact hp.1 k w i this
theorem pmO_c (hp : hpC c) (e : (A.all fun p => clW w p) = true) : pmO c w A := fun k i m => by
  unfold mS at m
  rw [List.any_eq_true] at m
  obtain ⟨p, hp', hm⟩ := m
  rw [Bool.and_eq_true, beq_iff_eq] at hm
  have y := List.all_eq_true.mp e p hp'
  unfold clW at y
  rw [hm.1, Bool.or_eq_true, Bool.or_eq_true, Bool.and_eq_true, Bool.and_eq_true, beq_iff_eq, beq_iff_eq, beq_iff_eq, Bool.not_eq_true', beq_eq_false_iff_ne] at y
  rcases y with y | ⟨y1, y2⟩ | ⟨y1, y2⟩
  · exact hp.1 k w i y
  · have z := hm.2
    rw [y2, Bool.or_eq_true, beq_iff_eq, beq_iff_eq] at z
    rcases z with z | z
    · exact absurd z (by decide)
    · rw [y1, ← z]; exact hp.2.1 w
  · rw [y1]; exact hp.2.2 w i y2
theorem fs_c1 (hp : hpC c) (o2 : ((A.all fun p => clR p.1) && Lo.all fun p => p.2.all fun q => clW p.1 q) = true) : ∀ k w i, fS A Lo k w i = true → cPm c k w i = true := fun k w i m => by
  rw [Bool.and_eq_true] at o2
  unfold fS at m
  rw [Bool.or_eq_true, List.any_eq_true] at m
  rcases m with m | ⟨p, hp', hm⟩
  · exact pmA_c hp o2.1 w k i m
  · rw [Bool.and_eq_true, beq_iff_eq] at hm
    rw [hm.2]
    exact pmO_c hp (List.all_eq_true.mp o2.2 p hp') k i hm.1
theorem fs_cl (hp : hpC c) (hl : hlC c) (o2 : ((A.all fun p => clR p.1 || lwK p.1) && Lo.all fun p => p.2.all fun q => clW p.1 q) = true) : ∀ k w i, fS A Lo k w i = true → cPm c k w i = true := fun k w i m => by
  rw [Bool.and_eq_true] at o2
  unfold fS at m
  rw [Bool.or_eq_true, List.any_eq_true] at m
  rcases m with m | ⟨p, hp', hm⟩
  · unfold mS at m
    rw [List.any_eq_true] at m
    obtain ⟨p, hp', hm⟩ := m
    rw [Bool.and_eq_true, beq_iff_eq] at hm
    have := List.all_eq_true.mp o2.1 p hp'
    rw [hm.1, Bool.or_eq_true] at this
    rcases this with y | y
    · exact hp.1 k w i y
    · exact hl k w i y
  · rw [Bool.and_eq_true, beq_iff_eq] at hm
    rw [hm.2]
    exact pmO_c hp (List.all_eq_true.mp o2.2 p hp') k i hm.1
theorem clS_c (z : clS k = true) : k = 1 ∨ k = 2 ∨ k = 4 ∨ k = 7 ∨ k = 11 ∨ k = 12 ∨ k = 20 ∨ k = 21 ∨ k = 22 ∨ k = 30 ∨ k = 31 ∨ k = 32 ∨ k = 34 ∨ k = 36 ∨ k = 48 ∨ k = 50 ∨ k = 51 ∨ k = 53 ∨ k = 57 ∨ k = 58 ∨ k = 59 ∨ k = 61 := by
  simp [clS] at z
  omega
theorem rmc_k (T : TH ρ c h) (r0 : ρ x0 = 12) (e1 : o.1 = h.1) (R12 : ∀ i, hR o x0 i = hR h x0 i) (R59 : ∀ r i, ρ r = 59 → hR o r i = hR h r i) (R1 : ∀ e, ρ e = 1 → hR o e 11 = hR h e 11) (R10 : ∀ t, ρ t = 10 → hR o t 0 = hR h t 0) (N : ∀ a, ρ a ≠ 0 → hN o a = hN h a) (P : RmC x0 B h) : RmC x0 B o := by
  refine ⟨fun r e a er ee ea => ?_, fun t b et eb => ?_⟩
  · rw [R12] at er ee
    have rr' : ρ r = 59 := rr T (thR T r0 (i := 15) (k2 := 59) rfl (by decide)) er
    have re : ρ e = 1 := rr T (thR T r0 (i := 10) (k2 := 1) rfl (by decide)) ee
    rw [R1 e re] at ea
    have ra := rr T (thR T re (i := 11) (k2 := 24) rfl (by decide)) ea
    rw [e1, nuC_eq 2408 (fun i _ => R59 r i rr'), N a (by rw [ra]; decide)]
    exact P.1 r e a er ee ea
  · rw [R12] at et
    have rt : ρ t = 10 := rr T (thR T r0 (i := 0) (k2 := 10) rfl (by decide)) et
    rw [R10 t rt] at eb
    have rb : ρ b = 49 := rr T (thR T rt (i := 0) (k2 := 49) rfl (by decide)) eb
    rw [N b (by rw [rb]; decide)]
    exact P.2 t b et eb
theorem rmc_f (T : TH ρ c h) (r0 : ρ x0 = 12) (f : Fr ρ (cat c S h) h o) (T' : TH ρ c o) (s12 : ∀ w i, S 12 w i = false) (s59 : ∀ w i, S 59 w i = false) (s1 : ∀ w, S 1 w 11 = false) (s10 : ∀ w, S 10 w 0 = false) (P : RmC x0 B h) : RmC x0 B o :=
  rmc_k T r0 (T'.1.1.trans T.1.1.symm) (fun i => (frx f r0 (by decide) rfl (s12 _ i)).2.2) (fun r i rr' => (frx f rr' (by decide) rfl (s59 _ i)).2.2) (fun e re => (frx f re (by decide) rfl (s1 _)).2.2) (fun t rt => (frx f rt (by decide) rfl (s10 _)).2.2) f.2 P
theorem ok10 (o4 : (!(mS A 10 0) && Lo.all fun p => !(mS p.2 10 0)) = true) : ∀ w, fS A Lo 10 w 0 = false := fun w => by
  rw [Bool.and_eq_true, Bool.not_eq_true'] at o4
  unfold fS
  rw [o4.1, Bool.false_or]
  cases z : (Lo.any fun p => mS p.2 10 0 && w == p.1) with
  | false => rfl
  | true =>
    rw [List.any_eq_true] at z
    obtain ⟨p, hp, hm⟩ := z
    have := List.all_eq_true.mp o4.2 p hp
    rw [Bool.and_eq_true] at hm
    rw [hm.1] at this
    exact absurd this (by decide)
theorem tp_f (T : TH ρ c h) (r0 : ρ x0 = 12) (f : Fr ρ (cat c S h) h o) (s12 : ∀ w, S 12 w 0 = false) (s10 : S 10 2100 1 = false) : Tp x0 h o := fun t et => by
  have rt : ρ t = 10 := rr T (thR T r0 (i := 0) (k2 := 10) rfl (by decide)) et
  have wt : cw c t = 2100 := kid_w T r0 (i := 0) rfl (by decide) et
  exact ⟨by rw [(frx f r0 (by decide) rfl (s12 _)).2.2]; exact et, (frx f rt (by decide) wt s10).1⟩
theorem tp_0 : Tp x0 h h := fun t et => ⟨et, rfl⟩
/-- the class's state stands, the tape too -/
theorem st_A (o1 : okA A Lo = true) (o4 : (!(mS A 10 0) && Lo.all fun p => !(mS p.2 10 0)) = true) (T : TH ρ c h) (r0 : ρ x0 = 12) (f : Fr ρ (cat c (fS A Lo) h) h o) (T' : TH ρ c o) (I : ClI ρ c x0 h) (R : RmC x0 B h) : ClI ρ c x0 o ∧ RmC x0 B o := by
  refine ⟨ci_A o1 T r0 f I, ?_⟩
  have ok := o1
  unfold okA at ok
  rw [Bool.and_eq_true, List.all_eq_true, List.all_eq_true] at ok
  have nk : ∀ {k}, clS k = true → k ≠ 4 → k ≠ 34 → k ≠ 36 → ∀ w i, fS A Lo k w i = false := fun {k} hk n4 n34 n36 w i => fS_n (fun p hp e => by
    have := ok.1 p hp
    rw [e, hk] at this
    exact absurd this (by decide)) (fun p hp => Or.inr (fun q hq e => by
    have := ok.2 p hp
    rw [Bool.and_eq_true, List.all_eq_true] at this
    have := this.2 q hq
    rw [e, hk, beq_eq_false_iff_ne.mpr n4, beq_eq_false_iff_ne.mpr n34, beq_eq_false_iff_ne.mpr n36] at this
    exact absurd this (by decide)))
  exact rmc_f T r0 f T' (nk rfl (by decide) (by decide) (by decide)) (nk rfl (by decide) (by decide) (by decide)) (fun w => nk rfl (by decide) (by decide) (by decide) w 11) (ok10 o4) R
theorem cw_A {m : Option (Int32 × Hp)} (hp : hpC c) (T : TH ρ c h) (r0 : ρ x0 = 12) (I : ClI ρ c x0 h) (R : RmC x0 B h) (o1 : okA A Lo = true) (o2 : ((A.all fun p => clR p.1) && Lo.all fun p => p.2.all fun q => clW p.1 q) = true) (o3 : fS A Lo 10 2100 1 = false) (o4 : (!(mS A 10 0) && Lo.all fun p => !(mS p.2 10 0)) = true) (Z : Sat m (ZI ρ (cat c (fS A Lo) h) lo hi)) : Sat m (CP ρ c x0 B (Tp x0 h)) := s_imp Z fun o ho => by
  have T' := th_out T (fs_c1 hp o2) ho.1
  have f := fr_u T ho.1.2.2
  obtain ⟨a, b⟩ := st_A o1 o4 T r0 f T' I R
  refine ⟨ρ, c, exm_0, T', a, b, tp_f T r0 f (fun w => ?_) o3⟩
  have ok := o1
  unfold okA at ok
  rw [Bool.and_eq_true, List.all_eq_true, List.all_eq_true] at ok
  exact fS_n (fun p hp e => by
    have := ok.1 p hp
    rw [e] at this
    exact absurd this (by decide)) (fun p hp => Or.inr (fun q hq e => by
    have := ok.2 p hp
    rw [Bool.and_eq_true, List.all_eq_true] at this
    have := this.2 q hq
    rw [e] at this
    exact absurd this (by decide)))
theorem cw_0 {m : Option (Int32 × Hp)} (T : TH ρ c h) (I : ClI ρ c x0 h) (R : RmC x0 B h) (Z : Sat m (ZI0 h lo hi)) : Sat m (CP ρ c x0 B (Tp x0 h)) := s_imp Z fun o ho => by
  have e : o.2 = h := ho.1
  exact ⟨ρ, c, exm_0, by rw [e]; exact T, by rw [e]; exact I, by rw [e]; exact R, by rw [e]; exact tp_0⟩
end
section
variable {ρ : Nat → Nat} {c : Cm} {h : Hp} {x0 F : Nat} {B : Nat × Nat} {x1 x2 x3 x4 : Int32}
abbrev TXL : List (Nat × Nat) := [(49, 999), (10, 1)]
theorem cw_told (hF : 700000 ≤ F) (T : TH ρ c h) (r0 : ρ x0 = 12) (I : ClI ρ c x0 h) (R : RmC x0 B h) : Sat (sX11_told F h x0 x1) (CP ρ c x0 B (Tp x0 h)) := cw_0 T I R (zX11_told hF T r0 (rg_top _))
theorem cw_out (hF : 700000 ≤ F) (T : TH ρ c h) (r0 : ρ x0 = 12) (I : ClI ρ c x0 h) (R : RmC x0 B h) : Sat (sX11_out h x0 x1) (CP ρ c x0 B (Tp x0 h)) := cw_0 T I R (zX11_out hF T r0 (rg_top _))
theorem cw_at (hF : 700000 ≤ F) (T : TH ρ c h) (r0 : ρ x0 = 12) (I : ClI ρ c x0 h) (R : RmC x0 B h) : Sat (sX11_at h x0 x1 x2) (CP ρ c x0 B (Tp x0 h)) := cw_0 T I R (zX11_at hF T r0 (rg_top _) (rg_top _))
theorem cw_figure (hF : 700000 ≤ F) (T : TH ρ c h) (r0 : ρ x0 = 12) (I : ClI ρ c x0 h) (R : RmC x0 B h) : Sat (sX11_figure F h x0 x1 x2) (CP ρ c x0 B (Tp x0 h)) := cw_0 T I R (zX11_figure hF T r0 (rg_top _) (rg_top _))
theorem cw_attacked (hF : 700000 ≤ F) (T : TH ρ c h) (r0 : ρ x0 = 12) (I : ClI ρ c x0 h) (R : RmC x0 B h) : Sat (sX11_attacked F h x0 x1 x2 x3) (CP ρ c x0 B (Tp x0 h)) := cw_0 T I R (zX11_attacked hF T r0 (rg_top _) (rg_top _) (rg_top _))
theorem cw_played (hF : 700000 ≤ F) (T : TH ρ c h) (r0 : ρ x0 = 12) (I : ClI ρ c x0 h) (R : RmC x0 B h) : Sat (sX11_played h x0 x1 x2) (CP ρ c x0 B (Tp x0 h)) := cw_0 T I R (zX11_played hF T r0 (rg_top _) (rg_top _))
theorem cw_sees (hF : 700000 ≤ F) (T : TH ρ c h) (r0 : ρ x0 = 12) (I : ClI ρ c x0 h) (R : RmC x0 B h) : Sat (sX11_sees F h x0 x1 x2 x3) (CP ρ c x0 B (Tp x0 h)) := cw_0 T I R (zX11_sees hF T r0 (rg_top _) (rg_top _) (rg_top _))
theorem cw_key (hF : 700000 ≤ F) (T : TH ρ c h) (r0 : ρ x0 = 12) (I : ClI ρ c x0 h) (R : RmC x0 B h) : Sat (sX11_key h x0 x1) (CP ρ c x0 B (Tp x0 h)) := cw_0 T I R (zX11_key hF T r0 (rg_top _))
theorem cw_refutes (hF : 700000 ≤ F) (T : TH ρ c h) (r0 : ρ x0 = 12) (I : ClI ρ c x0 h) (R : RmC x0 B h) : Sat (sX11_refutes h x0 x1) (CP ρ c x0 B (Tp x0 h)) := cw_0 T I R (zX11_refutes hF T r0 (rg_top _))
theorem enp_of (P : EnA x0 h) : EnP x0 h := fun e ee n => ⟨((P e ee).2.2 n).1, (P e ee).1⟩
theorem cw_tally (hF : 700000 ≤ F) (T : TH ρ c h) (r0 : ρ x0 = 12) (I : ClI ρ c x0 h) (R : RmC x0 B h) : Sat (sX11_tally F h x0 x1 x2) (CP ρ c x0 B (Tp x0 h)) := cw_0 T I R (zX11_tally hF T r0 (rg_top _) (rg_top _) (enp_of I.2.2.2.2.2.2.2.2.1))
theorem cw_write (hF : 700000 ≤ F) (hp : hpC c) (T : TH ρ c h) (r0 : ρ x0 = 12) (I : ClI ρ c x0 h) (R : RmC x0 B h) : Sat (sX11_write F h x0 x1) (CP ρ c x0 B (Tp x0 h)) := cw_A (A := []) (Lo := [(2101, TXL)]) hp T r0 I R rfl rfl rfl rfl (zX11_write hF (fs_o (.head _)) (th_in _ T) r0 (rg_top _))
theorem cw_view (hF : 700000 ≤ F) (hp : hpC c) (T : TH ρ c h) (r0 : ρ x0 = 12) (I : ClI ρ c x0 h) (R : RmC x0 B h) : Sat (sX11_view F h x0 x1 x2) (CP ρ c x0 B (Tp x0 h)) := cw_A (A := []) (Lo := [(2101, TXL)]) hp T r0 I R rfl rfl rfl rfl (zX11_view hF (fs_o (.head _)) (th_in _ T) r0 (rg_top _) (rg_top _))
theorem cw_same (hF : 700000 ≤ F) (hp : hpC c) (T : TH ρ c h) (r0 : ρ x0 = 12) (I : ClI ρ c x0 h) (R : RmC x0 B h) : Sat (sX11_same F h x0 x1 x2) (CP ρ c x0 B (Tp x0 h)) := cw_A (A := COL) (Lo := [(1503, SHL)]) hp T r0 I R rfl rfl rfl rfl (zX11_same hF fs_a (fs_o (.head _)) (th_in _ T) r0 (rg_top _) (rg_top _) I.1 I.2.1)
theorem cw_moves (hF : 700000 ≤ F) (hp : hpC c) (T : TH ρ c h) (r0 : ρ x0 = 12) (I : ClI ρ c x0 h) (R : RmC x0 B h) : Sat (sX11_moves F h x0 x1) (CP ρ c x0 B (Tp x0 h)) := cw_A (A := COL) (Lo := [(1503, SHL)]) hp T r0 I R rfl rfl rfl rfl (zX11_moves hF fs_a (fs_o (.head _)) (th_in _ T) r0 (rg_top _) I.1 I.2.1)
theorem cw_move (hF : 700000 ≤ F) (hp : hpC c) (T : TH ρ c h) (r0 : ρ x0 = 12) (I : ClI ρ c x0 h) (R : RmC x0 B h) : Sat (sX11_move F h x0 x1 x2 x3) (CP ρ c x0 B (Tp x0 h)) := cw_A (A := COL) (Lo := [(1503, SHL)]) hp T r0 I R rfl rfl rfl rfl (zX11_move hF fs_a (fs_o (.head _)) (th_in _ T) r0 (rg_top _) (rg_top _) (rg_top _) I.1 I.2.1)
theorem cw_ended (hF : 700000 ≤ F) (hp : hpC c) (T : TH ρ c h) (r0 : ρ x0 = 12) (I : ClI ρ c x0 h) (R : RmC x0 B h) : Sat (sX11_ended F h x0 x1) (CP ρ c x0 B (Tp x0 h)) := cw_A (A := COL) (Lo := [(1503, SHL)]) hp T r0 I R rfl rfl rfl rfl (zX11_ended hF fs_a (fs_o (.head _)) (th_in _ T) r0 (rg_top _) I.1 I.2.1)
theorem cw_result (hF : 700000 ≤ F) (hp : hpC c) (T : TH ρ c h) (r0 : ρ x0 = 12) (I : ClI ρ c x0 h) (R : RmC x0 B h) : Sat (sX11_result F h x0 x1) (CP ρ c x0 B (Tp x0 h)) := cw_A (A := COL) (Lo := [(1503, SHL)]) hp T r0 I R rfl rfl rfl rfl (zX11_result hF fs_a (fs_o (.head _)) (th_in _ T) r0 (rg_top _) I.1 I.2.1)
theorem cw_say (hF : 700000 ≤ F) (hp : hpC c) (T : TH ρ c h) (r0 : ρ x0 = 12) (I : ClI ρ c x0 h) (R : RmC x0 B h) : Sat (sX11_say F h x0 x1 x2) (CP ρ c x0 B (Tp x0 h)) := cw_A (A := COL) (Lo := [(1503, SHL), (1802, SHL), (2101, TXL)]) hp T r0 I R rfl rfl rfl rfl (zX11_say hF fs_a (fs_o (.head _)) (fs_o (.tail _ (.head _))) (fs_o (.tail _ (.tail _ (.head _)))) (th_in _ T) r0 (rg_top _) (rg_top _) I.1 I.2.1)
end
end
section
/-! calls of the class that write what others stand on -/
section
variable {ρ ρ1 : Nat → Nat} {c c1 : Cm} {h o g : Hp} {S : Nat → Nat → Nat → Bool} {x0 a b k w i F L : Nat} {B : Nat × Nat} {lo hi : Int} {x1 x2 x3 x4 : Int32}
theorem ci_f2 (T : TH ρ c h) (r0 : ρ x0 = 12) (f : Fr ρ (cat c S h) h o) (s1 : ∀ k w i, clS k = true → k ≠ 1 → k ≠ 4 → k ≠ 34 → k ≠ 36 → S k w i = false) (s2 : ∀ k w i, (k = 4 ∨ k = 34 ∨ k = 36) → (w = 3200 ∨ 8000 ≤ w ∨ w = 1603) → S k w i = false) (se : ∀ w j, ¬ j = 14 → ¬ j = 8 → ¬ j = 17 → ¬ j = 16 → S 1 w j = false) (P : ClI ρ c x0 h) : ClI ρ c x0 o := by
  obtain ⟨p1, p2, p3, p4, p5, p6, p7, p8, p9, p10, p11, p12, p13⟩ := P
  have s : ∀ k w i, clS k = true → k ≠ 1 → k ≠ 4 → k ≠ 34 → k ≠ 36 → S k w i = false := s1
  have lw : LWc S := fun i => s _ _ _ rfl (by decide) (by decide) (by decide) (by decide)
  have a12 : ∀ w i, S 12 w i = false := fun _ _ => s _ _ _ rfl (by decide) (by decide) (by decide) (by decide)
  refine ⟨lwr_f f lw p1, plp_f T r0 f a12 (fun _ _ => s _ _ _ rfl (by decide) (by decide) (by decide) (by decide)) (fun _ _ => s _ _ _ rfl (by decide) (by decide) (by decide) (by decide)) (s2 _ _ _ (by decide) (Or.inl rfl)) (fun _ => s2 _ _ _ (by decide) (Or.inl rfl)) lw p2, plx_f T r0 f a12 (fun _ _ => s _ _ _ rfl (by decide) (by decide) (by decide) (by decide)) (fun _ _ => s _ _ _ rfl (by decide) (by decide) (by decide) (by decide)) (s2 _ _ _ (by decide) (Or.inl rfl)) (fun _ => s2 _ _ _ (by decide) (Or.inl rfl)) lw p3, pgx_f T r0 f a12 (fun _ _ => s _ _ _ rfl (by decide) (by decide) (by decide) (by decide)) (fun _ _ => s _ _ _ rfl (by decide) (by decide) (by decide) (by decide)) (fun _ => s2 _ _ _ (by decide) (Or.inr (Or.inl (by omega)))) (fun _ => s2 _ _ _ (by decide) (Or.inr (Or.inl (by omega)))) (fun _ _ => s2 _ _ _ (by decide) (Or.inr (Or.inl (by omega)))) (fun _ _ => s2 _ _ _ (by decide) (Or.inr (Or.inl (by omega)))) lw p4, gem_f T r0 f a12 (fun _ => s _ _ _ rfl (by decide) (by decide) (by decide) (by decide)) lw p5, get_f T r0 f a12 (fun _ => s _ _ _ rfl (by decide) (by decide) (by decide) (by decide)) (fun i => s _ _ _ rfl (by decide) (by decide) (by decide) (by decide)) p6, fmm_f T f (fun _ => s _ _ _ rfl (by decide) (by decide) (by decide) (by decide)) (fun _ _ => s _ _ _ rfl (by decide) (by decide) (by decide) (by decide)) p7, rex_f T r0 f a12 (fun _ => s _ _ _ rfl (by decide) (by decide) (by decide) (by decide)) (fun _ => s _ _ _ rfl (by decide) (by decide) (by decide) (by decide)) (fun _ => s _ _ _ rfl (by decide) (by decide) (by decide) (by decide)) (fun _ _ => s _ _ _ rfl (by decide) (by decide) (by decide) (by decide)) (s2 _ _ _ (by decide) (Or.inr (Or.inr rfl))) (s2 _ _ _ (by decide) (Or.inr (Or.inr rfl))) (fun _ => s2 _ _ _ (by decide) (Or.inr (Or.inr rfl))) (fun _ => s2 _ _ _ (by decide) (Or.inr (Or.inr rfl))) lw p8, ena_f T r0 f a12 se (fun _ _ => s _ _ _ rfl (by decide) (by decide) (by decide) (by decide)) (fun _ _ => s _ _ _ rfl (by decide) (by decide) (by decide) (by decide)) (fun _ _ => s _ _ _ rfl (by decide) (by decide) (by decide) (by decide)) lw p9, fmy_f T f (fun _ => s _ _ _ rfl (by decide) (by decide) (by decide) (by decide)) (fun _ _ => s _ _ _ rfl (by decide) (by decide) (by decide) (by decide)) lw p10, lwx_f T f lw (fun _ => s _ _ _ rfl (by decide) (by decide) (by decide) (by decide)) (fun _ => s _ _ _ rfl (by decide) (by decide) (by decide) (by decide)) p11, wya_f T f (fun _ => s _ _ _ rfl (by decide) (by decide) (by decide) (by decide)) (fun _ => s _ _ _ rfl (by decide) (by decide) (by decide) (by decide)) (fun _ => s _ _ _ rfl (by decide) (by decide) (by decide) (by decide)) (fun _ _ => s _ _ _ rfl (by decide) (by decide) (by decide) (by decide)) (fun _ _ => s _ _ _ rfl (by decide) (by decide) (by decide) (by decide)) lw p12, sqa_f f lw p13⟩
theorem plp_g (T : TH ρ c h) (r0 : ρ x0 = 12) (f : Fr ρ (cat c S h) h o) (s12 : ∀ w i, S 12 w i = false) (s57 : ∀ w i, S 57 w i = false) (n58 : ∀ u i, ρ u = 58 → ¬ hI o u i = 0 → ¬ hI h u i = 0) (s4 : S 4 3200 2 = false) (s36 : ∀ i, S 36 3200 i = false) (s : LWc S) (P : PlP ρ c x0 h) : PlP ρ c x0 o := fun r u er eu i hi nu b eb => by
  rw [(frx f r0 (by decide) rfl (s12 _ _)).2.2] at er eu
  have rr' : ρ r = 57 := rr T (thR T r0 (i := 13) (k2 := 57) rfl (by decide)) er
  have ru : ρ u = 58 := rr T (thR T r0 (i := 14) (k2 := 58) rfl (by decide)) eu
  rw [(frx f rr' (by decide) rfl (s57 _ _)).2.2] at eb
  exact ryp_f T (pl_b T rr' hi eb) (kid_w T rr' (i := i) (w := 3200) rfl (by decide) eb) f s4 s36 s (P r u er eu i hi (n58 u i ru nu) b eb)
theorem plx_g (T : TH ρ c h) (r0 : ρ x0 = 12) (f : Fr ρ (cat c S h) h o) (s12 : ∀ w i, S 12 w i = false) (s57 : ∀ w i, S 57 w i = false) (n58 : ∀ u i, ρ u = 58 → ¬ hI o u i = 0 → ¬ hI h u i = 0) (s4 : S 4 3200 0 = false) (s34 : ∀ i, S 34 3200 i = false) (s : LWc S) (P : PlX ρ c x0 h) : PlX ρ c x0 o := fun r u er eu i hi nu b eb => by
  rw [(frx f r0 (by decide) rfl (s12 _ _)).2.2] at er eu
  have rr' : ρ r = 57 := rr T (thR T r0 (i := 13) (k2 := 57) rfl (by decide)) er
  have ru : ρ u = 58 := rr T (thR T r0 (i := 14) (k2 := 58) rfl (by decide)) eu
  rw [(frx f rr' (by decide) rfl (s57 _ _)).2.2] at eb
  exact pox_f T (pl_b T rr' hi eb) (kid_w T rr' (i := i) (w := 3200) rfl (by decide) eb) f s4 s34 s (P r u er eu i hi (n58 u i ru nu) b eb)
theorem pgx_g (T : TH ρ c h) (r0 : ρ x0 = 12) (f : Fr ρ (cat c S h) h o) (s12 : ∀ w i, S 12 w i = false) (s59 : ∀ w i, S 59 w i = false) (n61 : ∀ rl n, ρ rl = 61 → (hI o rl n).toInt ≤ (hI h rl n).toInt) (s4 : ∀ j, S 4 (8000 + j) 0 = false) (s42 : ∀ j, S 4 (8000 + j) 2 = false) (s34 : ∀ j i, S 34 (8000 + j) i = false) (s36 : ∀ j i, S 36 (8000 + j) i = false) (s : LWc S) (P : PgX ρ c x0 h) : PgX ρ c x0 o := fun rl el n k hn hk b Bp => by
  rw [(frx f r0 (by decide) rfl (s12 _ _)).2.2] at el
  have rl' : ρ rl = 61 := rr T (thR T r0 (i := 17) (k2 := 61) rfl (by decide)) el
  have hk' := Int.le_trans hk (n61 rl n rl')
  have B0 : Pg x0 (301 * n + k) b h := by
    obtain ⟨r, e1, e2⟩ := Bp
    rw [(frx f r0 (by decide) rfl (s12 _ _)).2.2] at e1
    have r59 : ρ r = 59 := rr T (thR T r0 (i := 15) (k2 := 59) rfl (by decide)) e1
    rw [(frx f r59 (by decide) rfl (s59 _ _)).2.2] at e2
    exact ⟨r, e1, e2⟩
  obtain ⟨k1, k2⟩ := pg_r T r0 B0
  have Q := P rl el n k hn hk' b B0
  exact ⟨ryp_f T k1 k2 f (s42 _) (s36 _) s Q.1, pox_f T k1 k2 f (s4 _) (s34 _) s Q.2⟩
theorem fs_w {A : List (Nat × Nat)} (hA : mS A k i = false) : fS A [] k w i = false := by
  unfold fS
  rw [hA]; rfl
theorem cw_worth (hF : 700000 ≤ F) (hp : hpC c) (T : TH ρ c h) (r0 : ρ x0 = 12) (I : ClI ρ c x0 h) (R : RmC x0 B h) : Sat (sX11_worth F h x0 x1) (CP ρ c x0 B (Tp x0 h)) := s_imp (zX11_worth (c := cat c (fS RWL []) h) hF fs_a (th_in _ T) r0 I.2.2.2.2.2.2.2.2.1 I.2.2.1) fun o ho => by
  have T' := th_out T (fs_c1 hp rfl) ho.1
  have f := fr_u T ho.1.2.2
  refine ⟨ρ, c, exm_0, T', ci_f2 T r0 f (fun k w i hk n1 n4 n34 n36 => ?_) (fun k w i hk hw => ?_) (fun w j n14 n8 n17 n16 => ?_) I, rmc_f T r0 f T' (fun _ _ => rfl) (fun _ _ => rfl) (fun _ => rfl) (fun _ => rfl) R, tp_f T r0 f (fun _ => rfl) rfl⟩
  · rcases clS_c hk with z | z | z | z | z | z | z | z | z | z | z | z | z | z | z | z | z | z | z | z | z | z <;> subst z <;> first | rfl | exact absurd rfl n1
  · rcases hk with z | z | z <;> subst z <;> rfl
  · refine fs_w ?_
    show ((23 == 1 && (999 == 999 || 999 == j)) || ((1 == 1 && (8 == 999 || 8 == j)) || false)) = false
    rw [bq_ne (show 8 ≠ j from fun z => n8 z.symm)]; rfl
/-- out of what was made -/
theorem mk_out {P : Hp → Prop} {o : Int32 × Hp} (T : TH ρ c h) (hs : ∀ k w i, S k w i = true → cPm c k w i = true) (Z : MkI ρ (cat c S h) lo hi P o) : ∃ ρ' c', Ext ρ c ρ' c' ∧ TH ρ' c' o.2 ∧ Fr ρ (cat c S h) h o.2 ∧ P o.2 := by
  obtain ⟨ρ', c', X, T1, _, p⟩ := Z
  obtain ⟨X2, T2⟩ := ex_o T hs X T1
  exact ⟨ρ', _, X2, T2, ex_f T X T1, p⟩
/-- pages' room, the endings' set aside -/
theorem rm_pay (T : TH ρ c h) (r0 : ρ x0 = 12) (R : RmC x0 B h) : ∃ B', Pay 15 2408 6 83 B' x0 h ∧ ∀ g : Hp, Pay 15 2408 6 83 B' x0 g → (∀ i, ¬ i = 15 → hR g x0 i = hR h x0 i) → (∀ e, ρ e = 1 → hR g e 11 = hR h e 11) → (∀ t, ρ t = 10 → hR g t 0 = hR h t 0) → (∀ a, ρ a ≠ 0 → hN g a = hN h a) → RmC x0 B g := by
  obtain ⟨e, ee, re⟩ := thR T r0 (i := 10) (k2 := 1) rfl (by decide)
  obtain ⟨a, ea, ra⟩ := thR T re (i := 11) (k2 := 24) rfl (by decide)
  obtain ⟨p, hp⟩ : ∃ p : Nat, p = if hN h a = 600000 then 0 else 3 := ⟨_, rfl⟩
  obtain ⟨q, hq⟩ : ∃ q : Nat, q = if hN h a = 600000 then 0 else 1800000 := ⟨_, rfl⟩
  refine ⟨(B.1 - p, B.2 - q), fun r er => ?_, fun g P e10 e11 e0 N => ⟨fun r e' a' er ee' ea' => ?_, fun t b et eb => ?_⟩⟩
  · have := R.1 r e a er ee ea
    rw [← hp, ← hq] at this
    show h.1.1 + 6 * nuC h r 2408 ≤ B.1 - p ∧ h.1.2 + 83 * nuC h r 2408 ≤ B.2 - q
    omega
  · rw [e10 10 (by decide)] at ee'
    have y1 : e' = e := r_eq ee ee'
    subst y1
    rw [e11 e' re] at ea'
    have y2 : a' = a := r_eq ea ea'
    subst y2
    rw [N a' (by rw [ra]; decide), ← hp, ← hq]
    obtain ⟨r1, er1, _⟩ := thR T r0 (i := 15) (k2 := 59) rfl (by decide)
    have h0 := R.1 r1 e' a' er1 ee ea
    rw [← hp, ← hq] at h0
    have h1 : g.1.1 + 6 * nuC g r 2408 ≤ B.1 - p ∧ g.1.2 + 83 * nuC g r 2408 ≤ B.2 - q := P r er
    omega
  · rw [e10 0 (by decide)] at et
    have rt : ρ t = 10 := rr T (thR T r0 (i := 0) (k2 := 10) rfl (by decide)) et
    rw [e0 t rt] at eb
    have rb : ρ b = 49 := rr T (thR T rt (i := 0) (k2 := 49) rfl (by decide)) eb
    rw [N b (by rw [rb]; decide)]
    exact R.2 t b et eb
/-- the class's state, behind a call that makes pages -/
theorem pg_step {E : Nat → Nat → Bool} {wp : Nat → Bool} {P : Hp → Prop} {m : Option (Int32 × Hp)} (hp : hpC c) (hE : ∀ k w i, SZ E wp k w i = true → clR k = true) (T : TH ρ c h) (r0 : ρ x0 = 12) (Z : Sat m (MkI ρ (cat c (SZ E wp) h) lo hi P)) (tp : SZ E wp 10 2100 1 = false) (t12 : ∀ w i, SZ E wp 12 w i = false) (H : ∀ o, Fr ρ (cat c (SZ E wp) h) h o → P o → ClI ρ c x0 o ∧ RmC x0 B o) : Sat m (CP ρ c x0 B (Tp x0 h)) := s_imp Z fun o ho => by
  obtain ⟨ρ', c', X, T1, f, p⟩ := mk_out T (fun k w i z => hp.1 k w i (hE k w i z)) ho
  obtain ⟨a, b⟩ := H o.2 f p
  exact ⟨ρ', c', exm_x X, T1, ci_x T r0 X T1 a, b, tp_f T r0 f (fun _ => t12 _ _) tp⟩
theorem sz_clR {E : Nat → Nat → Bool} {wp : Nat → Bool} (hE : ∀ k i, E k i = true → clR k = true) : ∀ k w i, SZ E wp k w i = true → clR k = true := fun k w i z => by
  unfold SZ at z
  rw [Bool.or_eq_true, Bool.or_eq_true, Bool.and_eq_true] at z
  have L : ∀ (A : List (Nat × Nat)), (A.all fun p => clR p.1) = true → mS A k i = true → clR k = true := fun A hA m => by
    unfold mS at m
    rw [List.any_eq_true] at m
    obtain ⟨p, hp', hm⟩ := m
    rw [Bool.and_eq_true, beq_iff_eq] at hm
    rw [← hm.1]
    exact List.all_eq_true.mp hA p hp'
  rcases z with (z | z) | ⟨z, _⟩
  · exact hE k i z
  · exact L saC rfl z
  · exact L ppL rfl z
theorem pgE_c : ∀ k i, pgE k i = true → clR k = true := fun k i z => by
  unfold pgE at z
  rw [Bool.or_eq_true, Bool.or_eq_true, beq_iff_eq, beq_iff_eq, beq_iff_eq] at z
  rcases z with (z | z) | z <;> (rw [z]; rfl)
theorem stE_c : ∀ k i, stE k i = true → clR k = true := fun k i z => by
  unfold stE at z
  rw [Bool.or_eq_true, beq_iff_eq, beq_iff_eq] at z
  rcases z with z | z <;> (rw [z]; rfl)
theorem pgW_n {w : Nat} (h : w = 3200 ∨ w = 1603) : pgW w = false := by rcases h with z | z <;> (rw [z]; rfl)
/-- what calls over pages leave -/
theorem pg_rest (T : TH ρ c h) (r0 : ρ x0 = 12) (f : Fr ρ (cat c (SZ pgE pgW) h) h o) (I : ClI ρ c x0 h) (pg : PgX ρ c x0 o) : ClI ρ c x0 o := by
  obtain ⟨p1, p2, p3, p4, p5, p6, p7, p8, p9, p10, p11, p12, p13⟩ := I
  have lw : LWc (SZ pgE pgW) := fun _ => rfl
  exact ⟨lwr_f f lw p1, plp_f T r0 f (fun _ _ => rfl) (fun _ _ => rfl) (fun _ _ => rfl) rfl (fun _ => rfl) lw p2, plx_f T r0 f (fun _ _ => rfl) (fun _ _ => rfl) (fun _ _ => rfl) rfl (fun _ => rfl) lw p3, pg, gem_f T r0 f (fun _ _ => rfl) (fun _ => rfl) lw p5, get_f T r0 f (fun _ _ => rfl) (fun _ => rfl) (fun _ => rfl) p6, fmm_f T f (fun _ => rfl) (fun _ _ => rfl) p7, rex_f T r0 f (fun _ _ => rfl) (fun _ => rfl) (fun _ => rfl) (fun _ => rfl) (fun _ _ => rfl) rfl rfl (fun _ => rfl) (fun _ => rfl) lw p8, ena_f T r0 f (fun _ _ => rfl) (fun _ _ _ _ _ _ => rfl) (fun _ _ => rfl) (fun _ _ => rfl) (fun _ _ => rfl) lw p9, fmy_f T f (fun _ => rfl) (fun _ _ => rfl) lw p10, lwx_f T f lw (fun _ => rfl) (fun _ => rfl) p11, wya_f T f (fun _ => rfl) (fun _ => rfl) (fun _ => rfl) (fun _ _ => rfl) (fun _ _ => rfl) lw p12, sqa_f f lw p13⟩
theorem pg_fin {E : Nat → Nat → Bool} {wp : Nat → Bool} (T : TH ρ c h) (r0 : ρ x0 = 12) (f : Fr ρ (cat c (SZ E wp) h) h o) (s12 : ∀ w i, SZ E wp 12 w i = false) (s1 : ∀ w i, SZ E wp 1 w i = false) (s10 : ∀ w, SZ E wp 10 w 0 = false) {B' : Nat × Nat} (K : ∀ g : Hp, Pay 15 2408 6 83 B' x0 g → (∀ i, ¬ i = 15 → hR g x0 i = hR h x0 i) → (∀ e, ρ e = 1 → hR g e 11 = hR h e 11) → (∀ t, ρ t = 10 → hR g t 0 = hR h t 0) → (∀ a, ρ a ≠ 0 → hN g a = hN h a) → RmC x0 B g) (P : Pay 15 2408 6 83 B' x0 o) : RmC x0 B o := K o P (fun i _ => (frx f r0 (by decide) rfl (s12 _ i)).2.2) (fun e re => (frx f re (by decide) rfl (s1 _ 11)).2.2) (fun t rt => (frx f rt (by decide) rfl (s10 _)).2.2) f.2
theorem cw_start (hF : 700000 ≤ F) (hp : hpC c) (T : TH ρ c h) (r0 : ρ x0 = 12) (I : ClI ρ c x0 h) (R : RmC x0 B h) : Sat (sX11_start F h x0 x1 x2) (CP ρ c x0 B (Tp x0 h)) := by
  obtain ⟨B', P, K⟩ := rm_pay T r0 R
  exact pg_step hp (sz_clR pgE_c) T r0 (start_y (c := cat c (SZ pgE pgW) h) hF (sx_c _) (th_in _ T) r0 I.2.1 I.2.2.1 ⟨I.2.2.2.1, P⟩) rfl (fun _ _ => rfl) (fun o f p => ⟨pg_rest T r0 f I p.1, pg_fin T r0 f (fun _ _ => rfl) (fun _ _ => rfl) (fun _ => rfl) K p.2⟩)
theorem cw_add (hF : 700000 ≤ F) (hp : hpC c) (T : TH ρ c h) (r0 : ρ x0 = 12) (I : ClI ρ c x0 h) (R : RmC x0 B h) : Sat (sX11_add F h x0 x1 x2) (CP ρ c x0 B (Tp x0 h)) := by
  obtain ⟨B', P, K⟩ := rm_pay T r0 R
  exact pg_step hp (sz_clR pgE_c) T r0 (add_y (c := cat c (SZ pgE pgW) h) hF (sx_c _) (th_in _ T) r0 I.1 I.2.2.2.2.2.2.2.2.2.2.1 I.2.2.2.2.2.2.2.2.2.2.2.1 ⟨I.2.2.2.1, P⟩) rfl (fun _ _ => rfl) (fun o f p => ⟨pg_rest T r0 f I p.1, pg_fin T r0 f (fun _ _ => rfl) (fun _ _ => rfl) (fun _ => rfl) K p.2⟩)
theorem cw_game (hF : 700000 ≤ F) (hp : hpC c) (T : TH ρ c h) (r0 : ρ x0 = 12) (I : ClI ρ c x0 h) (R : RmC x0 B h) : Sat (sX11_game F h x0 x1 x2) (CP ρ c x0 B (Tp x0 h)) := by
  obtain ⟨B', P, K⟩ := rm_pay T r0 R
  exact pg_step hp (sz_clR pgE_c) T r0 (game_y (c := cat c (SZ pgE pgW) h) hF (sx_c _) (th_in _ T) r0 I.1 ⟨I.2.2.2.1, P⟩) rfl (fun _ _ => rfl) (fun o f p => ⟨pg_rest T r0 f I p.1, pg_fin T r0 f (fun _ _ => rfl) (fun _ _ => rfl) (fun _ => rfl) K p.2⟩)
theorem cw_book (hF : 700000 ≤ F) (hp : hpC c) (T : TH ρ c h) (r0 : ρ x0 = 12) (I : ClI ρ c x0 h) (R : RmC x0 B h) : Sat (sX11_book F h x0 x1 x2) (CP ρ c x0 B (Tp x0 h)) := by
  obtain ⟨B', P, K⟩ := rm_pay T r0 R
  exact pg_step hp (sz_clR pgE_c) T r0 (book_y (c := cat c (SZ pgE pgW) h) hF (sx_c _) (th_in _ T) r0 I.1 I.2.1 I.2.2.1 ⟨I.2.2.2.1, P⟩) rfl (fun _ _ => rfl) (fun o f p => ⟨pg_rest T r0 f I p.1, pg_fin T r0 f (fun _ _ => rfl) (fun _ _ => rfl) (fun _ => rfl) K p.2⟩)
theorem cw_now (hF : 700000 ≤ F) (hp : hpC c) (T : TH ρ c h) (r0 : ρ x0 = 12) (I : ClI ρ c x0 h) (R : RmC x0 B h) : Sat (sX11_now F h x0 x1) (CP ρ c x0 B (Tp x0 h)) := by
  obtain ⟨B', P, K⟩ := rm_pay T r0 R
  refine pg_step hp (sz_clR stE_c) T r0 (now_y (c := cat c (SZ stE stW) h) hF (sx_c _) (th_in _ T) r0 I.2.1 I.2.2.1 ⟨I.2.2.2.1, P⟩) rfl (fun _ _ => rfl) (fun o f p => ⟨?_, pg_fin T r0 f (fun _ _ => rfl) (fun _ _ => rfl) (fun _ => rfl) K p.2.2.2⟩)
  obtain ⟨p1, p2, p3, p4, p5, p6, p7, p8, p9, p10, p11, p12, p13⟩ := I
  have lw : LWc (SZ stE stW) := fun _ => rfl
  exact ⟨lwr_f f lw p1, p.1, p.2.1, p.2.2.1, gem_f T r0 f (fun _ _ => rfl) (fun _ => rfl) lw p5, get_f T r0 f (fun _ _ => rfl) (fun _ => rfl) (fun _ => rfl) p6, fmm_f T f (fun _ => rfl) (fun _ _ => rfl) p7, rex_f T r0 f (fun _ _ => rfl) (fun _ => rfl) (fun _ => rfl) (fun _ => rfl) (fun _ _ => rfl) rfl rfl (fun _ => rfl) (fun _ => rfl) lw p8, ena_f T r0 f (fun _ _ => rfl) (fun _ _ _ _ _ _ => rfl) (fun _ _ => rfl) (fun _ _ => rfl) (fun _ _ => rfl) lw p9, fmy_f T f (fun _ => rfl) (fun _ _ => rfl) lw p10, lwx_f T f lw (fun _ => rfl) (fun _ => rfl) p11, wya_f T f (fun _ => rfl) (fun _ => rfl) (fun _ => rfl) (fun _ _ => rfl) (fun _ _ => rfl) lw p12, sqa_f f lw p13⟩
end
end
section
/-! calls of the class: drop, back, feed, end, position, go, before, solve, rules -/
section
variable {ρ ρ1 : Nat → Nat} {c c1 : Cm} {h o g : Hp} {S : Nat → Nat → Nat → Bool} {x0 a b k w i F L : Nat} {B : Nat × Nat} {lo hi : Int} {x1 x2 x3 x4 x5 : Int32}
theorem cw_back (hF : 700000 ≤ F) (hp : hpC c) (T : TH ρ c h) (r0 : ρ x0 = 12) (I : ClI ρ c x0 h) (R : RmC x0 B h) : Sat (sX11_back h x0 x1) (CP ρ c x0 B (Tp x0 h)) := sat_and (zX11_back (c := cat c (fS [(61, 999)] []) h) hF fs_a (th_in _ T) r0 (rg_top _)) fun o e ho => by
  have T' := th_out T (fs_c1 hp rfl) ho.1
  have f := fr_u T ho.1.2.2
  have n61 : ∀ rl n, ρ rl = 61 → (hI o.2 rl n).toInt ≤ (hI h rl n).toInt := fun rl n hrl => by
    unfold sX11_back at e
    replace e := cl_s e
    obtain ⟨o1, e1, e⟩ := e
    have q1 := (sat_e (zX11_isGame hF T (rg_top _)) e1).1
    rw [q1] at e
    replace e := br_s e
    rcases e with ⟨_, e⟩ | ⟨_, e⟩
    · rw [← Option.some.inj e]; exact Int.le_refl _
    replace e := cl_s e
    obtain ⟨r3, e3, e⟩ := e
    have q3 : ρ r3 = 61 := rr T (thR T r0 (i := 17) (k2 := 61) rfl (by decide)) e3
    replace e := (gd_s e).2
    replace e := br_s e
    rcases e with ⟨_, e⟩ | ⟨n1, e⟩
    · rw [← Option.some.inj e]; exact Int.le_refl _
    have i3 : Rg 0 300 (hI h r3 x1.toNatClampNeg) := rg_nlo n1 (thI T q3 (k := 61) (lo := -1) (hi := 300) rfl) (rg_b rfl : Rg (-1) (-1) (-1 : Int32))
    replace e := cl_s e
    obtain ⟨r6, e6, e⟩ := e
    replace e := (gd_s e).2
    replace e := br_s e
    rcases e with ⟨_, e⟩ | ⟨_, e⟩
    · rw [← Option.some.inj e]; exact Int.le_refl _
    replace e := cl_s e
    obtain ⟨r9, e9, e⟩ := e
    have y9 : r9 = r3 := r_eq e3 e9
    subst y9
    replace e := (gd_s e).2
    replace e := (gd_s e).2
    replace e := nm_s e
    obtain ⟨h12, w12, e⟩ := e
    replace e := cl_s e
    obtain ⟨r13, e13, e⟩ := e
    replace e := (gd_s e).2
    rw [← Option.some.inj e]
    show (hI h12 rl n).toInt ≤ _
    rw [w12, r_I]
    by_cases z : rl = r9 ∧ n = x1.toNatClampNeg
    · rw [if_pos z, z.1, z.2]
      have z1 : (1 : Int32).toInt = 1 := rfl
      have := i3.1
      have := i3.2
      rw [ts (by rw [z1]; omega), z1]
      omega
    · rw [if_neg z]; exact Int.le_refl _
  obtain ⟨p1, p2, p3, p4, p5, p6, p7, p8, p9, p10, p11, p12, p13⟩ := I
  have lw : LWc (fS [(61, 999)] []) := fun _ => rfl
  exact ⟨ρ, c, exm_0, T', ⟨lwr_f f lw p1, plp_f T r0 f (fun _ _ => rfl) (fun _ _ => rfl) (fun _ _ => rfl) rfl (fun _ => rfl) lw p2, plx_f T r0 f (fun _ _ => rfl) (fun _ _ => rfl) (fun _ _ => rfl) rfl (fun _ => rfl) lw p3, pgx_g T r0 f (fun _ _ => rfl) (fun _ _ => rfl) n61 (fun _ => rfl) (fun _ => rfl) (fun _ _ => rfl) (fun _ _ => rfl) lw p4, gem_f T r0 f (fun _ _ => rfl) (fun _ => rfl) lw p5, get_f T r0 f (fun _ _ => rfl) (fun _ => rfl) (fun _ => rfl) p6, fmm_f T f (fun _ => rfl) (fun _ _ => rfl) p7, rex_f T r0 f (fun _ _ => rfl) (fun _ => rfl) (fun _ => rfl) (fun _ => rfl) (fun _ _ => rfl) rfl rfl (fun _ => rfl) (fun _ => rfl) lw p8, ena_f T r0 f (fun _ _ => rfl) (fun _ _ _ _ _ _ => rfl) (fun _ _ => rfl) (fun _ _ => rfl) (fun _ _ => rfl) lw p9, fmy_f T f (fun _ => rfl) (fun _ _ => rfl) lw p10, lwx_f T f lw (fun _ => rfl) (fun _ => rfl) p11, wya_f T f (fun _ => rfl) (fun _ => rfl) (fun _ => rfl) (fun _ _ => rfl) (fun _ _ => rfl) lw p12, sqa_f f lw p13⟩, rmc_f T r0 f T' (fun _ _ => rfl) (fun _ _ => rfl) (fun _ => rfl) (fun _ => rfl) R, tp_f T r0 f (fun _ => rfl) rfl⟩
/-- all but places -/
theorem ci_pl (T : TH ρ c h) (r0 : ρ x0 = 12) (f : Fr ρ (cat c S h) h o) (s1 : ∀ k w i, clS k = true → k ≠ 58 → k ≠ 4 → k ≠ 34 → k ≠ 36 → S k w i = false) (s2 : ∀ k w i, (k = 4 ∨ k = 34 ∨ k = 36) → (8000 ≤ w ∨ w = 1603) → S k w i = false) (q2 : PlP ρ c x0 o) (q3 : PlX ρ c x0 o) (P : ClI ρ c x0 h) : ClI ρ c x0 o := by
  obtain ⟨p1, p2, p3, p4, p5, p6, p7, p8, p9, p10, p11, p12, p13⟩ := P
  have s : ∀ k w i, clS k = true → k ≠ 58 → k ≠ 4 → k ≠ 34 → k ≠ 36 → S k w i = false := s1
  have lw : LWc S := fun i => s _ _ _ rfl (by decide) (by decide) (by decide) (by decide)
  have a12 : ∀ w i, S 12 w i = false := fun _ _ => s _ _ _ rfl (by decide) (by decide) (by decide) (by decide)
  exact ⟨lwr_f f lw p1, q2, q3, pgx_f T r0 f a12 (fun _ _ => s _ _ _ rfl (by decide) (by decide) (by decide) (by decide)) (fun _ _ => s _ _ _ rfl (by decide) (by decide) (by decide) (by decide)) (fun _ => s2 _ _ _ (by decide) (Or.inl (by omega))) (fun _ => s2 _ _ _ (by decide) (Or.inl (by omega))) (fun _ _ => s2 _ _ _ (by decide) (Or.inl (by omega))) (fun _ _ => s2 _ _ _ (by decide) (Or.inl (by omega))) lw p4, gem_f T r0 f a12 (fun _ => s _ _ _ rfl (by decide) (by decide) (by decide) (by decide)) lw p5, get_f T r0 f a12 (fun _ => s _ _ _ rfl (by decide) (by decide) (by decide) (by decide)) (fun i => s _ _ _ rfl (by decide) (by decide) (by decide) (by decide)) p6, fmm_f T f (fun _ => s _ _ _ rfl (by decide) (by decide) (by decide) (by decide)) (fun _ _ => s _ _ _ rfl (by decide) (by decide) (by decide) (by decide)) p7, rex_f T r0 f a12 (fun _ => s _ _ _ rfl (by decide) (by decide) (by decide) (by decide)) (fun _ => s _ _ _ rfl (by decide) (by decide) (by decide) (by decide)) (fun _ => s _ _ _ rfl (by decide) (by decide) (by decide) (by decide)) (fun _ _ => s _ _ _ rfl (by decide) (by decide) (by decide) (by decide)) (s2 _ _ _ (by decide) (Or.inr rfl)) (s2 _ _ _ (by decide) (Or.inr rfl)) (fun _ => s2 _ _ _ (by decide) (Or.inr rfl)) (fun _ => s2 _ _ _ (by decide) (Or.inr rfl)) lw p8, ena_f T r0 f a12 (fun _ _ _ _ _ _ => s _ _ _ rfl (by decide) (by decide) (by decide) (by decide)) (fun _ _ => s _ _ _ rfl (by decide) (by decide) (by decide) (by decide)) (fun _ _ => s _ _ _ rfl (by decide) (by decide) (by decide) (by decide)) (fun _ _ => s _ _ _ rfl (by decide) (by decide) (by decide) (by decide)) lw p9, fmy_f T f (fun _ => s _ _ _ rfl (by decide) (by decide) (by decide) (by decide)) (fun _ _ => s _ _ _ rfl (by decide) (by decide) (by decide) (by decide)) lw p10, lwx_f T f lw (fun _ => s _ _ _ rfl (by decide) (by decide) (by decide) (by decide)) (fun _ => s _ _ _ rfl (by decide) (by decide) (by decide) (by decide)) p11, wya_f T f (fun _ => s _ _ _ rfl (by decide) (by decide) (by decide) (by decide)) (fun _ => s _ _ _ rfl (by decide) (by decide) (by decide) (by decide)) (fun _ => s _ _ _ rfl (by decide) (by decide) (by decide) (by decide)) (fun _ _ => s _ _ _ rfl (by decide) (by decide) (by decide) (by decide)) (fun _ _ => s _ _ _ rfl (by decide) (by decide) (by decide) (by decide)) lw p12, sqa_f f lw p13⟩
theorem clS_k {k : Nat} {P : Nat → Prop} (z : clS k = true) (n58 : k ≠ 58) (n4 : k ≠ 4) (n34 : k ≠ 34) (n36 : k ≠ 36) (H : P 1 ∧ P 2 ∧ P 7 ∧ P 11 ∧ P 12 ∧ P 20 ∧ P 21 ∧ P 22 ∧ P 30 ∧ P 31 ∧ P 32 ∧ P 48 ∧ P 50 ∧ P 51 ∧ P 53 ∧ P 57 ∧ P 59 ∧ P 61) : P k := by
  obtain ⟨a1, a2, a7, a11, a12, a20, a21, a22, a30, a31, a32, a48, a50, a51, a53, a57, a59, a61⟩ := H
  rcases clS_c z with z | z | z | z | z | z | z | z | z | z | z | z | z | z | z | z | z | z | z | z | z | z <;> subst z
  · exact a1
  · exact a2
  · exact absurd rfl n4
  · exact a7
  · exact a11
  · exact a12
  · exact a20
  · exact a21
  · exact a22
  · exact a30
  · exact a31
  · exact a32
  · exact absurd rfl n34
  · exact absurd rfl n36
  · exact a48
  · exact a50
  · exact a51
  · exact a53
  · exact a57
  · exact absurd rfl n58
  · exact a59
  · exact a61
theorem cw_drop (hF : 700000 ≤ F) (hp : hpC c) (T : TH ρ c h) (r0 : ρ x0 = 12) (I : ClI ρ c x0 h) (R : RmC x0 B h) : Sat (sX11_drop h x0 x1) (CP ρ c x0 B (Tp x0 h)) := sat_and (zX11_drop (c := cat c (fS [(58, 999), (5, 14), (5, 15), (5, 16)] []) h) hF fs_a (th_in _ T) r0 (rg_top _)) fun o e ho => by
  have T' := th_out T (fs_c1 hp rfl) ho.1
  have f := fr_u T ho.1.2.2
  have n58 : ∀ u i, ρ u = 58 → ¬ hI o.2 u i = 0 → ¬ hI h u i = 0 := fun u i ru nz => by
    unfold sX11_drop at e
    replace e := cl_s e
    obtain ⟨o1, e1, e⟩ := e
    have q1 := (sat_e (zX11_isPlace hF T r0 (rg_top _)) e1).1
    rw [q1] at e
    replace e := br_s e
    rcases e with ⟨_, e⟩ | ⟨_, e⟩
    · rw [← Option.some.inj e] at nz; exact nz
    replace e := cl_s e
    obtain ⟨r3, e3, e⟩ := e
    replace e := (gd_s e).2
    replace e := nm_s e
    obtain ⟨h5, w5, e⟩ := e
    replace e := cl_s e
    obtain ⟨r6, e6, e⟩ := e
    have q6 : ρ r6 = 5 := rr T (thR T r0 (i := 11) (k2 := 5) rfl (by decide)) (by rw [w5] at e6; exact e6)
    replace e := cl_s e
    obtain ⟨o7, e7, e⟩ := e
    rw [← Option.some.inj e] at nz
    obtain ⟨_, i7⟩ := fgt_x e7
    have nz : ¬ hI o7 u i = 0 := nz
    rw [i7 u i (fun z => by rw [z, q6] at ru; exact absurd ru (by decide)), w5, r_I] at nz
    by_cases z : u = r3 ∧ i = x1.toNatClampNeg
    · rw [if_pos z] at nz
      exact absurd rfl nz
    · rw [if_neg z] at nz
      exact nz
  have lw : LWc (fS [(58, 999), (5, 14), (5, 15), (5, 16)] []) := fun _ => rfl
  exact ⟨ρ, c, exm_0, T', ci_pl T r0 f (fun k w i z a b d e => clS_k (P := fun k => fS [(58, 999), (5, 14), (5, 15), (5, 16)] [] k w i = false) z a b d e ⟨rfl, rfl, rfl, rfl, rfl, rfl, rfl, rfl, rfl, rfl, rfl, rfl, rfl, rfl, rfl, rfl, rfl, rfl⟩) (fun k w i hk hw => by rcases hk with z | z | z <;> subst z <;> rfl) (plp_g T r0 f (fun _ _ => rfl) (fun _ _ => rfl) n58 rfl (fun _ => rfl) lw I.2.1) (plx_g T r0 f (fun _ _ => rfl) (fun _ _ => rfl) n58 rfl (fun _ => rfl) lw I.2.2.1) I, rmc_f T r0 f T' (fun _ _ => rfl) (fun _ _ => rfl) (fun _ => rfl) (fun _ => rfl) R, tp_f T r0 f (fun _ => rfl) rfl⟩
abbrev GOL : List (Nat × Nat) := [(47, 999), (58, 999), (6, 4), (6, 5), (6, 6), (6, 7), (6, 8), (6, 9)]
theorem big_w {Lo : List (Nat × List (Nat × Nat))} {A : List (Nat × Nat)} (hk : mS A k i = false) (hL : (Lo.all fun p => decide (p.1 < 8000) && !(p.1 == 1603)) = true) (hw : 8000 ≤ w ∨ w = 1603) : fS A Lo k w i = false := by
  unfold fS
  rw [hk, Bool.false_or]
  cases z : (Lo.any fun p => mS p.2 k i && w == p.1) with
  | false => rfl
  | true =>
    rw [List.any_eq_true] at z
    obtain ⟨p, hp, hm⟩ := z
    rw [Bool.and_eq_true, beq_iff_eq] at hm
    have := List.all_eq_true.mp hL p hp
    rw [Bool.and_eq_true, decide_eq_true_eq, Bool.not_eq_true', beq_eq_false_iff_ne] at this
    omega
theorem cw_go (hF : 700000 ≤ F) (hp : hpC c) (T : TH ρ c h) (r0 : ρ x0 = 12) (I : ClI ρ c x0 h) (R : RmC x0 B h) : Sat (sX11_go F h x0 x1 x2) (CP ρ c x0 B (Tp x0 h)) := s_imp (go_x (c := cat c (fS GOL [(1503, SHL), (3200, SHL)]) h) hF fs_a (fs_o (.head _)) (fs_o (.tail _ (.head _))) (th_in _ T) r0 I.1 I.2.1 I.2.2.2.2.2.2.2.2.2.2.1 I.2.2.2.2.2.2.2.2.2.2.2.1 I.2.2.1) fun o ho => by
  have T' := th_out T (fs_c1 hp rfl) ho.1.1
  have f := fr_u T ho.1.1.2.2
  exact ⟨ρ, c, exm_0, T', ci_pl T r0 f (fun k w i z a b d e => clS_k (P := fun k => fS GOL [(1503, SHL), (3200, SHL)] k w i = false) z a b d e ⟨rfl, rfl, rfl, rfl, rfl, rfl, rfl, rfl, rfl, rfl, rfl, rfl, rfl, rfl, rfl, rfl, rfl, rfl⟩) (fun k w i hk hw => by rcases hk with z | z | z <;> subst z <;> exact big_w rfl rfl hw) ho.2.1 ho.2.2 I, rmc_f T r0 f T' (fun _ _ => rfl) (fun _ _ => rfl) (fun _ => rfl) (fun _ => rfl) R, tp_f T r0 f (fun _ => rfl) rfl⟩
theorem cw_beforeAt (hF : 700000 ≤ F) (hp : hpC c) (T : TH ρ c h) (r0 : ρ x0 = 12) (I : ClI ρ c x0 h) (R : RmC x0 B h) : Sat (sX11_beforeAt F h x0 x1) (CP ρ c x0 B (Tp x0 h)) := s_imp (beforeAt_x (c := cat c (SZ e58 (is 3200)) h) hF (sx_c _) (th_in _ T) r0 I.2.1 I.2.2.1 I.2.2.2.2.2.2.2.1) fun o ho => by
  have hs : ∀ k w i, SZ e58 (is 3200) k w i = true → cPm c k w i = true := fun k w i z => hp.1 k w i (sz_clR (fun k i z => by
    unfold e58 at z
    rw [beq_iff_eq] at z
    rw [z]; rfl) k w i z)
  have T' := th_out T hs ho.1
  have f := fr_u T ho.1.2.2
  exact ⟨ρ, c, exm_0, T', ci_pl T r0 f (fun k w i z a b d e => clS_k (P := fun k => SZ e58 (is 3200) k w i = false) z a b d e ⟨rfl, rfl, rfl, rfl, rfl, rfl, rfl, rfl, rfl, rfl, rfl, rfl, rfl, rfl, rfl, rfl, rfl, rfl⟩) (fun k w i hk hw => sz_f (by rcases hk with z | z | z <;> subst z <;> rfl) (by rcases hk with z | z | z <;> subst z <;> rfl) (Or.inr (is_f (by omega)))) ho.2.1 ho.2.2 I, rmc_f T r0 f T' (fun _ _ => rfl) (fun _ _ => rfl) (fun _ => rfl) (fun _ => rfl) R, tp_f T r0 f (fun _ => rfl) rfl⟩
end
end
section
/-! calls of the class that read the tape -/
section
variable {ρ ρ1 : Nat → Nat} {c c1 : Cm} {h o g : Hp} {S : Nat → Nat → Nat → Bool} {x0 a b k w i F L t : Nat} {B : Nat × Nat} {lo hi : Int} {x1 x2 x3 x4 x5 : Int32}
theorem app_1 {o : Hp} {b : Nat} (eb : hR h t 0 = some b) (nb : ¬ b = t) (N : hN h b = 1200) (l : (hI h t 1).toInt < 1200) (l0 : 0 ≤ (hI h t 1).toInt) (e : sX9_append h t x1 = some o) : (hI o t 1).toInt = (hI h t 1).toInt + 1 ∧ (∀ a i, hR o a i = hR h a i) ∧ ∀ a, hN o a = hN h a := by
  unfold sX9_append sX9_append_36 at e
  replace e := cl_s e
  obtain ⟨r1, e1, e⟩ := e
  have y1 : r1 = b := r_eq eb e1
  subst y1
  have z12 : (nI 1200).toInt = 1200 := rfl
  have z1 : (1 : Int32).toInt = 1 := rfl
  replace e := br_s e
  rcases e with ⟨q, e⟩ | ⟨_, e⟩
  · have q := le_i q
    rw [N, z12] at q
    omega
  replace e := cl_s e
  obtain ⟨r3, e3, e⟩ := e
  have y3 : r3 = r1 := r_eq eb e3
  subst y3
  replace e := (gd_s e).2
  replace e := nm_s e
  obtain ⟨h5, w5, e⟩ := e
  replace e := nm_s e
  obtain ⟨h6, w6, e⟩ := e
  have zz := Option.some.inj e
  subst zz
  refine ⟨?_, fun a i => by rw [w6, w5]; rfl, fun a => by rw [w6, w5]; rfl⟩
  rw [w6, rI_s, w5, rI_a (fun z => nb z.symm), ta (by rw [z1]; omega), z1]
theorem appn_1 {o : Hp} {b : Nat} (eb : hR h t 0 = some b) (nb : ¬ b = t) (N : hN h b = 1200) (l : (hI h t 1).toInt ≤ 1196) (l0 : 0 ≤ (hI h t 1).toInt) (e : sX9_appendNumber h t x1 = some o) : (hI o t 1).toInt = (hI h t 1).toInt + 4 ∧ (∀ a i, hR o a i = hR h a i) ∧ ∀ a, hN o a = hN h a := by
  unfold sX9_appendNumber at e
  replace e := cl_s e
  obtain ⟨o1, e1, e⟩ := e
  obtain ⟨a1, b1, c1⟩ := app_1 eb nb N (by omega) l0 e1
  replace e := cl_s e
  obtain ⟨o2, e2, e⟩ := e
  obtain ⟨a2, b2, c2⟩ := app_1 (by rw [b1]; exact eb) nb (by rw [c1]; exact N) (by omega) (by omega) e2
  replace e := cl_s e
  obtain ⟨o3, e3, e⟩ := e
  obtain ⟨a3, b3, c3⟩ := app_1 (by rw [b2, b1]; exact eb) nb (by rw [c2, c1]; exact N) (by omega) (by omega) e3
  replace e := cl_s e
  obtain ⟨o4, e4, e⟩ := e
  obtain ⟨a4, b4, c4⟩ := app_1 (by rw [b3, b2, b1]; exact eb) nb (by rw [c3, c2, c1]; exact N) (by omega) (by omega) e4
  rw [← Option.some.inj e]
  exact ⟨by omega, fun a i => by rw [b4, b3, b2, b1], fun a => by rw [c4, c3, c2, c1]⟩
/-- feed: twenty bytes more, or none -/
theorem feed_l {o : Int32 × Hp} {b : Nat} (et : hR h x0 0 = some t) (eb : hR h t 0 = some b) (nb : ¬ b = t) (N : hN h b = 1200) (i0 : Rg 0 1200 (hI h t 1)) (e : sX11_feed h x0 x1 x2 x3 x4 x5 = some o) : ((hI h t 1).toInt + 20 ≤ 1200 ∧ o.1.toInt = (hI h t 1).toInt + 20 ∧ (hI o.2 t 1).toInt = (hI h t 1).toInt + 20 ∧ hR o.2 x0 0 = some t) ∨ (1200 < (hI h t 1).toInt + 20 ∧ o.1 = -104 ∧ o.2 = h) := by
  have l0 := i0.1
  have l1 := i0.2
  have z20 : (20 : Int32).toInt = 20 := rfl
  have z12 : (1200 : Int32).toInt = 1200 := rfl
  have t20 : ((hI h t 1) + (20 : Int32)).toInt = (hI h t 1).toInt + 20 := by rw [ta (by rw [z20]; omega), z20]
  unfold sX11_feed at e
  replace e := cl_s e
  obtain ⟨r1, e1, e⟩ := e
  have y1 : r1 = t := r_eq et e1
  subst y1
  replace e := br_s e
  rcases e with ⟨q, e⟩ | ⟨q, e⟩
  · have q := le_i q
    rw [t20, z12] at q
    refine Or.inl ⟨q, ?_⟩
    replace e := cl_s e
    obtain ⟨s1, f1, e⟩ := e
    have y : s1 = r1 := r_eq et f1
    subst y
    replace e := cl_s e
    obtain ⟨o1, g1, e⟩ := e
    obtain ⟨a1, b1, c1⟩ := appn_1 eb nb N (by omega) l0 g1
    replace e := cl_s e
    obtain ⟨s2, f2, e⟩ := e
    have y : s2 = s1 := by rw [b1] at f2; exact r_eq et f2
    subst y
    replace e := cl_s e
    obtain ⟨o2, g2, e⟩ := e
    obtain ⟨a2, b2, c2⟩ := appn_1 (by rw [b1]; exact eb) nb (by rw [c1]; exact N) (by omega) (by omega) g2
    replace e := cl_s e
    obtain ⟨s3, f3, e⟩ := e
    have y : s3 = s2 := by rw [b2, b1] at f3; exact r_eq et f3
    subst y
    replace e := cl_s e
    obtain ⟨o3, g3, e⟩ := e
    obtain ⟨a3, b3, c3⟩ := appn_1 (by rw [b2, b1]; exact eb) nb (by rw [c2, c1]; exact N) (by omega) (by omega) g3
    replace e := cl_s e
    obtain ⟨s4, f4, e⟩ := e
    have y : s4 = s3 := by rw [b3, b2, b1] at f4; exact r_eq et f4
    subst y
    replace e := cl_s e
    obtain ⟨o4, g4, e⟩ := e
    obtain ⟨a4, b4, c4⟩ := appn_1 (by rw [b3, b2, b1]; exact eb) nb (by rw [c3, c2, c1]; exact N) (by omega) (by omega) g4
    replace e := cl_s e
    obtain ⟨s5, f5, e⟩ := e
    have y : s5 = s4 := by rw [b4, b3, b2, b1] at f5; exact r_eq et f5
    subst y
    replace e := cl_s e
    obtain ⟨o5, g5, e⟩ := e
    obtain ⟨a5, b5, c5⟩ := appn_1 (by rw [b4, b3, b2, b1]; exact eb) nb (by rw [c4, c3, c2, c1]; exact N) (by omega) (by omega) g5
    replace e := cl_s e
    obtain ⟨s6, f6, e⟩ := e
    have f6' : hR h x0 0 = some s6 := by rw [b5, b4, b3, b2, b1] at f6; exact f6
    have y : s6 = s5 := r_eq et f6'
    subst y
    rw [← Option.some.inj e]
    exact ⟨by show (hI o5 s6 1).toInt = _; omega, by show (hI o5 s6 1).toInt = _; omega, f6⟩
  · have q := nle_i q
    rw [t20, z12] at q
    rw [← Option.some.inj e]
    exact Or.inr ⟨q, rfl, rfl⟩
theorem end_l {o : Int32 × Hp} (et : hR h x0 0 = some t) (e : sX11_end h x0 x1 = some o) : (0 ≤ x1.toInt ∧ x1.toInt ≤ (hI h t 1).toInt ∧ o.1 = x1 ∧ hI o.2 t 1 = x1 ∧ hR o.2 x0 0 = some t) ∨ (¬ (0 ≤ x1.toInt ∧ x1.toInt ≤ (hI h t 1).toInt) ∧ o.1 = -101 ∧ o.2 = h) := by
  unfold sX11_end sX11_end_15 at e
  replace e := br_s e
  rcases e with ⟨q, e⟩ | ⟨q, e⟩
  · have q := lt_i q
    have z0 : (0 : Int32).toInt = 0 := rfl
    rw [← Option.some.inj e]
    exact Or.inr ⟨by omega, rfl, rfl⟩
  have q := nlt_i q
  replace e := cl_s e
  obtain ⟨r2, e2, e⟩ := e
  have y : r2 = t := r_eq et e2
  subst y
  replace e := br_s e
  rcases e with ⟨l, e⟩ | ⟨l, e⟩
  · have l := le_i l
    replace e := cl_s e
    obtain ⟨r4, e4, e⟩ := e
    have y : r4 = r2 := r_eq et e4
    subst y
    replace e := nm_s e
    obtain ⟨h5, w5, e⟩ := e
    rw [← Option.some.inj e]
    exact Or.inl ⟨q, l, rfl, by show hI h5 r4 1 = x1; rw [w5, rI_s], by show hR h5 x0 0 = _; rw [w5]; exact et⟩
  · have l := nle_i l
    rw [← Option.some.inj e]
    exact Or.inr ⟨by omega, rfl, rfl⟩
/-- what feed and end answer, and leave: n the tape's length before -/
def FdQ (x0 : Nat) (n : Int) (o : Int32 × Hp) : Prop := ∀ t, hR o.2 x0 0 = some t → (n + 20 ≤ 1200 ∧ o.1.toInt = n + 20 ∧ (hI o.2 t 1).toInt = n + 20) ∨ (1200 < n + 20 ∧ o.1 = -104 ∧ (hI o.2 t 1).toInt = n)
def EdQ (x0 : Nat) (x1 : Int32) (n : Int) (o : Int32 × Hp) : Prop := ∀ t, hR o.2 x0 0 = some t → (0 ≤ x1.toInt ∧ x1.toInt ≤ n ∧ o.1 = x1 ∧ (hI o.2 t 1).toInt = x1.toInt) ∨ (¬ (0 ≤ x1.toInt ∧ x1.toInt ≤ n) ∧ o.1 = -101 ∧ (hI o.2 t 1).toInt = n)
theorem cw_feed (hF : 700000 ≤ F) (hp : hpC c) (hq : ∀ i, cPm c 49 2100 i = true) (T : TH ρ c h) (r0 : ρ x0 = 12) (I : ClI ρ c x0 h) (R : RmC x0 B h) (et : hR h x0 0 = some t) : Sat (sX11_feed h x0 x1 x2 x3 x4 x5) (fun o => CP ρ c x0 B (fun _ => True) o ∧ FdQ x0 (hI h t 1).toInt o) := sat_and (zX11_feed (c := cat c (fS [] [(2100, TXL)]) h) hF (fs_o (.head _)) (th_in _ T) r0 (rg_top _) (rg_top _) (rg_top _) (rg_top _) (rg_top _)) fun o e ho => by
  have T' := th_out T (fun k w i m => by
    unfold fS at m
    rw [Bool.or_eq_true, List.any_eq_true] at m
    rcases m with m | ⟨p, hp', hm⟩
    · simp [mS] at m
    · rw [Bool.and_eq_true, beq_iff_eq] at hm
      rw [List.mem_singleton] at hp'
      rw [hp'] at hm
      rw [hm.2]
      have m1 := hm.1
      unfold mS at m1
      rw [List.any_eq_true] at m1
      obtain ⟨q, hq', m2⟩ := m1
      rw [Bool.and_eq_true, beq_iff_eq, Bool.or_eq_true, beq_iff_eq, beq_iff_eq] at m2
      rw [List.mem_cons, List.mem_singleton] at hq'
      rcases hq' with z | z
      · rw [z] at m2; rw [← m2.1]; exact hq i
      · rw [z] at m2
        rcases m2.2 with y | y
        · exact absurd y (by decide)
        · rw [← m2.1, ← y]; exact hp.2.1 2100) ho.1
  have f := fr_u T ho.1.2.2
  obtain ⟨a, b⟩ := st_A rfl rfl T r0 f T' I R
  refine ⟨⟨ρ, c, exm_0, T', a, b, trivial⟩, fun t' et' => ?_⟩
  have y : t' = t := by
    rw [(frx f r0 (by decide) rfl rfl).2.2] at et'
    exact r_eq et et'
  subst y
  have rt : ρ t' = 10 := rr T (thR T r0 (i := 0) (k2 := 10) rfl (by decide)) et
  obtain ⟨bb, eb, rb⟩ := thR T rt (i := 0) (k2 := 49) rfl (by decide)
  rcases feed_l et eb (fun z => by rw [z, rt] at rb; exact absurd rb (by decide)) (R.2 t' bb et eb) (thI T rt (k := 10) (i := 1) rfl) e with ⟨q1, q2, q3, _⟩ | ⟨q1, q2, q3⟩
  · exact Or.inl ⟨q1, q2, q3⟩
  · exact Or.inr ⟨q1, q2, by rw [q3]⟩
theorem cw_end (hF : 700000 ≤ F) (hp : hpC c) (T : TH ρ c h) (r0 : ρ x0 = 12) (I : ClI ρ c x0 h) (R : RmC x0 B h) (et : hR h x0 0 = some t) : Sat (sX11_end h x0 x1) (fun o => CP ρ c x0 B (fun _ => True) o ∧ EdQ x0 x1 (hI h t 1).toInt o) := sat_and (zX11_end (c := cat c (fS [] [(2100, [(10, 1)])]) h) hF (fs_o (.head _)) (th_in _ T) r0 (rg_top _)) fun o e ho => by
  have T' := th_out T (fs_c1 hp rfl) ho.1
  have f := fr_u T ho.1.2.2
  obtain ⟨a, b⟩ := st_A rfl rfl T r0 f T' I R
  refine ⟨⟨ρ, c, exm_0, T', a, b, trivial⟩, fun t' et' => ?_⟩
  have y : t' = t := by
    rw [(frx f r0 (by decide) rfl rfl).2.2] at et'
    exact r_eq et et'
  subst y
  rcases end_l et e with ⟨q1, q2, q3, q4, _⟩ | ⟨q1, q2, q3⟩
  · exact Or.inl ⟨q1, q2, q3, by rw [q4]⟩
  · exact Or.inr ⟨q1, q2, by rw [q3]⟩
theorem hear_z {o : Int32 × Hp} (e : sX11_hear F h x0 x1 = some o) : TpZ x0 o.2 := by
  have z105 : ∀ {g : Hp} {v : Int32}, sX11_hear_105 F g x0 v = some o → TpZ x0 o.2 := fun {g v} e => by
    unfold sX11_hear_105 at e
    replace e := cl_s e
    obtain ⟨r1, e1, e⟩ := e
    replace e := cl_s e
    obtain ⟨o2, e2, e⟩ := e
    obtain ⟨q1, q2⟩ := clear_z e2
    rw [← Option.some.inj e]
    intro t' et'
    have : hR g x0 0 = some t' := by rw [← q2]; exact et'
    rw [r_eq e1 this]; exact q1
  have z94 : ∀ {g : Hp} {v u : Int32}, sX11_hear_94 F g x0 v u = some o → TpZ x0 o.2 := fun {g v u} e => by
    unfold sX11_hear_94 sX11_hear_104 at e
    replace e := br_s e
    rcases e with ⟨_, e⟩ | ⟨_, e⟩
    · exact z105 e
    · exact z105 e
  unfold sX11_hear at e
  replace e := cl_s e
  obtain ⟨o1, _, e⟩ := e
  replace e := br_s e
  rcases e with ⟨_, e⟩ | ⟨_, e⟩
  · exact z105 e
  replace e := cl_s e
  obtain ⟨_, _, e⟩ := e
  replace e := cl_s e
  obtain ⟨_, _, e⟩ := e
  replace e := cl_s e
  obtain ⟨_, _, e⟩ := e
  replace e := cl_s e
  obtain ⟨_, _, e⟩ := e
  replace e := cl_s e
  obtain ⟨_, _, e⟩ := e
  replace e := br_s e
  rcases e with ⟨_, e⟩ | ⟨_, e⟩
  · exact z105 e
  replace e := cl_s e
  obtain ⟨_, _, e⟩ := e
  replace e := cl_s e
  obtain ⟨_, _, e⟩ := e
  replace e := cl_s e
  obtain ⟨_, _, e⟩ := e
  replace e := br_s e
  rcases e with ⟨_, e⟩ | ⟨_, e⟩
  · replace e := cl_s e
    obtain ⟨_, _, e⟩ := e
    replace e := cl_s e
    obtain ⟨_, _, e⟩ := e
    replace e := cl_s e
    obtain ⟨_, _, e⟩ := e
    replace e := cl_s e
    obtain ⟨_, _, e⟩ := e
    replace e := cl_s e
    obtain ⟨_, _, e⟩ := e
    replace e := (gd_s e).2
    replace e := cl_s e
    obtain ⟨_, _, e⟩ := e
    replace e := cl_s e
    obtain ⟨_, _, e⟩ := e
    replace e := (gd_s e).2
    replace e := cl_s e
    obtain ⟨_, _, e⟩ := e
    replace e := br_s e
    rcases e with ⟨_, e⟩ | ⟨_, e⟩
    · exact z94 e
    · exact z94 e
  · exact z105 e
theorem cw_hear (hF : 700000 ≤ F) (hp : hpC c) (T : TH ρ c h) (r0 : ρ x0 = 12) (I : ClI ρ c x0 h) (R : RmC x0 B h) : Sat (sX11_hear F h x0 x1) (CP ρ c x0 B (TpZ x0)) := sat_and (zX11_hear (c := cat c (fS COL [(1503, SHL), (1802, SHL), (1803, TXL), (2100, [(10, 1)])]) h) hF fs_a (fs_o (.head _)) (fs_o (.tail _ (.head _))) (fs_o (.tail _ (.tail _ (.head _)))) (fs_o (.tail _ (.tail _ (.tail _ (.head _))))) (th_in _ T) r0 (rg_top _) I.1 I.2.1) fun o e ho => by
  have T' := th_out T (fs_c1 hp rfl) ho.1
  have f := fr_u T ho.1.2.2
  obtain ⟨a, b⟩ := st_A rfl rfl T r0 f T' I R
  exact ⟨ρ, c, exm_0, T', a, b, hear_z e⟩
end
end
