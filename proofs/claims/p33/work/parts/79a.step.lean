/-! a call of the class: what it keeps -/
section
variable {ρ ρ1 : Nat → Nat} {c c1 : Cm} {h o g : Hp} {S : Nat → Nat → Nat → Bool} {x0 a b k w i F L : Nat} {B : Nat × Nat} {lo hi : Int} {A : List (Nat × Nat)} {Lo : List (Nat × List (Nat × Nat))}
/-- the tape's length stays -/
def Tp (x0 : Nat) (h o : Hp) : Prop := ∀ t, hR h x0 0 = some t → hR o x0 0 = some t ∧ hI o t 1 = hI h t 1
/-- room: what is made, and what may still be made by the class -/
def RmC (x0 : Nat) (B : Nat × Nat) (h : Hp) : Prop := (∀ r e a, hR h x0 15 = some r → hR h x0 10 = some e → hR h e 11 = some a → h.1.1 + 6 * nuC h r 2408 + (if hN h a = 600000 then 0 else 3) ≤ B.1 ∧ h.1.2 + 83 * nuC h r 2408 + (if hN h a = 600000 then 0 else 1800000) ≤ B.2) ∧ ∀ t b, hR h x0 0 = some t → hR h t 0 = some b → hN h b = 1200
def ExM (ρ : Nat → Nat) (c : Cm) (ρ' : Nat → Nat) (c' : Cm) : Prop := (∀ a, ρ a ≠ 0 → ρ' a = ρ a ∧ cw c' a = cw c a) ∧ c'.2.2.2 = c.2.2.2 ∧ ∀ a, a < c.1.1 → ρ' a = ρ a
theorem exm_0 : ExM ρ c ρ c := ⟨fun _ _ => ⟨rfl, rfl⟩, rfl, fun _ _ => rfl⟩
theorem exm_x (X : Ext ρ c ρ1 c1) : ExM ρ c ρ1 c1 := ⟨X.1, X.2.2.1, X.2.2.2.2⟩
abbrev CP (ρ : Nat → Nat) (c : Cm) (x0 : Nat) (B : Nat × Nat) (Q : Hp → Prop) : Int32 × Hp → Prop := fun o => ∃ ρ' c', ExM ρ c ρ' c' ∧ TH ρ' c' o.2 ∧ ClI ρ' c' x0 o.2 ∧ RmC x0 B o.2 ∧ Q o.2
/-- roles of the class's laws -/
def lwK (k : Nat) : Bool := k == 2 || (decide (27 ≤ k) && decide (k ≤ 33))
def clR (k : Nat) : Bool := (decide (k ≤ 11) || (decide (20 ≤ k) && decide (k ≤ 61))) && ((!(k == 10) && !(k == 49)) && (!(k == 2) && !(decide (27 ≤ k) && decide (k ≤ 33))))
abbrev hlC (c : Cm) : Prop := ∀ k w i, lwK k = true → cPm c k w i = true
/-- what a holder may have written: of Texts the length, and the bytes but the tape's -/
def clW (w : Nat) (p : Nat × Nat) : Bool := clR p.1 || ((p.1 == 10 && p.2 == 1) || (p.1 == 49 && !(w == 2100)))
abbrev hpC (c : Cm) : Prop := (∀ k w i, clR k = true → cPm c k w i = true) ∧ (∀ w, cPm c 10 w 1 = true) ∧ ∀ w i, ¬ w = 2100 → cPm c 49 w i = true
theorem pmA_c (hp : hpC c) (e : (A.all fun p => clR p.1) = true) : pmA c A := fun w k i m => by
  unfold mS at m
  rw [List.any_eq_true] at m
  obtain ⟨p, hp', hm⟩ := m
  rw [Bool.and_eq_true, beq_iff_eq] at hm
  rw [List.all_eq_true] at e
  have := e p hp'
  rw [hm.1] at this
  exact hp.1 k w i this
theorem pmO_c (hp : hpC c) (e : (A.all fun p => clW w p) = true) : pmO c w A := fun k i m => by
  unfold mS at m
  rw [List.any_eq_true] at m
  obtain ⟨p, hp', hm⟩ := m
  rw [Bool.and_eq_true, beq_iff_eq] at hm
  have y := List.all_eq_true.mp e p hp'
  unfold clW at y
  rw [hm.1, Bool.or_eq_true, Bool.or_eq_true, Bool.and_eq_true, Bool.and_eq_true, beq_iff_eq, beq_iff_eq, beq_iff_eq, Bool.not_eq_true', beq_eq_false_iff_ne] at y
  rcases y with y | ⟨y1, y2⟩ | ⟨y1, y2⟩
  · exact hp.1 k w i y
  · have z := hm.2
    rw [y2, Bool.or_eq_true, beq_iff_eq, beq_iff_eq] at z
    rcases z with z | z
    · exact absurd z (by decide)
    · rw [y1, ← z]; exact hp.2.1 w
  · rw [y1]; exact hp.2.2 w i y2
theorem fs_c1 (hp : hpC c) (o2 : ((A.all fun p => clR p.1) && Lo.all fun p => p.2.all fun q => clW p.1 q) = true) : ∀ k w i, fS A Lo k w i = true → cPm c k w i = true := fun k w i m => by
  rw [Bool.and_eq_true] at o2
  unfold fS at m
  rw [Bool.or_eq_true, List.any_eq_true] at m
  rcases m with m | ⟨p, hp', hm⟩
  · exact pmA_c hp o2.1 w k i m
  · rw [Bool.and_eq_true, beq_iff_eq] at hm
    rw [hm.2]
    exact pmO_c hp (List.all_eq_true.mp o2.2 p hp') k i hm.1
theorem fs_cl (hp : hpC c) (hl : hlC c) (o2 : ((A.all fun p => clR p.1 || lwK p.1) && Lo.all fun p => p.2.all fun q => clW p.1 q) = true) : ∀ k w i, fS A Lo k w i = true → cPm c k w i = true := fun k w i m => by
  rw [Bool.and_eq_true] at o2
  unfold fS at m
  rw [Bool.or_eq_true, List.any_eq_true] at m
  rcases m with m | ⟨p, hp', hm⟩
  · unfold mS at m
    rw [List.any_eq_true] at m
    obtain ⟨p, hp', hm⟩ := m
    rw [Bool.and_eq_true, beq_iff_eq] at hm
    have := List.all_eq_true.mp o2.1 p hp'
    rw [hm.1, Bool.or_eq_true] at this
    rcases this with y | y
    · exact hp.1 k w i y
    · exact hl k w i y
  · rw [Bool.and_eq_true, beq_iff_eq] at hm
    rw [hm.2]
    exact pmO_c hp (List.all_eq_true.mp o2.2 p hp') k i hm.1
theorem clS_c (z : clS k = true) : k = 1 ∨ k = 2 ∨ k = 4 ∨ k = 7 ∨ k = 11 ∨ k = 12 ∨ k = 20 ∨ k = 21 ∨ k = 22 ∨ k = 30 ∨ k = 31 ∨ k = 32 ∨ k = 34 ∨ k = 36 ∨ k = 48 ∨ k = 50 ∨ k = 51 ∨ k = 53 ∨ k = 57 ∨ k = 58 ∨ k = 59 ∨ k = 61 := by
  simp [clS] at z
  omega
theorem rmc_k (T : TH ρ c h) (r0 : ρ x0 = 12) (e1 : o.1 = h.1) (R12 : ∀ i, hR o x0 i = hR h x0 i) (R59 : ∀ r i, ρ r = 59 → hR o r i = hR h r i) (R1 : ∀ e, ρ e = 1 → hR o e 11 = hR h e 11) (R10 : ∀ t, ρ t = 10 → hR o t 0 = hR h t 0) (N : ∀ a, ρ a ≠ 0 → hN o a = hN h a) (P : RmC x0 B h) : RmC x0 B o := by
  refine ⟨fun r e a er ee ea => ?_, fun t b et eb => ?_⟩
  · rw [R12] at er ee
    have rr' : ρ r = 59 := rr T (thR T r0 (i := 15) (k2 := 59) rfl (by decide)) er
    have re : ρ e = 1 := rr T (thR T r0 (i := 10) (k2 := 1) rfl (by decide)) ee
    rw [R1 e re] at ea
    have ra := rr T (thR T re (i := 11) (k2 := 24) rfl (by decide)) ea
    rw [e1, nuC_eq 2408 (fun i _ => R59 r i rr'), N a (by rw [ra]; decide)]
    exact P.1 r e a er ee ea
  · rw [R12] at et
    have rt : ρ t = 10 := rr T (thR T r0 (i := 0) (k2 := 10) rfl (by decide)) et
    rw [R10 t rt] at eb
    have rb : ρ b = 49 := rr T (thR T rt (i := 0) (k2 := 49) rfl (by decide)) eb
    rw [N b (by rw [rb]; decide)]
    exact P.2 t b et eb
theorem rmc_f (T : TH ρ c h) (r0 : ρ x0 = 12) (f : Fr ρ (cat c S h) h o) (T' : TH ρ c o) (s12 : ∀ w i, S 12 w i = false) (s59 : ∀ w i, S 59 w i = false) (s1 : ∀ w, S 1 w 11 = false) (s10 : ∀ w, S 10 w 0 = false) (P : RmC x0 B h) : RmC x0 B o :=
  rmc_k T r0 (T'.1.1.trans T.1.1.symm) (fun i => (frx f r0 (by decide) rfl (s12 _ i)).2.2) (fun r i rr' => (frx f rr' (by decide) rfl (s59 _ i)).2.2) (fun e re => (frx f re (by decide) rfl (s1 _)).2.2) (fun t rt => (frx f rt (by decide) rfl (s10 _)).2.2) f.2 P
theorem ok10 (o4 : (!(mS A 10 0) && Lo.all fun p => !(mS p.2 10 0)) = true) : ∀ w, fS A Lo 10 w 0 = false := fun w => by
  rw [Bool.and_eq_true, Bool.not_eq_true'] at o4
  unfold fS
  rw [o4.1, Bool.false_or]
  cases z : (Lo.any fun p => mS p.2 10 0 && w == p.1) with
  | false => rfl
  | true =>
    rw [List.any_eq_true] at z
    obtain ⟨p, hp, hm⟩ := z
    have := List.all_eq_true.mp o4.2 p hp
    rw [Bool.and_eq_true] at hm
    rw [hm.1] at this
    exact absurd this (by decide)
theorem tp_f (T : TH ρ c h) (r0 : ρ x0 = 12) (f : Fr ρ (cat c S h) h o) (s12 : ∀ w, S 12 w 0 = false) (s10 : S 10 2100 1 = false) : Tp x0 h o := fun t et => by
  have rt : ρ t = 10 := rr T (thR T r0 (i := 0) (k2 := 10) rfl (by decide)) et
  have wt : cw c t = 2100 := kid_w T r0 (i := 0) rfl (by decide) et
  exact ⟨by rw [(frx f r0 (by decide) rfl (s12 _)).2.2]; exact et, (frx f rt (by decide) wt s10).1⟩
theorem tp_0 : Tp x0 h h := fun t et => ⟨et, rfl⟩
/-- the class's state stands, the tape too -/
theorem st_A (o1 : okA A Lo = true) (o4 : (!(mS A 10 0) && Lo.all fun p => !(mS p.2 10 0)) = true) (T : TH ρ c h) (r0 : ρ x0 = 12) (f : Fr ρ (cat c (fS A Lo) h) h o) (T' : TH ρ c o) (I : ClI ρ c x0 h) (R : RmC x0 B h) : ClI ρ c x0 o ∧ RmC x0 B o := by
  refine ⟨ci_A o1 T r0 f I, ?_⟩
  have ok := o1
  unfold okA at ok
  rw [Bool.and_eq_true, List.all_eq_true, List.all_eq_true] at ok
  have nk : ∀ {k}, clS k = true → k ≠ 4 → k ≠ 34 → k ≠ 36 → ∀ w i, fS A Lo k w i = false := fun {k} hk n4 n34 n36 w i => fS_n (fun p hp e => by
    have := ok.1 p hp
    rw [e, hk] at this
    exact absurd this (by decide)) (fun p hp => Or.inr (fun q hq e => by
    have := ok.2 p hp
    rw [Bool.and_eq_true, List.all_eq_true] at this
    have := this.2 q hq
    rw [e, hk, beq_eq_false_iff_ne.mpr n4, beq_eq_false_iff_ne.mpr n34, beq_eq_false_iff_ne.mpr n36] at this
    exact absurd this (by decide)))
  exact rmc_f T r0 f T' (nk rfl (by decide) (by decide) (by decide)) (nk rfl (by decide) (by decide) (by decide)) (fun w => nk rfl (by decide) (by decide) (by decide) w 11) (ok10 o4) R
theorem cw_A {m : Option (Int32 × Hp)} (hp : hpC c) (T : TH ρ c h) (r0 : ρ x0 = 12) (I : ClI ρ c x0 h) (R : RmC x0 B h) (o1 : okA A Lo = true) (o2 : ((A.all fun p => clR p.1) && Lo.all fun p => p.2.all fun q => clW p.1 q) = true) (o3 : fS A Lo 10 2100 1 = false) (o4 : (!(mS A 10 0) && Lo.all fun p => !(mS p.2 10 0)) = true) (Z : Sat m (ZI ρ (cat c (fS A Lo) h) lo hi)) : Sat m (CP ρ c x0 B (Tp x0 h)) := s_imp Z fun o ho => by
  have T' := th_out T (fs_c1 hp o2) ho.1
  have f := fr_u T ho.1.2.2
  obtain ⟨a, b⟩ := st_A o1 o4 T r0 f T' I R
  refine ⟨ρ, c, exm_0, T', a, b, tp_f T r0 f (fun w => ?_) o3⟩
  have ok := o1
  unfold okA at ok
  rw [Bool.and_eq_true, List.all_eq_true, List.all_eq_true] at ok
  exact fS_n (fun p hp e => by
    have := ok.1 p hp
    rw [e] at this
    exact absurd this (by decide)) (fun p hp => Or.inr (fun q hq e => by
    have := ok.2 p hp
    rw [Bool.and_eq_true, List.all_eq_true] at this
    have := this.2 q hq
    rw [e] at this
    exact absurd this (by decide)))
theorem cw_0 {m : Option (Int32 × Hp)} (T : TH ρ c h) (I : ClI ρ c x0 h) (R : RmC x0 B h) (Z : Sat m (ZI0 h lo hi)) : Sat m (CP ρ c x0 B (Tp x0 h)) := s_imp Z fun o ho => by
  have e : o.2 = h := ho.1
  exact ⟨ρ, c, exm_0, by rw [e]; exact T, by rw [e]; exact I, by rw [e]; exact R, by rw [e]; exact tp_0⟩
end
section
variable {ρ : Nat → Nat} {c : Cm} {h : Hp} {x0 F : Nat} {B : Nat × Nat} {x1 x2 x3 x4 : Int32}
abbrev TXL : List (Nat × Nat) := [(49, 999), (10, 1)]
theorem cw_told (hF : 700000 ≤ F) (T : TH ρ c h) (r0 : ρ x0 = 12) (I : ClI ρ c x0 h) (R : RmC x0 B h) : Sat (sX11_told F h x0 x1) (CP ρ c x0 B (Tp x0 h)) := cw_0 T I R (zX11_told hF T r0 (rg_top _))
theorem cw_out (hF : 700000 ≤ F) (T : TH ρ c h) (r0 : ρ x0 = 12) (I : ClI ρ c x0 h) (R : RmC x0 B h) : Sat (sX11_out h x0 x1) (CP ρ c x0 B (Tp x0 h)) := cw_0 T I R (zX11_out hF T r0 (rg_top _))
theorem cw_at (hF : 700000 ≤ F) (T : TH ρ c h) (r0 : ρ x0 = 12) (I : ClI ρ c x0 h) (R : RmC x0 B h) : Sat (sX11_at h x0 x1 x2) (CP ρ c x0 B (Tp x0 h)) := cw_0 T I R (zX11_at hF T r0 (rg_top _) (rg_top _))
theorem cw_figure (hF : 700000 ≤ F) (T : TH ρ c h) (r0 : ρ x0 = 12) (I : ClI ρ c x0 h) (R : RmC x0 B h) : Sat (sX11_figure F h x0 x1 x2) (CP ρ c x0 B (Tp x0 h)) := cw_0 T I R (zX11_figure hF T r0 (rg_top _) (rg_top _))
theorem cw_attacked (hF : 700000 ≤ F) (T : TH ρ c h) (r0 : ρ x0 = 12) (I : ClI ρ c x0 h) (R : RmC x0 B h) : Sat (sX11_attacked F h x0 x1 x2 x3) (CP ρ c x0 B (Tp x0 h)) := cw_0 T I R (zX11_attacked hF T r0 (rg_top _) (rg_top _) (rg_top _))
theorem cw_played (hF : 700000 ≤ F) (T : TH ρ c h) (r0 : ρ x0 = 12) (I : ClI ρ c x0 h) (R : RmC x0 B h) : Sat (sX11_played h x0 x1 x2) (CP ρ c x0 B (Tp x0 h)) := cw_0 T I R (zX11_played hF T r0 (rg_top _) (rg_top _))
theorem cw_sees (hF : 700000 ≤ F) (T : TH ρ c h) (r0 : ρ x0 = 12) (I : ClI ρ c x0 h) (R : RmC x0 B h) : Sat (sX11_sees F h x0 x1 x2 x3) (CP ρ c x0 B (Tp x0 h)) := cw_0 T I R (zX11_sees hF T r0 (rg_top _) (rg_top _) (rg_top _))
theorem cw_key (hF : 700000 ≤ F) (T : TH ρ c h) (r0 : ρ x0 = 12) (I : ClI ρ c x0 h) (R : RmC x0 B h) : Sat (sX11_key h x0 x1) (CP ρ c x0 B (Tp x0 h)) := cw_0 T I R (zX11_key hF T r0 (rg_top _))
theorem cw_refutes (hF : 700000 ≤ F) (T : TH ρ c h) (r0 : ρ x0 = 12) (I : ClI ρ c x0 h) (R : RmC x0 B h) : Sat (sX11_refutes h x0 x1) (CP ρ c x0 B (Tp x0 h)) := cw_0 T I R (zX11_refutes hF T r0 (rg_top _))
theorem enp_of (P : EnA x0 h) : EnP x0 h := fun e ee n => ⟨((P e ee).2.2 n).1, (P e ee).1⟩
theorem cw_tally (hF : 700000 ≤ F) (T : TH ρ c h) (r0 : ρ x0 = 12) (I : ClI ρ c x0 h) (R : RmC x0 B h) : Sat (sX11_tally F h x0 x1 x2) (CP ρ c x0 B (Tp x0 h)) := cw_0 T I R (zX11_tally hF T r0 (rg_top _) (rg_top _) (enp_of I.2.2.2.2.2.2.2.2.1))
theorem cw_write (hF : 700000 ≤ F) (hp : hpC c) (T : TH ρ c h) (r0 : ρ x0 = 12) (I : ClI ρ c x0 h) (R : RmC x0 B h) : Sat (sX11_write F h x0 x1) (CP ρ c x0 B (Tp x0 h)) := cw_A (A := []) (Lo := [(2101, TXL)]) hp T r0 I R rfl rfl rfl rfl (zX11_write hF (fs_o (.head _)) (th_in _ T) r0 (rg_top _))
theorem cw_view (hF : 700000 ≤ F) (hp : hpC c) (T : TH ρ c h) (r0 : ρ x0 = 12) (I : ClI ρ c x0 h) (R : RmC x0 B h) : Sat (sX11_view F h x0 x1 x2) (CP ρ c x0 B (Tp x0 h)) := cw_A (A := []) (Lo := [(2101, TXL)]) hp T r0 I R rfl rfl rfl rfl (zX11_view hF (fs_o (.head _)) (th_in _ T) r0 (rg_top _) (rg_top _))
theorem cw_same (hF : 700000 ≤ F) (hp : hpC c) (T : TH ρ c h) (r0 : ρ x0 = 12) (I : ClI ρ c x0 h) (R : RmC x0 B h) : Sat (sX11_same F h x0 x1 x2) (CP ρ c x0 B (Tp x0 h)) := cw_A (A := COL) (Lo := [(1503, SHL)]) hp T r0 I R rfl rfl rfl rfl (zX11_same hF fs_a (fs_o (.head _)) (th_in _ T) r0 (rg_top _) (rg_top _) I.1 I.2.1)
theorem cw_moves (hF : 700000 ≤ F) (hp : hpC c) (T : TH ρ c h) (r0 : ρ x0 = 12) (I : ClI ρ c x0 h) (R : RmC x0 B h) : Sat (sX11_moves F h x0 x1) (CP ρ c x0 B (Tp x0 h)) := cw_A (A := COL) (Lo := [(1503, SHL)]) hp T r0 I R rfl rfl rfl rfl (zX11_moves hF fs_a (fs_o (.head _)) (th_in _ T) r0 (rg_top _) I.1 I.2.1)
theorem cw_move (hF : 700000 ≤ F) (hp : hpC c) (T : TH ρ c h) (r0 : ρ x0 = 12) (I : ClI ρ c x0 h) (R : RmC x0 B h) : Sat (sX11_move F h x0 x1 x2 x3) (CP ρ c x0 B (Tp x0 h)) := cw_A (A := COL) (Lo := [(1503, SHL)]) hp T r0 I R rfl rfl rfl rfl (zX11_move hF fs_a (fs_o (.head _)) (th_in _ T) r0 (rg_top _) (rg_top _) (rg_top _) I.1 I.2.1)
theorem cw_ended (hF : 700000 ≤ F) (hp : hpC c) (T : TH ρ c h) (r0 : ρ x0 = 12) (I : ClI ρ c x0 h) (R : RmC x0 B h) : Sat (sX11_ended F h x0 x1) (CP ρ c x0 B (Tp x0 h)) := cw_A (A := COL) (Lo := [(1503, SHL)]) hp T r0 I R rfl rfl rfl rfl (zX11_ended hF fs_a (fs_o (.head _)) (th_in _ T) r0 (rg_top _) I.1 I.2.1)
theorem cw_result (hF : 700000 ≤ F) (hp : hpC c) (T : TH ρ c h) (r0 : ρ x0 = 12) (I : ClI ρ c x0 h) (R : RmC x0 B h) : Sat (sX11_result F h x0 x1) (CP ρ c x0 B (Tp x0 h)) := cw_A (A := COL) (Lo := [(1503, SHL)]) hp T r0 I R rfl rfl rfl rfl (zX11_result hF fs_a (fs_o (.head _)) (th_in _ T) r0 (rg_top _) I.1 I.2.1)
theorem cw_say (hF : 700000 ≤ F) (hp : hpC c) (T : TH ρ c h) (r0 : ρ x0 = 12) (I : ClI ρ c x0 h) (R : RmC x0 B h) : Sat (sX11_say F h x0 x1 x2) (CP ρ c x0 B (Tp x0 h)) := cw_A (A := COL) (Lo := [(1503, SHL), (1802, SHL), (2101, TXL)]) hp T r0 I R rfl rfl rfl rfl (zX11_say hF fs_a (fs_o (.head _)) (fs_o (.tail _ (.head _))) (fs_o (.tail _ (.tail _ (.head _)))) (th_in _ T) r0 (rg_top _) (rg_top _) I.1 I.2.1)
end
