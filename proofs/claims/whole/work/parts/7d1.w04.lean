section
/-! calls of the reference that make nothing -/
def okA2 (p : Nat × Nat) : Bool := if p.1 == 16 then (!(p.2 == 999) && ![11, 12, 13, 14, 15, 33, 34, 37, 40, 41, 42, 44, 46, 47, 48, 49, 50, 52, 55, 56, 59, 65, 68].contains p.2) else (![84, 85, 90, 91, 92, 95, 96, 97, 99, 100, 101, 106, 107].contains p.1 && !(p.1 == 13) && ![62, 63, 64].contains p.1)
def okO2 (w : Nat) (p : Nat × Nat) : Bool := !(p.1 == 16) && ![84, 85, 90, 91, 92, 95, 96, 97, 99, 100, 101, 106, 107].contains p.1 && ((!(p.1 == 13) && ![62, 63, 64].contains p.1) || (!(w == 3400) && decide (w < 5000)))
theorem okA_b {k j w i : Nat} (e : okA2 (k, j) = true) (m : j = 999 ∨ j = i) (b : badR k w i = true) : False := by
  unfold okA2 at e
  unfold badR at b
  simp at e b
  split at e
  · omega
  · omega
theorem okO_b {k j w i : Nat} (e : okO2 w (k, j) = true) (b : badR k w i = true) : False := by
  unfold okO2 at e
  unfold badR at b
  simp at e b
  omega
theorem mS_ex {A : List (Nat × Nat)} {k i : Nat} (m : mS A k i = true) : ∃ j, (k, j) ∈ A ∧ (j = 999 ∨ j = i) := by
  unfold mS at m
  rw [List.any_eq_true] at m
  obtain ⟨⟨k', j⟩, hp, hm⟩ := m
  rw [Bool.and_eq_true, beq_iff_eq, Bool.or_eq_true, beq_iff_eq, beq_iff_eq] at hm
  obtain ⟨h1, h2⟩ := hm
  have h1 : k' = k := h1
  subst h1
  exact ⟨j, hp, h2⟩
abbrev okF (A : List (Nat × Nat)) (L : List (Nat × List (Nat × Nat))) : Bool := A.all okA2 && L.all fun q => q.2.all (okO2 q.1)
theorem ok_bad {A : List (Nat × Nat)} {L : List (Nat × List (Nat × Nat))} (e : okF A L = true) : ∀ k w i, badR k w i = true → fS A L k w i = false := fun k w i b => by
  rw [Bool.and_eq_true, List.all_eq_true, List.all_eq_true] at e
  cases z : fS A L k w i with
  | false => rfl
  | true =>
    exfalso
    unfold fS at z
    rw [Bool.or_eq_true, List.any_eq_true] at z
    rcases z with z | ⟨p, hp, hm⟩
    · obtain ⟨j, hj, hi⟩ := mS_ex z
      exact okA_b (e.1 _ hj) hi b
    · rw [Bool.and_eq_true, beq_iff_eq] at hm
      obtain ⟨j, hj, hi⟩ := mS_ex hm.1
      have := List.all_eq_true.mp (e.2 p hp) _ hj
      rw [← hm.2] at this
      exact okO_b this b
theorem ok_52 {A : List (Nat × Nat)} {L : List (Nat × List (Nat × Nat))} (e : okF A L = true) : ∀ w, fS A L 16 w 52 = false := fun w => by
  rw [Bool.and_eq_true, List.all_eq_true, List.all_eq_true] at e
  cases z : fS A L 16 w 52 with
  | false => rfl
  | true =>
    exfalso
    unfold fS at z
    rw [Bool.or_eq_true, List.any_eq_true] at z
    rcases z with z | ⟨p, hp, hm⟩
    · obtain ⟨j, hj, hi⟩ := mS_ex z
      have := e.1 _ hj
      rcases hi with y | y <;> subst y <;> exact absurd this (by decide)
    · rw [Bool.and_eq_true, beq_iff_eq] at hm
      obtain ⟨j, hj, hi⟩ := mS_ex hm.1
      have := List.all_eq_true.mp (e.2 p hp) _ hj
      simp [okO2] at this
/-- room: what is made, and what may still be made by the reference -/
def RmR (x0 : Nat) (B : Nat × Nat) (h : Hp) : Prop := ∀ a d g f, hR h x0 14 = some a → hR h x0 33 = some d → hR h x0 37 = some g → hR h x0 40 = some f → h.1.1 + 5 * nuC h a 60 + 13 * nuC h d 10 + 5 * nuC h g 2408 + 5 * nuC h f 3000 + (if (hR h x0 52).isNone then 1 else 0) ≤ B.1 ∧ h.1.2 + 162 * nuC h a 60 + 21170 * nuC h d 10 + 162 * nuC h g 2408 + 162 * nuC h f 3000 + (if (hR h x0 52).isNone then 1500000 else 0) ≤ B.2
abbrev RP (ρ : Nat → Nat) (c : Cm) (x0 : Nat) (B : Nat × Nat) (Q : Hp → Prop) : Int32 × Hp → Prop := fun o => ∃ ρ' c', Ext ρ c ρ' c' ∧ TH ρ' c' o.2 ∧ RfI x0 o.2 ∧ RmR x0 B o.2 ∧ Q o.2
/-- the tape's length stays -/
def TpR (x0 : Nat) (h o : Hp) : Prop := hI o x0 1 = hI h x0 1
/-- roles of the reference's laws -/
def rwK (k : Nat) : Bool := k == 15 || (decide (73 ≤ k) && decide (k ≤ 81))
def rfR (k : Nat) : Bool := ((decide (13 ≤ k) && decide (k ≤ 16)) || (decide (62 ≤ k) && decide (k ≤ 120))) && (!(k == 82) && (!(k == 15) && !(decide (73 ≤ k) && decide (k ≤ 81))))
def rfP (p : Nat × Nat) : Bool := rfR p.1 && !(p.1 == 16 && (p.2 == 999 || (p.2 == 0 || (p.2 == 4 || (p.2 == 5 || (p.2 == 11 || (p.2 == 12 || p.2 == 13)))))))
abbrev hpR (c : Cm) : Prop := ∀ k w i, rfR k = true → ¬ (k = 16 ∧ (i = 0 ∨ i = 4 ∨ i = 5 ∨ i = 11 ∨ i = 12 ∨ i = 13)) → cPm c k w i = true
section
variable {ρ ρ1 : Nat → Nat} {c c1 : Cm} {h o g : Hp} {S : Nat → Nat → Nat → Bool} {x0 a b k w i F : Nat} {B : Nat × Nat} {lo hi : Int} {A : List (Nat × Nat)} {L : List (Nat × List (Nat × Nat))} {x1 x2 x3 x4 x5 : Int32}
theorem rf_p {j : Nat} (e : rfP (k, j) = true) (z : j = 999 ∨ j = i) : rfR k = true ∧ ¬ (k = 16 ∧ (i = 0 ∨ i = 4 ∨ i = 5 ∨ i = 11 ∨ i = 12 ∨ i = 13)) := by
  unfold rfP at e
  rw [Bool.and_eq_true, Bool.not_eq_true'] at e
  refine ⟨e.1, fun ⟨z1, z2⟩ => ?_⟩
  have y := e.2
  dsimp only at y
  rw [z1] at y
  rcases z with z | z
  · rw [z] at y; exact absurd y (by decide)
  · rw [z] at y
    rcases z2 with z2 | z2 | z2 | z2 | z2 | z2 <;> (rw [z2] at y; exact absurd y (by decide))
theorem pA_r (hp : hpR c) (e : (A.all fun p => rfP p) = true) : pmA c A := fun w k i m => by
  obtain ⟨j, hj, z⟩ := mS_ex m
  have y := rf_p (List.all_eq_true.mp e _ hj) z
  exact hp k w i y.1 y.2
theorem pO_r (hp : hpR c) (e : (A.all fun p => rfP p) = true) : pmO c w A := fun k i m => pA_r hp e w k i m
theorem fs_r (hp : hpR c) (e : ((A.all fun p => rfP p) && L.all fun q => q.2.all fun p => rfP p) = true) : ∀ k w i, fS A L k w i = true → cPm c k w i = true := fun k w i z => by
  rw [Bool.and_eq_true, List.all_eq_true] at e
  unfold fS at z
  rw [Bool.or_eq_true, List.any_eq_true] at z
  rcases z with z | ⟨p, hp', hm⟩
  · obtain ⟨j, hj, zz⟩ := mS_ex z
    have y := rf_p (e.1 _ hj) zz
    exact hp k w i y.1 y.2
  · rw [Bool.and_eq_true] at hm
    obtain ⟨j, hj, zz⟩ := mS_ex hm.1
    have y := rf_p (List.all_eq_true.mp (List.all_eq_true.mp e.2 p hp') _ hj) zz
    exact hp k w i y.1 y.2
abbrev hlR (c : Cm) : Prop := (∀ k w i, rwK k = true → cPm c k w i = true) ∧ ∀ w i, (i = 4 ∨ i = 5 ∨ i = 11 ∨ i = 12 ∨ i = 13) → cPm c 16 w i = true
def rlP (p : Nat × Nat) : Bool := rwK p.1 || (p.1 == 16 && (p.2 == 4 || (p.2 == 5 || (p.2 == 11 || (p.2 == 12 || p.2 == 13)))))
theorem fs_rl (hp : hpR c) (hl : hlR c) (e : (A.all fun p => rfP p || rlP p) = true) : ∀ k w i, fS A [] k w i = true → cPm c k w i = true := fun k w i z => by
  rw [List.all_eq_true] at e
  unfold fS at z
  rw [Bool.or_eq_true, List.any_eq_true] at z
  rcases z with z | ⟨p, hp', _⟩
  · obtain ⟨j, hj, zz⟩ := mS_ex z
    have y := e _ hj
    rw [Bool.or_eq_true] at y
    rcases y with y | y
    · have y := rf_p y zz
      exact hp k w i y.1 y.2
    · unfold rlP at y
      rw [Bool.or_eq_true, Bool.and_eq_true, Bool.or_eq_true, Bool.or_eq_true, Bool.or_eq_true, Bool.or_eq_true, beq_iff_eq, beq_iff_eq, beq_iff_eq, beq_iff_eq, beq_iff_eq, beq_iff_eq] at y
      rcases y with y | ⟨y1, y2⟩
      · exact hl.1 k w i y
      · have y1 : k = 16 := y1
        have y2 : j = 4 ∨ j = 5 ∨ j = 11 ∨ j = 12 ∨ j = 13 := y2
        rw [y1]
        exact hl.2 w i (by omega)
  · exact absurd hp' (List.not_mem_nil)
theorem rmr_f (T : TH ρ c h) (r0 : ρ x0 = 16) (f : Fr ρ (cat c S h) h o) (e1 : o.1 = h.1) (s14 : ∀ w, S 16 w 14 = false) (s33 : ∀ w, S 16 w 33 = false) (s37 : ∀ w, S 16 w 37 = false) (s40 : ∀ w, S 16 w 40 = false) (s52 : ∀ w, S 16 w 52 = false) (t84 : ∀ w i, S 84 w i = false) (t90 : ∀ w i, S 90 w i = false) (t92 : ∀ w i, S 92 w i = false) (t95 : ∀ w i, S 95 w i = false) (M : RmR x0 B h) : RmR x0 B o := fun a d g f' ea ed eg ef => by
  rw [(fr_RI f r0 (by decide) s14).2.2] at ea
  rw [(fr_RI f r0 (by decide) s33).2.2] at ed
  rw [(fr_RI f r0 (by decide) s37).2.2] at eg
  rw [(fr_RI f r0 (by decide) s40).2.2] at ef
  have qa := rr T (thR T r0 (i := 14) (k2 := 84) rfl (by decide)) ea
  have qd := rr T (thR T r0 (i := 33) (k2 := 90) rfl (by decide)) ed
  have qg := rr T (thR T r0 (i := 37) (k2 := 92) rfl (by decide)) eg
  have qf := rr T (thR T r0 (i := 40) (k2 := 95) rfl (by decide)) ef
  rw [(fr_RI f r0 (by decide) s52).2.2, e1, nuC_eq 60 (fun i _ => (fr_RI f qa (by decide) (fun w => t84 w i)).2.2), nuC_eq 10 (fun i _ => (fr_RI f qd (by decide) (fun w => t90 w i)).2.2), nuC_eq 2408 (fun i _ => (fr_RI f qg (by decide) (fun w => t92 w i)).2.2), nuC_eq 3000 (fun i _ => (fr_RI f qf (by decide) (fun w => t95 w i)).2.2)]
  exact M a d g f' ea ed eg ef
/-- a call that keeps its heap -/
theorem rp_0 {m : Option (Int32 × Hp)} (T : TH ρ c h) (P : RfI x0 h) (M : RmR x0 B h) (Z : Sat m (fun o => o.2 = h)) : Sat m (RP ρ c x0 B (TpR x0 h)) := s_imp Z (fun o e => by
  rw [show o = (o.1, h) from Prod.ext rfl e]
  exact ⟨ρ, c, ex_0, T, P, M, rfl⟩)
/-- a call that writes what the invariant does not read -/
theorem rp_zs {m : Option (Int32 × Hp)} {Q : Int32 × Hp → Prop} (hs : ∀ k w i, fS A L k w i = true → cPm c k w i = true) (ok : okF A L = true) (T : TH ρ c h) (r0 : ρ x0 = 16) (P : RfI x0 h) (M : RmR x0 B h) (Z : Sat m (ZQ (ZI ρ (cat c (fS A L) h) lo hi) Q)) {R : Hp → Prop} (HR : ∀ o, TH ρ c o.2 → Fr ρ (cat c (fS A L) h) h o.2 → Q o → R o.2) : Sat m (RP ρ c x0 B R) := by
  have hb := ok_bad ok
  obtain ⟨o, eo, ⟨z1, z2⟩, q⟩ := Z
  have T' := th_out T hs z1
  have f := fr_u T z1.2.2
  refine ⟨o, eo, ρ, c, ex_0, T', rfi_f T r0 f hb P, rmr_f T r0 f (T'.1.1.trans T.1.1.symm) (bad_i rfl hb) (bad_i rfl hb) (bad_i rfl hb) (bad_i rfl hb) (ok_52 ok) (bad_k rfl hb) (bad_k rfl hb) (bad_k rfl hb) (bad_k rfl hb) M, HR o T' f q⟩
theorem rp_z {m : Option (Int32 × Hp)} {Q : Int32 × Hp → Prop} (hp : hpR c) (ok : okF A L = true) (ok2 : ((A.all fun p => rfP p) && L.all fun q => q.2.all fun p => rfP p) = true) (T : TH ρ c h) (r0 : ρ x0 = 16) (P : RfI x0 h) (M : RmR x0 B h) (Z : Sat m (ZQ (ZI ρ (cat c (fS A L) h) lo hi) Q)) {R : Hp → Prop} (HR : ∀ o, TH ρ c o.2 → Fr ρ (cat c (fS A L) h) h o.2 → Q o → R o.2) : Sat m (RP ρ c x0 B R) := rp_zs (fs_r hp ok2) ok T r0 P M Z HR
theorem s_zq {m : Option (Int32 × Hp)} (Z : Sat m (ZI ρ c lo hi)) : Sat m (ZQ (ZI ρ c lo hi) (fun _ => True)) := s_imp Z (fun _ z => ⟨z, trivial⟩)
theorem rp_t {m : Option (Int32 × Hp)} (hp : hpR c) (ok : okF A L = true) (ok2 : ((A.all fun p => rfP p) && L.all fun q => q.2.all fun p => rfP p) = true) (s1 : ∀ w, fS A L 16 w 1 = false) (T : TH ρ c h) (r0 : ρ x0 = 16) (P : RfI x0 h) (M : RmR x0 B h) (Z : Sat m (ZI ρ (cat c (fS A L) h) lo hi)) : Sat m (RP ρ c x0 B (TpR x0 h)) := rp_z hp ok ok2 T r0 P M (s_zq Z) (fun o _ f _ => (fr_RI f r0 (by decide) s1).1)
theorem rf_b (P : RfI x0 h) : BdP x0 h := by obtain ⟨B, b⟩ := P.2.1; exact bdy_p b
theorem rw_at (hF : 700000 ≤ F) (T : TH ρ c h) (r0 : ρ x0 = 16) (P : RfI x0 h) (M : RmR x0 B h) : Sat (sX15_at h x0 x1 x2) (RP ρ c x0 B (TpR x0 h)) := rp_0 T P M (s_imp (zX15_at hF T r0 (rg_top _) (rg_top _) (rf_b P)) (fun _ z => z.1))
theorem rw_out (hF : 700000 ≤ F) (T : TH ρ c h) (r0 : ρ x0 = 16) (P : RfI x0 h) (M : RmR x0 B h) : Sat (sX15_out h x0 x1) (RP ρ c x0 B (TpR x0 h)) := rp_0 T P M (s_imp (zX15_out hF T r0 (rg_top _)) (fun _ z => z.1))
theorem rw_key (hF : 700000 ≤ F) (T : TH ρ c h) (r0 : ρ x0 = 16) (P : RfI x0 h) (M : RmR x0 B h) : Sat (sX15_key h x0 x1) (RP ρ c x0 B (TpR x0 h)) := rp_0 T P M (s_imp (zX15_key hF T r0 (rg_top _)) (fun _ z => z.1))
theorem rw_played (hF : 700000 ≤ F) (T : TH ρ c h) (r0 : ρ x0 = 16) (P : RfI x0 h) (M : RmR x0 B h) : Sat (sX15_played h x0 x1 x2) (RP ρ c x0 B (TpR x0 h)) := rp_0 T P M (s_imp (zX15_played hF T r0 (rg_top _) (rg_top _)) (fun _ z => z.1))
theorem rw_tally (hF : 700000 ≤ F) (T : TH ρ c h) (r0 : ρ x0 = 16) (P : RfI x0 h) (M : RmR x0 B h) : Sat (sX15_tally F h x0 x1 x2) (RP ρ c x0 B (TpR x0 h)) := rp_0 T P M (s_imp (zX15_tally hF T r0 P.2.2.2.2.2.2.1) (fun _ z => z.1))
theorem rw_attacked (hF : 700000 ≤ F) (hp : hpR c) (T : TH ρ c h) (r0 : ρ x0 = 16) (P : RfI x0 h) (M : RmR x0 B h) : Sat (sX15_attacked F h x0 x1 x2 x3) (RP ρ c x0 B (TpR x0 h)) := rp_t (A := [(16, 23), (16, 24)]) (L := []) hp rfl rfl (fun _ => rfl) T r0 P M (zX15_attacked hF fs_a (th_in _ T) r0 (rg_top _) (rg_top _) (rg_top _) (rf_b P))
theorem rw_back (hF : 700000 ≤ F) (hp : hpR c) (T : TH ρ c h) (r0 : ρ x0 = 16) (P : RfI x0 h) (M : RmR x0 B h) : Sat (sX15_back h x0 x1) (RP ρ c x0 B (TpR x0 h)) := rp_t (A := [(94, 999)]) (L := []) hp rfl rfl (fun _ => rfl) T r0 P M (zX15_back hF fs_a (th_in _ T) r0 (rg_top _))
abbrev saP : List (Nat × Nat) := [(87, 999), (88, 999), (89, 999), (16, 23), (16, 24), (16, 29)]
theorem rw_ended (hF : 700000 ≤ F) (hp : hpR c) (T : TH ρ c h) (r0 : ρ x0 = 16) (P : RfI x0 h) (M : RmR x0 B h) : Sat (sX15_ended F h x0 x1) (RP ρ c x0 B (TpR x0 h)) := rp_t (A := saP) (L := [(2528, bpL), (2530, mpL)]) hp rfl rfl (fun _ => rfl) T r0 P M (zX15_ended hF fs_a (fs_o (.head _)) (fs_o (.tail _ (.head _))) (th_in _ T) r0 (rg_top _) (rf_b P) P.1)
theorem rw_result (hF : 700000 ≤ F) (hp : hpR c) (T : TH ρ c h) (r0 : ρ x0 = 16) (P : RfI x0 h) (M : RmR x0 B h) : Sat (sX15_result F h x0 x1) (RP ρ c x0 B (TpR x0 h)) := rp_t (A := saP) (L := [(2528, bpL), (2530, mpL)]) hp rfl rfl (fun _ => rfl) T r0 P M (zX15_result hF fs_a (fs_o (.head _)) (fs_o (.tail _ (.head _))) (th_in _ T) r0 (rg_top _) (rf_b P) P.1)
theorem rw_move (hF : 700000 ≤ F) (hp : hpR c) (T : TH ρ c h) (r0 : ρ x0 = 16) (P : RfI x0 h) (M : RmR x0 B h) : Sat (sX15_move F h x0 x1 x2 x3) (RP ρ c x0 B (TpR x0 h)) := rp_t (A := saP) (L := [(2528, bpL), (2530, mpL)]) hp rfl rfl (fun _ => rfl) T r0 P M (zX15_move hF fs_a (fs_o (.head _)) (fs_o (.tail _ (.head _))) (th_in _ T) r0 (rg_top _) (rg_top _) (rg_top _) (rf_b P) P.1)
theorem rw_moves (hF : 700000 ≤ F) (hp : hpR c) (T : TH ρ c h) (r0 : ρ x0 = 16) (P : RfI x0 h) (M : RmR x0 B h) : Sat (sX15_moves F h x0 x1) (RP ρ c x0 B (TpR x0 h)) := rp_z (A := saP) (L := [(2528, bpL), (2530, mpL)]) hp rfl rfl T r0 P M (zX15_moves hF fs_a (fs_o (.head _)) (fs_o (.tail _ (.head _))) (th_in _ T) r0 (rg_top _) (rf_b P) P.1) (fun o _ f _ => (fr_RI f r0 (by decide) (fun _ => rfl)).1)
theorem rw_same (hF : 700000 ≤ F) (hp : hpR c) (T : TH ρ c h) (r0 : ρ x0 = 16) (P : RfI x0 h) (M : RmR x0 B h) : Sat (sX15_same F h x0 x1 x2) (RP ρ c x0 B (TpR x0 h)) := rp_t (A := saP) (L := [(2528, bpL), (2531, mpL)]) hp rfl rfl (fun _ => rfl) T r0 P M (zX15_same hF fs_a (fs_o (.head _)) (fs_o (.tail _ (.head _))) (th_in _ T) r0 (rg_top _) (rg_top _) (rf_b P) P.1)
theorem rw_sees (hF : 700000 ≤ F) (hp : hpR c) (T : TH ρ c h) (r0 : ρ x0 = 16) (P : RfI x0 h) (M : RmR x0 B h) : Sat (sX15_sees F h x0 x1 x2 x3) (RP ρ c x0 B (TpR x0 h)) := rp_t (A := [(87, 999), (88, 999), (89, 999), (16, 23), (16, 24)]) (L := []) hp rfl rfl (fun _ => rfl) T r0 P M (zX15_sees hF fs_a (th_in _ T) r0 (rg_top _) (rg_top _) (rg_top _) (rf_b P))
theorem rw_view (hF : 700000 ≤ F) (hp : hpR c) (T : TH ρ c h) (r0 : ρ x0 = 16) (P : RfI x0 h) (M : RmR x0 B h) : Sat (sX15_view F h x0 x1 x2) (RP ρ c x0 B (TpR x0 h)) := rp_t (A := [(83, 999), (87, 999), (88, 999), (89, 999), (16, 3), (16, 23), (16, 24)]) (L := []) hp rfl rfl (fun _ => rfl) T r0 P M (zX15_view hF fs_a (th_in _ T) r0 (rg_top _) (rg_top _) (rf_b P))
theorem rw_write (hF : 700000 ≤ F) (hp : hpR c) (T : TH ρ c h) (r0 : ρ x0 = 16) (P : RfI x0 h) (M : RmR x0 B h) : Sat (sX15_write F h x0 x1) (RP ρ c x0 B (TpR x0 h)) := by
  obtain ⟨B1, b1⟩ := P.2.1
  exact rp_t (A := [(83, 999), (16, 3)]) (L := []) hp rfl rfl (fun _ => rfl) T r0 P M (write_w hF fs_a (th_in _ T) r0 b1 rfl)
end
end
section
/-! calls of the reference that make boards of games, places, boards at a depth -/
section
variable {zq : Nat} {ρ ρ1 : Nat → Nat} {c c1 : Cm} {h o g : Hp} {S : Nat → Nat → Nat → Bool} {E : Nat → Nat → Bool} {wb wl p : Nat → Bool} {x0 a b k w i F : Nat} {B Bq : Nat × Nat} {lo hi : Int} {A : List (Nat × Nat)} {L : List (Nat × List (Nat × Nat))} {x1 x2 x3 x4 x5 : Int32}
theorem cl_id2 {β : Type} (m : Option β) : cl m (fun o => some o) = m := by cases m <;> rfl
/-- a call that makes things -/
theorem rp_m {m : Option (Int32 × Hp)} {K Q : Hp → Prop} (hs : ∀ k w i, S k w i = true → cPm c k w i = true) (T : TH ρ c h) (Z : Sat m (MkI ρ (cat c S h) lo hi K)) (H : ∀ o ρ1 c1, Ext ρ c ρ1 c1 → TH ρ1 c1 o → Fr ρ (cat c S h) h o → K o → RfI x0 o ∧ RmR x0 B o ∧ Q o) : Sat m (RP ρ c x0 B Q) := by
  have y : Sat (cl m (fun o => some o)) (RP ρ c x0 B Q) := s_mI T hs Z (fun o ρ1 c1 X T1 f _ k => by
    obtain ⟨a1, a2, a3⟩ := H o.2 ρ1 c1 X T1 f k
    exact s_some ⟨ρ1, c1, X, T1, a1, a2, a3⟩)
  rw [cl_id2] at y
  exact y
/-- the rest of the invariant, by parts of the frame -/
theorem rfi_p (T : TH ρ c h) (r0 : ρ x0 = 16) (f : Fr ρ (cat c S h) h o) (P : RfI x0 h) (s11 : ∀ w, S 16 w 11 = false) (s12 : ∀ w, S 16 w 12 = false) (s13 : ∀ w, S 16 w 13 = false) (hB : cB S ∨ ∃ B, BdY (sqN x0 h) B x0 o) (hG : cG S ∨ ∃ B, GaY (sqN x0 h) B x0 o) (hD : cD S ∨ DpP x0 o) (hP : cP S ∨ PbP x0 o) (hF : cF S ∨ ∃ B, FdPY (sqN x0 h) B x0 o) (hE : cEn S ∨ EnR x0 o) (hN : NoG x0 o) : RfI x0 o := by
  obtain ⟨p1, ⟨B1, p2⟩, ⟨B2, p3⟩, p4, p5, ⟨B3, p6⟩, p7, p8⟩ := P
  have e : sqN x0 o = sqN x0 h := rfl
  refine ⟨sq_fr T r0 f s11 s12 s13 p1, ?_, ?_, ?_, ?_, ?_, ?_, hN⟩
  · rw [e]; rcases hB with q | q
    · exact bdy_ex T r0 f q p2
    · exact q
  · rw [e]; rcases hG with q | q
    · exact gay_ex T r0 f q p8 p3
    · exact q
  · rcases hD with q | q
    · exact dpp_f T r0 f q p4
    · exact q
  · rcases hP with q | q
    · exact pbp_f T r0 f q p5
    · exact q
  · rw [e]; rcases hF with q | q
    · exact fdy_ex T r0 f q.1 q.2.1 q.2.2.1 q.2.2.2 p6
    · exact q
  · rcases hE with q | q
    · exact enr_f T r0 f q p7
    · exact q
/-- dues, as numbers -/
def dA (x0 : Nat) (h : Hp) (n : Nat) : Prop := ∃ a, hR h x0 14 = some a ∧ nuC h a 60 = n
def dD (x0 : Nat) (h : Hp) (n : Nat) : Prop := ∃ a, hR h x0 33 = some a ∧ nuC h a 10 = n
def dG (x0 : Nat) (h : Hp) (n : Nat) : Prop := ∃ a, hR h x0 37 = some a ∧ nuC h a 2408 = n
def dF (x0 : Nat) (h : Hp) (n : Nat) : Prop := ∃ a, hR h x0 40 = some a ∧ nuC h a 3000 = n
def d52 (x0 : Nat) (h : Hp) : Nat := if (hR h x0 52).isNone then 1 else 0
theorem rm_i {na nd ng nf : Nat} (M : RmR x0 B h) (ha : dA x0 h na) (hd : dD x0 h nd) (hg : dG x0 h ng) (hf : dF x0 h nf) : h.1.1 + 5 * na + 13 * nd + 5 * ng + 5 * nf + d52 x0 h ≤ B.1 ∧ h.1.2 + 162 * na + 21170 * nd + 162 * ng + 162 * nf + 1500000 * d52 x0 h ≤ B.2 := by
  obtain ⟨a, ea, qa⟩ := ha
  obtain ⟨d, ed, qd⟩ := hd
  obtain ⟨g, eg, qg⟩ := hg
  obtain ⟨f, ef, qf⟩ := hf
  have := M a d g f ea ed eg ef
  rw [qa, qd, qg, qf] at this
  unfold d52
  split at this <;> rename_i z <;> simp only [z] <;> simp <;> omega
theorem rm_o {na nd ng nf : Nat} (ha : dA x0 h na) (hd : dD x0 h nd) (hg : dG x0 h ng) (hf : dF x0 h nf) (q : h.1.1 + 5 * na + 13 * nd + 5 * ng + 5 * nf + d52 x0 h ≤ B.1 ∧ h.1.2 + 162 * na + 21170 * nd + 162 * ng + 162 * nf + 1500000 * d52 x0 h ≤ B.2) : RmR x0 B h := fun a d g f ea ed eg ef => by
  obtain ⟨a', ea', qa⟩ := ha
  obtain ⟨d', ed', qd⟩ := hd
  obtain ⟨g', eg', qg⟩ := hg
  obtain ⟨f', ef', qf⟩ := hf
  rw [r_eq ea' ea, r_eq ed' ed, r_eq eg' eg, r_eq ef' ef, qa, qd, qg, qf]
  unfold d52 at q
  split <;> rename_i z <;> simp only [z] at q <;> simp at q <;> omega
theorem da_i (T : TH ρ c h) (r0 : ρ x0 = 16) : ∃ n, dA x0 h n := by
  obtain ⟨a, ea, qa⟩ := thR T r0 (i := 14) (k2 := 84) rfl (by decide)
  exact ⟨_, a, ea, rfl⟩
theorem dd_i (T : TH ρ c h) (r0 : ρ x0 = 16) : ∃ n, dD x0 h n := by
  obtain ⟨a, ea, qa⟩ := thR T r0 (i := 33) (k2 := 90) rfl (by decide)
  exact ⟨_, a, ea, rfl⟩
theorem dg_i (T : TH ρ c h) (r0 : ρ x0 = 16) : ∃ n, dG x0 h n := by
  obtain ⟨a, ea, qa⟩ := thR T r0 (i := 37) (k2 := 92) rfl (by decide)
  exact ⟨_, a, ea, rfl⟩
theorem df_i (T : TH ρ c h) (r0 : ρ x0 = 16) : ∃ n, dF x0 h n := by
  obtain ⟨a, ea, qa⟩ := thR T r0 (i := 40) (k2 := 95) rfl (by decide)
  exact ⟨_, a, ea, rfl⟩
theorem da_f {n : Nat} (T : TH ρ c h) (r0 : ρ x0 = 16) (f : Fr ρ (cat c S h) h o) (s : ∀ w, S 16 w 14 = false) (t : ∀ w i, S 84 w i = false) (d : dA x0 h n) : dA x0 o n := by
  obtain ⟨a, ea, qa⟩ := d
  have q := rr T (thR T r0 (i := 14) (k2 := 84) rfl (by decide)) ea
  exact ⟨a, by rw [(fr_RI f r0 (by decide) s).2.2]; exact ea, by rw [nuC_eq 60 (fun i _ => (fr_RI f q (by decide) (fun w => t w i)).2.2)]; exact qa⟩
theorem dd_f {n : Nat} (T : TH ρ c h) (r0 : ρ x0 = 16) (f : Fr ρ (cat c S h) h o) (s : ∀ w, S 16 w 33 = false) (t : ∀ w i, S 90 w i = false) (d : dD x0 h n) : dD x0 o n := by
  obtain ⟨a, ea, qa⟩ := d
  have q := rr T (thR T r0 (i := 33) (k2 := 90) rfl (by decide)) ea
  exact ⟨a, by rw [(fr_RI f r0 (by decide) s).2.2]; exact ea, by rw [nuC_eq 10 (fun i _ => (fr_RI f q (by decide) (fun w => t w i)).2.2)]; exact qa⟩
theorem dg_f {n : Nat} (T : TH ρ c h) (r0 : ρ x0 = 16) (f : Fr ρ (cat c S h) h o) (s : ∀ w, S 16 w 37 = false) (t : ∀ w i, S 92 w i = false) (d : dG x0 h n) : dG x0 o n := by
  obtain ⟨a, ea, qa⟩ := d
  have q := rr T (thR T r0 (i := 37) (k2 := 92) rfl (by decide)) ea
  exact ⟨a, by rw [(fr_RI f r0 (by decide) s).2.2]; exact ea, by rw [nuC_eq 2408 (fun i _ => (fr_RI f q (by decide) (fun w => t w i)).2.2)]; exact qa⟩
theorem df_f {n : Nat} (T : TH ρ c h) (r0 : ρ x0 = 16) (f : Fr ρ (cat c S h) h o) (s : ∀ w, S 16 w 40 = false) (t : ∀ w i, S 95 w i = false) (d : dF x0 h n) : dF x0 o n := by
  obtain ⟨a, ea, qa⟩ := d
  have q := rr T (thR T r0 (i := 40) (k2 := 95) rfl (by decide)) ea
  exact ⟨a, by rw [(fr_RI f r0 (by decide) s).2.2]; exact ea, by rw [nuC_eq 3000 (fun i _ => (fr_RI f q (by decide) (fun w => t w i)).2.2)]; exact qa⟩
theorem d52_f (r0 : ρ x0 = 16) (f : Fr ρ (cat c S h) h o) (s : ∀ w, S 16 w 52 = false) : d52 x0 o = d52 x0 h := by unfold d52; rw [(fr_RI f r0 (by decide) s).2.2]
-- frames of games
theorem cB_sy (n : nice E) (n84 : ∀ i, E 84 i = false) (n85 : ∀ i, E 85 i = false) (n15 : E 16 15 = false) (hb : wb 3400 = false) : cB (SY E wb wl) := by
  have z : ∀ k i, (k = 13 ∨ k = 14 ∨ (62 ≤ k ∧ k ≤ 72) ∨ k = 15) → mS saL k i = false → mS mpL k i = false → SY E wb wl k 3400 i = false := fun k i a0 a1 a2 => sy_f (n.1 k i a0) a1 (Or.inr hb) (Or.inl a2)
  exact ⟨fun _ => sy_f n.2.2.2.2.2 rfl (Or.inl rfl) (Or.inl rfl), fun _ => sy_f n15 rfl (Or.inl rfl) (Or.inl rfl), fun _ i => sy_f (n84 i) rfl (Or.inl rfl) (Or.inl rfl), fun _ i => sy_f (n85 i) rfl (Or.inl rfl) (Or.inl rfl), fun i _ => z _ _ (by omega) rfl rfl, fun i => z _ _ (by omega) rfl rfl, fun i => z _ _ (by omega) rfl rfl, fun i => z _ _ (by omega) rfl rfl⟩
theorem cG_sy (n : nice E) (n92 : ∀ i, E 92 i = false) (hb : ∀ j, wb (5000 + j) = false) : cG (SY E wb wl) := by
  have z : ∀ j k i, (k = 13 ∨ k = 14 ∨ (62 ≤ k ∧ k ≤ 72) ∨ k = 15) → mS saL k i = false → mS mpL k i = false → SY E wb wl k (5000 + j) i = false := fun j k i a0 a1 a2 => sy_f (n.1 k i a0) a1 (Or.inr (hb j)) (Or.inl a2)
  exact ⟨fun _ => sy_f n.2.2.2.2.1 rfl (Or.inl rfl) (Or.inl rfl), fun _ i => sy_f (n92 i) rfl (Or.inl rfl) (Or.inl rfl), fun j _ => ⟨fun i _ => z _ _ _ (by omega) rfl rfl, fun i => z _ _ _ (by omega) rfl rfl, fun i => z _ _ _ (by omega) rfl rfl, fun i => z _ _ _ (by omega) rfl rfl⟩⟩
theorem cF_sy (n : nice E) (n95 : ∀ k i, k = 95 ∨ k = 96 ∨ k = 97 → E k i = false) (nx : ∀ i, i = 40 ∨ i = 41 ∨ i = 42 ∨ i = 44 → E 16 i = false) (hb : ∀ j, wb (11000 + j) = false) : cF (SY E wb wl) := by
  have z : ∀ j k i, (k = 13 ∨ k = 14 ∨ (62 ≤ k ∧ k ≤ 72) ∨ k = 15) → mS saL k i = false → mS mpL k i = false → SY E wb wl k (11000 + j) i = false := fun j k i a0 a1 a2 => sy_f (n.1 k i a0) a1 (Or.inr (hb j)) (Or.inl a2)
  exact ⟨⟨fun _ => sy_f (nx _ (by omega)) rfl (Or.inl rfl) (Or.inl rfl), fun _ i => sy_f (n95 _ i (by omega)) rfl (Or.inl rfl) (Or.inl rfl), fun j => ⟨fun i _ => z _ _ _ (by omega) rfl rfl, fun i => z _ _ _ (by omega) rfl rfl, fun i => z _ _ _ (by omega) rfl rfl, fun i => z _ _ _ (by omega) rfl rfl⟩⟩, ⟨fun _ => sy_f (nx _ (by omega)) rfl (Or.inl rfl) (Or.inl rfl), fun _ i => sy_f (n95 _ i (by omega)) rfl (Or.inl rfl) (Or.inl rfl)⟩, ⟨fun _ => sy_f (nx _ (by omega)) rfl (Or.inl rfl) (Or.inl rfl), fun _ i => sy_f (n95 _ i (by omega)) rfl (Or.inl rfl) (Or.inl rfl)⟩, fun _ => sy_f (nx _ (by omega)) rfl (Or.inl rfl) (Or.inl rfl)⟩
theorem cEn_sy (nx : ∀ i, i = 13 ∨ i = 46 ∨ i = 47 ∨ i = 48 ∨ i = 49 ∨ i = 50 ∨ i = 55 ∨ i = 56 ∨ i = 59 → E 16 i = false) (n99 : ∀ k i, k = 99 ∨ k = 100 ∨ k = 101 ∨ k = 106 ∨ k = 107 → E k i = false) : cEn (SY E wb wl) := ⟨fun _ => sy_f (nx _ (by omega)) rfl (Or.inl rfl) (Or.inl rfl), fun _ => sy_f (nx _ (by omega)) rfl (Or.inl rfl) (Or.inl rfl), fun _ => sy_f (nx _ (by omega)) rfl (Or.inl rfl) (Or.inl rfl), fun _ => sy_f (nx _ (by omega)) rfl (Or.inl rfl) (Or.inl rfl), fun _ => sy_f (nx _ (by omega)) rfl (Or.inl rfl) (Or.inl rfl), fun _ => sy_f (nx _ (by omega)) rfl (Or.inl rfl) (Or.inl rfl), fun _ => sy_f (nx _ (by omega)) rfl (Or.inl rfl) (Or.inl rfl), fun _ => sy_f (nx _ (by omega)) rfl (Or.inl rfl) (Or.inl rfl), fun _ => sy_f (nx _ (by omega)) rfl (Or.inl rfl) (Or.inl rfl), fun _ i => sy_f (n99 _ i (by omega)) rfl (Or.inl rfl) (Or.inl rfl), fun _ i => sy_f (n99 _ i (by omega)) rfl (Or.inl rfl) (Or.inl rfl), fun _ i => sy_f (n99 _ i (by omega)) rfl (Or.inl rfl) (Or.inl rfl), fun _ i => sy_f (n99 _ i (by omega)) rfl (Or.inl rfl) (Or.inl rfl), fun _ i => sy_f (n99 _ i (by omega)) rfl (Or.inl rfl) (Or.inl rfl)⟩
theorem nice_gm : nice gmE2 := by
  refine ⟨fun k i hk => ?_, rfl, rfl, rfl, rfl, rfl⟩
  unfold gmE2
  rw [bq_ne (show k ≠ 92 by omega), bq_ne (show k ≠ 93 by omega), bq_ne (show k ≠ 94 by omega)]; rfl
theorem gm_f {k i : Nat} (hk : k ≠ 92 ∧ k ≠ 93 ∧ k ≠ 94) : gmE2 k i = false := by
  unfold gmE2
  rw [bq_ne hk.1, bq_ne hk.2.1, bq_ne hk.2.2]; rfl
theorem gm_n {i : Nat} (h : 2408 ≤ i) : gmE2 92 i = false := by
  unfold gmE2
  rw [decide_eq_false (show ¬ i ≤ 2407 by omega)]; rfl
theorem sy_r (hp : hpR c) (hE : ∀ k i, E k i = true → rfR k = true ∧ ¬ (k = 16 ∧ (i = 0 ∨ i = 4 ∨ i = 5 ∨ i = 11 ∨ i = 12 ∨ i = 13))) : ∀ k w i, SY E wb wl k w i = true → cPm c k w i = true := fun k w i m => by
  unfold SY at m
  rw [Bool.or_eq_true, Bool.or_eq_true, Bool.or_eq_true, Bool.and_eq_true, Bool.and_eq_true] at m
  rcases m with (a | a) | (⟨a, _⟩ | ⟨a, _⟩)
  · exact hp k w i (hE k i a).1 (hE k i a).2
  · exact pA_r (A := saL) hp rfl w k i a
  · exact pA_r (A := bpL) hp rfl w k i a
  · exact pA_r (A := mpL) hp rfl w k i a
theorem gm_r {k i : Nat} (m : gmE2 k i = true) : rfR k = true ∧ ¬ (k = 16 ∧ (i = 0 ∨ i = 4 ∨ i = 5 ∨ i = 11 ∨ i = 12 ∨ i = 13)) := by
  unfold gmE2 at m
  rw [Bool.or_eq_true, Bool.or_eq_true, Bool.and_eq_true, beq_iff_eq, beq_iff_eq, beq_iff_eq] at m
  rcases m with (m | m) | m
  · rw [m.1]; exact ⟨rfl, fun z => absurd z.1 (by decide)⟩
  · rw [m]; exact ⟨rfl, fun z => absurd z.1 (by decide)⟩
  · rw [m]; exact ⟨rfl, fun z => absurd z.1 (by decide)⟩
/-- a call that makes boards of games -/
theorem rp_g {m : Option (Int32 × Hp)} (hp : hpR c) (h34 : wb 3400 = false) (h11 : ∀ j, wb (11000 + j) = false) (T : TH ρ c h) (r0 : ρ x0 = 16) (P : RfI x0 h) (M : RmR x0 B h) (Z : ∀ Bq, GaY (sqN x0 h) Bq x0 h → Sat m (MkI ρ (cat c (SY gmE2 wb wl) h) lo hi (GaY (sqN x0 h) Bq x0))) : Sat m (RP ρ c x0 B (TpR x0 h)) := by
  obtain ⟨na, ha⟩ := da_i T r0
  obtain ⟨nd, hd⟩ := dd_i T r0
  obtain ⟨ng, hg⟩ := dg_i T r0
  obtain ⟨nf, hf⟩ := df_i T r0
  have N := rm_i M ha hd hg hf
  obtain ⟨B2, G2⟩ := P.2.2.1
  have G : GaY (sqN x0 h) (B.1 - (5 * na + 13 * nd + 5 * nf + d52 x0 h), B.2 - (162 * na + 21170 * nd + 162 * nf + 1500000 * d52 x0 h)) x0 h := ⟨G2.1, fun q eq => by
    obtain ⟨g', eg', qg⟩ := hg
    rw [r_eq eg' eq, qg]
    show _ ≤ B.1 - _ ∧ _ ≤ B.2 - _
    omega⟩
  refine rp_m (sy_r hp (fun k i => gm_r)) T (Z _ G) (fun o ρ1 c1 X T1 f K => ?_)
  have z16 : ∀ {i : Nat}, mS saL 16 i = false → ∀ w, SY gmE2 wb wl 16 w i = false := fun {i} hi w => sy_f (gm_f (by decide)) hi (Or.inl rfl) (Or.inl rfl)
  have zk : ∀ {k : Nat}, (k ≠ 92 ∧ k ≠ 93 ∧ k ≠ 94) → (∀ i, mS saL k i = false) → (∀ i, mS bpL k i = false) → (∀ i, mS mpL k i = false) → ∀ w i, SY gmE2 wb wl k w i = false := fun {k} hk a1 a2 a3 w i => sy_f (gm_f hk) (a1 i) (Or.inl (a2 i)) (Or.inl (a3 i))
  refine ⟨rfi_p T r0 f P (z16 rfl) (z16 rfl) (z16 rfl) (Or.inl (cB_sy nice_gm (fun _ => rfl) (fun _ => rfl) rfl h34)) (Or.inr ⟨_, K⟩) (Or.inl ⟨z16 rfl, z16 rfl, zk (by decide) (fun _ => rfl) (fun _ => rfl) (fun _ => rfl), zk (by decide) (fun _ => rfl) (fun _ => rfl) (fun _ => rfl)⟩) (Or.inl ⟨z16 rfl, z16 rfl⟩) (Or.inl (cF_sy nice_gm (fun k i hk => gm_f (by omega)) (fun i hi => gm_f (by decide)) h11)) (Or.inl (cEn_sy (fun i hi => gm_f (by decide)) (fun k i hk => gm_f (by omega)))) (nog_f T r0 f (z16 rfl) (fun w i hi => sy_f (gm_n hi) rfl (Or.inl rfl) (Or.inl rfl)) P.2.2.2.2.2.2.2), ?_, (fr_RI f r0 (by decide) (z16 rfl)).1⟩
  have ha' := da_f T r0 f (z16 rfl) (zk (by decide) (fun _ => rfl) (fun _ => rfl) (fun _ => rfl)) ha
  have hd' := dd_f T r0 f (z16 rfl) (zk (by decide) (fun _ => rfl) (fun _ => rfl) (fun _ => rfl)) hd
  have hf' := df_f T r0 f (z16 rfl) (zk (by decide) (fun _ => rfl) (fun _ => rfl) (fun _ => rfl)) hf
  have h5 := d52_f r0 f (z16 rfl)
  obtain ⟨ng', hg'⟩ := dg_i T1 (ex_r X r0 (by decide))
  refine rm_o ha' hd' hg' hf' ?_
  obtain ⟨g', eg', qg⟩ := hg'
  have k2 := K.2 g' eg'
  rw [qg] at k2
  have k3 : o.1.1 + 5 * ng' ≤ B.1 - (5 * na + 13 * nd + 5 * nf + d52 x0 h) ∧ o.1.2 + 162 * ng' ≤ B.2 - (162 * na + 21170 * nd + 162 * nf + 1500000 * d52 x0 h) := k2
  rw [h5]
  omega
theorem rw_start (hF : 700000 ≤ F) (hp : hpR c) (T : TH ρ c h) (r0 : ρ x0 = 16) (P : RfI x0 h) (M : RmR x0 B h) : Sat (sX15_start h x0 x1 x2) (RP ρ c x0 B (TpR x0 h)) := by
  obtain ⟨B1, b1⟩ := P.2.1
  exact rp_g (wb := fun w => decide (5000 ≤ w) && decide (w ≤ 7407)) (wl := no) hp rfl (fun j => by simp; omega) T r0 P M (fun Bq G => start_w hF (sx_c _) (th_in _ T) r0 b1 G)
theorem rw_add (hF : 700000 ≤ F) (hp : hpR c) (T : TH ρ c h) (r0 : ρ x0 = 16) (P : RfI x0 h) (M : RmR x0 B h) : Sat (sX15_add F h x0 x1 x2) (RP ρ c x0 B (TpR x0 h)) :=
  rp_g (wb := gmB) (wl := is 2530) hp rfl (fun j => by unfold gmB; simp; omega) T r0 P M (fun Bq G => add_w hF (sx_c _) (th_in _ T) r0 P.1 G)
theorem rw_game (hF : 700000 ≤ F) (hp : hpR c) (T : TH ρ c h) (r0 : ρ x0 = 16) (P : RfI x0 h) (M : RmR x0 B h) : Sat (sX15_game F h x0 x1 x2) (RP ρ c x0 B (TpR x0 h)) :=
  rp_g (wb := is 2528) (wl := g2) hp rfl (fun j => is_f (by omega)) T r0 P M (fun Bq G => game_w hF (sx_c _) (th_in _ T) r0 P.1 G)
theorem rw_book (hF : 700000 ≤ F) (hp : hpR c) (T : TH ρ c h) (r0 : ρ x0 = 16) (P : RfI x0 h) (M : RmR x0 B h) : Sat (sX15_book F h x0 x1 x2) (RP ρ c x0 B (TpR x0 h)) :=
  rp_g (wb := is 2528) (wl := g2) hp rfl (fun j => is_f (by omega)) T r0 P M (fun Bq G => book_w hF (sx_c _) (th_in _ T) r0 (rf_b P) P.1 G)
end
end
section
/-! calls of the reference that make places, boards at a depth, found boards -/
section
variable {zq : Nat} {ρ ρ1 : Nat → Nat} {c c1 : Cm} {h o g : Hp} {S : Nat → Nat → Nat → Bool} {E : Nat → Nat → Bool} {wb wl p : Nat → Bool} {x0 a b k w i F : Nat} {B Bq : Nat × Nat} {lo hi : Int} {x1 x2 x3 x4 x5 : Int32}
/-- a call that makes places -/
theorem rp_b {m : Option (Int32 × Hp)} {R : Hp → Prop} (hs : ∀ k w i, S k w i = true → cPm c k w i = true) (s11 : ∀ w, S 16 w 11 = false) (s12 : ∀ w, S 16 w 12 = false) (s13 : ∀ w, S 16 w 13 = false) (s52 : ∀ w, S 16 w 52 = false) (hG : cG S) (hD : cD S) (hP : cP S) (hF : cF S) (hE : cEn S) (T : TH ρ c h) (r0 : ρ x0 = 16) (P : RfI x0 h) (M : RmR x0 B h) (Z : ∀ Bq, BdY (sqN x0 h) Bq x0 h → Sat m (MkI ρ (cat c S h) lo hi (fun o => BdY (sqN x0 h) Bq x0 o ∧ R o))) {Q : Hp → Prop} (HQ : ∀ o, Fr ρ (cat c S h) h o → R o → Q o) : Sat m (RP ρ c x0 B Q) := by
  obtain ⟨na, ha⟩ := da_i T r0
  obtain ⟨nd, hd⟩ := dd_i T r0
  obtain ⟨ng, hg⟩ := dg_i T r0
  obtain ⟨nf, hf⟩ := df_i T r0
  have N := rm_i M ha hd hg hf
  obtain ⟨B2, G2⟩ := P.2.1
  have G : BdY (sqN x0 h) (B.1 - (5 * ng + 13 * nd + 5 * nf + d52 x0 h), B.2 - (162 * ng + 21170 * nd + 162 * nf + 1500000 * d52 x0 h)) x0 h := ⟨G2.1, G2.2.1, fun q eq => by
    obtain ⟨g', eg', qg⟩ := ha
    rw [r_eq eg' eq, qg]
    show _ ≤ B.1 - _ ∧ _ ≤ B.2 - _
    omega⟩
  refine rp_m hs T (Z _ G) (fun o ρ1 c1 X T1 f K => ?_)
  refine ⟨rfi_p T r0 f P s11 s12 s13 (Or.inr ⟨_, K.1⟩) (Or.inl hG) (Or.inl hD) (Or.inl hP) (Or.inl hF) (Or.inl hE) (nog_f T r0 f hG.1 (fun w i _ => hG.2.1 w i) P.2.2.2.2.2.2.2), ?_, HQ o f K.2⟩
  have hg' := dg_f T r0 f hG.1 hG.2.1 hg
  have hd' := dd_f T r0 f hD.1 hD.2.2.1 hd
  have hf' := df_f T r0 f hF.1.1 hF.1.2.1 hf
  have h5 := d52_f r0 f s52
  obtain ⟨na', ha'⟩ := da_i T1 (ex_r X r0 (by decide))
  refine rm_o ha' hd' hg' hf' ?_
  obtain ⟨g', eg', qg⟩ := ha'
  have k2 := K.1.2.2 g' eg'
  rw [qg] at k2
  have k3 : o.1.1 + 5 * na' ≤ B.1 - (5 * ng + 13 * nd + 5 * nf + d52 x0 h) ∧ o.1.2 + 162 * na' ≤ B.2 - (162 * ng + 21170 * nd + 162 * nf + 1500000 * d52 x0 h) := k2
  rw [h5]
  omega
theorem kp_f {k i : Nat} (h1 : k ≠ 84) (h2 : k ≠ 85) (h3 : k ≠ 16 ∨ i ≠ 16) : kpE k i = false := by
  unfold kpE mS
  show ((84 == k && (999 == 999 || 999 == i)) || ((85 == k && (999 == 999 || 999 == i)) || ((16 == k && (16 == 999 || 16 == i)) || false))) = false
  rw [bq_ne (fun z => h1 z.symm), bq_ne (fun z => h2 z.symm)]
  rcases h3 with z | z
  · rw [bq_ne (fun y => z y.symm)]; rfl
  · have : (16 == i) = false := bq_ne (fun y => z y.symm)
    rw [this]; simp
theorem kp_r {k i : Nat} (m : kpE k i = true) : rfR k = true ∧ ¬ (k = 16 ∧ (i = 0 ∨ i = 4 ∨ i = 5 ∨ i = 11 ∨ i = 12 ∨ i = 13)) := by
  obtain ⟨j, hj, zz⟩ := mS_ex (show mS [(84, 999), (85, 999), (16, 16)] k i = true from m)
  exact rf_p (List.all_eq_true.mp (show (([(84, 999), (85, 999), (16, 16)] : List (Nat × Nat)).all fun p => rfP p) = true from rfl) _ hj) zz
theorem cD_sy (n33 : E 16 33 = false) (n34 : E 16 34 = false) (n90 : ∀ i, E 90 i = false) (n91 : ∀ i, E 91 i = false) : cD (SY E wb wl) := ⟨fun _ => sy_f n33 rfl (Or.inl rfl) (Or.inl rfl), fun _ => sy_f n34 rfl (Or.inl rfl) (Or.inl rfl), fun _ i => sy_f (n90 i) rfl (Or.inl rfl) (Or.inl rfl), fun _ i => sy_f (n91 i) rfl (Or.inl rfl) (Or.inl rfl)⟩
theorem cP_sy (n65 : E 16 65 = false) (n68 : E 16 68 = false) : cP (SY E wb wl) := ⟨fun _ => sy_f n65 rfl (Or.inl rfl) (Or.inl rfl), fun _ => sy_f n68 rfl (Or.inl rfl) (Or.inl rfl)⟩
theorem mk_t {m : Option (Int32 × Hp)} {K : Hp → Prop} (Z : Sat m (MkI ρ c lo hi K)) : Sat m (MkI ρ c lo hi (fun o => K o ∧ True)) := s_imp Z (fun o ⟨ρ', c', X, T, r, k⟩ => ⟨ρ', c', X, T, r, k, trivial⟩)
theorem rw_go (hF : 700000 ≤ F) (hp : hpR c) (T : TH ρ c h) (r0 : ρ x0 = 16) (P : RfI x0 h) (M : RmR x0 B h) : Sat (sX15_go F h x0 x1 x2) (RP ρ c x0 B (TpR x0 h)) :=
  rp_b (S := SY kpE goB (is 2530)) (R := fun _ => True) (sy_r hp (fun k i => kp_r)) (fun _ => sy_f rfl rfl (Or.inl rfl) (Or.inl rfl)) (fun _ => sy_f rfl rfl (Or.inl rfl) (Or.inl rfl)) (fun _ => sy_f rfl rfl (Or.inl rfl) (Or.inl rfl)) (fun _ => sy_f rfl rfl (Or.inl rfl) (Or.inl rfl)) (cG_sy nice_kp (fun _ => rfl) (fun j => by unfold goB; simp; omega)) (cD_sy rfl rfl (fun _ => rfl) (fun _ => rfl)) (cP_sy rfl rfl) (cF_sy nice_kp (fun k i hk => kp_f (by omega) (by omega) (Or.inl (by omega))) (fun i hi => kp_f (by decide) (by decide) (Or.inr (by omega))) (fun j => by unfold goB; simp; omega)) (cEn_sy (fun i hi => kp_f (by decide) (by decide) (Or.inr (by omega))) (fun k i hk => kp_f (by omega) (by omega) (Or.inl (by omega)))) T r0 P M (fun Bq G => mk_t (go_w hF (sx_c _) (th_in _ T) r0 G P.1)) (fun o f _ => (fr_RI f r0 (by decide) (fun _ => sy_f rfl rfl (Or.inl rfl) (Or.inl rfl))).1)
theorem rw_beforeAt (hF : 700000 ≤ F) (hp : hpR c) (T : TH ρ c h) (r0 : ρ x0 = 16) (P : RfI x0 h) (M : RmR x0 B h) : Sat (sX15_beforeAt F h x0 x1) (RP ρ c x0 B (TpR x0 h)) := by
  obtain ⟨B6, p6⟩ := P.2.2.2.2.2.1
  have ob : ∀ w, w ≠ 3400 → ∀ k i, (k = 13 ∨ k = 62 ∨ k = 63 ∨ k = 64) → fS kpL [(3400, bpL)] k w i = false := fun w hw k i hk => fs_cf (Or.inr hw) (by rcases hk with z | z | z | z <;> subst z <;> rfl)
  refine rp_b (S := fS kpL [(3400, bpL)]) (R := fun o => ∃ B, FdPY (sqN x0 h) B x0 o) (fs_r hp rfl) (fun _ => rfl) (fun _ => rfl) (fun _ => rfl) (fun _ => rfl) ⟨fun _ => rfl, fun _ _ => rfl, fun j _ => ⟨fun i _ => ob _ (by omega) _ _ (by omega), fun i => ob _ (by omega) _ _ (by omega), fun i => ob _ (by omega) _ _ (by omega), fun i => ob _ (by omega) _ _ (by omega)⟩⟩ ⟨fun _ => rfl, fun _ => rfl, fun _ _ => rfl, fun _ _ => rfl⟩ ⟨fun _ => rfl, fun _ => rfl⟩ ⟨ks_kpY.1, ks_kpY.2.1, ks_kpY.2.2.1, ks_kpY.2.2.2.1⟩ ⟨fun _ => rfl, fun _ => rfl, fun _ => rfl, fun _ => rfl, fun _ => rfl, fun _ => rfl, fun _ => rfl, fun _ => rfl, fun _ => rfl, fun _ _ => rfl, fun _ _ => rfl, fun _ _ => rfl, fun _ _ => rfl, fun _ _ => rfl⟩ T r0 P M (fun Bq G => beforeAt_w hF fs_a (fs_o (.head _)) (th_in _ T) r0 G p6) (fun o f _ => (fr_RI f r0 (by decide) (fun _ => rfl)).1)
/-- now: places and games -/
theorem rw_now (hF : 700000 ≤ F) (hp : hpR c) (T : TH ρ c h) (r0 : ρ x0 = 16) (P : RfI x0 h) (M : RmR x0 B h) : Sat (sX15_now F h x0 x1) (RP ρ c x0 B (TpR x0 h)) := by
  obtain ⟨na, ha⟩ := da_i T r0
  obtain ⟨nd, hd⟩ := dd_i T r0
  obtain ⟨ng, hg⟩ := dg_i T r0
  obtain ⟨nf, hf⟩ := df_i T r0
  have N := rm_i M ha hd hg hf
  have K0 : BG (sqN x0 h) (B.1 - (13 * nd + 5 * nf + d52 x0 h), B.2 - (21170 * nd + 162 * nf + 1500000 * d52 x0 h)) x0 h := ⟨P.2.1, P.2.2.1, fun r q er eq => by
    obtain ⟨a', ea', qa⟩ := ha
    obtain ⟨g', eg', qg⟩ := hg
    rw [r_eq ea' er, r_eq eg' eq, qa, qg]
    show _ ≤ B.1 - _ ∧ _ ≤ B.2 - _
    omega⟩
  have nE : ∀ {k i : Nat}, kpE k i = false → k ≠ 92 → (fun k i => kpE k i || (k == 92 && decide (i ≤ 2407))) k i = false := fun {k i} z n => by show (kpE k i || (k == 92 && decide (i ≤ 2407))) = false; rw [z, bq_ne n]; rfl
  have sy : ∀ {k w i : Nat}, kpE k i = false → k ≠ 92 → mS saL k i = false → (mS bpL k i = false ∨ is 3400 w = false) → mS mpL k i = false → SY (fun k i => kpE k i || (k == 92 && decide (i ≤ 2407))) (is 3400) no k w i = false := fun z n a b c => sy_f (nE z n) a b (Or.inl c)
  have z16 : ∀ {i : Nat}, i ≠ 16 → mS saL 16 i = false → ∀ w, SY (fun k i => kpE k i || (k == 92 && decide (i ≤ 2407))) (is 3400) no 16 w i = false := fun {i} hi m w => sy (kp_f (by decide) (by decide) (Or.inr hi)) (by decide) m (Or.inl rfl) rfl
  have zk : ∀ {k : Nat}, (k ≠ 84 ∧ k ≠ 85 ∧ k ≠ 92 ∧ k ≠ 16) → (∀ i, mS saL k i = false) → (∀ i, mS bpL k i = false) → (∀ i, mS mpL k i = false) → ∀ w i, SY (fun k i => kpE k i || (k == 92 && decide (i ≤ 2407))) (is 3400) no k w i = false := fun {k} hk a1 a2 a3 w i => sy (kp_f hk.1 hk.2.1 (Or.inl hk.2.2.2)) hk.2.2.1 (a1 i) (Or.inl (a2 i)) (a3 i)
  have bo : ∀ w, w ≠ 3400 → bdO (SY (fun k i => kpE k i || (k == 92 && decide (i ≤ 2407))) (is 3400) no) w := fun w hw => ⟨fun i _ => sy (kp_f (by decide) (by decide) (Or.inl (by decide))) (by decide) rfl (Or.inr (is_f hw)) rfl, fun i => sy (kp_f (by decide) (by decide) (Or.inl (by decide))) (by decide) rfl (Or.inr (is_f hw)) rfl, fun i => sy (kp_f (by decide) (by decide) (Or.inl (by decide))) (by decide) rfl (Or.inr (is_f hw)) rfl, fun i => sy (kp_f (by decide) (by decide) (Or.inl (by decide))) (by decide) rfl (Or.inr (is_f hw)) rfl⟩
  refine rp_m (S := SY (fun k i => kpE k i || (k == 92 && decide (i ≤ 2407))) (is 3400) no) (sy_r hp (fun k i z => by
    rw [Bool.or_eq_true, Bool.and_eq_true, beq_iff_eq] at z
    rcases z with z | z
    · exact kp_r z
    · rw [z.1]; exact ⟨rfl, fun y => absurd y.1 (by decide)⟩)) T (now_w hF (sx_c _) (th_in _ T) r0 K0) (fun o ρ1 c1 X T1 f K => ?_)
  have cd : cD (SY (fun k i => kpE k i || (k == 92 && decide (i ≤ 2407))) (is 3400) no) := ⟨z16 (by decide) rfl, z16 (by decide) rfl, zk (by decide) (fun _ => rfl) (fun _ => rfl) (fun _ => rfl), zk (by decide) (fun _ => rfl) (fun _ => rfl) (fun _ => rfl)⟩
  have cf : cF (SY (fun k i => kpE k i || (k == 92 && decide (i ≤ 2407))) (is 3400) no) := ⟨⟨z16 (by decide) rfl, zk (by decide) (fun _ => rfl) (fun _ => rfl) (fun _ => rfl), fun j => by
    obtain ⟨a1, a2, a3, a4⟩ := bo (11000 + j) (by omega)
    exact ⟨fun i hi => a1 i (by omega), a2, a3, a4⟩⟩, ⟨z16 (by decide) rfl, zk (by decide) (fun _ => rfl) (fun _ => rfl) (fun _ => rfl)⟩, ⟨z16 (by decide) rfl, zk (by decide) (fun _ => rfl) (fun _ => rfl) (fun _ => rfl)⟩, z16 (by decide) rfl⟩
  have ce : cEn (SY (fun k i => kpE k i || (k == 92 && decide (i ≤ 2407))) (is 3400) no) := ⟨z16 (by decide) rfl, z16 (by decide) rfl, z16 (by decide) rfl, z16 (by decide) rfl, z16 (by decide) rfl, z16 (by decide) rfl, z16 (by decide) rfl, z16 (by decide) rfl, z16 (by decide) rfl, zk (by decide) (fun _ => rfl) (fun _ => rfl) (fun _ => rfl), zk (by decide) (fun _ => rfl) (fun _ => rfl) (fun _ => rfl), zk (by decide) (fun _ => rfl) (fun _ => rfl) (fun _ => rfl), zk (by decide) (fun _ => rfl) (fun _ => rfl) (fun _ => rfl), zk (by decide) (fun _ => rfl) (fun _ => rfl) (fun _ => rfl)⟩
  refine ⟨rfi_p T r0 f P (z16 (by decide) rfl) (z16 (by decide) rfl) (z16 (by decide) rfl) (Or.inr K.1) (Or.inr K.2.1) (Or.inl cd) (Or.inl ⟨z16 (by decide) rfl, z16 (by decide) rfl⟩) (Or.inl cf) (Or.inl ce) (nog_f T r0 f (z16 (by decide) rfl) (fun w i hi => sy_f (show (kpE 92 i || (92 == 92 && decide (i ≤ 2407))) = false by rw [decide_eq_false (show ¬ i ≤ 2407 by omega), kp_f (by decide) (by decide) (Or.inl (by decide))]; rfl) rfl (Or.inl rfl) (Or.inl rfl)) P.2.2.2.2.2.2.2), ?_, (fr_RI f r0 (by decide) (z16 (by decide) rfl)).1⟩
  have hd' := dd_f T r0 f cd.1 cd.2.2.1 hd
  have hf' := df_f T r0 f cf.1.1 cf.1.2.1 hf
  have h5 := d52_f r0 f (z16 (by decide) rfl)
  obtain ⟨na', ha'⟩ := da_i T1 (ex_r X r0 (by decide))
  obtain ⟨ng', hg'⟩ := dg_i T1 (ex_r X r0 (by decide))
  refine rm_o ha' hd' hg' hf' ?_
  obtain ⟨a', ea', qa⟩ := ha'
  obtain ⟨g', eg', qg⟩ := hg'
  have k2 := K.2.2 a' g' ea' eg'
  rw [qa, qg] at k2
  have k3 : o.1.1 + 5 * na' + 5 * ng' ≤ B.1 - (13 * nd + 5 * nf + d52 x0 h) ∧ o.1.2 + 162 * na' + 162 * ng' ≤ B.2 - (21170 * nd + 162 * nf + 1500000 * d52 x0 h) := k2
  rw [h5]
  omega
end
end
section
/-! rows, refutes, problem, before, and calls that make one thing or write the tape -/
section
variable {zq : Nat} {ρ ρ1 : Nat → Nat} {c c1 : Cm} {h o g : Hp} {S : Nat → Nat → Nat → Bool} {E : Nat → Nat → Bool} {wb wl p : Nat → Bool} {x0 a b k w i F : Nat} {B Bq : Nat × Nat} {lo hi : Int} {x1 x2 x3 x4 x5 : Int32}
/-- a call that makes boards at a depth -/
theorem rp_d {m : Option (Int32 × Hp)} {R Q : Hp → Prop} (hs : ∀ k w i, S k w i = true → cPm c k w i = true) (s11 : ∀ w, S 16 w 11 = false) (s12 : ∀ w, S 16 w 12 = false) (s13 : ∀ w, S 16 w 13 = false) (s52 : ∀ w, S 16 w 52 = false) (hB : cB S) (hG : cG S) (hF : cF S) (hE : cEn S) (T : TH ρ c h) (r0 : ρ x0 = 16) (P : RfI x0 h) (M : RmR x0 B h) (Z : ∀ Bq, DWY Bq x0 h → Sat m (MkI ρ (cat c S h) lo hi (fun o => DWY Bq x0 o ∧ R o))) (HP : ∀ o, Fr ρ (cat c S h) h o → R o → PbP x0 o) (HQ : ∀ o, Fr ρ (cat c S h) h o → R o → Q o) : Sat m (RP ρ c x0 B Q) := by
  obtain ⟨na, ha⟩ := da_i T r0
  obtain ⟨nd, hd⟩ := dd_i T r0
  obtain ⟨ng, hg⟩ := dg_i T r0
  obtain ⟨nf, hf⟩ := df_i T r0
  have N := rm_i M ha hd hg hf
  have G : DWY (B.1 - (5 * na + 5 * ng + 5 * nf + d52 x0 h), B.2 - (162 * na + 162 * ng + 162 * nf + 1500000 * d52 x0 h)) x0 h := ⟨P.1, P.2.2.2.1, fun q eq => by
    obtain ⟨g', eg', qg⟩ := hd
    rw [r_eq eg' eq, qg]
    show _ ≤ B.1 - _ ∧ _ ≤ B.2 - _
    omega⟩
  refine rp_m hs T (Z _ G) (fun o ρ1 c1 X T1 f K => ?_)
  refine ⟨rfi_p T r0 f P s11 s12 s13 (Or.inl hB) (Or.inl hG) (Or.inr K.1.2.1) (Or.inr (HP o f K.2)) (Or.inl hF) (Or.inl hE) (nog_f T r0 f hG.1 (fun w i _ => hG.2.1 w i) P.2.2.2.2.2.2.2), ?_, HQ o f K.2⟩
  have ha' := da_f T r0 f hB.1 hB.2.2.1 ha
  have hg' := dg_f T r0 f hG.1 hG.2.1 hg
  have hf' := df_f T r0 f hF.1.1 hF.1.2.1 hf
  have h5 := d52_f r0 f s52
  obtain ⟨nd', hd'⟩ := dd_i T1 (ex_r X r0 (by decide))
  refine rm_o ha' hd' hg' hf' ?_
  obtain ⟨g', eg', qg⟩ := hd'
  have k2 := K.1.2.2 g' eg'
  rw [qg] at k2
  have k3 : o.1.1 + 13 * nd' ≤ B.1 - (5 * na + 5 * ng + 5 * nf + d52 x0 h) ∧ o.1.2 + 21170 * nd' ≤ B.2 - (162 * na + 162 * ng + 162 * nf + 1500000 * d52 x0 h) := k2
  rw [h5]
  omega
theorem bdO_sx (hb : wb w = false) : bdO (SX p wb wl) w := ⟨fun i _ => sx_f (Or.inl rfl) rfl (Or.inr hb) (Or.inl rfl), fun i => sx_f (Or.inl rfl) rfl (Or.inr hb) (Or.inl rfl), fun i => sx_f (Or.inl rfl) rfl (Or.inr hb) (Or.inl rfl), fun i => sx_f (Or.inl rfl) rfl (Or.inr hb) (Or.inl rfl)⟩
theorem x16 {i : Nat} (m : mS saL 16 i = false) : ∀ w, SX p wb wl 16 w i = false := fun _ => sx_f (Or.inl rfl) m (Or.inl rfl) (Or.inl rfl)
theorem cB_sx (hb : wb 3400 = false) : cB (SX p wb wl) := ⟨x16 rfl, x16 rfl, fun _ _ => sx_f (Or.inl rfl) rfl (Or.inl rfl) (Or.inl rfl), fun _ _ => sx_f (Or.inl rfl) rfl (Or.inl rfl) (Or.inl rfl), bdO_sx hb⟩
theorem cG_sx (hb : ∀ j, wb (5000 + j) = false) : cG (SX p wb wl) := ⟨x16 rfl, fun _ _ => sx_f (Or.inl rfl) rfl (Or.inl rfl) (Or.inl rfl), fun j _ => bdO_sx (hb j)⟩
theorem cF_sx (hb : ∀ j, wb (11000 + j) = false) : cF (SX p wb wl) := ⟨⟨x16 rfl, fun _ _ => sx_f (Or.inl rfl) rfl (Or.inl rfl) (Or.inl rfl), fun j => by
  obtain ⟨a1, a2, a3, a4⟩ := bdO_sx (p := p) (wl := wl) (hb j)
  exact ⟨fun i hi => a1 i (by omega), a2, a3, a4⟩⟩, ⟨x16 rfl, fun _ _ => sx_f (Or.inl rfl) rfl (Or.inl rfl) (Or.inl rfl)⟩, ⟨x16 rfl, fun _ _ => sx_f (Or.inl rfl) rfl (Or.inl rfl) (Or.inl rfl)⟩, x16 rfl⟩
theorem cEn_sx : cEn (SX p wb wl) := ⟨x16 rfl, x16 rfl, x16 rfl, x16 rfl, x16 rfl, x16 rfl, x16 rfl, x16 rfl, x16 rfl, fun _ _ => sx_f (Or.inl rfl) rfl (Or.inl rfl) (Or.inl rfl), fun _ _ => sx_f (Or.inl rfl) rfl (Or.inl rfl) (Or.inl rfl), fun _ _ => sx_f (Or.inl rfl) rfl (Or.inl rfl) (Or.inl rfl), fun _ _ => sx_f (Or.inl rfl) rfl (Or.inl rfl) (Or.inl rfl), fun _ _ => sx_f (Or.inl rfl) rfl (Or.inl rfl) (Or.inl rfl)⟩
theorem sx_r (hp : hpR c) : ∀ k w i, SX p wb wl k w i = true → cPm c k w i = true := fun k w i m => by
  unfold SX at m
  rw [Bool.or_eq_true, Bool.or_eq_true, Bool.or_eq_true, Bool.and_eq_true, Bool.and_eq_true, Bool.and_eq_true] at m
  rcases m with (⟨a, _⟩ | a) | (⟨a, _⟩ | ⟨a, _⟩)
  · rw [Bool.or_eq_true, beq_iff_eq, beq_iff_eq] at a
    rcases a with a | a <;> rw [a] <;> exact hp _ w i rfl (fun z => absurd z.1 (by decide))
  · exact pA_r (A := saL) hp rfl w k i a
  · exact pA_r (A := bpL) hp rfl w k i a
  · exact pA_r (A := mpL) hp rfl w k i a
theorem sdb_g {w : Nat} (h1 : w ≠ 2528) (h2 : w < 3500 ∨ 3509 < w) : SDb 0 w = false := by
  unfold SDb
  rw [bq_ne h1]
  simp
  omega
theorem rw_rows (hF : 700000 ≤ F) (hp : hpR c) (T : TH ρ c h) (r0 : ρ x0 = 16) (P : RfI x0 h) (M : RmR x0 B h) : Sat (sX15_rows F h x0 x1 x2) (RP ρ c x0 B (TpR x0 h)) :=
  rp_d (S := SD 0) (R := fun _ => True) (sx_r hp) (x16 rfl) (x16 rfl) (x16 rfl) (x16 rfl) (cB_sx (sdb_g (by decide) (Or.inl (by decide)))) (cG_sx (fun j => sdb_g (by omega) (Or.inr (by omega)))) (cF_sx (fun j => sdb_g (by omega) (Or.inr (by omega)))) cEn_sx T r0 P M (fun Bq G => mk_t (zX15_rowsY hF (sx_c _) (th_in _ T) r0 (rf_b P) G)) (fun o f _ => pbp_f T r0 f ⟨x16 rfl, x16 rfl⟩ P.2.2.2.2.1) (fun o f _ => (fr_RI f r0 (by decide) (x16 rfl)).1)
theorem rw_refutes (hF : 700000 ≤ F) (hp : hpR c) (T : TH ρ c h) (r0 : ρ x0 = 16) (P : RfI x0 h) (M : RmR x0 B h) : Sat (sX15_refutes F h x0 x1) (RP ρ c x0 B (TpR x0 h)) :=
  rp_d (S := SD 0) (R := fun _ => True) (sx_r hp) (x16 rfl) (x16 rfl) (x16 rfl) (x16 rfl) (cB_sx (sdb_g (by decide) (Or.inl (by decide)))) (cG_sx (fun j => sdb_g (by omega) (Or.inr (by omega)))) (cF_sx (fun j => sdb_g (by omega) (Or.inr (by omega)))) cEn_sx T r0 P M (fun Bq G => mk_t (zX15_refutesY hF (sx_c _) (th_in _ T) r0 (rf_b P) G P.2.2.2.2.1)) (fun o f _ => pbp_f T r0 f ⟨x16 rfl, x16 rfl⟩ P.2.2.2.2.1) (fun o f _ => (fr_RI f r0 (by decide) (x16 rfl)).1)
abbrev pbL : List (Nat × Nat) := [(16, 64), (16, 65), (16, 66), (16, 67), (16, 68), (16, 70), (111, 999)]
def SPb (k w i : Nat) : Bool := SP k w i || mS pbL k i
theorem spb_f (a : SP k w i = false) (b : mS pbL k i = false) : SPb k w i = false := by unfold SPb; rw [a, b]; rfl
theorem rw_problem (hF : 700000 ≤ F) (hp : hpR c) (T : TH ρ c h) (r0 : ρ x0 = 16) (P : RfI x0 h) (M : RmR x0 B h) : Sat (sX15_problem F h x0 x1 x2 x3 x4) (RP ρ c x0 B (TpR x0 h)) := by
  have y16 : ∀ {i : Nat}, mS saL 16 i = false → mS pbL 16 i = false → ∀ w, SPb 16 w i = false := fun a b w => spb_f (x16 a w) b
  have yk : ∀ {k : Nat}, (∀ w i, SP k w i = false) → (∀ i, mS pbL k i = false) → ∀ w i, SPb k w i = false := fun a b w i => spb_f (a w i) (b i)
  have bo : ∀ {w : Nat}, SDb 0 w = false → bdO SPb w := fun {w} hw => by
    obtain ⟨a1, a2, a3, a4⟩ := bdO_sx (p := SDp 0) (wb := SDb 0) (wl := fun w => SDl 0 w || w == 2530) hw
    exact ⟨fun i hi => spb_f (a1 i hi) rfl, fun i => spb_f (a2 i) rfl, fun i => spb_f (a3 i) rfl, fun i => spb_f (a4 i) rfl⟩
  have b34 := bo (sdb_g (w := 3400) (by decide) (Or.inl (by decide)))
  have xk : ∀ {k : Nat}, (k == 90 || k == 91) = false → (∀ i, mS saL k i = false) → (∀ i, mS bpL k i = false) → (∀ i, mS mpL k i = false) → ∀ w i, SP k w i = false := fun a b c d w i => sx_f (Or.inl a) (b i) (Or.inl (c i)) (Or.inl (d i))
  have q : ∀ {k : Nat}, (k == 90 || k == 91) = false → (∀ i, mS saL k i = false) → (∀ i, mS bpL k i = false) → (∀ i, mS mpL k i = false) → (∀ i, mS pbL k i = false) → ∀ w i, SPb k w i = false := fun a b c d e => yk (xk a b c d) e
  refine rp_d (S := SPb) (R := PbP x0) (fun k w i m => ?_) (y16 rfl rfl) (y16 rfl rfl) (y16 rfl rfl) (y16 rfl rfl) ⟨y16 rfl rfl, y16 rfl rfl, q rfl (fun _ => rfl) (fun _ => rfl) (fun _ => rfl) (fun _ => rfl), q rfl (fun _ => rfl) (fun _ => rfl) (fun _ => rfl) (fun _ => rfl), b34⟩ ⟨y16 rfl rfl, q rfl (fun _ => rfl) (fun _ => rfl) (fun _ => rfl) (fun _ => rfl), fun j _ => bo (sdb_g (by omega) (Or.inr (by omega)))⟩ ⟨⟨y16 rfl rfl, q rfl (fun _ => rfl) (fun _ => rfl) (fun _ => rfl) (fun _ => rfl), fun j => ?_⟩, ⟨y16 rfl rfl, q rfl (fun _ => rfl) (fun _ => rfl) (fun _ => rfl) (fun _ => rfl)⟩, ⟨y16 rfl rfl, q rfl (fun _ => rfl) (fun _ => rfl) (fun _ => rfl) (fun _ => rfl)⟩, y16 rfl rfl⟩ ⟨y16 rfl rfl, y16 rfl rfl, y16 rfl rfl, y16 rfl rfl, y16 rfl rfl, y16 rfl rfl, y16 rfl rfl, y16 rfl rfl, y16 rfl rfl, q rfl (fun _ => rfl) (fun _ => rfl) (fun _ => rfl) (fun _ => rfl), q rfl (fun _ => rfl) (fun _ => rfl) (fun _ => rfl) (fun _ => rfl), q rfl (fun _ => rfl) (fun _ => rfl) (fun _ => rfl) (fun _ => rfl), q rfl (fun _ => rfl) (fun _ => rfl) (fun _ => rfl) (fun _ => rfl), q rfl (fun _ => rfl) (fun _ => rfl) (fun _ => rfl) (fun _ => rfl)⟩ T r0 P M (fun Bq G => zX15_problemY hF (fun k w i m => sx_c SPb k w i (by unfold SPb; rw [m]; rfl)) (fun w k i m => sx_c SPb k w i (by unfold SPb; rw [m, Bool.or_true])) (th_in _ T) r0 (rf_b P) G P.2.2.2.2.1) (fun o f k => k) (fun o f _ => (fr_RI f r0 (by decide) (y16 rfl rfl)).1)
  · unfold SPb at m
    rw [Bool.or_eq_true] at m
    rcases m with m | m
    · exact sx_r hp k w i m
    · exact pA_r (A := pbL) hp rfl w k i m
  · obtain ⟨a1, a2, a3, a4⟩ := bo (sdb_g (w := 11000 + j) (by omega) (Or.inr (by omega)))
    exact ⟨fun i hi => a1 i (by omega), a2, a3, a4⟩
theorem fs_tt {A : List (Nat × Nat)} {L : List (Nat × List (Nat × Nat))} {Bl : List (Nat × Nat)} (hm : (w, Bl) ∈ L) (m : mS Bl k i = true) : fS A L k w i = true := by
  unfold fS
  rw [Bool.or_eq_true, List.any_eq_true]
  exact Or.inr ⟨(w, Bl), hm, by rw [Bool.and_eq_true]; exact ⟨m, beq_self_eq_true _⟩⟩
/-- before: found boards -/
def gsS (k w i : Nat) : Bool := fS gsL [(2528, bpL), (2530, mpL), (2532, bpL), (2545, bpL)] k w i || (mS bpL k i && fdW w)
theorem gs_f (a : fS gsL [(2528, bpL), (2530, mpL), (2532, bpL), (2545, bpL)] k w i = false) (b : mS bpL k i = false ∨ fdW w = false) : gsS k w i = false := by
  unfold gsS
  rw [a]
  rcases b with b | b <;> rw [b] <;> simp
theorem rw_before (hF : 700000 ≤ F) (hp : hpR c) (T : TH ρ c h) (r0 : ρ x0 = 16) (P : RfI x0 h) (M : RmR x0 B h) : Sat (sX15_before F h x0 x1) (RP ρ c x0 B (TpR x0 h)) := by
  obtain ⟨na, ha⟩ := da_i T r0
  obtain ⟨nd, hd⟩ := dd_i T r0
  obtain ⟨ng, hg⟩ := dg_i T r0
  obtain ⟨nf, hf⟩ := df_i T r0
  have N := rm_i M ha hd hg hf
  obtain ⟨B6, p6⟩ := P.2.2.2.2.2.1
  have G : FdPY (sqN x0 h) (B.1 - (5 * na + 13 * nd + 5 * ng + d52 x0 h), B.2 - (162 * na + 21170 * nd + 162 * ng + 1500000 * d52 x0 h)) x0 h := ⟨p6.1, p6.2.1, ⟨p6.2.2.1.1, fun q eq => by
    obtain ⟨g', eg', qg⟩ := hf
    rw [r_eq eg' eq, qg]
    show _ ≤ B.1 - _ ∧ _ ≤ B.2 - _
    omega⟩, p6.2.2.2⟩
  have pm : GPm (cat c gsS h) := ⟨fun w k i m => sx_c gsS k w i (by unfold gsS fS; rw [m]; rfl), fun k i m => sx_c gsS k 2528 i (by unfold gsS; rw [fs_tt (.head _) m]; rfl), fun k i m => sx_c gsS k 2530 i (by unfold gsS; rw [fs_tt (.tail _ (.head _)) m]; rfl), fun k i m => sx_c gsS k 2532 i (by unfold gsS; rw [fs_tt (.tail _ (.tail _ (.head _))) m]; rfl), fun k i m => sx_c gsS k 2545 i (by unfold gsS; rw [fs_tt (.tail _ (.tail _ (.tail _ (.head _)))) m]; rfl), fun j hj k i m => sx_c gsS k (11000 + j) i (by unfold gsS; rw [m, fdW_t hj]; simp)⟩
  have z16 : ∀ {i : Nat}, (∀ w, fS gsL [(2528, bpL), (2530, mpL), (2532, bpL), (2545, bpL)] 16 w i = false) → ∀ w, gsS 16 w i = false := fun a w => gs_f (a w) (Or.inl rfl)
  have zk : ∀ {k : Nat}, (∀ w i, fS gsL [(2528, bpL), (2530, mpL), (2532, bpL), (2545, bpL)] k w i = false) → (∀ i, mS bpL k i = false) → ∀ w i, gsS k w i = false := fun a b w i => gs_f (a w i) (Or.inl (b i))
  have bo : ∀ {w : Nat}, w ≠ 2528 → w ≠ 2530 → w ≠ 2532 → w ≠ 2545 → fdW w = false → bdO gsS w := fun {w} n1 n2 n3 n4 hw => by
    have y : ∀ k i, mS gsL k i = false → fS gsL [(2528, bpL), (2530, mpL), (2532, bpL), (2545, bpL)] k w i = false := fun k i m => fs_cf (Or.inr n1) (fs_cf (Or.inr n2) (fs_cf (Or.inr n3) (fs_cf (Or.inr n4) (fs_nf m))))
    exact ⟨fun i _ => gs_f (y _ _ rfl) (Or.inr hw), fun i => gs_f (y _ _ rfl) (Or.inr hw), fun i => gs_f (y _ _ rfl) (Or.inr hw), fun i => gs_f (y _ _ rfl) (Or.inr hw)⟩
  refine rp_m (S := gsS) (fun k w i m => ?_) T (zX15_beforeY hF pm (th_in _ T) r0 (rf_b P) P.1 G) (fun o ρ1 c1 X T1 f K => ?_)
  · unfold gsS at m
    rw [Bool.or_eq_true, Bool.and_eq_true] at m
    rcases m with m | m
    · exact fs_r hp rfl k w i m
    · exact pA_r (A := bpL) hp rfl w k i m.1
  have cb : cB gsS := ⟨z16 (fun _ => rfl), z16 (fun _ => rfl), zk (fun _ _ => rfl) (fun _ => rfl), zk (fun _ _ => rfl) (fun _ => rfl), bo (by decide) (by decide) (by decide) (by decide) rfl⟩
  have cg : cG gsS := ⟨z16 (fun _ => rfl), zk (fun _ _ => rfl) (fun _ => rfl), fun j hj => bo (by omega) (by omega) (by omega) (by omega) (by unfold fdW; simp; omega)⟩
  have cd : cD gsS := ⟨z16 (fun _ => rfl), z16 (fun _ => rfl), zk (fun _ _ => rfl) (fun _ => rfl), zk (fun _ _ => rfl) (fun _ => rfl)⟩
  have ce : cEn gsS := ⟨z16 (fun _ => rfl), z16 (fun _ => rfl), z16 (fun _ => rfl), z16 (fun _ => rfl), z16 (fun _ => rfl), z16 (fun _ => rfl), z16 (fun _ => rfl), z16 (fun _ => rfl), z16 (fun _ => rfl), zk (fun _ _ => rfl) (fun _ => rfl), zk (fun _ _ => rfl) (fun _ => rfl), zk (fun _ _ => rfl) (fun _ => rfl), zk (fun _ _ => rfl) (fun _ => rfl), zk (fun _ _ => rfl) (fun _ => rfl)⟩
  refine ⟨rfi_p T r0 f P (z16 (fun _ => rfl)) (z16 (fun _ => rfl)) (z16 (fun _ => rfl)) (Or.inl cb) (Or.inl cg) (Or.inl cd) (Or.inl ⟨z16 (fun _ => rfl), z16 (fun _ => rfl)⟩) (Or.inr ⟨_, K.2⟩) (Or.inl ce) (nog_f T r0 f cg.1 (fun w i _ => cg.2.1 w i) P.2.2.2.2.2.2.2), ?_, (fr_RI f r0 (by decide) (z16 (fun _ => rfl))).1⟩
  have ha' := da_f T r0 f cb.1 cb.2.2.1 ha
  have hg' := dg_f T r0 f cg.1 cg.2.1 hg
  have hd' := dd_f T r0 f cd.1 cd.2.2.1 hd
  have h5 := d52_f r0 f (z16 (fun _ => rfl))
  obtain ⟨nf', hf'⟩ := df_i T1 (ex_r X r0 (by decide))
  refine rm_o ha' hd' hg' hf' ?_
  obtain ⟨g', eg', qg⟩ := hf'
  have k2 := K.2.2.2.1.2 g' eg'
  rw [qg] at k2
  have k3 : o.1.1 + 5 * nf' ≤ B.1 - (5 * na + 13 * nd + 5 * ng + d52 x0 h) ∧ o.1.2 + 162 * nf' ≤ B.2 - (162 * na + 21170 * nd + 162 * ng + 1500000 * d52 x0 h) := k2
  rw [h5]
  omega
end
end
