/-! calls of the reference that make nothing -/
def okA2 (p : Nat × Nat) : Bool := if p.1 == 16 then (!(p.2 == 999) && ![11, 12, 13, 14, 15, 33, 34, 37, 40, 41, 42, 44, 46, 47, 48, 49, 50, 52, 55, 56, 59, 65, 68].contains p.2) else (![84, 85, 90, 91, 92, 95, 96, 97, 99, 100, 101, 106, 107].contains p.1 && !(p.1 == 13) && ![62, 63, 64].contains p.1)
def okO2 (w : Nat) (p : Nat × Nat) : Bool := !(p.1 == 16) && ![84, 85, 90, 91, 92, 95, 96, 97, 99, 100, 101, 106, 107].contains p.1 && ((!(p.1 == 13) && ![62, 63, 64].contains p.1) || (!(w == 3400) && decide (w < 5000)))
theorem okA_b {k j w i : Nat} (e : okA2 (k, j) = true) (m : j = 999 ∨ j = i) (b : badR k w i = true) : False := by
  unfold okA2 at e
  unfold badR at b
  simp at e b
  split at e
  · omega
  · omega
theorem okO_b {k j w i : Nat} (e : okO2 w (k, j) = true) (b : badR k w i = true) : False := by
  unfold okO2 at e
  unfold badR at b
  simp at e b
  omega
theorem mS_ex {A : List (Nat × Nat)} {k i : Nat} (m : mS A k i = true) : ∃ j, (k, j) ∈ A ∧ (j = 999 ∨ j = i) := by
  unfold mS at m
  rw [List.any_eq_true] at m
  obtain ⟨⟨k', j⟩, hp, hm⟩ := m
  rw [Bool.and_eq_true, beq_iff_eq, Bool.or_eq_true, beq_iff_eq, beq_iff_eq] at hm
  obtain ⟨h1, h2⟩ := hm
  have h1 : k' = k := h1
  subst h1
  exact ⟨j, hp, h2⟩
abbrev okF (A : List (Nat × Nat)) (L : List (Nat × List (Nat × Nat))) : Bool := A.all okA2 && L.all fun q => q.2.all (okO2 q.1)
theorem ok_bad {A : List (Nat × Nat)} {L : List (Nat × List (Nat × Nat))} (e : okF A L = true) : ∀ k w i, badR k w i = true → fS A L k w i = false := fun k w i b => by
  rw [Bool.and_eq_true, List.all_eq_true, List.all_eq_true] at e
  cases z : fS A L k w i with
  | false => rfl
  | true =>
    exfalso
    unfold fS at z
    rw [Bool.or_eq_true, List.any_eq_true] at z
    rcases z with z | ⟨p, hp, hm⟩
    · obtain ⟨j, hj, hi⟩ := mS_ex z
      exact okA_b (e.1 _ hj) hi b
    · rw [Bool.and_eq_true, beq_iff_eq] at hm
      obtain ⟨j, hj, hi⟩ := mS_ex hm.1
      have := List.all_eq_true.mp (e.2 p hp) _ hj
      rw [← hm.2] at this
      exact okO_b this b
theorem ok_52 {A : List (Nat × Nat)} {L : List (Nat × List (Nat × Nat))} (e : okF A L = true) : ∀ w, fS A L 16 w 52 = false := fun w => by
  rw [Bool.and_eq_true, List.all_eq_true, List.all_eq_true] at e
  cases z : fS A L 16 w 52 with
  | false => rfl
  | true =>
    exfalso
    unfold fS at z
    rw [Bool.or_eq_true, List.any_eq_true] at z
    rcases z with z | ⟨p, hp, hm⟩
    · obtain ⟨j, hj, hi⟩ := mS_ex z
      have := e.1 _ hj
      rcases hi with y | y <;> subst y <;> exact absurd this (by decide)
    · rw [Bool.and_eq_true, beq_iff_eq] at hm
      obtain ⟨j, hj, hi⟩ := mS_ex hm.1
      have := List.all_eq_true.mp (e.2 p hp) _ hj
      simp [okO2] at this
/-- room: what is made, and what may still be made by the reference -/
def RmR (x0 : Nat) (B : Nat × Nat) (h : Hp) : Prop := ∀ a d g f, hR h x0 14 = some a → hR h x0 33 = some d → hR h x0 37 = some g → hR h x0 40 = some f → h.1.1 + 5 * nuC h a 60 + 13 * nuC h d 10 + 5 * nuC h g 2408 + 5 * nuC h f 3000 + (if (hR h x0 52).isNone then 1 else 0) ≤ B.1 ∧ h.1.2 + 162 * nuC h a 60 + 21170 * nuC h d 10 + 162 * nuC h g 2408 + 162 * nuC h f 3000 + (if (hR h x0 52).isNone then 1500000 else 0) ≤ B.2
abbrev RP (ρ : Nat → Nat) (c : Cm) (x0 : Nat) (B : Nat × Nat) (Q : Hp → Prop) : Int32 × Hp → Prop := fun o => ∃ ρ' c', Ext ρ c ρ' c' ∧ TH ρ' c' o.2 ∧ RfI x0 o.2 ∧ RmR x0 B o.2 ∧ Q o.2
/-- the tape's length stays -/
def TpR (x0 : Nat) (h o : Hp) : Prop := hI o x0 1 = hI h x0 1
/-- roles of the reference's laws -/
def rwK (k : Nat) : Bool := k == 15 || (decide (73 ≤ k) && decide (k ≤ 81))
def rfR (k : Nat) : Bool := ((decide (13 ≤ k) && decide (k ≤ 16)) || (decide (62 ≤ k) && decide (k ≤ 120))) && (!(k == 82) && (!(k == 15) && !(decide (73 ≤ k) && decide (k ≤ 81))))
def rfP (p : Nat × Nat) : Bool := rfR p.1 && !(p.1 == 16 && (p.2 == 999 || (p.2 == 0 || (p.2 == 4 || (p.2 == 5 || (p.2 == 11 || (p.2 == 12 || p.2 == 13)))))))
abbrev hpR (c : Cm) : Prop := ∀ k w i, rfR k = true → ¬ (k = 16 ∧ (i = 0 ∨ i = 4 ∨ i = 5 ∨ i = 11 ∨ i = 12 ∨ i = 13)) → cPm c k w i = true
section
variable {ρ ρ1 : Nat → Nat} {c c1 : Cm} {h o g : Hp} {S : Nat → Nat → Nat → Bool} {x0 a b k w i F : Nat} {B : Nat × Nat} {lo hi : Int} {A : List (Nat × Nat)} {L : List (Nat × List (Nat × Nat))} {x1 x2 x3 x4 x5 : Int32}
theorem rf_p {j : Nat} (e : rfP (k, j) = true) (z : j = 999 ∨ j = i) : rfR k = true ∧ ¬ (k = 16 ∧ (i = 0 ∨ i = 4 ∨ i = 5 ∨ i = 11 ∨ i = 12 ∨ i = 13)) := by
  unfold rfP at e
  rw [Bool.and_eq_true, Bool.not_eq_true'] at e
  refine ⟨e.1, fun ⟨z1, z2⟩ => ?_⟩
  have y := e.2
  dsimp only at y
  rw [z1] at y
  rcases z with z | z
  · rw [z] at y; exact absurd y (by decide)
  · rw [z] at y
    rcases z2 with z2 | z2 | z2 | z2 | z2 | z2 <;> (rw [z2] at y; exact absurd y (by decide))
theorem pA_r (hp : hpR c) (e : (A.all fun p => rfP p) = true) : pmA c A := fun w k i m => by
  obtain ⟨j, hj, z⟩ := mS_ex m
  have y := rf_p (List.all_eq_true.mp e _ hj) z
  exact hp k w i y.1 y.2
theorem pO_r (hp : hpR c) (e : (A.all fun p => rfP p) = true) : pmO c w A := fun k i m => pA_r hp e w k i m
theorem fs_r (hp : hpR c) (e : ((A.all fun p => rfP p) && L.all fun q => q.2.all fun p => rfP p) = true) : ∀ k w i, fS A L k w i = true → cPm c k w i = true := fun k w i z => by
  rw [Bool.and_eq_true, List.all_eq_true] at e
  unfold fS at z
  rw [Bool.or_eq_true, List.any_eq_true] at z
  rcases z with z | ⟨p, hp', hm⟩
  · obtain ⟨j, hj, zz⟩ := mS_ex z
    have y := rf_p (e.1 _ hj) zz
    exact hp k w i y.1 y.2
  · rw [Bool.and_eq_true] at hm
    obtain ⟨j, hj, zz⟩ := mS_ex hm.1
    have y := rf_p (List.all_eq_true.mp (List.all_eq_true.mp e.2 p hp') _ hj) zz
    exact hp k w i y.1 y.2
abbrev hlR (c : Cm) : Prop := (∀ k w i, rwK k = true → cPm c k w i = true) ∧ ∀ w i, (i = 4 ∨ i = 5 ∨ i = 11 ∨ i = 12 ∨ i = 13) → cPm c 16 w i = true
def rlP (p : Nat × Nat) : Bool := rwK p.1 || (p.1 == 16 && (p.2 == 4 || (p.2 == 5 || (p.2 == 11 || (p.2 == 12 || p.2 == 13)))))
theorem fs_rl (hp : hpR c) (hl : hlR c) (e : (A.all fun p => rfP p || rlP p) = true) : ∀ k w i, fS A [] k w i = true → cPm c k w i = true := fun k w i z => by
  rw [List.all_eq_true] at e
  unfold fS at z
  rw [Bool.or_eq_true, List.any_eq_true] at z
  rcases z with z | ⟨p, hp', _⟩
  · obtain ⟨j, hj, zz⟩ := mS_ex z
    have y := e _ hj
    rw [Bool.or_eq_true] at y
    rcases y with y | y
    · have y := rf_p y zz
      exact hp k w i y.1 y.2
    · unfold rlP at y
      rw [Bool.or_eq_true, Bool.and_eq_true, Bool.or_eq_true, Bool.or_eq_true, Bool.or_eq_true, Bool.or_eq_true, beq_iff_eq, beq_iff_eq, beq_iff_eq, beq_iff_eq, beq_iff_eq, beq_iff_eq] at y
      rcases y with y | ⟨y1, y2⟩
      · exact hl.1 k w i y
      · have y1 : k = 16 := y1
        have y2 : j = 4 ∨ j = 5 ∨ j = 11 ∨ j = 12 ∨ j = 13 := y2
        rw [y1]
        exact hl.2 w i (by omega)
  · exact absurd hp' (List.not_mem_nil)
theorem rmr_f (T : TH ρ c h) (r0 : ρ x0 = 16) (f : Fr ρ (cat c S h) h o) (e1 : o.1 = h.1) (s14 : ∀ w, S 16 w 14 = false) (s33 : ∀ w, S 16 w 33 = false) (s37 : ∀ w, S 16 w 37 = false) (s40 : ∀ w, S 16 w 40 = false) (s52 : ∀ w, S 16 w 52 = false) (t84 : ∀ w i, S 84 w i = false) (t90 : ∀ w i, S 90 w i = false) (t92 : ∀ w i, S 92 w i = false) (t95 : ∀ w i, S 95 w i = false) (M : RmR x0 B h) : RmR x0 B o := fun a d g f' ea ed eg ef => by
  rw [(fr_RI f r0 (by decide) s14).2.2] at ea
  rw [(fr_RI f r0 (by decide) s33).2.2] at ed
  rw [(fr_RI f r0 (by decide) s37).2.2] at eg
  rw [(fr_RI f r0 (by decide) s40).2.2] at ef
  have qa := rr T (thR T r0 (i := 14) (k2 := 84) rfl (by decide)) ea
  have qd := rr T (thR T r0 (i := 33) (k2 := 90) rfl (by decide)) ed
  have qg := rr T (thR T r0 (i := 37) (k2 := 92) rfl (by decide)) eg
  have qf := rr T (thR T r0 (i := 40) (k2 := 95) rfl (by decide)) ef
  rw [(fr_RI f r0 (by decide) s52).2.2, e1, nuC_eq 60 (fun i _ => (fr_RI f qa (by decide) (fun w => t84 w i)).2.2), nuC_eq 10 (fun i _ => (fr_RI f qd (by decide) (fun w => t90 w i)).2.2), nuC_eq 2408 (fun i _ => (fr_RI f qg (by decide) (fun w => t92 w i)).2.2), nuC_eq 3000 (fun i _ => (fr_RI f qf (by decide) (fun w => t95 w i)).2.2)]
  exact M a d g f' ea ed eg ef
/-- a call that keeps its heap -/
theorem rp_0 {m : Option (Int32 × Hp)} (T : TH ρ c h) (P : RfI x0 h) (M : RmR x0 B h) (Z : Sat m (fun o => o.2 = h)) : Sat m (RP ρ c x0 B (TpR x0 h)) := s_imp Z (fun o e => by
  rw [show o = (o.1, h) from Prod.ext rfl e]
  exact ⟨ρ, c, ex_0, T, P, M, rfl⟩)
/-- a call that writes what the invariant does not read -/
theorem rp_zs {m : Option (Int32 × Hp)} {Q : Int32 × Hp → Prop} (hs : ∀ k w i, fS A L k w i = true → cPm c k w i = true) (ok : okF A L = true) (T : TH ρ c h) (r0 : ρ x0 = 16) (P : RfI x0 h) (M : RmR x0 B h) (Z : Sat m (ZQ (ZI ρ (cat c (fS A L) h) lo hi) Q)) {R : Hp → Prop} (HR : ∀ o, TH ρ c o.2 → Fr ρ (cat c (fS A L) h) h o.2 → Q o → R o.2) : Sat m (RP ρ c x0 B R) := by
  have hb := ok_bad ok
  obtain ⟨o, eo, ⟨z1, z2⟩, q⟩ := Z
  have T' := th_out T hs z1
  have f := fr_u T z1.2.2
  refine ⟨o, eo, ρ, c, ex_0, T', rfi_f T r0 f hb P, rmr_f T r0 f (T'.1.1.trans T.1.1.symm) (bad_i rfl hb) (bad_i rfl hb) (bad_i rfl hb) (bad_i rfl hb) (ok_52 ok) (bad_k rfl hb) (bad_k rfl hb) (bad_k rfl hb) (bad_k rfl hb) M, HR o T' f q⟩
theorem rp_z {m : Option (Int32 × Hp)} {Q : Int32 × Hp → Prop} (hp : hpR c) (ok : okF A L = true) (ok2 : ((A.all fun p => rfP p) && L.all fun q => q.2.all fun p => rfP p) = true) (T : TH ρ c h) (r0 : ρ x0 = 16) (P : RfI x0 h) (M : RmR x0 B h) (Z : Sat m (ZQ (ZI ρ (cat c (fS A L) h) lo hi) Q)) {R : Hp → Prop} (HR : ∀ o, TH ρ c o.2 → Fr ρ (cat c (fS A L) h) h o.2 → Q o → R o.2) : Sat m (RP ρ c x0 B R) := rp_zs (fs_r hp ok2) ok T r0 P M Z HR
theorem s_zq {m : Option (Int32 × Hp)} (Z : Sat m (ZI ρ c lo hi)) : Sat m (ZQ (ZI ρ c lo hi) (fun _ => True)) := s_imp Z (fun _ z => ⟨z, trivial⟩)
theorem rp_t {m : Option (Int32 × Hp)} (hp : hpR c) (ok : okF A L = true) (ok2 : ((A.all fun p => rfP p) && L.all fun q => q.2.all fun p => rfP p) = true) (s1 : ∀ w, fS A L 16 w 1 = false) (T : TH ρ c h) (r0 : ρ x0 = 16) (P : RfI x0 h) (M : RmR x0 B h) (Z : Sat m (ZI ρ (cat c (fS A L) h) lo hi)) : Sat m (RP ρ c x0 B (TpR x0 h)) := rp_z hp ok ok2 T r0 P M (s_zq Z) (fun o _ f _ => (fr_RI f r0 (by decide) s1).1)
theorem rf_b (P : RfI x0 h) : BdP x0 h := by obtain ⟨B, b⟩ := P.2.1; exact bdy_p b
theorem rw_at (hF : 700000 ≤ F) (T : TH ρ c h) (r0 : ρ x0 = 16) (P : RfI x0 h) (M : RmR x0 B h) : Sat (sX15_at h x0 x1 x2) (RP ρ c x0 B (TpR x0 h)) := rp_0 T P M (s_imp (zX15_at hF T r0 (rg_top _) (rg_top _) (rf_b P)) (fun _ z => z.1))
theorem rw_out (hF : 700000 ≤ F) (T : TH ρ c h) (r0 : ρ x0 = 16) (P : RfI x0 h) (M : RmR x0 B h) : Sat (sX15_out h x0 x1) (RP ρ c x0 B (TpR x0 h)) := rp_0 T P M (s_imp (zX15_out hF T r0 (rg_top _)) (fun _ z => z.1))
theorem rw_key (hF : 700000 ≤ F) (T : TH ρ c h) (r0 : ρ x0 = 16) (P : RfI x0 h) (M : RmR x0 B h) : Sat (sX15_key h x0 x1) (RP ρ c x0 B (TpR x0 h)) := rp_0 T P M (s_imp (zX15_key hF T r0 (rg_top _)) (fun _ z => z.1))
theorem rw_played (hF : 700000 ≤ F) (T : TH ρ c h) (r0 : ρ x0 = 16) (P : RfI x0 h) (M : RmR x0 B h) : Sat (sX15_played h x0 x1 x2) (RP ρ c x0 B (TpR x0 h)) := rp_0 T P M (s_imp (zX15_played hF T r0 (rg_top _) (rg_top _)) (fun _ z => z.1))
theorem rw_tally (hF : 700000 ≤ F) (T : TH ρ c h) (r0 : ρ x0 = 16) (P : RfI x0 h) (M : RmR x0 B h) : Sat (sX15_tally F h x0 x1 x2) (RP ρ c x0 B (TpR x0 h)) := rp_0 T P M (s_imp (zX15_tally hF T r0 P.2.2.2.2.2.2.1) (fun _ z => z.1))
theorem rw_attacked (hF : 700000 ≤ F) (hp : hpR c) (T : TH ρ c h) (r0 : ρ x0 = 16) (P : RfI x0 h) (M : RmR x0 B h) : Sat (sX15_attacked F h x0 x1 x2 x3) (RP ρ c x0 B (TpR x0 h)) := rp_t (A := [(16, 23), (16, 24)]) (L := []) hp rfl rfl (fun _ => rfl) T r0 P M (zX15_attacked hF fs_a (th_in _ T) r0 (rg_top _) (rg_top _) (rg_top _) (rf_b P))
theorem rw_back (hF : 700000 ≤ F) (hp : hpR c) (T : TH ρ c h) (r0 : ρ x0 = 16) (P : RfI x0 h) (M : RmR x0 B h) : Sat (sX15_back h x0 x1) (RP ρ c x0 B (TpR x0 h)) := rp_t (A := [(94, 999)]) (L := []) hp rfl rfl (fun _ => rfl) T r0 P M (zX15_back hF fs_a (th_in _ T) r0 (rg_top _))
abbrev saP : List (Nat × Nat) := [(87, 999), (88, 999), (89, 999), (16, 23), (16, 24), (16, 29)]
theorem rw_ended (hF : 700000 ≤ F) (hp : hpR c) (T : TH ρ c h) (r0 : ρ x0 = 16) (P : RfI x0 h) (M : RmR x0 B h) : Sat (sX15_ended F h x0 x1) (RP ρ c x0 B (TpR x0 h)) := rp_t (A := saP) (L := [(2528, bpL), (2530, mpL)]) hp rfl rfl (fun _ => rfl) T r0 P M (zX15_ended hF fs_a (fs_o (.head _)) (fs_o (.tail _ (.head _))) (th_in _ T) r0 (rg_top _) (rf_b P) P.1)
theorem rw_result (hF : 700000 ≤ F) (hp : hpR c) (T : TH ρ c h) (r0 : ρ x0 = 16) (P : RfI x0 h) (M : RmR x0 B h) : Sat (sX15_result F h x0 x1) (RP ρ c x0 B (TpR x0 h)) := rp_t (A := saP) (L := [(2528, bpL), (2530, mpL)]) hp rfl rfl (fun _ => rfl) T r0 P M (zX15_result hF fs_a (fs_o (.head _)) (fs_o (.tail _ (.head _))) (th_in _ T) r0 (rg_top _) (rf_b P) P.1)
theorem rw_move (hF : 700000 ≤ F) (hp : hpR c) (T : TH ρ c h) (r0 : ρ x0 = 16) (P : RfI x0 h) (M : RmR x0 B h) : Sat (sX15_move F h x0 x1 x2 x3) (RP ρ c x0 B (TpR x0 h)) := rp_t (A := saP) (L := [(2528, bpL), (2530, mpL)]) hp rfl rfl (fun _ => rfl) T r0 P M (zX15_move hF fs_a (fs_o (.head _)) (fs_o (.tail _ (.head _))) (th_in _ T) r0 (rg_top _) (rg_top _) (rg_top _) (rf_b P) P.1)
theorem rw_moves (hF : 700000 ≤ F) (hp : hpR c) (T : TH ρ c h) (r0 : ρ x0 = 16) (P : RfI x0 h) (M : RmR x0 B h) : Sat (sX15_moves F h x0 x1) (RP ρ c x0 B (TpR x0 h)) := rp_z (A := saP) (L := [(2528, bpL), (2530, mpL)]) hp rfl rfl T r0 P M (zX15_moves hF fs_a (fs_o (.head _)) (fs_o (.tail _ (.head _))) (th_in _ T) r0 (rg_top _) (rf_b P) P.1) (fun o _ f _ => (fr_RI f r0 (by decide) (fun _ => rfl)).1)
theorem rw_same (hF : 700000 ≤ F) (hp : hpR c) (T : TH ρ c h) (r0 : ρ x0 = 16) (P : RfI x0 h) (M : RmR x0 B h) : Sat (sX15_same F h x0 x1 x2) (RP ρ c x0 B (TpR x0 h)) := rp_t (A := saP) (L := [(2528, bpL), (2531, mpL)]) hp rfl rfl (fun _ => rfl) T r0 P M (zX15_same hF fs_a (fs_o (.head _)) (fs_o (.tail _ (.head _))) (th_in _ T) r0 (rg_top _) (rg_top _) (rf_b P) P.1)
theorem rw_sees (hF : 700000 ≤ F) (hp : hpR c) (T : TH ρ c h) (r0 : ρ x0 = 16) (P : RfI x0 h) (M : RmR x0 B h) : Sat (sX15_sees F h x0 x1 x2 x3) (RP ρ c x0 B (TpR x0 h)) := rp_t (A := [(87, 999), (88, 999), (89, 999), (16, 23), (16, 24)]) (L := []) hp rfl rfl (fun _ => rfl) T r0 P M (zX15_sees hF fs_a (th_in _ T) r0 (rg_top _) (rg_top _) (rg_top _) (rf_b P))
theorem rw_view (hF : 700000 ≤ F) (hp : hpR c) (T : TH ρ c h) (r0 : ρ x0 = 16) (P : RfI x0 h) (M : RmR x0 B h) : Sat (sX15_view F h x0 x1 x2) (RP ρ c x0 B (TpR x0 h)) := rp_t (A := [(83, 999), (87, 999), (88, 999), (89, 999), (16, 3), (16, 23), (16, 24)]) (L := []) hp rfl rfl (fun _ => rfl) T r0 P M (zX15_view hF fs_a (th_in _ T) r0 (rg_top _) (rg_top _) (rf_b P))
theorem rw_write (hF : 700000 ≤ F) (hp : hpR c) (T : TH ρ c h) (r0 : ρ x0 = 16) (P : RfI x0 h) (M : RmR x0 B h) : Sat (sX15_write F h x0 x1) (RP ρ c x0 B (TpR x0 h)) := by
  obtain ⟨B1, b1⟩ := P.2.1
  exact rp_t (A := [(83, 999), (16, 3)]) (L := []) hp rfl rfl (fun _ => rfl) T r0 P M (write_w hF fs_a (th_in _ T) r0 b1 rfl)
end
