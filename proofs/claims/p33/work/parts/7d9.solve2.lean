/-! solve, as a call of the reference -/
section
variable {ρ : Nat → Nat} {c : Cm} {x0 F : Nat} {h h2 : Hp} {B : Nat × Nat}
theorem rw_solve (hF : 2000000 ≤ F) (hp : hpR c) (T : TH ρ c h) (r0 : ρ x0 = 16) (P : RfI x0 h) (M : RmR x0 B h) : Sat (sX15_solve F h x0) (RP ρ c x0 B (fun o => hI o x0 1 = 0)) := by
  unfold sX15_solve
  refine s_q (fun v ev => ?_)
  have iv : Rg 0 1200 v := by rw [ev]; exact thI T r0 rfl
  refine s_hq (th_wI T r0 (k := 16) (lo := 0) (hi := 1200) rfl (rg_m (rg_b rfl : Rg 0 0 (0 : Int32)) (by decide)) (by decide) (by decide) (hp 16 _ 1 rfl (fun z => absurd z.2 (by decide)))) (fun h2 T2 w2 => ?_)
  obtain ⟨P2, M2, z2⟩ := tp_w hp T r0 P M T2 w2
  have ob : ∀ w, w ≠ 2560 → w ≠ 2528 → w ≠ 2530 → ∀ k i, (k = 13 ∨ k = 62 ∨ k = 63 ∨ k = 64) → fS soC soL k w i = false := fun w n1 n2 n3 k i hk => fs_cf (Or.inr n1) (fs_cf (Or.inr n2) (fs_cf (Or.inr n3) (by rcases hk with z | z | z | z <;> subst z <;> rfl)))
  have bo : ∀ w, w ≠ 2560 → w ≠ 2528 → w ≠ 2530 → bdO (fS soC soL) w := fun w n1 n2 n3 => ⟨fun i _ => ob w n1 n2 n3 _ _ (by omega), fun i => ob w n1 n2 n3 _ _ (by omega), fun i => ob w n1 n2 n3 _ _ (by omega), fun i => ob w n1 n2 n3 _ _ (by omega)⟩
  obtain ⟨na, ha⟩ := da_i T2 r0
  obtain ⟨nd, hd⟩ := dd_i T2 r0
  obtain ⟨ng, hg⟩ := dg_i T2 r0
  obtain ⟨nf, hf⟩ := df_i T2 r0
  have N := rm_i M2 ha hd hg hf
  refine rp_m (S := fS soC soL) (fs_r hp rfl) T2 (solve_r hF fs_a (fs_o (.head _)) (fs_o (.tail _ (.head _))) (fs_o (.tail _ (.tail _ (.head _)))) (th_in _ T2) r0 P2.1 P2.2.2.2.2.2.2.1 iv) (fun o ρ1 c1 X T1 f K => ?_)
  refine ⟨rfi_p T2 r0 f P2 (fun _ => rfl) (fun _ => rfl) (fun _ => rfl) (Or.inl ⟨fun _ => rfl, fun _ => rfl, fun _ _ => rfl, fun _ _ => rfl, bo 3400 (by decide) (by decide) (by decide)⟩) (Or.inl ⟨fun _ => rfl, fun _ _ => rfl, fun j _ => bo _ (by omega) (by omega) (by omega)⟩) (Or.inl ⟨fun _ => rfl, fun _ => rfl, fun _ _ => rfl, fun _ _ => rfl⟩) (Or.inl ⟨fun _ => rfl, fun _ => rfl⟩) (Or.inl ⟨⟨fun _ => rfl, fun _ _ => rfl, fun j => ?_⟩, ⟨fun _ => rfl, fun _ _ => rfl⟩, ⟨fun _ => rfl, fun _ _ => rfl⟩, fun _ => rfl⟩) (Or.inr K.1) (nog_f T2 r0 f (fun _ => rfl) (fun _ _ _ => rfl) P2.2.2.2.2.2.2.2), ?_, by rw [(fr_RI f r0 (by decide) (fun _ => rfl)).1]; exact z2⟩
  · obtain ⟨a1, a2, a3, a4⟩ := bo (11000 + j) (by omega) (by omega) (by omega)
    exact ⟨fun i hi => a1 i (by omega), a2, a3, a4⟩
  · refine rm_o (da_f T2 r0 f (fun _ => rfl) (fun _ _ => rfl) ha) (dd_f T2 r0 f (fun _ => rfl) (fun _ _ => rfl) hd) (dg_f T2 r0 f (fun _ => rfl) (fun _ _ => rfl) hg) (df_f T2 r0 f (fun _ => rfl) (fun _ _ => rfl) hf) ?_
    rcases K.2 with ⟨q1, q2⟩ | ⟨q1, q2, k, q3⟩
    · have : d52 x0 o = d52 x0 h2 := by unfold d52; rw [q2]
      rw [this, q1]; exact N
    · have e1 : d52 x0 o = 0 := by unfold d52; rw [q3]; rfl
      have e2 : d52 x0 h2 = 1 := by unfold d52; rw [q1]; rfl
      rw [e2] at N
      rw [e1, q2]
      show h2.1.1 + 1 + _ + _ + _ + _ + 0 ≤ _ ∧ h2.1.2 + 1500000 + _ + _ + _ + _ + _ ≤ _
      omega
end
