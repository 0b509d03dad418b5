theorem bit_shr {a : Int64} {x : Int32} (i : Rg 0 63 x) : bitJ (a >>> (x.toInt64 &&& 63)) 0 = bitJ a x.toNatClampNeg := by
  obtain ⟨j, ej, tj, hj⟩ := rg_nI i (Int.le_refl 0)
  have j64 : j < 64 := by have := i.2; omega
  have all : ∀ j : Fin 64, (((nI j.val).toInt64 &&& 63).toBitVec.smod 64).toNat = j.val := by decide +kernel
  have aj : (((nI j).toInt64 &&& 63).toBitVec.smod 64).toNat = j := all ⟨j, j64⟩
  unfold bitJ
  rw [ej, z_clamp hj, Int64.toBitVec_shiftRight, BitVec.sshiftRight_eq', aj, BitVec.getLsbD_sshiftRight]
  simp [j64]
theorem cmp_eq {a b : Int64} (h : lg_cmp a b = 0) : a = b := by
  unfold lg_cmp at h
  by_cases q : a > b
  · rw [if_pos q] at h; exact absurd h (by decide)
  · rw [if_neg q] at h
    by_cases z : a = b
    · exact z
    · rw [if_neg z] at h; exact absurd h (by decide)
theorem bit_test {a : Int64} {x : Int32} (i : Rg 0 63 x) (h : lg_cmp ((a >>> (x.toInt64 &&& 63)) &&& (1 : Int64)) (1 : Int64) = 0) : bitJ a x.toNatClampNeg = true := by
  have e := cmp_eq h
  have q : bitJ ((a >>> (x.toInt64 &&& 63)) &&& (1 : Int64)) 0 = true := by rw [e]; decide
  rw [bj_and, Bool.and_eq_true, bit_shr i] at q
  exact q.1
/-- how many rights, how many men in hand -/
def cRt (a : Int64) : Nat → Nat
  | 0 => 0
  | n + 1 => cRt a n + if bitJ a n then 1 else 0
def sH (h : Hp) (H d : Nat) : Nat → Int
  | 0 => 0
  | n + 1 => sH h H d n + (hI h H (2 * n + d)).toInt
theorem cRt_le (a : Int64) : ∀ n m, n ≤ m → cRt a n ≤ cRt a m := by
  intro n m
  induction m with
  | zero => intro h; have : n = 0 := by omega
            rw [this]; exact Nat.le_refl _
  | succ m ih =>
    intro h
    by_cases q : n = m + 1
    · rw [q]; exact Nat.le_refl _
    · have := ih (by omega)
      show cRt a n ≤ cRt a m + _
      omega
theorem sH_le {h : Hp} {H d : Nat} (p : ∀ j, 0 ≤ (hI h H j).toInt) : ∀ n m, n ≤ m → sH h H d n ≤ sH h H d m := by
  intro n m
  induction m with
  | zero => intro h; have : n = 0 := by omega
            rw [this]; exact Int.le_refl _
  | succ m ih =>
    intro h
    by_cases q : n = m + 1
    · rw [q]; exact Int.le_refl _
    · have := ih (by omega)
      have := p (2 * m + d)
      show sH _ H d n ≤ sH _ H d m + _
      omega
def wrE : Nat → Nat → Bool := fun k i => k == 83 || (k == 16 && i == 3)
/-- what writing keeps: the board and the rules -/
def WK (ρ : Nat → Nat) (x0 b : Nat) (h o : Hp) : Prop := (∀ a i, hR o a i = hR h a i) ∧ (∀ a, hJ o a = hJ h a) ∧ ∀ a i, ¬ ρ a = 83 → ¬ (a = x0 ∧ i = 3) → hI o a i = hI h a i
section
variable {ρ : Nat → Nat} {c : Cm} {h o g : Hp} {x0 b F : Nat} {x1 : Int32}
theorem wA (hp : ∀ k w i, fS [(83, 999), (16, 3)] [] k w i = true → cPm c k w i = true) : pmA c [(83, 999), (16, 3)] := fun w k i m => hp k w i (by unfold fS; rw [m, Bool.true_or])
/-- a letter is said -/
theorem s_say {β : Type} {Q : β → Prop} {k : Hp → Option β} (hF : 700000 ≤ F) (hA : pmA c [(83, 999), (16, 3)]) (T : TH ρ c h) (r0 : ρ x0 = 16) (po : (hI h x0 3).toInt ≤ 255) (H : ∀ o, TH ρ c o → Fr ρ (cat c (fS [(83, 999), (16, 3)] []) h) h o → (hI h x0 3).toInt ≤ (hI o x0 3).toInt → (hI o x0 3).toInt ≤ (hI h x0 3).toInt + 1 → Sat (k o) Q) : Sat (cl (sX15_say h x0 x1) k) Q :=
  s_cVfq T (fs_sub hA fs_n) (zX15_say hF fs_a (th_in _ T) r0 (rg_top _) po) (fun o T1 f1 p1 => H o T1 f1 p1.1 p1.2)
theorem s_saySq {β : Type} {Q : β → Prop} {k : Hp → Option β} (hF : 700000 ≤ F) (hA : pmA c [(83, 999), (16, 3)]) (T : TH ρ c h) (r0 : ρ x0 = 16) (i1 : Rg 0 63 x1) (po : (hI h x0 3).toInt ≤ 254) (H : ∀ o, TH ρ c o → Fr ρ (cat c (fS [(83, 999), (16, 3)] []) h) h o → (hI h x0 3).toInt ≤ (hI o x0 3).toInt → (hI o x0 3).toInt ≤ (hI h x0 3).toInt + 2 → Sat (k o) Q) : Sat (cl (sX15_saySquare h x0 x1) k) Q :=
  s_cVfq T (fs_sub hA fs_n) (zX15_saySquare hF fs_a (th_in _ T) r0 i1 po) (fun o T1 f1 p1 => H o T1 f1 p1.1 p1.2)
/-- the board, in numbers that stay -/
def WB (b H : Nat) (R : Int64) (np : Int) (h0 h : Hp) : Prop := hR h b 5 = some H ∧ hJ h b 2 = R ∧ (hI h b 3).toInt = np ∧ ∀ j, hI h H j = hI h0 H j
theorem wb_fr {H : Nat} {R : Int64} {np : Int} {h0 : Hp} (T : TH ρ c h) (rb : ρ b = 13) (f : Fr ρ (cat c (fS [(83, 999), (16, 3)] []) h) h o) (P : WB b H R np h0 h) : WB b H R np h0 o := by
  obtain ⟨p1, p2, p3, p4⟩ := P
  have rH : ρ H = 64 := rr T (thR T rb (i := 5) (k2 := 64) rfl (by decide)) p1
  refine ⟨?_, ?_, ?_, fun j => ?_⟩
  · rw [(fr_RI f rb (by decide) (fun _ => rfl)).2.2]; exact p1
  · rw [(fr_RI f rb (by decide) (fun _ => rfl)).2.1]; exact p2
  · rw [(fr_RI f rb (by decide) (fun _ => rfl)).1]; exact p3
  · rw [(fr_RI f rH (by decide) (fun _ => rfl)).1]; exact p4 j
end
