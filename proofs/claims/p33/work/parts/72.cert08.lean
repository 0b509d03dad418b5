set_option maxRecDepth 20000 in
theorem zX15_blast_8 {ρ : Nat → Nat} {c : Cm} {F : Nat} {w_x1 : Nat} (hF : 700000 ≤ F) (hO_x1 : pmO c w_x1 [(62, 999), (13, 2)]) : ∀ (f : Nat) {h : Hp} {x0 : Nat} {x1 : Nat} {x2 : Int32} {x3 : Int32}, cw c x1 = w_x1 → TH ρ c h → ρ x0 = 16 → ρ x1 = 13 → Rg (0) (63) (x2) → Rg (0) (64) (x3) → (64 - x3.toInt).toNat < f → Sat (sX15_blast_8 F f h x0 x1 x2 x3) (ZV ρ c) := by
  intro f
  induction f with
  | zero => intros; omega
  | succ f ih =>
    intro h x0 x1 x2 x3 o_x1 T r_x0 r_x1 i_x2 i_x3 hm
    rw [sX15_blast_8]
    unfold sX15_blast_60
    obtain ⟨C_8, hC_8⟩ : ∃ C : Int, C = x3.toInt := ⟨_, rfl⟩
    have hk_8 : ∀ {h : Hp} {x0 : Nat} {x1 : Nat} {x2 : Int32} {x3 : Int32}, cw c x1 = w_x1 → TH ρ c h → ρ x0 = 16 → ρ x1 = 13 → Rg (0) (63) (x2) → Rg (0) (64) (x3) → C_8 < x3.toInt → Sat (sX15_blast_8 F f h x0 x1 x2 x3) (ZV ρ c) := by
      intro h' x0' x1' x2' x3' o_x1' T' r_x0' r_x1' i_x2' i_x3' hl
      exact ih o_x1' T' r_x0' r_x1' i_x2' i_x3' (by have := i_x3'.1; have := i_x3'.2; omega)
    have hc_8 : C_8 ≤ x3.toInt := by omega
    refine s_br (fun c_1 => ?_) (fun c_1 => ?_)
    · have _ := c_1
      have i_f_2 : Rg (9) (64) (x3) := rg_le2 c_1 (thI T r_x0 (k := 16) (i := 13) rfl : Rg (9) (64) ((hI h x0 13))) i_x3
      exact s_some (T)
    · have _ := c_1
      have i_f_3 : Rg (0) (63) (x3) := rg_lt1 (nle_lt c_1) i_x3 (thI T r_x0 (k := 16) (i := 13) rfl : Rg (9) (64) ((hI h x0 13)))
      refine s_gd (rg_ne0 (thI T r_x0 (k := 16) (i := 11) rfl : Rg (3) (8) ((hI h x0 11))) (by decide)) ?_
      refine s_gd (rg_ne0 (thI T r_x0 (k := 16) (i := 11) rfl : Rg (3) (8) ((hI h x0 11))) (by decide)) ?_
      refine s_br (fun c_4 => ?_) (fun c_4 => ?_)
      · have _ := c_4
        have i_f_5 : Rg (2) (7) ((if 0 ≤ ((x3 - x3 / (hI h x0 11) * (hI h x0 11)) - (x2 - x2 / (hI h x0 11) * (hI h x0 11))) then ((x3 - x3 / (hI h x0 11) * (hI h x0 11)) - (x2 - x2 / (hI h x0 11) * (hI h x0 11))) else 0 - ((x3 - x3 / (hI h x0 11) * (hI h x0 11)) - (x2 - x2 / (hI h x0 11) * (hI h x0 11))))) := rg_le2 c_4 (rg_b rfl : Rg (2) (2) ((2 : Int32))) (rg_if (fun hq_ => by have i_fI9191_1 : Rg (0) (7) (((x3 - x3 / (hI h x0 11) * (hI h x0 11)) - (x2 - x2 / (hI h x0 11) * (hI h x0 11)))) := rg_le2 hq_ (rg_b rfl : Rg (0) (0) (0 : Int32)) (rg_sub (rg_rem i_f_3 (thI T r_x0 (k := 16) (i := 11) rfl : Rg (3) (8) ((hI h x0 11))) (by decide) : Rg (0) (7) ((x3 - x3 / (hI h x0 11) * (hI h x0 11)))) (rg_rem i_x2 (thI T r_x0 (k := 16) (i := 11) rfl : Rg (3) (8) ((hI h x0 11))) (by decide) : Rg (0) (7) ((x2 - x2 / (hI h x0 11) * (hI h x0 11)))) (by decide) : Rg (-7) (7) (((x3 - x3 / (hI h x0 11) * (hI h x0 11)) - (x2 - x2 / (hI h x0 11) * (hI h x0 11))))); exact i_fI9191_1) (fun hq_ => by have i_fI2994_1 : Rg (-7) (-1) (((x3 - x3 / (hI h x0 11) * (hI h x0 11)) - (x2 - x2 / (hI h x0 11) * (hI h x0 11)))) := rg_lt1 (nle_lt hq_) (rg_sub (rg_rem i_f_3 (thI T r_x0 (k := 16) (i := 11) rfl : Rg (3) (8) ((hI h x0 11))) (by decide) : Rg (0) (7) ((x3 - x3 / (hI h x0 11) * (hI h x0 11)))) (rg_rem i_x2 (thI T r_x0 (k := 16) (i := 11) rfl : Rg (3) (8) ((hI h x0 11))) (by decide) : Rg (0) (7) ((x2 - x2 / (hI h x0 11) * (hI h x0 11)))) (by decide) : Rg (-7) (7) (((x3 - x3 / (hI h x0 11) * (hI h x0 11)) - (x2 - x2 / (hI h x0 11) * (hI h x0 11))))) (rg_b rfl : Rg (0) (0) (0 : Int32)); exact (rg_m (rg_sub (rg_b rfl : Rg (0) (0) (0 : Int32)) i_fI2994_1 (by decide) : Rg (1) (7) (0 - ((x3 - x3 / (hI h x0 11) * (hI h x0 11)) - (x2 - x2 / (hI h x0 11) * (hI h x0 11))))) (by decide))) : Rg (0) (7) ((if 0 ≤ ((x3 - x3 / (hI h x0 11) * (hI h x0 11)) - (x2 - x2 / (hI h x0 11) * (hI h x0 11))) then ((x3 - x3 / (hI h x0 11) * (hI h x0 11)) - (x2 - x2 / (hI h x0 11) * (hI h x0 11))) else 0 - ((x3 - x3 / (hI h x0 11) * (hI h x0 11)) - (x2 - x2 / (hI h x0 11) * (hI h x0 11))))))
        exact zX15_blast_61 hF @hk_8 (pmO_s hO_x1 rfl) o_x1 T r_x0 r_x1 i_x2 i_f_3 (rg_m (rg_b rfl : Rg (0) (0) ((0 : Int32))) (by decide)) hc_8
      · have _ := c_4
        have i_f_6 : Rg (0) (1) ((if 0 ≤ ((x3 - x3 / (hI h x0 11) * (hI h x0 11)) - (x2 - x2 / (hI h x0 11) * (hI h x0 11))) then ((x3 - x3 / (hI h x0 11) * (hI h x0 11)) - (x2 - x2 / (hI h x0 11) * (hI h x0 11))) else 0 - ((x3 - x3 / (hI h x0 11) * (hI h x0 11)) - (x2 - x2 / (hI h x0 11) * (hI h x0 11))))) := rg_lt1 (nle_lt c_4) (rg_if (fun hq_ => by have i_fI2363_1 : Rg (0) (7) (((x3 - x3 / (hI h x0 11) * (hI h x0 11)) - (x2 - x2 / (hI h x0 11) * (hI h x0 11)))) := rg_le2 hq_ (rg_b rfl : Rg (0) (0) (0 : Int32)) (rg_sub (rg_rem i_f_3 (thI T r_x0 (k := 16) (i := 11) rfl : Rg (3) (8) ((hI h x0 11))) (by decide) : Rg (0) (7) ((x3 - x3 / (hI h x0 11) * (hI h x0 11)))) (rg_rem i_x2 (thI T r_x0 (k := 16) (i := 11) rfl : Rg (3) (8) ((hI h x0 11))) (by decide) : Rg (0) (7) ((x2 - x2 / (hI h x0 11) * (hI h x0 11)))) (by decide) : Rg (-7) (7) (((x3 - x3 / (hI h x0 11) * (hI h x0 11)) - (x2 - x2 / (hI h x0 11) * (hI h x0 11))))); exact i_fI2363_1) (fun hq_ => by have i_fI8946_1 : Rg (-7) (-1) (((x3 - x3 / (hI h x0 11) * (hI h x0 11)) - (x2 - x2 / (hI h x0 11) * (hI h x0 11)))) := rg_lt1 (nle_lt hq_) (rg_sub (rg_rem i_f_3 (thI T r_x0 (k := 16) (i := 11) rfl : Rg (3) (8) ((hI h x0 11))) (by decide) : Rg (0) (7) ((x3 - x3 / (hI h x0 11) * (hI h x0 11)))) (rg_rem i_x2 (thI T r_x0 (k := 16) (i := 11) rfl : Rg (3) (8) ((hI h x0 11))) (by decide) : Rg (0) (7) ((x2 - x2 / (hI h x0 11) * (hI h x0 11)))) (by decide) : Rg (-7) (7) (((x3 - x3 / (hI h x0 11) * (hI h x0 11)) - (x2 - x2 / (hI h x0 11) * (hI h x0 11))))) (rg_b rfl : Rg (0) (0) (0 : Int32)); exact (rg_m (rg_sub (rg_b rfl : Rg (0) (0) (0 : Int32)) i_fI8946_1 (by decide) : Rg (1) (7) (0 - ((x3 - x3 / (hI h x0 11) * (hI h x0 11)) - (x2 - x2 / (hI h x0 11) * (hI h x0 11))))) (by decide))) : Rg (0) (7) ((if 0 ≤ ((x3 - x3 / (hI h x0 11) * (hI h x0 11)) - (x2 - x2 / (hI h x0 11) * (hI h x0 11))) then ((x3 - x3 / (hI h x0 11) * (hI h x0 11)) - (x2 - x2 / (hI h x0 11) * (hI h x0 11))) else 0 - ((x3 - x3 / (hI h x0 11) * (hI h x0 11)) - (x2 - x2 / (hI h x0 11) * (hI h x0 11)))))) (rg_b rfl : Rg (2) (2) ((2 : Int32)))
        refine s_gd (rg_ne0 (thI T r_x0 (k := 16) (i := 11) rfl : Rg (3) (8) ((hI h x0 11))) (by decide)) ?_
        refine s_gd (rg_ne0 (thI T r_x0 (k := 16) (i := 11) rfl : Rg (3) (8) ((hI h x0 11))) (by decide)) ?_
        refine s_br (fun c_7 => ?_) (fun c_7 => ?_)
        · have _ := c_7
          have i_f_8 : Rg (2) (21) ((if 0 ≤ ((x3 / (hI h x0 11)) - (x2 / (hI h x0 11))) then ((x3 / (hI h x0 11)) - (x2 / (hI h x0 11))) else 0 - ((x3 / (hI h x0 11)) - (x2 / (hI h x0 11))))) := rg_le2 c_7 (rg_b rfl : Rg (2) (2) ((2 : Int32))) (rg_if (fun hq_ => by have i_fI3612_1 : Rg (0) (21) (((x3 / (hI h x0 11)) - (x2 / (hI h x0 11)))) := rg_le2 hq_ (rg_b rfl : Rg (0) (0) (0 : Int32)) (rg_sub (rg_divw i_f_3 (thI T r_x0 (k := 16) (i := 11) rfl : Rg (3) (8) ((hI h x0 11))) (by decide) : Rg (0) (21) ((x3 / (hI h x0 11)))) (rg_divw i_x2 (thI T r_x0 (k := 16) (i := 11) rfl : Rg (3) (8) ((hI h x0 11))) (by decide) : Rg (0) (21) ((x2 / (hI h x0 11)))) (by decide) : Rg (-21) (21) (((x3 / (hI h x0 11)) - (x2 / (hI h x0 11))))); exact i_fI3612_1) (fun hq_ => by have i_fI9820_1 : Rg (-21) (-1) (((x3 / (hI h x0 11)) - (x2 / (hI h x0 11)))) := rg_lt1 (nle_lt hq_) (rg_sub (rg_divw i_f_3 (thI T r_x0 (k := 16) (i := 11) rfl : Rg (3) (8) ((hI h x0 11))) (by decide) : Rg (0) (21) ((x3 / (hI h x0 11)))) (rg_divw i_x2 (thI T r_x0 (k := 16) (i := 11) rfl : Rg (3) (8) ((hI h x0 11))) (by decide) : Rg (0) (21) ((x2 / (hI h x0 11)))) (by decide) : Rg (-21) (21) (((x3 / (hI h x0 11)) - (x2 / (hI h x0 11))))) (rg_b rfl : Rg (0) (0) (0 : Int32)); exact (rg_m (rg_sub (rg_b rfl : Rg (0) (0) (0 : Int32)) i_fI9820_1 (by decide) : Rg (1) (21) (0 - ((x3 / (hI h x0 11)) - (x2 / (hI h x0 11))))) (by decide))) : Rg (0) (21) ((if 0 ≤ ((x3 / (hI h x0 11)) - (x2 / (hI h x0 11))) then ((x3 / (hI h x0 11)) - (x2 / (hI h x0 11))) else 0 - ((x3 / (hI h x0 11)) - (x2 / (hI h x0 11))))))
          exact zX15_blast_61 hF @hk_8 (pmO_s hO_x1 rfl) o_x1 T r_x0 r_x1 i_x2 i_f_3 (rg_m (rg_b rfl : Rg (0) (0) ((0 : Int32))) (by decide)) hc_8
        · have _ := c_7
          have i_f_9 : Rg (0) (1) ((if 0 ≤ ((x3 / (hI h x0 11)) - (x2 / (hI h x0 11))) then ((x3 / (hI h x0 11)) - (x2 / (hI h x0 11))) else 0 - ((x3 / (hI h x0 11)) - (x2 / (hI h x0 11))))) := rg_lt1 (nle_lt c_7) (rg_if (fun hq_ => by have i_fI8111_1 : Rg (0) (21) (((x3 / (hI h x0 11)) - (x2 / (hI h x0 11)))) := rg_le2 hq_ (rg_b rfl : Rg (0) (0) (0 : Int32)) (rg_sub (rg_divw i_f_3 (thI T r_x0 (k := 16) (i := 11) rfl : Rg (3) (8) ((hI h x0 11))) (by decide) : Rg (0) (21) ((x3 / (hI h x0 11)))) (rg_divw i_x2 (thI T r_x0 (k := 16) (i := 11) rfl : Rg (3) (8) ((hI h x0 11))) (by decide) : Rg (0) (21) ((x2 / (hI h x0 11)))) (by decide) : Rg (-21) (21) (((x3 / (hI h x0 11)) - (x2 / (hI h x0 11))))); exact i_fI8111_1) (fun hq_ => by have i_fI4731_1 : Rg (-21) (-1) (((x3 / (hI h x0 11)) - (x2 / (hI h x0 11)))) := rg_lt1 (nle_lt hq_) (rg_sub (rg_divw i_f_3 (thI T r_x0 (k := 16) (i := 11) rfl : Rg (3) (8) ((hI h x0 11))) (by decide) : Rg (0) (21) ((x3 / (hI h x0 11)))) (rg_divw i_x2 (thI T r_x0 (k := 16) (i := 11) rfl : Rg (3) (8) ((hI h x0 11))) (by decide) : Rg (0) (21) ((x2 / (hI h x0 11)))) (by decide) : Rg (-21) (21) (((x3 / (hI h x0 11)) - (x2 / (hI h x0 11))))) (rg_b rfl : Rg (0) (0) (0 : Int32)); exact (rg_m (rg_sub (rg_b rfl : Rg (0) (0) (0 : Int32)) i_fI4731_1 (by decide) : Rg (1) (21) (0 - ((x3 / (hI h x0 11)) - (x2 / (hI h x0 11))))) (by decide))) : Rg (0) (21) ((if 0 ≤ ((x3 / (hI h x0 11)) - (x2 / (hI h x0 11))) then ((x3 / (hI h x0 11)) - (x2 / (hI h x0 11))) else 0 - ((x3 / (hI h x0 11)) - (x2 / (hI h x0 11)))))) (rg_b rfl : Rg (2) (2) ((2 : Int32)))
          exact zX15_blast_61 hF @hk_8 (pmO_s hO_x1 rfl) o_x1 T r_x0 r_x1 i_x2 i_f_3 (rg_m (rg_b rfl : Rg (1) (1) ((1 : Int32))) (by decide)) hc_8
set_option maxRecDepth 20000 in
theorem zX15_blast {ρ : Nat → Nat} {c : Cm} {F : Nat} {w_x1 : Nat} (hF : 700000 ≤ F) (hO_x1 : pmO c w_x1 [(62, 999), (13, 2)]) {h : Hp} {x0 : Nat} {x1 : Nat} {x2 : Int32} (o_x1 : cw c x1 = w_x1) (T : TH ρ c h) (r_x0 : ρ x0 = 16) (r_x1 : ρ x1 = 13) (i_x2 : Rg (0) (63) (x2)) : Sat (sX15_blast F h x0 x1 x2) (ZV ρ c) := by
  unfold sX15_blast 
  refine s_cV (zX15_leave hF (pmO_s hO_x1 rfl) o_x1 T r_x0 r_x1 i_x2) (fun o_1 T_1 => ?_)
  have m_2 : Rg (0) (64) ((0 : Int32)) := (rg_m (rg_b rfl : Rg (0) (0) ((0 : Int32))) (by decide))
  exact zX15_blast_8 hF (pmO_s hO_x1 rfl) F o_x1 T_1 r_x0 r_x1 i_x2 (rg_m (rg_b rfl : Rg (0) (0) ((0 : Int32))) (by decide)) (by have := m_2.1; have := m_2.2; omega)
set_option maxRecDepth 20000 in
theorem zX15_come {ρ : Nat → Nat} {c : Cm} {F : Nat} {w_x1 : Nat} (hF : 700000 ≤ F) (hO_x1 : pmO c w_x1 [(62, 999), (13, 2)]) {h : Hp} {x0 : Nat} {x1 : Nat} {x2 : Int32} {x3 : Int32} (o_x1 : cw c x1 = w_x1) (T : TH ρ c h) (r_x0 : ρ x0 = 16) (r_x1 : ρ x1 = 13) (i_x2 : Rg (0) (63) (x2)) (i_x3 : Rg (0) (24) (x3)) : Sat (sX15_come h x0 x1 x2 x3) (ZV ρ c) := by
  unfold sX15_come 
  obtain ⟨r_1, e_r_1, q_r_1⟩ := thR T r_x1 (k := 13) (i := 0) (k2 := 62) rfl (by decide)
  refine s_ref e_r_1 ?_
  refine s_gd (by rw [thN T q_r_1 (k := 62) (n := 64) rfl (by decide)]; exact rg_inB (i_x2 : Rg (0) (63) (x2)) (by decide)) ?_
  refine s_hq (th_wI T q_r_1 (k := 62) (lo := (0)) (hi := (24)) rfl (i_x3 : Rg (0) (24) (x3)) (by decide) (by decide) (pm_o hO_x1 (th_ih T r_x1 (k := 13) rfl e_r_1 o_x1) rfl)) (fun h_3 T_1 w_2 => ?_)
  refine s_hq (th_wJ T_1 r_x1 (k := 13) (by decide) (pm_o hO_x1 o_x1 rfl)) (fun h_4 T_3 w_4 => ?_)
  exact s_some (T_3)
set_option maxRecDepth 20000 in
theorem zX15_make_582 {ρ : Nat → Nat} {c : Cm} {F : Nat} {w_x4 : Nat} (hF : 700000 ≤ F) (hA : pmA c [(16, 23), (16, 24)]) (hO_x4 : pmO c w_x4 [(65, 999)]) {h : Hp} {x0 : Nat} {x4 : Nat} {x5 : Int32} {t0 : Int32} (o_x4 : cw c x4 = w_x4) (T : TH ρ c h) (r_x0 : ρ x0 = 16) (r_x4 : ρ x4 = 13) (i_x5 : Rg (0) (1) (x5)) (i_t0 : Rg (-1) (63) (t0)) (pe : (PE x4 h)) : Sat (sX15_make_582 F h x0 x4 x5 t0) (ZQ (ZV ρ c) (fun o => PE x4 o)) := by
  unfold sX15_make_582 sX15_make_626
  refine s_br (fun c_1 => ?_) (fun c_1 => ?_)
  · have _ := c_1
    have i_f_2 : Rg (-1) (-1) (t0) := rg_eq c_1 (rg_b rfl : Rg (-1) (-1) ((- 1 : Int32)))
    exact s_some ⟨(T), pe⟩
  · have _ := c_1
    have i_f_3 : Rg (0) (63) (t0) := rg_nlo c_1 i_t0 (rg_b rfl : Rg (-1) (-1) ((- 1 : Int32)))
    refine s_cIf (S := fS [(16, 23), (16, 24)] []) T (fs_sub (pmA_s hA rfl) fs_n) (zX15_isAttacked hF fs_a o_x4 (th_in _ T) r_x0 r_x4 i_f_3 i_x5) (fun o_2 T_4 i_o_2 f_o_2 => ?_)
    refine s_br (fun c_5 => ?_) (fun c_5 => ?_)
    · have _ := c_5
      have i_f_6 : Rg (0) (0) (o_2.1) := rg_eq c_5 (rg_b rfl : Rg (0) (0) (0 : Int32))
      have pf_7 : PE x4 o_2.2 := (pe_fr T r_x4 f_o_2 rfl rfl rfl (fun _ => rfl) (fun _ => rfl) pe)
      exact s_some ⟨(T_4), pf_7⟩
    · have _ := c_5
      have i_f_8 : Rg (1) (1) (o_2.1) := rg_nlo c_5 i_o_2 (rg_b rfl : Rg (0) (0) (0 : Int32))
      obtain ⟨r_4, e_r_4, q_r_4⟩ := thR T_4 r_x4 (k := 13) (i := 6) (k2 := 65) rfl (by decide)
      refine s_ref e_r_4 ?_
      refine s_ref e_r_4 ?_
      refine s_gd (by rw [thN T_4 q_r_4 (k := 65) (n := 2) rfl (by decide)]; exact rg_inB (i_x5 : Rg (0) (1) (x5)) (by decide)) ?_
      refine s_gd (by rw [thN T_4 q_r_4 (k := 65) (n := 2) rfl (by decide)]; exact rg_inB (i_x5 : Rg (0) (1) (x5)) (by decide)) ?_
      refine s_hq (th_wI T_4 q_r_4 (k := 65) (lo := (0)) (hi := (9)) rfl ((rg_m (rg_if (fun hq_ => by have i_fI5759_1 : Rg (1) (8) (((hI o_2.2 r_4 x5.toNatClampNeg) + (1 : Int32))) := rg_lt1 hq_ (rg_add (thI T_4 q_r_4 (k := 65) rfl : Rg (0) (9) ((hI o_2.2 r_4 x5.toNatClampNeg))) (rg_b rfl : Rg (1) (1) ((1 : Int32))) (by decide) : Rg (1) (10) (((hI o_2.2 r_4 x5.toNatClampNeg) + (1 : Int32)))) (rg_b rfl : Rg (9) (9) ((9 : Int32))); have i_fI5759_2 : Rg (0) (7) ((hI o_2.2 r_4 x5.toNatClampNeg)) := rg_bka (i_fI5759_1 : Rg (1) (8) (((hI o_2.2 r_4 x5.toNatClampNeg) + (1 : Int32)))) (thI T_4 q_r_4 (k := 65) rfl : Rg (0) (9) ((hI o_2.2 r_4 x5.toNatClampNeg))) (rg_b rfl : Rg (1) (1) ((1 : Int32))) (by decide); exact (rg_m i_fI5759_1 (by decide))) (fun hq_ => by have i_fI3252_1 : Rg (9) (10) (((hI o_2.2 r_4 x5.toNatClampNeg) + (1 : Int32))) := rg_le2 (nlt_le hq_) (rg_b rfl : Rg (9) (9) ((9 : Int32))) (rg_add (thI T_4 q_r_4 (k := 65) rfl : Rg (0) (9) ((hI o_2.2 r_4 x5.toNatClampNeg))) (rg_b rfl : Rg (1) (1) ((1 : Int32))) (by decide) : Rg (1) (10) (((hI o_2.2 r_4 x5.toNatClampNeg) + (1 : Int32)))); have i_fI3252_2 : Rg (8) (9) ((hI o_2.2 r_4 x5.toNatClampNeg)) := rg_bka (i_fI3252_1 : Rg (9) (10) (((hI o_2.2 r_4 x5.toNatClampNeg) + (1 : Int32)))) (thI T_4 q_r_4 (k := 65) rfl : Rg (0) (9) ((hI o_2.2 r_4 x5.toNatClampNeg))) (rg_b rfl : Rg (1) (1) ((1 : Int32))) (by decide); exact (rg_m (rg_b rfl : Rg (9) (9) ((9 : Int32))) (by decide))) : Rg (1) (9) ((if ((hI o_2.2 r_4 x5.toNatClampNeg) + (1 : Int32)) < (9 : Int32) then ((hI o_2.2 r_4 x5.toNatClampNeg) + (1 : Int32)) else (9 : Int32)))) (by decide)) : Rg (0) (9) ((if ((hI o_2.2 r_4 x5.toNatClampNeg) + (1 : Int32)) < (9 : Int32) then ((hI o_2.2 r_4 x5.toNatClampNeg) + (1 : Int32)) else (9 : Int32)))) (by decide) (by decide) (pm_o hO_x4 (th_ih T_4 r_x4 (k := 13) rfl e_r_4 o_x4) rfl)) (fun h_8 T_9 w_10 => ?_)
      have pf_11 : PE x4 h_8 := (pe_fr T_4 r_x4 (fr1Io (B := [(65, 999)]) q_r_4 (th_ih T_4 r_x4 (k := 13) rfl e_r_4 o_x4) rfl w_10) rfl rfl rfl (fun _ => rfl) (fun _ => rfl) (pe_fr T r_x4 f_o_2 rfl rfl rfl (fun _ => rfl) (fun _ => rfl) pe))
      exact s_some ⟨(T_9), pf_11⟩
set_option maxRecDepth 20000 in
theorem zX15_make_546 {ρ : Nat → Nat} {c : Cm} {F : Nat} {w_x4 w_t1 : Nat} (hF : 700000 ≤ F) (hA : pmA c [(16, 23), (16, 24)]) (hO_t1 : pmO c w_t1 [(13, 7)]) (hO_x4 : pmO c w_x4 [(65, 999), (13, 1)]) {h : Hp} {x0 : Nat} {x4 : Nat} {x5 : Int32} {t0 : Int32} {t1 : Nat} (o_x4 : cw c x4 = w_x4) (o_t1 : cw c t1 = w_t1) (T : TH ρ c h) (r_x0 : ρ x0 = 16) (r_x4 : ρ x4 = 13) (i_x5 : Rg (0) (1) (x5)) (i_t0 : Rg (0) (200) (t0)) (r_t1 : ρ t1 = 13) (pe : (PE x4 h)) : Sat (sX15_make_546 F h x0 x4 x5 t0 t1) (ZQ (ZV ρ c) (fun o => PE x4 o)) := by
  unfold sX15_make_546 
  refine s_hq (th_wI T r_t1 (k := 13) (lo := (0)) (hi := (999)) rfl ((rg_m i_t0 (by decide)) : Rg (0) (999) (t0)) (by decide) (by decide) (pm_o hO_t1 o_t1 rfl)) (fun h_1 T_1 w_2 => ?_)
  refine s_hq (th_wI T_1 r_x4 (k := 13) (lo := (0)) (hi := (1)) rfl ((rg_sub (rg_b rfl : Rg (1) (1) ((1 : Int32))) i_x5 (by decide) : Rg (0) (1) (((1 : Int32) - x5))) : Rg (0) (1) (((1 : Int32) - x5))) (by decide) (by decide) (pm_o hO_x4 o_x4 rfl)) (fun h_2 T_3 w_4 => ?_)
  obtain ⟨r_3, e_r_3, q_r_3⟩ := thR T_3 r_x0 (k := 16) (i := 4) (k2 := 15) rfl (by decide)
  refine s_ref e_r_3 ?_
  refine s_br (fun c_5 => ?_) (fun c_5 => ?_)
  · have _ := c_5
    have i_f_6 : Rg (0) (0) ((hI h_2 r_3 20)) := rg_le1 c_5 (thI T_3 q_r_3 (k := 15) (i := 20) rfl : Rg (0) (9) ((hI h_2 r_3 20))) (rg_b rfl : Rg (0) (0) (0 : Int32))
    have pf_7 : PE x4 h_2 := (pe_fr T_1 r_x4 (fr1Io (B := [(13, 1)]) r_x4 o_x4 rfl w_4) rfl rfl rfl (fun _ => rfl) (fun _ => rfl) (pe_fr T r_x4 (fr1Io (B := [(13, 7)]) r_t1 o_t1 rfl w_2) rfl rfl rfl (fun _ => rfl) (fun _ => rfl) pe))
    exact zX15_make_582 hF (pmA_s hA rfl) (pmO_s hO_x4 rfl) o_x4 T_3 r_x0 r_x4 i_x5 (rg_m (rg_b rfl : Rg (-1) (-1) ((- 1 : Int32))) (by decide)) pf_7
  · have _ := c_5
    have i_f_8 : Rg (1) (9) ((hI h_2 r_3 20)) := rg_lt2 (nle_lt c_5) (rg_b rfl : Rg (0) (0) (0 : Int32)) (thI T_3 q_r_3 (k := 15) (i := 20) rfl : Rg (0) (9) ((hI h_2 r_3 20)))
    refine s_dI0 (zX15_royalOf hF T_3 r_x0 r_x4 (rg_sub (rg_b rfl : Rg (1) (1) ((1 : Int32))) i_x5 (by decide) : Rg (0) (1) (((1 : Int32) - x5)))) (fun o_5 eb_o_5 e_o_5 i_o_5 => ?_)
    have T_9 := th_eq e_o_5 T_3
    have pf_10 : PE x4 o_5.2 := (by rw [e_o_5]; exact (pe_fr T_1 r_x4 (fr1Io (B := [(13, 1)]) r_x4 o_x4 rfl w_4) rfl rfl rfl (fun _ => rfl) (fun _ => rfl) (pe_fr T r_x4 (fr1Io (B := [(13, 7)]) r_t1 o_t1 rfl w_2) rfl rfl rfl (fun _ => rfl) (fun _ => rfl) pe)))
    exact zX15_make_582 hF (pmA_s hA rfl) (pmO_s hO_x4 rfl) o_x4 T_9 r_x0 r_x4 i_x5 i_o_5 pf_10
set_option maxRecDepth 20000 in
theorem zX15_make_508 {ρ : Nat → Nat} {c : Cm} {F : Nat} {w_x1 w_x4 : Nat} (hF : 700000 ≤ F) (hA : pmA c [(16, 23), (16, 24)]) (hO_x4 : pmO c w_x4 [(65, 999), (13, 1), (13, 7)]) {h : Hp} {x0 : Nat} {x1 : Nat} {x4 : Nat} {x5 : Int32} {x8 : Int32} {x9 : Int32} {x10 : Int32} (o_x1 : cw c x1 = w_x1) (o_x4 : cw c x4 = w_x4) (T : TH ρ c h) (r_x0 : ρ x0 = 16) (r_x1 : ρ x1 = 13) (r_x4 : ρ x4 = 13) (i_x5 : Rg (0) (1) (x5)) (i_x8 : Rg (0) (11) (x8)) (i_x9 : Rg (0) (3) (x9)) (i_x10 : Rg (0) (1) (x10)) (pe : (PE x4 h)) : Sat (sX15_make_508 F h x0 x1 x4 x5 x8 x9 x10) (ZQ (ZV ρ c) (fun o => PE x4 o)) := by
  unfold sX15_make_508 sX15_make_530
  refine s_br (fun c_1 => ?_) (fun c_1 => ?_)
  · have _ := c_1
    have i_f_2 : Rg (0) (0) (x10) := rg_eq c_1 (rg_b rfl : Rg (0) (0) (0 : Int32))
    refine s_br (fun c_3 => ?_) (fun c_3 => ?_)
    · have _ := c_3
      have i_f_4 : Rg (3) (3) (x9) := rg_eq c_3 (rg_b rfl : Rg (3) (3) ((3 : Int32)))
      exact zX15_make_546 hF (pmA_s hA rfl) (pmO_s hO_x4 rfl) (pmO_s hO_x4 rfl) o_x4 o_x4 T r_x0 r_x4 i_x5 (rg_m (rg_b rfl : Rg (0) (0) ((0 : Int32))) (by decide)) r_x4 pe
    · have _ := c_3
      have i_f_5 : Rg (0) (2) (x9) := rg_nhi c_3 i_x9 (rg_b rfl : Rg (3) (3) ((3 : Int32)))
      refine s_dI0 (zX15_becomesOthers hF T r_x0 i_x8) (fun o_3 eb_o_3 e_o_3 i_o_3 => ?_)
      have T_6 := th_eq e_o_3 T
      refine s_br (fun c_7 => ?_) (fun c_7 => ?_)
      · have _ := c_7
        have i_f_8 : Rg (0) (0) (o_3.1) := rg_eq c_7 (rg_b rfl : Rg (0) (0) (0 : Int32))
        have pf_9 : PE x4 o_3.2 := (by rw [e_o_3]; exact pe)
        exact zX15_make_546 hF (pmA_s hA rfl) (pmO_s hO_x4 rfl) (pmO_s hO_x4 rfl) o_x4 o_x4 T_6 r_x0 r_x4 i_x5 (rg_m (rg_if (fun hq_ => by have i_fI8125_1 : Rg (1) (199) (((hI o_3.2 x1 7) + (1 : Int32))) := rg_lt1 hq_ (rg_add (thI T_6 r_x1 (k := 13) (i := 7) rfl : Rg (0) (999) ((hI o_3.2 x1 7))) (rg_b rfl : Rg (1) (1) ((1 : Int32))) (by decide) : Rg (1) (1000) (((hI o_3.2 x1 7) + (1 : Int32)))) (rg_b rfl : Rg (200) (200) ((200 : Int32))); have i_fI8125_2 : Rg (0) (198) ((hI o_3.2 x1 7)) := rg_bka (i_fI8125_1 : Rg (1) (199) (((hI o_3.2 x1 7) + (1 : Int32)))) (thI T_6 r_x1 (k := 13) (i := 7) rfl : Rg (0) (999) ((hI o_3.2 x1 7))) (rg_b rfl : Rg (1) (1) ((1 : Int32))) (by decide); exact (rg_m i_fI8125_1 (by decide))) (fun hq_ => by have i_fI1160_1 : Rg (200) (1000) (((hI o_3.2 x1 7) + (1 : Int32))) := rg_le2 (nlt_le hq_) (rg_b rfl : Rg (200) (200) ((200 : Int32))) (rg_add (thI T_6 r_x1 (k := 13) (i := 7) rfl : Rg (0) (999) ((hI o_3.2 x1 7))) (rg_b rfl : Rg (1) (1) ((1 : Int32))) (by decide) : Rg (1) (1000) (((hI o_3.2 x1 7) + (1 : Int32)))); have i_fI1160_2 : Rg (199) (999) ((hI o_3.2 x1 7)) := rg_bka (i_fI1160_1 : Rg (200) (1000) (((hI o_3.2 x1 7) + (1 : Int32)))) (thI T_6 r_x1 (k := 13) (i := 7) rfl : Rg (0) (999) ((hI o_3.2 x1 7))) (rg_b rfl : Rg (1) (1) ((1 : Int32))) (by decide); exact (rg_m (rg_b rfl : Rg (200) (200) ((200 : Int32))) (by decide))) : Rg (1) (200) ((if ((hI o_3.2 x1 7) + (1 : Int32)) < (200 : Int32) then ((hI o_3.2 x1 7) + (1 : Int32)) else (200 : Int32)))) (by decide)) r_x4 pf_9
      · have _ := c_7
        have i_f_10 : Rg (1) (1) (o_3.1) := rg_nlo c_7 i_o_3 (rg_b rfl : Rg (0) (0) (0 : Int32))
        have pf_11 : PE x4 o_3.2 := (by rw [e_o_3]; exact pe)
        exact zX15_make_546 hF (pmA_s hA rfl) (pmO_s hO_x4 rfl) (pmO_s hO_x4 rfl) o_x4 o_x4 T_6 r_x0 r_x4 i_x5 (rg_m (rg_b rfl : Rg (0) (0) ((0 : Int32))) (by decide)) r_x4 pf_11
  · have _ := c_1
    have i_f_12 : Rg (1) (1) (x10) := rg_nlo c_1 i_x10 (rg_b rfl : Rg (0) (0) (0 : Int32))
    exact zX15_make_546 hF (pmA_s hA rfl) (pmO_s hO_x4 rfl) (pmO_s hO_x4 rfl) o_x4 o_x4 T r_x0 r_x4 i_x5 (rg_m (rg_b rfl : Rg (0) (0) ((0 : Int32))) (by decide)) r_x4 pe
set_option maxRecDepth 20000 in
theorem zX15_make_415 {ρ : Nat → Nat} {c : Cm} {F : Nat} {w_x1 w_x4 : Nat} (hF : 700000 ≤ F) (hA : pmA c [(16, 23), (16, 24)]) (hO_x4 : pmO c w_x4 [(63, 999), (65, 999), (13, 1), (13, 7)]) : ∀ (f : Nat) {h : Hp} {x0 : Nat} {x1 : Nat} {x4 : Nat} {x5 : Int32} {x6 : Int32} {x7 : Int32} {x8 : Int32} {x9 : Int32} {x10 : Int32} {x11 : Int32} {x12 : Int32}, cw c x1 = w_x1 → cw c x4 = w_x4 → TH ρ c h → ρ x0 = 16 → ρ x1 = 13 → ρ x4 = 13 → Rg (0) (1) (x5) → Rg (-1) (63) (x6) → Rg (0) (63) (x7) → Rg (0) (11) (x8) → Rg (0) (3) (x9) → Rg (0) (1) (x10) → Rg (0) (63) (x11) → Rg (1) (63) (x12) → (PaE x0 x4 x6 x7 x11 x12 h) → (63 - x12.toInt).toNat < f → Sat (sX15_make_415 F f h x0 x1 x4 x5 x6 x7 x8 x9 x10 x11 x12) (ZQ (ZV ρ c) (fun o => PE x4 o)) := by
  intro f
  induction f with
  | zero => intros; omega
  | succ f ih =>
    intro h x0 x1 x4 x5 x6 x7 x8 x9 x10 x11 x12 o_x1 o_x4 T r_x0 r_x1 r_x4 i_x5 i_x6 i_x7 i_x8 i_x9 i_x10 i_x11 i_x12 pa hm
    rw [sX15_make_415]
    obtain ⟨C_415, hC_415⟩ : ∃ C : Int, C = x12.toInt := ⟨_, rfl⟩
    have hk_415 : ∀ {h : Hp} {x0 : Nat} {x1 : Nat} {x4 : Nat} {x5 : Int32} {x6 : Int32} {x7 : Int32} {x8 : Int32} {x9 : Int32} {x10 : Int32} {x11 : Int32} {x12 : Int32}, cw c x1 = w_x1 → cw c x4 = w_x4 → TH ρ c h → ρ x0 = 16 → ρ x1 = 13 → ρ x4 = 13 → Rg (0) (1) (x5) → Rg (-1) (63) (x6) → Rg (0) (63) (x7) → Rg (0) (11) (x8) → Rg (0) (3) (x9) → Rg (0) (1) (x10) → Rg (0) (63) (x11) → Rg (1) (63) (x12) → (PaE x0 x4 x6 x7 x11 x12 h) → C_415 < x12.toInt → Sat (sX15_make_415 F f h x0 x1 x4 x5 x6 x7 x8 x9 x10 x11 x12) (ZQ (ZV ρ c) (fun o => PE x4 o)) := by
      intro h' x0' x1' x4' x5' x6' x7' x8' x9' x10' x11' x12' o_x1' o_x4' T' r_x0' r_x1' r_x4' i_x5' i_x6' i_x7' i_x8' i_x9' i_x10' i_x11' i_x12' pa' hl
      exact ih o_x1' o_x4' T' r_x0' r_x1' r_x4' i_x5' i_x6' i_x7' i_x8' i_x9' i_x10' i_x11' i_x12' pa' (by have := i_x12'.1; have := i_x12'.2; omega)
    have hc_415 : C_415 ≤ x12.toInt := by omega
    refine s_br (fun c_1 => ?_) (fun c_1 => ?_)
    · have _ := c_1
      exact zX15_make_508 hF (pmA_s hA rfl) (pmO_s hO_x4 rfl) o_x1 o_x4 T r_x0 r_x1 r_x4 i_x5 i_x8 i_x9 i_x10 (pas_pe T r_x0 pa c_1)
    · have _ := c_1
      have i_f_2 : Rg (1) (62) (x12) := rg_lt1 (nle_lt c_1) i_x12 i_x11
      have i_f_3 : Rg (2) (63) (x11) := rg_lt2 (nle_lt c_1) i_x12 i_x11
      refine s_gd (rg_ne0 (thI T r_x0 (k := 16) (i := 11) rfl : Rg (3) (8) ((hI h x0 11))) (by decide)) ?_
      refine s_gd (rg_ne0 (thI T r_x0 (k := 16) (i := 11) rfl : Rg (3) (8) ((hI h x0 11))) (by decide)) ?_
      refine s_gd (rg_ne0 (thI T r_x0 (k := 16) (i := 11) rfl : Rg (3) (8) ((hI h x0 11))) (by decide)) ?_
      refine s_gd (rg_ne0 i_f_3 (by decide)) ?_
      refine s_q (fun v_6 e_4 => ?_)
      have i_v_6 : Rg (-2147483648) (2147483647) (v_6) := by rw [e_4]; exact (rg_top _ : Rg (-2147483648) (2147483647) ((x6 - x6 / (hI h x0 11) * (hI h x0 11)) + ((((x7 - x7 / (hI h x0 11) * (hI h x0 11)) - (x6 - x6 / (hI h x0 11) * (hI h x0 11))) / x11) * x12)))
      refine s_gd (rg_ne0 (thI T r_x0 (k := 16) (i := 11) rfl : Rg (3) (8) ((hI h x0 11))) (by decide)) ?_
      refine s_gd (rg_ne0 (thI T r_x0 (k := 16) (i := 11) rfl : Rg (3) (8) ((hI h x0 11))) (by decide)) ?_
      refine s_gd (rg_ne0 (thI T r_x0 (k := 16) (i := 11) rfl : Rg (3) (8) ((hI h x0 11))) (by decide)) ?_
      refine s_gd (rg_ne0 i_f_3 (by decide)) ?_
      refine s_q (fun v_11 e_5 => ?_)
      have i_v_11 : Rg (-1323) (1323) (v_11) := by rw [e_5]; exact (rg_add (rg_divn (rg_m i_x6 (by decide) : Rg (-63) (63) (x6)) (thI T r_x0 (k := 16) (i := 11) rfl : Rg (3) (8) ((hI h x0 11))) (by decide) : Rg (-21) (21) ((x6 / (hI h x0 11)))) (rg_muln (rg_m (rg_divn (rg_m (rg_sub (rg_divw i_x7 (thI T r_x0 (k := 16) (i := 11) rfl : Rg (3) (8) ((hI h x0 11))) (by decide) : Rg (0) (21) ((x7 / (hI h x0 11)))) (rg_divn (rg_m i_x6 (by decide) : Rg (-63) (63) (x6)) (thI T r_x0 (k := 16) (i := 11) rfl : Rg (3) (8) ((hI h x0 11))) (by decide) : Rg (-21) (21) ((x6 / (hI h x0 11)))) (by decide) : Rg (-21) (42) (((x7 / (hI h x0 11)) - (x6 / (hI h x0 11))))) (by decide) : Rg (-42) (42) (((x7 / (hI h x0 11)) - (x6 / (hI h x0 11))))) i_f_3 (by decide) : Rg (-21) (21) ((((x7 / (hI h x0 11)) - (x6 / (hI h x0 11))) / x11))) (by decide) : Rg (-21) (21) ((((x7 / (hI h x0 11)) - (x6 / (hI h x0 11))) / x11))) (rg_m i_f_2 (by decide) : Rg (-62) (62) (x12)) (by decide) : Rg (-1302) (1302) (((((x7 / (hI h x0 11)) - (x6 / (hI h x0 11))) / x11) * x12))) (by decide) : Rg (-1323) (1323) ((x6 / (hI h x0 11)) + ((((x7 / (hI h x0 11)) - (x6 / (hI h x0 11))) / x11) * x12)))
      obtain ⟨r_12, e_r_12, q_r_12⟩ := thR T r_x4 (k := 13) (i := 4) (k2 := 63) rfl (by decide)
      refine s_ref e_r_12 ?_
      refine s_gd (by rw [thN T q_r_12 (k := 63) (n := 64) rfl (by decide)]; exact rg_inB ((rg_m i_f_2 (by decide)) : Rg (0) (63) (x12)) (by decide)) ?_
      have hw_8 : Rg (0) (63) (((v_11 * (hI h x0 11)) + v_6)) := pa_rg T r_x0 r_x4 ((rg_m i_f_3 (by decide))) pa c_1 e_4 e_5
      refine s_hq (th_wI T q_r_12 (k := 63) (lo := (0)) (hi := (63)) rfl (hw_8 : Rg (0) (63) (((v_11 * (hI h x0 11)) + v_6))) (by decide) (by decide) (pm_o hO_x4 (th_ih T r_x4 (k := 13) rfl e_r_12 o_x4) rfl)) (fun h_14 T_6 w_7 => ?_)
      refine s_q (fun v_15 e_9 => ?_)
      have i_v_15 : Rg (2) (63) (v_15) := by rw [e_9]; exact (rg_add i_f_2 (rg_b rfl : Rg (1) (1) ((1 : Int32))) (by decide) : Rg (2) (63) (x12 + (1 : Int32)))
      have m_10 : (v_15).toInt = x12.toInt + 1 := by rw [e_9]; exact rg_inc i_f_2 (by decide)
      exact hk_415 o_x1 o_x4 T_6 r_x0 r_x1 r_x4 i_x5 i_x6 i_x7 i_x8 i_x9 i_x10 (rg_m i_f_3 (by decide)) (rg_m i_v_15 (by decide)) (pa_step T r_x0 r_x4 ((rg_m i_f_3 (by decide))) pa c_1 e_4 e_5 e_r_12 w_7 e_9) (by have := hc_415; omega)
set_option maxRecDepth 20000 in
theorem zX15_make_365 {ρ : Nat → Nat} {c : Cm} {F : Nat} {w_x1 w_x2 w_x4 : Nat} (hF : 700000 ≤ F) (hA : pmA c [(16, 23), (16, 24)]) (hO_x4 : pmO c w_x4 [(63, 999), (65, 999), (13, 1), (13, 3), (13, 7)]) {h : Hp} {x0 : Nat} {x1 : Nat} {x2 : Nat} {x3 : Int32} {x4 : Nat} {x5 : Int32} {x6 : Int32} {x7 : Int32} {x8 : Int32} {x9 : Int32} {x10 : Int32} (o_x1 : cw c x1 = w_x1) (o_x2 : cw c x2 = w_x2) (o_x4 : cw c x4 = w_x4) (T : TH ρ c h) (r_x0 : ρ x0 = 16) (r_x1 : ρ x1 = 13) (r_x2 : ρ x2 = 14) (i_x3 : Rg (0) (2999) (x3)) (r_x4 : ρ x4 = 13) (i_x5 : Rg (0) (1) (x5)) (i_x6 : Rg (-1) (63) (x6)) (i_x7 : Rg (0) (63) (x7)) (i_x8 : Rg (0) (11) (x8)) (i_x9 : Rg (0) (3) (x9)) (i_x10 : Rg (0) (1) (x10)) (mk : (MkP x0 x2 x4 x3 x6 x7 x9 h)) : Sat (sX15_make_365 F h x0 x1 x2 x3 x4 x5 x6 x7 x8 x9 x10) (ZQ (ZV ρ c) (fun o => PE x4 o)) := by
  unfold sX15_make_365 
  have u0_MkP : x9.toInt = 3 ∨ 0 ≤ x6.toInt := mk_n mk
  obtain ⟨r_1, e_r_1, q_r_1⟩ := thR T r_x2 (k := 14) (i := 6) (k2 := 71) rfl (by decide)
  refine s_ref e_r_1 ?_
  refine s_gd (by rw [thN T q_r_1 (k := 71) (n := 3000) rfl (by decide)]; exact rg_inB (i_x3 : Rg (0) (2999) (x3)) (by decide)) ?_
  refine s_br (fun c_1 => ?_) (fun c_1 => ?_)
  · have _ := c_1
    have i_f_2 : Rg (2) (3) ((hI h r_1 x3.toNatClampNeg)) := rg_le2 c_1 (rg_b rfl : Rg (2) (2) ((2 : Int32))) (thI T q_r_1 (k := 71) rfl : Rg (0) (3) ((hI h r_1 x3.toNatClampNeg)))
    exact zX15_make_508 hF (pmA_s hA rfl) (pmO_s hO_x4 rfl) o_x1 o_x4 T r_x0 r_x1 r_x4 i_x5 i_x8 i_x9 i_x10 (pe_0 mk.1)
  · have _ := c_1
    have i_f_3 : Rg (0) (1) ((hI h r_1 x3.toNatClampNeg)) := rg_lt1 (nle_lt c_1) (thI T q_r_1 (k := 71) rfl : Rg (0) (3) ((hI h r_1 x3.toNatClampNeg))) (rg_b rfl : Rg (2) (2) ((2 : Int32)))
    obtain ⟨r_4, e_r_4, q_r_4⟩ := thR T r_x2 (k := 14) (i := 7) (k2 := 72) rfl (by decide)
    refine s_ref e_r_4 ?_
    refine s_gd (by rw [thN T q_r_4 (k := 72) (n := 3000) rfl (by decide)]; exact rg_inB (i_x3 : Rg (0) (2999) (x3)) (by decide)) ?_
    refine s_br (fun c_4 => ?_) (fun c_4 => ?_)
    · have _ := c_4
      have i_f_5 : Rg (0) (0) ((hI h r_4 x3.toNatClampNeg)) := rg_le1 c_4 (thI T q_r_4 (k := 72) rfl : Rg (0) (63) ((hI h r_4 x3.toNatClampNeg))) (rg_b rfl : Rg (0) (0) (0 : Int32))
      exact zX15_make_508 hF (pmA_s hA rfl) (pmO_s hO_x4 rfl) o_x1 o_x4 T r_x0 r_x1 r_x4 i_x5 i_x8 i_x9 i_x10 (pe_0 mk.1)
    · have _ := c_4
      have i_f_6 : Rg (1) (63) ((hI h r_4 x3.toNatClampNeg)) := rg_lt2 (nle_lt c_4) (rg_b rfl : Rg (0) (0) (0 : Int32)) (thI T q_r_4 (k := 72) rfl : Rg (0) (63) ((hI h r_4 x3.toNatClampNeg)))
      refine s_ref e_r_4 ?_
      refine s_gd (by rw [thN T q_r_4 (k := 72) (n := 3000) rfl (by decide)]; exact rg_inB (i_x3 : Rg (0) (2999) (x3)) (by decide)) ?_
      refine s_hq (th_wI T r_x4 (k := 13) (lo := (0)) (hi := (64)) rfl ((rg_m i_f_6 (by decide)) : Rg (0) (64) ((hI h r_4 x3.toNatClampNeg))) (by decide) (by decide) (pm_o hO_x4 o_x4 rfl)) (fun h_9 T_7 w_8 => ?_)
      obtain ⟨r_10, e_r_10, q_r_10⟩ := thR T_7 r_x4 (k := 13) (i := 4) (k2 := 63) rfl (by decide)
      refine s_ref e_r_10 ?_
      refine s_gd (by rw [thN T_7 q_r_10 (k := 63) (n := 64) rfl (by decide)]; exact rg_inB ((rg_m (rg_b rfl : Rg (0) (0) ((0 : Int32))) (by decide)) : Rg (0) (63) ((0 : Int32))) (by decide)) ?_
      refine s_hq (th_wI T_7 q_r_10 (k := 63) (lo := (0)) (hi := (63)) rfl (i_x7 : Rg (0) (63) (x7)) (by decide) (by decide) (pm_o hO_x4 (th_ih T_7 r_x4 (k := 13) rfl e_r_10 o_x4) rfl)) (fun h_12 T_9 w_10 => ?_)
      refine s_ref (hr_w w_10 (hr_w w_8 e_r_4)) ?_
      refine s_gd (by rw [thN T_9 q_r_4 (k := 72) (n := 3000) rfl (by decide)]; exact rg_inB (i_x3 : Rg (0) (2999) (x3)) (by decide)) ?_
      refine s_q (fun v_15 e_11 => ?_)
      have i_v_15 : Rg (1) (63) (v_15) := by rw [e_11]; exact ((rg_hw w_10 (ne_r q_r_4 q_r_10 (by decide)) (rg_hw w_8 (ne_r q_r_4 r_x4 (by decide)) i_f_6)) : Rg (1) (63) (hI h_12 r_4 x3.toNatClampNeg))
      have m_12 : Rg (1) (63) ((1 : Int32)) := (rg_m (rg_b rfl : Rg (1) (1) ((1 : Int32))) (by decide))
      exact zX15_make_415 hF (pmA_s hA rfl) (pmO_s hO_x4 rfl) F o_x1 o_x4 T_9 r_x0 r_x1 r_x4 i_x5 i_x6 i_x7 i_x8 i_x9 i_x10 (rg_m i_v_15 (by decide)) (rg_m (rg_b rfl : Rg (1) (1) ((1 : Int32))) (by decide)) (pas_start T r_x0 r_x2 r_x4 mk e_r_1 e_r_4 (show hR h x4 4 = some r_10 from by have q := e_r_10; rw [w_8] at q; exact q) c_1 c_4 w_8 w_10 e_11) (by have := m_12.1; have := m_12.2; omega)
set_option maxRecDepth 20000 in
theorem zX15_make_339 {ρ : Nat → Nat} {c : Cm} {F : Nat} {w_x1 w_x2 w_x4 : Nat} (hF : 700000 ≤ F) (hA : pmA c [(16, 23), (16, 24)]) (hO_x4 : pmO c w_x4 [(62, 999), (63, 999), (65, 999), (13, 1), (13, 2), (13, 3), (13, 7)]) {h : Hp} {x0 : Nat} {x1 : Nat} {x2 : Nat} {x3 : Int32} {x4 : Nat} {x5 : Int32} {x6 : Int32} {x7 : Int32} {x8 : Int32} {x9 : Int32} {x10 : Int32} (o_x1 : cw c x1 = w_x1) (o_x2 : cw c x2 = w_x2) (o_x4 : cw c x4 = w_x4) (T : TH ρ c h) (r_x0 : ρ x0 = 16) (r_x1 : ρ x1 = 13) (r_x2 : ρ x2 = 14) (i_x3 : Rg (0) (2999) (x3)) (r_x4 : ρ x4 = 13) (i_x5 : Rg (0) (1) (x5)) (i_x6 : Rg (-1) (63) (x6)) (i_x7 : Rg (0) (63) (x7)) (i_x8 : Rg (0) (11) (x8)) (i_x9 : Rg (0) (3) (x9)) (i_x10 : Rg (0) (1) (x10)) (mk : (MkP x0 x2 x4 x3 x6 x7 x9 h)) : Sat (sX15_make_339 F h x0 x1 x2 x3 x4 x5 x6 x7 x8 x9 x10) (ZQ (ZV ρ c) (fun o => PE x4 o)) := by
  unfold sX15_make_339 
  have u0_MkP : x9.toInt = 3 ∨ 0 ≤ x6.toInt := mk_n mk
  refine s_br (fun c_1 => ?_) (fun c_1 => ?_)
  · have _ := c_1
    have i_f_2 : Rg (0) (0) (x10) := rg_eq c_1 (rg_b rfl : Rg (0) (0) (0 : Int32))
    exact zX15_make_365 hF (pmA_s hA rfl) (pmO_s hO_x4 rfl) o_x1 o_x2 o_x4 T r_x0 r_x1 r_x2 i_x3 r_x4 i_x5 i_x6 i_x7 i_x8 i_x9 (rg_m i_f_2 (by decide)) mk
  · have _ := c_1
    have i_f_3 : Rg (1) (1) (x10) := rg_nlo c_1 i_x10 (rg_b rfl : Rg (0) (0) (0 : Int32))
    obtain ⟨r_2, e_r_2, q_r_2⟩ := thR T r_x0 (k := 16) (i := 4) (k2 := 15) rfl (by decide)
    refine s_ref e_r_2 ?_
    refine s_br (fun c_4 => ?_) (fun c_4 => ?_)
    · have _ := c_4
      have i_f_5 : Rg (0) (0) ((hI h r_2 18)) := rg_eq c_4 (rg_b rfl : Rg (0) (0) (0 : Int32))
      exact zX15_make_365 hF (pmA_s hA rfl) (pmO_s hO_x4 rfl) o_x1 o_x2 o_x4 T r_x0 r_x1 r_x2 i_x3 r_x4 i_x5 i_x6 i_x7 i_x8 i_x9 (rg_m i_f_3 (by decide)) mk
    · have _ := c_4
      have i_f_6 : Rg (1) (1) ((hI h r_2 18)) := rg_nlo c_4 (thI T q_r_2 (k := 15) (i := 18) rfl : Rg (0) (1) ((hI h r_2 18))) (rg_b rfl : Rg (0) (0) (0 : Int32))
      refine s_cVf (S := fS [] [(w_x4, [(62, 999), (13, 2)])]) T (fs_sub pmA_n (fs_c (pmO_s hO_x4 rfl) fs_n)) (zX15_blast hF (fs_o (.head _)) o_x4 (th_in _ T) r_x0 r_x4 i_x7) (fun o_4 T_7 f_o_4 => ?_)
      have pf_8 : Z3 x4 o_4 := (z3_fr T r_x4 f_o_4 rfl mk.1)
      exact zX15_make_508 hF (pmA_s hA rfl) (pmO_s hO_x4 rfl) o_x1 o_x4 T_7 r_x0 r_x1 r_x4 i_x5 i_x8 i_x9 (rg_m i_f_3 (by decide)) (pe_0 pf_8)
set_option maxRecDepth 20000 in
theorem zX15_make_294 {ρ : Nat → Nat} {c : Cm} {F : Nat} {w_x1 w_x2 w_x4 : Nat} (hF : 700000 ≤ F) (hA : pmA c [(16, 23), (16, 24)]) (hO_x4 : pmO c w_x4 [(62, 999), (63, 999), (65, 999), (13, 1), (13, 2), (13, 3), (13, 7)]) : ∀ (f : Nat) {h : Hp} {x0 : Nat} {x1 : Nat} {x2 : Nat} {x3 : Int32} {x4 : Nat} {x5 : Int32} {x6 : Int32} {x7 : Int32} {x8 : Int32} {x9 : Int32} {x10 : Int32} {x11 : Int32}, cw c x1 = w_x1 → cw c x2 = w_x2 → cw c x4 = w_x4 → TH ρ c h → ρ x0 = 16 → ρ x1 = 13 → ρ x2 = 14 → Rg (0) (2999) (x3) → ρ x4 = 13 → Rg (0) (1) (x5) → Rg (-1) (63) (x6) → Rg (0) (63) (x7) → Rg (0) (11) (x8) → Rg (0) (2) (x9) → Rg (0) (1) (x10) → Rg (0) (64) (x11) → (MkP x0 x2 x4 x3 x6 x7 x9 h) → (64 - x11.toInt).toNat < f → Sat (sX15_make_294 F f h x0 x1 x2 x3 x4 x5 x6 x7 x8 x9 x10 x11) (ZQ (ZV ρ c) (fun o => PE x4 o)) := by
  intro f
  induction f with
  | zero => intros; omega
  | succ f ih =>
    intro h x0 x1 x2 x3 x4 x5 x6 x7 x8 x9 x10 x11 o_x1 o_x2 o_x4 T r_x0 r_x1 r_x2 i_x3 r_x4 i_x5 i_x6 i_x7 i_x8 i_x9 i_x10 i_x11 mk hm
    rw [sX15_make_294]
    unfold sX15_make_333
    obtain ⟨C_294, hC_294⟩ : ∃ C : Int, C = x11.toInt := ⟨_, rfl⟩
    have hk_294 : ∀ {h : Hp} {x0 : Nat} {x1 : Nat} {x2 : Nat} {x3 : Int32} {x4 : Nat} {x5 : Int32} {x6 : Int32} {x7 : Int32} {x8 : Int32} {x9 : Int32} {x10 : Int32} {x11 : Int32}, cw c x1 = w_x1 → cw c x2 = w_x2 → cw c x4 = w_x4 → TH ρ c h → ρ x0 = 16 → ρ x1 = 13 → ρ x2 = 14 → Rg (0) (2999) (x3) → ρ x4 = 13 → Rg (0) (1) (x5) → Rg (-1) (63) (x6) → Rg (0) (63) (x7) → Rg (0) (11) (x8) → Rg (0) (2) (x9) → Rg (0) (1) (x10) → Rg (0) (64) (x11) → (MkP x0 x2 x4 x3 x6 x7 x9 h) → C_294 < x11.toInt → Sat (sX15_make_294 F f h x0 x1 x2 x3 x4 x5 x6 x7 x8 x9 x10 x11) (ZQ (ZV ρ c) (fun o => PE x4 o)) := by
      intro h' x0' x1' x2' x3' x4' x5' x6' x7' x8' x9' x10' x11' o_x1' o_x2' o_x4' T' r_x0' r_x1' r_x2' i_x3' r_x4' i_x5' i_x6' i_x7' i_x8' i_x9' i_x10' i_x11' mk' hl
      exact ih o_x1' o_x2' o_x4' T' r_x0' r_x1' r_x2' i_x3' r_x4' i_x5' i_x6' i_x7' i_x8' i_x9' i_x10' i_x11' mk' (by have := i_x11'.1; have := i_x11'.2; omega)
    have hc_294 : C_294 ≤ x11.toInt := by omega
    have u0_MkP : x9.toInt = 3 ∨ 0 ≤ x6.toInt := mk_n mk
    refine s_br (fun c_1 => ?_) (fun c_1 => ?_)
    · have _ := c_1
      have i_f_2 : Rg (9) (64) (x11) := rg_le2 c_1 (thI T r_x0 (k := 16) (i := 13) rfl : Rg (9) (64) ((hI h x0 13))) i_x11
      exact zX15_make_339 hF (pmA_s hA rfl) (pmO_s hO_x4 rfl) o_x1 o_x2 o_x4 T r_x0 r_x1 r_x2 i_x3 r_x4 i_x5 i_x6 i_x7 i_x8 (rg_m i_x9 (by decide)) i_x10 mk
    · have _ := c_1
      have i_f_3 : Rg (0) (63) (x11) := rg_lt1 (nle_lt c_1) i_x11 (thI T r_x0 (k := 16) (i := 13) rfl : Rg (9) (64) ((hI h x0 13)))
      refine s_dI0 (zX15_rankFor hF T r_x0 i_f_3 i_x5) (fun o_2 eb_o_2 e_o_2 i_o_2 => ?_)
      have T_4 := th_eq e_o_2 T
      refine s_br (fun c_5 => ?_) (fun c_5 => ?_)
      · have _ := c_5
        have i_f_6 : Rg (1) (1) (o_2.1) := rg_eq c_5 (rg_b rfl : Rg (1) (1) ((1 : Int32)))
        refine s_hq (th_wJ T_4 r_x4 (k := 13) (by decide) (pm_o hO_x4 o_x4 rfl)) (fun h_4 T_7 w_8 => ?_)
        refine s_q (fun v_1q1 e_9 => ?_)
        have i_v_1q1 : Rg (1) (64) (v_1q1) := by rw [e_9]; exact (rg_add i_f_3 (rg_b rfl : Rg (1) (1) ((1 : Int32))) (by decide) : Rg (1) (64) (x11 + (1 : Int32)))
        have pf_10 : MkP x0 x2 x4 x3 x6 x7 x9 h_4 := (mk_fr T_4 r_x0 r_x2 r_x4 (fr1Jo (B := [(13, 2)]) r_x4 o_x4 rfl w_8) (fun _ => rfl) (fun _ => rfl) (fun _ => rfl) (fun _ => rfl) (fun _ => rfl) (fun _ _ => rfl) (fun _ _ => rfl) rfl rfl (fun _ => rfl) (by rw [e_o_2]; exact mk))
        have m_11 : (v_1q1).toInt = x11.toInt + 1 := by rw [e_9]; exact rg_inc i_f_3 (by decide)
        exact hk_294 o_x1 o_x2 o_x4 T_7 r_x0 r_x1 r_x2 i_x3 r_x4 i_x5 i_x6 i_x7 i_x8 i_x9 i_x10 (rg_m i_v_1q1 (by decide)) pf_10 (by have := hc_294; omega)
      · have _ := c_5
        refine s_q (fun v_1q2 e_12 => ?_)
        have i_v_1q2 : Rg (1) (64) (v_1q2) := by rw [e_12]; exact (rg_add i_f_3 (rg_b rfl : Rg (1) (1) ((1 : Int32))) (by decide) : Rg (1) (64) (x11 + (1 : Int32)))
        have pf_13 : MkP x0 x2 x4 x3 x6 x7 x9 o_2.2 := (by rw [e_o_2]; exact mk)
        have m_14 : (v_1q2).toInt = x11.toInt + 1 := by rw [e_12]; exact rg_inc i_f_3 (by decide)
        exact hk_294 o_x1 o_x2 o_x4 T_4 r_x0 r_x1 r_x2 i_x3 r_x4 i_x5 i_x6 i_x7 i_x8 i_x9 i_x10 (rg_m i_v_1q2 (by decide)) pf_13 (by have := hc_294; omega)
set_option maxRecDepth 20000 in
theorem zX15_make_273 {ρ : Nat → Nat} {c : Cm} {F : Nat} {w_x1 w_x2 w_x4 : Nat} (hF : 700000 ≤ F) (hA : pmA c [(16, 23), (16, 24)]) (hO_x4 : pmO c w_x4 [(62, 999), (63, 999), (65, 999), (13, 1), (13, 2), (13, 3), (13, 7)]) {h : Hp} {x0 : Nat} {x1 : Nat} {x2 : Nat} {x3 : Int32} {x4 : Nat} {x5 : Int32} {x6 : Int32} {x7 : Int32} {x8 : Int32} {x9 : Int32} {x10 : Int32} (o_x1 : cw c x1 = w_x1) (o_x2 : cw c x2 = w_x2) (o_x4 : cw c x4 = w_x4) (T : TH ρ c h) (r_x0 : ρ x0 = 16) (r_x1 : ρ x1 = 13) (r_x2 : ρ x2 = 14) (i_x3 : Rg (0) (2999) (x3)) (r_x4 : ρ x4 = 13) (i_x5 : Rg (0) (1) (x5)) (i_x6 : Rg (-1) (63) (x6)) (i_x7 : Rg (0) (63) (x7)) (i_x8 : Rg (0) (11) (x8)) (i_x9 : Rg (0) (3) (x9)) (i_x10 : Rg (0) (1) (x10)) (mk : (MkP x0 x2 x4 x3 x6 x7 x9 h)) : Sat (sX15_make_273 F h x0 x1 x2 x3 x4 x5 x6 x7 x8 x9 x10) (ZQ (ZV ρ c) (fun o => PE x4 o)) := by
  unfold sX15_make_273 
  have u0_MkP : x9.toInt = 3 ∨ 0 ≤ x6.toInt := mk_n mk
  refine s_br (fun c_1 => ?_) (fun c_1 => ?_)
  · have _ := c_1
    have i_f_2 : Rg (3) (3) (x9) := rg_eq c_1 (rg_b rfl : Rg (3) (3) ((3 : Int32)))
    exact zX15_make_339 hF (pmA_s hA rfl) (pmO_s hO_x4 rfl) o_x1 o_x2 o_x4 T r_x0 r_x1 r_x2 i_x3 r_x4 i_x5 i_x6 i_x7 i_x8 (rg_m i_f_2 (by decide)) i_x10 mk
  · have _ := c_1
    have i_f_3 : Rg (0) (2) (x9) := rg_nhi c_1 i_x9 (rg_b rfl : Rg (3) (3) ((3 : Int32)))
    obtain ⟨r_2, e_r_2, q_r_2⟩ := thR T r_x0 (k := 16) (i := 4) (k2 := 15) rfl (by decide)
    refine s_ref e_r_2 ?_
    refine s_br (fun c_4 => ?_) (fun c_4 => ?_)
    · have _ := c_4
      have i_f_5 : Rg (0) (11) ((hI h r_2 10)) := rg_eq c_4.symm i_x8
      have m_6 : Rg (0) (64) ((0 : Int32)) := (rg_m (rg_b rfl : Rg (0) (0) ((0 : Int32))) (by decide))
      exact zX15_make_294 hF (pmA_s hA rfl) (pmO_s hO_x4 rfl) F o_x1 o_x2 o_x4 T r_x0 r_x1 r_x2 i_x3 r_x4 i_x5 i_x6 i_x7 i_x8 i_f_3 i_x10 (rg_m (rg_b rfl : Rg (0) (0) ((0 : Int32))) (by decide)) mk (by have := m_6.1; have := m_6.2; omega)
    · have _ := c_4
      exact zX15_make_339 hF (pmA_s hA rfl) (pmO_s hO_x4 rfl) o_x1 o_x2 o_x4 T r_x0 r_x1 r_x2 i_x3 r_x4 i_x5 i_x6 i_x7 i_x8 (rg_m i_f_3 (by decide)) i_x10 mk
set_option maxRecDepth 20000 in
theorem zX15_make_219 {ρ : Nat → Nat} {c : Cm} {F : Nat} {w_x1 w_x2 w_x4 w_t2 : Nat} (hF : 700000 ≤ F) (hA : pmA c [(16, 23), (16, 24)]) (hO_t2 : pmO c w_t2 [(62, 999), (13, 2)]) (hO_x4 : pmO c w_x4 [(62, 999), (63, 999), (65, 999), (13, 1), (13, 2), (13, 3), (13, 7)]) {h : Hp} {x0 : Nat} {x1 : Nat} {x2 : Nat} {x3 : Int32} {x4 : Nat} {x5 : Int32} {x6 : Int32} {x7 : Int32} {x8 : Int32} {x9 : Int32} {x10 : Int32} {t0 : Int32} {t1 : Int32} {t2 : Nat} {t3 : Nat} (o_x1 : cw c x1 = w_x1) (o_x2 : cw c x2 = w_x2) (o_x4 : cw c x4 = w_x4) (o_t2 : cw c t2 = w_t2) (T : TH ρ c h) (r_x0 : ρ x0 = 16) (r_x1 : ρ x1 = 13) (r_x2 : ρ x2 = 14) (i_x3 : Rg (0) (2999) (x3)) (r_x4 : ρ x4 = 13) (i_x5 : Rg (0) (1) (x5)) (i_x6 : Rg (-1) (63) (x6)) (i_x7 : Rg (0) (63) (x7)) (i_x8 : Rg (0) (11) (x8)) (i_x9 : Rg (0) (3) (x9)) (i_x10 : Rg (0) (1) (x10)) (i_t0 : Rg (0) (11) (t0)) (i_t1 : Rg (0) (63) (t1)) (r_t2 : ρ t2 = 13) (r_t3 : ρ t3 = 16) (mk : (MkP x0 x2 x4 x3 x6 x7 x9 h)) (e2 : (t1.toInt = x7.toInt)) (e3 : (t2 = x4)) : Sat (sX15_make_219 F h x0 x1 x2 x3 x4 x5 x6 x7 x8 x9 x10 t0 t1 t2 t3) (ZQ (ZV ρ c) (fun o => PE x4 o)) := by
  unfold sX15_make_219 sX15_valueOf
  have u0_MkP : x9.toInt = 3 ∨ 0 ≤ x6.toInt := mk_n mk
  refine s_pu (fun o_1z e_1 => ?_)
  try dsimp only
  have i_o_1z : Rg (1) (24) (o_1z) := by rw [e_1]; exact (rg_add (rg_add (rg_b rfl : Rg (1) (1) ((1 : Int32))) (rg_mulc' (rg_b rfl : Rg (2) (2) ((2 : Int32))) i_t0 (by decide) : Rg (0) (22) (((2 : Int32) * t0))) (by decide) : Rg (1) (23) (((1 : Int32) + ((2 : Int32) * t0)))) i_x5 (by decide) : Rg (1) (24) (((1 : Int32) + ((2 : Int32) * t0)) + x5))
  refine s_cVq (s_weq (zX15_come hF (pmO_s hO_t2 rfl) o_t2 T r_t3 r_t2 i_t1 (rg_m i_o_1z (by decide)))) (fun o_2 T_2 p_o_2 => ?_)
  have eb_o_2 := p_o_2
  refine s_br (fun c_3 => ?_) (fun c_3 => ?_)
  · have _ := c_3
    have i_f_4 : Rg (2) (2) (x9) := rg_eq c_3 (rg_b rfl : Rg (2) (2) ((2 : Int32)))
    obtain ⟨r_4, e_r_4, q_r_4⟩ := thR T_2 r_x1 (k := 13) (i := 0) (k2 := 62) rfl (by decide)
    refine s_ref e_r_4 ?_
    obtain ⟨r_5, e_r_5, q_r_5⟩ := thR T_2 r_x2 (k := 14) (i := 7) (k2 := 72) rfl (by decide)
    refine s_ref e_r_5 ?_
    refine s_gd (by rw [thN T_2 q_r_5 (k := 72) (n := 3000) rfl (by decide)]; exact rg_inB (i_x3 : Rg (0) (2999) (x3)) (by decide)) ?_
    refine s_gd (by rw [thN T_2 q_r_4 (k := 62) (n := 64) rfl (by decide)]; exact rg_inB ((thI T_2 q_r_5 (k := 72) rfl : Rg (0) (63) ((hI o_2 r_5 x3.toNatClampNeg))) : Rg (0) (63) ((hI o_2 r_5 x3.toNatClampNeg))) (by decide)) ?_
    refine s_q (fun v_8 e_5 => ?_)
    have i_v_8 : Rg (0) (24) (v_8) := by rw [e_5]; exact (thI T_2 q_r_4 (k := 62) rfl : Rg (0) (24) (hI o_2 r_4 (hI o_2 r_5 x3.toNatClampNeg).toNatClampNeg))
    refine s_ref e_r_5 ?_
    refine s_gd (by rw [thN T_2 q_r_5 (k := 72) (n := 3000) rfl (by decide)]; exact rg_inB (i_x3 : Rg (0) (2999) (x3)) (by decide)) ?_
    refine s_cVq (s_weq (zX15_leave hF (pmO_s hO_x4 rfl) o_x4 T_2 r_x0 r_x4 (thI T_2 q_r_5 (k := 72) rfl : Rg (0) (63) ((hI o_2 r_5 x3.toNatClampNeg))))) (fun o_11 T_6 p_o_11 => ?_)
    have eb_o_11 := p_o_11
    have es_7 : Rg 0 63 x6 := ⟨(by have := (i_x6 : Rg (-1) (63) (x6)).1; have := (i_x6 : Rg (-1) (63) (x6)).2; have := (i_t1 : Rg (0) (63) (t1)).1; have := (i_t1 : Rg (0) (63) (t1)).2; have := (i_x7 : Rg (0) (63) (x7)).1; have := (i_x7 : Rg (0) (63) (x7)).2; have := (i_x3 : Rg (0) (2999) (x3)).1; have := (i_x3 : Rg (0) (2999) (x3)).2; have := (i_f_4 : Rg (2) (2) (x9)).1; have := (i_f_4 : Rg (2) (2) (x9)).2; have := eq_i c_3; have : ((2 : Int32)).toInt = 2 := rfl; clear o_x1 o_x2 o_x4 o_t2; omega), i_x6.2⟩
    refine s_cVq (s_weq (zX15_come hF (pmO_s hO_x4 rfl) o_x4 T_6 r_x0 r_x4 (rg_divc (rg_add es_7 i_x7 (by decide) : Rg (0) (126) ((x6 + x7))) (rg_b rfl : Rg (2) (2) ((2 : Int32))) (by decide) : Rg (0) (63) (((x6 + x7) / (2 : Int32)))) i_v_8)) (fun o_12 T_8 p_o_12 => ?_)
    have eb_o_12 := p_o_12
    exact zX15_make_273 hF (pmA_s hA rfl) (pmO_s hO_x4 rfl) o_x1 o_x2 o_x4 T_8 r_x0 r_x1 r_x2 i_x3 r_x4 i_x5 (rg_m es_7 (by decide)) i_x7 i_x8 (rg_m i_f_4 (by decide)) i_x10 (mk_come2 T_6 r_x0 r_x2 r_x4 ((rg_divc (rg_add es_7 i_x7 (by decide) : Rg (0) (126) ((x6 + x7))) (rg_b rfl : Rg (2) (2) ((2 : Int32))) (by decide) : Rg (0) (63) (((x6 + x7) / (2 : Int32)))) : Rg (0) (63) (((x6 + x7) / (2 : Int32)))).1 c_3 (mk_leave T_2 r_x0 r_x2 r_x4 ((thI T_2 q_r_5 (k := 72) rfl : Rg (0) (63) ((hI o_2 r_5 x3.toNatClampNeg))) : Rg (0) (63) ((hI o_2 r_5 x3.toNatClampNeg))).1 (mk_come T r_x0 r_x2 r_x4 mk (by have q := eb_o_2; rw [Int32.toInt_inj.mp e2, e3] at q; exact q)) eb_o_11) eb_o_12)
  · have _ := c_3
    exact zX15_make_273 hF (pmA_s hA rfl) (pmO_s hO_x4 rfl) o_x1 o_x2 o_x4 T_2 r_x0 r_x1 r_x2 i_x3 r_x4 i_x5 i_x6 i_x7 i_x8 i_x9 i_x10 (mk_come T r_x0 r_x2 r_x4 mk (by have q := eb_o_2; rw [Int32.toInt_inj.mp e2, e3] at q; exact q))
set_option maxRecDepth 20000 in
theorem zX15_make_193 {ρ : Nat → Nat} {c : Cm} {F : Nat} {w_x1 w_x2 w_x4 : Nat} (hF : 700000 ≤ F) (hA : pmA c [(16, 23), (16, 24)]) (hO_x4 : pmO c w_x4 [(62, 999), (63, 999), (65, 999), (13, 1), (13, 2), (13, 3), (13, 7)]) {h : Hp} {x0 : Nat} {x1 : Nat} {x2 : Nat} {x3 : Int32} {x4 : Nat} {x5 : Int32} {x6 : Int32} {x7 : Int32} {x8 : Int32} {x9 : Int32} {x10 : Int32} (o_x1 : cw c x1 = w_x1) (o_x2 : cw c x2 = w_x2) (o_x4 : cw c x4 = w_x4) (T : TH ρ c h) (r_x0 : ρ x0 = 16) (r_x1 : ρ x1 = 13) (r_x2 : ρ x2 = 14) (i_x3 : Rg (0) (2999) (x3)) (r_x4 : ρ x4 = 13) (i_x5 : Rg (0) (1) (x5)) (i_x6 : Rg (-1) (63) (x6)) (i_x7 : Rg (0) (63) (x7)) (i_x8 : Rg (0) (11) (x8)) (i_x9 : Rg (0) (3) (x9)) (i_x10 : Rg (0) (1) (x10)) (mk : (MkP x0 x2 x4 x3 x6 x7 x9 h)) : Sat (sX15_make_193 F h x0 x1 x2 x3 x4 x5 x6 x7 x8 x9 x10) (ZQ (ZV ρ c) (fun o => PE x4 o)) := by
  unfold sX15_make_193 
  have u0_MkP : x9.toInt = 3 ∨ 0 ≤ x6.toInt := mk_n mk
  obtain ⟨r_1, e_r_1, q_r_1⟩ := thR T r_x2 (k := 14) (i := 4) (k2 := 69) rfl (by decide)
  refine s_ref e_r_1 ?_
  refine s_gd (by rw [thN T q_r_1 (k := 69) (n := 3000) rfl (by decide)]; exact rg_inB (i_x3 : Rg (0) (2999) (x3)) (by decide)) ?_
  refine s_br (fun c_1 => ?_) (fun c_1 => ?_)
  · have _ := c_1
    have i_f_2 : Rg (-1) (-1) ((hI h r_1 x3.toNatClampNeg)) := rg_eq c_1 (rg_b rfl : Rg (-1) (-1) ((- 1 : Int32)))
    exact zX15_make_219 hF (pmA_s hA rfl) (pmO_s hO_x4 rfl) (pmO_s hO_x4 rfl) o_x1 o_x2 o_x4 o_x4 T r_x0 r_x1 r_x2 i_x3 r_x4 i_x5 i_x6 i_x7 i_x8 i_x9 i_x10 i_x8 i_x7 r_x4 r_x0 mk (show (x7).toInt = (x7).toInt from (by have := (i_x7 : Rg (0) (63) (x7)).1; have := (i_x7 : Rg (0) (63) (x7)).2; have := (i_x3 : Rg (0) (2999) (x3)).1; have := (i_x3 : Rg (0) (2999) (x3)).2; have := (i_x6 : Rg (-1) (63) (x6)).1; have := (i_x6 : Rg (-1) (63) (x6)).2; have := (i_x9 : Rg (0) (3) (x9)).1; have := (i_x9 : Rg (0) (3) (x9)).2; have := eq_i c_1; have := (i_f_2 : Rg (-1) (-1) ((hI h r_1 x3.toNatClampNeg))).1; have := (i_f_2 : Rg (-1) (-1) ((hI h r_1 x3.toNatClampNeg))).2; have : ((- 1 : Int32)).toInt = -1 := rfl; clear o_x1 o_x2 o_x4; omega)) (show x4 = x4 from (by have := (i_x3 : Rg (0) (2999) (x3)).1; have := (i_x3 : Rg (0) (2999) (x3)).2; have := (i_x6 : Rg (-1) (63) (x6)).1; have := (i_x6 : Rg (-1) (63) (x6)).2; have := (i_x7 : Rg (0) (63) (x7)).1; have := (i_x7 : Rg (0) (63) (x7)).2; have := (i_x9 : Rg (0) (3) (x9)).1; have := (i_x9 : Rg (0) (3) (x9)).2; have := eq_i c_1; have := (i_f_2 : Rg (-1) (-1) ((hI h r_1 x3.toNatClampNeg))).1; have := (i_f_2 : Rg (-1) (-1) ((hI h r_1 x3.toNatClampNeg))).2; have : ((- 1 : Int32)).toInt = -1 := rfl; clear o_x1 o_x2 o_x4; omega))
  · have _ := c_1
    have i_f_3 : Rg (0) (11) ((hI h r_1 x3.toNatClampNeg)) := rg_nlo c_1 (thI T q_r_1 (k := 69) rfl : Rg (-1) (11) ((hI h r_1 x3.toNatClampNeg))) (rg_b rfl : Rg (-1) (-1) ((- 1 : Int32)))
    refine s_ref e_r_1 ?_
    refine s_gd (by rw [thN T q_r_1 (k := 69) (n := 3000) rfl (by decide)]; exact rg_inB (i_x3 : Rg (0) (2999) (x3)) (by decide)) ?_
    exact zX15_make_219 hF (pmA_s hA rfl) (pmO_s hO_x4 rfl) (pmO_s hO_x4 rfl) o_x1 o_x2 o_x4 o_x4 T r_x0 r_x1 r_x2 i_x3 r_x4 i_x5 i_x6 i_x7 i_x8 i_x9 i_x10 i_f_3 i_x7 r_x4 r_x0 mk (show (x7).toInt = (x7).toInt from (by have := (i_x7 : Rg (0) (63) (x7)).1; have := (i_x7 : Rg (0) (63) (x7)).2; have := (i_x3 : Rg (0) (2999) (x3)).1; have := (i_x3 : Rg (0) (2999) (x3)).2; have := (i_x6 : Rg (-1) (63) (x6)).1; have := (i_x6 : Rg (-1) (63) (x6)).2; have := (i_x9 : Rg (0) (3) (x9)).1; have := (i_x9 : Rg (0) (3) (x9)).2; have := ne_i c_1; have := (i_f_3 : Rg (0) (11) ((hI h r_1 x3.toNatClampNeg))).1; have := (i_f_3 : Rg (0) (11) ((hI h r_1 x3.toNatClampNeg))).2; have : ((- 1 : Int32)).toInt = -1 := rfl; clear o_x1 o_x2 o_x4; omega)) (show x4 = x4 from (by have := (i_x3 : Rg (0) (2999) (x3)).1; have := (i_x3 : Rg (0) (2999) (x3)).2; have := (i_x6 : Rg (-1) (63) (x6)).1; have := (i_x6 : Rg (-1) (63) (x6)).2; have := (i_x7 : Rg (0) (63) (x7)).1; have := (i_x7 : Rg (0) (63) (x7)).2; have := (i_x9 : Rg (0) (3) (x9)).1; have := (i_x9 : Rg (0) (3) (x9)).2; have := ne_i c_1; have := (i_f_3 : Rg (0) (11) ((hI h r_1 x3.toNatClampNeg))).1; have := (i_f_3 : Rg (0) (11) ((hI h r_1 x3.toNatClampNeg))).2; have : ((- 1 : Int32)).toInt = -1 := rfl; clear o_x1 o_x2 o_x4; omega))
set_option maxRecDepth 20000 in
theorem zX15_make_159 {ρ : Nat → Nat} {c : Cm} {F : Nat} {w_x1 w_x2 w_x4 : Nat} (hF : 700000 ≤ F) (hA : pmA c [(16, 23), (16, 24)]) (hO_x4 : pmO c w_x4 [(62, 999), (63, 999), (64, 999), (65, 999), (13, 1), (13, 2), (13, 3), (13, 7)]) {h : Hp} {x0 : Nat} {x1 : Nat} {x2 : Nat} {x3 : Int32} {x4 : Nat} {x5 : Int32} {x6 : Int32} {x7 : Int32} {x8 : Int32} {x9 : Int32} {x10 : Int32} (o_x1 : cw c x1 = w_x1) (o_x2 : cw c x2 = w_x2) (o_x4 : cw c x4 = w_x4) (T : TH ρ c h) (r_x0 : ρ x0 = 16) (r_x1 : ρ x1 = 13) (r_x2 : ρ x2 = 14) (i_x3 : Rg (0) (2999) (x3)) (r_x4 : ρ x4 = 13) (i_x5 : Rg (0) (1) (x5)) (i_x6 : Rg (-1) (63) (x6)) (i_x7 : Rg (0) (63) (x7)) (i_x8 : Rg (0) (11) (x8)) (i_x9 : Rg (0) (3) (x9)) (i_x10 : Rg (0) (1) (x10)) (mk : (MkP x0 x2 x4 x3 x6 x7 x9 h)) (mh : (MkH x4 x5 x8 x9 h)) : Sat (sX15_make_159 F h x0 x1 x2 x3 x4 x5 x6 x7 x8 x9 x10) (ZQ (ZV ρ c) (fun o => PE x4 o)) := by
  unfold sX15_make_159 
  have u0_MkP : x9.toInt = 3 ∨ 0 ≤ x6.toInt := mk_n mk
  refine s_br (fun c_1 => ?_) (fun c_1 => ?_)
  · have _ := c_1
    have i_f_2 : Rg (3) (3) (x9) := rg_eq c_1 (rg_b rfl : Rg (3) (3) ((3 : Int32)))
    obtain ⟨r_3, e_r_3, q_r_3⟩ := thR T r_x4 (k := 13) (i := 5) (k2 := 64) rfl (by decide)
    refine s_ref e_r_3 ?_
    have pu_3 : x9.toInt = 3 → 0 < (hI h r_3 ((2 : Int32) * x8 + x5).toNatClampNeg).toInt := mh_use mh r_3 e_r_3
    refine s_gd (by rw [thN T q_r_3 (k := 64) (n := 24) rfl (by decide)]; exact rg_inB ((rg_add (rg_mulc' (rg_b rfl : Rg (2) (2) ((2 : Int32))) i_x8 (by decide) : Rg (0) (22) (((2 : Int32) * x8))) i_x5 (by decide) : Rg (0) (23) ((((2 : Int32) * x8) + x5))) : Rg (0) (23) ((((2 : Int32) * x8) + x5))) (by decide)) ?_
    refine s_gd (by rw [thN T q_r_3 (k := 64) (n := 24) rfl (by decide)]; exact rg_inB ((rg_add (rg_mulc' (rg_b rfl : Rg (2) (2) ((2 : Int32))) i_x8 (by decide) : Rg (0) (22) (((2 : Int32) * x8))) i_x5 (by decide) : Rg (0) (23) ((((2 : Int32) * x8) + x5))) : Rg (0) (23) ((((2 : Int32) * x8) + x5))) (by decide)) ?_
    have og_6 : Rg (0) (16) (((hI h r_3 (((2 : Int32) * x8) + x5).toNatClampNeg) - (1 : Int32))) := ⟨(by have : (((hI h r_3 (((2 : Int32) * x8) + x5).toNatClampNeg) - (1 : Int32)) : Int32).toInt = ((hI h r_3 (((2 : Int32) * x8) + x5).toNatClampNeg) : Int32).toInt - ((1 : Int32) : Int32).toInt := ti_sub ((thI T q_r_3 (k := 64) rfl : Rg (0) (16) ((hI h r_3 (((2 : Int32) * x8) + x5).toNatClampNeg))) : Rg (0) (16) ((hI h r_3 (((2 : Int32) * x8) + x5).toNatClampNeg))) ((rg_b rfl : Rg (1) (1) ((1 : Int32))) : Rg (1) (1) ((1 : Int32))) (by decide); have hq_ := ((thI T q_r_3 (k := 64) rfl : Rg (0) (16) ((hI h r_3 (((2 : Int32) * x8) + x5).toNatClampNeg))) : Rg (0) (16) ((hI h r_3 (((2 : Int32) * x8) + x5).toNatClampNeg))); have := hq_.1; have := hq_.2; have : ((1 : Int32)).toInt = 1 := rfl; have := (i_x5 : Rg (0) (1) (x5)).1; have := (i_x5 : Rg (0) (1) (x5)).2; have := (i_x8 : Rg (0) (11) (x8)).1; have := (i_x8 : Rg (0) (11) (x8)).2; have := (i_f_2 : Rg (3) (3) (x9)).1; have := (i_f_2 : Rg (3) (3) (x9)).2; have := (i_x3 : Rg (0) (2999) (x3)).1; have := (i_x3 : Rg (0) (2999) (x3)).2; have := (i_x6 : Rg (-1) (63) (x6)).1; have := (i_x6 : Rg (-1) (63) (x6)).2; have := (i_x7 : Rg (0) (63) (x7)).1; have := (i_x7 : Rg (0) (63) (x7)).2; have := eq_i c_1; have : ((3 : Int32)).toInt = 3 := rfl; clear o_x1 o_x2 o_x4; omega), (by have : (((hI h r_3 (((2 : Int32) * x8) + x5).toNatClampNeg) - (1 : Int32)) : Int32).toInt = ((hI h r_3 (((2 : Int32) * x8) + x5).toNatClampNeg) : Int32).toInt - ((1 : Int32) : Int32).toInt := ti_sub ((thI T q_r_3 (k := 64) rfl : Rg (0) (16) ((hI h r_3 (((2 : Int32) * x8) + x5).toNatClampNeg))) : Rg (0) (16) ((hI h r_3 (((2 : Int32) * x8) + x5).toNatClampNeg))) ((rg_b rfl : Rg (1) (1) ((1 : Int32))) : Rg (1) (1) ((1 : Int32))) (by decide); have hq_ := ((thI T q_r_3 (k := 64) rfl : Rg (0) (16) ((hI h r_3 (((2 : Int32) * x8) + x5).toNatClampNeg))) : Rg (0) (16) ((hI h r_3 (((2 : Int32) * x8) + x5).toNatClampNeg))); have := hq_.1; have := hq_.2; have : ((1 : Int32)).toInt = 1 := rfl; have := (i_x5 : Rg (0) (1) (x5)).1; have := (i_x5 : Rg (0) (1) (x5)).2; have := (i_x8 : Rg (0) (11) (x8)).1; have := (i_x8 : Rg (0) (11) (x8)).2; have := (i_f_2 : Rg (3) (3) (x9)).1; have := (i_f_2 : Rg (3) (3) (x9)).2; have := (i_x3 : Rg (0) (2999) (x3)).1; have := (i_x3 : Rg (0) (2999) (x3)).2; have := (i_x6 : Rg (-1) (63) (x6)).1; have := (i_x6 : Rg (-1) (63) (x6)).2; have := (i_x7 : Rg (0) (63) (x7)).1; have := (i_x7 : Rg (0) (63) (x7)).2; have := eq_i c_1; have : ((3 : Int32)).toInt = 3 := rfl; clear o_x1 o_x2 o_x4; omega)⟩
    refine s_hq (th_wI T q_r_3 (k := 64) (lo := (0)) (hi := (16)) rfl (og_6 : Rg (0) (16) (((hI h r_3 (((2 : Int32) * x8) + x5).toNatClampNeg) - (1 : Int32)))) (by decide) (by decide) (pm_o hO_x4 (th_ih T r_x4 (k := 13) rfl e_r_3 o_x4) rfl)) (fun h_6 T_4 w_5 => ?_)
    have pf_7 : MkP x0 x2 x4 x3 x6 x7 x9 h_6 := (mk_fr T r_x0 r_x2 r_x4 (fr1Io (B := [(64, 999)]) q_r_3 (th_ih T r_x4 (k := 13) rfl e_r_3 o_x4) rfl w_5) (fun _ => rfl) (fun _ => rfl) (fun _ => rfl) (fun _ => rfl) (fun _ => rfl) (fun _ _ => rfl) (fun _ _ => rfl) rfl rfl (fun _ => rfl) mk)
    exact zX15_make_193 hF (pmA_s hA rfl) (pmO_s hO_x4 rfl) o_x1 o_x2 o_x4 T_4 r_x0 r_x1 r_x2 i_x3 r_x4 i_x5 i_x6 i_x7 i_x8 (rg_m i_f_2 (by decide)) i_x10 pf_7
  · have _ := c_1
    have i_f_8 : Rg (0) (2) (x9) := rg_nhi c_1 i_x9 (rg_b rfl : Rg (3) (3) ((3 : Int32)))
    have og_9 : Rg (0) (63) (x6) := ⟨(by have := (i_x6 : Rg (-1) (63) (x6)).1; have := (i_x6 : Rg (-1) (63) (x6)).2; have := (i_x5 : Rg (0) (1) (x5)).1; have := (i_x5 : Rg (0) (1) (x5)).2; have := (i_x8 : Rg (0) (11) (x8)).1; have := (i_x8 : Rg (0) (11) (x8)).2; have := (i_f_8 : Rg (0) (2) (x9)).1; have := (i_f_8 : Rg (0) (2) (x9)).2; have := (i_x3 : Rg (0) (2999) (x3)).1; have := (i_x3 : Rg (0) (2999) (x3)).2; have := (i_x7 : Rg (0) (63) (x7)).1; have := (i_x7 : Rg (0) (63) (x7)).2; have := ne_i c_1; have : ((3 : Int32)).toInt = 3 := rfl; clear o_x1 o_x2 o_x4; omega), (by have := (i_x6 : Rg (-1) (63) (x6)).1; have := (i_x6 : Rg (-1) (63) (x6)).2; have := (i_x5 : Rg (0) (1) (x5)).1; have := (i_x5 : Rg (0) (1) (x5)).2; have := (i_x8 : Rg (0) (11) (x8)).1; have := (i_x8 : Rg (0) (11) (x8)).2; have := (i_f_8 : Rg (0) (2) (x9)).1; have := (i_f_8 : Rg (0) (2) (x9)).2; have := (i_x3 : Rg (0) (2999) (x3)).1; have := (i_x3 : Rg (0) (2999) (x3)).2; have := (i_x7 : Rg (0) (63) (x7)).1; have := (i_x7 : Rg (0) (63) (x7)).2; have := ne_i c_1; have : ((3 : Int32)).toInt = 3 := rfl; clear o_x1 o_x2 o_x4; omega)⟩
    refine s_cVq (s_weq (zX15_leave hF (pmO_s hO_x4 rfl) o_x4 T r_x0 r_x4 og_9)) (fun o_2 T_10 p_o_2 => ?_)
    have eb_o_2 := p_o_2
    exact zX15_make_193 hF (pmA_s hA rfl) (pmO_s hO_x4 rfl) o_x1 o_x2 o_x4 T_10 r_x0 r_x1 r_x2 i_x3 r_x4 i_x5 (rg_m og_9 (by decide)) i_x7 i_x8 (rg_m i_f_8 (by decide)) i_x10 (mk_leave T r_x0 r_x2 r_x4 (og_9 : Rg (0) (63) (x6)).1 mk eb_o_2)
set_option maxRecDepth 20000 in
theorem zX15_make_92 {ρ : Nat → Nat} {c : Cm} {F : Nat} {w_x1 w_x2 w_x4 w_t1 : Nat} (hF : 700000 ≤ F) (hA : pmA c [(16, 23), (16, 24)]) (hO_t1 : pmO c w_t1 [(62, 999), (13, 2)]) (hO_x4 : pmO c w_x4 [(62, 999), (63, 999), (64, 999), (65, 999), (13, 1), (13, 2), (13, 3), (13, 7)]) {h : Hp} {x0 : Nat} {x1 : Nat} {x2 : Nat} {x3 : Int32} {x4 : Nat} {x5 : Int32} {x6 : Int32} {x7 : Int32} {x8 : Int32} {x9 : Int32} {x10 : Int32} {t0 : Int32} {t1 : Nat} {t2 : Nat} (o_x1 : cw c x1 = w_x1) (o_x2 : cw c x2 = w_x2) (o_x4 : cw c x4 = w_x4) (o_t1 : cw c t1 = w_t1) (T : TH ρ c h) (r_x0 : ρ x0 = 16) (r_x1 : ρ x1 = 13) (r_x2 : ρ x2 = 14) (i_x3 : Rg (0) (2999) (x3)) (r_x4 : ρ x4 = 13) (i_x5 : Rg (0) (1) (x5)) (i_x6 : Rg (-1) (63) (x6)) (i_x7 : Rg (0) (63) (x7)) (i_x8 : Rg (0) (11) (x8)) (i_x9 : Rg (0) (3) (x9)) (i_x10 : Rg (1) (1) (x10)) (i_t0 : Rg (0) (63) (t0)) (r_t1 : ρ t1 = 13) (r_t2 : ρ t2 = 16) (mk : (MkP x0 x2 x4 x3 x6 x7 x9 h)) (mh : (MkH x4 x5 x8 x9 h)) (tp : (TkP x2 x3 h)) (e1 : (t1 = x4)) : Sat (sX15_make_92 F h x0 x1 x2 x3 x4 x5 x6 x7 x8 x9 x10 t0 t1 t2) (ZQ (ZV ρ c) (fun o => PE x4 o)) := by
  unfold sX15_make_92 
  have u0_MkP : x9.toInt = 3 ∨ 0 ≤ x6.toInt := mk_n mk
  refine s_cVfq (S := fS [] [(w_t1, [(62, 999), (13, 2)])]) T (fs_sub pmA_n (fs_c (pmO_s hO_t1 rfl) fs_n)) (s_weq (zX15_leave hF (fs_o (.head _)) o_t1 (th_in _ T) r_t2 r_t1 i_t0)) (fun o_1 T_1 f_o_1 p_o_1 => ?_)
  have eb_o_1 := p_o_1
  obtain ⟨r_2, e_r_2, q_r_2⟩ := thR T_1 r_x2 (k := 14) (i := 5) (k2 := 70) rfl (by decide)
  refine s_ref e_r_2 ?_
  have pf_2 : TkP x2 x3 o_1 := (tp_fr T r_x2 f_o_1 (fun _ => rfl) (fun _ _ => rfl) tp)
  have pu_3 : 0 ≤ (hI o_1 r_2 x3.toNatClampNeg).toInt := pf_2 r_2 e_r_2
  refine s_gd (by rw [thN T_1 q_r_2 (k := 70) (n := 3000) rfl (by decide)]; exact rg_inB (i_x3 : Rg (0) (2999) (x3)) (by decide)) ?_
  refine s_q (fun v_4 e_4 => ?_)
  have i_v_4 : Rg (-2) (23) (v_4) := by rw [e_4]; exact (rg_add (rg_mulc' (rg_b rfl : Rg (2) (2) ((2 : Int32))) (thI T_1 q_r_2 (k := 70) rfl : Rg (-1) (11) ((hI o_1 r_2 x3.toNatClampNeg))) (by decide) : Rg (-2) (22) (((2 : Int32) * (hI o_1 r_2 x3.toNatClampNeg)))) i_x5 (by decide) : Rg (-2) (23) (((2 : Int32) * (hI o_1 r_2 x3.toNatClampNeg)) + x5))
  obtain ⟨r_5, e_r_5, q_r_5⟩ := thR T_1 r_x0 (k := 16) (i := 4) (k2 := 15) rfl (by decide)
  refine s_ref e_r_5 ?_
  refine s_br (fun c_5 => ?_) (fun c_5 => ?_)
  · have _ := c_5
    have i_f_6 : Rg (0) (0) ((hI o_1 r_5 15)) := rg_eq c_5 (rg_b rfl : Rg (0) (0) (0 : Int32))
    have pf_7 : MkH x4 x5 x8 x9 o_1 := (mh_fr T r_x4 f_o_1 rfl (fun _ => rfl) mh)
    exact zX15_make_159 hF (pmA_s hA rfl) (pmO_s hO_x4 rfl) o_x1 o_x2 o_x4 T_1 r_x0 r_x1 r_x2 i_x3 r_x4 i_x5 i_x6 i_x7 i_x8 i_x9 (rg_m i_x10 (by decide)) (mk_leave T r_x0 r_x2 r_x4 (i_t0 : Rg (0) (63) (t0)).1 mk (by have q := eb_o_1; rw [e1] at q; exact q)) pf_7
  · have _ := c_5
    have i_f_8 : Rg (1) (1) ((hI o_1 r_5 15)) := rg_nlo c_5 (thI T_1 q_r_5 (k := 15) (i := 15) rfl : Rg (0) (1) ((hI o_1 r_5 15))) (rg_b rfl : Rg (0) (0) (0 : Int32))
    refine s_ref e_r_2 ?_
    refine s_gd (by rw [thN T_1 q_r_2 (k := 70) (n := 3000) rfl (by decide)]; exact rg_inB (i_x3 : Rg (0) (2999) (x3)) (by decide)) ?_
    refine s_ref e_r_5 ?_
    refine s_br (fun c_9 => ?_) (fun c_9 => ?_)
    · have _ := c_9
      have pf_10 : MkH x4 x5 x8 x9 o_1 := (mh_fr T r_x4 f_o_1 rfl (fun _ => rfl) mh)
      exact zX15_make_159 hF (pmA_s hA rfl) (pmO_s hO_x4 rfl) o_x1 o_x2 o_x4 T_1 r_x0 r_x1 r_x2 i_x3 r_x4 i_x5 i_x6 i_x7 i_x8 i_x9 (rg_m i_x10 (by decide)) (mk_leave T r_x0 r_x2 r_x4 (i_t0 : Rg (0) (63) (t0)).1 mk (by have q := eb_o_1; rw [e1] at q; exact q)) pf_10
    · have _ := c_9
      obtain ⟨r_11, e_r_11, q_r_11⟩ := thR T_1 r_x4 (k := 13) (i := 5) (k2 := 64) rfl (by decide)
      refine s_ref e_r_11 ?_
      have pf_11 : MkH x4 x5 x8 x9 o_1 := (mh_fr T r_x4 f_o_1 rfl (fun _ => rfl) mh)
      have pu_12 : x9.toInt = 3 → 0 < (hI o_1 r_11 ((2 : Int32) * x8 + x5).toNatClampNeg).toInt := mh_use pf_11 r_11 e_r_11
      have og_13 : Rg (0) (23) (v_4) := ⟨(by have := (i_v_4 : Rg (-2) (23) (v_4)).1; have := (i_v_4 : Rg (-2) (23) (v_4)).2; have : (v_4).toInt = (((2 : Int32) * (hI o_1 r_2 x3.toNatClampNeg)) + x5 : Int32).toInt := congrArg Int32.toInt e_4; have : (((2 : Int32) * (hI o_1 r_2 x3.toNatClampNeg)) + x5 : Int32).toInt = (((2 : Int32) * (hI o_1 r_2 x3.toNatClampNeg)) : Int32).toInt + (x5 : Int32).toInt := ti_add ((rg_mulc' (rg_b rfl : Rg (2) (2) ((2 : Int32))) (thI T_1 q_r_2 (k := 70) rfl : Rg (-1) (11) ((hI o_1 r_2 x3.toNatClampNeg))) (by decide) : Rg (-2) (22) (((2 : Int32) * (hI o_1 r_2 x3.toNatClampNeg)))) : Rg (-2) (22) (((2 : Int32) * (hI o_1 r_2 x3.toNatClampNeg)))) (i_x5 : Rg (0) (1) (x5)) (by decide); have : (((2 : Int32) * (hI o_1 r_2 x3.toNatClampNeg)) : Int32).toInt = 2 * ((hI o_1 r_2 x3.toNatClampNeg) : Int32).toInt := ti_mulc' ((thI T_1 q_r_2 (k := 70) rfl : Rg (-1) (11) ((hI o_1 r_2 x3.toNatClampNeg))) : Rg (-1) (11) ((hI o_1 r_2 x3.toNatClampNeg))) (rg_b rfl : Rg 2 2 ((2 : Int32))) (by decide); have hq_ := ((thI T_1 q_r_2 (k := 70) rfl : Rg (-1) (11) ((hI o_1 r_2 x3.toNatClampNeg))) : Rg (-1) (11) ((hI o_1 r_2 x3.toNatClampNeg))); have := hq_.1; have := hq_.2; have : (hI o_1 r_2 x3.toNatClampNeg).toInt = (hI h r_2 x3.toNatClampNeg).toInt := congrArg Int32.toInt (fr_I f_o_1 q_r_2 (by decide) (th_ih T_1 r_x2 (k := 14) rfl e_r_2 o_x2) rfl); have := (i_x5 : Rg (0) (1) (x5)).1; have := (i_x5 : Rg (0) (1) (x5)).2; have := (i_x8 : Rg (0) (11) (x8)).1; have := (i_x8 : Rg (0) (11) (x8)).2; have := (i_x9 : Rg (0) (3) (x9)).1; have := (i_x9 : Rg (0) (3) (x9)).2; have := (i_x3 : Rg (0) (2999) (x3)).1; have := (i_x3 : Rg (0) (2999) (x3)).2; have := (i_x6 : Rg (-1) (63) (x6)).1; have := (i_x6 : Rg (-1) (63) (x6)).2; have := (i_x7 : Rg (0) (63) (x7)).1; have := (i_x7 : Rg (0) (63) (x7)).2; have := ne_i c_9; have hq_ := ((thI T_1 q_r_5 (k := 15) (i := 10) rfl : Rg (-1) (11) ((hI o_1 r_5 10))) : Rg (-1) (11) ((hI o_1 r_5 10))); have := hq_.1; have := hq_.2; have : (hI o_1 r_5 10).toInt = (hI h r_5 10).toInt := congrArg Int32.toInt (fr_I f_o_1 q_r_5 (by decide) rfl rfl); clear o_x1 o_x2 o_x4 o_t1; omega), (by have := (i_v_4 : Rg (-2) (23) (v_4)).1; have := (i_v_4 : Rg (-2) (23) (v_4)).2; have : (v_4).toInt = (((2 : Int32) * (hI o_1 r_2 x3.toNatClampNeg)) + x5 : Int32).toInt := congrArg Int32.toInt e_4; have : (((2 : Int32) * (hI o_1 r_2 x3.toNatClampNeg)) + x5 : Int32).toInt = (((2 : Int32) * (hI o_1 r_2 x3.toNatClampNeg)) : Int32).toInt + (x5 : Int32).toInt := ti_add ((rg_mulc' (rg_b rfl : Rg (2) (2) ((2 : Int32))) (thI T_1 q_r_2 (k := 70) rfl : Rg (-1) (11) ((hI o_1 r_2 x3.toNatClampNeg))) (by decide) : Rg (-2) (22) (((2 : Int32) * (hI o_1 r_2 x3.toNatClampNeg)))) : Rg (-2) (22) (((2 : Int32) * (hI o_1 r_2 x3.toNatClampNeg)))) (i_x5 : Rg (0) (1) (x5)) (by decide); have : (((2 : Int32) * (hI o_1 r_2 x3.toNatClampNeg)) : Int32).toInt = 2 * ((hI o_1 r_2 x3.toNatClampNeg) : Int32).toInt := ti_mulc' ((thI T_1 q_r_2 (k := 70) rfl : Rg (-1) (11) ((hI o_1 r_2 x3.toNatClampNeg))) : Rg (-1) (11) ((hI o_1 r_2 x3.toNatClampNeg))) (rg_b rfl : Rg 2 2 ((2 : Int32))) (by decide); have hq_ := ((thI T_1 q_r_2 (k := 70) rfl : Rg (-1) (11) ((hI o_1 r_2 x3.toNatClampNeg))) : Rg (-1) (11) ((hI o_1 r_2 x3.toNatClampNeg))); have := hq_.1; have := hq_.2; have : (hI o_1 r_2 x3.toNatClampNeg).toInt = (hI h r_2 x3.toNatClampNeg).toInt := congrArg Int32.toInt (fr_I f_o_1 q_r_2 (by decide) (th_ih T_1 r_x2 (k := 14) rfl e_r_2 o_x2) rfl); have := (i_x5 : Rg (0) (1) (x5)).1; have := (i_x5 : Rg (0) (1) (x5)).2; have := (i_x8 : Rg (0) (11) (x8)).1; have := (i_x8 : Rg (0) (11) (x8)).2; have := (i_x9 : Rg (0) (3) (x9)).1; have := (i_x9 : Rg (0) (3) (x9)).2; have := (i_x3 : Rg (0) (2999) (x3)).1; have := (i_x3 : Rg (0) (2999) (x3)).2; have := (i_x6 : Rg (-1) (63) (x6)).1; have := (i_x6 : Rg (-1) (63) (x6)).2; have := (i_x7 : Rg (0) (63) (x7)).1; have := (i_x7 : Rg (0) (63) (x7)).2; have := ne_i c_9; have hq_ := ((thI T_1 q_r_5 (k := 15) (i := 10) rfl : Rg (-1) (11) ((hI o_1 r_5 10))) : Rg (-1) (11) ((hI o_1 r_5 10))); have := hq_.1; have := hq_.2; have : (hI o_1 r_5 10).toInt = (hI h r_5 10).toInt := congrArg Int32.toInt (fr_I f_o_1 q_r_5 (by decide) rfl rfl); clear o_x1 o_x2 o_x4 o_t1; omega)⟩
      refine s_gd (by rw [thN T_1 q_r_11 (k := 64) (n := 24) rfl (by decide)]; exact rg_inB (og_13 : Rg (0) (23) (v_4)) (by decide)) ?_
      refine s_br (fun c_14 => ?_) (fun c_14 => ?_)
      · have _ := c_14
        have i_f_15 : Rg (16) (16) ((hI o_1 r_11 v_4.toNatClampNeg)) := rg_le2 c_14 (rg_b rfl : Rg (16) (16) ((16 : Int32))) (thI T_1 q_r_11 (k := 64) rfl : Rg (0) (16) ((hI o_1 r_11 v_4.toNatClampNeg)))
        exact zX15_make_159 hF (pmA_s hA rfl) (pmO_s hO_x4 rfl) o_x1 o_x2 o_x4 T_1 r_x0 r_x1 r_x2 i_x3 r_x4 i_x5 i_x6 i_x7 i_x8 i_x9 (rg_m i_x10 (by decide)) (mk_leave T r_x0 r_x2 r_x4 (i_t0 : Rg (0) (63) (t0)).1 mk (by have q := eb_o_1; rw [e1] at q; exact q)) pf_11
      · have _ := c_14
        have i_f_16 : Rg (0) (15) ((hI o_1 r_11 v_4.toNatClampNeg)) := rg_lt1 (nle_lt c_14) (thI T_1 q_r_11 (k := 64) rfl : Rg (0) (16) ((hI o_1 r_11 v_4.toNatClampNeg))) (rg_b rfl : Rg (16) (16) ((16 : Int32)))
        refine s_ref e_r_11 ?_
        refine s_gd (by rw [thN T_1 q_r_11 (k := 64) (n := 24) rfl (by decide)]; exact rg_inB (og_13 : Rg (0) (23) (v_4)) (by decide)) ?_
        refine s_gd (by rw [thN T_1 q_r_11 (k := 64) (n := 24) rfl (by decide)]; exact rg_inB (og_13 : Rg (0) (23) (v_4)) (by decide)) ?_
        refine s_hq (th_wI T_1 q_r_11 (k := 64) (lo := (0)) (hi := (16)) rfl ((rg_m (rg_add i_f_16 (rg_b rfl : Rg (1) (1) ((1 : Int32))) (by decide) : Rg (1) (16) (((hI o_1 r_11 v_4.toNatClampNeg) + (1 : Int32)))) (by decide)) : Rg (0) (16) (((hI o_1 r_11 v_4.toNatClampNeg) + (1 : Int32)))) (by decide) (by decide) (pm_o hO_x4 (th_ih T_1 r_x4 (k := 13) rfl e_r_11 o_x4) rfl)) (fun h_17 T_17 w_18 => ?_)
        have pf_19 : MkP x0 x2 x4 x3 x6 x7 x9 h_17 := (mk_fr T_1 r_x0 r_x2 r_x4 (fr1Io (B := [(64, 999)]) q_r_11 (th_ih T_1 r_x4 (k := 13) rfl e_r_11 o_x4) rfl w_18) (fun _ => rfl) (fun _ => rfl) (fun _ => rfl) (fun _ => rfl) (fun _ => rfl) (fun _ _ => rfl) (fun _ _ => rfl) rfl rfl (fun _ => rfl) (mk_leave T r_x0 r_x2 r_x4 (i_t0 : Rg (0) (63) (t0)).1 mk (by have q := eb_o_1; rw [e1] at q; exact q)))
        exact zX15_make_159 hF (pmA_s hA rfl) (pmO_s hO_x4 rfl) o_x1 o_x2 o_x4 T_17 r_x0 r_x1 r_x2 i_x3 r_x4 i_x5 i_x6 i_x7 i_x8 i_x9 (rg_m i_x10 (by decide)) pf_19 (mh_inc T_1 r_x4 e_r_11 w_18 pf_11)
set_option maxRecDepth 20000 in
theorem zX15_make_65 {ρ : Nat → Nat} {c : Cm} {F : Nat} {w_x1 w_x2 w_x4 : Nat} (hF : 700000 ≤ F) (hA : pmA c [(16, 23), (16, 24)]) (hO_x4 : pmO c w_x4 [(62, 999), (63, 999), (64, 999), (65, 999), (13, 1), (13, 2), (13, 3), (13, 7)]) {h : Hp} {x0 : Nat} {x1 : Nat} {x2 : Nat} {x3 : Int32} {x4 : Nat} {x5 : Int32} {x6 : Int32} {x7 : Int32} {x8 : Int32} {x9 : Int32} {t0 : Int32} (o_x1 : cw c x1 = w_x1) (o_x2 : cw c x2 = w_x2) (o_x4 : cw c x4 = w_x4) (T : TH ρ c h) (r_x0 : ρ x0 = 16) (r_x1 : ρ x1 = 13) (r_x2 : ρ x2 = 14) (i_x3 : Rg (0) (2999) (x3)) (r_x4 : ρ x4 = 13) (i_x5 : Rg (0) (1) (x5)) (i_x6 : Rg (-1) (63) (x6)) (i_x7 : Rg (0) (63) (x7)) (i_x8 : Rg (0) (11) (x8)) (i_x9 : Rg (0) (3) (x9)) (i_t0 : Rg (0) (1) (t0)) (mk : (MkP x0 x2 x4 x3 x6 x7 x9 h)) (mh : (MkH x4 x5 x8 x9 h)) (tk : (TkC x2 x3 t0 h)) : Sat (sX15_make_65 F h x0 x1 x2 x3 x4 x5 x6 x7 x8 x9 t0) (ZQ (ZV ρ c) (fun o => PE x4 o)) := by
  unfold sX15_make_65 
  have u0_MkP : x9.toInt = 3 ∨ 0 ≤ x6.toInt := mk_n mk
  refine s_br (fun c_1 => ?_) (fun c_1 => ?_)
  · have _ := c_1
    have i_f_2 : Rg (0) (0) (t0) := rg_eq c_1 (rg_b rfl : Rg (0) (0) (0 : Int32))
    exact zX15_make_159 hF (pmA_s hA rfl) (pmO_s hO_x4 rfl) o_x1 o_x2 o_x4 T r_x0 r_x1 r_x2 i_x3 r_x4 i_x5 i_x6 i_x7 i_x8 i_x9 (rg_m i_f_2 (by decide)) mk mh
  · have _ := c_1
    have i_f_3 : Rg (1) (1) (t0) := rg_nlo c_1 i_t0 (rg_b rfl : Rg (0) (0) (0 : Int32))
    refine s_br (fun c_4 => ?_) (fun c_4 => ?_)
    · have _ := c_4
      have i_f_5 : Rg (1) (1) (x9) := rg_eq c_4 (rg_b rfl : Rg (1) (1) ((1 : Int32)))
      obtain ⟨r_3, e_r_3, q_r_3⟩ := thR T r_x1 (k := 13) (i := 4) (k2 := 63) rfl (by decide)
      refine s_ref e_r_3 ?_
      refine s_gd (by rw [thN T q_r_3 (k := 63) (n := 64) rfl (by decide)]; exact rg_inB ((rg_m (rg_b rfl : Rg (0) (0) ((0 : Int32))) (by decide)) : Rg (0) (63) ((0 : Int32))) (by decide)) ?_
      exact zX15_make_92 hF (pmA_s hA rfl) (pmO_s hO_x4 rfl) (pmO_s hO_x4 rfl) o_x1 o_x2 o_x4 o_x4 T r_x0 r_x1 r_x2 i_x3 r_x4 i_x5 i_x6 i_x7 i_x8 (rg_m i_f_5 (by decide)) i_f_3 (thI T q_r_3 (k := 63) rfl : Rg (0) (63) ((hI h r_3 (0 : Int32).toNatClampNeg))) r_x4 r_x0 mk mh (tk.resolve_left c_1) (show x4 = x4 from (by have := (i_x5 : Rg (0) (1) (x5)).1; have := (i_x5 : Rg (0) (1) (x5)).2; have := (i_x8 : Rg (0) (11) (x8)).1; have := (i_x8 : Rg (0) (11) (x8)).2; have := (i_f_5 : Rg (1) (1) (x9)).1; have := (i_f_5 : Rg (1) (1) (x9)).2; have := (i_x3 : Rg (0) (2999) (x3)).1; have := (i_x3 : Rg (0) (2999) (x3)).2; have := (i_x6 : Rg (-1) (63) (x6)).1; have := (i_x6 : Rg (-1) (63) (x6)).2; have := (i_x7 : Rg (0) (63) (x7)).1; have := (i_x7 : Rg (0) (63) (x7)).2; have := (i_f_3 : Rg (1) (1) (t0)).1; have := (i_f_3 : Rg (1) (1) (t0)).2; have := ne_i c_1; have : (0 : Int32).toInt = 0 := rfl; have := eq_i c_4; have : ((1 : Int32)).toInt = 1 := rfl; clear o_x1 o_x2 o_x4; omega))
    · have _ := c_4
      exact zX15_make_92 hF (pmA_s hA rfl) (pmO_s hO_x4 rfl) (pmO_s hO_x4 rfl) o_x1 o_x2 o_x4 o_x4 T r_x0 r_x1 r_x2 i_x3 r_x4 i_x5 i_x6 i_x7 i_x8 i_x9 i_f_3 i_x7 r_x4 r_x0 mk mh (tk.resolve_left c_1) (show x4 = x4 from (by have := (i_x5 : Rg (0) (1) (x5)).1; have := (i_x5 : Rg (0) (1) (x5)).2; have := (i_x8 : Rg (0) (11) (x8)).1; have := (i_x8 : Rg (0) (11) (x8)).2; have := (i_x9 : Rg (0) (3) (x9)).1; have := (i_x9 : Rg (0) (3) (x9)).2; have := (i_x3 : Rg (0) (2999) (x3)).1; have := (i_x3 : Rg (0) (2999) (x3)).2; have := (i_x6 : Rg (-1) (63) (x6)).1; have := (i_x6 : Rg (-1) (63) (x6)).2; have := (i_x7 : Rg (0) (63) (x7)).1; have := (i_x7 : Rg (0) (63) (x7)).2; have := (i_f_3 : Rg (1) (1) (t0)).1; have := (i_f_3 : Rg (1) (1) (t0)).2; have := ne_i c_1; have : (0 : Int32).toInt = 0 := rfl; have := ne_i c_4; have : ((1 : Int32)).toInt = 1 := rfl; clear o_x1 o_x2 o_x4; omega))
set_option maxRecDepth 20000 in
theorem zX15_make {ρ : Nat → Nat} {c : Cm} {F : Nat} {w_x1 w_x2 w_x4 : Nat} (hF : 700000 ≤ F) (hA : pmA c [(16, 23), (16, 24)]) (hO_x4 : pmO c w_x4 [(62, 999), (63, 999), (64, 999), (65, 999), (13, 1), (13, 2), (13, 3), (13, 7)]) {h : Hp} {x0 : Nat} {x1 : Nat} {x2 : Nat} {x3 : Int32} {x4 : Nat} (o_x1 : cw c x1 = w_x1) (o_x2 : cw c x2 = w_x2) (o_x4 : cw c x4 = w_x4) (T : TH ρ c h) (r_x0 : ρ x0 = 16) (r_x1 : ρ x1 = 13) (r_x2 : ρ x2 = 14) (i_x3 : Rg (0) (2999) (x3)) (r_x4 : ρ x4 = 13) (sq : (SqOk x0 h)) (mv : (MvB x0 x1 x2 h)) (mi : (x3.toInt < (hI h x2 0).toInt)) : Sat (sX15_make F h x0 x1 x2 x3 x4) (ZQ (ZV ρ c) (fun o => PE x4 o)) := by
  unfold sX15_make 
  refine s_cVq (s_weq (zX12_copy hF (pmO_s hO_x4 rfl) o_x4 o_x1 T r_x4 r_x1)) (fun o_1 T_1 p_o_1 => ?_)
  have eb_o_1 := p_o_1
  refine s_q (fun v_2 e_2 => ?_)
  have i_v_2 : Rg (0) (1) (v_2) := by rw [e_2]; exact (thI T_1 r_x1 (k := 13) (i := 1) rfl : Rg (0) (1) (hI o_1 x1 1))
  obtain ⟨r_3, e_r_3, q_r_3⟩ := thR T_1 r_x2 (k := 14) (i := 1) (k2 := 66) rfl (by decide)
  refine s_ref e_r_3 ?_
  refine s_gd (by rw [thN T_1 q_r_3 (k := 66) (n := 3000) rfl (by decide)]; exact rg_inB (i_x3 : Rg (0) (2999) (x3)) (by decide)) ?_
  refine s_q (fun v_5 e_3 => ?_)
  have i_v_5 : Rg (-1) (63) (v_5) := by rw [e_3]; exact (thI T_1 q_r_3 (k := 66) rfl : Rg (-1) (63) (hI o_1 r_3 x3.toNatClampNeg))
  obtain ⟨r_6, e_r_6, q_r_6⟩ := thR T_1 r_x2 (k := 14) (i := 2) (k2 := 67) rfl (by decide)
  refine s_ref e_r_6 ?_
  refine s_gd (by rw [thN T_1 q_r_6 (k := 67) (n := 3000) rfl (by decide)]; exact rg_inB (i_x3 : Rg (0) (2999) (x3)) (by decide)) ?_
  refine s_q (fun v_8 e_4 => ?_)
  have i_v_8 : Rg (0) (63) (v_8) := by rw [e_4]; exact (thI T_1 q_r_6 (k := 67) rfl : Rg (0) (63) (hI o_1 r_6 x3.toNatClampNeg))
  obtain ⟨r_9, e_r_9, q_r_9⟩ := thR T_1 r_x2 (k := 14) (i := 3) (k2 := 68) rfl (by decide)
  refine s_ref e_r_9 ?_
  refine s_gd (by rw [thN T_1 q_r_9 (k := 68) (n := 3000) rfl (by decide)]; exact rg_inB (i_x3 : Rg (0) (2999) (x3)) (by decide)) ?_
  refine s_q (fun v_11 e_5 => ?_)
  have i_v_11 : Rg (0) (11) (v_11) := by rw [e_5]; exact (thI T_1 q_r_9 (k := 68) rfl : Rg (0) (11) (hI o_1 r_9 x3.toNatClampNeg))
  obtain ⟨r_12, e_r_12, q_r_12⟩ := thR T_1 r_x2 (k := 14) (i := 6) (k2 := 71) rfl (by decide)
  refine s_ref e_r_12 ?_
  refine s_gd (by rw [thN T_1 q_r_12 (k := 71) (n := 3000) rfl (by decide)]; exact rg_inB (i_x3 : Rg (0) (2999) (x3)) (by decide)) ?_
  refine s_q (fun v_14 e_6 => ?_)
  have i_v_14 : Rg (0) (3) (v_14) := by rw [e_6]; exact (thI T_1 q_r_12 (k := 71) rfl : Rg (0) (3) (hI o_1 r_12 x3.toNatClampNeg))
  refine s_hq (th_wI T_1 r_x4 (k := 13) (lo := (0)) (hi := (64)) rfl ((rg_m (rg_b rfl : Rg (0) (0) ((0 : Int32))) (by decide)) : Rg (0) (64) ((0 : Int32))) (by decide) (by decide) (pm_o hO_x4 o_x4 rfl)) (fun h_15 T_7 w_8 => ?_)
  have es_9 := mk_start T r_x0 r_x1 r_x2 r_x4 sq mv ⟨i_x3.1, mi⟩ eb_o_1 w_8 e_r_3 e_r_6 e_r_9 e_r_12 e_2 e_3 e_4 e_5 e_6
  obtain ⟨r_16, e_r_16, q_r_16⟩ := thR T_7 r_x2 (k := 14) (i := 5) (k2 := 70) rfl (by decide)
  refine s_ref e_r_16 ?_
  refine s_gd (by rw [thN T_7 q_r_16 (k := 70) (n := 3000) rfl (by decide)]; exact rg_inB (i_x3 : Rg (0) (2999) (x3)) (by decide)) ?_
  refine s_br (fun c_10 => ?_) (fun c_10 => ?_)
  · have _ := c_10
    have i_f_11 : Rg (-1) (-1) ((hI h_15 r_16 x3.toNatClampNeg)) := rg_eq c_10 (rg_b rfl : Rg (-1) (-1) ((- 1 : Int32)))
    exact zX15_make_65 hF (pmA_s hA rfl) (pmO_s hO_x4 rfl) o_x1 o_x2 o_x4 T_7 r_x0 r_x1 r_x2 i_x3 r_x4 i_v_2 i_v_5 i_v_8 i_v_11 i_v_14 (rg_m (rg_b rfl : Rg (0) (0) ((0 : Int32))) (by decide)) es_9.1 es_9.2 (Or.inl rfl)
  · have _ := c_10
    have i_f_12 : Rg (0) (11) ((hI h_15 r_16 x3.toNatClampNeg)) := rg_nlo c_10 (thI T_7 q_r_16 (k := 70) rfl : Rg (-1) (11) ((hI h_15 r_16 x3.toNatClampNeg))) (rg_b rfl : Rg (-1) (-1) ((- 1 : Int32)))
    exact zX15_make_65 hF (pmA_s hA rfl) (pmO_s hO_x4 rfl) o_x1 o_x2 o_x4 T_7 r_x0 r_x1 r_x2 i_x3 r_x4 i_v_2 i_v_5 i_v_8 i_v_11 i_v_14 (rg_m (rg_b rfl : Rg (1) (1) ((1 : Int32))) (by decide)) es_9.1 es_9.2 (Or.inr (fun r hr => by rw [r_eq e_r_16 hr]; exact (i_f_12 : Rg (0) (11) ((hI h_15 r_16 x3.toNatClampNeg))).1))
set_option maxRecDepth 20000 in
theorem zX15_isSafe_114 {ρ : Nat → Nat} {c : Cm} {F : Nat} {w_x1 : Nat} (hF : 700000 ≤ F) (hA : pmA c [(16, 23), (16, 24)]) {h : Hp} {x0 : Nat} {x1 : Nat} {x4 : Int32} (o_x1 : cw c x1 = w_x1) (T : TH ρ c h) (r_x0 : ρ x0 = 16) (r_x1 : ρ x1 = 13) (i_x4 : Rg (-1) (63) (x4)) : Sat (sX15_isSafe_114 F h x0 x1 x4) (ZI ρ c (0) (1)) := by
  unfold sX15_isSafe_114 sX15_isSafe_147 sX15_isSafe_152
  obtain ⟨r_1, e_r_1, q_r_1⟩ := thR T r_x0 (k := 16) (i := 4) (k2 := 15) rfl (by decide)
  refine s_ref e_r_1 ?_
  refine s_br (fun c_1 => ?_) (fun c_1 => ?_)
  · have _ := c_1
    have i_f_2 : Rg (0) (0) ((hI h r_1 17)) := rg_eq c_1 (rg_b rfl : Rg (0) (0) (0 : Int32))
    refine s_gd (rg_bool (rg_m (rg_b rfl : Rg (1) (1) ((1 : Int32))) (by decide))) ?_
    exact s_some ⟨(T), (rg_m (rg_b rfl : Rg (1) (1) ((1 : Int32))) (by decide))⟩
  · have _ := c_1
    have i_f_3 : Rg (1) (1) ((hI h r_1 17)) := rg_nlo c_1 (thI T q_r_1 (k := 15) (i := 17) rfl : Rg (0) (1) ((hI h r_1 17))) (rg_b rfl : Rg (0) (0) (0 : Int32))
    refine s_br (fun c_4 => ?_) (fun c_4 => ?_)
    · have _ := c_4
      have i_f_5 : Rg (-1) (-1) (x4) := rg_eq c_4 (rg_b rfl : Rg (-1) (-1) ((- 1 : Int32)))
      refine s_gd (rg_bool (rg_m (rg_b rfl : Rg (1) (1) ((1 : Int32))) (by decide))) ?_
      exact s_some ⟨(T), (rg_m (rg_b rfl : Rg (1) (1) ((1 : Int32))) (by decide))⟩
    · have _ := c_4
      have i_f_6 : Rg (0) (63) (x4) := rg_nlo c_4 i_x4 (rg_b rfl : Rg (-1) (-1) ((- 1 : Int32)))
      obtain ⟨r_4, e_r_4, q_r_4⟩ := thR T r_x0 (k := 16) (i := 28) (k2 := 13) rfl (by decide)
      refine s_ref e_r_4 ?_
      refine s_cI (zX15_isAttacked hF (pmA_s hA rfl) (th_id T r_x0 (k := 16) (i := 28) (w := 2528) e_r_4 rfl (by decide)) T r_x0 q_r_4 i_f_6 (thI T r_x1 (k := 13) (i := 1) rfl : Rg (0) (1) ((hI h x1 1)))) (fun o_5 T_7 i_o_5 => ?_)
      refine s_br (fun c_8 => ?_) (fun c_8 => ?_)
      · have _ := c_8
        have i_f_9 : Rg (0) (0) (o_5.1) := rg_eq c_8 (rg_b rfl : Rg (0) (0) (0 : Int32))
        refine s_gd (rg_bool (rg_m (rg_b rfl : Rg (1) (1) ((1 : Int32))) (by decide))) ?_
        exact s_some ⟨(T_7), (rg_m (rg_b rfl : Rg (1) (1) ((1 : Int32))) (by decide))⟩
      · have _ := c_8
        have i_f_10 : Rg (1) (1) (o_5.1) := rg_nlo c_8 i_o_5 (rg_b rfl : Rg (0) (0) (0 : Int32))
        refine s_gd (rg_bool (rg_m (rg_b rfl : Rg (0) (0) ((0 : Int32))) (by decide))) ?_
        exact s_some ⟨(T_7), (rg_m (rg_b rfl : Rg (0) (0) ((0 : Int32))) (by decide))⟩
set_option maxRecDepth 20000 in
theorem zX15_isSafe_80 {ρ : Nat → Nat} {c : Cm} {F : Nat} {w_x1 : Nat} (hF : 700000 ≤ F) (hA : pmA c [(16, 23), (16, 24)]) {h : Hp} {x0 : Nat} {x1 : Nat} {x4 : Int32} {x5 : Int32} {t0 : Int32} (o_x1 : cw c x1 = w_x1) (T : TH ρ c h) (r_x0 : ρ x0 = 16) (r_x1 : ρ x1 = 13) (i_x4 : Rg (-1) (63) (x4)) (i_x5 : Rg (-1) (63) (x5)) (i_t0 : Rg (0) (1) (t0)) : Sat (sX15_isSafe_80 F h x0 x1 x4 x5 t0) (ZI ρ c (0) (1)) := by
  unfold sX15_isSafe_80 sX15_isSafe_112
  refine s_br (fun c_1 => ?_) (fun c_1 => ?_)
  · have _ := c_1
    have i_f_2 : Rg (-1) (-1) (x5) := rg_eq c_1 (rg_b rfl : Rg (-1) (-1) ((- 1 : Int32)))
    exact s_some ⟨(T), (rg_m (rg_b rfl : Rg (0) (0) ((0 : Int32))) (by decide))⟩
  · have _ := c_1
    have i_f_3 : Rg (0) (63) (x5) := rg_nlo c_1 i_x5 (rg_b rfl : Rg (-1) (-1) ((- 1 : Int32)))
    refine s_br (fun c_4 => ?_) (fun c_4 => ?_)
    · have _ := c_4
      have i_f_5 : Rg (0) (0) (t0) := rg_eq c_4 (rg_b rfl : Rg (0) (0) (0 : Int32))
      obtain ⟨r_3, e_r_3, q_r_3⟩ := thR T r_x0 (k := 16) (i := 28) (k2 := 13) rfl (by decide)
      refine s_ref e_r_3 ?_
      refine s_cI (zX15_isAttacked hF (pmA_s hA rfl) (th_id T r_x0 (k := 16) (i := 28) (w := 2528) e_r_3 rfl (by decide)) T r_x0 q_r_3 i_f_3 (rg_sub (rg_b rfl : Rg (1) (1) ((1 : Int32))) (thI T r_x1 (k := 13) (i := 1) rfl : Rg (0) (1) ((hI h x1 1))) (by decide) : Rg (0) (1) (((1 : Int32) - (hI h x1 1))))) (fun o_4 T_6 i_o_4 => ?_)
      refine s_br (fun c_7 => ?_) (fun c_7 => ?_)
      · have _ := c_7
        have i_f_8 : Rg (0) (0) (o_4.1) := rg_eq c_7 (rg_b rfl : Rg (0) (0) (0 : Int32))
        exact zX15_isSafe_114 hF (pmA_s hA rfl) o_x1 T_6 r_x0 r_x1 i_x4
      · have _ := c_7
        have i_f_9 : Rg (1) (1) (o_4.1) := rg_nlo c_7 i_o_4 (rg_b rfl : Rg (0) (0) (0 : Int32))
        exact s_some ⟨(T_6), (rg_m (rg_b rfl : Rg (0) (0) ((0 : Int32))) (by decide))⟩
    · have _ := c_4
      have i_f_10 : Rg (1) (1) (t0) := rg_nlo c_4 i_t0 (rg_b rfl : Rg (0) (0) (0 : Int32))
      exact zX15_isSafe_114 hF (pmA_s hA rfl) o_x1 T r_x0 r_x1 i_x4
set_option maxRecDepth 20000 in
theorem zX15_isSafe {ρ : Nat → Nat} {c : Cm} {F : Nat} {w_x1 w_x2 : Nat} (hF : 700000 ≤ F) (hA : pmA c [(16, 23), (16, 24)]) (hi_2528 : pmO c 2528 [(62, 999), (63, 999), (64, 999), (65, 999), (13, 1), (13, 2), (13, 3), (13, 7)]) {h : Hp} {x0 : Nat} {x1 : Nat} {x2 : Nat} {x3 : Int32} (o_x1 : cw c x1 = w_x1) (o_x2 : cw c x2 = w_x2) (T : TH ρ c h) (r_x0 : ρ x0 = 16) (r_x1 : ρ x1 = 13) (r_x2 : ρ x2 = 14) (i_x3 : Rg (0) (2999) (x3)) (sq : (SqOk x0 h)) (mv : (MvB x0 x1 x2 h)) (mi : (x3.toInt < (hI h x2 0).toInt)) : Sat (sX15_isSafe F h x0 x1 x2 x3) (ZI ρ c (0) (1)) := by
  unfold sX15_isSafe sX15_isSafe_79
  obtain ⟨r_1, e_r_1, q_r_1⟩ := thR T r_x0 (k := 16) (i := 28) (k2 := 13) rfl (by decide)
  refine s_ref e_r_1 ?_
  refine s_cVfq (S := fS [(16, 23), (16, 24)] [(2528, [(62, 999), (63, 999), (64, 999), (65, 999), (13, 1), (13, 2), (13, 3), (13, 7)])]) T (fs_sub (pmA_s hA rfl) (fs_c (pmO_s hi_2528 rfl) fs_n)) (zX15_make hF fs_a (fs_o (.head _)) o_x1 o_x2 (th_id T r_x0 (k := 16) (i := 28) (w := 2528) e_r_1 rfl (by decide)) (th_in _ T) r_x0 r_x1 r_x2 i_x3 q_r_1 sq mv (show (x3).toInt < (hI h x2 0).toInt from (by have := (i_x3 : Rg (0) (2999) (x3)).1; have := (i_x3 : Rg (0) (2999) (x3)).2; have hq_ := ((thI T r_x2 (k := 14) (i := 0) rfl : Rg (0) (3000) ((hI h x2 0))) : Rg (0) (3000) ((hI h x2 0))); have := hq_.1; have := hq_.2; clear o_x1 o_x2; omega))) (fun o_2 T_1 f_o_2 p_o_2 => ?_)
  refine s_ref (hr_q (fr_R f_o_2 r_x0 (by decide) rfl rfl) e_r_1) ?_
  refine s_dI0 (zX15_royalOf hF T_1 r_x0 q_r_1 (rg_sub (rg_b rfl : Rg (1) (1) ((1 : Int32))) (thI T_1 r_x1 (k := 13) (i := 1) rfl : Rg (0) (1) ((hI o_2 x1 1))) (by decide) : Rg (0) (1) (((1 : Int32) - (hI o_2 x1 1))))) (fun o_4 eb_o_4 e_o_4 i_o_4 => ?_)
  have T_2 := th_eq e_o_4 T_1
  refine s_dI0 (zX15_royalOf hF T_2 r_x0 r_x1 (thI T_2 r_x1 (k := 13) (i := 1) rfl : Rg (0) (1) ((hI o_4.2 x1 1)))) (fun o_5 eb_o_5 e_o_5 i_o_5 => ?_)
  have T_3 := th_eq e_o_5 T_2
  refine s_br (fun c_4 => ?_) (fun c_4 => ?_)
  · have _ := c_4
    have i_f_5 : Rg (-1) (-1) (o_5.1) := rg_eq c_4 (rg_b rfl : Rg (-1) (-1) ((- 1 : Int32)))
    exact zX15_isSafe_114 hF (pmA_s hA rfl) o_x1 T_3 r_x0 r_x1 i_o_4
  · have _ := c_4
    have i_f_6 : Rg (0) (63) (o_5.1) := rg_nlo c_4 i_o_5 (rg_b rfl : Rg (-1) (-1) ((- 1 : Int32)))
    refine s_ref (hr_e e_o_5 (hr_e e_o_4 (hr_q (fr_R f_o_2 r_x0 (by decide) rfl rfl) e_r_1))) ?_
    refine s_dI0 (zX15_royalOf hF T_3 r_x0 q_r_1 (thI T_3 r_x1 (k := 13) (i := 1) rfl : Rg (0) (1) ((hI o_5.2 x1 1)))) (fun o_8 eb_o_8 e_o_8 i_o_8 => ?_)
    have T_7 := th_eq e_o_8 T_3
    refine s_dI0 (zX15_royalOf hF T_7 r_x0 r_x1 (rg_sub (rg_b rfl : Rg (1) (1) ((1 : Int32))) (thI T_7 r_x1 (k := 13) (i := 1) rfl : Rg (0) (1) ((hI o_8.2 x1 1))) (by decide) : Rg (0) (1) (((1 : Int32) - (hI o_8.2 x1 1))))) (fun o_9 eb_o_9 e_o_9 i_o_9 => ?_)
    have T_8 := th_eq e_o_9 T_7
    refine s_br (fun c_9 => ?_) (fun c_9 => ?_)
    · have _ := c_9
      have i_f_10 : Rg (-1) (-1) (o_9.1) := rg_eq c_9 (rg_b rfl : Rg (-1) (-1) ((- 1 : Int32)))
      exact zX15_isSafe_80 hF (pmA_s hA rfl) o_x1 T_8 r_x0 r_x1 i_o_4 i_o_8 (rg_m (rg_b rfl : Rg (0) (0) ((0 : Int32))) (by decide))
    · have _ := c_9
      have i_f_11 : Rg (0) (63) (o_9.1) := rg_nlo c_9 i_o_9 (rg_b rfl : Rg (-1) (-1) ((- 1 : Int32)))
      refine s_br (fun c_12 => ?_) (fun c_12 => ?_)
      · have _ := c_12
        have i_f_13 : Rg (-1) (-1) (o_4.1) := rg_eq c_12 (rg_b rfl : Rg (-1) (-1) ((- 1 : Int32)))
        exact zX15_isSafe_80 hF (pmA_s hA rfl) o_x1 T_8 r_x0 r_x1 (rg_m i_f_13 (by decide)) i_o_8 (rg_m (rg_b rfl : Rg (1) (1) ((1 : Int32))) (by decide))
      · have _ := c_12
        have i_f_14 : Rg (0) (63) (o_4.1) := rg_nlo c_12 i_o_4 (rg_b rfl : Rg (-1) (-1) ((- 1 : Int32)))
        exact zX15_isSafe_80 hF (pmA_s hA rfl) o_x1 T_8 r_x0 r_x1 (rg_m i_f_14 (by decide)) i_o_8 (rg_m (rg_b rfl : Rg (0) (0) ((0 : Int32))) (by decide))
set_option maxRecDepth 20000 in
theorem zX15_isGoneOver_2 {ρ : Nat → Nat} {c : Cm} {h0 : Hp} {F : Nat} (hF : 700000 ≤ F) : ∀ (f : Nat) {h : Hp} {x1 : Nat} {x2 : Int32} {x3 : Int32}, h = h0 → TH ρ c h → ρ x1 = 13 → Rg (0) (63) (x2) → Rg (1) (64) (x3) → (64 - x3.toInt).toNat < f → Sat (sX15_isGoneOver_2 F f h x1 x2 x3) (ZI0 h0 (0) (1)) := by
  intro f
  induction f with
  | zero => intros; omega
  | succ f ih =>
    intro h x1 x2 x3 E T r_x1 i_x2 i_x3 hm
    rw [sX15_isGoneOver_2]
    obtain ⟨C_2, hC_2⟩ : ∃ C : Int, C = x3.toInt := ⟨_, rfl⟩
    have hk_2 : ∀ {h : Hp} {x1 : Nat} {x2 : Int32} {x3 : Int32}, h = h0 → TH ρ c h → ρ x1 = 13 → Rg (0) (63) (x2) → Rg (1) (64) (x3) → C_2 < x3.toInt → Sat (sX15_isGoneOver_2 F f h x1 x2 x3) (ZI0 h0 (0) (1)) := by
      intro h' x1' x2' x3' E' T' r_x1' i_x2' i_x3' hl
      exact ih E' T' r_x1' i_x2' i_x3' (by have := i_x3'.1; have := i_x3'.2; omega)
    have hc_2 : C_2 ≤ x3.toInt := by omega
    refine s_br (fun c_1 => ?_) (fun c_1 => ?_)
    · have _ := c_1
      exact s_some ⟨E, (rg_m (rg_b rfl : Rg (0) (0) ((0 : Int32))) (by decide))⟩
    · have _ := c_1
      have i_f_2 : Rg (1) (63) (x3) := rg_lt1 (nle_lt c_1) i_x3 (thI T r_x1 (k := 13) (i := 3) rfl : Rg (0) (64) ((hI h x1 3)))
      have i_f_3 : Rg (2) (64) ((hI h x1 3)) := rg_lt2 (nle_lt c_1) i_x3 (thI T r_x1 (k := 13) (i := 3) rfl : Rg (0) (64) ((hI h x1 3)))
      obtain ⟨r_2, e_r_2, q_r_2⟩ := thR T r_x1 (k := 13) (i := 4) (k2 := 63) rfl (by decide)
      refine s_ref e_r_2 ?_
      refine s_gd (by rw [thN T q_r_2 (k := 63) (n := 64) rfl (by decide)]; exact rg_inB ((rg_m i_f_2 (by decide)) : Rg (0) (63) (x3)) (by decide)) ?_
      refine s_br (fun c_4 => ?_) (fun c_4 => ?_)
      · have _ := c_4
        exact s_some ⟨E, (rg_m (rg_b rfl : Rg (1) (1) ((1 : Int32))) (by decide))⟩
      · have _ := c_4
        refine s_q (fun v_5 e_5 => ?_)
        have i_v_5 : Rg (2) (64) (v_5) := by rw [e_5]; exact (rg_add i_f_2 (rg_b rfl : Rg (1) (1) ((1 : Int32))) (by decide) : Rg (2) (64) (x3 + (1 : Int32)))
        have m_6 : (v_5).toInt = x3.toInt + 1 := by rw [e_5]; exact rg_inc i_f_2 (by decide)
        exact hk_2 E T r_x1 i_x2 (rg_m i_v_5 (by decide)) (by have := hc_2; omega)
set_option maxRecDepth 20000 in
theorem zX15_isGoneOver {ρ : Nat → Nat} {c : Cm} {F : Nat} (hF : 700000 ≤ F) {h : Hp} {x0 : Nat} {x1 : Nat} {x2 : Int32} (T : TH ρ c h) (r_x0 : ρ x0 = 16) (r_x1 : ρ x1 = 13) (i_x2 : Rg (0) (63) (x2)) : Sat (sX15_isGoneOver F h x0 x1 x2) (ZI0 h (0) (1)) := by
  unfold sX15_isGoneOver 
  have m_1 : Rg (1) (64) ((1 : Int32)) := (rg_m (rg_b rfl : Rg (1) (1) ((1 : Int32))) (by decide))
  exact zX15_isGoneOver_2 hF F rfl T r_x1 i_x2 (rg_m (rg_b rfl : Rg (1) (1) ((1 : Int32))) (by decide)) (by have := m_1.1; have := m_1.2; omega)
set_option maxRecDepth 20000 in
theorem zX15_leadBy_195 {ρ : Nat → Nat} {c : Cm} {F : Nat} {w_x1 : Nat} (hF : 700000 ≤ F) {k_18 : Hp → Nat → Nat → Int32 → Int32 → Int32 → Int32 → Int32 → Int32 → Int32 → Option (Hp)} {C_18 : Int} (hk_18 : ∀ {h : Hp} {x0 : Nat} {x1 : Nat} {x2 : Int32} {x3 : Int32} {x4 : Int32} {x5 : Int32} {x6 : Int32} {x7 : Int32} {x8 : Int32}, cw c x1 = w_x1 → TH ρ c h → ρ x0 = 16 → ρ x1 = 13 → Rg (0) (63) (x2) → Rg (0) (1) (x3) → Rg (0) (95) (x4) → Rg (0) (1) (x5) → Rg (0) (63) (x6) → Rg (0) (2) (x7) → Rg (1) (8) (x8) → C_18 < x8.toInt → Sat (k_18 h x0 x1 x2 x3 x4 x5 x6 x7 x8) (ZV ρ c)) {h : Hp} {x0 : Nat} {x1 : Nat} {x2 : Int32} {x3 : Int32} {x4 : Int32} {x5 : Int32} {x6 : Int32} {x7 : Int32} {x8 : Int32} {x10 : Int32} (o_x1 : cw c x1 = w_x1) (T : TH ρ c h) (r_x0 : ρ x0 = 16) (r_x1 : ρ x1 = 13) (i_x2 : Rg (0) (63) (x2)) (i_x3 : Rg (0) (1) (x3)) (i_x4 : Rg (0) (95) (x4)) (i_x5 : Rg (0) (1) (x5)) (i_x6 : Rg (0) (63) (x6)) (i_x7 : Rg (0) (1) (x7)) (i_x8 : Rg (1) (7) (x8)) (i_x10 : Rg (0) (24) (x10)) (hc_18 : C_18 ≤ x8.toInt) : Sat (sX15_leadBy_195 F k_18 h x0 x1 x2 x3 x4 x5 x6 x7 x8 x10) (ZV ρ c) := by
  unfold sX15_leadBy_195 sX15_leadBy_207
  refine s_br (fun c_1 => ?_) (fun c_1 => ?_)
  · have _ := c_1
    have i_f_2 : Rg (0) (0) (x10) := rg_le1 c_1 i_x10 (rg_b rfl : Rg (0) (0) (0 : Int32))
    refine s_q (fun v_1q1 e_3 => ?_)
    have i_v_1q1 : Rg (0) (1) (v_1q1) := by rw [e_3]; exact (rg_add i_x7 (rg_b rfl : Rg (0) (0) ((0 : Int32))) (by decide) : Rg (0) (1) (x7 + (0 : Int32)))
    refine s_q (fun v_2q1 e_4 => ?_)
    have i_v_2q1 : Rg (2) (8) (v_2q1) := by rw [e_4]; exact (rg_add i_x8 (rg_b rfl : Rg (1) (1) ((1 : Int32))) (by decide) : Rg (2) (8) (x8 + (1 : Int32)))
    have m_5 : (v_2q1).toInt = x8.toInt + 1 := by rw [e_4]; exact rg_inc i_x8 (by decide)
    exact hk_18 o_x1 T r_x0 r_x1 i_x2 i_x3 i_x4 i_x5 i_x6 (rg_m i_v_1q1 (by decide)) (rg_m i_v_2q1 (by decide)) (by have := hc_18; omega)
  · have _ := c_1
    have i_f_6 : Rg (1) (24) (x10) := rg_lt2 (nle_lt c_1) (rg_b rfl : Rg (0) (0) (0 : Int32)) i_x10
    refine s_q (fun v_1q2 e_7 => ?_)
    have i_v_1q2 : Rg (1) (2) (v_1q2) := by rw [e_7]; exact (rg_add i_x7 (rg_b rfl : Rg (1) (1) ((1 : Int32))) (by decide) : Rg (1) (2) (x7 + (1 : Int32)))
    refine s_q (fun v_2q2 e_8 => ?_)
    have i_v_2q2 : Rg (2) (8) (v_2q2) := by rw [e_8]; exact (rg_add i_x8 (rg_b rfl : Rg (1) (1) ((1 : Int32))) (by decide) : Rg (2) (8) (x8 + (1 : Int32)))
    have m_9 : (v_2q2).toInt = x8.toInt + 1 := by rw [e_8]; exact rg_inc i_x8 (by decide)
    exact hk_18 o_x1 T r_x0 r_x1 i_x2 i_x3 i_x4 i_x5 i_x6 (rg_m i_v_1q2 (by decide)) (rg_m i_v_2q2 (by decide)) (by have := hc_18; omega)
set_option maxRecDepth 20000 in
theorem zX15_leadBy_168 {ρ : Nat → Nat} {c : Cm} {F : Nat} {w_x1 : Nat} (hF : 700000 ≤ F) {k_18 : Hp → Nat → Nat → Int32 → Int32 → Int32 → Int32 → Int32 → Int32 → Int32 → Option (Hp)} {C_18 : Int} (hk_18 : ∀ {h : Hp} {x0 : Nat} {x1 : Nat} {x2 : Int32} {x3 : Int32} {x4 : Int32} {x5 : Int32} {x6 : Int32} {x7 : Int32} {x8 : Int32}, cw c x1 = w_x1 → TH ρ c h → ρ x0 = 16 → ρ x1 = 13 → Rg (0) (63) (x2) → Rg (0) (1) (x3) → Rg (0) (95) (x4) → Rg (0) (1) (x5) → Rg (0) (63) (x6) → Rg (0) (2) (x7) → Rg (1) (8) (x8) → C_18 < x8.toInt → Sat (k_18 h x0 x1 x2 x3 x4 x5 x6 x7 x8) (ZV ρ c)) (hA : pmA c [(87, 999), (88, 999), (89, 999)]) {h : Hp} {x0 : Nat} {x1 : Nat} {x2 : Int32} {x3 : Int32} {x4 : Int32} {x5 : Int32} {x6 : Int32} {x7 : Int32} {x8 : Int32} {x9 : Int32} {x10 : Int32} {x11 : Int32} (o_x1 : cw c x1 = w_x1) (T : TH ρ c h) (r_x0 : ρ x0 = 16) (r_x1 : ρ x1 = 13) (i_x2 : Rg (0) (63) (x2)) (i_x3 : Rg (0) (1) (x3)) (i_x4 : Rg (0) (95) (x4)) (i_x5 : Rg (0) (1) (x5)) (i_x6 : Rg (0) (63) (x6)) (i_x7 : Rg (0) (1) (x7)) (i_x8 : Rg (1) (7) (x8)) (i_x9 : Rg (0) (63) (x9)) (i_x10 : Rg (0) (24) (x10)) (i_x11 : Rg (0) (1) (x11)) (hc_18 : C_18 ≤ x8.toInt) : Sat (sX15_leadBy_168 F k_18 h x0 x1 x2 x3 x4 x5 x6 x7 x8 x9 x10 x11) (ZV ρ c) := by
  unfold sX15_leadBy_168 
  obtain ⟨r_1, e_r_1, q_r_1⟩ := thR T r_x0 (k := 16) (i := 25) (k2 := 87) rfl (by decide)
  refine s_ref e_r_1 ?_
  refine s_gd (by rw [thN T q_r_1 (k := 87) (n := 64) rfl (by decide)]; exact rg_inB (i_x9 : Rg (0) (63) (x9)) (by decide)) ?_
  refine s_hq (th_wI T q_r_1 (k := 87) (lo := (-1)) (hi := (95)) rfl ((rg_m i_x4 (by decide)) : Rg (-1) (95) (x4)) (by decide) (by decide) (pm_a hA rfl)) (fun h_3 T_1 w_2 => ?_)
  obtain ⟨r_4, e_r_4, q_r_4⟩ := thR T_1 r_x0 (k := 16) (i := 26) (k2 := 88) rfl (by decide)
  refine s_ref e_r_4 ?_
  refine s_gd (by rw [thN T_1 q_r_4 (k := 88) (n := 64) rfl (by decide)]; exact rg_inB (i_x9 : Rg (0) (63) (x9)) (by decide)) ?_
  refine s_hq (th_wI T_1 q_r_4 (k := 88) (lo := (0)) (hi := (7)) rfl ((rg_m i_x8 (by decide)) : Rg (0) (7) (x8)) (by decide) (by decide) (pm_a hA rfl)) (fun h_6 T_3 w_4 => ?_)
  obtain ⟨r_7, e_r_7, q_r_7⟩ := thR T_3 r_x0 (k := 16) (i := 27) (k2 := 89) rfl (by decide)
  refine s_ref e_r_7 ?_
  refine s_gd (by rw [thN T_3 q_r_7 (k := 89) (n := 64) rfl (by decide)]; exact rg_inB (i_x9 : Rg (0) (63) (x9)) (by decide)) ?_
  refine s_hq (th_wI T_3 q_r_7 (k := 89) (lo := (0)) (hi := (1)) rfl ((rg_narz _ : Rg (0) (1) ((vp_nar .boolean x11))) : Rg (0) (1) ((vp_nar .boolean x11))) (by decide) (by decide) (pm_a hA rfl)) (fun h_9 T_5 w_6 => ?_)
  exact zX15_leadBy_195 hF @hk_18 o_x1 T_5 r_x0 r_x1 i_x2 i_x3 i_x4 i_x5 i_x6 i_x7 i_x8 i_x10 hc_18
set_option maxRecDepth 20000 in
theorem zX15_leadBy_156 {ρ : Nat → Nat} {c : Cm} {F : Nat} {w_x1 : Nat} (hF : 700000 ≤ F) {k_18 : Hp → Nat → Nat → Int32 → Int32 → Int32 → Int32 → Int32 → Int32 → Int32 → Option (Hp)} {C_18 : Int} (hk_18 : ∀ {h : Hp} {x0 : Nat} {x1 : Nat} {x2 : Int32} {x3 : Int32} {x4 : Int32} {x5 : Int32} {x6 : Int32} {x7 : Int32} {x8 : Int32}, cw c x1 = w_x1 → TH ρ c h → ρ x0 = 16 → ρ x1 = 13 → Rg (0) (63) (x2) → Rg (0) (1) (x3) → Rg (0) (95) (x4) → Rg (0) (1) (x5) → Rg (0) (63) (x6) → Rg (0) (2) (x7) → Rg (1) (8) (x8) → C_18 < x8.toInt → Sat (k_18 h x0 x1 x2 x3 x4 x5 x6 x7 x8) (ZV ρ c)) (hA : pmA c [(87, 999), (88, 999), (89, 999)]) {h : Hp} {x0 : Nat} {x1 : Nat} {x2 : Int32} {x3 : Int32} {x4 : Int32} {x5 : Int32} {x6 : Int32} {x7 : Int32} {x8 : Int32} {x9 : Int32} {x10 : Int32} {x11 : Int32} {t0 : Int32} (o_x1 : cw c x1 = w_x1) (T : TH ρ c h) (r_x0 : ρ x0 = 16) (r_x1 : ρ x1 = 13) (i_x2 : Rg (0) (63) (x2)) (i_x3 : Rg (0) (1) (x3)) (i_x4 : Rg (0) (95) (x4)) (i_x5 : Rg (0) (1) (x5)) (i_x6 : Rg (0) (63) (x6)) (i_x7 : Rg (0) (1) (x7)) (i_x8 : Rg (1) (7) (x8)) (i_x9 : Rg (0) (63) (x9)) (i_x10 : Rg (0) (24) (x10)) (i_x11 : Rg (0) (1) (x11)) (i_t0 : Rg (0) (1) (t0)) (hc_18 : C_18 ≤ x8.toInt) : Sat (sX15_leadBy_156 F k_18 h x0 x1 x2 x3 x4 x5 x6 x7 x8 x9 x10 x11 t0) (ZV ρ c) := by
  unfold sX15_leadBy_156 
  refine s_br (fun c_1 => ?_) (fun c_1 => ?_)
  · have _ := c_1
    have i_f_2 : Rg (0) (0) (x11) := rg_eq c_1 (rg_b rfl : Rg (0) (0) (0 : Int32))
    refine s_br (fun c_3 => ?_) (fun c_3 => ?_)
    · have _ := c_3
      have i_f_4 : Rg (0) (0) (t0) := rg_eq c_3 (rg_b rfl : Rg (0) (0) (0 : Int32))
      exact zX15_leadBy_195 hF @hk_18 o_x1 T r_x0 r_x1 i_x2 i_x3 i_x4 i_x5 i_x6 i_x7 i_x8 i_x10 hc_18
    · have _ := c_3
      have i_f_5 : Rg (1) (1) (t0) := rg_nlo c_3 i_t0 (rg_b rfl : Rg (0) (0) (0 : Int32))
      exact zX15_leadBy_168 hF @hk_18 (pmA_s hA rfl) o_x1 T r_x0 r_x1 i_x2 i_x3 i_x4 i_x5 i_x6 i_x7 i_x8 i_x9 i_x10 (rg_m i_f_2 (by decide)) hc_18
  · have _ := c_1
    have i_f_6 : Rg (1) (1) (x11) := rg_nlo c_1 i_x11 (rg_b rfl : Rg (0) (0) (0 : Int32))
    exact zX15_leadBy_168 hF @hk_18 (pmA_s hA rfl) o_x1 T r_x0 r_x1 i_x2 i_x3 i_x4 i_x5 i_x6 i_x7 i_x8 i_x9 i_x10 (rg_m i_f_6 (by decide)) hc_18
set_option maxRecDepth 20000 in
theorem zX15_leadBy_113 {ρ : Nat → Nat} {c : Cm} {F : Nat} {w_x1 : Nat} (hF : 700000 ≤ F) {k_18 : Hp → Nat → Nat → Int32 → Int32 → Int32 → Int32 → Int32 → Int32 → Int32 → Option (Hp)} {C_18 : Int} (hk_18 : ∀ {h : Hp} {x0 : Nat} {x1 : Nat} {x2 : Int32} {x3 : Int32} {x4 : Int32} {x5 : Int32} {x6 : Int32} {x7 : Int32} {x8 : Int32}, cw c x1 = w_x1 → TH ρ c h → ρ x0 = 16 → ρ x1 = 13 → Rg (0) (63) (x2) → Rg (0) (1) (x3) → Rg (0) (95) (x4) → Rg (0) (1) (x5) → Rg (0) (63) (x6) → Rg (0) (2) (x7) → Rg (1) (8) (x8) → C_18 < x8.toInt → Sat (k_18 h x0 x1 x2 x3 x4 x5 x6 x7 x8) (ZV ρ c)) (hA : pmA c [(87, 999), (88, 999), (89, 999)]) {h : Hp} {x0 : Nat} {x1 : Nat} {x2 : Int32} {x3 : Int32} {x4 : Int32} {x5 : Int32} {x6 : Int32} {x7 : Int32} {x8 : Int32} {x9 : Int32} {x10 : Int32} {t0 : Int32} (o_x1 : cw c x1 = w_x1) (T : TH ρ c h) (r_x0 : ρ x0 = 16) (r_x1 : ρ x1 = 13) (i_x2 : Rg (0) (63) (x2)) (i_x3 : Rg (0) (1) (x3)) (i_x4 : Rg (0) (95) (x4)) (i_x5 : Rg (0) (1) (x5)) (i_x6 : Rg (0) (63) (x6)) (i_x7 : Rg (0) (1) (x7)) (i_x8 : Rg (1) (7) (x8)) (i_x9 : Rg (0) (63) (x9)) (i_x10 : Rg (0) (24) (x10)) (i_t0 : Rg (0) (1) (t0)) (hc_18 : C_18 ≤ x8.toInt) : Sat (sX15_leadBy_113 F k_18 h x0 x1 x2 x3 x4 x5 x6 x7 x8 x9 x10 t0) (ZV ρ c) := by
  unfold sX15_leadBy_113 sX15_sideOf sX15_leadBy_140
  refine s_br (fun c_1 => ?_) (fun c_1 => ?_)
  · have _ := c_1
    have i_f_2 : Rg (0) (0) (x10) := rg_le1 c_1 i_x10 (rg_b rfl : Rg (0) (0) (0 : Int32))
    refine s_br (fun c_3 => ?_) (fun c_3 => ?_)
    · have _ := c_3
      have i_f_4 : Rg (0) (0) ((x6 &&& (2 : Int32))) := rg_eq c_3 (rg_b rfl : Rg (0) (0) (0 : Int32))
      exact zX15_leadBy_156 hF @hk_18 (pmA_s hA rfl) o_x1 T r_x0 r_x1 i_x2 i_x3 i_x4 i_x5 i_x6 i_x7 i_x8 i_x9 (rg_m i_f_2 (by decide)) i_t0 (rg_m (rg_b rfl : Rg (1) (1) ((1 : Int32))) (by decide)) hc_18
    · have _ := c_3
      have i_f_5 : Rg (1) (2) ((x6 &&& (2 : Int32))) := rg_nlo c_3 (rg_and (rg_b rfl : Rg (2) (2) ((2 : Int32))) (by decide) : Rg (0) (2) ((x6 &&& (2 : Int32)))) (rg_b rfl : Rg (0) (0) (0 : Int32))
      exact zX15_leadBy_156 hF @hk_18 (pmA_s hA rfl) o_x1 T r_x0 r_x1 i_x2 i_x3 i_x4 i_x5 i_x6 i_x7 i_x8 i_x9 (rg_m i_f_2 (by decide)) i_t0 (rg_m (rg_b rfl : Rg (0) (0) ((0 : Int32))) (by decide)) hc_18
  · have _ := c_1
    have i_f_6 : Rg (1) (24) (x10) := rg_lt2 (nle_lt c_1) (rg_b rfl : Rg (0) (0) (0 : Int32)) i_x10
    refine s_pu (fun o_3z e_7 => ?_)
    try dsimp only
    have i_o_3z : Rg (0) (1) (o_3z) := by rw [e_7]; exact (rg_and (rg_b rfl : Rg (1) (1) ((1 : Int32))) (by decide) : Rg (0) (1) ((x10 - (1 : Int32)) &&& (1 : Int32)))
    refine s_br (fun c_8 => ?_) (fun c_8 => ?_)
    · have _ := c_8
      exact zX15_leadBy_156 hF @hk_18 (pmA_s hA rfl) o_x1 T r_x0 r_x1 i_x2 i_x3 i_x4 i_x5 i_x6 i_x7 i_x8 i_x9 (rg_m i_f_6 (by decide)) i_t0 (rg_m (rg_b rfl : Rg (0) (0) ((0 : Int32))) (by decide)) hc_18
    · have _ := c_8
      refine s_br (fun c_9 => ?_) (fun c_9 => ?_)
      · have _ := c_9
        have i_f_10 : Rg (0) (0) ((x6 &&& (1 : Int32))) := rg_eq c_9 (rg_b rfl : Rg (0) (0) (0 : Int32))
        exact zX15_leadBy_156 hF @hk_18 (pmA_s hA rfl) o_x1 T r_x0 r_x1 i_x2 i_x3 i_x4 i_x5 i_x6 i_x7 i_x8 i_x9 (rg_m i_f_6 (by decide)) i_t0 (rg_m (rg_b rfl : Rg (1) (1) ((1 : Int32))) (by decide)) hc_18
      · have _ := c_9
        have i_f_11 : Rg (1) (1) ((x6 &&& (1 : Int32))) := rg_nlo c_9 (rg_and (rg_b rfl : Rg (1) (1) ((1 : Int32))) (by decide) : Rg (0) (1) ((x6 &&& (1 : Int32)))) (rg_b rfl : Rg (0) (0) (0 : Int32))
        exact zX15_leadBy_156 hF @hk_18 (pmA_s hA rfl) o_x1 T r_x0 r_x1 i_x2 i_x3 i_x4 i_x5 i_x6 i_x7 i_x8 i_x9 (rg_m i_f_6 (by decide)) i_t0 (rg_m (rg_b rfl : Rg (0) (0) ((0 : Int32))) (by decide)) hc_18
set_option maxRecDepth 20000 in
theorem zX15_leadBy_18 {ρ : Nat → Nat} {c : Cm} {F : Nat} {w_x1 : Nat} (hF : 700000 ≤ F) (hA : pmA c [(87, 999), (88, 999), (89, 999)]) : ∀ (f : Nat) {h : Hp} {x0 : Nat} {x1 : Nat} {x2 : Int32} {x3 : Int32} {x4 : Int32} {x5 : Int32} {x6 : Int32} {x7 : Int32} {x8 : Int32}, cw c x1 = w_x1 → TH ρ c h → ρ x0 = 16 → ρ x1 = 13 → Rg (0) (63) (x2) → Rg (0) (1) (x3) → Rg (0) (95) (x4) → Rg (0) (1) (x5) → Rg (0) (63) (x6) → Rg (0) (2) (x7) → Rg (1) (8) (x8) → (8 - x8.toInt).toNat < f → Sat (sX15_leadBy_18 F f h x0 x1 x2 x3 x4 x5 x6 x7 x8) (ZV ρ c) := by
  intro f
  induction f with
  | zero => intros; omega
  | succ f ih =>
    intro h x0 x1 x2 x3 x4 x5 x6 x7 x8 o_x1 T r_x0 r_x1 i_x2 i_x3 i_x4 i_x5 i_x6 i_x7 i_x8 hm
    rw [sX15_leadBy_18]
    unfold sX15_leadBy_216 sX15_leadBy_112
    obtain ⟨C_18, hC_18⟩ : ∃ C : Int, C = x8.toInt := ⟨_, rfl⟩
    have hk_18 : ∀ {h : Hp} {x0 : Nat} {x1 : Nat} {x2 : Int32} {x3 : Int32} {x4 : Int32} {x5 : Int32} {x6 : Int32} {x7 : Int32} {x8 : Int32}, cw c x1 = w_x1 → TH ρ c h → ρ x0 = 16 → ρ x1 = 13 → Rg (0) (63) (x2) → Rg (0) (1) (x3) → Rg (0) (95) (x4) → Rg (0) (1) (x5) → Rg (0) (63) (x6) → Rg (0) (2) (x7) → Rg (1) (8) (x8) → C_18 < x8.toInt → Sat (sX15_leadBy_18 F f h x0 x1 x2 x3 x4 x5 x6 x7 x8) (ZV ρ c) := by
      intro h' x0' x1' x2' x3' x4' x5' x6' x7' x8' o_x1' T' r_x0' r_x1' i_x2' i_x3' i_x4' i_x5' i_x6' i_x7' i_x8' hl
      exact ih o_x1' T' r_x0' r_x1' i_x2' i_x3' i_x4' i_x5' i_x6' i_x7' i_x8' (by have := i_x8'.1; have := i_x8'.2; omega)
    have hc_18 : C_18 ≤ x8.toInt := by omega
    obtain ⟨r_1, e_r_1, q_r_1⟩ := thR T r_x0 (k := 16) (i := 4) (k2 := 15) rfl (by decide)
    refine s_ref e_r_1 ?_
    obtain ⟨r_2, e_r_2, q_r_2⟩ := thR T q_r_1 (k := 15) (i := 8) (k2 := 78) rfl (by decide)
    refine s_ref e_r_2 ?_
    refine s_gd (by rw [thN T q_r_2 (k := 78) (n := 96) rfl (by decide)]; exact rg_inB (i_x4 : Rg (0) (95) (x4)) (by decide)) ?_
    refine s_br (fun c_1 => ?_) (fun c_1 => ?_)
    · have _ := c_1
      exact s_some (T)
    · have _ := c_1
      have i_f_2 : Rg (1) (7) (x8) := rg_le1 (nlt_le c_1) i_x8 (thI T q_r_2 (k := 78) rfl : Rg (0) (7) ((hI h r_2 x4.toNatClampNeg)))
      have i_f_3 : Rg (1) (7) ((hI h r_2 x4.toNatClampNeg)) := rg_le2 (nlt_le c_1) i_x8 (thI T q_r_2 (k := 78) rfl : Rg (0) (7) ((hI h r_2 x4.toNatClampNeg)))
      refine s_br (fun c_4 => ?_) (fun c_4 => ?_)
      · have _ := c_4
        have i_f_5 : Rg (2) (2) (x7) := rg_le2 c_4 (rg_b rfl : Rg (2) (2) ((2 : Int32))) i_x7
        exact s_some (T)
      · have _ := c_4
        have i_f_6 : Rg (0) (1) (x7) := rg_lt1 (nle_lt c_4) i_x7 (rg_b rfl : Rg (2) (2) ((2 : Int32)))
        refine s_dI0 (zX15_onward hF T r_x0 i_x2 (rg_m i_f_2 (by decide))) (fun o_6 eb_o_6 e_o_6 i_o_6 => ?_)
        have T_7 := th_eq e_o_6 T
        refine s_br (fun c_8 => ?_) (fun c_8 => ?_)
        · have _ := c_8
          have i_f_9 : Rg (-1) (-1) (o_6.1) := rg_eq c_8 (rg_b rfl : Rg (-1) (-1) ((- 1 : Int32)))
          exact s_some (T_7)
        · have _ := c_8
          have i_f_10 : Rg (0) (63) (o_6.1) := rg_nlo c_8 i_o_6 (rg_b rfl : Rg (-1) (-1) ((- 1 : Int32)))
          obtain ⟨r_8, e_r_8, q_r_8⟩ := thR T_7 r_x1 (k := 13) (i := 0) (k2 := 62) rfl (by decide)
          refine s_ref e_r_8 ?_
          refine s_gd (by rw [thN T_7 q_r_8 (k := 62) (n := 64) rfl (by decide)]; exact rg_inB (i_f_10 : Rg (0) (63) (o_6.1)) (by decide)) ?_
          refine s_q (fun v_10 e_11 => ?_)
          have i_v_10 : Rg (0) (24) (v_10) := by rw [e_11]; exact (thI T_7 q_r_8 (k := 62) rfl : Rg (0) (24) (hI o_6.2 r_8 o_6.1.toNatClampNeg))
          refine s_dI0 (zX15_isFree hF T_7 i_x6 i_f_6) (fun o_11 eb_o_11 e_o_11 i_o_11 => ?_)
          have T_12 := th_eq e_o_11 T_7
          refine s_br (fun c_13 => ?_) (fun c_13 => ?_)
          · have _ := c_13
            have i_f_14 : Rg (0) (0) (o_11.1) := rg_eq c_13 (rg_b rfl : Rg (0) (0) (0 : Int32))
            exact zX15_leadBy_195 hF @hk_18 o_x1 T_12 r_x0 r_x1 i_x2 i_x3 i_x4 i_x5 i_x6 i_f_6 i_f_2 i_v_10 hc_18
          · have _ := c_13
            have i_f_15 : Rg (1) (1) (o_11.1) := rg_nlo c_13 i_o_11 (rg_b rfl : Rg (0) (0) (0 : Int32))
            obtain ⟨r_13, e_r_13, q_r_13⟩ := thR T_12 r_x0 (k := 16) (i := 25) (k2 := 87) rfl (by decide)
            refine s_ref e_r_13 ?_
            refine s_gd (by rw [thN T_12 q_r_13 (k := 87) (n := 64) rfl (by decide)]; exact rg_inB (i_f_10 : Rg (0) (63) (o_6.1)) (by decide)) ?_
            refine s_br (fun c_16 => ?_) (fun c_16 => ?_)
            · have _ := c_16
              have i_f_17 : Rg (-1) (-1) ((hI o_11.2 r_13 o_6.1.toNatClampNeg)) := rg_eq c_16 (rg_b rfl : Rg (-1) (-1) ((- 1 : Int32)))
              refine s_br (fun c_18 => ?_) (fun c_18 => ?_)
              · have _ := c_18
                have i_f_19 : Rg (0) (0) (x5) := rg_eq c_18 (rg_b rfl : Rg (0) (0) (0 : Int32))
                exact zX15_leadBy_113 hF @hk_18 (pmA_s hA rfl) o_x1 T_12 r_x0 r_x1 i_x2 i_x3 i_x4 (rg_m i_f_19 (by decide)) i_x6 i_f_6 i_f_2 i_f_10 i_v_10 (rg_m (rg_b rfl : Rg (0) (0) ((0 : Int32))) (by decide)) hc_18
              · have _ := c_18
                have i_f_20 : Rg (1) (1) (x5) := rg_nlo c_18 i_x5 (rg_b rfl : Rg (0) (0) (0 : Int32))
                refine s_br (fun c_21 => ?_) (fun c_21 => ?_)
                · have _ := c_21
                  have i_f_22 : Rg (0) (0) ((x6 &&& (32 : Int32))) := rg_eq c_21 (rg_b rfl : Rg (0) (0) (0 : Int32))
                  exact zX15_leadBy_113 hF @hk_18 (pmA_s hA rfl) o_x1 T_12 r_x0 r_x1 i_x2 i_x3 i_x4 (rg_m i_f_20 (by decide)) i_x6 i_f_6 i_f_2 i_f_10 i_v_10 (rg_m (rg_b rfl : Rg (0) (0) ((0 : Int32))) (by decide)) hc_18
                · have _ := c_21
                  have i_f_23 : Rg (1) (32) ((x6 &&& (32 : Int32))) := rg_nlo c_21 (rg_and (rg_b rfl : Rg (32) (32) ((32 : Int32))) (by decide) : Rg (0) (32) ((x6 &&& (32 : Int32)))) (rg_b rfl : Rg (0) (0) (0 : Int32))
                  refine s_dI0 (zX15_isGoneOver hF T_12 r_x0 r_x1 i_f_10) (fun o_18 eb_o_18 e_o_18 i_o_18 => ?_)
                  have T_24 := th_eq e_o_18 T_12
                  refine s_br (fun c_25 => ?_) (fun c_25 => ?_)
                  · have _ := c_25
                    have i_f_26 : Rg (0) (0) (o_18.1) := rg_eq c_25 (rg_b rfl : Rg (0) (0) (0 : Int32))
                    exact zX15_leadBy_113 hF @hk_18 (pmA_s hA rfl) o_x1 T_24 r_x0 r_x1 i_x2 i_x3 i_x4 (rg_m i_f_20 (by decide)) i_x6 i_f_6 i_f_2 i_f_10 i_v_10 (rg_m (rg_b rfl : Rg (0) (0) ((0 : Int32))) (by decide)) hc_18
                  · have _ := c_25
                    have i_f_27 : Rg (1) (1) (o_18.1) := rg_nlo c_25 i_o_18 (rg_b rfl : Rg (0) (0) (0 : Int32))
                    exact zX15_leadBy_113 hF @hk_18 (pmA_s hA rfl) o_x1 T_24 r_x0 r_x1 i_x2 i_x3 i_x4 (rg_m i_f_20 (by decide)) i_x6 i_f_6 i_f_2 i_f_10 i_v_10 (rg_m (rg_b rfl : Rg (1) (1) ((1 : Int32))) (by decide)) hc_18
            · have _ := c_16
              have i_f_28 : Rg (0) (95) ((hI o_11.2 r_13 o_6.1.toNatClampNeg)) := rg_nlo c_16 (thI T_12 q_r_13 (k := 87) rfl : Rg (-1) (95) ((hI o_11.2 r_13 o_6.1.toNatClampNeg))) (rg_b rfl : Rg (-1) (-1) ((- 1 : Int32)))
              exact zX15_leadBy_195 hF @hk_18 o_x1 T_12 r_x0 r_x1 i_x2 i_x3 i_x4 i_x5 i_x6 i_f_6 i_f_2 i_v_10 hc_18
set_option maxRecDepth 20000 in
theorem zX15_leadBy {ρ : Nat → Nat} {c : Cm} {F : Nat} {w_x1 : Nat} (hF : 700000 ≤ F) (hA : pmA c [(87, 999), (88, 999), (89, 999)]) {h : Hp} {x0 : Nat} {x1 : Nat} {x2 : Int32} {x3 : Int32} {x4 : Int32} {x5 : Int32} (o_x1 : cw c x1 = w_x1) (T : TH ρ c h) (r_x0 : ρ x0 = 16) (r_x1 : ρ x1 = 13) (i_x2 : Rg (0) (63) (x2)) (i_x3 : Rg (0) (1) (x3)) (i_x4 : Rg (0) (95) (x4)) (i_x5 : Rg (0) (1) (x5)) : Sat (sX15_leadBy F h x0 x1 x2 x3 x4 x5) (ZV ρ c) := by
  unfold sX15_leadBy 
  obtain ⟨r_1, e_r_1, q_r_1⟩ := thR T r_x0 (k := 16) (i := 4) (k2 := 15) rfl (by decide)
  refine s_ref e_r_1 ?_
  obtain ⟨r_2, e_r_2, q_r_2⟩ := thR T q_r_1 (k := 15) (i := 5) (k2 := 75) rfl (by decide)
  refine s_ref e_r_2 ?_
  refine s_gd (by rw [thN T q_r_2 (k := 75) (n := 96) rfl (by decide)]; exact rg_inB (i_x4 : Rg (0) (95) (x4)) (by decide)) ?_
  refine s_q (fun v_4 e_1 => ?_)
  have i_v_4 : Rg (0) (63) (v_4) := by rw [e_1]; exact (thI T q_r_2 (k := 75) rfl : Rg (0) (63) (hI h r_2 x4.toNatClampNeg))
  have m_2 : Rg (1) (8) ((1 : Int32)) := (rg_m (rg_b rfl : Rg (1) (1) ((1 : Int32))) (by decide))
  exact zX15_leadBy_18 hF (pmA_s hA rfl) F o_x1 T r_x0 r_x1 i_x2 i_x3 i_x4 i_x5 i_v_4 (rg_m (rg_b rfl : Rg (0) (0) ((0 : Int32))) (by decide)) (rg_m (rg_b rfl : Rg (1) (1) ((1 : Int32))) (by decide)) (by have := m_2.1; have := m_2.2; omega)
set_option maxRecDepth 20000 in
theorem zX15_lead_78 {ρ : Nat → Nat} {c : Cm} {F : Nat} {w_x1 : Nat} (hF : 700000 ≤ F) {k_44 : Hp → Nat → Nat → Int32 → Int32 → Int32 → Int32 → Int32 → Option (Hp)} {C_44 : Int} (hk_44 : ∀ {h : Hp} {x0 : Nat} {x1 : Nat} {x2 : Int32} {x3 : Int32} {x4 : Int32} {x5 : Int32} {x6 : Int32}, cw c x1 = w_x1 → TH ρ c h → ρ x0 = 16 → ρ x1 = 13 → Rg (0) (63) (x2) → Rg (0) (1) (x3) → Rg (1) (24) (x4) → Rg (0) (1) (x5) → Rg (0) (8) (x6) → C_44 < x6.toInt → Sat (k_44 h x0 x1 x2 x3 x4 x5 x6) (ZV ρ c)) (hA : pmA c [(87, 999), (88, 999), (89, 999), (16, 23), (16, 24)]) : ∀ (f : Nat) {h : Hp} {x0 : Nat} {x1 : Nat} {x2 : Int32} {x3 : Int32} {x4 : Int32} {x5 : Int32} {x6 : Int32} {x7 : Int32} {x8 : Int32}, cw c x1 = w_x1 → TH ρ c h → ρ x0 = 16 → ρ x1 = 13 → Rg (0) (63) (x2) → Rg (0) (1) (x3) → Rg (1) (24) (x4) → Rg (0) (1) (x5) → Rg (0) (7) (x6) → Rg (0) (95) (x7) → Rg (0) (8) (x8) → C_44 ≤ x6.toInt → (8 - x8.toInt).toNat < f → Sat (sX15_lead_78 F k_44 f h x0 x1 x2 x3 x4 x5 x6 x7 x8) (ZV ρ c) := by
  intro f
  induction f with
  | zero => intros; omega
  | succ f ih =>
    intro h x0 x1 x2 x3 x4 x5 x6 x7 x8 o_x1 T r_x0 r_x1 i_x2 i_x3 i_x4 i_x5 i_x6 i_x7 i_x8 hc_44 hm
    rw [sX15_lead_78]
    unfold sX15_lead_127 sX15_lead_121
    obtain ⟨C_78, hC_78⟩ : ∃ C : Int, C = x8.toInt := ⟨_, rfl⟩
    have hk_78 : ∀ {h : Hp} {x0 : Nat} {x1 : Nat} {x2 : Int32} {x3 : Int32} {x4 : Int32} {x5 : Int32} {x6 : Int32} {x7 : Int32} {x8 : Int32}, cw c x1 = w_x1 → TH ρ c h → ρ x0 = 16 → ρ x1 = 13 → Rg (0) (63) (x2) → Rg (0) (1) (x3) → Rg (1) (24) (x4) → Rg (0) (1) (x5) → Rg (0) (7) (x6) → Rg (0) (95) (x7) → Rg (0) (8) (x8) → C_44 ≤ x6.toInt → C_78 < x8.toInt → Sat (sX15_lead_78 F k_44 f h x0 x1 x2 x3 x4 x5 x6 x7 x8) (ZV ρ c) := by
      intro h' x0' x1' x2' x3' x4' x5' x6' x7' x8' o_x1' T' r_x0' r_x1' i_x2' i_x3' i_x4' i_x5' i_x6' i_x7' i_x8' hc_44' hl
      exact ih o_x1' T' r_x0' r_x1' i_x2' i_x3' i_x4' i_x5' i_x6' i_x7' i_x8' hc_44' (by have := i_x8'.1; have := i_x8'.2; omega)
    have hc_78 : C_78 ≤ x8.toInt := by omega
    refine s_br (fun c_1 => ?_) (fun c_1 => ?_)
    · have _ := c_1
      have i_f_2 : Rg (8) (8) (x8) := rg_le2 c_1 (rg_b rfl : Rg (8) (8) ((8 : Int32))) i_x8
      refine s_q (fun v_1q1 e_3 => ?_)
      have i_v_1q1 : Rg (1) (8) (v_1q1) := by rw [e_3]; exact (rg_add i_x6 (rg_b rfl : Rg (1) (1) ((1 : Int32))) (by decide) : Rg (1) (8) (x6 + (1 : Int32)))
      have m_4 : (v_1q1).toInt = x6.toInt + 1 := by rw [e_3]; exact rg_inc i_x6 (by decide)
      exact hk_44 o_x1 T r_x0 r_x1 i_x2 i_x3 i_x4 i_x5 (rg_m i_v_1q1 (by decide)) (by have := hc_44; omega)
    · have _ := c_1
      have i_f_5 : Rg (0) (7) (x8) := rg_lt1 (nle_lt c_1) i_x8 (rg_b rfl : Rg (8) (8) ((8 : Int32)))
      refine s_dI0 (zX15_isFrom hF T r_x0 i_x7 i_x2 i_x5) (fun o_2 eb_o_2 e_o_2 i_o_2 => ?_)
      have T_6 := th_eq e_o_2 T
      refine s_br (fun c_7 => ?_) (fun c_7 => ?_)
      · have _ := c_7
        have i_f_8 : Rg (0) (0) (o_2.1) := rg_eq c_7 (rg_b rfl : Rg (0) (0) (0 : Int32))
        refine s_q (fun v_1q2 e_9 => ?_)
        have i_v_1q2 : Rg (1) (8) (v_1q2) := by rw [e_9]; exact (rg_add i_x6 (rg_b rfl : Rg (1) (1) ((1 : Int32))) (by decide) : Rg (1) (8) (x6 + (1 : Int32)))
        have m_10 : (v_1q2).toInt = x6.toInt + 1 := by rw [e_9]; exact rg_inc i_x6 (by decide)
        exact hk_44 o_x1 T_6 r_x0 r_x1 i_x2 i_x3 i_x4 i_x5 (rg_m i_v_1q2 (by decide)) (by have := hc_44; omega)
      · have _ := c_7
        have i_f_11 : Rg (1) (1) (o_2.1) := rg_nlo c_7 i_o_2 (rg_b rfl : Rg (0) (0) (0 : Int32))
        refine s_cI (zX15_hasVector hF (pmA_s hA rfl) T_6 r_x0 i_x7 i_f_5 i_x5) (fun o_4 T_12 i_o_4 => ?_)
        refine s_br (fun c_13 => ?_) (fun c_13 => ?_)
        · have _ := c_13
          have i_f_14 : Rg (0) (0) (o_4.1) := rg_eq c_13 (rg_b rfl : Rg (0) (0) (0 : Int32))
          refine s_q (fun v_1q3 e_15 => ?_)
          have i_v_1q3 : Rg (1) (8) (v_1q3) := by rw [e_15]; exact (rg_add i_f_5 (rg_b rfl : Rg (1) (1) ((1 : Int32))) (by decide) : Rg (1) (8) (x8 + (1 : Int32)))
          have m_16 : (v_1q3).toInt = x8.toInt + 1 := by rw [e_15]; exact rg_inc i_f_5 (by decide)
          exact hk_78 o_x1 T_12 r_x0 r_x1 i_x2 i_x3 i_x4 i_x5 i_x6 i_x7 (rg_m i_v_1q3 (by decide)) hc_44 (by have := hc_78; omega)
        · have _ := c_13
          have i_f_17 : Rg (1) (1) (o_4.1) := rg_nlo c_13 i_o_4 (rg_b rfl : Rg (0) (0) (0 : Int32))
          refine s_cV (zX15_leadBy hF (pmA_s hA rfl) o_x1 T_12 r_x0 r_x1 i_x2 i_x5 i_x7 i_x3) (fun o_6 T_18 => ?_)
          refine s_q (fun v_1q4 e_19 => ?_)
          have i_v_1q4 : Rg (1) (8) (v_1q4) := by rw [e_19]; exact (rg_add i_f_5 (rg_b rfl : Rg (1) (1) ((1 : Int32))) (by decide) : Rg (1) (8) (x8 + (1 : Int32)))
          have m_20 : (v_1q4).toInt = x8.toInt + 1 := by rw [e_19]; exact rg_inc i_f_5 (by decide)
          exact hk_78 o_x1 T_18 r_x0 r_x1 i_x2 i_x3 i_x4 i_x5 i_x6 i_x7 (rg_m i_v_1q4 (by decide)) hc_44 (by have := hc_78; omega)
set_option maxRecDepth 20000 in
theorem zX15_lead_44 {ρ : Nat → Nat} {c : Cm} {F : Nat} {w_x1 : Nat} (hF : 700000 ≤ F) (hA : pmA c [(87, 999), (88, 999), (89, 999), (16, 23), (16, 24)]) : ∀ (f : Nat) {h : Hp} {x0 : Nat} {x1 : Nat} {x2 : Int32} {x3 : Int32} {x4 : Int32} {x5 : Int32} {x6 : Int32}, cw c x1 = w_x1 → TH ρ c h → ρ x0 = 16 → ρ x1 = 13 → Rg (0) (63) (x2) → Rg (0) (1) (x3) → Rg (1) (24) (x4) → Rg (0) (1) (x5) → Rg (0) (8) (x6) → (8 - x6.toInt).toNat < f → Sat (sX15_lead_44 F f h x0 x1 x2 x3 x4 x5 x6) (ZV ρ c) := by
  intro f
  induction f with
  | zero => intros; omega
  | succ f ih =>
    intro h x0 x1 x2 x3 x4 x5 x6 o_x1 T r_x0 r_x1 i_x2 i_x3 i_x4 i_x5 i_x6 hm
    rw [sX15_lead_44]
    unfold sX15_manOf
    obtain ⟨C_44, hC_44⟩ : ∃ C : Int, C = x6.toInt := ⟨_, rfl⟩
    have hk_44 : ∀ {h : Hp} {x0 : Nat} {x1 : Nat} {x2 : Int32} {x3 : Int32} {x4 : Int32} {x5 : Int32} {x6 : Int32}, cw c x1 = w_x1 → TH ρ c h → ρ x0 = 16 → ρ x1 = 13 → Rg (0) (63) (x2) → Rg (0) (1) (x3) → Rg (1) (24) (x4) → Rg (0) (1) (x5) → Rg (0) (8) (x6) → C_44 < x6.toInt → Sat (sX15_lead_44 F f h x0 x1 x2 x3 x4 x5 x6) (ZV ρ c) := by
      intro h' x0' x1' x2' x3' x4' x5' x6' o_x1' T' r_x0' r_x1' i_x2' i_x3' i_x4' i_x5' i_x6' hl
      exact ih o_x1' T' r_x0' r_x1' i_x2' i_x3' i_x4' i_x5' i_x6' (by have := i_x6'.1; have := i_x6'.2; omega)
    have hc_44 : C_44 ≤ x6.toInt := by omega
    obtain ⟨r_1, e_r_1, q_r_1⟩ := thR T r_x0 (k := 16) (i := 4) (k2 := 15) rfl (by decide)
    refine s_ref e_r_1 ?_
    obtain ⟨r_2, e_r_2, q_r_2⟩ := thR T q_r_1 (k := 15) (i := 4) (k2 := 74) rfl (by decide)
    refine s_ref e_r_2 ?_
    refine s_pu (fun o_3z e_1 => ?_)
    try dsimp only
    have i_o_3z : Rg (0) (11) (o_3z) := by rw [e_1]; exact (rg_shrk 1 (by decide) (rg_sub i_x4 (rg_b rfl : Rg (1) (1) ((1 : Int32))) (by decide) : Rg (0) (23) ((x4 - (1 : Int32)))) (by decide) : Rg (0) (11) ((x4 - (1 : Int32)) >>> ((1 : Int32) &&& 31)))
    refine s_gd (by rw [thN T q_r_2 (k := 74) (n := 12) rfl (by decide)]; exact rg_inB (i_o_3z : Rg (0) (11) (o_3z)) (by decide)) ?_
    refine s_br (fun c_2 => ?_) (fun c_2 => ?_)
    · have _ := c_2
      exact s_some (T)
    · have _ := c_2
      have i_f_3 : Rg (0) (7) (x6) := rg_lt1 (nle_lt c_2) i_x6 (thI T q_r_2 (k := 74) rfl : Rg (0) (8) ((hI h r_2 o_3z.toNatClampNeg)))
      have i_f_4 : Rg (1) (8) ((hI h r_2 o_3z.toNatClampNeg)) := rg_lt2 (nle_lt c_2) i_x6 (thI T q_r_2 (k := 74) rfl : Rg (0) (8) ((hI h r_2 o_3z.toNatClampNeg)))
      refine s_pu (fun o_6z e_5 => ?_)
      try dsimp only
      have i_o_6z : Rg (0) (11) (o_6z) := by rw [e_5]; exact (rg_shrk 1 (by decide) (rg_sub i_x4 (rg_b rfl : Rg (1) (1) ((1 : Int32))) (by decide) : Rg (0) (23) ((x4 - (1 : Int32)))) (by decide) : Rg (0) (11) ((x4 - (1 : Int32)) >>> ((1 : Int32) &&& 31)))
      refine s_q (fun v_7 e_6 => ?_)
      have i_v_7 : Rg (0) (95) (v_7) := by rw [e_6]; exact (rg_add (rg_mulc' (rg_b rfl : Rg (8) (8) ((8 : Int32))) i_o_6z (by decide) : Rg (0) (88) (((8 : Int32) * o_6z))) i_f_3 (by decide) : Rg (0) (95) (((8 : Int32) * o_6z) + x6))
      have m_7 : Rg (0) (8) ((0 : Int32)) := (rg_m (rg_b rfl : Rg (0) (0) ((0 : Int32))) (by decide))
      exact zX15_lead_78 hF @hk_44 (pmA_s hA rfl) F o_x1 T r_x0 r_x1 i_x2 i_x3 i_x4 i_x5 i_f_3 i_v_7 (rg_m (rg_b rfl : Rg (0) (0) ((0 : Int32))) (by decide)) hc_44 (by have := m_7.1; have := m_7.2; omega)
set_option maxRecDepth 20000 in
theorem zX15_lead_18 {ρ : Nat → Nat} {c : Cm} {F : Nat} {w_x1 : Nat} (hF : 700000 ≤ F) (hA : pmA c [(87, 999), (88, 999), (89, 999), (16, 23), (16, 24)]) : ∀ (f : Nat) {h : Hp} {x0 : Nat} {x1 : Nat} {x2 : Int32} {x3 : Int32} {x4 : Int32} {x5 : Int32} {x6 : Int32}, cw c x1 = w_x1 → TH ρ c h → ρ x0 = 16 → ρ x1 = 13 → Rg (0) (63) (x2) → Rg (0) (1) (x3) → Rg (1) (24) (x4) → Rg (0) (1) (x5) → Rg (0) (64) (x6) → (64 - x6.toInt).toNat < f → Sat (sX15_lead_18 F f h x0 x1 x2 x3 x4 x5 x6) (ZV ρ c) := by
  intro f
  induction f with
  | zero => intros; omega
  | succ f ih =>
    intro h x0 x1 x2 x3 x4 x5 x6 o_x1 T r_x0 r_x1 i_x2 i_x3 i_x4 i_x5 i_x6 hm
    rw [sX15_lead_18]
    obtain ⟨C_18, hC_18⟩ : ∃ C : Int, C = x6.toInt := ⟨_, rfl⟩
    have hk_18 : ∀ {h : Hp} {x0 : Nat} {x1 : Nat} {x2 : Int32} {x3 : Int32} {x4 : Int32} {x5 : Int32} {x6 : Int32}, cw c x1 = w_x1 → TH ρ c h → ρ x0 = 16 → ρ x1 = 13 → Rg (0) (63) (x2) → Rg (0) (1) (x3) → Rg (1) (24) (x4) → Rg (0) (1) (x5) → Rg (0) (64) (x6) → C_18 < x6.toInt → Sat (sX15_lead_18 F f h x0 x1 x2 x3 x4 x5 x6) (ZV ρ c) := by
      intro h' x0' x1' x2' x3' x4' x5' x6' o_x1' T' r_x0' r_x1' i_x2' i_x3' i_x4' i_x5' i_x6' hl
      exact ih o_x1' T' r_x0' r_x1' i_x2' i_x3' i_x4' i_x5' i_x6' (by have := i_x6'.1; have := i_x6'.2; omega)
    have hc_18 : C_18 ≤ x6.toInt := by omega
    refine s_br (fun c_1 => ?_) (fun c_1 => ?_)
    · have _ := c_1
      have i_f_2 : Rg (9) (64) (x6) := rg_le2 c_1 (thI T r_x0 (k := 16) (i := 13) rfl : Rg (9) (64) ((hI h x0 13))) i_x6
      have m_3 : Rg (0) (8) ((0 : Int32)) := (rg_m (rg_b rfl : Rg (0) (0) ((0 : Int32))) (by decide))
      exact zX15_lead_44 hF (pmA_s hA rfl) F o_x1 T r_x0 r_x1 i_x2 i_x3 i_x4 i_x5 (rg_m (rg_b rfl : Rg (0) (0) ((0 : Int32))) (by decide)) (by have := m_3.1; have := m_3.2; omega)
    · have _ := c_1
      have i_f_4 : Rg (0) (63) (x6) := rg_lt1 (nle_lt c_1) i_x6 (thI T r_x0 (k := 16) (i := 13) rfl : Rg (9) (64) ((hI h x0 13)))
      obtain ⟨r_2, e_r_2, q_r_2⟩ := thR T r_x0 (k := 16) (i := 25) (k2 := 87) rfl (by decide)
      refine s_ref e_r_2 ?_
      refine s_gd (by rw [thN T q_r_2 (k := 87) (n := 64) rfl (by decide)]; exact rg_inB (i_f_4 : Rg (0) (63) (x6)) (by decide)) ?_
      refine s_hq (th_wI T q_r_2 (k := 87) (lo := (-1)) (hi := (95)) rfl ((rg_m (rg_b rfl : Rg (-1) (-1) ((- 1 : Int32))) (by decide)) : Rg (-1) (95) ((- 1 : Int32))) (by decide) (by decide) (pm_a hA rfl)) (fun h_4 T_5 w_6 => ?_)
      refine s_q (fun v_5 e_7 => ?_)
      have i_v_5 : Rg (1) (64) (v_5) := by rw [e_7]; exact (rg_add i_f_4 (rg_b rfl : Rg (1) (1) ((1 : Int32))) (by decide) : Rg (1) (64) (x6 + (1 : Int32)))
      have m_8 : (v_5).toInt = x6.toInt + 1 := by rw [e_7]; exact rg_inc i_f_4 (by decide)
      exact hk_18 o_x1 T_5 r_x0 r_x1 i_x2 i_x3 i_x4 i_x5 (rg_m i_v_5 (by decide)) (by have := hc_18; omega)
set_option maxRecDepth 20000 in
theorem zX15_lead {ρ : Nat → Nat} {c : Cm} {F : Nat} {w_x1 : Nat} (hF : 700000 ≤ F) (hA : pmA c [(87, 999), (88, 999), (89, 999), (16, 23), (16, 24)]) {h : Hp} {x0 : Nat} {x1 : Nat} {x2 : Int32} {x3 : Int32} (o_x1 : cw c x1 = w_x1) (T : TH ρ c h) (r_x0 : ρ x0 = 16) (r_x1 : ρ x1 = 13) (i_x2 : Rg (0) (63) (x2)) (i_x3 : Rg (0) (1) (x3)) (ph0 : ∀ r, hR h x1 0 = some r → Rg (1) (24) (hI h r x2.toNatClampNeg)) : Sat (sX15_lead F h x0 x1 x2 x3) (ZV ρ c) := by
  unfold sX15_lead sX15_sideOf
  obtain ⟨r_1, e_r_1, q_r_1⟩ := thR T r_x1 (k := 13) (i := 0) (k2 := 62) rfl (by decide)
  refine s_ref e_r_1 ?_
  refine s_gd (by rw [thN T q_r_1 (k := 62) (n := 64) rfl (by decide)]; exact rg_inB (i_x2 : Rg (0) (63) (x2)) (by decide)) ?_
  refine s_q (fun v_3 e_1 => ?_)
  have i_v_3 : Rg (1) (24) (v_3) := by rw [e_1]; exact (ph0 r_1 e_r_1)
  refine s_pu (fun o_4z e_2 => ?_)
  try dsimp only
  have i_o_4z : Rg (0) (1) (o_4z) := by rw [e_2]; exact (rg_and (rg_b rfl : Rg (1) (1) ((1 : Int32))) (by decide) : Rg (0) (1) ((v_3 - (1 : Int32)) &&& (1 : Int32)))
  have m_3 : Rg (0) (64) ((0 : Int32)) := (rg_m (rg_b rfl : Rg (0) (0) ((0 : Int32))) (by decide))
  exact zX15_lead_18 hF (pmA_s hA rfl) F o_x1 T r_x0 r_x1 i_x2 i_x3 i_v_3 i_o_4z (rg_m (rg_b rfl : Rg (0) (0) ((0 : Int32))) (by decide)) (by have := m_3.1; have := m_3.2; omega)
set_option maxRecDepth 20000 in
theorem zX15_isOpen_5 {ρ : Nat → Nat} {c : Cm} {h0 : Hp} {F : Nat} (hF : 700000 ≤ F) : ∀ (f : Nat) {h : Hp} {x0 : Nat} {x2 : Int32} {x3 : Int32} {x4 : Int32}, h = h0 → TH ρ c h → ρ x0 = 13 → Rg (0) (63) (x2) → Rg (-1) (1) (x3) → Rg (-1) (64) (x4) → ((x3.toInt = 1 ∧ 1 ≤ x4.toInt ∧ x4.toInt ≤ x2.toInt) ∨ (x3.toInt = -1 ∧ x2.toInt ≤ x4.toInt ∧ x4.toInt ≤ 62)) → ((((x2.toInt - x4.toInt).natAbs : Int)) - (0)).toNat < f → Sat (sX15_isOpen_5 F f h x0 x2 x3 x4) (ZI0 h0 (0) (1)) := by
  intro f
  induction f with
  | zero => intros; omega
  | succ f ih =>
    intro h x0 x2 x3 x4 E T r_x0 i_x2 i_x3 i_x4 io hm
    rw [sX15_isOpen_5]
    obtain ⟨C_5, hC_5⟩ : ∃ C : Int, C = (((x2.toInt - x4.toInt).natAbs : Int)) := ⟨_, rfl⟩
    have hk_5 : ∀ {h : Hp} {x0 : Nat} {x2 : Int32} {x3 : Int32} {x4 : Int32}, h = h0 → TH ρ c h → ρ x0 = 13 → Rg (0) (63) (x2) → Rg (-1) (1) (x3) → Rg (-1) (64) (x4) → ((x3.toInt = 1 ∧ 1 ≤ x4.toInt ∧ x4.toInt ≤ x2.toInt) ∨ (x3.toInt = -1 ∧ x2.toInt ≤ x4.toInt ∧ x4.toInt ≤ 62)) → (0 ≤ (((x2.toInt - x4.toInt).natAbs : Int)) ∧ (((x2.toInt - x4.toInt).natAbs : Int)) < C_5) → Sat (sX15_isOpen_5 F f h x0 x2 x3 x4) (ZI0 h0 (0) (1)) := by
      intro h' x0' x2' x3' x4' E' T' r_x0' i_x2' i_x3' i_x4' io' hl
      exact ih E' T' r_x0' i_x2' i_x3' i_x4' io' (by omega)
    have hc_5 : (0 ≤ (((x2.toInt - x4.toInt).natAbs : Int)) ∧ (((x2.toInt - x4.toInt).natAbs : Int)) ≤ C_5) := (by have := (i_x2 : Rg (0) (63) (x2)).1; have := (i_x2 : Rg (0) (63) (x2)).2; have := (i_x4 : Rg (-1) (64) (x4)).1; have := (i_x4 : Rg (-1) (64) (x4)).2; have := (i_x3 : Rg (-1) (1) (x3)).1; have := (i_x3 : Rg (-1) (1) (x3)).2; omega)
    refine s_br (fun c_1 => ?_) (fun c_1 => ?_)
    · have _ := c_1
      have i_f_2 : Rg (0) (63) (x4) := rg_eq c_1 i_x2
      exact s_some ⟨E, (rg_m (rg_b rfl : Rg (1) (1) ((1 : Int32))) (by decide))⟩
    · have _ := c_1
      obtain ⟨r_2, e_r_2, q_r_2⟩ := thR T r_x0 (k := 13) (i := 0) (k2 := 62) rfl (by decide)
      refine s_ref e_r_2 ?_
      have og_3 : Rg (0) (63) (x4) := ⟨(by have := (i_x4 : Rg (-1) (64) (x4)).1; have := (i_x4 : Rg (-1) (64) (x4)).2; have := (i_x2 : Rg (0) (63) (x2)).1; have := (i_x2 : Rg (0) (63) (x2)).2; have := (i_x3 : Rg (-1) (1) (x3)).1; have := (i_x3 : Rg (-1) (1) (x3)).2; have := ne_i c_1; omega), (by have := (i_x4 : Rg (-1) (64) (x4)).1; have := (i_x4 : Rg (-1) (64) (x4)).2; have := (i_x2 : Rg (0) (63) (x2)).1; have := (i_x2 : Rg (0) (63) (x2)).2; have := (i_x3 : Rg (-1) (1) (x3)).1; have := (i_x3 : Rg (-1) (1) (x3)).2; have := ne_i c_1; omega)⟩
      refine s_gd (by rw [thN T q_r_2 (k := 62) (n := 64) rfl (by decide)]; exact rg_inB (og_3 : Rg (0) (63) (x4)) (by decide)) ?_
      refine s_br (fun c_4 => ?_) (fun c_4 => ?_)
      · have _ := c_4
        have i_f_5 : Rg (0) (0) ((hI h r_2 x4.toNatClampNeg)) := rg_le1 c_4 (thI T q_r_2 (k := 62) rfl : Rg (0) (24) ((hI h r_2 x4.toNatClampNeg))) (rg_b rfl : Rg (0) (0) (0 : Int32))
        refine s_q (fun v_5 e_6 => ?_)
        have i_v_5 : Rg (-1) (64) (v_5) := by rw [e_6]; exact (rg_add og_3 i_x3 (by decide) : Rg (-1) (64) (x4 + x3))
        exact hk_5 E T r_x0 i_x2 i_x3 i_v_5 (show ((x3).toInt = 1 ∧ 1 ≤ (v_5).toInt ∧ (v_5).toInt ≤ (x2).toInt) ∨ ((x3).toInt = -1 ∧ (x2).toInt ≤ (v_5).toInt ∧ (v_5).toInt ≤ 62) from (by have := (i_x2 : Rg (0) (63) (x2)).1; have := (i_x2 : Rg (0) (63) (x2)).2; have := (i_x3 : Rg (-1) (1) (x3)).1; have := (i_x3 : Rg (-1) (1) (x3)).2; have := (i_v_5 : Rg (-1) (64) (v_5)).1; have := (i_v_5 : Rg (-1) (64) (v_5)).2; have : (v_5).toInt = (x4 + x3 : Int32).toInt := congrArg Int32.toInt e_6; have : (x4 + x3 : Int32).toInt = (x4 : Int32).toInt + (x3 : Int32).toInt := ti_add (og_3 : Rg (0) (63) (x4)) (i_x3 : Rg (-1) (1) (x3)) (by decide); have := (og_3 : Rg (0) (63) (x4)).1; have := (og_3 : Rg (0) (63) (x4)).2; have := ne_i c_1; have := le_i c_4; have := (i_f_5 : Rg (0) (0) ((hI h r_2 x4.toNatClampNeg))).1; have := (i_f_5 : Rg (0) (0) ((hI h r_2 x4.toNatClampNeg))).2; have : (0 : Int32).toInt = 0 := rfl; omega)) (show (0 ≤ ((((x2).toInt - (v_5).toInt).natAbs : Int)) ∧ ((((x2).toInt - (v_5).toInt).natAbs : Int)) < C_5) from (by have := (i_x2 : Rg (0) (63) (x2)).1; have := (i_x2 : Rg (0) (63) (x2)).2; have := (i_v_5 : Rg (-1) (64) (v_5)).1; have := (i_v_5 : Rg (-1) (64) (v_5)).2; have : (v_5).toInt = (x4 + x3 : Int32).toInt := congrArg Int32.toInt e_6; have : (x4 + x3 : Int32).toInt = (x4 : Int32).toInt + (x3 : Int32).toInt := ti_add (og_3 : Rg (0) (63) (x4)) (i_x3 : Rg (-1) (1) (x3)) (by decide); have := (og_3 : Rg (0) (63) (x4)).1; have := (og_3 : Rg (0) (63) (x4)).2; have := (i_x3 : Rg (-1) (1) (x3)).1; have := (i_x3 : Rg (-1) (1) (x3)).2; have := ne_i c_1; have := le_i c_4; have := (i_f_5 : Rg (0) (0) ((hI h r_2 x4.toNatClampNeg))).1; have := (i_f_5 : Rg (0) (0) ((hI h r_2 x4.toNatClampNeg))).2; have : (0 : Int32).toInt = 0 := rfl; omega))
      · have _ := c_4
        have i_f_7 : Rg (1) (24) ((hI h r_2 x4.toNatClampNeg)) := rg_lt2 (nle_lt c_4) (rg_b rfl : Rg (0) (0) (0 : Int32)) (thI T q_r_2 (k := 62) rfl : Rg (0) (24) ((hI h r_2 x4.toNatClampNeg)))
        exact s_some ⟨E, (rg_m (rg_b rfl : Rg (0) (0) ((0 : Int32))) (by decide))⟩
set_option maxRecDepth 20000 in
theorem zX15_isOpen {ρ : Nat → Nat} {c : Cm} {F : Nat} (hF : 700000 ≤ F) {h : Hp} {x0 : Nat} {x1 : Int32} {x2 : Int32} {x3 : Int32} (T : TH ρ c h) (r_x0 : ρ x0 = 13) (i_x1 : Rg (0) (63) (x1)) (i_x2 : Rg (0) (63) (x2)) (i_x3 : Rg (-1) (1) (x3)) (pr : ((x3.toInt = 1 ∧ x1.toInt < x2.toInt) ∨ (x3.toInt = -1 ∧ x2.toInt < x1.toInt))) : Sat (sX15_isOpen F h x0 x1 x2 x3) (ZI0 h (0) (1)) := by
  unfold sX15_isOpen 
  refine s_q (fun v_1 e_1 => ?_)
  have i_v_1 : Rg (-1) (64) (v_1) := by rw [e_1]; exact (rg_add i_x1 i_x3 (by decide) : Rg (-1) (64) (x1 + x3))
  exact zX15_isOpen_5 hF F rfl T r_x0 i_x2 i_x3 i_v_1 (show ((x3).toInt = 1 ∧ 1 ≤ (v_1).toInt ∧ (v_1).toInt ≤ (x2).toInt) ∨ ((x3).toInt = -1 ∧ (x2).toInt ≤ (v_1).toInt ∧ (v_1).toInt ≤ 62) from (by have := (i_x2 : Rg (0) (63) (x2)).1; have := (i_x2 : Rg (0) (63) (x2)).2; have := (i_x3 : Rg (-1) (1) (x3)).1; have := (i_x3 : Rg (-1) (1) (x3)).2; have := (i_v_1 : Rg (-1) (64) (v_1)).1; have := (i_v_1 : Rg (-1) (64) (v_1)).2; have : (v_1).toInt = (x1 + x3 : Int32).toInt := congrArg Int32.toInt e_1; have : (x1 + x3 : Int32).toInt = (x1 : Int32).toInt + (x3 : Int32).toInt := ti_add (i_x1 : Rg (0) (63) (x1)) (i_x3 : Rg (-1) (1) (x3)) (by decide); have := (i_x1 : Rg (0) (63) (x1)).1; have := (i_x1 : Rg (0) (63) (x1)).2; omega)) (show (((((x2).toInt - (v_1).toInt).natAbs : Int)) - 0).toNat < F from (by have := (i_x2 : Rg (0) (63) (x2)).1; have := (i_x2 : Rg (0) (63) (x2)).2; have := (i_x3 : Rg (-1) (1) (x3)).1; have := (i_x3 : Rg (-1) (1) (x3)).2; have := (i_v_1 : Rg (-1) (64) (v_1)).1; have := (i_v_1 : Rg (-1) (64) (v_1)).2; have : (v_1).toInt = (x1 + x3 : Int32).toInt := congrArg Int32.toInt e_1; have : (x1 + x3 : Int32).toInt = (x1 : Int32).toInt + (x3 : Int32).toInt := ti_add (i_x1 : Rg (0) (63) (x1)) (i_x3 : Rg (-1) (1) (x3)) (by decide); have := (i_x1 : Rg (0) (63) (x1)).1; have := (i_x1 : Rg (0) (63) (x1)).2; omega))
set_option maxRecDepth 20000 in
theorem zX15_tryCastling_46 {ρ : Nat → Nat} {c : Cm} {F : Nat} {w_x1 w_x4 : Nat} {m0 : Int} {ss : Int} {tt : Int} (hF : 700000 ≤ F) (hA : pmA c [(16, 23), (16, 24)]) (hO_x4 : pmO c w_x4 [(66, 999), (67, 999), (68, 999), (69, 999), (70, 999), (71, 999), (72, 999), (14, 0)]) : ∀ (f : Nat) {h : Hp} {x0 : Nat} {x1 : Nat} {x2 : Int32} {x3 : Int32} {x4 : Nat} {x5 : Int32} {x6 : Int32}, cw c x1 = w_x1 → cw c x4 = w_x4 → TH ρ c h → ρ x0 = 16 → ρ x1 = 13 → Rg (0) (63) (x2) → Rg (0) (63) (x3) → ρ x4 = 14 → Rg (-1) (1) (x5) → Rg (-3) (65) (x6) → ((x5.toInt = 1 ∧ x2.toInt + 3 ≤ x6.toInt ∧ x3.toInt = x2.toInt + 2) ∨ (x5.toInt = -1 ∧ x6.toInt ≤ x2.toInt - 3 ∧ x3.toInt = x2.toInt - 2)) → ((hI h x4 0).toInt ≤ 2999) → (RoyOk x0 h) → (MvB x0 x1 x4 h) → (CaP x0 x1 x2 x3 h) → ((hI h x4 0).toInt = m0) → (x2.toInt = ss ∧ x3.toInt = tt) → ((70 - ((x6.toInt - x2.toInt).natAbs : Int)) - (0)).toNat < f → Sat (sX15_tryCastling_46 F f h x0 x1 x2 x3 x4 x5 x6) (ZQ (ZV ρ c) (fun o => ((hI o x4 0).toInt = m0 ∨ ((hI o x4 0).toInt = m0 + 1 ∧ (tt = ss + 2 ∨ tt = ss - 2))) ∧ (MvB x0 x1 x4 o))) := by
  intro f
  induction f with
  | zero => intros; omega
  | succ f ih =>
    intro h x0 x1 x2 x3 x4 x5 x6 o_x1 o_x4 T r_x0 r_x1 i_x2 i_x3 r_x4 i_x5 i_x6 tc tm ro mv cp tn tg hm
    rw [sX15_tryCastling_46]
    unfold sX15_tryCastling_207 sX15_tryCastling_197 sX15_sideOf sX15_tryCastling_196
    obtain ⟨C_46, hC_46⟩ : ∃ C : Int, C = (70 - ((x6.toInt - x2.toInt).natAbs : Int)) := ⟨_, rfl⟩
    have hk_46 : ∀ {h : Hp} {x0 : Nat} {x1 : Nat} {x2 : Int32} {x3 : Int32} {x4 : Nat} {x5 : Int32} {x6 : Int32}, cw c x1 = w_x1 → cw c x4 = w_x4 → TH ρ c h → ρ x0 = 16 → ρ x1 = 13 → Rg (0) (63) (x2) → Rg (0) (63) (x3) → ρ x4 = 14 → Rg (-1) (1) (x5) → Rg (-3) (65) (x6) → ((x5.toInt = 1 ∧ x2.toInt + 3 ≤ x6.toInt ∧ x3.toInt = x2.toInt + 2) ∨ (x5.toInt = -1 ∧ x6.toInt ≤ x2.toInt - 3 ∧ x3.toInt = x2.toInt - 2)) → ((hI h x4 0).toInt ≤ 2999) → (RoyOk x0 h) → (MvB x0 x1 x4 h) → (CaP x0 x1 x2 x3 h) → ((hI h x4 0).toInt = m0) → (x2.toInt = ss ∧ x3.toInt = tt) → (0 ≤ (70 - ((x6.toInt - x2.toInt).natAbs : Int)) ∧ (70 - ((x6.toInt - x2.toInt).natAbs : Int)) < C_46) → Sat (sX15_tryCastling_46 F f h x0 x1 x2 x3 x4 x5 x6) (ZQ (ZV ρ c) (fun o => ((hI o x4 0).toInt = m0 ∨ ((hI o x4 0).toInt = m0 + 1 ∧ (tt = ss + 2 ∨ tt = ss - 2))) ∧ (MvB x0 x1 x4 o))) := by
      intro h' x0' x1' x2' x3' x4' x5' x6' o_x1' o_x4' T' r_x0' r_x1' i_x2' i_x3' r_x4' i_x5' i_x6' tc' tm' ro' mv' cp' tn' tg' hl
      exact ih o_x1' o_x4' T' r_x0' r_x1' i_x2' i_x3' r_x4' i_x5' i_x6' tc' tm' ro' mv' cp' tn' tg' (by omega)
    have hc_46 : (0 ≤ (70 - ((x6.toInt - x2.toInt).natAbs : Int)) ∧ (70 - ((x6.toInt - x2.toInt).natAbs : Int)) ≤ C_46) := (by have := (i_x2 : Rg (0) (63) (x2)).1; have := (i_x2 : Rg (0) (63) (x2)).2; have := (i_x6 : Rg (-3) (65) (x6)).1; have := (i_x6 : Rg (-3) (65) (x6)).2; have := (i_x3 : Rg (0) (63) (x3)).1; have := (i_x3 : Rg (0) (63) (x3)).2; have := (i_x5 : Rg (-1) (1) (x5)).1; have := (i_x5 : Rg (-1) (1) (x5)).2; have hq_ := ((thI T r_x4 (k := 14) (i := 0) rfl : Rg (0) (3000) ((hI h x4 0))) : Rg (0) (3000) ((hI h x4 0))); have := hq_.1; have := hq_.2; clear o_x1 o_x4; omega)
    refine s_br (fun c_1 => ?_) (fun c_1 => ?_)
    · have _ := c_1
      have i_f_2 : Rg (-3) (-1) (x6) := rg_lt1 c_1 i_x6 (rg_b rfl : Rg (0) (0) (0 : Int32))
      exact s_some ⟨(T), ⟨(show (hI h x4 0).toInt = m0 ∨ ((hI h x4 0).toInt = m0 + 1 ∧ (tt = ss + 2 ∨ tt = ss - 2)) from (by have hq_ := ((thI T r_x4 (k := 14) (i := 0) rfl : Rg (0) (3000) ((hI h x4 0))) : Rg (0) (3000) ((hI h x4 0))); have := hq_.1; have := hq_.2; have := (i_x2 : Rg (0) (63) (x2)).1; have := (i_x2 : Rg (0) (63) (x2)).2; have := (i_x3 : Rg (0) (63) (x3)).1; have := (i_x3 : Rg (0) (63) (x3)).2; have := (i_x5 : Rg (-1) (1) (x5)).1; have := (i_x5 : Rg (-1) (1) (x5)).2; have := (i_f_2 : Rg (-3) (-1) (x6)).1; have := (i_f_2 : Rg (-3) (-1) (x6)).2; have := lt_i c_1; have : (0 : Int32).toInt = 0 := rfl; clear o_x1 o_x4; omega)), mv⟩⟩
    · have _ := c_1
      have i_f_3 : Rg (0) (65) (x6) := rg_le2 (nlt_le c_1) (rg_b rfl : Rg (0) (0) (0 : Int32)) i_x6
      refine s_br (fun c_4 => ?_) (fun c_4 => ?_)
      · have _ := c_4
        have i_f_5 : Rg (9) (65) (x6) := rg_le2 c_4 (thI T r_x0 (k := 16) (i := 13) rfl : Rg (9) (64) ((hI h x0 13))) i_f_3
        exact s_some ⟨(T), ⟨(show (hI h x4 0).toInt = m0 ∨ ((hI h x4 0).toInt = m0 + 1 ∧ (tt = ss + 2 ∨ tt = ss - 2)) from (by have hq_ := ((thI T r_x4 (k := 14) (i := 0) rfl : Rg (0) (3000) ((hI h x4 0))) : Rg (0) (3000) ((hI h x4 0))); have := hq_.1; have := hq_.2; have := (i_x2 : Rg (0) (63) (x2)).1; have := (i_x2 : Rg (0) (63) (x2)).2; have := (i_x3 : Rg (0) (63) (x3)).1; have := (i_x3 : Rg (0) (63) (x3)).2; have := (i_x5 : Rg (-1) (1) (x5)).1; have := (i_x5 : Rg (-1) (1) (x5)).2; have := (i_f_5 : Rg (9) (65) (x6)).1; have := (i_f_5 : Rg (9) (65) (x6)).2; have := nlt_i c_1; have : (0 : Int32).toInt = 0 := rfl; have := le_i c_4; have hq_ := ((thI T r_x0 (k := 16) (i := 13) rfl : Rg (9) (64) ((hI h x0 13))) : Rg (9) (64) ((hI h x0 13))); have := hq_.1; have := hq_.2; clear o_x1 o_x4; omega)), mv⟩⟩
      · have _ := c_4
        have i_f_6 : Rg (0) (63) (x6) := rg_lt1 (nle_lt c_4) i_f_3 (thI T r_x0 (k := 16) (i := 13) rfl : Rg (9) (64) ((hI h x0 13)))
        refine s_gd (rg_ne0 (thI T r_x0 (k := 16) (i := 11) rfl : Rg (3) (8) ((hI h x0 11))) (by decide)) ?_
        refine s_gd (rg_ne0 (thI T r_x0 (k := 16) (i := 11) rfl : Rg (3) (8) ((hI h x0 11))) (by decide)) ?_
        refine s_br (fun c_7 => ?_) (fun c_7 => ?_)
        · have _ := c_7
          refine s_br (fun c_8 => ?_) (fun c_8 => ?_)
          · have _ := c_8
            obtain ⟨r_7, e_r_7, q_r_7⟩ := thR T r_x1 (k := 13) (i := 0) (k2 := 62) rfl (by decide)
            refine s_ref e_r_7 ?_
            refine s_gd (by rw [thN T q_r_7 (k := 62) (n := 64) rfl (by decide)]; exact rg_inB (i_f_6 : Rg (0) (63) (x6)) (by decide)) ?_
            refine s_br (fun c_9 => ?_) (fun c_9 => ?_)
            · have _ := c_9
              have i_f_10 : Rg (0) (0) ((hI h r_7 x6.toNatClampNeg)) := rg_le1 c_9 (thI T q_r_7 (k := 62) rfl : Rg (0) (24) ((hI h r_7 x6.toNatClampNeg))) (rg_b rfl : Rg (0) (0) (0 : Int32))
              refine s_q (fun v_1q3 e_11 => ?_)
              have i_v_1q3 : Rg (-1) (64) (v_1q3) := by rw [e_11]; exact (rg_add i_f_6 i_x5 (by decide) : Rg (-1) (64) (x6 + x5))
              exact hk_46 o_x1 o_x4 T r_x0 r_x1 i_x2 i_x3 r_x4 i_x5 (rg_m i_v_1q3 (by decide)) (show ((x5).toInt = 1 ∧ (x2).toInt + 3 ≤ (v_1q3).toInt ∧ (x3).toInt = (x2).toInt + 2) ∨ ((x5).toInt = -1 ∧ (v_1q3).toInt ≤ (x2).toInt - 3 ∧ (x3).toInt = (x2).toInt - 2) from (by have := (i_x2 : Rg (0) (63) (x2)).1; have := (i_x2 : Rg (0) (63) (x2)).2; have := (i_x3 : Rg (0) (63) (x3)).1; have := (i_x3 : Rg (0) (63) (x3)).2; have := (i_x5 : Rg (-1) (1) (x5)).1; have := (i_x5 : Rg (-1) (1) (x5)).2; have := (i_v_1q3 : Rg (-1) (64) (v_1q3)).1; have := (i_v_1q3 : Rg (-1) (64) (v_1q3)).2; have : (v_1q3).toInt = (x6 + x5 : Int32).toInt := congrArg Int32.toInt e_11; have : (x6 + x5 : Int32).toInt = (x6 : Int32).toInt + (x5 : Int32).toInt := ti_add (i_f_6 : Rg (0) (63) (x6)) (i_x5 : Rg (-1) (1) (x5)) (by decide); have := (i_f_6 : Rg (0) (63) (x6)).1; have := (i_f_6 : Rg (0) (63) (x6)).2; have hq_ := ((thI T r_x4 (k := 14) (i := 0) rfl : Rg (0) (3000) ((hI h x4 0))) : Rg (0) (3000) ((hI h x4 0))); have := hq_.1; have := hq_.2; have := nlt_i c_1; have : (0 : Int32).toInt = 0 := rfl; have := nle_i c_4; have hq_ := ((thI T r_x0 (k := 16) (i := 13) rfl : Rg (9) (64) ((hI h x0 13))) : Rg (9) (64) ((hI h x0 13))); have := hq_.1; have := hq_.2; have := eq_i c_7; have hq_ := ((rg_divw i_f_6 (thI T r_x0 (k := 16) (i := 11) rfl : Rg (3) (8) ((hI h x0 11))) (by decide) : Rg (0) (21) ((x6 / (hI h x0 11)))) : Rg (0) (21) ((x6 / (hI h x0 11)))); have := hq_.1; have := hq_.2; have hq_ := ((rg_divw i_x2 (thI T r_x0 (k := 16) (i := 11) rfl : Rg (3) (8) ((hI h x0 11))) (by decide) : Rg (0) (21) ((x2 / (hI h x0 11)))) : Rg (0) (21) ((x2 / (hI h x0 11)))); have := hq_.1; have := hq_.2; have := le_i c_9; have := (i_f_10 : Rg (0) (0) ((hI h r_7 x6.toNatClampNeg))).1; have := (i_f_10 : Rg (0) (0) ((hI h r_7 x6.toNatClampNeg))).2; clear o_x1 o_x4; omega)) tm ro mv cp tn tg (show (0 ≤ (70 - (((v_1q3).toInt - (x2).toInt).natAbs : Int)) ∧ (70 - (((v_1q3).toInt - (x2).toInt).natAbs : Int)) < C_46) from (by have := (i_x2 : Rg (0) (63) (x2)).1; have := (i_x2 : Rg (0) (63) (x2)).2; have := (i_v_1q3 : Rg (-1) (64) (v_1q3)).1; have := (i_v_1q3 : Rg (-1) (64) (v_1q3)).2; have : (v_1q3).toInt = (x6 + x5 : Int32).toInt := congrArg Int32.toInt e_11; have : (x6 + x5 : Int32).toInt = (x6 : Int32).toInt + (x5 : Int32).toInt := ti_add (i_f_6 : Rg (0) (63) (x6)) (i_x5 : Rg (-1) (1) (x5)) (by decide); have := (i_f_6 : Rg (0) (63) (x6)).1; have := (i_f_6 : Rg (0) (63) (x6)).2; have := (i_x5 : Rg (-1) (1) (x5)).1; have := (i_x5 : Rg (-1) (1) (x5)).2; have := (i_x3 : Rg (0) (63) (x3)).1; have := (i_x3 : Rg (0) (63) (x3)).2; have hq_ := ((thI T r_x4 (k := 14) (i := 0) rfl : Rg (0) (3000) ((hI h x4 0))) : Rg (0) (3000) ((hI h x4 0))); have := hq_.1; have := hq_.2; have := nlt_i c_1; have : (0 : Int32).toInt = 0 := rfl; have := nle_i c_4; have hq_ := ((thI T r_x0 (k := 16) (i := 13) rfl : Rg (9) (64) ((hI h x0 13))) : Rg (9) (64) ((hI h x0 13))); have := hq_.1; have := hq_.2; have := eq_i c_7; have hq_ := ((rg_divw i_f_6 (thI T r_x0 (k := 16) (i := 11) rfl : Rg (3) (8) ((hI h x0 11))) (by decide) : Rg (0) (21) ((x6 / (hI h x0 11)))) : Rg (0) (21) ((x6 / (hI h x0 11)))); have := hq_.1; have := hq_.2; have hq_ := ((rg_divw i_x2 (thI T r_x0 (k := 16) (i := 11) rfl : Rg (3) (8) ((hI h x0 11))) (by decide) : Rg (0) (21) ((x2 / (hI h x0 11)))) : Rg (0) (21) ((x2 / (hI h x0 11)))); have := hq_.1; have := hq_.2; have := le_i c_9; have := (i_f_10 : Rg (0) (0) ((hI h r_7 x6.toNatClampNeg))).1; have := (i_f_10 : Rg (0) (0) ((hI h r_7 x6.toNatClampNeg))).2; clear o_x1 o_x4; omega))
            · have _ := c_9
              have i_f_12 : Rg (1) (24) ((hI h r_7 x6.toNatClampNeg)) := rg_lt2 (nle_lt c_9) (rg_b rfl : Rg (0) (0) (0 : Int32)) (thI T q_r_7 (k := 62) rfl : Rg (0) (24) ((hI h r_7 x6.toNatClampNeg)))
              refine s_ref e_r_7 ?_
              refine s_gd (by rw [thN T q_r_7 (k := 62) (n := 64) rfl (by decide)]; exact rg_inB (i_f_6 : Rg (0) (63) (x6)) (by decide)) ?_
              refine s_pu (fun o_12z e_13 => ?_)
              try dsimp only
              have i_o_12z : Rg (0) (1) (o_12z) := by rw [e_13]; exact (rg_and (rg_b rfl : Rg (1) (1) ((1 : Int32))) (by decide) : Rg (0) (1) (((hI h r_7 x6.toNatClampNeg) - (1 : Int32)) &&& (1 : Int32)))
              refine s_br (fun c_14 => ?_) (fun c_14 => ?_)
              · have _ := c_14
                refine s_dI0 (zX15_isOpen hF T r_x1 i_x2 i_f_6 i_x5 (show ((x5).toInt = 1 ∧ (x2).toInt < (x6).toInt) ∨ ((x5).toInt = -1 ∧ (x6).toInt < (x2).toInt) from (by have := (i_x2 : Rg (0) (63) (x2)).1; have := (i_x2 : Rg (0) (63) (x2)).2; have := (i_f_6 : Rg (0) (63) (x6)).1; have := (i_f_6 : Rg (0) (63) (x6)).2; have := (i_x5 : Rg (-1) (1) (x5)).1; have := (i_x5 : Rg (-1) (1) (x5)).2; have := (i_x3 : Rg (0) (63) (x3)).1; have := (i_x3 : Rg (0) (63) (x3)).2; have hq_ := ((thI T r_x4 (k := 14) (i := 0) rfl : Rg (0) (3000) ((hI h x4 0))) : Rg (0) (3000) ((hI h x4 0))); have := hq_.1; have := hq_.2; have := nlt_i c_1; have : (0 : Int32).toInt = 0 := rfl; have := nle_i c_4; have hq_ := ((thI T r_x0 (k := 16) (i := 13) rfl : Rg (9) (64) ((hI h x0 13))) : Rg (9) (64) ((hI h x0 13))); have := hq_.1; have := hq_.2; have := eq_i c_7; have hq_ := ((rg_divw i_f_6 (thI T r_x0 (k := 16) (i := 11) rfl : Rg (3) (8) ((hI h x0 11))) (by decide) : Rg (0) (21) ((x6 / (hI h x0 11)))) : Rg (0) (21) ((x6 / (hI h x0 11)))); have := hq_.1; have := hq_.2; have hq_ := ((rg_divw i_x2 (thI T r_x0 (k := 16) (i := 11) rfl : Rg (3) (8) ((hI h x0 11))) (by decide) : Rg (0) (21) ((x2 / (hI h x0 11)))) : Rg (0) (21) ((x2 / (hI h x0 11)))); have := hq_.1; have := hq_.2; have := nle_i c_9; have := (i_f_12 : Rg (1) (24) ((hI h r_7 x6.toNatClampNeg))).1; have := (i_f_12 : Rg (1) (24) ((hI h r_7 x6.toNatClampNeg))).2; clear o_x1 o_x4; omega))) (fun o_14 eb_o_14 e_o_14 i_o_14 => ?_)
                have T_15 := th_eq e_o_14 T
                refine s_br (fun c_16 => ?_) (fun c_16 => ?_)
                · have _ := c_16
                  have i_f_17 : Rg (0) (0) (o_14.1) := rg_eq c_16 (rg_b rfl : Rg (0) (0) (0 : Int32))
                  refine s_q (fun v_1q4 e_18 => ?_)
                  have i_v_1q4 : Rg (-1) (64) (v_1q4) := by rw [e_18]; exact (rg_add i_f_6 i_x5 (by decide) : Rg (-1) (64) (x6 + x5))
                  have pf_19 : RoyOk x0 o_14.2 := (by rw [e_o_14]; exact ro)
                  have pf_20 : MvB x0 x1 x4 o_14.2 := (by rw [e_o_14]; exact mv)
                  have pf_21 : CaP x0 x1 x2 x3 o_14.2 := (by rw [e_o_14]; exact cp)
                  exact hk_46 o_x1 o_x4 T_15 r_x0 r_x1 i_x2 i_x3 r_x4 i_x5 (rg_m i_v_1q4 (by decide)) (show ((x5).toInt = 1 ∧ (x2).toInt + 3 ≤ (v_1q4).toInt ∧ (x3).toInt = (x2).toInt + 2) ∨ ((x5).toInt = -1 ∧ (v_1q4).toInt ≤ (x2).toInt - 3 ∧ (x3).toInt = (x2).toInt - 2) from (by have := (i_x2 : Rg (0) (63) (x2)).1; have := (i_x2 : Rg (0) (63) (x2)).2; have := (i_x3 : Rg (0) (63) (x3)).1; have := (i_x3 : Rg (0) (63) (x3)).2; have := (i_x5 : Rg (-1) (1) (x5)).1; have := (i_x5 : Rg (-1) (1) (x5)).2; have := (i_v_1q4 : Rg (-1) (64) (v_1q4)).1; have := (i_v_1q4 : Rg (-1) (64) (v_1q4)).2; have : (v_1q4).toInt = (x6 + x5 : Int32).toInt := congrArg Int32.toInt e_18; have : (x6 + x5 : Int32).toInt = (x6 : Int32).toInt + (x5 : Int32).toInt := ti_add (i_f_6 : Rg (0) (63) (x6)) (i_x5 : Rg (-1) (1) (x5)) (by decide); have := (i_f_6 : Rg (0) (63) (x6)).1; have := (i_f_6 : Rg (0) (63) (x6)).2; have hq_ := ((thI T r_x4 (k := 14) (i := 0) rfl : Rg (0) (3000) ((hI h x4 0))) : Rg (0) (3000) ((hI h x4 0))); have := hq_.1; have := hq_.2; have := nlt_i c_1; have : (0 : Int32).toInt = 0 := rfl; have := nle_i c_4; have hq_ := ((thI T r_x0 (k := 16) (i := 13) rfl : Rg (9) (64) ((hI h x0 13))) : Rg (9) (64) ((hI h x0 13))); have := hq_.1; have := hq_.2; have := eq_i c_7; have hq_ := ((rg_divw i_f_6 (thI T r_x0 (k := 16) (i := 11) rfl : Rg (3) (8) ((hI h x0 11))) (by decide) : Rg (0) (21) ((x6 / (hI h x0 11)))) : Rg (0) (21) ((x6 / (hI h x0 11)))); have := hq_.1; have := hq_.2; have hq_ := ((rg_divw i_x2 (thI T r_x0 (k := 16) (i := 11) rfl : Rg (3) (8) ((hI h x0 11))) (by decide) : Rg (0) (21) ((x2 / (hI h x0 11)))) : Rg (0) (21) ((x2 / (hI h x0 11)))); have := hq_.1; have := hq_.2; have := nle_i c_9; have := (i_f_12 : Rg (1) (24) ((hI h r_7 x6.toNatClampNeg))).1; have := (i_f_12 : Rg (1) (24) ((hI h r_7 x6.toNatClampNeg))).2; clear o_x1 o_x4; omega)) (show (hI o_14.2 x4 0).toInt ≤ 2999 from (by have hq_ := ((thI T_15 r_x4 (k := 14) (i := 0) rfl : Rg (0) (3000) ((hI o_14.2 x4 0))) : Rg (0) (3000) ((hI o_14.2 x4 0))); have := hq_.1; have := hq_.2; have : (hI o_14.2 x4 0).toInt = (hI h x4 0).toInt := congrArg Int32.toInt (he_e e_o_14); have := (i_x2 : Rg (0) (63) (x2)).1; have := (i_x2 : Rg (0) (63) (x2)).2; have := (i_x3 : Rg (0) (63) (x3)).1; have := (i_x3 : Rg (0) (63) (x3)).2; have := (i_x5 : Rg (-1) (1) (x5)).1; have := (i_x5 : Rg (-1) (1) (x5)).2; have := (i_f_6 : Rg (0) (63) (x6)).1; have := (i_f_6 : Rg (0) (63) (x6)).2; have hq_ := ((thI T r_x4 (k := 14) (i := 0) rfl : Rg (0) (3000) ((hI h x4 0))) : Rg (0) (3000) ((hI h x4 0))); have := hq_.1; have := hq_.2; have := nlt_i c_1; have : (0 : Int32).toInt = 0 := rfl; have := nle_i c_4; have hq_ := ((thI T r_x0 (k := 16) (i := 13) rfl : Rg (9) (64) ((hI h x0 13))) : Rg (9) (64) ((hI h x0 13))); have := hq_.1; have := hq_.2; have := eq_i c_7; have hq_ := ((rg_divw i_f_6 (thI T r_x0 (k := 16) (i := 11) rfl : Rg (3) (8) ((hI h x0 11))) (by decide) : Rg (0) (21) ((x6 / (hI h x0 11)))) : Rg (0) (21) ((x6 / (hI h x0 11)))); have := hq_.1; have := hq_.2; have hq_ := ((rg_divw i_x2 (thI T r_x0 (k := 16) (i := 11) rfl : Rg (3) (8) ((hI h x0 11))) (by decide) : Rg (0) (21) ((x2 / (hI h x0 11)))) : Rg (0) (21) ((x2 / (hI h x0 11)))); have := hq_.1; have := hq_.2; have := nle_i c_9; have := (i_f_12 : Rg (1) (24) ((hI h r_7 x6.toNatClampNeg))).1; have := (i_f_12 : Rg (1) (24) ((hI h r_7 x6.toNatClampNeg))).2; clear o_x1 o_x4; omega)) pf_19 pf_20 pf_21 (show (hI o_14.2 x4 0).toInt = m0 from (by have hq_ := ((thI T_15 r_x4 (k := 14) (i := 0) rfl : Rg (0) (3000) ((hI o_14.2 x4 0))) : Rg (0) (3000) ((hI o_14.2 x4 0))); have := hq_.1; have := hq_.2; have : (hI o_14.2 x4 0).toInt = (hI h x4 0).toInt := congrArg Int32.toInt (he_e e_o_14); have := (i_x2 : Rg (0) (63) (x2)).1; have := (i_x2 : Rg (0) (63) (x2)).2; have := (i_x3 : Rg (0) (63) (x3)).1; have := (i_x3 : Rg (0) (63) (x3)).2; have := (i_x5 : Rg (-1) (1) (x5)).1; have := (i_x5 : Rg (-1) (1) (x5)).2; have := (i_f_6 : Rg (0) (63) (x6)).1; have := (i_f_6 : Rg (0) (63) (x6)).2; have hq_ := ((thI T r_x4 (k := 14) (i := 0) rfl : Rg (0) (3000) ((hI h x4 0))) : Rg (0) (3000) ((hI h x4 0))); have := hq_.1; have := hq_.2; have := nlt_i c_1; have : (0 : Int32).toInt = 0 := rfl; have := nle_i c_4; have hq_ := ((thI T r_x0 (k := 16) (i := 13) rfl : Rg (9) (64) ((hI h x0 13))) : Rg (9) (64) ((hI h x0 13))); have := hq_.1; have := hq_.2; have := eq_i c_7; have hq_ := ((rg_divw i_f_6 (thI T r_x0 (k := 16) (i := 11) rfl : Rg (3) (8) ((hI h x0 11))) (by decide) : Rg (0) (21) ((x6 / (hI h x0 11)))) : Rg (0) (21) ((x6 / (hI h x0 11)))); have := hq_.1; have := hq_.2; have hq_ := ((rg_divw i_x2 (thI T r_x0 (k := 16) (i := 11) rfl : Rg (3) (8) ((hI h x0 11))) (by decide) : Rg (0) (21) ((x2 / (hI h x0 11)))) : Rg (0) (21) ((x2 / (hI h x0 11)))); have := hq_.1; have := hq_.2; have := nle_i c_9; have := (i_f_12 : Rg (1) (24) ((hI h r_7 x6.toNatClampNeg))).1; have := (i_f_12 : Rg (1) (24) ((hI h r_7 x6.toNatClampNeg))).2; clear o_x1 o_x4; omega)) tg (show (0 ≤ (70 - (((v_1q4).toInt - (x2).toInt).natAbs : Int)) ∧ (70 - (((v_1q4).toInt - (x2).toInt).natAbs : Int)) < C_46) from (by have := (i_x2 : Rg (0) (63) (x2)).1; have := (i_x2 : Rg (0) (63) (x2)).2; have := (i_v_1q4 : Rg (-1) (64) (v_1q4)).1; have := (i_v_1q4 : Rg (-1) (64) (v_1q4)).2; have : (v_1q4).toInt = (x6 + x5 : Int32).toInt := congrArg Int32.toInt e_18; have : (x6 + x5 : Int32).toInt = (x6 : Int32).toInt + (x5 : Int32).toInt := ti_add (i_f_6 : Rg (0) (63) (x6)) (i_x5 : Rg (-1) (1) (x5)) (by decide); have := (i_f_6 : Rg (0) (63) (x6)).1; have := (i_f_6 : Rg (0) (63) (x6)).2; have := (i_x5 : Rg (-1) (1) (x5)).1; have := (i_x5 : Rg (-1) (1) (x5)).2; have := (i_x3 : Rg (0) (63) (x3)).1; have := (i_x3 : Rg (0) (63) (x3)).2; have hq_ := ((thI T r_x4 (k := 14) (i := 0) rfl : Rg (0) (3000) ((hI h x4 0))) : Rg (0) (3000) ((hI h x4 0))); have := hq_.1; have := hq_.2; have := nlt_i c_1; have : (0 : Int32).toInt = 0 := rfl; have := nle_i c_4; have hq_ := ((thI T r_x0 (k := 16) (i := 13) rfl : Rg (9) (64) ((hI h x0 13))) : Rg (9) (64) ((hI h x0 13))); have := hq_.1; have := hq_.2; have := eq_i c_7; have hq_ := ((rg_divw i_f_6 (thI T r_x0 (k := 16) (i := 11) rfl : Rg (3) (8) ((hI h x0 11))) (by decide) : Rg (0) (21) ((x6 / (hI h x0 11)))) : Rg (0) (21) ((x6 / (hI h x0 11)))); have := hq_.1; have := hq_.2; have hq_ := ((rg_divw i_x2 (thI T r_x0 (k := 16) (i := 11) rfl : Rg (3) (8) ((hI h x0 11))) (by decide) : Rg (0) (21) ((x2 / (hI h x0 11)))) : Rg (0) (21) ((x2 / (hI h x0 11)))); have := hq_.1; have := hq_.2; have := nle_i c_9; have := (i_f_12 : Rg (1) (24) ((hI h r_7 x6.toNatClampNeg))).1; have := (i_f_12 : Rg (1) (24) ((hI h r_7 x6.toNatClampNeg))).2; clear o_x1 o_x4; omega))
                · have _ := c_16
                  have i_f_22 : Rg (1) (1) (o_14.1) := rg_nlo c_16 i_o_14 (rg_b rfl : Rg (0) (0) (0 : Int32))
                  refine s_cIf (S := fS [(16, 23), (16, 24)] []) T_15 (fs_sub (pmA_s hA rfl) fs_n) (zX15_isAttacked hF fs_a o_x1 (th_in _ T_15) r_x0 r_x1 i_x2 (rg_sub (rg_b rfl : Rg (1) (1) ((1 : Int32))) (thI T_15 r_x1 (k := 13) (i := 1) rfl : Rg (0) (1) ((hI o_14.2 x1 1))) (by decide) : Rg (0) (1) (((1 : Int32) - (hI o_14.2 x1 1))))) (fun o_16 T_23 i_o_16 f_o_16 => ?_)
                  refine s_br (fun c_24 => ?_) (fun c_24 => ?_)
                  · have _ := c_24
                    have i_f_25 : Rg (0) (0) (o_16.1) := rg_eq c_24 (rg_b rfl : Rg (0) (0) (0 : Int32))
                    have og_26 : Rg (0) (63) ((x2 + x5)) := ⟨(by have : ((x2 + x5) : Int32).toInt = (x2 : Int32).toInt + (x5 : Int32).toInt := ti_add (i_x2 : Rg (0) (63) (x2)) (i_x5 : Rg (-1) (1) (x5)) (by decide); have := (i_x2 : Rg (0) (63) (x2)).1; have := (i_x2 : Rg (0) (63) (x2)).2; have := (i_x5 : Rg (-1) (1) (x5)).1; have := (i_x5 : Rg (-1) (1) (x5)).2; have := (i_x3 : Rg (0) (63) (x3)).1; have := (i_x3 : Rg (0) (63) (x3)).2; have := (i_f_6 : Rg (0) (63) (x6)).1; have := (i_f_6 : Rg (0) (63) (x6)).2; have hq_ := ((thI T r_x4 (k := 14) (i := 0) rfl : Rg (0) (3000) ((hI h x4 0))) : Rg (0) (3000) ((hI h x4 0))); have := hq_.1; have := hq_.2; have := nlt_i c_1; have : (0 : Int32).toInt = 0 := rfl; have := nle_i c_4; have hq_ := ((thI T r_x0 (k := 16) (i := 13) rfl : Rg (9) (64) ((hI h x0 13))) : Rg (9) (64) ((hI h x0 13))); have := hq_.1; have := hq_.2; have := eq_i c_7; have hq_ := ((rg_divw i_f_6 (thI T r_x0 (k := 16) (i := 11) rfl : Rg (3) (8) ((hI h x0 11))) (by decide) : Rg (0) (21) ((x6 / (hI h x0 11)))) : Rg (0) (21) ((x6 / (hI h x0 11)))); have := hq_.1; have := hq_.2; have hq_ := ((rg_divw i_x2 (thI T r_x0 (k := 16) (i := 11) rfl : Rg (3) (8) ((hI h x0 11))) (by decide) : Rg (0) (21) ((x2 / (hI h x0 11)))) : Rg (0) (21) ((x2 / (hI h x0 11)))); have := hq_.1; have := hq_.2; have := nle_i c_9; have := (i_f_12 : Rg (1) (24) ((hI h r_7 x6.toNatClampNeg))).1; have := (i_f_12 : Rg (1) (24) ((hI h r_7 x6.toNatClampNeg))).2; clear o_x1 o_x4; omega), (by have : ((x2 + x5) : Int32).toInt = (x2 : Int32).toInt + (x5 : Int32).toInt := ti_add (i_x2 : Rg (0) (63) (x2)) (i_x5 : Rg (-1) (1) (x5)) (by decide); have := (i_x2 : Rg (0) (63) (x2)).1; have := (i_x2 : Rg (0) (63) (x2)).2; have := (i_x5 : Rg (-1) (1) (x5)).1; have := (i_x5 : Rg (-1) (1) (x5)).2; have := (i_x3 : Rg (0) (63) (x3)).1; have := (i_x3 : Rg (0) (63) (x3)).2; have := (i_f_6 : Rg (0) (63) (x6)).1; have := (i_f_6 : Rg (0) (63) (x6)).2; have hq_ := ((thI T r_x4 (k := 14) (i := 0) rfl : Rg (0) (3000) ((hI h x4 0))) : Rg (0) (3000) ((hI h x4 0))); have := hq_.1; have := hq_.2; have := nlt_i c_1; have : (0 : Int32).toInt = 0 := rfl; have := nle_i c_4; have hq_ := ((thI T r_x0 (k := 16) (i := 13) rfl : Rg (9) (64) ((hI h x0 13))) : Rg (9) (64) ((hI h x0 13))); have := hq_.1; have := hq_.2; have := eq_i c_7; have hq_ := ((rg_divw i_f_6 (thI T r_x0 (k := 16) (i := 11) rfl : Rg (3) (8) ((hI h x0 11))) (by decide) : Rg (0) (21) ((x6 / (hI h x0 11)))) : Rg (0) (21) ((x6 / (hI h x0 11)))); have := hq_.1; have := hq_.2; have hq_ := ((rg_divw i_x2 (thI T r_x0 (k := 16) (i := 11) rfl : Rg (3) (8) ((hI h x0 11))) (by decide) : Rg (0) (21) ((x2 / (hI h x0 11)))) : Rg (0) (21) ((x2 / (hI h x0 11)))); have := hq_.1; have := hq_.2; have := nle_i c_9; have := (i_f_12 : Rg (1) (24) ((hI h r_7 x6.toNatClampNeg))).1; have := (i_f_12 : Rg (1) (24) ((hI h r_7 x6.toNatClampNeg))).2; clear o_x1 o_x4; omega)⟩
                    refine s_cIf (S := fS [(16, 23), (16, 24)] []) T_23 (fs_sub (pmA_s hA rfl) fs_n) (zX15_isAttacked hF fs_a o_x1 (th_in _ T_23) r_x0 r_x1 og_26 (rg_sub (rg_b rfl : Rg (1) (1) ((1 : Int32))) (thI T_23 r_x1 (k := 13) (i := 1) rfl : Rg (0) (1) ((hI o_16.2 x1 1))) (by decide) : Rg (0) (1) (((1 : Int32) - (hI o_16.2 x1 1))))) (fun o_18 T_27 i_o_18 f_o_18 => ?_)
                    refine s_br (fun c_28 => ?_) (fun c_28 => ?_)
                    · have _ := c_28
                      have i_f_29 : Rg (0) (0) (o_18.1) := rg_eq c_28 (rg_b rfl : Rg (0) (0) (0 : Int32))
                      refine s_cIf (S := fS [(16, 23), (16, 24)] []) T_27 (fs_sub (pmA_s hA rfl) fs_n) (zX15_isAttacked hF fs_a o_x1 (th_in _ T_27) r_x0 r_x1 i_x3 (rg_sub (rg_b rfl : Rg (1) (1) ((1 : Int32))) (thI T_27 r_x1 (k := 13) (i := 1) rfl : Rg (0) (1) ((hI o_18.2 x1 1))) (by decide) : Rg (0) (1) (((1 : Int32) - (hI o_18.2 x1 1))))) (fun o_20 T_30 i_o_20 f_o_20 => ?_)
                      refine s_br (fun c_31 => ?_) (fun c_31 => ?_)
                      · have _ := c_31
                        have i_f_32 : Rg (0) (0) (o_20.1) := rg_eq c_31 (rg_b rfl : Rg (0) (0) (0 : Int32))
                        obtain ⟨r_22, e_r_22, q_r_22⟩ := thR T_30 r_x0 (k := 16) (i := 4) (k2 := 15) rfl (by decide)
                        refine s_ref e_r_22 ?_
                        have pf_33 : RoyOk x0 o_20.2 := (roy_fr T_27 r_x0 f_o_20 (fun _ => rfl) (fun _ => rfl) (roy_fr T_23 r_x0 f_o_18 (fun _ => rfl) (fun _ => rfl) (roy_fr T_15 r_x0 f_o_16 (fun _ => rfl) (fun _ => rfl) (by rw [e_o_14]; exact ro))))
                        have pu_34 : 0 ≤ (hI o_20.2 r_22 10).toInt := pf_33 r_22 e_r_22
                        have og_35 : Rg (0) (11) ((hI o_20.2 r_22 10)) := ⟨(by have hq_ := ((thI T_30 q_r_22 (k := 15) (i := 10) rfl : Rg (-1) (11) ((hI o_20.2 r_22 10))) : Rg (-1) (11) ((hI o_20.2 r_22 10))); have := hq_.1; have := hq_.2; have : (hI o_20.2 r_22 10).toInt = (hI o_18.2 r_22 10).toInt := congrArg Int32.toInt (fr_I f_o_20 q_r_22 (by decide) rfl rfl); have : (hI o_18.2 r_22 10).toInt = (hI o_16.2 r_22 10).toInt := congrArg Int32.toInt (fr_I f_o_18 q_r_22 (by decide) rfl rfl); have : (hI o_16.2 r_22 10).toInt = (hI o_14.2 r_22 10).toInt := congrArg Int32.toInt (fr_I f_o_16 q_r_22 (by decide) rfl rfl); have : (hI o_14.2 r_22 10).toInt = (hI h r_22 10).toInt := congrArg Int32.toInt (he_e e_o_14); have := (i_x2 : Rg (0) (63) (x2)).1; have := (i_x2 : Rg (0) (63) (x2)).2; have := (i_x3 : Rg (0) (63) (x3)).1; have := (i_x3 : Rg (0) (63) (x3)).2; have := (i_x5 : Rg (-1) (1) (x5)).1; have := (i_x5 : Rg (-1) (1) (x5)).2; have := (i_f_6 : Rg (0) (63) (x6)).1; have := (i_f_6 : Rg (0) (63) (x6)).2; have hq_ := ((thI T r_x4 (k := 14) (i := 0) rfl : Rg (0) (3000) ((hI h x4 0))) : Rg (0) (3000) ((hI h x4 0))); have := hq_.1; have := hq_.2; have := nlt_i c_1; have : (0 : Int32).toInt = 0 := rfl; have := nle_i c_4; have hq_ := ((thI T r_x0 (k := 16) (i := 13) rfl : Rg (9) (64) ((hI h x0 13))) : Rg (9) (64) ((hI h x0 13))); have := hq_.1; have := hq_.2; have := eq_i c_7; have hq_ := ((rg_divw i_f_6 (thI T r_x0 (k := 16) (i := 11) rfl : Rg (3) (8) ((hI h x0 11))) (by decide) : Rg (0) (21) ((x6 / (hI h x0 11)))) : Rg (0) (21) ((x6 / (hI h x0 11)))); have := hq_.1; have := hq_.2; have hq_ := ((rg_divw i_x2 (thI T r_x0 (k := 16) (i := 11) rfl : Rg (3) (8) ((hI h x0 11))) (by decide) : Rg (0) (21) ((x2 / (hI h x0 11)))) : Rg (0) (21) ((x2 / (hI h x0 11)))); have := hq_.1; have := hq_.2; have := nle_i c_9; have := (i_f_12 : Rg (1) (24) ((hI h r_7 x6.toNatClampNeg))).1; have := (i_f_12 : Rg (1) (24) ((hI h r_7 x6.toNatClampNeg))).2; clear o_x1 o_x4; omega), (by have hq_ := ((thI T_30 q_r_22 (k := 15) (i := 10) rfl : Rg (-1) (11) ((hI o_20.2 r_22 10))) : Rg (-1) (11) ((hI o_20.2 r_22 10))); have := hq_.1; have := hq_.2; have : (hI o_20.2 r_22 10).toInt = (hI o_18.2 r_22 10).toInt := congrArg Int32.toInt (fr_I f_o_20 q_r_22 (by decide) rfl rfl); have : (hI o_18.2 r_22 10).toInt = (hI o_16.2 r_22 10).toInt := congrArg Int32.toInt (fr_I f_o_18 q_r_22 (by decide) rfl rfl); have : (hI o_16.2 r_22 10).toInt = (hI o_14.2 r_22 10).toInt := congrArg Int32.toInt (fr_I f_o_16 q_r_22 (by decide) rfl rfl); have : (hI o_14.2 r_22 10).toInt = (hI h r_22 10).toInt := congrArg Int32.toInt (he_e e_o_14); have := (i_x2 : Rg (0) (63) (x2)).1; have := (i_x2 : Rg (0) (63) (x2)).2; have := (i_x3 : Rg (0) (63) (x3)).1; have := (i_x3 : Rg (0) (63) (x3)).2; have := (i_x5 : Rg (-1) (1) (x5)).1; have := (i_x5 : Rg (-1) (1) (x5)).2; have := (i_f_6 : Rg (0) (63) (x6)).1; have := (i_f_6 : Rg (0) (63) (x6)).2; have hq_ := ((thI T r_x4 (k := 14) (i := 0) rfl : Rg (0) (3000) ((hI h x4 0))) : Rg (0) (3000) ((hI h x4 0))); have := hq_.1; have := hq_.2; have := nlt_i c_1; have : (0 : Int32).toInt = 0 := rfl; have := nle_i c_4; have hq_ := ((thI T r_x0 (k := 16) (i := 13) rfl : Rg (9) (64) ((hI h x0 13))) : Rg (9) (64) ((hI h x0 13))); have := hq_.1; have := hq_.2; have := eq_i c_7; have hq_ := ((rg_divw i_f_6 (thI T r_x0 (k := 16) (i := 11) rfl : Rg (3) (8) ((hI h x0 11))) (by decide) : Rg (0) (21) ((x6 / (hI h x0 11)))) : Rg (0) (21) ((x6 / (hI h x0 11)))); have := hq_.1; have := hq_.2; have hq_ := ((rg_divw i_x2 (thI T r_x0 (k := 16) (i := 11) rfl : Rg (3) (8) ((hI h x0 11))) (by decide) : Rg (0) (21) ((x2 / (hI h x0 11)))) : Rg (0) (21) ((x2 / (hI h x0 11)))); have := hq_.1; have := hq_.2; have := nle_i c_9; have := (i_f_12 : Rg (1) (24) ((hI h r_7 x6.toNatClampNeg))).1; have := (i_f_12 : Rg (1) (24) ((hI h r_7 x6.toNatClampNeg))).2; clear o_x1 o_x4; omega)⟩
                        refine s_cVq (s_weq2 (zX13_add hF (pmO_s hO_x4 rfl) o_x4 T_30 r_x4 (rg_m i_x2 (by decide)) i_x3 og_35 (rg_m (rg_b rfl : Rg (-1) (-1) ((- 1 : Int32))) (by decide)) (rg_m (rg_b rfl : Rg (-1) (-1) ((- 1 : Int32))) (by decide)) (rg_m (rg_b rfl : Rg (2) (2) ((2 : Int32))) (by decide)) i_f_6 (show (hI o_20.2 x4 0).toInt ≤ 2999 from (by have := (i_x2 : Rg (0) (63) (x2)).1; have := (i_x2 : Rg (0) (63) (x2)).2; have := (i_x3 : Rg (0) (63) (x3)).1; have := (i_x3 : Rg (0) (63) (x3)).2; have := (og_35 : Rg (0) (11) ((hI o_20.2 r_22 10))).1; have := (og_35 : Rg (0) (11) ((hI o_20.2 r_22 10))).2; have : (hI o_20.2 r_22 10).toInt = (hI o_18.2 r_22 10).toInt := congrArg Int32.toInt (fr_I f_o_20 q_r_22 (by decide) rfl rfl); have : (hI o_18.2 r_22 10).toInt = (hI o_16.2 r_22 10).toInt := congrArg Int32.toInt (fr_I f_o_18 q_r_22 (by decide) rfl rfl); have : (hI o_16.2 r_22 10).toInt = (hI o_14.2 r_22 10).toInt := congrArg Int32.toInt (fr_I f_o_16 q_r_22 (by decide) rfl rfl); have : (hI o_14.2 r_22 10).toInt = (hI h r_22 10).toInt := congrArg Int32.toInt (he_e e_o_14); have : ((- 1 : Int32)).toInt = -1 := rfl; have : ((2 : Int32)).toInt = 2 := rfl; have := (i_f_6 : Rg (0) (63) (x6)).1; have := (i_f_6 : Rg (0) (63) (x6)).2; have hq_ := ((thI T_30 r_x4 (k := 14) (i := 0) rfl : Rg (0) (3000) ((hI o_20.2 x4 0))) : Rg (0) (3000) ((hI o_20.2 x4 0))); have := hq_.1; have := hq_.2; have : (hI o_20.2 x4 0).toInt = (hI o_18.2 x4 0).toInt := congrArg Int32.toInt (fr_I f_o_20 r_x4 (by decide) o_x4 rfl); have : (hI o_18.2 x4 0).toInt = (hI o_16.2 x4 0).toInt := congrArg Int32.toInt (fr_I f_o_18 r_x4 (by decide) o_x4 rfl); have : (hI o_16.2 x4 0).toInt = (hI o_14.2 x4 0).toInt := congrArg Int32.toInt (fr_I f_o_16 r_x4 (by decide) o_x4 rfl); have : (hI o_14.2 x4 0).toInt = (hI h x4 0).toInt := congrArg Int32.toInt (he_e e_o_14); have := (i_x5 : Rg (-1) (1) (x5)).1; have := (i_x5 : Rg (-1) (1) (x5)).2; have hq_ := ((thI T r_x4 (k := 14) (i := 0) rfl : Rg (0) (3000) ((hI h x4 0))) : Rg (0) (3000) ((hI h x4 0))); have := hq_.1; have := hq_.2; have := nlt_i c_1; have : (0 : Int32).toInt = 0 := rfl; have := nle_i c_4; have hq_ := ((thI T r_x0 (k := 16) (i := 13) rfl : Rg (9) (64) ((hI h x0 13))) : Rg (9) (64) ((hI h x0 13))); have := hq_.1; have := hq_.2; have := eq_i c_7; have hq_ := ((rg_divw i_f_6 (thI T r_x0 (k := 16) (i := 11) rfl : Rg (3) (8) ((hI h x0 11))) (by decide) : Rg (0) (21) ((x6 / (hI h x0 11)))) : Rg (0) (21) ((x6 / (hI h x0 11)))); have := hq_.1; have := hq_.2; have hq_ := ((rg_divw i_x2 (thI T r_x0 (k := 16) (i := 11) rfl : Rg (3) (8) ((hI h x0 11))) (by decide) : Rg (0) (21) ((x2 / (hI h x0 11)))) : Rg (0) (21) ((x2 / (hI h x0 11)))); have := hq_.1; have := hq_.2; have := nle_i c_9; have := (i_f_12 : Rg (1) (24) ((hI h r_7 x6.toNatClampNeg))).1; have := (i_f_12 : Rg (1) (24) ((hI h r_7 x6.toNatClampNeg))).2; clear o_x1 o_x4; omega)))) (fun o_23 T_36 p_o_23 => ?_)
                        have eb_o_23 := p_o_23.2
                        have pq_o_23_0 : (hI o_23 x4 0).toInt = ((hI o_20.2 x4 0).toInt) + 1 := p_o_23.1
                        have pf_37 : MvB x0 x1 x4 o_20.2 := (mv_fr T_27 r_x0 r_x1 r_x4 f_o_20 (fun _ => rfl) (fun _ => rfl) rfl rfl rfl (fun _ => rfl) (fun _ => rfl) rfl rfl rfl rfl rfl rfl (fun _ => rfl) (fun _ => rfl) (fun _ => rfl) (fun _ => rfl) (fun _ => rfl) (mv_fr T_23 r_x0 r_x1 r_x4 f_o_18 (fun _ => rfl) (fun _ => rfl) rfl rfl rfl (fun _ => rfl) (fun _ => rfl) rfl rfl rfl rfl rfl rfl (fun _ => rfl) (fun _ => rfl) (fun _ => rfl) (fun _ => rfl) (fun _ => rfl) (mv_fr T_15 r_x0 r_x1 r_x4 f_o_16 (fun _ => rfl) (fun _ => rfl) rfl rfl rfl (fun _ => rfl) (fun _ => rfl) rfl rfl rfl rfl rfl rfl (fun _ => rfl) (fun _ => rfl) (fun _ => rfl) (fun _ => rfl) (fun _ => rfl) (by rw [e_o_14]; exact mv))))
                        have pf_38 : CaP x0 x1 x2 x3 o_20.2 := (ca_fr T_27 r_x0 r_x1 f_o_20 (fun _ => rfl) (fun _ => rfl) (fun _ _ => rfl) (ca_fr T_23 r_x0 r_x1 f_o_18 (fun _ => rfl) (fun _ => rfl) (fun _ _ => rfl) (ca_fr T_15 r_x0 r_x1 f_o_16 (fun _ => rfl) (fun _ => rfl) (fun _ _ => rfl) (by rw [e_o_14]; exact cp))))
                        exact s_some ⟨(T_36), ⟨(show (hI o_23 x4 0).toInt = m0 ∨ ((hI o_23 x4 0).toInt = m0 + 1 ∧ (tt = ss + 2 ∨ tt = ss - 2)) from (by have hq_ := ((thI T_36 r_x4 (k := 14) (i := 0) rfl : Rg (0) (3000) ((hI o_23 x4 0))) : Rg (0) (3000) ((hI o_23 x4 0))); have := hq_.1; have := hq_.2; have := (i_x2 : Rg (0) (63) (x2)).1; have := (i_x2 : Rg (0) (63) (x2)).2; have := (i_x3 : Rg (0) (63) (x3)).1; have := (i_x3 : Rg (0) (63) (x3)).2; have hq_ := ((thI T_30 r_x4 (k := 14) (i := 0) rfl : Rg (0) (3000) ((hI o_20.2 x4 0))) : Rg (0) (3000) ((hI o_20.2 x4 0))); have := hq_.1; have := hq_.2; have : (hI o_20.2 x4 0).toInt = (hI o_18.2 x4 0).toInt := congrArg Int32.toInt (fr_I f_o_20 r_x4 (by decide) o_x4 rfl); have : (hI o_18.2 x4 0).toInt = (hI o_16.2 x4 0).toInt := congrArg Int32.toInt (fr_I f_o_18 r_x4 (by decide) o_x4 rfl); have : (hI o_16.2 x4 0).toInt = (hI o_14.2 x4 0).toInt := congrArg Int32.toInt (fr_I f_o_16 r_x4 (by decide) o_x4 rfl); have : (hI o_14.2 x4 0).toInt = (hI h x4 0).toInt := congrArg Int32.toInt (he_e e_o_14); have := (og_35 : Rg (0) (11) ((hI o_20.2 r_22 10))).1; have := (og_35 : Rg (0) (11) ((hI o_20.2 r_22 10))).2; have : (hI o_20.2 r_22 10).toInt = (hI o_18.2 r_22 10).toInt := congrArg Int32.toInt (fr_I f_o_20 q_r_22 (by decide) rfl rfl); have : (hI o_18.2 r_22 10).toInt = (hI o_16.2 r_22 10).toInt := congrArg Int32.toInt (fr_I f_o_18 q_r_22 (by decide) rfl rfl); have : (hI o_16.2 r_22 10).toInt = (hI o_14.2 r_22 10).toInt := congrArg Int32.toInt (fr_I f_o_16 q_r_22 (by decide) rfl rfl); have : (hI o_14.2 r_22 10).toInt = (hI h r_22 10).toInt := congrArg Int32.toInt (he_e e_o_14); have := (i_x5 : Rg (-1) (1) (x5)).1; have := (i_x5 : Rg (-1) (1) (x5)).2; have := (i_f_6 : Rg (0) (63) (x6)).1; have := (i_f_6 : Rg (0) (63) (x6)).2; have hq_ := ((thI T r_x4 (k := 14) (i := 0) rfl : Rg (0) (3000) ((hI h x4 0))) : Rg (0) (3000) ((hI h x4 0))); have := hq_.1; have := hq_.2; have := nlt_i c_1; have : (0 : Int32).toInt = 0 := rfl; have := nle_i c_4; have hq_ := ((thI T r_x0 (k := 16) (i := 13) rfl : Rg (9) (64) ((hI h x0 13))) : Rg (9) (64) ((hI h x0 13))); have := hq_.1; have := hq_.2; have := eq_i c_7; have hq_ := ((rg_divw i_f_6 (thI T r_x0 (k := 16) (i := 11) rfl : Rg (3) (8) ((hI h x0 11))) (by decide) : Rg (0) (21) ((x6 / (hI h x0 11)))) : Rg (0) (21) ((x6 / (hI h x0 11)))); have := hq_.1; have := hq_.2; have hq_ := ((rg_divw i_x2 (thI T r_x0 (k := 16) (i := 11) rfl : Rg (3) (8) ((hI h x0 11))) (by decide) : Rg (0) (21) ((x2 / (hI h x0 11)))) : Rg (0) (21) ((x2 / (hI h x0 11)))); have := hq_.1; have := hq_.2; have := nle_i c_9; have := (i_f_12 : Rg (1) (24) ((hI h r_7 x6.toNatClampNeg))).1; have := (i_f_12 : Rg (1) (24) ((hI h r_7 x6.toNatClampNeg))).2; clear o_x1 o_x4; omega)), (ca_add T_30 r_x0 r_x1 r_x4 (show (hI o_20.2 x4 0).toInt ≤ 2999 from (by have hq_ := ((thI T_30 r_x4 (k := 14) (i := 0) rfl : Rg (0) (3000) ((hI o_20.2 x4 0))) : Rg (0) (3000) ((hI o_20.2 x4 0))); have := hq_.1; have := hq_.2; have : (hI o_20.2 x4 0).toInt = (hI o_18.2 x4 0).toInt := congrArg Int32.toInt (fr_I f_o_20 r_x4 (by decide) o_x4 rfl); have : (hI o_18.2 x4 0).toInt = (hI o_16.2 x4 0).toInt := congrArg Int32.toInt (fr_I f_o_18 r_x4 (by decide) o_x4 rfl); have : (hI o_16.2 x4 0).toInt = (hI o_14.2 x4 0).toInt := congrArg Int32.toInt (fr_I f_o_16 r_x4 (by decide) o_x4 rfl); have : (hI o_14.2 x4 0).toInt = (hI h x4 0).toInt := congrArg Int32.toInt (he_e e_o_14); have := (i_x2 : Rg (0) (63) (x2)).1; have := (i_x2 : Rg (0) (63) (x2)).2; have := (i_x3 : Rg (0) (63) (x3)).1; have := (i_x3 : Rg (0) (63) (x3)).2; have := (og_35 : Rg (0) (11) ((hI o_20.2 r_22 10))).1; have := (og_35 : Rg (0) (11) ((hI o_20.2 r_22 10))).2; have : (hI o_20.2 r_22 10).toInt = (hI o_18.2 r_22 10).toInt := congrArg Int32.toInt (fr_I f_o_20 q_r_22 (by decide) rfl rfl); have : (hI o_18.2 r_22 10).toInt = (hI o_16.2 r_22 10).toInt := congrArg Int32.toInt (fr_I f_o_18 q_r_22 (by decide) rfl rfl); have : (hI o_16.2 r_22 10).toInt = (hI o_14.2 r_22 10).toInt := congrArg Int32.toInt (fr_I f_o_16 q_r_22 (by decide) rfl rfl); have : (hI o_14.2 r_22 10).toInt = (hI h r_22 10).toInt := congrArg Int32.toInt (he_e e_o_14); have := (i_x5 : Rg (-1) (1) (x5)).1; have := (i_x5 : Rg (-1) (1) (x5)).2; have := (i_f_6 : Rg (0) (63) (x6)).1; have := (i_f_6 : Rg (0) (63) (x6)).2; have hq_ := ((thI T r_x4 (k := 14) (i := 0) rfl : Rg (0) (3000) ((hI h x4 0))) : Rg (0) (3000) ((hI h x4 0))); have := hq_.1; have := hq_.2; have := nlt_i c_1; have : (0 : Int32).toInt = 0 := rfl; have := nle_i c_4; have hq_ := ((thI T r_x0 (k := 16) (i := 13) rfl : Rg (9) (64) ((hI h x0 13))) : Rg (9) (64) ((hI h x0 13))); have := hq_.1; have := hq_.2; have := eq_i c_7; have hq_ := ((rg_divw i_f_6 (thI T r_x0 (k := 16) (i := 11) rfl : Rg (3) (8) ((hI h x0 11))) (by decide) : Rg (0) (21) ((x6 / (hI h x0 11)))) : Rg (0) (21) ((x6 / (hI h x0 11)))); have := hq_.1; have := hq_.2; have hq_ := ((rg_divw i_x2 (thI T r_x0 (k := 16) (i := 11) rfl : Rg (3) (8) ((hI h x0 11))) (by decide) : Rg (0) (21) ((x2 / (hI h x0 11)))) : Rg (0) (21) ((x2 / (hI h x0 11)))); have := hq_.1; have := hq_.2; have := nle_i c_9; have := (i_f_12 : Rg (1) (24) ((hI h r_7 x6.toNatClampNeg))).1; have := (i_f_12 : Rg (1) (24) ((hI h r_7 x6.toNatClampNeg))).2; clear o_x1 o_x4; omega)) pf_37 pf_38 eb_o_23)⟩⟩
                      · have _ := c_31
                        have i_f_39 : Rg (1) (1) (o_20.1) := rg_nlo c_31 i_o_20 (rg_b rfl : Rg (0) (0) (0 : Int32))
                        have pf_40 : MvB x0 x1 x4 o_20.2 := (mv_fr T_27 r_x0 r_x1 r_x4 f_o_20 (fun _ => rfl) (fun _ => rfl) rfl rfl rfl (fun _ => rfl) (fun _ => rfl) rfl rfl rfl rfl rfl rfl (fun _ => rfl) (fun _ => rfl) (fun _ => rfl) (fun _ => rfl) (fun _ => rfl) (mv_fr T_23 r_x0 r_x1 r_x4 f_o_18 (fun _ => rfl) (fun _ => rfl) rfl rfl rfl (fun _ => rfl) (fun _ => rfl) rfl rfl rfl rfl rfl rfl (fun _ => rfl) (fun _ => rfl) (fun _ => rfl) (fun _ => rfl) (fun _ => rfl) (mv_fr T_15 r_x0 r_x1 r_x4 f_o_16 (fun _ => rfl) (fun _ => rfl) rfl rfl rfl (fun _ => rfl) (fun _ => rfl) rfl rfl rfl rfl rfl rfl (fun _ => rfl) (fun _ => rfl) (fun _ => rfl) (fun _ => rfl) (fun _ => rfl) (by rw [e_o_14]; exact mv))))
                        exact s_some ⟨(T_30), ⟨(show (hI o_20.2 x4 0).toInt = m0 ∨ ((hI o_20.2 x4 0).toInt = m0 + 1 ∧ (tt = ss + 2 ∨ tt = ss - 2)) from (by have hq_ := ((thI T_30 r_x4 (k := 14) (i := 0) rfl : Rg (0) (3000) ((hI o_20.2 x4 0))) : Rg (0) (3000) ((hI o_20.2 x4 0))); have := hq_.1; have := hq_.2; have : (hI o_20.2 x4 0).toInt = (hI o_18.2 x4 0).toInt := congrArg Int32.toInt (fr_I f_o_20 r_x4 (by decide) o_x4 rfl); have : (hI o_18.2 x4 0).toInt = (hI o_16.2 x4 0).toInt := congrArg Int32.toInt (fr_I f_o_18 r_x4 (by decide) o_x4 rfl); have : (hI o_16.2 x4 0).toInt = (hI o_14.2 x4 0).toInt := congrArg Int32.toInt (fr_I f_o_16 r_x4 (by decide) o_x4 rfl); have : (hI o_14.2 x4 0).toInt = (hI h x4 0).toInt := congrArg Int32.toInt (he_e e_o_14); have := (i_x2 : Rg (0) (63) (x2)).1; have := (i_x2 : Rg (0) (63) (x2)).2; have := (i_x3 : Rg (0) (63) (x3)).1; have := (i_x3 : Rg (0) (63) (x3)).2; have := (i_x5 : Rg (-1) (1) (x5)).1; have := (i_x5 : Rg (-1) (1) (x5)).2; have := (i_f_6 : Rg (0) (63) (x6)).1; have := (i_f_6 : Rg (0) (63) (x6)).2; have hq_ := ((thI T r_x4 (k := 14) (i := 0) rfl : Rg (0) (3000) ((hI h x4 0))) : Rg (0) (3000) ((hI h x4 0))); have := hq_.1; have := hq_.2; have := nlt_i c_1; have : (0 : Int32).toInt = 0 := rfl; have := nle_i c_4; have hq_ := ((thI T r_x0 (k := 16) (i := 13) rfl : Rg (9) (64) ((hI h x0 13))) : Rg (9) (64) ((hI h x0 13))); have := hq_.1; have := hq_.2; have := eq_i c_7; have hq_ := ((rg_divw i_f_6 (thI T r_x0 (k := 16) (i := 11) rfl : Rg (3) (8) ((hI h x0 11))) (by decide) : Rg (0) (21) ((x6 / (hI h x0 11)))) : Rg (0) (21) ((x6 / (hI h x0 11)))); have := hq_.1; have := hq_.2; have hq_ := ((rg_divw i_x2 (thI T r_x0 (k := 16) (i := 11) rfl : Rg (3) (8) ((hI h x0 11))) (by decide) : Rg (0) (21) ((x2 / (hI h x0 11)))) : Rg (0) (21) ((x2 / (hI h x0 11)))); have := hq_.1; have := hq_.2; have := nle_i c_9; have := (i_f_12 : Rg (1) (24) ((hI h r_7 x6.toNatClampNeg))).1; have := (i_f_12 : Rg (1) (24) ((hI h r_7 x6.toNatClampNeg))).2; clear o_x1 o_x4; omega)), pf_40⟩⟩
                    · have _ := c_28
                      have i_f_41 : Rg (1) (1) (o_18.1) := rg_nlo c_28 i_o_18 (rg_b rfl : Rg (0) (0) (0 : Int32))
                      have pf_42 : MvB x0 x1 x4 o_18.2 := (mv_fr T_23 r_x0 r_x1 r_x4 f_o_18 (fun _ => rfl) (fun _ => rfl) rfl rfl rfl (fun _ => rfl) (fun _ => rfl) rfl rfl rfl rfl rfl rfl (fun _ => rfl) (fun _ => rfl) (fun _ => rfl) (fun _ => rfl) (fun _ => rfl) (mv_fr T_15 r_x0 r_x1 r_x4 f_o_16 (fun _ => rfl) (fun _ => rfl) rfl rfl rfl (fun _ => rfl) (fun _ => rfl) rfl rfl rfl rfl rfl rfl (fun _ => rfl) (fun _ => rfl) (fun _ => rfl) (fun _ => rfl) (fun _ => rfl) (by rw [e_o_14]; exact mv)))
                      exact s_some ⟨(T_27), ⟨(show (hI o_18.2 x4 0).toInt = m0 ∨ ((hI o_18.2 x4 0).toInt = m0 + 1 ∧ (tt = ss + 2 ∨ tt = ss - 2)) from (by have hq_ := ((thI T_27 r_x4 (k := 14) (i := 0) rfl : Rg (0) (3000) ((hI o_18.2 x4 0))) : Rg (0) (3000) ((hI o_18.2 x4 0))); have := hq_.1; have := hq_.2; have : (hI o_18.2 x4 0).toInt = (hI o_16.2 x4 0).toInt := congrArg Int32.toInt (fr_I f_o_18 r_x4 (by decide) o_x4 rfl); have : (hI o_16.2 x4 0).toInt = (hI o_14.2 x4 0).toInt := congrArg Int32.toInt (fr_I f_o_16 r_x4 (by decide) o_x4 rfl); have : (hI o_14.2 x4 0).toInt = (hI h x4 0).toInt := congrArg Int32.toInt (he_e e_o_14); have := (i_x2 : Rg (0) (63) (x2)).1; have := (i_x2 : Rg (0) (63) (x2)).2; have := (i_x3 : Rg (0) (63) (x3)).1; have := (i_x3 : Rg (0) (63) (x3)).2; have := (i_x5 : Rg (-1) (1) (x5)).1; have := (i_x5 : Rg (-1) (1) (x5)).2; have := (i_f_6 : Rg (0) (63) (x6)).1; have := (i_f_6 : Rg (0) (63) (x6)).2; have hq_ := ((thI T r_x4 (k := 14) (i := 0) rfl : Rg (0) (3000) ((hI h x4 0))) : Rg (0) (3000) ((hI h x4 0))); have := hq_.1; have := hq_.2; have := nlt_i c_1; have : (0 : Int32).toInt = 0 := rfl; have := nle_i c_4; have hq_ := ((thI T r_x0 (k := 16) (i := 13) rfl : Rg (9) (64) ((hI h x0 13))) : Rg (9) (64) ((hI h x0 13))); have := hq_.1; have := hq_.2; have := eq_i c_7; have hq_ := ((rg_divw i_f_6 (thI T r_x0 (k := 16) (i := 11) rfl : Rg (3) (8) ((hI h x0 11))) (by decide) : Rg (0) (21) ((x6 / (hI h x0 11)))) : Rg (0) (21) ((x6 / (hI h x0 11)))); have := hq_.1; have := hq_.2; have hq_ := ((rg_divw i_x2 (thI T r_x0 (k := 16) (i := 11) rfl : Rg (3) (8) ((hI h x0 11))) (by decide) : Rg (0) (21) ((x2 / (hI h x0 11)))) : Rg (0) (21) ((x2 / (hI h x0 11)))); have := hq_.1; have := hq_.2; have := nle_i c_9; have := (i_f_12 : Rg (1) (24) ((hI h r_7 x6.toNatClampNeg))).1; have := (i_f_12 : Rg (1) (24) ((hI h r_7 x6.toNatClampNeg))).2; clear o_x1 o_x4; omega)), pf_42⟩⟩
                  · have _ := c_24
                    have i_f_43 : Rg (1) (1) (o_16.1) := rg_nlo c_24 i_o_16 (rg_b rfl : Rg (0) (0) (0 : Int32))
                    have pf_44 : MvB x0 x1 x4 o_16.2 := (mv_fr T_15 r_x0 r_x1 r_x4 f_o_16 (fun _ => rfl) (fun _ => rfl) rfl rfl rfl (fun _ => rfl) (fun _ => rfl) rfl rfl rfl rfl rfl rfl (fun _ => rfl) (fun _ => rfl) (fun _ => rfl) (fun _ => rfl) (fun _ => rfl) (by rw [e_o_14]; exact mv))
                    exact s_some ⟨(T_23), ⟨(show (hI o_16.2 x4 0).toInt = m0 ∨ ((hI o_16.2 x4 0).toInt = m0 + 1 ∧ (tt = ss + 2 ∨ tt = ss - 2)) from (by have hq_ := ((thI T_23 r_x4 (k := 14) (i := 0) rfl : Rg (0) (3000) ((hI o_16.2 x4 0))) : Rg (0) (3000) ((hI o_16.2 x4 0))); have := hq_.1; have := hq_.2; have : (hI o_16.2 x4 0).toInt = (hI o_14.2 x4 0).toInt := congrArg Int32.toInt (fr_I f_o_16 r_x4 (by decide) o_x4 rfl); have : (hI o_14.2 x4 0).toInt = (hI h x4 0).toInt := congrArg Int32.toInt (he_e e_o_14); have := (i_x2 : Rg (0) (63) (x2)).1; have := (i_x2 : Rg (0) (63) (x2)).2; have := (i_x3 : Rg (0) (63) (x3)).1; have := (i_x3 : Rg (0) (63) (x3)).2; have := (i_x5 : Rg (-1) (1) (x5)).1; have := (i_x5 : Rg (-1) (1) (x5)).2; have := (i_f_6 : Rg (0) (63) (x6)).1; have := (i_f_6 : Rg (0) (63) (x6)).2; have hq_ := ((thI T r_x4 (k := 14) (i := 0) rfl : Rg (0) (3000) ((hI h x4 0))) : Rg (0) (3000) ((hI h x4 0))); have := hq_.1; have := hq_.2; have := nlt_i c_1; have : (0 : Int32).toInt = 0 := rfl; have := nle_i c_4; have hq_ := ((thI T r_x0 (k := 16) (i := 13) rfl : Rg (9) (64) ((hI h x0 13))) : Rg (9) (64) ((hI h x0 13))); have := hq_.1; have := hq_.2; have := eq_i c_7; have hq_ := ((rg_divw i_f_6 (thI T r_x0 (k := 16) (i := 11) rfl : Rg (3) (8) ((hI h x0 11))) (by decide) : Rg (0) (21) ((x6 / (hI h x0 11)))) : Rg (0) (21) ((x6 / (hI h x0 11)))); have := hq_.1; have := hq_.2; have hq_ := ((rg_divw i_x2 (thI T r_x0 (k := 16) (i := 11) rfl : Rg (3) (8) ((hI h x0 11))) (by decide) : Rg (0) (21) ((x2 / (hI h x0 11)))) : Rg (0) (21) ((x2 / (hI h x0 11)))); have := hq_.1; have := hq_.2; have := nle_i c_9; have := (i_f_12 : Rg (1) (24) ((hI h r_7 x6.toNatClampNeg))).1; have := (i_f_12 : Rg (1) (24) ((hI h r_7 x6.toNatClampNeg))).2; clear o_x1 o_x4; omega)), pf_44⟩⟩
              · have _ := c_14
                refine s_q (fun v_1q9 e_45 => ?_)
                have i_v_1q9 : Rg (-1) (64) (v_1q9) := by rw [e_45]; exact (rg_add i_f_6 i_x5 (by decide) : Rg (-1) (64) (x6 + x5))
                exact hk_46 o_x1 o_x4 T r_x0 r_x1 i_x2 i_x3 r_x4 i_x5 (rg_m i_v_1q9 (by decide)) (show ((x5).toInt = 1 ∧ (x2).toInt + 3 ≤ (v_1q9).toInt ∧ (x3).toInt = (x2).toInt + 2) ∨ ((x5).toInt = -1 ∧ (v_1q9).toInt ≤ (x2).toInt - 3 ∧ (x3).toInt = (x2).toInt - 2) from (by have := (i_x2 : Rg (0) (63) (x2)).1; have := (i_x2 : Rg (0) (63) (x2)).2; have := (i_x3 : Rg (0) (63) (x3)).1; have := (i_x3 : Rg (0) (63) (x3)).2; have := (i_x5 : Rg (-1) (1) (x5)).1; have := (i_x5 : Rg (-1) (1) (x5)).2; have := (i_v_1q9 : Rg (-1) (64) (v_1q9)).1; have := (i_v_1q9 : Rg (-1) (64) (v_1q9)).2; have : (v_1q9).toInt = (x6 + x5 : Int32).toInt := congrArg Int32.toInt e_45; have : (x6 + x5 : Int32).toInt = (x6 : Int32).toInt + (x5 : Int32).toInt := ti_add (i_f_6 : Rg (0) (63) (x6)) (i_x5 : Rg (-1) (1) (x5)) (by decide); have := (i_f_6 : Rg (0) (63) (x6)).1; have := (i_f_6 : Rg (0) (63) (x6)).2; have hq_ := ((thI T r_x4 (k := 14) (i := 0) rfl : Rg (0) (3000) ((hI h x4 0))) : Rg (0) (3000) ((hI h x4 0))); have := hq_.1; have := hq_.2; have := nlt_i c_1; have : (0 : Int32).toInt = 0 := rfl; have := nle_i c_4; have hq_ := ((thI T r_x0 (k := 16) (i := 13) rfl : Rg (9) (64) ((hI h x0 13))) : Rg (9) (64) ((hI h x0 13))); have := hq_.1; have := hq_.2; have := eq_i c_7; have hq_ := ((rg_divw i_f_6 (thI T r_x0 (k := 16) (i := 11) rfl : Rg (3) (8) ((hI h x0 11))) (by decide) : Rg (0) (21) ((x6 / (hI h x0 11)))) : Rg (0) (21) ((x6 / (hI h x0 11)))); have := hq_.1; have := hq_.2; have hq_ := ((rg_divw i_x2 (thI T r_x0 (k := 16) (i := 11) rfl : Rg (3) (8) ((hI h x0 11))) (by decide) : Rg (0) (21) ((x2 / (hI h x0 11)))) : Rg (0) (21) ((x2 / (hI h x0 11)))); have := hq_.1; have := hq_.2; have := nle_i c_9; have := (i_f_12 : Rg (1) (24) ((hI h r_7 x6.toNatClampNeg))).1; have := (i_f_12 : Rg (1) (24) ((hI h r_7 x6.toNatClampNeg))).2; clear o_x1 o_x4; omega)) tm ro mv cp tn tg (show (0 ≤ (70 - (((v_1q9).toInt - (x2).toInt).natAbs : Int)) ∧ (70 - (((v_1q9).toInt - (x2).toInt).natAbs : Int)) < C_46) from (by have := (i_x2 : Rg (0) (63) (x2)).1; have := (i_x2 : Rg (0) (63) (x2)).2; have := (i_v_1q9 : Rg (-1) (64) (v_1q9)).1; have := (i_v_1q9 : Rg (-1) (64) (v_1q9)).2; have : (v_1q9).toInt = (x6 + x5 : Int32).toInt := congrArg Int32.toInt e_45; have : (x6 + x5 : Int32).toInt = (x6 : Int32).toInt + (x5 : Int32).toInt := ti_add (i_f_6 : Rg (0) (63) (x6)) (i_x5 : Rg (-1) (1) (x5)) (by decide); have := (i_f_6 : Rg (0) (63) (x6)).1; have := (i_f_6 : Rg (0) (63) (x6)).2; have := (i_x5 : Rg (-1) (1) (x5)).1; have := (i_x5 : Rg (-1) (1) (x5)).2; have := (i_x3 : Rg (0) (63) (x3)).1; have := (i_x3 : Rg (0) (63) (x3)).2; have hq_ := ((thI T r_x4 (k := 14) (i := 0) rfl : Rg (0) (3000) ((hI h x4 0))) : Rg (0) (3000) ((hI h x4 0))); have := hq_.1; have := hq_.2; have := nlt_i c_1; have : (0 : Int32).toInt = 0 := rfl; have := nle_i c_4; have hq_ := ((thI T r_x0 (k := 16) (i := 13) rfl : Rg (9) (64) ((hI h x0 13))) : Rg (9) (64) ((hI h x0 13))); have := hq_.1; have := hq_.2; have := eq_i c_7; have hq_ := ((rg_divw i_f_6 (thI T r_x0 (k := 16) (i := 11) rfl : Rg (3) (8) ((hI h x0 11))) (by decide) : Rg (0) (21) ((x6 / (hI h x0 11)))) : Rg (0) (21) ((x6 / (hI h x0 11)))); have := hq_.1; have := hq_.2; have hq_ := ((rg_divw i_x2 (thI T r_x0 (k := 16) (i := 11) rfl : Rg (3) (8) ((hI h x0 11))) (by decide) : Rg (0) (21) ((x2 / (hI h x0 11)))) : Rg (0) (21) ((x2 / (hI h x0 11)))); have := hq_.1; have := hq_.2; have := nle_i c_9; have := (i_f_12 : Rg (1) (24) ((hI h r_7 x6.toNatClampNeg))).1; have := (i_f_12 : Rg (1) (24) ((hI h r_7 x6.toNatClampNeg))).2; clear o_x1 o_x4; omega))
          · have _ := c_8
            refine s_q (fun v_1q10 e_46 => ?_)
            have i_v_1q10 : Rg (-1) (64) (v_1q10) := by rw [e_46]; exact (rg_add i_f_6 i_x5 (by decide) : Rg (-1) (64) (x6 + x5))
            exact hk_46 o_x1 o_x4 T r_x0 r_x1 i_x2 i_x3 r_x4 i_x5 (rg_m i_v_1q10 (by decide)) (show ((x5).toInt = 1 ∧ (x2).toInt + 3 ≤ (v_1q10).toInt ∧ (x3).toInt = (x2).toInt + 2) ∨ ((x5).toInt = -1 ∧ (v_1q10).toInt ≤ (x2).toInt - 3 ∧ (x3).toInt = (x2).toInt - 2) from (by have := (i_x2 : Rg (0) (63) (x2)).1; have := (i_x2 : Rg (0) (63) (x2)).2; have := (i_x3 : Rg (0) (63) (x3)).1; have := (i_x3 : Rg (0) (63) (x3)).2; have := (i_x5 : Rg (-1) (1) (x5)).1; have := (i_x5 : Rg (-1) (1) (x5)).2; have := (i_v_1q10 : Rg (-1) (64) (v_1q10)).1; have := (i_v_1q10 : Rg (-1) (64) (v_1q10)).2; have : (v_1q10).toInt = (x6 + x5 : Int32).toInt := congrArg Int32.toInt e_46; have : (x6 + x5 : Int32).toInt = (x6 : Int32).toInt + (x5 : Int32).toInt := ti_add (i_f_6 : Rg (0) (63) (x6)) (i_x5 : Rg (-1) (1) (x5)) (by decide); have := (i_f_6 : Rg (0) (63) (x6)).1; have := (i_f_6 : Rg (0) (63) (x6)).2; have hq_ := ((thI T r_x4 (k := 14) (i := 0) rfl : Rg (0) (3000) ((hI h x4 0))) : Rg (0) (3000) ((hI h x4 0))); have := hq_.1; have := hq_.2; have := nlt_i c_1; have : (0 : Int32).toInt = 0 := rfl; have := nle_i c_4; have hq_ := ((thI T r_x0 (k := 16) (i := 13) rfl : Rg (9) (64) ((hI h x0 13))) : Rg (9) (64) ((hI h x0 13))); have := hq_.1; have := hq_.2; have := eq_i c_7; have hq_ := ((rg_divw i_f_6 (thI T r_x0 (k := 16) (i := 11) rfl : Rg (3) (8) ((hI h x0 11))) (by decide) : Rg (0) (21) ((x6 / (hI h x0 11)))) : Rg (0) (21) ((x6 / (hI h x0 11)))); have := hq_.1; have := hq_.2; have hq_ := ((rg_divw i_x2 (thI T r_x0 (k := 16) (i := 11) rfl : Rg (3) (8) ((hI h x0 11))) (by decide) : Rg (0) (21) ((x2 / (hI h x0 11)))) : Rg (0) (21) ((x2 / (hI h x0 11)))); have := hq_.1; have := hq_.2; clear o_x1 o_x4; omega)) tm ro mv cp tn tg (show (0 ≤ (70 - (((v_1q10).toInt - (x2).toInt).natAbs : Int)) ∧ (70 - (((v_1q10).toInt - (x2).toInt).natAbs : Int)) < C_46) from (by have := (i_x2 : Rg (0) (63) (x2)).1; have := (i_x2 : Rg (0) (63) (x2)).2; have := (i_v_1q10 : Rg (-1) (64) (v_1q10)).1; have := (i_v_1q10 : Rg (-1) (64) (v_1q10)).2; have : (v_1q10).toInt = (x6 + x5 : Int32).toInt := congrArg Int32.toInt e_46; have : (x6 + x5 : Int32).toInt = (x6 : Int32).toInt + (x5 : Int32).toInt := ti_add (i_f_6 : Rg (0) (63) (x6)) (i_x5 : Rg (-1) (1) (x5)) (by decide); have := (i_f_6 : Rg (0) (63) (x6)).1; have := (i_f_6 : Rg (0) (63) (x6)).2; have := (i_x5 : Rg (-1) (1) (x5)).1; have := (i_x5 : Rg (-1) (1) (x5)).2; have := (i_x3 : Rg (0) (63) (x3)).1; have := (i_x3 : Rg (0) (63) (x3)).2; have hq_ := ((thI T r_x4 (k := 14) (i := 0) rfl : Rg (0) (3000) ((hI h x4 0))) : Rg (0) (3000) ((hI h x4 0))); have := hq_.1; have := hq_.2; have := nlt_i c_1; have : (0 : Int32).toInt = 0 := rfl; have := nle_i c_4; have hq_ := ((thI T r_x0 (k := 16) (i := 13) rfl : Rg (9) (64) ((hI h x0 13))) : Rg (9) (64) ((hI h x0 13))); have := hq_.1; have := hq_.2; have := eq_i c_7; have hq_ := ((rg_divw i_f_6 (thI T r_x0 (k := 16) (i := 11) rfl : Rg (3) (8) ((hI h x0 11))) (by decide) : Rg (0) (21) ((x6 / (hI h x0 11)))) : Rg (0) (21) ((x6 / (hI h x0 11)))); have := hq_.1; have := hq_.2; have hq_ := ((rg_divw i_x2 (thI T r_x0 (k := 16) (i := 11) rfl : Rg (3) (8) ((hI h x0 11))) (by decide) : Rg (0) (21) ((x2 / (hI h x0 11)))) : Rg (0) (21) ((x2 / (hI h x0 11)))); have := hq_.1; have := hq_.2; clear o_x1 o_x4; omega))
        · have _ := c_7
          exact s_some ⟨(T), ⟨(show (hI h x4 0).toInt = m0 ∨ ((hI h x4 0).toInt = m0 + 1 ∧ (tt = ss + 2 ∨ tt = ss - 2)) from (by have hq_ := ((thI T r_x4 (k := 14) (i := 0) rfl : Rg (0) (3000) ((hI h x4 0))) : Rg (0) (3000) ((hI h x4 0))); have := hq_.1; have := hq_.2; have := (i_x2 : Rg (0) (63) (x2)).1; have := (i_x2 : Rg (0) (63) (x2)).2; have := (i_x3 : Rg (0) (63) (x3)).1; have := (i_x3 : Rg (0) (63) (x3)).2; have := (i_x5 : Rg (-1) (1) (x5)).1; have := (i_x5 : Rg (-1) (1) (x5)).2; have := (i_f_6 : Rg (0) (63) (x6)).1; have := (i_f_6 : Rg (0) (63) (x6)).2; have := nlt_i c_1; have : (0 : Int32).toInt = 0 := rfl; have := nle_i c_4; have hq_ := ((thI T r_x0 (k := 16) (i := 13) rfl : Rg (9) (64) ((hI h x0 13))) : Rg (9) (64) ((hI h x0 13))); have := hq_.1; have := hq_.2; have := ne_i c_7; have hq_ := ((rg_divw i_f_6 (thI T r_x0 (k := 16) (i := 11) rfl : Rg (3) (8) ((hI h x0 11))) (by decide) : Rg (0) (21) ((x6 / (hI h x0 11)))) : Rg (0) (21) ((x6 / (hI h x0 11)))); have := hq_.1; have := hq_.2; have hq_ := ((rg_divw i_x2 (thI T r_x0 (k := 16) (i := 11) rfl : Rg (3) (8) ((hI h x0 11))) (by decide) : Rg (0) (21) ((x2 / (hI h x0 11)))) : Rg (0) (21) ((x2 / (hI h x0 11)))); have := hq_.1; have := hq_.2; clear o_x1 o_x4; omega)), mv⟩⟩
