/-! position: places keep to the law -/
def SqA (ρ : Nat → Nat) (c : Cm) (h : Hp) : Prop := ∀ L, ρ L = 2 → cw c L = 2102 → (hI h L 0).toInt * (hI h L 1).toInt = (hI h L 2).toInt
section
variable {ρ : Nat → Nat} {c : Cm} {h o g : Hp} {x0 p q b L F : Nat} {n m : Int} {x1 x2 x3 : Int32}
theorem plx_flag {u : Nat} {i0 : Nat} {v : Int32} (T : TH ρ c h) (r0 : ρ x0 = 12) (eu : hR h x0 14 = some u) (P : ∀ r, hR h x0 13 = some r → ∀ i, i < 60 → (¬ i = i0 → ¬ hI h u i = 0) → ∀ b, hR h r i = some b → PoX ρ c b h) : PlX ρ c x0 (wI h u i0 v) := fun r u' er eu' i hi nu b eb => by
  have er' : hR h x0 13 = some r := er
  have eu'' : hR h x0 14 = some u' := eu'
  have eb' : hR h r i = some b := eb
  have y : u' = u := r_eq eu eu''
  subst y
  have ru : ρ u' = 58 := rr T (thR T r0 (i := 14) (k2 := 58) rfl (by decide)) eu
  have rr' : ρ r = 57 := rr T (thR T r0 (i := 13) (k2 := 57) rfl (by decide)) er'
  have A := P r er' i hi (fun ni z => nu (by rw [r_I, if_neg (fun w => ni w.2)]; exact z)) b eb'
  have rb := pl_b T rr' hi eb'
  intro L on s rL wL eo hs z
  have eo' : hR h b 0 = some on := eo
  have qo := th_on T rb eo'
  have kon : hI (wI h u' i0 v) on s = hI h on s := by rw [r_I, if_neg (ne_r qo ru (by decide))]
  have kL : ∀ j, hI (wI h u' i0 v) L j = hI h L j := fun j => by rw [r_I, if_neg (ne_r rL ru (by decide))]
  rw [kon] at z
  rw [kL, kL, kon]
  exact A L on s rL wL eo' hs z
theorem plx_clear (hF : 700000 ≤ F) {y : Int32} {o : Int32 × Hp} (hO : pmO c 2100 [(10, 1)]) (T : TH ρ c h) (r0 : ρ x0 = 12) (P : PlX ρ c x0 h) (e : sX11_position_104 F h x0 y = some o) : PlX ρ c x0 o.2 := by
  unfold sX11_position_104 at e
  replace e := cl_s e
  obtain ⟨t, et, e⟩ := e
  have rt : ρ t = 10 := rr T (thR T r0 (i := 0) (k2 := 10) rfl (by decide)) et
  have wt : cw c t = 2100 := kid_w T r0 (i := 0) rfl (by decide) et
  replace e := cl_s e
  obtain ⟨o2, e2, e⟩ := e
  have Z := sat_e (zX9_clear hF (c := cat c (fS [] [(2100, [(10, 1)])]) h) (by rw [show cw (cat c (fS [] [(2100, [(10, 1)])]) h) t = 2100 from wt]; exact fs_o (.head _)) (th_in _ T) rt) e2
  have f2 := fr_u T Z.2.2
  rw [← Option.some.inj e]
  exact plx_fr T r0 f2 (fun _ => rfl) (fun _ => rfl) (fun _ _ => rfl) (fun _ _ => rfl) rfl (fun _ => rfl) (fun _ => rfl) (fun _ => rfl) P
theorem position_x (hF : 700000 ≤ F) (h8 : pmA c [(8, 1), (8, 2), (58, 999)]) (h32 : pmO c 3200 SHL) (hO : pmO c 2100 [(10, 1)]) (T : TH ρ c h) (r0 : ρ x0 = 12) (lw : LwR ρ c h) (sq : SqA ρ c h) (P : PlX ρ c x0 h) {o : Int32 × Hp} (e : sX11_position F h x0 = some o) : PlX ρ c x0 o.2 := by
  obtain ⟨L, eL, rL⟩ := thR T r0 (i := 2) (k2 := 2) rfl (by decide)
  have wL : cw c L = 2102 := kid_w T r0 (i := 2) (w := 2102) rfl (by decide) eL
  unfold sX11_position at e
  replace e := cl_s e
  obtain ⟨o1, e1, e⟩ := e
  have Z1 := sat_e (zX11_freePlace hF T r0) e1
  rw [Z1.1] at e
  replace e := br_s e
  rcases e with ⟨_, e⟩ | ⟨n1, e⟩
  · exact plx_clear hF hO T r0 P e
  have ip : Rg 0 59 o1.1 := rg_nlo n1 Z1.2 (rg_b rfl : Rg (-1) (-1) (-1 : Int32))
  have l60 : o1.1.toNatClampNeg < 60 := by have := rg_clamp (n := 59) ip (by decide); omega
  replace e := cl_s e
  obtain ⟨r, er, e⟩ := e
  have rr' : ρ r = 57 := rr T (thR T r0 (i := 13) (k2 := 57) rfl (by decide)) er
  replace e := (gd_s e).2
  replace e := cl_s e
  obtain ⟨d, ed, e⟩ := e
  have rd := pl_b T rr' l60 ed
  have wd : cw c d = 3200 := kid_w T rr' (i := o1.1.toNatClampNeg) rfl (by decide) ed
  obtain ⟨ond, eod, qod⟩ := thR T rd (i := 0) (k2 := 34) rfl (by decide)
  replace e := cl_s e
  obtain ⟨sc, esc, e⟩ := e
  have rsc : ρ sc = 8 := rr T (thR T r0 (i := 7) (k2 := 8) rfl (by decide)) esc
  replace e := cl_s e
  obtain ⟨t, et, e⟩ := e
  have rt : ρ t = 10 := rr T (thR T r0 (i := 0) (k2 := 10) rfl (by decide)) et
  replace e := cl_s e
  obtain ⟨o8, e8, e⟩ := e
  obtain ⟨L8, eL8, rL8⟩ := thR T rsc (i := 0) (k2 := 2) rfl (by decide)
  have wL8 : cw c L8 = 2102 := kid_w T rsc (i := 0) (w := 2102) rfl (by decide) eL8
  have yL : L8 = L := law_1 T rL wL rL8 wL8
  subst yL
  have h8' : pmA c [(8, 1), (8, 2)] := pmA_s h8 rfl
  have Z8 := sat_e (zX7_read hF h8' (pmO_s h32 rfl) rfl wd T rsc rt rd lw) e8
  have T8 := Z8.1.1
  obtain ⟨k8, X8⟩ := read_x (n := (hI h L8 2).toInt) (m := (hI h L8 3).toInt) h8' T rsc rt rd eL8 ⟨rL, thI T rL (k := 2) (i := 0) rfl, thI T rL (k := 2) (i := 1) rfl, sq L8 rL wL⟩ rfl (thI T rL (k := 2) (i := 3) (lo := 0) (hi := 12) rfl).2 eod e8
  have R8 : ∀ a i, ¬ a = sc → hR o8.2 a i = hR h a i := fun a i na => by
    rw [k8.1, r_R, if_neg (fun z => na z.1)]
  have I8 : ∀ a i, kr (ρ a) = false → hI o8.2 a i = hI h a i := fun a i na => k8.2.1 a i na
  have nsc : ∀ {a k : Nat}, ρ a = k → k ≠ 8 → ¬ a = sc := fun {a k} ra hk z => hk (by rw [← ra, z]; exact rsc)
  have er8 : hR o8.2 x0 13 = some r := by rw [R8 x0 13 (nsc r0 (by decide))]; exact er
  have iL : ∀ j, hI o8.2 L8 j = hI h L8 j := fun j => I8 L8 j (by rw [rL]; rfl)
  -- all places that were used, and the one that is read
  have all : ∀ u, hR o8.2 x0 14 = some u → ∀ r', hR o8.2 x0 13 = some r' → ∀ i, i < 60 → (¬ i = o1.1.toNatClampNeg → ¬ hI o8.2 u i = 0) → ∀ b, hR o8.2 r' i = some b → PoX ρ c b o8.2 := fun u eu r' er' i hi nu b eb => by
    have y1 : r' = r := r_eq er8 er'
    subst y1
    rw [R8 x0 14 (nsc r0 (by decide))] at eu
    have ru : ρ u = 58 := rr T (thR T r0 (i := 14) (k2 := 58) rfl (by decide)) eu
    rw [R8 r' i (nsc rr' (by decide))] at eb
    have rb := pl_b T rr' hi eb
    refine pox_of T8 rL wL (fun on eo => ?_)
    rw [R8 b 0 (nsc rb (by decide))] at eo
    have qo := th_on T rb eo
    rw [iL, iL]
    by_cases v : i = o1.1.toNatClampNeg
    · rw [v] at eb
      have y4 : b = d := r_eq ed eb
      subst y4
      have y5 : on = ond := r_eq eod eo
      subst y5
      exact X8
    · have nu' : ¬ hI h u i = 0 := fun w => nu v (by rw [I8 u i (by rw [ru]; rfl)]; exact w)
      have A := P r' u er eu i hi nu' b eb
      exact onr_k qo k8 (fun s hs z => A L8 on s rL wL eo hs z)
  have b75 : ∀ {x4 x5 t0 : Int32} {u : Nat}, hR o8.2 x0 14 = some u → sX11_position_75 F o8.2 x0 o1.1 x4 x5 t0 o1.1 u = some o → PlX ρ c x0 o.2 := fun {x4 x5 t0 u} eu e => by
    have ru : ρ u = 58 := rr T8 (thR T8 r0 (i := 14) (k2 := 58) rfl (by decide)) eu
    unfold sX11_position_75 sX11_position_103 at e
    replace e := (gd_s e).2
    replace e := nm_s e
    obtain ⟨h2, w2, e⟩ := e
    have T2 : TH ρ c h2 := by rw [w2]; exact th_wI T8 ru (k := 58) (lo := 0) (hi := 1) rfl (rg_narz _) (by decide) (by decide) (pm_a h8 rfl)
    have P2 : PlX ρ c x0 h2 := by rw [w2]; exact plx_flag T8 r0 eu (all u eu)
    replace e := br_s e
    rcases e with ⟨_, e⟩ | ⟨_, e⟩
    · replace e := br_s e
      rcases e with ⟨_, e⟩ | ⟨_, e⟩
      · exact plx_clear hF hO T2 r0 P2 e
      · exact plx_clear hF hO T2 r0 P2 e
    · exact plx_clear hF hO T2 r0 P2 e
  have b52 : ∀ {x4 t0 : Int32}, sX11_position_52 F o8.2 x0 o1.1 x4 t0 = some o → PlX ρ c x0 o.2 := fun {x4 t0} e => by
    unfold sX11_position_52 sX11_position_74 at e
    replace e := cl_s e
    obtain ⟨u, eu, e⟩ := e
    replace e := br_s e
    rcases e with ⟨_, e⟩ | ⟨_, e⟩
    · replace e := br_s e
      rcases e with ⟨_, e⟩ | ⟨_, e⟩
      · exact b75 eu e
      · exact b75 eu e
    · exact b75 eu e
  replace e := br_s e
  rcases e with ⟨_, e⟩ | ⟨_, e⟩
  · replace e := cl_s e
    obtain ⟨r10, g10, e⟩ := e
    have q10 : ρ r10 = 6 := rr T8 (thR T8 r0 (i := 6) (k2 := 6) rfl (by decide)) g10
    replace e := cl_s e
    obtain ⟨o11, e11, e⟩ := e
    have q11 := (sat_e (zX5_faultOf hF T8 q10 rd (Or.inr Z8.2.2.1)) e11).1
    rw [q11] at e
    exact b52 e
  · exact b52 e
end
