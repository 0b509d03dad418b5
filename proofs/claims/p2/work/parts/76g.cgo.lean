/-! places keep to the law: settle, go -/
section
variable {ρ : Nat → Nat} {c : Cm} {h o g : Hp} {x0 p q b L F : Nat} {n m : Int} {x1 x2 x3 : Int32}
/-- the row of a copy keeps to the law -/
theorem copy_on {on on2 : Nat} (P : PR ρ p h) (eq : hR h q 0 = some on) (ep : hR h p 0 = some on2) (X : OnX n m on h) (e : sX3_copyFrom F h p q = some o) : OnX n m on2 o := by
  unfold sX3_copyFrom at e
  replace e := cl_s e
  obtain ⟨r1, e1, e⟩ := e
  have y1 : r1 = on := r_eq eq e1
  subst y1
  replace e := cl_s e
  obtain ⟨r2, e2, e⟩ := e
  have y2 : r2 = on2 := r_eq ep e2
  subst y2
  have q2 := P.2.1 r2 e2
  iterate 6 replace e := (gd_s e).2
  replace e := nm_s e
  obtain ⟨h9, w9, e⟩ := e
  have k9 : ∀ a i, hR h9 a i = hR h a i := fun a i => by rw [w9]; rfl
  have X9 : OnX n m r2 h9 := fun s hs z => by
    have u0 : (0 : Int32).toNatClampNeg = 0 := rfl
    have u64 : (64 : Int32).toNatClampNeg = 64 := rfl
    have v : hI h9 r2 s = hI h r1 s := by
      rw [w9, cp_at, if_pos ⟨rfl, by omega, by omega⟩, u0]
      show hI h r1 (0 + (s - 0)) = _
      have : 0 + (s - 0) = s := by omega
      rw [this]
    rw [v] at z ⊢
    exact X s hs z
  exact on_k q2 (cfx_17 F (pr_k k9 P) e) X9
theorem pr_th (T : TH ρ c h) (rp : ρ p = 4) : PR ρ p h := ⟨rp, fun _ e => rr T (thR T rp (i := 0) (k2 := 34) rfl (by decide)) e, fun _ e => rr T (thR T rp (i := 2) (k2 := 36) rfl (by decide)) e, fun _ e => rr T (thR T rp (i := 4) (k2 := 38) rfl (by decide)) e⟩
theorem law_1 (T : TH ρ c h) {L' : Nat} (rL : ρ L = 2) (wL : cw c L = 2102) (rL' : ρ L' = 2) (wL' : cw c L' = 2102) : L' = L := T.1.2.2.2.2.2.2.2.2 L' L (by rw [rL, rL']) (Or.inr ⟨Or.inr rL', by rw [wL, wL']⟩)
theorem pox_of (T : TH ρ c h) (rL : ρ L = 2) (wL : cw c L = 2102) (H : ∀ on, hR h b 0 = some on → OnX (hI h L 2).toInt (hI h L 3).toInt on h) : PoX ρ c b h := fun L' on s rL' wL' eo hs z => by
  rw [law_1 T rL wL rL' wL']
  exact H on eo s hs z
/-- what keeps to the law keeps to it behind such a change -/
theorem pox_k (k : PxC ρ n m h o) (T : TH ρ c h) (rb : ρ b = 4) (rL : ρ L = 2) (wL : cw c L = 2102) (en : n = (hI h L 2).toInt) (em : m = (hI h L 3).toInt) (P : PoX ρ c b h) : PoX ρ c b o := fun L' on s rL' wL' eo hs z => by
  rw [law_1 T rL wL rL' wL', k.2.1 L 2 (by rw [rL]; rfl), k.2.1 L 3 (by rw [rL]; rfl)]
  rw [k.1] at eo
  have qo := th_on T rb eo
  have X : OnX n m on h := fun s hs z => by rw [en, em]; exact P L on s rL wL eo hs z
  have := on_k qo k X s hs z
  rw [en, em] at this
  exact this
theorem plx_k (k : PxC ρ n m h o) (T : TH ρ c h) (r0 : ρ x0 = 12) (rL : ρ L = 2) (wL : cw c L = 2102) (en : n = (hI h L 2).toInt) (em : m = (hI h L 3).toInt) (P : PlX ρ c x0 h) : PlX ρ c x0 o := fun r u er eu i hi nu b eb => by
  rw [k.1] at er eu eb
  have rr' : ρ r = 57 := rr T (thR T r0 (i := 13) (k2 := 57) rfl (by decide)) er
  have ru : ρ u = 58 := rr T (thR T r0 (i := 14) (k2 := 58) rfl (by decide)) eu
  rw [k.2.1 u i (by rw [ru]; rfl)] at nu
  exact pox_k k T (pl_b T rr' hi eb) rL wL en em (P r u er eu i hi nu b eb)
theorem plx_fr {S : Nat → Nat → Nat → Bool} (T : TH ρ c h) (r0 : ρ x0 = 12) (f : Fr ρ (cat c S h) h o) (s13 : ∀ w, S 12 w 13 = false) (s14 : ∀ w, S 12 w 14 = false) (s57 : ∀ w i, S 57 w i = false) (s58 : ∀ w i, S 58 w i = false) (s4 : S 4 3200 0 = false) (s34 : ∀ i, S 34 3200 i = false) (s2 : ∀ w, S 2 w 2 = false) (s3 : ∀ w, S 2 w 3 = false) (P : PlX ρ c x0 h) : PlX ρ c x0 o := fun r u er eu i hi nu b eb L on s rL wL eo hs z => by
  rw [(fr_RI f r0 (by decide) s13).2.2] at er
  rw [(fr_RI f r0 (by decide) s14).2.2] at eu
  have rr' : ρ r = 57 := rr T (thR T r0 (i := 13) (k2 := 57) rfl (by decide)) er
  have ru : ρ u = 58 := rr T (thR T r0 (i := 14) (k2 := 58) rfl (by decide)) eu
  rw [(fr_RI f rr' (by decide) (fun _ => s57 _ _)).2.2] at eb
  rw [(fr_RI f ru (by decide) (fun _ => s58 _ _)).1] at nu
  have rb := pl_b T rr' hi eb
  have wb : cw c b = 3200 := kid_w T rr' (i := i) rfl (by decide) eb
  rw [(f.1 b 0 (by rw [rb]; decide) (by rw [rb]; show S 4 (cw c b) 0 = false; rw [wb]; exact s4)).2.2] at eo
  have qo := th_on T rb eo
  have wo : cw c on = 3200 := th_ih T rb rfl eo wb
  rw [fr_I f qo (by decide) wo (s34 s)] at z ⊢
  rw [(fr_RI f rL (by decide) s2).1, (fr_RI f rL (by decide) s3).1]
  exact P r u er eu i hi nu b eb L on s rL wL eo hs z
theorem settle_x (T : TH ρ c h) (r0 : ρ x0 = 12) (rq : ρ q = 4) (i1 : Rg 0 59 x1) (P : PlX ρ c x0 h) (X : PoX ρ c q h) (e : sX11_settle F h x0 x1 q = some o) : PlX ρ c x0 o := by
  obtain ⟨L, eL, rL⟩ := thR T r0 (i := 2) (k2 := 2) rfl (by decide)
  have wL : cw c L = 2102 := kid_w T r0 (i := 2) (w := 2102) rfl (by decide) eL
  obtain ⟨n, en⟩ : ∃ n : Int, n = (hI h L 2).toInt := ⟨_, rfl⟩
  obtain ⟨m, em⟩ : ∃ m : Int, m = (hI h L 3).toInt := ⟨_, rfl⟩
  have l60 : x1.toNatClampNeg < 60 := by have := rg_clamp (n := 59) i1 (by decide); omega
  obtain ⟨on, eo, qo⟩ := thR T rq (i := 0) (k2 := 34) rfl (by decide)
  unfold sX11_settle at e
  replace e := cl_s e
  obtain ⟨u, eu, e⟩ := e
  have ru : ρ u = 58 := rr T (thR T r0 (i := 14) (k2 := 58) rfl (by decide)) eu
  replace e := (gd_s e).2
  replace e := nm_s e
  obtain ⟨h3, w3, e⟩ := e
  have kR : ∀ a i, hR h3 a i = hR h a i := fun a i => by rw [w3]; rfl
  have kI : ∀ {a k : Nat} (i : Nat), ρ a = k → k ≠ 58 → hI h3 a i = hI h a i := fun {a k} i ra hk => by rw [w3, r_I, if_neg (ne_r ra ru hk)]
  replace e := cl_s e
  obtain ⟨r, er, e⟩ := e
  rw [kR] at er
  have rr' : ρ r = 57 := rr T (thR T r0 (i := 13) (k2 := 57) rfl (by decide)) er
  replace e := (gd_s e).2
  replace e := cl_s e
  obtain ⟨d, ed, e⟩ := e
  rw [kR] at ed
  have rd := pl_b T rr' l60 ed
  have wd : cw c d = 3200 := kid_w T rr' (i := x1.toNatClampNeg) rfl (by decide) ed
  replace e := cl_s e
  obtain ⟨o7, e7, e⟩ := e
  have z := Option.some.inj e
  subst z
  have X3 : OnX n m on h3 := fun s hs z => by
    rw [kI s qo (by decide)] at z ⊢
    rw [en, em]
    exact X L on s rL wL eo hs z
  have Pd : PR ρ d h3 := pr_k kR (pr_th T rd)
  have k7 := copy_x (m := m) (n := n) Pd (by rw [kR]; exact eo) X3 e7
  obtain ⟨ond, eod, qod⟩ := thR T rd (i := 0) (k2 := 34) rfl (by decide)
  have Xd := copy_on (m := m) (n := n) Pd (by rw [kR]; exact eo) (by rw [kR]; exact eod) X3 e7
  intro r' u' er' eu' i hi nu b' eb' L' on' s rL' wL' eo' hs zz
  rw [k7.1, kR] at er' eu' eb' eo'
  have y1 : r' = r := r_eq er er'
  have y2 : u' = u := r_eq eu eu'
  subst y1; subst y2
  have y3 : L' = L := law_1 T rL wL rL' wL'
  subst y3
  have iL : ∀ j, hI o7 L' j = hI h L' j := fun j => by rw [k7.2.1 L' j (by rw [rL']; rfl)]; exact kI j rL' (by decide)
  rw [iL, iL, ← en, ← em]
  have rb' := pl_b T rr' hi eb'
  by_cases v : i = x1.toNatClampNeg
  · rw [v] at eb'
    have y4 : b' = d := r_eq ed eb'
    subst y4
    have y5 : on' = ond := r_eq eod eo'
    subst y5
    exact Xd s hs zz
  · have nu' : ¬ hI h u' i = 0 := fun w => nu (by
      rw [k7.2.1 u' i (by rw [ru]; rfl), w3, r_I, if_neg (fun y => v y.2)]
      exact w)
    have qo' := th_on T rb' eo'
    have Xb : OnX n m on' h3 := fun s hs z => by
      rw [kI s qo' (by decide)] at z ⊢
      rw [en, em]
      exact P r' u' er' eu' i hi nu' b' eb' L' on' s rL wL eo' hs z
    exact on_k qo' k7 Xb s hs zz
end
