/-! legal moves: of the law's men, to the law's squares -/
abbrev SHL : List (Nat × Nat) := [(34, 999), (35, 999), (36, 999), (37, 999), (38, 999), (4, 5), (4, 6), (4, 7), (4, 8), (4, 9), (4, 10)]
def CS (ρ : Nat → Nat) (c : Cm) (x0 L wy b r a0 a1 on bm bc sh : Nat) (n m : Int) (h : Hp) : Prop := CoB ρ x0 L wy b r a0 a1 on bm bc n m h ∧ LaP ρ x0 L b r on sh n m h ∧ (hI h L 4).toInt < m ∧ ρ bm = 30 ∧ ρ bc = 31 ∧ ¬ cw c b = 1503 ∧ cw c L = 2102
section
variable {ρ : Nat → Nat} {c : Cm} {h o g : Hp} {x0 L wy b r a0 a1 on bm bc sh F : Nat} {n m : Int} {x1 x2 x3 : Int32}
theorem cs_k6 (k : KL6 ρ h o) (C : CS ρ c x0 L wy b r a0 a1 on bm bc sh n m h) : CS ρ c x0 L wy b r a0 a1 on bm bc sh n m o := by
  obtain ⟨B, ⟨⟨e0, e3, e4, e5, eo⟩, ⟨r0, rL, rb, rr', qo⟩, p1, p2, p3, p4, p5, p6, p7⟩, y, k1, k2, k3, k4⟩ := C
  have iL : ∀ i, hI o L i = hI h L i := fun i => k.2.1 L i (by rw [rL]; decide) (by rw [rL]; decide)
  refine ⟨cob_k k B, ⟨⟨by rw [k.1]; exact e0, by rw [k.1]; exact e3, by rw [k.1]; exact e4, by rw [k.1]; exact e5, by rw [k.1]; exact eo⟩, ⟨r0, rL, rb, rr', qo⟩, pr_k k.1 p1, p2, fun s hs z => ?_, by rw [k.2.1 b 5 (by rw [rb]; decide) (by rw [rb]; decide)]; exact p4, by rw [iL]; exact p5, by rw [iL]; exact p6, p7⟩, by rw [iL]; exact y, k1, k2, k3, k4⟩
  rw [k.2.1 on s (by rw [qo]; decide) (by rw [qo]; decide)] at z ⊢
  exact p3 s hs z
theorem cs_fr (T : TH ρ c h) (f : Fr ρ (cat c (fS [(47, 999), (6, 6), (6, 7)] [(1503, SHL)]) h) h o) (C : CS ρ c x0 L wy b r a0 a1 on bm bc sh n m h) : CS ρ c x0 L wy b r a0 a1 on bm bc sh n m o := by
  obtain ⟨⟨⟨e0, e1, e4, e5, f0, f1, eo, g17, g18⟩, ⟨r0, rL, rw', rb, rr', q0, q1, qo, m1, c1⟩, W, O, X, m12, n64, eL2, eL3⟩, ⟨⟨_, e3, _, _, _⟩, _, p1, p2, p3, p4, p5, p6, p7⟩, y, k1, k2, k3, k4⟩ := C
  have fR : ∀ {a k i : Nat}, ρ a = k → k ≠ 0 → (mS SHL k i = false) → (mS [(47, 999), (6, 6), (6, 7)] k i = false) → hR o a i = hR h a i := fun {a k i} ra h0 s1 s2 => (fr_RI f ra h0 (fun _ => fs_cf (Or.inl s1) (by unfold fS; simp [s2]))).2.2
  have fI : ∀ {a k : Nat} (i : Nat), ρ a = k → k ≠ 0 → (mS SHL k i = false) → (mS [(47, 999), (6, 6), (6, 7)] k i = false) → hI o a i = hI h a i := fun {a k} i ra h0 s1 s2 => (fr_RI f ra h0 (fun _ => fs_cf (Or.inl s1) (by unfold fS; simp [s2]))).1
  have won : ¬ cw c on = 1503 := by rw [th_ih T rb rfl eo rfl]; exact k3
  have ion : ∀ s, hI o on s = hI h on s := fun s => fr_I f qo (by decide) (w := cw c on) rfl (fs_cf (Or.inr won) rfl)
  have ib5 : hI o b 5 = hI h b 5 := fr_I f rb (by decide) (w := cw c b) rfl (fs_cf (Or.inr k3) rfl)
  have OX : OnX n m on o := fun s hs z => by rw [ion] at z ⊢; exact O s hs z
  have rsh := p1.1
  have eL : ∀ i, hI o L i = hI h L i := fun i => fI i rL (by decide) rfl rfl
  have E0 : hR o x0 0 = some L := by rw [fR r0 (by decide) rfl rfl]; exact e0
  have E3 : hR o x0 3 = some sh := by rw [fR r0 (by decide) rfl rfl]; exact e3
  have E4 : hR o x0 4 = some b := by rw [fR r0 (by decide) rfl rfl]; exact e4
  have E5 : hR o x0 5 = some r := by rw [fR r0 (by decide) rfl rfl]; exact e5
  have EO : hR o b 0 = some on := by rw [fR rb (by decide) rfl rfl]; exact eo
  refine ⟨⟨⟨E0, by rw [fR r0 (by decide) rfl rfl]; exact e1, E4, E5, by rw [fR rw' (by decide) rfl rfl]; exact f0, by rw [fR rw' (by decide) rfl rfl]; exact f1, EO, by rw [fR rL (by decide) rfl rfl]; exact g17, by rw [fR rL (by decide) rfl rfl]; exact g18⟩, ⟨r0, rL, rw', rb, rr', q0, q1, qo, m1, c1⟩, wy_e (fI 8 rw' (by decide) rfl rfl) (fun i => fI i q0 (by decide) rfl rfl) (fun i => fI i q1 (by decide) rfl rfl) W, OX, fun kk hk => ?_, m12, n64, by rw [eL]; exact eL2, by rw [eL]; exact eL3⟩, ⟨⟨E0, E3, E4, E5, EO⟩, ⟨r0, rL, rb, rr', qo⟩, ⟨rsh, fun q e => p1.2.1 q (by rw [← fR rsh (by decide) rfl rfl]; exact e), fun q e => p1.2.2.1 q (by rw [← fR rsh (by decide) rfl rfl]; exact e), fun q e => p1.2.2.2 q (by rw [← fR rsh (by decide) rfl rfl]; exact e)⟩, p2, OX, by rw [ib5]; exact p4, by rw [eL]; exact p5, by rw [eL]; exact p6, p7⟩, by rw [eL]; exact y, k1, k2, k3, k4⟩
  rw [fI kk k2 (by decide) rfl rfl]
  refine ⟨(X kk hk).1, fun i hi => ?_⟩
  rw [fI _ k1 (by decide) rfl rfl]
  exact (X kk hk).2 i hi
abbrev LQ (r : Nat) (n m : Int) : Int32 × Hp → Prop := fun o => ∀ i : Nat, (i : Int) < o.1.toInt → MvX n m (hI o.2 r i)
theorem cx_217 (hF : 700000 ≤ F) (m4 : c.2.1 4 = true) (hA : pmA c [(47, 999), (6, 6), (6, 7)]) (r0 : ρ x0 = 6) (rr' : ρ r = 47) (T : TH ρ c h) (e5 : hR h x0 5 = some r) (X : LsX x0 r n m h) : Sat (sX5_collect_217 F h x0) (ZQ (ZI ρ c 0 4096) (LQ r n m)) := by
  unfold sX5_collect_217 sX5_collect_239
  obtain ⟨L, eL, rL⟩ := thR T r0 (i := 0) (k2 := 2) rfl (by decide)
  refine s_ref eL ?_
  refine s_dI0 (zX1_has hF T rL (rg_m (rg_b rfl : Rg 2 2 (2 : Int32)) (by decide))) (fun o2 _ e2 _ => ?_)
  rw [e2]
  have fin : ∀ {g : Hp}, TH ρ c g → LsX x0 r n m g → Sat (some (hI g x0 6, g)) (ZQ (ZI ρ c 0 4096) (LQ r n m)) := fun T' X' => s_some ⟨⟨T', (thI T' r0 (k := 6) (i := 6) rfl : Rg 0 4096 _)⟩, X'.2⟩
  refine s_br (fun _ => fin T X) (fun _ => ?_)
  refine s_br (fun _ => fin T X) (fun _ => ?_)
  refine s_dd (zX5_keepTakes hF m4 (pmA_s hA rfl) T r0) (fun o5 ee T5 => ?_)
  exact fin T5 (takes_l r0 rr' e5 X ee)
theorem s_klw {β : Type} {Q : β → Prop} {k : Hp → Option β} {v : Int32} (hF : 700000 ≤ F) (m3 : c.2.1 3 = true) (m4 : c.2.1 4 = true) (hA : pmA c [(47, 999), (6, 6), (6, 7)]) (hi : pmO c 1503 SHL) (T : TH ρ c h) (C : CS ρ c x0 L wy b r a0 a1 on bm bc sh n m h) (X : LsX x0 r n m h) (iv : Rg 0 4095 v) (lv : v.toInt ≤ (hI h x0 6).toInt) (H : ∀ o, TH ρ c o → CS ρ c x0 L wy b r a0 a1 on bm bc sh n m o → LsX x0 r n m o → Fr ρ (cat c (fS [(47, 999), (6, 6), (6, 7)] [(1503, SHL)]) h) h o → Sat (k o) Q) : Sat (cl (sX5_keepLawful F h x0 v) k) Q := by
  have r0 := C.1.2.1.1
  refine s_dd (zX5_keepLawful (c := cat c (fS [(47, 999), (6, 6), (6, 7)] [(1503, SHL)]) h) hF m3 m4 fs_a (fs_o (.head _)) (th_in _ T) r0 iv) (fun o ee T' => ?_)
  have To := th_out T (fs_sub hA (fs_c hi fs_n)) T'
  have f := fr_u T T'.2.2
  exact H o To (cs_fr T f C) (lawful_l C.2.1 X iv.1 lv ee) f
theorem cx_178 (hF : 700000 ≤ F) (m3 : c.2.1 3 = true) (m4 : c.2.1 4 = true) (hA : pmA c [(47, 999), (6, 6), (6, 7)]) (hi : pmO c 1503 SHL) {x6 : Int32} (i3 : Rg 1 4096 x3) (i6 : Rg 0 64 x6) (ln : x6.toInt ≤ n) (sq : ∀ v : Int32, v.toInt < x6.toInt → SqB (c.2.1 50) v) : ∀ (f : Nat) {h : Hp} {x7 : Int32}, TH ρ c h → CS ρ c x0 L wy b r a0 a1 on bm bc sh n m h → LsX x0 r n m h → Rg 0 64 x7 → (64 - x7.toInt).toNat < f → Sat (sX5_collect_178 F f h x0 x3 x6 x7) (ZQ (ZI ρ c 0 4096) (LQ r n m)) := by
  intro f
  induction f with
  | zero => intros; omega
  | succ f ih =>
    intro h x7 T C X i7 hm
    rw [sX5_collect_178]
    have r0 := C.1.2.1.1
    have rr' := C.1.2.1.2.2.2.2.1
    have e5 := C.1.1.2.2.2.1
    refine s_br (fun _ => cx_217 hF m4 hA r0 rr' T e5 X) (fun c1 => ?_)
    refine s_br (fun _ => cx_217 hF m4 hA r0 rr' T e5 X) (fun c2 => ?_)
    have c1 := nle_i c1
    have c2 := nle_i c2
    have b1 := i7.1
    have b2 := i6.2
    have b3 := i3.2
    have ic := (thI T r0 (k := 6) (i := 6) rfl : Rg 0 4096 (hI h x0 6))
    refine s_q (fun v3 e3 => ?_)
    have iv : Rg 0 4095 v3 := by rw [e3]; exact ⟨ic.1, by omega⟩
    have i7' : Rg 0 63 x7 := ⟨by omega, by omega⟩
    refine s_dd (zX5_addDrops hF m3 m4 (pmA_s hA rfl) T r0 i7' (sq x7 c1)) (fun o4 ee T4 => ?_)
    have A := drops_l C.1 X i7' (by omega) ee
    refine s_klw hF m3 m4 hA hi T4 (cs_k6 A.1 C) A.2.1 iv (by rw [e3]; exact A.2.2) (fun o5 T5 C5 X5 _ => ?_)
    refine s_q (fun v6 e6 => ?_)
    have t1 : (1 : Int32).toInt = 1 := rfl
    have ev : v6.toInt = x7.toInt + 1 := by rw [e6, ta (by rw [t1]; omega), t1]
    clear e6
    exact ih T5 C5 X5 ⟨by omega, by omega⟩ (by omega)
theorem cx_151 (hF : 700000 ≤ F) (m3 : c.2.1 3 = true) (m4 : c.2.1 4 = true) (hA : pmA c [(47, 999), (6, 6), (6, 7)]) (hi : pmO c 1503 SHL) (i3 : Rg 1 4096 x3) (T : TH ρ c h) (lw : LwR ρ c h) (C : CS ρ c x0 L wy b r a0 a1 on bm bc sh n m h) (X : LsX x0 r n m h) : Sat (sX5_collect_151 F h x0 x3) (ZQ (ZI ρ c 0 4096) (LQ r n m)) := by
  unfold sX5_collect_151 sX5_collect_173
  have eL := C.1.1.1
  have rL := C.1.2.1.2.1
  have eL2 := C.1.2.2.2.2.2.2.2.1
  have n0 : 0 ≤ n := by rw [← eL2]; exact (thI T rL (k := 2) (i := 2) rfl : Rg 0 64 _).1
  refine s_ref eL ?_
  refine s_dI0 (zX1_has hF T rL (rg_m (rg_b rfl : Rg 1 1 (1 : Int32)) (by decide))) (fun o2 _ e2 _ => ?_)
  rw [e2]
  have z0 : (0 : Int32).toInt = 0 := rfl
  have i0 : Rg 0 64 (0 : Int32) := rg_m (rg_b rfl : Rg 0 0 (0 : Int32)) (by decide)
  refine s_br (fun _ => ?_) (fun _ => ?_)
  · exact cx_178 hF m3 m4 hA hi i3 i0 (by rw [z0]; exact n0) (fun v hv => Or.inr (by rw [z0] at hv; omega)) F T C X i0 (by rw [z0]; omega)
  · refine s_ref eL ?_
    exact cx_178 hF m3 m4 hA hi i3 (thI T rL (k := 2) (i := 2) rfl : Rg 0 64 _) (by rw [eL2]; exact Int.le_refl _) (fun v hv => lw_sq lw rL C.2.2.2.2.2.2 hv) F T C X i0 (by rw [z0]; omega)
theorem cx_39 (hF : 700000 ≤ F) (m3 : c.2.1 3 = true) (m4 : c.2.1 4 = true) (hA : pmA c [(47, 999), (6, 6), (6, 7)]) (hi : pmO c 1503 SHL) (i3 : Rg 1 4096 x3) : ∀ (f : Nat) {h : Hp} {x4 : Int64} {x6 : Int32}, TH ρ c h → LwR ρ c h → HereI ρ c x0 x4 h → CS ρ c x0 L wy b r a0 a1 on bm bc sh n m h → LsX x0 r n m h → Rg 0 64 x6 → (64 - x6.toInt).toNat < f → Sat (sX5_collect_39 F f h x0 x3 x4 x6) (ZQ (ZI ρ c 0 4096) (LQ r n m)) := by
  intro f
  induction f with
  | zero => intros; omega
  | succ f ih =>
    intro h x4 x6 T lw P C X i6 hm
    rw [sX5_collect_39]
    have r0 := C.1.2.1.1
    have rL := C.1.2.1.2.1
    have rb := C.1.2.1.2.2.2.1
    have e4 := C.1.1.2.2.1
    have eon := C.1.1.2.2.2.2.2.2.1
    refine s_br (fun _ => cx_151 hF m3 m4 hA hi i3 T lw C X) (fun c1 => ?_)
    refine s_br (fun _ => cx_151 hF m3 m4 hA hi i3 T lw C X) (fun c2 => ?_)
    refine s_br (fun _ => cx_151 hF m3 m4 hA hi i3 T lw C X) (fun c3 => ?_)
    have c1 := nle_i c1
    have c3 := nle_i c3
    have t64 : (64 : Int32).toInt = 64 := rfl
    have b1 := i6.1
    have b3 := i3.2
    have ic := (thI T r0 (k := 6) (i := 6) rfl : Rg 0 4096 (hI h x0 6))
    refine s_dI0 (zX11_lowest hF T) (fun o4 eb4 e4' i4 => ?_)
    obtain ⟨s, g4⟩ := o4
    replace e4' : g4 = h := e4'
    subst e4'
    have hbit := low_bt eb4 c2
    replace hbit : bitJ x4 s.toNatClampNeg = true := hbit
    replace i4 : Rg 0 63 s := i4
    have cs := clamp_i i4.1
    have s64 : s.toNatClampNeg < 64 := by have := i4.2; omega
    refine s_q (fun v5 e5 => ?_)
    refine s_q (fun v6 e6 => ?_)
    have iv : Rg 0 4095 v6 := by rw [e6]; exact ⟨ic.1, by show (hI g4 x0 6).toInt ≤ 4095; omega⟩
    have sq : SqB (c.2.1 50) s := sq_n ((P b e4).2.1 on _ eon s64 hbit).2 (by rw [cs])
    have mn : 0 ≤ (hI g4 on s.toNatClampNeg).toInt := ((P b e4).2.1 on _ eon s64 hbit).1
    have ls : s.toInt < n := by have := (C.1.2.2.2.1 s.toNatClampNeg s64 mn).1; omega
    have ma : MenAt x0 s g4 := fun p on' ep eo => ((P p ep).2.1 on' _ eo s64 hbit).1
    have P5 : HereI ρ c x0 v5 g4 := by rw [e5]; exact hi_and P
    refine s_dd (zX5_addSteps (c := cat c (fS [(47, 999), (6, 6)] []) g4) hF m3 m4 fs_a (th_in _ T) r0 i4 ma sq) (fun o7 ee7 T7' => ?_)
    have T7 := th_out T (fs_sub (pmA_s hA rfl) fs_n) T7'
    have f7 := fr_u T T7'.2.2
    have A7 := steps_l C.1 X i4 mn ee7
    have C7 := cs_k6 A7.1 C
    have lw7 := lw_fr T f7 (fun _ => rfl) (fun _ => rfl) (fun _ => rfl) lw
    have P7 := hi_fr T r0 f7 (fun _ => rfl) (fun _ => rfl) (fun _ => rfl) (fun _ => rfl) (fun _ _ => ⟨fun _ => rfl, fun _ => rfl⟩) P5
    have fin : ∀ {g : Hp}, TH ρ c g → LwR ρ c g → HereI ρ c x0 v5 g → CS ρ c x0 L wy b r a0 a1 on bm bc sh n m g → LsX x0 r n m g → v6.toInt ≤ (hI g x0 6).toInt → Sat (sX5_collect_139 F (sX5_collect_39 F f) g x0 x3 v5 x6 v6) (ZQ (ZI ρ c 0 4096) (LQ r n m)) := fun {g} Tg lg Pg Cg Xg lv => by
      unfold sX5_collect_139
      refine s_klw hF m3 m4 hA hi Tg Cg Xg iv lv (fun o1 T1 C1 X1 f1 => ?_)
      refine s_q (fun v2 e2 => ?_)
      have t1 : (1 : Int32).toInt = 1 := rfl
      have ev : v2.toInt = x6.toInt + 1 := by rw [e2, ta (by rw [t1]; omega), t1]
      clear e2
      exact ih T1 (lw_fr Tg f1 (fun _ => fs_cf (Or.inl rfl) rfl) (fun _ => fs_cf (Or.inl rfl) rfl) (fun _ => fs_cf (Or.inl rfl) rfl) lg) (hi_fr Tg r0 f1 (fun _ => fs_cf (Or.inl rfl) rfl) (fun _ => fs_cf (Or.inl rfl) rfl) (fun _ => fs_cf (Or.inl rfl) rfl) (fun _ => fs_cf (Or.inl rfl) rfl) (fun w hw => ⟨fun _ => fs_cf (Or.inr hw) rfl, fun _ => fs_cf (Or.inr hw) rfl⟩) Pg) C1 X1 ⟨by omega, by omega⟩ (by omega)
    have lv7 : v6.toInt ≤ (hI o7 x0 6).toInt := by rw [e6]; exact A7.2.2
    have e47 := C7.1.1.2.2.1
    obtain ⟨ra, era, rra⟩ := thR T7 rb (i := 2) (k2 := 36) rfl (by decide)
    refine s_ref e47 (s_ref era (s_ref e47 ?_))
    have isd := (thI T7 rb (k := 4) (i := 5) rfl : Rg 0 1 (hI o7 b 5))
    refine s_gd (by rw [thN T7 rra (k := 36) (n := 2) rfl (by decide)]; exact rg_inB isd (by decide)) ?_
    refine s_br (fun c8 => ?_) (fun _ => fin T7 lw7 P7 C7 A7.2.1 lv7)
    refine s_ref e47 ?_
    refine s_br (fun _ => fin T7 lw7 P7 C7 A7.2.1 lv7) (fun c9 => ?_)
    have ryL : 0 ≤ (hI o7 L 4).toInt := (P7 b e47).2.2 ra era (hI o7 b 5).toNatClampNeg (by have := rg_clamp (n := 1) isd (by decide); omega) (by rw [← c8]; exact i4.1) L rL C7.2.2.2.2.2.2
    have ry : ∀ L', hR o7 x0 0 = some L' → 0 ≤ (hI o7 L' 4).toInt := fun L' eL => by
      have q : L' = L := r_eq C7.1.1.1 eL
      rw [q]; exact ryL
    refine s_dd (zX5_addCastling (c := cat c (fS [(47, 999), (6, 6)] []) o7) hF m3 m4 fs_a (th_in _ T7) r0 i4 (rg_m (rg_b rfl : Rg (-1) (-1) (-1 : Int32)) (by decide)) (rg_m iv (by decide)) sq (Or.inr rfl) ry) (fun o15 ee15 T15' => ?_)
    have T15 := th_out T7 (fs_sub (pmA_s hA rfl) fs_n) T15'
    have f15 := fr_u T7 T15'.2.2
    have A15 := castl_l hF T7 C7.1 A7.2.1 i4 ls sq (rg_m (rg_b rfl : Rg (-1) (-1) (-1 : Int32)) (by decide)) (Or.inr rfl) iv.1 ryL C7.2.2.1 ee15
    have C15 := cs_k6 A15.1 C7
    have lw15 := lw_fr T7 f15 (fun _ => rfl) (fun _ => rfl) (fun _ => rfl) lw7
    have P15 := hi_fr T7 r0 f15 (fun _ => rfl) (fun _ => rfl) (fun _ => rfl) (fun _ => rfl) (fun _ _ => ⟨fun _ => rfl, fun _ => rfl⟩) P7
    have ryL15 : 0 ≤ (hI o15 L 4).toInt := by rw [A15.1.2.1 L 4 (by rw [rL]; decide) (by rw [rL]; decide)]; exact ryL
    have ry15 : ∀ L', hR o15 x0 0 = some L' → 0 ≤ (hI o15 L' 4).toInt := fun L' eL => by
      have q : L' = L := r_eq C15.1.1.1 eL
      rw [q]; exact ryL15
    refine s_dd (zX5_addCastling (c := cat c (fS [(47, 999), (6, 6)] []) o15) hF m3 m4 fs_a (th_in _ T15) r0 i4 (rg_m (rg_b rfl : Rg 1 1 (1 : Int32)) (by decide)) (rg_m iv (by decide)) sq (Or.inl rfl) ry15) (fun o16 ee16 T16' => ?_)
    have T16 := th_out T15 (fs_sub (pmA_s hA rfl) fs_n) T16'
    have f16 := fr_u T15 T16'.2.2
    have A16 := castl_l hF T15 C15.1 A15.2.1 i4 ls sq (rg_m (rg_b rfl : Rg 1 1 (1 : Int32)) (by decide)) (Or.inl rfl) iv.1 ryL15 C15.2.2.1 ee16
    have C16 := cs_k6 A16.1 C15
    exact fin T16 (lw_fr T15 f16 (fun _ => rfl) (fun _ => rfl) (fun _ => rfl) lw15) (hi_fr T15 r0 f16 (fun _ => rfl) (fun _ => rfl) (fun _ => rfl) (fun _ => rfl) (fun _ _ => ⟨fun _ => rfl, fun _ => rfl⟩) P15) C16 A16.2.1 (Int.le_trans lv7 (Int.le_trans A15.2.2 A16.2.2))
end
