/-! THE CLAIM OUT OF ONE WALK OF THE LAW'S BODY. Your part is whole_start (and what it stands on); all else here is the same for every law, but numbers. -/
def R_law : String := "GameRulesLaw"
def lw_P (b : Addr) (xs : List Int32) (args : Array Value) (s : State) : Prop := args = #[.ref b] ∧ s.IntsAt b xs ∧ xs.length ≤ 3072 ∧ (Jvm.Cond.and given_1 narrow_1).before args s = true
def lw_Q (_ : Array Value) (s : State) (o : Outcome) (t : State) : Prop := o = .returned (some (.int 1)) ∧ Framed s o t [] 600000 7302250
def lw_Z (below : List Frame) (a : Array Value) (s : State) : State → Prop := fun t => ∃ o, t.status = .running ∧ Ended t below o ∧ lw_Q a s o t
/-- the law's own end, with 1 on the stack, nothing written that was there before, its room as the claim has it -/
theorem lw_ret {p : Program} {l : Launch} {e : Env} {s : State} {m : MethodId} {below : List Frame} {meth : Method} {c : Code} {b : Nat} (hx : p.tables.exec = Jvm.exec) (hb : c.code = code) (hr : meth.sig.returnType = ret) (hlocks : meth.locks = false) {pc : Nat} {H : Heap} {ls : Array Slot} (hdg : decode code pc = .ok (.ireturn, 1)) : W p l e room_1 s m #[Value.ref b] below meth c H [] 600000 7302250 (lw_Z below #[Value.ref b] s) (F0 m pc ls [.int 1]) := by
  intro T hT X
  obtain ⟨fs, hret, hrun, hended, hW, hframe⟩ := X.leave (v := some (.int 1)) (hlocks := hlocks) (fun h => by rw [hr] at h; cases h)
  have hmeth' : T.vm.method? m = some meth := X.method'
  refine ⟨T.setFrames fs, ?_, .returned (some (.int 1)), hrun, hended, rfl, ⟨_, rfl⟩, hW, hframe⟩
  jvm_step X.here [X.here.top, hx, hb, hdg, hmeth', hr, ret, narrow_b1]
  (try refine ⟨rfl, ?_⟩); (try refine ⟨rfl, ?_⟩)
  first | (intro acts; rw [hret _ acts rfl rfl rfl]) | rw [hret _ _ rfl rfl rfl]
  exact Steps.refl _
/-- what holds at the law's entry: the machine, the code, the tables' words (any of lw_tbl by 'hts w (by decide +kernel)'), the script of L ints xs at the cell b, what the Statement gives of the start (any of its parts by flat_of_before) -/
def lw_At (p : Program) (s : State) (m : MethodId) (meth : Method) (c : Code) (b L : Nat) (xs : Nat → Int32) : Prop :=
  p.tables.exec = Jvm.exec ∧ c.code = code ∧ meth.sig.returnType = ret ∧ c.maxLocals = 4 ∧ s.vm.findClass R_law = some m.cls ∧ (∀ w ∈ lw_tbl, w.before #[Value.ref b] s = true) ∧ va_X b L xs s s.heap ∧ b < s.heap.size ∧ meth.locks = false ∧ (Jvm.Cond.and given_1 narrow_1).before #[Value.ref b] s = true
section XL
variable {p : Program} {l : Launch} {e : Env} {R : Room} {s : State} {m : MethodId} {args : Array Value} {below : List Frame} {meth : Method} {c : Code} {H : Heap} {locs : List Loc} {cells slots : Nat} {Q : State → Prop}
variable {cc : ByteArray} {pc : Nat} {ls : Array Slot} {rest : List Value} {X : Ec} {h h0 h1 oh : Hp} {own host Cn : String} {nL : Nat} {rt : Option FieldType} {mn : String} {T : u_T} {N index a ci k : Nat} {G : va_G} {cy : Nat → ClassId} {base : Nat}
theorem y_newL (C : Cx X p s m args meth c own cc nL rt mn) (hW : Wx X h H) (hSS : va_S (aA (eB X)) s.heap H locs) (hkl : Kl h0 h) (hle : Le h1 oh) (hR : hS oh - hS h0 ≤ R.cells ∧ hL oh - hL h0 ≤ R.slots) (hin : ∀ w ∈ u_ws Cn T N, w ∈ W0) (ty0 : Nat → FieldType) (hty : ∀ k, k < N → parseFieldDescriptor (T k).2.2.1 = some (ty0 k)) (hci : ci < 16) (hc : classes[ci]? = some (Cn, T, N)) (hN : (tl ci).length = N) (hd : ∀ j, j < N → defaultValue (ty0 j) = dV ((tl ci).getD j 2))
    (w1 : Cond.classLink own index Cn ∈ W0) (w2 : Cond.instantiable Cn N ∈ W0) (w3 : Cond.initialized Cn ∈ W0) (eh : h1 = nC h ci 0 N) (hdg : decode cc pc = .ok (.new index, 3))
    (kk : ∀ (H1 : Heap), Wx X h1 H1 → Kl h h1 → hK h1 (hS h) = ci → va_S (aA (eB X)) s.heap H1 locs → W p l e R s m args below meth c H1 locs (hS h1 - hS h0) (hL h1 - hL h0) Q (F0 m (pc + 3) ls (.ref (hS h) :: rest))) : W p l e R s m args below meth c H locs (hS h - hS h0) (hL h - hL h0) Q (F0 m pc ls rest) := by
  have ok := C.2.2.2.2.1
  have hKn := C.2.2.2.2.2.2.2.1.1 ci _ hc
  have e1S : hS h1 = hS h + 1 := by rw [eh, nC_S]
  have e1L : hL h1 = hL h + N := by rw [eh, nC_L]
  obtain ⟨k1, k2, k3⟩ := hkl
  obtain ⟨l1, l2⟩ := hle
  refine W.newcK C.1 C.2.1 C.2.2.2.1 (ok _ w1) (ok _ w2) (ok _ w3) rfl hdg (by have := hR.1; omega) (by have := hR.2; omega) hKn.2.1 hW.1.1 fun H1 kC hkC e1 z1 o1 => ?_
  have o2 : ∀ q, q < H.size → H1[q]? = H[q]? := fun q hq => o1 q (by rw [← hW.1.1]; exact hq)
  have hb : ∀ a, hK h a < 24 → a < hS h := fun a ha => (hW.1.2.2.1 a ha).2
  have hat : va_at X.1 classes (hS h, cE X.2.1 (nC h ci 0 N) (hS h)) H1 := by
    rw [cE_obj (h := nC h ci 0 N) (ci := ci) (by rw [nC_K, if_pos rfl]) hci]
    refine ⟨_, hc, (u_born ty0 ok hin hKn hkC e1 hty).to (fun j hj => ?_)⟩
    rw [hd j hj]
    have h5 : j < (tl ci).length := by rw [hN]; exact hj
    simp only [vp_V, List.getD_eq_getElem?_getD, fl_get, List.getElem?_eq_getElem h5, Option.map_some, Option.getD_some, nC_fv]
  have hWd := wd_new (G := X.1) (cy := X.2.1) (base := eB X) (k := ci) (n := 0) (z := N) hW.1 (by rw [z1, hW.1.1]) o2 hat
  refine x_wl (h1 := h1) (k := 1) (n := N) (by omega) (by omega) ?_
  refine kk H1 (by rw [eh]; exact ⟨hWd, WF_C hW.2 hb⟩) (by rw [eh]; exact kl_C hb) (by rw [eh, nC_K, if_pos rfl]) ⟨Nat.le_trans hSS.1 (by rw [z1, hW.1.1]; omega), fun x h1 h2 => (o2 x (Nat.lt_of_lt_of_le h1 hSS.1)).trans (hSS.2.1 x h1 h2), hSS.2.2⟩
theorem x_retL {v : Int32} {b : Nat} {o : Int32 × Hp} (C : Cx X p s m #[Value.ref b] meth c RL code 4 ret mn) (hZ : va_S (aA (eB X)) s.heap H locs) (hbase : eB X = s.heap.size) (hRm : hS o.2 - hS h0 ≤ room_1.cells ∧ hL o.2 - hL h0 ≤ room_1.slots) (ho : o.1 = 1) (hE : some (v, h) = some o) (hdg : decode code pc = .ok (.ireturn, 1)) :
    W p l e room_1 s m #[Value.ref b] below meth c H locs (hS h - hS h0) (hL h - hL h0) (lw_Z below #[Value.ref b] s) (F0 m pc ls [.int v]) := by
  obtain rfl := Option.some.inj hE
  obtain rfl : v = 1 := ho
  refine va_forget (fun q hq => by rw [← hbase]; exact hZ.2.2 q hq) ?_
  refine W.widen (k := 600000) (n := 7302250) hRm.1 hRm.2 ?_
  exact lw_ret C.1 C.2.1 C.2.2.2.2.2.1 C.2.2.2.2.2.2.1.1 hdg
end XL
