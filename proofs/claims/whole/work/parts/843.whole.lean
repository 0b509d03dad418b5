set_option maxRecDepth 20000 in
theorem whole_start_of (hp : PureLaw) {p : Program} {e : Env} {s : State} {m : MethodId} {below : List Frame} {meth : Method} {c : Code} (l : Launch) {b L : Nat} {xs : Nat → Int32} (hLb : L ≤ 3072) (C0 : lw_At p s m meth c b L xs) : W p l e room_1 s m #[Value.ref b] below meth c s.heap [] 0 0 (lw_Z below #[Value.ref b] s) (entryFrame m ([Value.ref b] : List Value).toArray 4) := by
  obtain ⟨hx, hb, hr, hml, hown, hts, hX, hbl, hlocks, hgv⟩ := id C0
  obtain ⟨X, hbase, hEn⟩ := x_En hts hgv
  have C : Cx X p s m #[Value.ref b] meth c RL code 4 ret meth.name := ⟨hx, hb, hml, hown, fun w hw => hts w (List.mem_filter.mp hw).1, hr, ⟨hlocks, rfl⟩, hEn⟩
  obtain ⟨F, o, hE, ho, hc, hs⟩ := hp s.heap.size L xs hLb
  have hbA : ¬ aA (eB X) b := by
    show ¬ (eB X ≤ b)
    rw [hbase]
    exact Nat.not_le.mpr hbl
  have hW : Wx X (h00 s.heap.size) s.heap := by
    refine ⟨⟨rfl, Nat.le_of_eq hbase, fun a h => absurd h (by show ¬ (99 < 24); decide), fun k q hq => ?_⟩, fun a i b h => absurd h (by show ¬ (99 < 24); decide)⟩
    exfalso
    have e0 : pL (eB X) (hS (h00 s.heap.size)) = [] := by
      show List.range' (eB X) (s.heap.size - eB X) = []
      rw [hbase, Nat.sub_self]
      rfl
    have h0 : wP X.2.1 (eB X) (h00 s.heap.size) = [] := by
      show [] ++ va_pl (pL (eB X) (hS (h00 s.heap.size))) _ = []
      rw [e0]
      rfl
    rw [h0] at hq
    cases hq
  have hl := lv_entry ([.ref b]) (n := 4) (Nat.le_of_ble_eq_true rfl)
  rw [lg_entry_eq]
  have h5 := bL_law (l := l) (e := e) (below := below) (h0 := h00 s.heap.size) (F := F) C hX hbl hbA hbase ⟨hc, by rw [show hL (h00 s.heap.size) = 0 from rfl, Nat.sub_zero]; exact hs⟩ ho (Kl.rf _) hW (va_S.rf (A := aA (eB X)) (H0 := s.heap)) _ hl hE
  rw [Nat.sub_self, Nat.sub_self] at h5
  exact h5
