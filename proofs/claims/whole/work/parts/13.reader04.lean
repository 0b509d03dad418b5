theorem dX2_faultPlace_0 : decode cX2_faultPlace 0 = .ok (.aload_n 0, 1) := by decide +kernel
theorem dX2_faultPlace_1 : decode cX2_faultPlace 1 = .ok (.getfield 61, 3) := by decide +kernel
theorem dX2_faultPlace_4 : decode cX2_faultPlace 4 = .ok (.ireturn, 1) := by decide +kernel
def sX2_faultPlace (h : Hp) (x0 : Nat) : Option (Int32 × Hp) := some (hI h x0 2, h)
set_option maxRecDepth 20000 in
theorem moX2_faultPlace {o : Int32 × Hp} {h : Hp} {x0 : Nat} (hE : sX2_faultPlace h x0 = some o) : Le h o.2 := by
  exact le_some2 hE
set_option maxRecDepth 20000 in
theorem ct_X2_faultPlace (l : Launch) (X : Ec) {h : Hp} {x0 : Nat} {o : Int32 × Hp} (k_x0 : hK h x0 = 2) (hE : sX2_faultPlace h x0 = some o) : MetI l yX2_faultPlace cX2_faultPlace 1 (some .int) 0 0 X [.ref x0] h o := by
  refine x_met (by decide) (Nat.le_of_ble_eq_true rfl) ?_
  intro p e s m below meth c ls C hl hW hZ
  have hl : lv_has ls 1 [(0, .ref x0)] := hl
  have hkm : Km h h := Km.rf h
  refine lv_aload_n C.1 C.2.1 dX2_faultPlace_0 rfl (lv_at hl 0 rfl) ?_
  refine gf_X2_61 C hW k_x0 dX2_faultPlace_1 ?_
  exact x_iret C rfl rfl hW hZ hkm hE dX2_faultPlace_4
