theorem cl_c1 : ∀ w ∈ (((u_ws RX15 TX15 71).drop 14)).take 14, w ∈ tables_1 := by decide +kernel
