theorem cl_c4 : ∀ w ∈ (((u_ws RX15 TX15 71).drop 56)).take 14, w ∈ tables_1 := by decide +kernel
