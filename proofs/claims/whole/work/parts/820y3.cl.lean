theorem cl_c3 : ∀ w ∈ (((u_ws RX15 TX15 71).drop 42)).take 14, w ∈ tables_1 := by decide +kernel
