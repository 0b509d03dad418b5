theorem cl_c2 : ∀ w ∈ (((u_ws RX15 TX15 71).drop 28)).take 14, w ∈ tables_1 := by decide +kernel
