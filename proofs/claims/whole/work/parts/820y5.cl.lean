theorem cl_c5 : ∀ w ∈ ((u_ws RX15 TX15 71).drop 70), w ∈ tables_1 := by decide +kernel
