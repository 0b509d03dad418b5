theorem cl_c0 : ∀ w ∈ ((u_ws RX15 TX15 71)).take 14, w ∈ tables_1 := by decide +kernel
