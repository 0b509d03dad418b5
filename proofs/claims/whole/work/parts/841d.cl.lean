theorem cl_in14 : ∀ w ∈ u_ws RX14 TX14 24, w ∈ tables_1 := by decide +kernel
