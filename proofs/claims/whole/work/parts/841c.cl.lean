theorem cl_in8 : ∀ w ∈ u_ws RX8 TX8 4, w ∈ tables_1 := by decide +kernel
theorem cl_in9 : ∀ w ∈ u_ws RX9 TX9 2, w ∈ tables_1 := by decide +kernel
theorem cl_in10 : ∀ w ∈ u_ws RX10 TX10 9, w ∈ tables_1 := by decide +kernel
theorem cl_in11 : ∀ w ∈ u_ws RX11 TX11 18, w ∈ tables_1 := by decide +kernel
theorem cl_in12 : ∀ w ∈ u_ws RX12 TX12 8, w ∈ tables_1 := by decide +kernel
theorem cl_in13 : ∀ w ∈ u_ws RX13 TX13 8, w ∈ tables_1 := by decide +kernel
