theorem evWA : okQ (kdX11_init 2000000 (qq0 11 18) 0) (fun a => (([5, 6, 7, 8, 9, 10] : List Nat).all fun k => ckF a k (frA k)) && (decide (cJ a 5 13 = 0) && ckR a rlA)) = true := by decide +kernel
