theorem evB : okQ (kcX15_init 2000000 (qq0 15 71) 0) ckB = true := by decide +kernel
