theorem evA : okQ (kdX11_init 2000000 (qq0 11 18) 0) ckA = true := by decide +kernel
