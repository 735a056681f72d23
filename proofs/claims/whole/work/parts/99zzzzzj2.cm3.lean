theorem chkR_12_0 : chkR 12 0 60 = true := by decide +kernel
theorem chkR_12_60 : chkR 12 60 60 = true := by decide +kernel
