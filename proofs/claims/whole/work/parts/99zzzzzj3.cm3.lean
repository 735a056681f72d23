theorem chkR_12_120 : chkR 12 120 60 = true := by decide +kernel
theorem chkR_12_180 : chkR 12 180 60 = true := by decide +kernel
