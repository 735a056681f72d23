theorem chkR_12_240 : chkR 12 240 60 = true := by decide +kernel
theorem chkR_12_300 : chkR 12 300 60 = true := by decide +kernel
