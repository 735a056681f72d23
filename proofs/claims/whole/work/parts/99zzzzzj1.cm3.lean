theorem chkR_0 : chkR 0 0 60 = true := by decide +kernel
theorem chkR_1 : chkR 1 0 60 = true := by decide +kernel
theorem chkR_2 : chkR 2 0 60 = true := by decide +kernel
theorem chkR_3 : chkR 3 0 60 = true := by decide +kernel
theorem chkR_4 : chkR 4 0 60 = true := by decide +kernel
theorem chkR_5 : chkR 5 0 60 = true := by decide +kernel
theorem chkR_6 : chkR 6 0 60 = true := by decide +kernel
theorem chkR_7 : chkR 7 0 60 = true := by decide +kernel
theorem chkR_8 : chkR 8 0 60 = true := by decide +kernel
theorem chkR_9 : chkR 9 0 60 = true := by decide +kernel
theorem chkR_10 : chkR 10 0 60 = true := by decide +kernel
theorem chkR_11 : chkR 11 0 60 = true := by decide +kernel
theorem ccB_0 : ccB 0 = true := by decide +kernel
theorem ccB_1 : ccB 1 = true := by decide +kernel
theorem ccB_2 : ccB 2 = true := by decide +kernel
theorem ccB_3 : ccB 3 = true := by decide +kernel
theorem ccB_4 : ccB 4 = true := by decide +kernel
theorem ccB_5 : ccB 5 = true := by decide +kernel
theorem ccB_6 : ccB 6 = true := by decide +kernel
theorem ccB_7 : ccB 7 = true := by decide +kernel
theorem ccB_8 : ccB 8 = true := by decide +kernel
theorem ccB_9 : ccB 9 = true := by decide +kernel
theorem ccB_10 : ccB 10 = true := by decide +kernel
theorem ccB_11 : ccB 11 = true := by decide +kernel
theorem cc_im : tbW 26 (.instanceMethod Lib.objectInit) = true := by decide +kernel
theorem cc_co : tbW 27 (.code Lib.objectInit ⟨#[0xb1]⟩ 1 none) = true := by decide +kernel
theorem cc_ai : tbW 111 (.arrayClass .int) = true := by decide +kernel
theorem cc_az : tbW 270 (.arrayClass .boolean) = true := by decide +kernel
theorem cc_aj : tbW 1469 (.arrayClass .long) = true := by decide +kernel
