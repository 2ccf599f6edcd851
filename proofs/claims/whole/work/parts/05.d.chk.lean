theorem zOkL_5 : zOkL 60 2 = true := by decide +kernel
theorem zOkL_6 : zOkL 62 2 = true := by decide +kernel
theorem zOkL_7 : zOkL 64 2 = true := by decide +kernel
theorem zOkL_8 : zOkL 66 2 = true := by decide +kernel
theorem zOkL_9 : zOkL 68 2 = true := by decide +kernel
theorem zOkL_10 : zOkL 70 2 = true := by decide +kernel
theorem zOkL_11 : zOkL 72 2 = true := by decide +kernel
theorem zOkL_12 : zOkL 74 2 = true := by decide +kernel
