theorem zOkL_0 : zOkL 0 12 = true := by decide +kernel
theorem zOkL_1 : zOkL 12 12 = true := by decide +kernel
theorem zOkL_2 : zOkL 24 12 = true := by decide +kernel
