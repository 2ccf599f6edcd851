theorem zOkL_6 : zOkL 72 12 = true := by decide +kernel
theorem zOkL_7 : zOkL 84 12 = true := by decide +kernel
theorem zOkL_8 : zOkL 96 12 = true := by decide +kernel
