theorem zOkL_3 : zOkL 36 12 = true := by decide +kernel
theorem zOkL_4 : zOkL 48 12 = true := by decide +kernel
