theorem zOkL_13 : zOkL 76 2 = true := by decide +kernel
theorem zOkL_14 : zOkL 78 2 = true := by decide +kernel
theorem zOkL_15 : zOkL 80 2 = true := by decide +kernel
theorem zOkL_16 : zOkL 82 2 = true := by decide +kernel
theorem zOkL_17 : zOkL 84 2 = true := by decide +kernel
theorem zOkL_18 : zOkL 86 2 = true := by decide +kernel
theorem zOkL_19 : zOkL 88 2 = true := by decide +kernel
theorem zOkL_20 : zOkL 90 2 = true := by decide +kernel
