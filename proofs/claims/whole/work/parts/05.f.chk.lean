theorem zOkL_21 : zOkL 92 2 = true := by decide +kernel
theorem zOkL_22 : zOkL 94 2 = true := by decide +kernel
theorem zOkL_23 : zOkL 96 2 = true := by decide +kernel
theorem zOkL_24 : zOkL 98 2 = true := by decide +kernel
theorem zOkL_25 : zOkL 100 2 = true := by decide +kernel
theorem zOkL_26 : zOkL 102 2 = true := by decide +kernel
theorem zOkL_27 : zOkL 104 2 = true := by decide +kernel
theorem zOkL_28 : zOkL 106 2 = true := by decide +kernel
