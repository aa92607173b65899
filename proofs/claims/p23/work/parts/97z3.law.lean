/-! THE LAW, case by case -/
theorem lawPart_6 : lawPart 6 = true := by decide +kernel
theorem lawPart_7 : lawPart 7 = true := by decide +kernel
theorem lawPart_8 : lawPart 8 = true := by decide +kernel
