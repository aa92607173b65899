/-! THE LAW, case by case -/
theorem lawPart_3 : lawPart 3 = true := by decide +kernel
theorem lawPart_4 : lawPart 4 = true := by decide +kernel
theorem lawPart_5 : lawPart 5 = true := by decide +kernel
