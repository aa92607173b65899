/-! THE LAW, case by case -/
theorem lawPart_0 : lawPart 0 = true := by decide +kernel
theorem lawPart_1 : lawPart 1 = true := by decide +kernel
theorem lawPart_2 : lawPart 2 = true := by decide +kernel
