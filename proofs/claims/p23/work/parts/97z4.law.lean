/-! THE LAW, case by case -/
theorem lawPart_9 : lawPart 9 = true := by decide +kernel
theorem lawPart_10 : lawPart 10 = true := by decide +kernel
theorem lawPart_11 : lawPart 11 = true := by decide +kernel
