/-! The checks of the law, on. -/
theorem ab_k92_0 : ab_c92_0.all (ab_ch 92) = true := by decide +kernel
theorem ab_k92_1 : ab_c92_1.all (ab_ch 92) = true := by decide +kernel
theorem ab_k93_0 : ab_c93_0.all (ab_ch 93) = true := by decide +kernel
theorem ab_k93_1 : ab_c93_1.all (ab_ch 93) = true := by decide +kernel
theorem ab_k93_2 : ab_c93_2.all (ab_ch 93) = true := by decide +kernel
