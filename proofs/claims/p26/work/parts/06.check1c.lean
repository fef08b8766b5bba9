/-! The checks of the law. -/
theorem ab_k89_0 : ab_c89_0.all (ab_ch 89) = true := by decide +kernel
theorem ab_k89_1 : ab_c89_1.all (ab_ch 89) = true := by decide +kernel
theorem ab_k89_2 : ab_c89_2.all (ab_ch 89) = true := by decide +kernel
theorem ab_k89_3 : ab_c89_3.all (ab_ch 89) = true := by decide +kernel
theorem ab_k89_4 : ab_c89_4.all (ab_ch 89) = true := by decide +kernel
theorem ab_k90_0 : ab_c90_0.all (ab_ch 90) = true := by decide +kernel
theorem ab_k90_1 : ab_c90_1.all (ab_ch 90) = true := by decide +kernel
theorem ab_k91_0 : ab_c91_0.all (ab_ch 91) = true := by decide +kernel
theorem ab_k91_1 : ab_c91_1.all (ab_ch 91) = true := by decide +kernel
theorem ab_k91_2 : ab_c91_2.all (ab_ch 91) = true := by decide +kernel
