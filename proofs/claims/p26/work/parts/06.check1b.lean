/-! The checks, on. -/
theorem ab_k80_0 : ab_c80_0.all (ab_ch 80) = true := by decide +kernel
theorem ab_k81_0 : ab_c81_0.all (ab_ch 81) = true := by decide +kernel
theorem ab_k82_0 : ab_c82_0.all (ab_ch 82) = true := by decide +kernel
theorem ab_k83_0 : ab_c83_0.all (ab_ch 83) = true := by decide +kernel
theorem ab_k84_0 : ab_c84_0.all (ab_ch 84) = true := by decide +kernel
theorem ab_k85_0 : ab_c85_0.all (ab_ch 85) = true := by decide +kernel
theorem ab_k86_0 : ab_c86_0.all (ab_ch 86) = true := by decide +kernel
theorem ab_k87_0 : ab_c87_0.all (ab_ch 87) = true := by decide +kernel
theorem ab_k87_1 : ab_c87_1.all (ab_ch 87) = true := by decide +kernel
theorem ab_k87_2 : ab_c87_2.all (ab_ch 87) = true := by decide +kernel
theorem ab_k88_0 : ab_c88_0.all (ab_ch 88) = true := by decide +kernel
