/-! Common rows for the runs: numbers, heaps, locals. -/
theorem ab_isA_ref (r : Nat) : ab_isA (.ref r) = true := rfl
theorem ab_isA_null : ab_isA .null = true := rfl
theorem ab_clr_int (x : Int32) : ab_clr (.int x) = .int x := rfl
theorem ab_clr_ref (x : Nat) : ab_clr (.ref x) = .ref x := rfl
theorem ab_clr_null : ab_clr .null = .null := rfl
theorem ab_clr_nov : ab_clr ab_nov = ab_nov := rfl
theorem ab_clr_long (x : Int64) : ab_clr (.long x) = ab_nov := rfl
theorem ab_clr_dbl (x : UInt64) : ab_clr (.double x) = ab_nov := rfl
theorem ab_cat_ref (x : Nat) : (Value.ref x).category = 1 := rfl
theorem ab_cat_int (x : Int32) : (Value.int x).category = 1 := rfl
theorem ab_hi_setI (h : ab_Hp) (f : Nat → Nat → Int32) : ab_hi (ab_setI h f) = f := rfl
theorem ab_hr_setI (h : ab_Hp) (f : Nat → Nat → Int32) : ab_hr (ab_setI h f) = ab_hr h := rfl
theorem ab_hl_setI (h : ab_Hp) (f : Nat → Nat → Int32) : ab_hl (ab_setI h f) = ab_hl h := rfl
theorem ab_sh_setI (h : ab_Hp) (f : Nat → Nat → Int32) : ab_sh (ab_setI h f) = ab_sh h := rfl
theorem ab_setI_setI (h : ab_Hp) (f g : Nat → Nat → Int32) : ab_setI (ab_setI h f) g = ab_setI h g := rfl
theorem ab_setI_hi (h : ab_Hp) : ab_setI h (ab_hi h) = h := rfl
theorem nI_add (a b : Nat) : nI a + nI b = nI (a + b) := by simp [nI, Int32.ofNat_add]
theorem nI_mul (a b : Nat) : nI a * nI b = nI (a * b) := by simp [nI, Int32.ofNat_mul]
theorem nI_lt_iff {a b : Nat} (ha : a < 2147483648) (hb : b < 2147483648) : (nI a < nI b) = (a < b) := by
  apply propext
  rw [Int32.lt_iff_toInt_lt, nI_toInt (by omega), nI_toInt (by omega)]
  omega
theorem nI_le_iff {a b : Nat} (ha : a < 2147483648) (hb : b < 2147483648) : (nI a ≤ nI b) = (a ≤ b) := by
  apply propext
  rw [Int32.le_iff_toInt_le, nI_toInt (by omega), nI_toInt (by omega)]
  omega
theorem nI_lt0 {a : Nat} (ha : a < 2147483648) : (nI a < 0) = False := by
  apply propext
  rw [Int32.lt_iff_toInt_lt, nI_toInt (by omega), Int32.toInt_zero]
  simp
  omega
theorem nI_le0 {a : Nat} (ha : a < 2147483648) : (0 ≤ nI a) = True := by
  apply propext
  rw [Int32.le_iff_toInt_le, nI_toInt (by omega), Int32.toInt_zero]
  simp
theorem ab_in_nI {a n : Nat} (h : a < n) (ha : a < 2147483648) : ab_in (nI a) n = true := by
  have h1 : (0 : Int32) ≤ nI a := nI_pos' (by omega)
  simp [ab_in, h1, nI_clamp (show a < 2 ^ 31 by omega), h]
theorem nI_clamp' {a : Nat} (ha : a < 2147483648) : (nI a).toNatClampNeg = a := nI_clamp (by omega)
set_option maxHeartbeats 4000000 in
theorem t_cellAt {h : ab_Hp} {a b n i j : Nat} {Q : ab_O → ab_Hp → Prop} (k1 : (ab_sh h a).1 = 11) (k2 : ab_sh h b = (1, 24)) (r1 : ab_hr h a 0 = some b) (hn : ab_hi h a 1 = nI n) (hi : i < 8) (hj : j < 3) (hn8 : n ≤ 8) :
    wp 6 0 [.ref a, .int (nI i), .int (nI j), ab_nov] [] h Q = Q (.inl (some (.int (if i < n then ab_hi h b (3 * i + j) else -1)))) h := by
  have k2a : (ab_sh h b).1 = 1 := by rw [k2]
  have k2b : (ab_sh h b).2 = 24 := by rw [k2]
  by_cases hin : i < n
  · simp (disch := first | rfl | assumption | omega) only [i6_0, i6_1, i6_4, i6_5, i6_6, i6_9, i6_12, i6_13, i6_16, i6_17, i6_18, i6_21, i6_22, i6_23, i6_24, i6_25, i6_26, i6_27, i6_28, i6_29, i6_30, i6_33, i6_34, i6_35, i6_38, i6_39, i6_42, i6_43, i6_46, i6_47, i6_48, i6_51, i6_52, ab_isA_ref, ab_isA_null, ab_isA_rf, ab_clr_int, ab_clr_ref, ab_clr_null, ab_clr_rf, ab_clr_nov, ab_clr_long, ab_clr_dbl, ab_cat_ref, ab_cat_int, ab_cat_rf, ab_rf_some, ab_rf_none, ab_hi_setI, ab_hr_setI, ab_hl_setI, ab_sh_setI, ab_setI_setI, ab_K_ret, ab_K_void, nI_add, nI_mul, if_true, if_false, ite_true, ite_false, reduceIte, r1, hn, k2b, nI_lt_iff, nI_le_iff, nI_lt0, nI_le0, nI_clamp']
    trace_state
    sorry
  · sorry
