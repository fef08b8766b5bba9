/-! Doubles: the numbers that a share goes through. -/
def ab_nb (k m : Nat) : UInt64 := UInt64.ofNat (k * 4503599627370496 + m)
theorem ab_nb_nat {k m : Nat} (hk : k ≤ 2046) (hm : m < 4503599627370496) : (ab_nb k m).toNat = k * 4503599627370496 + m := by
  have e : (ab_nb k m).toNat = (k * 4503599627370496 + m) % 2 ^ 64 := UInt64.toNat_ofNat'
  rw [e]
  omega
theorem ab_f1 : FP.Core.b64.tails = 4503599627370496 := rfl
theorem ab_f2 : FP.Core.b64.exps = 2048 := rfl
theorem ab_f3 : FP.Core.b64.qmin = -1074 := rfl
theorem ab_f4 : FP.Core.b64.qmax = 971 := rfl
theorem ab_f5 : (2 : Nat) ^ 52 = 4503599627370496 := rfl
theorem ab_f6 : (2 : Nat) ^ 53 = 9007199254740992 := rfl
theorem ab_dbd {k m : Nat} (h1 : 1 ≤ k) (hk : k ≤ 2046) (hm : m < 4503599627370496) : FP.Core.decode FP.Core.b64 (ab_nb k m).toNat = .fin false (4503599627370496 + m) ((k : Int) - 1075) := by
  rw [ab_nb_nat hk hm]
  have e1 : FP.Core.fieldE FP.Core.b64 (k * 4503599627370496 + m) = k := by
    unfold FP.Core.fieldE
    rw [ab_f1, ab_f2]
    omega
  have e2 : FP.Core.fieldT FP.Core.b64 (k * 4503599627370496 + m) = m := by
    unfold FP.Core.fieldT
    rw [ab_f1]
    omega
  have e3 : FP.Core.fieldS FP.Core.b64 (k * 4503599627370496 + m) = false := by
    unfold FP.Core.fieldS
    rw [ab_f1, ab_f2]
    have : (k * 4503599627370496 + m) / 4503599627370496 / 2048 % 2 = 0 := by omega
    rw [this]
    rfl
  unfold FP.Core.decode
  rw [e1, e2, e3, ab_f2, ab_f1, ab_f3, if_neg (by omega), if_neg (by omega), show (-1074 : Int) + ((k : Int) - 1) = (k : Int) - 1075 by omega]
theorem ab_round1 {c a : Nat} {q : Int} {s : Bool} (h1 : 4503599627370496 ≤ c) (h2 : c < 9007199254740992) (hq1 : -1074 ≤ q) (hq2 : q ≤ 971) : FP.Core.roundRatio FP.Core.b64 s (c * 2 ^ a) 1 (q - (a : Int)) = .fin s c q := by
  have hp : 0 < 2 ^ a := Nat.two_pow_pos a
  have hn : c * 2 ^ a ≠ 0 := Nat.mul_ne_zero (by omega) (by omega)
  have hl : (c * 2 ^ a).log2 = 52 + a := by
    refine (Nat.log2_eq_iff hn).mpr ⟨?_, ?_⟩
    · rw [Nat.pow_add, ab_f5]
      exact Nat.mul_le_mul_right _ h1
    · rw [show 52 + a + 1 = 53 + a by omega, Nat.pow_add, ab_f6]
      exact Nat.mul_lt_mul_of_pos_right h2 hp
  have hlead : FP.Core.leading (c * 2 ^ a) 1 = ((52 + a : Nat) : Int) := by
    unfold FP.Core.leading
    rw [hl, show Nat.log2 1 = 0 from rfl]
    have e : (((52 + a : Nat) : Int) - ((0 : Nat) : Int)) = ((52 + a : Nat) : Int) := by omega
    dsimp only
    rw [e, if_pos]
    rw [show (((52 + a : Nat) : Int)).toNat = 52 + a by omega, show (-((52 + a : Nat) : Int)).toNat = 0 by omega, Nat.pow_zero, Nat.mul_one, Nat.one_mul, Nat.pow_add, ab_f5]
    exact Nat.mul_le_mul_right _ h1
  have hq : FP.Core.quantum FP.Core.b64 (c * 2 ^ a) 1 (q - (a : Int)) = q := by
    unfold FP.Core.quantum
    rw [hlead, ab_f3]
    show max (-1074 : Int) (((52 + a : Nat) : Int) + (q - (a : Int)) - (((53 : Nat) : Int) - 1)) = q
    omega
  have u1 : FP.Core.unitsNum (c * 2 ^ a) (q - (a : Int)) q = c * 2 ^ a := by
    unfold FP.Core.unitsNum
    rw [show (q - (a : Int) - q).toNat = 0 by omega, Nat.pow_zero, Nat.mul_one]
  have u2 : FP.Core.unitsDen 1 (q - (a : Int)) q = 2 ^ a := by
    unfold FP.Core.unitsDen
    rw [show (q - (q - (a : Int))).toNat = a by omega, Nat.one_mul]
  have hnr : FP.Core.nearest (c * 2 ^ a) (2 ^ a) = c := by
    unfold FP.Core.nearest
    rw [Nat.mul_mod_left, if_pos (by omega), Nat.mul_div_cancel _ hp]
  unfold FP.Core.roundRatio
  rw [if_neg hn, hq]
  unfold FP.Core.roundAt
  rw [u1, u2, hnr]
  unfold FP.Core.settle
  rw [if_pos (show c < 2 ^ FP.Core.b64.p from h2)]
  unfold FP.Core.bound
  rw [ab_f4, if_pos hq2]
theorem ab_round2 {m : Nat} {s : Bool} (h0 : 0 < m) (hm : m < 4503599627370496) : FP.Core.roundRatio FP.Core.b64 s m 1 (-52) = .fin s (m * 2 ^ (52 - m.log2)) ((m.log2 : Int) - 104) := by
  have hn : m ≠ 0 := by omega
  have hl51 : m.log2 < 52 := (Nat.log2_lt hn).mpr hm
  have hc1 : m * 2 ^ (52 - m.log2) < 9007199254740992 := by
    have h1 : m < 2 ^ (m.log2 + 1) := Nat.lt_log2_self
    have h2 : m * 2 ^ (52 - m.log2) < 2 ^ (m.log2 + 1) * 2 ^ (52 - m.log2) := Nat.mul_lt_mul_of_pos_right h1 (Nat.two_pow_pos _)
    rw [← Nat.pow_add, show m.log2 + 1 + (52 - m.log2) = 53 by omega, ab_f6] at h2
    exact h2
  have hlead : FP.Core.leading m 1 = (m.log2 : Int) := by
    unfold FP.Core.leading
    rw [show Nat.log2 1 = 0 from rfl]
    have e : ((m.log2 : Int) - ((0 : Nat) : Int)) = (m.log2 : Int) := by omega
    dsimp only
    rw [e, if_pos]
    rw [show ((m.log2 : Int)).toNat = m.log2 by omega, show (-(m.log2 : Int)).toNat = 0 by omega, Nat.pow_zero, Nat.mul_one, Nat.one_mul]
    exact Nat.log2_self_le hn
  have hq : FP.Core.quantum FP.Core.b64 m 1 (-52) = (m.log2 : Int) - 104 := by
    unfold FP.Core.quantum
    rw [hlead, ab_f3]
    show max (-1074 : Int) ((m.log2 : Int) + (-52) - (((53 : Nat) : Int) - 1)) = (m.log2 : Int) - 104
    omega
  have u1 : FP.Core.unitsNum m (-52) ((m.log2 : Int) - 104) = m * 2 ^ (52 - m.log2) := by
    unfold FP.Core.unitsNum
    rw [show ((-52 : Int) - ((m.log2 : Int) - 104)).toNat = 52 - m.log2 by omega]
  have u2 : FP.Core.unitsDen 1 (-52) ((m.log2 : Int) - 104) = 1 := by
    unfold FP.Core.unitsDen
    rw [show ((m.log2 : Int) - 104 - (-52)).toNat = 0 by omega]
  have hnr : FP.Core.nearest (m * 2 ^ (52 - m.log2)) 1 = m * 2 ^ (52 - m.log2) := by
    unfold FP.Core.nearest
    rw [Nat.mod_one, if_pos (by omega), Nat.div_one]
  unfold FP.Core.roundRatio
  rw [if_neg hn, hq]
  unfold FP.Core.roundAt
  rw [u1, u2, hnr]
  unfold FP.Core.settle
  rw [if_pos (show _ < 2 ^ FP.Core.b64.p from hc1)]
  unfold FP.Core.bound
  rw [ab_f4, if_pos (by omega)]
theorem ab_encF {c : Nat} {q : Int} (h1 : 4503599627370496 ≤ c) (hq1 : -1074 ≤ q) : UInt64.ofNat (FP.Core.encode FP.Core.b64 (.fin false c q)) = ab_nb (q + 1075).toNat (c - 4503599627370496) := by
  show UInt64.ofNat (if c < 4503599627370496 then FP.Core.assemble FP.Core.b64 false 0 c else FP.Core.assemble FP.Core.b64 false ((q - (-1074)).toNat + 1) (c - 4503599627370496)) = _
  rw [if_neg (by omega)]
  have e : (0 * 2048 + ((q - (-1074)).toNat + 1)) * 4503599627370496 + (c - 4503599627370496) = (q + 1075).toNat * 4503599627370496 + (c - 4503599627370496) := by omega
  exact congrArg UInt64.ofNat e
theorem ab_mul {k j m : Nat} (h1 : 1 ≤ k) (hk : k ≤ 2046) (h2 : 1 ≤ j) (hj : j ≤ 2046) (h3 : 1024 ≤ k + j) (h4 : k + j ≤ 3069) (hm : m < 4503599627370496) : FP.dmul (ab_nb k m) (ab_nb j 0) = ab_nb (k + j - 1023) m := by
  show UInt64.ofNat (FP.Core.encode FP.Core.b64 (FP.Core.round FP.Core.b64 (FP.Core.exactProduct (FP.Core.decode FP.Core.b64 (ab_nb k m).toNat) (FP.Core.decode FP.Core.b64 (ab_nb j 0).toNat)))) = _
  rw [ab_dbd h1 hk hm, ab_dbd h2 hj (by omega)]
  have e : FP.Core.exactProduct (.fin false (4503599627370496 + m) ((k : Int) - 1075)) (.fin false (4503599627370496 + 0) ((j : Int) - 1075)) = .fin false ((4503599627370496 + m) * 2 ^ 52) (((k : Int) + (j : Int) - 2098) - ((52 : Nat) : Int)) := by
    show FP.Core.Datum.fin _ _ _ = _
    rw [show (k : Int) - 1075 + ((j : Int) - 1075) = ((k : Int) + (j : Int) - 2098) - ((52 : Nat) : Int) by omega]
    rfl
  rw [e]
  show UInt64.ofNat (FP.Core.encode FP.Core.b64 (FP.Core.roundRatio FP.Core.b64 false ((4503599627370496 + m) * 2 ^ 52) 1 (((k : Int) + (j : Int) - 2098) - ((52 : Nat) : Int)))) = _
  rw [ab_round1 (by omega) (by omega) (by omega) (by omega), ab_encF (by omega) (by omega), show ((k : Int) + (j : Int) - 2098 + 1075).toNat = k + j - 1023 by omega, show 4503599627370496 + m - 4503599627370496 = m by omega]
theorem ab_sub1 {m : Nat} (h0 : 0 < m) (hm : m < 4503599627370496) : FP.dsub (ab_nb 1023 m) (ab_nb 1023 0) = ab_nb (m.log2 + 971) (m * 2 ^ (52 - m.log2) - 4503599627370496) := by
  have hn : m ≠ 0 := by omega
  have hc0 : 4503599627370496 ≤ m * 2 ^ (52 - m.log2) := by
    have hl51 : m.log2 < 52 := (Nat.log2_lt hn).mpr hm
    have h2 : 2 ^ m.log2 * 2 ^ (52 - m.log2) ≤ m * 2 ^ (52 - m.log2) := Nat.mul_le_mul_right _ (Nat.log2_self_le hn)
    rw [← Nat.pow_add, show m.log2 + (52 - m.log2) = 52 by omega, ab_f5] at h2
    exact h2
  show UInt64.ofNat (FP.Core.encode FP.Core.b64 (FP.Core.round FP.Core.b64 (FP.Core.exactSum (FP.Core.decode FP.Core.b64 (ab_nb 1023 m).toNat) (FP.Core.negate (FP.Core.decode FP.Core.b64 (ab_nb 1023 0).toNat))))) = _
  rw [ab_dbd (by omega) (by omega) hm, ab_dbd (by omega) (by omega) (by omega)]
  have e : FP.Core.exactSum (.fin false (4503599627370496 + m) (((1023 : Nat) : Int) - 1075)) (FP.Core.negate (.fin false (4503599627370496 + 0) (((1023 : Nat) : Int) - 1075))) = .fin false m (-52) := by
    have su : FP.Core.sumUnits false (4503599627370496 + m) (-52) true (4503599627370496 + 0) (-52) (-52) = (m : Int) := by
      show ((((4503599627370496 + m) * 2 ^ ((-52 : Int) - (-52)).toNat : Nat)) : Int) + -((((4503599627370496 + 0) * 2 ^ ((-52 : Int) - (-52)).toNat : Nat)) : Int) = (m : Int)
      rw [show ((-52 : Int) - (-52)).toNat = 0 from rfl, Nat.pow_zero]
      omega
    show FP.Core.Datum.fin (FP.Core.sumSign false true (FP.Core.sumUnits false (4503599627370496 + m) (-52) true (4503599627370496 + 0) (-52) (-52))) (FP.Core.sumUnits false (4503599627370496 + m) (-52) true (4503599627370496 + 0) (-52) (-52)).natAbs (-52) = _
    rw [su]
    unfold FP.Core.sumSign
    rw [if_neg (by omega), decide_eq_false (by omega), Int.natAbs_natCast]
  rw [e]
  show UInt64.ofNat (FP.Core.encode FP.Core.b64 (FP.Core.roundRatio FP.Core.b64 false m 1 (-52))) = _
  rw [ab_round2 h0 hm, ab_encF hc0 (by omega), show ((m.log2 : Int) - 104 + 1075).toNat = m.log2 + 971 by omega]
theorem ab_toL {c : Nat} {q : Int} {r : Nat} (hr : c * 2 ^ q.toNat / 2 ^ (-q).toNat = r) (hb : r < 9223372036854775808) : FP.Core.toL (.fin false c q) = Int64.ofInt (r : Int) := by
  show Int64.ofInt (max (-2 ^ 63) (min (2 ^ 63 - 1) (((c * 2 ^ q.toNat / 2 ^ (-q).toNat : Nat)) : Int))) = _
  rw [hr]
  congr 1
  omega
theorem ab_d2l1 {m : Nat} (hm : m < 4503599627370496) : FP.d2l (ab_nb 1075 m) = Int64.ofInt ((4503599627370496 + m : Nat) : Int) := by
  show FP.Core.toL (FP.Core.decode FP.Core.b64 (ab_nb 1075 m).toNat) = _
  rw [ab_dbd (by omega) (by omega) hm]
  refine ab_toL ?_ (by omega)
  rw [show (((1075 : Nat) : Int) - 1075).toNat = 0 from rfl, show (-(((1075 : Nat) : Int) - 1075)).toNat = 0 from rfl, Nat.pow_zero, Nat.mul_one, Nat.div_one]
/-- the fraction's digits -/
theorem ab_frac {m : Nat} (hm : m < 4503599627370496) : FP.d2l (FP.dmul (FP.dsub (ab_nb 1023 m) (ab_nb 1023 0)) (ab_nb 1075 0)) = Int64.ofInt (m : Int) := by
  by_cases h0 : m = 0
  · subst h0
    decide +kernel
  · have hn : m ≠ 0 := h0
    have hl51 : m.log2 < 52 := (Nat.log2_lt hn).mpr hm
    have hc1 : m * 2 ^ (52 - m.log2) < 9007199254740992 := by
      have h1 : m < 2 ^ (m.log2 + 1) := Nat.lt_log2_self
      have h2 : m * 2 ^ (52 - m.log2) < 2 ^ (m.log2 + 1) * 2 ^ (52 - m.log2) := Nat.mul_lt_mul_of_pos_right h1 (Nat.two_pow_pos _)
      rw [← Nat.pow_add, show m.log2 + 1 + (52 - m.log2) = 53 by omega, ab_f6] at h2
      exact h2
    have hc0 : 4503599627370496 ≤ m * 2 ^ (52 - m.log2) := by
      have h2 : 2 ^ m.log2 * 2 ^ (52 - m.log2) ≤ m * 2 ^ (52 - m.log2) := Nat.mul_le_mul_right _ (Nat.log2_self_le hn)
      rw [← Nat.pow_add, show m.log2 + (52 - m.log2) = 52 by omega, ab_f5] at h2
      exact h2
    rw [ab_sub1 (by omega) hm, ab_mul (by omega) (by omega) (by omega) (by omega) (by omega) (by omega) (by omega)]
    show FP.Core.toL (FP.Core.decode FP.Core.b64 (ab_nb _ _).toNat) = _
    rw [ab_dbd (by omega) (by omega) (by omega)]
    refine ab_toL ?_ (by omega)
    rw [show 4503599627370496 + (m * 2 ^ (52 - m.log2) - 4503599627370496) = m * 2 ^ (52 - m.log2) by omega, show (((m.log2 + 971 + 1075 - 1023 : Nat) : Int) - 1075).toNat = 0 by omega, show (-(((m.log2 + 971 + 1075 - 1023 : Nat) : Int) - 1075)).toNat = 52 - m.log2 by omega, Nat.pow_zero, Nat.mul_one, Nat.mul_div_cancel _ (Nat.two_pow_pos _)]
/-! comparing -/
theorem ab_cmpL {a b : Int} (h : a < b) : compare a b = .lt := by
  show compareOfLessAndEq a b = .lt
  unfold compareOfLessAndEq
  rw [if_pos h]
theorem ab_cmpE {a : Int} : compare a a = .eq := by
  show compareOfLessAndEq a a = .eq
  unfold compareOfLessAndEq
  rw [if_neg (by omega), if_pos rfl]
theorem ab_cmpG {a b : Int} (h : b < a) : compare a b = .gt := by
  show compareOfLessAndEq a b = .gt
  unfold compareOfLessAndEq
  rw [if_neg (by omega), if_neg (by omega)]
theorem ab_dcmp {k m j i : Nat} (h1 : 1 ≤ k) (hk : k ≤ 2046) (h2 : 1 ≤ j) (hj : j ≤ 2046) (hm : m < 4503599627370496) (hi : i < 4503599627370496) : FP.dcmp (ab_nb k m) (ab_nb j i) = some (compare ((((4503599627370496 + m) * 2 ^ ((k : Int) - 1075 - min ((k : Int) - 1075) ((j : Int) - 1075)).toNat : Nat)) : Int) ((((4503599627370496 + i) * 2 ^ ((j : Int) - 1075 - min ((k : Int) - 1075) ((j : Int) - 1075)).toNat : Nat)) : Int)) := by
  show FP.Core.order (FP.Core.decode FP.Core.b64 (ab_nb k m).toNat) (FP.Core.decode FP.Core.b64 (ab_nb j i).toNat) = _
  rw [ab_dbd h1 hk hm, ab_dbd h2 hj hi]
  rfl
theorem ab_dcmp_lt {k m j i : Nat} (h1 : 1 ≤ k) (hkj : k < j) (hj : j ≤ 2046) (hm : m < 4503599627370496) (hi : i < 4503599627370496) : FP.dcmp (ab_nb k m) (ab_nb j i) = some .lt := by
  rw [ab_dcmp h1 (by omega) (by omega) hj hm hi]
  congr 1
  apply ab_cmpL
  rw [show ((k : Int) - 1075 - min ((k : Int) - 1075) ((j : Int) - 1075)).toNat = 0 by omega, show ((j : Int) - 1075 - min ((k : Int) - 1075) ((j : Int) - 1075)).toNat = (j - k - 1) + 1 by omega, Nat.pow_zero, Nat.mul_one, Nat.pow_succ]
  have hp : 0 < 2 ^ (j - k - 1) := Nat.two_pow_pos _
  have h : 4503599627370496 + m < (4503599627370496 + i) * (2 ^ (j - k - 1) * 2) := by
    have h3 : (4503599627370496 + i) * 2 ≤ (4503599627370496 + i) * (2 ^ (j - k - 1) * 2) := Nat.mul_le_mul_left _ (by omega)
    omega
  omega
theorem ab_dcmp_same {k m : Nat} (h1 : 1 ≤ k) (hk : k ≤ 2046) (hm : m < 4503599627370496) : FP.dcmp (ab_nb k m) (ab_nb k m) = some .eq := by
  rw [ab_dcmp h1 hk h1 hk hm hm, ab_cmpE]
theorem ab_dcmp_one {m : Nat} (hm : m < 4503599627370496) : FP.dcmp (ab_nb 1023 m) (ab_nb 1023 0) = some .eq ∨ FP.dcmp (ab_nb 1023 m) (ab_nb 1023 0) = some .gt := by
  rw [ab_dcmp (by omega) (by omega) (by omega) (by omega) hm (by omega)]
  rw [show (((1023 : Nat) : Int) - 1075 - min (((1023 : Nat) : Int) - 1075) (((1023 : Nat) : Int) - 1075)).toNat = 0 from rfl, Nat.pow_zero, Nat.mul_one, Nat.mul_one]
  by_cases h0 : m = 0
  · subst h0
    exact Or.inl (congrArg some ab_cmpE)
  · exact Or.inr (congrArg some (ab_cmpG (by omega)))
theorem ab_dcmp_zero {k m : Nat} (h1 : 1 ≤ k) (hk : k ≤ 2046) (hm : m < 4503599627370496) : FP.dcmp (ab_nb k m) FP.dconst0 = some .gt := by
  show FP.Core.order (FP.Core.decode FP.Core.b64 (ab_nb k m).toNat) (FP.Core.decode FP.Core.b64 FP.dconst0.toNat) = _
  rw [ab_dbd h1 hk hm, show FP.Core.decode FP.Core.b64 FP.dconst0.toNat = .fin false 0 (-1074) by decide +kernel]
  show some (compare ((((4503599627370496 + m) * 2 ^ ((k : Int) - 1075 - min ((k : Int) - 1075) (-1074)).toNat : Nat)) : Int) (((0 * 2 ^ ((-1074 : Int) - min ((k : Int) - 1075) (-1074)).toNat : Nat)) : Int)) = _
  congr 1
  apply ab_cmpG
  rw [Nat.zero_mul]
  have hp : 0 < 2 ^ ((k : Int) - 1075 - min ((k : Int) - 1075) (-1074)).toNat := Nat.two_pow_pos _
  have := Nat.mul_pos (show 0 < 4503599627370496 + m by omega) hp
  omega
/-- not a NaN -/
theorem ab_nb_ok {k m : Nat} (hk : k ≤ 2046) (hm : m < 4503599627370496) : (ab_nb k m) &&& 0x7fffffffffffffff ≤ 0x7ff0000000000000 := by
  rw [UInt64.le_iff_toNat_le, UInt64.toNat_and, ab_nb_nat hk hm]
  have h := Nat.and_le_left (n := k * 4503599627370496 + m) (m := (0x7fffffffffffffff : UInt64).toNat)
  have e : (0x7ff0000000000000 : UInt64).toNat = 9218868437227405312 := rfl
  rw [e]
  omega
/-! the quotient -/
theorem ab_near {n d A B : Nat} (hd : 0 < d) (h1 : A * d ≤ n) (h2 : n < B * d) : A ≤ FP.Core.nearest n d ∧ FP.Core.nearest n d ≤ B := by
  have e1 : A ≤ n / d := (Nat.le_div_iff_mul_le hd).mpr h1
  have e2 : n / d < B := (Nat.div_lt_iff_lt_mul hd).mpr h2
  unfold FP.Core.nearest
  split
  · omega
  · split
    · omega
    · omega
def ab_good (lo hi : Nat) (d : UInt64) : Prop := ∃ k m, d = ab_nb k m ∧ lo ≤ k ∧ k ≤ hi ∧ m < 4503599627370496
theorem ab_settle {w : Nat} {q : Int} {k : Nat} (h1 : 4503599627370496 ≤ w) (h2 : w ≤ 9007199254740992) (hq : -1000 ≤ q) (hq2 : q ≤ 900) (hk : q + 1075 = (k : Int)) : (w < 9007199254740992 → UInt64.ofNat (FP.Core.encode FP.Core.b64 (FP.Core.settle FP.Core.b64 false w q)) = ab_nb k (w - 4503599627370496)) ∧ (¬ w < 9007199254740992 → UInt64.ofNat (FP.Core.encode FP.Core.b64 (FP.Core.settle FP.Core.b64 false w q)) = ab_nb (k + 1) 0) := by
  constructor
  · intro hw
    unfold FP.Core.settle
    rw [if_pos (show w < 2 ^ FP.Core.b64.p from hw)]
    unfold FP.Core.bound
    rw [ab_f4, if_pos (by omega), ab_encF h1 (by omega), show (q + 1075).toNat = k by omega]
  · intro hw
    unfold FP.Core.settle
    rw [if_neg (show ¬ w < 2 ^ FP.Core.b64.p from hw)]
    unfold FP.Core.bound
    rw [ab_f4, if_pos (by omega), ab_f1, ab_encF (by omega) (by omega), show (q + 1 + 1075).toNat = k + 1 by omega]
theorem ab_log52 {c : Nat} (h1 : 4503599627370496 ≤ c) (h2 : c < 9007199254740992) : c.log2 = 52 := (Nat.log2_eq_iff (by omega)).mpr ⟨by rw [ab_f5]; exact h1, by rw [show 52 + 1 = 53 from rfl, ab_f6]; exact h2⟩
theorem ab_quo {k j m i : Nat} (hk1 : 1023 ≤ k) (hk2 : k ≤ 1032) (hj1 : 1023 ≤ j) (hj2 : j ≤ 1032) (hm : m < 4503599627370496) (hi : i < 4503599627370496) (hle : k * 4503599627370496 + m ≤ j * 4503599627370496 + i) : ab_good 1013 1023 (FP.ddiv (ab_nb k m) (ab_nb j i)) := by
  have hkj : k ≤ j := by omega
  obtain ⟨c, hc⟩ : ∃ c, c = 4503599627370496 + m := ⟨_, rfl⟩
  obtain ⟨d, hd⟩ : ∃ d, d = 4503599627370496 + i := ⟨_, rfl⟩
  have e0 : FP.ddiv (ab_nb k m) (ab_nb j i) = UInt64.ofNat (FP.Core.encode FP.Core.b64 (FP.Core.roundAt FP.Core.b64 false c d ((k : Int) - (j : Int)) (FP.Core.quantum FP.Core.b64 c d ((k : Int) - (j : Int))))) := by
    show UInt64.ofNat (FP.Core.encode FP.Core.b64 (FP.Core.quotient FP.Core.b64 (FP.Core.decode FP.Core.b64 (ab_nb k m).toNat) (FP.Core.decode FP.Core.b64 (ab_nb j i).toNat))) = _
    rw [ab_dbd (by omega) (by omega) hm, ab_dbd (by omega) (by omega) hi, ← hc, ← hd]
    congr 2
    show (if d = 0 then (if c = 0 then FP.Core.Datum.nan else .inf (false != false)) else FP.Core.roundRatio FP.Core.b64 (false != false) c d ((k : Int) - 1075 - ((j : Int) - 1075))) = _
    rw [if_neg (by omega), show (k : Int) - 1075 - ((j : Int) - 1075) = (k : Int) - (j : Int) by omega]
    unfold FP.Core.roundRatio
    rw [if_neg (by omega)]
    rfl
  have lc := ab_log52 (c := c) (by omega) (by omega)
  have ld := ab_log52 (c := d) (by omega) (by omega)
  rw [e0]
  have hlead : FP.Core.leading c d = if d ≤ c then 0 else -1 := by
    unfold FP.Core.leading
    rw [lc, ld]
    dsimp only
    by_cases hdc : d ≤ c
    · rw [if_pos hdc, if_pos (by show d * 2 ^ 0 ≤ c * 2 ^ 0; rw [Nat.pow_zero]; omega)]
      rfl
    · rw [if_neg hdc, if_neg (by show ¬ d * 2 ^ 0 ≤ c * 2 ^ 0; rw [Nat.pow_zero]; omega)]
      rfl
  unfold FP.Core.roundAt
  by_cases hdc : d ≤ c
  · have hq : FP.Core.quantum FP.Core.b64 c d ((k : Int) - (j : Int)) = (k : Int) - (j : Int) - 52 := by
      unfold FP.Core.quantum
      rw [hlead, if_pos hdc, ab_f3]
      show max (-1074 : Int) (0 + ((k : Int) - (j : Int)) - (((53 : Nat) : Int) - 1)) = _
      omega
    have u1 : FP.Core.unitsNum c ((k : Int) - (j : Int)) ((k : Int) - (j : Int) - 52) = c * 4503599627370496 := by
      unfold FP.Core.unitsNum
      rw [show ((k : Int) - (j : Int) - ((k : Int) - (j : Int) - 52)).toNat = 52 by omega, ab_f5]
    have u2 : FP.Core.unitsDen d ((k : Int) - (j : Int)) ((k : Int) - (j : Int) - 52) = d := by
      unfold FP.Core.unitsDen
      rw [show ((k : Int) - (j : Int) - 52 - ((k : Int) - (j : Int))).toNat = 0 by omega, Nat.pow_zero, Nat.mul_one]
    rw [hq, u1, u2]
    obtain ⟨w1, w2⟩ := ab_near (n := c * 4503599627370496) (d := d) (A := 4503599627370496) (B := 9007199254740992) (by omega) (by omega) (by omega)
    obtain ⟨kk, hkk⟩ : ∃ kk : Nat, (k : Int) - (j : Int) - 52 + 1075 = (kk : Int) := ⟨((k : Int) - (j : Int) - 52 + 1075).toNat, by omega⟩
    obtain ⟨s1, s2⟩ := ab_settle (q := (k : Int) - (j : Int) - 52) w1 w2 (by omega) (by omega) hkk
    by_cases hw : FP.Core.nearest (c * 4503599627370496) d < 9007199254740992
    · exact ⟨kk, _, s1 hw, by omega, by omega, by omega⟩
    · have hne : ¬ k = j := by
        intro e
        subst e
        have : c = d := by omega
        subst this
        have en : FP.Core.nearest (c * 4503599627370496) c = 4503599627370496 := by
          unfold FP.Core.nearest
          rw [Nat.mul_mod_right, if_pos (by omega), Nat.mul_div_cancel_left _ (by omega)]
        omega
      exact ⟨kk + 1, 0, s2 hw, by omega, by omega, by omega⟩
  · have hq : FP.Core.quantum FP.Core.b64 c d ((k : Int) - (j : Int)) = (k : Int) - (j : Int) - 53 := by
      unfold FP.Core.quantum
      rw [hlead, if_neg hdc, ab_f3]
      show max (-1074 : Int) (-1 + ((k : Int) - (j : Int)) - (((53 : Nat) : Int) - 1)) = _
      omega
    have u1 : FP.Core.unitsNum c ((k : Int) - (j : Int)) ((k : Int) - (j : Int) - 53) = c * 9007199254740992 := by
      unfold FP.Core.unitsNum
      rw [show ((k : Int) - (j : Int) - ((k : Int) - (j : Int) - 53)).toNat = 53 by omega, ab_f6]
    have u2 : FP.Core.unitsDen d ((k : Int) - (j : Int)) ((k : Int) - (j : Int) - 53) = d := by
      unfold FP.Core.unitsDen
      rw [show ((k : Int) - (j : Int) - 53 - ((k : Int) - (j : Int))).toNat = 0 by omega, Nat.pow_zero, Nat.mul_one]
    rw [hq, u1, u2]
    obtain ⟨w1, w2⟩ := ab_near (n := c * 9007199254740992) (d := d) (A := 4503599627370496) (B := 9007199254740992) (by omega) (by omega) (by omega)
    obtain ⟨kk, hkk⟩ : ∃ kk : Nat, (k : Int) - (j : Int) - 53 + 1075 = (kk : Int) := ⟨((k : Int) - (j : Int) - 53 + 1075).toNat, by omega⟩
    obtain ⟨s1, s2⟩ := ab_settle (q := (k : Int) - (j : Int) - 53) w1 w2 (by omega) (by omega) hkk
    by_cases hw : FP.Core.nearest (c * 9007199254740992) d < 9007199254740992
    · exact ⟨kk, _, s1 hw, by omega, by omega, by omega⟩
    · exact ⟨kk + 1, 0, s2 hw, by omega, by omega, by omega⟩
/-! the numbers 1 to 999 as doubles -/
def ab_iv (o : Nat) : Nat := (FP.i2d (nI o)).toNat
set_option maxRecDepth 20000 in
theorem ab_iv_all : ∀ o, o < 999 → (1023 ≤ ab_iv (o + 1) / 4503599627370496 ∧ ab_iv (o + 1) / 4503599627370496 ≤ 1032) ∧ (o < 998 → ab_iv (o + 1) ≤ ab_iv (o + 2)) := by decide +kernel
theorem ab_iv_mono {o : Nat} (h1 : 1 ≤ o) : ∀ c, o + c ≤ 999 → ab_iv o ≤ ab_iv (o + c) := by
  intro c
  induction c with
  | zero => intro _; exact Nat.le_refl _
  | succ c ih =>
    intro h
    have e := (ab_iv_all (o + c - 1) (by omega)).2 (by omega)
    rw [show o + c - 1 + 1 = o + c by omega, show o + c - 1 + 2 = o + (c + 1) by omega] at e
    exact Nat.le_trans (ih (by omega)) e
theorem ab_iv_nb {o : Nat} (h1 : 1 ≤ o) (h2 : o ≤ 999) : ∃ k m, FP.i2d (nI o) = ab_nb k m ∧ 1023 ≤ k ∧ k ≤ 1032 ∧ m < 4503599627370496 ∧ ab_iv o = k * 4503599627370496 + m := by
  have e := (ab_iv_all (o - 1) (by omega)).1
  rw [show o - 1 + 1 = o by omega] at e
  refine ⟨ab_iv o / 4503599627370496, ab_iv o % 4503599627370496, ?_, e.1, e.2, by omega, by omega⟩
  apply UInt64.toNat_inj.mp
  rw [ab_nb_nat (by omega) (by omega)]
  show ab_iv o = _
  omega
theorem ab_share_good {o p : Nat} (h1 : 1 ≤ o) (h2 : o ≤ p) (h3 : p ≤ 999) : ab_good 1013 1023 (FP.ddiv (FP.i2d (nI o)) (FP.i2d (nI p))) := by
  obtain ⟨k, m, e1, k1, k2, hm, v1⟩ := ab_iv_nb h1 (by omega)
  obtain ⟨j, i, e2, j1, j2, hi, v2⟩ := ab_iv_nb (o := p) (by omega) h3
  have hmo := ab_iv_mono h1 (p - o) (by omega)
  rw [show o + (p - o) = p by omega, v1, v2] at hmo
  rw [e1, e2]
  exact ab_quo k1 k2 j1 j2 hm hi hmo
theorem ab_share_zero {p : Nat} (h1 : 1 ≤ p) (h3 : p ≤ 999) : FP.ddiv (FP.i2d (nI 0)) (FP.i2d (nI p)) = FP.dconst0 := by
  obtain ⟨j, i, e2, j1, j2, hi, v2⟩ := ab_iv_nb h1 h3
  rw [e2, show FP.i2d (nI 0) = FP.dconst0 by decide +kernel]
  show UInt64.ofNat (FP.Core.encode FP.Core.b64 (FP.Core.quotient FP.Core.b64 (FP.Core.decode FP.Core.b64 FP.dconst0.toNat) (FP.Core.decode FP.Core.b64 (ab_nb j i).toNat))) = _
  rw [ab_dbd (by omega) (by omega) hi, show FP.Core.decode FP.Core.b64 FP.dconst0.toNat = .fin false 0 (-1074) by decide +kernel]
  show UInt64.ofNat (FP.Core.encode FP.Core.b64 (if 4503599627370496 + i = 0 then (if (0 : Nat) = 0 then FP.Core.Datum.nan else .inf (false != false)) else FP.Core.roundRatio FP.Core.b64 (false != false) 0 (4503599627370496 + i) ((-1074) - ((j : Int) - 1075)))) = _
  rw [if_neg (by omega)]
  unfold FP.Core.roundRatio
  rw [if_pos rfl]
  decide +kernel
