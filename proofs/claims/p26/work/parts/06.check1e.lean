/-! The words of the law's methods. -/
theorem ab_cw85 : ab_ok (ab_wi 85).1 (ab_codeW 85) = true := by decide +kernel
theorem ab_cw86 : ab_ok (ab_wi 86).1 (ab_codeW 86) = true := by decide +kernel
theorem ab_cw87 : ab_ok (ab_wi 87).1 (ab_codeW 87) = true := by decide +kernel
theorem ab_cw88 : ab_ok (ab_wi 88).1 (ab_codeW 88) = true := by decide +kernel
theorem ab_cw89 : ab_ok (ab_wi 89).1 (ab_codeW 89) = true := by decide +kernel
theorem ab_cw90 : ab_ok (ab_wi 90).1 (ab_codeW 90) = true := by decide +kernel
theorem ab_cw91 : ab_ok (ab_wi 91).1 (ab_codeW 91) = true := by decide +kernel
theorem ab_cw92 : ab_ok (ab_wi 92).1 (ab_codeW 92) = true := by decide +kernel
theorem ab_cwall (a : Nat) (ha : a < 94) (h : (ab_wi a).1 ≠ 0) : ab_ok (ab_wi a).1 (ab_codeW a) = true := match a, ha, h with
  | 0, _, _ => ab_cw0
  | 1, _, _ => ab_cw1
  | 2, _, _ => ab_cw2
  | 3, _, _ => ab_cw3
  | 4, _, _ => ab_cw4
  | 5, _, _ => ab_cw5
  | 6, _, _ => ab_cw6
  | 7, _, _ => ab_cw7
  | 8, _, _ => ab_cw8
  | 9, _, _ => ab_cw9
  | 10, _, _ => ab_cw10
  | 11, _, _ => ab_cw11
  | 12, _, _ => ab_cw12
  | 13, _, _ => ab_cw13
  | 14, _, _ => ab_cw14
  | 15, _, _ => ab_cw15
  | 16, _, _ => ab_cw16
  | 17, _, _ => ab_cw17
  | 18, _, _ => ab_cw18
  | 19, _, _ => ab_cw19
  | 20, _, _ => ab_cw20
  | 21, _, _ => ab_cw21
  | 22, _, _ => ab_cw22
  | 23, _, _ => ab_cw23
  | 24, _, _ => ab_cw24
  | 25, _, _ => ab_cw25
  | 26, _, _ => ab_cw26
  | 27, _, _ => ab_cw27
  | 28, _, _ => ab_cw28
  | 29, _, _ => ab_cw29
  | 30, _, _ => ab_cw30
  | 31, _, _ => ab_cw31
  | 32, _, _ => ab_cw32
  | 33, _, _ => ab_cw33
  | 34, _, _ => ab_cw34
  | 35, _, _ => ab_cw35
  | 36, _, _ => ab_cw36
  | 37, _, _ => ab_cw37
  | 38, _, _ => ab_cw38
  | 39, _, _ => ab_cw39
  | 40, _, h => absurd rfl h
  | 41, _, h => absurd rfl h
  | 42, _, h => absurd rfl h
  | 43, _, h => absurd rfl h
  | 44, _, h => absurd rfl h
  | 45, _, h => absurd rfl h
  | 46, _, h => absurd rfl h
  | 47, _, h => absurd rfl h
  | 48, _, h => absurd rfl h
  | 49, _, _ => ab_cw49
  | 50, _, _ => ab_cw50
  | 51, _, _ => ab_cw51
  | 52, _, _ => ab_cw52
  | 53, _, _ => ab_cw53
  | 54, _, h => absurd rfl h
  | 55, _, _ => ab_cw55
  | 56, _, _ => ab_cw56
  | 57, _, h => absurd rfl h
  | 58, _, h => absurd rfl h
  | 59, _, h => absurd rfl h
  | 60, _, h => absurd rfl h
  | 61, _, _ => ab_cw61
  | 62, _, _ => ab_cw62
  | 63, _, _ => ab_cw63
  | 64, _, _ => ab_cw64
  | 65, _, _ => ab_cw65
  | 66, _, _ => ab_cw66
  | 67, _, _ => ab_cw67
  | 68, _, _ => ab_cw68
  | 69, _, _ => ab_cw69
  | 70, _, _ => ab_cw70
  | 71, _, _ => ab_cw71
  | 72, _, h => absurd rfl h
  | 73, _, _ => ab_cw73
  | 74, _, h => absurd rfl h
  | 75, _, h => absurd rfl h
  | 76, _, _ => ab_cw76
  | 77, _, _ => ab_cw77
  | 78, _, _ => ab_cw78
  | 79, _, _ => ab_cw79
  | 80, _, h => absurd rfl h
  | 81, _, h => absurd rfl h
  | 82, _, h => absurd rfl h
  | 83, _, h => absurd rfl h
  | 84, _, h => absurd rfl h
  | 85, _, _ => ab_cw85
  | 86, _, _ => ab_cw86
  | 87, _, _ => ab_cw87
  | 88, _, _ => ab_cw88
  | 89, _, _ => ab_cw89
  | 90, _, _ => ab_cw90
  | 91, _, _ => ab_cw91
  | 92, _, _ => ab_cw92
  | 93, _, h => absurd rfl h
  | n + 94, h, _ => absurd h (by omega)
