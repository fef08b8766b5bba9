theorem ab_k0 : ab_cl0.all (ab_ch 0) = true := by
  simp only [ab_cl0, List.all_append, ab_k0_0, Bool.and_self]
theorem ab_k1 : ab_cl1.all (ab_ch 1) = true := by
  simp only [ab_cl1, List.all_append, ab_k1_0, Bool.and_self]
theorem ab_k2 : ab_cl2.all (ab_ch 2) = true := by
  simp only [ab_cl2, List.all_append, ab_k2_0, Bool.and_self]
theorem ab_k3 : ab_cl3.all (ab_ch 3) = true := by
  simp only [ab_cl3, List.all_append, ab_k3_0, Bool.and_self]
theorem ab_k4 : ab_cl4.all (ab_ch 4) = true := by
  simp only [ab_cl4, List.all_append, ab_k4_0, Bool.and_self]
theorem ab_k5 : ab_cl5.all (ab_ch 5) = true := by
  simp only [ab_cl5, List.all_append, ab_k5_0, Bool.and_self]
theorem ab_k6 : ab_cl6.all (ab_ch 6) = true := by
  simp only [ab_cl6, List.all_append, ab_k6_0, Bool.and_self]
theorem ab_k7 : ab_cl7.all (ab_ch 7) = true := by
  simp only [ab_cl7, List.all_append, ab_k7_0, Bool.and_self]
theorem ab_k8 : ab_cl8.all (ab_ch 8) = true := by
  simp only [ab_cl8, List.all_append, ab_k8_0, Bool.and_self]
theorem ab_k9 : ab_cl9.all (ab_ch 9) = true := by
  simp only [ab_cl9, List.all_append, ab_k9_0, Bool.and_self]
theorem ab_k10 : ab_cl10.all (ab_ch 10) = true := by
  simp only [ab_cl10, List.all_append, ab_k10_0, Bool.and_self]
theorem ab_k11 : ab_cl11.all (ab_ch 11) = true := by
  simp only [ab_cl11, List.all_append, ab_k11_0, Bool.and_self]
theorem ab_k12 : ab_cl12.all (ab_ch 12) = true := by
  simp only [ab_cl12, List.all_append, ab_k12_0, Bool.and_self]
theorem ab_k13 : ab_cl13.all (ab_ch 13) = true := by
  simp only [ab_cl13, List.all_append, ab_k13_0, Bool.and_self]
theorem ab_k14 : ab_cl14.all (ab_ch 14) = true := by
  simp only [ab_cl14, List.all_append, ab_k14_0, Bool.and_self]
theorem ab_k15 : ab_cl15.all (ab_ch 15) = true := by
  simp only [ab_cl15, List.all_append, ab_k15_0, Bool.and_self]
theorem ab_k16 : ab_cl16.all (ab_ch 16) = true := by
  simp only [ab_cl16, List.all_append, ab_k16_0, Bool.and_self]
theorem ab_k17 : ab_cl17.all (ab_ch 17) = true := by
  simp only [ab_cl17, List.all_append, ab_k17_0, Bool.and_self]
theorem ab_k18 : ab_cl18.all (ab_ch 18) = true := by
  simp only [ab_cl18, List.all_append, ab_k18_0, Bool.and_self]
theorem ab_k19 : ab_cl19.all (ab_ch 19) = true := by
  simp only [ab_cl19, List.all_append, ab_k19_0, Bool.and_self]
theorem ab_k20 : ab_cl20.all (ab_ch 20) = true := by
  simp only [ab_cl20, List.all_append, ab_k20_0, Bool.and_self]
theorem ab_k21 : ab_cl21.all (ab_ch 21) = true := by
  simp only [ab_cl21, List.all_append, ab_k21_0, Bool.and_self]
theorem ab_k22 : ab_cl22.all (ab_ch 22) = true := by
  simp only [ab_cl22, List.all_append, ab_k22_0, Bool.and_self]
theorem ab_k23 : ab_cl23.all (ab_ch 23) = true := by
  simp only [ab_cl23, List.all_append, ab_k23_0, Bool.and_self]
theorem ab_k24 : ab_cl24.all (ab_ch 24) = true := by
  simp only [ab_cl24, List.all_append, ab_k24_0, Bool.and_self]
theorem ab_k25 : ab_cl25.all (ab_ch 25) = true := by
  simp only [ab_cl25, List.all_append, ab_k25_0, Bool.and_self]
theorem ab_k26 : ab_cl26.all (ab_ch 26) = true := by
  simp only [ab_cl26, List.all_append, ab_k26_0, Bool.and_self]
theorem ab_k27 : ab_cl27.all (ab_ch 27) = true := by
  simp only [ab_cl27, List.all_append, ab_k27_0, Bool.and_self]
theorem ab_k28 : ab_cl28.all (ab_ch 28) = true := by
  simp only [ab_cl28, List.all_append, ab_k28_0, Bool.and_self]
theorem ab_k29 : ab_cl29.all (ab_ch 29) = true := by
  simp only [ab_cl29, List.all_append, ab_k29_0, ab_k29_1, Bool.and_self]
theorem ab_k30 : ab_cl30.all (ab_ch 30) = true := by
  simp only [ab_cl30, List.all_append, ab_k30_0, Bool.and_self]
theorem ab_k31 : ab_cl31.all (ab_ch 31) = true := by
  simp only [ab_cl31, List.all_append, ab_k31_0, Bool.and_self]
theorem ab_k32 : ab_cl32.all (ab_ch 32) = true := by
  simp only [ab_cl32, List.all_append, ab_k32_0, Bool.and_self]
theorem ab_k33 : ab_cl33.all (ab_ch 33) = true := by
  simp only [ab_cl33, List.all_append, ab_k33_0, Bool.and_self]
theorem ab_k34 : ab_cl34.all (ab_ch 34) = true := by
  simp only [ab_cl34, List.all_append, ab_k34_0, Bool.and_self]
theorem ab_k35 : ab_cl35.all (ab_ch 35) = true := by
  simp only [ab_cl35, List.all_append, ab_k35_0, Bool.and_self]
theorem ab_k36 : ab_cl36.all (ab_ch 36) = true := by
  simp only [ab_cl36, List.all_append, ab_k36_0, Bool.and_self]
theorem ab_k37 : ab_cl37.all (ab_ch 37) = true := by
  simp only [ab_cl37, List.all_append, ab_k37_0, Bool.and_self]
theorem ab_k38 : ab_cl38.all (ab_ch 38) = true := by
  simp only [ab_cl38, List.all_append, ab_k38_0, ab_k38_1, Bool.and_self]
theorem ab_k39 : ab_cl39.all (ab_ch 39) = true := by
  simp only [ab_cl39, List.all_append, ab_k39_0, Bool.and_self]
theorem ab_k40 : ab_cl40.all (ab_ch 40) = true := by
  simp only [ab_cl40, List.all_append, ab_k40_0, Bool.and_self]
theorem ab_k41 : ab_cl41.all (ab_ch 41) = true := by
  simp only [ab_cl41, List.all_append, ab_k41_0, Bool.and_self]
theorem ab_k42 : ab_cl42.all (ab_ch 42) = true := by
  simp only [ab_cl42, List.all_append, ab_k42_0, Bool.and_self]
theorem ab_k43 : ab_cl43.all (ab_ch 43) = true := by
  simp only [ab_cl43, List.all_append, ab_k43_0, Bool.and_self]
theorem ab_k44 : ab_cl44.all (ab_ch 44) = true := by
  simp only [ab_cl44, List.all_append, ab_k44_0, Bool.and_self]
theorem ab_k45 : ab_cl45.all (ab_ch 45) = true := by
  simp only [ab_cl45, List.all_append, ab_k45_0, Bool.and_self]
theorem ab_k46 : ab_cl46.all (ab_ch 46) = true := by
  simp only [ab_cl46, List.all_append, ab_k46_0, Bool.and_self]
theorem ab_k47 : ab_cl47.all (ab_ch 47) = true := by
  simp only [ab_cl47, List.all_append, ab_k47_0, Bool.and_self]
theorem ab_k48 : ab_cl48.all (ab_ch 48) = true := by
  simp only [ab_cl48, List.all_append, ab_k48_0, Bool.and_self]
theorem ab_k49 : ab_cl49.all (ab_ch 49) = true := by
  simp only [ab_cl49, List.all_append, ab_k49_0, Bool.and_self]
theorem ab_k50 : ab_cl50.all (ab_ch 50) = true := by
  simp only [ab_cl50, List.all_append, ab_k50_0, Bool.and_self]
theorem ab_k51 : ab_cl51.all (ab_ch 51) = true := by
  simp only [ab_cl51, List.all_append, ab_k51_0, Bool.and_self]
theorem ab_k52 : ab_cl52.all (ab_ch 52) = true := by
  simp only [ab_cl52, List.all_append, ab_k52_0, Bool.and_self]
theorem ab_k53 : ab_cl53.all (ab_ch 53) = true := by
  simp only [ab_cl53, List.all_append, ab_k53_0, Bool.and_self]
theorem ab_k54 : ab_cl54.all (ab_ch 54) = true := by
  simp only [ab_cl54, List.all_append, ab_k54_0, Bool.and_self]
theorem ab_k55 : ab_cl55.all (ab_ch 55) = true := by
  simp only [ab_cl55, List.all_append, ab_k55_0, Bool.and_self]
theorem ab_k56 : ab_cl56.all (ab_ch 56) = true := by
  simp only [ab_cl56, List.all_append, ab_k56_0, Bool.and_self]
theorem ab_k57 : ab_cl57.all (ab_ch 57) = true := by
  simp only [ab_cl57, List.all_append, ab_k57_0, Bool.and_self]
theorem ab_k58 : ab_cl58.all (ab_ch 58) = true := by
  simp only [ab_cl58, List.all_append, ab_k58_0, Bool.and_self]
theorem ab_k59 : ab_cl59.all (ab_ch 59) = true := by
  simp only [ab_cl59, List.all_append, ab_k59_0, Bool.and_self]
theorem ab_k60 : ab_cl60.all (ab_ch 60) = true := by
  simp only [ab_cl60, List.all_append, ab_k60_0, Bool.and_self]
theorem ab_k61 : ab_cl61.all (ab_ch 61) = true := by
  simp only [ab_cl61, List.all_append, ab_k61_0, Bool.and_self]
theorem ab_k62 : ab_cl62.all (ab_ch 62) = true := by
  simp only [ab_cl62, List.all_append, ab_k62_0, Bool.and_self]
theorem ab_k63 : ab_cl63.all (ab_ch 63) = true := by
  simp only [ab_cl63, List.all_append, ab_k63_0, Bool.and_self]
theorem ab_k64 : ab_cl64.all (ab_ch 64) = true := by
  simp only [ab_cl64, List.all_append, ab_k64_0, Bool.and_self]
theorem ab_k65 : ab_cl65.all (ab_ch 65) = true := by
  simp only [ab_cl65, List.all_append, ab_k65_0, Bool.and_self]
theorem ab_k66 : ab_cl66.all (ab_ch 66) = true := by
  simp only [ab_cl66, List.all_append, ab_k66_0, Bool.and_self]
theorem ab_k67 : ab_cl67.all (ab_ch 67) = true := by
  simp only [ab_cl67, List.all_append, ab_k67_0, Bool.and_self]
theorem ab_k68 : ab_cl68.all (ab_ch 68) = true := by
  simp only [ab_cl68, List.all_append, ab_k68_0, Bool.and_self]
theorem ab_k69 : ab_cl69.all (ab_ch 69) = true := by
  simp only [ab_cl69, List.all_append, ab_k69_0, Bool.and_self]
theorem ab_k70 : ab_cl70.all (ab_ch 70) = true := by
  simp only [ab_cl70, List.all_append, ab_k70_0, Bool.and_self]
theorem ab_k71 : ab_cl71.all (ab_ch 71) = true := by
  simp only [ab_cl71, List.all_append, ab_k71_0, Bool.and_self]
theorem ab_k72 : ab_cl72.all (ab_ch 72) = true := by
  simp only [ab_cl72, List.all_append, ab_k72_0, Bool.and_self]
theorem ab_k73 : ab_cl73.all (ab_ch 73) = true := by
  simp only [ab_cl73, List.all_append, ab_k73_0, Bool.and_self]
theorem ab_k74 : ab_cl74.all (ab_ch 74) = true := by
  simp only [ab_cl74, List.all_append, ab_k74_0, Bool.and_self]
theorem ab_k75 : ab_cl75.all (ab_ch 75) = true := by
  simp only [ab_cl75, List.all_append, ab_k75_0, Bool.and_self]
theorem ab_k76 : ab_cl76.all (ab_ch 76) = true := by
  simp only [ab_cl76, List.all_append, ab_k76_0, Bool.and_self]
theorem ab_k77 : ab_cl77.all (ab_ch 77) = true := by
  simp only [ab_cl77, List.all_append, ab_k77_0, Bool.and_self]
theorem ab_k78 : ab_cl78.all (ab_ch 78) = true := by
  simp only [ab_cl78, List.all_append, ab_k78_0, Bool.and_self]
theorem ab_k79 : ab_cl79.all (ab_ch 79) = true := by
  simp only [ab_cl79, List.all_append, ab_k79_0, Bool.and_self]
theorem ab_k80 : ab_cl80.all (ab_ch 80) = true := by
  simp only [ab_cl80, List.all_append, ab_k80_0, Bool.and_self]
theorem ab_k81 : ab_cl81.all (ab_ch 81) = true := by
  simp only [ab_cl81, List.all_append, ab_k81_0, Bool.and_self]
theorem ab_k82 : ab_cl82.all (ab_ch 82) = true := by
  simp only [ab_cl82, List.all_append, ab_k82_0, Bool.and_self]
theorem ab_k83 : ab_cl83.all (ab_ch 83) = true := by
  simp only [ab_cl83, List.all_append, ab_k83_0, Bool.and_self]
theorem ab_k84 : ab_cl84.all (ab_ch 84) = true := by
  simp only [ab_cl84, List.all_append, ab_k84_0, Bool.and_self]
theorem ab_k85 : ab_cl85.all (ab_ch 85) = true := by
  simp only [ab_cl85, List.all_append, ab_k85_0, Bool.and_self]
theorem ab_k86 : ab_cl86.all (ab_ch 86) = true := by
  simp only [ab_cl86, List.all_append, ab_k86_0, Bool.and_self]
theorem ab_k87 : ab_cl87.all (ab_ch 87) = true := by
  simp only [ab_cl87, List.all_append, ab_k87_0, ab_k87_1, ab_k87_2, Bool.and_self]
theorem ab_k88 : ab_cl88.all (ab_ch 88) = true := by
  simp only [ab_cl88, List.all_append, ab_k88_0, Bool.and_self]
theorem ab_k89 : ab_cl89.all (ab_ch 89) = true := by
  simp only [ab_cl89, List.all_append, ab_k89_0, ab_k89_1, ab_k89_2, ab_k89_3, ab_k89_4, Bool.and_self]
theorem ab_k90 : ab_cl90.all (ab_ch 90) = true := by
  simp only [ab_cl90, List.all_append, ab_k90_0, ab_k90_1, Bool.and_self]
theorem ab_k91 : ab_cl91.all (ab_ch 91) = true := by
  simp only [ab_cl91, List.all_append, ab_k91_0, ab_k91_1, ab_k91_2, Bool.and_self]
theorem ab_k92 : ab_cl92.all (ab_ch 92) = true := by
  simp only [ab_cl92, List.all_append, ab_k92_0, ab_k92_1, Bool.and_self]
theorem ab_k93 : ab_cl93.all (ab_ch 93) = true := by
  simp only [ab_cl93, List.all_append, ab_k93_0, ab_k93_1, ab_k93_2, Bool.and_self]
/-! The checks of part 06, for every place of every method. -/
set_option maxRecDepth 100000 in
theorem ab_kall (k : Nat) (hk : k < 94) : (ab_cd k).all (ab_ch k) = true := match k, hk with
  | 0, _ => ab_k0
  | 1, _ => ab_k1
  | 2, _ => ab_k2
  | 3, _ => ab_k3
  | 4, _ => ab_k4
  | 5, _ => ab_k5
  | 6, _ => ab_k6
  | 7, _ => ab_k7
  | 8, _ => ab_k8
  | 9, _ => ab_k9
  | 10, _ => ab_k10
  | 11, _ => ab_k11
  | 12, _ => ab_k12
  | 13, _ => ab_k13
  | 14, _ => ab_k14
  | 15, _ => ab_k15
  | 16, _ => ab_k16
  | 17, _ => ab_k17
  | 18, _ => ab_k18
  | 19, _ => ab_k19
  | 20, _ => ab_k20
  | 21, _ => ab_k21
  | 22, _ => ab_k22
  | 23, _ => ab_k23
  | 24, _ => ab_k24
  | 25, _ => ab_k25
  | 26, _ => ab_k26
  | 27, _ => ab_k27
  | 28, _ => ab_k28
  | 29, _ => ab_k29
  | 30, _ => ab_k30
  | 31, _ => ab_k31
  | 32, _ => ab_k32
  | 33, _ => ab_k33
  | 34, _ => ab_k34
  | 35, _ => ab_k35
  | 36, _ => ab_k36
  | 37, _ => ab_k37
  | 38, _ => ab_k38
  | 39, _ => ab_k39
  | 40, _ => ab_k40
  | 41, _ => ab_k41
  | 42, _ => ab_k42
  | 43, _ => ab_k43
  | 44, _ => ab_k44
  | 45, _ => ab_k45
  | 46, _ => ab_k46
  | 47, _ => ab_k47
  | 48, _ => ab_k48
  | 49, _ => ab_k49
  | 50, _ => ab_k50
  | 51, _ => ab_k51
  | 52, _ => ab_k52
  | 53, _ => ab_k53
  | 54, _ => ab_k54
  | 55, _ => ab_k55
  | 56, _ => ab_k56
  | 57, _ => ab_k57
  | 58, _ => ab_k58
  | 59, _ => ab_k59
  | 60, _ => ab_k60
  | 61, _ => ab_k61
  | 62, _ => ab_k62
  | 63, _ => ab_k63
  | 64, _ => ab_k64
  | 65, _ => ab_k65
  | 66, _ => ab_k66
  | 67, _ => ab_k67
  | 68, _ => ab_k68
  | 69, _ => ab_k69
  | 70, _ => ab_k70
  | 71, _ => ab_k71
  | 72, _ => ab_k72
  | 73, _ => ab_k73
  | 74, _ => ab_k74
  | 75, _ => ab_k75
  | 76, _ => ab_k76
  | 77, _ => ab_k77
  | 78, _ => ab_k78
  | 79, _ => ab_k79
  | 80, _ => ab_k80
  | 81, _ => ab_k81
  | 82, _ => ab_k82
  | 83, _ => ab_k83
  | 84, _ => ab_k84
  | 85, _ => ab_k85
  | 86, _ => ab_k86
  | 87, _ => ab_k87
  | 88, _ => ab_k88
  | 89, _ => ab_k89
  | 90, _ => ab_k90
  | 91, _ => ab_k91
  | 92, _ => ab_k92
  | 93, _ => ab_k93
  | n + 94, h => absurd h (by omega)
theorem ab_fnd_mem {pc : Nat} {ri : ab_RI} : ∀ (l : List (Nat × ab_RI)), ab_fnd pc l = some ri → (pc, ri) ∈ l := by
  intro l
  induction l with
  | nil => intro h; cases h
  | cons q t ih =>
    intro h
    obtain ⟨q1, q2⟩ := q
    unfold ab_fnd at h
    split at h
    · rename_i e
      cases h
      have := Nat.eq_of_beq_eq_true e
      subst this
      exact List.mem_cons_self
    · exact List.mem_cons_of_mem _ (ih h)
theorem ab_cod_ch {k pc : Nat} {ri : ab_RI} (hk : k < 94) (h : ab_cod k pc = some ri) : ab_dec k pc ri.1 ri.2.1 = true ∧ ab_chI k pc ri = true := by
  have h1 := List.all_eq_true.mp (ab_kall k hk) _ (ab_fnd_mem _ h)
  simp only [ab_ch, Bool.and_eq_true] at h1
  exact h1
