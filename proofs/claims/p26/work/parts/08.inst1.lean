/-! An equation an instruction: printed by wip/p26/gen/gen2.py. -/
/-! 21: SeamBeats$State.<init>()V -/
set_option maxRecDepth 100000 in
theorem i21_0 {v0 v1 : Value} {st : List Value} {h : ab_Hp} {Q : ab_O → ab_Hp → Prop} (hv : ab_isA v0 = true) : wp 21 0 [v0, v1] st h Q = wp 21 1 [v0, v1] (v0 :: st) h Q := wp_aload_n (by decide +kernel : ab_cod 21 0 = some (.aload_n 0, 1, 0, 0, 0, 0)) hv
set_option maxRecDepth 100000 in
theorem i21_1 {v0 v1 : Value} {r : Nat} {st : List Value} {h : ab_Hp} {Q : ab_O → ab_Hp → Prop} (hl : st.length ≤ 4) : wp 21 1 [v0, v1] (.ref r :: st) h Q = wp 21 4 [v0, v1] st h Q := wp_oinit (by decide +kernel : ab_cod 21 1 = some (.invokespecial 3, 3, 0, 0, 4, 41)) hl
set_option maxRecDepth 100000 in
theorem i21_4 {v0 v1 : Value} {st : List Value} {h : ab_Hp} {Q : ab_O → ab_Hp → Prop} (hv : ab_isA v0 = true) : wp 21 4 [v0, v1] st h Q = wp 21 5 [v0, v1] (v0 :: st) h Q := wp_aload_n (by decide +kernel : ab_cod 21 4 = some (.aload_n 0, 1, 0, 0, 0, 0)) hv
set_option maxRecDepth 100000 in
theorem i21_5 {v0 v1 : Value} {st : List Value} {h : ab_Hp} {Q : ab_O → ab_Hp → Prop} : wp 21 5 [v0, v1] st h Q = wp 21 7 [v0, v1] (.int (nI 6) :: st) h Q := wp_stp (ri := (.bipush 6, 2, 0, 0, 0, 0)) (by decide +kernel) rfl rfl rfl
set_option maxRecDepth 100000 in
theorem i21_7 {v0 v1 : Value} {x : Int32} {st : List Value} {h : ab_Hp} {Q : ab_O → ab_Hp → Prop} (hk : ab_nx h ≠ 0 ∧ 0 ≤ x ∧ x.toNatClampNeg ≤ 65536) : wp 21 7 [v0, v1] (.int x :: st) h Q = wp 21 10 [v0, v1] (.ref (ab_nx h) :: st) (ab_new h 3 x.toNatClampNeg x.toNatClampNeg) Q := wp_anew (by decide +kernel : ab_cod 21 7 = some (.anewarray 9, 3, 3, 42, 43, 0)) hk
set_option maxRecDepth 100000 in
theorem i21_10 {v0 v1 : Value} {r : Nat} {p : Nat} {st : List Value} {h : ab_Hp} {Q : ab_O → ab_Hp → Prop} (hk : (ab_sh h r).1 = 14) : wp 21 10 [v0, v1] (.ref p :: .ref r :: st) h Q = wp 21 13 [v0, v1] st (ab_setR h (ab_u (ab_hr h) r 0 (some p))) Q := wp_pf (by decide +kernel : ab_cod 21 10 = some (.putfield 11, 3, 4, 0, 148, 1)) hk rfl
set_option maxRecDepth 100000 in
theorem i21_13 {v0 v1 : Value} {st : List Value} {h : ab_Hp} {Q : ab_O → ab_Hp → Prop} (hv : ab_isA v0 = true) : wp 21 13 [v0, v1] st h Q = wp 21 14 [v0, v1] (v0 :: st) h Q := wp_aload_n (by decide +kernel : ab_cod 21 13 = some (.aload_n 0, 1, 0, 0, 0, 0)) hv
set_option maxRecDepth 100000 in
theorem i21_14 {v0 v1 : Value} {st : List Value} {h : ab_Hp} {Q : ab_O → ab_Hp → Prop} : wp 21 14 [v0, v1] st h Q = wp 21 16 [v0, v1] (.int (nI 8) :: st) h Q := wp_stp (ri := (.bipush 8, 2, 0, 0, 0, 0)) (by decide +kernel) rfl rfl rfl
set_option maxRecDepth 100000 in
theorem i21_16 {v0 v1 : Value} {x : Int32} {st : List Value} {h : ab_Hp} {Q : ab_O → ab_Hp → Prop} (hk : ab_nx h ≠ 0 ∧ 0 ≤ x ∧ x.toNatClampNeg ≤ 65536) : wp 21 16 [v0, v1] (.int x :: st) h Q = wp 21 19 [v0, v1] (.ref (ab_nx h) :: st) (ab_new h 4 x.toNatClampNeg x.toNatClampNeg) Q := wp_anew (by decide +kernel : ab_cod 21 16 = some (.anewarray 17, 3, 4, 44, 45, 0)) hk
set_option maxRecDepth 100000 in
theorem i21_19 {v0 v1 : Value} {r : Nat} {p : Nat} {st : List Value} {h : ab_Hp} {Q : ab_O → ab_Hp → Prop} (hk : (ab_sh h r).1 = 14) : wp 21 19 [v0, v1] (.ref p :: .ref r :: st) h Q = wp 21 22 [v0, v1] st (ab_setR h (ab_u (ab_hr h) r 1 (some p))) Q := wp_pf (by decide +kernel : ab_cod 21 19 = some (.putfield 19, 3, 4, 1, 149, 1)) hk rfl
set_option maxRecDepth 100000 in
theorem i21_22 {v0 v1 : Value} {st : List Value} {h : ab_Hp} {Q : ab_O → ab_Hp → Prop} (hv : ab_isA v0 = true) : wp 21 22 [v0, v1] st h Q = wp 21 23 [v0, v1] (v0 :: st) h Q := wp_aload_n (by decide +kernel : ab_cod 21 22 = some (.aload_n 0, 1, 0, 0, 0, 0)) hv
set_option maxRecDepth 100000 in
theorem i21_23 {v0 v1 : Value} {st : List Value} {h : ab_Hp} {Q : ab_O → ab_Hp → Prop} : wp 21 23 [v0, v1] st h Q = wp 21 24 [v0, v1] (.int (nI 0) :: st) h Q := wp_stp (ri := (.iconst 0, 1, 0, 0, 0, 0)) (by decide +kernel) rfl rfl rfl
set_option maxRecDepth 100000 in
theorem i21_24 {v0 v1 : Value} {r : Nat} {x : Int32} {st : List Value} {h : ab_Hp} {Q : ab_O → ab_Hp → Prop} (hk : (ab_sh h r).1 = 14) : wp 21 24 [v0, v1] (.int x :: .ref r :: st) h Q = wp 21 27 [v0, v1] st (ab_setI h (ab_u (ab_hi h) r 2 x)) Q := wp_pf (by decide +kernel : ab_cod 21 24 = some (.putfield 23, 3, 4, 2, 150, 0)) hk rfl
set_option maxRecDepth 100000 in
theorem i21_27 {v0 v1 : Value} {st : List Value} {h : ab_Hp} {Q : ab_O → ab_Hp → Prop} (hv : ab_isA v0 = true) : wp 21 27 [v0, v1] st h Q = wp 21 28 [v0, v1] (v0 :: st) h Q := wp_aload_n (by decide +kernel : ab_cod 21 27 = some (.aload_n 0, 1, 0, 0, 0, 0)) hv
set_option maxRecDepth 100000 in
theorem i21_28 {v0 v1 : Value} {st : List Value} {h : ab_Hp} {Q : ab_O → ab_Hp → Prop} : wp 21 28 [v0, v1] st h Q = wp 21 29 [v0, v1] (.int (nI 0) :: st) h Q := wp_stp (ri := (.iconst 0, 1, 0, 0, 0, 0)) (by decide +kernel) rfl rfl rfl
set_option maxRecDepth 100000 in
theorem i21_29 {v0 v1 : Value} {r : Nat} {x : Int32} {st : List Value} {h : ab_Hp} {Q : ab_O → ab_Hp → Prop} (hk : (ab_sh h r).1 = 14) : wp 21 29 [v0, v1] (.int x :: .ref r :: st) h Q = wp 21 32 [v0, v1] st (ab_setI h (ab_u (ab_hi h) r 3 x)) Q := wp_pf (by decide +kernel : ab_cod 21 29 = some (.putfield 27, 3, 4, 3, 152, 0)) hk rfl
set_option maxRecDepth 100000 in
theorem i21_32 {v0 v1 : Value} {st : List Value} {h : ab_Hp} {Q : ab_O → ab_Hp → Prop} (hv : ab_isA v0 = true) : wp 21 32 [v0, v1] st h Q = wp 21 33 [v0, v1] (v0 :: st) h Q := wp_aload_n (by decide +kernel : ab_cod 21 32 = some (.aload_n 0, 1, 0, 0, 0, 0)) hv
set_option maxRecDepth 100000 in
theorem i21_33 {v0 v1 : Value} {st : List Value} {h : ab_Hp} {Q : ab_O → ab_Hp → Prop} : wp 21 33 [v0, v1] st h Q = wp 21 34 [v0, v1] (.int (nI 0) :: st) h Q := wp_stp (ri := (.iconst 0, 1, 0, 0, 0, 0)) (by decide +kernel) rfl rfl rfl
set_option maxRecDepth 100000 in
theorem i21_34 {v0 v1 : Value} {r : Nat} {x : Int32} {st : List Value} {h : ab_Hp} {Q : ab_O → ab_Hp → Prop} (hk : (ab_sh h r).1 = 14) : wp 21 34 [v0, v1] (.int x :: .ref r :: st) h Q = wp 21 37 [v0, v1] st (ab_setI h (ab_u (ab_hi h) r 4 x)) Q := wp_pf (by decide +kernel : ab_cod 21 34 = some (.putfield 30, 3, 4, 4, 154, 0)) hk rfl
set_option maxRecDepth 100000 in
theorem i21_37 {v0 v1 : Value} {st : List Value} {h : ab_Hp} {Q : ab_O → ab_Hp → Prop} (hv : ab_isA v0 = true) : wp 21 37 [v0, v1] st h Q = wp 21 38 [v0, v1] (v0 :: st) h Q := wp_aload_n (by decide +kernel : ab_cod 21 37 = some (.aload_n 0, 1, 0, 0, 0, 0)) hv
set_option maxRecDepth 100000 in
theorem i21_38 {v0 v1 : Value} {st : List Value} {h : ab_Hp} {Q : ab_O → ab_Hp → Prop} : wp 21 38 [v0, v1] st h Q = wp 21 39 [v0, v1] (.int (nI 0) :: st) h Q := wp_stp (ri := (.iconst 0, 1, 0, 0, 0, 0)) (by decide +kernel) rfl rfl rfl
set_option maxRecDepth 100000 in
theorem i21_39 {v0 v1 : Value} {r : Nat} {x : Int32} {st : List Value} {h : ab_Hp} {Q : ab_O → ab_Hp → Prop} (hk : (ab_sh h r).1 = 14) : wp 21 39 [v0, v1] (.int x :: .ref r :: st) h Q = wp 21 42 [v0, v1] st (ab_setI h (ab_u (ab_hi h) r 5 x)) Q := wp_pf (by decide +kernel : ab_cod 21 39 = some (.putfield 33, 3, 4, 5, 156, 0)) hk rfl
set_option maxRecDepth 100000 in
theorem i21_42 {v0 v1 : Value} {st : List Value} {h : ab_Hp} {Q : ab_O → ab_Hp → Prop} (hv : ab_isA v0 = true) : wp 21 42 [v0, v1] st h Q = wp 21 43 [v0, v1] (v0 :: st) h Q := wp_aload_n (by decide +kernel : ab_cod 21 42 = some (.aload_n 0, 1, 0, 0, 0, 0)) hv
set_option maxRecDepth 100000 in
theorem i21_43 {v0 v1 : Value} {st : List Value} {h : ab_Hp} {Q : ab_O → ab_Hp → Prop} : wp 21 43 [v0, v1] st h Q = wp 21 44 [v0, v1] (.int ((-1)) :: st) h Q := wp_stp (ri := (.iconst (-1), 1, 0, 0, 0, 0)) (by decide +kernel) rfl rfl rfl
set_option maxRecDepth 100000 in
theorem i21_44 {v0 v1 : Value} {r : Nat} {x : Int32} {st : List Value} {h : ab_Hp} {Q : ab_O → ab_Hp → Prop} (hk : (ab_sh h r).1 = 14) : wp 21 44 [v0, v1] (.int x :: .ref r :: st) h Q = wp 21 47 [v0, v1] st (ab_setI h (ab_u (ab_hi h) r 6 x)) Q := wp_pf (by decide +kernel : ab_cod 21 44 = some (.putfield 36, 3, 4, 6, 157, 0)) hk rfl
set_option maxRecDepth 100000 in
theorem i21_47 {v0 v1 : Value} {st : List Value} {h : ab_Hp} {Q : ab_O → ab_Hp → Prop} : wp 21 47 [v0, v1] st h Q = wp 21 48 [v0, v1] (.int (nI 0) :: st) h Q := wp_stp (ri := (.iconst 0, 1, 0, 0, 0, 0)) (by decide +kernel) rfl rfl rfl
set_option maxRecDepth 100000 in
theorem i21_48 {v0 v1 : Value} {w : Int32} {st : List Value} {h : ab_Hp} {Q : ab_O → ab_Hp → Prop} : wp 21 48 [v0, v1] (.int w :: st) h Q = wp 21 49 [ab_clr v0, .int w] st h Q := wp_stp (ri := (.istore_n 1, 1, 0, 0, 0, 0)) (by decide +kernel) rfl rfl rfl
set_option maxRecDepth 100000 in
theorem i21_49 {v0 : Value} {x : Int32} {st : List Value} {h : ab_Hp} {Q : ab_O → ab_Hp → Prop} : wp 21 49 [v0, .int x] st h Q = wp 21 50 [v0, .int x] (.int x :: st) h Q := wp_stp (ri := (.iload_n 1, 1, 0, 0, 0, 0)) (by decide +kernel) rfl rfl rfl
set_option maxRecDepth 100000 in
theorem i21_50 {v0 v1 : Value} {st : List Value} {h : ab_Hp} {Q : ab_O → ab_Hp → Prop} (hv : ab_isA v0 = true) : wp 21 50 [v0, v1] st h Q = wp 21 51 [v0, v1] (v0 :: st) h Q := wp_aload_n (by decide +kernel : ab_cod 21 50 = some (.aload_n 0, 1, 0, 0, 0, 0)) hv
set_option maxRecDepth 100000 in
theorem i21_51 {v0 v1 : Value} {r : Nat} {st : List Value} {h : ab_Hp} {Q : ab_O → ab_Hp → Prop} (hk : (ab_sh h r).1 = 14) : wp 21 51 [v0, v1] (.ref r :: st) h Q = wp 21 54 [v0, v1] (va_rf (ab_hr h r 0) :: st) h Q := wp_gf (by decide +kernel : ab_cod 21 51 = some (.getfield 11, 3, 4, 0, 148, 1)) hk
set_option maxRecDepth 100000 in
theorem i21_54 {v0 v1 : Value} {r : Nat} {st : List Value} {h : ab_Hp} {Q : ab_O → ab_Hp → Prop} (hk : 1 ≤ (ab_sh h r).1 ∧ (ab_sh h r).1 ≤ 6) : wp 21 54 [v0, v1] (.ref r :: st) h Q = wp 21 55 [v0, v1] (.int (nI (ab_sh h r).2) :: st) h Q := wp_al (by decide +kernel : ab_cod 21 54 = some (.arraylength, 1, 0, 0, 0, 0)) hk
set_option maxRecDepth 100000 in
theorem i21_55 {v0 v1 : Value} {x y : Int32} {st : List Value} {h : ab_Hp} {Q : ab_O → ab_Hp → Prop} : wp 21 55 [v0, v1] (.int y :: .int x :: st) h Q = if y ≤ x then wp 21 77 [v0, v1] st h Q else wp 21 58 [v0, v1] st h Q := wp_icmpP (by decide +kernel : ab_cod 21 55 = some (.if_icmp .ge 22, 3, 77, 0, 0, 0)) rfl
set_option maxRecDepth 100000 in
theorem i21_58 {v0 v1 : Value} {st : List Value} {h : ab_Hp} {Q : ab_O → ab_Hp → Prop} (hv : ab_isA v0 = true) : wp 21 58 [v0, v1] st h Q = wp 21 59 [v0, v1] (v0 :: st) h Q := wp_aload_n (by decide +kernel : ab_cod 21 58 = some (.aload_n 0, 1, 0, 0, 0, 0)) hv
set_option maxRecDepth 100000 in
theorem i21_59 {v0 v1 : Value} {r : Nat} {st : List Value} {h : ab_Hp} {Q : ab_O → ab_Hp → Prop} (hk : (ab_sh h r).1 = 14) : wp 21 59 [v0, v1] (.ref r :: st) h Q = wp 21 62 [v0, v1] (va_rf (ab_hr h r 0) :: st) h Q := wp_gf (by decide +kernel : ab_cod 21 59 = some (.getfield 11, 3, 4, 0, 148, 1)) hk
set_option maxRecDepth 100000 in
theorem i21_62 {v0 : Value} {x : Int32} {st : List Value} {h : ab_Hp} {Q : ab_O → ab_Hp → Prop} : wp 21 62 [v0, .int x] st h Q = wp 21 63 [v0, .int x] (.int x :: st) h Q := wp_stp (ri := (.iload_n 1, 1, 0, 0, 0, 0)) (by decide +kernel) rfl rfl rfl
set_option maxRecDepth 100000 in
theorem i21_63 {v0 v1 : Value} {st : List Value} {h : ab_Hp} {Q : ab_O → ab_Hp → Prop} (hk : ab_nx h ≠ 0) : wp 21 63 [v0, v1] st h Q = wp 21 66 [v0, v1] (.ref (ab_nx h) :: st) (ab_new h 12 0 11) Q := wp_new (by decide +kernel : ab_cod 21 63 = some (.new 9, 3, 2, 42, 46, 17)) rfl hk
set_option maxRecDepth 100000 in
theorem i21_66 {v0 v1 : Value} {v : Value} {st : List Value} {h : ab_Hp} {Q : ab_O → ab_Hp → Prop} (hv : v.category = 1) : wp 21 66 [v0, v1] (v :: st) h Q = wp 21 67 [v0, v1] (v :: v :: st) h Q := wp_dup (by decide +kernel : ab_cod 21 66 = some (.dup, 1, 0, 0, 0, 0)) hv
set_option maxRecDepth 100000 in
theorem i21_67 {v0 v1 : Value} {r : Nat} {st : List Value} {h : ab_Hp} {Q : ab_O → ab_Hp → Prop} (hl : st.length ≤ 4) : wp 21 67 [v0, v1] (.ref r :: st) h Q = wp 13 0 [.ref r] [] h (ab_K 21 67 [v0, v1] st Q) := wp_callI (as := []) (by decide +kernel : ab_cod 21 67 = some (.invokespecial 39, 3, 13, 1, 3, 47)) (by decide) rfl rfl rfl rfl hl
set_option maxRecDepth 100000 in
theorem i21_70 {v0 v1 : Value} {r p : Nat} {x : Int32} {st : List Value} {h : ab_Hp} {Q : ab_O → ab_Hp → Prop} (hk : ((3 ≤ (ab_sh h r).1 ∧ (ab_sh h r).1 ≤ 5) ∧ (ab_sh h p).1 = 10 + ab_ac (ab_sh h r).1) ∧ ab_in x (ab_sh h r).2 = true) : wp 21 70 [v0, v1] (.ref p :: .int x :: .ref r :: st) h Q = wp 21 71 [v0, v1] st (ab_setR h (ab_u (ab_hr h) r x.toNatClampNeg (some p))) Q := wp_aas (by decide +kernel : ab_cod 21 70 = some (.aastore, 1, 0, 0, 0, 0)) hk
set_option maxRecDepth 100000 in
theorem i21_71 {v0 : Value} {x : Int32} {st : List Value} {h : ab_Hp} {Q : ab_O → ab_Hp → Prop} : wp 21 71 [v0, .int x] st h Q = wp 21 74 [ab_clr v0, .int (x + nI 1)] st h Q := wp_stp (ri := (.iinc 1 1, 3, 0, 0, 0, 0)) (by decide +kernel) rfl rfl rfl
set_option maxRecDepth 100000 in
theorem i21_74 {v0 v1 : Value} {st : List Value} {h : ab_Hp} {Q : ab_O → ab_Hp → Prop} : wp 21 74 [v0, v1] st h Q = wp 21 49 [v0, v1] st h Q := wp_stp (ri := (.goto (-25), 3, 49, 0, 0, 0)) (by decide +kernel) rfl rfl rfl
set_option maxRecDepth 100000 in
theorem i21_77 {v0 v1 : Value} {st : List Value} {h : ab_Hp} {Q : ab_O → ab_Hp → Prop} : wp 21 77 [v0, v1] st h Q = wp 21 78 [v0, v1] (.int (nI 0) :: st) h Q := wp_stp (ri := (.iconst 0, 1, 0, 0, 0, 0)) (by decide +kernel) rfl rfl rfl
set_option maxRecDepth 100000 in
theorem i21_78 {v0 v1 : Value} {w : Int32} {st : List Value} {h : ab_Hp} {Q : ab_O → ab_Hp → Prop} : wp 21 78 [v0, v1] (.int w :: st) h Q = wp 21 79 [ab_clr v0, .int w] st h Q := wp_stp (ri := (.istore_n 1, 1, 0, 0, 0, 0)) (by decide +kernel) rfl rfl rfl
set_option maxRecDepth 100000 in
theorem i21_79 {v0 : Value} {x : Int32} {st : List Value} {h : ab_Hp} {Q : ab_O → ab_Hp → Prop} : wp 21 79 [v0, .int x] st h Q = wp 21 80 [v0, .int x] (.int x :: st) h Q := wp_stp (ri := (.iload_n 1, 1, 0, 0, 0, 0)) (by decide +kernel) rfl rfl rfl
set_option maxRecDepth 100000 in
theorem i21_80 {v0 v1 : Value} {st : List Value} {h : ab_Hp} {Q : ab_O → ab_Hp → Prop} (hv : ab_isA v0 = true) : wp 21 80 [v0, v1] st h Q = wp 21 81 [v0, v1] (v0 :: st) h Q := wp_aload_n (by decide +kernel : ab_cod 21 80 = some (.aload_n 0, 1, 0, 0, 0, 0)) hv
set_option maxRecDepth 100000 in
theorem i21_81 {v0 v1 : Value} {r : Nat} {st : List Value} {h : ab_Hp} {Q : ab_O → ab_Hp → Prop} (hk : (ab_sh h r).1 = 14) : wp 21 81 [v0, v1] (.ref r :: st) h Q = wp 21 84 [v0, v1] (va_rf (ab_hr h r 1) :: st) h Q := wp_gf (by decide +kernel : ab_cod 21 81 = some (.getfield 19, 3, 4, 1, 149, 1)) hk
set_option maxRecDepth 100000 in
theorem i21_84 {v0 v1 : Value} {r : Nat} {st : List Value} {h : ab_Hp} {Q : ab_O → ab_Hp → Prop} (hk : 1 ≤ (ab_sh h r).1 ∧ (ab_sh h r).1 ≤ 6) : wp 21 84 [v0, v1] (.ref r :: st) h Q = wp 21 85 [v0, v1] (.int (nI (ab_sh h r).2) :: st) h Q := wp_al (by decide +kernel : ab_cod 21 84 = some (.arraylength, 1, 0, 0, 0, 0)) hk
set_option maxRecDepth 100000 in
theorem i21_85 {v0 v1 : Value} {x y : Int32} {st : List Value} {h : ab_Hp} {Q : ab_O → ab_Hp → Prop} : wp 21 85 [v0, v1] (.int y :: .int x :: st) h Q = if y ≤ x then wp 21 107 [v0, v1] st h Q else wp 21 88 [v0, v1] st h Q := wp_icmpP (by decide +kernel : ab_cod 21 85 = some (.if_icmp .ge 22, 3, 107, 0, 0, 0)) rfl
set_option maxRecDepth 100000 in
theorem i21_88 {v0 v1 : Value} {st : List Value} {h : ab_Hp} {Q : ab_O → ab_Hp → Prop} (hv : ab_isA v0 = true) : wp 21 88 [v0, v1] st h Q = wp 21 89 [v0, v1] (v0 :: st) h Q := wp_aload_n (by decide +kernel : ab_cod 21 88 = some (.aload_n 0, 1, 0, 0, 0, 0)) hv
set_option maxRecDepth 100000 in
theorem i21_89 {v0 v1 : Value} {r : Nat} {st : List Value} {h : ab_Hp} {Q : ab_O → ab_Hp → Prop} (hk : (ab_sh h r).1 = 14) : wp 21 89 [v0, v1] (.ref r :: st) h Q = wp 21 92 [v0, v1] (va_rf (ab_hr h r 1) :: st) h Q := wp_gf (by decide +kernel : ab_cod 21 89 = some (.getfield 19, 3, 4, 1, 149, 1)) hk
set_option maxRecDepth 100000 in
theorem i21_92 {v0 : Value} {x : Int32} {st : List Value} {h : ab_Hp} {Q : ab_O → ab_Hp → Prop} : wp 21 92 [v0, .int x] st h Q = wp 21 93 [v0, .int x] (.int x :: st) h Q := wp_stp (ri := (.iload_n 1, 1, 0, 0, 0, 0)) (by decide +kernel) rfl rfl rfl
set_option maxRecDepth 100000 in
theorem i21_93 {v0 v1 : Value} {st : List Value} {h : ab_Hp} {Q : ab_O → ab_Hp → Prop} (hk : ab_nx h ≠ 0) : wp 21 93 [v0, v1] st h Q = wp 21 96 [v0, v1] (.ref (ab_nx h) :: st) (ab_new h 13 0 6) Q := wp_new (by decide +kernel : ab_cod 21 93 = some (.new 17, 3, 3, 44, 116, 19)) rfl hk
set_option maxRecDepth 100000 in
theorem i21_96 {v0 v1 : Value} {v : Value} {st : List Value} {h : ab_Hp} {Q : ab_O → ab_Hp → Prop} (hv : v.category = 1) : wp 21 96 [v0, v1] (v :: st) h Q = wp 21 97 [v0, v1] (v :: v :: st) h Q := wp_dup (by decide +kernel : ab_cod 21 96 = some (.dup, 1, 0, 0, 0, 0)) hv
set_option maxRecDepth 100000 in
theorem i21_97 {v0 v1 : Value} {r : Nat} {st : List Value} {h : ab_Hp} {Q : ab_O → ab_Hp → Prop} (hl : st.length ≤ 4) : wp 21 97 [v0, v1] (.ref r :: st) h Q = wp 17 0 [.ref r] [] h (ab_K 21 97 [v0, v1] st Q) := wp_callI (as := []) (by decide +kernel : ab_cod 21 97 = some (.invokespecial 40, 3, 17, 1, 3, 117)) (by decide) rfl rfl rfl rfl hl
set_option maxRecDepth 100000 in
theorem i21_100 {v0 v1 : Value} {r p : Nat} {x : Int32} {st : List Value} {h : ab_Hp} {Q : ab_O → ab_Hp → Prop} (hk : ((3 ≤ (ab_sh h r).1 ∧ (ab_sh h r).1 ≤ 5) ∧ (ab_sh h p).1 = 10 + ab_ac (ab_sh h r).1) ∧ ab_in x (ab_sh h r).2 = true) : wp 21 100 [v0, v1] (.ref p :: .int x :: .ref r :: st) h Q = wp 21 101 [v0, v1] st (ab_setR h (ab_u (ab_hr h) r x.toNatClampNeg (some p))) Q := wp_aas (by decide +kernel : ab_cod 21 100 = some (.aastore, 1, 0, 0, 0, 0)) hk
set_option maxRecDepth 100000 in
theorem i21_101 {v0 : Value} {x : Int32} {st : List Value} {h : ab_Hp} {Q : ab_O → ab_Hp → Prop} : wp 21 101 [v0, .int x] st h Q = wp 21 104 [ab_clr v0, .int (x + nI 1)] st h Q := wp_stp (ri := (.iinc 1 1, 3, 0, 0, 0, 0)) (by decide +kernel) rfl rfl rfl
set_option maxRecDepth 100000 in
theorem i21_104 {v0 v1 : Value} {st : List Value} {h : ab_Hp} {Q : ab_O → ab_Hp → Prop} : wp 21 104 [v0, v1] st h Q = wp 21 79 [v0, v1] st h Q := wp_stp (ri := (.goto (-25), 3, 79, 0, 0, 0)) (by decide +kernel) rfl rfl rfl
set_option maxRecDepth 100000 in
theorem i21_107 {v0 v1 : Value} {h : ab_Hp} {Q : ab_O → ab_Hp → Prop} : wp 21 107 [v0, v1] [] h Q = Q (.inl none) h := wp_vret (by decide +kernel : ab_cod 21 107 = some (.return_, 1, 0, 0, 0, 0)) rfl
/-! 22: SeamBeats$State.roomAt(I)LSeamBeats$Room; -/
theorem i22_0 {v0 : Value} {x : Int32} {st : List Value} {h : ab_Hp} {Q : ab_O → ab_Hp → Prop} : wp 22 0 [v0, .int x] st h Q = wp 22 1 [v0, .int x] (.int x :: st) h Q := wp_stp (ri := (.iload_n 1, 1, 0, 0, 0, 0)) (by decide +kernel) rfl rfl rfl
theorem i22_1 {v0 v1 : Value} {x : Int32} {st : List Value} {h : ab_Hp} {Q : ab_O → ab_Hp → Prop} : wp 22 1 [v0, v1] (.int x :: st) h Q = if x < 0 then wp 22 22 [v0, v1] st h Q else wp 22 4 [v0, v1] st h Q := wp_ifcP (by decide +kernel : ab_cod 22 1 = some (.ifCond .lt 21, 3, 22, 0, 0, 0)) rfl
theorem i22_4 {v0 : Value} {x : Int32} {st : List Value} {h : ab_Hp} {Q : ab_O → ab_Hp → Prop} : wp 22 4 [v0, .int x] st h Q = wp 22 5 [v0, .int x] (.int x :: st) h Q := wp_stp (ri := (.iload_n 1, 1, 0, 0, 0, 0)) (by decide +kernel) rfl rfl rfl
theorem i22_5 {v0 v1 : Value} {st : List Value} {h : ab_Hp} {Q : ab_O → ab_Hp → Prop} (hv : ab_isA v0 = true) : wp 22 5 [v0, v1] st h Q = wp 22 6 [v0, v1] (v0 :: st) h Q := wp_aload_n (by decide +kernel : ab_cod 22 5 = some (.aload_n 0, 1, 0, 0, 0, 0)) hv
theorem i22_6 {v0 v1 : Value} {r : Nat} {st : List Value} {h : ab_Hp} {Q : ab_O → ab_Hp → Prop} (hk : (ab_sh h r).1 = 14) : wp 22 6 [v0, v1] (.ref r :: st) h Q = wp 22 9 [v0, v1] (va_rf (ab_hr h r 0) :: st) h Q := wp_gf (by decide +kernel : ab_cod 22 6 = some (.getfield 11, 3, 4, 0, 148, 1)) hk
theorem i22_9 {v0 v1 : Value} {r : Nat} {st : List Value} {h : ab_Hp} {Q : ab_O → ab_Hp → Prop} (hk : 1 ≤ (ab_sh h r).1 ∧ (ab_sh h r).1 ≤ 6) : wp 22 9 [v0, v1] (.ref r :: st) h Q = wp 22 10 [v0, v1] (.int (nI (ab_sh h r).2) :: st) h Q := wp_al (by decide +kernel : ab_cod 22 9 = some (.arraylength, 1, 0, 0, 0, 0)) hk
theorem i22_10 {v0 v1 : Value} {x y : Int32} {st : List Value} {h : ab_Hp} {Q : ab_O → ab_Hp → Prop} : wp 22 10 [v0, v1] (.int y :: .int x :: st) h Q = if y ≤ x then wp 22 22 [v0, v1] st h Q else wp 22 13 [v0, v1] st h Q := wp_icmpP (by decide +kernel : ab_cod 22 10 = some (.if_icmp .ge 12, 3, 22, 0, 0, 0)) rfl
theorem i22_13 {v0 v1 : Value} {st : List Value} {h : ab_Hp} {Q : ab_O → ab_Hp → Prop} (hv : ab_isA v0 = true) : wp 22 13 [v0, v1] st h Q = wp 22 14 [v0, v1] (v0 :: st) h Q := wp_aload_n (by decide +kernel : ab_cod 22 13 = some (.aload_n 0, 1, 0, 0, 0, 0)) hv
theorem i22_14 {v0 v1 : Value} {r : Nat} {st : List Value} {h : ab_Hp} {Q : ab_O → ab_Hp → Prop} (hk : (ab_sh h r).1 = 14) : wp 22 14 [v0, v1] (.ref r :: st) h Q = wp 22 17 [v0, v1] (va_rf (ab_hr h r 0) :: st) h Q := wp_gf (by decide +kernel : ab_cod 22 14 = some (.getfield 11, 3, 4, 0, 148, 1)) hk
theorem i22_17 {v0 : Value} {x : Int32} {st : List Value} {h : ab_Hp} {Q : ab_O → ab_Hp → Prop} : wp 22 17 [v0, .int x] st h Q = wp 22 18 [v0, .int x] (.int x :: st) h Q := wp_stp (ri := (.iload_n 1, 1, 0, 0, 0, 0)) (by decide +kernel) rfl rfl rfl
theorem i22_18 {v0 v1 : Value} {r : Nat} {x : Int32} {st : List Value} {h : ab_Hp} {Q : ab_O → ab_Hp → Prop} (hk : (3 ≤ (ab_sh h r).1 ∧ (ab_sh h r).1 ≤ 5) ∧ ab_in x (ab_sh h r).2 = true) : wp 22 18 [v0, v1] (.int x :: .ref r :: st) h Q = wp 22 19 [v0, v1] (va_rf (ab_hr h r x.toNatClampNeg) :: st) h Q := wp_aa (by decide +kernel : ab_cod 22 18 = some (.aaload, 1, 0, 0, 0, 0)) hk
theorem i22_19 {v0 v1 : Value} {st : List Value} {h : ab_Hp} {Q : ab_O → ab_Hp → Prop} : wp 22 19 [v0, v1] st h Q = wp 22 23 [v0, v1] st h Q := wp_stp (ri := (.goto 4, 3, 23, 0, 0, 0)) (by decide +kernel) rfl rfl rfl
theorem i22_22 {v0 v1 : Value} {st : List Value} {h : ab_Hp} {Q : ab_O → ab_Hp → Prop} : wp 22 22 [v0, v1] st h Q = wp 22 23 [v0, v1] (.null :: st) h Q := wp_stp (ri := (.aconst_null, 1, 0, 0, 0, 0)) (by decide +kernel) rfl rfl rfl
theorem i22_23 {v0 v1 : Value} {v : Value} {h : ab_Hp} {Q : ab_O → ab_Hp → Prop} (hv : ab_isA v = true) : wp 22 23 [v0, v1] [v] h Q = Q (.inl (some v)) h := wp_aret (by decide +kernel : ab_cod 22 23 = some (.areturn, 1, 0, 0, 0, 0)) rfl hv
/-! 23: SeamBeats$State.seamAt(I)LSeamBeats$Seam; -/
theorem i23_0 {v0 : Value} {x : Int32} {st : List Value} {h : ab_Hp} {Q : ab_O → ab_Hp → Prop} : wp 23 0 [v0, .int x] st h Q = wp 23 1 [v0, .int x] (.int x :: st) h Q := wp_stp (ri := (.iload_n 1, 1, 0, 0, 0, 0)) (by decide +kernel) rfl rfl rfl
theorem i23_1 {v0 v1 : Value} {x : Int32} {st : List Value} {h : ab_Hp} {Q : ab_O → ab_Hp → Prop} : wp 23 1 [v0, v1] (.int x :: st) h Q = if x < 0 then wp 23 30 [v0, v1] st h Q else wp 23 4 [v0, v1] st h Q := wp_ifcP (by decide +kernel : ab_cod 23 1 = some (.ifCond .lt 29, 3, 30, 0, 0, 0)) rfl
theorem i23_4 {v0 : Value} {x : Int32} {st : List Value} {h : ab_Hp} {Q : ab_O → ab_Hp → Prop} : wp 23 4 [v0, .int x] st h Q = wp 23 5 [v0, .int x] (.int x :: st) h Q := wp_stp (ri := (.iload_n 1, 1, 0, 0, 0, 0)) (by decide +kernel) rfl rfl rfl
theorem i23_5 {v0 v1 : Value} {st : List Value} {h : ab_Hp} {Q : ab_O → ab_Hp → Prop} (hv : ab_isA v0 = true) : wp 23 5 [v0, v1] st h Q = wp 23 6 [v0, v1] (v0 :: st) h Q := wp_aload_n (by decide +kernel : ab_cod 23 5 = some (.aload_n 0, 1, 0, 0, 0, 0)) hv
theorem i23_6 {v0 v1 : Value} {r : Nat} {st : List Value} {h : ab_Hp} {Q : ab_O → ab_Hp → Prop} (hk : (ab_sh h r).1 = 14) : wp 23 6 [v0, v1] (.ref r :: st) h Q = wp 23 9 [v0, v1] (.int (ab_hi h r 2) :: st) h Q := wp_gf (by decide +kernel : ab_cod 23 6 = some (.getfield 23, 3, 4, 2, 150, 0)) hk
theorem i23_9 {v0 v1 : Value} {x y : Int32} {st : List Value} {h : ab_Hp} {Q : ab_O → ab_Hp → Prop} : wp 23 9 [v0, v1] (.int y :: .int x :: st) h Q = if y ≤ x then wp 23 30 [v0, v1] st h Q else wp 23 12 [v0, v1] st h Q := wp_icmpP (by decide +kernel : ab_cod 23 9 = some (.if_icmp .ge 21, 3, 30, 0, 0, 0)) rfl
theorem i23_12 {v0 : Value} {x : Int32} {st : List Value} {h : ab_Hp} {Q : ab_O → ab_Hp → Prop} : wp 23 12 [v0, .int x] st h Q = wp 23 13 [v0, .int x] (.int x :: st) h Q := wp_stp (ri := (.iload_n 1, 1, 0, 0, 0, 0)) (by decide +kernel) rfl rfl rfl
theorem i23_13 {v0 v1 : Value} {st : List Value} {h : ab_Hp} {Q : ab_O → ab_Hp → Prop} (hv : ab_isA v0 = true) : wp 23 13 [v0, v1] st h Q = wp 23 14 [v0, v1] (v0 :: st) h Q := wp_aload_n (by decide +kernel : ab_cod 23 13 = some (.aload_n 0, 1, 0, 0, 0, 0)) hv
theorem i23_14 {v0 v1 : Value} {r : Nat} {st : List Value} {h : ab_Hp} {Q : ab_O → ab_Hp → Prop} (hk : (ab_sh h r).1 = 14) : wp 23 14 [v0, v1] (.ref r :: st) h Q = wp 23 17 [v0, v1] (va_rf (ab_hr h r 1) :: st) h Q := wp_gf (by decide +kernel : ab_cod 23 14 = some (.getfield 19, 3, 4, 1, 149, 1)) hk
theorem i23_17 {v0 v1 : Value} {r : Nat} {st : List Value} {h : ab_Hp} {Q : ab_O → ab_Hp → Prop} (hk : 1 ≤ (ab_sh h r).1 ∧ (ab_sh h r).1 ≤ 6) : wp 23 17 [v0, v1] (.ref r :: st) h Q = wp 23 18 [v0, v1] (.int (nI (ab_sh h r).2) :: st) h Q := wp_al (by decide +kernel : ab_cod 23 17 = some (.arraylength, 1, 0, 0, 0, 0)) hk
theorem i23_18 {v0 v1 : Value} {x y : Int32} {st : List Value} {h : ab_Hp} {Q : ab_O → ab_Hp → Prop} : wp 23 18 [v0, v1] (.int y :: .int x :: st) h Q = if y ≤ x then wp 23 30 [v0, v1] st h Q else wp 23 21 [v0, v1] st h Q := wp_icmpP (by decide +kernel : ab_cod 23 18 = some (.if_icmp .ge 12, 3, 30, 0, 0, 0)) rfl
theorem i23_21 {v0 v1 : Value} {st : List Value} {h : ab_Hp} {Q : ab_O → ab_Hp → Prop} (hv : ab_isA v0 = true) : wp 23 21 [v0, v1] st h Q = wp 23 22 [v0, v1] (v0 :: st) h Q := wp_aload_n (by decide +kernel : ab_cod 23 21 = some (.aload_n 0, 1, 0, 0, 0, 0)) hv
theorem i23_22 {v0 v1 : Value} {r : Nat} {st : List Value} {h : ab_Hp} {Q : ab_O → ab_Hp → Prop} (hk : (ab_sh h r).1 = 14) : wp 23 22 [v0, v1] (.ref r :: st) h Q = wp 23 25 [v0, v1] (va_rf (ab_hr h r 1) :: st) h Q := wp_gf (by decide +kernel : ab_cod 23 22 = some (.getfield 19, 3, 4, 1, 149, 1)) hk
theorem i23_25 {v0 : Value} {x : Int32} {st : List Value} {h : ab_Hp} {Q : ab_O → ab_Hp → Prop} : wp 23 25 [v0, .int x] st h Q = wp 23 26 [v0, .int x] (.int x :: st) h Q := wp_stp (ri := (.iload_n 1, 1, 0, 0, 0, 0)) (by decide +kernel) rfl rfl rfl
theorem i23_26 {v0 v1 : Value} {r : Nat} {x : Int32} {st : List Value} {h : ab_Hp} {Q : ab_O → ab_Hp → Prop} (hk : (3 ≤ (ab_sh h r).1 ∧ (ab_sh h r).1 ≤ 5) ∧ ab_in x (ab_sh h r).2 = true) : wp 23 26 [v0, v1] (.int x :: .ref r :: st) h Q = wp 23 27 [v0, v1] (va_rf (ab_hr h r x.toNatClampNeg) :: st) h Q := wp_aa (by decide +kernel : ab_cod 23 26 = some (.aaload, 1, 0, 0, 0, 0)) hk
theorem i23_27 {v0 v1 : Value} {st : List Value} {h : ab_Hp} {Q : ab_O → ab_Hp → Prop} : wp 23 27 [v0, v1] st h Q = wp 23 31 [v0, v1] st h Q := wp_stp (ri := (.goto 4, 3, 31, 0, 0, 0)) (by decide +kernel) rfl rfl rfl
theorem i23_30 {v0 v1 : Value} {st : List Value} {h : ab_Hp} {Q : ab_O → ab_Hp → Prop} : wp 23 30 [v0, v1] st h Q = wp 23 31 [v0, v1] (.null :: st) h Q := wp_stp (ri := (.aconst_null, 1, 0, 0, 0, 0)) (by decide +kernel) rfl rfl rfl
theorem i23_31 {v0 v1 : Value} {v : Value} {h : ab_Hp} {Q : ab_O → ab_Hp → Prop} (hv : ab_isA v = true) : wp 23 31 [v0, v1] [v] h Q = Q (.inl (some v)) h := wp_aret (by decide +kernel : ab_cod 23 31 = some (.areturn, 1, 0, 0, 0, 0)) rfl hv
/-! 24: SeamBeats$State.addSeam(IIII)I -/
theorem i24_0 {v0 v1 v2 v3 v4 v5 v6 v7 : Value} {st : List Value} {h : ab_Hp} {Q : ab_O → ab_Hp → Prop} (hv : ab_isA v0 = true) : wp 24 0 [v0, v1, v2, v3, v4, v5, v6, v7] st h Q = wp 24 1 [v0, v1, v2, v3, v4, v5, v6, v7] (v0 :: st) h Q := wp_aload_n (by decide +kernel : ab_cod 24 0 = some (.aload_n 0, 1, 0, 0, 0, 0)) hv
theorem i24_1 {v0 v1 v2 v3 v4 v5 v6 v7 : Value} {r : Nat} {st : List Value} {h : ab_Hp} {Q : ab_O → ab_Hp → Prop} (hk : (ab_sh h r).1 = 14) : wp 24 1 [v0, v1, v2, v3, v4, v5, v6, v7] (.ref r :: st) h Q = wp 24 4 [v0, v1, v2, v3, v4, v5, v6, v7] (.int (ab_hi h r 2) :: st) h Q := wp_gf (by decide +kernel : ab_cod 24 1 = some (.getfield 23, 3, 4, 2, 150, 0)) hk
theorem i24_4 {v0 v1 v2 v3 v4 v5 v6 v7 : Value} {w : Int32} {st : List Value} {h : ab_Hp} {Q : ab_O → ab_Hp → Prop} : wp 24 4 [v0, v1, v2, v3, v4, v5, v6, v7] (.int w :: st) h Q = wp 24 6 [v0, v1, v2, v3, ab_clr v4, .int w, v6, v7] st h Q := wp_stp (ri := (.istore 5, 2, 0, 0, 0, 0)) (by decide +kernel) rfl rfl rfl
theorem i24_6 {v0 v1 v2 v3 v4 v5 v6 v7 : Value} {st : List Value} {h : ab_Hp} {Q : ab_O → ab_Hp → Prop} (hv : ab_isA v0 = true) : wp 24 6 [v0, v1, v2, v3, v4, v5, v6, v7] st h Q = wp 24 7 [v0, v1, v2, v3, v4, v5, v6, v7] (v0 :: st) h Q := wp_aload_n (by decide +kernel : ab_cod 24 6 = some (.aload_n 0, 1, 0, 0, 0, 0)) hv
theorem i24_7 {v0 v1 v2 v3 v4 v5 v6 v7 : Value} {v : Value} {st : List Value} {h : ab_Hp} {Q : ab_O → ab_Hp → Prop} (hv : v.category = 1) : wp 24 7 [v0, v1, v2, v3, v4, v5, v6, v7] (v :: st) h Q = wp 24 8 [v0, v1, v2, v3, v4, v5, v6, v7] (v :: v :: st) h Q := wp_dup (by decide +kernel : ab_cod 24 7 = some (.dup, 1, 0, 0, 0, 0)) hv
theorem i24_8 {v0 v1 v2 v3 v4 v5 v6 v7 : Value} {r : Nat} {st : List Value} {h : ab_Hp} {Q : ab_O → ab_Hp → Prop} (hk : (ab_sh h r).1 = 14) : wp 24 8 [v0, v1, v2, v3, v4, v5, v6, v7] (.ref r :: st) h Q = wp 24 11 [v0, v1, v2, v3, v4, v5, v6, v7] (.int (ab_hi h r 2) :: st) h Q := wp_gf (by decide +kernel : ab_cod 24 8 = some (.getfield 23, 3, 4, 2, 150, 0)) hk
theorem i24_11 {v0 v1 v2 v3 v4 v5 v6 v7 : Value} {st : List Value} {h : ab_Hp} {Q : ab_O → ab_Hp → Prop} : wp 24 11 [v0, v1, v2, v3, v4, v5, v6, v7] st h Q = wp 24 12 [v0, v1, v2, v3, v4, v5, v6, v7] (.int (nI 1) :: st) h Q := wp_stp (ri := (.iconst 1, 1, 0, 0, 0, 0)) (by decide +kernel) rfl rfl rfl
theorem i24_12 {v0 v1 v2 v3 v4 v5 v6 v7 : Value} {x y : Int32} {st : List Value} {h : ab_Hp} {Q : ab_O → ab_Hp → Prop} : wp 24 12 [v0, v1, v2, v3, v4, v5, v6, v7] (.int y :: .int x :: st) h Q = wp 24 13 [v0, v1, v2, v3, v4, v5, v6, v7] (.int (x + y) :: st) h Q := wp_stp (ri := (.iadd, 1, 0, 0, 0, 0)) (by decide +kernel) rfl rfl rfl
theorem i24_13 {v0 v1 v2 v3 v4 v5 v6 v7 : Value} {r : Nat} {x : Int32} {st : List Value} {h : ab_Hp} {Q : ab_O → ab_Hp → Prop} (hk : (ab_sh h r).1 = 14) : wp 24 13 [v0, v1, v2, v3, v4, v5, v6, v7] (.int x :: .ref r :: st) h Q = wp 24 16 [v0, v1, v2, v3, v4, v5, v6, v7] st (ab_setI h (ab_u (ab_hi h) r 2 x)) Q := wp_pf (by decide +kernel : ab_cod 24 13 = some (.putfield 23, 3, 4, 2, 150, 0)) hk rfl
theorem i24_16 {v0 v1 v2 v3 v4 v5 v6 v7 : Value} {st : List Value} {h : ab_Hp} {Q : ab_O → ab_Hp → Prop} (hv : ab_isA v0 = true) : wp 24 16 [v0, v1, v2, v3, v4, v5, v6, v7] st h Q = wp 24 17 [v0, v1, v2, v3, v4, v5, v6, v7] (v0 :: st) h Q := wp_aload_n (by decide +kernel : ab_cod 24 16 = some (.aload_n 0, 1, 0, 0, 0, 0)) hv
theorem i24_17 {v0 v1 v2 v3 v4 v6 v7 : Value} {x : Int32} {st : List Value} {h : ab_Hp} {Q : ab_O → ab_Hp → Prop} : wp 24 17 [v0, v1, v2, v3, v4, .int x, v6, v7] st h Q = wp 24 19 [v0, v1, v2, v3, v4, .int x, v6, v7] (.int x :: st) h Q := wp_stp (ri := (.iload 5, 2, 0, 0, 0, 0)) (by decide +kernel) rfl rfl rfl
theorem i24_19 {v0 v1 v2 v3 v4 v5 v6 v7 : Value} {r : Nat} {a0 : Int32} {st : List Value} {h : ab_Hp} {Q : ab_O → ab_Hp → Prop} (hl : st.length ≤ 4) (hk : (ab_sh h r).1 = 14) : wp 24 19 [v0, v1, v2, v3, v4, v5, v6, v7] (.int a0 :: .ref r :: st) h Q = wp 23 0 [.ref r, .int a0] [] h (ab_K 24 19 [v0, v1, v2, v3, v4, v5, v6, v7] st Q) := wp_callV (as := [.int a0]) (by decide +kernel : ab_cod 24 19 = some (.invokevirtual 41, 3, 23, 2, 0, 421)) rfl rfl rfl rfl hl hk
theorem i24_22 {v0 v1 v2 v3 v4 v5 v6 v7 : Value} {w : Value} {st : List Value} {h : ab_Hp} {Q : ab_O → ab_Hp → Prop} (hv : ab_isA w = true) : wp 24 22 [v0, v1, v2, v3, v4, v5, v6, v7] (w :: st) h Q = wp 24 24 [v0, v1, v2, v3, v4, ab_clr v5, w, v7] st h Q := wp_astore (by decide +kernel : ab_cod 24 22 = some (.astore 6, 2, 0, 0, 0, 0)) hv
theorem i24_24 {v0 v1 v2 v3 v4 v5 v6 v7 : Value} {st : List Value} {h : ab_Hp} {Q : ab_O → ab_Hp → Prop} (hv : ab_isA v6 = true) : wp 24 24 [v0, v1, v2, v3, v4, v5, v6, v7] st h Q = wp 24 26 [v0, v1, v2, v3, v4, v5, v6, v7] (v6 :: st) h Q := wp_aload (by decide +kernel : ab_cod 24 24 = some (.aload 6, 2, 0, 0, 0, 0)) hv
theorem i24_26 {v0 v1 v2 v3 v4 v5 v6 v7 : Value} {o : Option Nat} {st : List Value} {h : ab_Hp} {Q : ab_O → ab_Hp → Prop} : wp 24 26 [v0, v1, v2, v3, v4, v5, v6, v7] (va_rf o :: st) h Q = if o = none then wp 24 39 [v0, v1, v2, v3, v4, v5, v6, v7] st h Q else wp 24 29 [v0, v1, v2, v3, v4, v5, v6, v7] st h Q := wp_ifnull (by decide +kernel : ab_cod 24 26 = some (.ifnull 13, 3, 39, 0, 0, 0)) o
theorem i24_26r {v0 v1 v2 v3 v4 v5 v6 v7 : Value} {r : Nat} {st : List Value} {h : ab_Hp} {Q : ab_O → ab_Hp → Prop} : wp 24 26 [v0, v1, v2, v3, v4, v5, v6, v7] (.ref r :: st) h Q = wp 24 29 [v0, v1, v2, v3, v4, v5, v6, v7] st h Q := wp_stp (ri := (.ifnull 13, 3, 39, 0, 0, 0)) (by decide +kernel) rfl rfl rfl
theorem i24_26n {v0 v1 v2 v3 v4 v5 v6 v7 : Value} {st : List Value} {h : ab_Hp} {Q : ab_O → ab_Hp → Prop} : wp 24 26 [v0, v1, v2, v3, v4, v5, v6, v7] (.null :: st) h Q = wp 24 39 [v0, v1, v2, v3, v4, v5, v6, v7] st h Q := wp_stp (ri := (.ifnull 13, 3, 39, 0, 0, 0)) (by decide +kernel) rfl rfl rfl
theorem i24_29 {v0 v1 v2 v3 v4 v5 v6 v7 : Value} {st : List Value} {h : ab_Hp} {Q : ab_O → ab_Hp → Prop} (hv : ab_isA v6 = true) : wp 24 29 [v0, v1, v2, v3, v4, v5, v6, v7] st h Q = wp 24 31 [v0, v1, v2, v3, v4, v5, v6, v7] (v6 :: st) h Q := wp_aload (by decide +kernel : ab_cod 24 29 = some (.aload 6, 2, 0, 0, 0, 0)) hv
theorem i24_31 {v0 v2 v3 v4 v5 v6 v7 : Value} {x : Int32} {st : List Value} {h : ab_Hp} {Q : ab_O → ab_Hp → Prop} : wp 24 31 [v0, .int x, v2, v3, v4, v5, v6, v7] st h Q = wp 24 32 [v0, .int x, v2, v3, v4, v5, v6, v7] (.int x :: st) h Q := wp_stp (ri := (.iload_n 1, 1, 0, 0, 0, 0)) (by decide +kernel) rfl rfl rfl
theorem i24_32 {v0 v1 v3 v4 v5 v6 v7 : Value} {x : Int32} {st : List Value} {h : ab_Hp} {Q : ab_O → ab_Hp → Prop} : wp 24 32 [v0, v1, .int x, v3, v4, v5, v6, v7] st h Q = wp 24 33 [v0, v1, .int x, v3, v4, v5, v6, v7] (.int x :: st) h Q := wp_stp (ri := (.iload_n 2, 1, 0, 0, 0, 0)) (by decide +kernel) rfl rfl rfl
theorem i24_33 {v0 v1 v2 v4 v5 v6 v7 : Value} {x : Int32} {st : List Value} {h : ab_Hp} {Q : ab_O → ab_Hp → Prop} : wp 24 33 [v0, v1, v2, .int x, v4, v5, v6, v7] st h Q = wp 24 34 [v0, v1, v2, .int x, v4, v5, v6, v7] (.int x :: st) h Q := wp_stp (ri := (.iload_n 3, 1, 0, 0, 0, 0)) (by decide +kernel) rfl rfl rfl
theorem i24_34 {v0 v1 v2 v3 v5 v6 v7 : Value} {x : Int32} {st : List Value} {h : ab_Hp} {Q : ab_O → ab_Hp → Prop} : wp 24 34 [v0, v1, v2, v3, .int x, v5, v6, v7] st h Q = wp 24 36 [v0, v1, v2, v3, .int x, v5, v6, v7] (.int x :: st) h Q := wp_stp (ri := (.iload 4, 2, 0, 0, 0, 0)) (by decide +kernel) rfl rfl rfl
theorem i24_36 {v0 v1 v2 v3 v4 v5 v6 v7 : Value} {r : Nat} {a0 : Int32} {a1 : Int32} {a2 : Int32} {a3 : Int32} {st : List Value} {h : ab_Hp} {Q : ab_O → ab_Hp → Prop} (hl : st.length ≤ 4) (hk : (ab_sh h r).1 = 13) : wp 24 36 [v0, v1, v2, v3, v4, v5, v6, v7] (.int a3 :: .int a2 :: .int a1 :: .int a0 :: .ref r :: st) h Q = wp 18 0 [.ref r, .int a0, .int a1, .int a2, .int a3] [] h (ab_K 24 36 [v0, v1, v2, v3, v4, v5, v6, v7] st Q) := wp_callV (as := [.int a0, .int a1, .int a2, .int a3]) (by decide +kernel : ab_cod 24 36 = some (.invokevirtual 45, 3, 18, 5, 0, 490)) rfl rfl rfl rfl hl hk
theorem i24_39 {v0 v1 v2 v3 v4 v5 v6 v7 : Value} {st : List Value} {h : ab_Hp} {Q : ab_O → ab_Hp → Prop} (hv : ab_isA v0 = true) : wp 24 39 [v0, v1, v2, v3, v4, v5, v6, v7] st h Q = wp 24 40 [v0, v1, v2, v3, v4, v5, v6, v7] (v0 :: st) h Q := wp_aload_n (by decide +kernel : ab_cod 24 39 = some (.aload_n 0, 1, 0, 0, 0, 0)) hv
theorem i24_40 {v0 v2 v3 v4 v5 v6 v7 : Value} {x : Int32} {st : List Value} {h : ab_Hp} {Q : ab_O → ab_Hp → Prop} : wp 24 40 [v0, .int x, v2, v3, v4, v5, v6, v7] st h Q = wp 24 41 [v0, .int x, v2, v3, v4, v5, v6, v7] (.int x :: st) h Q := wp_stp (ri := (.iload_n 1, 1, 0, 0, 0, 0)) (by decide +kernel) rfl rfl rfl
theorem i24_41 {v0 v1 v2 v3 v4 v5 v6 v7 : Value} {r : Nat} {a0 : Int32} {st : List Value} {h : ab_Hp} {Q : ab_O → ab_Hp → Prop} (hl : st.length ≤ 4) (hk : (ab_sh h r).1 = 14) : wp 24 41 [v0, v1, v2, v3, v4, v5, v6, v7] (.int a0 :: .ref r :: st) h Q = wp 22 0 [.ref r, .int a0] [] h (ab_K 24 41 [v0, v1, v2, v3, v4, v5, v6, v7] st Q) := wp_callV (as := [.int a0]) (by decide +kernel : ab_cod 24 41 = some (.invokevirtual 49, 3, 22, 2, 0, 494)) rfl rfl rfl rfl hl hk
theorem i24_44 {v0 v1 v2 v3 v4 v5 v6 v7 : Value} {w : Value} {st : List Value} {h : ab_Hp} {Q : ab_O → ab_Hp → Prop} (hv : ab_isA w = true) : wp 24 44 [v0, v1, v2, v3, v4, v5, v6, v7] (w :: st) h Q = wp 24 46 [v0, v1, v2, v3, v4, v5, ab_clr v6, w] st h Q := wp_astore (by decide +kernel : ab_cod 24 44 = some (.astore 7, 2, 0, 0, 0, 0)) hv
theorem i24_46 {v0 v1 v2 v3 v4 v5 v6 v7 : Value} {st : List Value} {h : ab_Hp} {Q : ab_O → ab_Hp → Prop} (hv : ab_isA v7 = true) : wp 24 46 [v0, v1, v2, v3, v4, v5, v6, v7] st h Q = wp 24 48 [v0, v1, v2, v3, v4, v5, v6, v7] (v7 :: st) h Q := wp_aload (by decide +kernel : ab_cod 24 46 = some (.aload 7, 2, 0, 0, 0, 0)) hv
theorem i24_48 {v0 v1 v2 v3 v4 v5 v6 v7 : Value} {o : Option Nat} {st : List Value} {h : ab_Hp} {Q : ab_O → ab_Hp → Prop} : wp 24 48 [v0, v1, v2, v3, v4, v5, v6, v7] (va_rf o :: st) h Q = if o = none then wp 24 67 [v0, v1, v2, v3, v4, v5, v6, v7] st h Q else wp 24 51 [v0, v1, v2, v3, v4, v5, v6, v7] st h Q := wp_ifnull (by decide +kernel : ab_cod 24 48 = some (.ifnull 19, 3, 67, 0, 0, 0)) o
theorem i24_48r {v0 v1 v2 v3 v4 v5 v6 v7 : Value} {r : Nat} {st : List Value} {h : ab_Hp} {Q : ab_O → ab_Hp → Prop} : wp 24 48 [v0, v1, v2, v3, v4, v5, v6, v7] (.ref r :: st) h Q = wp 24 51 [v0, v1, v2, v3, v4, v5, v6, v7] st h Q := wp_stp (ri := (.ifnull 19, 3, 67, 0, 0, 0)) (by decide +kernel) rfl rfl rfl
theorem i24_48n {v0 v1 v2 v3 v4 v5 v6 v7 : Value} {st : List Value} {h : ab_Hp} {Q : ab_O → ab_Hp → Prop} : wp 24 48 [v0, v1, v2, v3, v4, v5, v6, v7] (.null :: st) h Q = wp 24 67 [v0, v1, v2, v3, v4, v5, v6, v7] st h Q := wp_stp (ri := (.ifnull 19, 3, 67, 0, 0, 0)) (by decide +kernel) rfl rfl rfl
theorem i24_51 {v0 v1 v2 v3 v4 v5 v6 v7 : Value} {st : List Value} {h : ab_Hp} {Q : ab_O → ab_Hp → Prop} (hv : ab_isA v7 = true) : wp 24 51 [v0, v1, v2, v3, v4, v5, v6, v7] st h Q = wp 24 53 [v0, v1, v2, v3, v4, v5, v6, v7] (v7 :: st) h Q := wp_aload (by decide +kernel : ab_cod 24 51 = some (.aload 7, 2, 0, 0, 0, 0)) hv
theorem i24_53 {v0 v1 v2 v3 v4 v5 v6 v7 : Value} {r : Nat} {st : List Value} {h : ab_Hp} {Q : ab_O → ab_Hp → Prop} (hk : (ab_sh h r).1 = 12) : wp 24 53 [v0, v1, v2, v3, v4, v5, v6, v7] (.ref r :: st) h Q = wp 24 56 [v0, v1, v2, v3, v4, v5, v6, v7] (.int (ab_hi h r 4) :: st) h Q := wp_gf (by decide +kernel : ab_cod 24 53 = some (.getfield 53, 3, 2, 4, 78, 0)) hk
theorem i24_56 {v0 v1 v2 v3 v4 v5 v6 v7 : Value} {st : List Value} {h : ab_Hp} {Q : ab_O → ab_Hp → Prop} : wp 24 56 [v0, v1, v2, v3, v4, v5, v6, v7] st h Q = wp 24 57 [v0, v1, v2, v3, v4, v5, v6, v7] (.int ((-1)) :: st) h Q := wp_stp (ri := (.iconst (-1), 1, 0, 0, 0, 0)) (by decide +kernel) rfl rfl rfl
theorem i24_57 {v0 v1 v2 v3 v4 v5 v6 v7 : Value} {x y : Int32} {st : List Value} {h : ab_Hp} {Q : ab_O → ab_Hp → Prop} : wp 24 57 [v0, v1, v2, v3, v4, v5, v6, v7] (.int y :: .int x :: st) h Q = if ¬ x = y then wp 24 67 [v0, v1, v2, v3, v4, v5, v6, v7] st h Q else wp 24 60 [v0, v1, v2, v3, v4, v5, v6, v7] st h Q := wp_icmpP (by decide +kernel : ab_cod 24 57 = some (.if_icmp .ne 10, 3, 67, 0, 0, 0)) rfl
theorem i24_60 {v0 v1 v2 v3 v4 v5 v6 v7 : Value} {st : List Value} {h : ab_Hp} {Q : ab_O → ab_Hp → Prop} (hv : ab_isA v7 = true) : wp 24 60 [v0, v1, v2, v3, v4, v5, v6, v7] st h Q = wp 24 62 [v0, v1, v2, v3, v4, v5, v6, v7] (v7 :: st) h Q := wp_aload (by decide +kernel : ab_cod 24 60 = some (.aload 7, 2, 0, 0, 0, 0)) hv
theorem i24_62 {v0 v1 v2 v3 v4 v6 v7 : Value} {x : Int32} {st : List Value} {h : ab_Hp} {Q : ab_O → ab_Hp → Prop} : wp 24 62 [v0, v1, v2, v3, v4, .int x, v6, v7] st h Q = wp 24 64 [v0, v1, v2, v3, v4, .int x, v6, v7] (.int x :: st) h Q := wp_stp (ri := (.iload 5, 2, 0, 0, 0, 0)) (by decide +kernel) rfl rfl rfl
theorem i24_64 {v0 v1 v2 v3 v4 v5 v6 v7 : Value} {r : Nat} {x : Int32} {st : List Value} {h : ab_Hp} {Q : ab_O → ab_Hp → Prop} (hk : (ab_sh h r).1 = 12) : wp 24 64 [v0, v1, v2, v3, v4, v5, v6, v7] (.int x :: .ref r :: st) h Q = wp 24 67 [v0, v1, v2, v3, v4, v5, v6, v7] st (ab_setI h (ab_u (ab_hi h) r 4 x)) Q := wp_pf (by decide +kernel : ab_cod 24 64 = some (.putfield 53, 3, 2, 4, 78, 0)) hk rfl
theorem i24_67 {v0 v1 v2 v3 v4 v6 v7 : Value} {x : Int32} {st : List Value} {h : ab_Hp} {Q : ab_O → ab_Hp → Prop} : wp 24 67 [v0, v1, v2, v3, v4, .int x, v6, v7] st h Q = wp 24 69 [v0, v1, v2, v3, v4, .int x, v6, v7] (.int x :: st) h Q := wp_stp (ri := (.iload 5, 2, 0, 0, 0, 0)) (by decide +kernel) rfl rfl rfl
theorem i24_69 {v0 v1 v2 v3 v4 v5 v6 v7 : Value} {x : Int32} {h : ab_Hp} {Q : ab_O → ab_Hp → Prop} : wp 24 69 [v0, v1, v2, v3, v4, v5, v6, v7] [.int x] h Q = Q (.inl (some (.int x))) h := wp_iret (by decide +kernel : ab_cod 24 69 = some (.ireturn, 1, 0, 0, 0, 0)) rfl
/-! 25: SeamBeats$State.hasRoomFor(LSeamBeats$Room;)Z -/
theorem i25_0 {v0 v1 : Value} {st : List Value} {h : ab_Hp} {Q : ab_O → ab_Hp → Prop} (hv : ab_isA v1 = true) : wp 25 0 [v0, v1] st h Q = wp 25 1 [v0, v1] (v1 :: st) h Q := wp_aload_n (by decide +kernel : ab_cod 25 0 = some (.aload_n 1, 1, 0, 0, 0, 0)) hv
theorem i25_1 {v0 v1 : Value} {r : Nat} {st : List Value} {h : ab_Hp} {Q : ab_O → ab_Hp → Prop} (hk : (ab_sh h r).1 = 12) : wp 25 1 [v0, v1] (.ref r :: st) h Q = wp 25 4 [v0, v1] (va_rf (ab_hr h r 0) :: st) h Q := wp_gf (by decide +kernel : ab_cod 25 1 = some (.getfield 56, 3, 2, 0, 69, 1)) hk
theorem i25_4 {v0 v1 : Value} {r : Nat} {st : List Value} {h : ab_Hp} {Q : ab_O → ab_Hp → Prop} (hk : (ab_sh h r).1 = 11) : wp 25 4 [v0, v1] (.ref r :: st) h Q = wp 25 7 [v0, v1] (.int (ab_hi h r 1) :: st) h Q := wp_gf (by decide +kernel : ab_cod 25 4 = some (.getfield 60, 3, 1, 1, 61, 0)) hk
theorem i25_7 {v0 v1 : Value} {st : List Value} {h : ab_Hp} {Q : ab_O → ab_Hp → Prop} : wp 25 7 [v0, v1] st h Q = wp 25 9 [v0, v1] (.int (nI 8) :: st) h Q := wp_stp (ri := (.bipush 8, 2, 0, 0, 0, 0)) (by decide +kernel) rfl rfl rfl
theorem i25_9 {v0 v1 : Value} {x y : Int32} {st : List Value} {h : ab_Hp} {Q : ab_O → ab_Hp → Prop} : wp 25 9 [v0, v1] (.int y :: .int x :: st) h Q = if y ≤ x then wp 25 26 [v0, v1] st h Q else wp 25 12 [v0, v1] st h Q := wp_icmpP (by decide +kernel : ab_cod 25 9 = some (.if_icmp .ge 17, 3, 26, 0, 0, 0)) rfl
theorem i25_12 {v0 v1 : Value} {st : List Value} {h : ab_Hp} {Q : ab_O → ab_Hp → Prop} (hv : ab_isA v0 = true) : wp 25 12 [v0, v1] st h Q = wp 25 13 [v0, v1] (v0 :: st) h Q := wp_aload_n (by decide +kernel : ab_cod 25 12 = some (.aload_n 0, 1, 0, 0, 0, 0)) hv
theorem i25_13 {v0 v1 : Value} {r : Nat} {st : List Value} {h : ab_Hp} {Q : ab_O → ab_Hp → Prop} (hk : (ab_sh h r).1 = 14) : wp 25 13 [v0, v1] (.ref r :: st) h Q = wp 25 16 [v0, v1] (.int (ab_hi h r 4) :: st) h Q := wp_gf (by decide +kernel : ab_cod 25 13 = some (.getfield 30, 3, 4, 4, 154, 0)) hk
theorem i25_16 {v0 v1 : Value} {st : List Value} {h : ab_Hp} {Q : ab_O → ab_Hp → Prop} : wp 25 16 [v0, v1] st h Q = wp 25 19 [v0, v1] (.int (nI 999) :: st) h Q := wp_stp (ri := (.sipush 999, 3, 0, 0, 0, 0)) (by decide +kernel) rfl rfl rfl
theorem i25_19 {v0 v1 : Value} {x y : Int32} {st : List Value} {h : ab_Hp} {Q : ab_O → ab_Hp → Prop} : wp 25 19 [v0, v1] (.int y :: .int x :: st) h Q = if y ≤ x then wp 25 26 [v0, v1] st h Q else wp 25 22 [v0, v1] st h Q := wp_icmpP (by decide +kernel : ab_cod 25 19 = some (.if_icmp .ge 7, 3, 26, 0, 0, 0)) rfl
theorem i25_22 {v0 v1 : Value} {st : List Value} {h : ab_Hp} {Q : ab_O → ab_Hp → Prop} : wp 25 22 [v0, v1] st h Q = wp 25 23 [v0, v1] (.int (nI 1) :: st) h Q := wp_stp (ri := (.iconst 1, 1, 0, 0, 0, 0)) (by decide +kernel) rfl rfl rfl
theorem i25_23 {v0 v1 : Value} {st : List Value} {h : ab_Hp} {Q : ab_O → ab_Hp → Prop} : wp 25 23 [v0, v1] st h Q = wp 25 27 [v0, v1] st h Q := wp_stp (ri := (.goto 4, 3, 27, 0, 0, 0)) (by decide +kernel) rfl rfl rfl
theorem i25_26 {v0 v1 : Value} {st : List Value} {h : ab_Hp} {Q : ab_O → ab_Hp → Prop} : wp 25 26 [v0, v1] st h Q = wp 25 27 [v0, v1] (.int (nI 0) :: st) h Q := wp_stp (ri := (.iconst 0, 1, 0, 0, 0, 0)) (by decide +kernel) rfl rfl rfl
theorem i25_27 {v0 v1 : Value} {x : Int32} {h : ab_Hp} {Q : ab_O → ab_Hp → Prop} (hx : x = 0 ∨ x = 1) : wp 25 27 [v0, v1] [.int x] h Q = Q (.inl (some (.int x))) h := wp_zret (by decide +kernel : ab_cod 25 27 = some (.ireturn, 1, 0, 0, 0, 0)) rfl hx
/-! 26: SeamBeats$State.addItem(LSeamBeats$Room;I)V -/
theorem i26_0 {v0 v1 v2 : Value} {st : List Value} {h : ab_Hp} {Q : ab_O → ab_Hp → Prop} (hv : ab_isA v1 = true) : wp 26 0 [v0, v1, v2] st h Q = wp 26 1 [v0, v1, v2] (v1 :: st) h Q := wp_aload_n (by decide +kernel : ab_cod 26 0 = some (.aload_n 1, 1, 0, 0, 0, 0)) hv
theorem i26_1 {v0 v1 v2 : Value} {r : Nat} {st : List Value} {h : ab_Hp} {Q : ab_O → ab_Hp → Prop} (hk : (ab_sh h r).1 = 12) : wp 26 1 [v0, v1, v2] (.ref r :: st) h Q = wp 26 4 [v0, v1, v2] (va_rf (ab_hr h r 0) :: st) h Q := wp_gf (by decide +kernel : ab_cod 26 1 = some (.getfield 56, 3, 2, 0, 69, 1)) hk
theorem i26_4 {v0 v1 v2 : Value} {st : List Value} {h : ab_Hp} {Q : ab_O → ab_Hp → Prop} (hv : ab_isA v0 = true) : wp 26 4 [v0, v1, v2] st h Q = wp 26 5 [v0, v1, v2] (v0 :: st) h Q := wp_aload_n (by decide +kernel : ab_cod 26 4 = some (.aload_n 0, 1, 0, 0, 0, 0)) hv
theorem i26_5 {v0 v1 v2 : Value} {r : Nat} {st : List Value} {h : ab_Hp} {Q : ab_O → ab_Hp → Prop} (hk : (ab_sh h r).1 = 14) : wp 26 5 [v0, v1, v2] (.ref r :: st) h Q = wp 26 8 [v0, v1, v2] (.int (ab_hi h r 4) :: st) h Q := wp_gf (by decide +kernel : ab_cod 26 5 = some (.getfield 30, 3, 4, 4, 154, 0)) hk
theorem i26_8 {v0 v1 : Value} {x : Int32} {st : List Value} {h : ab_Hp} {Q : ab_O → ab_Hp → Prop} : wp 26 8 [v0, v1, .int x] st h Q = wp 26 9 [v0, v1, .int x] (.int x :: st) h Q := wp_stp (ri := (.iload_n 2, 1, 0, 0, 0, 0)) (by decide +kernel) rfl rfl rfl
theorem i26_9 {v0 v1 v2 : Value} {r : Nat} {a0 : Int32} {a1 : Int32} {st : List Value} {h : ab_Hp} {Q : ab_O → ab_Hp → Prop} (hl : st.length ≤ 4) (hk : (ab_sh h r).1 = 11) : wp 26 9 [v0, v1, v2] (.int a1 :: .int a0 :: .ref r :: st) h Q = wp 7 0 [.ref r, .int a0, .int a1, ab_nov] [] h (ab_K 26 9 [v0, v1, v2] st Q) := wp_callV (as := [.int a0, .int a1]) (by decide +kernel : ab_cod 26 9 = some (.invokevirtual 65, 3, 7, 3, 0, 429)) rfl rfl rfl rfl hl hk
theorem i26_12 {v0 v1 v2 : Value} {st : List Value} {h : ab_Hp} {Q : ab_O → ab_Hp → Prop} (hv : ab_isA v0 = true) : wp 26 12 [v0, v1, v2] st h Q = wp 26 13 [v0, v1, v2] (v0 :: st) h Q := wp_aload_n (by decide +kernel : ab_cod 26 12 = some (.aload_n 0, 1, 0, 0, 0, 0)) hv
theorem i26_13 {v0 v1 v2 : Value} {v : Value} {st : List Value} {h : ab_Hp} {Q : ab_O → ab_Hp → Prop} (hv : v.category = 1) : wp 26 13 [v0, v1, v2] (v :: st) h Q = wp 26 14 [v0, v1, v2] (v :: v :: st) h Q := wp_dup (by decide +kernel : ab_cod 26 13 = some (.dup, 1, 0, 0, 0, 0)) hv
theorem i26_14 {v0 v1 v2 : Value} {r : Nat} {st : List Value} {h : ab_Hp} {Q : ab_O → ab_Hp → Prop} (hk : (ab_sh h r).1 = 14) : wp 26 14 [v0, v1, v2] (.ref r :: st) h Q = wp 26 17 [v0, v1, v2] (.int (ab_hi h r 4) :: st) h Q := wp_gf (by decide +kernel : ab_cod 26 14 = some (.getfield 30, 3, 4, 4, 154, 0)) hk
theorem i26_17 {v0 v1 v2 : Value} {st : List Value} {h : ab_Hp} {Q : ab_O → ab_Hp → Prop} : wp 26 17 [v0, v1, v2] st h Q = wp 26 18 [v0, v1, v2] (.int (nI 1) :: st) h Q := wp_stp (ri := (.iconst 1, 1, 0, 0, 0, 0)) (by decide +kernel) rfl rfl rfl
theorem i26_18 {v0 v1 v2 : Value} {x y : Int32} {st : List Value} {h : ab_Hp} {Q : ab_O → ab_Hp → Prop} : wp 26 18 [v0, v1, v2] (.int y :: .int x :: st) h Q = wp 26 19 [v0, v1, v2] (.int (x + y) :: st) h Q := wp_stp (ri := (.iadd, 1, 0, 0, 0, 0)) (by decide +kernel) rfl rfl rfl
theorem i26_19 {v0 v1 v2 : Value} {r : Nat} {x : Int32} {st : List Value} {h : ab_Hp} {Q : ab_O → ab_Hp → Prop} (hk : (ab_sh h r).1 = 14) : wp 26 19 [v0, v1, v2] (.int x :: .ref r :: st) h Q = wp 26 22 [v0, v1, v2] st (ab_setI h (ab_u (ab_hi h) r 4 x)) Q := wp_pf (by decide +kernel : ab_cod 26 19 = some (.putfield 30, 3, 4, 4, 154, 0)) hk rfl
theorem i26_22 {v0 v1 v2 : Value} {h : ab_Hp} {Q : ab_O → ab_Hp → Prop} : wp 26 22 [v0, v1, v2] [] h Q = Q (.inl none) h := wp_vret (by decide +kernel : ab_cod 26 22 = some (.return_, 1, 0, 0, 0, 0)) rfl
/-! 27: SeamBeats$State.advance(I)V -/
theorem i27_0 {v0 v1 v2 : Value} {st : List Value} {h : ab_Hp} {Q : ab_O → ab_Hp → Prop} : wp 27 0 [v0, v1, v2] st h Q = wp 27 1 [v0, v1, v2] (.int (nI 0) :: st) h Q := wp_stp (ri := (.iconst 0, 1, 0, 0, 0, 0)) (by decide +kernel) rfl rfl rfl
theorem i27_1 {v0 v1 v2 : Value} {w : Int32} {st : List Value} {h : ab_Hp} {Q : ab_O → ab_Hp → Prop} : wp 27 1 [v0, v1, v2] (.int w :: st) h Q = wp 27 2 [v0, ab_clr v1, .int w] st h Q := wp_stp (ri := (.istore_n 2, 1, 0, 0, 0, 0)) (by decide +kernel) rfl rfl rfl
theorem i27_2 {v0 v1 : Value} {x : Int32} {st : List Value} {h : ab_Hp} {Q : ab_O → ab_Hp → Prop} : wp 27 2 [v0, v1, .int x] st h Q = wp 27 3 [v0, v1, .int x] (.int x :: st) h Q := wp_stp (ri := (.iload_n 2, 1, 0, 0, 0, 0)) (by decide +kernel) rfl rfl rfl
theorem i27_3 {v0 v2 : Value} {x : Int32} {st : List Value} {h : ab_Hp} {Q : ab_O → ab_Hp → Prop} : wp 27 3 [v0, .int x, v2] st h Q = wp 27 4 [v0, .int x, v2] (.int x :: st) h Q := wp_stp (ri := (.iload_n 1, 1, 0, 0, 0, 0)) (by decide +kernel) rfl rfl rfl
theorem i27_4 {v0 v1 v2 : Value} {x y : Int32} {st : List Value} {h : ab_Hp} {Q : ab_O → ab_Hp → Prop} : wp 27 4 [v0, v1, v2] (.int y :: .int x :: st) h Q = if y ≤ x then wp 27 17 [v0, v1, v2] st h Q else wp 27 7 [v0, v1, v2] st h Q := wp_icmpP (by decide +kernel : ab_cod 27 4 = some (.if_icmp .ge 13, 3, 17, 0, 0, 0)) rfl
theorem i27_7 {v0 v1 v2 : Value} {st : List Value} {h : ab_Hp} {Q : ab_O → ab_Hp → Prop} (hv : ab_isA v0 = true) : wp 27 7 [v0, v1, v2] st h Q = wp 27 8 [v0, v1, v2] (v0 :: st) h Q := wp_aload_n (by decide +kernel : ab_cod 27 7 = some (.aload_n 0, 1, 0, 0, 0, 0)) hv
theorem i27_8 {v0 v1 v2 : Value} {r : Nat} {st : List Value} {h : ab_Hp} {Q : ab_O → ab_Hp → Prop} (hl : st.length ≤ 4) (hk : (ab_sh h r).1 = 14) : wp 27 8 [v0, v1, v2] (.ref r :: st) h Q = wp 28 0 [.ref r, ab_nov, ab_nov] [] h (ab_K 27 8 [v0, v1, v2] st Q) := wp_callV (as := []) (by decide +kernel : ab_cod 27 8 = some (.invokevirtual 69, 3, 28, 1, 0, 409)) rfl rfl rfl rfl hl hk
theorem i27_11 {v0 v1 : Value} {x : Int32} {st : List Value} {h : ab_Hp} {Q : ab_O → ab_Hp → Prop} : wp 27 11 [v0, v1, .int x] st h Q = wp 27 14 [v0, ab_clr v1, .int (x + nI 1)] st h Q := wp_stp (ri := (.iinc 2 1, 3, 0, 0, 0, 0)) (by decide +kernel) rfl rfl rfl
theorem i27_14 {v0 v1 v2 : Value} {st : List Value} {h : ab_Hp} {Q : ab_O → ab_Hp → Prop} : wp 27 14 [v0, v1, v2] st h Q = wp 27 2 [v0, v1, v2] st h Q := wp_stp (ri := (.goto (-12), 3, 2, 0, 0, 0)) (by decide +kernel) rfl rfl rfl
theorem i27_17 {v0 v1 v2 : Value} {h : ab_Hp} {Q : ab_O → ab_Hp → Prop} : wp 27 17 [v0, v1, v2] [] h Q = Q (.inl none) h := wp_vret (by decide +kernel : ab_cod 27 17 = some (.return_, 1, 0, 0, 0, 0)) rfl
/-! 28: SeamBeats$State.doTick()V -/
set_option maxRecDepth 100000 in
theorem i28_0 {v0 v1 v2 : Value} {st : List Value} {h : ab_Hp} {Q : ab_O → ab_Hp → Prop} : wp 28 0 [v0, v1, v2] st h Q = wp 28 1 [v0, v1, v2] (.int (nI 0) :: st) h Q := wp_stp (ri := (.iconst 0, 1, 0, 0, 0, 0)) (by decide +kernel) rfl rfl rfl
set_option maxRecDepth 100000 in
theorem i28_1 {v0 v1 v2 : Value} {w : Int32} {st : List Value} {h : ab_Hp} {Q : ab_O → ab_Hp → Prop} : wp 28 1 [v0, v1, v2] (.int w :: st) h Q = wp 28 2 [ab_clr v0, .int w, v2] st h Q := wp_stp (ri := (.istore_n 1, 1, 0, 0, 0, 0)) (by decide +kernel) rfl rfl rfl
set_option maxRecDepth 100000 in
theorem i28_2 {v0 v2 : Value} {x : Int32} {st : List Value} {h : ab_Hp} {Q : ab_O → ab_Hp → Prop} : wp 28 2 [v0, .int x, v2] st h Q = wp 28 3 [v0, .int x, v2] (.int x :: st) h Q := wp_stp (ri := (.iload_n 1, 1, 0, 0, 0, 0)) (by decide +kernel) rfl rfl rfl
set_option maxRecDepth 100000 in
theorem i28_3 {v0 v1 v2 : Value} {st : List Value} {h : ab_Hp} {Q : ab_O → ab_Hp → Prop} (hv : ab_isA v0 = true) : wp 28 3 [v0, v1, v2] st h Q = wp 28 4 [v0, v1, v2] (v0 :: st) h Q := wp_aload_n (by decide +kernel : ab_cod 28 3 = some (.aload_n 0, 1, 0, 0, 0, 0)) hv
set_option maxRecDepth 100000 in
theorem i28_4 {v0 v1 v2 : Value} {r : Nat} {st : List Value} {h : ab_Hp} {Q : ab_O → ab_Hp → Prop} (hk : (ab_sh h r).1 = 14) : wp 28 4 [v0, v1, v2] (.ref r :: st) h Q = wp 28 7 [v0, v1, v2] (va_rf (ab_hr h r 0) :: st) h Q := wp_gf (by decide +kernel : ab_cod 28 4 = some (.getfield 11, 3, 4, 0, 148, 1)) hk
set_option maxRecDepth 100000 in
theorem i28_7 {v0 v1 v2 : Value} {r : Nat} {st : List Value} {h : ab_Hp} {Q : ab_O → ab_Hp → Prop} (hk : 1 ≤ (ab_sh h r).1 ∧ (ab_sh h r).1 ≤ 6) : wp 28 7 [v0, v1, v2] (.ref r :: st) h Q = wp 28 8 [v0, v1, v2] (.int (nI (ab_sh h r).2) :: st) h Q := wp_al (by decide +kernel : ab_cod 28 7 = some (.arraylength, 1, 0, 0, 0, 0)) hk
set_option maxRecDepth 100000 in
theorem i28_8 {v0 v1 v2 : Value} {x y : Int32} {st : List Value} {h : ab_Hp} {Q : ab_O → ab_Hp → Prop} : wp 28 8 [v0, v1, v2] (.int y :: .int x :: st) h Q = if y ≤ x then wp 28 85 [v0, v1, v2] st h Q else wp 28 11 [v0, v1, v2] st h Q := wp_icmpP (by decide +kernel : ab_cod 28 8 = some (.if_icmp .ge 77, 3, 85, 0, 0, 0)) rfl
set_option maxRecDepth 100000 in
theorem i28_11 {v0 v1 v2 : Value} {st : List Value} {h : ab_Hp} {Q : ab_O → ab_Hp → Prop} (hv : ab_isA v0 = true) : wp 28 11 [v0, v1, v2] st h Q = wp 28 12 [v0, v1, v2] (v0 :: st) h Q := wp_aload_n (by decide +kernel : ab_cod 28 11 = some (.aload_n 0, 1, 0, 0, 0, 0)) hv
set_option maxRecDepth 100000 in
theorem i28_12 {v0 v1 v2 : Value} {r : Nat} {st : List Value} {h : ab_Hp} {Q : ab_O → ab_Hp → Prop} (hk : (ab_sh h r).1 = 14) : wp 28 12 [v0, v1, v2] (.ref r :: st) h Q = wp 28 15 [v0, v1, v2] (va_rf (ab_hr h r 0) :: st) h Q := wp_gf (by decide +kernel : ab_cod 28 12 = some (.getfield 11, 3, 4, 0, 148, 1)) hk
set_option maxRecDepth 100000 in
theorem i28_15 {v0 v2 : Value} {x : Int32} {st : List Value} {h : ab_Hp} {Q : ab_O → ab_Hp → Prop} : wp 28 15 [v0, .int x, v2] st h Q = wp 28 16 [v0, .int x, v2] (.int x :: st) h Q := wp_stp (ri := (.iload_n 1, 1, 0, 0, 0, 0)) (by decide +kernel) rfl rfl rfl
set_option maxRecDepth 100000 in
theorem i28_16 {v0 v1 v2 : Value} {r : Nat} {x : Int32} {st : List Value} {h : ab_Hp} {Q : ab_O → ab_Hp → Prop} (hk : (3 ≤ (ab_sh h r).1 ∧ (ab_sh h r).1 ≤ 5) ∧ ab_in x (ab_sh h r).2 = true) : wp 28 16 [v0, v1, v2] (.int x :: .ref r :: st) h Q = wp 28 17 [v0, v1, v2] (va_rf (ab_hr h r x.toNatClampNeg) :: st) h Q := wp_aa (by decide +kernel : ab_cod 28 16 = some (.aaload, 1, 0, 0, 0, 0)) hk
set_option maxRecDepth 100000 in
theorem i28_17 {v0 v1 v2 : Value} {w : Value} {st : List Value} {h : ab_Hp} {Q : ab_O → ab_Hp → Prop} (hv : ab_isA w = true) : wp 28 17 [v0, v1, v2] (w :: st) h Q = wp 28 18 [v0, ab_clr v1, w] st h Q := wp_astore_n (by decide +kernel : ab_cod 28 17 = some (.astore_n 2, 1, 0, 0, 0, 0)) hv
set_option maxRecDepth 100000 in
theorem i28_18 {v0 v1 v2 : Value} {st : List Value} {h : ab_Hp} {Q : ab_O → ab_Hp → Prop} (hv : ab_isA v2 = true) : wp 28 18 [v0, v1, v2] st h Q = wp 28 19 [v0, v1, v2] (v2 :: st) h Q := wp_aload_n (by decide +kernel : ab_cod 28 18 = some (.aload_n 2, 1, 0, 0, 0, 0)) hv
set_option maxRecDepth 100000 in
theorem i28_19 {v0 v1 v2 : Value} {o : Option Nat} {st : List Value} {h : ab_Hp} {Q : ab_O → ab_Hp → Prop} : wp 28 19 [v0, v1, v2] (va_rf o :: st) h Q = if o = none then wp 28 79 [v0, v1, v2] st h Q else wp 28 22 [v0, v1, v2] st h Q := wp_ifnull (by decide +kernel : ab_cod 28 19 = some (.ifnull 60, 3, 79, 0, 0, 0)) o
set_option maxRecDepth 100000 in
theorem i28_19r {v0 v1 v2 : Value} {r : Nat} {st : List Value} {h : ab_Hp} {Q : ab_O → ab_Hp → Prop} : wp 28 19 [v0, v1, v2] (.ref r :: st) h Q = wp 28 22 [v0, v1, v2] st h Q := wp_stp (ri := (.ifnull 60, 3, 79, 0, 0, 0)) (by decide +kernel) rfl rfl rfl
set_option maxRecDepth 100000 in
theorem i28_19n {v0 v1 v2 : Value} {st : List Value} {h : ab_Hp} {Q : ab_O → ab_Hp → Prop} : wp 28 19 [v0, v1, v2] (.null :: st) h Q = wp 28 79 [v0, v1, v2] st h Q := wp_stp (ri := (.ifnull 60, 3, 79, 0, 0, 0)) (by decide +kernel) rfl rfl rfl
set_option maxRecDepth 100000 in
theorem i28_22 {v0 v1 v2 : Value} {st : List Value} {h : ab_Hp} {Q : ab_O → ab_Hp → Prop} (hv : ab_isA v2 = true) : wp 28 22 [v0, v1, v2] st h Q = wp 28 23 [v0, v1, v2] (v2 :: st) h Q := wp_aload_n (by decide +kernel : ab_cod 28 22 = some (.aload_n 2, 1, 0, 0, 0, 0)) hv
set_option maxRecDepth 100000 in
theorem i28_23 {v0 v1 v2 : Value} {st : List Value} {h : ab_Hp} {Q : ab_O → ab_Hp → Prop} (hv : ab_isA v0 = true) : wp 28 23 [v0, v1, v2] st h Q = wp 28 24 [v0, v1, v2] (v0 :: st) h Q := wp_aload_n (by decide +kernel : ab_cod 28 23 = some (.aload_n 0, 1, 0, 0, 0, 0)) hv
set_option maxRecDepth 100000 in
theorem i28_24 {v0 v1 v2 : Value} {r : Nat} {st : List Value} {h : ab_Hp} {Q : ab_O → ab_Hp → Prop} (hk : (ab_sh h r).1 = 14) : wp 28 24 [v0, v1, v2] (.ref r :: st) h Q = wp 28 27 [v0, v1, v2] (.int (ab_hi h r 3) :: st) h Q := wp_gf (by decide +kernel : ab_cod 28 24 = some (.getfield 27, 3, 4, 3, 152, 0)) hk
set_option maxRecDepth 100000 in
theorem i28_27 {v0 v1 v2 : Value} {r : Nat} {a0 : Int32} {st : List Value} {h : ab_Hp} {Q : ab_O → ab_Hp → Prop} (hl : st.length ≤ 4) (hk : (ab_sh h r).1 = 12) : wp 28 27 [v0, v1, v2] (.int a0 :: .ref r :: st) h Q = wp 14 0 [.ref r, .int a0] [] h (ab_K 28 27 [v0, v1, v2] st Q) := wp_callV (as := [.int a0]) (by decide +kernel : ab_cod 28 27 = some (.invokevirtual 72, 3, 14, 2, 0, 391)) rfl rfl rfl rfl hl hk
set_option maxRecDepth 100000 in
theorem i28_30 {v0 v1 v2 : Value} {x : Int32} {st : List Value} {h : ab_Hp} {Q : ab_O → ab_Hp → Prop} : wp 28 30 [v0, v1, v2] (.int x :: st) h Q = if x = 0 then wp 28 79 [v0, v1, v2] st h Q else wp 28 33 [v0, v1, v2] st h Q := wp_ifcP (by decide +kernel : ab_cod 28 30 = some (.ifCond .eq 49, 3, 79, 0, 0, 0)) rfl
set_option maxRecDepth 100000 in
theorem i28_33 {v0 v1 v2 : Value} {st : List Value} {h : ab_Hp} {Q : ab_O → ab_Hp → Prop} (hv : ab_isA v2 = true) : wp 28 33 [v0, v1, v2] st h Q = wp 28 34 [v0, v1, v2] (v2 :: st) h Q := wp_aload_n (by decide +kernel : ab_cod 28 33 = some (.aload_n 2, 1, 0, 0, 0, 0)) hv
set_option maxRecDepth 100000 in
theorem i28_34 {v0 v1 v2 : Value} {r : Nat} {st : List Value} {h : ab_Hp} {Q : ab_O → ab_Hp → Prop} (hk : (ab_sh h r).1 = 12) : wp 28 34 [v0, v1, v2] (.ref r :: st) h Q = wp 28 37 [v0, v1, v2] (.int (ab_hi h r 5) :: st) h Q := wp_gf (by decide +kernel : ab_cod 28 34 = some (.getfield 76, 3, 2, 5, 81, 0)) hk
set_option maxRecDepth 100000 in
theorem i28_37 {v0 v1 v2 : Value} {x : Int32} {st : List Value} {h : ab_Hp} {Q : ab_O → ab_Hp → Prop} : wp 28 37 [v0, v1, v2] (.int x :: st) h Q = if x ≤ 0 then wp 28 63 [v0, v1, v2] st h Q else wp 28 40 [v0, v1, v2] st h Q := wp_ifcP (by decide +kernel : ab_cod 28 37 = some (.ifCond .le 26, 3, 63, 0, 0, 0)) rfl
set_option maxRecDepth 100000 in
theorem i28_40 {v0 v1 v2 : Value} {st : List Value} {h : ab_Hp} {Q : ab_O → ab_Hp → Prop} (hv : ab_isA v2 = true) : wp 28 40 [v0, v1, v2] st h Q = wp 28 41 [v0, v1, v2] (v2 :: st) h Q := wp_aload_n (by decide +kernel : ab_cod 28 40 = some (.aload_n 2, 1, 0, 0, 0, 0)) hv
set_option maxRecDepth 100000 in
theorem i28_41 {v0 v1 v2 : Value} {v : Value} {st : List Value} {h : ab_Hp} {Q : ab_O → ab_Hp → Prop} (hv : v.category = 1) : wp 28 41 [v0, v1, v2] (v :: st) h Q = wp 28 42 [v0, v1, v2] (v :: v :: st) h Q := wp_dup (by decide +kernel : ab_cod 28 41 = some (.dup, 1, 0, 0, 0, 0)) hv
set_option maxRecDepth 100000 in
theorem i28_42 {v0 v1 v2 : Value} {r : Nat} {st : List Value} {h : ab_Hp} {Q : ab_O → ab_Hp → Prop} (hk : (ab_sh h r).1 = 12) : wp 28 42 [v0, v1, v2] (.ref r :: st) h Q = wp 28 45 [v0, v1, v2] (.int (ab_hi h r 5) :: st) h Q := wp_gf (by decide +kernel : ab_cod 28 42 = some (.getfield 76, 3, 2, 5, 81, 0)) hk
set_option maxRecDepth 100000 in
theorem i28_45 {v0 v1 v2 : Value} {st : List Value} {h : ab_Hp} {Q : ab_O → ab_Hp → Prop} : wp 28 45 [v0, v1, v2] st h Q = wp 28 46 [v0, v1, v2] (.int (nI 1) :: st) h Q := wp_stp (ri := (.iconst 1, 1, 0, 0, 0, 0)) (by decide +kernel) rfl rfl rfl
set_option maxRecDepth 100000 in
theorem i28_46 {v0 v1 v2 : Value} {x y : Int32} {st : List Value} {h : ab_Hp} {Q : ab_O → ab_Hp → Prop} : wp 28 46 [v0, v1, v2] (.int y :: .int x :: st) h Q = wp 28 47 [v0, v1, v2] (.int (x - y) :: st) h Q := wp_stp (ri := (.isub, 1, 0, 0, 0, 0)) (by decide +kernel) rfl rfl rfl
set_option maxRecDepth 100000 in
theorem i28_47 {v0 v1 v2 : Value} {r : Nat} {x : Int32} {st : List Value} {h : ab_Hp} {Q : ab_O → ab_Hp → Prop} (hk : (ab_sh h r).1 = 12) : wp 28 47 [v0, v1, v2] (.int x :: .ref r :: st) h Q = wp 28 50 [v0, v1, v2] st (ab_setI h (ab_u (ab_hi h) r 5 x)) Q := wp_pf (by decide +kernel : ab_cod 28 47 = some (.putfield 76, 3, 2, 5, 81, 0)) hk rfl
set_option maxRecDepth 100000 in
theorem i28_50 {v0 v1 v2 : Value} {st : List Value} {h : ab_Hp} {Q : ab_O → ab_Hp → Prop} (hv : ab_isA v2 = true) : wp 28 50 [v0, v1, v2] st h Q = wp 28 51 [v0, v1, v2] (v2 :: st) h Q := wp_aload_n (by decide +kernel : ab_cod 28 50 = some (.aload_n 2, 1, 0, 0, 0, 0)) hv
set_option maxRecDepth 100000 in
theorem i28_51 {v0 v1 v2 : Value} {v : Value} {st : List Value} {h : ab_Hp} {Q : ab_O → ab_Hp → Prop} (hv : v.category = 1) : wp 28 51 [v0, v1, v2] (v :: st) h Q = wp 28 52 [v0, v1, v2] (v :: v :: st) h Q := wp_dup (by decide +kernel : ab_cod 28 51 = some (.dup, 1, 0, 0, 0, 0)) hv
set_option maxRecDepth 100000 in
theorem i28_52 {v0 v1 v2 : Value} {r : Nat} {st : List Value} {h : ab_Hp} {Q : ab_O → ab_Hp → Prop} (hk : (ab_sh h r).1 = 12) : wp 28 52 [v0, v1, v2] (.ref r :: st) h Q = wp 28 55 [v0, v1, v2] (.int (ab_hi h r 6) :: st) h Q := wp_gf (by decide +kernel : ab_cod 28 52 = some (.getfield 79, 3, 2, 6, 83, 0)) hk
set_option maxRecDepth 100000 in
theorem i28_55 {v0 v1 v2 : Value} {st : List Value} {h : ab_Hp} {Q : ab_O → ab_Hp → Prop} : wp 28 55 [v0, v1, v2] st h Q = wp 28 56 [v0, v1, v2] (.int (nI 1) :: st) h Q := wp_stp (ri := (.iconst 1, 1, 0, 0, 0, 0)) (by decide +kernel) rfl rfl rfl
set_option maxRecDepth 100000 in
theorem i28_56 {v0 v1 v2 : Value} {x y : Int32} {st : List Value} {h : ab_Hp} {Q : ab_O → ab_Hp → Prop} : wp 28 56 [v0, v1, v2] (.int y :: .int x :: st) h Q = wp 28 57 [v0, v1, v2] (.int (x + y) :: st) h Q := wp_stp (ri := (.iadd, 1, 0, 0, 0, 0)) (by decide +kernel) rfl rfl rfl
set_option maxRecDepth 100000 in
theorem i28_57 {v0 v1 v2 : Value} {r : Nat} {x : Int32} {st : List Value} {h : ab_Hp} {Q : ab_O → ab_Hp → Prop} (hk : (ab_sh h r).1 = 12) : wp 28 57 [v0, v1, v2] (.int x :: .ref r :: st) h Q = wp 28 60 [v0, v1, v2] st (ab_setI h (ab_u (ab_hi h) r 6 x)) Q := wp_pf (by decide +kernel : ab_cod 28 57 = some (.putfield 79, 3, 2, 6, 83, 0)) hk rfl
set_option maxRecDepth 100000 in
theorem i28_60 {v0 v1 v2 : Value} {st : List Value} {h : ab_Hp} {Q : ab_O → ab_Hp → Prop} : wp 28 60 [v0, v1, v2] st h Q = wp 28 79 [v0, v1, v2] st h Q := wp_stp (ri := (.goto 19, 3, 79, 0, 0, 0)) (by decide +kernel) rfl rfl rfl
set_option maxRecDepth 100000 in
theorem i28_63 {v0 v1 v2 : Value} {st : List Value} {h : ab_Hp} {Q : ab_O → ab_Hp → Prop} (hv : ab_isA v0 = true) : wp 28 63 [v0, v1, v2] st h Q = wp 28 64 [v0, v1, v2] (v0 :: st) h Q := wp_aload_n (by decide +kernel : ab_cod 28 63 = some (.aload_n 0, 1, 0, 0, 0, 0)) hv
set_option maxRecDepth 100000 in
theorem i28_64 {v0 v1 v2 : Value} {st : List Value} {h : ab_Hp} {Q : ab_O → ab_Hp → Prop} (hv : ab_isA v2 = true) : wp 28 64 [v0, v1, v2] st h Q = wp 28 65 [v0, v1, v2] (v2 :: st) h Q := wp_aload_n (by decide +kernel : ab_cod 28 64 = some (.aload_n 2, 1, 0, 0, 0, 0)) hv
set_option maxRecDepth 100000 in
theorem i28_65 {v0 v1 v2 : Value} {r : Nat} {a0 : Nat} {st : List Value} {h : ab_Hp} {Q : ab_O → ab_Hp → Prop} (hl : st.length ≤ 4) (hk : (ab_sh h r).1 = 14) : wp 28 65 [v0, v1, v2] (.ref a0 :: .ref r :: st) h Q = wp 29 0 [.ref r, .ref a0, ab_nov, ab_nov, ab_nov] [] h (ab_K 28 65 [v0, v1, v2] st Q) := wp_callV (as := [.ref a0]) (by decide +kernel : ab_cod 28 65 = some (.invokevirtual 82, 3, 29, 2, 0, 413)) rfl rfl rfl rfl hl hk
set_option maxRecDepth 100000 in
theorem i28_68 {v0 v1 v2 : Value} {st : List Value} {h : ab_Hp} {Q : ab_O → ab_Hp → Prop} (hv : ab_isA v0 = true) : wp 28 68 [v0, v1, v2] st h Q = wp 28 69 [v0, v1, v2] (v0 :: st) h Q := wp_aload_n (by decide +kernel : ab_cod 28 68 = some (.aload_n 0, 1, 0, 0, 0, 0)) hv
set_option maxRecDepth 100000 in
theorem i28_69 {v0 v2 : Value} {x : Int32} {st : List Value} {h : ab_Hp} {Q : ab_O → ab_Hp → Prop} : wp 28 69 [v0, .int x, v2] st h Q = wp 28 70 [v0, .int x, v2] (.int x :: st) h Q := wp_stp (ri := (.iload_n 1, 1, 0, 0, 0, 0)) (by decide +kernel) rfl rfl rfl
set_option maxRecDepth 100000 in
theorem i28_70 {v0 v1 v2 : Value} {r : Nat} {a0 : Int32} {st : List Value} {h : ab_Hp} {Q : ab_O → ab_Hp → Prop} (hl : st.length ≤ 4) (hk : (ab_sh h r).1 = 14) : wp 28 70 [v0, v1, v2] (.int a0 :: .ref r :: st) h Q = wp 30 0 [.ref r, .int a0, ab_nov, ab_nov] [] h (ab_K 28 70 [v0, v1, v2] st Q) := wp_callV (as := [.int a0]) (by decide +kernel : ab_cod 28 70 = some (.invokevirtual 86, 3, 30, 2, 0, 433)) rfl rfl rfl rfl hl hk
set_option maxRecDepth 100000 in
theorem i28_73 {v0 v1 v2 : Value} {st : List Value} {h : ab_Hp} {Q : ab_O → ab_Hp → Prop} (hv : ab_isA v0 = true) : wp 28 73 [v0, v1, v2] st h Q = wp 28 74 [v0, v1, v2] (v0 :: st) h Q := wp_aload_n (by decide +kernel : ab_cod 28 73 = some (.aload_n 0, 1, 0, 0, 0, 0)) hv
set_option maxRecDepth 100000 in
theorem i28_74 {v0 v1 v2 : Value} {st : List Value} {h : ab_Hp} {Q : ab_O → ab_Hp → Prop} (hv : ab_isA v2 = true) : wp 28 74 [v0, v1, v2] st h Q = wp 28 75 [v0, v1, v2] (v2 :: st) h Q := wp_aload_n (by decide +kernel : ab_cod 28 74 = some (.aload_n 2, 1, 0, 0, 0, 0)) hv
set_option maxRecDepth 100000 in
theorem i28_75 {v0 v2 : Value} {x : Int32} {st : List Value} {h : ab_Hp} {Q : ab_O → ab_Hp → Prop} : wp 28 75 [v0, .int x, v2] st h Q = wp 28 76 [v0, .int x, v2] (.int x :: st) h Q := wp_stp (ri := (.iload_n 1, 1, 0, 0, 0, 0)) (by decide +kernel) rfl rfl rfl
set_option maxRecDepth 100000 in
theorem i28_76 {v0 v1 v2 : Value} {r : Nat} {a0 : Nat} {a1 : Int32} {st : List Value} {h : ab_Hp} {Q : ab_O → ab_Hp → Prop} (hl : st.length ≤ 4) (hk : (ab_sh h r).1 = 14) : wp 28 76 [v0, v1, v2] (.int a1 :: .ref a0 :: .ref r :: st) h Q = wp 31 0 [.ref r, .ref a0, .int a1, ab_nov, ab_nov] [] h (ab_K 28 76 [v0, v1, v2] st Q) := wp_callV (as := [.ref a0, .int a1]) (by decide +kernel : ab_cod 28 76 = some (.invokevirtual 90, 3, 31, 3, 0, 441)) rfl rfl rfl rfl hl hk
set_option maxRecDepth 100000 in
theorem i28_79 {v0 v2 : Value} {x : Int32} {st : List Value} {h : ab_Hp} {Q : ab_O → ab_Hp → Prop} : wp 28 79 [v0, .int x, v2] st h Q = wp 28 82 [ab_clr v0, .int (x + nI 1), v2] st h Q := wp_stp (ri := (.iinc 1 1, 3, 0, 0, 0, 0)) (by decide +kernel) rfl rfl rfl
set_option maxRecDepth 100000 in
theorem i28_82 {v0 v1 v2 : Value} {st : List Value} {h : ab_Hp} {Q : ab_O → ab_Hp → Prop} : wp 28 82 [v0, v1, v2] st h Q = wp 28 2 [v0, v1, v2] st h Q := wp_stp (ri := (.goto (-80), 3, 2, 0, 0, 0)) (by decide +kernel) rfl rfl rfl
set_option maxRecDepth 100000 in
theorem i28_85 {v0 v1 v2 : Value} {st : List Value} {h : ab_Hp} {Q : ab_O → ab_Hp → Prop} (hv : ab_isA v0 = true) : wp 28 85 [v0, v1, v2] st h Q = wp 28 86 [v0, v1, v2] (v0 :: st) h Q := wp_aload_n (by decide +kernel : ab_cod 28 85 = some (.aload_n 0, 1, 0, 0, 0, 0)) hv
set_option maxRecDepth 100000 in
theorem i28_86 {v0 v1 v2 : Value} {v : Value} {st : List Value} {h : ab_Hp} {Q : ab_O → ab_Hp → Prop} (hv : v.category = 1) : wp 28 86 [v0, v1, v2] (v :: st) h Q = wp 28 87 [v0, v1, v2] (v :: v :: st) h Q := wp_dup (by decide +kernel : ab_cod 28 86 = some (.dup, 1, 0, 0, 0, 0)) hv
set_option maxRecDepth 100000 in
theorem i28_87 {v0 v1 v2 : Value} {r : Nat} {st : List Value} {h : ab_Hp} {Q : ab_O → ab_Hp → Prop} (hk : (ab_sh h r).1 = 14) : wp 28 87 [v0, v1, v2] (.ref r :: st) h Q = wp 28 90 [v0, v1, v2] (.int (ab_hi h r 3) :: st) h Q := wp_gf (by decide +kernel : ab_cod 28 87 = some (.getfield 27, 3, 4, 3, 152, 0)) hk
set_option maxRecDepth 100000 in
theorem i28_90 {v0 v1 v2 : Value} {st : List Value} {h : ab_Hp} {Q : ab_O → ab_Hp → Prop} : wp 28 90 [v0, v1, v2] st h Q = wp 28 91 [v0, v1, v2] (.int (nI 1) :: st) h Q := wp_stp (ri := (.iconst 1, 1, 0, 0, 0, 0)) (by decide +kernel) rfl rfl rfl
set_option maxRecDepth 100000 in
theorem i28_91 {v0 v1 v2 : Value} {x y : Int32} {st : List Value} {h : ab_Hp} {Q : ab_O → ab_Hp → Prop} : wp 28 91 [v0, v1, v2] (.int y :: .int x :: st) h Q = wp 28 92 [v0, v1, v2] (.int (x + y) :: st) h Q := wp_stp (ri := (.iadd, 1, 0, 0, 0, 0)) (by decide +kernel) rfl rfl rfl
set_option maxRecDepth 100000 in
theorem i28_92 {v0 v1 v2 : Value} {r : Nat} {x : Int32} {st : List Value} {h : ab_Hp} {Q : ab_O → ab_Hp → Prop} (hk : (ab_sh h r).1 = 14) : wp 28 92 [v0, v1, v2] (.int x :: .ref r :: st) h Q = wp 28 95 [v0, v1, v2] st (ab_setI h (ab_u (ab_hi h) r 3 x)) Q := wp_pf (by decide +kernel : ab_cod 28 92 = some (.putfield 27, 3, 4, 3, 152, 0)) hk rfl
set_option maxRecDepth 100000 in
theorem i28_95 {v0 v1 v2 : Value} {h : ab_Hp} {Q : ab_O → ab_Hp → Prop} : wp 28 95 [v0, v1, v2] [] h Q = Q (.inl none) h := wp_vret (by decide +kernel : ab_cod 28 95 = some (.return_, 1, 0, 0, 0, 0)) rfl
/-! 29: SeamBeats$State.hand(LSeamBeats$Room;)V -/
set_option maxRecDepth 100000 in
theorem i29_0 {v0 v1 v2 v3 v4 : Value} {st : List Value} {h : ab_Hp} {Q : ab_O → ab_Hp → Prop} (hv : ab_isA v1 = true) : wp 29 0 [v0, v1, v2, v3, v4] st h Q = wp 29 1 [v0, v1, v2, v3, v4] (v1 :: st) h Q := wp_aload_n (by decide +kernel : ab_cod 29 0 = some (.aload_n 1, 1, 0, 0, 0, 0)) hv
set_option maxRecDepth 100000 in
theorem i29_1 {v0 v1 v2 v3 v4 : Value} {r : Nat} {st : List Value} {h : ab_Hp} {Q : ab_O → ab_Hp → Prop} (hk : (ab_sh h r).1 = 12) : wp 29 1 [v0, v1, v2, v3, v4] (.ref r :: st) h Q = wp 29 4 [v0, v1, v2, v3, v4] (va_rf (ab_hr h r 0) :: st) h Q := wp_gf (by decide +kernel : ab_cod 29 1 = some (.getfield 56, 3, 2, 0, 69, 1)) hk
set_option maxRecDepth 100000 in
theorem i29_4 {v0 v1 v2 v3 v4 : Value} {r : Nat} {st : List Value} {h : ab_Hp} {Q : ab_O → ab_Hp → Prop} (hk : (ab_sh h r).1 = 11) : wp 29 4 [v0, v1, v2, v3, v4] (.ref r :: st) h Q = wp 29 7 [v0, v1, v2, v3, v4] (.int (ab_hi h r 1) :: st) h Q := wp_gf (by decide +kernel : ab_cod 29 4 = some (.getfield 60, 3, 1, 1, 61, 0)) hk
set_option maxRecDepth 100000 in
theorem i29_7 {v0 v1 v2 v3 v4 : Value} {x : Int32} {st : List Value} {h : ab_Hp} {Q : ab_O → ab_Hp → Prop} : wp 29 7 [v0, v1, v2, v3, v4] (.int x :: st) h Q = if ¬ x = 0 then wp 29 11 [v0, v1, v2, v3, v4] st h Q else wp 29 10 [v0, v1, v2, v3, v4] st h Q := wp_ifcP (by decide +kernel : ab_cod 29 7 = some (.ifCond .ne 4, 3, 11, 0, 0, 0)) rfl
set_option maxRecDepth 100000 in
theorem i29_10 {v0 v1 v2 v3 v4 : Value} {h : ab_Hp} {Q : ab_O → ab_Hp → Prop} : wp 29 10 [v0, v1, v2, v3, v4] [] h Q = Q (.inl none) h := wp_vret (by decide +kernel : ab_cod 29 10 = some (.return_, 1, 0, 0, 0, 0)) rfl
set_option maxRecDepth 100000 in
theorem i29_11 {v0 v1 v2 v3 v4 : Value} {st : List Value} {h : ab_Hp} {Q : ab_O → ab_Hp → Prop} (hv : ab_isA v1 = true) : wp 29 11 [v0, v1, v2, v3, v4] st h Q = wp 29 12 [v0, v1, v2, v3, v4] (v1 :: st) h Q := wp_aload_n (by decide +kernel : ab_cod 29 11 = some (.aload_n 1, 1, 0, 0, 0, 0)) hv
set_option maxRecDepth 100000 in
theorem i29_12 {v0 v1 v2 v3 v4 : Value} {r : Nat} {st : List Value} {h : ab_Hp} {Q : ab_O → ab_Hp → Prop} (hk : (ab_sh h r).1 = 12) : wp 29 12 [v0, v1, v2, v3, v4] (.ref r :: st) h Q = wp 29 15 [v0, v1, v2, v3, v4] (va_rf (ab_hr h r 0) :: st) h Q := wp_gf (by decide +kernel : ab_cod 29 12 = some (.getfield 56, 3, 2, 0, 69, 1)) hk
set_option maxRecDepth 100000 in
theorem i29_15 {v0 v1 v2 v3 v4 : Value} {st : List Value} {h : ab_Hp} {Q : ab_O → ab_Hp → Prop} : wp 29 15 [v0, v1, v2, v3, v4] st h Q = wp 29 16 [v0, v1, v2, v3, v4] (.int (nI 0) :: st) h Q := wp_stp (ri := (.iconst 0, 1, 0, 0, 0, 0)) (by decide +kernel) rfl rfl rfl
set_option maxRecDepth 100000 in
theorem i29_16 {v0 v1 v2 v3 v4 : Value} {st : List Value} {h : ab_Hp} {Q : ab_O → ab_Hp → Prop} : wp 29 16 [v0, v1, v2, v3, v4] st h Q = wp 29 17 [v0, v1, v2, v3, v4] (.int (nI 0) :: st) h Q := wp_stp (ri := (.iconst 0, 1, 0, 0, 0, 0)) (by decide +kernel) rfl rfl rfl
set_option maxRecDepth 100000 in
theorem i29_17 {v0 v1 v2 v3 v4 : Value} {r : Nat} {a0 : Int32} {a1 : Int32} {st : List Value} {h : ab_Hp} {Q : ab_O → ab_Hp → Prop} (hl : st.length ≤ 4) (hk : (ab_sh h r).1 = 11) : wp 29 17 [v0, v1, v2, v3, v4] (.int a1 :: .int a0 :: .ref r :: st) h Q = wp 6 0 [.ref r, .int a0, .int a1, ab_nov] [] h (ab_K 29 17 [v0, v1, v2, v3, v4] st Q) := wp_callV (as := [.int a0, .int a1]) (by decide +kernel : ab_cod 29 17 = some (.invokevirtual 94, 3, 6, 3, 0, 417)) rfl rfl rfl rfl hl hk
set_option maxRecDepth 100000 in
theorem i29_20 {v0 v1 v2 v3 v4 : Value} {w : Int32} {st : List Value} {h : ab_Hp} {Q : ab_O → ab_Hp → Prop} : wp 29 20 [v0, v1, v2, v3, v4] (.int w :: st) h Q = wp 29 21 [v0, ab_clr v1, .int w, v3, v4] st h Q := wp_stp (ri := (.istore_n 2, 1, 0, 0, 0, 0)) (by decide +kernel) rfl rfl rfl
set_option maxRecDepth 100000 in
theorem i29_21 {v0 v1 v2 v3 v4 : Value} {st : List Value} {h : ab_Hp} {Q : ab_O → ab_Hp → Prop} (hv : ab_isA v1 = true) : wp 29 21 [v0, v1, v2, v3, v4] st h Q = wp 29 22 [v0, v1, v2, v3, v4] (v1 :: st) h Q := wp_aload_n (by decide +kernel : ab_cod 29 21 = some (.aload_n 1, 1, 0, 0, 0, 0)) hv
set_option maxRecDepth 100000 in
theorem i29_22 {v0 v1 v2 v3 v4 : Value} {r : Nat} {st : List Value} {h : ab_Hp} {Q : ab_O → ab_Hp → Prop} (hk : (ab_sh h r).1 = 12) : wp 29 22 [v0, v1, v2, v3, v4] (.ref r :: st) h Q = wp 29 25 [v0, v1, v2, v3, v4] (va_rf (ab_hr h r 0) :: st) h Q := wp_gf (by decide +kernel : ab_cod 29 22 = some (.getfield 56, 3, 2, 0, 69, 1)) hk
set_option maxRecDepth 100000 in
theorem i29_25 {v0 v1 v2 v3 v4 : Value} {st : List Value} {h : ab_Hp} {Q : ab_O → ab_Hp → Prop} : wp 29 25 [v0, v1, v2, v3, v4] st h Q = wp 29 26 [v0, v1, v2, v3, v4] (.int (nI 0) :: st) h Q := wp_stp (ri := (.iconst 0, 1, 0, 0, 0, 0)) (by decide +kernel) rfl rfl rfl
set_option maxRecDepth 100000 in
theorem i29_26 {v0 v1 v2 v3 v4 : Value} {st : List Value} {h : ab_Hp} {Q : ab_O → ab_Hp → Prop} : wp 29 26 [v0, v1, v2, v3, v4] st h Q = wp 29 27 [v0, v1, v2, v3, v4] (.int (nI 1) :: st) h Q := wp_stp (ri := (.iconst 1, 1, 0, 0, 0, 0)) (by decide +kernel) rfl rfl rfl
set_option maxRecDepth 100000 in
theorem i29_27 {v0 v1 v2 v3 v4 : Value} {r : Nat} {a0 : Int32} {a1 : Int32} {st : List Value} {h : ab_Hp} {Q : ab_O → ab_Hp → Prop} (hl : st.length ≤ 4) (hk : (ab_sh h r).1 = 11) : wp 29 27 [v0, v1, v2, v3, v4] (.int a1 :: .int a0 :: .ref r :: st) h Q = wp 6 0 [.ref r, .int a0, .int a1, ab_nov] [] h (ab_K 29 27 [v0, v1, v2, v3, v4] st Q) := wp_callV (as := [.int a0, .int a1]) (by decide +kernel : ab_cod 29 27 = some (.invokevirtual 94, 3, 6, 3, 0, 417)) rfl rfl rfl rfl hl hk
set_option maxRecDepth 100000 in
theorem i29_30 {v0 v1 v2 v3 v4 : Value} {w : Int32} {st : List Value} {h : ab_Hp} {Q : ab_O → ab_Hp → Prop} : wp 29 30 [v0, v1, v2, v3, v4] (.int w :: st) h Q = wp 29 31 [v0, v1, ab_clr v2, .int w, v4] st h Q := wp_stp (ri := (.istore_n 3, 1, 0, 0, 0, 0)) (by decide +kernel) rfl rfl rfl
set_option maxRecDepth 100000 in
theorem i29_31 {v0 v1 v2 v3 v4 : Value} {st : List Value} {h : ab_Hp} {Q : ab_O → ab_Hp → Prop} (hv : ab_isA v0 = true) : wp 29 31 [v0, v1, v2, v3, v4] st h Q = wp 29 32 [v0, v1, v2, v3, v4] (v0 :: st) h Q := wp_aload_n (by decide +kernel : ab_cod 29 31 = some (.aload_n 0, 1, 0, 0, 0, 0)) hv
set_option maxRecDepth 100000 in
theorem i29_32 {v0 v1 v2 v3 v4 : Value} {st : List Value} {h : ab_Hp} {Q : ab_O → ab_Hp → Prop} (hv : ab_isA v1 = true) : wp 29 32 [v0, v1, v2, v3, v4] st h Q = wp 29 33 [v0, v1, v2, v3, v4] (v1 :: st) h Q := wp_aload_n (by decide +kernel : ab_cod 29 32 = some (.aload_n 1, 1, 0, 0, 0, 0)) hv
set_option maxRecDepth 100000 in
theorem i29_33 {v0 v1 v2 v3 v4 : Value} {r : Nat} {st : List Value} {h : ab_Hp} {Q : ab_O → ab_Hp → Prop} (hk : (ab_sh h r).1 = 12) : wp 29 33 [v0, v1, v2, v3, v4] (.ref r :: st) h Q = wp 29 36 [v0, v1, v2, v3, v4] (.int (ab_hi h r 4) :: st) h Q := wp_gf (by decide +kernel : ab_cod 29 33 = some (.getfield 53, 3, 2, 4, 78, 0)) hk
set_option maxRecDepth 100000 in
theorem i29_36 {v0 v1 v2 v3 v4 : Value} {r : Nat} {a0 : Int32} {st : List Value} {h : ab_Hp} {Q : ab_O → ab_Hp → Prop} (hl : st.length ≤ 4) (hk : (ab_sh h r).1 = 14) : wp 29 36 [v0, v1, v2, v3, v4] (.int a0 :: .ref r :: st) h Q = wp 23 0 [.ref r, .int a0] [] h (ab_K 29 36 [v0, v1, v2, v3, v4] st Q) := wp_callV (as := [.int a0]) (by decide +kernel : ab_cod 29 36 = some (.invokevirtual 41, 3, 23, 2, 0, 421)) rfl rfl rfl rfl hl hk
set_option maxRecDepth 100000 in
theorem i29_39 {v0 v1 v2 v3 v4 : Value} {w : Value} {st : List Value} {h : ab_Hp} {Q : ab_O → ab_Hp → Prop} (hv : ab_isA w = true) : wp 29 39 [v0, v1, v2, v3, v4] (w :: st) h Q = wp 29 41 [v0, v1, v2, ab_clr v3, w] st h Q := wp_astore (by decide +kernel : ab_cod 29 39 = some (.astore 4, 2, 0, 0, 0, 0)) hv
set_option maxRecDepth 100000 in
theorem i29_41 {v0 v1 v2 v3 v4 : Value} {st : List Value} {h : ab_Hp} {Q : ab_O → ab_Hp → Prop} (hv : ab_isA v4 = true) : wp 29 41 [v0, v1, v2, v3, v4] st h Q = wp 29 43 [v0, v1, v2, v3, v4] (v4 :: st) h Q := wp_aload (by decide +kernel : ab_cod 29 41 = some (.aload 4, 2, 0, 0, 0, 0)) hv
set_option maxRecDepth 100000 in
theorem i29_43 {v0 v1 v2 v3 v4 : Value} {o : Option Nat} {st : List Value} {h : ab_Hp} {Q : ab_O → ab_Hp → Prop} : wp 29 43 [v0, v1, v2, v3, v4] (va_rf o :: st) h Q = if o = none then wp 29 46 [v0, v1, v2, v3, v4] st h Q else wp 29 86 [v0, v1, v2, v3, v4] st h Q := wp_ifnonnull (by decide +kernel : ab_cod 29 43 = some (.ifnonnull 43, 3, 86, 0, 0, 0)) o
set_option maxRecDepth 100000 in
theorem i29_43r {v0 v1 v2 v3 v4 : Value} {r : Nat} {st : List Value} {h : ab_Hp} {Q : ab_O → ab_Hp → Prop} : wp 29 43 [v0, v1, v2, v3, v4] (.ref r :: st) h Q = wp 29 86 [v0, v1, v2, v3, v4] st h Q := wp_stp (ri := (.ifnonnull 43, 3, 86, 0, 0, 0)) (by decide +kernel) rfl rfl rfl
set_option maxRecDepth 100000 in
theorem i29_43n {v0 v1 v2 v3 v4 : Value} {st : List Value} {h : ab_Hp} {Q : ab_O → ab_Hp → Prop} : wp 29 43 [v0, v1, v2, v3, v4] (.null :: st) h Q = wp 29 46 [v0, v1, v2, v3, v4] st h Q := wp_stp (ri := (.ifnonnull 43, 3, 86, 0, 0, 0)) (by decide +kernel) rfl rfl rfl
set_option maxRecDepth 100000 in
theorem i29_46 {v0 v1 v2 v3 v4 : Value} {st : List Value} {h : ab_Hp} {Q : ab_O → ab_Hp → Prop} (hv : ab_isA v1 = true) : wp 29 46 [v0, v1, v2, v3, v4] st h Q = wp 29 47 [v0, v1, v2, v3, v4] (v1 :: st) h Q := wp_aload_n (by decide +kernel : ab_cod 29 46 = some (.aload_n 1, 1, 0, 0, 0, 0)) hv
set_option maxRecDepth 100000 in
theorem i29_47 {v0 v1 v2 v3 v4 : Value} {r : Nat} {st : List Value} {h : ab_Hp} {Q : ab_O → ab_Hp → Prop} (hk : (ab_sh h r).1 = 12) : wp 29 47 [v0, v1, v2, v3, v4] (.ref r :: st) h Q = wp 29 50 [v0, v1, v2, v3, v4] (va_rf (ab_hr h r 0) :: st) h Q := wp_gf (by decide +kernel : ab_cod 29 47 = some (.getfield 56, 3, 2, 0, 69, 1)) hk
set_option maxRecDepth 100000 in
theorem i29_50 {v0 v1 v2 v3 v4 : Value} {r : Nat} {st : List Value} {h : ab_Hp} {Q : ab_O → ab_Hp → Prop} (hl : st.length ≤ 4) (hk : (ab_sh h r).1 = 11) : wp 29 50 [v0, v1, v2, v3, v4] (.ref r :: st) h Q = wp 8 0 [.ref r, ab_nov, ab_nov] [] h (ab_K 29 50 [v0, v1, v2, v3, v4] st Q) := wp_callV (as := []) (by decide +kernel : ab_cod 29 50 = some (.invokevirtual 98, 3, 8, 1, 0, 425)) rfl rfl rfl rfl hl hk
set_option maxRecDepth 100000 in
theorem i29_53 {v0 v1 v2 v3 v4 : Value} {st : List Value} {h : ab_Hp} {Q : ab_O → ab_Hp → Prop} (hv : ab_isA v1 = true) : wp 29 53 [v0, v1, v2, v3, v4] st h Q = wp 29 54 [v0, v1, v2, v3, v4] (v1 :: st) h Q := wp_aload_n (by decide +kernel : ab_cod 29 53 = some (.aload_n 1, 1, 0, 0, 0, 0)) hv
set_option maxRecDepth 100000 in
theorem i29_54 {v0 v1 v2 v3 v4 : Value} {v : Value} {st : List Value} {h : ab_Hp} {Q : ab_O → ab_Hp → Prop} (hv : v.category = 1) : wp 29 54 [v0, v1, v2, v3, v4] (v :: st) h Q = wp 29 55 [v0, v1, v2, v3, v4] (v :: v :: st) h Q := wp_dup (by decide +kernel : ab_cod 29 54 = some (.dup, 1, 0, 0, 0, 0)) hv
set_option maxRecDepth 100000 in
theorem i29_55 {v0 v1 v2 v3 v4 : Value} {r : Nat} {st : List Value} {h : ab_Hp} {Q : ab_O → ab_Hp → Prop} (hk : (ab_sh h r).1 = 12) : wp 29 55 [v0, v1, v2, v3, v4] (.ref r :: st) h Q = wp 29 58 [v0, v1, v2, v3, v4] (.int (ab_hi h r 8) :: st) h Q := wp_gf (by decide +kernel : ab_cod 29 55 = some (.getfield 101, 3, 2, 8, 88, 0)) hk
set_option maxRecDepth 100000 in
theorem i29_58 {v0 v1 v2 v3 v4 : Value} {st : List Value} {h : ab_Hp} {Q : ab_O → ab_Hp → Prop} : wp 29 58 [v0, v1, v2, v3, v4] st h Q = wp 29 59 [v0, v1, v2, v3, v4] (.int (nI 1) :: st) h Q := wp_stp (ri := (.iconst 1, 1, 0, 0, 0, 0)) (by decide +kernel) rfl rfl rfl
set_option maxRecDepth 100000 in
theorem i29_59 {v0 v1 v2 v3 v4 : Value} {x y : Int32} {st : List Value} {h : ab_Hp} {Q : ab_O → ab_Hp → Prop} : wp 29 59 [v0, v1, v2, v3, v4] (.int y :: .int x :: st) h Q = wp 29 60 [v0, v1, v2, v3, v4] (.int (x + y) :: st) h Q := wp_stp (ri := (.iadd, 1, 0, 0, 0, 0)) (by decide +kernel) rfl rfl rfl
set_option maxRecDepth 100000 in
theorem i29_60 {v0 v1 v2 v3 v4 : Value} {r : Nat} {x : Int32} {st : List Value} {h : ab_Hp} {Q : ab_O → ab_Hp → Prop} (hk : (ab_sh h r).1 = 12) : wp 29 60 [v0, v1, v2, v3, v4] (.int x :: .ref r :: st) h Q = wp 29 63 [v0, v1, v2, v3, v4] st (ab_setI h (ab_u (ab_hi h) r 8 x)) Q := wp_pf (by decide +kernel : ab_cod 29 60 = some (.putfield 101, 3, 2, 8, 88, 0)) hk rfl
set_option maxRecDepth 100000 in
theorem i29_63 {v0 v1 v2 v3 v4 : Value} {st : List Value} {h : ab_Hp} {Q : ab_O → ab_Hp → Prop} (hv : ab_isA v1 = true) : wp 29 63 [v0, v1, v2, v3, v4] st h Q = wp 29 64 [v0, v1, v2, v3, v4] (v1 :: st) h Q := wp_aload_n (by decide +kernel : ab_cod 29 63 = some (.aload_n 1, 1, 0, 0, 0, 0)) hv
set_option maxRecDepth 100000 in
theorem i29_64 {v0 v1 v2 v4 : Value} {x : Int32} {st : List Value} {h : ab_Hp} {Q : ab_O → ab_Hp → Prop} : wp 29 64 [v0, v1, v2, .int x, v4] st h Q = wp 29 65 [v0, v1, v2, .int x, v4] (.int x :: st) h Q := wp_stp (ri := (.iload_n 3, 1, 0, 0, 0, 0)) (by decide +kernel) rfl rfl rfl
set_option maxRecDepth 100000 in
theorem i29_65 {v0 v1 v2 v3 v4 : Value} {r : Nat} {x : Int32} {st : List Value} {h : ab_Hp} {Q : ab_O → ab_Hp → Prop} (hk : (ab_sh h r).1 = 12) : wp 29 65 [v0, v1, v2, v3, v4] (.int x :: .ref r :: st) h Q = wp 29 68 [v0, v1, v2, v3, v4] st (ab_setI h (ab_u (ab_hi h) r 9 x)) Q := wp_pf (by decide +kernel : ab_cod 29 65 = some (.putfield 104, 3, 2, 9, 90, 0)) hk rfl
set_option maxRecDepth 100000 in
theorem i29_68 {v0 v1 v2 v3 v4 : Value} {st : List Value} {h : ab_Hp} {Q : ab_O → ab_Hp → Prop} (hv : ab_isA v0 = true) : wp 29 68 [v0, v1, v2, v3, v4] st h Q = wp 29 69 [v0, v1, v2, v3, v4] (v0 :: st) h Q := wp_aload_n (by decide +kernel : ab_cod 29 68 = some (.aload_n 0, 1, 0, 0, 0, 0)) hv
set_option maxRecDepth 100000 in
theorem i29_69 {v0 v1 v2 v3 v4 : Value} {v : Value} {st : List Value} {h : ab_Hp} {Q : ab_O → ab_Hp → Prop} (hv : v.category = 1) : wp 29 69 [v0, v1, v2, v3, v4] (v :: st) h Q = wp 29 70 [v0, v1, v2, v3, v4] (v :: v :: st) h Q := wp_dup (by decide +kernel : ab_cod 29 69 = some (.dup, 1, 0, 0, 0, 0)) hv
set_option maxRecDepth 100000 in
theorem i29_70 {v0 v1 v2 v3 v4 : Value} {r : Nat} {st : List Value} {h : ab_Hp} {Q : ab_O → ab_Hp → Prop} (hk : (ab_sh h r).1 = 14) : wp 29 70 [v0, v1, v2, v3, v4] (.ref r :: st) h Q = wp 29 73 [v0, v1, v2, v3, v4] (.int (ab_hi h r 5) :: st) h Q := wp_gf (by decide +kernel : ab_cod 29 70 = some (.getfield 33, 3, 4, 5, 156, 0)) hk
set_option maxRecDepth 100000 in
theorem i29_73 {v0 v1 v2 v4 : Value} {x : Int32} {st : List Value} {h : ab_Hp} {Q : ab_O → ab_Hp → Prop} : wp 29 73 [v0, v1, v2, .int x, v4] st h Q = wp 29 74 [v0, v1, v2, .int x, v4] (.int x :: st) h Q := wp_stp (ri := (.iload_n 3, 1, 0, 0, 0, 0)) (by decide +kernel) rfl rfl rfl
set_option maxRecDepth 100000 in
theorem i29_74 {v0 v1 v2 v3 v4 : Value} {x y : Int32} {st : List Value} {h : ab_Hp} {Q : ab_O → ab_Hp → Prop} : wp 29 74 [v0, v1, v2, v3, v4] (.int y :: .int x :: st) h Q = wp 29 75 [v0, v1, v2, v3, v4] (.int (x + y) :: st) h Q := wp_stp (ri := (.iadd, 1, 0, 0, 0, 0)) (by decide +kernel) rfl rfl rfl
set_option maxRecDepth 100000 in
theorem i29_75 {v0 v1 v2 v3 v4 : Value} {r : Nat} {x : Int32} {st : List Value} {h : ab_Hp} {Q : ab_O → ab_Hp → Prop} (hk : (ab_sh h r).1 = 14) : wp 29 75 [v0, v1, v2, v3, v4] (.int x :: .ref r :: st) h Q = wp 29 78 [v0, v1, v2, v3, v4] st (ab_setI h (ab_u (ab_hi h) r 5 x)) Q := wp_pf (by decide +kernel : ab_cod 29 75 = some (.putfield 33, 3, 4, 5, 156, 0)) hk rfl
set_option maxRecDepth 100000 in
theorem i29_78 {v0 v1 v2 v3 v4 : Value} {st : List Value} {h : ab_Hp} {Q : ab_O → ab_Hp → Prop} (hv : ab_isA v0 = true) : wp 29 78 [v0, v1, v2, v3, v4] st h Q = wp 29 79 [v0, v1, v2, v3, v4] (v0 :: st) h Q := wp_aload_n (by decide +kernel : ab_cod 29 78 = some (.aload_n 0, 1, 0, 0, 0, 0)) hv
set_option maxRecDepth 100000 in
theorem i29_79 {v0 v1 v3 v4 : Value} {x : Int32} {st : List Value} {h : ab_Hp} {Q : ab_O → ab_Hp → Prop} : wp 29 79 [v0, v1, .int x, v3, v4] st h Q = wp 29 80 [v0, v1, .int x, v3, v4] (.int x :: st) h Q := wp_stp (ri := (.iload_n 2, 1, 0, 0, 0, 0)) (by decide +kernel) rfl rfl rfl
set_option maxRecDepth 100000 in
theorem i29_80 {v0 v1 v2 v3 v4 : Value} {r : Nat} {x : Int32} {st : List Value} {h : ab_Hp} {Q : ab_O → ab_Hp → Prop} (hk : (ab_sh h r).1 = 14) : wp 29 80 [v0, v1, v2, v3, v4] (.int x :: .ref r :: st) h Q = wp 29 83 [v0, v1, v2, v3, v4] st (ab_setI h (ab_u (ab_hi h) r 6 x)) Q := wp_pf (by decide +kernel : ab_cod 29 80 = some (.putfield 36, 3, 4, 6, 157, 0)) hk rfl
set_option maxRecDepth 100000 in
theorem i29_83 {v0 v1 v2 v3 v4 : Value} {st : List Value} {h : ab_Hp} {Q : ab_O → ab_Hp → Prop} : wp 29 83 [v0, v1, v2, v3, v4] st h Q = wp 29 143 [v0, v1, v2, v3, v4] st h Q := wp_stp (ri := (.goto 60, 3, 143, 0, 0, 0)) (by decide +kernel) rfl rfl rfl
set_option maxRecDepth 100000 in
theorem i29_86 {v0 v1 v2 v3 v4 : Value} {st : List Value} {h : ab_Hp} {Q : ab_O → ab_Hp → Prop} (hv : ab_isA v4 = true) : wp 29 86 [v0, v1, v2, v3, v4] st h Q = wp 29 88 [v0, v1, v2, v3, v4] (v4 :: st) h Q := wp_aload (by decide +kernel : ab_cod 29 86 = some (.aload 4, 2, 0, 0, 0, 0)) hv
set_option maxRecDepth 100000 in
theorem i29_88 {v0 v1 v2 v3 v4 : Value} {r : Nat} {st : List Value} {h : ab_Hp} {Q : ab_O → ab_Hp → Prop} (hk : (ab_sh h r).1 = 13) : wp 29 88 [v0, v1, v2, v3, v4] (.ref r :: st) h Q = wp 29 91 [v0, v1, v2, v3, v4] (va_rf (ab_hr h r 0) :: st) h Q := wp_gf (by decide +kernel : ab_cod 29 88 = some (.getfield 107, 3, 3, 0, 124, 1)) hk
set_option maxRecDepth 100000 in
theorem i29_91 {v0 v1 v2 v3 v4 : Value} {r : Nat} {st : List Value} {h : ab_Hp} {Q : ab_O → ab_Hp → Prop} (hk : (ab_sh h r).1 = 11) : wp 29 91 [v0, v1, v2, v3, v4] (.ref r :: st) h Q = wp 29 94 [v0, v1, v2, v3, v4] (.int (ab_hi h r 1) :: st) h Q := wp_gf (by decide +kernel : ab_cod 29 91 = some (.getfield 60, 3, 1, 1, 61, 0)) hk
set_option maxRecDepth 100000 in
theorem i29_94 {v0 v1 v2 v3 v4 : Value} {st : List Value} {h : ab_Hp} {Q : ab_O → ab_Hp → Prop} (hv : ab_isA v4 = true) : wp 29 94 [v0, v1, v2, v3, v4] st h Q = wp 29 96 [v0, v1, v2, v3, v4] (v4 :: st) h Q := wp_aload (by decide +kernel : ab_cod 29 94 = some (.aload 4, 2, 0, 0, 0, 0)) hv
set_option maxRecDepth 100000 in
theorem i29_96 {v0 v1 v2 v3 v4 : Value} {r : Nat} {st : List Value} {h : ab_Hp} {Q : ab_O → ab_Hp → Prop} (hk : (ab_sh h r).1 = 13) : wp 29 96 [v0, v1, v2, v3, v4] (.ref r :: st) h Q = wp 29 99 [v0, v1, v2, v3, v4] (.int (ab_hi h r 3) :: st) h Q := wp_gf (by decide +kernel : ab_cod 29 96 = some (.getfield 108, 3, 3, 3, 130, 0)) hk
set_option maxRecDepth 100000 in
theorem i29_99 {v0 v1 v2 v3 v4 : Value} {x y : Int32} {st : List Value} {h : ab_Hp} {Q : ab_O → ab_Hp → Prop} : wp 29 99 [v0, v1, v2, v3, v4] (.int y :: .int x :: st) h Q = if y ≤ x then wp 29 133 [v0, v1, v2, v3, v4] st h Q else wp 29 102 [v0, v1, v2, v3, v4] st h Q := wp_icmpP (by decide +kernel : ab_cod 29 99 = some (.if_icmp .ge 34, 3, 133, 0, 0, 0)) rfl
set_option maxRecDepth 100000 in
theorem i29_102 {v0 v1 v2 v3 v4 : Value} {st : List Value} {h : ab_Hp} {Q : ab_O → ab_Hp → Prop} (hv : ab_isA v1 = true) : wp 29 102 [v0, v1, v2, v3, v4] st h Q = wp 29 103 [v0, v1, v2, v3, v4] (v1 :: st) h Q := wp_aload_n (by decide +kernel : ab_cod 29 102 = some (.aload_n 1, 1, 0, 0, 0, 0)) hv
set_option maxRecDepth 100000 in
theorem i29_103 {v0 v1 v2 v3 v4 : Value} {r : Nat} {st : List Value} {h : ab_Hp} {Q : ab_O → ab_Hp → Prop} (hk : (ab_sh h r).1 = 12) : wp 29 103 [v0, v1, v2, v3, v4] (.ref r :: st) h Q = wp 29 106 [v0, v1, v2, v3, v4] (va_rf (ab_hr h r 0) :: st) h Q := wp_gf (by decide +kernel : ab_cod 29 103 = some (.getfield 56, 3, 2, 0, 69, 1)) hk
set_option maxRecDepth 100000 in
theorem i29_106 {v0 v1 v2 v3 v4 : Value} {r : Nat} {st : List Value} {h : ab_Hp} {Q : ab_O → ab_Hp → Prop} (hl : st.length ≤ 4) (hk : (ab_sh h r).1 = 11) : wp 29 106 [v0, v1, v2, v3, v4] (.ref r :: st) h Q = wp 8 0 [.ref r, ab_nov, ab_nov] [] h (ab_K 29 106 [v0, v1, v2, v3, v4] st Q) := wp_callV (as := []) (by decide +kernel : ab_cod 29 106 = some (.invokevirtual 98, 3, 8, 1, 0, 425)) rfl rfl rfl rfl hl hk
set_option maxRecDepth 100000 in
theorem i29_109 {v0 v1 v2 v3 v4 : Value} {st : List Value} {h : ab_Hp} {Q : ab_O → ab_Hp → Prop} (hv : ab_isA v4 = true) : wp 29 109 [v0, v1, v2, v3, v4] st h Q = wp 29 111 [v0, v1, v2, v3, v4] (v4 :: st) h Q := wp_aload (by decide +kernel : ab_cod 29 109 = some (.aload 4, 2, 0, 0, 0, 0)) hv
set_option maxRecDepth 100000 in
theorem i29_111 {v0 v1 v2 v3 v4 : Value} {r : Nat} {st : List Value} {h : ab_Hp} {Q : ab_O → ab_Hp → Prop} (hk : (ab_sh h r).1 = 13) : wp 29 111 [v0, v1, v2, v3, v4] (.ref r :: st) h Q = wp 29 114 [v0, v1, v2, v3, v4] (va_rf (ab_hr h r 0) :: st) h Q := wp_gf (by decide +kernel : ab_cod 29 111 = some (.getfield 107, 3, 3, 0, 124, 1)) hk
set_option maxRecDepth 100000 in
theorem i29_114 {v0 v1 v3 v4 : Value} {x : Int32} {st : List Value} {h : ab_Hp} {Q : ab_O → ab_Hp → Prop} : wp 29 114 [v0, v1, .int x, v3, v4] st h Q = wp 29 115 [v0, v1, .int x, v3, v4] (.int x :: st) h Q := wp_stp (ri := (.iload_n 2, 1, 0, 0, 0, 0)) (by decide +kernel) rfl rfl rfl
set_option maxRecDepth 100000 in
theorem i29_115 {v0 v1 v2 v4 : Value} {x : Int32} {st : List Value} {h : ab_Hp} {Q : ab_O → ab_Hp → Prop} : wp 29 115 [v0, v1, v2, .int x, v4] st h Q = wp 29 116 [v0, v1, v2, .int x, v4] (.int x :: st) h Q := wp_stp (ri := (.iload_n 3, 1, 0, 0, 0, 0)) (by decide +kernel) rfl rfl rfl
set_option maxRecDepth 100000 in
theorem i29_116 {v0 v1 v2 v3 v4 : Value} {r : Nat} {a0 : Int32} {a1 : Int32} {st : List Value} {h : ab_Hp} {Q : ab_O → ab_Hp → Prop} (hl : st.length ≤ 4) (hk : (ab_sh h r).1 = 11) : wp 29 116 [v0, v1, v2, v3, v4] (.int a1 :: .int a0 :: .ref r :: st) h Q = wp 7 0 [.ref r, .int a0, .int a1, ab_nov] [] h (ab_K 29 116 [v0, v1, v2, v3, v4] st Q) := wp_callV (as := [.int a0, .int a1]) (by decide +kernel : ab_cod 29 116 = some (.invokevirtual 65, 3, 7, 3, 0, 429)) rfl rfl rfl rfl hl hk
set_option maxRecDepth 100000 in
theorem i29_119 {v0 v1 v2 v3 v4 : Value} {st : List Value} {h : ab_Hp} {Q : ab_O → ab_Hp → Prop} (hv : ab_isA v4 = true) : wp 29 119 [v0, v1, v2, v3, v4] st h Q = wp 29 121 [v0, v1, v2, v3, v4] (v4 :: st) h Q := wp_aload (by decide +kernel : ab_cod 29 119 = some (.aload 4, 2, 0, 0, 0, 0)) hv
set_option maxRecDepth 100000 in
theorem i29_121 {v0 v1 v2 v3 v4 : Value} {v : Value} {st : List Value} {h : ab_Hp} {Q : ab_O → ab_Hp → Prop} (hv : v.category = 1) : wp 29 121 [v0, v1, v2, v3, v4] (v :: st) h Q = wp 29 122 [v0, v1, v2, v3, v4] (v :: v :: st) h Q := wp_dup (by decide +kernel : ab_cod 29 121 = some (.dup, 1, 0, 0, 0, 0)) hv
set_option maxRecDepth 100000 in
theorem i29_122 {v0 v1 v2 v3 v4 : Value} {r : Nat} {st : List Value} {h : ab_Hp} {Q : ab_O → ab_Hp → Prop} (hk : (ab_sh h r).1 = 13) : wp 29 122 [v0, v1, v2, v3, v4] (.ref r :: st) h Q = wp 29 125 [v0, v1, v2, v3, v4] (.int (ab_hi h r 5) :: st) h Q := wp_gf (by decide +kernel : ab_cod 29 122 = some (.getfield 111, 3, 3, 5, 134, 0)) hk
set_option maxRecDepth 100000 in
theorem i29_125 {v0 v1 v2 v3 v4 : Value} {st : List Value} {h : ab_Hp} {Q : ab_O → ab_Hp → Prop} : wp 29 125 [v0, v1, v2, v3, v4] st h Q = wp 29 126 [v0, v1, v2, v3, v4] (.int (nI 1) :: st) h Q := wp_stp (ri := (.iconst 1, 1, 0, 0, 0, 0)) (by decide +kernel) rfl rfl rfl
set_option maxRecDepth 100000 in
theorem i29_126 {v0 v1 v2 v3 v4 : Value} {x y : Int32} {st : List Value} {h : ab_Hp} {Q : ab_O → ab_Hp → Prop} : wp 29 126 [v0, v1, v2, v3, v4] (.int y :: .int x :: st) h Q = wp 29 127 [v0, v1, v2, v3, v4] (.int (x + y) :: st) h Q := wp_stp (ri := (.iadd, 1, 0, 0, 0, 0)) (by decide +kernel) rfl rfl rfl
set_option maxRecDepth 100000 in
theorem i29_127 {v0 v1 v2 v3 v4 : Value} {r : Nat} {x : Int32} {st : List Value} {h : ab_Hp} {Q : ab_O → ab_Hp → Prop} (hk : (ab_sh h r).1 = 13) : wp 29 127 [v0, v1, v2, v3, v4] (.int x :: .ref r :: st) h Q = wp 29 130 [v0, v1, v2, v3, v4] st (ab_setI h (ab_u (ab_hi h) r 5 x)) Q := wp_pf (by decide +kernel : ab_cod 29 127 = some (.putfield 111, 3, 3, 5, 134, 0)) hk rfl
set_option maxRecDepth 100000 in
theorem i29_130 {v0 v1 v2 v3 v4 : Value} {st : List Value} {h : ab_Hp} {Q : ab_O → ab_Hp → Prop} : wp 29 130 [v0, v1, v2, v3, v4] st h Q = wp 29 143 [v0, v1, v2, v3, v4] st h Q := wp_stp (ri := (.goto 13, 3, 143, 0, 0, 0)) (by decide +kernel) rfl rfl rfl
set_option maxRecDepth 100000 in
theorem i29_133 {v0 v1 v2 v3 v4 : Value} {st : List Value} {h : ab_Hp} {Q : ab_O → ab_Hp → Prop} (hv : ab_isA v1 = true) : wp 29 133 [v0, v1, v2, v3, v4] st h Q = wp 29 134 [v0, v1, v2, v3, v4] (v1 :: st) h Q := wp_aload_n (by decide +kernel : ab_cod 29 133 = some (.aload_n 1, 1, 0, 0, 0, 0)) hv
set_option maxRecDepth 100000 in
theorem i29_134 {v0 v1 v2 v3 v4 : Value} {v : Value} {st : List Value} {h : ab_Hp} {Q : ab_O → ab_Hp → Prop} (hv : v.category = 1) : wp 29 134 [v0, v1, v2, v3, v4] (v :: st) h Q = wp 29 135 [v0, v1, v2, v3, v4] (v :: v :: st) h Q := wp_dup (by decide +kernel : ab_cod 29 134 = some (.dup, 1, 0, 0, 0, 0)) hv
set_option maxRecDepth 100000 in
theorem i29_135 {v0 v1 v2 v3 v4 : Value} {r : Nat} {st : List Value} {h : ab_Hp} {Q : ab_O → ab_Hp → Prop} (hk : (ab_sh h r).1 = 12) : wp 29 135 [v0, v1, v2, v3, v4] (.ref r :: st) h Q = wp 29 138 [v0, v1, v2, v3, v4] (.int (ab_hi h r 7) :: st) h Q := wp_gf (by decide +kernel : ab_cod 29 135 = some (.getfield 114, 3, 2, 7, 85, 0)) hk
set_option maxRecDepth 100000 in
theorem i29_138 {v0 v1 v2 v3 v4 : Value} {st : List Value} {h : ab_Hp} {Q : ab_O → ab_Hp → Prop} : wp 29 138 [v0, v1, v2, v3, v4] st h Q = wp 29 139 [v0, v1, v2, v3, v4] (.int (nI 1) :: st) h Q := wp_stp (ri := (.iconst 1, 1, 0, 0, 0, 0)) (by decide +kernel) rfl rfl rfl
set_option maxRecDepth 100000 in
theorem i29_139 {v0 v1 v2 v3 v4 : Value} {x y : Int32} {st : List Value} {h : ab_Hp} {Q : ab_O → ab_Hp → Prop} : wp 29 139 [v0, v1, v2, v3, v4] (.int y :: .int x :: st) h Q = wp 29 140 [v0, v1, v2, v3, v4] (.int (x + y) :: st) h Q := wp_stp (ri := (.iadd, 1, 0, 0, 0, 0)) (by decide +kernel) rfl rfl rfl
set_option maxRecDepth 100000 in
theorem i29_140 {v0 v1 v2 v3 v4 : Value} {r : Nat} {x : Int32} {st : List Value} {h : ab_Hp} {Q : ab_O → ab_Hp → Prop} (hk : (ab_sh h r).1 = 12) : wp 29 140 [v0, v1, v2, v3, v4] (.int x :: .ref r :: st) h Q = wp 29 143 [v0, v1, v2, v3, v4] st (ab_setI h (ab_u (ab_hi h) r 7 x)) Q := wp_pf (by decide +kernel : ab_cod 29 140 = some (.putfield 114, 3, 2, 7, 85, 0)) hk rfl
set_option maxRecDepth 100000 in
theorem i29_143 {v0 v1 v2 v3 v4 : Value} {h : ab_Hp} {Q : ab_O → ab_Hp → Prop} : wp 29 143 [v0, v1, v2, v3, v4] [] h Q = Q (.inl none) h := wp_vret (by decide +kernel : ab_cod 29 143 = some (.return_, 1, 0, 0, 0, 0)) rfl
/-! 30: SeamBeats$State.growInto(I)V -/
theorem i30_0 {v0 v1 v2 v3 : Value} {st : List Value} {h : ab_Hp} {Q : ab_O → ab_Hp → Prop} : wp 30 0 [v0, v1, v2, v3] st h Q = wp 30 1 [v0, v1, v2, v3] (.int (nI 0) :: st) h Q := wp_stp (ri := (.iconst 0, 1, 0, 0, 0, 0)) (by decide +kernel) rfl rfl rfl
theorem i30_1 {v0 v1 v2 v3 : Value} {w : Int32} {st : List Value} {h : ab_Hp} {Q : ab_O → ab_Hp → Prop} : wp 30 1 [v0, v1, v2, v3] (.int w :: st) h Q = wp 30 2 [v0, ab_clr v1, .int w, v3] st h Q := wp_stp (ri := (.istore_n 2, 1, 0, 0, 0, 0)) (by decide +kernel) rfl rfl rfl
theorem i30_2 {v0 v1 v3 : Value} {x : Int32} {st : List Value} {h : ab_Hp} {Q : ab_O → ab_Hp → Prop} : wp 30 2 [v0, v1, .int x, v3] st h Q = wp 30 3 [v0, v1, .int x, v3] (.int x :: st) h Q := wp_stp (ri := (.iload_n 2, 1, 0, 0, 0, 0)) (by decide +kernel) rfl rfl rfl
theorem i30_3 {v0 v1 v2 v3 : Value} {st : List Value} {h : ab_Hp} {Q : ab_O → ab_Hp → Prop} (hv : ab_isA v0 = true) : wp 30 3 [v0, v1, v2, v3] st h Q = wp 30 4 [v0, v1, v2, v3] (v0 :: st) h Q := wp_aload_n (by decide +kernel : ab_cod 30 3 = some (.aload_n 0, 1, 0, 0, 0, 0)) hv
theorem i30_4 {v0 v1 v2 v3 : Value} {r : Nat} {st : List Value} {h : ab_Hp} {Q : ab_O → ab_Hp → Prop} (hk : (ab_sh h r).1 = 14) : wp 30 4 [v0, v1, v2, v3] (.ref r :: st) h Q = wp 30 7 [v0, v1, v2, v3] (.int (ab_hi h r 2) :: st) h Q := wp_gf (by decide +kernel : ab_cod 30 4 = some (.getfield 23, 3, 4, 2, 150, 0)) hk
theorem i30_7 {v0 v1 v2 v3 : Value} {x y : Int32} {st : List Value} {h : ab_Hp} {Q : ab_O → ab_Hp → Prop} : wp 30 7 [v0, v1, v2, v3] (.int y :: .int x :: st) h Q = if y ≤ x then wp 30 55 [v0, v1, v2, v3] st h Q else wp 30 10 [v0, v1, v2, v3] st h Q := wp_icmpP (by decide +kernel : ab_cod 30 7 = some (.if_icmp .ge 48, 3, 55, 0, 0, 0)) rfl
theorem i30_10 {v0 v1 v3 : Value} {x : Int32} {st : List Value} {h : ab_Hp} {Q : ab_O → ab_Hp → Prop} : wp 30 10 [v0, v1, .int x, v3] st h Q = wp 30 11 [v0, v1, .int x, v3] (.int x :: st) h Q := wp_stp (ri := (.iload_n 2, 1, 0, 0, 0, 0)) (by decide +kernel) rfl rfl rfl
theorem i30_11 {v0 v1 v2 v3 : Value} {st : List Value} {h : ab_Hp} {Q : ab_O → ab_Hp → Prop} (hv : ab_isA v0 = true) : wp 30 11 [v0, v1, v2, v3] st h Q = wp 30 12 [v0, v1, v2, v3] (v0 :: st) h Q := wp_aload_n (by decide +kernel : ab_cod 30 11 = some (.aload_n 0, 1, 0, 0, 0, 0)) hv
theorem i30_12 {v0 v1 v2 v3 : Value} {r : Nat} {st : List Value} {h : ab_Hp} {Q : ab_O → ab_Hp → Prop} (hk : (ab_sh h r).1 = 14) : wp 30 12 [v0, v1, v2, v3] (.ref r :: st) h Q = wp 30 15 [v0, v1, v2, v3] (va_rf (ab_hr h r 1) :: st) h Q := wp_gf (by decide +kernel : ab_cod 30 12 = some (.getfield 19, 3, 4, 1, 149, 1)) hk
theorem i30_15 {v0 v1 v2 v3 : Value} {r : Nat} {st : List Value} {h : ab_Hp} {Q : ab_O → ab_Hp → Prop} (hk : 1 ≤ (ab_sh h r).1 ∧ (ab_sh h r).1 ≤ 6) : wp 30 15 [v0, v1, v2, v3] (.ref r :: st) h Q = wp 30 16 [v0, v1, v2, v3] (.int (nI (ab_sh h r).2) :: st) h Q := wp_al (by decide +kernel : ab_cod 30 15 = some (.arraylength, 1, 0, 0, 0, 0)) hk
theorem i30_16 {v0 v1 v2 v3 : Value} {x y : Int32} {st : List Value} {h : ab_Hp} {Q : ab_O → ab_Hp → Prop} : wp 30 16 [v0, v1, v2, v3] (.int y :: .int x :: st) h Q = if y ≤ x then wp 30 55 [v0, v1, v2, v3] st h Q else wp 30 19 [v0, v1, v2, v3] st h Q := wp_icmpP (by decide +kernel : ab_cod 30 16 = some (.if_icmp .ge 39, 3, 55, 0, 0, 0)) rfl
theorem i30_19 {v0 v1 v2 v3 : Value} {st : List Value} {h : ab_Hp} {Q : ab_O → ab_Hp → Prop} (hv : ab_isA v0 = true) : wp 30 19 [v0, v1, v2, v3] st h Q = wp 30 20 [v0, v1, v2, v3] (v0 :: st) h Q := wp_aload_n (by decide +kernel : ab_cod 30 19 = some (.aload_n 0, 1, 0, 0, 0, 0)) hv
theorem i30_20 {v0 v1 v2 v3 : Value} {r : Nat} {st : List Value} {h : ab_Hp} {Q : ab_O → ab_Hp → Prop} (hk : (ab_sh h r).1 = 14) : wp 30 20 [v0, v1, v2, v3] (.ref r :: st) h Q = wp 30 23 [v0, v1, v2, v3] (va_rf (ab_hr h r 1) :: st) h Q := wp_gf (by decide +kernel : ab_cod 30 20 = some (.getfield 19, 3, 4, 1, 149, 1)) hk
theorem i30_23 {v0 v1 v3 : Value} {x : Int32} {st : List Value} {h : ab_Hp} {Q : ab_O → ab_Hp → Prop} : wp 30 23 [v0, v1, .int x, v3] st h Q = wp 30 24 [v0, v1, .int x, v3] (.int x :: st) h Q := wp_stp (ri := (.iload_n 2, 1, 0, 0, 0, 0)) (by decide +kernel) rfl rfl rfl
theorem i30_24 {v0 v1 v2 v3 : Value} {r : Nat} {x : Int32} {st : List Value} {h : ab_Hp} {Q : ab_O → ab_Hp → Prop} (hk : (3 ≤ (ab_sh h r).1 ∧ (ab_sh h r).1 ≤ 5) ∧ ab_in x (ab_sh h r).2 = true) : wp 30 24 [v0, v1, v2, v3] (.int x :: .ref r :: st) h Q = wp 30 25 [v0, v1, v2, v3] (va_rf (ab_hr h r x.toNatClampNeg) :: st) h Q := wp_aa (by decide +kernel : ab_cod 30 24 = some (.aaload, 1, 0, 0, 0, 0)) hk
theorem i30_25 {v0 v1 v2 v3 : Value} {w : Value} {st : List Value} {h : ab_Hp} {Q : ab_O → ab_Hp → Prop} (hv : ab_isA w = true) : wp 30 25 [v0, v1, v2, v3] (w :: st) h Q = wp 30 26 [v0, v1, ab_clr v2, w] st h Q := wp_astore_n (by decide +kernel : ab_cod 30 25 = some (.astore_n 3, 1, 0, 0, 0, 0)) hv
theorem i30_26 {v0 v1 v2 v3 : Value} {st : List Value} {h : ab_Hp} {Q : ab_O → ab_Hp → Prop} (hv : ab_isA v3 = true) : wp 30 26 [v0, v1, v2, v3] st h Q = wp 30 27 [v0, v1, v2, v3] (v3 :: st) h Q := wp_aload_n (by decide +kernel : ab_cod 30 26 = some (.aload_n 3, 1, 0, 0, 0, 0)) hv
theorem i30_27 {v0 v1 v2 v3 : Value} {o : Option Nat} {st : List Value} {h : ab_Hp} {Q : ab_O → ab_Hp → Prop} : wp 30 27 [v0, v1, v2, v3] (va_rf o :: st) h Q = if o = none then wp 30 49 [v0, v1, v2, v3] st h Q else wp 30 30 [v0, v1, v2, v3] st h Q := wp_ifnull (by decide +kernel : ab_cod 30 27 = some (.ifnull 22, 3, 49, 0, 0, 0)) o
theorem i30_27r {v0 v1 v2 v3 : Value} {r : Nat} {st : List Value} {h : ab_Hp} {Q : ab_O → ab_Hp → Prop} : wp 30 27 [v0, v1, v2, v3] (.ref r :: st) h Q = wp 30 30 [v0, v1, v2, v3] st h Q := wp_stp (ri := (.ifnull 22, 3, 49, 0, 0, 0)) (by decide +kernel) rfl rfl rfl
theorem i30_27n {v0 v1 v2 v3 : Value} {st : List Value} {h : ab_Hp} {Q : ab_O → ab_Hp → Prop} : wp 30 27 [v0, v1, v2, v3] (.null :: st) h Q = wp 30 49 [v0, v1, v2, v3] st h Q := wp_stp (ri := (.ifnull 22, 3, 49, 0, 0, 0)) (by decide +kernel) rfl rfl rfl
theorem i30_30 {v0 v1 v2 v3 : Value} {st : List Value} {h : ab_Hp} {Q : ab_O → ab_Hp → Prop} (hv : ab_isA v3 = true) : wp 30 30 [v0, v1, v2, v3] st h Q = wp 30 31 [v0, v1, v2, v3] (v3 :: st) h Q := wp_aload_n (by decide +kernel : ab_cod 30 30 = some (.aload_n 3, 1, 0, 0, 0, 0)) hv
theorem i30_31 {v0 v1 v2 v3 : Value} {r : Nat} {st : List Value} {h : ab_Hp} {Q : ab_O → ab_Hp → Prop} (hk : (ab_sh h r).1 = 13) : wp 30 31 [v0, v1, v2, v3] (.ref r :: st) h Q = wp 30 34 [v0, v1, v2, v3] (.int (ab_hi h r 2) :: st) h Q := wp_gf (by decide +kernel : ab_cod 30 31 = some (.getfield 117, 3, 3, 2, 128, 0)) hk
theorem i30_34 {v0 v2 v3 : Value} {x : Int32} {st : List Value} {h : ab_Hp} {Q : ab_O → ab_Hp → Prop} : wp 30 34 [v0, .int x, v2, v3] st h Q = wp 30 35 [v0, .int x, v2, v3] (.int x :: st) h Q := wp_stp (ri := (.iload_n 1, 1, 0, 0, 0, 0)) (by decide +kernel) rfl rfl rfl
theorem i30_35 {v0 v1 v2 v3 : Value} {x y : Int32} {st : List Value} {h : ab_Hp} {Q : ab_O → ab_Hp → Prop} : wp 30 35 [v0, v1, v2, v3] (.int y :: .int x :: st) h Q = if ¬ x = y then wp 30 49 [v0, v1, v2, v3] st h Q else wp 30 38 [v0, v1, v2, v3] st h Q := wp_icmpP (by decide +kernel : ab_cod 30 35 = some (.if_icmp .ne 14, 3, 49, 0, 0, 0)) rfl
theorem i30_38 {v0 v1 v2 v3 : Value} {st : List Value} {h : ab_Hp} {Q : ab_O → ab_Hp → Prop} (hv : ab_isA v3 = true) : wp 30 38 [v0, v1, v2, v3] st h Q = wp 30 39 [v0, v1, v2, v3] (v3 :: st) h Q := wp_aload_n (by decide +kernel : ab_cod 30 38 = some (.aload_n 3, 1, 0, 0, 0, 0)) hv
theorem i30_39 {v0 v1 v2 v3 : Value} {r : Nat} {st : List Value} {h : ab_Hp} {Q : ab_O → ab_Hp → Prop} (hk : (ab_sh h r).1 = 13) : wp 30 39 [v0, v1, v2, v3] (.ref r :: st) h Q = wp 30 42 [v0, v1, v2, v3] (va_rf (ab_hr h r 0) :: st) h Q := wp_gf (by decide +kernel : ab_cod 30 39 = some (.getfield 107, 3, 3, 0, 124, 1)) hk
theorem i30_42 {v0 v1 v2 v3 : Value} {st : List Value} {h : ab_Hp} {Q : ab_O → ab_Hp → Prop} (hv : ab_isA v3 = true) : wp 30 42 [v0, v1, v2, v3] st h Q = wp 30 43 [v0, v1, v2, v3] (v3 :: st) h Q := wp_aload_n (by decide +kernel : ab_cod 30 42 = some (.aload_n 3, 1, 0, 0, 0, 0)) hv
theorem i30_43 {v0 v1 v2 v3 : Value} {r : Nat} {st : List Value} {h : ab_Hp} {Q : ab_O → ab_Hp → Prop} (hk : (ab_sh h r).1 = 13) : wp 30 43 [v0, v1, v2, v3] (.ref r :: st) h Q = wp 30 46 [v0, v1, v2, v3] (.int (ab_hi h r 4) :: st) h Q := wp_gf (by decide +kernel : ab_cod 30 43 = some (.getfield 120, 3, 3, 4, 132, 0)) hk
theorem i30_46 {v0 v1 v2 v3 : Value} {r : Nat} {a0 : Int32} {st : List Value} {h : ab_Hp} {Q : ab_O → ab_Hp → Prop} (hl : st.length ≤ 4) (hk : (ab_sh h r).1 = 11) : wp 30 46 [v0, v1, v2, v3] (.int a0 :: .ref r :: st) h Q = wp 9 0 [.ref r, .int a0, ab_nov, ab_nov] [] h (ab_K 30 46 [v0, v1, v2, v3] st Q) := wp_callV (as := [.int a0]) (by decide +kernel : ab_cod 30 46 = some (.invokevirtual 123, 3, 9, 2, 0, 437)) rfl rfl rfl rfl hl hk
theorem i30_49 {v0 v1 v3 : Value} {x : Int32} {st : List Value} {h : ab_Hp} {Q : ab_O → ab_Hp → Prop} : wp 30 49 [v0, v1, .int x, v3] st h Q = wp 30 52 [v0, ab_clr v1, .int (x + nI 1), v3] st h Q := wp_stp (ri := (.iinc 2 1, 3, 0, 0, 0, 0)) (by decide +kernel) rfl rfl rfl
theorem i30_52 {v0 v1 v2 v3 : Value} {st : List Value} {h : ab_Hp} {Q : ab_O → ab_Hp → Prop} : wp 30 52 [v0, v1, v2, v3] st h Q = wp 30 2 [v0, v1, v2, v3] st h Q := wp_stp (ri := (.goto (-50), 3, 2, 0, 0, 0)) (by decide +kernel) rfl rfl rfl
theorem i30_55 {v0 v1 v2 v3 : Value} {h : ab_Hp} {Q : ab_O → ab_Hp → Prop} : wp 30 55 [v0, v1, v2, v3] [] h Q = Q (.inl none) h := wp_vret (by decide +kernel : ab_cod 30 55 = some (.return_, 1, 0, 0, 0, 0)) rfl
/-! 31: SeamBeats$State.take(LSeamBeats$Room;I)V -/
theorem i31_0 {v0 v1 v2 v3 v4 : Value} {st : List Value} {h : ab_Hp} {Q : ab_O → ab_Hp → Prop} (hv : ab_isA v1 = true) : wp 31 0 [v0, v1, v2, v3, v4] st h Q = wp 31 1 [v0, v1, v2, v3, v4] (v1 :: st) h Q := wp_aload_n (by decide +kernel : ab_cod 31 0 = some (.aload_n 1, 1, 0, 0, 0, 0)) hv
theorem i31_1 {v0 v1 v2 v3 v4 : Value} {r : Nat} {st : List Value} {h : ab_Hp} {Q : ab_O → ab_Hp → Prop} (hk : (ab_sh h r).1 = 12) : wp 31 1 [v0, v1, v2, v3, v4] (.ref r :: st) h Q = wp 31 4 [v0, v1, v2, v3, v4] (va_rf (ab_hr h r 0) :: st) h Q := wp_gf (by decide +kernel : ab_cod 31 1 = some (.getfield 56, 3, 2, 0, 69, 1)) hk
theorem i31_4 {v0 v1 v2 v3 v4 : Value} {r : Nat} {st : List Value} {h : ab_Hp} {Q : ab_O → ab_Hp → Prop} (hk : (ab_sh h r).1 = 11) : wp 31 4 [v0, v1, v2, v3, v4] (.ref r :: st) h Q = wp 31 7 [v0, v1, v2, v3, v4] (.int (ab_hi h r 1) :: st) h Q := wp_gf (by decide +kernel : ab_cod 31 4 = some (.getfield 60, 3, 1, 1, 61, 0)) hk
theorem i31_7 {v0 v1 v2 v3 v4 : Value} {st : List Value} {h : ab_Hp} {Q : ab_O → ab_Hp → Prop} : wp 31 7 [v0, v1, v2, v3, v4] st h Q = wp 31 9 [v0, v1, v2, v3, v4] (.int (nI 8) :: st) h Q := wp_stp (ri := (.bipush 8, 2, 0, 0, 0, 0)) (by decide +kernel) rfl rfl rfl
theorem i31_9 {v0 v1 v2 v3 v4 : Value} {x y : Int32} {st : List Value} {h : ab_Hp} {Q : ab_O → ab_Hp → Prop} : wp 31 9 [v0, v1, v2, v3, v4] (.int y :: .int x :: st) h Q = if x < y then wp 31 13 [v0, v1, v2, v3, v4] st h Q else wp 31 12 [v0, v1, v2, v3, v4] st h Q := wp_icmpP (by decide +kernel : ab_cod 31 9 = some (.if_icmp .lt 4, 3, 13, 0, 0, 0)) rfl
theorem i31_12 {v0 v1 v2 v3 v4 : Value} {h : ab_Hp} {Q : ab_O → ab_Hp → Prop} : wp 31 12 [v0, v1, v2, v3, v4] [] h Q = Q (.inl none) h := wp_vret (by decide +kernel : ab_cod 31 12 = some (.return_, 1, 0, 0, 0, 0)) rfl
theorem i31_13 {v0 v1 v2 v3 v4 : Value} {st : List Value} {h : ab_Hp} {Q : ab_O → ab_Hp → Prop} (hv : ab_isA v0 = true) : wp 31 13 [v0, v1, v2, v3, v4] st h Q = wp 31 14 [v0, v1, v2, v3, v4] (v0 :: st) h Q := wp_aload_n (by decide +kernel : ab_cod 31 13 = some (.aload_n 0, 1, 0, 0, 0, 0)) hv
theorem i31_14 {v0 v1 v3 v4 : Value} {x : Int32} {st : List Value} {h : ab_Hp} {Q : ab_O → ab_Hp → Prop} : wp 31 14 [v0, v1, .int x, v3, v4] st h Q = wp 31 15 [v0, v1, .int x, v3, v4] (.int x :: st) h Q := wp_stp (ri := (.iload_n 2, 1, 0, 0, 0, 0)) (by decide +kernel) rfl rfl rfl
theorem i31_15 {v0 v1 v2 v3 v4 : Value} {st : List Value} {h : ab_Hp} {Q : ab_O → ab_Hp → Prop} (hv : ab_isA v1 = true) : wp 31 15 [v0, v1, v2, v3, v4] st h Q = wp 31 16 [v0, v1, v2, v3, v4] (v1 :: st) h Q := wp_aload_n (by decide +kernel : ab_cod 31 15 = some (.aload_n 1, 1, 0, 0, 0, 0)) hv
theorem i31_16 {v0 v1 v2 v3 v4 : Value} {r : Nat} {st : List Value} {h : ab_Hp} {Q : ab_O → ab_Hp → Prop} (hk : (ab_sh h r).1 = 12) : wp 31 16 [v0, v1, v2, v3, v4] (.ref r :: st) h Q = wp 31 19 [v0, v1, v2, v3, v4] (.int (ab_hi h r 10) :: st) h Q := wp_gf (by decide +kernel : ab_cod 31 16 = some (.getfield 126, 3, 2, 10, 92, 0)) hk
theorem i31_19 {v0 v1 v2 v3 v4 : Value} {r : Nat} {a0 : Int32} {a1 : Int32} {st : List Value} {h : ab_Hp} {Q : ab_O → ab_Hp → Prop} (hl : st.length ≤ 4) (hk : (ab_sh h r).1 = 14) : wp 31 19 [v0, v1, v2, v3, v4] (.int a1 :: .int a0 :: .ref r :: st) h Q = wp 32 0 [.ref r, .int a0, .int a1, ab_nov, ab_nov, ab_nov] [] h (ab_K 31 19 [v0, v1, v2, v3, v4] st Q) := wp_callV (as := [.int a0, .int a1]) (by decide +kernel : ab_cod 31 19 = some (.invokevirtual 129, 3, 32, 3, 0, 445)) rfl rfl rfl rfl hl hk
theorem i31_22 {v0 v1 v2 v3 v4 : Value} {w : Int32} {st : List Value} {h : ab_Hp} {Q : ab_O → ab_Hp → Prop} : wp 31 22 [v0, v1, v2, v3, v4] (.int w :: st) h Q = wp 31 23 [v0, v1, ab_clr v2, .int w, v4] st h Q := wp_stp (ri := (.istore_n 3, 1, 0, 0, 0, 0)) (by decide +kernel) rfl rfl rfl
theorem i31_23 {v0 v1 v2 v3 v4 : Value} {st : List Value} {h : ab_Hp} {Q : ab_O → ab_Hp → Prop} (hv : ab_isA v0 = true) : wp 31 23 [v0, v1, v2, v3, v4] st h Q = wp 31 24 [v0, v1, v2, v3, v4] (v0 :: st) h Q := wp_aload_n (by decide +kernel : ab_cod 31 23 = some (.aload_n 0, 1, 0, 0, 0, 0)) hv
theorem i31_24 {v0 v1 v2 v4 : Value} {x : Int32} {st : List Value} {h : ab_Hp} {Q : ab_O → ab_Hp → Prop} : wp 31 24 [v0, v1, v2, .int x, v4] st h Q = wp 31 25 [v0, v1, v2, .int x, v4] (.int x :: st) h Q := wp_stp (ri := (.iload_n 3, 1, 0, 0, 0, 0)) (by decide +kernel) rfl rfl rfl
theorem i31_25 {v0 v1 v2 v3 v4 : Value} {r : Nat} {a0 : Int32} {st : List Value} {h : ab_Hp} {Q : ab_O → ab_Hp → Prop} (hl : st.length ≤ 4) (hk : (ab_sh h r).1 = 14) : wp 31 25 [v0, v1, v2, v3, v4] (.int a0 :: .ref r :: st) h Q = wp 23 0 [.ref r, .int a0] [] h (ab_K 31 25 [v0, v1, v2, v3, v4] st Q) := wp_callV (as := [.int a0]) (by decide +kernel : ab_cod 31 25 = some (.invokevirtual 41, 3, 23, 2, 0, 421)) rfl rfl rfl rfl hl hk
theorem i31_28 {v0 v1 v2 v3 v4 : Value} {w : Value} {st : List Value} {h : ab_Hp} {Q : ab_O → ab_Hp → Prop} (hv : ab_isA w = true) : wp 31 28 [v0, v1, v2, v3, v4] (w :: st) h Q = wp 31 30 [v0, v1, v2, ab_clr v3, w] st h Q := wp_astore (by decide +kernel : ab_cod 31 28 = some (.astore 4, 2, 0, 0, 0, 0)) hv
theorem i31_30 {v0 v1 v2 v3 v4 : Value} {st : List Value} {h : ab_Hp} {Q : ab_O → ab_Hp → Prop} (hv : ab_isA v4 = true) : wp 31 30 [v0, v1, v2, v3, v4] st h Q = wp 31 32 [v0, v1, v2, v3, v4] (v4 :: st) h Q := wp_aload (by decide +kernel : ab_cod 31 30 = some (.aload 4, 2, 0, 0, 0, 0)) hv
theorem i31_32 {v0 v1 v2 v3 v4 : Value} {o : Option Nat} {st : List Value} {h : ab_Hp} {Q : ab_O → ab_Hp → Prop} : wp 31 32 [v0, v1, v2, v3, v4] (va_rf o :: st) h Q = if o = none then wp 31 75 [v0, v1, v2, v3, v4] st h Q else wp 31 35 [v0, v1, v2, v3, v4] st h Q := wp_ifnull (by decide +kernel : ab_cod 31 32 = some (.ifnull 43, 3, 75, 0, 0, 0)) o
theorem i31_32r {v0 v1 v2 v3 v4 : Value} {r : Nat} {st : List Value} {h : ab_Hp} {Q : ab_O → ab_Hp → Prop} : wp 31 32 [v0, v1, v2, v3, v4] (.ref r :: st) h Q = wp 31 35 [v0, v1, v2, v3, v4] st h Q := wp_stp (ri := (.ifnull 43, 3, 75, 0, 0, 0)) (by decide +kernel) rfl rfl rfl
theorem i31_32n {v0 v1 v2 v3 v4 : Value} {st : List Value} {h : ab_Hp} {Q : ab_O → ab_Hp → Prop} : wp 31 32 [v0, v1, v2, v3, v4] (.null :: st) h Q = wp 31 75 [v0, v1, v2, v3, v4] st h Q := wp_stp (ri := (.ifnull 43, 3, 75, 0, 0, 0)) (by decide +kernel) rfl rfl rfl
theorem i31_35 {v0 v1 v2 v3 v4 : Value} {st : List Value} {h : ab_Hp} {Q : ab_O → ab_Hp → Prop} (hv : ab_isA v1 = true) : wp 31 35 [v0, v1, v2, v3, v4] st h Q = wp 31 36 [v0, v1, v2, v3, v4] (v1 :: st) h Q := wp_aload_n (by decide +kernel : ab_cod 31 35 = some (.aload_n 1, 1, 0, 0, 0, 0)) hv
theorem i31_36 {v0 v1 v2 v3 v4 : Value} {r : Nat} {st : List Value} {h : ab_Hp} {Q : ab_O → ab_Hp → Prop} (hk : (ab_sh h r).1 = 12) : wp 31 36 [v0, v1, v2, v3, v4] (.ref r :: st) h Q = wp 31 39 [v0, v1, v2, v3, v4] (va_rf (ab_hr h r 0) :: st) h Q := wp_gf (by decide +kernel : ab_cod 31 36 = some (.getfield 56, 3, 2, 0, 69, 1)) hk
theorem i31_39 {v0 v1 v2 v3 v4 : Value} {st : List Value} {h : ab_Hp} {Q : ab_O → ab_Hp → Prop} (hv : ab_isA v4 = true) : wp 31 39 [v0, v1, v2, v3, v4] st h Q = wp 31 41 [v0, v1, v2, v3, v4] (v4 :: st) h Q := wp_aload (by decide +kernel : ab_cod 31 39 = some (.aload 4, 2, 0, 0, 0, 0)) hv
theorem i31_41 {v0 v1 v2 v3 v4 : Value} {r : Nat} {st : List Value} {h : ab_Hp} {Q : ab_O → ab_Hp → Prop} (hk : (ab_sh h r).1 = 13) : wp 31 41 [v0, v1, v2, v3, v4] (.ref r :: st) h Q = wp 31 44 [v0, v1, v2, v3, v4] (va_rf (ab_hr h r 0) :: st) h Q := wp_gf (by decide +kernel : ab_cod 31 41 = some (.getfield 107, 3, 3, 0, 124, 1)) hk
theorem i31_44 {v0 v1 v2 v3 v4 : Value} {st : List Value} {h : ab_Hp} {Q : ab_O → ab_Hp → Prop} : wp 31 44 [v0, v1, v2, v3, v4] st h Q = wp 31 45 [v0, v1, v2, v3, v4] (.int (nI 0) :: st) h Q := wp_stp (ri := (.iconst 0, 1, 0, 0, 0, 0)) (by decide +kernel) rfl rfl rfl
theorem i31_45 {v0 v1 v2 v3 v4 : Value} {st : List Value} {h : ab_Hp} {Q : ab_O → ab_Hp → Prop} : wp 31 45 [v0, v1, v2, v3, v4] st h Q = wp 31 46 [v0, v1, v2, v3, v4] (.int (nI 0) :: st) h Q := wp_stp (ri := (.iconst 0, 1, 0, 0, 0, 0)) (by decide +kernel) rfl rfl rfl
theorem i31_46 {v0 v1 v2 v3 v4 : Value} {r : Nat} {a0 : Int32} {a1 : Int32} {st : List Value} {h : ab_Hp} {Q : ab_O → ab_Hp → Prop} (hl : st.length ≤ 4) (hk : (ab_sh h r).1 = 11) : wp 31 46 [v0, v1, v2, v3, v4] (.int a1 :: .int a0 :: .ref r :: st) h Q = wp 6 0 [.ref r, .int a0, .int a1, ab_nov] [] h (ab_K 31 46 [v0, v1, v2, v3, v4] st Q) := wp_callV (as := [.int a0, .int a1]) (by decide +kernel : ab_cod 31 46 = some (.invokevirtual 94, 3, 6, 3, 0, 417)) rfl rfl rfl rfl hl hk
theorem i31_49 {v0 v1 v2 v3 v4 : Value} {st : List Value} {h : ab_Hp} {Q : ab_O → ab_Hp → Prop} (hv : ab_isA v4 = true) : wp 31 49 [v0, v1, v2, v3, v4] st h Q = wp 31 51 [v0, v1, v2, v3, v4] (v4 :: st) h Q := wp_aload (by decide +kernel : ab_cod 31 49 = some (.aload 4, 2, 0, 0, 0, 0)) hv
theorem i31_51 {v0 v1 v2 v3 v4 : Value} {r : Nat} {st : List Value} {h : ab_Hp} {Q : ab_O → ab_Hp → Prop} (hk : (ab_sh h r).1 = 13) : wp 31 51 [v0, v1, v2, v3, v4] (.ref r :: st) h Q = wp 31 54 [v0, v1, v2, v3, v4] (va_rf (ab_hr h r 0) :: st) h Q := wp_gf (by decide +kernel : ab_cod 31 51 = some (.getfield 107, 3, 3, 0, 124, 1)) hk
theorem i31_54 {v0 v1 v2 v3 v4 : Value} {st : List Value} {h : ab_Hp} {Q : ab_O → ab_Hp → Prop} : wp 31 54 [v0, v1, v2, v3, v4] st h Q = wp 31 55 [v0, v1, v2, v3, v4] (.int (nI 0) :: st) h Q := wp_stp (ri := (.iconst 0, 1, 0, 0, 0, 0)) (by decide +kernel) rfl rfl rfl
theorem i31_55 {v0 v1 v2 v3 v4 : Value} {st : List Value} {h : ab_Hp} {Q : ab_O → ab_Hp → Prop} : wp 31 55 [v0, v1, v2, v3, v4] st h Q = wp 31 56 [v0, v1, v2, v3, v4] (.int (nI 1) :: st) h Q := wp_stp (ri := (.iconst 1, 1, 0, 0, 0, 0)) (by decide +kernel) rfl rfl rfl
theorem i31_56 {v0 v1 v2 v3 v4 : Value} {r : Nat} {a0 : Int32} {a1 : Int32} {st : List Value} {h : ab_Hp} {Q : ab_O → ab_Hp → Prop} (hl : st.length ≤ 4) (hk : (ab_sh h r).1 = 11) : wp 31 56 [v0, v1, v2, v3, v4] (.int a1 :: .int a0 :: .ref r :: st) h Q = wp 6 0 [.ref r, .int a0, .int a1, ab_nov] [] h (ab_K 31 56 [v0, v1, v2, v3, v4] st Q) := wp_callV (as := [.int a0, .int a1]) (by decide +kernel : ab_cod 31 56 = some (.invokevirtual 94, 3, 6, 3, 0, 417)) rfl rfl rfl rfl hl hk
theorem i31_59 {v0 v1 v2 v3 v4 : Value} {r : Nat} {a0 : Int32} {a1 : Int32} {st : List Value} {h : ab_Hp} {Q : ab_O → ab_Hp → Prop} (hl : st.length ≤ 4) (hk : (ab_sh h r).1 = 11) : wp 31 59 [v0, v1, v2, v3, v4] (.int a1 :: .int a0 :: .ref r :: st) h Q = wp 7 0 [.ref r, .int a0, .int a1, ab_nov] [] h (ab_K 31 59 [v0, v1, v2, v3, v4] st Q) := wp_callV (as := [.int a0, .int a1]) (by decide +kernel : ab_cod 31 59 = some (.invokevirtual 65, 3, 7, 3, 0, 429)) rfl rfl rfl rfl hl hk
theorem i31_62 {v0 v1 v2 v3 v4 : Value} {st : List Value} {h : ab_Hp} {Q : ab_O → ab_Hp → Prop} (hv : ab_isA v4 = true) : wp 31 62 [v0, v1, v2, v3, v4] st h Q = wp 31 64 [v0, v1, v2, v3, v4] (v4 :: st) h Q := wp_aload (by decide +kernel : ab_cod 31 62 = some (.aload 4, 2, 0, 0, 0, 0)) hv
theorem i31_64 {v0 v1 v2 v3 v4 : Value} {r : Nat} {st : List Value} {h : ab_Hp} {Q : ab_O → ab_Hp → Prop} (hk : (ab_sh h r).1 = 13) : wp 31 64 [v0, v1, v2, v3, v4] (.ref r :: st) h Q = wp 31 67 [v0, v1, v2, v3, v4] (va_rf (ab_hr h r 0) :: st) h Q := wp_gf (by decide +kernel : ab_cod 31 64 = some (.getfield 107, 3, 3, 0, 124, 1)) hk
theorem i31_67 {v0 v1 v2 v3 v4 : Value} {r : Nat} {st : List Value} {h : ab_Hp} {Q : ab_O → ab_Hp → Prop} (hl : st.length ≤ 4) (hk : (ab_sh h r).1 = 11) : wp 31 67 [v0, v1, v2, v3, v4] (.ref r :: st) h Q = wp 8 0 [.ref r, ab_nov, ab_nov] [] h (ab_K 31 67 [v0, v1, v2, v3, v4] st Q) := wp_callV (as := []) (by decide +kernel : ab_cod 31 67 = some (.invokevirtual 98, 3, 8, 1, 0, 425)) rfl rfl rfl rfl hl hk
theorem i31_70 {v0 v1 v2 v3 v4 : Value} {st : List Value} {h : ab_Hp} {Q : ab_O → ab_Hp → Prop} (hv : ab_isA v1 = true) : wp 31 70 [v0, v1, v2, v3, v4] st h Q = wp 31 71 [v0, v1, v2, v3, v4] (v1 :: st) h Q := wp_aload_n (by decide +kernel : ab_cod 31 70 = some (.aload_n 1, 1, 0, 0, 0, 0)) hv
theorem i31_71 {v0 v1 v2 v4 : Value} {x : Int32} {st : List Value} {h : ab_Hp} {Q : ab_O → ab_Hp → Prop} : wp 31 71 [v0, v1, v2, .int x, v4] st h Q = wp 31 72 [v0, v1, v2, .int x, v4] (.int x :: st) h Q := wp_stp (ri := (.iload_n 3, 1, 0, 0, 0, 0)) (by decide +kernel) rfl rfl rfl
theorem i31_72 {v0 v1 v2 v3 v4 : Value} {r : Nat} {x : Int32} {st : List Value} {h : ab_Hp} {Q : ab_O → ab_Hp → Prop} (hk : (ab_sh h r).1 = 12) : wp 31 72 [v0, v1, v2, v3, v4] (.int x :: .ref r :: st) h Q = wp 31 75 [v0, v1, v2, v3, v4] st (ab_setI h (ab_u (ab_hi h) r 10 x)) Q := wp_pf (by decide +kernel : ab_cod 31 72 = some (.putfield 126, 3, 2, 10, 92, 0)) hk rfl
theorem i31_75 {v0 v1 v2 v3 v4 : Value} {h : ab_Hp} {Q : ab_O → ab_Hp → Prop} : wp 31 75 [v0, v1, v2, v3, v4] [] h Q = Q (.inl none) h := wp_vret (by decide +kernel : ab_cod 31 75 = some (.return_, 1, 0, 0, 0, 0)) rfl
/-! 32: SeamBeats$State.nextSeamInto(II)I -/
set_option maxRecDepth 100000 in
theorem i32_0 {v0 v1 v2 v3 v4 v5 : Value} {st : List Value} {h : ab_Hp} {Q : ab_O → ab_Hp → Prop} : wp 32 0 [v0, v1, v2, v3, v4, v5] st h Q = wp 32 1 [v0, v1, v2, v3, v4, v5] (.int ((-1)) :: st) h Q := wp_stp (ri := (.iconst (-1), 1, 0, 0, 0, 0)) (by decide +kernel) rfl rfl rfl
set_option maxRecDepth 100000 in
theorem i32_1 {v0 v1 v2 v3 v4 v5 : Value} {w : Int32} {st : List Value} {h : ab_Hp} {Q : ab_O → ab_Hp → Prop} : wp 32 1 [v0, v1, v2, v3, v4, v5] (.int w :: st) h Q = wp 32 2 [v0, v1, ab_clr v2, .int w, v4, v5] st h Q := wp_stp (ri := (.istore_n 3, 1, 0, 0, 0, 0)) (by decide +kernel) rfl rfl rfl
set_option maxRecDepth 100000 in
theorem i32_2 {v0 v1 v2 v3 v4 v5 : Value} {st : List Value} {h : ab_Hp} {Q : ab_O → ab_Hp → Prop} : wp 32 2 [v0, v1, v2, v3, v4, v5] st h Q = wp 32 3 [v0, v1, v2, v3, v4, v5] (.int (nI 0) :: st) h Q := wp_stp (ri := (.iconst 0, 1, 0, 0, 0, 0)) (by decide +kernel) rfl rfl rfl
set_option maxRecDepth 100000 in
theorem i32_3 {v0 v1 v2 v3 v4 v5 : Value} {w : Int32} {st : List Value} {h : ab_Hp} {Q : ab_O → ab_Hp → Prop} : wp 32 3 [v0, v1, v2, v3, v4, v5] (.int w :: st) h Q = wp 32 5 [v0, v1, v2, ab_clr v3, .int w, v5] st h Q := wp_stp (ri := (.istore 4, 2, 0, 0, 0, 0)) (by decide +kernel) rfl rfl rfl
set_option maxRecDepth 100000 in
theorem i32_5 {v0 v1 v2 v3 v5 : Value} {x : Int32} {st : List Value} {h : ab_Hp} {Q : ab_O → ab_Hp → Prop} : wp 32 5 [v0, v1, v2, v3, .int x, v5] st h Q = wp 32 7 [v0, v1, v2, v3, .int x, v5] (.int x :: st) h Q := wp_stp (ri := (.iload 4, 2, 0, 0, 0, 0)) (by decide +kernel) rfl rfl rfl
set_option maxRecDepth 100000 in
theorem i32_7 {v0 v1 v2 v3 v4 v5 : Value} {st : List Value} {h : ab_Hp} {Q : ab_O → ab_Hp → Prop} (hv : ab_isA v0 = true) : wp 32 7 [v0, v1, v2, v3, v4, v5] st h Q = wp 32 8 [v0, v1, v2, v3, v4, v5] (v0 :: st) h Q := wp_aload_n (by decide +kernel : ab_cod 32 7 = some (.aload_n 0, 1, 0, 0, 0, 0)) hv
set_option maxRecDepth 100000 in
theorem i32_8 {v0 v1 v2 v3 v4 v5 : Value} {r : Nat} {st : List Value} {h : ab_Hp} {Q : ab_O → ab_Hp → Prop} (hk : (ab_sh h r).1 = 14) : wp 32 8 [v0, v1, v2, v3, v4, v5] (.ref r :: st) h Q = wp 32 11 [v0, v1, v2, v3, v4, v5] (.int (ab_hi h r 2) :: st) h Q := wp_gf (by decide +kernel : ab_cod 32 8 = some (.getfield 23, 3, 4, 2, 150, 0)) hk
set_option maxRecDepth 100000 in
theorem i32_11 {v0 v1 v2 v3 v4 v5 : Value} {x y : Int32} {st : List Value} {h : ab_Hp} {Q : ab_O → ab_Hp → Prop} : wp 32 11 [v0, v1, v2, v3, v4, v5] (.int y :: .int x :: st) h Q = if y ≤ x then wp 32 88 [v0, v1, v2, v3, v4, v5] st h Q else wp 32 14 [v0, v1, v2, v3, v4, v5] st h Q := wp_icmpP (by decide +kernel : ab_cod 32 11 = some (.if_icmp .ge 77, 3, 88, 0, 0, 0)) rfl
set_option maxRecDepth 100000 in
theorem i32_14 {v0 v1 v2 v3 v5 : Value} {x : Int32} {st : List Value} {h : ab_Hp} {Q : ab_O → ab_Hp → Prop} : wp 32 14 [v0, v1, v2, v3, .int x, v5] st h Q = wp 32 16 [v0, v1, v2, v3, .int x, v5] (.int x :: st) h Q := wp_stp (ri := (.iload 4, 2, 0, 0, 0, 0)) (by decide +kernel) rfl rfl rfl
set_option maxRecDepth 100000 in
theorem i32_16 {v0 v1 v2 v3 v4 v5 : Value} {st : List Value} {h : ab_Hp} {Q : ab_O → ab_Hp → Prop} (hv : ab_isA v0 = true) : wp 32 16 [v0, v1, v2, v3, v4, v5] st h Q = wp 32 17 [v0, v1, v2, v3, v4, v5] (v0 :: st) h Q := wp_aload_n (by decide +kernel : ab_cod 32 16 = some (.aload_n 0, 1, 0, 0, 0, 0)) hv
set_option maxRecDepth 100000 in
theorem i32_17 {v0 v1 v2 v3 v4 v5 : Value} {r : Nat} {st : List Value} {h : ab_Hp} {Q : ab_O → ab_Hp → Prop} (hk : (ab_sh h r).1 = 14) : wp 32 17 [v0, v1, v2, v3, v4, v5] (.ref r :: st) h Q = wp 32 20 [v0, v1, v2, v3, v4, v5] (va_rf (ab_hr h r 1) :: st) h Q := wp_gf (by decide +kernel : ab_cod 32 17 = some (.getfield 19, 3, 4, 1, 149, 1)) hk
set_option maxRecDepth 100000 in
theorem i32_20 {v0 v1 v2 v3 v4 v5 : Value} {r : Nat} {st : List Value} {h : ab_Hp} {Q : ab_O → ab_Hp → Prop} (hk : 1 ≤ (ab_sh h r).1 ∧ (ab_sh h r).1 ≤ 6) : wp 32 20 [v0, v1, v2, v3, v4, v5] (.ref r :: st) h Q = wp 32 21 [v0, v1, v2, v3, v4, v5] (.int (nI (ab_sh h r).2) :: st) h Q := wp_al (by decide +kernel : ab_cod 32 20 = some (.arraylength, 1, 0, 0, 0, 0)) hk
set_option maxRecDepth 100000 in
theorem i32_21 {v0 v1 v2 v3 v4 v5 : Value} {x y : Int32} {st : List Value} {h : ab_Hp} {Q : ab_O → ab_Hp → Prop} : wp 32 21 [v0, v1, v2, v3, v4, v5] (.int y :: .int x :: st) h Q = if y ≤ x then wp 32 88 [v0, v1, v2, v3, v4, v5] st h Q else wp 32 24 [v0, v1, v2, v3, v4, v5] st h Q := wp_icmpP (by decide +kernel : ab_cod 32 21 = some (.if_icmp .ge 67, 3, 88, 0, 0, 0)) rfl
set_option maxRecDepth 100000 in
theorem i32_24 {v0 v1 v2 v3 v4 v5 : Value} {st : List Value} {h : ab_Hp} {Q : ab_O → ab_Hp → Prop} (hv : ab_isA v0 = true) : wp 32 24 [v0, v1, v2, v3, v4, v5] st h Q = wp 32 25 [v0, v1, v2, v3, v4, v5] (v0 :: st) h Q := wp_aload_n (by decide +kernel : ab_cod 32 24 = some (.aload_n 0, 1, 0, 0, 0, 0)) hv
set_option maxRecDepth 100000 in
theorem i32_25 {v0 v1 v2 v3 v4 v5 : Value} {r : Nat} {st : List Value} {h : ab_Hp} {Q : ab_O → ab_Hp → Prop} (hk : (ab_sh h r).1 = 14) : wp 32 25 [v0, v1, v2, v3, v4, v5] (.ref r :: st) h Q = wp 32 28 [v0, v1, v2, v3, v4, v5] (va_rf (ab_hr h r 1) :: st) h Q := wp_gf (by decide +kernel : ab_cod 32 25 = some (.getfield 19, 3, 4, 1, 149, 1)) hk
set_option maxRecDepth 100000 in
theorem i32_28 {v0 v1 v2 v3 v5 : Value} {x : Int32} {st : List Value} {h : ab_Hp} {Q : ab_O → ab_Hp → Prop} : wp 32 28 [v0, v1, v2, v3, .int x, v5] st h Q = wp 32 30 [v0, v1, v2, v3, .int x, v5] (.int x :: st) h Q := wp_stp (ri := (.iload 4, 2, 0, 0, 0, 0)) (by decide +kernel) rfl rfl rfl
set_option maxRecDepth 100000 in
theorem i32_30 {v0 v1 v2 v3 v4 v5 : Value} {r : Nat} {x : Int32} {st : List Value} {h : ab_Hp} {Q : ab_O → ab_Hp → Prop} (hk : (3 ≤ (ab_sh h r).1 ∧ (ab_sh h r).1 ≤ 5) ∧ ab_in x (ab_sh h r).2 = true) : wp 32 30 [v0, v1, v2, v3, v4, v5] (.int x :: .ref r :: st) h Q = wp 32 31 [v0, v1, v2, v3, v4, v5] (va_rf (ab_hr h r x.toNatClampNeg) :: st) h Q := wp_aa (by decide +kernel : ab_cod 32 30 = some (.aaload, 1, 0, 0, 0, 0)) hk
set_option maxRecDepth 100000 in
theorem i32_31 {v0 v1 v2 v3 v4 v5 : Value} {w : Value} {st : List Value} {h : ab_Hp} {Q : ab_O → ab_Hp → Prop} (hv : ab_isA w = true) : wp 32 31 [v0, v1, v2, v3, v4, v5] (w :: st) h Q = wp 32 33 [v0, v1, v2, v3, ab_clr v4, w] st h Q := wp_astore (by decide +kernel : ab_cod 32 31 = some (.astore 5, 2, 0, 0, 0, 0)) hv
set_option maxRecDepth 100000 in
theorem i32_33 {v0 v1 v2 v3 v4 v5 : Value} {st : List Value} {h : ab_Hp} {Q : ab_O → ab_Hp → Prop} (hv : ab_isA v5 = true) : wp 32 33 [v0, v1, v2, v3, v4, v5] st h Q = wp 32 35 [v0, v1, v2, v3, v4, v5] (v5 :: st) h Q := wp_aload (by decide +kernel : ab_cod 32 33 = some (.aload 5, 2, 0, 0, 0, 0)) hv
set_option maxRecDepth 100000 in
theorem i32_35 {v0 v1 v2 v3 v4 v5 : Value} {o : Option Nat} {st : List Value} {h : ab_Hp} {Q : ab_O → ab_Hp → Prop} : wp 32 35 [v0, v1, v2, v3, v4, v5] (va_rf o :: st) h Q = if o = none then wp 32 82 [v0, v1, v2, v3, v4, v5] st h Q else wp 32 38 [v0, v1, v2, v3, v4, v5] st h Q := wp_ifnull (by decide +kernel : ab_cod 32 35 = some (.ifnull 47, 3, 82, 0, 0, 0)) o
set_option maxRecDepth 100000 in
theorem i32_35r {v0 v1 v2 v3 v4 v5 : Value} {r : Nat} {st : List Value} {h : ab_Hp} {Q : ab_O → ab_Hp → Prop} : wp 32 35 [v0, v1, v2, v3, v4, v5] (.ref r :: st) h Q = wp 32 38 [v0, v1, v2, v3, v4, v5] st h Q := wp_stp (ri := (.ifnull 47, 3, 82, 0, 0, 0)) (by decide +kernel) rfl rfl rfl
set_option maxRecDepth 100000 in
theorem i32_35n {v0 v1 v2 v3 v4 v5 : Value} {st : List Value} {h : ab_Hp} {Q : ab_O → ab_Hp → Prop} : wp 32 35 [v0, v1, v2, v3, v4, v5] (.null :: st) h Q = wp 32 82 [v0, v1, v2, v3, v4, v5] st h Q := wp_stp (ri := (.ifnull 47, 3, 82, 0, 0, 0)) (by decide +kernel) rfl rfl rfl
set_option maxRecDepth 100000 in
theorem i32_38 {v0 v1 v2 v3 v4 v5 : Value} {st : List Value} {h : ab_Hp} {Q : ab_O → ab_Hp → Prop} (hv : ab_isA v5 = true) : wp 32 38 [v0, v1, v2, v3, v4, v5] st h Q = wp 32 40 [v0, v1, v2, v3, v4, v5] (v5 :: st) h Q := wp_aload (by decide +kernel : ab_cod 32 38 = some (.aload 5, 2, 0, 0, 0, 0)) hv
set_option maxRecDepth 100000 in
theorem i32_40 {v0 v1 v2 v3 v4 v5 : Value} {r : Nat} {st : List Value} {h : ab_Hp} {Q : ab_O → ab_Hp → Prop} (hk : (ab_sh h r).1 = 13) : wp 32 40 [v0, v1, v2, v3, v4, v5] (.ref r :: st) h Q = wp 32 43 [v0, v1, v2, v3, v4, v5] (.int (ab_hi h r 2) :: st) h Q := wp_gf (by decide +kernel : ab_cod 32 40 = some (.getfield 117, 3, 3, 2, 128, 0)) hk
set_option maxRecDepth 100000 in
theorem i32_43 {v0 v2 v3 v4 v5 : Value} {x : Int32} {st : List Value} {h : ab_Hp} {Q : ab_O → ab_Hp → Prop} : wp 32 43 [v0, .int x, v2, v3, v4, v5] st h Q = wp 32 44 [v0, .int x, v2, v3, v4, v5] (.int x :: st) h Q := wp_stp (ri := (.iload_n 1, 1, 0, 0, 0, 0)) (by decide +kernel) rfl rfl rfl
set_option maxRecDepth 100000 in
theorem i32_44 {v0 v1 v2 v3 v4 v5 : Value} {x y : Int32} {st : List Value} {h : ab_Hp} {Q : ab_O → ab_Hp → Prop} : wp 32 44 [v0, v1, v2, v3, v4, v5] (.int y :: .int x :: st) h Q = if ¬ x = y then wp 32 82 [v0, v1, v2, v3, v4, v5] st h Q else wp 32 47 [v0, v1, v2, v3, v4, v5] st h Q := wp_icmpP (by decide +kernel : ab_cod 32 44 = some (.if_icmp .ne 38, 3, 82, 0, 0, 0)) rfl
set_option maxRecDepth 100000 in
theorem i32_47 {v0 v1 v2 v3 v4 v5 : Value} {st : List Value} {h : ab_Hp} {Q : ab_O → ab_Hp → Prop} (hv : ab_isA v5 = true) : wp 32 47 [v0, v1, v2, v3, v4, v5] st h Q = wp 32 49 [v0, v1, v2, v3, v4, v5] (v5 :: st) h Q := wp_aload (by decide +kernel : ab_cod 32 47 = some (.aload 5, 2, 0, 0, 0, 0)) hv
set_option maxRecDepth 100000 in
theorem i32_49 {v0 v1 v2 v3 v4 v5 : Value} {r : Nat} {st : List Value} {h : ab_Hp} {Q : ab_O → ab_Hp → Prop} (hk : (ab_sh h r).1 = 13) : wp 32 49 [v0, v1, v2, v3, v4, v5] (.ref r :: st) h Q = wp 32 52 [v0, v1, v2, v3, v4, v5] (va_rf (ab_hr h r 0) :: st) h Q := wp_gf (by decide +kernel : ab_cod 32 49 = some (.getfield 107, 3, 3, 0, 124, 1)) hk
set_option maxRecDepth 100000 in
theorem i32_52 {v0 v1 v2 v3 v4 v5 : Value} {st : List Value} {h : ab_Hp} {Q : ab_O → ab_Hp → Prop} : wp 32 52 [v0, v1, v2, v3, v4, v5] st h Q = wp 32 53 [v0, v1, v2, v3, v4, v5] (.int (nI 0) :: st) h Q := wp_stp (ri := (.iconst 0, 1, 0, 0, 0, 0)) (by decide +kernel) rfl rfl rfl
set_option maxRecDepth 100000 in
theorem i32_53 {v0 v1 v2 v3 v4 v5 : Value} {st : List Value} {h : ab_Hp} {Q : ab_O → ab_Hp → Prop} : wp 32 53 [v0, v1, v2, v3, v4, v5] st h Q = wp 32 54 [v0, v1, v2, v3, v4, v5] (.int (nI 2) :: st) h Q := wp_stp (ri := (.iconst 2, 1, 0, 0, 0, 0)) (by decide +kernel) rfl rfl rfl
set_option maxRecDepth 100000 in
theorem i32_54 {v0 v1 v2 v3 v4 v5 : Value} {r : Nat} {a0 : Int32} {a1 : Int32} {st : List Value} {h : ab_Hp} {Q : ab_O → ab_Hp → Prop} (hl : st.length ≤ 4) (hk : (ab_sh h r).1 = 11) : wp 32 54 [v0, v1, v2, v3, v4, v5] (.int a1 :: .int a0 :: .ref r :: st) h Q = wp 6 0 [.ref r, .int a0, .int a1, ab_nov] [] h (ab_K 32 54 [v0, v1, v2, v3, v4, v5] st Q) := wp_callV (as := [.int a0, .int a1]) (by decide +kernel : ab_cod 32 54 = some (.invokevirtual 94, 3, 6, 3, 0, 417)) rfl rfl rfl rfl hl hk
set_option maxRecDepth 100000 in
theorem i32_57 {v0 v1 v2 v3 v4 v5 : Value} {st : List Value} {h : ab_Hp} {Q : ab_O → ab_Hp → Prop} (hv : ab_isA v5 = true) : wp 32 57 [v0, v1, v2, v3, v4, v5] st h Q = wp 32 59 [v0, v1, v2, v3, v4, v5] (v5 :: st) h Q := wp_aload (by decide +kernel : ab_cod 32 57 = some (.aload 5, 2, 0, 0, 0, 0)) hv
set_option maxRecDepth 100000 in
theorem i32_59 {v0 v1 v2 v3 v4 v5 : Value} {r : Nat} {st : List Value} {h : ab_Hp} {Q : ab_O → ab_Hp → Prop} (hk : (ab_sh h r).1 = 13) : wp 32 59 [v0, v1, v2, v3, v4, v5] (.ref r :: st) h Q = wp 32 62 [v0, v1, v2, v3, v4, v5] (.int (ab_hi h r 4) :: st) h Q := wp_gf (by decide +kernel : ab_cod 32 59 = some (.getfield 120, 3, 3, 4, 132, 0)) hk
set_option maxRecDepth 100000 in
theorem i32_62 {v0 v1 v2 v3 v4 v5 : Value} {x y : Int32} {st : List Value} {h : ab_Hp} {Q : ab_O → ab_Hp → Prop} : wp 32 62 [v0, v1, v2, v3, v4, v5] (.int y :: .int x :: st) h Q = if ¬ x = y then wp 32 82 [v0, v1, v2, v3, v4, v5] st h Q else wp 32 65 [v0, v1, v2, v3, v4, v5] st h Q := wp_icmpP (by decide +kernel : ab_cod 32 62 = some (.if_icmp .ne 20, 3, 82, 0, 0, 0)) rfl
set_option maxRecDepth 100000 in
theorem i32_65 {v0 v1 v2 v3 v5 : Value} {x : Int32} {st : List Value} {h : ab_Hp} {Q : ab_O → ab_Hp → Prop} : wp 32 65 [v0, v1, v2, v3, .int x, v5] st h Q = wp 32 67 [v0, v1, v2, v3, .int x, v5] (.int x :: st) h Q := wp_stp (ri := (.iload 4, 2, 0, 0, 0, 0)) (by decide +kernel) rfl rfl rfl
set_option maxRecDepth 100000 in
theorem i32_67 {v0 v1 v3 v4 v5 : Value} {x : Int32} {st : List Value} {h : ab_Hp} {Q : ab_O → ab_Hp → Prop} : wp 32 67 [v0, v1, .int x, v3, v4, v5] st h Q = wp 32 68 [v0, v1, .int x, v3, v4, v5] (.int x :: st) h Q := wp_stp (ri := (.iload_n 2, 1, 0, 0, 0, 0)) (by decide +kernel) rfl rfl rfl
set_option maxRecDepth 100000 in
theorem i32_68 {v0 v1 v2 v3 v4 v5 : Value} {x y : Int32} {st : List Value} {h : ab_Hp} {Q : ab_O → ab_Hp → Prop} : wp 32 68 [v0, v1, v2, v3, v4, v5] (.int y :: .int x :: st) h Q = if x ≤ y then wp 32 74 [v0, v1, v2, v3, v4, v5] st h Q else wp 32 71 [v0, v1, v2, v3, v4, v5] st h Q := wp_icmpP (by decide +kernel : ab_cod 32 68 = some (.if_icmp .le 6, 3, 74, 0, 0, 0)) rfl
set_option maxRecDepth 100000 in
theorem i32_71 {v0 v1 v2 v3 v5 : Value} {x : Int32} {st : List Value} {h : ab_Hp} {Q : ab_O → ab_Hp → Prop} : wp 32 71 [v0, v1, v2, v3, .int x, v5] st h Q = wp 32 73 [v0, v1, v2, v3, .int x, v5] (.int x :: st) h Q := wp_stp (ri := (.iload 4, 2, 0, 0, 0, 0)) (by decide +kernel) rfl rfl rfl
set_option maxRecDepth 100000 in
theorem i32_73 {v0 v1 v2 v3 v4 v5 : Value} {x : Int32} {h : ab_Hp} {Q : ab_O → ab_Hp → Prop} : wp 32 73 [v0, v1, v2, v3, v4, v5] [.int x] h Q = Q (.inl (some (.int x))) h := wp_iret (by decide +kernel : ab_cod 32 73 = some (.ireturn, 1, 0, 0, 0, 0)) rfl
set_option maxRecDepth 100000 in
theorem i32_74 {v0 v1 v2 v4 v5 : Value} {x : Int32} {st : List Value} {h : ab_Hp} {Q : ab_O → ab_Hp → Prop} : wp 32 74 [v0, v1, v2, .int x, v4, v5] st h Q = wp 32 75 [v0, v1, v2, .int x, v4, v5] (.int x :: st) h Q := wp_stp (ri := (.iload_n 3, 1, 0, 0, 0, 0)) (by decide +kernel) rfl rfl rfl
set_option maxRecDepth 100000 in
theorem i32_75 {v0 v1 v2 v3 v4 v5 : Value} {st : List Value} {h : ab_Hp} {Q : ab_O → ab_Hp → Prop} : wp 32 75 [v0, v1, v2, v3, v4, v5] st h Q = wp 32 76 [v0, v1, v2, v3, v4, v5] (.int ((-1)) :: st) h Q := wp_stp (ri := (.iconst (-1), 1, 0, 0, 0, 0)) (by decide +kernel) rfl rfl rfl
set_option maxRecDepth 100000 in
theorem i32_76 {v0 v1 v2 v3 v4 v5 : Value} {x y : Int32} {st : List Value} {h : ab_Hp} {Q : ab_O → ab_Hp → Prop} : wp 32 76 [v0, v1, v2, v3, v4, v5] (.int y :: .int x :: st) h Q = if ¬ x = y then wp 32 82 [v0, v1, v2, v3, v4, v5] st h Q else wp 32 79 [v0, v1, v2, v3, v4, v5] st h Q := wp_icmpP (by decide +kernel : ab_cod 32 76 = some (.if_icmp .ne 6, 3, 82, 0, 0, 0)) rfl
set_option maxRecDepth 100000 in
theorem i32_79 {v0 v1 v2 v3 v5 : Value} {x : Int32} {st : List Value} {h : ab_Hp} {Q : ab_O → ab_Hp → Prop} : wp 32 79 [v0, v1, v2, v3, .int x, v5] st h Q = wp 32 81 [v0, v1, v2, v3, .int x, v5] (.int x :: st) h Q := wp_stp (ri := (.iload 4, 2, 0, 0, 0, 0)) (by decide +kernel) rfl rfl rfl
set_option maxRecDepth 100000 in
theorem i32_81 {v0 v1 v2 v3 v4 v5 : Value} {w : Int32} {st : List Value} {h : ab_Hp} {Q : ab_O → ab_Hp → Prop} : wp 32 81 [v0, v1, v2, v3, v4, v5] (.int w :: st) h Q = wp 32 82 [v0, v1, ab_clr v2, .int w, v4, v5] st h Q := wp_stp (ri := (.istore_n 3, 1, 0, 0, 0, 0)) (by decide +kernel) rfl rfl rfl
set_option maxRecDepth 100000 in
theorem i32_82 {v0 v1 v2 v3 v5 : Value} {x : Int32} {st : List Value} {h : ab_Hp} {Q : ab_O → ab_Hp → Prop} : wp 32 82 [v0, v1, v2, v3, .int x, v5] st h Q = wp 32 85 [v0, v1, v2, ab_clr v3, .int (x + nI 1), v5] st h Q := wp_stp (ri := (.iinc 4 1, 3, 0, 0, 0, 0)) (by decide +kernel) rfl rfl rfl
set_option maxRecDepth 100000 in
theorem i32_85 {v0 v1 v2 v3 v4 v5 : Value} {st : List Value} {h : ab_Hp} {Q : ab_O → ab_Hp → Prop} : wp 32 85 [v0, v1, v2, v3, v4, v5] st h Q = wp 32 5 [v0, v1, v2, v3, v4, v5] st h Q := wp_stp (ri := (.goto (-80), 3, 5, 0, 0, 0)) (by decide +kernel) rfl rfl rfl
set_option maxRecDepth 100000 in
theorem i32_88 {v0 v1 v2 v4 v5 : Value} {x : Int32} {st : List Value} {h : ab_Hp} {Q : ab_O → ab_Hp → Prop} : wp 32 88 [v0, v1, v2, .int x, v4, v5] st h Q = wp 32 89 [v0, v1, v2, .int x, v4, v5] (.int x :: st) h Q := wp_stp (ri := (.iload_n 3, 1, 0, 0, 0, 0)) (by decide +kernel) rfl rfl rfl
set_option maxRecDepth 100000 in
theorem i32_89 {v0 v1 v2 v3 v4 v5 : Value} {x : Int32} {h : ab_Hp} {Q : ab_O → ab_Hp → Prop} : wp 32 89 [v0, v1, v2, v3, v4, v5] [.int x] h Q = Q (.inl (some (.int x))) h := wp_iret (by decide +kernel : ab_cod 32 89 = some (.ireturn, 1, 0, 0, 0, 0)) rfl
/-! 33: SeamBeats$State.counted(I)I -/
set_option maxRecDepth 100000 in
theorem i33_0 {v0 : Value} {x : Int32} {st : List Value} {h : ab_Hp} {Q : ab_O → ab_Hp → Prop} : wp 33 0 [v0, .int x] st h Q = wp 33 1 [v0, .int x] (.int x :: st) h Q := wp_stp (ri := (.iload_n 1, 1, 0, 0, 0, 0)) (by decide +kernel) rfl rfl rfl
set_option maxRecDepth 100000 in
theorem i33_1 {v0 v1 : Value} {x : Int32} {st : List Value} {h : ab_Hp} {Q : ab_O → ab_Hp → Prop} : wp 33 1 [v0, v1] (.int x :: st) h Q = if x = nI 0 then wp 33 60 [v0, v1] st h Q else if x = nI 1 then wp 33 65 [v0, v1] st h Q else if x = nI 2 then wp 33 70 [v0, v1] st h Q else if x = nI 3 then wp 33 75 [v0, v1] st h Q else if x = nI 4 then wp 33 81 [v0, v1] st h Q else if x = nI 5 then wp 33 86 [v0, v1] st h Q else if x = nI 6 then wp 33 93 [v0, v1] st h Q else if x = nI 7 then wp 33 98 [v0, v1] st h Q else if x = nI 8 then wp 33 103 [v0, v1] st h Q else if x = nI 9 then wp 33 110 [v0, v1] st h Q else if x = nI 10 then wp 33 117 [v0, v1] st h Q else wp 33 122 [v0, v1] st h Q := by
  rw [wp_swt (by decide +kernel : ab_cod 33 1 = some (.tableswitch 121 0 10 #[59, 64, 69, 74, 80, 85, 92, 97, 102, 109, 116], 59, 0, 0, 0, 0)) (by decide)]
  show wp 33 (if x = nI 0 then 60 else if x = nI 1 then 65 else if x = nI 2 then 70 else if x = nI 3 then 75 else if x = nI 4 then 81 else if x = nI 5 then 86 else if x = nI 6 then 93 else if x = nI 7 then 98 else if x = nI 8 then 103 else if x = nI 9 then 110 else if x = nI 10 then 117 else 122) _ _ _ _ = _
  simp only [wp_ite]
set_option maxRecDepth 100000 in
theorem i33_60 {v0 v1 : Value} {st : List Value} {h : ab_Hp} {Q : ab_O → ab_Hp → Prop} (hv : ab_isA v0 = true) : wp 33 60 [v0, v1] st h Q = wp 33 61 [v0, v1] (v0 :: st) h Q := wp_aload_n (by decide +kernel : ab_cod 33 60 = some (.aload_n 0, 1, 0, 0, 0, 0)) hv
set_option maxRecDepth 100000 in
theorem i33_61 {v0 v1 : Value} {r : Nat} {st : List Value} {h : ab_Hp} {Q : ab_O → ab_Hp → Prop} (hk : (ab_sh h r).1 = 14) : wp 33 61 [v0, v1] (.ref r :: st) h Q = wp 33 64 [v0, v1] (.int (ab_hi h r 3) :: st) h Q := wp_gf (by decide +kernel : ab_cod 33 61 = some (.getfield 27, 3, 4, 3, 152, 0)) hk
set_option maxRecDepth 100000 in
theorem i33_64 {v0 v1 : Value} {x : Int32} {h : ab_Hp} {Q : ab_O → ab_Hp → Prop} : wp 33 64 [v0, v1] [.int x] h Q = Q (.inl (some (.int x))) h := wp_iret (by decide +kernel : ab_cod 33 64 = some (.ireturn, 1, 0, 0, 0, 0)) rfl
set_option maxRecDepth 100000 in
theorem i33_65 {v0 v1 : Value} {st : List Value} {h : ab_Hp} {Q : ab_O → ab_Hp → Prop} (hv : ab_isA v0 = true) : wp 33 65 [v0, v1] st h Q = wp 33 66 [v0, v1] (v0 :: st) h Q := wp_aload_n (by decide +kernel : ab_cod 33 65 = some (.aload_n 0, 1, 0, 0, 0, 0)) hv
set_option maxRecDepth 100000 in
theorem i33_66 {v0 v1 : Value} {r : Nat} {st : List Value} {h : ab_Hp} {Q : ab_O → ab_Hp → Prop} (hk : (ab_sh h r).1 = 14) : wp 33 66 [v0, v1] (.ref r :: st) h Q = wp 33 69 [v0, v1] (.int (ab_hi h r 2) :: st) h Q := wp_gf (by decide +kernel : ab_cod 33 66 = some (.getfield 23, 3, 4, 2, 150, 0)) hk
set_option maxRecDepth 100000 in
theorem i33_69 {v0 v1 : Value} {x : Int32} {h : ab_Hp} {Q : ab_O → ab_Hp → Prop} : wp 33 69 [v0, v1] [.int x] h Q = Q (.inl (some (.int x))) h := wp_iret (by decide +kernel : ab_cod 33 69 = some (.ireturn, 1, 0, 0, 0, 0)) rfl
set_option maxRecDepth 100000 in
theorem i33_70 {v0 v1 : Value} {st : List Value} {h : ab_Hp} {Q : ab_O → ab_Hp → Prop} (hv : ab_isA v0 = true) : wp 33 70 [v0, v1] st h Q = wp 33 71 [v0, v1] (v0 :: st) h Q := wp_aload_n (by decide +kernel : ab_cod 33 70 = some (.aload_n 0, 1, 0, 0, 0, 0)) hv
set_option maxRecDepth 100000 in
theorem i33_71 {v0 v1 : Value} {r : Nat} {st : List Value} {h : ab_Hp} {Q : ab_O → ab_Hp → Prop} (hk : (ab_sh h r).1 = 14) : wp 33 71 [v0, v1] (.ref r :: st) h Q = wp 33 74 [v0, v1] (.int (ab_hi h r 4) :: st) h Q := wp_gf (by decide +kernel : ab_cod 33 71 = some (.getfield 30, 3, 4, 4, 154, 0)) hk
set_option maxRecDepth 100000 in
theorem i33_74 {v0 v1 : Value} {x : Int32} {h : ab_Hp} {Q : ab_O → ab_Hp → Prop} : wp 33 74 [v0, v1] [.int x] h Q = Q (.inl (some (.int x))) h := wp_iret (by decide +kernel : ab_cod 33 74 = some (.ireturn, 1, 0, 0, 0, 0)) rfl
set_option maxRecDepth 100000 in
theorem i33_75 {v0 v1 : Value} {st : List Value} {h : ab_Hp} {Q : ab_O → ab_Hp → Prop} (hv : ab_isA v0 = true) : wp 33 75 [v0, v1] st h Q = wp 33 76 [v0, v1] (v0 :: st) h Q := wp_aload_n (by decide +kernel : ab_cod 33 75 = some (.aload_n 0, 1, 0, 0, 0, 0)) hv
set_option maxRecDepth 100000 in
theorem i33_76 {v0 v1 : Value} {st : List Value} {h : ab_Hp} {Q : ab_O → ab_Hp → Prop} : wp 33 76 [v0, v1] st h Q = wp 33 77 [v0, v1] (.int (nI 4) :: st) h Q := wp_stp (ri := (.iconst 4, 1, 0, 0, 0, 0)) (by decide +kernel) rfl rfl rfl
set_option maxRecDepth 100000 in
theorem i33_77 {v0 v1 : Value} {r : Nat} {a0 : Int32} {st : List Value} {h : ab_Hp} {Q : ab_O → ab_Hp → Prop} (hl : st.length ≤ 4) (hk : (ab_sh h r).1 = 14) : wp 33 77 [v0, v1] (.int a0 :: .ref r :: st) h Q = wp 34 0 [.ref r, .int a0, ab_nov, ab_nov, ab_nov] [] h (ab_K 33 77 [v0, v1] st Q) := wp_callV (as := [.int a0]) (by decide +kernel : ab_cod 33 77 = some (.invokevirtual 132, 3, 34, 2, 0, 378)) rfl rfl rfl rfl hl hk
set_option maxRecDepth 100000 in
theorem i33_80 {v0 v1 : Value} {x : Int32} {h : ab_Hp} {Q : ab_O → ab_Hp → Prop} : wp 33 80 [v0, v1] [.int x] h Q = Q (.inl (some (.int x))) h := wp_iret (by decide +kernel : ab_cod 33 80 = some (.ireturn, 1, 0, 0, 0, 0)) rfl
set_option maxRecDepth 100000 in
theorem i33_81 {v0 v1 : Value} {st : List Value} {h : ab_Hp} {Q : ab_O → ab_Hp → Prop} (hv : ab_isA v0 = true) : wp 33 81 [v0, v1] st h Q = wp 33 82 [v0, v1] (v0 :: st) h Q := wp_aload_n (by decide +kernel : ab_cod 33 81 = some (.aload_n 0, 1, 0, 0, 0, 0)) hv
set_option maxRecDepth 100000 in
theorem i33_82 {v0 v1 : Value} {r : Nat} {st : List Value} {h : ab_Hp} {Q : ab_O → ab_Hp → Prop} (hl : st.length ≤ 4) (hk : (ab_sh h r).1 = 14) : wp 33 82 [v0, v1] (.ref r :: st) h Q = wp 35 0 [.ref r, ab_nov, ab_nov, ab_nov] [] h (ab_K 33 82 [v0, v1] st Q) := wp_callV (as := []) (by decide +kernel : ab_cod 33 82 = some (.invokevirtual 136, 3, 35, 1, 0, 383)) rfl rfl rfl rfl hl hk
set_option maxRecDepth 100000 in
theorem i33_85 {v0 v1 : Value} {x : Int32} {h : ab_Hp} {Q : ab_O → ab_Hp → Prop} : wp 33 85 [v0, v1] [.int x] h Q = Q (.inl (some (.int x))) h := wp_iret (by decide +kernel : ab_cod 33 85 = some (.ireturn, 1, 0, 0, 0, 0)) rfl
set_option maxRecDepth 100000 in
theorem i33_86 {v0 v1 : Value} {st : List Value} {h : ab_Hp} {Q : ab_O → ab_Hp → Prop} (hv : ab_isA v0 = true) : wp 33 86 [v0, v1] st h Q = wp 33 87 [v0, v1] (v0 :: st) h Q := wp_aload_n (by decide +kernel : ab_cod 33 86 = some (.aload_n 0, 1, 0, 0, 0, 0)) hv
set_option maxRecDepth 100000 in
theorem i33_87 {v0 v1 : Value} {st : List Value} {h : ab_Hp} {Q : ab_O → ab_Hp → Prop} : wp 33 87 [v0, v1] st h Q = wp 33 89 [v0, v1] (.int (nI 8) :: st) h Q := wp_stp (ri := (.bipush 8, 2, 0, 0, 0, 0)) (by decide +kernel) rfl rfl rfl
set_option maxRecDepth 100000 in
theorem i33_89 {v0 v1 : Value} {r : Nat} {a0 : Int32} {st : List Value} {h : ab_Hp} {Q : ab_O → ab_Hp → Prop} (hl : st.length ≤ 4) (hk : (ab_sh h r).1 = 14) : wp 33 89 [v0, v1] (.int a0 :: .ref r :: st) h Q = wp 34 0 [.ref r, .int a0, ab_nov, ab_nov, ab_nov] [] h (ab_K 33 89 [v0, v1] st Q) := wp_callV (as := [.int a0]) (by decide +kernel : ab_cod 33 89 = some (.invokevirtual 132, 3, 34, 2, 0, 378)) rfl rfl rfl rfl hl hk
set_option maxRecDepth 100000 in
theorem i33_92 {v0 v1 : Value} {x : Int32} {h : ab_Hp} {Q : ab_O → ab_Hp → Prop} : wp 33 92 [v0, v1] [.int x] h Q = Q (.inl (some (.int x))) h := wp_iret (by decide +kernel : ab_cod 33 92 = some (.ireturn, 1, 0, 0, 0, 0)) rfl
set_option maxRecDepth 100000 in
theorem i33_93 {v0 v1 : Value} {st : List Value} {h : ab_Hp} {Q : ab_O → ab_Hp → Prop} (hv : ab_isA v0 = true) : wp 33 93 [v0, v1] st h Q = wp 33 94 [v0, v1] (v0 :: st) h Q := wp_aload_n (by decide +kernel : ab_cod 33 93 = some (.aload_n 0, 1, 0, 0, 0, 0)) hv
set_option maxRecDepth 100000 in
theorem i33_94 {v0 v1 : Value} {r : Nat} {st : List Value} {h : ab_Hp} {Q : ab_O → ab_Hp → Prop} (hk : (ab_sh h r).1 = 14) : wp 33 94 [v0, v1] (.ref r :: st) h Q = wp 33 97 [v0, v1] (.int (ab_hi h r 5) :: st) h Q := wp_gf (by decide +kernel : ab_cod 33 94 = some (.getfield 33, 3, 4, 5, 156, 0)) hk
set_option maxRecDepth 100000 in
theorem i33_97 {v0 v1 : Value} {x : Int32} {h : ab_Hp} {Q : ab_O → ab_Hp → Prop} : wp 33 97 [v0, v1] [.int x] h Q = Q (.inl (some (.int x))) h := wp_iret (by decide +kernel : ab_cod 33 97 = some (.ireturn, 1, 0, 0, 0, 0)) rfl
set_option maxRecDepth 100000 in
theorem i33_98 {v0 v1 : Value} {st : List Value} {h : ab_Hp} {Q : ab_O → ab_Hp → Prop} (hv : ab_isA v0 = true) : wp 33 98 [v0, v1] st h Q = wp 33 99 [v0, v1] (v0 :: st) h Q := wp_aload_n (by decide +kernel : ab_cod 33 98 = some (.aload_n 0, 1, 0, 0, 0, 0)) hv
set_option maxRecDepth 100000 in
theorem i33_99 {v0 v1 : Value} {r : Nat} {st : List Value} {h : ab_Hp} {Q : ab_O → ab_Hp → Prop} (hk : (ab_sh h r).1 = 14) : wp 33 99 [v0, v1] (.ref r :: st) h Q = wp 33 102 [v0, v1] (.int (ab_hi h r 6) :: st) h Q := wp_gf (by decide +kernel : ab_cod 33 99 = some (.getfield 36, 3, 4, 6, 157, 0)) hk
set_option maxRecDepth 100000 in
theorem i33_102 {v0 v1 : Value} {x : Int32} {h : ab_Hp} {Q : ab_O → ab_Hp → Prop} : wp 33 102 [v0, v1] [.int x] h Q = Q (.inl (some (.int x))) h := wp_iret (by decide +kernel : ab_cod 33 102 = some (.ireturn, 1, 0, 0, 0, 0)) rfl
set_option maxRecDepth 100000 in
theorem i33_103 {v0 v1 : Value} {st : List Value} {h : ab_Hp} {Q : ab_O → ab_Hp → Prop} (hv : ab_isA v0 = true) : wp 33 103 [v0, v1] st h Q = wp 33 104 [v0, v1] (v0 :: st) h Q := wp_aload_n (by decide +kernel : ab_cod 33 103 = some (.aload_n 0, 1, 0, 0, 0, 0)) hv
set_option maxRecDepth 100000 in
theorem i33_104 {v0 v1 : Value} {st : List Value} {h : ab_Hp} {Q : ab_O → ab_Hp → Prop} : wp 33 104 [v0, v1] st h Q = wp 33 106 [v0, v1] (.int (nI 6) :: st) h Q := wp_stp (ri := (.bipush 6, 2, 0, 0, 0, 0)) (by decide +kernel) rfl rfl rfl
set_option maxRecDepth 100000 in
theorem i33_106 {v0 v1 : Value} {r : Nat} {a0 : Int32} {st : List Value} {h : ab_Hp} {Q : ab_O → ab_Hp → Prop} (hl : st.length ≤ 4) (hk : (ab_sh h r).1 = 14) : wp 33 106 [v0, v1] (.int a0 :: .ref r :: st) h Q = wp 34 0 [.ref r, .int a0, ab_nov, ab_nov, ab_nov] [] h (ab_K 33 106 [v0, v1] st Q) := wp_callV (as := [.int a0]) (by decide +kernel : ab_cod 33 106 = some (.invokevirtual 132, 3, 34, 2, 0, 378)) rfl rfl rfl rfl hl hk
set_option maxRecDepth 100000 in
theorem i33_109 {v0 v1 : Value} {x : Int32} {h : ab_Hp} {Q : ab_O → ab_Hp → Prop} : wp 33 109 [v0, v1] [.int x] h Q = Q (.inl (some (.int x))) h := wp_iret (by decide +kernel : ab_cod 33 109 = some (.ireturn, 1, 0, 0, 0, 0)) rfl
set_option maxRecDepth 100000 in
theorem i33_110 {v0 v1 : Value} {st : List Value} {h : ab_Hp} {Q : ab_O → ab_Hp → Prop} (hv : ab_isA v0 = true) : wp 33 110 [v0, v1] st h Q = wp 33 111 [v0, v1] (v0 :: st) h Q := wp_aload_n (by decide +kernel : ab_cod 33 110 = some (.aload_n 0, 1, 0, 0, 0, 0)) hv
set_option maxRecDepth 100000 in
theorem i33_111 {v0 v1 : Value} {st : List Value} {h : ab_Hp} {Q : ab_O → ab_Hp → Prop} : wp 33 111 [v0, v1] st h Q = wp 33 113 [v0, v1] (.int (nI 7) :: st) h Q := wp_stp (ri := (.bipush 7, 2, 0, 0, 0, 0)) (by decide +kernel) rfl rfl rfl
set_option maxRecDepth 100000 in
theorem i33_113 {v0 v1 : Value} {r : Nat} {a0 : Int32} {st : List Value} {h : ab_Hp} {Q : ab_O → ab_Hp → Prop} (hl : st.length ≤ 4) (hk : (ab_sh h r).1 = 14) : wp 33 113 [v0, v1] (.int a0 :: .ref r :: st) h Q = wp 34 0 [.ref r, .int a0, ab_nov, ab_nov, ab_nov] [] h (ab_K 33 113 [v0, v1] st Q) := wp_callV (as := [.int a0]) (by decide +kernel : ab_cod 33 113 = some (.invokevirtual 132, 3, 34, 2, 0, 378)) rfl rfl rfl rfl hl hk
set_option maxRecDepth 100000 in
theorem i33_116 {v0 v1 : Value} {x : Int32} {h : ab_Hp} {Q : ab_O → ab_Hp → Prop} : wp 33 116 [v0, v1] [.int x] h Q = Q (.inl (some (.int x))) h := wp_iret (by decide +kernel : ab_cod 33 116 = some (.ireturn, 1, 0, 0, 0, 0)) rfl
set_option maxRecDepth 100000 in
theorem i33_117 {v0 v1 : Value} {st : List Value} {h : ab_Hp} {Q : ab_O → ab_Hp → Prop} (hv : ab_isA v0 = true) : wp 33 117 [v0, v1] st h Q = wp 33 118 [v0, v1] (v0 :: st) h Q := wp_aload_n (by decide +kernel : ab_cod 33 117 = some (.aload_n 0, 1, 0, 0, 0, 0)) hv
set_option maxRecDepth 100000 in
theorem i33_118 {v0 v1 : Value} {r : Nat} {st : List Value} {h : ab_Hp} {Q : ab_O → ab_Hp → Prop} (hl : st.length ≤ 4) (hk : (ab_sh h r).1 = 14) : wp 33 118 [v0, v1] (.ref r :: st) h Q = wp 36 0 [.ref r, ab_nov, ab_nov, ab_nov] [] h (ab_K 33 118 [v0, v1] st Q) := wp_callV (as := []) (by decide +kernel : ab_cod 33 118 = some (.invokevirtual 140, 3, 36, 1, 0, 387)) rfl rfl rfl rfl hl hk
set_option maxRecDepth 100000 in
theorem i33_121 {v0 v1 : Value} {x : Int32} {h : ab_Hp} {Q : ab_O → ab_Hp → Prop} : wp 33 121 [v0, v1] [.int x] h Q = Q (.inl (some (.int x))) h := wp_iret (by decide +kernel : ab_cod 33 121 = some (.ireturn, 1, 0, 0, 0, 0)) rfl
set_option maxRecDepth 100000 in
theorem i33_122 {v0 v1 : Value} {st : List Value} {h : ab_Hp} {Q : ab_O → ab_Hp → Prop} : wp 33 122 [v0, v1] st h Q = wp 33 123 [v0, v1] (.int ((-1)) :: st) h Q := wp_stp (ri := (.iconst (-1), 1, 0, 0, 0, 0)) (by decide +kernel) rfl rfl rfl
set_option maxRecDepth 100000 in
theorem i33_123 {v0 v1 : Value} {x : Int32} {h : ab_Hp} {Q : ab_O → ab_Hp → Prop} : wp 33 123 [v0, v1] [.int x] h Q = Q (.inl (some (.int x))) h := wp_iret (by decide +kernel : ab_cod 33 123 = some (.ireturn, 1, 0, 0, 0, 0)) rfl
/-! 34: SeamBeats$State.totalOfRooms(I)I -/
theorem i34_0 {v0 v1 v2 v3 v4 : Value} {st : List Value} {h : ab_Hp} {Q : ab_O → ab_Hp → Prop} : wp 34 0 [v0, v1, v2, v3, v4] st h Q = wp 34 1 [v0, v1, v2, v3, v4] (.int (nI 0) :: st) h Q := wp_stp (ri := (.iconst 0, 1, 0, 0, 0, 0)) (by decide +kernel) rfl rfl rfl
theorem i34_1 {v0 v1 v2 v3 v4 : Value} {w : Int32} {st : List Value} {h : ab_Hp} {Q : ab_O → ab_Hp → Prop} : wp 34 1 [v0, v1, v2, v3, v4] (.int w :: st) h Q = wp 34 2 [v0, ab_clr v1, .int w, v3, v4] st h Q := wp_stp (ri := (.istore_n 2, 1, 0, 0, 0, 0)) (by decide +kernel) rfl rfl rfl
theorem i34_2 {v0 v1 v2 v3 v4 : Value} {st : List Value} {h : ab_Hp} {Q : ab_O → ab_Hp → Prop} : wp 34 2 [v0, v1, v2, v3, v4] st h Q = wp 34 3 [v0, v1, v2, v3, v4] (.int (nI 0) :: st) h Q := wp_stp (ri := (.iconst 0, 1, 0, 0, 0, 0)) (by decide +kernel) rfl rfl rfl
theorem i34_3 {v0 v1 v2 v3 v4 : Value} {w : Int32} {st : List Value} {h : ab_Hp} {Q : ab_O → ab_Hp → Prop} : wp 34 3 [v0, v1, v2, v3, v4] (.int w :: st) h Q = wp 34 4 [v0, v1, ab_clr v2, .int w, v4] st h Q := wp_stp (ri := (.istore_n 3, 1, 0, 0, 0, 0)) (by decide +kernel) rfl rfl rfl
theorem i34_4 {v0 v1 v2 v4 : Value} {x : Int32} {st : List Value} {h : ab_Hp} {Q : ab_O → ab_Hp → Prop} : wp 34 4 [v0, v1, v2, .int x, v4] st h Q = wp 34 5 [v0, v1, v2, .int x, v4] (.int x :: st) h Q := wp_stp (ri := (.iload_n 3, 1, 0, 0, 0, 0)) (by decide +kernel) rfl rfl rfl
theorem i34_5 {v0 v1 v2 v3 v4 : Value} {st : List Value} {h : ab_Hp} {Q : ab_O → ab_Hp → Prop} (hv : ab_isA v0 = true) : wp 34 5 [v0, v1, v2, v3, v4] st h Q = wp 34 6 [v0, v1, v2, v3, v4] (v0 :: st) h Q := wp_aload_n (by decide +kernel : ab_cod 34 5 = some (.aload_n 0, 1, 0, 0, 0, 0)) hv
theorem i34_6 {v0 v1 v2 v3 v4 : Value} {r : Nat} {st : List Value} {h : ab_Hp} {Q : ab_O → ab_Hp → Prop} (hk : (ab_sh h r).1 = 14) : wp 34 6 [v0, v1, v2, v3, v4] (.ref r :: st) h Q = wp 34 9 [v0, v1, v2, v3, v4] (va_rf (ab_hr h r 0) :: st) h Q := wp_gf (by decide +kernel : ab_cod 34 6 = some (.getfield 11, 3, 4, 0, 148, 1)) hk
theorem i34_9 {v0 v1 v2 v3 v4 : Value} {r : Nat} {st : List Value} {h : ab_Hp} {Q : ab_O → ab_Hp → Prop} (hk : 1 ≤ (ab_sh h r).1 ∧ (ab_sh h r).1 ≤ 6) : wp 34 9 [v0, v1, v2, v3, v4] (.ref r :: st) h Q = wp 34 10 [v0, v1, v2, v3, v4] (.int (nI (ab_sh h r).2) :: st) h Q := wp_al (by decide +kernel : ab_cod 34 9 = some (.arraylength, 1, 0, 0, 0, 0)) hk
theorem i34_10 {v0 v1 v2 v3 v4 : Value} {x y : Int32} {st : List Value} {h : ab_Hp} {Q : ab_O → ab_Hp → Prop} : wp 34 10 [v0, v1, v2, v3, v4] (.int y :: .int x :: st) h Q = if y ≤ x then wp 34 41 [v0, v1, v2, v3, v4] st h Q else wp 34 13 [v0, v1, v2, v3, v4] st h Q := wp_icmpP (by decide +kernel : ab_cod 34 10 = some (.if_icmp .ge 31, 3, 41, 0, 0, 0)) rfl
theorem i34_13 {v0 v1 v2 v3 v4 : Value} {st : List Value} {h : ab_Hp} {Q : ab_O → ab_Hp → Prop} (hv : ab_isA v0 = true) : wp 34 13 [v0, v1, v2, v3, v4] st h Q = wp 34 14 [v0, v1, v2, v3, v4] (v0 :: st) h Q := wp_aload_n (by decide +kernel : ab_cod 34 13 = some (.aload_n 0, 1, 0, 0, 0, 0)) hv
theorem i34_14 {v0 v1 v2 v3 v4 : Value} {r : Nat} {st : List Value} {h : ab_Hp} {Q : ab_O → ab_Hp → Prop} (hk : (ab_sh h r).1 = 14) : wp 34 14 [v0, v1, v2, v3, v4] (.ref r :: st) h Q = wp 34 17 [v0, v1, v2, v3, v4] (va_rf (ab_hr h r 0) :: st) h Q := wp_gf (by decide +kernel : ab_cod 34 14 = some (.getfield 11, 3, 4, 0, 148, 1)) hk
theorem i34_17 {v0 v1 v2 v4 : Value} {x : Int32} {st : List Value} {h : ab_Hp} {Q : ab_O → ab_Hp → Prop} : wp 34 17 [v0, v1, v2, .int x, v4] st h Q = wp 34 18 [v0, v1, v2, .int x, v4] (.int x :: st) h Q := wp_stp (ri := (.iload_n 3, 1, 0, 0, 0, 0)) (by decide +kernel) rfl rfl rfl
theorem i34_18 {v0 v1 v2 v3 v4 : Value} {r : Nat} {x : Int32} {st : List Value} {h : ab_Hp} {Q : ab_O → ab_Hp → Prop} (hk : (3 ≤ (ab_sh h r).1 ∧ (ab_sh h r).1 ≤ 5) ∧ ab_in x (ab_sh h r).2 = true) : wp 34 18 [v0, v1, v2, v3, v4] (.int x :: .ref r :: st) h Q = wp 34 19 [v0, v1, v2, v3, v4] (va_rf (ab_hr h r x.toNatClampNeg) :: st) h Q := wp_aa (by decide +kernel : ab_cod 34 18 = some (.aaload, 1, 0, 0, 0, 0)) hk
theorem i34_19 {v0 v1 v2 v3 v4 : Value} {w : Value} {st : List Value} {h : ab_Hp} {Q : ab_O → ab_Hp → Prop} (hv : ab_isA w = true) : wp 34 19 [v0, v1, v2, v3, v4] (w :: st) h Q = wp 34 21 [v0, v1, v2, ab_clr v3, w] st h Q := wp_astore (by decide +kernel : ab_cod 34 19 = some (.astore 4, 2, 0, 0, 0, 0)) hv
theorem i34_21 {v0 v1 v2 v3 v4 : Value} {st : List Value} {h : ab_Hp} {Q : ab_O → ab_Hp → Prop} (hv : ab_isA v4 = true) : wp 34 21 [v0, v1, v2, v3, v4] st h Q = wp 34 23 [v0, v1, v2, v3, v4] (v4 :: st) h Q := wp_aload (by decide +kernel : ab_cod 34 21 = some (.aload 4, 2, 0, 0, 0, 0)) hv
theorem i34_23 {v0 v1 v2 v3 v4 : Value} {o : Option Nat} {st : List Value} {h : ab_Hp} {Q : ab_O → ab_Hp → Prop} : wp 34 23 [v0, v1, v2, v3, v4] (va_rf o :: st) h Q = if o = none then wp 34 35 [v0, v1, v2, v3, v4] st h Q else wp 34 26 [v0, v1, v2, v3, v4] st h Q := wp_ifnull (by decide +kernel : ab_cod 34 23 = some (.ifnull 12, 3, 35, 0, 0, 0)) o
theorem i34_23r {v0 v1 v2 v3 v4 : Value} {r : Nat} {st : List Value} {h : ab_Hp} {Q : ab_O → ab_Hp → Prop} : wp 34 23 [v0, v1, v2, v3, v4] (.ref r :: st) h Q = wp 34 26 [v0, v1, v2, v3, v4] st h Q := wp_stp (ri := (.ifnull 12, 3, 35, 0, 0, 0)) (by decide +kernel) rfl rfl rfl
theorem i34_23n {v0 v1 v2 v3 v4 : Value} {st : List Value} {h : ab_Hp} {Q : ab_O → ab_Hp → Prop} : wp 34 23 [v0, v1, v2, v3, v4] (.null :: st) h Q = wp 34 35 [v0, v1, v2, v3, v4] st h Q := wp_stp (ri := (.ifnull 12, 3, 35, 0, 0, 0)) (by decide +kernel) rfl rfl rfl
theorem i34_26 {v0 v1 v3 v4 : Value} {x : Int32} {st : List Value} {h : ab_Hp} {Q : ab_O → ab_Hp → Prop} : wp 34 26 [v0, v1, .int x, v3, v4] st h Q = wp 34 27 [v0, v1, .int x, v3, v4] (.int x :: st) h Q := wp_stp (ri := (.iload_n 2, 1, 0, 0, 0, 0)) (by decide +kernel) rfl rfl rfl
theorem i34_27 {v0 v1 v2 v3 v4 : Value} {st : List Value} {h : ab_Hp} {Q : ab_O → ab_Hp → Prop} (hv : ab_isA v4 = true) : wp 34 27 [v0, v1, v2, v3, v4] st h Q = wp 34 29 [v0, v1, v2, v3, v4] (v4 :: st) h Q := wp_aload (by decide +kernel : ab_cod 34 27 = some (.aload 4, 2, 0, 0, 0, 0)) hv
theorem i34_29 {v0 v2 v3 v4 : Value} {x : Int32} {st : List Value} {h : ab_Hp} {Q : ab_O → ab_Hp → Prop} : wp 34 29 [v0, .int x, v2, v3, v4] st h Q = wp 34 30 [v0, .int x, v2, v3, v4] (.int x :: st) h Q := wp_stp (ri := (.iload_n 1, 1, 0, 0, 0, 0)) (by decide +kernel) rfl rfl rfl
theorem i34_30 {v0 v1 v2 v3 v4 : Value} {r : Nat} {a0 : Int32} {st : List Value} {h : ab_Hp} {Q : ab_O → ab_Hp → Prop} (hl : st.length ≤ 4) (hk : (ab_sh h r).1 = 12) : wp 34 30 [v0, v1, v2, v3, v4] (.int a0 :: .ref r :: st) h Q = wp 15 0 [.ref r, .int a0] [] h (ab_K 34 30 [v0, v1, v2, v3, v4] st Q) := wp_callV (as := [.int a0]) (by decide +kernel : ab_cod 34 30 = some (.invokevirtual 143, 3, 15, 2, 0, 382)) rfl rfl rfl rfl hl hk
theorem i34_33 {v0 v1 v2 v3 v4 : Value} {x y : Int32} {st : List Value} {h : ab_Hp} {Q : ab_O → ab_Hp → Prop} : wp 34 33 [v0, v1, v2, v3, v4] (.int y :: .int x :: st) h Q = wp 34 34 [v0, v1, v2, v3, v4] (.int (x + y) :: st) h Q := wp_stp (ri := (.iadd, 1, 0, 0, 0, 0)) (by decide +kernel) rfl rfl rfl
theorem i34_34 {v0 v1 v2 v3 v4 : Value} {w : Int32} {st : List Value} {h : ab_Hp} {Q : ab_O → ab_Hp → Prop} : wp 34 34 [v0, v1, v2, v3, v4] (.int w :: st) h Q = wp 34 35 [v0, ab_clr v1, .int w, v3, v4] st h Q := wp_stp (ri := (.istore_n 2, 1, 0, 0, 0, 0)) (by decide +kernel) rfl rfl rfl
theorem i34_35 {v0 v1 v2 v4 : Value} {x : Int32} {st : List Value} {h : ab_Hp} {Q : ab_O → ab_Hp → Prop} : wp 34 35 [v0, v1, v2, .int x, v4] st h Q = wp 34 38 [v0, v1, ab_clr v2, .int (x + nI 1), v4] st h Q := wp_stp (ri := (.iinc 3 1, 3, 0, 0, 0, 0)) (by decide +kernel) rfl rfl rfl
theorem i34_38 {v0 v1 v2 v3 v4 : Value} {st : List Value} {h : ab_Hp} {Q : ab_O → ab_Hp → Prop} : wp 34 38 [v0, v1, v2, v3, v4] st h Q = wp 34 4 [v0, v1, v2, v3, v4] st h Q := wp_stp (ri := (.goto (-34), 3, 4, 0, 0, 0)) (by decide +kernel) rfl rfl rfl
theorem i34_41 {v0 v1 v3 v4 : Value} {x : Int32} {st : List Value} {h : ab_Hp} {Q : ab_O → ab_Hp → Prop} : wp 34 41 [v0, v1, .int x, v3, v4] st h Q = wp 34 42 [v0, v1, .int x, v3, v4] (.int x :: st) h Q := wp_stp (ri := (.iload_n 2, 1, 0, 0, 0, 0)) (by decide +kernel) rfl rfl rfl
theorem i34_42 {v0 v1 v2 v3 v4 : Value} {x : Int32} {h : ab_Hp} {Q : ab_O → ab_Hp → Prop} : wp 34 42 [v0, v1, v2, v3, v4] [.int x] h Q = Q (.inl (some (.int x))) h := wp_iret (by decide +kernel : ab_cod 34 42 = some (.ireturn, 1, 0, 0, 0, 0)) rfl
/-! 35: SeamBeats$State.itemsOnSeams()I -/
theorem i35_0 {v0 v1 v2 v3 : Value} {st : List Value} {h : ab_Hp} {Q : ab_O → ab_Hp → Prop} : wp 35 0 [v0, v1, v2, v3] st h Q = wp 35 1 [v0, v1, v2, v3] (.int (nI 0) :: st) h Q := wp_stp (ri := (.iconst 0, 1, 0, 0, 0, 0)) (by decide +kernel) rfl rfl rfl
theorem i35_1 {v0 v1 v2 v3 : Value} {w : Int32} {st : List Value} {h : ab_Hp} {Q : ab_O → ab_Hp → Prop} : wp 35 1 [v0, v1, v2, v3] (.int w :: st) h Q = wp 35 2 [ab_clr v0, .int w, v2, v3] st h Q := wp_stp (ri := (.istore_n 1, 1, 0, 0, 0, 0)) (by decide +kernel) rfl rfl rfl
theorem i35_2 {v0 v1 v2 v3 : Value} {st : List Value} {h : ab_Hp} {Q : ab_O → ab_Hp → Prop} : wp 35 2 [v0, v1, v2, v3] st h Q = wp 35 3 [v0, v1, v2, v3] (.int (nI 0) :: st) h Q := wp_stp (ri := (.iconst 0, 1, 0, 0, 0, 0)) (by decide +kernel) rfl rfl rfl
theorem i35_3 {v0 v1 v2 v3 : Value} {w : Int32} {st : List Value} {h : ab_Hp} {Q : ab_O → ab_Hp → Prop} : wp 35 3 [v0, v1, v2, v3] (.int w :: st) h Q = wp 35 4 [v0, ab_clr v1, .int w, v3] st h Q := wp_stp (ri := (.istore_n 2, 1, 0, 0, 0, 0)) (by decide +kernel) rfl rfl rfl
theorem i35_4 {v0 v1 v3 : Value} {x : Int32} {st : List Value} {h : ab_Hp} {Q : ab_O → ab_Hp → Prop} : wp 35 4 [v0, v1, .int x, v3] st h Q = wp 35 5 [v0, v1, .int x, v3] (.int x :: st) h Q := wp_stp (ri := (.iload_n 2, 1, 0, 0, 0, 0)) (by decide +kernel) rfl rfl rfl
theorem i35_5 {v0 v1 v2 v3 : Value} {st : List Value} {h : ab_Hp} {Q : ab_O → ab_Hp → Prop} (hv : ab_isA v0 = true) : wp 35 5 [v0, v1, v2, v3] st h Q = wp 35 6 [v0, v1, v2, v3] (v0 :: st) h Q := wp_aload_n (by decide +kernel : ab_cod 35 5 = some (.aload_n 0, 1, 0, 0, 0, 0)) hv
theorem i35_6 {v0 v1 v2 v3 : Value} {r : Nat} {st : List Value} {h : ab_Hp} {Q : ab_O → ab_Hp → Prop} (hk : (ab_sh h r).1 = 14) : wp 35 6 [v0, v1, v2, v3] (.ref r :: st) h Q = wp 35 9 [v0, v1, v2, v3] (.int (ab_hi h r 2) :: st) h Q := wp_gf (by decide +kernel : ab_cod 35 6 = some (.getfield 23, 3, 4, 2, 150, 0)) hk
theorem i35_9 {v0 v1 v2 v3 : Value} {x y : Int32} {st : List Value} {h : ab_Hp} {Q : ab_O → ab_Hp → Prop} : wp 35 9 [v0, v1, v2, v3] (.int y :: .int x :: st) h Q = if y ≤ x then wp 35 48 [v0, v1, v2, v3] st h Q else wp 35 12 [v0, v1, v2, v3] st h Q := wp_icmpP (by decide +kernel : ab_cod 35 9 = some (.if_icmp .ge 39, 3, 48, 0, 0, 0)) rfl
theorem i35_12 {v0 v1 v3 : Value} {x : Int32} {st : List Value} {h : ab_Hp} {Q : ab_O → ab_Hp → Prop} : wp 35 12 [v0, v1, .int x, v3] st h Q = wp 35 13 [v0, v1, .int x, v3] (.int x :: st) h Q := wp_stp (ri := (.iload_n 2, 1, 0, 0, 0, 0)) (by decide +kernel) rfl rfl rfl
theorem i35_13 {v0 v1 v2 v3 : Value} {st : List Value} {h : ab_Hp} {Q : ab_O → ab_Hp → Prop} (hv : ab_isA v0 = true) : wp 35 13 [v0, v1, v2, v3] st h Q = wp 35 14 [v0, v1, v2, v3] (v0 :: st) h Q := wp_aload_n (by decide +kernel : ab_cod 35 13 = some (.aload_n 0, 1, 0, 0, 0, 0)) hv
theorem i35_14 {v0 v1 v2 v3 : Value} {r : Nat} {st : List Value} {h : ab_Hp} {Q : ab_O → ab_Hp → Prop} (hk : (ab_sh h r).1 = 14) : wp 35 14 [v0, v1, v2, v3] (.ref r :: st) h Q = wp 35 17 [v0, v1, v2, v3] (va_rf (ab_hr h r 1) :: st) h Q := wp_gf (by decide +kernel : ab_cod 35 14 = some (.getfield 19, 3, 4, 1, 149, 1)) hk
theorem i35_17 {v0 v1 v2 v3 : Value} {r : Nat} {st : List Value} {h : ab_Hp} {Q : ab_O → ab_Hp → Prop} (hk : 1 ≤ (ab_sh h r).1 ∧ (ab_sh h r).1 ≤ 6) : wp 35 17 [v0, v1, v2, v3] (.ref r :: st) h Q = wp 35 18 [v0, v1, v2, v3] (.int (nI (ab_sh h r).2) :: st) h Q := wp_al (by decide +kernel : ab_cod 35 17 = some (.arraylength, 1, 0, 0, 0, 0)) hk
theorem i35_18 {v0 v1 v2 v3 : Value} {x y : Int32} {st : List Value} {h : ab_Hp} {Q : ab_O → ab_Hp → Prop} : wp 35 18 [v0, v1, v2, v3] (.int y :: .int x :: st) h Q = if y ≤ x then wp 35 48 [v0, v1, v2, v3] st h Q else wp 35 21 [v0, v1, v2, v3] st h Q := wp_icmpP (by decide +kernel : ab_cod 35 18 = some (.if_icmp .ge 30, 3, 48, 0, 0, 0)) rfl
theorem i35_21 {v0 v1 v2 v3 : Value} {st : List Value} {h : ab_Hp} {Q : ab_O → ab_Hp → Prop} (hv : ab_isA v0 = true) : wp 35 21 [v0, v1, v2, v3] st h Q = wp 35 22 [v0, v1, v2, v3] (v0 :: st) h Q := wp_aload_n (by decide +kernel : ab_cod 35 21 = some (.aload_n 0, 1, 0, 0, 0, 0)) hv
theorem i35_22 {v0 v1 v2 v3 : Value} {r : Nat} {st : List Value} {h : ab_Hp} {Q : ab_O → ab_Hp → Prop} (hk : (ab_sh h r).1 = 14) : wp 35 22 [v0, v1, v2, v3] (.ref r :: st) h Q = wp 35 25 [v0, v1, v2, v3] (va_rf (ab_hr h r 1) :: st) h Q := wp_gf (by decide +kernel : ab_cod 35 22 = some (.getfield 19, 3, 4, 1, 149, 1)) hk
theorem i35_25 {v0 v1 v3 : Value} {x : Int32} {st : List Value} {h : ab_Hp} {Q : ab_O → ab_Hp → Prop} : wp 35 25 [v0, v1, .int x, v3] st h Q = wp 35 26 [v0, v1, .int x, v3] (.int x :: st) h Q := wp_stp (ri := (.iload_n 2, 1, 0, 0, 0, 0)) (by decide +kernel) rfl rfl rfl
theorem i35_26 {v0 v1 v2 v3 : Value} {r : Nat} {x : Int32} {st : List Value} {h : ab_Hp} {Q : ab_O → ab_Hp → Prop} (hk : (3 ≤ (ab_sh h r).1 ∧ (ab_sh h r).1 ≤ 5) ∧ ab_in x (ab_sh h r).2 = true) : wp 35 26 [v0, v1, v2, v3] (.int x :: .ref r :: st) h Q = wp 35 27 [v0, v1, v2, v3] (va_rf (ab_hr h r x.toNatClampNeg) :: st) h Q := wp_aa (by decide +kernel : ab_cod 35 26 = some (.aaload, 1, 0, 0, 0, 0)) hk
theorem i35_27 {v0 v1 v2 v3 : Value} {w : Value} {st : List Value} {h : ab_Hp} {Q : ab_O → ab_Hp → Prop} (hv : ab_isA w = true) : wp 35 27 [v0, v1, v2, v3] (w :: st) h Q = wp 35 28 [v0, v1, ab_clr v2, w] st h Q := wp_astore_n (by decide +kernel : ab_cod 35 27 = some (.astore_n 3, 1, 0, 0, 0, 0)) hv
theorem i35_28 {v0 v1 v2 v3 : Value} {st : List Value} {h : ab_Hp} {Q : ab_O → ab_Hp → Prop} (hv : ab_isA v3 = true) : wp 35 28 [v0, v1, v2, v3] st h Q = wp 35 29 [v0, v1, v2, v3] (v3 :: st) h Q := wp_aload_n (by decide +kernel : ab_cod 35 28 = some (.aload_n 3, 1, 0, 0, 0, 0)) hv
theorem i35_29 {v0 v1 v2 v3 : Value} {o : Option Nat} {st : List Value} {h : ab_Hp} {Q : ab_O → ab_Hp → Prop} : wp 35 29 [v0, v1, v2, v3] (va_rf o :: st) h Q = if o = none then wp 35 42 [v0, v1, v2, v3] st h Q else wp 35 32 [v0, v1, v2, v3] st h Q := wp_ifnull (by decide +kernel : ab_cod 35 29 = some (.ifnull 13, 3, 42, 0, 0, 0)) o
theorem i35_29r {v0 v1 v2 v3 : Value} {r : Nat} {st : List Value} {h : ab_Hp} {Q : ab_O → ab_Hp → Prop} : wp 35 29 [v0, v1, v2, v3] (.ref r :: st) h Q = wp 35 32 [v0, v1, v2, v3] st h Q := wp_stp (ri := (.ifnull 13, 3, 42, 0, 0, 0)) (by decide +kernel) rfl rfl rfl
theorem i35_29n {v0 v1 v2 v3 : Value} {st : List Value} {h : ab_Hp} {Q : ab_O → ab_Hp → Prop} : wp 35 29 [v0, v1, v2, v3] (.null :: st) h Q = wp 35 42 [v0, v1, v2, v3] st h Q := wp_stp (ri := (.ifnull 13, 3, 42, 0, 0, 0)) (by decide +kernel) rfl rfl rfl
theorem i35_32 {v0 v2 v3 : Value} {x : Int32} {st : List Value} {h : ab_Hp} {Q : ab_O → ab_Hp → Prop} : wp 35 32 [v0, .int x, v2, v3] st h Q = wp 35 33 [v0, .int x, v2, v3] (.int x :: st) h Q := wp_stp (ri := (.iload_n 1, 1, 0, 0, 0, 0)) (by decide +kernel) rfl rfl rfl
theorem i35_33 {v0 v1 v2 v3 : Value} {st : List Value} {h : ab_Hp} {Q : ab_O → ab_Hp → Prop} (hv : ab_isA v3 = true) : wp 35 33 [v0, v1, v2, v3] st h Q = wp 35 34 [v0, v1, v2, v3] (v3 :: st) h Q := wp_aload_n (by decide +kernel : ab_cod 35 33 = some (.aload_n 3, 1, 0, 0, 0, 0)) hv
theorem i35_34 {v0 v1 v2 v3 : Value} {r : Nat} {st : List Value} {h : ab_Hp} {Q : ab_O → ab_Hp → Prop} (hk : (ab_sh h r).1 = 13) : wp 35 34 [v0, v1, v2, v3] (.ref r :: st) h Q = wp 35 37 [v0, v1, v2, v3] (va_rf (ab_hr h r 0) :: st) h Q := wp_gf (by decide +kernel : ab_cod 35 34 = some (.getfield 107, 3, 3, 0, 124, 1)) hk
theorem i35_37 {v0 v1 v2 v3 : Value} {r : Nat} {st : List Value} {h : ab_Hp} {Q : ab_O → ab_Hp → Prop} (hk : (ab_sh h r).1 = 11) : wp 35 37 [v0, v1, v2, v3] (.ref r :: st) h Q = wp 35 40 [v0, v1, v2, v3] (.int (ab_hi h r 1) :: st) h Q := wp_gf (by decide +kernel : ab_cod 35 37 = some (.getfield 60, 3, 1, 1, 61, 0)) hk
theorem i35_40 {v0 v1 v2 v3 : Value} {x y : Int32} {st : List Value} {h : ab_Hp} {Q : ab_O → ab_Hp → Prop} : wp 35 40 [v0, v1, v2, v3] (.int y :: .int x :: st) h Q = wp 35 41 [v0, v1, v2, v3] (.int (x + y) :: st) h Q := wp_stp (ri := (.iadd, 1, 0, 0, 0, 0)) (by decide +kernel) rfl rfl rfl
theorem i35_41 {v0 v1 v2 v3 : Value} {w : Int32} {st : List Value} {h : ab_Hp} {Q : ab_O → ab_Hp → Prop} : wp 35 41 [v0, v1, v2, v3] (.int w :: st) h Q = wp 35 42 [ab_clr v0, .int w, v2, v3] st h Q := wp_stp (ri := (.istore_n 1, 1, 0, 0, 0, 0)) (by decide +kernel) rfl rfl rfl
theorem i35_42 {v0 v1 v3 : Value} {x : Int32} {st : List Value} {h : ab_Hp} {Q : ab_O → ab_Hp → Prop} : wp 35 42 [v0, v1, .int x, v3] st h Q = wp 35 45 [v0, ab_clr v1, .int (x + nI 1), v3] st h Q := wp_stp (ri := (.iinc 2 1, 3, 0, 0, 0, 0)) (by decide +kernel) rfl rfl rfl
theorem i35_45 {v0 v1 v2 v3 : Value} {st : List Value} {h : ab_Hp} {Q : ab_O → ab_Hp → Prop} : wp 35 45 [v0, v1, v2, v3] st h Q = wp 35 4 [v0, v1, v2, v3] st h Q := wp_stp (ri := (.goto (-41), 3, 4, 0, 0, 0)) (by decide +kernel) rfl rfl rfl
theorem i35_48 {v0 v2 v3 : Value} {x : Int32} {st : List Value} {h : ab_Hp} {Q : ab_O → ab_Hp → Prop} : wp 35 48 [v0, .int x, v2, v3] st h Q = wp 35 49 [v0, .int x, v2, v3] (.int x :: st) h Q := wp_stp (ri := (.iload_n 1, 1, 0, 0, 0, 0)) (by decide +kernel) rfl rfl rfl
theorem i35_49 {v0 v1 v2 v3 : Value} {x : Int32} {h : ab_Hp} {Q : ab_O → ab_Hp → Prop} : wp 35 49 [v0, v1, v2, v3] [.int x] h Q = Q (.inl (some (.int x))) h := wp_iret (by decide +kernel : ab_cod 35 49 = some (.ireturn, 1, 0, 0, 0, 0)) rfl
/-! 36: SeamBeats$State.beatingRooms()I -/
theorem i36_0 {v0 v1 v2 v3 : Value} {st : List Value} {h : ab_Hp} {Q : ab_O → ab_Hp → Prop} : wp 36 0 [v0, v1, v2, v3] st h Q = wp 36 1 [v0, v1, v2, v3] (.int (nI 0) :: st) h Q := wp_stp (ri := (.iconst 0, 1, 0, 0, 0, 0)) (by decide +kernel) rfl rfl rfl
theorem i36_1 {v0 v1 v2 v3 : Value} {w : Int32} {st : List Value} {h : ab_Hp} {Q : ab_O → ab_Hp → Prop} : wp 36 1 [v0, v1, v2, v3] (.int w :: st) h Q = wp 36 2 [ab_clr v0, .int w, v2, v3] st h Q := wp_stp (ri := (.istore_n 1, 1, 0, 0, 0, 0)) (by decide +kernel) rfl rfl rfl
theorem i36_2 {v0 v1 v2 v3 : Value} {st : List Value} {h : ab_Hp} {Q : ab_O → ab_Hp → Prop} : wp 36 2 [v0, v1, v2, v3] st h Q = wp 36 3 [v0, v1, v2, v3] (.int (nI 0) :: st) h Q := wp_stp (ri := (.iconst 0, 1, 0, 0, 0, 0)) (by decide +kernel) rfl rfl rfl
theorem i36_3 {v0 v1 v2 v3 : Value} {w : Int32} {st : List Value} {h : ab_Hp} {Q : ab_O → ab_Hp → Prop} : wp 36 3 [v0, v1, v2, v3] (.int w :: st) h Q = wp 36 4 [v0, ab_clr v1, .int w, v3] st h Q := wp_stp (ri := (.istore_n 2, 1, 0, 0, 0, 0)) (by decide +kernel) rfl rfl rfl
theorem i36_4 {v0 v1 v3 : Value} {x : Int32} {st : List Value} {h : ab_Hp} {Q : ab_O → ab_Hp → Prop} : wp 36 4 [v0, v1, .int x, v3] st h Q = wp 36 5 [v0, v1, .int x, v3] (.int x :: st) h Q := wp_stp (ri := (.iload_n 2, 1, 0, 0, 0, 0)) (by decide +kernel) rfl rfl rfl
theorem i36_5 {v0 v1 v2 v3 : Value} {st : List Value} {h : ab_Hp} {Q : ab_O → ab_Hp → Prop} (hv : ab_isA v0 = true) : wp 36 5 [v0, v1, v2, v3] st h Q = wp 36 6 [v0, v1, v2, v3] (v0 :: st) h Q := wp_aload_n (by decide +kernel : ab_cod 36 5 = some (.aload_n 0, 1, 0, 0, 0, 0)) hv
theorem i36_6 {v0 v1 v2 v3 : Value} {r : Nat} {st : List Value} {h : ab_Hp} {Q : ab_O → ab_Hp → Prop} (hk : (ab_sh h r).1 = 14) : wp 36 6 [v0, v1, v2, v3] (.ref r :: st) h Q = wp 36 9 [v0, v1, v2, v3] (va_rf (ab_hr h r 0) :: st) h Q := wp_gf (by decide +kernel : ab_cod 36 6 = some (.getfield 11, 3, 4, 0, 148, 1)) hk
theorem i36_9 {v0 v1 v2 v3 : Value} {r : Nat} {st : List Value} {h : ab_Hp} {Q : ab_O → ab_Hp → Prop} (hk : 1 ≤ (ab_sh h r).1 ∧ (ab_sh h r).1 ≤ 6) : wp 36 9 [v0, v1, v2, v3] (.ref r :: st) h Q = wp 36 10 [v0, v1, v2, v3] (.int (nI (ab_sh h r).2) :: st) h Q := wp_al (by decide +kernel : ab_cod 36 9 = some (.arraylength, 1, 0, 0, 0, 0)) hk
theorem i36_10 {v0 v1 v2 v3 : Value} {x y : Int32} {st : List Value} {h : ab_Hp} {Q : ab_O → ab_Hp → Prop} : wp 36 10 [v0, v1, v2, v3] (.int y :: .int x :: st) h Q = if y ≤ x then wp 36 54 [v0, v1, v2, v3] st h Q else wp 36 13 [v0, v1, v2, v3] st h Q := wp_icmpP (by decide +kernel : ab_cod 36 10 = some (.if_icmp .ge 44, 3, 54, 0, 0, 0)) rfl
theorem i36_13 {v0 v1 v2 v3 : Value} {st : List Value} {h : ab_Hp} {Q : ab_O → ab_Hp → Prop} (hv : ab_isA v0 = true) : wp 36 13 [v0, v1, v2, v3] st h Q = wp 36 14 [v0, v1, v2, v3] (v0 :: st) h Q := wp_aload_n (by decide +kernel : ab_cod 36 13 = some (.aload_n 0, 1, 0, 0, 0, 0)) hv
theorem i36_14 {v0 v1 v2 v3 : Value} {r : Nat} {st : List Value} {h : ab_Hp} {Q : ab_O → ab_Hp → Prop} (hk : (ab_sh h r).1 = 14) : wp 36 14 [v0, v1, v2, v3] (.ref r :: st) h Q = wp 36 17 [v0, v1, v2, v3] (va_rf (ab_hr h r 0) :: st) h Q := wp_gf (by decide +kernel : ab_cod 36 14 = some (.getfield 11, 3, 4, 0, 148, 1)) hk
theorem i36_17 {v0 v1 v3 : Value} {x : Int32} {st : List Value} {h : ab_Hp} {Q : ab_O → ab_Hp → Prop} : wp 36 17 [v0, v1, .int x, v3] st h Q = wp 36 18 [v0, v1, .int x, v3] (.int x :: st) h Q := wp_stp (ri := (.iload_n 2, 1, 0, 0, 0, 0)) (by decide +kernel) rfl rfl rfl
theorem i36_18 {v0 v1 v2 v3 : Value} {r : Nat} {x : Int32} {st : List Value} {h : ab_Hp} {Q : ab_O → ab_Hp → Prop} (hk : (3 ≤ (ab_sh h r).1 ∧ (ab_sh h r).1 ≤ 5) ∧ ab_in x (ab_sh h r).2 = true) : wp 36 18 [v0, v1, v2, v3] (.int x :: .ref r :: st) h Q = wp 36 19 [v0, v1, v2, v3] (va_rf (ab_hr h r x.toNatClampNeg) :: st) h Q := wp_aa (by decide +kernel : ab_cod 36 18 = some (.aaload, 1, 0, 0, 0, 0)) hk
theorem i36_19 {v0 v1 v2 v3 : Value} {w : Value} {st : List Value} {h : ab_Hp} {Q : ab_O → ab_Hp → Prop} (hv : ab_isA w = true) : wp 36 19 [v0, v1, v2, v3] (w :: st) h Q = wp 36 20 [v0, v1, ab_clr v2, w] st h Q := wp_astore_n (by decide +kernel : ab_cod 36 19 = some (.astore_n 3, 1, 0, 0, 0, 0)) hv
theorem i36_20 {v0 v1 v2 v3 : Value} {st : List Value} {h : ab_Hp} {Q : ab_O → ab_Hp → Prop} (hv : ab_isA v3 = true) : wp 36 20 [v0, v1, v2, v3] st h Q = wp 36 21 [v0, v1, v2, v3] (v3 :: st) h Q := wp_aload_n (by decide +kernel : ab_cod 36 20 = some (.aload_n 3, 1, 0, 0, 0, 0)) hv
theorem i36_21 {v0 v1 v2 v3 : Value} {o : Option Nat} {st : List Value} {h : ab_Hp} {Q : ab_O → ab_Hp → Prop} : wp 36 21 [v0, v1, v2, v3] (va_rf o :: st) h Q = if o = none then wp 36 48 [v0, v1, v2, v3] st h Q else wp 36 24 [v0, v1, v2, v3] st h Q := wp_ifnull (by decide +kernel : ab_cod 36 21 = some (.ifnull 27, 3, 48, 0, 0, 0)) o
theorem i36_21r {v0 v1 v2 v3 : Value} {r : Nat} {st : List Value} {h : ab_Hp} {Q : ab_O → ab_Hp → Prop} : wp 36 21 [v0, v1, v2, v3] (.ref r :: st) h Q = wp 36 24 [v0, v1, v2, v3] st h Q := wp_stp (ri := (.ifnull 27, 3, 48, 0, 0, 0)) (by decide +kernel) rfl rfl rfl
theorem i36_21n {v0 v1 v2 v3 : Value} {st : List Value} {h : ab_Hp} {Q : ab_O → ab_Hp → Prop} : wp 36 21 [v0, v1, v2, v3] (.null :: st) h Q = wp 36 48 [v0, v1, v2, v3] st h Q := wp_stp (ri := (.ifnull 27, 3, 48, 0, 0, 0)) (by decide +kernel) rfl rfl rfl
theorem i36_24 {v0 v1 v2 v3 : Value} {st : List Value} {h : ab_Hp} {Q : ab_O → ab_Hp → Prop} (hv : ab_isA v3 = true) : wp 36 24 [v0, v1, v2, v3] st h Q = wp 36 25 [v0, v1, v2, v3] (v3 :: st) h Q := wp_aload_n (by decide +kernel : ab_cod 36 24 = some (.aload_n 3, 1, 0, 0, 0, 0)) hv
theorem i36_25 {v0 v1 v2 v3 : Value} {st : List Value} {h : ab_Hp} {Q : ab_O → ab_Hp → Prop} (hv : ab_isA v0 = true) : wp 36 25 [v0, v1, v2, v3] st h Q = wp 36 26 [v0, v1, v2, v3] (v0 :: st) h Q := wp_aload_n (by decide +kernel : ab_cod 36 25 = some (.aload_n 0, 1, 0, 0, 0, 0)) hv
theorem i36_26 {v0 v1 v2 v3 : Value} {r : Nat} {st : List Value} {h : ab_Hp} {Q : ab_O → ab_Hp → Prop} (hk : (ab_sh h r).1 = 14) : wp 36 26 [v0, v1, v2, v3] (.ref r :: st) h Q = wp 36 29 [v0, v1, v2, v3] (.int (ab_hi h r 3) :: st) h Q := wp_gf (by decide +kernel : ab_cod 36 26 = some (.getfield 27, 3, 4, 3, 152, 0)) hk
theorem i36_29 {v0 v1 v2 v3 : Value} {r : Nat} {a0 : Int32} {st : List Value} {h : ab_Hp} {Q : ab_O → ab_Hp → Prop} (hl : st.length ≤ 4) (hk : (ab_sh h r).1 = 12) : wp 36 29 [v0, v1, v2, v3] (.int a0 :: .ref r :: st) h Q = wp 14 0 [.ref r, .int a0] [] h (ab_K 36 29 [v0, v1, v2, v3] st Q) := wp_callV (as := [.int a0]) (by decide +kernel : ab_cod 36 29 = some (.invokevirtual 72, 3, 14, 2, 0, 391)) rfl rfl rfl rfl hl hk
theorem i36_32 {v0 v1 v2 v3 : Value} {x : Int32} {st : List Value} {h : ab_Hp} {Q : ab_O → ab_Hp → Prop} : wp 36 32 [v0, v1, v2, v3] (.int x :: st) h Q = if x = 0 then wp 36 48 [v0, v1, v2, v3] st h Q else wp 36 35 [v0, v1, v2, v3] st h Q := wp_ifcP (by decide +kernel : ab_cod 36 32 = some (.ifCond .eq 16, 3, 48, 0, 0, 0)) rfl
theorem i36_35 {v0 v1 v2 v3 : Value} {st : List Value} {h : ab_Hp} {Q : ab_O → ab_Hp → Prop} (hv : ab_isA v3 = true) : wp 36 35 [v0, v1, v2, v3] st h Q = wp 36 36 [v0, v1, v2, v3] (v3 :: st) h Q := wp_aload_n (by decide +kernel : ab_cod 36 35 = some (.aload_n 3, 1, 0, 0, 0, 0)) hv
theorem i36_36 {v0 v1 v2 v3 : Value} {r : Nat} {st : List Value} {h : ab_Hp} {Q : ab_O → ab_Hp → Prop} (hk : (ab_sh h r).1 = 12) : wp 36 36 [v0, v1, v2, v3] (.ref r :: st) h Q = wp 36 39 [v0, v1, v2, v3] (.int (ab_hi h r 5) :: st) h Q := wp_gf (by decide +kernel : ab_cod 36 36 = some (.getfield 76, 3, 2, 5, 81, 0)) hk
theorem i36_39 {v0 v1 v2 v3 : Value} {x : Int32} {st : List Value} {h : ab_Hp} {Q : ab_O → ab_Hp → Prop} : wp 36 39 [v0, v1, v2, v3] (.int x :: st) h Q = if ¬ x = 0 then wp 36 48 [v0, v1, v2, v3] st h Q else wp 36 42 [v0, v1, v2, v3] st h Q := wp_ifcP (by decide +kernel : ab_cod 36 39 = some (.ifCond .ne 9, 3, 48, 0, 0, 0)) rfl
theorem i36_42 {v0 v2 v3 : Value} {x : Int32} {st : List Value} {h : ab_Hp} {Q : ab_O → ab_Hp → Prop} : wp 36 42 [v0, .int x, v2, v3] st h Q = wp 36 43 [v0, .int x, v2, v3] (.int x :: st) h Q := wp_stp (ri := (.iload_n 1, 1, 0, 0, 0, 0)) (by decide +kernel) rfl rfl rfl
theorem i36_43 {v0 v1 v2 v3 : Value} {st : List Value} {h : ab_Hp} {Q : ab_O → ab_Hp → Prop} : wp 36 43 [v0, v1, v2, v3] st h Q = wp 36 44 [v0, v1, v2, v3] (.int (nI 1) :: st) h Q := wp_stp (ri := (.iconst 1, 1, 0, 0, 0, 0)) (by decide +kernel) rfl rfl rfl
theorem i36_44 {v0 v1 v3 : Value} {x : Int32} {st : List Value} {h : ab_Hp} {Q : ab_O → ab_Hp → Prop} : wp 36 44 [v0, v1, .int x, v3] st h Q = wp 36 45 [v0, v1, .int x, v3] (.int x :: st) h Q := wp_stp (ri := (.iload_n 2, 1, 0, 0, 0, 0)) (by decide +kernel) rfl rfl rfl
theorem i36_45 {v0 v1 v2 v3 : Value} {x y : Int32} {st : List Value} {h : ab_Hp} {Q : ab_O → ab_Hp → Prop} : wp 36 45 [v0, v1, v2, v3] (.int y :: .int x :: st) h Q = wp 36 46 [v0, v1, v2, v3] (.int (x <<< (y &&& 31)) :: st) h Q := wp_stp (ri := (.ishl, 1, 0, 0, 0, 0)) (by decide +kernel) rfl rfl rfl
theorem i36_46 {v0 v1 v2 v3 : Value} {x y : Int32} {st : List Value} {h : ab_Hp} {Q : ab_O → ab_Hp → Prop} : wp 36 46 [v0, v1, v2, v3] (.int y :: .int x :: st) h Q = wp 36 47 [v0, v1, v2, v3] (.int (x ||| y) :: st) h Q := wp_stp (ri := (.ior, 1, 0, 0, 0, 0)) (by decide +kernel) rfl rfl rfl
theorem i36_47 {v0 v1 v2 v3 : Value} {w : Int32} {st : List Value} {h : ab_Hp} {Q : ab_O → ab_Hp → Prop} : wp 36 47 [v0, v1, v2, v3] (.int w :: st) h Q = wp 36 48 [ab_clr v0, .int w, v2, v3] st h Q := wp_stp (ri := (.istore_n 1, 1, 0, 0, 0, 0)) (by decide +kernel) rfl rfl rfl
theorem i36_48 {v0 v1 v3 : Value} {x : Int32} {st : List Value} {h : ab_Hp} {Q : ab_O → ab_Hp → Prop} : wp 36 48 [v0, v1, .int x, v3] st h Q = wp 36 51 [v0, ab_clr v1, .int (x + nI 1), v3] st h Q := wp_stp (ri := (.iinc 2 1, 3, 0, 0, 0, 0)) (by decide +kernel) rfl rfl rfl
theorem i36_51 {v0 v1 v2 v3 : Value} {st : List Value} {h : ab_Hp} {Q : ab_O → ab_Hp → Prop} : wp 36 51 [v0, v1, v2, v3] st h Q = wp 36 4 [v0, v1, v2, v3] st h Q := wp_stp (ri := (.goto (-47), 3, 4, 0, 0, 0)) (by decide +kernel) rfl rfl rfl
theorem i36_54 {v0 v2 v3 : Value} {x : Int32} {st : List Value} {h : ab_Hp} {Q : ab_O → ab_Hp → Prop} : wp 36 54 [v0, .int x, v2, v3] st h Q = wp 36 55 [v0, .int x, v2, v3] (.int x :: st) h Q := wp_stp (ri := (.iload_n 1, 1, 0, 0, 0, 0)) (by decide +kernel) rfl rfl rfl
theorem i36_55 {v0 v1 v2 v3 : Value} {x : Int32} {h : ab_Hp} {Q : ab_O → ab_Hp → Prop} : wp 36 55 [v0, v1, v2, v3] [.int x] h Q = Q (.inl (some (.int x))) h := wp_iret (by decide +kernel : ab_cod 36 55 = some (.ireturn, 1, 0, 0, 0, 0)) rfl
/-! 37: SeamBeats$State.holds(I)Z -/
set_option maxRecDepth 100000 in
theorem i37_0 {v0 v1 v2 v3 : Value} {st : List Value} {h : ab_Hp} {Q : ab_O → ab_Hp → Prop} : wp 37 0 [v0, v1, v2, v3] st h Q = wp 37 1 [v0, v1, v2, v3] (.int (nI 0) :: st) h Q := wp_stp (ri := (.iconst 0, 1, 0, 0, 0, 0)) (by decide +kernel) rfl rfl rfl
set_option maxRecDepth 100000 in
theorem i37_1 {v0 v1 v2 v3 : Value} {w : Int32} {st : List Value} {h : ab_Hp} {Q : ab_O → ab_Hp → Prop} : wp 37 1 [v0, v1, v2, v3] (.int w :: st) h Q = wp 37 2 [v0, ab_clr v1, .int w, v3] st h Q := wp_stp (ri := (.istore_n 2, 1, 0, 0, 0, 0)) (by decide +kernel) rfl rfl rfl
set_option maxRecDepth 100000 in
theorem i37_2 {v0 v1 v3 : Value} {x : Int32} {st : List Value} {h : ab_Hp} {Q : ab_O → ab_Hp → Prop} : wp 37 2 [v0, v1, .int x, v3] st h Q = wp 37 3 [v0, v1, .int x, v3] (.int x :: st) h Q := wp_stp (ri := (.iload_n 2, 1, 0, 0, 0, 0)) (by decide +kernel) rfl rfl rfl
set_option maxRecDepth 100000 in
theorem i37_3 {v0 v1 v2 v3 : Value} {st : List Value} {h : ab_Hp} {Q : ab_O → ab_Hp → Prop} (hv : ab_isA v0 = true) : wp 37 3 [v0, v1, v2, v3] st h Q = wp 37 4 [v0, v1, v2, v3] (v0 :: st) h Q := wp_aload_n (by decide +kernel : ab_cod 37 3 = some (.aload_n 0, 1, 0, 0, 0, 0)) hv
set_option maxRecDepth 100000 in
theorem i37_4 {v0 v1 v2 v3 : Value} {r : Nat} {st : List Value} {h : ab_Hp} {Q : ab_O → ab_Hp → Prop} (hk : (ab_sh h r).1 = 14) : wp 37 4 [v0, v1, v2, v3] (.ref r :: st) h Q = wp 37 7 [v0, v1, v2, v3] (va_rf (ab_hr h r 0) :: st) h Q := wp_gf (by decide +kernel : ab_cod 37 4 = some (.getfield 11, 3, 4, 0, 148, 1)) hk
set_option maxRecDepth 100000 in
theorem i37_7 {v0 v1 v2 v3 : Value} {r : Nat} {st : List Value} {h : ab_Hp} {Q : ab_O → ab_Hp → Prop} (hk : 1 ≤ (ab_sh h r).1 ∧ (ab_sh h r).1 ≤ 6) : wp 37 7 [v0, v1, v2, v3] (.ref r :: st) h Q = wp 37 8 [v0, v1, v2, v3] (.int (nI (ab_sh h r).2) :: st) h Q := wp_al (by decide +kernel : ab_cod 37 7 = some (.arraylength, 1, 0, 0, 0, 0)) hk
set_option maxRecDepth 100000 in
theorem i37_8 {v0 v1 v2 v3 : Value} {x y : Int32} {st : List Value} {h : ab_Hp} {Q : ab_O → ab_Hp → Prop} : wp 37 8 [v0, v1, v2, v3] (.int y :: .int x :: st) h Q = if y ≤ x then wp 37 41 [v0, v1, v2, v3] st h Q else wp 37 11 [v0, v1, v2, v3] st h Q := wp_icmpP (by decide +kernel : ab_cod 37 8 = some (.if_icmp .ge 33, 3, 41, 0, 0, 0)) rfl
set_option maxRecDepth 100000 in
theorem i37_11 {v0 v1 v2 v3 : Value} {st : List Value} {h : ab_Hp} {Q : ab_O → ab_Hp → Prop} (hv : ab_isA v0 = true) : wp 37 11 [v0, v1, v2, v3] st h Q = wp 37 12 [v0, v1, v2, v3] (v0 :: st) h Q := wp_aload_n (by decide +kernel : ab_cod 37 11 = some (.aload_n 0, 1, 0, 0, 0, 0)) hv
set_option maxRecDepth 100000 in
theorem i37_12 {v0 v1 v2 v3 : Value} {r : Nat} {st : List Value} {h : ab_Hp} {Q : ab_O → ab_Hp → Prop} (hk : (ab_sh h r).1 = 14) : wp 37 12 [v0, v1, v2, v3] (.ref r :: st) h Q = wp 37 15 [v0, v1, v2, v3] (va_rf (ab_hr h r 0) :: st) h Q := wp_gf (by decide +kernel : ab_cod 37 12 = some (.getfield 11, 3, 4, 0, 148, 1)) hk
set_option maxRecDepth 100000 in
theorem i37_15 {v0 v1 v3 : Value} {x : Int32} {st : List Value} {h : ab_Hp} {Q : ab_O → ab_Hp → Prop} : wp 37 15 [v0, v1, .int x, v3] st h Q = wp 37 16 [v0, v1, .int x, v3] (.int x :: st) h Q := wp_stp (ri := (.iload_n 2, 1, 0, 0, 0, 0)) (by decide +kernel) rfl rfl rfl
set_option maxRecDepth 100000 in
theorem i37_16 {v0 v1 v2 v3 : Value} {r : Nat} {x : Int32} {st : List Value} {h : ab_Hp} {Q : ab_O → ab_Hp → Prop} (hk : (3 ≤ (ab_sh h r).1 ∧ (ab_sh h r).1 ≤ 5) ∧ ab_in x (ab_sh h r).2 = true) : wp 37 16 [v0, v1, v2, v3] (.int x :: .ref r :: st) h Q = wp 37 17 [v0, v1, v2, v3] (va_rf (ab_hr h r x.toNatClampNeg) :: st) h Q := wp_aa (by decide +kernel : ab_cod 37 16 = some (.aaload, 1, 0, 0, 0, 0)) hk
set_option maxRecDepth 100000 in
theorem i37_17 {v0 v1 v2 v3 : Value} {w : Value} {st : List Value} {h : ab_Hp} {Q : ab_O → ab_Hp → Prop} (hv : ab_isA w = true) : wp 37 17 [v0, v1, v2, v3] (w :: st) h Q = wp 37 18 [v0, v1, ab_clr v2, w] st h Q := wp_astore_n (by decide +kernel : ab_cod 37 17 = some (.astore_n 3, 1, 0, 0, 0, 0)) hv
set_option maxRecDepth 100000 in
theorem i37_18 {v0 v1 v2 v3 : Value} {st : List Value} {h : ab_Hp} {Q : ab_O → ab_Hp → Prop} (hv : ab_isA v3 = true) : wp 37 18 [v0, v1, v2, v3] st h Q = wp 37 19 [v0, v1, v2, v3] (v3 :: st) h Q := wp_aload_n (by decide +kernel : ab_cod 37 18 = some (.aload_n 3, 1, 0, 0, 0, 0)) hv
set_option maxRecDepth 100000 in
theorem i37_19 {v0 v1 v2 v3 : Value} {o : Option Nat} {st : List Value} {h : ab_Hp} {Q : ab_O → ab_Hp → Prop} : wp 37 19 [v0, v1, v2, v3] (va_rf o :: st) h Q = if o = none then wp 37 35 [v0, v1, v2, v3] st h Q else wp 37 22 [v0, v1, v2, v3] st h Q := wp_ifnull (by decide +kernel : ab_cod 37 19 = some (.ifnull 16, 3, 35, 0, 0, 0)) o
set_option maxRecDepth 100000 in
theorem i37_19r {v0 v1 v2 v3 : Value} {r : Nat} {st : List Value} {h : ab_Hp} {Q : ab_O → ab_Hp → Prop} : wp 37 19 [v0, v1, v2, v3] (.ref r :: st) h Q = wp 37 22 [v0, v1, v2, v3] st h Q := wp_stp (ri := (.ifnull 16, 3, 35, 0, 0, 0)) (by decide +kernel) rfl rfl rfl
set_option maxRecDepth 100000 in
theorem i37_19n {v0 v1 v2 v3 : Value} {st : List Value} {h : ab_Hp} {Q : ab_O → ab_Hp → Prop} : wp 37 19 [v0, v1, v2, v3] (.null :: st) h Q = wp 37 35 [v0, v1, v2, v3] st h Q := wp_stp (ri := (.ifnull 16, 3, 35, 0, 0, 0)) (by decide +kernel) rfl rfl rfl
set_option maxRecDepth 100000 in
theorem i37_22 {v0 v1 v2 v3 : Value} {st : List Value} {h : ab_Hp} {Q : ab_O → ab_Hp → Prop} (hv : ab_isA v3 = true) : wp 37 22 [v0, v1, v2, v3] st h Q = wp 37 23 [v0, v1, v2, v3] (v3 :: st) h Q := wp_aload_n (by decide +kernel : ab_cod 37 22 = some (.aload_n 3, 1, 0, 0, 0, 0)) hv
set_option maxRecDepth 100000 in
theorem i37_23 {v0 v1 v2 v3 : Value} {r : Nat} {st : List Value} {h : ab_Hp} {Q : ab_O → ab_Hp → Prop} (hk : (ab_sh h r).1 = 12) : wp 37 23 [v0, v1, v2, v3] (.ref r :: st) h Q = wp 37 26 [v0, v1, v2, v3] (va_rf (ab_hr h r 0) :: st) h Q := wp_gf (by decide +kernel : ab_cod 37 23 = some (.getfield 56, 3, 2, 0, 69, 1)) hk
set_option maxRecDepth 100000 in
theorem i37_26 {v0 v2 v3 : Value} {x : Int32} {st : List Value} {h : ab_Hp} {Q : ab_O → ab_Hp → Prop} : wp 37 26 [v0, .int x, v2, v3] st h Q = wp 37 27 [v0, .int x, v2, v3] (.int x :: st) h Q := wp_stp (ri := (.iload_n 1, 1, 0, 0, 0, 0)) (by decide +kernel) rfl rfl rfl
set_option maxRecDepth 100000 in
theorem i37_27 {v0 v1 v2 v3 : Value} {r : Nat} {a0 : Int32} {st : List Value} {h : ab_Hp} {Q : ab_O → ab_Hp → Prop} (hl : st.length ≤ 4) (hk : (ab_sh h r).1 = 11) : wp 37 27 [v0, v1, v2, v3] (.int a0 :: .ref r :: st) h Q = wp 11 0 [.ref r, .int a0, ab_nov] [] h (ab_K 37 27 [v0, v1, v2, v3] st Q) := wp_callV (as := [.int a0]) (by decide +kernel : ab_cod 37 27 = some (.invokevirtual 146, 3, 11, 2, 0, 556)) rfl rfl rfl rfl hl hk
set_option maxRecDepth 100000 in
theorem i37_30 {v0 v1 v2 v3 : Value} {x : Int32} {st : List Value} {h : ab_Hp} {Q : ab_O → ab_Hp → Prop} : wp 37 30 [v0, v1, v2, v3] (.int x :: st) h Q = if x = 0 then wp 37 35 [v0, v1, v2, v3] st h Q else wp 37 33 [v0, v1, v2, v3] st h Q := wp_ifcP (by decide +kernel : ab_cod 37 30 = some (.ifCond .eq 5, 3, 35, 0, 0, 0)) rfl
set_option maxRecDepth 100000 in
theorem i37_33 {v0 v1 v2 v3 : Value} {st : List Value} {h : ab_Hp} {Q : ab_O → ab_Hp → Prop} : wp 37 33 [v0, v1, v2, v3] st h Q = wp 37 34 [v0, v1, v2, v3] (.int (nI 1) :: st) h Q := wp_stp (ri := (.iconst 1, 1, 0, 0, 0, 0)) (by decide +kernel) rfl rfl rfl
set_option maxRecDepth 100000 in
theorem i37_34 {v0 v1 v2 v3 : Value} {x : Int32} {h : ab_Hp} {Q : ab_O → ab_Hp → Prop} (hx : x = 0 ∨ x = 1) : wp 37 34 [v0, v1, v2, v3] [.int x] h Q = Q (.inl (some (.int x))) h := wp_zret (by decide +kernel : ab_cod 37 34 = some (.ireturn, 1, 0, 0, 0, 0)) rfl hx
set_option maxRecDepth 100000 in
theorem i37_35 {v0 v1 v3 : Value} {x : Int32} {st : List Value} {h : ab_Hp} {Q : ab_O → ab_Hp → Prop} : wp 37 35 [v0, v1, .int x, v3] st h Q = wp 37 38 [v0, ab_clr v1, .int (x + nI 1), v3] st h Q := wp_stp (ri := (.iinc 2 1, 3, 0, 0, 0, 0)) (by decide +kernel) rfl rfl rfl
set_option maxRecDepth 100000 in
theorem i37_38 {v0 v1 v2 v3 : Value} {st : List Value} {h : ab_Hp} {Q : ab_O → ab_Hp → Prop} : wp 37 38 [v0, v1, v2, v3] st h Q = wp 37 2 [v0, v1, v2, v3] st h Q := wp_stp (ri := (.goto (-36), 3, 2, 0, 0, 0)) (by decide +kernel) rfl rfl rfl
set_option maxRecDepth 100000 in
theorem i37_41 {v0 v1 v2 v3 : Value} {st : List Value} {h : ab_Hp} {Q : ab_O → ab_Hp → Prop} : wp 37 41 [v0, v1, v2, v3] st h Q = wp 37 42 [v0, v1, v2, v3] (.int (nI 0) :: st) h Q := wp_stp (ri := (.iconst 0, 1, 0, 0, 0, 0)) (by decide +kernel) rfl rfl rfl
set_option maxRecDepth 100000 in
theorem i37_42 {v0 v1 v2 v3 : Value} {w : Int32} {st : List Value} {h : ab_Hp} {Q : ab_O → ab_Hp → Prop} : wp 37 42 [v0, v1, v2, v3] (.int w :: st) h Q = wp 37 43 [v0, ab_clr v1, .int w, v3] st h Q := wp_stp (ri := (.istore_n 2, 1, 0, 0, 0, 0)) (by decide +kernel) rfl rfl rfl
set_option maxRecDepth 100000 in
theorem i37_43 {v0 v1 v3 : Value} {x : Int32} {st : List Value} {h : ab_Hp} {Q : ab_O → ab_Hp → Prop} : wp 37 43 [v0, v1, .int x, v3] st h Q = wp 37 44 [v0, v1, .int x, v3] (.int x :: st) h Q := wp_stp (ri := (.iload_n 2, 1, 0, 0, 0, 0)) (by decide +kernel) rfl rfl rfl
set_option maxRecDepth 100000 in
theorem i37_44 {v0 v1 v2 v3 : Value} {st : List Value} {h : ab_Hp} {Q : ab_O → ab_Hp → Prop} (hv : ab_isA v0 = true) : wp 37 44 [v0, v1, v2, v3] st h Q = wp 37 45 [v0, v1, v2, v3] (v0 :: st) h Q := wp_aload_n (by decide +kernel : ab_cod 37 44 = some (.aload_n 0, 1, 0, 0, 0, 0)) hv
set_option maxRecDepth 100000 in
theorem i37_45 {v0 v1 v2 v3 : Value} {r : Nat} {st : List Value} {h : ab_Hp} {Q : ab_O → ab_Hp → Prop} (hk : (ab_sh h r).1 = 14) : wp 37 45 [v0, v1, v2, v3] (.ref r :: st) h Q = wp 37 48 [v0, v1, v2, v3] (.int (ab_hi h r 2) :: st) h Q := wp_gf (by decide +kernel : ab_cod 37 45 = some (.getfield 23, 3, 4, 2, 150, 0)) hk
set_option maxRecDepth 100000 in
theorem i37_48 {v0 v1 v2 v3 : Value} {x y : Int32} {st : List Value} {h : ab_Hp} {Q : ab_O → ab_Hp → Prop} : wp 37 48 [v0, v1, v2, v3] (.int y :: .int x :: st) h Q = if y ≤ x then wp 37 90 [v0, v1, v2, v3] st h Q else wp 37 51 [v0, v1, v2, v3] st h Q := wp_icmpP (by decide +kernel : ab_cod 37 48 = some (.if_icmp .ge 42, 3, 90, 0, 0, 0)) rfl
set_option maxRecDepth 100000 in
theorem i37_51 {v0 v1 v3 : Value} {x : Int32} {st : List Value} {h : ab_Hp} {Q : ab_O → ab_Hp → Prop} : wp 37 51 [v0, v1, .int x, v3] st h Q = wp 37 52 [v0, v1, .int x, v3] (.int x :: st) h Q := wp_stp (ri := (.iload_n 2, 1, 0, 0, 0, 0)) (by decide +kernel) rfl rfl rfl
set_option maxRecDepth 100000 in
theorem i37_52 {v0 v1 v2 v3 : Value} {st : List Value} {h : ab_Hp} {Q : ab_O → ab_Hp → Prop} (hv : ab_isA v0 = true) : wp 37 52 [v0, v1, v2, v3] st h Q = wp 37 53 [v0, v1, v2, v3] (v0 :: st) h Q := wp_aload_n (by decide +kernel : ab_cod 37 52 = some (.aload_n 0, 1, 0, 0, 0, 0)) hv
set_option maxRecDepth 100000 in
theorem i37_53 {v0 v1 v2 v3 : Value} {r : Nat} {st : List Value} {h : ab_Hp} {Q : ab_O → ab_Hp → Prop} (hk : (ab_sh h r).1 = 14) : wp 37 53 [v0, v1, v2, v3] (.ref r :: st) h Q = wp 37 56 [v0, v1, v2, v3] (va_rf (ab_hr h r 1) :: st) h Q := wp_gf (by decide +kernel : ab_cod 37 53 = some (.getfield 19, 3, 4, 1, 149, 1)) hk
set_option maxRecDepth 100000 in
theorem i37_56 {v0 v1 v2 v3 : Value} {r : Nat} {st : List Value} {h : ab_Hp} {Q : ab_O → ab_Hp → Prop} (hk : 1 ≤ (ab_sh h r).1 ∧ (ab_sh h r).1 ≤ 6) : wp 37 56 [v0, v1, v2, v3] (.ref r :: st) h Q = wp 37 57 [v0, v1, v2, v3] (.int (nI (ab_sh h r).2) :: st) h Q := wp_al (by decide +kernel : ab_cod 37 56 = some (.arraylength, 1, 0, 0, 0, 0)) hk
set_option maxRecDepth 100000 in
theorem i37_57 {v0 v1 v2 v3 : Value} {x y : Int32} {st : List Value} {h : ab_Hp} {Q : ab_O → ab_Hp → Prop} : wp 37 57 [v0, v1, v2, v3] (.int y :: .int x :: st) h Q = if y ≤ x then wp 37 90 [v0, v1, v2, v3] st h Q else wp 37 60 [v0, v1, v2, v3] st h Q := wp_icmpP (by decide +kernel : ab_cod 37 57 = some (.if_icmp .ge 33, 3, 90, 0, 0, 0)) rfl
set_option maxRecDepth 100000 in
theorem i37_60 {v0 v1 v2 v3 : Value} {st : List Value} {h : ab_Hp} {Q : ab_O → ab_Hp → Prop} (hv : ab_isA v0 = true) : wp 37 60 [v0, v1, v2, v3] st h Q = wp 37 61 [v0, v1, v2, v3] (v0 :: st) h Q := wp_aload_n (by decide +kernel : ab_cod 37 60 = some (.aload_n 0, 1, 0, 0, 0, 0)) hv
set_option maxRecDepth 100000 in
theorem i37_61 {v0 v1 v2 v3 : Value} {r : Nat} {st : List Value} {h : ab_Hp} {Q : ab_O → ab_Hp → Prop} (hk : (ab_sh h r).1 = 14) : wp 37 61 [v0, v1, v2, v3] (.ref r :: st) h Q = wp 37 64 [v0, v1, v2, v3] (va_rf (ab_hr h r 1) :: st) h Q := wp_gf (by decide +kernel : ab_cod 37 61 = some (.getfield 19, 3, 4, 1, 149, 1)) hk
set_option maxRecDepth 100000 in
theorem i37_64 {v0 v1 v3 : Value} {x : Int32} {st : List Value} {h : ab_Hp} {Q : ab_O → ab_Hp → Prop} : wp 37 64 [v0, v1, .int x, v3] st h Q = wp 37 65 [v0, v1, .int x, v3] (.int x :: st) h Q := wp_stp (ri := (.iload_n 2, 1, 0, 0, 0, 0)) (by decide +kernel) rfl rfl rfl
set_option maxRecDepth 100000 in
theorem i37_65 {v0 v1 v2 v3 : Value} {r : Nat} {x : Int32} {st : List Value} {h : ab_Hp} {Q : ab_O → ab_Hp → Prop} (hk : (3 ≤ (ab_sh h r).1 ∧ (ab_sh h r).1 ≤ 5) ∧ ab_in x (ab_sh h r).2 = true) : wp 37 65 [v0, v1, v2, v3] (.int x :: .ref r :: st) h Q = wp 37 66 [v0, v1, v2, v3] (va_rf (ab_hr h r x.toNatClampNeg) :: st) h Q := wp_aa (by decide +kernel : ab_cod 37 65 = some (.aaload, 1, 0, 0, 0, 0)) hk
set_option maxRecDepth 100000 in
theorem i37_66 {v0 v1 v2 v3 : Value} {w : Value} {st : List Value} {h : ab_Hp} {Q : ab_O → ab_Hp → Prop} (hv : ab_isA w = true) : wp 37 66 [v0, v1, v2, v3] (w :: st) h Q = wp 37 67 [v0, v1, ab_clr v2, w] st h Q := wp_astore_n (by decide +kernel : ab_cod 37 66 = some (.astore_n 3, 1, 0, 0, 0, 0)) hv
set_option maxRecDepth 100000 in
theorem i37_67 {v0 v1 v2 v3 : Value} {st : List Value} {h : ab_Hp} {Q : ab_O → ab_Hp → Prop} (hv : ab_isA v3 = true) : wp 37 67 [v0, v1, v2, v3] st h Q = wp 37 68 [v0, v1, v2, v3] (v3 :: st) h Q := wp_aload_n (by decide +kernel : ab_cod 37 67 = some (.aload_n 3, 1, 0, 0, 0, 0)) hv
set_option maxRecDepth 100000 in
theorem i37_68 {v0 v1 v2 v3 : Value} {o : Option Nat} {st : List Value} {h : ab_Hp} {Q : ab_O → ab_Hp → Prop} : wp 37 68 [v0, v1, v2, v3] (va_rf o :: st) h Q = if o = none then wp 37 84 [v0, v1, v2, v3] st h Q else wp 37 71 [v0, v1, v2, v3] st h Q := wp_ifnull (by decide +kernel : ab_cod 37 68 = some (.ifnull 16, 3, 84, 0, 0, 0)) o
set_option maxRecDepth 100000 in
theorem i37_68r {v0 v1 v2 v3 : Value} {r : Nat} {st : List Value} {h : ab_Hp} {Q : ab_O → ab_Hp → Prop} : wp 37 68 [v0, v1, v2, v3] (.ref r :: st) h Q = wp 37 71 [v0, v1, v2, v3] st h Q := wp_stp (ri := (.ifnull 16, 3, 84, 0, 0, 0)) (by decide +kernel) rfl rfl rfl
set_option maxRecDepth 100000 in
theorem i37_68n {v0 v1 v2 v3 : Value} {st : List Value} {h : ab_Hp} {Q : ab_O → ab_Hp → Prop} : wp 37 68 [v0, v1, v2, v3] (.null :: st) h Q = wp 37 84 [v0, v1, v2, v3] st h Q := wp_stp (ri := (.ifnull 16, 3, 84, 0, 0, 0)) (by decide +kernel) rfl rfl rfl
set_option maxRecDepth 100000 in
theorem i37_71 {v0 v1 v2 v3 : Value} {st : List Value} {h : ab_Hp} {Q : ab_O → ab_Hp → Prop} (hv : ab_isA v3 = true) : wp 37 71 [v0, v1, v2, v3] st h Q = wp 37 72 [v0, v1, v2, v3] (v3 :: st) h Q := wp_aload_n (by decide +kernel : ab_cod 37 71 = some (.aload_n 3, 1, 0, 0, 0, 0)) hv
set_option maxRecDepth 100000 in
theorem i37_72 {v0 v1 v2 v3 : Value} {r : Nat} {st : List Value} {h : ab_Hp} {Q : ab_O → ab_Hp → Prop} (hk : (ab_sh h r).1 = 13) : wp 37 72 [v0, v1, v2, v3] (.ref r :: st) h Q = wp 37 75 [v0, v1, v2, v3] (va_rf (ab_hr h r 0) :: st) h Q := wp_gf (by decide +kernel : ab_cod 37 72 = some (.getfield 107, 3, 3, 0, 124, 1)) hk
set_option maxRecDepth 100000 in
theorem i37_75 {v0 v2 v3 : Value} {x : Int32} {st : List Value} {h : ab_Hp} {Q : ab_O → ab_Hp → Prop} : wp 37 75 [v0, .int x, v2, v3] st h Q = wp 37 76 [v0, .int x, v2, v3] (.int x :: st) h Q := wp_stp (ri := (.iload_n 1, 1, 0, 0, 0, 0)) (by decide +kernel) rfl rfl rfl
set_option maxRecDepth 100000 in
theorem i37_76 {v0 v1 v2 v3 : Value} {r : Nat} {a0 : Int32} {st : List Value} {h : ab_Hp} {Q : ab_O → ab_Hp → Prop} (hl : st.length ≤ 4) (hk : (ab_sh h r).1 = 11) : wp 37 76 [v0, v1, v2, v3] (.int a0 :: .ref r :: st) h Q = wp 11 0 [.ref r, .int a0, ab_nov] [] h (ab_K 37 76 [v0, v1, v2, v3] st Q) := wp_callV (as := [.int a0]) (by decide +kernel : ab_cod 37 76 = some (.invokevirtual 146, 3, 11, 2, 0, 556)) rfl rfl rfl rfl hl hk
set_option maxRecDepth 100000 in
theorem i37_79 {v0 v1 v2 v3 : Value} {x : Int32} {st : List Value} {h : ab_Hp} {Q : ab_O → ab_Hp → Prop} : wp 37 79 [v0, v1, v2, v3] (.int x :: st) h Q = if x = 0 then wp 37 84 [v0, v1, v2, v3] st h Q else wp 37 82 [v0, v1, v2, v3] st h Q := wp_ifcP (by decide +kernel : ab_cod 37 79 = some (.ifCond .eq 5, 3, 84, 0, 0, 0)) rfl
set_option maxRecDepth 100000 in
theorem i37_82 {v0 v1 v2 v3 : Value} {st : List Value} {h : ab_Hp} {Q : ab_O → ab_Hp → Prop} : wp 37 82 [v0, v1, v2, v3] st h Q = wp 37 83 [v0, v1, v2, v3] (.int (nI 1) :: st) h Q := wp_stp (ri := (.iconst 1, 1, 0, 0, 0, 0)) (by decide +kernel) rfl rfl rfl
set_option maxRecDepth 100000 in
theorem i37_83 {v0 v1 v2 v3 : Value} {x : Int32} {h : ab_Hp} {Q : ab_O → ab_Hp → Prop} (hx : x = 0 ∨ x = 1) : wp 37 83 [v0, v1, v2, v3] [.int x] h Q = Q (.inl (some (.int x))) h := wp_zret (by decide +kernel : ab_cod 37 83 = some (.ireturn, 1, 0, 0, 0, 0)) rfl hx
set_option maxRecDepth 100000 in
theorem i37_84 {v0 v1 v3 : Value} {x : Int32} {st : List Value} {h : ab_Hp} {Q : ab_O → ab_Hp → Prop} : wp 37 84 [v0, v1, .int x, v3] st h Q = wp 37 87 [v0, ab_clr v1, .int (x + nI 1), v3] st h Q := wp_stp (ri := (.iinc 2 1, 3, 0, 0, 0, 0)) (by decide +kernel) rfl rfl rfl
set_option maxRecDepth 100000 in
theorem i37_87 {v0 v1 v2 v3 : Value} {st : List Value} {h : ab_Hp} {Q : ab_O → ab_Hp → Prop} : wp 37 87 [v0, v1, v2, v3] st h Q = wp 37 43 [v0, v1, v2, v3] st h Q := wp_stp (ri := (.goto (-44), 3, 43, 0, 0, 0)) (by decide +kernel) rfl rfl rfl
set_option maxRecDepth 100000 in
theorem i37_90 {v0 v1 v2 v3 : Value} {st : List Value} {h : ab_Hp} {Q : ab_O → ab_Hp → Prop} : wp 37 90 [v0, v1, v2, v3] st h Q = wp 37 91 [v0, v1, v2, v3] (.int (nI 0) :: st) h Q := wp_stp (ri := (.iconst 0, 1, 0, 0, 0, 0)) (by decide +kernel) rfl rfl rfl
set_option maxRecDepth 100000 in
theorem i37_91 {v0 v1 v2 v3 : Value} {x : Int32} {h : ab_Hp} {Q : ab_O → ab_Hp → Prop} (hx : x = 0 ∨ x = 1) : wp 37 91 [v0, v1, v2, v3] [.int x] h Q = Q (.inl (some (.int x))) h := wp_zret (by decide +kernel : ab_cod 37 91 = some (.ireturn, 1, 0, 0, 0, 0)) rfl hx
/-! 38: SeamBeats$State.copyFrom(LSeamBeats$State;)V -/
set_option maxRecDepth 100000 in
theorem i38_0 {v0 v1 v2 v3 v4 : Value} {st : List Value} {h : ab_Hp} {Q : ab_O → ab_Hp → Prop} : wp 38 0 [v0, v1, v2, v3, v4] st h Q = wp 38 1 [v0, v1, v2, v3, v4] (.int (nI 0) :: st) h Q := wp_stp (ri := (.iconst 0, 1, 0, 0, 0, 0)) (by decide +kernel) rfl rfl rfl
set_option maxRecDepth 100000 in
theorem i38_1 {v0 v1 v2 v3 v4 : Value} {w : Int32} {st : List Value} {h : ab_Hp} {Q : ab_O → ab_Hp → Prop} : wp 38 1 [v0, v1, v2, v3, v4] (.int w :: st) h Q = wp 38 2 [v0, ab_clr v1, .int w, v3, v4] st h Q := wp_stp (ri := (.istore_n 2, 1, 0, 0, 0, 0)) (by decide +kernel) rfl rfl rfl
set_option maxRecDepth 100000 in
theorem i38_2 {v0 v1 v3 v4 : Value} {x : Int32} {st : List Value} {h : ab_Hp} {Q : ab_O → ab_Hp → Prop} : wp 38 2 [v0, v1, .int x, v3, v4] st h Q = wp 38 3 [v0, v1, .int x, v3, v4] (.int x :: st) h Q := wp_stp (ri := (.iload_n 2, 1, 0, 0, 0, 0)) (by decide +kernel) rfl rfl rfl
set_option maxRecDepth 100000 in
theorem i38_3 {v0 v1 v2 v3 v4 : Value} {st : List Value} {h : ab_Hp} {Q : ab_O → ab_Hp → Prop} (hv : ab_isA v0 = true) : wp 38 3 [v0, v1, v2, v3, v4] st h Q = wp 38 4 [v0, v1, v2, v3, v4] (v0 :: st) h Q := wp_aload_n (by decide +kernel : ab_cod 38 3 = some (.aload_n 0, 1, 0, 0, 0, 0)) hv
set_option maxRecDepth 100000 in
theorem i38_4 {v0 v1 v2 v3 v4 : Value} {r : Nat} {st : List Value} {h : ab_Hp} {Q : ab_O → ab_Hp → Prop} (hk : (ab_sh h r).1 = 14) : wp 38 4 [v0, v1, v2, v3, v4] (.ref r :: st) h Q = wp 38 7 [v0, v1, v2, v3, v4] (va_rf (ab_hr h r 0) :: st) h Q := wp_gf (by decide +kernel : ab_cod 38 4 = some (.getfield 11, 3, 4, 0, 148, 1)) hk
set_option maxRecDepth 100000 in
theorem i38_7 {v0 v1 v2 v3 v4 : Value} {r : Nat} {st : List Value} {h : ab_Hp} {Q : ab_O → ab_Hp → Prop} (hk : 1 ≤ (ab_sh h r).1 ∧ (ab_sh h r).1 ≤ 6) : wp 38 7 [v0, v1, v2, v3, v4] (.ref r :: st) h Q = wp 38 8 [v0, v1, v2, v3, v4] (.int (nI (ab_sh h r).2) :: st) h Q := wp_al (by decide +kernel : ab_cod 38 7 = some (.arraylength, 1, 0, 0, 0, 0)) hk
set_option maxRecDepth 100000 in
theorem i38_8 {v0 v1 v2 v3 v4 : Value} {x y : Int32} {st : List Value} {h : ab_Hp} {Q : ab_O → ab_Hp → Prop} : wp 38 8 [v0, v1, v2, v3, v4] (.int y :: .int x :: st) h Q = if y ≤ x then wp 38 56 [v0, v1, v2, v3, v4] st h Q else wp 38 11 [v0, v1, v2, v3, v4] st h Q := wp_icmpP (by decide +kernel : ab_cod 38 8 = some (.if_icmp .ge 48, 3, 56, 0, 0, 0)) rfl
set_option maxRecDepth 100000 in
theorem i38_11 {v0 v1 v3 v4 : Value} {x : Int32} {st : List Value} {h : ab_Hp} {Q : ab_O → ab_Hp → Prop} : wp 38 11 [v0, v1, .int x, v3, v4] st h Q = wp 38 12 [v0, v1, .int x, v3, v4] (.int x :: st) h Q := wp_stp (ri := (.iload_n 2, 1, 0, 0, 0, 0)) (by decide +kernel) rfl rfl rfl
set_option maxRecDepth 100000 in
theorem i38_12 {v0 v1 v2 v3 v4 : Value} {st : List Value} {h : ab_Hp} {Q : ab_O → ab_Hp → Prop} (hv : ab_isA v1 = true) : wp 38 12 [v0, v1, v2, v3, v4] st h Q = wp 38 13 [v0, v1, v2, v3, v4] (v1 :: st) h Q := wp_aload_n (by decide +kernel : ab_cod 38 12 = some (.aload_n 1, 1, 0, 0, 0, 0)) hv
set_option maxRecDepth 100000 in
theorem i38_13 {v0 v1 v2 v3 v4 : Value} {r : Nat} {st : List Value} {h : ab_Hp} {Q : ab_O → ab_Hp → Prop} (hk : (ab_sh h r).1 = 14) : wp 38 13 [v0, v1, v2, v3, v4] (.ref r :: st) h Q = wp 38 16 [v0, v1, v2, v3, v4] (va_rf (ab_hr h r 0) :: st) h Q := wp_gf (by decide +kernel : ab_cod 38 13 = some (.getfield 11, 3, 4, 0, 148, 1)) hk
set_option maxRecDepth 100000 in
theorem i38_16 {v0 v1 v2 v3 v4 : Value} {r : Nat} {st : List Value} {h : ab_Hp} {Q : ab_O → ab_Hp → Prop} (hk : 1 ≤ (ab_sh h r).1 ∧ (ab_sh h r).1 ≤ 6) : wp 38 16 [v0, v1, v2, v3, v4] (.ref r :: st) h Q = wp 38 17 [v0, v1, v2, v3, v4] (.int (nI (ab_sh h r).2) :: st) h Q := wp_al (by decide +kernel : ab_cod 38 16 = some (.arraylength, 1, 0, 0, 0, 0)) hk
set_option maxRecDepth 100000 in
theorem i38_17 {v0 v1 v2 v3 v4 : Value} {x y : Int32} {st : List Value} {h : ab_Hp} {Q : ab_O → ab_Hp → Prop} : wp 38 17 [v0, v1, v2, v3, v4] (.int y :: .int x :: st) h Q = if y ≤ x then wp 38 56 [v0, v1, v2, v3, v4] st h Q else wp 38 20 [v0, v1, v2, v3, v4] st h Q := wp_icmpP (by decide +kernel : ab_cod 38 17 = some (.if_icmp .ge 39, 3, 56, 0, 0, 0)) rfl
set_option maxRecDepth 100000 in
theorem i38_20 {v0 v1 v2 v3 v4 : Value} {st : List Value} {h : ab_Hp} {Q : ab_O → ab_Hp → Prop} (hv : ab_isA v0 = true) : wp 38 20 [v0, v1, v2, v3, v4] st h Q = wp 38 21 [v0, v1, v2, v3, v4] (v0 :: st) h Q := wp_aload_n (by decide +kernel : ab_cod 38 20 = some (.aload_n 0, 1, 0, 0, 0, 0)) hv
set_option maxRecDepth 100000 in
theorem i38_21 {v0 v1 v2 v3 v4 : Value} {r : Nat} {st : List Value} {h : ab_Hp} {Q : ab_O → ab_Hp → Prop} (hk : (ab_sh h r).1 = 14) : wp 38 21 [v0, v1, v2, v3, v4] (.ref r :: st) h Q = wp 38 24 [v0, v1, v2, v3, v4] (va_rf (ab_hr h r 0) :: st) h Q := wp_gf (by decide +kernel : ab_cod 38 21 = some (.getfield 11, 3, 4, 0, 148, 1)) hk
set_option maxRecDepth 100000 in
theorem i38_24 {v0 v1 v3 v4 : Value} {x : Int32} {st : List Value} {h : ab_Hp} {Q : ab_O → ab_Hp → Prop} : wp 38 24 [v0, v1, .int x, v3, v4] st h Q = wp 38 25 [v0, v1, .int x, v3, v4] (.int x :: st) h Q := wp_stp (ri := (.iload_n 2, 1, 0, 0, 0, 0)) (by decide +kernel) rfl rfl rfl
set_option maxRecDepth 100000 in
theorem i38_25 {v0 v1 v2 v3 v4 : Value} {r : Nat} {x : Int32} {st : List Value} {h : ab_Hp} {Q : ab_O → ab_Hp → Prop} (hk : (3 ≤ (ab_sh h r).1 ∧ (ab_sh h r).1 ≤ 5) ∧ ab_in x (ab_sh h r).2 = true) : wp 38 25 [v0, v1, v2, v3, v4] (.int x :: .ref r :: st) h Q = wp 38 26 [v0, v1, v2, v3, v4] (va_rf (ab_hr h r x.toNatClampNeg) :: st) h Q := wp_aa (by decide +kernel : ab_cod 38 25 = some (.aaload, 1, 0, 0, 0, 0)) hk
set_option maxRecDepth 100000 in
theorem i38_26 {v0 v1 v2 v3 v4 : Value} {w : Value} {st : List Value} {h : ab_Hp} {Q : ab_O → ab_Hp → Prop} (hv : ab_isA w = true) : wp 38 26 [v0, v1, v2, v3, v4] (w :: st) h Q = wp 38 27 [v0, v1, ab_clr v2, w, v4] st h Q := wp_astore_n (by decide +kernel : ab_cod 38 26 = some (.astore_n 3, 1, 0, 0, 0, 0)) hv
set_option maxRecDepth 100000 in
theorem i38_27 {v0 v1 v2 v3 v4 : Value} {st : List Value} {h : ab_Hp} {Q : ab_O → ab_Hp → Prop} (hv : ab_isA v1 = true) : wp 38 27 [v0, v1, v2, v3, v4] st h Q = wp 38 28 [v0, v1, v2, v3, v4] (v1 :: st) h Q := wp_aload_n (by decide +kernel : ab_cod 38 27 = some (.aload_n 1, 1, 0, 0, 0, 0)) hv
set_option maxRecDepth 100000 in
theorem i38_28 {v0 v1 v2 v3 v4 : Value} {r : Nat} {st : List Value} {h : ab_Hp} {Q : ab_O → ab_Hp → Prop} (hk : (ab_sh h r).1 = 14) : wp 38 28 [v0, v1, v2, v3, v4] (.ref r :: st) h Q = wp 38 31 [v0, v1, v2, v3, v4] (va_rf (ab_hr h r 0) :: st) h Q := wp_gf (by decide +kernel : ab_cod 38 28 = some (.getfield 11, 3, 4, 0, 148, 1)) hk
set_option maxRecDepth 100000 in
theorem i38_31 {v0 v1 v3 v4 : Value} {x : Int32} {st : List Value} {h : ab_Hp} {Q : ab_O → ab_Hp → Prop} : wp 38 31 [v0, v1, .int x, v3, v4] st h Q = wp 38 32 [v0, v1, .int x, v3, v4] (.int x :: st) h Q := wp_stp (ri := (.iload_n 2, 1, 0, 0, 0, 0)) (by decide +kernel) rfl rfl rfl
set_option maxRecDepth 100000 in
theorem i38_32 {v0 v1 v2 v3 v4 : Value} {r : Nat} {x : Int32} {st : List Value} {h : ab_Hp} {Q : ab_O → ab_Hp → Prop} (hk : (3 ≤ (ab_sh h r).1 ∧ (ab_sh h r).1 ≤ 5) ∧ ab_in x (ab_sh h r).2 = true) : wp 38 32 [v0, v1, v2, v3, v4] (.int x :: .ref r :: st) h Q = wp 38 33 [v0, v1, v2, v3, v4] (va_rf (ab_hr h r x.toNatClampNeg) :: st) h Q := wp_aa (by decide +kernel : ab_cod 38 32 = some (.aaload, 1, 0, 0, 0, 0)) hk
set_option maxRecDepth 100000 in
theorem i38_33 {v0 v1 v2 v3 v4 : Value} {w : Value} {st : List Value} {h : ab_Hp} {Q : ab_O → ab_Hp → Prop} (hv : ab_isA w = true) : wp 38 33 [v0, v1, v2, v3, v4] (w :: st) h Q = wp 38 35 [v0, v1, v2, ab_clr v3, w] st h Q := wp_astore (by decide +kernel : ab_cod 38 33 = some (.astore 4, 2, 0, 0, 0, 0)) hv
set_option maxRecDepth 100000 in
theorem i38_35 {v0 v1 v2 v3 v4 : Value} {st : List Value} {h : ab_Hp} {Q : ab_O → ab_Hp → Prop} (hv : ab_isA v3 = true) : wp 38 35 [v0, v1, v2, v3, v4] st h Q = wp 38 36 [v0, v1, v2, v3, v4] (v3 :: st) h Q := wp_aload_n (by decide +kernel : ab_cod 38 35 = some (.aload_n 3, 1, 0, 0, 0, 0)) hv
set_option maxRecDepth 100000 in
theorem i38_36 {v0 v1 v2 v3 v4 : Value} {o : Option Nat} {st : List Value} {h : ab_Hp} {Q : ab_O → ab_Hp → Prop} : wp 38 36 [v0, v1, v2, v3, v4] (va_rf o :: st) h Q = if o = none then wp 38 50 [v0, v1, v2, v3, v4] st h Q else wp 38 39 [v0, v1, v2, v3, v4] st h Q := wp_ifnull (by decide +kernel : ab_cod 38 36 = some (.ifnull 14, 3, 50, 0, 0, 0)) o
set_option maxRecDepth 100000 in
theorem i38_36r {v0 v1 v2 v3 v4 : Value} {r : Nat} {st : List Value} {h : ab_Hp} {Q : ab_O → ab_Hp → Prop} : wp 38 36 [v0, v1, v2, v3, v4] (.ref r :: st) h Q = wp 38 39 [v0, v1, v2, v3, v4] st h Q := wp_stp (ri := (.ifnull 14, 3, 50, 0, 0, 0)) (by decide +kernel) rfl rfl rfl
set_option maxRecDepth 100000 in
theorem i38_36n {v0 v1 v2 v3 v4 : Value} {st : List Value} {h : ab_Hp} {Q : ab_O → ab_Hp → Prop} : wp 38 36 [v0, v1, v2, v3, v4] (.null :: st) h Q = wp 38 50 [v0, v1, v2, v3, v4] st h Q := wp_stp (ri := (.ifnull 14, 3, 50, 0, 0, 0)) (by decide +kernel) rfl rfl rfl
set_option maxRecDepth 100000 in
theorem i38_39 {v0 v1 v2 v3 v4 : Value} {st : List Value} {h : ab_Hp} {Q : ab_O → ab_Hp → Prop} (hv : ab_isA v4 = true) : wp 38 39 [v0, v1, v2, v3, v4] st h Q = wp 38 41 [v0, v1, v2, v3, v4] (v4 :: st) h Q := wp_aload (by decide +kernel : ab_cod 38 39 = some (.aload 4, 2, 0, 0, 0, 0)) hv
set_option maxRecDepth 100000 in
theorem i38_41 {v0 v1 v2 v3 v4 : Value} {o : Option Nat} {st : List Value} {h : ab_Hp} {Q : ab_O → ab_Hp → Prop} : wp 38 41 [v0, v1, v2, v3, v4] (va_rf o :: st) h Q = if o = none then wp 38 50 [v0, v1, v2, v3, v4] st h Q else wp 38 44 [v0, v1, v2, v3, v4] st h Q := wp_ifnull (by decide +kernel : ab_cod 38 41 = some (.ifnull 9, 3, 50, 0, 0, 0)) o
set_option maxRecDepth 100000 in
theorem i38_41r {v0 v1 v2 v3 v4 : Value} {r : Nat} {st : List Value} {h : ab_Hp} {Q : ab_O → ab_Hp → Prop} : wp 38 41 [v0, v1, v2, v3, v4] (.ref r :: st) h Q = wp 38 44 [v0, v1, v2, v3, v4] st h Q := wp_stp (ri := (.ifnull 9, 3, 50, 0, 0, 0)) (by decide +kernel) rfl rfl rfl
set_option maxRecDepth 100000 in
theorem i38_41n {v0 v1 v2 v3 v4 : Value} {st : List Value} {h : ab_Hp} {Q : ab_O → ab_Hp → Prop} : wp 38 41 [v0, v1, v2, v3, v4] (.null :: st) h Q = wp 38 50 [v0, v1, v2, v3, v4] st h Q := wp_stp (ri := (.ifnull 9, 3, 50, 0, 0, 0)) (by decide +kernel) rfl rfl rfl
set_option maxRecDepth 100000 in
theorem i38_44 {v0 v1 v2 v3 v4 : Value} {st : List Value} {h : ab_Hp} {Q : ab_O → ab_Hp → Prop} (hv : ab_isA v3 = true) : wp 38 44 [v0, v1, v2, v3, v4] st h Q = wp 38 45 [v0, v1, v2, v3, v4] (v3 :: st) h Q := wp_aload_n (by decide +kernel : ab_cod 38 44 = some (.aload_n 3, 1, 0, 0, 0, 0)) hv
set_option maxRecDepth 100000 in
theorem i38_45 {v0 v1 v2 v3 v4 : Value} {st : List Value} {h : ab_Hp} {Q : ab_O → ab_Hp → Prop} (hv : ab_isA v4 = true) : wp 38 45 [v0, v1, v2, v3, v4] st h Q = wp 38 47 [v0, v1, v2, v3, v4] (v4 :: st) h Q := wp_aload (by decide +kernel : ab_cod 38 45 = some (.aload 4, 2, 0, 0, 0, 0)) hv
set_option maxRecDepth 100000 in
theorem i38_47 {v0 v1 v2 v3 v4 : Value} {r : Nat} {a0 : Nat} {st : List Value} {h : ab_Hp} {Q : ab_O → ab_Hp → Prop} (hl : st.length ≤ 4) (hk : (ab_sh h r).1 = 12) : wp 38 47 [v0, v1, v2, v3, v4] (.ref a0 :: .ref r :: st) h Q = wp 16 0 [.ref r, .ref a0] [] h (ab_K 38 47 [v0, v1, v2, v3, v4] st Q) := wp_callV (as := [.ref a0]) (by decide +kernel : ab_cod 38 47 = some (.invokevirtual 149, 3, 16, 2, 0, 308)) rfl rfl rfl rfl hl hk
set_option maxRecDepth 100000 in
theorem i38_50 {v0 v1 v3 v4 : Value} {x : Int32} {st : List Value} {h : ab_Hp} {Q : ab_O → ab_Hp → Prop} : wp 38 50 [v0, v1, .int x, v3, v4] st h Q = wp 38 53 [v0, ab_clr v1, .int (x + nI 1), v3, v4] st h Q := wp_stp (ri := (.iinc 2 1, 3, 0, 0, 0, 0)) (by decide +kernel) rfl rfl rfl
set_option maxRecDepth 100000 in
theorem i38_53 {v0 v1 v2 v3 v4 : Value} {st : List Value} {h : ab_Hp} {Q : ab_O → ab_Hp → Prop} : wp 38 53 [v0, v1, v2, v3, v4] st h Q = wp 38 2 [v0, v1, v2, v3, v4] st h Q := wp_stp (ri := (.goto (-51), 3, 2, 0, 0, 0)) (by decide +kernel) rfl rfl rfl
set_option maxRecDepth 100000 in
theorem i38_56 {v0 v1 v2 v3 v4 : Value} {st : List Value} {h : ab_Hp} {Q : ab_O → ab_Hp → Prop} (hv : ab_isA v0 = true) : wp 38 56 [v0, v1, v2, v3, v4] st h Q = wp 38 57 [v0, v1, v2, v3, v4] (v0 :: st) h Q := wp_aload_n (by decide +kernel : ab_cod 38 56 = some (.aload_n 0, 1, 0, 0, 0, 0)) hv
set_option maxRecDepth 100000 in
theorem i38_57 {v0 v1 v2 v3 v4 : Value} {st : List Value} {h : ab_Hp} {Q : ab_O → ab_Hp → Prop} (hv : ab_isA v1 = true) : wp 38 57 [v0, v1, v2, v3, v4] st h Q = wp 38 58 [v0, v1, v2, v3, v4] (v1 :: st) h Q := wp_aload_n (by decide +kernel : ab_cod 38 57 = some (.aload_n 1, 1, 0, 0, 0, 0)) hv
set_option maxRecDepth 100000 in
theorem i38_58 {v0 v1 v2 v3 v4 : Value} {r : Nat} {st : List Value} {h : ab_Hp} {Q : ab_O → ab_Hp → Prop} (hk : (ab_sh h r).1 = 14) : wp 38 58 [v0, v1, v2, v3, v4] (.ref r :: st) h Q = wp 38 61 [v0, v1, v2, v3, v4] (.int (ab_hi h r 2) :: st) h Q := wp_gf (by decide +kernel : ab_cod 38 58 = some (.getfield 23, 3, 4, 2, 150, 0)) hk
set_option maxRecDepth 100000 in
theorem i38_61 {v0 v1 v2 v3 v4 : Value} {r : Nat} {x : Int32} {st : List Value} {h : ab_Hp} {Q : ab_O → ab_Hp → Prop} (hk : (ab_sh h r).1 = 14) : wp 38 61 [v0, v1, v2, v3, v4] (.int x :: .ref r :: st) h Q = wp 38 64 [v0, v1, v2, v3, v4] st (ab_setI h (ab_u (ab_hi h) r 2 x)) Q := wp_pf (by decide +kernel : ab_cod 38 61 = some (.putfield 23, 3, 4, 2, 150, 0)) hk rfl
set_option maxRecDepth 100000 in
theorem i38_64 {v0 v1 v2 v3 v4 : Value} {st : List Value} {h : ab_Hp} {Q : ab_O → ab_Hp → Prop} : wp 38 64 [v0, v1, v2, v3, v4] st h Q = wp 38 65 [v0, v1, v2, v3, v4] (.int (nI 0) :: st) h Q := wp_stp (ri := (.iconst 0, 1, 0, 0, 0, 0)) (by decide +kernel) rfl rfl rfl
set_option maxRecDepth 100000 in
theorem i38_65 {v0 v1 v2 v3 v4 : Value} {w : Int32} {st : List Value} {h : ab_Hp} {Q : ab_O → ab_Hp → Prop} : wp 38 65 [v0, v1, v2, v3, v4] (.int w :: st) h Q = wp 38 66 [v0, ab_clr v1, .int w, v3, v4] st h Q := wp_stp (ri := (.istore_n 2, 1, 0, 0, 0, 0)) (by decide +kernel) rfl rfl rfl
set_option maxRecDepth 100000 in
theorem i38_66 {v0 v1 v3 v4 : Value} {x : Int32} {st : List Value} {h : ab_Hp} {Q : ab_O → ab_Hp → Prop} : wp 38 66 [v0, v1, .int x, v3, v4] st h Q = wp 38 67 [v0, v1, .int x, v3, v4] (.int x :: st) h Q := wp_stp (ri := (.iload_n 2, 1, 0, 0, 0, 0)) (by decide +kernel) rfl rfl rfl
set_option maxRecDepth 100000 in
theorem i38_67 {v0 v1 v2 v3 v4 : Value} {st : List Value} {h : ab_Hp} {Q : ab_O → ab_Hp → Prop} (hv : ab_isA v0 = true) : wp 38 67 [v0, v1, v2, v3, v4] st h Q = wp 38 68 [v0, v1, v2, v3, v4] (v0 :: st) h Q := wp_aload_n (by decide +kernel : ab_cod 38 67 = some (.aload_n 0, 1, 0, 0, 0, 0)) hv
set_option maxRecDepth 100000 in
theorem i38_68 {v0 v1 v2 v3 v4 : Value} {r : Nat} {st : List Value} {h : ab_Hp} {Q : ab_O → ab_Hp → Prop} (hk : (ab_sh h r).1 = 14) : wp 38 68 [v0, v1, v2, v3, v4] (.ref r :: st) h Q = wp 38 71 [v0, v1, v2, v3, v4] (.int (ab_hi h r 2) :: st) h Q := wp_gf (by decide +kernel : ab_cod 38 68 = some (.getfield 23, 3, 4, 2, 150, 0)) hk
set_option maxRecDepth 100000 in
theorem i38_71 {v0 v1 v2 v3 v4 : Value} {x y : Int32} {st : List Value} {h : ab_Hp} {Q : ab_O → ab_Hp → Prop} : wp 38 71 [v0, v1, v2, v3, v4] (.int y :: .int x :: st) h Q = if y ≤ x then wp 38 128 [v0, v1, v2, v3, v4] st h Q else wp 38 74 [v0, v1, v2, v3, v4] st h Q := wp_icmpP (by decide +kernel : ab_cod 38 71 = some (.if_icmp .ge 57, 3, 128, 0, 0, 0)) rfl
set_option maxRecDepth 100000 in
theorem i38_74 {v0 v1 v3 v4 : Value} {x : Int32} {st : List Value} {h : ab_Hp} {Q : ab_O → ab_Hp → Prop} : wp 38 74 [v0, v1, .int x, v3, v4] st h Q = wp 38 75 [v0, v1, .int x, v3, v4] (.int x :: st) h Q := wp_stp (ri := (.iload_n 2, 1, 0, 0, 0, 0)) (by decide +kernel) rfl rfl rfl
set_option maxRecDepth 100000 in
theorem i38_75 {v0 v1 v2 v3 v4 : Value} {st : List Value} {h : ab_Hp} {Q : ab_O → ab_Hp → Prop} (hv : ab_isA v0 = true) : wp 38 75 [v0, v1, v2, v3, v4] st h Q = wp 38 76 [v0, v1, v2, v3, v4] (v0 :: st) h Q := wp_aload_n (by decide +kernel : ab_cod 38 75 = some (.aload_n 0, 1, 0, 0, 0, 0)) hv
set_option maxRecDepth 100000 in
theorem i38_76 {v0 v1 v2 v3 v4 : Value} {r : Nat} {st : List Value} {h : ab_Hp} {Q : ab_O → ab_Hp → Prop} (hk : (ab_sh h r).1 = 14) : wp 38 76 [v0, v1, v2, v3, v4] (.ref r :: st) h Q = wp 38 79 [v0, v1, v2, v3, v4] (va_rf (ab_hr h r 1) :: st) h Q := wp_gf (by decide +kernel : ab_cod 38 76 = some (.getfield 19, 3, 4, 1, 149, 1)) hk
set_option maxRecDepth 100000 in
theorem i38_79 {v0 v1 v2 v3 v4 : Value} {r : Nat} {st : List Value} {h : ab_Hp} {Q : ab_O → ab_Hp → Prop} (hk : 1 ≤ (ab_sh h r).1 ∧ (ab_sh h r).1 ≤ 6) : wp 38 79 [v0, v1, v2, v3, v4] (.ref r :: st) h Q = wp 38 80 [v0, v1, v2, v3, v4] (.int (nI (ab_sh h r).2) :: st) h Q := wp_al (by decide +kernel : ab_cod 38 79 = some (.arraylength, 1, 0, 0, 0, 0)) hk
set_option maxRecDepth 100000 in
theorem i38_80 {v0 v1 v2 v3 v4 : Value} {x y : Int32} {st : List Value} {h : ab_Hp} {Q : ab_O → ab_Hp → Prop} : wp 38 80 [v0, v1, v2, v3, v4] (.int y :: .int x :: st) h Q = if y ≤ x then wp 38 128 [v0, v1, v2, v3, v4] st h Q else wp 38 83 [v0, v1, v2, v3, v4] st h Q := wp_icmpP (by decide +kernel : ab_cod 38 80 = some (.if_icmp .ge 48, 3, 128, 0, 0, 0)) rfl
set_option maxRecDepth 100000 in
theorem i38_83 {v0 v1 v3 v4 : Value} {x : Int32} {st : List Value} {h : ab_Hp} {Q : ab_O → ab_Hp → Prop} : wp 38 83 [v0, v1, .int x, v3, v4] st h Q = wp 38 84 [v0, v1, .int x, v3, v4] (.int x :: st) h Q := wp_stp (ri := (.iload_n 2, 1, 0, 0, 0, 0)) (by decide +kernel) rfl rfl rfl
set_option maxRecDepth 100000 in
theorem i38_84 {v0 v1 v2 v3 v4 : Value} {st : List Value} {h : ab_Hp} {Q : ab_O → ab_Hp → Prop} (hv : ab_isA v1 = true) : wp 38 84 [v0, v1, v2, v3, v4] st h Q = wp 38 85 [v0, v1, v2, v3, v4] (v1 :: st) h Q := wp_aload_n (by decide +kernel : ab_cod 38 84 = some (.aload_n 1, 1, 0, 0, 0, 0)) hv
set_option maxRecDepth 100000 in
theorem i38_85 {v0 v1 v2 v3 v4 : Value} {r : Nat} {st : List Value} {h : ab_Hp} {Q : ab_O → ab_Hp → Prop} (hk : (ab_sh h r).1 = 14) : wp 38 85 [v0, v1, v2, v3, v4] (.ref r :: st) h Q = wp 38 88 [v0, v1, v2, v3, v4] (va_rf (ab_hr h r 1) :: st) h Q := wp_gf (by decide +kernel : ab_cod 38 85 = some (.getfield 19, 3, 4, 1, 149, 1)) hk
set_option maxRecDepth 100000 in
theorem i38_88 {v0 v1 v2 v3 v4 : Value} {r : Nat} {st : List Value} {h : ab_Hp} {Q : ab_O → ab_Hp → Prop} (hk : 1 ≤ (ab_sh h r).1 ∧ (ab_sh h r).1 ≤ 6) : wp 38 88 [v0, v1, v2, v3, v4] (.ref r :: st) h Q = wp 38 89 [v0, v1, v2, v3, v4] (.int (nI (ab_sh h r).2) :: st) h Q := wp_al (by decide +kernel : ab_cod 38 88 = some (.arraylength, 1, 0, 0, 0, 0)) hk
set_option maxRecDepth 100000 in
theorem i38_89 {v0 v1 v2 v3 v4 : Value} {x y : Int32} {st : List Value} {h : ab_Hp} {Q : ab_O → ab_Hp → Prop} : wp 38 89 [v0, v1, v2, v3, v4] (.int y :: .int x :: st) h Q = if y ≤ x then wp 38 128 [v0, v1, v2, v3, v4] st h Q else wp 38 92 [v0, v1, v2, v3, v4] st h Q := wp_icmpP (by decide +kernel : ab_cod 38 89 = some (.if_icmp .ge 39, 3, 128, 0, 0, 0)) rfl
set_option maxRecDepth 100000 in
theorem i38_92 {v0 v1 v2 v3 v4 : Value} {st : List Value} {h : ab_Hp} {Q : ab_O → ab_Hp → Prop} (hv : ab_isA v0 = true) : wp 38 92 [v0, v1, v2, v3, v4] st h Q = wp 38 93 [v0, v1, v2, v3, v4] (v0 :: st) h Q := wp_aload_n (by decide +kernel : ab_cod 38 92 = some (.aload_n 0, 1, 0, 0, 0, 0)) hv
set_option maxRecDepth 100000 in
theorem i38_93 {v0 v1 v2 v3 v4 : Value} {r : Nat} {st : List Value} {h : ab_Hp} {Q : ab_O → ab_Hp → Prop} (hk : (ab_sh h r).1 = 14) : wp 38 93 [v0, v1, v2, v3, v4] (.ref r :: st) h Q = wp 38 96 [v0, v1, v2, v3, v4] (va_rf (ab_hr h r 1) :: st) h Q := wp_gf (by decide +kernel : ab_cod 38 93 = some (.getfield 19, 3, 4, 1, 149, 1)) hk
set_option maxRecDepth 100000 in
theorem i38_96 {v0 v1 v3 v4 : Value} {x : Int32} {st : List Value} {h : ab_Hp} {Q : ab_O → ab_Hp → Prop} : wp 38 96 [v0, v1, .int x, v3, v4] st h Q = wp 38 97 [v0, v1, .int x, v3, v4] (.int x :: st) h Q := wp_stp (ri := (.iload_n 2, 1, 0, 0, 0, 0)) (by decide +kernel) rfl rfl rfl
set_option maxRecDepth 100000 in
theorem i38_97 {v0 v1 v2 v3 v4 : Value} {r : Nat} {x : Int32} {st : List Value} {h : ab_Hp} {Q : ab_O → ab_Hp → Prop} (hk : (3 ≤ (ab_sh h r).1 ∧ (ab_sh h r).1 ≤ 5) ∧ ab_in x (ab_sh h r).2 = true) : wp 38 97 [v0, v1, v2, v3, v4] (.int x :: .ref r :: st) h Q = wp 38 98 [v0, v1, v2, v3, v4] (va_rf (ab_hr h r x.toNatClampNeg) :: st) h Q := wp_aa (by decide +kernel : ab_cod 38 97 = some (.aaload, 1, 0, 0, 0, 0)) hk
set_option maxRecDepth 100000 in
theorem i38_98 {v0 v1 v2 v3 v4 : Value} {w : Value} {st : List Value} {h : ab_Hp} {Q : ab_O → ab_Hp → Prop} (hv : ab_isA w = true) : wp 38 98 [v0, v1, v2, v3, v4] (w :: st) h Q = wp 38 99 [v0, v1, ab_clr v2, w, v4] st h Q := wp_astore_n (by decide +kernel : ab_cod 38 98 = some (.astore_n 3, 1, 0, 0, 0, 0)) hv
set_option maxRecDepth 100000 in
theorem i38_99 {v0 v1 v2 v3 v4 : Value} {st : List Value} {h : ab_Hp} {Q : ab_O → ab_Hp → Prop} (hv : ab_isA v1 = true) : wp 38 99 [v0, v1, v2, v3, v4] st h Q = wp 38 100 [v0, v1, v2, v3, v4] (v1 :: st) h Q := wp_aload_n (by decide +kernel : ab_cod 38 99 = some (.aload_n 1, 1, 0, 0, 0, 0)) hv
set_option maxRecDepth 100000 in
theorem i38_100 {v0 v1 v2 v3 v4 : Value} {r : Nat} {st : List Value} {h : ab_Hp} {Q : ab_O → ab_Hp → Prop} (hk : (ab_sh h r).1 = 14) : wp 38 100 [v0, v1, v2, v3, v4] (.ref r :: st) h Q = wp 38 103 [v0, v1, v2, v3, v4] (va_rf (ab_hr h r 1) :: st) h Q := wp_gf (by decide +kernel : ab_cod 38 100 = some (.getfield 19, 3, 4, 1, 149, 1)) hk
set_option maxRecDepth 100000 in
theorem i38_103 {v0 v1 v3 v4 : Value} {x : Int32} {st : List Value} {h : ab_Hp} {Q : ab_O → ab_Hp → Prop} : wp 38 103 [v0, v1, .int x, v3, v4] st h Q = wp 38 104 [v0, v1, .int x, v3, v4] (.int x :: st) h Q := wp_stp (ri := (.iload_n 2, 1, 0, 0, 0, 0)) (by decide +kernel) rfl rfl rfl
set_option maxRecDepth 100000 in
theorem i38_104 {v0 v1 v2 v3 v4 : Value} {r : Nat} {x : Int32} {st : List Value} {h : ab_Hp} {Q : ab_O → ab_Hp → Prop} (hk : (3 ≤ (ab_sh h r).1 ∧ (ab_sh h r).1 ≤ 5) ∧ ab_in x (ab_sh h r).2 = true) : wp 38 104 [v0, v1, v2, v3, v4] (.int x :: .ref r :: st) h Q = wp 38 105 [v0, v1, v2, v3, v4] (va_rf (ab_hr h r x.toNatClampNeg) :: st) h Q := wp_aa (by decide +kernel : ab_cod 38 104 = some (.aaload, 1, 0, 0, 0, 0)) hk
set_option maxRecDepth 100000 in
theorem i38_105 {v0 v1 v2 v3 v4 : Value} {w : Value} {st : List Value} {h : ab_Hp} {Q : ab_O → ab_Hp → Prop} (hv : ab_isA w = true) : wp 38 105 [v0, v1, v2, v3, v4] (w :: st) h Q = wp 38 107 [v0, v1, v2, ab_clr v3, w] st h Q := wp_astore (by decide +kernel : ab_cod 38 105 = some (.astore 4, 2, 0, 0, 0, 0)) hv
set_option maxRecDepth 100000 in
theorem i38_107 {v0 v1 v2 v3 v4 : Value} {st : List Value} {h : ab_Hp} {Q : ab_O → ab_Hp → Prop} (hv : ab_isA v3 = true) : wp 38 107 [v0, v1, v2, v3, v4] st h Q = wp 38 108 [v0, v1, v2, v3, v4] (v3 :: st) h Q := wp_aload_n (by decide +kernel : ab_cod 38 107 = some (.aload_n 3, 1, 0, 0, 0, 0)) hv
set_option maxRecDepth 100000 in
theorem i38_108 {v0 v1 v2 v3 v4 : Value} {o : Option Nat} {st : List Value} {h : ab_Hp} {Q : ab_O → ab_Hp → Prop} : wp 38 108 [v0, v1, v2, v3, v4] (va_rf o :: st) h Q = if o = none then wp 38 122 [v0, v1, v2, v3, v4] st h Q else wp 38 111 [v0, v1, v2, v3, v4] st h Q := wp_ifnull (by decide +kernel : ab_cod 38 108 = some (.ifnull 14, 3, 122, 0, 0, 0)) o
set_option maxRecDepth 100000 in
theorem i38_108r {v0 v1 v2 v3 v4 : Value} {r : Nat} {st : List Value} {h : ab_Hp} {Q : ab_O → ab_Hp → Prop} : wp 38 108 [v0, v1, v2, v3, v4] (.ref r :: st) h Q = wp 38 111 [v0, v1, v2, v3, v4] st h Q := wp_stp (ri := (.ifnull 14, 3, 122, 0, 0, 0)) (by decide +kernel) rfl rfl rfl
set_option maxRecDepth 100000 in
theorem i38_108n {v0 v1 v2 v3 v4 : Value} {st : List Value} {h : ab_Hp} {Q : ab_O → ab_Hp → Prop} : wp 38 108 [v0, v1, v2, v3, v4] (.null :: st) h Q = wp 38 122 [v0, v1, v2, v3, v4] st h Q := wp_stp (ri := (.ifnull 14, 3, 122, 0, 0, 0)) (by decide +kernel) rfl rfl rfl
set_option maxRecDepth 100000 in
theorem i38_111 {v0 v1 v2 v3 v4 : Value} {st : List Value} {h : ab_Hp} {Q : ab_O → ab_Hp → Prop} (hv : ab_isA v4 = true) : wp 38 111 [v0, v1, v2, v3, v4] st h Q = wp 38 113 [v0, v1, v2, v3, v4] (v4 :: st) h Q := wp_aload (by decide +kernel : ab_cod 38 111 = some (.aload 4, 2, 0, 0, 0, 0)) hv
set_option maxRecDepth 100000 in
theorem i38_113 {v0 v1 v2 v3 v4 : Value} {o : Option Nat} {st : List Value} {h : ab_Hp} {Q : ab_O → ab_Hp → Prop} : wp 38 113 [v0, v1, v2, v3, v4] (va_rf o :: st) h Q = if o = none then wp 38 122 [v0, v1, v2, v3, v4] st h Q else wp 38 116 [v0, v1, v2, v3, v4] st h Q := wp_ifnull (by decide +kernel : ab_cod 38 113 = some (.ifnull 9, 3, 122, 0, 0, 0)) o
set_option maxRecDepth 100000 in
theorem i38_113r {v0 v1 v2 v3 v4 : Value} {r : Nat} {st : List Value} {h : ab_Hp} {Q : ab_O → ab_Hp → Prop} : wp 38 113 [v0, v1, v2, v3, v4] (.ref r :: st) h Q = wp 38 116 [v0, v1, v2, v3, v4] st h Q := wp_stp (ri := (.ifnull 9, 3, 122, 0, 0, 0)) (by decide +kernel) rfl rfl rfl
set_option maxRecDepth 100000 in
theorem i38_113n {v0 v1 v2 v3 v4 : Value} {st : List Value} {h : ab_Hp} {Q : ab_O → ab_Hp → Prop} : wp 38 113 [v0, v1, v2, v3, v4] (.null :: st) h Q = wp 38 122 [v0, v1, v2, v3, v4] st h Q := wp_stp (ri := (.ifnull 9, 3, 122, 0, 0, 0)) (by decide +kernel) rfl rfl rfl
set_option maxRecDepth 100000 in
theorem i38_116 {v0 v1 v2 v3 v4 : Value} {st : List Value} {h : ab_Hp} {Q : ab_O → ab_Hp → Prop} (hv : ab_isA v3 = true) : wp 38 116 [v0, v1, v2, v3, v4] st h Q = wp 38 117 [v0, v1, v2, v3, v4] (v3 :: st) h Q := wp_aload_n (by decide +kernel : ab_cod 38 116 = some (.aload_n 3, 1, 0, 0, 0, 0)) hv
set_option maxRecDepth 100000 in
theorem i38_117 {v0 v1 v2 v3 v4 : Value} {st : List Value} {h : ab_Hp} {Q : ab_O → ab_Hp → Prop} (hv : ab_isA v4 = true) : wp 38 117 [v0, v1, v2, v3, v4] st h Q = wp 38 119 [v0, v1, v2, v3, v4] (v4 :: st) h Q := wp_aload (by decide +kernel : ab_cod 38 117 = some (.aload 4, 2, 0, 0, 0, 0)) hv
set_option maxRecDepth 100000 in
theorem i38_119 {v0 v1 v2 v3 v4 : Value} {r : Nat} {a0 : Nat} {st : List Value} {h : ab_Hp} {Q : ab_O → ab_Hp → Prop} (hl : st.length ≤ 4) (hk : (ab_sh h r).1 = 13) : wp 38 119 [v0, v1, v2, v3, v4] (.ref a0 :: .ref r :: st) h Q = wp 20 0 [.ref r, .ref a0] [] h (ab_K 38 119 [v0, v1, v2, v3, v4] st Q) := wp_callV (as := [.ref a0]) (by decide +kernel : ab_cod 38 119 = some (.invokevirtual 152, 3, 20, 2, 0, 316)) rfl rfl rfl rfl hl hk
set_option maxRecDepth 100000 in
theorem i38_122 {v0 v1 v3 v4 : Value} {x : Int32} {st : List Value} {h : ab_Hp} {Q : ab_O → ab_Hp → Prop} : wp 38 122 [v0, v1, .int x, v3, v4] st h Q = wp 38 125 [v0, ab_clr v1, .int (x + nI 1), v3, v4] st h Q := wp_stp (ri := (.iinc 2 1, 3, 0, 0, 0, 0)) (by decide +kernel) rfl rfl rfl
set_option maxRecDepth 100000 in
theorem i38_125 {v0 v1 v2 v3 v4 : Value} {st : List Value} {h : ab_Hp} {Q : ab_O → ab_Hp → Prop} : wp 38 125 [v0, v1, v2, v3, v4] st h Q = wp 38 66 [v0, v1, v2, v3, v4] st h Q := wp_stp (ri := (.goto (-59), 3, 66, 0, 0, 0)) (by decide +kernel) rfl rfl rfl
set_option maxRecDepth 100000 in
theorem i38_128 {v0 v1 v2 v3 v4 : Value} {st : List Value} {h : ab_Hp} {Q : ab_O → ab_Hp → Prop} (hv : ab_isA v0 = true) : wp 38 128 [v0, v1, v2, v3, v4] st h Q = wp 38 129 [v0, v1, v2, v3, v4] (v0 :: st) h Q := wp_aload_n (by decide +kernel : ab_cod 38 128 = some (.aload_n 0, 1, 0, 0, 0, 0)) hv
set_option maxRecDepth 100000 in
theorem i38_129 {v0 v1 v2 v3 v4 : Value} {st : List Value} {h : ab_Hp} {Q : ab_O → ab_Hp → Prop} (hv : ab_isA v1 = true) : wp 38 129 [v0, v1, v2, v3, v4] st h Q = wp 38 130 [v0, v1, v2, v3, v4] (v1 :: st) h Q := wp_aload_n (by decide +kernel : ab_cod 38 129 = some (.aload_n 1, 1, 0, 0, 0, 0)) hv
set_option maxRecDepth 100000 in
theorem i38_130 {v0 v1 v2 v3 v4 : Value} {r : Nat} {st : List Value} {h : ab_Hp} {Q : ab_O → ab_Hp → Prop} (hk : (ab_sh h r).1 = 14) : wp 38 130 [v0, v1, v2, v3, v4] (.ref r :: st) h Q = wp 38 133 [v0, v1, v2, v3, v4] (.int (ab_hi h r 3) :: st) h Q := wp_gf (by decide +kernel : ab_cod 38 130 = some (.getfield 27, 3, 4, 3, 152, 0)) hk
set_option maxRecDepth 100000 in
theorem i38_133 {v0 v1 v2 v3 v4 : Value} {r : Nat} {x : Int32} {st : List Value} {h : ab_Hp} {Q : ab_O → ab_Hp → Prop} (hk : (ab_sh h r).1 = 14) : wp 38 133 [v0, v1, v2, v3, v4] (.int x :: .ref r :: st) h Q = wp 38 136 [v0, v1, v2, v3, v4] st (ab_setI h (ab_u (ab_hi h) r 3 x)) Q := wp_pf (by decide +kernel : ab_cod 38 133 = some (.putfield 27, 3, 4, 3, 152, 0)) hk rfl
set_option maxRecDepth 100000 in
theorem i38_136 {v0 v1 v2 v3 v4 : Value} {st : List Value} {h : ab_Hp} {Q : ab_O → ab_Hp → Prop} (hv : ab_isA v0 = true) : wp 38 136 [v0, v1, v2, v3, v4] st h Q = wp 38 137 [v0, v1, v2, v3, v4] (v0 :: st) h Q := wp_aload_n (by decide +kernel : ab_cod 38 136 = some (.aload_n 0, 1, 0, 0, 0, 0)) hv
set_option maxRecDepth 100000 in
theorem i38_137 {v0 v1 v2 v3 v4 : Value} {st : List Value} {h : ab_Hp} {Q : ab_O → ab_Hp → Prop} (hv : ab_isA v1 = true) : wp 38 137 [v0, v1, v2, v3, v4] st h Q = wp 38 138 [v0, v1, v2, v3, v4] (v1 :: st) h Q := wp_aload_n (by decide +kernel : ab_cod 38 137 = some (.aload_n 1, 1, 0, 0, 0, 0)) hv
set_option maxRecDepth 100000 in
theorem i38_138 {v0 v1 v2 v3 v4 : Value} {r : Nat} {st : List Value} {h : ab_Hp} {Q : ab_O → ab_Hp → Prop} (hk : (ab_sh h r).1 = 14) : wp 38 138 [v0, v1, v2, v3, v4] (.ref r :: st) h Q = wp 38 141 [v0, v1, v2, v3, v4] (.int (ab_hi h r 4) :: st) h Q := wp_gf (by decide +kernel : ab_cod 38 138 = some (.getfield 30, 3, 4, 4, 154, 0)) hk
set_option maxRecDepth 100000 in
theorem i38_141 {v0 v1 v2 v3 v4 : Value} {r : Nat} {x : Int32} {st : List Value} {h : ab_Hp} {Q : ab_O → ab_Hp → Prop} (hk : (ab_sh h r).1 = 14) : wp 38 141 [v0, v1, v2, v3, v4] (.int x :: .ref r :: st) h Q = wp 38 144 [v0, v1, v2, v3, v4] st (ab_setI h (ab_u (ab_hi h) r 4 x)) Q := wp_pf (by decide +kernel : ab_cod 38 141 = some (.putfield 30, 3, 4, 4, 154, 0)) hk rfl
set_option maxRecDepth 100000 in
theorem i38_144 {v0 v1 v2 v3 v4 : Value} {st : List Value} {h : ab_Hp} {Q : ab_O → ab_Hp → Prop} (hv : ab_isA v0 = true) : wp 38 144 [v0, v1, v2, v3, v4] st h Q = wp 38 145 [v0, v1, v2, v3, v4] (v0 :: st) h Q := wp_aload_n (by decide +kernel : ab_cod 38 144 = some (.aload_n 0, 1, 0, 0, 0, 0)) hv
set_option maxRecDepth 100000 in
theorem i38_145 {v0 v1 v2 v3 v4 : Value} {st : List Value} {h : ab_Hp} {Q : ab_O → ab_Hp → Prop} (hv : ab_isA v1 = true) : wp 38 145 [v0, v1, v2, v3, v4] st h Q = wp 38 146 [v0, v1, v2, v3, v4] (v1 :: st) h Q := wp_aload_n (by decide +kernel : ab_cod 38 145 = some (.aload_n 1, 1, 0, 0, 0, 0)) hv
set_option maxRecDepth 100000 in
theorem i38_146 {v0 v1 v2 v3 v4 : Value} {r : Nat} {st : List Value} {h : ab_Hp} {Q : ab_O → ab_Hp → Prop} (hk : (ab_sh h r).1 = 14) : wp 38 146 [v0, v1, v2, v3, v4] (.ref r :: st) h Q = wp 38 149 [v0, v1, v2, v3, v4] (.int (ab_hi h r 5) :: st) h Q := wp_gf (by decide +kernel : ab_cod 38 146 = some (.getfield 33, 3, 4, 5, 156, 0)) hk
set_option maxRecDepth 100000 in
theorem i38_149 {v0 v1 v2 v3 v4 : Value} {r : Nat} {x : Int32} {st : List Value} {h : ab_Hp} {Q : ab_O → ab_Hp → Prop} (hk : (ab_sh h r).1 = 14) : wp 38 149 [v0, v1, v2, v3, v4] (.int x :: .ref r :: st) h Q = wp 38 152 [v0, v1, v2, v3, v4] st (ab_setI h (ab_u (ab_hi h) r 5 x)) Q := wp_pf (by decide +kernel : ab_cod 38 149 = some (.putfield 33, 3, 4, 5, 156, 0)) hk rfl
set_option maxRecDepth 100000 in
theorem i38_152 {v0 v1 v2 v3 v4 : Value} {st : List Value} {h : ab_Hp} {Q : ab_O → ab_Hp → Prop} (hv : ab_isA v0 = true) : wp 38 152 [v0, v1, v2, v3, v4] st h Q = wp 38 153 [v0, v1, v2, v3, v4] (v0 :: st) h Q := wp_aload_n (by decide +kernel : ab_cod 38 152 = some (.aload_n 0, 1, 0, 0, 0, 0)) hv
set_option maxRecDepth 100000 in
theorem i38_153 {v0 v1 v2 v3 v4 : Value} {st : List Value} {h : ab_Hp} {Q : ab_O → ab_Hp → Prop} (hv : ab_isA v1 = true) : wp 38 153 [v0, v1, v2, v3, v4] st h Q = wp 38 154 [v0, v1, v2, v3, v4] (v1 :: st) h Q := wp_aload_n (by decide +kernel : ab_cod 38 153 = some (.aload_n 1, 1, 0, 0, 0, 0)) hv
set_option maxRecDepth 100000 in
theorem i38_154 {v0 v1 v2 v3 v4 : Value} {r : Nat} {st : List Value} {h : ab_Hp} {Q : ab_O → ab_Hp → Prop} (hk : (ab_sh h r).1 = 14) : wp 38 154 [v0, v1, v2, v3, v4] (.ref r :: st) h Q = wp 38 157 [v0, v1, v2, v3, v4] (.int (ab_hi h r 6) :: st) h Q := wp_gf (by decide +kernel : ab_cod 38 154 = some (.getfield 36, 3, 4, 6, 157, 0)) hk
set_option maxRecDepth 100000 in
theorem i38_157 {v0 v1 v2 v3 v4 : Value} {r : Nat} {x : Int32} {st : List Value} {h : ab_Hp} {Q : ab_O → ab_Hp → Prop} (hk : (ab_sh h r).1 = 14) : wp 38 157 [v0, v1, v2, v3, v4] (.int x :: .ref r :: st) h Q = wp 38 160 [v0, v1, v2, v3, v4] st (ab_setI h (ab_u (ab_hi h) r 6 x)) Q := wp_pf (by decide +kernel : ab_cod 38 157 = some (.putfield 36, 3, 4, 6, 157, 0)) hk rfl
set_option maxRecDepth 100000 in
theorem i38_160 {v0 v1 v2 v3 v4 : Value} {h : ab_Hp} {Q : ab_O → ab_Hp → Prop} : wp 38 160 [v0, v1, v2, v3, v4] [] h Q = Q (.inl none) h := wp_vret (by decide +kernel : ab_cod 38 160 = some (.return_, 1, 0, 0, 0, 0)) rfl
