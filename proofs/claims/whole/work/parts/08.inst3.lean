/-! An equation an instruction: printed by wip/whole/gen/gen2.py. -/
/-! 85: SeamBeatsModel.<init>()V -/
set_option maxRecDepth 100000 in
theorem i85_0 {v0 v1 : Value} {st : List Value} {h : ab_Hp} {Q : ab_O → ab_Hp → Prop} (hv : ab_isA v0 = true) : wp 85 0 [v0, v1] st h Q = wp 85 1 [v0, v1] (v0 :: st) h Q := wp_aload_n (by decide +kernel : ab_cod 85 0 = some (.aload_n 0, 1, 0, 0, 0, 0)) hv
set_option maxRecDepth 100000 in
theorem i85_1 {v0 v1 : Value} {r : Nat} {st : List Value} {h : ab_Hp} {Q : ab_O → ab_Hp → Prop} (hl : st.length ≤ 4) : wp 85 1 [v0, v1] (.ref r :: st) h Q = wp 85 4 [v0, v1] st h Q := wp_oinit (by decide +kernel : ab_cod 85 1 = some (.invokespecial 1, 3, 0, 0, 4, 767)) hl
set_option maxRecDepth 100000 in
theorem i85_4 {v0 v1 : Value} {st : List Value} {h : ab_Hp} {Q : ab_O → ab_Hp → Prop} (hv : ab_isA v0 = true) : wp 85 4 [v0, v1] st h Q = wp 85 5 [v0, v1] (v0 :: st) h Q := wp_aload_n (by decide +kernel : ab_cod 85 4 = some (.aload_n 0, 1, 0, 0, 0, 0)) hv
set_option maxRecDepth 100000 in
theorem i85_5 {v0 v1 : Value} {st : List Value} {h : ab_Hp} {Q : ab_O → ab_Hp → Prop} : wp 85 5 [v0, v1] st h Q = wp 85 8 [v0, v1] (.int (nI 360) :: st) h Q := wp_stp (ri := (.sipush 360, 3, 0, 0, 0, 0)) (by decide +kernel) rfl rfl rfl
set_option maxRecDepth 100000 in
theorem i85_8 {v0 v1 : Value} {x : Int32} {st : List Value} {h : ab_Hp} {Q : ab_O → ab_Hp → Prop} (hk : ab_nx h ≠ 0 ∧ 0 ≤ x ∧ x.toNatClampNeg ≤ 65536) : wp 85 8 [v0, v1] (.int x :: st) h Q = wp 85 10 [v0, v1] (.ref (ab_nx h) :: st) (ab_new h 1 x.toNatClampNeg x.toNatClampNeg) Q := wp_newa (by decide +kernel : ab_cod 85 8 = some (.newarray .int, 2, 1, 111, 0, 0)) hk
set_option maxRecDepth 100000 in
theorem i85_10 {v0 v1 : Value} {r : Nat} {p : Nat} {st : List Value} {h : ab_Hp} {Q : ab_O → ab_Hp → Prop} (hk : (ab_sh h r).1 = 17) : wp 85 10 [v0, v1] (.ref p :: .ref r :: st) h Q = wp 85 13 [v0, v1] st (ab_setR h (ab_u (ab_hr h) r 1 (some p))) Q := wp_pf (by decide +kernel : ab_cod 85 10 = some (.putfield 7, 3, 7, 1, 773, 1)) hk rfl
set_option maxRecDepth 100000 in
theorem i85_13 {v0 v1 : Value} {st : List Value} {h : ab_Hp} {Q : ab_O → ab_Hp → Prop} (hv : ab_isA v0 = true) : wp 85 13 [v0, v1] st h Q = wp 85 14 [v0, v1] (v0 :: st) h Q := wp_aload_n (by decide +kernel : ab_cod 85 13 = some (.aload_n 0, 1, 0, 0, 0, 0)) hv
set_option maxRecDepth 100000 in
theorem i85_14 {v0 v1 : Value} {st : List Value} {h : ab_Hp} {Q : ab_O → ab_Hp → Prop} : wp 85 14 [v0, v1] st h Q = wp 85 17 [v0, v1] (.int (nI 2160) :: st) h Q := wp_stp (ri := (.sipush 2160, 3, 0, 0, 0, 0)) (by decide +kernel) rfl rfl rfl
set_option maxRecDepth 100000 in
theorem i85_17 {v0 v1 : Value} {x : Int32} {st : List Value} {h : ab_Hp} {Q : ab_O → ab_Hp → Prop} (hk : ab_nx h ≠ 0 ∧ 0 ≤ x ∧ x.toNatClampNeg ≤ 65536) : wp 85 17 [v0, v1] (.int x :: st) h Q = wp 85 19 [v0, v1] (.ref (ab_nx h) :: st) (ab_new h 1 x.toNatClampNeg x.toNatClampNeg) Q := wp_newa (by decide +kernel : ab_cod 85 17 = some (.newarray .int, 2, 1, 111, 0, 0)) hk
set_option maxRecDepth 100000 in
theorem i85_19 {v0 v1 : Value} {r : Nat} {p : Nat} {st : List Value} {h : ab_Hp} {Q : ab_O → ab_Hp → Prop} (hk : (ab_sh h r).1 = 17) : wp 85 19 [v0, v1] (.ref p :: .ref r :: st) h Q = wp 85 22 [v0, v1] st (ab_setR h (ab_u (ab_hr h) r 2 (some p))) Q := wp_pf (by decide +kernel : ab_cod 85 19 = some (.putfield 13, 3, 7, 2, 774, 1)) hk rfl
set_option maxRecDepth 100000 in
theorem i85_22 {v0 v1 : Value} {st : List Value} {h : ab_Hp} {Q : ab_O → ab_Hp → Prop} (hv : ab_isA v0 = true) : wp 85 22 [v0, v1] st h Q = wp 85 23 [v0, v1] (v0 :: st) h Q := wp_aload_n (by decide +kernel : ab_cod 85 22 = some (.aload_n 0, 1, 0, 0, 0, 0)) hv
set_option maxRecDepth 100000 in
theorem i85_23 {v0 v1 : Value} {st : List Value} {h : ab_Hp} {Q : ab_O → ab_Hp → Prop} : wp 85 23 [v0, v1] st h Q = wp 85 26 [v0, v1] (.int (nI 360) :: st) h Q := wp_stp (ri := (.sipush 360, 3, 0, 0, 0, 0)) (by decide +kernel) rfl rfl rfl
set_option maxRecDepth 100000 in
theorem i85_26 {v0 v1 : Value} {x : Int32} {st : List Value} {h : ab_Hp} {Q : ab_O → ab_Hp → Prop} (hk : ab_nx h ≠ 0 ∧ 0 ≤ x ∧ x.toNatClampNeg ≤ 65536) : wp 85 26 [v0, v1] (.int x :: st) h Q = wp 85 28 [v0, v1] (.ref (ab_nx h) :: st) (ab_new h 1 x.toNatClampNeg x.toNatClampNeg) Q := wp_newa (by decide +kernel : ab_cod 85 26 = some (.newarray .int, 2, 1, 111, 0, 0)) hk
set_option maxRecDepth 100000 in
theorem i85_28 {v0 v1 : Value} {r : Nat} {p : Nat} {st : List Value} {h : ab_Hp} {Q : ab_O → ab_Hp → Prop} (hk : (ab_sh h r).1 = 17) : wp 85 28 [v0, v1] (.ref p :: .ref r :: st) h Q = wp 85 31 [v0, v1] st (ab_setR h (ab_u (ab_hr h) r 4 (some p))) Q := wp_pf (by decide +kernel : ab_cod 85 28 = some (.putfield 16, 3, 7, 4, 776, 1)) hk rfl
set_option maxRecDepth 100000 in
theorem i85_31 {v0 v1 : Value} {st : List Value} {h : ab_Hp} {Q : ab_O → ab_Hp → Prop} (hv : ab_isA v0 = true) : wp 85 31 [v0, v1] st h Q = wp 85 32 [v0, v1] (v0 :: st) h Q := wp_aload_n (by decide +kernel : ab_cod 85 31 = some (.aload_n 0, 1, 0, 0, 0, 0)) hv
set_option maxRecDepth 100000 in
theorem i85_32 {v0 v1 : Value} {st : List Value} {h : ab_Hp} {Q : ab_O → ab_Hp → Prop} : wp 85 32 [v0, v1] st h Q = wp 85 34 [v0, v1] (.int (nI 60) :: st) h Q := wp_stp (ri := (.bipush 60, 2, 0, 0, 0, 0)) (by decide +kernel) rfl rfl rfl
set_option maxRecDepth 100000 in
theorem i85_34 {v0 v1 : Value} {x : Int32} {st : List Value} {h : ab_Hp} {Q : ab_O → ab_Hp → Prop} (hk : ab_nx h ≠ 0 ∧ 0 ≤ x ∧ x.toNatClampNeg ≤ 65536) : wp 85 34 [v0, v1] (.int x :: st) h Q = wp 85 36 [v0, v1] (.ref (ab_nx h) :: st) (ab_new h 1 x.toNatClampNeg x.toNatClampNeg) Q := wp_newa (by decide +kernel : ab_cod 85 34 = some (.newarray .int, 2, 1, 111, 0, 0)) hk
set_option maxRecDepth 100000 in
theorem i85_36 {v0 v1 : Value} {r : Nat} {p : Nat} {st : List Value} {h : ab_Hp} {Q : ab_O → ab_Hp → Prop} (hk : (ab_sh h r).1 = 17) : wp 85 36 [v0, v1] (.ref p :: .ref r :: st) h Q = wp 85 39 [v0, v1] st (ab_setR h (ab_u (ab_hr h) r 5 (some p))) Q := wp_pf (by decide +kernel : ab_cod 85 36 = some (.putfield 19, 3, 7, 5, 777, 1)) hk rfl
set_option maxRecDepth 100000 in
theorem i85_39 {v0 v1 : Value} {st : List Value} {h : ab_Hp} {Q : ab_O → ab_Hp → Prop} (hv : ab_isA v0 = true) : wp 85 39 [v0, v1] st h Q = wp 85 40 [v0, v1] (v0 :: st) h Q := wp_aload_n (by decide +kernel : ab_cod 85 39 = some (.aload_n 0, 1, 0, 0, 0, 0)) hv
set_option maxRecDepth 100000 in
theorem i85_40 {v0 v1 : Value} {st : List Value} {h : ab_Hp} {Q : ab_O → ab_Hp → Prop} : wp 85 40 [v0, v1] st h Q = wp 85 42 [v0, v1] (.int (nI 64) :: st) h Q := wp_stp (ri := (.bipush 64, 2, 0, 0, 0, 0)) (by decide +kernel) rfl rfl rfl
set_option maxRecDepth 100000 in
theorem i85_42 {v0 v1 : Value} {x : Int32} {st : List Value} {h : ab_Hp} {Q : ab_O → ab_Hp → Prop} (hk : ab_nx h ≠ 0 ∧ 0 ≤ x ∧ x.toNatClampNeg ≤ 65536) : wp 85 42 [v0, v1] (.int x :: st) h Q = wp 85 44 [v0, v1] (.ref (ab_nx h) :: st) (ab_new h 1 x.toNatClampNeg x.toNatClampNeg) Q := wp_newa (by decide +kernel : ab_cod 85 42 = some (.newarray .int, 2, 1, 111, 0, 0)) hk
set_option maxRecDepth 100000 in
theorem i85_44 {v0 v1 : Value} {r : Nat} {p : Nat} {st : List Value} {h : ab_Hp} {Q : ab_O → ab_Hp → Prop} (hk : (ab_sh h r).1 = 17) : wp 85 44 [v0, v1] (.ref p :: .ref r :: st) h Q = wp 85 47 [v0, v1] st (ab_setR h (ab_u (ab_hr h) r 7 (some p))) Q := wp_pf (by decide +kernel : ab_cod 85 44 = some (.putfield 22, 3, 7, 7, 779, 1)) hk rfl
set_option maxRecDepth 100000 in
theorem i85_47 {v0 v1 : Value} {st : List Value} {h : ab_Hp} {Q : ab_O → ab_Hp → Prop} (hv : ab_isA v0 = true) : wp 85 47 [v0, v1] st h Q = wp 85 48 [v0, v1] (v0 :: st) h Q := wp_aload_n (by decide +kernel : ab_cod 85 47 = some (.aload_n 0, 1, 0, 0, 0, 0)) hv
set_option maxRecDepth 100000 in
theorem i85_48 {v0 v1 : Value} {r : Nat} {st : List Value} {h : ab_Hp} {Q : ab_O → ab_Hp → Prop} (hk : (ab_sh h r).1 = 17) : wp 85 48 [v0, v1] (.ref r :: st) h Q = wp 85 51 [v0, v1] (va_rf (ab_hr h r 1) :: st) h Q := wp_gf (by decide +kernel : ab_cod 85 48 = some (.getfield 7, 3, 7, 1, 773, 1)) hk
set_option maxRecDepth 100000 in
theorem i85_51 {v0 v1 : Value} {st : List Value} {h : ab_Hp} {Q : ab_O → ab_Hp → Prop} : wp 85 51 [v0, v1] st h Q = wp 85 52 [v0, v1] (.int (nI 4) :: st) h Q := wp_stp (ri := (.iconst 4, 1, 0, 0, 0, 0)) (by decide +kernel) rfl rfl rfl
set_option maxRecDepth 100000 in
theorem i85_52 {v0 v1 : Value} {st : List Value} {h : ab_Hp} {Q : ab_O → ab_Hp → Prop} : wp 85 52 [v0, v1] st h Q = wp 85 53 [v0, v1] (.int ((-1)) :: st) h Q := wp_stp (ri := (.iconst (-1), 1, 0, 0, 0, 0)) (by decide +kernel) rfl rfl rfl
set_option maxRecDepth 100000 in
theorem i85_53 {v0 v1 : Value} {r : Nat} {x y : Int32} {st : List Value} {h : ab_Hp} {Q : ab_O → ab_Hp → Prop} (hk : (ab_sh h r).1 = 1 ∧ ab_in x (ab_sh h r).2 = true) : wp 85 53 [v0, v1] (.int y :: .int x :: .ref r :: st) h Q = wp 85 54 [v0, v1] st (ab_setI h (ab_u (ab_hi h) r x.toNatClampNeg y)) Q := wp_ias (by decide +kernel : ab_cod 85 53 = some (.iastore, 1, 0, 0, 0, 0)) hk
set_option maxRecDepth 100000 in
theorem i85_54 {v0 v1 : Value} {st : List Value} {h : ab_Hp} {Q : ab_O → ab_Hp → Prop} : wp 85 54 [v0, v1] st h Q = wp 85 55 [v0, v1] (.int (nI 0) :: st) h Q := wp_stp (ri := (.iconst 0, 1, 0, 0, 0, 0)) (by decide +kernel) rfl rfl rfl
set_option maxRecDepth 100000 in
theorem i85_55 {v0 v1 : Value} {w : Int32} {st : List Value} {h : ab_Hp} {Q : ab_O → ab_Hp → Prop} : wp 85 55 [v0, v1] (.int w :: st) h Q = wp 85 56 [ab_clr v0, .int w] st h Q := wp_stp (ri := (.istore_n 1, 1, 0, 0, 0, 0)) (by decide +kernel) rfl rfl rfl
set_option maxRecDepth 100000 in
theorem i85_56 {v0 : Value} {x : Int32} {st : List Value} {h : ab_Hp} {Q : ab_O → ab_Hp → Prop} : wp 85 56 [v0, .int x] st h Q = wp 85 57 [v0, .int x] (.int x :: st) h Q := wp_stp (ri := (.iload_n 1, 1, 0, 0, 0, 0)) (by decide +kernel) rfl rfl rfl
set_option maxRecDepth 100000 in
theorem i85_57 {v0 v1 : Value} {st : List Value} {h : ab_Hp} {Q : ab_O → ab_Hp → Prop} : wp 85 57 [v0, v1] st h Q = wp 85 59 [v0, v1] (.int (nI 6) :: st) h Q := wp_stp (ri := (.bipush 6, 2, 0, 0, 0, 0)) (by decide +kernel) rfl rfl rfl
set_option maxRecDepth 100000 in
theorem i85_59 {v0 v1 : Value} {x y : Int32} {st : List Value} {h : ab_Hp} {Q : ab_O → ab_Hp → Prop} : wp 85 59 [v0, v1] (.int y :: .int x :: st) h Q = if y ≤ x then wp 85 105 [v0, v1] st h Q else wp 85 62 [v0, v1] st h Q := wp_icmpP (by decide +kernel : ab_cod 85 59 = some (.if_icmp .ge 46, 3, 105, 0, 0, 0)) rfl
set_option maxRecDepth 100000 in
theorem i85_62 {v0 v1 : Value} {st : List Value} {h : ab_Hp} {Q : ab_O → ab_Hp → Prop} (hv : ab_isA v0 = true) : wp 85 62 [v0, v1] st h Q = wp 85 63 [v0, v1] (v0 :: st) h Q := wp_aload_n (by decide +kernel : ab_cod 85 62 = some (.aload_n 0, 1, 0, 0, 0, 0)) hv
set_option maxRecDepth 100000 in
theorem i85_63 {v0 : Value} {x : Int32} {st : List Value} {h : ab_Hp} {Q : ab_O → ab_Hp → Prop} : wp 85 63 [v0, .int x] st h Q = wp 85 64 [v0, .int x] (.int x :: st) h Q := wp_stp (ri := (.iload_n 1, 1, 0, 0, 0, 0)) (by decide +kernel) rfl rfl rfl
set_option maxRecDepth 100000 in
theorem i85_64 {v0 v1 : Value} {st : List Value} {h : ab_Hp} {Q : ab_O → ab_Hp → Prop} : wp 85 64 [v0, v1] st h Q = wp 85 65 [v0, v1] (.int (nI 0) :: st) h Q := wp_stp (ri := (.iconst 0, 1, 0, 0, 0, 0)) (by decide +kernel) rfl rfl rfl
set_option maxRecDepth 100000 in
theorem i85_65 {v0 v1 : Value} {st : List Value} {h : ab_Hp} {Q : ab_O → ab_Hp → Prop} : wp 85 65 [v0, v1] st h Q = wp 85 66 [v0, v1] (.int (nI 1) :: st) h Q := wp_stp (ri := (.iconst 1, 1, 0, 0, 0, 0)) (by decide +kernel) rfl rfl rfl
set_option maxRecDepth 100000 in
theorem i85_66 {v0 v1 : Value} {r : Nat} {a0 : Int32} {a1 : Int32} {a2 : Int32} {st : List Value} {h : ab_Hp} {Q : ab_O → ab_Hp → Prop} (hl : st.length ≤ 4) (hk : (ab_sh h r).1 = 17) : wp 85 66 [v0, v1] (.int a2 :: .int a1 :: .int a0 :: .ref r :: st) h Q = wp 91 0 [.ref r, .int a0, .int a1, .int a2] [] h (ab_K 85 66 [v0, v1] st Q) := wp_callV (as := [.int a0, .int a1, .int a2]) (by decide +kernel : ab_cod 85 66 = some (.invokevirtual 25, 3, 91, 4, 0, 768)) rfl rfl rfl rfl hl hk
set_option maxRecDepth 100000 in
theorem i85_69 {v0 v1 : Value} {st : List Value} {h : ab_Hp} {Q : ab_O → ab_Hp → Prop} (hv : ab_isA v0 = true) : wp 85 69 [v0, v1] st h Q = wp 85 70 [v0, v1] (v0 :: st) h Q := wp_aload_n (by decide +kernel : ab_cod 85 69 = some (.aload_n 0, 1, 0, 0, 0, 0)) hv
set_option maxRecDepth 100000 in
theorem i85_70 {v0 : Value} {x : Int32} {st : List Value} {h : ab_Hp} {Q : ab_O → ab_Hp → Prop} : wp 85 70 [v0, .int x] st h Q = wp 85 71 [v0, .int x] (.int x :: st) h Q := wp_stp (ri := (.iload_n 1, 1, 0, 0, 0, 0)) (by decide +kernel) rfl rfl rfl
set_option maxRecDepth 100000 in
theorem i85_71 {v0 v1 : Value} {st : List Value} {h : ab_Hp} {Q : ab_O → ab_Hp → Prop} : wp 85 71 [v0, v1] st h Q = wp 85 72 [v0, v1] (.int (nI 2) :: st) h Q := wp_stp (ri := (.iconst 2, 1, 0, 0, 0, 0)) (by decide +kernel) rfl rfl rfl
set_option maxRecDepth 100000 in
theorem i85_72 {v0 v1 : Value} {st : List Value} {h : ab_Hp} {Q : ab_O → ab_Hp → Prop} : wp 85 72 [v0, v1] st h Q = wp 85 73 [v0, v1] (.int (nI 1) :: st) h Q := wp_stp (ri := (.iconst 1, 1, 0, 0, 0, 0)) (by decide +kernel) rfl rfl rfl
set_option maxRecDepth 100000 in
theorem i85_73 {v0 v1 : Value} {r : Nat} {a0 : Int32} {a1 : Int32} {a2 : Int32} {st : List Value} {h : ab_Hp} {Q : ab_O → ab_Hp → Prop} (hl : st.length ≤ 4) (hk : (ab_sh h r).1 = 17) : wp 85 73 [v0, v1] (.int a2 :: .int a1 :: .int a0 :: .ref r :: st) h Q = wp 91 0 [.ref r, .int a0, .int a1, .int a2] [] h (ab_K 85 73 [v0, v1] st Q) := wp_callV (as := [.int a0, .int a1, .int a2]) (by decide +kernel : ab_cod 85 73 = some (.invokevirtual 25, 3, 91, 4, 0, 768)) rfl rfl rfl rfl hl hk
set_option maxRecDepth 100000 in
theorem i85_76 {v0 v1 : Value} {st : List Value} {h : ab_Hp} {Q : ab_O → ab_Hp → Prop} (hv : ab_isA v0 = true) : wp 85 76 [v0, v1] st h Q = wp 85 77 [v0, v1] (v0 :: st) h Q := wp_aload_n (by decide +kernel : ab_cod 85 76 = some (.aload_n 0, 1, 0, 0, 0, 0)) hv
set_option maxRecDepth 100000 in
theorem i85_77 {v0 : Value} {x : Int32} {st : List Value} {h : ab_Hp} {Q : ab_O → ab_Hp → Prop} : wp 85 77 [v0, .int x] st h Q = wp 85 78 [v0, .int x] (.int x :: st) h Q := wp_stp (ri := (.iload_n 1, 1, 0, 0, 0, 0)) (by decide +kernel) rfl rfl rfl
set_option maxRecDepth 100000 in
theorem i85_78 {v0 v1 : Value} {st : List Value} {h : ab_Hp} {Q : ab_O → ab_Hp → Prop} : wp 85 78 [v0, v1] st h Q = wp 85 79 [v0, v1] (.int (nI 3) :: st) h Q := wp_stp (ri := (.iconst 3, 1, 0, 0, 0, 0)) (by decide +kernel) rfl rfl rfl
set_option maxRecDepth 100000 in
theorem i85_79 {v0 v1 : Value} {st : List Value} {h : ab_Hp} {Q : ab_O → ab_Hp → Prop} : wp 85 79 [v0, v1] st h Q = wp 85 80 [v0, v1] (.int ((-1)) :: st) h Q := wp_stp (ri := (.iconst (-1), 1, 0, 0, 0, 0)) (by decide +kernel) rfl rfl rfl
set_option maxRecDepth 100000 in
theorem i85_80 {v0 v1 : Value} {r : Nat} {a0 : Int32} {a1 : Int32} {a2 : Int32} {st : List Value} {h : ab_Hp} {Q : ab_O → ab_Hp → Prop} (hl : st.length ≤ 4) (hk : (ab_sh h r).1 = 17) : wp 85 80 [v0, v1] (.int a2 :: .int a1 :: .int a0 :: .ref r :: st) h Q = wp 91 0 [.ref r, .int a0, .int a1, .int a2] [] h (ab_K 85 80 [v0, v1] st Q) := wp_callV (as := [.int a0, .int a1, .int a2]) (by decide +kernel : ab_cod 85 80 = some (.invokevirtual 25, 3, 91, 4, 0, 768)) rfl rfl rfl rfl hl hk
set_option maxRecDepth 100000 in
theorem i85_83 {v0 v1 : Value} {st : List Value} {h : ab_Hp} {Q : ab_O → ab_Hp → Prop} (hv : ab_isA v0 = true) : wp 85 83 [v0, v1] st h Q = wp 85 84 [v0, v1] (v0 :: st) h Q := wp_aload_n (by decide +kernel : ab_cod 85 83 = some (.aload_n 0, 1, 0, 0, 0, 0)) hv
set_option maxRecDepth 100000 in
theorem i85_84 {v0 : Value} {x : Int32} {st : List Value} {h : ab_Hp} {Q : ab_O → ab_Hp → Prop} : wp 85 84 [v0, .int x] st h Q = wp 85 85 [v0, .int x] (.int x :: st) h Q := wp_stp (ri := (.iload_n 1, 1, 0, 0, 0, 0)) (by decide +kernel) rfl rfl rfl
set_option maxRecDepth 100000 in
theorem i85_85 {v0 v1 : Value} {st : List Value} {h : ab_Hp} {Q : ab_O → ab_Hp → Prop} : wp 85 85 [v0, v1] st h Q = wp 85 87 [v0, v1] (.int (nI 9) :: st) h Q := wp_stp (ri := (.bipush 9, 2, 0, 0, 0, 0)) (by decide +kernel) rfl rfl rfl
set_option maxRecDepth 100000 in
theorem i85_87 {v0 v1 : Value} {st : List Value} {h : ab_Hp} {Q : ab_O → ab_Hp → Prop} : wp 85 87 [v0, v1] st h Q = wp 85 88 [v0, v1] (.int ((-1)) :: st) h Q := wp_stp (ri := (.iconst (-1), 1, 0, 0, 0, 0)) (by decide +kernel) rfl rfl rfl
set_option maxRecDepth 100000 in
theorem i85_88 {v0 v1 : Value} {r : Nat} {a0 : Int32} {a1 : Int32} {a2 : Int32} {st : List Value} {h : ab_Hp} {Q : ab_O → ab_Hp → Prop} (hl : st.length ≤ 4) (hk : (ab_sh h r).1 = 17) : wp 85 88 [v0, v1] (.int a2 :: .int a1 :: .int a0 :: .ref r :: st) h Q = wp 91 0 [.ref r, .int a0, .int a1, .int a2] [] h (ab_K 85 88 [v0, v1] st Q) := wp_callV (as := [.int a0, .int a1, .int a2]) (by decide +kernel : ab_cod 85 88 = some (.invokevirtual 25, 3, 91, 4, 0, 768)) rfl rfl rfl rfl hl hk
set_option maxRecDepth 100000 in
theorem i85_91 {v0 v1 : Value} {st : List Value} {h : ab_Hp} {Q : ab_O → ab_Hp → Prop} (hv : ab_isA v0 = true) : wp 85 91 [v0, v1] st h Q = wp 85 92 [v0, v1] (v0 :: st) h Q := wp_aload_n (by decide +kernel : ab_cod 85 91 = some (.aload_n 0, 1, 0, 0, 0, 0)) hv
set_option maxRecDepth 100000 in
theorem i85_92 {v0 : Value} {x : Int32} {st : List Value} {h : ab_Hp} {Q : ab_O → ab_Hp → Prop} : wp 85 92 [v0, .int x] st h Q = wp 85 93 [v0, .int x] (.int x :: st) h Q := wp_stp (ri := (.iload_n 1, 1, 0, 0, 0, 0)) (by decide +kernel) rfl rfl rfl
set_option maxRecDepth 100000 in
theorem i85_93 {v0 v1 : Value} {st : List Value} {h : ab_Hp} {Q : ab_O → ab_Hp → Prop} : wp 85 93 [v0, v1] st h Q = wp 85 95 [v0, v1] (.int (nI 10) :: st) h Q := wp_stp (ri := (.bipush 10, 2, 0, 0, 0, 0)) (by decide +kernel) rfl rfl rfl
set_option maxRecDepth 100000 in
theorem i85_95 {v0 v1 : Value} {st : List Value} {h : ab_Hp} {Q : ab_O → ab_Hp → Prop} : wp 85 95 [v0, v1] st h Q = wp 85 96 [v0, v1] (.int ((-1)) :: st) h Q := wp_stp (ri := (.iconst (-1), 1, 0, 0, 0, 0)) (by decide +kernel) rfl rfl rfl
set_option maxRecDepth 100000 in
theorem i85_96 {v0 v1 : Value} {r : Nat} {a0 : Int32} {a1 : Int32} {a2 : Int32} {st : List Value} {h : ab_Hp} {Q : ab_O → ab_Hp → Prop} (hl : st.length ≤ 4) (hk : (ab_sh h r).1 = 17) : wp 85 96 [v0, v1] (.int a2 :: .int a1 :: .int a0 :: .ref r :: st) h Q = wp 91 0 [.ref r, .int a0, .int a1, .int a2] [] h (ab_K 85 96 [v0, v1] st Q) := wp_callV (as := [.int a0, .int a1, .int a2]) (by decide +kernel : ab_cod 85 96 = some (.invokevirtual 25, 3, 91, 4, 0, 768)) rfl rfl rfl rfl hl hk
set_option maxRecDepth 100000 in
theorem i85_99 {v0 : Value} {x : Int32} {st : List Value} {h : ab_Hp} {Q : ab_O → ab_Hp → Prop} : wp 85 99 [v0, .int x] st h Q = wp 85 102 [ab_clr v0, .int (x + nI 1)] st h Q := wp_stp (ri := (.iinc 1 1, 3, 0, 0, 0, 0)) (by decide +kernel) rfl rfl rfl
set_option maxRecDepth 100000 in
theorem i85_102 {v0 v1 : Value} {st : List Value} {h : ab_Hp} {Q : ab_O → ab_Hp → Prop} : wp 85 102 [v0, v1] st h Q = wp 85 56 [v0, v1] st h Q := wp_stp (ri := (.goto (-46), 3, 56, 0, 0, 0)) (by decide +kernel) rfl rfl rfl
set_option maxRecDepth 100000 in
theorem i85_105 {v0 v1 : Value} {h : ab_Hp} {Q : ab_O → ab_Hp → Prop} : wp 85 105 [v0, v1] [] h Q = Q (.inl none) h := wp_vret (by decide +kernel : ab_cod 85 105 = some (.return_, 1, 0, 0, 0, 0)) rfl
/-! 86: SeamBeatsModel.thrown()I -/
theorem i86_0 {v0 : Value} {st : List Value} {h : ab_Hp} {Q : ab_O → ab_Hp → Prop} (hv : ab_isA v0 = true) : wp 86 0 [v0] st h Q = wp 86 1 [v0] (v0 :: st) h Q := wp_aload_n (by decide +kernel : ab_cod 86 0 = some (.aload_n 0, 1, 0, 0, 0, 0)) hv
theorem i86_1 {v0 : Value} {r : Nat} {st : List Value} {h : ab_Hp} {Q : ab_O → ab_Hp → Prop} (hk : (ab_sh h r).1 = 17) : wp 86 1 [v0] (.ref r :: st) h Q = wp 86 4 [v0] (.int (ab_hi h r 0) :: st) h Q := wp_gf (by decide +kernel : ab_cod 86 1 = some (.getfield 29, 3, 7, 0, 772, 0)) hk
theorem i86_4 {v0 : Value} {x : Int32} {h : ab_Hp} {Q : ab_O → ab_Hp → Prop} : wp 86 4 [v0] [.int x] h Q = Q (.inl (some (.int x))) h := wp_iret (by decide +kernel : ab_cod 86 4 = some (.ireturn, 1, 0, 0, 0, 0)) rfl
/-! 87: SeamBeatsModel.in(III)Z -/
theorem i87_0 {v1 v2 : Value} {x : Int32} {st : List Value} {h : ab_Hp} {Q : ab_O → ab_Hp → Prop} : wp 87 0 [.int x, v1, v2] st h Q = wp 87 1 [.int x, v1, v2] (.int x :: st) h Q := wp_stp (ri := (.iload_n 0, 1, 0, 0, 0, 0)) (by decide +kernel) rfl rfl rfl
theorem i87_1 {v0 v2 : Value} {x : Int32} {st : List Value} {h : ab_Hp} {Q : ab_O → ab_Hp → Prop} : wp 87 1 [v0, .int x, v2] st h Q = wp 87 2 [v0, .int x, v2] (.int x :: st) h Q := wp_stp (ri := (.iload_n 1, 1, 0, 0, 0, 0)) (by decide +kernel) rfl rfl rfl
theorem i87_2 {v0 v1 v2 : Value} {x y : Int32} {st : List Value} {h : ab_Hp} {Q : ab_O → ab_Hp → Prop} : wp 87 2 [v0, v1, v2] (.int y :: .int x :: st) h Q = if x < y then wp 87 14 [v0, v1, v2] st h Q else wp 87 5 [v0, v1, v2] st h Q := wp_icmpP (by decide +kernel : ab_cod 87 2 = some (.if_icmp .lt 12, 3, 14, 0, 0, 0)) rfl
theorem i87_5 {v1 v2 : Value} {x : Int32} {st : List Value} {h : ab_Hp} {Q : ab_O → ab_Hp → Prop} : wp 87 5 [.int x, v1, v2] st h Q = wp 87 6 [.int x, v1, v2] (.int x :: st) h Q := wp_stp (ri := (.iload_n 0, 1, 0, 0, 0, 0)) (by decide +kernel) rfl rfl rfl
theorem i87_6 {v0 v1 : Value} {x : Int32} {st : List Value} {h : ab_Hp} {Q : ab_O → ab_Hp → Prop} : wp 87 6 [v0, v1, .int x] st h Q = wp 87 7 [v0, v1, .int x] (.int x :: st) h Q := wp_stp (ri := (.iload_n 2, 1, 0, 0, 0, 0)) (by decide +kernel) rfl rfl rfl
theorem i87_7 {v0 v1 v2 : Value} {x y : Int32} {st : List Value} {h : ab_Hp} {Q : ab_O → ab_Hp → Prop} : wp 87 7 [v0, v1, v2] (.int y :: .int x :: st) h Q = if y < x then wp 87 14 [v0, v1, v2] st h Q else wp 87 10 [v0, v1, v2] st h Q := wp_icmpP (by decide +kernel : ab_cod 87 7 = some (.if_icmp .gt 7, 3, 14, 0, 0, 0)) rfl
theorem i87_10 {v0 v1 v2 : Value} {st : List Value} {h : ab_Hp} {Q : ab_O → ab_Hp → Prop} : wp 87 10 [v0, v1, v2] st h Q = wp 87 11 [v0, v1, v2] (.int (nI 1) :: st) h Q := wp_stp (ri := (.iconst 1, 1, 0, 0, 0, 0)) (by decide +kernel) rfl rfl rfl
theorem i87_11 {v0 v1 v2 : Value} {st : List Value} {h : ab_Hp} {Q : ab_O → ab_Hp → Prop} : wp 87 11 [v0, v1, v2] st h Q = wp 87 15 [v0, v1, v2] st h Q := wp_stp (ri := (.goto 4, 3, 15, 0, 0, 0)) (by decide +kernel) rfl rfl rfl
theorem i87_14 {v0 v1 v2 : Value} {st : List Value} {h : ab_Hp} {Q : ab_O → ab_Hp → Prop} : wp 87 14 [v0, v1, v2] st h Q = wp 87 15 [v0, v1, v2] (.int (nI 0) :: st) h Q := wp_stp (ri := (.iconst 0, 1, 0, 0, 0, 0)) (by decide +kernel) rfl rfl rfl
theorem i87_15 {v0 v1 v2 : Value} {x : Int32} {h : ab_Hp} {Q : ab_O → ab_Hp → Prop} (hx : x = 0 ∨ x = 1) : wp 87 15 [v0, v1, v2] [.int x] h Q = Q (.inl (some (.int x))) h := wp_zret (by decide +kernel : ab_cod 87 15 = some (.ireturn, 1, 0, 0, 0, 0)) rfl hx
/-! 88: SeamBeatsModel.isRoom(I)Z -/
theorem i88_0 {x : Int32} {st : List Value} {h : ab_Hp} {Q : ab_O → ab_Hp → Prop} : wp 88 0 [.int x] st h Q = wp 88 1 [.int x] (.int x :: st) h Q := wp_stp (ri := (.iload_n 0, 1, 0, 0, 0, 0)) (by decide +kernel) rfl rfl rfl
theorem i88_1 {v0 : Value} {st : List Value} {h : ab_Hp} {Q : ab_O → ab_Hp → Prop} : wp 88 1 [v0] st h Q = wp 88 2 [v0] (.int (nI 0) :: st) h Q := wp_stp (ri := (.iconst 0, 1, 0, 0, 0, 0)) (by decide +kernel) rfl rfl rfl
theorem i88_2 {v0 : Value} {st : List Value} {h : ab_Hp} {Q : ab_O → ab_Hp → Prop} : wp 88 2 [v0] st h Q = wp 88 3 [v0] (.int (nI 5) :: st) h Q := wp_stp (ri := (.iconst 5, 1, 0, 0, 0, 0)) (by decide +kernel) rfl rfl rfl
theorem i88_3 {v0 : Value} {a0 : Int32} {a1 : Int32} {a2 : Int32} {st : List Value} {h : ab_Hp} {Q : ab_O → ab_Hp → Prop} (hl : st.length ≤ 4) : wp 88 3 [v0] (.int a2 :: .int a1 :: .int a0 :: st) h Q = wp 87 0 [.int a0, .int a1, .int a2] [] h (ab_K 88 3 [v0] st Q) := wp_callS (as := [.int a0, .int a1, .int a2]) (by decide +kernel : ab_cod 88 3 = some (.invokestatic 33, 3, 87, 3, 1, 821)) rfl rfl rfl rfl hl
theorem i88_6 {v0 : Value} {x : Int32} {h : ab_Hp} {Q : ab_O → ab_Hp → Prop} (hx : x = 0 ∨ x = 1) : wp 88 6 [v0] [.int x] h Q = Q (.inl (some (.int x))) h := wp_zret (by decide +kernel : ab_cod 88 6 = some (.ireturn, 1, 0, 0, 0, 0)) rfl hx
/-! 89: SeamBeatsModel.isSeam(I)Z -/
theorem i89_0 {v0 : Value} {x : Int32} {st : List Value} {h : ab_Hp} {Q : ab_O → ab_Hp → Prop} : wp 89 0 [v0, .int x] st h Q = wp 89 1 [v0, .int x] (.int x :: st) h Q := wp_stp (ri := (.iload_n 1, 1, 0, 0, 0, 0)) (by decide +kernel) rfl rfl rfl
theorem i89_1 {v0 v1 : Value} {x : Int32} {st : List Value} {h : ab_Hp} {Q : ab_O → ab_Hp → Prop} : wp 89 1 [v0, v1] (.int x :: st) h Q = if x < 0 then wp 89 18 [v0, v1] st h Q else wp 89 4 [v0, v1] st h Q := wp_ifcP (by decide +kernel : ab_cod 89 1 = some (.ifCond .lt 17, 3, 18, 0, 0, 0)) rfl
theorem i89_4 {v0 : Value} {x : Int32} {st : List Value} {h : ab_Hp} {Q : ab_O → ab_Hp → Prop} : wp 89 4 [v0, .int x] st h Q = wp 89 5 [v0, .int x] (.int x :: st) h Q := wp_stp (ri := (.iload_n 1, 1, 0, 0, 0, 0)) (by decide +kernel) rfl rfl rfl
theorem i89_5 {v0 v1 : Value} {st : List Value} {h : ab_Hp} {Q : ab_O → ab_Hp → Prop} (hv : ab_isA v0 = true) : wp 89 5 [v0, v1] st h Q = wp 89 6 [v0, v1] (v0 :: st) h Q := wp_aload_n (by decide +kernel : ab_cod 89 5 = some (.aload_n 0, 1, 0, 0, 0, 0)) hv
theorem i89_6 {v0 v1 : Value} {r : Nat} {st : List Value} {h : ab_Hp} {Q : ab_O → ab_Hp → Prop} (hk : (ab_sh h r).1 = 17) : wp 89 6 [v0, v1] (.ref r :: st) h Q = wp 89 9 [v0, v1] (va_rf (ab_hr h r 1) :: st) h Q := wp_gf (by decide +kernel : ab_cod 89 6 = some (.getfield 7, 3, 7, 1, 773, 1)) hk
theorem i89_9 {v0 v1 : Value} {st : List Value} {h : ab_Hp} {Q : ab_O → ab_Hp → Prop} : wp 89 9 [v0, v1] st h Q = wp 89 10 [v0, v1] (.int (nI 5) :: st) h Q := wp_stp (ri := (.iconst 5, 1, 0, 0, 0, 0)) (by decide +kernel) rfl rfl rfl
theorem i89_10 {v0 v1 : Value} {r : Nat} {x : Int32} {st : List Value} {h : ab_Hp} {Q : ab_O → ab_Hp → Prop} (hk : ((ab_sh h r).1 = 1 ∨ (ab_sh h r).1 = 6) ∧ ab_in x (ab_sh h r).2 = true) : wp 89 10 [v0, v1] (.int x :: .ref r :: st) h Q = wp 89 11 [v0, v1] (.int (ab_hi h r x.toNatClampNeg) :: st) h Q := wp_ia (by decide +kernel : ab_cod 89 10 = some (.iaload, 1, 0, 0, 0, 0)) hk
theorem i89_11 {v0 v1 : Value} {x y : Int32} {st : List Value} {h : ab_Hp} {Q : ab_O → ab_Hp → Prop} : wp 89 11 [v0, v1] (.int y :: .int x :: st) h Q = if y ≤ x then wp 89 18 [v0, v1] st h Q else wp 89 14 [v0, v1] st h Q := wp_icmpP (by decide +kernel : ab_cod 89 11 = some (.if_icmp .ge 7, 3, 18, 0, 0, 0)) rfl
theorem i89_14 {v0 v1 : Value} {st : List Value} {h : ab_Hp} {Q : ab_O → ab_Hp → Prop} : wp 89 14 [v0, v1] st h Q = wp 89 15 [v0, v1] (.int (nI 1) :: st) h Q := wp_stp (ri := (.iconst 1, 1, 0, 0, 0, 0)) (by decide +kernel) rfl rfl rfl
theorem i89_15 {v0 v1 : Value} {st : List Value} {h : ab_Hp} {Q : ab_O → ab_Hp → Prop} : wp 89 15 [v0, v1] st h Q = wp 89 19 [v0, v1] st h Q := wp_stp (ri := (.goto 4, 3, 19, 0, 0, 0)) (by decide +kernel) rfl rfl rfl
theorem i89_18 {v0 v1 : Value} {st : List Value} {h : ab_Hp} {Q : ab_O → ab_Hp → Prop} : wp 89 18 [v0, v1] st h Q = wp 89 19 [v0, v1] (.int (nI 0) :: st) h Q := wp_stp (ri := (.iconst 0, 1, 0, 0, 0, 0)) (by decide +kernel) rfl rfl rfl
theorem i89_19 {v0 v1 : Value} {x : Int32} {h : ab_Hp} {Q : ab_O → ab_Hp → Prop} (hx : x = 0 ∨ x = 1) : wp 89 19 [v0, v1] [.int x] h Q = Q (.inl (some (.int x))) h := wp_zret (by decide +kernel : ab_cod 89 19 = some (.ireturn, 1, 0, 0, 0, 0)) rfl hx
/-! 90: SeamBeatsModel.of(II)I -/
theorem i90_0 {v0 v1 v2 : Value} {st : List Value} {h : ab_Hp} {Q : ab_O → ab_Hp → Prop} (hv : ab_isA v0 = true) : wp 90 0 [v0, v1, v2] st h Q = wp 90 1 [v0, v1, v2] (v0 :: st) h Q := wp_aload_n (by decide +kernel : ab_cod 90 0 = some (.aload_n 0, 1, 0, 0, 0, 0)) hv
theorem i90_1 {v0 v1 v2 : Value} {r : Nat} {st : List Value} {h : ab_Hp} {Q : ab_O → ab_Hp → Prop} (hk : (ab_sh h r).1 = 17) : wp 90 1 [v0, v1, v2] (.ref r :: st) h Q = wp 90 4 [v0, v1, v2] (va_rf (ab_hr h r 1) :: st) h Q := wp_gf (by decide +kernel : ab_cod 90 1 = some (.getfield 7, 3, 7, 1, 773, 1)) hk
theorem i90_4 {v0 v1 v2 : Value} {st : List Value} {h : ab_Hp} {Q : ab_O → ab_Hp → Prop} : wp 90 4 [v0, v1, v2] st h Q = wp 90 6 [v0, v1, v2] (.int (nI 6) :: st) h Q := wp_stp (ri := (.bipush 6, 2, 0, 0, 0, 0)) (by decide +kernel) rfl rfl rfl
theorem i90_6 {v0 v1 v2 : Value} {st : List Value} {h : ab_Hp} {Q : ab_O → ab_Hp → Prop} : wp 90 6 [v0, v1, v2] st h Q = wp 90 8 [v0, v1, v2] (.int (nI 27) :: st) h Q := wp_stp (ri := (.bipush 27, 2, 0, 0, 0, 0)) (by decide +kernel) rfl rfl rfl
theorem i90_8 {v0 v2 : Value} {x : Int32} {st : List Value} {h : ab_Hp} {Q : ab_O → ab_Hp → Prop} : wp 90 8 [v0, .int x, v2] st h Q = wp 90 9 [v0, .int x, v2] (.int x :: st) h Q := wp_stp (ri := (.iload_n 1, 1, 0, 0, 0, 0)) (by decide +kernel) rfl rfl rfl
theorem i90_9 {v0 v1 v2 : Value} {x y : Int32} {st : List Value} {h : ab_Hp} {Q : ab_O → ab_Hp → Prop} : wp 90 9 [v0, v1, v2] (.int y :: .int x :: st) h Q = wp 90 10 [v0, v1, v2] (.int (x * y) :: st) h Q := wp_stp (ri := (.imul, 1, 0, 0, 0, 0)) (by decide +kernel) rfl rfl rfl
theorem i90_10 {v0 v1 v2 : Value} {x y : Int32} {st : List Value} {h : ab_Hp} {Q : ab_O → ab_Hp → Prop} : wp 90 10 [v0, v1, v2] (.int y :: .int x :: st) h Q = wp 90 11 [v0, v1, v2] (.int (x + y) :: st) h Q := wp_stp (ri := (.iadd, 1, 0, 0, 0, 0)) (by decide +kernel) rfl rfl rfl
theorem i90_11 {v0 v1 : Value} {x : Int32} {st : List Value} {h : ab_Hp} {Q : ab_O → ab_Hp → Prop} : wp 90 11 [v0, v1, .int x] st h Q = wp 90 12 [v0, v1, .int x] (.int x :: st) h Q := wp_stp (ri := (.iload_n 2, 1, 0, 0, 0, 0)) (by decide +kernel) rfl rfl rfl
theorem i90_12 {v0 v1 v2 : Value} {x y : Int32} {st : List Value} {h : ab_Hp} {Q : ab_O → ab_Hp → Prop} : wp 90 12 [v0, v1, v2] (.int y :: .int x :: st) h Q = wp 90 13 [v0, v1, v2] (.int (x + y) :: st) h Q := wp_stp (ri := (.iadd, 1, 0, 0, 0, 0)) (by decide +kernel) rfl rfl rfl
theorem i90_13 {v0 v1 v2 : Value} {r : Nat} {x : Int32} {st : List Value} {h : ab_Hp} {Q : ab_O → ab_Hp → Prop} (hk : ((ab_sh h r).1 = 1 ∨ (ab_sh h r).1 = 6) ∧ ab_in x (ab_sh h r).2 = true) : wp 90 13 [v0, v1, v2] (.int x :: .ref r :: st) h Q = wp 90 14 [v0, v1, v2] (.int (ab_hi h r x.toNatClampNeg) :: st) h Q := wp_ia (by decide +kernel : ab_cod 90 13 = some (.iaload, 1, 0, 0, 0, 0)) hk
theorem i90_14 {v0 v1 v2 : Value} {x : Int32} {h : ab_Hp} {Q : ab_O → ab_Hp → Prop} : wp 90 14 [v0, v1, v2] [.int x] h Q = Q (.inl (some (.int x))) h := wp_iret (by decide +kernel : ab_cod 90 14 = some (.ireturn, 1, 0, 0, 0, 0)) rfl
/-! 91: SeamBeatsModel.write(III)V -/
theorem i91_0 {v0 v1 v2 v3 : Value} {st : List Value} {h : ab_Hp} {Q : ab_O → ab_Hp → Prop} (hv : ab_isA v0 = true) : wp 91 0 [v0, v1, v2, v3] st h Q = wp 91 1 [v0, v1, v2, v3] (v0 :: st) h Q := wp_aload_n (by decide +kernel : ab_cod 91 0 = some (.aload_n 0, 1, 0, 0, 0, 0)) hv
theorem i91_1 {v0 v1 v2 v3 : Value} {r : Nat} {st : List Value} {h : ab_Hp} {Q : ab_O → ab_Hp → Prop} (hk : (ab_sh h r).1 = 17) : wp 91 1 [v0, v1, v2, v3] (.ref r :: st) h Q = wp 91 4 [v0, v1, v2, v3] (va_rf (ab_hr h r 1) :: st) h Q := wp_gf (by decide +kernel : ab_cod 91 1 = some (.getfield 7, 3, 7, 1, 773, 1)) hk
theorem i91_4 {v0 v1 v2 v3 : Value} {st : List Value} {h : ab_Hp} {Q : ab_O → ab_Hp → Prop} : wp 91 4 [v0, v1, v2, v3] st h Q = wp 91 6 [v0, v1, v2, v3] (.int (nI 6) :: st) h Q := wp_stp (ri := (.bipush 6, 2, 0, 0, 0, 0)) (by decide +kernel) rfl rfl rfl
theorem i91_6 {v0 v1 v2 v3 : Value} {st : List Value} {h : ab_Hp} {Q : ab_O → ab_Hp → Prop} : wp 91 6 [v0, v1, v2, v3] st h Q = wp 91 8 [v0, v1, v2, v3] (.int (nI 27) :: st) h Q := wp_stp (ri := (.bipush 27, 2, 0, 0, 0, 0)) (by decide +kernel) rfl rfl rfl
theorem i91_8 {v0 v2 v3 : Value} {x : Int32} {st : List Value} {h : ab_Hp} {Q : ab_O → ab_Hp → Prop} : wp 91 8 [v0, .int x, v2, v3] st h Q = wp 91 9 [v0, .int x, v2, v3] (.int x :: st) h Q := wp_stp (ri := (.iload_n 1, 1, 0, 0, 0, 0)) (by decide +kernel) rfl rfl rfl
theorem i91_9 {v0 v1 v2 v3 : Value} {x y : Int32} {st : List Value} {h : ab_Hp} {Q : ab_O → ab_Hp → Prop} : wp 91 9 [v0, v1, v2, v3] (.int y :: .int x :: st) h Q = wp 91 10 [v0, v1, v2, v3] (.int (x * y) :: st) h Q := wp_stp (ri := (.imul, 1, 0, 0, 0, 0)) (by decide +kernel) rfl rfl rfl
theorem i91_10 {v0 v1 v2 v3 : Value} {x y : Int32} {st : List Value} {h : ab_Hp} {Q : ab_O → ab_Hp → Prop} : wp 91 10 [v0, v1, v2, v3] (.int y :: .int x :: st) h Q = wp 91 11 [v0, v1, v2, v3] (.int (x + y) :: st) h Q := wp_stp (ri := (.iadd, 1, 0, 0, 0, 0)) (by decide +kernel) rfl rfl rfl
theorem i91_11 {v0 v1 v3 : Value} {x : Int32} {st : List Value} {h : ab_Hp} {Q : ab_O → ab_Hp → Prop} : wp 91 11 [v0, v1, .int x, v3] st h Q = wp 91 12 [v0, v1, .int x, v3] (.int x :: st) h Q := wp_stp (ri := (.iload_n 2, 1, 0, 0, 0, 0)) (by decide +kernel) rfl rfl rfl
theorem i91_12 {v0 v1 v2 v3 : Value} {x y : Int32} {st : List Value} {h : ab_Hp} {Q : ab_O → ab_Hp → Prop} : wp 91 12 [v0, v1, v2, v3] (.int y :: .int x :: st) h Q = wp 91 13 [v0, v1, v2, v3] (.int (x + y) :: st) h Q := wp_stp (ri := (.iadd, 1, 0, 0, 0, 0)) (by decide +kernel) rfl rfl rfl
theorem i91_13 {v0 v1 v2 : Value} {x : Int32} {st : List Value} {h : ab_Hp} {Q : ab_O → ab_Hp → Prop} : wp 91 13 [v0, v1, v2, .int x] st h Q = wp 91 14 [v0, v1, v2, .int x] (.int x :: st) h Q := wp_stp (ri := (.iload_n 3, 1, 0, 0, 0, 0)) (by decide +kernel) rfl rfl rfl
theorem i91_14 {v0 v1 v2 v3 : Value} {r : Nat} {x y : Int32} {st : List Value} {h : ab_Hp} {Q : ab_O → ab_Hp → Prop} (hk : (ab_sh h r).1 = 1 ∧ ab_in x (ab_sh h r).2 = true) : wp 91 14 [v0, v1, v2, v3] (.int y :: .int x :: .ref r :: st) h Q = wp 91 15 [v0, v1, v2, v3] st (ab_setI h (ab_u (ab_hi h) r x.toNatClampNeg y)) Q := wp_ias (by decide +kernel : ab_cod 91 14 = some (.iastore, 1, 0, 0, 0, 0)) hk
theorem i91_15 {v0 v1 v2 v3 : Value} {h : ab_Hp} {Q : ab_O → ab_Hp → Prop} : wp 91 15 [v0, v1, v2, v3] [] h Q = Q (.inl none) h := wp_vret (by decide +kernel : ab_cod 91 15 = some (.return_, 1, 0, 0, 0, 0)) rfl
/-! 92: SeamBeatsModel.ofSeam(II)I -/
theorem i92_0 {v0 v1 v2 : Value} {st : List Value} {h : ab_Hp} {Q : ab_O → ab_Hp → Prop} (hv : ab_isA v0 = true) : wp 92 0 [v0, v1, v2] st h Q = wp 92 1 [v0, v1, v2] (v0 :: st) h Q := wp_aload_n (by decide +kernel : ab_cod 92 0 = some (.aload_n 0, 1, 0, 0, 0, 0)) hv
theorem i92_1 {v0 v1 v2 : Value} {r : Nat} {st : List Value} {h : ab_Hp} {Q : ab_O → ab_Hp → Prop} (hk : (ab_sh h r).1 = 17) : wp 92 1 [v0, v1, v2] (.ref r :: st) h Q = wp 92 4 [v0, v1, v2] (va_rf (ab_hr h r 1) :: st) h Q := wp_gf (by decide +kernel : ab_cod 92 1 = some (.getfield 7, 3, 7, 1, 773, 1)) hk
theorem i92_4 {v0 v1 v2 : Value} {st : List Value} {h : ab_Hp} {Q : ab_O → ab_Hp → Prop} : wp 92 4 [v0, v1, v2] st h Q = wp 92 7 [v0, v1, v2] (.int (nI 168) :: st) h Q := wp_stp (ri := (.sipush 168, 3, 0, 0, 0, 0)) (by decide +kernel) rfl rfl rfl
theorem i92_7 {v0 v1 v2 : Value} {st : List Value} {h : ab_Hp} {Q : ab_O → ab_Hp → Prop} : wp 92 7 [v0, v1, v2] st h Q = wp 92 9 [v0, v1, v2] (.int (nI 24) :: st) h Q := wp_stp (ri := (.bipush 24, 2, 0, 0, 0, 0)) (by decide +kernel) rfl rfl rfl
theorem i92_9 {v0 v2 : Value} {x : Int32} {st : List Value} {h : ab_Hp} {Q : ab_O → ab_Hp → Prop} : wp 92 9 [v0, .int x, v2] st h Q = wp 92 10 [v0, .int x, v2] (.int x :: st) h Q := wp_stp (ri := (.iload_n 1, 1, 0, 0, 0, 0)) (by decide +kernel) rfl rfl rfl
theorem i92_10 {v0 v1 v2 : Value} {x y : Int32} {st : List Value} {h : ab_Hp} {Q : ab_O → ab_Hp → Prop} : wp 92 10 [v0, v1, v2] (.int y :: .int x :: st) h Q = wp 92 11 [v0, v1, v2] (.int (x * y) :: st) h Q := wp_stp (ri := (.imul, 1, 0, 0, 0, 0)) (by decide +kernel) rfl rfl rfl
theorem i92_11 {v0 v1 v2 : Value} {x y : Int32} {st : List Value} {h : ab_Hp} {Q : ab_O → ab_Hp → Prop} : wp 92 11 [v0, v1, v2] (.int y :: .int x :: st) h Q = wp 92 12 [v0, v1, v2] (.int (x + y) :: st) h Q := wp_stp (ri := (.iadd, 1, 0, 0, 0, 0)) (by decide +kernel) rfl rfl rfl
theorem i92_12 {v0 v1 : Value} {x : Int32} {st : List Value} {h : ab_Hp} {Q : ab_O → ab_Hp → Prop} : wp 92 12 [v0, v1, .int x] st h Q = wp 92 13 [v0, v1, .int x] (.int x :: st) h Q := wp_stp (ri := (.iload_n 2, 1, 0, 0, 0, 0)) (by decide +kernel) rfl rfl rfl
theorem i92_13 {v0 v1 v2 : Value} {x y : Int32} {st : List Value} {h : ab_Hp} {Q : ab_O → ab_Hp → Prop} : wp 92 13 [v0, v1, v2] (.int y :: .int x :: st) h Q = wp 92 14 [v0, v1, v2] (.int (x + y) :: st) h Q := wp_stp (ri := (.iadd, 1, 0, 0, 0, 0)) (by decide +kernel) rfl rfl rfl
theorem i92_14 {v0 v1 v2 : Value} {r : Nat} {x : Int32} {st : List Value} {h : ab_Hp} {Q : ab_O → ab_Hp → Prop} (hk : ((ab_sh h r).1 = 1 ∨ (ab_sh h r).1 = 6) ∧ ab_in x (ab_sh h r).2 = true) : wp 92 14 [v0, v1, v2] (.int x :: .ref r :: st) h Q = wp 92 15 [v0, v1, v2] (.int (ab_hi h r x.toNatClampNeg) :: st) h Q := wp_ia (by decide +kernel : ab_cod 92 14 = some (.iaload, 1, 0, 0, 0, 0)) hk
theorem i92_15 {v0 v1 v2 : Value} {x : Int32} {h : ab_Hp} {Q : ab_O → ab_Hp → Prop} : wp 92 15 [v0, v1, v2] [.int x] h Q = Q (.inl (some (.int x))) h := wp_iret (by decide +kernel : ab_cod 92 15 = some (.ireturn, 1, 0, 0, 0, 0)) rfl
/-! 93: SeamBeatsModel.putSeam(III)V -/
theorem i93_0 {v0 v1 v2 v3 : Value} {st : List Value} {h : ab_Hp} {Q : ab_O → ab_Hp → Prop} (hv : ab_isA v0 = true) : wp 93 0 [v0, v1, v2, v3] st h Q = wp 93 1 [v0, v1, v2, v3] (v0 :: st) h Q := wp_aload_n (by decide +kernel : ab_cod 93 0 = some (.aload_n 0, 1, 0, 0, 0, 0)) hv
theorem i93_1 {v0 v1 v2 v3 : Value} {r : Nat} {st : List Value} {h : ab_Hp} {Q : ab_O → ab_Hp → Prop} (hk : (ab_sh h r).1 = 17) : wp 93 1 [v0, v1, v2, v3] (.ref r :: st) h Q = wp 93 4 [v0, v1, v2, v3] (va_rf (ab_hr h r 1) :: st) h Q := wp_gf (by decide +kernel : ab_cod 93 1 = some (.getfield 7, 3, 7, 1, 773, 1)) hk
theorem i93_4 {v0 v1 v2 v3 : Value} {st : List Value} {h : ab_Hp} {Q : ab_O → ab_Hp → Prop} : wp 93 4 [v0, v1, v2, v3] st h Q = wp 93 7 [v0, v1, v2, v3] (.int (nI 168) :: st) h Q := wp_stp (ri := (.sipush 168, 3, 0, 0, 0, 0)) (by decide +kernel) rfl rfl rfl
theorem i93_7 {v0 v1 v2 v3 : Value} {st : List Value} {h : ab_Hp} {Q : ab_O → ab_Hp → Prop} : wp 93 7 [v0, v1, v2, v3] st h Q = wp 93 9 [v0, v1, v2, v3] (.int (nI 24) :: st) h Q := wp_stp (ri := (.bipush 24, 2, 0, 0, 0, 0)) (by decide +kernel) rfl rfl rfl
theorem i93_9 {v0 v2 v3 : Value} {x : Int32} {st : List Value} {h : ab_Hp} {Q : ab_O → ab_Hp → Prop} : wp 93 9 [v0, .int x, v2, v3] st h Q = wp 93 10 [v0, .int x, v2, v3] (.int x :: st) h Q := wp_stp (ri := (.iload_n 1, 1, 0, 0, 0, 0)) (by decide +kernel) rfl rfl rfl
theorem i93_10 {v0 v1 v2 v3 : Value} {x y : Int32} {st : List Value} {h : ab_Hp} {Q : ab_O → ab_Hp → Prop} : wp 93 10 [v0, v1, v2, v3] (.int y :: .int x :: st) h Q = wp 93 11 [v0, v1, v2, v3] (.int (x * y) :: st) h Q := wp_stp (ri := (.imul, 1, 0, 0, 0, 0)) (by decide +kernel) rfl rfl rfl
theorem i93_11 {v0 v1 v2 v3 : Value} {x y : Int32} {st : List Value} {h : ab_Hp} {Q : ab_O → ab_Hp → Prop} : wp 93 11 [v0, v1, v2, v3] (.int y :: .int x :: st) h Q = wp 93 12 [v0, v1, v2, v3] (.int (x + y) :: st) h Q := wp_stp (ri := (.iadd, 1, 0, 0, 0, 0)) (by decide +kernel) rfl rfl rfl
theorem i93_12 {v0 v1 v3 : Value} {x : Int32} {st : List Value} {h : ab_Hp} {Q : ab_O → ab_Hp → Prop} : wp 93 12 [v0, v1, .int x, v3] st h Q = wp 93 13 [v0, v1, .int x, v3] (.int x :: st) h Q := wp_stp (ri := (.iload_n 2, 1, 0, 0, 0, 0)) (by decide +kernel) rfl rfl rfl
theorem i93_13 {v0 v1 v2 v3 : Value} {x y : Int32} {st : List Value} {h : ab_Hp} {Q : ab_O → ab_Hp → Prop} : wp 93 13 [v0, v1, v2, v3] (.int y :: .int x :: st) h Q = wp 93 14 [v0, v1, v2, v3] (.int (x + y) :: st) h Q := wp_stp (ri := (.iadd, 1, 0, 0, 0, 0)) (by decide +kernel) rfl rfl rfl
theorem i93_14 {v0 v1 v2 : Value} {x : Int32} {st : List Value} {h : ab_Hp} {Q : ab_O → ab_Hp → Prop} : wp 93 14 [v0, v1, v2, .int x] st h Q = wp 93 15 [v0, v1, v2, .int x] (.int x :: st) h Q := wp_stp (ri := (.iload_n 3, 1, 0, 0, 0, 0)) (by decide +kernel) rfl rfl rfl
theorem i93_15 {v0 v1 v2 v3 : Value} {r : Nat} {x y : Int32} {st : List Value} {h : ab_Hp} {Q : ab_O → ab_Hp → Prop} (hk : (ab_sh h r).1 = 1 ∧ ab_in x (ab_sh h r).2 = true) : wp 93 15 [v0, v1, v2, v3] (.int y :: .int x :: .ref r :: st) h Q = wp 93 16 [v0, v1, v2, v3] st (ab_setI h (ab_u (ab_hi h) r x.toNatClampNeg y)) Q := wp_ias (by decide +kernel : ab_cod 93 15 = some (.iastore, 1, 0, 0, 0, 0)) hk
theorem i93_16 {v0 v1 v2 v3 : Value} {h : ab_Hp} {Q : ab_O → ab_Hp → Prop} : wp 93 16 [v0, v1, v2, v3] [] h Q = Q (.inl none) h := wp_vret (by decide +kernel : ab_cod 93 16 = some (.return_, 1, 0, 0, 0, 0)) rfl
/-! 94: SeamBeatsModel.save()V -/
set_option maxRecDepth 100000 in
theorem i94_0 {v0 v1 : Value} {st : List Value} {h : ab_Hp} {Q : ab_O → ab_Hp → Prop} (hv : ab_isA v0 = true) : wp 94 0 [v0, v1] st h Q = wp 94 1 [v0, v1] (v0 :: st) h Q := wp_aload_n (by decide +kernel : ab_cod 94 0 = some (.aload_n 0, 1, 0, 0, 0, 0)) hv
set_option maxRecDepth 100000 in
theorem i94_1 {v0 v1 : Value} {r : Nat} {st : List Value} {h : ab_Hp} {Q : ab_O → ab_Hp → Prop} (hk : (ab_sh h r).1 = 17) : wp 94 1 [v0, v1] (.ref r :: st) h Q = wp 94 4 [v0, v1] (.int (ab_hi h r 3) :: st) h Q := wp_gf (by decide +kernel : ab_cod 94 1 = some (.getfield 37, 3, 7, 3, 775, 0)) hk
set_option maxRecDepth 100000 in
theorem i94_4 {v0 v1 : Value} {st : List Value} {h : ab_Hp} {Q : ab_O → ab_Hp → Prop} : wp 94 4 [v0, v1] st h Q = wp 94 6 [v0, v1] (.int (nI 6) :: st) h Q := wp_stp (ri := (.bipush 6, 2, 0, 0, 0, 0)) (by decide +kernel) rfl rfl rfl
set_option maxRecDepth 100000 in
theorem i94_6 {v0 v1 : Value} {x y : Int32} {st : List Value} {h : ab_Hp} {Q : ab_O → ab_Hp → Prop} : wp 94 6 [v0, v1] (.int y :: .int x :: st) h Q = if ¬ x = y then wp 94 50 [v0, v1] st h Q else wp 94 9 [v0, v1] st h Q := wp_icmpP (by decide +kernel : ab_cod 94 6 = some (.if_icmp .ne 44, 3, 50, 0, 0, 0)) rfl
set_option maxRecDepth 100000 in
theorem i94_9 {v0 v1 : Value} {st : List Value} {h : ab_Hp} {Q : ab_O → ab_Hp → Prop} : wp 94 9 [v0, v1] st h Q = wp 94 10 [v0, v1] (.int (nI 0) :: st) h Q := wp_stp (ri := (.iconst 0, 1, 0, 0, 0, 0)) (by decide +kernel) rfl rfl rfl
set_option maxRecDepth 100000 in
theorem i94_10 {v0 v1 : Value} {w : Int32} {st : List Value} {h : ab_Hp} {Q : ab_O → ab_Hp → Prop} : wp 94 10 [v0, v1] (.int w :: st) h Q = wp 94 11 [ab_clr v0, .int w] st h Q := wp_stp (ri := (.istore_n 1, 1, 0, 0, 0, 0)) (by decide +kernel) rfl rfl rfl
set_option maxRecDepth 100000 in
theorem i94_11 {v0 : Value} {x : Int32} {st : List Value} {h : ab_Hp} {Q : ab_O → ab_Hp → Prop} : wp 94 11 [v0, .int x] st h Q = wp 94 12 [v0, .int x] (.int x :: st) h Q := wp_stp (ri := (.iload_n 1, 1, 0, 0, 0, 0)) (by decide +kernel) rfl rfl rfl
set_option maxRecDepth 100000 in
theorem i94_12 {v0 v1 : Value} {st : List Value} {h : ab_Hp} {Q : ab_O → ab_Hp → Prop} : wp 94 12 [v0, v1] st h Q = wp 94 15 [v0, v1] (.int (nI 1800) :: st) h Q := wp_stp (ri := (.sipush 1800, 3, 0, 0, 0, 0)) (by decide +kernel) rfl rfl rfl
set_option maxRecDepth 100000 in
theorem i94_15 {v0 v1 : Value} {x y : Int32} {st : List Value} {h : ab_Hp} {Q : ab_O → ab_Hp → Prop} : wp 94 15 [v0, v1] (.int y :: .int x :: st) h Q = if y ≤ x then wp 94 40 [v0, v1] st h Q else wp 94 18 [v0, v1] st h Q := wp_icmpP (by decide +kernel : ab_cod 94 15 = some (.if_icmp .ge 25, 3, 40, 0, 0, 0)) rfl
set_option maxRecDepth 100000 in
theorem i94_18 {v0 v1 : Value} {st : List Value} {h : ab_Hp} {Q : ab_O → ab_Hp → Prop} (hv : ab_isA v0 = true) : wp 94 18 [v0, v1] st h Q = wp 94 19 [v0, v1] (v0 :: st) h Q := wp_aload_n (by decide +kernel : ab_cod 94 18 = some (.aload_n 0, 1, 0, 0, 0, 0)) hv
set_option maxRecDepth 100000 in
theorem i94_19 {v0 v1 : Value} {r : Nat} {st : List Value} {h : ab_Hp} {Q : ab_O → ab_Hp → Prop} (hk : (ab_sh h r).1 = 17) : wp 94 19 [v0, v1] (.ref r :: st) h Q = wp 94 22 [v0, v1] (va_rf (ab_hr h r 2) :: st) h Q := wp_gf (by decide +kernel : ab_cod 94 19 = some (.getfield 13, 3, 7, 2, 774, 1)) hk
set_option maxRecDepth 100000 in
theorem i94_22 {v0 : Value} {x : Int32} {st : List Value} {h : ab_Hp} {Q : ab_O → ab_Hp → Prop} : wp 94 22 [v0, .int x] st h Q = wp 94 23 [v0, .int x] (.int x :: st) h Q := wp_stp (ri := (.iload_n 1, 1, 0, 0, 0, 0)) (by decide +kernel) rfl rfl rfl
set_option maxRecDepth 100000 in
theorem i94_23 {v0 v1 : Value} {st : List Value} {h : ab_Hp} {Q : ab_O → ab_Hp → Prop} (hv : ab_isA v0 = true) : wp 94 23 [v0, v1] st h Q = wp 94 24 [v0, v1] (v0 :: st) h Q := wp_aload_n (by decide +kernel : ab_cod 94 23 = some (.aload_n 0, 1, 0, 0, 0, 0)) hv
set_option maxRecDepth 100000 in
theorem i94_24 {v0 v1 : Value} {r : Nat} {st : List Value} {h : ab_Hp} {Q : ab_O → ab_Hp → Prop} (hk : (ab_sh h r).1 = 17) : wp 94 24 [v0, v1] (.ref r :: st) h Q = wp 94 27 [v0, v1] (va_rf (ab_hr h r 2) :: st) h Q := wp_gf (by decide +kernel : ab_cod 94 24 = some (.getfield 13, 3, 7, 2, 774, 1)) hk
set_option maxRecDepth 100000 in
theorem i94_27 {v0 : Value} {x : Int32} {st : List Value} {h : ab_Hp} {Q : ab_O → ab_Hp → Prop} : wp 94 27 [v0, .int x] st h Q = wp 94 28 [v0, .int x] (.int x :: st) h Q := wp_stp (ri := (.iload_n 1, 1, 0, 0, 0, 0)) (by decide +kernel) rfl rfl rfl
set_option maxRecDepth 100000 in
theorem i94_28 {v0 v1 : Value} {st : List Value} {h : ab_Hp} {Q : ab_O → ab_Hp → Prop} : wp 94 28 [v0, v1] st h Q = wp 94 31 [v0, v1] (.int (nI 360) :: st) h Q := wp_stp (ri := (.sipush 360, 3, 0, 0, 0, 0)) (by decide +kernel) rfl rfl rfl
set_option maxRecDepth 100000 in
theorem i94_31 {v0 v1 : Value} {x y : Int32} {st : List Value} {h : ab_Hp} {Q : ab_O → ab_Hp → Prop} : wp 94 31 [v0, v1] (.int y :: .int x :: st) h Q = wp 94 32 [v0, v1] (.int (x + y) :: st) h Q := wp_stp (ri := (.iadd, 1, 0, 0, 0, 0)) (by decide +kernel) rfl rfl rfl
set_option maxRecDepth 100000 in
theorem i94_32 {v0 v1 : Value} {r : Nat} {x : Int32} {st : List Value} {h : ab_Hp} {Q : ab_O → ab_Hp → Prop} (hk : ((ab_sh h r).1 = 1 ∨ (ab_sh h r).1 = 6) ∧ ab_in x (ab_sh h r).2 = true) : wp 94 32 [v0, v1] (.int x :: .ref r :: st) h Q = wp 94 33 [v0, v1] (.int (ab_hi h r x.toNatClampNeg) :: st) h Q := wp_ia (by decide +kernel : ab_cod 94 32 = some (.iaload, 1, 0, 0, 0, 0)) hk
set_option maxRecDepth 100000 in
theorem i94_33 {v0 v1 : Value} {r : Nat} {x y : Int32} {st : List Value} {h : ab_Hp} {Q : ab_O → ab_Hp → Prop} (hk : (ab_sh h r).1 = 1 ∧ ab_in x (ab_sh h r).2 = true) : wp 94 33 [v0, v1] (.int y :: .int x :: .ref r :: st) h Q = wp 94 34 [v0, v1] st (ab_setI h (ab_u (ab_hi h) r x.toNatClampNeg y)) Q := wp_ias (by decide +kernel : ab_cod 94 33 = some (.iastore, 1, 0, 0, 0, 0)) hk
set_option maxRecDepth 100000 in
theorem i94_34 {v0 : Value} {x : Int32} {st : List Value} {h : ab_Hp} {Q : ab_O → ab_Hp → Prop} : wp 94 34 [v0, .int x] st h Q = wp 94 37 [ab_clr v0, .int (x + nI 1)] st h Q := wp_stp (ri := (.iinc 1 1, 3, 0, 0, 0, 0)) (by decide +kernel) rfl rfl rfl
set_option maxRecDepth 100000 in
theorem i94_37 {v0 v1 : Value} {st : List Value} {h : ab_Hp} {Q : ab_O → ab_Hp → Prop} : wp 94 37 [v0, v1] st h Q = wp 94 11 [v0, v1] st h Q := wp_stp (ri := (.goto (-26), 3, 11, 0, 0, 0)) (by decide +kernel) rfl rfl rfl
set_option maxRecDepth 100000 in
theorem i94_40 {v0 v1 : Value} {st : List Value} {h : ab_Hp} {Q : ab_O → ab_Hp → Prop} (hv : ab_isA v0 = true) : wp 94 40 [v0, v1] st h Q = wp 94 41 [v0, v1] (v0 :: st) h Q := wp_aload_n (by decide +kernel : ab_cod 94 40 = some (.aload_n 0, 1, 0, 0, 0, 0)) hv
set_option maxRecDepth 100000 in
theorem i94_41 {v0 v1 : Value} {v : Value} {st : List Value} {h : ab_Hp} {Q : ab_O → ab_Hp → Prop} (hv : v.category = 1) : wp 94 41 [v0, v1] (v :: st) h Q = wp 94 42 [v0, v1] (v :: v :: st) h Q := wp_dup (by decide +kernel : ab_cod 94 41 = some (.dup, 1, 0, 0, 0, 0)) hv
set_option maxRecDepth 100000 in
theorem i94_42 {v0 v1 : Value} {r : Nat} {st : List Value} {h : ab_Hp} {Q : ab_O → ab_Hp → Prop} (hk : (ab_sh h r).1 = 17) : wp 94 42 [v0, v1] (.ref r :: st) h Q = wp 94 45 [v0, v1] (.int (ab_hi h r 3) :: st) h Q := wp_gf (by decide +kernel : ab_cod 94 42 = some (.getfield 37, 3, 7, 3, 775, 0)) hk
set_option maxRecDepth 100000 in
theorem i94_45 {v0 v1 : Value} {st : List Value} {h : ab_Hp} {Q : ab_O → ab_Hp → Prop} : wp 94 45 [v0, v1] st h Q = wp 94 46 [v0, v1] (.int (nI 1) :: st) h Q := wp_stp (ri := (.iconst 1, 1, 0, 0, 0, 0)) (by decide +kernel) rfl rfl rfl
set_option maxRecDepth 100000 in
theorem i94_46 {v0 v1 : Value} {x y : Int32} {st : List Value} {h : ab_Hp} {Q : ab_O → ab_Hp → Prop} : wp 94 46 [v0, v1] (.int y :: .int x :: st) h Q = wp 94 47 [v0, v1] (.int (x - y) :: st) h Q := wp_stp (ri := (.isub, 1, 0, 0, 0, 0)) (by decide +kernel) rfl rfl rfl
set_option maxRecDepth 100000 in
theorem i94_47 {v0 v1 : Value} {r : Nat} {x : Int32} {st : List Value} {h : ab_Hp} {Q : ab_O → ab_Hp → Prop} (hk : (ab_sh h r).1 = 17) : wp 94 47 [v0, v1] (.int x :: .ref r :: st) h Q = wp 94 50 [v0, v1] st (ab_setI h (ab_u (ab_hi h) r 3 x)) Q := wp_pf (by decide +kernel : ab_cod 94 47 = some (.putfield 37, 3, 7, 3, 775, 0)) hk rfl
set_option maxRecDepth 100000 in
theorem i94_50 {v0 v1 : Value} {st : List Value} {h : ab_Hp} {Q : ab_O → ab_Hp → Prop} : wp 94 50 [v0, v1] st h Q = wp 94 51 [v0, v1] (.int (nI 0) :: st) h Q := wp_stp (ri := (.iconst 0, 1, 0, 0, 0, 0)) (by decide +kernel) rfl rfl rfl
set_option maxRecDepth 100000 in
theorem i94_51 {v0 v1 : Value} {w : Int32} {st : List Value} {h : ab_Hp} {Q : ab_O → ab_Hp → Prop} : wp 94 51 [v0, v1] (.int w :: st) h Q = wp 94 52 [ab_clr v0, .int w] st h Q := wp_stp (ri := (.istore_n 1, 1, 0, 0, 0, 0)) (by decide +kernel) rfl rfl rfl
set_option maxRecDepth 100000 in
theorem i94_52 {v0 : Value} {x : Int32} {st : List Value} {h : ab_Hp} {Q : ab_O → ab_Hp → Prop} : wp 94 52 [v0, .int x] st h Q = wp 94 53 [v0, .int x] (.int x :: st) h Q := wp_stp (ri := (.iload_n 1, 1, 0, 0, 0, 0)) (by decide +kernel) rfl rfl rfl
set_option maxRecDepth 100000 in
theorem i94_53 {v0 v1 : Value} {st : List Value} {h : ab_Hp} {Q : ab_O → ab_Hp → Prop} : wp 94 53 [v0, v1] st h Q = wp 94 56 [v0, v1] (.int (nI 360) :: st) h Q := wp_stp (ri := (.sipush 360, 3, 0, 0, 0, 0)) (by decide +kernel) rfl rfl rfl
set_option maxRecDepth 100000 in
theorem i94_56 {v0 v1 : Value} {x y : Int32} {st : List Value} {h : ab_Hp} {Q : ab_O → ab_Hp → Prop} : wp 94 56 [v0, v1] (.int y :: .int x :: st) h Q = if y ≤ x then wp 94 86 [v0, v1] st h Q else wp 94 59 [v0, v1] st h Q := wp_icmpP (by decide +kernel : ab_cod 94 56 = some (.if_icmp .ge 30, 3, 86, 0, 0, 0)) rfl
set_option maxRecDepth 100000 in
theorem i94_59 {v0 v1 : Value} {st : List Value} {h : ab_Hp} {Q : ab_O → ab_Hp → Prop} (hv : ab_isA v0 = true) : wp 94 59 [v0, v1] st h Q = wp 94 60 [v0, v1] (v0 :: st) h Q := wp_aload_n (by decide +kernel : ab_cod 94 59 = some (.aload_n 0, 1, 0, 0, 0, 0)) hv
set_option maxRecDepth 100000 in
theorem i94_60 {v0 v1 : Value} {r : Nat} {st : List Value} {h : ab_Hp} {Q : ab_O → ab_Hp → Prop} (hk : (ab_sh h r).1 = 17) : wp 94 60 [v0, v1] (.ref r :: st) h Q = wp 94 63 [v0, v1] (va_rf (ab_hr h r 2) :: st) h Q := wp_gf (by decide +kernel : ab_cod 94 60 = some (.getfield 13, 3, 7, 2, 774, 1)) hk
set_option maxRecDepth 100000 in
theorem i94_63 {v0 v1 : Value} {st : List Value} {h : ab_Hp} {Q : ab_O → ab_Hp → Prop} (hv : ab_isA v0 = true) : wp 94 63 [v0, v1] st h Q = wp 94 64 [v0, v1] (v0 :: st) h Q := wp_aload_n (by decide +kernel : ab_cod 94 63 = some (.aload_n 0, 1, 0, 0, 0, 0)) hv
set_option maxRecDepth 100000 in
theorem i94_64 {v0 v1 : Value} {r : Nat} {st : List Value} {h : ab_Hp} {Q : ab_O → ab_Hp → Prop} (hk : (ab_sh h r).1 = 17) : wp 94 64 [v0, v1] (.ref r :: st) h Q = wp 94 67 [v0, v1] (.int (ab_hi h r 3) :: st) h Q := wp_gf (by decide +kernel : ab_cod 94 64 = some (.getfield 37, 3, 7, 3, 775, 0)) hk
set_option maxRecDepth 100000 in
theorem i94_67 {v0 v1 : Value} {st : List Value} {h : ab_Hp} {Q : ab_O → ab_Hp → Prop} : wp 94 67 [v0, v1] st h Q = wp 94 70 [v0, v1] (.int (nI 360) :: st) h Q := wp_stp (ri := (.sipush 360, 3, 0, 0, 0, 0)) (by decide +kernel) rfl rfl rfl
set_option maxRecDepth 100000 in
theorem i94_70 {v0 v1 : Value} {x y : Int32} {st : List Value} {h : ab_Hp} {Q : ab_O → ab_Hp → Prop} : wp 94 70 [v0, v1] (.int y :: .int x :: st) h Q = wp 94 71 [v0, v1] (.int (x * y) :: st) h Q := wp_stp (ri := (.imul, 1, 0, 0, 0, 0)) (by decide +kernel) rfl rfl rfl
set_option maxRecDepth 100000 in
theorem i94_71 {v0 : Value} {x : Int32} {st : List Value} {h : ab_Hp} {Q : ab_O → ab_Hp → Prop} : wp 94 71 [v0, .int x] st h Q = wp 94 72 [v0, .int x] (.int x :: st) h Q := wp_stp (ri := (.iload_n 1, 1, 0, 0, 0, 0)) (by decide +kernel) rfl rfl rfl
set_option maxRecDepth 100000 in
theorem i94_72 {v0 v1 : Value} {x y : Int32} {st : List Value} {h : ab_Hp} {Q : ab_O → ab_Hp → Prop} : wp 94 72 [v0, v1] (.int y :: .int x :: st) h Q = wp 94 73 [v0, v1] (.int (x + y) :: st) h Q := wp_stp (ri := (.iadd, 1, 0, 0, 0, 0)) (by decide +kernel) rfl rfl rfl
set_option maxRecDepth 100000 in
theorem i94_73 {v0 v1 : Value} {st : List Value} {h : ab_Hp} {Q : ab_O → ab_Hp → Prop} (hv : ab_isA v0 = true) : wp 94 73 [v0, v1] st h Q = wp 94 74 [v0, v1] (v0 :: st) h Q := wp_aload_n (by decide +kernel : ab_cod 94 73 = some (.aload_n 0, 1, 0, 0, 0, 0)) hv
set_option maxRecDepth 100000 in
theorem i94_74 {v0 v1 : Value} {r : Nat} {st : List Value} {h : ab_Hp} {Q : ab_O → ab_Hp → Prop} (hk : (ab_sh h r).1 = 17) : wp 94 74 [v0, v1] (.ref r :: st) h Q = wp 94 77 [v0, v1] (va_rf (ab_hr h r 1) :: st) h Q := wp_gf (by decide +kernel : ab_cod 94 74 = some (.getfield 7, 3, 7, 1, 773, 1)) hk
set_option maxRecDepth 100000 in
theorem i94_77 {v0 : Value} {x : Int32} {st : List Value} {h : ab_Hp} {Q : ab_O → ab_Hp → Prop} : wp 94 77 [v0, .int x] st h Q = wp 94 78 [v0, .int x] (.int x :: st) h Q := wp_stp (ri := (.iload_n 1, 1, 0, 0, 0, 0)) (by decide +kernel) rfl rfl rfl
set_option maxRecDepth 100000 in
theorem i94_78 {v0 v1 : Value} {r : Nat} {x : Int32} {st : List Value} {h : ab_Hp} {Q : ab_O → ab_Hp → Prop} (hk : ((ab_sh h r).1 = 1 ∨ (ab_sh h r).1 = 6) ∧ ab_in x (ab_sh h r).2 = true) : wp 94 78 [v0, v1] (.int x :: .ref r :: st) h Q = wp 94 79 [v0, v1] (.int (ab_hi h r x.toNatClampNeg) :: st) h Q := wp_ia (by decide +kernel : ab_cod 94 78 = some (.iaload, 1, 0, 0, 0, 0)) hk
set_option maxRecDepth 100000 in
theorem i94_79 {v0 v1 : Value} {r : Nat} {x y : Int32} {st : List Value} {h : ab_Hp} {Q : ab_O → ab_Hp → Prop} (hk : (ab_sh h r).1 = 1 ∧ ab_in x (ab_sh h r).2 = true) : wp 94 79 [v0, v1] (.int y :: .int x :: .ref r :: st) h Q = wp 94 80 [v0, v1] st (ab_setI h (ab_u (ab_hi h) r x.toNatClampNeg y)) Q := wp_ias (by decide +kernel : ab_cod 94 79 = some (.iastore, 1, 0, 0, 0, 0)) hk
set_option maxRecDepth 100000 in
theorem i94_80 {v0 : Value} {x : Int32} {st : List Value} {h : ab_Hp} {Q : ab_O → ab_Hp → Prop} : wp 94 80 [v0, .int x] st h Q = wp 94 83 [ab_clr v0, .int (x + nI 1)] st h Q := wp_stp (ri := (.iinc 1 1, 3, 0, 0, 0, 0)) (by decide +kernel) rfl rfl rfl
set_option maxRecDepth 100000 in
theorem i94_83 {v0 v1 : Value} {st : List Value} {h : ab_Hp} {Q : ab_O → ab_Hp → Prop} : wp 94 83 [v0, v1] st h Q = wp 94 52 [v0, v1] st h Q := wp_stp (ri := (.goto (-31), 3, 52, 0, 0, 0)) (by decide +kernel) rfl rfl rfl
set_option maxRecDepth 100000 in
theorem i94_86 {v0 v1 : Value} {st : List Value} {h : ab_Hp} {Q : ab_O → ab_Hp → Prop} (hv : ab_isA v0 = true) : wp 94 86 [v0, v1] st h Q = wp 94 87 [v0, v1] (v0 :: st) h Q := wp_aload_n (by decide +kernel : ab_cod 94 86 = some (.aload_n 0, 1, 0, 0, 0, 0)) hv
set_option maxRecDepth 100000 in
theorem i94_87 {v0 v1 : Value} {v : Value} {st : List Value} {h : ab_Hp} {Q : ab_O → ab_Hp → Prop} (hv : v.category = 1) : wp 94 87 [v0, v1] (v :: st) h Q = wp 94 88 [v0, v1] (v :: v :: st) h Q := wp_dup (by decide +kernel : ab_cod 94 87 = some (.dup, 1, 0, 0, 0, 0)) hv
set_option maxRecDepth 100000 in
theorem i94_88 {v0 v1 : Value} {r : Nat} {st : List Value} {h : ab_Hp} {Q : ab_O → ab_Hp → Prop} (hk : (ab_sh h r).1 = 17) : wp 94 88 [v0, v1] (.ref r :: st) h Q = wp 94 91 [v0, v1] (.int (ab_hi h r 3) :: st) h Q := wp_gf (by decide +kernel : ab_cod 94 88 = some (.getfield 37, 3, 7, 3, 775, 0)) hk
set_option maxRecDepth 100000 in
theorem i94_91 {v0 v1 : Value} {st : List Value} {h : ab_Hp} {Q : ab_O → ab_Hp → Prop} : wp 94 91 [v0, v1] st h Q = wp 94 92 [v0, v1] (.int (nI 1) :: st) h Q := wp_stp (ri := (.iconst 1, 1, 0, 0, 0, 0)) (by decide +kernel) rfl rfl rfl
set_option maxRecDepth 100000 in
theorem i94_92 {v0 v1 : Value} {x y : Int32} {st : List Value} {h : ab_Hp} {Q : ab_O → ab_Hp → Prop} : wp 94 92 [v0, v1] (.int y :: .int x :: st) h Q = wp 94 93 [v0, v1] (.int (x + y) :: st) h Q := wp_stp (ri := (.iadd, 1, 0, 0, 0, 0)) (by decide +kernel) rfl rfl rfl
set_option maxRecDepth 100000 in
theorem i94_93 {v0 v1 : Value} {r : Nat} {x : Int32} {st : List Value} {h : ab_Hp} {Q : ab_O → ab_Hp → Prop} (hk : (ab_sh h r).1 = 17) : wp 94 93 [v0, v1] (.int x :: .ref r :: st) h Q = wp 94 96 [v0, v1] st (ab_setI h (ab_u (ab_hi h) r 3 x)) Q := wp_pf (by decide +kernel : ab_cod 94 93 = some (.putfield 37, 3, 7, 3, 775, 0)) hk rfl
set_option maxRecDepth 100000 in
theorem i94_96 {v0 v1 : Value} {h : ab_Hp} {Q : ab_O → ab_Hp → Prop} : wp 94 96 [v0, v1] [] h Q = Q (.inl none) h := wp_vret (by decide +kernel : ab_cod 94 96 = some (.return_, 1, 0, 0, 0, 0)) rfl
/-! 95: SeamBeatsModel.undo()I -/
set_option maxRecDepth 100000 in
theorem i95_0 {v0 v1 : Value} {st : List Value} {h : ab_Hp} {Q : ab_O → ab_Hp → Prop} (hv : ab_isA v0 = true) : wp 95 0 [v0, v1] st h Q = wp 95 1 [v0, v1] (v0 :: st) h Q := wp_aload_n (by decide +kernel : ab_cod 95 0 = some (.aload_n 0, 1, 0, 0, 0, 0)) hv
set_option maxRecDepth 100000 in
theorem i95_1 {v0 v1 : Value} {st : List Value} {h : ab_Hp} {Q : ab_O → ab_Hp → Prop} (hv : ab_isA v0 = true) : wp 95 1 [v0, v1] st h Q = wp 95 2 [v0, v1] (v0 :: st) h Q := wp_aload_n (by decide +kernel : ab_cod 95 1 = some (.aload_n 0, 1, 0, 0, 0, 0)) hv
set_option maxRecDepth 100000 in
theorem i95_2 {v0 v1 : Value} {r : Nat} {st : List Value} {h : ab_Hp} {Q : ab_O → ab_Hp → Prop} (hk : (ab_sh h r).1 = 17) : wp 95 2 [v0, v1] (.ref r :: st) h Q = wp 95 5 [v0, v1] (.int (ab_hi h r 3) :: st) h Q := wp_gf (by decide +kernel : ab_cod 95 2 = some (.getfield 37, 3, 7, 3, 775, 0)) hk
set_option maxRecDepth 100000 in
theorem i95_5 {v0 v1 : Value} {x : Int32} {st : List Value} {h : ab_Hp} {Q : ab_O → ab_Hp → Prop} : wp 95 5 [v0, v1] (.int x :: st) h Q = if ¬ x = 0 then wp 95 12 [v0, v1] st h Q else wp 95 8 [v0, v1] st h Q := wp_ifcP (by decide +kernel : ab_cod 95 5 = some (.ifCond .ne 7, 3, 12, 0, 0, 0)) rfl
set_option maxRecDepth 100000 in
theorem i95_8 {v0 v1 : Value} {st : List Value} {h : ab_Hp} {Q : ab_O → ab_Hp → Prop} : wp 95 8 [v0, v1] st h Q = wp 95 9 [v0, v1] (.int (nI 1) :: st) h Q := wp_stp (ri := (.iconst 1, 1, 0, 0, 0, 0)) (by decide +kernel) rfl rfl rfl
set_option maxRecDepth 100000 in
theorem i95_9 {v0 v1 : Value} {st : List Value} {h : ab_Hp} {Q : ab_O → ab_Hp → Prop} : wp 95 9 [v0, v1] st h Q = wp 95 13 [v0, v1] st h Q := wp_stp (ri := (.goto 4, 3, 13, 0, 0, 0)) (by decide +kernel) rfl rfl rfl
set_option maxRecDepth 100000 in
theorem i95_12 {v0 v1 : Value} {st : List Value} {h : ab_Hp} {Q : ab_O → ab_Hp → Prop} : wp 95 12 [v0, v1] st h Q = wp 95 13 [v0, v1] (.int (nI 0) :: st) h Q := wp_stp (ri := (.iconst 0, 1, 0, 0, 0, 0)) (by decide +kernel) rfl rfl rfl
set_option maxRecDepth 100000 in
theorem i95_13 {v0 v1 : Value} {r : Nat} {x : Int32} {st : List Value} {h : ab_Hp} {Q : ab_O → ab_Hp → Prop} (hk : (ab_sh h r).1 = 17) : wp 95 13 [v0, v1] (.int x :: .ref r :: st) h Q = wp 95 16 [v0, v1] st (ab_setI h (ab_u (ab_hi h) r 0 x)) Q := wp_pf (by decide +kernel : ab_cod 95 13 = some (.putfield 29, 3, 7, 0, 772, 0)) hk rfl
set_option maxRecDepth 100000 in
theorem i95_16 {v0 v1 : Value} {st : List Value} {h : ab_Hp} {Q : ab_O → ab_Hp → Prop} (hv : ab_isA v0 = true) : wp 95 16 [v0, v1] st h Q = wp 95 17 [v0, v1] (v0 :: st) h Q := wp_aload_n (by decide +kernel : ab_cod 95 16 = some (.aload_n 0, 1, 0, 0, 0, 0)) hv
set_option maxRecDepth 100000 in
theorem i95_17 {v0 v1 : Value} {r : Nat} {st : List Value} {h : ab_Hp} {Q : ab_O → ab_Hp → Prop} (hk : (ab_sh h r).1 = 17) : wp 95 17 [v0, v1] (.ref r :: st) h Q = wp 95 20 [v0, v1] (.int (ab_hi h r 0) :: st) h Q := wp_gf (by decide +kernel : ab_cod 95 17 = some (.getfield 29, 3, 7, 0, 772, 0)) hk
set_option maxRecDepth 100000 in
theorem i95_20 {v0 v1 : Value} {x : Int32} {st : List Value} {h : ab_Hp} {Q : ab_O → ab_Hp → Prop} : wp 95 20 [v0, v1] (.int x :: st) h Q = if x ≤ 0 then wp 95 25 [v0, v1] st h Q else wp 95 23 [v0, v1] st h Q := wp_ifcP (by decide +kernel : ab_cod 95 20 = some (.ifCond .le 5, 3, 25, 0, 0, 0)) rfl
set_option maxRecDepth 100000 in
theorem i95_23 {v0 v1 : Value} {st : List Value} {h : ab_Hp} {Q : ab_O → ab_Hp → Prop} : wp 95 23 [v0, v1] st h Q = wp 95 24 [v0, v1] (.int (nI 0) :: st) h Q := wp_stp (ri := (.iconst 0, 1, 0, 0, 0, 0)) (by decide +kernel) rfl rfl rfl
set_option maxRecDepth 100000 in
theorem i95_24 {v0 v1 : Value} {x : Int32} {h : ab_Hp} {Q : ab_O → ab_Hp → Prop} : wp 95 24 [v0, v1] [.int x] h Q = Q (.inl (some (.int x))) h := wp_iret (by decide +kernel : ab_cod 95 24 = some (.ireturn, 1, 0, 0, 0, 0)) rfl
set_option maxRecDepth 100000 in
theorem i95_25 {v0 v1 : Value} {st : List Value} {h : ab_Hp} {Q : ab_O → ab_Hp → Prop} (hv : ab_isA v0 = true) : wp 95 25 [v0, v1] st h Q = wp 95 26 [v0, v1] (v0 :: st) h Q := wp_aload_n (by decide +kernel : ab_cod 95 25 = some (.aload_n 0, 1, 0, 0, 0, 0)) hv
set_option maxRecDepth 100000 in
theorem i95_26 {v0 v1 : Value} {v : Value} {st : List Value} {h : ab_Hp} {Q : ab_O → ab_Hp → Prop} (hv : v.category = 1) : wp 95 26 [v0, v1] (v :: st) h Q = wp 95 27 [v0, v1] (v :: v :: st) h Q := wp_dup (by decide +kernel : ab_cod 95 26 = some (.dup, 1, 0, 0, 0, 0)) hv
set_option maxRecDepth 100000 in
theorem i95_27 {v0 v1 : Value} {r : Nat} {st : List Value} {h : ab_Hp} {Q : ab_O → ab_Hp → Prop} (hk : (ab_sh h r).1 = 17) : wp 95 27 [v0, v1] (.ref r :: st) h Q = wp 95 30 [v0, v1] (.int (ab_hi h r 3) :: st) h Q := wp_gf (by decide +kernel : ab_cod 95 27 = some (.getfield 37, 3, 7, 3, 775, 0)) hk
set_option maxRecDepth 100000 in
theorem i95_30 {v0 v1 : Value} {st : List Value} {h : ab_Hp} {Q : ab_O → ab_Hp → Prop} : wp 95 30 [v0, v1] st h Q = wp 95 31 [v0, v1] (.int (nI 1) :: st) h Q := wp_stp (ri := (.iconst 1, 1, 0, 0, 0, 0)) (by decide +kernel) rfl rfl rfl
set_option maxRecDepth 100000 in
theorem i95_31 {v0 v1 : Value} {x y : Int32} {st : List Value} {h : ab_Hp} {Q : ab_O → ab_Hp → Prop} : wp 95 31 [v0, v1] (.int y :: .int x :: st) h Q = wp 95 32 [v0, v1] (.int (x - y) :: st) h Q := wp_stp (ri := (.isub, 1, 0, 0, 0, 0)) (by decide +kernel) rfl rfl rfl
set_option maxRecDepth 100000 in
theorem i95_32 {v0 v1 : Value} {r : Nat} {x : Int32} {st : List Value} {h : ab_Hp} {Q : ab_O → ab_Hp → Prop} (hk : (ab_sh h r).1 = 17) : wp 95 32 [v0, v1] (.int x :: .ref r :: st) h Q = wp 95 35 [v0, v1] st (ab_setI h (ab_u (ab_hi h) r 3 x)) Q := wp_pf (by decide +kernel : ab_cod 95 32 = some (.putfield 37, 3, 7, 3, 775, 0)) hk rfl
set_option maxRecDepth 100000 in
theorem i95_35 {v0 v1 : Value} {st : List Value} {h : ab_Hp} {Q : ab_O → ab_Hp → Prop} : wp 95 35 [v0, v1] st h Q = wp 95 36 [v0, v1] (.int (nI 0) :: st) h Q := wp_stp (ri := (.iconst 0, 1, 0, 0, 0, 0)) (by decide +kernel) rfl rfl rfl
set_option maxRecDepth 100000 in
theorem i95_36 {v0 v1 : Value} {w : Int32} {st : List Value} {h : ab_Hp} {Q : ab_O → ab_Hp → Prop} : wp 95 36 [v0, v1] (.int w :: st) h Q = wp 95 37 [ab_clr v0, .int w] st h Q := wp_stp (ri := (.istore_n 1, 1, 0, 0, 0, 0)) (by decide +kernel) rfl rfl rfl
set_option maxRecDepth 100000 in
theorem i95_37 {v0 : Value} {x : Int32} {st : List Value} {h : ab_Hp} {Q : ab_O → ab_Hp → Prop} : wp 95 37 [v0, .int x] st h Q = wp 95 38 [v0, .int x] (.int x :: st) h Q := wp_stp (ri := (.iload_n 1, 1, 0, 0, 0, 0)) (by decide +kernel) rfl rfl rfl
set_option maxRecDepth 100000 in
theorem i95_38 {v0 v1 : Value} {st : List Value} {h : ab_Hp} {Q : ab_O → ab_Hp → Prop} : wp 95 38 [v0, v1] st h Q = wp 95 41 [v0, v1] (.int (nI 360) :: st) h Q := wp_stp (ri := (.sipush 360, 3, 0, 0, 0, 0)) (by decide +kernel) rfl rfl rfl
set_option maxRecDepth 100000 in
theorem i95_41 {v0 v1 : Value} {x y : Int32} {st : List Value} {h : ab_Hp} {Q : ab_O → ab_Hp → Prop} : wp 95 41 [v0, v1] (.int y :: .int x :: st) h Q = if y ≤ x then wp 95 71 [v0, v1] st h Q else wp 95 44 [v0, v1] st h Q := wp_icmpP (by decide +kernel : ab_cod 95 41 = some (.if_icmp .ge 30, 3, 71, 0, 0, 0)) rfl
set_option maxRecDepth 100000 in
theorem i95_44 {v0 v1 : Value} {st : List Value} {h : ab_Hp} {Q : ab_O → ab_Hp → Prop} (hv : ab_isA v0 = true) : wp 95 44 [v0, v1] st h Q = wp 95 45 [v0, v1] (v0 :: st) h Q := wp_aload_n (by decide +kernel : ab_cod 95 44 = some (.aload_n 0, 1, 0, 0, 0, 0)) hv
set_option maxRecDepth 100000 in
theorem i95_45 {v0 v1 : Value} {r : Nat} {st : List Value} {h : ab_Hp} {Q : ab_O → ab_Hp → Prop} (hk : (ab_sh h r).1 = 17) : wp 95 45 [v0, v1] (.ref r :: st) h Q = wp 95 48 [v0, v1] (va_rf (ab_hr h r 1) :: st) h Q := wp_gf (by decide +kernel : ab_cod 95 45 = some (.getfield 7, 3, 7, 1, 773, 1)) hk
set_option maxRecDepth 100000 in
theorem i95_48 {v0 : Value} {x : Int32} {st : List Value} {h : ab_Hp} {Q : ab_O → ab_Hp → Prop} : wp 95 48 [v0, .int x] st h Q = wp 95 49 [v0, .int x] (.int x :: st) h Q := wp_stp (ri := (.iload_n 1, 1, 0, 0, 0, 0)) (by decide +kernel) rfl rfl rfl
set_option maxRecDepth 100000 in
theorem i95_49 {v0 v1 : Value} {st : List Value} {h : ab_Hp} {Q : ab_O → ab_Hp → Prop} (hv : ab_isA v0 = true) : wp 95 49 [v0, v1] st h Q = wp 95 50 [v0, v1] (v0 :: st) h Q := wp_aload_n (by decide +kernel : ab_cod 95 49 = some (.aload_n 0, 1, 0, 0, 0, 0)) hv
set_option maxRecDepth 100000 in
theorem i95_50 {v0 v1 : Value} {r : Nat} {st : List Value} {h : ab_Hp} {Q : ab_O → ab_Hp → Prop} (hk : (ab_sh h r).1 = 17) : wp 95 50 [v0, v1] (.ref r :: st) h Q = wp 95 53 [v0, v1] (va_rf (ab_hr h r 2) :: st) h Q := wp_gf (by decide +kernel : ab_cod 95 50 = some (.getfield 13, 3, 7, 2, 774, 1)) hk
set_option maxRecDepth 100000 in
theorem i95_53 {v0 v1 : Value} {st : List Value} {h : ab_Hp} {Q : ab_O → ab_Hp → Prop} (hv : ab_isA v0 = true) : wp 95 53 [v0, v1] st h Q = wp 95 54 [v0, v1] (v0 :: st) h Q := wp_aload_n (by decide +kernel : ab_cod 95 53 = some (.aload_n 0, 1, 0, 0, 0, 0)) hv
set_option maxRecDepth 100000 in
theorem i95_54 {v0 v1 : Value} {r : Nat} {st : List Value} {h : ab_Hp} {Q : ab_O → ab_Hp → Prop} (hk : (ab_sh h r).1 = 17) : wp 95 54 [v0, v1] (.ref r :: st) h Q = wp 95 57 [v0, v1] (.int (ab_hi h r 3) :: st) h Q := wp_gf (by decide +kernel : ab_cod 95 54 = some (.getfield 37, 3, 7, 3, 775, 0)) hk
set_option maxRecDepth 100000 in
theorem i95_57 {v0 v1 : Value} {st : List Value} {h : ab_Hp} {Q : ab_O → ab_Hp → Prop} : wp 95 57 [v0, v1] st h Q = wp 95 60 [v0, v1] (.int (nI 360) :: st) h Q := wp_stp (ri := (.sipush 360, 3, 0, 0, 0, 0)) (by decide +kernel) rfl rfl rfl
set_option maxRecDepth 100000 in
theorem i95_60 {v0 v1 : Value} {x y : Int32} {st : List Value} {h : ab_Hp} {Q : ab_O → ab_Hp → Prop} : wp 95 60 [v0, v1] (.int y :: .int x :: st) h Q = wp 95 61 [v0, v1] (.int (x * y) :: st) h Q := wp_stp (ri := (.imul, 1, 0, 0, 0, 0)) (by decide +kernel) rfl rfl rfl
set_option maxRecDepth 100000 in
theorem i95_61 {v0 : Value} {x : Int32} {st : List Value} {h : ab_Hp} {Q : ab_O → ab_Hp → Prop} : wp 95 61 [v0, .int x] st h Q = wp 95 62 [v0, .int x] (.int x :: st) h Q := wp_stp (ri := (.iload_n 1, 1, 0, 0, 0, 0)) (by decide +kernel) rfl rfl rfl
set_option maxRecDepth 100000 in
theorem i95_62 {v0 v1 : Value} {x y : Int32} {st : List Value} {h : ab_Hp} {Q : ab_O → ab_Hp → Prop} : wp 95 62 [v0, v1] (.int y :: .int x :: st) h Q = wp 95 63 [v0, v1] (.int (x + y) :: st) h Q := wp_stp (ri := (.iadd, 1, 0, 0, 0, 0)) (by decide +kernel) rfl rfl rfl
set_option maxRecDepth 100000 in
theorem i95_63 {v0 v1 : Value} {r : Nat} {x : Int32} {st : List Value} {h : ab_Hp} {Q : ab_O → ab_Hp → Prop} (hk : ((ab_sh h r).1 = 1 ∨ (ab_sh h r).1 = 6) ∧ ab_in x (ab_sh h r).2 = true) : wp 95 63 [v0, v1] (.int x :: .ref r :: st) h Q = wp 95 64 [v0, v1] (.int (ab_hi h r x.toNatClampNeg) :: st) h Q := wp_ia (by decide +kernel : ab_cod 95 63 = some (.iaload, 1, 0, 0, 0, 0)) hk
set_option maxRecDepth 100000 in
theorem i95_64 {v0 v1 : Value} {r : Nat} {x y : Int32} {st : List Value} {h : ab_Hp} {Q : ab_O → ab_Hp → Prop} (hk : (ab_sh h r).1 = 1 ∧ ab_in x (ab_sh h r).2 = true) : wp 95 64 [v0, v1] (.int y :: .int x :: .ref r :: st) h Q = wp 95 65 [v0, v1] st (ab_setI h (ab_u (ab_hi h) r x.toNatClampNeg y)) Q := wp_ias (by decide +kernel : ab_cod 95 64 = some (.iastore, 1, 0, 0, 0, 0)) hk
set_option maxRecDepth 100000 in
theorem i95_65 {v0 : Value} {x : Int32} {st : List Value} {h : ab_Hp} {Q : ab_O → ab_Hp → Prop} : wp 95 65 [v0, .int x] st h Q = wp 95 68 [ab_clr v0, .int (x + nI 1)] st h Q := wp_stp (ri := (.iinc 1 1, 3, 0, 0, 0, 0)) (by decide +kernel) rfl rfl rfl
set_option maxRecDepth 100000 in
theorem i95_68 {v0 v1 : Value} {st : List Value} {h : ab_Hp} {Q : ab_O → ab_Hp → Prop} : wp 95 68 [v0, v1] st h Q = wp 95 37 [v0, v1] st h Q := wp_stp (ri := (.goto (-31), 3, 37, 0, 0, 0)) (by decide +kernel) rfl rfl rfl
set_option maxRecDepth 100000 in
theorem i95_71 {v0 v1 : Value} {st : List Value} {h : ab_Hp} {Q : ab_O → ab_Hp → Prop} (hv : ab_isA v0 = true) : wp 95 71 [v0, v1] st h Q = wp 95 72 [v0, v1] (v0 :: st) h Q := wp_aload_n (by decide +kernel : ab_cod 95 71 = some (.aload_n 0, 1, 0, 0, 0, 0)) hv
set_option maxRecDepth 100000 in
theorem i95_72 {v0 v1 : Value} {r : Nat} {st : List Value} {h : ab_Hp} {Q : ab_O → ab_Hp → Prop} (hk : (ab_sh h r).1 = 17) : wp 95 72 [v0, v1] (.ref r :: st) h Q = wp 95 75 [v0, v1] (.int (ab_hi h r 3) :: st) h Q := wp_gf (by decide +kernel : ab_cod 95 72 = some (.getfield 37, 3, 7, 3, 775, 0)) hk
set_option maxRecDepth 100000 in
theorem i95_75 {v0 v1 : Value} {x : Int32} {h : ab_Hp} {Q : ab_O → ab_Hp → Prop} : wp 95 75 [v0, v1] [.int x] h Q = Q (.inl (some (.int x))) h := wp_iret (by decide +kernel : ab_cod 95 75 = some (.ireturn, 1, 0, 0, 0, 0)) rfl
/-! 96: SeamBeatsModel.putAside()V -/
theorem i96_0 {v0 v1 : Value} {st : List Value} {h : ab_Hp} {Q : ab_O → ab_Hp → Prop} : wp 96 0 [v0, v1] st h Q = wp 96 1 [v0, v1] (.int (nI 0) :: st) h Q := wp_stp (ri := (.iconst 0, 1, 0, 0, 0, 0)) (by decide +kernel) rfl rfl rfl
theorem i96_1 {v0 v1 : Value} {w : Int32} {st : List Value} {h : ab_Hp} {Q : ab_O → ab_Hp → Prop} : wp 96 1 [v0, v1] (.int w :: st) h Q = wp 96 2 [ab_clr v0, .int w] st h Q := wp_stp (ri := (.istore_n 1, 1, 0, 0, 0, 0)) (by decide +kernel) rfl rfl rfl
theorem i96_2 {v0 : Value} {x : Int32} {st : List Value} {h : ab_Hp} {Q : ab_O → ab_Hp → Prop} : wp 96 2 [v0, .int x] st h Q = wp 96 3 [v0, .int x] (.int x :: st) h Q := wp_stp (ri := (.iload_n 1, 1, 0, 0, 0, 0)) (by decide +kernel) rfl rfl rfl
theorem i96_3 {v0 v1 : Value} {st : List Value} {h : ab_Hp} {Q : ab_O → ab_Hp → Prop} : wp 96 3 [v0, v1] st h Q = wp 96 6 [v0, v1] (.int (nI 360) :: st) h Q := wp_stp (ri := (.sipush 360, 3, 0, 0, 0, 0)) (by decide +kernel) rfl rfl rfl
theorem i96_6 {v0 v1 : Value} {x y : Int32} {st : List Value} {h : ab_Hp} {Q : ab_O → ab_Hp → Prop} : wp 96 6 [v0, v1] (.int y :: .int x :: st) h Q = if y ≤ x then wp 96 27 [v0, v1] st h Q else wp 96 9 [v0, v1] st h Q := wp_icmpP (by decide +kernel : ab_cod 96 6 = some (.if_icmp .ge 21, 3, 27, 0, 0, 0)) rfl
theorem i96_9 {v0 v1 : Value} {st : List Value} {h : ab_Hp} {Q : ab_O → ab_Hp → Prop} (hv : ab_isA v0 = true) : wp 96 9 [v0, v1] st h Q = wp 96 10 [v0, v1] (v0 :: st) h Q := wp_aload_n (by decide +kernel : ab_cod 96 9 = some (.aload_n 0, 1, 0, 0, 0, 0)) hv
theorem i96_10 {v0 v1 : Value} {r : Nat} {st : List Value} {h : ab_Hp} {Q : ab_O → ab_Hp → Prop} (hk : (ab_sh h r).1 = 17) : wp 96 10 [v0, v1] (.ref r :: st) h Q = wp 96 13 [v0, v1] (va_rf (ab_hr h r 4) :: st) h Q := wp_gf (by decide +kernel : ab_cod 96 10 = some (.getfield 16, 3, 7, 4, 776, 1)) hk
theorem i96_13 {v0 : Value} {x : Int32} {st : List Value} {h : ab_Hp} {Q : ab_O → ab_Hp → Prop} : wp 96 13 [v0, .int x] st h Q = wp 96 14 [v0, .int x] (.int x :: st) h Q := wp_stp (ri := (.iload_n 1, 1, 0, 0, 0, 0)) (by decide +kernel) rfl rfl rfl
theorem i96_14 {v0 v1 : Value} {st : List Value} {h : ab_Hp} {Q : ab_O → ab_Hp → Prop} (hv : ab_isA v0 = true) : wp 96 14 [v0, v1] st h Q = wp 96 15 [v0, v1] (v0 :: st) h Q := wp_aload_n (by decide +kernel : ab_cod 96 14 = some (.aload_n 0, 1, 0, 0, 0, 0)) hv
theorem i96_15 {v0 v1 : Value} {r : Nat} {st : List Value} {h : ab_Hp} {Q : ab_O → ab_Hp → Prop} (hk : (ab_sh h r).1 = 17) : wp 96 15 [v0, v1] (.ref r :: st) h Q = wp 96 18 [v0, v1] (va_rf (ab_hr h r 1) :: st) h Q := wp_gf (by decide +kernel : ab_cod 96 15 = some (.getfield 7, 3, 7, 1, 773, 1)) hk
theorem i96_18 {v0 : Value} {x : Int32} {st : List Value} {h : ab_Hp} {Q : ab_O → ab_Hp → Prop} : wp 96 18 [v0, .int x] st h Q = wp 96 19 [v0, .int x] (.int x :: st) h Q := wp_stp (ri := (.iload_n 1, 1, 0, 0, 0, 0)) (by decide +kernel) rfl rfl rfl
theorem i96_19 {v0 v1 : Value} {r : Nat} {x : Int32} {st : List Value} {h : ab_Hp} {Q : ab_O → ab_Hp → Prop} (hk : ((ab_sh h r).1 = 1 ∨ (ab_sh h r).1 = 6) ∧ ab_in x (ab_sh h r).2 = true) : wp 96 19 [v0, v1] (.int x :: .ref r :: st) h Q = wp 96 20 [v0, v1] (.int (ab_hi h r x.toNatClampNeg) :: st) h Q := wp_ia (by decide +kernel : ab_cod 96 19 = some (.iaload, 1, 0, 0, 0, 0)) hk
theorem i96_20 {v0 v1 : Value} {r : Nat} {x y : Int32} {st : List Value} {h : ab_Hp} {Q : ab_O → ab_Hp → Prop} (hk : (ab_sh h r).1 = 1 ∧ ab_in x (ab_sh h r).2 = true) : wp 96 20 [v0, v1] (.int y :: .int x :: .ref r :: st) h Q = wp 96 21 [v0, v1] st (ab_setI h (ab_u (ab_hi h) r x.toNatClampNeg y)) Q := wp_ias (by decide +kernel : ab_cod 96 20 = some (.iastore, 1, 0, 0, 0, 0)) hk
theorem i96_21 {v0 : Value} {x : Int32} {st : List Value} {h : ab_Hp} {Q : ab_O → ab_Hp → Prop} : wp 96 21 [v0, .int x] st h Q = wp 96 24 [ab_clr v0, .int (x + nI 1)] st h Q := wp_stp (ri := (.iinc 1 1, 3, 0, 0, 0, 0)) (by decide +kernel) rfl rfl rfl
theorem i96_24 {v0 v1 : Value} {st : List Value} {h : ab_Hp} {Q : ab_O → ab_Hp → Prop} : wp 96 24 [v0, v1] st h Q = wp 96 2 [v0, v1] st h Q := wp_stp (ri := (.goto (-22), 3, 2, 0, 0, 0)) (by decide +kernel) rfl rfl rfl
theorem i96_27 {v0 v1 : Value} {h : ab_Hp} {Q : ab_O → ab_Hp → Prop} : wp 96 27 [v0, v1] [] h Q = Q (.inl none) h := wp_vret (by decide +kernel : ab_cod 96 27 = some (.return_, 1, 0, 0, 0, 0)) rfl
/-! 97: SeamBeatsModel.bringBack()V -/
theorem i97_0 {v0 v1 : Value} {st : List Value} {h : ab_Hp} {Q : ab_O → ab_Hp → Prop} : wp 97 0 [v0, v1] st h Q = wp 97 1 [v0, v1] (.int (nI 0) :: st) h Q := wp_stp (ri := (.iconst 0, 1, 0, 0, 0, 0)) (by decide +kernel) rfl rfl rfl
theorem i97_1 {v0 v1 : Value} {w : Int32} {st : List Value} {h : ab_Hp} {Q : ab_O → ab_Hp → Prop} : wp 97 1 [v0, v1] (.int w :: st) h Q = wp 97 2 [ab_clr v0, .int w] st h Q := wp_stp (ri := (.istore_n 1, 1, 0, 0, 0, 0)) (by decide +kernel) rfl rfl rfl
theorem i97_2 {v0 : Value} {x : Int32} {st : List Value} {h : ab_Hp} {Q : ab_O → ab_Hp → Prop} : wp 97 2 [v0, .int x] st h Q = wp 97 3 [v0, .int x] (.int x :: st) h Q := wp_stp (ri := (.iload_n 1, 1, 0, 0, 0, 0)) (by decide +kernel) rfl rfl rfl
theorem i97_3 {v0 v1 : Value} {st : List Value} {h : ab_Hp} {Q : ab_O → ab_Hp → Prop} : wp 97 3 [v0, v1] st h Q = wp 97 6 [v0, v1] (.int (nI 360) :: st) h Q := wp_stp (ri := (.sipush 360, 3, 0, 0, 0, 0)) (by decide +kernel) rfl rfl rfl
theorem i97_6 {v0 v1 : Value} {x y : Int32} {st : List Value} {h : ab_Hp} {Q : ab_O → ab_Hp → Prop} : wp 97 6 [v0, v1] (.int y :: .int x :: st) h Q = if y ≤ x then wp 97 27 [v0, v1] st h Q else wp 97 9 [v0, v1] st h Q := wp_icmpP (by decide +kernel : ab_cod 97 6 = some (.if_icmp .ge 21, 3, 27, 0, 0, 0)) rfl
theorem i97_9 {v0 v1 : Value} {st : List Value} {h : ab_Hp} {Q : ab_O → ab_Hp → Prop} (hv : ab_isA v0 = true) : wp 97 9 [v0, v1] st h Q = wp 97 10 [v0, v1] (v0 :: st) h Q := wp_aload_n (by decide +kernel : ab_cod 97 9 = some (.aload_n 0, 1, 0, 0, 0, 0)) hv
theorem i97_10 {v0 v1 : Value} {r : Nat} {st : List Value} {h : ab_Hp} {Q : ab_O → ab_Hp → Prop} (hk : (ab_sh h r).1 = 17) : wp 97 10 [v0, v1] (.ref r :: st) h Q = wp 97 13 [v0, v1] (va_rf (ab_hr h r 1) :: st) h Q := wp_gf (by decide +kernel : ab_cod 97 10 = some (.getfield 7, 3, 7, 1, 773, 1)) hk
theorem i97_13 {v0 : Value} {x : Int32} {st : List Value} {h : ab_Hp} {Q : ab_O → ab_Hp → Prop} : wp 97 13 [v0, .int x] st h Q = wp 97 14 [v0, .int x] (.int x :: st) h Q := wp_stp (ri := (.iload_n 1, 1, 0, 0, 0, 0)) (by decide +kernel) rfl rfl rfl
theorem i97_14 {v0 v1 : Value} {st : List Value} {h : ab_Hp} {Q : ab_O → ab_Hp → Prop} (hv : ab_isA v0 = true) : wp 97 14 [v0, v1] st h Q = wp 97 15 [v0, v1] (v0 :: st) h Q := wp_aload_n (by decide +kernel : ab_cod 97 14 = some (.aload_n 0, 1, 0, 0, 0, 0)) hv
theorem i97_15 {v0 v1 : Value} {r : Nat} {st : List Value} {h : ab_Hp} {Q : ab_O → ab_Hp → Prop} (hk : (ab_sh h r).1 = 17) : wp 97 15 [v0, v1] (.ref r :: st) h Q = wp 97 18 [v0, v1] (va_rf (ab_hr h r 4) :: st) h Q := wp_gf (by decide +kernel : ab_cod 97 15 = some (.getfield 16, 3, 7, 4, 776, 1)) hk
theorem i97_18 {v0 : Value} {x : Int32} {st : List Value} {h : ab_Hp} {Q : ab_O → ab_Hp → Prop} : wp 97 18 [v0, .int x] st h Q = wp 97 19 [v0, .int x] (.int x :: st) h Q := wp_stp (ri := (.iload_n 1, 1, 0, 0, 0, 0)) (by decide +kernel) rfl rfl rfl
theorem i97_19 {v0 v1 : Value} {r : Nat} {x : Int32} {st : List Value} {h : ab_Hp} {Q : ab_O → ab_Hp → Prop} (hk : ((ab_sh h r).1 = 1 ∨ (ab_sh h r).1 = 6) ∧ ab_in x (ab_sh h r).2 = true) : wp 97 19 [v0, v1] (.int x :: .ref r :: st) h Q = wp 97 20 [v0, v1] (.int (ab_hi h r x.toNatClampNeg) :: st) h Q := wp_ia (by decide +kernel : ab_cod 97 19 = some (.iaload, 1, 0, 0, 0, 0)) hk
theorem i97_20 {v0 v1 : Value} {r : Nat} {x y : Int32} {st : List Value} {h : ab_Hp} {Q : ab_O → ab_Hp → Prop} (hk : (ab_sh h r).1 = 1 ∧ ab_in x (ab_sh h r).2 = true) : wp 97 20 [v0, v1] (.int y :: .int x :: .ref r :: st) h Q = wp 97 21 [v0, v1] st (ab_setI h (ab_u (ab_hi h) r x.toNatClampNeg y)) Q := wp_ias (by decide +kernel : ab_cod 97 20 = some (.iastore, 1, 0, 0, 0, 0)) hk
theorem i97_21 {v0 : Value} {x : Int32} {st : List Value} {h : ab_Hp} {Q : ab_O → ab_Hp → Prop} : wp 97 21 [v0, .int x] st h Q = wp 97 24 [ab_clr v0, .int (x + nI 1)] st h Q := wp_stp (ri := (.iinc 1 1, 3, 0, 0, 0, 0)) (by decide +kernel) rfl rfl rfl
theorem i97_24 {v0 v1 : Value} {st : List Value} {h : ab_Hp} {Q : ab_O → ab_Hp → Prop} : wp 97 24 [v0, v1] st h Q = wp 97 2 [v0, v1] st h Q := wp_stp (ri := (.goto (-22), 3, 2, 0, 0, 0)) (by decide +kernel) rfl rfl rfl
theorem i97_27 {v0 v1 : Value} {h : ab_Hp} {Q : ab_O → ab_Hp → Prop} : wp 97 27 [v0, v1] [] h Q = Q (.inl none) h := wp_vret (by decide +kernel : ab_cod 97 27 = some (.return_, 1, 0, 0, 0, 0)) rfl
/-! 98: SeamBeatsModel.beat(III)I -/
set_option maxRecDepth 100000 in
theorem i98_0 {v0 v1 v2 v3 v4 : Value} {st : List Value} {h : ab_Hp} {Q : ab_O → ab_Hp → Prop} (hv : ab_isA v0 = true) : wp 98 0 [v0, v1, v2, v3, v4] st h Q = wp 98 1 [v0, v1, v2, v3, v4] (v0 :: st) h Q := wp_aload_n (by decide +kernel : ab_cod 98 0 = some (.aload_n 0, 1, 0, 0, 0, 0)) hv
set_option maxRecDepth 100000 in
theorem i98_1 {v0 v2 v3 v4 : Value} {x : Int32} {st : List Value} {h : ab_Hp} {Q : ab_O → ab_Hp → Prop} : wp 98 1 [v0, .int x, v2, v3, v4] st h Q = wp 98 2 [v0, .int x, v2, v3, v4] (.int x :: st) h Q := wp_stp (ri := (.iload_n 1, 1, 0, 0, 0, 0)) (by decide +kernel) rfl rfl rfl
set_option maxRecDepth 100000 in
theorem i98_2 {v0 v1 v2 v3 v4 : Value} {a0 : Int32} {st : List Value} {h : ab_Hp} {Q : ab_O → ab_Hp → Prop} (hl : st.length ≤ 4) : wp 98 2 [v0, v1, v2, v3, v4] (.int a0 :: st) h Q = wp 88 0 [.int a0] [] h (ab_K 98 2 [v0, v1, v2, v3, v4] st Q) := wp_callS (as := [.int a0]) (by decide +kernel : ab_cod 98 2 = some (.invokestatic 40, 3, 88, 1, 1, 818)) rfl rfl rfl rfl hl
set_option maxRecDepth 100000 in
theorem i98_5 {v0 v1 v2 v3 v4 : Value} {x : Int32} {st : List Value} {h : ab_Hp} {Q : ab_O → ab_Hp → Prop} : wp 98 5 [v0, v1, v2, v3, v4] (.int x :: st) h Q = if ¬ x = 0 then wp 98 12 [v0, v1, v2, v3, v4] st h Q else wp 98 8 [v0, v1, v2, v3, v4] st h Q := wp_ifcP (by decide +kernel : ab_cod 98 5 = some (.ifCond .ne 7, 3, 12, 0, 0, 0)) rfl
set_option maxRecDepth 100000 in
theorem i98_8 {v0 v1 v2 v3 v4 : Value} {st : List Value} {h : ab_Hp} {Q : ab_O → ab_Hp → Prop} : wp 98 8 [v0, v1, v2, v3, v4] st h Q = wp 98 9 [v0, v1, v2, v3, v4] (.int (nI 1) :: st) h Q := wp_stp (ri := (.iconst 1, 1, 0, 0, 0, 0)) (by decide +kernel) rfl rfl rfl
set_option maxRecDepth 100000 in
theorem i98_9 {v0 v1 v2 v3 v4 : Value} {st : List Value} {h : ab_Hp} {Q : ab_O → ab_Hp → Prop} : wp 98 9 [v0, v1, v2, v3, v4] st h Q = wp 98 37 [v0, v1, v2, v3, v4] st h Q := wp_stp (ri := (.goto 28, 3, 37, 0, 0, 0)) (by decide +kernel) rfl rfl rfl
set_option maxRecDepth 100000 in
theorem i98_12 {v0 v1 v3 v4 : Value} {x : Int32} {st : List Value} {h : ab_Hp} {Q : ab_O → ab_Hp → Prop} : wp 98 12 [v0, v1, .int x, v3, v4] st h Q = wp 98 13 [v0, v1, .int x, v3, v4] (.int x :: st) h Q := wp_stp (ri := (.iload_n 2, 1, 0, 0, 0, 0)) (by decide +kernel) rfl rfl rfl
set_option maxRecDepth 100000 in
theorem i98_13 {v0 v1 v2 v3 v4 : Value} {st : List Value} {h : ab_Hp} {Q : ab_O → ab_Hp → Prop} : wp 98 13 [v0, v1, v2, v3, v4] st h Q = wp 98 14 [v0, v1, v2, v3, v4] (.int (nI 1) :: st) h Q := wp_stp (ri := (.iconst 1, 1, 0, 0, 0, 0)) (by decide +kernel) rfl rfl rfl
set_option maxRecDepth 100000 in
theorem i98_14 {v0 v1 v2 v3 v4 : Value} {st : List Value} {h : ab_Hp} {Q : ab_O → ab_Hp → Prop} : wp 98 14 [v0, v1, v2, v3, v4] st h Q = wp 98 15 [v0, v1, v2, v3, v4] (.int (nI 4) :: st) h Q := wp_stp (ri := (.iconst 4, 1, 0, 0, 0, 0)) (by decide +kernel) rfl rfl rfl
set_option maxRecDepth 100000 in
theorem i98_15 {v0 v1 v2 v3 v4 : Value} {a0 : Int32} {a1 : Int32} {a2 : Int32} {st : List Value} {h : ab_Hp} {Q : ab_O → ab_Hp → Prop} (hl : st.length ≤ 4) : wp 98 15 [v0, v1, v2, v3, v4] (.int a2 :: .int a1 :: .int a0 :: st) h Q = wp 87 0 [.int a0, .int a1, .int a2] [] h (ab_K 98 15 [v0, v1, v2, v3, v4] st Q) := wp_callS (as := [.int a0, .int a1, .int a2]) (by decide +kernel : ab_cod 98 15 = some (.invokestatic 33, 3, 87, 3, 1, 821)) rfl rfl rfl rfl hl
set_option maxRecDepth 100000 in
theorem i98_18 {v0 v1 v2 v3 v4 : Value} {x : Int32} {st : List Value} {h : ab_Hp} {Q : ab_O → ab_Hp → Prop} : wp 98 18 [v0, v1, v2, v3, v4] (.int x :: st) h Q = if x = 0 then wp 98 32 [v0, v1, v2, v3, v4] st h Q else wp 98 21 [v0, v1, v2, v3, v4] st h Q := wp_ifcP (by decide +kernel : ab_cod 98 18 = some (.ifCond .eq 14, 3, 32, 0, 0, 0)) rfl
set_option maxRecDepth 100000 in
theorem i98_21 {v0 v1 v2 v4 : Value} {x : Int32} {st : List Value} {h : ab_Hp} {Q : ab_O → ab_Hp → Prop} : wp 98 21 [v0, v1, v2, .int x, v4] st h Q = wp 98 22 [v0, v1, v2, .int x, v4] (.int x :: st) h Q := wp_stp (ri := (.iload_n 3, 1, 0, 0, 0, 0)) (by decide +kernel) rfl rfl rfl
set_option maxRecDepth 100000 in
theorem i98_22 {v0 v1 v2 v3 v4 : Value} {st : List Value} {h : ab_Hp} {Q : ab_O → ab_Hp → Prop} : wp 98 22 [v0, v1, v2, v3, v4] st h Q = wp 98 23 [v0, v1, v2, v3, v4] (.int (nI 0) :: st) h Q := wp_stp (ri := (.iconst 0, 1, 0, 0, 0, 0)) (by decide +kernel) rfl rfl rfl
set_option maxRecDepth 100000 in
theorem i98_23 {v0 v1 v3 v4 : Value} {x : Int32} {st : List Value} {h : ab_Hp} {Q : ab_O → ab_Hp → Prop} : wp 98 23 [v0, v1, .int x, v3, v4] st h Q = wp 98 24 [v0, v1, .int x, v3, v4] (.int x :: st) h Q := wp_stp (ri := (.iload_n 2, 1, 0, 0, 0, 0)) (by decide +kernel) rfl rfl rfl
set_option maxRecDepth 100000 in
theorem i98_24 {v0 v1 v2 v3 v4 : Value} {st : List Value} {h : ab_Hp} {Q : ab_O → ab_Hp → Prop} : wp 98 24 [v0, v1, v2, v3, v4] st h Q = wp 98 25 [v0, v1, v2, v3, v4] (.int (nI 1) :: st) h Q := wp_stp (ri := (.iconst 1, 1, 0, 0, 0, 0)) (by decide +kernel) rfl rfl rfl
set_option maxRecDepth 100000 in
theorem i98_25 {v0 v1 v2 v3 v4 : Value} {x y : Int32} {st : List Value} {h : ab_Hp} {Q : ab_O → ab_Hp → Prop} : wp 98 25 [v0, v1, v2, v3, v4] (.int y :: .int x :: st) h Q = wp 98 26 [v0, v1, v2, v3, v4] (.int (x - y) :: st) h Q := wp_stp (ri := (.isub, 1, 0, 0, 0, 0)) (by decide +kernel) rfl rfl rfl
set_option maxRecDepth 100000 in
theorem i98_26 {v0 v1 v2 v3 v4 : Value} {a0 : Int32} {a1 : Int32} {a2 : Int32} {st : List Value} {h : ab_Hp} {Q : ab_O → ab_Hp → Prop} (hl : st.length ≤ 4) : wp 98 26 [v0, v1, v2, v3, v4] (.int a2 :: .int a1 :: .int a0 :: st) h Q = wp 87 0 [.int a0, .int a1, .int a2] [] h (ab_K 98 26 [v0, v1, v2, v3, v4] st Q) := wp_callS (as := [.int a0, .int a1, .int a2]) (by decide +kernel : ab_cod 98 26 = some (.invokestatic 33, 3, 87, 3, 1, 821)) rfl rfl rfl rfl hl
set_option maxRecDepth 100000 in
theorem i98_29 {v0 v1 v2 v3 v4 : Value} {x : Int32} {st : List Value} {h : ab_Hp} {Q : ab_O → ab_Hp → Prop} : wp 98 29 [v0, v1, v2, v3, v4] (.int x :: st) h Q = if ¬ x = 0 then wp 98 36 [v0, v1, v2, v3, v4] st h Q else wp 98 32 [v0, v1, v2, v3, v4] st h Q := wp_ifcP (by decide +kernel : ab_cod 98 29 = some (.ifCond .ne 7, 3, 36, 0, 0, 0)) rfl
set_option maxRecDepth 100000 in
theorem i98_32 {v0 v1 v2 v3 v4 : Value} {st : List Value} {h : ab_Hp} {Q : ab_O → ab_Hp → Prop} : wp 98 32 [v0, v1, v2, v3, v4] st h Q = wp 98 33 [v0, v1, v2, v3, v4] (.int (nI 2) :: st) h Q := wp_stp (ri := (.iconst 2, 1, 0, 0, 0, 0)) (by decide +kernel) rfl rfl rfl
set_option maxRecDepth 100000 in
theorem i98_33 {v0 v1 v2 v3 v4 : Value} {st : List Value} {h : ab_Hp} {Q : ab_O → ab_Hp → Prop} : wp 98 33 [v0, v1, v2, v3, v4] st h Q = wp 98 37 [v0, v1, v2, v3, v4] st h Q := wp_stp (ri := (.goto 4, 3, 37, 0, 0, 0)) (by decide +kernel) rfl rfl rfl
set_option maxRecDepth 100000 in
theorem i98_36 {v0 v1 v2 v3 v4 : Value} {st : List Value} {h : ab_Hp} {Q : ab_O → ab_Hp → Prop} : wp 98 36 [v0, v1, v2, v3, v4] st h Q = wp 98 37 [v0, v1, v2, v3, v4] (.int (nI 0) :: st) h Q := wp_stp (ri := (.iconst 0, 1, 0, 0, 0, 0)) (by decide +kernel) rfl rfl rfl
set_option maxRecDepth 100000 in
theorem i98_37 {v0 v1 v2 v3 v4 : Value} {r : Nat} {x : Int32} {st : List Value} {h : ab_Hp} {Q : ab_O → ab_Hp → Prop} (hk : (ab_sh h r).1 = 17) : wp 98 37 [v0, v1, v2, v3, v4] (.int x :: .ref r :: st) h Q = wp 98 40 [v0, v1, v2, v3, v4] st (ab_setI h (ab_u (ab_hi h) r 0 x)) Q := wp_pf (by decide +kernel : ab_cod 98 37 = some (.putfield 29, 3, 7, 0, 772, 0)) hk rfl
set_option maxRecDepth 100000 in
theorem i98_40 {v0 v1 v2 v3 v4 : Value} {st : List Value} {h : ab_Hp} {Q : ab_O → ab_Hp → Prop} (hv : ab_isA v0 = true) : wp 98 40 [v0, v1, v2, v3, v4] st h Q = wp 98 41 [v0, v1, v2, v3, v4] (v0 :: st) h Q := wp_aload_n (by decide +kernel : ab_cod 98 40 = some (.aload_n 0, 1, 0, 0, 0, 0)) hv
set_option maxRecDepth 100000 in
theorem i98_41 {v0 v1 v2 v3 v4 : Value} {r : Nat} {st : List Value} {h : ab_Hp} {Q : ab_O → ab_Hp → Prop} (hk : (ab_sh h r).1 = 17) : wp 98 41 [v0, v1, v2, v3, v4] (.ref r :: st) h Q = wp 98 44 [v0, v1, v2, v3, v4] (.int (ab_hi h r 0) :: st) h Q := wp_gf (by decide +kernel : ab_cod 98 41 = some (.getfield 29, 3, 7, 0, 772, 0)) hk
set_option maxRecDepth 100000 in
theorem i98_44 {v0 v1 v2 v3 v4 : Value} {x : Int32} {st : List Value} {h : ab_Hp} {Q : ab_O → ab_Hp → Prop} : wp 98 44 [v0, v1, v2, v3, v4] (.int x :: st) h Q = if x ≤ 0 then wp 98 49 [v0, v1, v2, v3, v4] st h Q else wp 98 47 [v0, v1, v2, v3, v4] st h Q := wp_ifcP (by decide +kernel : ab_cod 98 44 = some (.ifCond .le 5, 3, 49, 0, 0, 0)) rfl
set_option maxRecDepth 100000 in
theorem i98_47 {v0 v1 v2 v3 v4 : Value} {st : List Value} {h : ab_Hp} {Q : ab_O → ab_Hp → Prop} : wp 98 47 [v0, v1, v2, v3, v4] st h Q = wp 98 48 [v0, v1, v2, v3, v4] (.int (nI 0) :: st) h Q := wp_stp (ri := (.iconst 0, 1, 0, 0, 0, 0)) (by decide +kernel) rfl rfl rfl
set_option maxRecDepth 100000 in
theorem i98_48 {v0 v1 v2 v3 v4 : Value} {x : Int32} {h : ab_Hp} {Q : ab_O → ab_Hp → Prop} : wp 98 48 [v0, v1, v2, v3, v4] [.int x] h Q = Q (.inl (some (.int x))) h := wp_iret (by decide +kernel : ab_cod 98 48 = some (.ireturn, 1, 0, 0, 0, 0)) rfl
set_option maxRecDepth 100000 in
theorem i98_49 {v0 v1 v2 v3 v4 : Value} {st : List Value} {h : ab_Hp} {Q : ab_O → ab_Hp → Prop} (hv : ab_isA v0 = true) : wp 98 49 [v0, v1, v2, v3, v4] st h Q = wp 98 50 [v0, v1, v2, v3, v4] (v0 :: st) h Q := wp_aload_n (by decide +kernel : ab_cod 98 49 = some (.aload_n 0, 1, 0, 0, 0, 0)) hv
set_option maxRecDepth 100000 in
theorem i98_50 {v0 v1 v2 v3 v4 : Value} {r : Nat} {st : List Value} {h : ab_Hp} {Q : ab_O → ab_Hp → Prop} (hl : st.length ≤ 4) (hk : (ab_sh h r).1 = 17) : wp 98 50 [v0, v1, v2, v3, v4] (.ref r :: st) h Q = wp 94 0 [.ref r, ab_nov] [] h (ab_K 98 50 [v0, v1, v2, v3, v4] st Q) := wp_callV (as := []) (by decide +kernel : ab_cod 98 50 = some (.invokevirtual 44, 3, 94, 1, 0, 824)) rfl rfl rfl rfl hl hk
set_option maxRecDepth 100000 in
theorem i98_53 {v0 v1 v2 v3 v4 : Value} {st : List Value} {h : ab_Hp} {Q : ab_O → ab_Hp → Prop} : wp 98 53 [v0, v1, v2, v3, v4] st h Q = wp 98 55 [v0, v1, v2, v3, v4] (.int (nI 10) :: st) h Q := wp_stp (ri := (.bipush 10, 2, 0, 0, 0, 0)) (by decide +kernel) rfl rfl rfl
set_option maxRecDepth 100000 in
theorem i98_55 {v0 v1 v2 v3 v4 : Value} {st : List Value} {h : ab_Hp} {Q : ab_O → ab_Hp → Prop} (hv : ab_isA v0 = true) : wp 98 55 [v0, v1, v2, v3, v4] st h Q = wp 98 56 [v0, v1, v2, v3, v4] (v0 :: st) h Q := wp_aload_n (by decide +kernel : ab_cod 98 55 = some (.aload_n 0, 1, 0, 0, 0, 0)) hv
set_option maxRecDepth 100000 in
theorem i98_56 {v0 v2 v3 v4 : Value} {x : Int32} {st : List Value} {h : ab_Hp} {Q : ab_O → ab_Hp → Prop} : wp 98 56 [v0, .int x, v2, v3, v4] st h Q = wp 98 57 [v0, .int x, v2, v3, v4] (.int x :: st) h Q := wp_stp (ri := (.iload_n 1, 1, 0, 0, 0, 0)) (by decide +kernel) rfl rfl rfl
set_option maxRecDepth 100000 in
theorem i98_57 {v0 v1 v2 v3 v4 : Value} {st : List Value} {h : ab_Hp} {Q : ab_O → ab_Hp → Prop} : wp 98 57 [v0, v1, v2, v3, v4] st h Q = wp 98 58 [v0, v1, v2, v3, v4] (.int (nI 0) :: st) h Q := wp_stp (ri := (.iconst 0, 1, 0, 0, 0, 0)) (by decide +kernel) rfl rfl rfl
set_option maxRecDepth 100000 in
theorem i98_58 {v0 v1 v2 v3 v4 : Value} {r : Nat} {a0 : Int32} {a1 : Int32} {st : List Value} {h : ab_Hp} {Q : ab_O → ab_Hp → Prop} (hl : st.length ≤ 4) (hk : (ab_sh h r).1 = 17) : wp 98 58 [v0, v1, v2, v3, v4] (.int a1 :: .int a0 :: .ref r :: st) h Q = wp 90 0 [.ref r, .int a0, .int a1] [] h (ab_K 98 58 [v0, v1, v2, v3, v4] st Q) := wp_callV (as := [.int a0, .int a1]) (by decide +kernel : ab_cod 98 58 = some (.invokevirtual 47, 3, 90, 3, 0, 828)) rfl rfl rfl rfl hl hk
set_option maxRecDepth 100000 in
theorem i98_61 {v0 v1 v2 v3 v4 : Value} {x y : Int32} {st : List Value} {h : ab_Hp} {Q : ab_O → ab_Hp → Prop} : wp 98 61 [v0, v1, v2, v3, v4] (.int y :: .int x :: st) h Q = wp 98 62 [v0, v1, v2, v3, v4] (.int (x * y) :: st) h Q := wp_stp (ri := (.imul, 1, 0, 0, 0, 0)) (by decide +kernel) rfl rfl rfl
set_option maxRecDepth 100000 in
theorem i98_62 {v0 v1 v2 v3 v4 : Value} {st : List Value} {h : ab_Hp} {Q : ab_O → ab_Hp → Prop} (hv : ab_isA v0 = true) : wp 98 62 [v0, v1, v2, v3, v4] st h Q = wp 98 63 [v0, v1, v2, v3, v4] (v0 :: st) h Q := wp_aload_n (by decide +kernel : ab_cod 98 62 = some (.aload_n 0, 1, 0, 0, 0, 0)) hv
set_option maxRecDepth 100000 in
theorem i98_63 {v0 v2 v3 v4 : Value} {x : Int32} {st : List Value} {h : ab_Hp} {Q : ab_O → ab_Hp → Prop} : wp 98 63 [v0, .int x, v2, v3, v4] st h Q = wp 98 64 [v0, .int x, v2, v3, v4] (.int x :: st) h Q := wp_stp (ri := (.iload_n 1, 1, 0, 0, 0, 0)) (by decide +kernel) rfl rfl rfl
set_option maxRecDepth 100000 in
theorem i98_64 {v0 v1 v2 v3 v4 : Value} {st : List Value} {h : ab_Hp} {Q : ab_O → ab_Hp → Prop} : wp 98 64 [v0, v1, v2, v3, v4] st h Q = wp 98 65 [v0, v1, v2, v3, v4] (.int (nI 1) :: st) h Q := wp_stp (ri := (.iconst 1, 1, 0, 0, 0, 0)) (by decide +kernel) rfl rfl rfl
set_option maxRecDepth 100000 in
theorem i98_65 {v0 v1 v2 v3 v4 : Value} {r : Nat} {a0 : Int32} {a1 : Int32} {st : List Value} {h : ab_Hp} {Q : ab_O → ab_Hp → Prop} (hl : st.length ≤ 4) (hk : (ab_sh h r).1 = 17) : wp 98 65 [v0, v1, v2, v3, v4] (.int a1 :: .int a0 :: .ref r :: st) h Q = wp 90 0 [.ref r, .int a0, .int a1] [] h (ab_K 98 65 [v0, v1, v2, v3, v4] st Q) := wp_callV (as := [.int a0, .int a1]) (by decide +kernel : ab_cod 98 65 = some (.invokevirtual 47, 3, 90, 3, 0, 828)) rfl rfl rfl rfl hl hk
set_option maxRecDepth 100000 in
theorem i98_68 {v0 v1 v2 v3 v4 : Value} {x y : Int32} {st : List Value} {h : ab_Hp} {Q : ab_O → ab_Hp → Prop} : wp 98 68 [v0, v1, v2, v3, v4] (.int y :: .int x :: st) h Q = wp 98 69 [v0, v1, v2, v3, v4] (.int (x + y) :: st) h Q := wp_stp (ri := (.iadd, 1, 0, 0, 0, 0)) (by decide +kernel) rfl rfl rfl
set_option maxRecDepth 100000 in
theorem i98_69 {v0 v1 v2 v3 v4 : Value} {w : Int32} {st : List Value} {h : ab_Hp} {Q : ab_O → ab_Hp → Prop} : wp 98 69 [v0, v1, v2, v3, v4] (.int w :: st) h Q = wp 98 71 [v0, v1, v2, ab_clr v3, .int w] st h Q := wp_stp (ri := (.istore 4, 2, 0, 0, 0, 0)) (by decide +kernel) rfl rfl rfl
set_option maxRecDepth 100000 in
theorem i98_71 {v0 v1 v2 v3 v4 : Value} {st : List Value} {h : ab_Hp} {Q : ab_O → ab_Hp → Prop} (hv : ab_isA v0 = true) : wp 98 71 [v0, v1, v2, v3, v4] st h Q = wp 98 72 [v0, v1, v2, v3, v4] (v0 :: st) h Q := wp_aload_n (by decide +kernel : ab_cod 98 71 = some (.aload_n 0, 1, 0, 0, 0, 0)) hv
set_option maxRecDepth 100000 in
theorem i98_72 {v0 v2 v3 v4 : Value} {x : Int32} {st : List Value} {h : ab_Hp} {Q : ab_O → ab_Hp → Prop} : wp 98 72 [v0, .int x, v2, v3, v4] st h Q = wp 98 73 [v0, .int x, v2, v3, v4] (.int x :: st) h Q := wp_stp (ri := (.iload_n 1, 1, 0, 0, 0, 0)) (by decide +kernel) rfl rfl rfl
set_option maxRecDepth 100000 in
theorem i98_73 {v0 v1 v2 v3 v4 : Value} {st : List Value} {h : ab_Hp} {Q : ab_O → ab_Hp → Prop} : wp 98 73 [v0, v1, v2, v3, v4] st h Q = wp 98 74 [v0, v1, v2, v3, v4] (.int (nI 0) :: st) h Q := wp_stp (ri := (.iconst 0, 1, 0, 0, 0, 0)) (by decide +kernel) rfl rfl rfl
set_option maxRecDepth 100000 in
theorem i98_74 {v0 v1 v3 v4 : Value} {x : Int32} {st : List Value} {h : ab_Hp} {Q : ab_O → ab_Hp → Prop} : wp 98 74 [v0, v1, .int x, v3, v4] st h Q = wp 98 75 [v0, v1, .int x, v3, v4] (.int x :: st) h Q := wp_stp (ri := (.iload_n 2, 1, 0, 0, 0, 0)) (by decide +kernel) rfl rfl rfl
set_option maxRecDepth 100000 in
theorem i98_75 {v0 v1 v2 v3 v4 : Value} {r : Nat} {a0 : Int32} {a1 : Int32} {a2 : Int32} {st : List Value} {h : ab_Hp} {Q : ab_O → ab_Hp → Prop} (hl : st.length ≤ 4) (hk : (ab_sh h r).1 = 17) : wp 98 75 [v0, v1, v2, v3, v4] (.int a2 :: .int a1 :: .int a0 :: .ref r :: st) h Q = wp 91 0 [.ref r, .int a0, .int a1, .int a2] [] h (ab_K 98 75 [v0, v1, v2, v3, v4] st Q) := wp_callV (as := [.int a0, .int a1, .int a2]) (by decide +kernel : ab_cod 98 75 = some (.invokevirtual 25, 3, 91, 4, 0, 768)) rfl rfl rfl rfl hl hk
set_option maxRecDepth 100000 in
theorem i98_78 {v0 v1 v2 v3 v4 : Value} {st : List Value} {h : ab_Hp} {Q : ab_O → ab_Hp → Prop} (hv : ab_isA v0 = true) : wp 98 78 [v0, v1, v2, v3, v4] st h Q = wp 98 79 [v0, v1, v2, v3, v4] (v0 :: st) h Q := wp_aload_n (by decide +kernel : ab_cod 98 78 = some (.aload_n 0, 1, 0, 0, 0, 0)) hv
set_option maxRecDepth 100000 in
theorem i98_79 {v0 v2 v3 v4 : Value} {x : Int32} {st : List Value} {h : ab_Hp} {Q : ab_O → ab_Hp → Prop} : wp 98 79 [v0, .int x, v2, v3, v4] st h Q = wp 98 80 [v0, .int x, v2, v3, v4] (.int x :: st) h Q := wp_stp (ri := (.iload_n 1, 1, 0, 0, 0, 0)) (by decide +kernel) rfl rfl rfl
set_option maxRecDepth 100000 in
theorem i98_80 {v0 v1 v2 v3 v4 : Value} {st : List Value} {h : ab_Hp} {Q : ab_O → ab_Hp → Prop} : wp 98 80 [v0, v1, v2, v3, v4] st h Q = wp 98 81 [v0, v1, v2, v3, v4] (.int (nI 1) :: st) h Q := wp_stp (ri := (.iconst 1, 1, 0, 0, 0, 0)) (by decide +kernel) rfl rfl rfl
set_option maxRecDepth 100000 in
theorem i98_81 {v0 v1 v2 v4 : Value} {x : Int32} {st : List Value} {h : ab_Hp} {Q : ab_O → ab_Hp → Prop} : wp 98 81 [v0, v1, v2, .int x, v4] st h Q = wp 98 82 [v0, v1, v2, .int x, v4] (.int x :: st) h Q := wp_stp (ri := (.iload_n 3, 1, 0, 0, 0, 0)) (by decide +kernel) rfl rfl rfl
set_option maxRecDepth 100000 in
theorem i98_82 {v0 v1 v2 v3 v4 : Value} {r : Nat} {a0 : Int32} {a1 : Int32} {a2 : Int32} {st : List Value} {h : ab_Hp} {Q : ab_O → ab_Hp → Prop} (hl : st.length ≤ 4) (hk : (ab_sh h r).1 = 17) : wp 98 82 [v0, v1, v2, v3, v4] (.int a2 :: .int a1 :: .int a0 :: .ref r :: st) h Q = wp 91 0 [.ref r, .int a0, .int a1, .int a2] [] h (ab_K 98 82 [v0, v1, v2, v3, v4] st Q) := wp_callV (as := [.int a0, .int a1, .int a2]) (by decide +kernel : ab_cod 98 82 = some (.invokevirtual 25, 3, 91, 4, 0, 768)) rfl rfl rfl rfl hl hk
set_option maxRecDepth 100000 in
theorem i98_85 {v0 v1 v2 v3 : Value} {x : Int32} {st : List Value} {h : ab_Hp} {Q : ab_O → ab_Hp → Prop} : wp 98 85 [v0, v1, v2, v3, .int x] st h Q = wp 98 87 [v0, v1, v2, v3, .int x] (.int x :: st) h Q := wp_stp (ri := (.iload 4, 2, 0, 0, 0, 0)) (by decide +kernel) rfl rfl rfl
set_option maxRecDepth 100000 in
theorem i98_87 {v0 v1 v2 v3 v4 : Value} {x : Int32} {h : ab_Hp} {Q : ab_O → ab_Hp → Prop} : wp 98 87 [v0, v1, v2, v3, v4] [.int x] h Q = Q (.inl (some (.int x))) h := wp_iret (by decide +kernel : ab_cod 98 87 = some (.ireturn, 1, 0, 0, 0, 0)) rfl
/-! 99: SeamBeatsModel.wake(IZ)I -/
theorem i99_0 {v0 v1 v2 v3 : Value} {st : List Value} {h : ab_Hp} {Q : ab_O → ab_Hp → Prop} (hv : ab_isA v0 = true) : wp 99 0 [v0, v1, v2, v3] st h Q = wp 99 1 [v0, v1, v2, v3] (v0 :: st) h Q := wp_aload_n (by decide +kernel : ab_cod 99 0 = some (.aload_n 0, 1, 0, 0, 0, 0)) hv
theorem i99_1 {v0 v2 v3 : Value} {x : Int32} {st : List Value} {h : ab_Hp} {Q : ab_O → ab_Hp → Prop} : wp 99 1 [v0, .int x, v2, v3] st h Q = wp 99 2 [v0, .int x, v2, v3] (.int x :: st) h Q := wp_stp (ri := (.iload_n 1, 1, 0, 0, 0, 0)) (by decide +kernel) rfl rfl rfl
theorem i99_2 {v0 v1 v2 v3 : Value} {a0 : Int32} {st : List Value} {h : ab_Hp} {Q : ab_O → ab_Hp → Prop} (hl : st.length ≤ 4) : wp 99 2 [v0, v1, v2, v3] (.int a0 :: st) h Q = wp 88 0 [.int a0] [] h (ab_K 99 2 [v0, v1, v2, v3] st Q) := wp_callS (as := [.int a0]) (by decide +kernel : ab_cod 99 2 = some (.invokestatic 40, 3, 88, 1, 1, 818)) rfl rfl rfl rfl hl
theorem i99_5 {v0 v1 v2 v3 : Value} {x : Int32} {st : List Value} {h : ab_Hp} {Q : ab_O → ab_Hp → Prop} : wp 99 5 [v0, v1, v2, v3] (.int x :: st) h Q = if x = 0 then wp 99 12 [v0, v1, v2, v3] st h Q else wp 99 8 [v0, v1, v2, v3] st h Q := wp_ifcP (by decide +kernel : ab_cod 99 5 = some (.ifCond .eq 7, 3, 12, 0, 0, 0)) rfl
theorem i99_8 {v0 v1 v2 v3 : Value} {st : List Value} {h : ab_Hp} {Q : ab_O → ab_Hp → Prop} : wp 99 8 [v0, v1, v2, v3] st h Q = wp 99 9 [v0, v1, v2, v3] (.int (nI 0) :: st) h Q := wp_stp (ri := (.iconst 0, 1, 0, 0, 0, 0)) (by decide +kernel) rfl rfl rfl
theorem i99_9 {v0 v1 v2 v3 : Value} {st : List Value} {h : ab_Hp} {Q : ab_O → ab_Hp → Prop} : wp 99 9 [v0, v1, v2, v3] st h Q = wp 99 13 [v0, v1, v2, v3] st h Q := wp_stp (ri := (.goto 4, 3, 13, 0, 0, 0)) (by decide +kernel) rfl rfl rfl
theorem i99_12 {v0 v1 v2 v3 : Value} {st : List Value} {h : ab_Hp} {Q : ab_O → ab_Hp → Prop} : wp 99 12 [v0, v1, v2, v3] st h Q = wp 99 13 [v0, v1, v2, v3] (.int (nI 1) :: st) h Q := wp_stp (ri := (.iconst 1, 1, 0, 0, 0, 0)) (by decide +kernel) rfl rfl rfl
theorem i99_13 {v0 v1 v2 v3 : Value} {r : Nat} {x : Int32} {st : List Value} {h : ab_Hp} {Q : ab_O → ab_Hp → Prop} (hk : (ab_sh h r).1 = 17) : wp 99 13 [v0, v1, v2, v3] (.int x :: .ref r :: st) h Q = wp 99 16 [v0, v1, v2, v3] st (ab_setI h (ab_u (ab_hi h) r 0 x)) Q := wp_pf (by decide +kernel : ab_cod 99 13 = some (.putfield 29, 3, 7, 0, 772, 0)) hk rfl
theorem i99_16 {v0 v1 v2 v3 : Value} {st : List Value} {h : ab_Hp} {Q : ab_O → ab_Hp → Prop} (hv : ab_isA v0 = true) : wp 99 16 [v0, v1, v2, v3] st h Q = wp 99 17 [v0, v1, v2, v3] (v0 :: st) h Q := wp_aload_n (by decide +kernel : ab_cod 99 16 = some (.aload_n 0, 1, 0, 0, 0, 0)) hv
theorem i99_17 {v0 v1 v2 v3 : Value} {r : Nat} {st : List Value} {h : ab_Hp} {Q : ab_O → ab_Hp → Prop} (hk : (ab_sh h r).1 = 17) : wp 99 17 [v0, v1, v2, v3] (.ref r :: st) h Q = wp 99 20 [v0, v1, v2, v3] (.int (ab_hi h r 0) :: st) h Q := wp_gf (by decide +kernel : ab_cod 99 17 = some (.getfield 29, 3, 7, 0, 772, 0)) hk
theorem i99_20 {v0 v1 v2 v3 : Value} {x : Int32} {st : List Value} {h : ab_Hp} {Q : ab_O → ab_Hp → Prop} : wp 99 20 [v0, v1, v2, v3] (.int x :: st) h Q = if x ≤ 0 then wp 99 25 [v0, v1, v2, v3] st h Q else wp 99 23 [v0, v1, v2, v3] st h Q := wp_ifcP (by decide +kernel : ab_cod 99 20 = some (.ifCond .le 5, 3, 25, 0, 0, 0)) rfl
theorem i99_23 {v0 v1 v2 v3 : Value} {st : List Value} {h : ab_Hp} {Q : ab_O → ab_Hp → Prop} : wp 99 23 [v0, v1, v2, v3] st h Q = wp 99 24 [v0, v1, v2, v3] (.int (nI 0) :: st) h Q := wp_stp (ri := (.iconst 0, 1, 0, 0, 0, 0)) (by decide +kernel) rfl rfl rfl
theorem i99_24 {v0 v1 v2 v3 : Value} {x : Int32} {h : ab_Hp} {Q : ab_O → ab_Hp → Prop} : wp 99 24 [v0, v1, v2, v3] [.int x] h Q = Q (.inl (some (.int x))) h := wp_iret (by decide +kernel : ab_cod 99 24 = some (.ireturn, 1, 0, 0, 0, 0)) rfl
theorem i99_25 {v0 v1 v2 v3 : Value} {st : List Value} {h : ab_Hp} {Q : ab_O → ab_Hp → Prop} (hv : ab_isA v0 = true) : wp 99 25 [v0, v1, v2, v3] st h Q = wp 99 26 [v0, v1, v2, v3] (v0 :: st) h Q := wp_aload_n (by decide +kernel : ab_cod 99 25 = some (.aload_n 0, 1, 0, 0, 0, 0)) hv
theorem i99_26 {v0 v1 v2 v3 : Value} {r : Nat} {st : List Value} {h : ab_Hp} {Q : ab_O → ab_Hp → Prop} (hl : st.length ≤ 4) (hk : (ab_sh h r).1 = 17) : wp 99 26 [v0, v1, v2, v3] (.ref r :: st) h Q = wp 94 0 [.ref r, ab_nov] [] h (ab_K 99 26 [v0, v1, v2, v3] st Q) := wp_callV (as := []) (by decide +kernel : ab_cod 99 26 = some (.invokevirtual 44, 3, 94, 1, 0, 824)) rfl rfl rfl rfl hl hk
theorem i99_29 {v0 v1 v2 v3 : Value} {st : List Value} {h : ab_Hp} {Q : ab_O → ab_Hp → Prop} (hv : ab_isA v0 = true) : wp 99 29 [v0, v1, v2, v3] st h Q = wp 99 30 [v0, v1, v2, v3] (v0 :: st) h Q := wp_aload_n (by decide +kernel : ab_cod 99 29 = some (.aload_n 0, 1, 0, 0, 0, 0)) hv
theorem i99_30 {v0 v2 v3 : Value} {x : Int32} {st : List Value} {h : ab_Hp} {Q : ab_O → ab_Hp → Prop} : wp 99 30 [v0, .int x, v2, v3] st h Q = wp 99 31 [v0, .int x, v2, v3] (.int x :: st) h Q := wp_stp (ri := (.iload_n 1, 1, 0, 0, 0, 0)) (by decide +kernel) rfl rfl rfl
theorem i99_31 {v0 v1 v2 v3 : Value} {st : List Value} {h : ab_Hp} {Q : ab_O → ab_Hp → Prop} : wp 99 31 [v0, v1, v2, v3] st h Q = wp 99 32 [v0, v1, v2, v3] (.int (nI 2) :: st) h Q := wp_stp (ri := (.iconst 2, 1, 0, 0, 0, 0)) (by decide +kernel) rfl rfl rfl
theorem i99_32 {v0 v1 v2 v3 : Value} {r : Nat} {a0 : Int32} {a1 : Int32} {st : List Value} {h : ab_Hp} {Q : ab_O → ab_Hp → Prop} (hl : st.length ≤ 4) (hk : (ab_sh h r).1 = 17) : wp 99 32 [v0, v1, v2, v3] (.int a1 :: .int a0 :: .ref r :: st) h Q = wp 90 0 [.ref r, .int a0, .int a1] [] h (ab_K 99 32 [v0, v1, v2, v3] st Q) := wp_callV (as := [.int a0, .int a1]) (by decide +kernel : ab_cod 99 32 = some (.invokevirtual 47, 3, 90, 3, 0, 828)) rfl rfl rfl rfl hl hk
theorem i99_35 {v0 v1 v2 v3 : Value} {w : Int32} {st : List Value} {h : ab_Hp} {Q : ab_O → ab_Hp → Prop} : wp 99 35 [v0, v1, v2, v3] (.int w :: st) h Q = wp 99 36 [v0, v1, ab_clr v2, .int w] st h Q := wp_stp (ri := (.istore_n 3, 1, 0, 0, 0, 0)) (by decide +kernel) rfl rfl rfl
theorem i99_36 {v0 v1 v2 v3 : Value} {st : List Value} {h : ab_Hp} {Q : ab_O → ab_Hp → Prop} (hv : ab_isA v0 = true) : wp 99 36 [v0, v1, v2, v3] st h Q = wp 99 37 [v0, v1, v2, v3] (v0 :: st) h Q := wp_aload_n (by decide +kernel : ab_cod 99 36 = some (.aload_n 0, 1, 0, 0, 0, 0)) hv
theorem i99_37 {v0 v2 v3 : Value} {x : Int32} {st : List Value} {h : ab_Hp} {Q : ab_O → ab_Hp → Prop} : wp 99 37 [v0, .int x, v2, v3] st h Q = wp 99 38 [v0, .int x, v2, v3] (.int x :: st) h Q := wp_stp (ri := (.iload_n 1, 1, 0, 0, 0, 0)) (by decide +kernel) rfl rfl rfl
theorem i99_38 {v0 v1 v2 v3 : Value} {st : List Value} {h : ab_Hp} {Q : ab_O → ab_Hp → Prop} : wp 99 38 [v0, v1, v2, v3] st h Q = wp 99 39 [v0, v1, v2, v3] (.int (nI 2) :: st) h Q := wp_stp (ri := (.iconst 2, 1, 0, 0, 0, 0)) (by decide +kernel) rfl rfl rfl
theorem i99_39 {v0 v1 v3 : Value} {x : Int32} {st : List Value} {h : ab_Hp} {Q : ab_O → ab_Hp → Prop} : wp 99 39 [v0, v1, .int x, v3] st h Q = wp 99 40 [v0, v1, .int x, v3] (.int x :: st) h Q := wp_stp (ri := (.iload_n 2, 1, 0, 0, 0, 0)) (by decide +kernel) rfl rfl rfl
theorem i99_40 {v0 v1 v2 v3 : Value} {x : Int32} {st : List Value} {h : ab_Hp} {Q : ab_O → ab_Hp → Prop} : wp 99 40 [v0, v1, v2, v3] (.int x :: st) h Q = if x = 0 then wp 99 47 [v0, v1, v2, v3] st h Q else wp 99 43 [v0, v1, v2, v3] st h Q := wp_ifcP (by decide +kernel : ab_cod 99 40 = some (.ifCond .eq 7, 3, 47, 0, 0, 0)) rfl
theorem i99_43 {v0 v1 v2 v3 : Value} {st : List Value} {h : ab_Hp} {Q : ab_O → ab_Hp → Prop} : wp 99 43 [v0, v1, v2, v3] st h Q = wp 99 44 [v0, v1, v2, v3] (.int (nI 1) :: st) h Q := wp_stp (ri := (.iconst 1, 1, 0, 0, 0, 0)) (by decide +kernel) rfl rfl rfl
theorem i99_44 {v0 v1 v2 v3 : Value} {st : List Value} {h : ab_Hp} {Q : ab_O → ab_Hp → Prop} : wp 99 44 [v0, v1, v2, v3] st h Q = wp 99 48 [v0, v1, v2, v3] st h Q := wp_stp (ri := (.goto 4, 3, 48, 0, 0, 0)) (by decide +kernel) rfl rfl rfl
theorem i99_47 {v0 v1 v2 v3 : Value} {st : List Value} {h : ab_Hp} {Q : ab_O → ab_Hp → Prop} : wp 99 47 [v0, v1, v2, v3] st h Q = wp 99 48 [v0, v1, v2, v3] (.int (nI 0) :: st) h Q := wp_stp (ri := (.iconst 0, 1, 0, 0, 0, 0)) (by decide +kernel) rfl rfl rfl
theorem i99_48 {v0 v1 v2 v3 : Value} {r : Nat} {a0 : Int32} {a1 : Int32} {a2 : Int32} {st : List Value} {h : ab_Hp} {Q : ab_O → ab_Hp → Prop} (hl : st.length ≤ 4) (hk : (ab_sh h r).1 = 17) : wp 99 48 [v0, v1, v2, v3] (.int a2 :: .int a1 :: .int a0 :: .ref r :: st) h Q = wp 91 0 [.ref r, .int a0, .int a1, .int a2] [] h (ab_K 99 48 [v0, v1, v2, v3] st Q) := wp_callV (as := [.int a0, .int a1, .int a2]) (by decide +kernel : ab_cod 99 48 = some (.invokevirtual 25, 3, 91, 4, 0, 768)) rfl rfl rfl rfl hl hk
theorem i99_51 {v0 v1 v2 : Value} {x : Int32} {st : List Value} {h : ab_Hp} {Q : ab_O → ab_Hp → Prop} : wp 99 51 [v0, v1, v2, .int x] st h Q = wp 99 52 [v0, v1, v2, .int x] (.int x :: st) h Q := wp_stp (ri := (.iload_n 3, 1, 0, 0, 0, 0)) (by decide +kernel) rfl rfl rfl
theorem i99_52 {v0 v1 v2 v3 : Value} {x : Int32} {h : ab_Hp} {Q : ab_O → ab_Hp → Prop} : wp 99 52 [v0, v1, v2, v3] [.int x] h Q = Q (.inl (some (.int x))) h := wp_iret (by decide +kernel : ab_cod 99 52 = some (.ireturn, 1, 0, 0, 0, 0)) rfl
/-! 100: SeamBeatsModel.lose(II)I -/
set_option maxRecDepth 100000 in
theorem i100_0 {v0 v1 v2 : Value} {st : List Value} {h : ab_Hp} {Q : ab_O → ab_Hp → Prop} (hv : ab_isA v0 = true) : wp 100 0 [v0, v1, v2] st h Q = wp 100 1 [v0, v1, v2] (v0 :: st) h Q := wp_aload_n (by decide +kernel : ab_cod 100 0 = some (.aload_n 0, 1, 0, 0, 0, 0)) hv
set_option maxRecDepth 100000 in
theorem i100_1 {v0 v2 : Value} {x : Int32} {st : List Value} {h : ab_Hp} {Q : ab_O → ab_Hp → Prop} : wp 100 1 [v0, .int x, v2] st h Q = wp 100 2 [v0, .int x, v2] (.int x :: st) h Q := wp_stp (ri := (.iload_n 1, 1, 0, 0, 0, 0)) (by decide +kernel) rfl rfl rfl
set_option maxRecDepth 100000 in
theorem i100_2 {v0 v1 v2 : Value} {a0 : Int32} {st : List Value} {h : ab_Hp} {Q : ab_O → ab_Hp → Prop} (hl : st.length ≤ 4) : wp 100 2 [v0, v1, v2] (.int a0 :: st) h Q = wp 88 0 [.int a0] [] h (ab_K 100 2 [v0, v1, v2] st Q) := wp_callS (as := [.int a0]) (by decide +kernel : ab_cod 100 2 = some (.invokestatic 40, 3, 88, 1, 1, 818)) rfl rfl rfl rfl hl
set_option maxRecDepth 100000 in
theorem i100_5 {v0 v1 v2 : Value} {x : Int32} {st : List Value} {h : ab_Hp} {Q : ab_O → ab_Hp → Prop} : wp 100 5 [v0, v1, v2] (.int x :: st) h Q = if ¬ x = 0 then wp 100 12 [v0, v1, v2] st h Q else wp 100 8 [v0, v1, v2] st h Q := wp_ifcP (by decide +kernel : ab_cod 100 5 = some (.ifCond .ne 7, 3, 12, 0, 0, 0)) rfl
set_option maxRecDepth 100000 in
theorem i100_8 {v0 v1 v2 : Value} {st : List Value} {h : ab_Hp} {Q : ab_O → ab_Hp → Prop} : wp 100 8 [v0, v1, v2] st h Q = wp 100 9 [v0, v1, v2] (.int (nI 1) :: st) h Q := wp_stp (ri := (.iconst 1, 1, 0, 0, 0, 0)) (by decide +kernel) rfl rfl rfl
set_option maxRecDepth 100000 in
theorem i100_9 {v0 v1 v2 : Value} {st : List Value} {h : ab_Hp} {Q : ab_O → ab_Hp → Prop} : wp 100 9 [v0, v1, v2] st h Q = wp 100 44 [v0, v1, v2] st h Q := wp_stp (ri := (.goto 35, 3, 44, 0, 0, 0)) (by decide +kernel) rfl rfl rfl
set_option maxRecDepth 100000 in
theorem i100_12 {v0 v1 : Value} {x : Int32} {st : List Value} {h : ab_Hp} {Q : ab_O → ab_Hp → Prop} : wp 100 12 [v0, v1, .int x] st h Q = wp 100 13 [v0, v1, .int x] (.int x :: st) h Q := wp_stp (ri := (.iload_n 2, 1, 0, 0, 0, 0)) (by decide +kernel) rfl rfl rfl
set_option maxRecDepth 100000 in
theorem i100_13 {v0 v1 v2 : Value} {st : List Value} {h : ab_Hp} {Q : ab_O → ab_Hp → Prop} : wp 100 13 [v0, v1, v2] st h Q = wp 100 14 [v0, v1, v2] (.int (nI 1) :: st) h Q := wp_stp (ri := (.iconst 1, 1, 0, 0, 0, 0)) (by decide +kernel) rfl rfl rfl
set_option maxRecDepth 100000 in
theorem i100_14 {v0 v1 v2 : Value} {st : List Value} {h : ab_Hp} {Q : ab_O → ab_Hp → Prop} : wp 100 14 [v0, v1, v2] st h Q = wp 100 16 [v0, v1, v2] (.int (nI 20) :: st) h Q := wp_stp (ri := (.bipush 20, 2, 0, 0, 0, 0)) (by decide +kernel) rfl rfl rfl
set_option maxRecDepth 100000 in
theorem i100_16 {v0 v1 v2 : Value} {a0 : Int32} {a1 : Int32} {a2 : Int32} {st : List Value} {h : ab_Hp} {Q : ab_O → ab_Hp → Prop} (hl : st.length ≤ 4) : wp 100 16 [v0, v1, v2] (.int a2 :: .int a1 :: .int a0 :: st) h Q = wp 87 0 [.int a0, .int a1, .int a2] [] h (ab_K 100 16 [v0, v1, v2] st Q) := wp_callS (as := [.int a0, .int a1, .int a2]) (by decide +kernel : ab_cod 100 16 = some (.invokestatic 33, 3, 87, 3, 1, 821)) rfl rfl rfl rfl hl
set_option maxRecDepth 100000 in
theorem i100_19 {v0 v1 v2 : Value} {x : Int32} {st : List Value} {h : ab_Hp} {Q : ab_O → ab_Hp → Prop} : wp 100 19 [v0, v1, v2] (.int x :: st) h Q = if ¬ x = 0 then wp 100 26 [v0, v1, v2] st h Q else wp 100 22 [v0, v1, v2] st h Q := wp_ifcP (by decide +kernel : ab_cod 100 19 = some (.ifCond .ne 7, 3, 26, 0, 0, 0)) rfl
set_option maxRecDepth 100000 in
theorem i100_22 {v0 v1 v2 : Value} {st : List Value} {h : ab_Hp} {Q : ab_O → ab_Hp → Prop} : wp 100 22 [v0, v1, v2] st h Q = wp 100 23 [v0, v1, v2] (.int (nI 2) :: st) h Q := wp_stp (ri := (.iconst 2, 1, 0, 0, 0, 0)) (by decide +kernel) rfl rfl rfl
set_option maxRecDepth 100000 in
theorem i100_23 {v0 v1 v2 : Value} {st : List Value} {h : ab_Hp} {Q : ab_O → ab_Hp → Prop} : wp 100 23 [v0, v1, v2] st h Q = wp 100 44 [v0, v1, v2] st h Q := wp_stp (ri := (.goto 21, 3, 44, 0, 0, 0)) (by decide +kernel) rfl rfl rfl
set_option maxRecDepth 100000 in
theorem i100_26 {v0 v1 v2 : Value} {st : List Value} {h : ab_Hp} {Q : ab_O → ab_Hp → Prop} (hv : ab_isA v0 = true) : wp 100 26 [v0, v1, v2] st h Q = wp 100 27 [v0, v1, v2] (v0 :: st) h Q := wp_aload_n (by decide +kernel : ab_cod 100 26 = some (.aload_n 0, 1, 0, 0, 0, 0)) hv
set_option maxRecDepth 100000 in
theorem i100_27 {v0 v2 : Value} {x : Int32} {st : List Value} {h : ab_Hp} {Q : ab_O → ab_Hp → Prop} : wp 100 27 [v0, .int x, v2] st h Q = wp 100 28 [v0, .int x, v2] (.int x :: st) h Q := wp_stp (ri := (.iload_n 1, 1, 0, 0, 0, 0)) (by decide +kernel) rfl rfl rfl
set_option maxRecDepth 100000 in
theorem i100_28 {v0 v1 v2 : Value} {st : List Value} {h : ab_Hp} {Q : ab_O → ab_Hp → Prop} : wp 100 28 [v0, v1, v2] st h Q = wp 100 29 [v0, v1, v2] (.int (nI 5) :: st) h Q := wp_stp (ri := (.iconst 5, 1, 0, 0, 0, 0)) (by decide +kernel) rfl rfl rfl
set_option maxRecDepth 100000 in
theorem i100_29 {v0 v1 v2 : Value} {r : Nat} {a0 : Int32} {a1 : Int32} {st : List Value} {h : ab_Hp} {Q : ab_O → ab_Hp → Prop} (hl : st.length ≤ 4) (hk : (ab_sh h r).1 = 17) : wp 100 29 [v0, v1, v2] (.int a1 :: .int a0 :: .ref r :: st) h Q = wp 90 0 [.ref r, .int a0, .int a1] [] h (ab_K 100 29 [v0, v1, v2] st Q) := wp_callV (as := [.int a0, .int a1]) (by decide +kernel : ab_cod 100 29 = some (.invokevirtual 47, 3, 90, 3, 0, 828)) rfl rfl rfl rfl hl hk
set_option maxRecDepth 100000 in
theorem i100_32 {v0 v1 : Value} {x : Int32} {st : List Value} {h : ab_Hp} {Q : ab_O → ab_Hp → Prop} : wp 100 32 [v0, v1, .int x] st h Q = wp 100 33 [v0, v1, .int x] (.int x :: st) h Q := wp_stp (ri := (.iload_n 2, 1, 0, 0, 0, 0)) (by decide +kernel) rfl rfl rfl
set_option maxRecDepth 100000 in
theorem i100_33 {v0 v1 v2 : Value} {x y : Int32} {st : List Value} {h : ab_Hp} {Q : ab_O → ab_Hp → Prop} : wp 100 33 [v0, v1, v2] (.int y :: .int x :: st) h Q = wp 100 34 [v0, v1, v2] (.int (x + y) :: st) h Q := wp_stp (ri := (.iadd, 1, 0, 0, 0, 0)) (by decide +kernel) rfl rfl rfl
set_option maxRecDepth 100000 in
theorem i100_34 {v0 v1 v2 : Value} {st : List Value} {h : ab_Hp} {Q : ab_O → ab_Hp → Prop} : wp 100 34 [v0, v1, v2] st h Q = wp 100 36 [v0, v1, v2] (.int (nI 99) :: st) h Q := wp_stp (ri := (.bipush 99, 2, 0, 0, 0, 0)) (by decide +kernel) rfl rfl rfl
set_option maxRecDepth 100000 in
theorem i100_36 {v0 v1 v2 : Value} {x y : Int32} {st : List Value} {h : ab_Hp} {Q : ab_O → ab_Hp → Prop} : wp 100 36 [v0, v1, v2] (.int y :: .int x :: st) h Q = if x ≤ y then wp 100 43 [v0, v1, v2] st h Q else wp 100 39 [v0, v1, v2] st h Q := wp_icmpP (by decide +kernel : ab_cod 100 36 = some (.if_icmp .le 7, 3, 43, 0, 0, 0)) rfl
set_option maxRecDepth 100000 in
theorem i100_39 {v0 v1 v2 : Value} {st : List Value} {h : ab_Hp} {Q : ab_O → ab_Hp → Prop} : wp 100 39 [v0, v1, v2] st h Q = wp 100 40 [v0, v1, v2] (.int (nI 3) :: st) h Q := wp_stp (ri := (.iconst 3, 1, 0, 0, 0, 0)) (by decide +kernel) rfl rfl rfl
set_option maxRecDepth 100000 in
theorem i100_40 {v0 v1 v2 : Value} {st : List Value} {h : ab_Hp} {Q : ab_O → ab_Hp → Prop} : wp 100 40 [v0, v1, v2] st h Q = wp 100 44 [v0, v1, v2] st h Q := wp_stp (ri := (.goto 4, 3, 44, 0, 0, 0)) (by decide +kernel) rfl rfl rfl
set_option maxRecDepth 100000 in
theorem i100_43 {v0 v1 v2 : Value} {st : List Value} {h : ab_Hp} {Q : ab_O → ab_Hp → Prop} : wp 100 43 [v0, v1, v2] st h Q = wp 100 44 [v0, v1, v2] (.int (nI 0) :: st) h Q := wp_stp (ri := (.iconst 0, 1, 0, 0, 0, 0)) (by decide +kernel) rfl rfl rfl
set_option maxRecDepth 100000 in
theorem i100_44 {v0 v1 v2 : Value} {r : Nat} {x : Int32} {st : List Value} {h : ab_Hp} {Q : ab_O → ab_Hp → Prop} (hk : (ab_sh h r).1 = 17) : wp 100 44 [v0, v1, v2] (.int x :: .ref r :: st) h Q = wp 100 47 [v0, v1, v2] st (ab_setI h (ab_u (ab_hi h) r 0 x)) Q := wp_pf (by decide +kernel : ab_cod 100 44 = some (.putfield 29, 3, 7, 0, 772, 0)) hk rfl
set_option maxRecDepth 100000 in
theorem i100_47 {v0 v1 v2 : Value} {st : List Value} {h : ab_Hp} {Q : ab_O → ab_Hp → Prop} (hv : ab_isA v0 = true) : wp 100 47 [v0, v1, v2] st h Q = wp 100 48 [v0, v1, v2] (v0 :: st) h Q := wp_aload_n (by decide +kernel : ab_cod 100 47 = some (.aload_n 0, 1, 0, 0, 0, 0)) hv
set_option maxRecDepth 100000 in
theorem i100_48 {v0 v1 v2 : Value} {r : Nat} {st : List Value} {h : ab_Hp} {Q : ab_O → ab_Hp → Prop} (hk : (ab_sh h r).1 = 17) : wp 100 48 [v0, v1, v2] (.ref r :: st) h Q = wp 100 51 [v0, v1, v2] (.int (ab_hi h r 0) :: st) h Q := wp_gf (by decide +kernel : ab_cod 100 48 = some (.getfield 29, 3, 7, 0, 772, 0)) hk
set_option maxRecDepth 100000 in
theorem i100_51 {v0 v1 v2 : Value} {x : Int32} {st : List Value} {h : ab_Hp} {Q : ab_O → ab_Hp → Prop} : wp 100 51 [v0, v1, v2] (.int x :: st) h Q = if x ≤ 0 then wp 100 56 [v0, v1, v2] st h Q else wp 100 54 [v0, v1, v2] st h Q := wp_ifcP (by decide +kernel : ab_cod 100 51 = some (.ifCond .le 5, 3, 56, 0, 0, 0)) rfl
set_option maxRecDepth 100000 in
theorem i100_54 {v0 v1 v2 : Value} {st : List Value} {h : ab_Hp} {Q : ab_O → ab_Hp → Prop} : wp 100 54 [v0, v1, v2] st h Q = wp 100 55 [v0, v1, v2] (.int (nI 0) :: st) h Q := wp_stp (ri := (.iconst 0, 1, 0, 0, 0, 0)) (by decide +kernel) rfl rfl rfl
set_option maxRecDepth 100000 in
theorem i100_55 {v0 v1 v2 : Value} {x : Int32} {h : ab_Hp} {Q : ab_O → ab_Hp → Prop} : wp 100 55 [v0, v1, v2] [.int x] h Q = Q (.inl (some (.int x))) h := wp_iret (by decide +kernel : ab_cod 100 55 = some (.ireturn, 1, 0, 0, 0, 0)) rfl
set_option maxRecDepth 100000 in
theorem i100_56 {v0 v1 v2 : Value} {st : List Value} {h : ab_Hp} {Q : ab_O → ab_Hp → Prop} (hv : ab_isA v0 = true) : wp 100 56 [v0, v1, v2] st h Q = wp 100 57 [v0, v1, v2] (v0 :: st) h Q := wp_aload_n (by decide +kernel : ab_cod 100 56 = some (.aload_n 0, 1, 0, 0, 0, 0)) hv
set_option maxRecDepth 100000 in
theorem i100_57 {v0 v1 v2 : Value} {r : Nat} {st : List Value} {h : ab_Hp} {Q : ab_O → ab_Hp → Prop} (hl : st.length ≤ 4) (hk : (ab_sh h r).1 = 17) : wp 100 57 [v0, v1, v2] (.ref r :: st) h Q = wp 94 0 [.ref r, ab_nov] [] h (ab_K 100 57 [v0, v1, v2] st Q) := wp_callV (as := []) (by decide +kernel : ab_cod 100 57 = some (.invokevirtual 44, 3, 94, 1, 0, 824)) rfl rfl rfl rfl hl hk
set_option maxRecDepth 100000 in
theorem i100_60 {v0 v1 v2 : Value} {st : List Value} {h : ab_Hp} {Q : ab_O → ab_Hp → Prop} (hv : ab_isA v0 = true) : wp 100 60 [v0, v1, v2] st h Q = wp 100 61 [v0, v1, v2] (v0 :: st) h Q := wp_aload_n (by decide +kernel : ab_cod 100 60 = some (.aload_n 0, 1, 0, 0, 0, 0)) hv
set_option maxRecDepth 100000 in
theorem i100_61 {v0 v2 : Value} {x : Int32} {st : List Value} {h : ab_Hp} {Q : ab_O → ab_Hp → Prop} : wp 100 61 [v0, .int x, v2] st h Q = wp 100 62 [v0, .int x, v2] (.int x :: st) h Q := wp_stp (ri := (.iload_n 1, 1, 0, 0, 0, 0)) (by decide +kernel) rfl rfl rfl
set_option maxRecDepth 100000 in
theorem i100_62 {v0 v1 v2 : Value} {st : List Value} {h : ab_Hp} {Q : ab_O → ab_Hp → Prop} : wp 100 62 [v0, v1, v2] st h Q = wp 100 63 [v0, v1, v2] (.int (nI 5) :: st) h Q := wp_stp (ri := (.iconst 5, 1, 0, 0, 0, 0)) (by decide +kernel) rfl rfl rfl
set_option maxRecDepth 100000 in
theorem i100_63 {v0 v1 v2 : Value} {st : List Value} {h : ab_Hp} {Q : ab_O → ab_Hp → Prop} (hv : ab_isA v0 = true) : wp 100 63 [v0, v1, v2] st h Q = wp 100 64 [v0, v1, v2] (v0 :: st) h Q := wp_aload_n (by decide +kernel : ab_cod 100 63 = some (.aload_n 0, 1, 0, 0, 0, 0)) hv
set_option maxRecDepth 100000 in
theorem i100_64 {v0 v2 : Value} {x : Int32} {st : List Value} {h : ab_Hp} {Q : ab_O → ab_Hp → Prop} : wp 100 64 [v0, .int x, v2] st h Q = wp 100 65 [v0, .int x, v2] (.int x :: st) h Q := wp_stp (ri := (.iload_n 1, 1, 0, 0, 0, 0)) (by decide +kernel) rfl rfl rfl
set_option maxRecDepth 100000 in
theorem i100_65 {v0 v1 v2 : Value} {st : List Value} {h : ab_Hp} {Q : ab_O → ab_Hp → Prop} : wp 100 65 [v0, v1, v2] st h Q = wp 100 66 [v0, v1, v2] (.int (nI 5) :: st) h Q := wp_stp (ri := (.iconst 5, 1, 0, 0, 0, 0)) (by decide +kernel) rfl rfl rfl
set_option maxRecDepth 100000 in
theorem i100_66 {v0 v1 v2 : Value} {r : Nat} {a0 : Int32} {a1 : Int32} {st : List Value} {h : ab_Hp} {Q : ab_O → ab_Hp → Prop} (hl : st.length ≤ 4) (hk : (ab_sh h r).1 = 17) : wp 100 66 [v0, v1, v2] (.int a1 :: .int a0 :: .ref r :: st) h Q = wp 90 0 [.ref r, .int a0, .int a1] [] h (ab_K 100 66 [v0, v1, v2] st Q) := wp_callV (as := [.int a0, .int a1]) (by decide +kernel : ab_cod 100 66 = some (.invokevirtual 47, 3, 90, 3, 0, 828)) rfl rfl rfl rfl hl hk
set_option maxRecDepth 100000 in
theorem i100_69 {v0 v1 : Value} {x : Int32} {st : List Value} {h : ab_Hp} {Q : ab_O → ab_Hp → Prop} : wp 100 69 [v0, v1, .int x] st h Q = wp 100 70 [v0, v1, .int x] (.int x :: st) h Q := wp_stp (ri := (.iload_n 2, 1, 0, 0, 0, 0)) (by decide +kernel) rfl rfl rfl
set_option maxRecDepth 100000 in
theorem i100_70 {v0 v1 v2 : Value} {x y : Int32} {st : List Value} {h : ab_Hp} {Q : ab_O → ab_Hp → Prop} : wp 100 70 [v0, v1, v2] (.int y :: .int x :: st) h Q = wp 100 71 [v0, v1, v2] (.int (x + y) :: st) h Q := wp_stp (ri := (.iadd, 1, 0, 0, 0, 0)) (by decide +kernel) rfl rfl rfl
set_option maxRecDepth 100000 in
theorem i100_71 {v0 v1 v2 : Value} {r : Nat} {a0 : Int32} {a1 : Int32} {a2 : Int32} {st : List Value} {h : ab_Hp} {Q : ab_O → ab_Hp → Prop} (hl : st.length ≤ 4) (hk : (ab_sh h r).1 = 17) : wp 100 71 [v0, v1, v2] (.int a2 :: .int a1 :: .int a0 :: .ref r :: st) h Q = wp 91 0 [.ref r, .int a0, .int a1, .int a2] [] h (ab_K 100 71 [v0, v1, v2] st Q) := wp_callV (as := [.int a0, .int a1, .int a2]) (by decide +kernel : ab_cod 100 71 = some (.invokevirtual 25, 3, 91, 4, 0, 768)) rfl rfl rfl rfl hl hk
set_option maxRecDepth 100000 in
theorem i100_74 {v0 v1 v2 : Value} {st : List Value} {h : ab_Hp} {Q : ab_O → ab_Hp → Prop} (hv : ab_isA v0 = true) : wp 100 74 [v0, v1, v2] st h Q = wp 100 75 [v0, v1, v2] (v0 :: st) h Q := wp_aload_n (by decide +kernel : ab_cod 100 74 = some (.aload_n 0, 1, 0, 0, 0, 0)) hv
set_option maxRecDepth 100000 in
theorem i100_75 {v0 v2 : Value} {x : Int32} {st : List Value} {h : ab_Hp} {Q : ab_O → ab_Hp → Prop} : wp 100 75 [v0, .int x, v2] st h Q = wp 100 76 [v0, .int x, v2] (.int x :: st) h Q := wp_stp (ri := (.iload_n 1, 1, 0, 0, 0, 0)) (by decide +kernel) rfl rfl rfl
set_option maxRecDepth 100000 in
theorem i100_76 {v0 v1 v2 : Value} {st : List Value} {h : ab_Hp} {Q : ab_O → ab_Hp → Prop} : wp 100 76 [v0, v1, v2] st h Q = wp 100 77 [v0, v1, v2] (.int (nI 5) :: st) h Q := wp_stp (ri := (.iconst 5, 1, 0, 0, 0, 0)) (by decide +kernel) rfl rfl rfl
set_option maxRecDepth 100000 in
theorem i100_77 {v0 v1 v2 : Value} {r : Nat} {a0 : Int32} {a1 : Int32} {st : List Value} {h : ab_Hp} {Q : ab_O → ab_Hp → Prop} (hl : st.length ≤ 4) (hk : (ab_sh h r).1 = 17) : wp 100 77 [v0, v1, v2] (.int a1 :: .int a0 :: .ref r :: st) h Q = wp 90 0 [.ref r, .int a0, .int a1] [] h (ab_K 100 77 [v0, v1, v2] st Q) := wp_callV (as := [.int a0, .int a1]) (by decide +kernel : ab_cod 100 77 = some (.invokevirtual 47, 3, 90, 3, 0, 828)) rfl rfl rfl rfl hl hk
set_option maxRecDepth 100000 in
theorem i100_80 {v0 v1 v2 : Value} {x : Int32} {h : ab_Hp} {Q : ab_O → ab_Hp → Prop} : wp 100 80 [v0, v1, v2] [.int x] h Q = Q (.inl (some (.int x))) h := wp_iret (by decide +kernel : ab_cod 100 80 = some (.ireturn, 1, 0, 0, 0, 0)) rfl
/-! 101: SeamBeatsModel.whyNoSeam(IIII)I -/
theorem i101_0 {v0 v2 v3 v4 v5 : Value} {x : Int32} {st : List Value} {h : ab_Hp} {Q : ab_O → ab_Hp → Prop} : wp 101 0 [v0, .int x, v2, v3, v4, v5] st h Q = wp 101 1 [v0, .int x, v2, v3, v4, v5] (.int x :: st) h Q := wp_stp (ri := (.iload_n 1, 1, 0, 0, 0, 0)) (by decide +kernel) rfl rfl rfl
theorem i101_1 {v0 v1 v2 v3 v4 v5 : Value} {a0 : Int32} {st : List Value} {h : ab_Hp} {Q : ab_O → ab_Hp → Prop} (hl : st.length ≤ 4) : wp 101 1 [v0, v1, v2, v3, v4, v5] (.int a0 :: st) h Q = wp 88 0 [.int a0] [] h (ab_K 101 1 [v0, v1, v2, v3, v4, v5] st Q) := wp_callS (as := [.int a0]) (by decide +kernel : ab_cod 101 1 = some (.invokestatic 40, 3, 88, 1, 1, 818)) rfl rfl rfl rfl hl
theorem i101_4 {v0 v1 v2 v3 v4 v5 : Value} {x : Int32} {st : List Value} {h : ab_Hp} {Q : ab_O → ab_Hp → Prop} : wp 101 4 [v0, v1, v2, v3, v4, v5] (.int x :: st) h Q = if x = 0 then wp 101 14 [v0, v1, v2, v3, v4, v5] st h Q else wp 101 7 [v0, v1, v2, v3, v4, v5] st h Q := wp_ifcP (by decide +kernel : ab_cod 101 4 = some (.ifCond .eq 10, 3, 14, 0, 0, 0)) rfl
theorem i101_7 {v0 v1 v3 v4 v5 : Value} {x : Int32} {st : List Value} {h : ab_Hp} {Q : ab_O → ab_Hp → Prop} : wp 101 7 [v0, v1, .int x, v3, v4, v5] st h Q = wp 101 8 [v0, v1, .int x, v3, v4, v5] (.int x :: st) h Q := wp_stp (ri := (.iload_n 2, 1, 0, 0, 0, 0)) (by decide +kernel) rfl rfl rfl
theorem i101_8 {v0 v1 v2 v3 v4 v5 : Value} {a0 : Int32} {st : List Value} {h : ab_Hp} {Q : ab_O → ab_Hp → Prop} (hl : st.length ≤ 4) : wp 101 8 [v0, v1, v2, v3, v4, v5] (.int a0 :: st) h Q = wp 88 0 [.int a0] [] h (ab_K 101 8 [v0, v1, v2, v3, v4, v5] st Q) := wp_callS (as := [.int a0]) (by decide +kernel : ab_cod 101 8 = some (.invokestatic 40, 3, 88, 1, 1, 818)) rfl rfl rfl rfl hl
theorem i101_11 {v0 v1 v2 v3 v4 v5 : Value} {x : Int32} {st : List Value} {h : ab_Hp} {Q : ab_O → ab_Hp → Prop} : wp 101 11 [v0, v1, v2, v3, v4, v5] (.int x :: st) h Q = if ¬ x = 0 then wp 101 16 [v0, v1, v2, v3, v4, v5] st h Q else wp 101 14 [v0, v1, v2, v3, v4, v5] st h Q := wp_ifcP (by decide +kernel : ab_cod 101 11 = some (.ifCond .ne 5, 3, 16, 0, 0, 0)) rfl
theorem i101_14 {v0 v1 v2 v3 v4 v5 : Value} {st : List Value} {h : ab_Hp} {Q : ab_O → ab_Hp → Prop} : wp 101 14 [v0, v1, v2, v3, v4, v5] st h Q = wp 101 15 [v0, v1, v2, v3, v4, v5] (.int (nI 1) :: st) h Q := wp_stp (ri := (.iconst 1, 1, 0, 0, 0, 0)) (by decide +kernel) rfl rfl rfl
theorem i101_15 {v0 v1 v2 v3 v4 v5 : Value} {x : Int32} {h : ab_Hp} {Q : ab_O → ab_Hp → Prop} : wp 101 15 [v0, v1, v2, v3, v4, v5] [.int x] h Q = Q (.inl (some (.int x))) h := wp_iret (by decide +kernel : ab_cod 101 15 = some (.ireturn, 1, 0, 0, 0, 0)) rfl
theorem i101_16 {v0 v2 v3 v4 v5 : Value} {x : Int32} {st : List Value} {h : ab_Hp} {Q : ab_O → ab_Hp → Prop} : wp 101 16 [v0, .int x, v2, v3, v4, v5] st h Q = wp 101 17 [v0, .int x, v2, v3, v4, v5] (.int x :: st) h Q := wp_stp (ri := (.iload_n 1, 1, 0, 0, 0, 0)) (by decide +kernel) rfl rfl rfl
theorem i101_17 {v0 v1 v3 v4 v5 : Value} {x : Int32} {st : List Value} {h : ab_Hp} {Q : ab_O → ab_Hp → Prop} : wp 101 17 [v0, v1, .int x, v3, v4, v5] st h Q = wp 101 18 [v0, v1, .int x, v3, v4, v5] (.int x :: st) h Q := wp_stp (ri := (.iload_n 2, 1, 0, 0, 0, 0)) (by decide +kernel) rfl rfl rfl
theorem i101_18 {v0 v1 v2 v3 v4 v5 : Value} {x y : Int32} {st : List Value} {h : ab_Hp} {Q : ab_O → ab_Hp → Prop} : wp 101 18 [v0, v1, v2, v3, v4, v5] (.int y :: .int x :: st) h Q = if x = y then wp 101 45 [v0, v1, v2, v3, v4, v5] st h Q else wp 101 21 [v0, v1, v2, v3, v4, v5] st h Q := wp_icmpP (by decide +kernel : ab_cod 101 18 = some (.if_icmp .eq 27, 3, 45, 0, 0, 0)) rfl
theorem i101_21 {v0 v1 v2 v4 v5 : Value} {x : Int32} {st : List Value} {h : ab_Hp} {Q : ab_O → ab_Hp → Prop} : wp 101 21 [v0, v1, v2, .int x, v4, v5] st h Q = wp 101 22 [v0, v1, v2, .int x, v4, v5] (.int x :: st) h Q := wp_stp (ri := (.iload_n 3, 1, 0, 0, 0, 0)) (by decide +kernel) rfl rfl rfl
theorem i101_22 {v0 v1 v2 v3 v4 v5 : Value} {st : List Value} {h : ab_Hp} {Q : ab_O → ab_Hp → Prop} : wp 101 22 [v0, v1, v2, v3, v4, v5] st h Q = wp 101 23 [v0, v1, v2, v3, v4, v5] (.int (nI 1) :: st) h Q := wp_stp (ri := (.iconst 1, 1, 0, 0, 0, 0)) (by decide +kernel) rfl rfl rfl
theorem i101_23 {v0 v1 v2 v3 v4 v5 : Value} {st : List Value} {h : ab_Hp} {Q : ab_O → ab_Hp → Prop} : wp 101 23 [v0, v1, v2, v3, v4, v5] st h Q = wp 101 25 [v0, v1, v2, v3, v4, v5] (.int (nI 6) :: st) h Q := wp_stp (ri := (.bipush 6, 2, 0, 0, 0, 0)) (by decide +kernel) rfl rfl rfl
theorem i101_25 {v0 v1 v2 v3 v4 v5 : Value} {a0 : Int32} {a1 : Int32} {a2 : Int32} {st : List Value} {h : ab_Hp} {Q : ab_O → ab_Hp → Prop} (hl : st.length ≤ 4) : wp 101 25 [v0, v1, v2, v3, v4, v5] (.int a2 :: .int a1 :: .int a0 :: st) h Q = wp 87 0 [.int a0, .int a1, .int a2] [] h (ab_K 101 25 [v0, v1, v2, v3, v4, v5] st Q) := wp_callS (as := [.int a0, .int a1, .int a2]) (by decide +kernel : ab_cod 101 25 = some (.invokestatic 33, 3, 87, 3, 1, 821)) rfl rfl rfl rfl hl
theorem i101_28 {v0 v1 v2 v3 v4 v5 : Value} {x : Int32} {st : List Value} {h : ab_Hp} {Q : ab_O → ab_Hp → Prop} : wp 101 28 [v0, v1, v2, v3, v4, v5] (.int x :: st) h Q = if x = 0 then wp 101 45 [v0, v1, v2, v3, v4, v5] st h Q else wp 101 31 [v0, v1, v2, v3, v4, v5] st h Q := wp_ifcP (by decide +kernel : ab_cod 101 28 = some (.ifCond .eq 17, 3, 45, 0, 0, 0)) rfl
theorem i101_31 {v0 v1 v2 v3 v5 : Value} {x : Int32} {st : List Value} {h : ab_Hp} {Q : ab_O → ab_Hp → Prop} : wp 101 31 [v0, v1, v2, v3, .int x, v5] st h Q = wp 101 33 [v0, v1, v2, v3, .int x, v5] (.int x :: st) h Q := wp_stp (ri := (.iload 4, 2, 0, 0, 0, 0)) (by decide +kernel) rfl rfl rfl
theorem i101_33 {v0 v1 v2 v3 v4 v5 : Value} {st : List Value} {h : ab_Hp} {Q : ab_O → ab_Hp → Prop} : wp 101 33 [v0, v1, v2, v3, v4, v5] st h Q = wp 101 34 [v0, v1, v2, v3, v4, v5] (.int (nI 1) :: st) h Q := wp_stp (ri := (.iconst 1, 1, 0, 0, 0, 0)) (by decide +kernel) rfl rfl rfl
theorem i101_34 {v0 v1 v2 v3 v4 v5 : Value} {st : List Value} {h : ab_Hp} {Q : ab_O → ab_Hp → Prop} : wp 101 34 [v0, v1, v2, v3, v4, v5] st h Q = wp 101 35 [v0, v1, v2, v3, v4, v5] (.int (nI 3) :: st) h Q := wp_stp (ri := (.iconst 3, 1, 0, 0, 0, 0)) (by decide +kernel) rfl rfl rfl
theorem i101_35 {v0 v1 v2 v3 v4 v5 : Value} {a0 : Int32} {a1 : Int32} {a2 : Int32} {st : List Value} {h : ab_Hp} {Q : ab_O → ab_Hp → Prop} (hl : st.length ≤ 4) : wp 101 35 [v0, v1, v2, v3, v4, v5] (.int a2 :: .int a1 :: .int a0 :: st) h Q = wp 87 0 [.int a0, .int a1, .int a2] [] h (ab_K 101 35 [v0, v1, v2, v3, v4, v5] st Q) := wp_callS (as := [.int a0, .int a1, .int a2]) (by decide +kernel : ab_cod 101 35 = some (.invokestatic 33, 3, 87, 3, 1, 821)) rfl rfl rfl rfl hl
theorem i101_38 {v0 v1 v2 v3 v4 v5 : Value} {x : Int32} {st : List Value} {h : ab_Hp} {Q : ab_O → ab_Hp → Prop} : wp 101 38 [v0, v1, v2, v3, v4, v5] (.int x :: st) h Q = if x = 0 then wp 101 45 [v0, v1, v2, v3, v4, v5] st h Q else wp 101 41 [v0, v1, v2, v3, v4, v5] st h Q := wp_ifcP (by decide +kernel : ab_cod 101 38 = some (.ifCond .eq 7, 3, 45, 0, 0, 0)) rfl
theorem i101_41 {v0 v1 v2 v3 v4 v5 : Value} {st : List Value} {h : ab_Hp} {Q : ab_O → ab_Hp → Prop} : wp 101 41 [v0, v1, v2, v3, v4, v5] st h Q = wp 101 42 [v0, v1, v2, v3, v4, v5] (.int (nI 1) :: st) h Q := wp_stp (ri := (.iconst 1, 1, 0, 0, 0, 0)) (by decide +kernel) rfl rfl rfl
theorem i101_42 {v0 v1 v2 v3 v4 v5 : Value} {st : List Value} {h : ab_Hp} {Q : ab_O → ab_Hp → Prop} : wp 101 42 [v0, v1, v2, v3, v4, v5] st h Q = wp 101 46 [v0, v1, v2, v3, v4, v5] st h Q := wp_stp (ri := (.goto 4, 3, 46, 0, 0, 0)) (by decide +kernel) rfl rfl rfl
theorem i101_45 {v0 v1 v2 v3 v4 v5 : Value} {st : List Value} {h : ab_Hp} {Q : ab_O → ab_Hp → Prop} : wp 101 45 [v0, v1, v2, v3, v4, v5] st h Q = wp 101 46 [v0, v1, v2, v3, v4, v5] (.int (nI 0) :: st) h Q := wp_stp (ri := (.iconst 0, 1, 0, 0, 0, 0)) (by decide +kernel) rfl rfl rfl
theorem i101_46 {v0 v1 v2 v3 v4 v5 : Value} {w : Int32} {st : List Value} {h : ab_Hp} {Q : ab_O → ab_Hp → Prop} : wp 101 46 [v0, v1, v2, v3, v4, v5] (.int w :: st) h Q = wp 101 48 [v0, v1, v2, v3, ab_clr v4, .int w] st h Q := wp_stp (ri := (.istore 5, 2, 0, 0, 0, 0)) (by decide +kernel) rfl rfl rfl
theorem i101_48 {v0 v1 v2 v3 v4 : Value} {x : Int32} {st : List Value} {h : ab_Hp} {Q : ab_O → ab_Hp → Prop} : wp 101 48 [v0, v1, v2, v3, v4, .int x] st h Q = wp 101 50 [v0, v1, v2, v3, v4, .int x] (.int x :: st) h Q := wp_stp (ri := (.iload 5, 2, 0, 0, 0, 0)) (by decide +kernel) rfl rfl rfl
theorem i101_50 {v0 v1 v2 v3 v4 v5 : Value} {x : Int32} {st : List Value} {h : ab_Hp} {Q : ab_O → ab_Hp → Prop} : wp 101 50 [v0, v1, v2, v3, v4, v5] (.int x :: st) h Q = if ¬ x = 0 then wp 101 57 [v0, v1, v2, v3, v4, v5] st h Q else wp 101 53 [v0, v1, v2, v3, v4, v5] st h Q := wp_ifcP (by decide +kernel : ab_cod 101 50 = some (.ifCond .ne 7, 3, 57, 0, 0, 0)) rfl
theorem i101_53 {v0 v1 v2 v3 v4 v5 : Value} {st : List Value} {h : ab_Hp} {Q : ab_O → ab_Hp → Prop} : wp 101 53 [v0, v1, v2, v3, v4, v5] st h Q = wp 101 54 [v0, v1, v2, v3, v4, v5] (.int (nI 2) :: st) h Q := wp_stp (ri := (.iconst 2, 1, 0, 0, 0, 0)) (by decide +kernel) rfl rfl rfl
theorem i101_54 {v0 v1 v2 v3 v4 v5 : Value} {st : List Value} {h : ab_Hp} {Q : ab_O → ab_Hp → Prop} : wp 101 54 [v0, v1, v2, v3, v4, v5] st h Q = wp 101 73 [v0, v1, v2, v3, v4, v5] st h Q := wp_stp (ri := (.goto 19, 3, 73, 0, 0, 0)) (by decide +kernel) rfl rfl rfl
theorem i101_57 {v0 v1 v2 v3 v4 v5 : Value} {st : List Value} {h : ab_Hp} {Q : ab_O → ab_Hp → Prop} (hv : ab_isA v0 = true) : wp 101 57 [v0, v1, v2, v3, v4, v5] st h Q = wp 101 58 [v0, v1, v2, v3, v4, v5] (v0 :: st) h Q := wp_aload_n (by decide +kernel : ab_cod 101 57 = some (.aload_n 0, 1, 0, 0, 0, 0)) hv
theorem i101_58 {v0 v1 v2 v3 v4 v5 : Value} {r : Nat} {st : List Value} {h : ab_Hp} {Q : ab_O → ab_Hp → Prop} (hk : (ab_sh h r).1 = 17) : wp 101 58 [v0, v1, v2, v3, v4, v5] (.ref r :: st) h Q = wp 101 61 [v0, v1, v2, v3, v4, v5] (va_rf (ab_hr h r 1) :: st) h Q := wp_gf (by decide +kernel : ab_cod 101 58 = some (.getfield 7, 3, 7, 1, 773, 1)) hk
theorem i101_61 {v0 v1 v2 v3 v4 v5 : Value} {st : List Value} {h : ab_Hp} {Q : ab_O → ab_Hp → Prop} : wp 101 61 [v0, v1, v2, v3, v4, v5] st h Q = wp 101 62 [v0, v1, v2, v3, v4, v5] (.int (nI 5) :: st) h Q := wp_stp (ri := (.iconst 5, 1, 0, 0, 0, 0)) (by decide +kernel) rfl rfl rfl
theorem i101_62 {v0 v1 v2 v3 v4 v5 : Value} {r : Nat} {x : Int32} {st : List Value} {h : ab_Hp} {Q : ab_O → ab_Hp → Prop} (hk : ((ab_sh h r).1 = 1 ∨ (ab_sh h r).1 = 6) ∧ ab_in x (ab_sh h r).2 = true) : wp 101 62 [v0, v1, v2, v3, v4, v5] (.int x :: .ref r :: st) h Q = wp 101 63 [v0, v1, v2, v3, v4, v5] (.int (ab_hi h r x.toNatClampNeg) :: st) h Q := wp_ia (by decide +kernel : ab_cod 101 62 = some (.iaload, 1, 0, 0, 0, 0)) hk
theorem i101_63 {v0 v1 v2 v3 v4 v5 : Value} {st : List Value} {h : ab_Hp} {Q : ab_O → ab_Hp → Prop} : wp 101 63 [v0, v1, v2, v3, v4, v5] st h Q = wp 101 65 [v0, v1, v2, v3, v4, v5] (.int (nI 8) :: st) h Q := wp_stp (ri := (.bipush 8, 2, 0, 0, 0, 0)) (by decide +kernel) rfl rfl rfl
theorem i101_65 {v0 v1 v2 v3 v4 v5 : Value} {x y : Int32} {st : List Value} {h : ab_Hp} {Q : ab_O → ab_Hp → Prop} : wp 101 65 [v0, v1, v2, v3, v4, v5] (.int y :: .int x :: st) h Q = if ¬ x = y then wp 101 72 [v0, v1, v2, v3, v4, v5] st h Q else wp 101 68 [v0, v1, v2, v3, v4, v5] st h Q := wp_icmpP (by decide +kernel : ab_cod 101 65 = some (.if_icmp .ne 7, 3, 72, 0, 0, 0)) rfl
theorem i101_68 {v0 v1 v2 v3 v4 v5 : Value} {st : List Value} {h : ab_Hp} {Q : ab_O → ab_Hp → Prop} : wp 101 68 [v0, v1, v2, v3, v4, v5] st h Q = wp 101 69 [v0, v1, v2, v3, v4, v5] (.int (nI 3) :: st) h Q := wp_stp (ri := (.iconst 3, 1, 0, 0, 0, 0)) (by decide +kernel) rfl rfl rfl
theorem i101_69 {v0 v1 v2 v3 v4 v5 : Value} {st : List Value} {h : ab_Hp} {Q : ab_O → ab_Hp → Prop} : wp 101 69 [v0, v1, v2, v3, v4, v5] st h Q = wp 101 73 [v0, v1, v2, v3, v4, v5] st h Q := wp_stp (ri := (.goto 4, 3, 73, 0, 0, 0)) (by decide +kernel) rfl rfl rfl
theorem i101_72 {v0 v1 v2 v3 v4 v5 : Value} {st : List Value} {h : ab_Hp} {Q : ab_O → ab_Hp → Prop} : wp 101 72 [v0, v1, v2, v3, v4, v5] st h Q = wp 101 73 [v0, v1, v2, v3, v4, v5] (.int (nI 0) :: st) h Q := wp_stp (ri := (.iconst 0, 1, 0, 0, 0, 0)) (by decide +kernel) rfl rfl rfl
theorem i101_73 {v0 v1 v2 v3 v4 v5 : Value} {x : Int32} {h : ab_Hp} {Q : ab_O → ab_Hp → Prop} : wp 101 73 [v0, v1, v2, v3, v4, v5] [.int x] h Q = Q (.inl (some (.int x))) h := wp_iret (by decide +kernel : ab_cod 101 73 = some (.ireturn, 1, 0, 0, 0, 0)) rfl
/-! 102: SeamBeatsModel.seam(IIII)I -/
set_option maxRecDepth 100000 in
theorem i102_0 {v0 v1 v2 v3 v4 v5 : Value} {st : List Value} {h : ab_Hp} {Q : ab_O → ab_Hp → Prop} (hv : ab_isA v0 = true) : wp 102 0 [v0, v1, v2, v3, v4, v5] st h Q = wp 102 1 [v0, v1, v2, v3, v4, v5] (v0 :: st) h Q := wp_aload_n (by decide +kernel : ab_cod 102 0 = some (.aload_n 0, 1, 0, 0, 0, 0)) hv
set_option maxRecDepth 100000 in
theorem i102_1 {v0 v1 v2 v3 v4 v5 : Value} {st : List Value} {h : ab_Hp} {Q : ab_O → ab_Hp → Prop} (hv : ab_isA v0 = true) : wp 102 1 [v0, v1, v2, v3, v4, v5] st h Q = wp 102 2 [v0, v1, v2, v3, v4, v5] (v0 :: st) h Q := wp_aload_n (by decide +kernel : ab_cod 102 1 = some (.aload_n 0, 1, 0, 0, 0, 0)) hv
set_option maxRecDepth 100000 in
theorem i102_2 {v0 v2 v3 v4 v5 : Value} {x : Int32} {st : List Value} {h : ab_Hp} {Q : ab_O → ab_Hp → Prop} : wp 102 2 [v0, .int x, v2, v3, v4, v5] st h Q = wp 102 3 [v0, .int x, v2, v3, v4, v5] (.int x :: st) h Q := wp_stp (ri := (.iload_n 1, 1, 0, 0, 0, 0)) (by decide +kernel) rfl rfl rfl
set_option maxRecDepth 100000 in
theorem i102_3 {v0 v1 v3 v4 v5 : Value} {x : Int32} {st : List Value} {h : ab_Hp} {Q : ab_O → ab_Hp → Prop} : wp 102 3 [v0, v1, .int x, v3, v4, v5] st h Q = wp 102 4 [v0, v1, .int x, v3, v4, v5] (.int x :: st) h Q := wp_stp (ri := (.iload_n 2, 1, 0, 0, 0, 0)) (by decide +kernel) rfl rfl rfl
set_option maxRecDepth 100000 in
theorem i102_4 {v0 v1 v2 v4 v5 : Value} {x : Int32} {st : List Value} {h : ab_Hp} {Q : ab_O → ab_Hp → Prop} : wp 102 4 [v0, v1, v2, .int x, v4, v5] st h Q = wp 102 5 [v0, v1, v2, .int x, v4, v5] (.int x :: st) h Q := wp_stp (ri := (.iload_n 3, 1, 0, 0, 0, 0)) (by decide +kernel) rfl rfl rfl
set_option maxRecDepth 100000 in
theorem i102_5 {v0 v1 v2 v3 v5 : Value} {x : Int32} {st : List Value} {h : ab_Hp} {Q : ab_O → ab_Hp → Prop} : wp 102 5 [v0, v1, v2, v3, .int x, v5] st h Q = wp 102 7 [v0, v1, v2, v3, .int x, v5] (.int x :: st) h Q := wp_stp (ri := (.iload 4, 2, 0, 0, 0, 0)) (by decide +kernel) rfl rfl rfl
set_option maxRecDepth 100000 in
theorem i102_7 {v0 v1 v2 v3 v4 v5 : Value} {r : Nat} {a0 : Int32} {a1 : Int32} {a2 : Int32} {a3 : Int32} {st : List Value} {h : ab_Hp} {Q : ab_O → ab_Hp → Prop} (hl : st.length ≤ 4) (hk : (ab_sh h r).1 = 17) : wp 102 7 [v0, v1, v2, v3, v4, v5] (.int a3 :: .int a2 :: .int a1 :: .int a0 :: .ref r :: st) h Q = wp 101 0 [.ref r, .int a0, .int a1, .int a2, .int a3, ab_nov] [] h (ab_K 102 7 [v0, v1, v2, v3, v4, v5] st Q) := wp_callV (as := [.int a0, .int a1, .int a2, .int a3]) (by decide +kernel : ab_cod 102 7 = some (.invokevirtual 51, 3, 101, 5, 0, 844)) rfl rfl rfl rfl hl hk
set_option maxRecDepth 100000 in
theorem i102_10 {v0 v1 v2 v3 v4 v5 : Value} {r : Nat} {x : Int32} {st : List Value} {h : ab_Hp} {Q : ab_O → ab_Hp → Prop} (hk : (ab_sh h r).1 = 17) : wp 102 10 [v0, v1, v2, v3, v4, v5] (.int x :: .ref r :: st) h Q = wp 102 13 [v0, v1, v2, v3, v4, v5] st (ab_setI h (ab_u (ab_hi h) r 0 x)) Q := wp_pf (by decide +kernel : ab_cod 102 10 = some (.putfield 29, 3, 7, 0, 772, 0)) hk rfl
set_option maxRecDepth 100000 in
theorem i102_13 {v0 v1 v2 v3 v4 v5 : Value} {st : List Value} {h : ab_Hp} {Q : ab_O → ab_Hp → Prop} (hv : ab_isA v0 = true) : wp 102 13 [v0, v1, v2, v3, v4, v5] st h Q = wp 102 14 [v0, v1, v2, v3, v4, v5] (v0 :: st) h Q := wp_aload_n (by decide +kernel : ab_cod 102 13 = some (.aload_n 0, 1, 0, 0, 0, 0)) hv
set_option maxRecDepth 100000 in
theorem i102_14 {v0 v1 v2 v3 v4 v5 : Value} {r : Nat} {st : List Value} {h : ab_Hp} {Q : ab_O → ab_Hp → Prop} (hk : (ab_sh h r).1 = 17) : wp 102 14 [v0, v1, v2, v3, v4, v5] (.ref r :: st) h Q = wp 102 17 [v0, v1, v2, v3, v4, v5] (.int (ab_hi h r 0) :: st) h Q := wp_gf (by decide +kernel : ab_cod 102 14 = some (.getfield 29, 3, 7, 0, 772, 0)) hk
set_option maxRecDepth 100000 in
theorem i102_17 {v0 v1 v2 v3 v4 v5 : Value} {x : Int32} {st : List Value} {h : ab_Hp} {Q : ab_O → ab_Hp → Prop} : wp 102 17 [v0, v1, v2, v3, v4, v5] (.int x :: st) h Q = if x ≤ 0 then wp 102 22 [v0, v1, v2, v3, v4, v5] st h Q else wp 102 20 [v0, v1, v2, v3, v4, v5] st h Q := wp_ifcP (by decide +kernel : ab_cod 102 17 = some (.ifCond .le 5, 3, 22, 0, 0, 0)) rfl
set_option maxRecDepth 100000 in
theorem i102_20 {v0 v1 v2 v3 v4 v5 : Value} {st : List Value} {h : ab_Hp} {Q : ab_O → ab_Hp → Prop} : wp 102 20 [v0, v1, v2, v3, v4, v5] st h Q = wp 102 21 [v0, v1, v2, v3, v4, v5] (.int (nI 0) :: st) h Q := wp_stp (ri := (.iconst 0, 1, 0, 0, 0, 0)) (by decide +kernel) rfl rfl rfl
set_option maxRecDepth 100000 in
theorem i102_21 {v0 v1 v2 v3 v4 v5 : Value} {x : Int32} {h : ab_Hp} {Q : ab_O → ab_Hp → Prop} : wp 102 21 [v0, v1, v2, v3, v4, v5] [.int x] h Q = Q (.inl (some (.int x))) h := wp_iret (by decide +kernel : ab_cod 102 21 = some (.ireturn, 1, 0, 0, 0, 0)) rfl
set_option maxRecDepth 100000 in
theorem i102_22 {v0 v1 v2 v3 v4 v5 : Value} {st : List Value} {h : ab_Hp} {Q : ab_O → ab_Hp → Prop} (hv : ab_isA v0 = true) : wp 102 22 [v0, v1, v2, v3, v4, v5] st h Q = wp 102 23 [v0, v1, v2, v3, v4, v5] (v0 :: st) h Q := wp_aload_n (by decide +kernel : ab_cod 102 22 = some (.aload_n 0, 1, 0, 0, 0, 0)) hv
set_option maxRecDepth 100000 in
theorem i102_23 {v0 v1 v2 v3 v4 v5 : Value} {r : Nat} {st : List Value} {h : ab_Hp} {Q : ab_O → ab_Hp → Prop} (hl : st.length ≤ 4) (hk : (ab_sh h r).1 = 17) : wp 102 23 [v0, v1, v2, v3, v4, v5] (.ref r :: st) h Q = wp 94 0 [.ref r, ab_nov] [] h (ab_K 102 23 [v0, v1, v2, v3, v4, v5] st Q) := wp_callV (as := []) (by decide +kernel : ab_cod 102 23 = some (.invokevirtual 44, 3, 94, 1, 0, 824)) rfl rfl rfl rfl hl hk
set_option maxRecDepth 100000 in
theorem i102_26 {v0 v1 v2 v3 v4 v5 : Value} {st : List Value} {h : ab_Hp} {Q : ab_O → ab_Hp → Prop} (hv : ab_isA v0 = true) : wp 102 26 [v0, v1, v2, v3, v4, v5] st h Q = wp 102 27 [v0, v1, v2, v3, v4, v5] (v0 :: st) h Q := wp_aload_n (by decide +kernel : ab_cod 102 26 = some (.aload_n 0, 1, 0, 0, 0, 0)) hv
set_option maxRecDepth 100000 in
theorem i102_27 {v0 v1 v2 v3 v4 v5 : Value} {r : Nat} {st : List Value} {h : ab_Hp} {Q : ab_O → ab_Hp → Prop} (hk : (ab_sh h r).1 = 17) : wp 102 27 [v0, v1, v2, v3, v4, v5] (.ref r :: st) h Q = wp 102 30 [v0, v1, v2, v3, v4, v5] (va_rf (ab_hr h r 1) :: st) h Q := wp_gf (by decide +kernel : ab_cod 102 27 = some (.getfield 7, 3, 7, 1, 773, 1)) hk
set_option maxRecDepth 100000 in
theorem i102_30 {v0 v1 v2 v3 v4 v5 : Value} {st : List Value} {h : ab_Hp} {Q : ab_O → ab_Hp → Prop} : wp 102 30 [v0, v1, v2, v3, v4, v5] st h Q = wp 102 31 [v0, v1, v2, v3, v4, v5] (.int (nI 5) :: st) h Q := wp_stp (ri := (.iconst 5, 1, 0, 0, 0, 0)) (by decide +kernel) rfl rfl rfl
set_option maxRecDepth 100000 in
theorem i102_31 {v0 v1 v2 v3 v4 v5 : Value} {r : Nat} {x : Int32} {st : List Value} {h : ab_Hp} {Q : ab_O → ab_Hp → Prop} (hk : ((ab_sh h r).1 = 1 ∨ (ab_sh h r).1 = 6) ∧ ab_in x (ab_sh h r).2 = true) : wp 102 31 [v0, v1, v2, v3, v4, v5] (.int x :: .ref r :: st) h Q = wp 102 32 [v0, v1, v2, v3, v4, v5] (.int (ab_hi h r x.toNatClampNeg) :: st) h Q := wp_ia (by decide +kernel : ab_cod 102 31 = some (.iaload, 1, 0, 0, 0, 0)) hk
set_option maxRecDepth 100000 in
theorem i102_32 {v0 v1 v2 v3 v4 v5 : Value} {w : Int32} {st : List Value} {h : ab_Hp} {Q : ab_O → ab_Hp → Prop} : wp 102 32 [v0, v1, v2, v3, v4, v5] (.int w :: st) h Q = wp 102 34 [v0, v1, v2, v3, ab_clr v4, .int w] st h Q := wp_stp (ri := (.istore 5, 2, 0, 0, 0, 0)) (by decide +kernel) rfl rfl rfl
set_option maxRecDepth 100000 in
theorem i102_34 {v0 v1 v2 v3 v4 v5 : Value} {st : List Value} {h : ab_Hp} {Q : ab_O → ab_Hp → Prop} (hv : ab_isA v0 = true) : wp 102 34 [v0, v1, v2, v3, v4, v5] st h Q = wp 102 35 [v0, v1, v2, v3, v4, v5] (v0 :: st) h Q := wp_aload_n (by decide +kernel : ab_cod 102 34 = some (.aload_n 0, 1, 0, 0, 0, 0)) hv
set_option maxRecDepth 100000 in
theorem i102_35 {v0 v1 v2 v3 v4 v5 : Value} {r : Nat} {st : List Value} {h : ab_Hp} {Q : ab_O → ab_Hp → Prop} (hk : (ab_sh h r).1 = 17) : wp 102 35 [v0, v1, v2, v3, v4, v5] (.ref r :: st) h Q = wp 102 38 [v0, v1, v2, v3, v4, v5] (va_rf (ab_hr h r 1) :: st) h Q := wp_gf (by decide +kernel : ab_cod 102 35 = some (.getfield 7, 3, 7, 1, 773, 1)) hk
set_option maxRecDepth 100000 in
theorem i102_38 {v0 v1 v2 v3 v4 v5 : Value} {st : List Value} {h : ab_Hp} {Q : ab_O → ab_Hp → Prop} : wp 102 38 [v0, v1, v2, v3, v4, v5] st h Q = wp 102 39 [v0, v1, v2, v3, v4, v5] (.int (nI 5) :: st) h Q := wp_stp (ri := (.iconst 5, 1, 0, 0, 0, 0)) (by decide +kernel) rfl rfl rfl
set_option maxRecDepth 100000 in
theorem i102_39 {v0 v1 v2 v3 v4 v5 : Value} {x : Int32} {r : Nat} {st : List Value} {h : ab_Hp} {Q : ab_O → ab_Hp → Prop} : wp 102 39 [v0, v1, v2, v3, v4, v5] (.int x :: .ref r :: st) h Q = wp 102 40 [v0, v1, v2, v3, v4, v5] (.int x :: .ref r :: .int x :: .ref r :: st) h Q := wp_stp (ri := (.dup2, 1, 0, 0, 0, 0)) (by decide +kernel) rfl rfl rfl
set_option maxRecDepth 100000 in
theorem i102_40 {v0 v1 v2 v3 v4 v5 : Value} {r : Nat} {x : Int32} {st : List Value} {h : ab_Hp} {Q : ab_O → ab_Hp → Prop} (hk : ((ab_sh h r).1 = 1 ∨ (ab_sh h r).1 = 6) ∧ ab_in x (ab_sh h r).2 = true) : wp 102 40 [v0, v1, v2, v3, v4, v5] (.int x :: .ref r :: st) h Q = wp 102 41 [v0, v1, v2, v3, v4, v5] (.int (ab_hi h r x.toNatClampNeg) :: st) h Q := wp_ia (by decide +kernel : ab_cod 102 40 = some (.iaload, 1, 0, 0, 0, 0)) hk
set_option maxRecDepth 100000 in
theorem i102_41 {v0 v1 v2 v3 v4 v5 : Value} {st : List Value} {h : ab_Hp} {Q : ab_O → ab_Hp → Prop} : wp 102 41 [v0, v1, v2, v3, v4, v5] st h Q = wp 102 42 [v0, v1, v2, v3, v4, v5] (.int (nI 1) :: st) h Q := wp_stp (ri := (.iconst 1, 1, 0, 0, 0, 0)) (by decide +kernel) rfl rfl rfl
set_option maxRecDepth 100000 in
theorem i102_42 {v0 v1 v2 v3 v4 v5 : Value} {x y : Int32} {st : List Value} {h : ab_Hp} {Q : ab_O → ab_Hp → Prop} : wp 102 42 [v0, v1, v2, v3, v4, v5] (.int y :: .int x :: st) h Q = wp 102 43 [v0, v1, v2, v3, v4, v5] (.int (x + y) :: st) h Q := wp_stp (ri := (.iadd, 1, 0, 0, 0, 0)) (by decide +kernel) rfl rfl rfl
set_option maxRecDepth 100000 in
theorem i102_43 {v0 v1 v2 v3 v4 v5 : Value} {r : Nat} {x y : Int32} {st : List Value} {h : ab_Hp} {Q : ab_O → ab_Hp → Prop} (hk : (ab_sh h r).1 = 1 ∧ ab_in x (ab_sh h r).2 = true) : wp 102 43 [v0, v1, v2, v3, v4, v5] (.int y :: .int x :: .ref r :: st) h Q = wp 102 44 [v0, v1, v2, v3, v4, v5] st (ab_setI h (ab_u (ab_hi h) r x.toNatClampNeg y)) Q := wp_ias (by decide +kernel : ab_cod 102 43 = some (.iastore, 1, 0, 0, 0, 0)) hk
set_option maxRecDepth 100000 in
theorem i102_44 {v0 v1 v2 v3 v4 v5 : Value} {st : List Value} {h : ab_Hp} {Q : ab_O → ab_Hp → Prop} (hv : ab_isA v0 = true) : wp 102 44 [v0, v1, v2, v3, v4, v5] st h Q = wp 102 45 [v0, v1, v2, v3, v4, v5] (v0 :: st) h Q := wp_aload_n (by decide +kernel : ab_cod 102 44 = some (.aload_n 0, 1, 0, 0, 0, 0)) hv
set_option maxRecDepth 100000 in
theorem i102_45 {v0 v1 v2 v3 v4 : Value} {x : Int32} {st : List Value} {h : ab_Hp} {Q : ab_O → ab_Hp → Prop} : wp 102 45 [v0, v1, v2, v3, v4, .int x] st h Q = wp 102 47 [v0, v1, v2, v3, v4, .int x] (.int x :: st) h Q := wp_stp (ri := (.iload 5, 2, 0, 0, 0, 0)) (by decide +kernel) rfl rfl rfl
set_option maxRecDepth 100000 in
theorem i102_47 {v0 v1 v2 v3 v4 v5 : Value} {st : List Value} {h : ab_Hp} {Q : ab_O → ab_Hp → Prop} : wp 102 47 [v0, v1, v2, v3, v4, v5] st h Q = wp 102 48 [v0, v1, v2, v3, v4, v5] (.int (nI 0) :: st) h Q := wp_stp (ri := (.iconst 0, 1, 0, 0, 0, 0)) (by decide +kernel) rfl rfl rfl
set_option maxRecDepth 100000 in
theorem i102_48 {v0 v2 v3 v4 v5 : Value} {x : Int32} {st : List Value} {h : ab_Hp} {Q : ab_O → ab_Hp → Prop} : wp 102 48 [v0, .int x, v2, v3, v4, v5] st h Q = wp 102 49 [v0, .int x, v2, v3, v4, v5] (.int x :: st) h Q := wp_stp (ri := (.iload_n 1, 1, 0, 0, 0, 0)) (by decide +kernel) rfl rfl rfl
set_option maxRecDepth 100000 in
theorem i102_49 {v0 v1 v2 v3 v4 v5 : Value} {r : Nat} {a0 : Int32} {a1 : Int32} {a2 : Int32} {st : List Value} {h : ab_Hp} {Q : ab_O → ab_Hp → Prop} (hl : st.length ≤ 4) (hk : (ab_sh h r).1 = 17) : wp 102 49 [v0, v1, v2, v3, v4, v5] (.int a2 :: .int a1 :: .int a0 :: .ref r :: st) h Q = wp 93 0 [.ref r, .int a0, .int a1, .int a2] [] h (ab_K 102 49 [v0, v1, v2, v3, v4, v5] st Q) := wp_callV (as := [.int a0, .int a1, .int a2]) (by decide +kernel : ab_cod 102 49 = some (.invokevirtual 55, 3, 93, 4, 0, 848)) rfl rfl rfl rfl hl hk
set_option maxRecDepth 100000 in
theorem i102_52 {v0 v1 v2 v3 v4 v5 : Value} {st : List Value} {h : ab_Hp} {Q : ab_O → ab_Hp → Prop} (hv : ab_isA v0 = true) : wp 102 52 [v0, v1, v2, v3, v4, v5] st h Q = wp 102 53 [v0, v1, v2, v3, v4, v5] (v0 :: st) h Q := wp_aload_n (by decide +kernel : ab_cod 102 52 = some (.aload_n 0, 1, 0, 0, 0, 0)) hv
set_option maxRecDepth 100000 in
theorem i102_53 {v0 v1 v2 v3 v4 : Value} {x : Int32} {st : List Value} {h : ab_Hp} {Q : ab_O → ab_Hp → Prop} : wp 102 53 [v0, v1, v2, v3, v4, .int x] st h Q = wp 102 55 [v0, v1, v2, v3, v4, .int x] (.int x :: st) h Q := wp_stp (ri := (.iload 5, 2, 0, 0, 0, 0)) (by decide +kernel) rfl rfl rfl
set_option maxRecDepth 100000 in
theorem i102_55 {v0 v1 v2 v3 v4 v5 : Value} {st : List Value} {h : ab_Hp} {Q : ab_O → ab_Hp → Prop} : wp 102 55 [v0, v1, v2, v3, v4, v5] st h Q = wp 102 56 [v0, v1, v2, v3, v4, v5] (.int (nI 1) :: st) h Q := wp_stp (ri := (.iconst 1, 1, 0, 0, 0, 0)) (by decide +kernel) rfl rfl rfl
set_option maxRecDepth 100000 in
theorem i102_56 {v0 v1 v3 v4 v5 : Value} {x : Int32} {st : List Value} {h : ab_Hp} {Q : ab_O → ab_Hp → Prop} : wp 102 56 [v0, v1, .int x, v3, v4, v5] st h Q = wp 102 57 [v0, v1, .int x, v3, v4, v5] (.int x :: st) h Q := wp_stp (ri := (.iload_n 2, 1, 0, 0, 0, 0)) (by decide +kernel) rfl rfl rfl
set_option maxRecDepth 100000 in
theorem i102_57 {v0 v1 v2 v3 v4 v5 : Value} {r : Nat} {a0 : Int32} {a1 : Int32} {a2 : Int32} {st : List Value} {h : ab_Hp} {Q : ab_O → ab_Hp → Prop} (hl : st.length ≤ 4) (hk : (ab_sh h r).1 = 17) : wp 102 57 [v0, v1, v2, v3, v4, v5] (.int a2 :: .int a1 :: .int a0 :: .ref r :: st) h Q = wp 93 0 [.ref r, .int a0, .int a1, .int a2] [] h (ab_K 102 57 [v0, v1, v2, v3, v4, v5] st Q) := wp_callV (as := [.int a0, .int a1, .int a2]) (by decide +kernel : ab_cod 102 57 = some (.invokevirtual 55, 3, 93, 4, 0, 848)) rfl rfl rfl rfl hl hk
set_option maxRecDepth 100000 in
theorem i102_60 {v0 v1 v2 v3 v4 v5 : Value} {st : List Value} {h : ab_Hp} {Q : ab_O → ab_Hp → Prop} (hv : ab_isA v0 = true) : wp 102 60 [v0, v1, v2, v3, v4, v5] st h Q = wp 102 61 [v0, v1, v2, v3, v4, v5] (v0 :: st) h Q := wp_aload_n (by decide +kernel : ab_cod 102 60 = some (.aload_n 0, 1, 0, 0, 0, 0)) hv
set_option maxRecDepth 100000 in
theorem i102_61 {v0 v1 v2 v3 v4 : Value} {x : Int32} {st : List Value} {h : ab_Hp} {Q : ab_O → ab_Hp → Prop} : wp 102 61 [v0, v1, v2, v3, v4, .int x] st h Q = wp 102 63 [v0, v1, v2, v3, v4, .int x] (.int x :: st) h Q := wp_stp (ri := (.iload 5, 2, 0, 0, 0, 0)) (by decide +kernel) rfl rfl rfl
set_option maxRecDepth 100000 in
theorem i102_63 {v0 v1 v2 v3 v4 v5 : Value} {st : List Value} {h : ab_Hp} {Q : ab_O → ab_Hp → Prop} : wp 102 63 [v0, v1, v2, v3, v4, v5] st h Q = wp 102 64 [v0, v1, v2, v3, v4, v5] (.int (nI 2) :: st) h Q := wp_stp (ri := (.iconst 2, 1, 0, 0, 0, 0)) (by decide +kernel) rfl rfl rfl
set_option maxRecDepth 100000 in
theorem i102_64 {v0 v1 v2 v4 v5 : Value} {x : Int32} {st : List Value} {h : ab_Hp} {Q : ab_O → ab_Hp → Prop} : wp 102 64 [v0, v1, v2, .int x, v4, v5] st h Q = wp 102 65 [v0, v1, v2, .int x, v4, v5] (.int x :: st) h Q := wp_stp (ri := (.iload_n 3, 1, 0, 0, 0, 0)) (by decide +kernel) rfl rfl rfl
set_option maxRecDepth 100000 in
theorem i102_65 {v0 v1 v2 v3 v4 v5 : Value} {r : Nat} {a0 : Int32} {a1 : Int32} {a2 : Int32} {st : List Value} {h : ab_Hp} {Q : ab_O → ab_Hp → Prop} (hl : st.length ≤ 4) (hk : (ab_sh h r).1 = 17) : wp 102 65 [v0, v1, v2, v3, v4, v5] (.int a2 :: .int a1 :: .int a0 :: .ref r :: st) h Q = wp 93 0 [.ref r, .int a0, .int a1, .int a2] [] h (ab_K 102 65 [v0, v1, v2, v3, v4, v5] st Q) := wp_callV (as := [.int a0, .int a1, .int a2]) (by decide +kernel : ab_cod 102 65 = some (.invokevirtual 55, 3, 93, 4, 0, 848)) rfl rfl rfl rfl hl hk
set_option maxRecDepth 100000 in
theorem i102_68 {v0 v1 v2 v3 v4 v5 : Value} {st : List Value} {h : ab_Hp} {Q : ab_O → ab_Hp → Prop} (hv : ab_isA v0 = true) : wp 102 68 [v0, v1, v2, v3, v4, v5] st h Q = wp 102 69 [v0, v1, v2, v3, v4, v5] (v0 :: st) h Q := wp_aload_n (by decide +kernel : ab_cod 102 68 = some (.aload_n 0, 1, 0, 0, 0, 0)) hv
set_option maxRecDepth 100000 in
theorem i102_69 {v0 v1 v2 v3 v4 : Value} {x : Int32} {st : List Value} {h : ab_Hp} {Q : ab_O → ab_Hp → Prop} : wp 102 69 [v0, v1, v2, v3, v4, .int x] st h Q = wp 102 71 [v0, v1, v2, v3, v4, .int x] (.int x :: st) h Q := wp_stp (ri := (.iload 5, 2, 0, 0, 0, 0)) (by decide +kernel) rfl rfl rfl
set_option maxRecDepth 100000 in
theorem i102_71 {v0 v1 v2 v3 v4 v5 : Value} {st : List Value} {h : ab_Hp} {Q : ab_O → ab_Hp → Prop} : wp 102 71 [v0, v1, v2, v3, v4, v5] st h Q = wp 102 72 [v0, v1, v2, v3, v4, v5] (.int (nI 3) :: st) h Q := wp_stp (ri := (.iconst 3, 1, 0, 0, 0, 0)) (by decide +kernel) rfl rfl rfl
set_option maxRecDepth 100000 in
theorem i102_72 {v0 v1 v2 v3 v5 : Value} {x : Int32} {st : List Value} {h : ab_Hp} {Q : ab_O → ab_Hp → Prop} : wp 102 72 [v0, v1, v2, v3, .int x, v5] st h Q = wp 102 74 [v0, v1, v2, v3, .int x, v5] (.int x :: st) h Q := wp_stp (ri := (.iload 4, 2, 0, 0, 0, 0)) (by decide +kernel) rfl rfl rfl
set_option maxRecDepth 100000 in
theorem i102_74 {v0 v1 v2 v3 v4 v5 : Value} {r : Nat} {a0 : Int32} {a1 : Int32} {a2 : Int32} {st : List Value} {h : ab_Hp} {Q : ab_O → ab_Hp → Prop} (hl : st.length ≤ 4) (hk : (ab_sh h r).1 = 17) : wp 102 74 [v0, v1, v2, v3, v4, v5] (.int a2 :: .int a1 :: .int a0 :: .ref r :: st) h Q = wp 93 0 [.ref r, .int a0, .int a1, .int a2] [] h (ab_K 102 74 [v0, v1, v2, v3, v4, v5] st Q) := wp_callV (as := [.int a0, .int a1, .int a2]) (by decide +kernel : ab_cod 102 74 = some (.invokevirtual 55, 3, 93, 4, 0, 848)) rfl rfl rfl rfl hl hk
set_option maxRecDepth 100000 in
theorem i102_77 {v0 v1 v2 v3 v4 v5 : Value} {st : List Value} {h : ab_Hp} {Q : ab_O → ab_Hp → Prop} (hv : ab_isA v0 = true) : wp 102 77 [v0, v1, v2, v3, v4, v5] st h Q = wp 102 78 [v0, v1, v2, v3, v4, v5] (v0 :: st) h Q := wp_aload_n (by decide +kernel : ab_cod 102 77 = some (.aload_n 0, 1, 0, 0, 0, 0)) hv
set_option maxRecDepth 100000 in
theorem i102_78 {v0 v2 v3 v4 v5 : Value} {x : Int32} {st : List Value} {h : ab_Hp} {Q : ab_O → ab_Hp → Prop} : wp 102 78 [v0, .int x, v2, v3, v4, v5] st h Q = wp 102 79 [v0, .int x, v2, v3, v4, v5] (.int x :: st) h Q := wp_stp (ri := (.iload_n 1, 1, 0, 0, 0, 0)) (by decide +kernel) rfl rfl rfl
set_option maxRecDepth 100000 in
theorem i102_79 {v0 v1 v2 v3 v4 v5 : Value} {st : List Value} {h : ab_Hp} {Q : ab_O → ab_Hp → Prop} : wp 102 79 [v0, v1, v2, v3, v4, v5] st h Q = wp 102 80 [v0, v1, v2, v3, v4, v5] (.int (nI 3) :: st) h Q := wp_stp (ri := (.iconst 3, 1, 0, 0, 0, 0)) (by decide +kernel) rfl rfl rfl
set_option maxRecDepth 100000 in
theorem i102_80 {v0 v1 v2 v3 v4 v5 : Value} {r : Nat} {a0 : Int32} {a1 : Int32} {st : List Value} {h : ab_Hp} {Q : ab_O → ab_Hp → Prop} (hl : st.length ≤ 4) (hk : (ab_sh h r).1 = 17) : wp 102 80 [v0, v1, v2, v3, v4, v5] (.int a1 :: .int a0 :: .ref r :: st) h Q = wp 90 0 [.ref r, .int a0, .int a1] [] h (ab_K 102 80 [v0, v1, v2, v3, v4, v5] st Q) := wp_callV (as := [.int a0, .int a1]) (by decide +kernel : ab_cod 102 80 = some (.invokevirtual 47, 3, 90, 3, 0, 828)) rfl rfl rfl rfl hl hk
set_option maxRecDepth 100000 in
theorem i102_83 {v0 v1 v2 v3 v4 v5 : Value} {st : List Value} {h : ab_Hp} {Q : ab_O → ab_Hp → Prop} : wp 102 83 [v0, v1, v2, v3, v4, v5] st h Q = wp 102 84 [v0, v1, v2, v3, v4, v5] (.int ((-1)) :: st) h Q := wp_stp (ri := (.iconst (-1), 1, 0, 0, 0, 0)) (by decide +kernel) rfl rfl rfl
set_option maxRecDepth 100000 in
theorem i102_84 {v0 v1 v2 v3 v4 v5 : Value} {x y : Int32} {st : List Value} {h : ab_Hp} {Q : ab_O → ab_Hp → Prop} : wp 102 84 [v0, v1, v2, v3, v4, v5] (.int y :: .int x :: st) h Q = if ¬ x = y then wp 102 95 [v0, v1, v2, v3, v4, v5] st h Q else wp 102 87 [v0, v1, v2, v3, v4, v5] st h Q := wp_icmpP (by decide +kernel : ab_cod 102 84 = some (.if_icmp .ne 11, 3, 95, 0, 0, 0)) rfl
set_option maxRecDepth 100000 in
theorem i102_87 {v0 v1 v2 v3 v4 v5 : Value} {st : List Value} {h : ab_Hp} {Q : ab_O → ab_Hp → Prop} (hv : ab_isA v0 = true) : wp 102 87 [v0, v1, v2, v3, v4, v5] st h Q = wp 102 88 [v0, v1, v2, v3, v4, v5] (v0 :: st) h Q := wp_aload_n (by decide +kernel : ab_cod 102 87 = some (.aload_n 0, 1, 0, 0, 0, 0)) hv
set_option maxRecDepth 100000 in
theorem i102_88 {v0 v2 v3 v4 v5 : Value} {x : Int32} {st : List Value} {h : ab_Hp} {Q : ab_O → ab_Hp → Prop} : wp 102 88 [v0, .int x, v2, v3, v4, v5] st h Q = wp 102 89 [v0, .int x, v2, v3, v4, v5] (.int x :: st) h Q := wp_stp (ri := (.iload_n 1, 1, 0, 0, 0, 0)) (by decide +kernel) rfl rfl rfl
set_option maxRecDepth 100000 in
theorem i102_89 {v0 v1 v2 v3 v4 v5 : Value} {st : List Value} {h : ab_Hp} {Q : ab_O → ab_Hp → Prop} : wp 102 89 [v0, v1, v2, v3, v4, v5] st h Q = wp 102 90 [v0, v1, v2, v3, v4, v5] (.int (nI 3) :: st) h Q := wp_stp (ri := (.iconst 3, 1, 0, 0, 0, 0)) (by decide +kernel) rfl rfl rfl
set_option maxRecDepth 100000 in
theorem i102_90 {v0 v1 v2 v3 v4 : Value} {x : Int32} {st : List Value} {h : ab_Hp} {Q : ab_O → ab_Hp → Prop} : wp 102 90 [v0, v1, v2, v3, v4, .int x] st h Q = wp 102 92 [v0, v1, v2, v3, v4, .int x] (.int x :: st) h Q := wp_stp (ri := (.iload 5, 2, 0, 0, 0, 0)) (by decide +kernel) rfl rfl rfl
set_option maxRecDepth 100000 in
theorem i102_92 {v0 v1 v2 v3 v4 v5 : Value} {r : Nat} {a0 : Int32} {a1 : Int32} {a2 : Int32} {st : List Value} {h : ab_Hp} {Q : ab_O → ab_Hp → Prop} (hl : st.length ≤ 4) (hk : (ab_sh h r).1 = 17) : wp 102 92 [v0, v1, v2, v3, v4, v5] (.int a2 :: .int a1 :: .int a0 :: .ref r :: st) h Q = wp 91 0 [.ref r, .int a0, .int a1, .int a2] [] h (ab_K 102 92 [v0, v1, v2, v3, v4, v5] st Q) := wp_callV (as := [.int a0, .int a1, .int a2]) (by decide +kernel : ab_cod 102 92 = some (.invokevirtual 25, 3, 91, 4, 0, 768)) rfl rfl rfl rfl hl hk
set_option maxRecDepth 100000 in
theorem i102_95 {v0 v1 v2 v3 v4 : Value} {x : Int32} {st : List Value} {h : ab_Hp} {Q : ab_O → ab_Hp → Prop} : wp 102 95 [v0, v1, v2, v3, v4, .int x] st h Q = wp 102 97 [v0, v1, v2, v3, v4, .int x] (.int x :: st) h Q := wp_stp (ri := (.iload 5, 2, 0, 0, 0, 0)) (by decide +kernel) rfl rfl rfl
set_option maxRecDepth 100000 in
theorem i102_97 {v0 v1 v2 v3 v4 v5 : Value} {x : Int32} {h : ab_Hp} {Q : ab_O → ab_Hp → Prop} : wp 102 97 [v0, v1, v2, v3, v4, v5] [.int x] h Q = Q (.inl (some (.int x))) h := wp_iret (by decide +kernel : ab_cod 102 97 = some (.ireturn, 1, 0, 0, 0, 0)) rfl
/-! 103: SeamBeatsModel.route(II)I -/
set_option maxRecDepth 100000 in
theorem i103_0 {v0 v1 v2 v3 : Value} {st : List Value} {h : ab_Hp} {Q : ab_O → ab_Hp → Prop} (hv : ab_isA v0 = true) : wp 103 0 [v0, v1, v2, v3] st h Q = wp 103 1 [v0, v1, v2, v3] (v0 :: st) h Q := wp_aload_n (by decide +kernel : ab_cod 103 0 = some (.aload_n 0, 1, 0, 0, 0, 0)) hv
set_option maxRecDepth 100000 in
theorem i103_1 {v0 v2 v3 : Value} {x : Int32} {st : List Value} {h : ab_Hp} {Q : ab_O → ab_Hp → Prop} : wp 103 1 [v0, .int x, v2, v3] st h Q = wp 103 2 [v0, .int x, v2, v3] (.int x :: st) h Q := wp_stp (ri := (.iload_n 1, 1, 0, 0, 0, 0)) (by decide +kernel) rfl rfl rfl
set_option maxRecDepth 100000 in
theorem i103_2 {v0 v1 v2 v3 : Value} {a0 : Int32} {st : List Value} {h : ab_Hp} {Q : ab_O → ab_Hp → Prop} (hl : st.length ≤ 4) : wp 103 2 [v0, v1, v2, v3] (.int a0 :: st) h Q = wp 88 0 [.int a0] [] h (ab_K 103 2 [v0, v1, v2, v3] st Q) := wp_callS (as := [.int a0]) (by decide +kernel : ab_cod 103 2 = some (.invokestatic 40, 3, 88, 1, 1, 818)) rfl rfl rfl rfl hl
set_option maxRecDepth 100000 in
theorem i103_5 {v0 v1 v2 v3 : Value} {x : Int32} {st : List Value} {h : ab_Hp} {Q : ab_O → ab_Hp → Prop} : wp 103 5 [v0, v1, v2, v3] (.int x :: st) h Q = if x = 0 then wp 103 21 [v0, v1, v2, v3] st h Q else wp 103 8 [v0, v1, v2, v3] st h Q := wp_ifcP (by decide +kernel : ab_cod 103 5 = some (.ifCond .eq 16, 3, 21, 0, 0, 0)) rfl
set_option maxRecDepth 100000 in
theorem i103_8 {v0 v1 v3 : Value} {x : Int32} {st : List Value} {h : ab_Hp} {Q : ab_O → ab_Hp → Prop} : wp 103 8 [v0, v1, .int x, v3] st h Q = wp 103 9 [v0, v1, .int x, v3] (.int x :: st) h Q := wp_stp (ri := (.iload_n 2, 1, 0, 0, 0, 0)) (by decide +kernel) rfl rfl rfl
set_option maxRecDepth 100000 in
theorem i103_9 {v0 v1 v2 v3 : Value} {st : List Value} {h : ab_Hp} {Q : ab_O → ab_Hp → Prop} : wp 103 9 [v0, v1, v2, v3] st h Q = wp 103 10 [v0, v1, v2, v3] (.int ((-1)) :: st) h Q := wp_stp (ri := (.iconst (-1), 1, 0, 0, 0, 0)) (by decide +kernel) rfl rfl rfl
set_option maxRecDepth 100000 in
theorem i103_10 {v0 v1 v2 v3 : Value} {x y : Int32} {st : List Value} {h : ab_Hp} {Q : ab_O → ab_Hp → Prop} : wp 103 10 [v0, v1, v2, v3] (.int y :: .int x :: st) h Q = if x = y then wp 103 25 [v0, v1, v2, v3] st h Q else wp 103 13 [v0, v1, v2, v3] st h Q := wp_icmpP (by decide +kernel : ab_cod 103 10 = some (.if_icmp .eq 15, 3, 25, 0, 0, 0)) rfl
set_option maxRecDepth 100000 in
theorem i103_13 {v0 v1 v2 v3 : Value} {st : List Value} {h : ab_Hp} {Q : ab_O → ab_Hp → Prop} (hv : ab_isA v0 = true) : wp 103 13 [v0, v1, v2, v3] st h Q = wp 103 14 [v0, v1, v2, v3] (v0 :: st) h Q := wp_aload_n (by decide +kernel : ab_cod 103 13 = some (.aload_n 0, 1, 0, 0, 0, 0)) hv
set_option maxRecDepth 100000 in
theorem i103_14 {v0 v1 v3 : Value} {x : Int32} {st : List Value} {h : ab_Hp} {Q : ab_O → ab_Hp → Prop} : wp 103 14 [v0, v1, .int x, v3] st h Q = wp 103 15 [v0, v1, .int x, v3] (.int x :: st) h Q := wp_stp (ri := (.iload_n 2, 1, 0, 0, 0, 0)) (by decide +kernel) rfl rfl rfl
set_option maxRecDepth 100000 in
theorem i103_15 {v0 v1 v2 v3 : Value} {r : Nat} {a0 : Int32} {st : List Value} {h : ab_Hp} {Q : ab_O → ab_Hp → Prop} (hl : st.length ≤ 4) (hk : (ab_sh h r).1 = 17) : wp 103 15 [v0, v1, v2, v3] (.int a0 :: .ref r :: st) h Q = wp 89 0 [.ref r, .int a0] [] h (ab_K 103 15 [v0, v1, v2, v3] st Q) := wp_callV (as := [.int a0]) (by decide +kernel : ab_cod 103 15 = some (.invokevirtual 58, 3, 89, 2, 0, 856)) rfl rfl rfl rfl hl hk
set_option maxRecDepth 100000 in
theorem i103_18 {v0 v1 v2 v3 : Value} {x : Int32} {st : List Value} {h : ab_Hp} {Q : ab_O → ab_Hp → Prop} : wp 103 18 [v0, v1, v2, v3] (.int x :: st) h Q = if ¬ x = 0 then wp 103 25 [v0, v1, v2, v3] st h Q else wp 103 21 [v0, v1, v2, v3] st h Q := wp_ifcP (by decide +kernel : ab_cod 103 18 = some (.ifCond .ne 7, 3, 25, 0, 0, 0)) rfl
set_option maxRecDepth 100000 in
theorem i103_21 {v0 v1 v2 v3 : Value} {st : List Value} {h : ab_Hp} {Q : ab_O → ab_Hp → Prop} : wp 103 21 [v0, v1, v2, v3] st h Q = wp 103 22 [v0, v1, v2, v3] (.int (nI 1) :: st) h Q := wp_stp (ri := (.iconst 1, 1, 0, 0, 0, 0)) (by decide +kernel) rfl rfl rfl
set_option maxRecDepth 100000 in
theorem i103_22 {v0 v1 v2 v3 : Value} {st : List Value} {h : ab_Hp} {Q : ab_O → ab_Hp → Prop} : wp 103 22 [v0, v1, v2, v3] st h Q = wp 103 45 [v0, v1, v2, v3] st h Q := wp_stp (ri := (.goto 23, 3, 45, 0, 0, 0)) (by decide +kernel) rfl rfl rfl
set_option maxRecDepth 100000 in
theorem i103_25 {v0 v1 v3 : Value} {x : Int32} {st : List Value} {h : ab_Hp} {Q : ab_O → ab_Hp → Prop} : wp 103 25 [v0, v1, .int x, v3] st h Q = wp 103 26 [v0, v1, .int x, v3] (.int x :: st) h Q := wp_stp (ri := (.iload_n 2, 1, 0, 0, 0, 0)) (by decide +kernel) rfl rfl rfl
set_option maxRecDepth 100000 in
theorem i103_26 {v0 v1 v2 v3 : Value} {st : List Value} {h : ab_Hp} {Q : ab_O → ab_Hp → Prop} : wp 103 26 [v0, v1, v2, v3] st h Q = wp 103 27 [v0, v1, v2, v3] (.int ((-1)) :: st) h Q := wp_stp (ri := (.iconst (-1), 1, 0, 0, 0, 0)) (by decide +kernel) rfl rfl rfl
set_option maxRecDepth 100000 in
theorem i103_27 {v0 v1 v2 v3 : Value} {x y : Int32} {st : List Value} {h : ab_Hp} {Q : ab_O → ab_Hp → Prop} : wp 103 27 [v0, v1, v2, v3] (.int y :: .int x :: st) h Q = if x = y then wp 103 44 [v0, v1, v2, v3] st h Q else wp 103 30 [v0, v1, v2, v3] st h Q := wp_icmpP (by decide +kernel : ab_cod 103 27 = some (.if_icmp .eq 17, 3, 44, 0, 0, 0)) rfl
set_option maxRecDepth 100000 in
theorem i103_30 {v0 v1 v2 v3 : Value} {st : List Value} {h : ab_Hp} {Q : ab_O → ab_Hp → Prop} (hv : ab_isA v0 = true) : wp 103 30 [v0, v1, v2, v3] st h Q = wp 103 31 [v0, v1, v2, v3] (v0 :: st) h Q := wp_aload_n (by decide +kernel : ab_cod 103 30 = some (.aload_n 0, 1, 0, 0, 0, 0)) hv
set_option maxRecDepth 100000 in
theorem i103_31 {v0 v1 v3 : Value} {x : Int32} {st : List Value} {h : ab_Hp} {Q : ab_O → ab_Hp → Prop} : wp 103 31 [v0, v1, .int x, v3] st h Q = wp 103 32 [v0, v1, .int x, v3] (.int x :: st) h Q := wp_stp (ri := (.iload_n 2, 1, 0, 0, 0, 0)) (by decide +kernel) rfl rfl rfl
set_option maxRecDepth 100000 in
theorem i103_32 {v0 v1 v2 v3 : Value} {st : List Value} {h : ab_Hp} {Q : ab_O → ab_Hp → Prop} : wp 103 32 [v0, v1, v2, v3] st h Q = wp 103 33 [v0, v1, v2, v3] (.int (nI 0) :: st) h Q := wp_stp (ri := (.iconst 0, 1, 0, 0, 0, 0)) (by decide +kernel) rfl rfl rfl
set_option maxRecDepth 100000 in
theorem i103_33 {v0 v1 v2 v3 : Value} {r : Nat} {a0 : Int32} {a1 : Int32} {st : List Value} {h : ab_Hp} {Q : ab_O → ab_Hp → Prop} (hl : st.length ≤ 4) (hk : (ab_sh h r).1 = 17) : wp 103 33 [v0, v1, v2, v3] (.int a1 :: .int a0 :: .ref r :: st) h Q = wp 92 0 [.ref r, .int a0, .int a1] [] h (ab_K 103 33 [v0, v1, v2, v3] st Q) := wp_callV (as := [.int a0, .int a1]) (by decide +kernel : ab_cod 103 33 = some (.invokevirtual 61, 3, 92, 3, 0, 860)) rfl rfl rfl rfl hl hk
set_option maxRecDepth 100000 in
theorem i103_36 {v0 v2 v3 : Value} {x : Int32} {st : List Value} {h : ab_Hp} {Q : ab_O → ab_Hp → Prop} : wp 103 36 [v0, .int x, v2, v3] st h Q = wp 103 37 [v0, .int x, v2, v3] (.int x :: st) h Q := wp_stp (ri := (.iload_n 1, 1, 0, 0, 0, 0)) (by decide +kernel) rfl rfl rfl
set_option maxRecDepth 100000 in
theorem i103_37 {v0 v1 v2 v3 : Value} {x y : Int32} {st : List Value} {h : ab_Hp} {Q : ab_O → ab_Hp → Prop} : wp 103 37 [v0, v1, v2, v3] (.int y :: .int x :: st) h Q = if x = y then wp 103 44 [v0, v1, v2, v3] st h Q else wp 103 40 [v0, v1, v2, v3] st h Q := wp_icmpP (by decide +kernel : ab_cod 103 37 = some (.if_icmp .eq 7, 3, 44, 0, 0, 0)) rfl
set_option maxRecDepth 100000 in
theorem i103_40 {v0 v1 v2 v3 : Value} {st : List Value} {h : ab_Hp} {Q : ab_O → ab_Hp → Prop} : wp 103 40 [v0, v1, v2, v3] st h Q = wp 103 41 [v0, v1, v2, v3] (.int (nI 2) :: st) h Q := wp_stp (ri := (.iconst 2, 1, 0, 0, 0, 0)) (by decide +kernel) rfl rfl rfl
set_option maxRecDepth 100000 in
theorem i103_41 {v0 v1 v2 v3 : Value} {st : List Value} {h : ab_Hp} {Q : ab_O → ab_Hp → Prop} : wp 103 41 [v0, v1, v2, v3] st h Q = wp 103 45 [v0, v1, v2, v3] st h Q := wp_stp (ri := (.goto 4, 3, 45, 0, 0, 0)) (by decide +kernel) rfl rfl rfl
set_option maxRecDepth 100000 in
theorem i103_44 {v0 v1 v2 v3 : Value} {st : List Value} {h : ab_Hp} {Q : ab_O → ab_Hp → Prop} : wp 103 44 [v0, v1, v2, v3] st h Q = wp 103 45 [v0, v1, v2, v3] (.int (nI 0) :: st) h Q := wp_stp (ri := (.iconst 0, 1, 0, 0, 0, 0)) (by decide +kernel) rfl rfl rfl
set_option maxRecDepth 100000 in
theorem i103_45 {v0 v1 v2 v3 : Value} {r : Nat} {x : Int32} {st : List Value} {h : ab_Hp} {Q : ab_O → ab_Hp → Prop} (hk : (ab_sh h r).1 = 17) : wp 103 45 [v0, v1, v2, v3] (.int x :: .ref r :: st) h Q = wp 103 48 [v0, v1, v2, v3] st (ab_setI h (ab_u (ab_hi h) r 0 x)) Q := wp_pf (by decide +kernel : ab_cod 103 45 = some (.putfield 29, 3, 7, 0, 772, 0)) hk rfl
set_option maxRecDepth 100000 in
theorem i103_48 {v0 v1 v2 v3 : Value} {st : List Value} {h : ab_Hp} {Q : ab_O → ab_Hp → Prop} (hv : ab_isA v0 = true) : wp 103 48 [v0, v1, v2, v3] st h Q = wp 103 49 [v0, v1, v2, v3] (v0 :: st) h Q := wp_aload_n (by decide +kernel : ab_cod 103 48 = some (.aload_n 0, 1, 0, 0, 0, 0)) hv
set_option maxRecDepth 100000 in
theorem i103_49 {v0 v1 v2 v3 : Value} {r : Nat} {st : List Value} {h : ab_Hp} {Q : ab_O → ab_Hp → Prop} (hk : (ab_sh h r).1 = 17) : wp 103 49 [v0, v1, v2, v3] (.ref r :: st) h Q = wp 103 52 [v0, v1, v2, v3] (.int (ab_hi h r 0) :: st) h Q := wp_gf (by decide +kernel : ab_cod 103 49 = some (.getfield 29, 3, 7, 0, 772, 0)) hk
set_option maxRecDepth 100000 in
theorem i103_52 {v0 v1 v2 v3 : Value} {x : Int32} {st : List Value} {h : ab_Hp} {Q : ab_O → ab_Hp → Prop} : wp 103 52 [v0, v1, v2, v3] (.int x :: st) h Q = if x ≤ 0 then wp 103 57 [v0, v1, v2, v3] st h Q else wp 103 55 [v0, v1, v2, v3] st h Q := wp_ifcP (by decide +kernel : ab_cod 103 52 = some (.ifCond .le 5, 3, 57, 0, 0, 0)) rfl
set_option maxRecDepth 100000 in
theorem i103_55 {v0 v1 v2 v3 : Value} {st : List Value} {h : ab_Hp} {Q : ab_O → ab_Hp → Prop} : wp 103 55 [v0, v1, v2, v3] st h Q = wp 103 56 [v0, v1, v2, v3] (.int (nI 0) :: st) h Q := wp_stp (ri := (.iconst 0, 1, 0, 0, 0, 0)) (by decide +kernel) rfl rfl rfl
set_option maxRecDepth 100000 in
theorem i103_56 {v0 v1 v2 v3 : Value} {x : Int32} {h : ab_Hp} {Q : ab_O → ab_Hp → Prop} : wp 103 56 [v0, v1, v2, v3] [.int x] h Q = Q (.inl (some (.int x))) h := wp_iret (by decide +kernel : ab_cod 103 56 = some (.ireturn, 1, 0, 0, 0, 0)) rfl
set_option maxRecDepth 100000 in
theorem i103_57 {v0 v1 v2 v3 : Value} {st : List Value} {h : ab_Hp} {Q : ab_O → ab_Hp → Prop} (hv : ab_isA v0 = true) : wp 103 57 [v0, v1, v2, v3] st h Q = wp 103 58 [v0, v1, v2, v3] (v0 :: st) h Q := wp_aload_n (by decide +kernel : ab_cod 103 57 = some (.aload_n 0, 1, 0, 0, 0, 0)) hv
set_option maxRecDepth 100000 in
theorem i103_58 {v0 v1 v2 v3 : Value} {r : Nat} {st : List Value} {h : ab_Hp} {Q : ab_O → ab_Hp → Prop} (hl : st.length ≤ 4) (hk : (ab_sh h r).1 = 17) : wp 103 58 [v0, v1, v2, v3] (.ref r :: st) h Q = wp 94 0 [.ref r, ab_nov] [] h (ab_K 103 58 [v0, v1, v2, v3] st Q) := wp_callV (as := []) (by decide +kernel : ab_cod 103 58 = some (.invokevirtual 44, 3, 94, 1, 0, 824)) rfl rfl rfl rfl hl hk
set_option maxRecDepth 100000 in
theorem i103_61 {v0 v1 v2 v3 : Value} {st : List Value} {h : ab_Hp} {Q : ab_O → ab_Hp → Prop} (hv : ab_isA v0 = true) : wp 103 61 [v0, v1, v2, v3] st h Q = wp 103 62 [v0, v1, v2, v3] (v0 :: st) h Q := wp_aload_n (by decide +kernel : ab_cod 103 61 = some (.aload_n 0, 1, 0, 0, 0, 0)) hv
set_option maxRecDepth 100000 in
theorem i103_62 {v0 v2 v3 : Value} {x : Int32} {st : List Value} {h : ab_Hp} {Q : ab_O → ab_Hp → Prop} : wp 103 62 [v0, .int x, v2, v3] st h Q = wp 103 63 [v0, .int x, v2, v3] (.int x :: st) h Q := wp_stp (ri := (.iload_n 1, 1, 0, 0, 0, 0)) (by decide +kernel) rfl rfl rfl
set_option maxRecDepth 100000 in
theorem i103_63 {v0 v1 v2 v3 : Value} {st : List Value} {h : ab_Hp} {Q : ab_O → ab_Hp → Prop} : wp 103 63 [v0, v1, v2, v3] st h Q = wp 103 64 [v0, v1, v2, v3] (.int (nI 3) :: st) h Q := wp_stp (ri := (.iconst 3, 1, 0, 0, 0, 0)) (by decide +kernel) rfl rfl rfl
set_option maxRecDepth 100000 in
theorem i103_64 {v0 v1 v2 v3 : Value} {r : Nat} {a0 : Int32} {a1 : Int32} {st : List Value} {h : ab_Hp} {Q : ab_O → ab_Hp → Prop} (hl : st.length ≤ 4) (hk : (ab_sh h r).1 = 17) : wp 103 64 [v0, v1, v2, v3] (.int a1 :: .int a0 :: .ref r :: st) h Q = wp 90 0 [.ref r, .int a0, .int a1] [] h (ab_K 103 64 [v0, v1, v2, v3] st Q) := wp_callV (as := [.int a0, .int a1]) (by decide +kernel : ab_cod 103 64 = some (.invokevirtual 47, 3, 90, 3, 0, 828)) rfl rfl rfl rfl hl hk
set_option maxRecDepth 100000 in
theorem i103_67 {v0 v1 v2 v3 : Value} {w : Int32} {st : List Value} {h : ab_Hp} {Q : ab_O → ab_Hp → Prop} : wp 103 67 [v0, v1, v2, v3] (.int w :: st) h Q = wp 103 68 [v0, v1, ab_clr v2, .int w] st h Q := wp_stp (ri := (.istore_n 3, 1, 0, 0, 0, 0)) (by decide +kernel) rfl rfl rfl
set_option maxRecDepth 100000 in
theorem i103_68 {v0 v1 v2 v3 : Value} {st : List Value} {h : ab_Hp} {Q : ab_O → ab_Hp → Prop} (hv : ab_isA v0 = true) : wp 103 68 [v0, v1, v2, v3] st h Q = wp 103 69 [v0, v1, v2, v3] (v0 :: st) h Q := wp_aload_n (by decide +kernel : ab_cod 103 68 = some (.aload_n 0, 1, 0, 0, 0, 0)) hv
set_option maxRecDepth 100000 in
theorem i103_69 {v0 v2 v3 : Value} {x : Int32} {st : List Value} {h : ab_Hp} {Q : ab_O → ab_Hp → Prop} : wp 103 69 [v0, .int x, v2, v3] st h Q = wp 103 70 [v0, .int x, v2, v3] (.int x :: st) h Q := wp_stp (ri := (.iload_n 1, 1, 0, 0, 0, 0)) (by decide +kernel) rfl rfl rfl
set_option maxRecDepth 100000 in
theorem i103_70 {v0 v1 v2 v3 : Value} {st : List Value} {h : ab_Hp} {Q : ab_O → ab_Hp → Prop} : wp 103 70 [v0, v1, v2, v3] st h Q = wp 103 71 [v0, v1, v2, v3] (.int (nI 3) :: st) h Q := wp_stp (ri := (.iconst 3, 1, 0, 0, 0, 0)) (by decide +kernel) rfl rfl rfl
set_option maxRecDepth 100000 in
theorem i103_71 {v0 v1 v3 : Value} {x : Int32} {st : List Value} {h : ab_Hp} {Q : ab_O → ab_Hp → Prop} : wp 103 71 [v0, v1, .int x, v3] st h Q = wp 103 72 [v0, v1, .int x, v3] (.int x :: st) h Q := wp_stp (ri := (.iload_n 2, 1, 0, 0, 0, 0)) (by decide +kernel) rfl rfl rfl
set_option maxRecDepth 100000 in
theorem i103_72 {v0 v1 v2 v3 : Value} {r : Nat} {a0 : Int32} {a1 : Int32} {a2 : Int32} {st : List Value} {h : ab_Hp} {Q : ab_O → ab_Hp → Prop} (hl : st.length ≤ 4) (hk : (ab_sh h r).1 = 17) : wp 103 72 [v0, v1, v2, v3] (.int a2 :: .int a1 :: .int a0 :: .ref r :: st) h Q = wp 91 0 [.ref r, .int a0, .int a1, .int a2] [] h (ab_K 103 72 [v0, v1, v2, v3] st Q) := wp_callV (as := [.int a0, .int a1, .int a2]) (by decide +kernel : ab_cod 103 72 = some (.invokevirtual 25, 3, 91, 4, 0, 768)) rfl rfl rfl rfl hl hk
set_option maxRecDepth 100000 in
theorem i103_75 {v0 v1 v2 : Value} {x : Int32} {st : List Value} {h : ab_Hp} {Q : ab_O → ab_Hp → Prop} : wp 103 75 [v0, v1, v2, .int x] st h Q = wp 103 76 [v0, v1, v2, .int x] (.int x :: st) h Q := wp_stp (ri := (.iload_n 3, 1, 0, 0, 0, 0)) (by decide +kernel) rfl rfl rfl
set_option maxRecDepth 100000 in
theorem i103_76 {v0 v1 v2 v3 : Value} {x : Int32} {h : ab_Hp} {Q : ab_O → ab_Hp → Prop} : wp 103 76 [v0, v1, v2, v3] [.int x] h Q = Q (.inl (some (.int x))) h := wp_iret (by decide +kernel : ab_cod 103 76 = some (.ireturn, 1, 0, 0, 0, 0)) rfl
/-! 104: SeamBeatsModel.enter(III)V -/
theorem i104_0 {v0 v1 v2 v3 v4 : Value} {st : List Value} {h : ab_Hp} {Q : ab_O → ab_Hp → Prop} (hv : ab_isA v0 = true) : wp 104 0 [v0, v1, v2, v3, v4] st h Q = wp 104 1 [v0, v1, v2, v3, v4] (v0 :: st) h Q := wp_aload_n (by decide +kernel : ab_cod 104 0 = some (.aload_n 0, 1, 0, 0, 0, 0)) hv
theorem i104_1 {v0 v2 v3 v4 : Value} {x : Int32} {st : List Value} {h : ab_Hp} {Q : ab_O → ab_Hp → Prop} : wp 104 1 [v0, .int x, v2, v3, v4] st h Q = wp 104 2 [v0, .int x, v2, v3, v4] (.int x :: st) h Q := wp_stp (ri := (.iload_n 1, 1, 0, 0, 0, 0)) (by decide +kernel) rfl rfl rfl
theorem i104_2 {v0 v1 v2 v3 v4 : Value} {st : List Value} {h : ab_Hp} {Q : ab_O → ab_Hp → Prop} : wp 104 2 [v0, v1, v2, v3, v4] st h Q = wp 104 3 [v0, v1, v2, v3, v4] (.int (nI 4) :: st) h Q := wp_stp (ri := (.iconst 4, 1, 0, 0, 0, 0)) (by decide +kernel) rfl rfl rfl
theorem i104_3 {v0 v1 v2 v3 v4 : Value} {r : Nat} {a0 : Int32} {a1 : Int32} {st : List Value} {h : ab_Hp} {Q : ab_O → ab_Hp → Prop} (hl : st.length ≤ 4) (hk : (ab_sh h r).1 = 17) : wp 104 3 [v0, v1, v2, v3, v4] (.int a1 :: .int a0 :: .ref r :: st) h Q = wp 90 0 [.ref r, .int a0, .int a1] [] h (ab_K 104 3 [v0, v1, v2, v3, v4] st Q) := wp_callV (as := [.int a0, .int a1]) (by decide +kernel : ab_cod 104 3 = some (.invokevirtual 47, 3, 90, 3, 0, 828)) rfl rfl rfl rfl hl hk
theorem i104_6 {v0 v1 v2 v3 v4 : Value} {w : Int32} {st : List Value} {h : ab_Hp} {Q : ab_O → ab_Hp → Prop} : wp 104 6 [v0, v1, v2, v3, v4] (.int w :: st) h Q = wp 104 8 [v0, v1, v2, ab_clr v3, .int w] st h Q := wp_stp (ri := (.istore 4, 2, 0, 0, 0, 0)) (by decide +kernel) rfl rfl rfl
theorem i104_8 {v0 v1 v2 v3 v4 : Value} {st : List Value} {h : ab_Hp} {Q : ab_O → ab_Hp → Prop} (hv : ab_isA v0 = true) : wp 104 8 [v0, v1, v2, v3, v4] st h Q = wp 104 9 [v0, v1, v2, v3, v4] (v0 :: st) h Q := wp_aload_n (by decide +kernel : ab_cod 104 8 = some (.aload_n 0, 1, 0, 0, 0, 0)) hv
theorem i104_9 {v0 v2 v3 v4 : Value} {x : Int32} {st : List Value} {h : ab_Hp} {Q : ab_O → ab_Hp → Prop} : wp 104 9 [v0, .int x, v2, v3, v4] st h Q = wp 104 10 [v0, .int x, v2, v3, v4] (.int x :: st) h Q := wp_stp (ri := (.iload_n 1, 1, 0, 0, 0, 0)) (by decide +kernel) rfl rfl rfl
theorem i104_10 {v0 v1 v2 v3 v4 : Value} {st : List Value} {h : ab_Hp} {Q : ab_O → ab_Hp → Prop} : wp 104 10 [v0, v1, v2, v3, v4] st h Q = wp 104 12 [v0, v1, v2, v3, v4] (.int (nI 11) :: st) h Q := wp_stp (ri := (.bipush 11, 2, 0, 0, 0, 0)) (by decide +kernel) rfl rfl rfl
theorem i104_12 {v0 v1 v2 v3 v4 : Value} {st : List Value} {h : ab_Hp} {Q : ab_O → ab_Hp → Prop} : wp 104 12 [v0, v1, v2, v3, v4] st h Q = wp 104 13 [v0, v1, v2, v3, v4] (.int (nI 2) :: st) h Q := wp_stp (ri := (.iconst 2, 1, 0, 0, 0, 0)) (by decide +kernel) rfl rfl rfl
theorem i104_13 {v0 v1 v2 v3 : Value} {x : Int32} {st : List Value} {h : ab_Hp} {Q : ab_O → ab_Hp → Prop} : wp 104 13 [v0, v1, v2, v3, .int x] st h Q = wp 104 15 [v0, v1, v2, v3, .int x] (.int x :: st) h Q := wp_stp (ri := (.iload 4, 2, 0, 0, 0, 0)) (by decide +kernel) rfl rfl rfl
theorem i104_15 {v0 v1 v2 v3 v4 : Value} {x y : Int32} {st : List Value} {h : ab_Hp} {Q : ab_O → ab_Hp → Prop} : wp 104 15 [v0, v1, v2, v3, v4] (.int y :: .int x :: st) h Q = wp 104 16 [v0, v1, v2, v3, v4] (.int (x * y) :: st) h Q := wp_stp (ri := (.imul, 1, 0, 0, 0, 0)) (by decide +kernel) rfl rfl rfl
theorem i104_16 {v0 v1 v2 v3 v4 : Value} {x y : Int32} {st : List Value} {h : ab_Hp} {Q : ab_O → ab_Hp → Prop} : wp 104 16 [v0, v1, v2, v3, v4] (.int y :: .int x :: st) h Q = wp 104 17 [v0, v1, v2, v3, v4] (.int (x + y) :: st) h Q := wp_stp (ri := (.iadd, 1, 0, 0, 0, 0)) (by decide +kernel) rfl rfl rfl
theorem i104_17 {v0 v1 v3 v4 : Value} {x : Int32} {st : List Value} {h : ab_Hp} {Q : ab_O → ab_Hp → Prop} : wp 104 17 [v0, v1, .int x, v3, v4] st h Q = wp 104 18 [v0, v1, .int x, v3, v4] (.int x :: st) h Q := wp_stp (ri := (.iload_n 2, 1, 0, 0, 0, 0)) (by decide +kernel) rfl rfl rfl
theorem i104_18 {v0 v1 v2 v3 v4 : Value} {r : Nat} {a0 : Int32} {a1 : Int32} {a2 : Int32} {st : List Value} {h : ab_Hp} {Q : ab_O → ab_Hp → Prop} (hl : st.length ≤ 4) (hk : (ab_sh h r).1 = 17) : wp 104 18 [v0, v1, v2, v3, v4] (.int a2 :: .int a1 :: .int a0 :: .ref r :: st) h Q = wp 91 0 [.ref r, .int a0, .int a1, .int a2] [] h (ab_K 104 18 [v0, v1, v2, v3, v4] st Q) := wp_callV (as := [.int a0, .int a1, .int a2]) (by decide +kernel : ab_cod 104 18 = some (.invokevirtual 25, 3, 91, 4, 0, 768)) rfl rfl rfl rfl hl hk
theorem i104_21 {v0 v1 v2 v3 v4 : Value} {st : List Value} {h : ab_Hp} {Q : ab_O → ab_Hp → Prop} (hv : ab_isA v0 = true) : wp 104 21 [v0, v1, v2, v3, v4] st h Q = wp 104 22 [v0, v1, v2, v3, v4] (v0 :: st) h Q := wp_aload_n (by decide +kernel : ab_cod 104 21 = some (.aload_n 0, 1, 0, 0, 0, 0)) hv
theorem i104_22 {v0 v2 v3 v4 : Value} {x : Int32} {st : List Value} {h : ab_Hp} {Q : ab_O → ab_Hp → Prop} : wp 104 22 [v0, .int x, v2, v3, v4] st h Q = wp 104 23 [v0, .int x, v2, v3, v4] (.int x :: st) h Q := wp_stp (ri := (.iload_n 1, 1, 0, 0, 0, 0)) (by decide +kernel) rfl rfl rfl
theorem i104_23 {v0 v1 v2 v3 v4 : Value} {st : List Value} {h : ab_Hp} {Q : ab_O → ab_Hp → Prop} : wp 104 23 [v0, v1, v2, v3, v4] st h Q = wp 104 25 [v0, v1, v2, v3, v4] (.int (nI 11) :: st) h Q := wp_stp (ri := (.bipush 11, 2, 0, 0, 0, 0)) (by decide +kernel) rfl rfl rfl
theorem i104_25 {v0 v1 v2 v3 v4 : Value} {st : List Value} {h : ab_Hp} {Q : ab_O → ab_Hp → Prop} : wp 104 25 [v0, v1, v2, v3, v4] st h Q = wp 104 26 [v0, v1, v2, v3, v4] (.int (nI 2) :: st) h Q := wp_stp (ri := (.iconst 2, 1, 0, 0, 0, 0)) (by decide +kernel) rfl rfl rfl
theorem i104_26 {v0 v1 v2 v3 : Value} {x : Int32} {st : List Value} {h : ab_Hp} {Q : ab_O → ab_Hp → Prop} : wp 104 26 [v0, v1, v2, v3, .int x] st h Q = wp 104 28 [v0, v1, v2, v3, .int x] (.int x :: st) h Q := wp_stp (ri := (.iload 4, 2, 0, 0, 0, 0)) (by decide +kernel) rfl rfl rfl
theorem i104_28 {v0 v1 v2 v3 v4 : Value} {x y : Int32} {st : List Value} {h : ab_Hp} {Q : ab_O → ab_Hp → Prop} : wp 104 28 [v0, v1, v2, v3, v4] (.int y :: .int x :: st) h Q = wp 104 29 [v0, v1, v2, v3, v4] (.int (x * y) :: st) h Q := wp_stp (ri := (.imul, 1, 0, 0, 0, 0)) (by decide +kernel) rfl rfl rfl
theorem i104_29 {v0 v1 v2 v3 v4 : Value} {x y : Int32} {st : List Value} {h : ab_Hp} {Q : ab_O → ab_Hp → Prop} : wp 104 29 [v0, v1, v2, v3, v4] (.int y :: .int x :: st) h Q = wp 104 30 [v0, v1, v2, v3, v4] (.int (x + y) :: st) h Q := wp_stp (ri := (.iadd, 1, 0, 0, 0, 0)) (by decide +kernel) rfl rfl rfl
theorem i104_30 {v0 v1 v2 v3 v4 : Value} {st : List Value} {h : ab_Hp} {Q : ab_O → ab_Hp → Prop} : wp 104 30 [v0, v1, v2, v3, v4] st h Q = wp 104 31 [v0, v1, v2, v3, v4] (.int (nI 1) :: st) h Q := wp_stp (ri := (.iconst 1, 1, 0, 0, 0, 0)) (by decide +kernel) rfl rfl rfl
theorem i104_31 {v0 v1 v2 v3 v4 : Value} {x y : Int32} {st : List Value} {h : ab_Hp} {Q : ab_O → ab_Hp → Prop} : wp 104 31 [v0, v1, v2, v3, v4] (.int y :: .int x :: st) h Q = wp 104 32 [v0, v1, v2, v3, v4] (.int (x + y) :: st) h Q := wp_stp (ri := (.iadd, 1, 0, 0, 0, 0)) (by decide +kernel) rfl rfl rfl
theorem i104_32 {v0 v1 v2 v4 : Value} {x : Int32} {st : List Value} {h : ab_Hp} {Q : ab_O → ab_Hp → Prop} : wp 104 32 [v0, v1, v2, .int x, v4] st h Q = wp 104 33 [v0, v1, v2, .int x, v4] (.int x :: st) h Q := wp_stp (ri := (.iload_n 3, 1, 0, 0, 0, 0)) (by decide +kernel) rfl rfl rfl
theorem i104_33 {v0 v1 v2 v3 v4 : Value} {r : Nat} {a0 : Int32} {a1 : Int32} {a2 : Int32} {st : List Value} {h : ab_Hp} {Q : ab_O → ab_Hp → Prop} (hl : st.length ≤ 4) (hk : (ab_sh h r).1 = 17) : wp 104 33 [v0, v1, v2, v3, v4] (.int a2 :: .int a1 :: .int a0 :: .ref r :: st) h Q = wp 91 0 [.ref r, .int a0, .int a1, .int a2] [] h (ab_K 104 33 [v0, v1, v2, v3, v4] st Q) := wp_callV (as := [.int a0, .int a1, .int a2]) (by decide +kernel : ab_cod 104 33 = some (.invokevirtual 25, 3, 91, 4, 0, 768)) rfl rfl rfl rfl hl hk
theorem i104_36 {v0 v1 v2 v3 v4 : Value} {st : List Value} {h : ab_Hp} {Q : ab_O → ab_Hp → Prop} (hv : ab_isA v0 = true) : wp 104 36 [v0, v1, v2, v3, v4] st h Q = wp 104 37 [v0, v1, v2, v3, v4] (v0 :: st) h Q := wp_aload_n (by decide +kernel : ab_cod 104 36 = some (.aload_n 0, 1, 0, 0, 0, 0)) hv
theorem i104_37 {v0 v2 v3 v4 : Value} {x : Int32} {st : List Value} {h : ab_Hp} {Q : ab_O → ab_Hp → Prop} : wp 104 37 [v0, .int x, v2, v3, v4] st h Q = wp 104 38 [v0, .int x, v2, v3, v4] (.int x :: st) h Q := wp_stp (ri := (.iload_n 1, 1, 0, 0, 0, 0)) (by decide +kernel) rfl rfl rfl
theorem i104_38 {v0 v1 v2 v3 v4 : Value} {st : List Value} {h : ab_Hp} {Q : ab_O → ab_Hp → Prop} : wp 104 38 [v0, v1, v2, v3, v4] st h Q = wp 104 39 [v0, v1, v2, v3, v4] (.int (nI 4) :: st) h Q := wp_stp (ri := (.iconst 4, 1, 0, 0, 0, 0)) (by decide +kernel) rfl rfl rfl
theorem i104_39 {v0 v1 v2 v3 : Value} {x : Int32} {st : List Value} {h : ab_Hp} {Q : ab_O → ab_Hp → Prop} : wp 104 39 [v0, v1, v2, v3, .int x] st h Q = wp 104 41 [v0, v1, v2, v3, .int x] (.int x :: st) h Q := wp_stp (ri := (.iload 4, 2, 0, 0, 0, 0)) (by decide +kernel) rfl rfl rfl
theorem i104_41 {v0 v1 v2 v3 v4 : Value} {st : List Value} {h : ab_Hp} {Q : ab_O → ab_Hp → Prop} : wp 104 41 [v0, v1, v2, v3, v4] st h Q = wp 104 42 [v0, v1, v2, v3, v4] (.int (nI 1) :: st) h Q := wp_stp (ri := (.iconst 1, 1, 0, 0, 0, 0)) (by decide +kernel) rfl rfl rfl
theorem i104_42 {v0 v1 v2 v3 v4 : Value} {x y : Int32} {st : List Value} {h : ab_Hp} {Q : ab_O → ab_Hp → Prop} : wp 104 42 [v0, v1, v2, v3, v4] (.int y :: .int x :: st) h Q = wp 104 43 [v0, v1, v2, v3, v4] (.int (x + y) :: st) h Q := wp_stp (ri := (.iadd, 1, 0, 0, 0, 0)) (by decide +kernel) rfl rfl rfl
theorem i104_43 {v0 v1 v2 v3 v4 : Value} {r : Nat} {a0 : Int32} {a1 : Int32} {a2 : Int32} {st : List Value} {h : ab_Hp} {Q : ab_O → ab_Hp → Prop} (hl : st.length ≤ 4) (hk : (ab_sh h r).1 = 17) : wp 104 43 [v0, v1, v2, v3, v4] (.int a2 :: .int a1 :: .int a0 :: .ref r :: st) h Q = wp 91 0 [.ref r, .int a0, .int a1, .int a2] [] h (ab_K 104 43 [v0, v1, v2, v3, v4] st Q) := wp_callV (as := [.int a0, .int a1, .int a2]) (by decide +kernel : ab_cod 104 43 = some (.invokevirtual 25, 3, 91, 4, 0, 768)) rfl rfl rfl rfl hl hk
theorem i104_46 {v0 v1 v2 v3 v4 : Value} {h : ab_Hp} {Q : ab_O → ab_Hp → Prop} : wp 104 46 [v0, v1, v2, v3, v4] [] h Q = Q (.inl none) h := wp_vret (by decide +kernel : ab_cod 104 46 = some (.return_, 1, 0, 0, 0, 0)) rfl
/-! 105: SeamBeatsModel.leave(I)V -/
theorem i105_0 {v0 v1 v2 v3 : Value} {st : List Value} {h : ab_Hp} {Q : ab_O → ab_Hp → Prop} (hv : ab_isA v0 = true) : wp 105 0 [v0, v1, v2, v3] st h Q = wp 105 1 [v0, v1, v2, v3] (v0 :: st) h Q := wp_aload_n (by decide +kernel : ab_cod 105 0 = some (.aload_n 0, 1, 0, 0, 0, 0)) hv
theorem i105_1 {v0 v2 v3 : Value} {x : Int32} {st : List Value} {h : ab_Hp} {Q : ab_O → ab_Hp → Prop} : wp 105 1 [v0, .int x, v2, v3] st h Q = wp 105 2 [v0, .int x, v2, v3] (.int x :: st) h Q := wp_stp (ri := (.iload_n 1, 1, 0, 0, 0, 0)) (by decide +kernel) rfl rfl rfl
theorem i105_2 {v0 v1 v2 v3 : Value} {st : List Value} {h : ab_Hp} {Q : ab_O → ab_Hp → Prop} : wp 105 2 [v0, v1, v2, v3] st h Q = wp 105 3 [v0, v1, v2, v3] (.int (nI 4) :: st) h Q := wp_stp (ri := (.iconst 4, 1, 0, 0, 0, 0)) (by decide +kernel) rfl rfl rfl
theorem i105_3 {v0 v1 v2 v3 : Value} {r : Nat} {a0 : Int32} {a1 : Int32} {st : List Value} {h : ab_Hp} {Q : ab_O → ab_Hp → Prop} (hl : st.length ≤ 4) (hk : (ab_sh h r).1 = 17) : wp 105 3 [v0, v1, v2, v3] (.int a1 :: .int a0 :: .ref r :: st) h Q = wp 90 0 [.ref r, .int a0, .int a1] [] h (ab_K 105 3 [v0, v1, v2, v3] st Q) := wp_callV (as := [.int a0, .int a1]) (by decide +kernel : ab_cod 105 3 = some (.invokevirtual 47, 3, 90, 3, 0, 828)) rfl rfl rfl rfl hl hk
theorem i105_6 {v0 v1 v2 v3 : Value} {st : List Value} {h : ab_Hp} {Q : ab_O → ab_Hp → Prop} : wp 105 6 [v0, v1, v2, v3] st h Q = wp 105 7 [v0, v1, v2, v3] (.int (nI 1) :: st) h Q := wp_stp (ri := (.iconst 1, 1, 0, 0, 0, 0)) (by decide +kernel) rfl rfl rfl
theorem i105_7 {v0 v1 v2 v3 : Value} {x y : Int32} {st : List Value} {h : ab_Hp} {Q : ab_O → ab_Hp → Prop} : wp 105 7 [v0, v1, v2, v3] (.int y :: .int x :: st) h Q = wp 105 8 [v0, v1, v2, v3] (.int (x - y) :: st) h Q := wp_stp (ri := (.isub, 1, 0, 0, 0, 0)) (by decide +kernel) rfl rfl rfl
theorem i105_8 {v0 v1 v2 v3 : Value} {w : Int32} {st : List Value} {h : ab_Hp} {Q : ab_O → ab_Hp → Prop} : wp 105 8 [v0, v1, v2, v3] (.int w :: st) h Q = wp 105 9 [v0, ab_clr v1, .int w, v3] st h Q := wp_stp (ri := (.istore_n 2, 1, 0, 0, 0, 0)) (by decide +kernel) rfl rfl rfl
theorem i105_9 {v0 v1 v2 v3 : Value} {st : List Value} {h : ab_Hp} {Q : ab_O → ab_Hp → Prop} : wp 105 9 [v0, v1, v2, v3] st h Q = wp 105 10 [v0, v1, v2, v3] (.int (nI 0) :: st) h Q := wp_stp (ri := (.iconst 0, 1, 0, 0, 0, 0)) (by decide +kernel) rfl rfl rfl
theorem i105_10 {v0 v1 v2 v3 : Value} {w : Int32} {st : List Value} {h : ab_Hp} {Q : ab_O → ab_Hp → Prop} : wp 105 10 [v0, v1, v2, v3] (.int w :: st) h Q = wp 105 11 [v0, v1, ab_clr v2, .int w] st h Q := wp_stp (ri := (.istore_n 3, 1, 0, 0, 0, 0)) (by decide +kernel) rfl rfl rfl
theorem i105_11 {v0 v1 v2 : Value} {x : Int32} {st : List Value} {h : ab_Hp} {Q : ab_O → ab_Hp → Prop} : wp 105 11 [v0, v1, v2, .int x] st h Q = wp 105 12 [v0, v1, v2, .int x] (.int x :: st) h Q := wp_stp (ri := (.iload_n 3, 1, 0, 0, 0, 0)) (by decide +kernel) rfl rfl rfl
theorem i105_12 {v0 v1 v2 v3 : Value} {st : List Value} {h : ab_Hp} {Q : ab_O → ab_Hp → Prop} : wp 105 12 [v0, v1, v2, v3] st h Q = wp 105 13 [v0, v1, v2, v3] (.int (nI 2) :: st) h Q := wp_stp (ri := (.iconst 2, 1, 0, 0, 0, 0)) (by decide +kernel) rfl rfl rfl
theorem i105_13 {v0 v1 v3 : Value} {x : Int32} {st : List Value} {h : ab_Hp} {Q : ab_O → ab_Hp → Prop} : wp 105 13 [v0, v1, .int x, v3] st h Q = wp 105 14 [v0, v1, .int x, v3] (.int x :: st) h Q := wp_stp (ri := (.iload_n 2, 1, 0, 0, 0, 0)) (by decide +kernel) rfl rfl rfl
theorem i105_14 {v0 v1 v2 v3 : Value} {x y : Int32} {st : List Value} {h : ab_Hp} {Q : ab_O → ab_Hp → Prop} : wp 105 14 [v0, v1, v2, v3] (.int y :: .int x :: st) h Q = wp 105 15 [v0, v1, v2, v3] (.int (x * y) :: st) h Q := wp_stp (ri := (.imul, 1, 0, 0, 0, 0)) (by decide +kernel) rfl rfl rfl
theorem i105_15 {v0 v1 v2 v3 : Value} {x y : Int32} {st : List Value} {h : ab_Hp} {Q : ab_O → ab_Hp → Prop} : wp 105 15 [v0, v1, v2, v3] (.int y :: .int x :: st) h Q = if y ≤ x then wp 105 44 [v0, v1, v2, v3] st h Q else wp 105 18 [v0, v1, v2, v3] st h Q := wp_icmpP (by decide +kernel : ab_cod 105 15 = some (.if_icmp .ge 29, 3, 44, 0, 0, 0)) rfl
theorem i105_18 {v0 v1 v2 v3 : Value} {st : List Value} {h : ab_Hp} {Q : ab_O → ab_Hp → Prop} (hv : ab_isA v0 = true) : wp 105 18 [v0, v1, v2, v3] st h Q = wp 105 19 [v0, v1, v2, v3] (v0 :: st) h Q := wp_aload_n (by decide +kernel : ab_cod 105 18 = some (.aload_n 0, 1, 0, 0, 0, 0)) hv
theorem i105_19 {v0 v2 v3 : Value} {x : Int32} {st : List Value} {h : ab_Hp} {Q : ab_O → ab_Hp → Prop} : wp 105 19 [v0, .int x, v2, v3] st h Q = wp 105 20 [v0, .int x, v2, v3] (.int x :: st) h Q := wp_stp (ri := (.iload_n 1, 1, 0, 0, 0, 0)) (by decide +kernel) rfl rfl rfl
theorem i105_20 {v0 v1 v2 v3 : Value} {st : List Value} {h : ab_Hp} {Q : ab_O → ab_Hp → Prop} : wp 105 20 [v0, v1, v2, v3] st h Q = wp 105 22 [v0, v1, v2, v3] (.int (nI 11) :: st) h Q := wp_stp (ri := (.bipush 11, 2, 0, 0, 0, 0)) (by decide +kernel) rfl rfl rfl
theorem i105_22 {v0 v1 v2 : Value} {x : Int32} {st : List Value} {h : ab_Hp} {Q : ab_O → ab_Hp → Prop} : wp 105 22 [v0, v1, v2, .int x] st h Q = wp 105 23 [v0, v1, v2, .int x] (.int x :: st) h Q := wp_stp (ri := (.iload_n 3, 1, 0, 0, 0, 0)) (by decide +kernel) rfl rfl rfl
theorem i105_23 {v0 v1 v2 v3 : Value} {x y : Int32} {st : List Value} {h : ab_Hp} {Q : ab_O → ab_Hp → Prop} : wp 105 23 [v0, v1, v2, v3] (.int y :: .int x :: st) h Q = wp 105 24 [v0, v1, v2, v3] (.int (x + y) :: st) h Q := wp_stp (ri := (.iadd, 1, 0, 0, 0, 0)) (by decide +kernel) rfl rfl rfl
theorem i105_24 {v0 v1 v2 v3 : Value} {st : List Value} {h : ab_Hp} {Q : ab_O → ab_Hp → Prop} (hv : ab_isA v0 = true) : wp 105 24 [v0, v1, v2, v3] st h Q = wp 105 25 [v0, v1, v2, v3] (v0 :: st) h Q := wp_aload_n (by decide +kernel : ab_cod 105 24 = some (.aload_n 0, 1, 0, 0, 0, 0)) hv
theorem i105_25 {v0 v2 v3 : Value} {x : Int32} {st : List Value} {h : ab_Hp} {Q : ab_O → ab_Hp → Prop} : wp 105 25 [v0, .int x, v2, v3] st h Q = wp 105 26 [v0, .int x, v2, v3] (.int x :: st) h Q := wp_stp (ri := (.iload_n 1, 1, 0, 0, 0, 0)) (by decide +kernel) rfl rfl rfl
theorem i105_26 {v0 v1 v2 v3 : Value} {st : List Value} {h : ab_Hp} {Q : ab_O → ab_Hp → Prop} : wp 105 26 [v0, v1, v2, v3] st h Q = wp 105 28 [v0, v1, v2, v3] (.int (nI 11) :: st) h Q := wp_stp (ri := (.bipush 11, 2, 0, 0, 0, 0)) (by decide +kernel) rfl rfl rfl
theorem i105_28 {v0 v1 v2 : Value} {x : Int32} {st : List Value} {h : ab_Hp} {Q : ab_O → ab_Hp → Prop} : wp 105 28 [v0, v1, v2, .int x] st h Q = wp 105 29 [v0, v1, v2, .int x] (.int x :: st) h Q := wp_stp (ri := (.iload_n 3, 1, 0, 0, 0, 0)) (by decide +kernel) rfl rfl rfl
theorem i105_29 {v0 v1 v2 v3 : Value} {x y : Int32} {st : List Value} {h : ab_Hp} {Q : ab_O → ab_Hp → Prop} : wp 105 29 [v0, v1, v2, v3] (.int y :: .int x :: st) h Q = wp 105 30 [v0, v1, v2, v3] (.int (x + y) :: st) h Q := wp_stp (ri := (.iadd, 1, 0, 0, 0, 0)) (by decide +kernel) rfl rfl rfl
theorem i105_30 {v0 v1 v2 v3 : Value} {st : List Value} {h : ab_Hp} {Q : ab_O → ab_Hp → Prop} : wp 105 30 [v0, v1, v2, v3] st h Q = wp 105 31 [v0, v1, v2, v3] (.int (nI 2) :: st) h Q := wp_stp (ri := (.iconst 2, 1, 0, 0, 0, 0)) (by decide +kernel) rfl rfl rfl
theorem i105_31 {v0 v1 v2 v3 : Value} {x y : Int32} {st : List Value} {h : ab_Hp} {Q : ab_O → ab_Hp → Prop} : wp 105 31 [v0, v1, v2, v3] (.int y :: .int x :: st) h Q = wp 105 32 [v0, v1, v2, v3] (.int (x + y) :: st) h Q := wp_stp (ri := (.iadd, 1, 0, 0, 0, 0)) (by decide +kernel) rfl rfl rfl
theorem i105_32 {v0 v1 v2 v3 : Value} {r : Nat} {a0 : Int32} {a1 : Int32} {st : List Value} {h : ab_Hp} {Q : ab_O → ab_Hp → Prop} (hl : st.length ≤ 4) (hk : (ab_sh h r).1 = 17) : wp 105 32 [v0, v1, v2, v3] (.int a1 :: .int a0 :: .ref r :: st) h Q = wp 90 0 [.ref r, .int a0, .int a1] [] h (ab_K 105 32 [v0, v1, v2, v3] st Q) := wp_callV (as := [.int a0, .int a1]) (by decide +kernel : ab_cod 105 32 = some (.invokevirtual 47, 3, 90, 3, 0, 828)) rfl rfl rfl rfl hl hk
theorem i105_35 {v0 v1 v2 v3 : Value} {r : Nat} {a0 : Int32} {a1 : Int32} {a2 : Int32} {st : List Value} {h : ab_Hp} {Q : ab_O → ab_Hp → Prop} (hl : st.length ≤ 4) (hk : (ab_sh h r).1 = 17) : wp 105 35 [v0, v1, v2, v3] (.int a2 :: .int a1 :: .int a0 :: .ref r :: st) h Q = wp 91 0 [.ref r, .int a0, .int a1, .int a2] [] h (ab_K 105 35 [v0, v1, v2, v3] st Q) := wp_callV (as := [.int a0, .int a1, .int a2]) (by decide +kernel : ab_cod 105 35 = some (.invokevirtual 25, 3, 91, 4, 0, 768)) rfl rfl rfl rfl hl hk
theorem i105_38 {v0 v1 v2 : Value} {x : Int32} {st : List Value} {h : ab_Hp} {Q : ab_O → ab_Hp → Prop} : wp 105 38 [v0, v1, v2, .int x] st h Q = wp 105 41 [v0, v1, ab_clr v2, .int (x + nI 1)] st h Q := wp_stp (ri := (.iinc 3 1, 3, 0, 0, 0, 0)) (by decide +kernel) rfl rfl rfl
theorem i105_41 {v0 v1 v2 v3 : Value} {st : List Value} {h : ab_Hp} {Q : ab_O → ab_Hp → Prop} : wp 105 41 [v0, v1, v2, v3] st h Q = wp 105 11 [v0, v1, v2, v3] st h Q := wp_stp (ri := (.goto (-30), 3, 11, 0, 0, 0)) (by decide +kernel) rfl rfl rfl
theorem i105_44 {v0 v1 v2 v3 : Value} {st : List Value} {h : ab_Hp} {Q : ab_O → ab_Hp → Prop} (hv : ab_isA v0 = true) : wp 105 44 [v0, v1, v2, v3] st h Q = wp 105 45 [v0, v1, v2, v3] (v0 :: st) h Q := wp_aload_n (by decide +kernel : ab_cod 105 44 = some (.aload_n 0, 1, 0, 0, 0, 0)) hv
theorem i105_45 {v0 v2 v3 : Value} {x : Int32} {st : List Value} {h : ab_Hp} {Q : ab_O → ab_Hp → Prop} : wp 105 45 [v0, .int x, v2, v3] st h Q = wp 105 46 [v0, .int x, v2, v3] (.int x :: st) h Q := wp_stp (ri := (.iload_n 1, 1, 0, 0, 0, 0)) (by decide +kernel) rfl rfl rfl
theorem i105_46 {v0 v1 v2 v3 : Value} {st : List Value} {h : ab_Hp} {Q : ab_O → ab_Hp → Prop} : wp 105 46 [v0, v1, v2, v3] st h Q = wp 105 47 [v0, v1, v2, v3] (.int (nI 4) :: st) h Q := wp_stp (ri := (.iconst 4, 1, 0, 0, 0, 0)) (by decide +kernel) rfl rfl rfl
theorem i105_47 {v0 v1 v3 : Value} {x : Int32} {st : List Value} {h : ab_Hp} {Q : ab_O → ab_Hp → Prop} : wp 105 47 [v0, v1, .int x, v3] st h Q = wp 105 48 [v0, v1, .int x, v3] (.int x :: st) h Q := wp_stp (ri := (.iload_n 2, 1, 0, 0, 0, 0)) (by decide +kernel) rfl rfl rfl
theorem i105_48 {v0 v1 v2 v3 : Value} {r : Nat} {a0 : Int32} {a1 : Int32} {a2 : Int32} {st : List Value} {h : ab_Hp} {Q : ab_O → ab_Hp → Prop} (hl : st.length ≤ 4) (hk : (ab_sh h r).1 = 17) : wp 105 48 [v0, v1, v2, v3] (.int a2 :: .int a1 :: .int a0 :: .ref r :: st) h Q = wp 91 0 [.ref r, .int a0, .int a1, .int a2] [] h (ab_K 105 48 [v0, v1, v2, v3] st Q) := wp_callV (as := [.int a0, .int a1, .int a2]) (by decide +kernel : ab_cod 105 48 = some (.invokevirtual 25, 3, 91, 4, 0, 768)) rfl rfl rfl rfl hl hk
theorem i105_51 {v0 v1 v2 v3 : Value} {h : ab_Hp} {Q : ab_O → ab_Hp → Prop} : wp 105 51 [v0, v1, v2, v3] [] h Q = Q (.inl none) h := wp_vret (by decide +kernel : ab_cod 105 51 = some (.return_, 1, 0, 0, 0, 0)) rfl
/-! 106: SeamBeatsModel.put(II)I -/
set_option maxRecDepth 100000 in
theorem i106_0 {v0 v1 v2 : Value} {st : List Value} {h : ab_Hp} {Q : ab_O → ab_Hp → Prop} (hv : ab_isA v0 = true) : wp 106 0 [v0, v1, v2] st h Q = wp 106 1 [v0, v1, v2] (v0 :: st) h Q := wp_aload_n (by decide +kernel : ab_cod 106 0 = some (.aload_n 0, 1, 0, 0, 0, 0)) hv
set_option maxRecDepth 100000 in
theorem i106_1 {v0 v2 : Value} {x : Int32} {st : List Value} {h : ab_Hp} {Q : ab_O → ab_Hp → Prop} : wp 106 1 [v0, .int x, v2] st h Q = wp 106 2 [v0, .int x, v2] (.int x :: st) h Q := wp_stp (ri := (.iload_n 1, 1, 0, 0, 0, 0)) (by decide +kernel) rfl rfl rfl
set_option maxRecDepth 100000 in
theorem i106_2 {v0 v1 v2 : Value} {a0 : Int32} {st : List Value} {h : ab_Hp} {Q : ab_O → ab_Hp → Prop} (hl : st.length ≤ 4) : wp 106 2 [v0, v1, v2] (.int a0 :: st) h Q = wp 88 0 [.int a0] [] h (ab_K 106 2 [v0, v1, v2] st Q) := wp_callS (as := [.int a0]) (by decide +kernel : ab_cod 106 2 = some (.invokestatic 40, 3, 88, 1, 1, 818)) rfl rfl rfl rfl hl
set_option maxRecDepth 100000 in
theorem i106_5 {v0 v1 v2 : Value} {x : Int32} {st : List Value} {h : ab_Hp} {Q : ab_O → ab_Hp → Prop} : wp 106 5 [v0, v1, v2] (.int x :: st) h Q = if ¬ x = 0 then wp 106 12 [v0, v1, v2] st h Q else wp 106 8 [v0, v1, v2] st h Q := wp_ifcP (by decide +kernel : ab_cod 106 5 = some (.ifCond .ne 7, 3, 12, 0, 0, 0)) rfl
set_option maxRecDepth 100000 in
theorem i106_8 {v0 v1 v2 : Value} {st : List Value} {h : ab_Hp} {Q : ab_O → ab_Hp → Prop} : wp 106 8 [v0, v1, v2] st h Q = wp 106 9 [v0, v1, v2] (.int (nI 1) :: st) h Q := wp_stp (ri := (.iconst 1, 1, 0, 0, 0, 0)) (by decide +kernel) rfl rfl rfl
set_option maxRecDepth 100000 in
theorem i106_9 {v0 v1 v2 : Value} {st : List Value} {h : ab_Hp} {Q : ab_O → ab_Hp → Prop} : wp 106 9 [v0, v1, v2] st h Q = wp 106 54 [v0, v1, v2] st h Q := wp_stp (ri := (.goto 45, 3, 54, 0, 0, 0)) (by decide +kernel) rfl rfl rfl
set_option maxRecDepth 100000 in
theorem i106_12 {v0 v1 : Value} {x : Int32} {st : List Value} {h : ab_Hp} {Q : ab_O → ab_Hp → Prop} : wp 106 12 [v0, v1, .int x] st h Q = wp 106 13 [v0, v1, .int x] (.int x :: st) h Q := wp_stp (ri := (.iload_n 2, 1, 0, 0, 0, 0)) (by decide +kernel) rfl rfl rfl
set_option maxRecDepth 100000 in
theorem i106_13 {v0 v1 v2 : Value} {st : List Value} {h : ab_Hp} {Q : ab_O → ab_Hp → Prop} : wp 106 13 [v0, v1, v2] st h Q = wp 106 14 [v0, v1, v2] (.int (nI 0) :: st) h Q := wp_stp (ri := (.iconst 0, 1, 0, 0, 0, 0)) (by decide +kernel) rfl rfl rfl
set_option maxRecDepth 100000 in
theorem i106_14 {v0 v1 v2 : Value} {st : List Value} {h : ab_Hp} {Q : ab_O → ab_Hp → Prop} : wp 106 14 [v0, v1, v2] st h Q = wp 106 16 [v0, v1, v2] (.int (nI 99) :: st) h Q := wp_stp (ri := (.bipush 99, 2, 0, 0, 0, 0)) (by decide +kernel) rfl rfl rfl
set_option maxRecDepth 100000 in
theorem i106_16 {v0 v1 v2 : Value} {a0 : Int32} {a1 : Int32} {a2 : Int32} {st : List Value} {h : ab_Hp} {Q : ab_O → ab_Hp → Prop} (hl : st.length ≤ 4) : wp 106 16 [v0, v1, v2] (.int a2 :: .int a1 :: .int a0 :: st) h Q = wp 87 0 [.int a0, .int a1, .int a2] [] h (ab_K 106 16 [v0, v1, v2] st Q) := wp_callS (as := [.int a0, .int a1, .int a2]) (by decide +kernel : ab_cod 106 16 = some (.invokestatic 33, 3, 87, 3, 1, 821)) rfl rfl rfl rfl hl
set_option maxRecDepth 100000 in
theorem i106_19 {v0 v1 v2 : Value} {x : Int32} {st : List Value} {h : ab_Hp} {Q : ab_O → ab_Hp → Prop} : wp 106 19 [v0, v1, v2] (.int x :: st) h Q = if ¬ x = 0 then wp 106 26 [v0, v1, v2] st h Q else wp 106 22 [v0, v1, v2] st h Q := wp_ifcP (by decide +kernel : ab_cod 106 19 = some (.ifCond .ne 7, 3, 26, 0, 0, 0)) rfl
set_option maxRecDepth 100000 in
theorem i106_22 {v0 v1 v2 : Value} {st : List Value} {h : ab_Hp} {Q : ab_O → ab_Hp → Prop} : wp 106 22 [v0, v1, v2] st h Q = wp 106 23 [v0, v1, v2] (.int (nI 2) :: st) h Q := wp_stp (ri := (.iconst 2, 1, 0, 0, 0, 0)) (by decide +kernel) rfl rfl rfl
set_option maxRecDepth 100000 in
theorem i106_23 {v0 v1 v2 : Value} {st : List Value} {h : ab_Hp} {Q : ab_O → ab_Hp → Prop} : wp 106 23 [v0, v1, v2] st h Q = wp 106 54 [v0, v1, v2] st h Q := wp_stp (ri := (.goto 31, 3, 54, 0, 0, 0)) (by decide +kernel) rfl rfl rfl
set_option maxRecDepth 100000 in
theorem i106_26 {v0 v1 v2 : Value} {st : List Value} {h : ab_Hp} {Q : ab_O → ab_Hp → Prop} (hv : ab_isA v0 = true) : wp 106 26 [v0, v1, v2] st h Q = wp 106 27 [v0, v1, v2] (v0 :: st) h Q := wp_aload_n (by decide +kernel : ab_cod 106 26 = some (.aload_n 0, 1, 0, 0, 0, 0)) hv
set_option maxRecDepth 100000 in
theorem i106_27 {v0 v2 : Value} {x : Int32} {st : List Value} {h : ab_Hp} {Q : ab_O → ab_Hp → Prop} : wp 106 27 [v0, .int x, v2] st h Q = wp 106 28 [v0, .int x, v2] (.int x :: st) h Q := wp_stp (ri := (.iload_n 1, 1, 0, 0, 0, 0)) (by decide +kernel) rfl rfl rfl
set_option maxRecDepth 100000 in
theorem i106_28 {v0 v1 v2 : Value} {st : List Value} {h : ab_Hp} {Q : ab_O → ab_Hp → Prop} : wp 106 28 [v0, v1, v2] st h Q = wp 106 29 [v0, v1, v2] (.int (nI 4) :: st) h Q := wp_stp (ri := (.iconst 4, 1, 0, 0, 0, 0)) (by decide +kernel) rfl rfl rfl
set_option maxRecDepth 100000 in
theorem i106_29 {v0 v1 v2 : Value} {r : Nat} {a0 : Int32} {a1 : Int32} {st : List Value} {h : ab_Hp} {Q : ab_O → ab_Hp → Prop} (hl : st.length ≤ 4) (hk : (ab_sh h r).1 = 17) : wp 106 29 [v0, v1, v2] (.int a1 :: .int a0 :: .ref r :: st) h Q = wp 90 0 [.ref r, .int a0, .int a1] [] h (ab_K 106 29 [v0, v1, v2] st Q) := wp_callV (as := [.int a0, .int a1]) (by decide +kernel : ab_cod 106 29 = some (.invokevirtual 47, 3, 90, 3, 0, 828)) rfl rfl rfl rfl hl hk
set_option maxRecDepth 100000 in
theorem i106_32 {v0 v1 v2 : Value} {st : List Value} {h : ab_Hp} {Q : ab_O → ab_Hp → Prop} : wp 106 32 [v0, v1, v2] st h Q = wp 106 34 [v0, v1, v2] (.int (nI 8) :: st) h Q := wp_stp (ri := (.bipush 8, 2, 0, 0, 0, 0)) (by decide +kernel) rfl rfl rfl
set_option maxRecDepth 100000 in
theorem i106_34 {v0 v1 v2 : Value} {x y : Int32} {st : List Value} {h : ab_Hp} {Q : ab_O → ab_Hp → Prop} : wp 106 34 [v0, v1, v2] (.int y :: .int x :: st) h Q = if x = y then wp 106 49 [v0, v1, v2] st h Q else wp 106 37 [v0, v1, v2] st h Q := wp_icmpP (by decide +kernel : ab_cod 106 34 = some (.if_icmp .eq 15, 3, 49, 0, 0, 0)) rfl
set_option maxRecDepth 100000 in
theorem i106_37 {v0 v1 v2 : Value} {st : List Value} {h : ab_Hp} {Q : ab_O → ab_Hp → Prop} (hv : ab_isA v0 = true) : wp 106 37 [v0, v1, v2] st h Q = wp 106 38 [v0, v1, v2] (v0 :: st) h Q := wp_aload_n (by decide +kernel : ab_cod 106 37 = some (.aload_n 0, 1, 0, 0, 0, 0)) hv
set_option maxRecDepth 100000 in
theorem i106_38 {v0 v1 v2 : Value} {r : Nat} {st : List Value} {h : ab_Hp} {Q : ab_O → ab_Hp → Prop} (hk : (ab_sh h r).1 = 17) : wp 106 38 [v0, v1, v2] (.ref r :: st) h Q = wp 106 41 [v0, v1, v2] (va_rf (ab_hr h r 1) :: st) h Q := wp_gf (by decide +kernel : ab_cod 106 38 = some (.getfield 7, 3, 7, 1, 773, 1)) hk
set_option maxRecDepth 100000 in
theorem i106_41 {v0 v1 v2 : Value} {st : List Value} {h : ab_Hp} {Q : ab_O → ab_Hp → Prop} : wp 106 41 [v0, v1, v2] st h Q = wp 106 42 [v0, v1, v2] (.int (nI 1) :: st) h Q := wp_stp (ri := (.iconst 1, 1, 0, 0, 0, 0)) (by decide +kernel) rfl rfl rfl
set_option maxRecDepth 100000 in
theorem i106_42 {v0 v1 v2 : Value} {r : Nat} {x : Int32} {st : List Value} {h : ab_Hp} {Q : ab_O → ab_Hp → Prop} (hk : ((ab_sh h r).1 = 1 ∨ (ab_sh h r).1 = 6) ∧ ab_in x (ab_sh h r).2 = true) : wp 106 42 [v0, v1, v2] (.int x :: .ref r :: st) h Q = wp 106 43 [v0, v1, v2] (.int (ab_hi h r x.toNatClampNeg) :: st) h Q := wp_ia (by decide +kernel : ab_cod 106 42 = some (.iaload, 1, 0, 0, 0, 0)) hk
set_option maxRecDepth 100000 in
theorem i106_43 {v0 v1 v2 : Value} {st : List Value} {h : ab_Hp} {Q : ab_O → ab_Hp → Prop} : wp 106 43 [v0, v1, v2] st h Q = wp 106 46 [v0, v1, v2] (.int (nI 999) :: st) h Q := wp_stp (ri := (.sipush 999, 3, 0, 0, 0, 0)) (by decide +kernel) rfl rfl rfl
set_option maxRecDepth 100000 in
theorem i106_46 {v0 v1 v2 : Value} {x y : Int32} {st : List Value} {h : ab_Hp} {Q : ab_O → ab_Hp → Prop} : wp 106 46 [v0, v1, v2] (.int y :: .int x :: st) h Q = if ¬ x = y then wp 106 53 [v0, v1, v2] st h Q else wp 106 49 [v0, v1, v2] st h Q := wp_icmpP (by decide +kernel : ab_cod 106 46 = some (.if_icmp .ne 7, 3, 53, 0, 0, 0)) rfl
set_option maxRecDepth 100000 in
theorem i106_49 {v0 v1 v2 : Value} {st : List Value} {h : ab_Hp} {Q : ab_O → ab_Hp → Prop} : wp 106 49 [v0, v1, v2] st h Q = wp 106 50 [v0, v1, v2] (.int (nI 3) :: st) h Q := wp_stp (ri := (.iconst 3, 1, 0, 0, 0, 0)) (by decide +kernel) rfl rfl rfl
set_option maxRecDepth 100000 in
theorem i106_50 {v0 v1 v2 : Value} {st : List Value} {h : ab_Hp} {Q : ab_O → ab_Hp → Prop} : wp 106 50 [v0, v1, v2] st h Q = wp 106 54 [v0, v1, v2] st h Q := wp_stp (ri := (.goto 4, 3, 54, 0, 0, 0)) (by decide +kernel) rfl rfl rfl
set_option maxRecDepth 100000 in
theorem i106_53 {v0 v1 v2 : Value} {st : List Value} {h : ab_Hp} {Q : ab_O → ab_Hp → Prop} : wp 106 53 [v0, v1, v2] st h Q = wp 106 54 [v0, v1, v2] (.int (nI 0) :: st) h Q := wp_stp (ri := (.iconst 0, 1, 0, 0, 0, 0)) (by decide +kernel) rfl rfl rfl
set_option maxRecDepth 100000 in
theorem i106_54 {v0 v1 v2 : Value} {r : Nat} {x : Int32} {st : List Value} {h : ab_Hp} {Q : ab_O → ab_Hp → Prop} (hk : (ab_sh h r).1 = 17) : wp 106 54 [v0, v1, v2] (.int x :: .ref r :: st) h Q = wp 106 57 [v0, v1, v2] st (ab_setI h (ab_u (ab_hi h) r 0 x)) Q := wp_pf (by decide +kernel : ab_cod 106 54 = some (.putfield 29, 3, 7, 0, 772, 0)) hk rfl
set_option maxRecDepth 100000 in
theorem i106_57 {v0 v1 v2 : Value} {st : List Value} {h : ab_Hp} {Q : ab_O → ab_Hp → Prop} (hv : ab_isA v0 = true) : wp 106 57 [v0, v1, v2] st h Q = wp 106 58 [v0, v1, v2] (v0 :: st) h Q := wp_aload_n (by decide +kernel : ab_cod 106 57 = some (.aload_n 0, 1, 0, 0, 0, 0)) hv
set_option maxRecDepth 100000 in
theorem i106_58 {v0 v1 v2 : Value} {r : Nat} {st : List Value} {h : ab_Hp} {Q : ab_O → ab_Hp → Prop} (hk : (ab_sh h r).1 = 17) : wp 106 58 [v0, v1, v2] (.ref r :: st) h Q = wp 106 61 [v0, v1, v2] (.int (ab_hi h r 0) :: st) h Q := wp_gf (by decide +kernel : ab_cod 106 58 = some (.getfield 29, 3, 7, 0, 772, 0)) hk
set_option maxRecDepth 100000 in
theorem i106_61 {v0 v1 v2 : Value} {x : Int32} {st : List Value} {h : ab_Hp} {Q : ab_O → ab_Hp → Prop} : wp 106 61 [v0, v1, v2] (.int x :: st) h Q = if x ≤ 0 then wp 106 66 [v0, v1, v2] st h Q else wp 106 64 [v0, v1, v2] st h Q := wp_ifcP (by decide +kernel : ab_cod 106 61 = some (.ifCond .le 5, 3, 66, 0, 0, 0)) rfl
set_option maxRecDepth 100000 in
theorem i106_64 {v0 v1 v2 : Value} {st : List Value} {h : ab_Hp} {Q : ab_O → ab_Hp → Prop} : wp 106 64 [v0, v1, v2] st h Q = wp 106 65 [v0, v1, v2] (.int (nI 0) :: st) h Q := wp_stp (ri := (.iconst 0, 1, 0, 0, 0, 0)) (by decide +kernel) rfl rfl rfl
set_option maxRecDepth 100000 in
theorem i106_65 {v0 v1 v2 : Value} {x : Int32} {h : ab_Hp} {Q : ab_O → ab_Hp → Prop} : wp 106 65 [v0, v1, v2] [.int x] h Q = Q (.inl (some (.int x))) h := wp_iret (by decide +kernel : ab_cod 106 65 = some (.ireturn, 1, 0, 0, 0, 0)) rfl
set_option maxRecDepth 100000 in
theorem i106_66 {v0 v1 v2 : Value} {st : List Value} {h : ab_Hp} {Q : ab_O → ab_Hp → Prop} (hv : ab_isA v0 = true) : wp 106 66 [v0, v1, v2] st h Q = wp 106 67 [v0, v1, v2] (v0 :: st) h Q := wp_aload_n (by decide +kernel : ab_cod 106 66 = some (.aload_n 0, 1, 0, 0, 0, 0)) hv
set_option maxRecDepth 100000 in
theorem i106_67 {v0 v1 v2 : Value} {r : Nat} {st : List Value} {h : ab_Hp} {Q : ab_O → ab_Hp → Prop} (hl : st.length ≤ 4) (hk : (ab_sh h r).1 = 17) : wp 106 67 [v0, v1, v2] (.ref r :: st) h Q = wp 94 0 [.ref r, ab_nov] [] h (ab_K 106 67 [v0, v1, v2] st Q) := wp_callV (as := []) (by decide +kernel : ab_cod 106 67 = some (.invokevirtual 44, 3, 94, 1, 0, 824)) rfl rfl rfl rfl hl hk
set_option maxRecDepth 100000 in
theorem i106_70 {v0 v1 v2 : Value} {st : List Value} {h : ab_Hp} {Q : ab_O → ab_Hp → Prop} (hv : ab_isA v0 = true) : wp 106 70 [v0, v1, v2] st h Q = wp 106 71 [v0, v1, v2] (v0 :: st) h Q := wp_aload_n (by decide +kernel : ab_cod 106 70 = some (.aload_n 0, 1, 0, 0, 0, 0)) hv
set_option maxRecDepth 100000 in
theorem i106_71 {v0 v2 : Value} {x : Int32} {st : List Value} {h : ab_Hp} {Q : ab_O → ab_Hp → Prop} : wp 106 71 [v0, .int x, v2] st h Q = wp 106 72 [v0, .int x, v2] (.int x :: st) h Q := wp_stp (ri := (.iload_n 1, 1, 0, 0, 0, 0)) (by decide +kernel) rfl rfl rfl
set_option maxRecDepth 100000 in
theorem i106_72 {v0 v1 v2 : Value} {st : List Value} {h : ab_Hp} {Q : ab_O → ab_Hp → Prop} (hv : ab_isA v0 = true) : wp 106 72 [v0, v1, v2] st h Q = wp 106 73 [v0, v1, v2] (v0 :: st) h Q := wp_aload_n (by decide +kernel : ab_cod 106 72 = some (.aload_n 0, 1, 0, 0, 0, 0)) hv
set_option maxRecDepth 100000 in
theorem i106_73 {v0 v1 v2 : Value} {r : Nat} {st : List Value} {h : ab_Hp} {Q : ab_O → ab_Hp → Prop} (hk : (ab_sh h r).1 = 17) : wp 106 73 [v0, v1, v2] (.ref r :: st) h Q = wp 106 76 [v0, v1, v2] (va_rf (ab_hr h r 1) :: st) h Q := wp_gf (by decide +kernel : ab_cod 106 73 = some (.getfield 7, 3, 7, 1, 773, 1)) hk
set_option maxRecDepth 100000 in
theorem i106_76 {v0 v1 v2 : Value} {st : List Value} {h : ab_Hp} {Q : ab_O → ab_Hp → Prop} : wp 106 76 [v0, v1, v2] st h Q = wp 106 77 [v0, v1, v2] (.int (nI 1) :: st) h Q := wp_stp (ri := (.iconst 1, 1, 0, 0, 0, 0)) (by decide +kernel) rfl rfl rfl
set_option maxRecDepth 100000 in
theorem i106_77 {v0 v1 v2 : Value} {r : Nat} {x : Int32} {st : List Value} {h : ab_Hp} {Q : ab_O → ab_Hp → Prop} (hk : ((ab_sh h r).1 = 1 ∨ (ab_sh h r).1 = 6) ∧ ab_in x (ab_sh h r).2 = true) : wp 106 77 [v0, v1, v2] (.int x :: .ref r :: st) h Q = wp 106 78 [v0, v1, v2] (.int (ab_hi h r x.toNatClampNeg) :: st) h Q := wp_ia (by decide +kernel : ab_cod 106 77 = some (.iaload, 1, 0, 0, 0, 0)) hk
set_option maxRecDepth 100000 in
theorem i106_78 {v0 v1 : Value} {x : Int32} {st : List Value} {h : ab_Hp} {Q : ab_O → ab_Hp → Prop} : wp 106 78 [v0, v1, .int x] st h Q = wp 106 79 [v0, v1, .int x] (.int x :: st) h Q := wp_stp (ri := (.iload_n 2, 1, 0, 0, 0, 0)) (by decide +kernel) rfl rfl rfl
set_option maxRecDepth 100000 in
theorem i106_79 {v0 v1 v2 : Value} {r : Nat} {a0 : Int32} {a1 : Int32} {a2 : Int32} {st : List Value} {h : ab_Hp} {Q : ab_O → ab_Hp → Prop} (hl : st.length ≤ 4) (hk : (ab_sh h r).1 = 17) : wp 106 79 [v0, v1, v2] (.int a2 :: .int a1 :: .int a0 :: .ref r :: st) h Q = wp 104 0 [.ref r, .int a0, .int a1, .int a2, ab_nov] [] h (ab_K 106 79 [v0, v1, v2] st Q) := wp_callV (as := [.int a0, .int a1, .int a2]) (by decide +kernel : ab_cod 106 79 = some (.invokevirtual 64, 3, 104, 4, 0, 868)) rfl rfl rfl rfl hl hk
set_option maxRecDepth 100000 in
theorem i106_82 {v0 v1 v2 : Value} {st : List Value} {h : ab_Hp} {Q : ab_O → ab_Hp → Prop} (hv : ab_isA v0 = true) : wp 106 82 [v0, v1, v2] st h Q = wp 106 83 [v0, v1, v2] (v0 :: st) h Q := wp_aload_n (by decide +kernel : ab_cod 106 82 = some (.aload_n 0, 1, 0, 0, 0, 0)) hv
set_option maxRecDepth 100000 in
theorem i106_83 {v0 v1 v2 : Value} {r : Nat} {st : List Value} {h : ab_Hp} {Q : ab_O → ab_Hp → Prop} (hk : (ab_sh h r).1 = 17) : wp 106 83 [v0, v1, v2] (.ref r :: st) h Q = wp 106 86 [v0, v1, v2] (va_rf (ab_hr h r 1) :: st) h Q := wp_gf (by decide +kernel : ab_cod 106 83 = some (.getfield 7, 3, 7, 1, 773, 1)) hk
set_option maxRecDepth 100000 in
theorem i106_86 {v0 v1 v2 : Value} {st : List Value} {h : ab_Hp} {Q : ab_O → ab_Hp → Prop} : wp 106 86 [v0, v1, v2] st h Q = wp 106 87 [v0, v1, v2] (.int (nI 1) :: st) h Q := wp_stp (ri := (.iconst 1, 1, 0, 0, 0, 0)) (by decide +kernel) rfl rfl rfl
set_option maxRecDepth 100000 in
theorem i106_87 {v0 v1 v2 : Value} {x : Int32} {r : Nat} {st : List Value} {h : ab_Hp} {Q : ab_O → ab_Hp → Prop} : wp 106 87 [v0, v1, v2] (.int x :: .ref r :: st) h Q = wp 106 88 [v0, v1, v2] (.int x :: .ref r :: .int x :: .ref r :: st) h Q := wp_stp (ri := (.dup2, 1, 0, 0, 0, 0)) (by decide +kernel) rfl rfl rfl
set_option maxRecDepth 100000 in
theorem i106_88 {v0 v1 v2 : Value} {r : Nat} {x : Int32} {st : List Value} {h : ab_Hp} {Q : ab_O → ab_Hp → Prop} (hk : ((ab_sh h r).1 = 1 ∨ (ab_sh h r).1 = 6) ∧ ab_in x (ab_sh h r).2 = true) : wp 106 88 [v0, v1, v2] (.int x :: .ref r :: st) h Q = wp 106 89 [v0, v1, v2] (.int (ab_hi h r x.toNatClampNeg) :: st) h Q := wp_ia (by decide +kernel : ab_cod 106 88 = some (.iaload, 1, 0, 0, 0, 0)) hk
set_option maxRecDepth 100000 in
theorem i106_89 {v0 v1 v2 : Value} {st : List Value} {h : ab_Hp} {Q : ab_O → ab_Hp → Prop} : wp 106 89 [v0, v1, v2] st h Q = wp 106 90 [v0, v1, v2] (.int (nI 1) :: st) h Q := wp_stp (ri := (.iconst 1, 1, 0, 0, 0, 0)) (by decide +kernel) rfl rfl rfl
set_option maxRecDepth 100000 in
theorem i106_90 {v0 v1 v2 : Value} {x y : Int32} {st : List Value} {h : ab_Hp} {Q : ab_O → ab_Hp → Prop} : wp 106 90 [v0, v1, v2] (.int y :: .int x :: st) h Q = wp 106 91 [v0, v1, v2] (.int (x + y) :: st) h Q := wp_stp (ri := (.iadd, 1, 0, 0, 0, 0)) (by decide +kernel) rfl rfl rfl
set_option maxRecDepth 100000 in
theorem i106_91 {v0 v1 v2 : Value} {r : Nat} {x y : Int32} {st : List Value} {h : ab_Hp} {Q : ab_O → ab_Hp → Prop} (hk : (ab_sh h r).1 = 1 ∧ ab_in x (ab_sh h r).2 = true) : wp 106 91 [v0, v1, v2] (.int y :: .int x :: .ref r :: st) h Q = wp 106 92 [v0, v1, v2] st (ab_setI h (ab_u (ab_hi h) r x.toNatClampNeg y)) Q := wp_ias (by decide +kernel : ab_cod 106 91 = some (.iastore, 1, 0, 0, 0, 0)) hk
set_option maxRecDepth 100000 in
theorem i106_92 {v0 v1 v2 : Value} {st : List Value} {h : ab_Hp} {Q : ab_O → ab_Hp → Prop} (hv : ab_isA v0 = true) : wp 106 92 [v0, v1, v2] st h Q = wp 106 93 [v0, v1, v2] (v0 :: st) h Q := wp_aload_n (by decide +kernel : ab_cod 106 92 = some (.aload_n 0, 1, 0, 0, 0, 0)) hv
set_option maxRecDepth 100000 in
theorem i106_93 {v0 v1 v2 : Value} {r : Nat} {st : List Value} {h : ab_Hp} {Q : ab_O → ab_Hp → Prop} (hk : (ab_sh h r).1 = 17) : wp 106 93 [v0, v1, v2] (.ref r :: st) h Q = wp 106 96 [v0, v1, v2] (va_rf (ab_hr h r 1) :: st) h Q := wp_gf (by decide +kernel : ab_cod 106 93 = some (.getfield 7, 3, 7, 1, 773, 1)) hk
set_option maxRecDepth 100000 in
theorem i106_96 {v0 v1 v2 : Value} {st : List Value} {h : ab_Hp} {Q : ab_O → ab_Hp → Prop} : wp 106 96 [v0, v1, v2] st h Q = wp 106 97 [v0, v1, v2] (.int (nI 1) :: st) h Q := wp_stp (ri := (.iconst 1, 1, 0, 0, 0, 0)) (by decide +kernel) rfl rfl rfl
set_option maxRecDepth 100000 in
theorem i106_97 {v0 v1 v2 : Value} {r : Nat} {x : Int32} {st : List Value} {h : ab_Hp} {Q : ab_O → ab_Hp → Prop} (hk : ((ab_sh h r).1 = 1 ∨ (ab_sh h r).1 = 6) ∧ ab_in x (ab_sh h r).2 = true) : wp 106 97 [v0, v1, v2] (.int x :: .ref r :: st) h Q = wp 106 98 [v0, v1, v2] (.int (ab_hi h r x.toNatClampNeg) :: st) h Q := wp_ia (by decide +kernel : ab_cod 106 97 = some (.iaload, 1, 0, 0, 0, 0)) hk
set_option maxRecDepth 100000 in
theorem i106_98 {v0 v1 v2 : Value} {st : List Value} {h : ab_Hp} {Q : ab_O → ab_Hp → Prop} : wp 106 98 [v0, v1, v2] st h Q = wp 106 99 [v0, v1, v2] (.int (nI 1) :: st) h Q := wp_stp (ri := (.iconst 1, 1, 0, 0, 0, 0)) (by decide +kernel) rfl rfl rfl
set_option maxRecDepth 100000 in
theorem i106_99 {v0 v1 v2 : Value} {x y : Int32} {st : List Value} {h : ab_Hp} {Q : ab_O → ab_Hp → Prop} : wp 106 99 [v0, v1, v2] (.int y :: .int x :: st) h Q = wp 106 100 [v0, v1, v2] (.int (x - y) :: st) h Q := wp_stp (ri := (.isub, 1, 0, 0, 0, 0)) (by decide +kernel) rfl rfl rfl
set_option maxRecDepth 100000 in
theorem i106_100 {v0 v1 v2 : Value} {x : Int32} {h : ab_Hp} {Q : ab_O → ab_Hp → Prop} : wp 106 100 [v0, v1, v2] [.int x] h Q = Q (.inl (some (.int x))) h := wp_iret (by decide +kernel : ab_cod 106 100 = some (.ireturn, 1, 0, 0, 0, 0)) rfl
/-! 107: SeamBeatsModel.hand(I)V -/
set_option maxRecDepth 100000 in
theorem i107_0 {v0 v1 v2 v3 v4 v5 : Value} {st : List Value} {h : ab_Hp} {Q : ab_O → ab_Hp → Prop} (hv : ab_isA v0 = true) : wp 107 0 [v0, v1, v2, v3, v4, v5] st h Q = wp 107 1 [v0, v1, v2, v3, v4, v5] (v0 :: st) h Q := wp_aload_n (by decide +kernel : ab_cod 107 0 = some (.aload_n 0, 1, 0, 0, 0, 0)) hv
set_option maxRecDepth 100000 in
theorem i107_1 {v0 v2 v3 v4 v5 : Value} {x : Int32} {st : List Value} {h : ab_Hp} {Q : ab_O → ab_Hp → Prop} : wp 107 1 [v0, .int x, v2, v3, v4, v5] st h Q = wp 107 2 [v0, .int x, v2, v3, v4, v5] (.int x :: st) h Q := wp_stp (ri := (.iload_n 1, 1, 0, 0, 0, 0)) (by decide +kernel) rfl rfl rfl
set_option maxRecDepth 100000 in
theorem i107_2 {v0 v1 v2 v3 v4 v5 : Value} {st : List Value} {h : ab_Hp} {Q : ab_O → ab_Hp → Prop} : wp 107 2 [v0, v1, v2, v3, v4, v5] st h Q = wp 107 3 [v0, v1, v2, v3, v4, v5] (.int (nI 4) :: st) h Q := wp_stp (ri := (.iconst 4, 1, 0, 0, 0, 0)) (by decide +kernel) rfl rfl rfl
set_option maxRecDepth 100000 in
theorem i107_3 {v0 v1 v2 v3 v4 v5 : Value} {r : Nat} {a0 : Int32} {a1 : Int32} {st : List Value} {h : ab_Hp} {Q : ab_O → ab_Hp → Prop} (hl : st.length ≤ 4) (hk : (ab_sh h r).1 = 17) : wp 107 3 [v0, v1, v2, v3, v4, v5] (.int a1 :: .int a0 :: .ref r :: st) h Q = wp 90 0 [.ref r, .int a0, .int a1] [] h (ab_K 107 3 [v0, v1, v2, v3, v4, v5] st Q) := wp_callV (as := [.int a0, .int a1]) (by decide +kernel : ab_cod 107 3 = some (.invokevirtual 47, 3, 90, 3, 0, 828)) rfl rfl rfl rfl hl hk
set_option maxRecDepth 100000 in
theorem i107_6 {v0 v1 v2 v3 v4 v5 : Value} {x : Int32} {st : List Value} {h : ab_Hp} {Q : ab_O → ab_Hp → Prop} : wp 107 6 [v0, v1, v2, v3, v4, v5] (.int x :: st) h Q = if ¬ x = 0 then wp 107 10 [v0, v1, v2, v3, v4, v5] st h Q else wp 107 9 [v0, v1, v2, v3, v4, v5] st h Q := wp_ifcP (by decide +kernel : ab_cod 107 6 = some (.ifCond .ne 4, 3, 10, 0, 0, 0)) rfl
set_option maxRecDepth 100000 in
theorem i107_9 {v0 v1 v2 v3 v4 v5 : Value} {h : ab_Hp} {Q : ab_O → ab_Hp → Prop} : wp 107 9 [v0, v1, v2, v3, v4, v5] [] h Q = Q (.inl none) h := wp_vret (by decide +kernel : ab_cod 107 9 = some (.return_, 1, 0, 0, 0, 0)) rfl
set_option maxRecDepth 100000 in
theorem i107_10 {v0 v1 v2 v3 v4 v5 : Value} {st : List Value} {h : ab_Hp} {Q : ab_O → ab_Hp → Prop} (hv : ab_isA v0 = true) : wp 107 10 [v0, v1, v2, v3, v4, v5] st h Q = wp 107 11 [v0, v1, v2, v3, v4, v5] (v0 :: st) h Q := wp_aload_n (by decide +kernel : ab_cod 107 10 = some (.aload_n 0, 1, 0, 0, 0, 0)) hv
set_option maxRecDepth 100000 in
theorem i107_11 {v0 v2 v3 v4 v5 : Value} {x : Int32} {st : List Value} {h : ab_Hp} {Q : ab_O → ab_Hp → Prop} : wp 107 11 [v0, .int x, v2, v3, v4, v5] st h Q = wp 107 12 [v0, .int x, v2, v3, v4, v5] (.int x :: st) h Q := wp_stp (ri := (.iload_n 1, 1, 0, 0, 0, 0)) (by decide +kernel) rfl rfl rfl
set_option maxRecDepth 100000 in
theorem i107_12 {v0 v1 v2 v3 v4 v5 : Value} {st : List Value} {h : ab_Hp} {Q : ab_O → ab_Hp → Prop} : wp 107 12 [v0, v1, v2, v3, v4, v5] st h Q = wp 107 14 [v0, v1, v2, v3, v4, v5] (.int (nI 11) :: st) h Q := wp_stp (ri := (.bipush 11, 2, 0, 0, 0, 0)) (by decide +kernel) rfl rfl rfl
set_option maxRecDepth 100000 in
theorem i107_14 {v0 v1 v2 v3 v4 v5 : Value} {r : Nat} {a0 : Int32} {a1 : Int32} {st : List Value} {h : ab_Hp} {Q : ab_O → ab_Hp → Prop} (hl : st.length ≤ 4) (hk : (ab_sh h r).1 = 17) : wp 107 14 [v0, v1, v2, v3, v4, v5] (.int a1 :: .int a0 :: .ref r :: st) h Q = wp 90 0 [.ref r, .int a0, .int a1] [] h (ab_K 107 14 [v0, v1, v2, v3, v4, v5] st Q) := wp_callV (as := [.int a0, .int a1]) (by decide +kernel : ab_cod 107 14 = some (.invokevirtual 47, 3, 90, 3, 0, 828)) rfl rfl rfl rfl hl hk
set_option maxRecDepth 100000 in
theorem i107_17 {v0 v1 v2 v3 v4 v5 : Value} {w : Int32} {st : List Value} {h : ab_Hp} {Q : ab_O → ab_Hp → Prop} : wp 107 17 [v0, v1, v2, v3, v4, v5] (.int w :: st) h Q = wp 107 18 [v0, ab_clr v1, .int w, v3, v4, v5] st h Q := wp_stp (ri := (.istore_n 2, 1, 0, 0, 0, 0)) (by decide +kernel) rfl rfl rfl
set_option maxRecDepth 100000 in
theorem i107_18 {v0 v1 v2 v3 v4 v5 : Value} {st : List Value} {h : ab_Hp} {Q : ab_O → ab_Hp → Prop} (hv : ab_isA v0 = true) : wp 107 18 [v0, v1, v2, v3, v4, v5] st h Q = wp 107 19 [v0, v1, v2, v3, v4, v5] (v0 :: st) h Q := wp_aload_n (by decide +kernel : ab_cod 107 18 = some (.aload_n 0, 1, 0, 0, 0, 0)) hv
set_option maxRecDepth 100000 in
theorem i107_19 {v0 v2 v3 v4 v5 : Value} {x : Int32} {st : List Value} {h : ab_Hp} {Q : ab_O → ab_Hp → Prop} : wp 107 19 [v0, .int x, v2, v3, v4, v5] st h Q = wp 107 20 [v0, .int x, v2, v3, v4, v5] (.int x :: st) h Q := wp_stp (ri := (.iload_n 1, 1, 0, 0, 0, 0)) (by decide +kernel) rfl rfl rfl
set_option maxRecDepth 100000 in
theorem i107_20 {v0 v1 v2 v3 v4 v5 : Value} {st : List Value} {h : ab_Hp} {Q : ab_O → ab_Hp → Prop} : wp 107 20 [v0, v1, v2, v3, v4, v5] st h Q = wp 107 22 [v0, v1, v2, v3, v4, v5] (.int (nI 12) :: st) h Q := wp_stp (ri := (.bipush 12, 2, 0, 0, 0, 0)) (by decide +kernel) rfl rfl rfl
set_option maxRecDepth 100000 in
theorem i107_22 {v0 v1 v2 v3 v4 v5 : Value} {r : Nat} {a0 : Int32} {a1 : Int32} {st : List Value} {h : ab_Hp} {Q : ab_O → ab_Hp → Prop} (hl : st.length ≤ 4) (hk : (ab_sh h r).1 = 17) : wp 107 22 [v0, v1, v2, v3, v4, v5] (.int a1 :: .int a0 :: .ref r :: st) h Q = wp 90 0 [.ref r, .int a0, .int a1] [] h (ab_K 107 22 [v0, v1, v2, v3, v4, v5] st Q) := wp_callV (as := [.int a0, .int a1]) (by decide +kernel : ab_cod 107 22 = some (.invokevirtual 47, 3, 90, 3, 0, 828)) rfl rfl rfl rfl hl hk
set_option maxRecDepth 100000 in
theorem i107_25 {v0 v1 v2 v3 v4 v5 : Value} {w : Int32} {st : List Value} {h : ab_Hp} {Q : ab_O → ab_Hp → Prop} : wp 107 25 [v0, v1, v2, v3, v4, v5] (.int w :: st) h Q = wp 107 26 [v0, v1, ab_clr v2, .int w, v4, v5] st h Q := wp_stp (ri := (.istore_n 3, 1, 0, 0, 0, 0)) (by decide +kernel) rfl rfl rfl
set_option maxRecDepth 100000 in
theorem i107_26 {v0 v1 v2 v3 v4 v5 : Value} {st : List Value} {h : ab_Hp} {Q : ab_O → ab_Hp → Prop} (hv : ab_isA v0 = true) : wp 107 26 [v0, v1, v2, v3, v4, v5] st h Q = wp 107 27 [v0, v1, v2, v3, v4, v5] (v0 :: st) h Q := wp_aload_n (by decide +kernel : ab_cod 107 26 = some (.aload_n 0, 1, 0, 0, 0, 0)) hv
set_option maxRecDepth 100000 in
theorem i107_27 {v0 v2 v3 v4 v5 : Value} {x : Int32} {st : List Value} {h : ab_Hp} {Q : ab_O → ab_Hp → Prop} : wp 107 27 [v0, .int x, v2, v3, v4, v5] st h Q = wp 107 28 [v0, .int x, v2, v3, v4, v5] (.int x :: st) h Q := wp_stp (ri := (.iload_n 1, 1, 0, 0, 0, 0)) (by decide +kernel) rfl rfl rfl
set_option maxRecDepth 100000 in
theorem i107_28 {v0 v1 v2 v3 v4 v5 : Value} {st : List Value} {h : ab_Hp} {Q : ab_O → ab_Hp → Prop} : wp 107 28 [v0, v1, v2, v3, v4, v5] st h Q = wp 107 29 [v0, v1, v2, v3, v4, v5] (.int (nI 3) :: st) h Q := wp_stp (ri := (.iconst 3, 1, 0, 0, 0, 0)) (by decide +kernel) rfl rfl rfl
set_option maxRecDepth 100000 in
theorem i107_29 {v0 v1 v2 v3 v4 v5 : Value} {r : Nat} {a0 : Int32} {a1 : Int32} {st : List Value} {h : ab_Hp} {Q : ab_O → ab_Hp → Prop} (hl : st.length ≤ 4) (hk : (ab_sh h r).1 = 17) : wp 107 29 [v0, v1, v2, v3, v4, v5] (.int a1 :: .int a0 :: .ref r :: st) h Q = wp 90 0 [.ref r, .int a0, .int a1] [] h (ab_K 107 29 [v0, v1, v2, v3, v4, v5] st Q) := wp_callV (as := [.int a0, .int a1]) (by decide +kernel : ab_cod 107 29 = some (.invokevirtual 47, 3, 90, 3, 0, 828)) rfl rfl rfl rfl hl hk
set_option maxRecDepth 100000 in
theorem i107_32 {v0 v1 v2 v3 v4 v5 : Value} {w : Int32} {st : List Value} {h : ab_Hp} {Q : ab_O → ab_Hp → Prop} : wp 107 32 [v0, v1, v2, v3, v4, v5] (.int w :: st) h Q = wp 107 34 [v0, v1, v2, ab_clr v3, .int w, v5] st h Q := wp_stp (ri := (.istore 4, 2, 0, 0, 0, 0)) (by decide +kernel) rfl rfl rfl
set_option maxRecDepth 100000 in
theorem i107_34 {v0 v1 v2 v3 v5 : Value} {x : Int32} {st : List Value} {h : ab_Hp} {Q : ab_O → ab_Hp → Prop} : wp 107 34 [v0, v1, v2, v3, .int x, v5] st h Q = wp 107 36 [v0, v1, v2, v3, .int x, v5] (.int x :: st) h Q := wp_stp (ri := (.iload 4, 2, 0, 0, 0, 0)) (by decide +kernel) rfl rfl rfl
set_option maxRecDepth 100000 in
theorem i107_36 {v0 v1 v2 v3 v4 v5 : Value} {st : List Value} {h : ab_Hp} {Q : ab_O → ab_Hp → Prop} : wp 107 36 [v0, v1, v2, v3, v4, v5] st h Q = wp 107 37 [v0, v1, v2, v3, v4, v5] (.int ((-1)) :: st) h Q := wp_stp (ri := (.iconst (-1), 1, 0, 0, 0, 0)) (by decide +kernel) rfl rfl rfl
set_option maxRecDepth 100000 in
theorem i107_37 {v0 v1 v2 v3 v4 v5 : Value} {x y : Int32} {st : List Value} {h : ab_Hp} {Q : ab_O → ab_Hp → Prop} : wp 107 37 [v0, v1, v2, v3, v4, v5] (.int y :: .int x :: st) h Q = if ¬ x = y then wp 107 99 [v0, v1, v2, v3, v4, v5] st h Q else wp 107 40 [v0, v1, v2, v3, v4, v5] st h Q := wp_icmpP (by decide +kernel : ab_cod 107 37 = some (.if_icmp .ne 62, 3, 99, 0, 0, 0)) rfl
set_option maxRecDepth 100000 in
theorem i107_40 {v0 v1 v2 v3 v4 v5 : Value} {st : List Value} {h : ab_Hp} {Q : ab_O → ab_Hp → Prop} (hv : ab_isA v0 = true) : wp 107 40 [v0, v1, v2, v3, v4, v5] st h Q = wp 107 41 [v0, v1, v2, v3, v4, v5] (v0 :: st) h Q := wp_aload_n (by decide +kernel : ab_cod 107 40 = some (.aload_n 0, 1, 0, 0, 0, 0)) hv
set_option maxRecDepth 100000 in
theorem i107_41 {v0 v2 v3 v4 v5 : Value} {x : Int32} {st : List Value} {h : ab_Hp} {Q : ab_O → ab_Hp → Prop} : wp 107 41 [v0, .int x, v2, v3, v4, v5] st h Q = wp 107 42 [v0, .int x, v2, v3, v4, v5] (.int x :: st) h Q := wp_stp (ri := (.iload_n 1, 1, 0, 0, 0, 0)) (by decide +kernel) rfl rfl rfl
set_option maxRecDepth 100000 in
theorem i107_42 {v0 v1 v2 v3 v4 v5 : Value} {st : List Value} {h : ab_Hp} {Q : ab_O → ab_Hp → Prop} : wp 107 42 [v0, v1, v2, v3, v4, v5] st h Q = wp 107 44 [v0, v1, v2, v3, v4, v5] (.int (nI 8) :: st) h Q := wp_stp (ri := (.bipush 8, 2, 0, 0, 0, 0)) (by decide +kernel) rfl rfl rfl
set_option maxRecDepth 100000 in
theorem i107_44 {v0 v1 v2 v3 v4 v5 : Value} {st : List Value} {h : ab_Hp} {Q : ab_O → ab_Hp → Prop} (hv : ab_isA v0 = true) : wp 107 44 [v0, v1, v2, v3, v4, v5] st h Q = wp 107 45 [v0, v1, v2, v3, v4, v5] (v0 :: st) h Q := wp_aload_n (by decide +kernel : ab_cod 107 44 = some (.aload_n 0, 1, 0, 0, 0, 0)) hv
set_option maxRecDepth 100000 in
theorem i107_45 {v0 v2 v3 v4 v5 : Value} {x : Int32} {st : List Value} {h : ab_Hp} {Q : ab_O → ab_Hp → Prop} : wp 107 45 [v0, .int x, v2, v3, v4, v5] st h Q = wp 107 46 [v0, .int x, v2, v3, v4, v5] (.int x :: st) h Q := wp_stp (ri := (.iload_n 1, 1, 0, 0, 0, 0)) (by decide +kernel) rfl rfl rfl
set_option maxRecDepth 100000 in
theorem i107_46 {v0 v1 v2 v3 v4 v5 : Value} {st : List Value} {h : ab_Hp} {Q : ab_O → ab_Hp → Prop} : wp 107 46 [v0, v1, v2, v3, v4, v5] st h Q = wp 107 48 [v0, v1, v2, v3, v4, v5] (.int (nI 8) :: st) h Q := wp_stp (ri := (.bipush 8, 2, 0, 0, 0, 0)) (by decide +kernel) rfl rfl rfl
set_option maxRecDepth 100000 in
theorem i107_48 {v0 v1 v2 v3 v4 v5 : Value} {r : Nat} {a0 : Int32} {a1 : Int32} {st : List Value} {h : ab_Hp} {Q : ab_O → ab_Hp → Prop} (hl : st.length ≤ 4) (hk : (ab_sh h r).1 = 17) : wp 107 48 [v0, v1, v2, v3, v4, v5] (.int a1 :: .int a0 :: .ref r :: st) h Q = wp 90 0 [.ref r, .int a0, .int a1] [] h (ab_K 107 48 [v0, v1, v2, v3, v4, v5] st Q) := wp_callV (as := [.int a0, .int a1]) (by decide +kernel : ab_cod 107 48 = some (.invokevirtual 47, 3, 90, 3, 0, 828)) rfl rfl rfl rfl hl hk
set_option maxRecDepth 100000 in
theorem i107_51 {v0 v1 v2 v3 v4 v5 : Value} {st : List Value} {h : ab_Hp} {Q : ab_O → ab_Hp → Prop} : wp 107 51 [v0, v1, v2, v3, v4, v5] st h Q = wp 107 52 [v0, v1, v2, v3, v4, v5] (.int (nI 1) :: st) h Q := wp_stp (ri := (.iconst 1, 1, 0, 0, 0, 0)) (by decide +kernel) rfl rfl rfl
set_option maxRecDepth 100000 in
theorem i107_52 {v0 v1 v2 v3 v4 v5 : Value} {x y : Int32} {st : List Value} {h : ab_Hp} {Q : ab_O → ab_Hp → Prop} : wp 107 52 [v0, v1, v2, v3, v4, v5] (.int y :: .int x :: st) h Q = wp 107 53 [v0, v1, v2, v3, v4, v5] (.int (x + y) :: st) h Q := wp_stp (ri := (.iadd, 1, 0, 0, 0, 0)) (by decide +kernel) rfl rfl rfl
set_option maxRecDepth 100000 in
theorem i107_53 {v0 v1 v2 v3 v4 v5 : Value} {r : Nat} {a0 : Int32} {a1 : Int32} {a2 : Int32} {st : List Value} {h : ab_Hp} {Q : ab_O → ab_Hp → Prop} (hl : st.length ≤ 4) (hk : (ab_sh h r).1 = 17) : wp 107 53 [v0, v1, v2, v3, v4, v5] (.int a2 :: .int a1 :: .int a0 :: .ref r :: st) h Q = wp 91 0 [.ref r, .int a0, .int a1, .int a2] [] h (ab_K 107 53 [v0, v1, v2, v3, v4, v5] st Q) := wp_callV (as := [.int a0, .int a1, .int a2]) (by decide +kernel : ab_cod 107 53 = some (.invokevirtual 25, 3, 91, 4, 0, 768)) rfl rfl rfl rfl hl hk
set_option maxRecDepth 100000 in
theorem i107_56 {v0 v1 v2 v3 v4 v5 : Value} {st : List Value} {h : ab_Hp} {Q : ab_O → ab_Hp → Prop} (hv : ab_isA v0 = true) : wp 107 56 [v0, v1, v2, v3, v4, v5] st h Q = wp 107 57 [v0, v1, v2, v3, v4, v5] (v0 :: st) h Q := wp_aload_n (by decide +kernel : ab_cod 107 56 = some (.aload_n 0, 1, 0, 0, 0, 0)) hv
set_option maxRecDepth 100000 in
theorem i107_57 {v0 v2 v3 v4 v5 : Value} {x : Int32} {st : List Value} {h : ab_Hp} {Q : ab_O → ab_Hp → Prop} : wp 107 57 [v0, .int x, v2, v3, v4, v5] st h Q = wp 107 58 [v0, .int x, v2, v3, v4, v5] (.int x :: st) h Q := wp_stp (ri := (.iload_n 1, 1, 0, 0, 0, 0)) (by decide +kernel) rfl rfl rfl
set_option maxRecDepth 100000 in
theorem i107_58 {v0 v1 v2 v3 v4 v5 : Value} {st : List Value} {h : ab_Hp} {Q : ab_O → ab_Hp → Prop} : wp 107 58 [v0, v1, v2, v3, v4, v5] st h Q = wp 107 60 [v0, v1, v2, v3, v4, v5] (.int (nI 9) :: st) h Q := wp_stp (ri := (.bipush 9, 2, 0, 0, 0, 0)) (by decide +kernel) rfl rfl rfl
set_option maxRecDepth 100000 in
theorem i107_60 {v0 v1 v2 v4 v5 : Value} {x : Int32} {st : List Value} {h : ab_Hp} {Q : ab_O → ab_Hp → Prop} : wp 107 60 [v0, v1, v2, .int x, v4, v5] st h Q = wp 107 61 [v0, v1, v2, .int x, v4, v5] (.int x :: st) h Q := wp_stp (ri := (.iload_n 3, 1, 0, 0, 0, 0)) (by decide +kernel) rfl rfl rfl
set_option maxRecDepth 100000 in
theorem i107_61 {v0 v1 v2 v3 v4 v5 : Value} {r : Nat} {a0 : Int32} {a1 : Int32} {a2 : Int32} {st : List Value} {h : ab_Hp} {Q : ab_O → ab_Hp → Prop} (hl : st.length ≤ 4) (hk : (ab_sh h r).1 = 17) : wp 107 61 [v0, v1, v2, v3, v4, v5] (.int a2 :: .int a1 :: .int a0 :: .ref r :: st) h Q = wp 91 0 [.ref r, .int a0, .int a1, .int a2] [] h (ab_K 107 61 [v0, v1, v2, v3, v4, v5] st Q) := wp_callV (as := [.int a0, .int a1, .int a2]) (by decide +kernel : ab_cod 107 61 = some (.invokevirtual 25, 3, 91, 4, 0, 768)) rfl rfl rfl rfl hl hk
set_option maxRecDepth 100000 in
theorem i107_64 {v0 v1 v2 v3 v4 v5 : Value} {st : List Value} {h : ab_Hp} {Q : ab_O → ab_Hp → Prop} (hv : ab_isA v0 = true) : wp 107 64 [v0, v1, v2, v3, v4, v5] st h Q = wp 107 65 [v0, v1, v2, v3, v4, v5] (v0 :: st) h Q := wp_aload_n (by decide +kernel : ab_cod 107 64 = some (.aload_n 0, 1, 0, 0, 0, 0)) hv
set_option maxRecDepth 100000 in
theorem i107_65 {v0 v1 v2 v3 v4 v5 : Value} {r : Nat} {st : List Value} {h : ab_Hp} {Q : ab_O → ab_Hp → Prop} (hk : (ab_sh h r).1 = 17) : wp 107 65 [v0, v1, v2, v3, v4, v5] (.ref r :: st) h Q = wp 107 68 [v0, v1, v2, v3, v4, v5] (va_rf (ab_hr h r 1) :: st) h Q := wp_gf (by decide +kernel : ab_cod 107 65 = some (.getfield 7, 3, 7, 1, 773, 1)) hk
set_option maxRecDepth 100000 in
theorem i107_68 {v0 v1 v2 v3 v4 v5 : Value} {st : List Value} {h : ab_Hp} {Q : ab_O → ab_Hp → Prop} : wp 107 68 [v0, v1, v2, v3, v4, v5] st h Q = wp 107 69 [v0, v1, v2, v3, v4, v5] (.int (nI 2) :: st) h Q := wp_stp (ri := (.iconst 2, 1, 0, 0, 0, 0)) (by decide +kernel) rfl rfl rfl
set_option maxRecDepth 100000 in
theorem i107_69 {v0 v1 v2 v3 v4 v5 : Value} {x : Int32} {r : Nat} {st : List Value} {h : ab_Hp} {Q : ab_O → ab_Hp → Prop} : wp 107 69 [v0, v1, v2, v3, v4, v5] (.int x :: .ref r :: st) h Q = wp 107 70 [v0, v1, v2, v3, v4, v5] (.int x :: .ref r :: .int x :: .ref r :: st) h Q := wp_stp (ri := (.dup2, 1, 0, 0, 0, 0)) (by decide +kernel) rfl rfl rfl
set_option maxRecDepth 100000 in
theorem i107_70 {v0 v1 v2 v3 v4 v5 : Value} {r : Nat} {x : Int32} {st : List Value} {h : ab_Hp} {Q : ab_O → ab_Hp → Prop} (hk : ((ab_sh h r).1 = 1 ∨ (ab_sh h r).1 = 6) ∧ ab_in x (ab_sh h r).2 = true) : wp 107 70 [v0, v1, v2, v3, v4, v5] (.int x :: .ref r :: st) h Q = wp 107 71 [v0, v1, v2, v3, v4, v5] (.int (ab_hi h r x.toNatClampNeg) :: st) h Q := wp_ia (by decide +kernel : ab_cod 107 70 = some (.iaload, 1, 0, 0, 0, 0)) hk
set_option maxRecDepth 100000 in
theorem i107_71 {v0 v1 v2 v3 v4 v5 : Value} {st : List Value} {h : ab_Hp} {Q : ab_O → ab_Hp → Prop} : wp 107 71 [v0, v1, v2, v3, v4, v5] st h Q = wp 107 72 [v0, v1, v2, v3, v4, v5] (.int (nI 1) :: st) h Q := wp_stp (ri := (.iconst 1, 1, 0, 0, 0, 0)) (by decide +kernel) rfl rfl rfl
set_option maxRecDepth 100000 in
theorem i107_72 {v0 v1 v2 v3 v4 v5 : Value} {x y : Int32} {st : List Value} {h : ab_Hp} {Q : ab_O → ab_Hp → Prop} : wp 107 72 [v0, v1, v2, v3, v4, v5] (.int y :: .int x :: st) h Q = wp 107 73 [v0, v1, v2, v3, v4, v5] (.int (x + y) :: st) h Q := wp_stp (ri := (.iadd, 1, 0, 0, 0, 0)) (by decide +kernel) rfl rfl rfl
set_option maxRecDepth 100000 in
theorem i107_73 {v0 v1 v2 v3 v4 v5 : Value} {r : Nat} {x y : Int32} {st : List Value} {h : ab_Hp} {Q : ab_O → ab_Hp → Prop} (hk : (ab_sh h r).1 = 1 ∧ ab_in x (ab_sh h r).2 = true) : wp 107 73 [v0, v1, v2, v3, v4, v5] (.int y :: .int x :: .ref r :: st) h Q = wp 107 74 [v0, v1, v2, v3, v4, v5] st (ab_setI h (ab_u (ab_hi h) r x.toNatClampNeg y)) Q := wp_ias (by decide +kernel : ab_cod 107 73 = some (.iastore, 1, 0, 0, 0, 0)) hk
set_option maxRecDepth 100000 in
theorem i107_74 {v0 v1 v2 v3 v4 v5 : Value} {st : List Value} {h : ab_Hp} {Q : ab_O → ab_Hp → Prop} (hv : ab_isA v0 = true) : wp 107 74 [v0, v1, v2, v3, v4, v5] st h Q = wp 107 75 [v0, v1, v2, v3, v4, v5] (v0 :: st) h Q := wp_aload_n (by decide +kernel : ab_cod 107 74 = some (.aload_n 0, 1, 0, 0, 0, 0)) hv
set_option maxRecDepth 100000 in
theorem i107_75 {v0 v1 v2 v3 v4 v5 : Value} {r : Nat} {st : List Value} {h : ab_Hp} {Q : ab_O → ab_Hp → Prop} (hk : (ab_sh h r).1 = 17) : wp 107 75 [v0, v1, v2, v3, v4, v5] (.ref r :: st) h Q = wp 107 78 [v0, v1, v2, v3, v4, v5] (va_rf (ab_hr h r 1) :: st) h Q := wp_gf (by decide +kernel : ab_cod 107 75 = some (.getfield 7, 3, 7, 1, 773, 1)) hk
set_option maxRecDepth 100000 in
theorem i107_78 {v0 v1 v2 v3 v4 v5 : Value} {st : List Value} {h : ab_Hp} {Q : ab_O → ab_Hp → Prop} : wp 107 78 [v0, v1, v2, v3, v4, v5] st h Q = wp 107 79 [v0, v1, v2, v3, v4, v5] (.int (nI 3) :: st) h Q := wp_stp (ri := (.iconst 3, 1, 0, 0, 0, 0)) (by decide +kernel) rfl rfl rfl
set_option maxRecDepth 100000 in
theorem i107_79 {v0 v1 v2 v3 v4 v5 : Value} {x : Int32} {r : Nat} {st : List Value} {h : ab_Hp} {Q : ab_O → ab_Hp → Prop} : wp 107 79 [v0, v1, v2, v3, v4, v5] (.int x :: .ref r :: st) h Q = wp 107 80 [v0, v1, v2, v3, v4, v5] (.int x :: .ref r :: .int x :: .ref r :: st) h Q := wp_stp (ri := (.dup2, 1, 0, 0, 0, 0)) (by decide +kernel) rfl rfl rfl
set_option maxRecDepth 100000 in
theorem i107_80 {v0 v1 v2 v3 v4 v5 : Value} {r : Nat} {x : Int32} {st : List Value} {h : ab_Hp} {Q : ab_O → ab_Hp → Prop} (hk : ((ab_sh h r).1 = 1 ∨ (ab_sh h r).1 = 6) ∧ ab_in x (ab_sh h r).2 = true) : wp 107 80 [v0, v1, v2, v3, v4, v5] (.int x :: .ref r :: st) h Q = wp 107 81 [v0, v1, v2, v3, v4, v5] (.int (ab_hi h r x.toNatClampNeg) :: st) h Q := wp_ia (by decide +kernel : ab_cod 107 80 = some (.iaload, 1, 0, 0, 0, 0)) hk
set_option maxRecDepth 100000 in
theorem i107_81 {v0 v1 v2 v4 v5 : Value} {x : Int32} {st : List Value} {h : ab_Hp} {Q : ab_O → ab_Hp → Prop} : wp 107 81 [v0, v1, v2, .int x, v4, v5] st h Q = wp 107 82 [v0, v1, v2, .int x, v4, v5] (.int x :: st) h Q := wp_stp (ri := (.iload_n 3, 1, 0, 0, 0, 0)) (by decide +kernel) rfl rfl rfl
set_option maxRecDepth 100000 in
theorem i107_82 {v0 v1 v2 v3 v4 v5 : Value} {x y : Int32} {st : List Value} {h : ab_Hp} {Q : ab_O → ab_Hp → Prop} : wp 107 82 [v0, v1, v2, v3, v4, v5] (.int y :: .int x :: st) h Q = wp 107 83 [v0, v1, v2, v3, v4, v5] (.int (x + y) :: st) h Q := wp_stp (ri := (.iadd, 1, 0, 0, 0, 0)) (by decide +kernel) rfl rfl rfl
set_option maxRecDepth 100000 in
theorem i107_83 {v0 v1 v2 v3 v4 v5 : Value} {r : Nat} {x y : Int32} {st : List Value} {h : ab_Hp} {Q : ab_O → ab_Hp → Prop} (hk : (ab_sh h r).1 = 1 ∧ ab_in x (ab_sh h r).2 = true) : wp 107 83 [v0, v1, v2, v3, v4, v5] (.int y :: .int x :: .ref r :: st) h Q = wp 107 84 [v0, v1, v2, v3, v4, v5] st (ab_setI h (ab_u (ab_hi h) r x.toNatClampNeg y)) Q := wp_ias (by decide +kernel : ab_cod 107 83 = some (.iastore, 1, 0, 0, 0, 0)) hk
set_option maxRecDepth 100000 in
theorem i107_84 {v0 v1 v2 v3 v4 v5 : Value} {st : List Value} {h : ab_Hp} {Q : ab_O → ab_Hp → Prop} (hv : ab_isA v0 = true) : wp 107 84 [v0, v1, v2, v3, v4, v5] st h Q = wp 107 85 [v0, v1, v2, v3, v4, v5] (v0 :: st) h Q := wp_aload_n (by decide +kernel : ab_cod 107 84 = some (.aload_n 0, 1, 0, 0, 0, 0)) hv
set_option maxRecDepth 100000 in
theorem i107_85 {v0 v1 v2 v3 v4 v5 : Value} {r : Nat} {st : List Value} {h : ab_Hp} {Q : ab_O → ab_Hp → Prop} (hk : (ab_sh h r).1 = 17) : wp 107 85 [v0, v1, v2, v3, v4, v5] (.ref r :: st) h Q = wp 107 88 [v0, v1, v2, v3, v4, v5] (va_rf (ab_hr h r 1) :: st) h Q := wp_gf (by decide +kernel : ab_cod 107 85 = some (.getfield 7, 3, 7, 1, 773, 1)) hk
set_option maxRecDepth 100000 in
theorem i107_88 {v0 v1 v2 v3 v4 v5 : Value} {st : List Value} {h : ab_Hp} {Q : ab_O → ab_Hp → Prop} : wp 107 88 [v0, v1, v2, v3, v4, v5] st h Q = wp 107 89 [v0, v1, v2, v3, v4, v5] (.int (nI 4) :: st) h Q := wp_stp (ri := (.iconst 4, 1, 0, 0, 0, 0)) (by decide +kernel) rfl rfl rfl
set_option maxRecDepth 100000 in
theorem i107_89 {v0 v1 v3 v4 v5 : Value} {x : Int32} {st : List Value} {h : ab_Hp} {Q : ab_O → ab_Hp → Prop} : wp 107 89 [v0, v1, .int x, v3, v4, v5] st h Q = wp 107 90 [v0, v1, .int x, v3, v4, v5] (.int x :: st) h Q := wp_stp (ri := (.iload_n 2, 1, 0, 0, 0, 0)) (by decide +kernel) rfl rfl rfl
set_option maxRecDepth 100000 in
theorem i107_90 {v0 v1 v2 v3 v4 v5 : Value} {r : Nat} {x y : Int32} {st : List Value} {h : ab_Hp} {Q : ab_O → ab_Hp → Prop} (hk : (ab_sh h r).1 = 1 ∧ ab_in x (ab_sh h r).2 = true) : wp 107 90 [v0, v1, v2, v3, v4, v5] (.int y :: .int x :: .ref r :: st) h Q = wp 107 91 [v0, v1, v2, v3, v4, v5] st (ab_setI h (ab_u (ab_hi h) r x.toNatClampNeg y)) Q := wp_ias (by decide +kernel : ab_cod 107 90 = some (.iastore, 1, 0, 0, 0, 0)) hk
set_option maxRecDepth 100000 in
theorem i107_91 {v0 v1 v2 v3 v4 v5 : Value} {st : List Value} {h : ab_Hp} {Q : ab_O → ab_Hp → Prop} (hv : ab_isA v0 = true) : wp 107 91 [v0, v1, v2, v3, v4, v5] st h Q = wp 107 92 [v0, v1, v2, v3, v4, v5] (v0 :: st) h Q := wp_aload_n (by decide +kernel : ab_cod 107 91 = some (.aload_n 0, 1, 0, 0, 0, 0)) hv
set_option maxRecDepth 100000 in
theorem i107_92 {v0 v2 v3 v4 v5 : Value} {x : Int32} {st : List Value} {h : ab_Hp} {Q : ab_O → ab_Hp → Prop} : wp 107 92 [v0, .int x, v2, v3, v4, v5] st h Q = wp 107 93 [v0, .int x, v2, v3, v4, v5] (.int x :: st) h Q := wp_stp (ri := (.iload_n 1, 1, 0, 0, 0, 0)) (by decide +kernel) rfl rfl rfl
set_option maxRecDepth 100000 in
theorem i107_93 {v0 v1 v2 v3 v4 v5 : Value} {r : Nat} {a0 : Int32} {st : List Value} {h : ab_Hp} {Q : ab_O → ab_Hp → Prop} (hl : st.length ≤ 4) (hk : (ab_sh h r).1 = 17) : wp 107 93 [v0, v1, v2, v3, v4, v5] (.int a0 :: .ref r :: st) h Q = wp 105 0 [.ref r, .int a0, ab_nov, ab_nov] [] h (ab_K 107 93 [v0, v1, v2, v3, v4, v5] st Q) := wp_callV (as := [.int a0]) (by decide +kernel : ab_cod 107 93 = some (.invokevirtual 67, 3, 105, 2, 0, 888)) rfl rfl rfl rfl hl hk
set_option maxRecDepth 100000 in
theorem i107_96 {v0 v1 v2 v3 v4 v5 : Value} {st : List Value} {h : ab_Hp} {Q : ab_O → ab_Hp → Prop} : wp 107 96 [v0, v1, v2, v3, v4, v5] st h Q = wp 107 217 [v0, v1, v2, v3, v4, v5] st h Q := wp_stp (ri := (.goto 121, 3, 217, 0, 0, 0)) (by decide +kernel) rfl rfl rfl
set_option maxRecDepth 100000 in
theorem i107_99 {v0 v1 v2 v3 v4 v5 : Value} {st : List Value} {h : ab_Hp} {Q : ab_O → ab_Hp → Prop} (hv : ab_isA v0 = true) : wp 107 99 [v0, v1, v2, v3, v4, v5] st h Q = wp 107 100 [v0, v1, v2, v3, v4, v5] (v0 :: st) h Q := wp_aload_n (by decide +kernel : ab_cod 107 99 = some (.aload_n 0, 1, 0, 0, 0, 0)) hv
set_option maxRecDepth 100000 in
theorem i107_100 {v0 v1 v2 v3 v5 : Value} {x : Int32} {st : List Value} {h : ab_Hp} {Q : ab_O → ab_Hp → Prop} : wp 107 100 [v0, v1, v2, v3, .int x, v5] st h Q = wp 107 102 [v0, v1, v2, v3, .int x, v5] (.int x :: st) h Q := wp_stp (ri := (.iload 4, 2, 0, 0, 0, 0)) (by decide +kernel) rfl rfl rfl
set_option maxRecDepth 100000 in
theorem i107_102 {v0 v1 v2 v3 v4 v5 : Value} {st : List Value} {h : ab_Hp} {Q : ab_O → ab_Hp → Prop} : wp 107 102 [v0, v1, v2, v3, v4, v5] st h Q = wp 107 103 [v0, v1, v2, v3, v4, v5] (.int (nI 4) :: st) h Q := wp_stp (ri := (.iconst 4, 1, 0, 0, 0, 0)) (by decide +kernel) rfl rfl rfl
set_option maxRecDepth 100000 in
theorem i107_103 {v0 v1 v2 v3 v4 v5 : Value} {r : Nat} {a0 : Int32} {a1 : Int32} {st : List Value} {h : ab_Hp} {Q : ab_O → ab_Hp → Prop} (hl : st.length ≤ 4) (hk : (ab_sh h r).1 = 17) : wp 107 103 [v0, v1, v2, v3, v4, v5] (.int a1 :: .int a0 :: .ref r :: st) h Q = wp 92 0 [.ref r, .int a0, .int a1] [] h (ab_K 107 103 [v0, v1, v2, v3, v4, v5] st Q) := wp_callV (as := [.int a0, .int a1]) (by decide +kernel : ab_cod 107 103 = some (.invokevirtual 61, 3, 92, 3, 0, 860)) rfl rfl rfl rfl hl hk
set_option maxRecDepth 100000 in
theorem i107_106 {v0 v1 v2 v3 v4 v5 : Value} {st : List Value} {h : ab_Hp} {Q : ab_O → ab_Hp → Prop} (hv : ab_isA v0 = true) : wp 107 106 [v0, v1, v2, v3, v4, v5] st h Q = wp 107 107 [v0, v1, v2, v3, v4, v5] (v0 :: st) h Q := wp_aload_n (by decide +kernel : ab_cod 107 106 = some (.aload_n 0, 1, 0, 0, 0, 0)) hv
set_option maxRecDepth 100000 in
theorem i107_107 {v0 v1 v2 v3 v5 : Value} {x : Int32} {st : List Value} {h : ab_Hp} {Q : ab_O → ab_Hp → Prop} : wp 107 107 [v0, v1, v2, v3, .int x, v5] st h Q = wp 107 109 [v0, v1, v2, v3, .int x, v5] (.int x :: st) h Q := wp_stp (ri := (.iload 4, 2, 0, 0, 0, 0)) (by decide +kernel) rfl rfl rfl
set_option maxRecDepth 100000 in
theorem i107_109 {v0 v1 v2 v3 v4 v5 : Value} {st : List Value} {h : ab_Hp} {Q : ab_O → ab_Hp → Prop} : wp 107 109 [v0, v1, v2, v3, v4, v5] st h Q = wp 107 110 [v0, v1, v2, v3, v4, v5] (.int (nI 2) :: st) h Q := wp_stp (ri := (.iconst 2, 1, 0, 0, 0, 0)) (by decide +kernel) rfl rfl rfl
set_option maxRecDepth 100000 in
theorem i107_110 {v0 v1 v2 v3 v4 v5 : Value} {r : Nat} {a0 : Int32} {a1 : Int32} {st : List Value} {h : ab_Hp} {Q : ab_O → ab_Hp → Prop} (hl : st.length ≤ 4) (hk : (ab_sh h r).1 = 17) : wp 107 110 [v0, v1, v2, v3, v4, v5] (.int a1 :: .int a0 :: .ref r :: st) h Q = wp 92 0 [.ref r, .int a0, .int a1] [] h (ab_K 107 110 [v0, v1, v2, v3, v4, v5] st Q) := wp_callV (as := [.int a0, .int a1]) (by decide +kernel : ab_cod 107 110 = some (.invokevirtual 61, 3, 92, 3, 0, 860)) rfl rfl rfl rfl hl hk
set_option maxRecDepth 100000 in
theorem i107_113 {v0 v1 v2 v3 v4 v5 : Value} {x y : Int32} {st : List Value} {h : ab_Hp} {Q : ab_O → ab_Hp → Prop} : wp 107 113 [v0, v1, v2, v3, v4, v5] (.int y :: .int x :: st) h Q = if y ≤ x then wp 107 201 [v0, v1, v2, v3, v4, v5] st h Q else wp 107 116 [v0, v1, v2, v3, v4, v5] st h Q := wp_icmpP (by decide +kernel : ab_cod 107 113 = some (.if_icmp .ge 88, 3, 201, 0, 0, 0)) rfl
set_option maxRecDepth 100000 in
theorem i107_116 {v0 v1 v2 v3 v4 v5 : Value} {st : List Value} {h : ab_Hp} {Q : ab_O → ab_Hp → Prop} : wp 107 116 [v0, v1, v2, v3, v4, v5] st h Q = wp 107 118 [v0, v1, v2, v3, v4, v5] (.int (nI 6) :: st) h Q := wp_stp (ri := (.bipush 6, 2, 0, 0, 0, 0)) (by decide +kernel) rfl rfl rfl
set_option maxRecDepth 100000 in
theorem i107_118 {v0 v1 v2 v3 v4 v5 : Value} {st : List Value} {h : ab_Hp} {Q : ab_O → ab_Hp → Prop} : wp 107 118 [v0, v1, v2, v3, v4, v5] st h Q = wp 107 119 [v0, v1, v2, v3, v4, v5] (.int (nI 3) :: st) h Q := wp_stp (ri := (.iconst 3, 1, 0, 0, 0, 0)) (by decide +kernel) rfl rfl rfl
set_option maxRecDepth 100000 in
theorem i107_119 {v0 v1 v2 v3 v4 v5 : Value} {st : List Value} {h : ab_Hp} {Q : ab_O → ab_Hp → Prop} (hv : ab_isA v0 = true) : wp 107 119 [v0, v1, v2, v3, v4, v5] st h Q = wp 107 120 [v0, v1, v2, v3, v4, v5] (v0 :: st) h Q := wp_aload_n (by decide +kernel : ab_cod 107 119 = some (.aload_n 0, 1, 0, 0, 0, 0)) hv
set_option maxRecDepth 100000 in
theorem i107_120 {v0 v1 v2 v3 v5 : Value} {x : Int32} {st : List Value} {h : ab_Hp} {Q : ab_O → ab_Hp → Prop} : wp 107 120 [v0, v1, v2, v3, .int x, v5] st h Q = wp 107 122 [v0, v1, v2, v3, .int x, v5] (.int x :: st) h Q := wp_stp (ri := (.iload 4, 2, 0, 0, 0, 0)) (by decide +kernel) rfl rfl rfl
set_option maxRecDepth 100000 in
theorem i107_122 {v0 v1 v2 v3 v4 v5 : Value} {st : List Value} {h : ab_Hp} {Q : ab_O → ab_Hp → Prop} : wp 107 122 [v0, v1, v2, v3, v4, v5] st h Q = wp 107 123 [v0, v1, v2, v3, v4, v5] (.int (nI 4) :: st) h Q := wp_stp (ri := (.iconst 4, 1, 0, 0, 0, 0)) (by decide +kernel) rfl rfl rfl
set_option maxRecDepth 100000 in
theorem i107_123 {v0 v1 v2 v3 v4 v5 : Value} {r : Nat} {a0 : Int32} {a1 : Int32} {st : List Value} {h : ab_Hp} {Q : ab_O → ab_Hp → Prop} (hl : st.length ≤ 4) (hk : (ab_sh h r).1 = 17) : wp 107 123 [v0, v1, v2, v3, v4, v5] (.int a1 :: .int a0 :: .ref r :: st) h Q = wp 92 0 [.ref r, .int a0, .int a1] [] h (ab_K 107 123 [v0, v1, v2, v3, v4, v5] st Q) := wp_callV (as := [.int a0, .int a1]) (by decide +kernel : ab_cod 107 123 = some (.invokevirtual 61, 3, 92, 3, 0, 860)) rfl rfl rfl rfl hl hk
set_option maxRecDepth 100000 in
theorem i107_126 {v0 v1 v2 v3 v4 v5 : Value} {x y : Int32} {st : List Value} {h : ab_Hp} {Q : ab_O → ab_Hp → Prop} : wp 107 126 [v0, v1, v2, v3, v4, v5] (.int y :: .int x :: st) h Q = wp 107 127 [v0, v1, v2, v3, v4, v5] (.int (x * y) :: st) h Q := wp_stp (ri := (.imul, 1, 0, 0, 0, 0)) (by decide +kernel) rfl rfl rfl
set_option maxRecDepth 100000 in
theorem i107_127 {v0 v1 v2 v3 v4 v5 : Value} {x y : Int32} {st : List Value} {h : ab_Hp} {Q : ab_O → ab_Hp → Prop} : wp 107 127 [v0, v1, v2, v3, v4, v5] (.int y :: .int x :: st) h Q = wp 107 128 [v0, v1, v2, v3, v4, v5] (.int (x + y) :: st) h Q := wp_stp (ri := (.iadd, 1, 0, 0, 0, 0)) (by decide +kernel) rfl rfl rfl
set_option maxRecDepth 100000 in
theorem i107_128 {v0 v1 v2 v3 v4 v5 : Value} {w : Int32} {st : List Value} {h : ab_Hp} {Q : ab_O → ab_Hp → Prop} : wp 107 128 [v0, v1, v2, v3, v4, v5] (.int w :: st) h Q = wp 107 130 [v0, v1, v2, v3, ab_clr v4, .int w] st h Q := wp_stp (ri := (.istore 5, 2, 0, 0, 0, 0)) (by decide +kernel) rfl rfl rfl
set_option maxRecDepth 100000 in
theorem i107_130 {v0 v1 v2 v3 v4 v5 : Value} {st : List Value} {h : ab_Hp} {Q : ab_O → ab_Hp → Prop} (hv : ab_isA v0 = true) : wp 107 130 [v0, v1, v2, v3, v4, v5] st h Q = wp 107 131 [v0, v1, v2, v3, v4, v5] (v0 :: st) h Q := wp_aload_n (by decide +kernel : ab_cod 107 130 = some (.aload_n 0, 1, 0, 0, 0, 0)) hv
set_option maxRecDepth 100000 in
theorem i107_131 {v0 v1 v2 v3 v5 : Value} {x : Int32} {st : List Value} {h : ab_Hp} {Q : ab_O → ab_Hp → Prop} : wp 107 131 [v0, v1, v2, v3, .int x, v5] st h Q = wp 107 133 [v0, v1, v2, v3, .int x, v5] (.int x :: st) h Q := wp_stp (ri := (.iload 4, 2, 0, 0, 0, 0)) (by decide +kernel) rfl rfl rfl
set_option maxRecDepth 100000 in
theorem i107_133 {v0 v1 v2 v3 v4 : Value} {x : Int32} {st : List Value} {h : ab_Hp} {Q : ab_O → ab_Hp → Prop} : wp 107 133 [v0, v1, v2, v3, v4, .int x] st h Q = wp 107 135 [v0, v1, v2, v3, v4, .int x] (.int x :: st) h Q := wp_stp (ri := (.iload 5, 2, 0, 0, 0, 0)) (by decide +kernel) rfl rfl rfl
set_option maxRecDepth 100000 in
theorem i107_135 {v0 v1 v3 v4 v5 : Value} {x : Int32} {st : List Value} {h : ab_Hp} {Q : ab_O → ab_Hp → Prop} : wp 107 135 [v0, v1, .int x, v3, v4, v5] st h Q = wp 107 136 [v0, v1, .int x, v3, v4, v5] (.int x :: st) h Q := wp_stp (ri := (.iload_n 2, 1, 0, 0, 0, 0)) (by decide +kernel) rfl rfl rfl
set_option maxRecDepth 100000 in
theorem i107_136 {v0 v1 v2 v3 v4 v5 : Value} {r : Nat} {a0 : Int32} {a1 : Int32} {a2 : Int32} {st : List Value} {h : ab_Hp} {Q : ab_O → ab_Hp → Prop} (hl : st.length ≤ 4) (hk : (ab_sh h r).1 = 17) : wp 107 136 [v0, v1, v2, v3, v4, v5] (.int a2 :: .int a1 :: .int a0 :: .ref r :: st) h Q = wp 93 0 [.ref r, .int a0, .int a1, .int a2] [] h (ab_K 107 136 [v0, v1, v2, v3, v4, v5] st Q) := wp_callV (as := [.int a0, .int a1, .int a2]) (by decide +kernel : ab_cod 107 136 = some (.invokevirtual 55, 3, 93, 4, 0, 848)) rfl rfl rfl rfl hl hk
set_option maxRecDepth 100000 in
theorem i107_139 {v0 v1 v2 v3 v4 v5 : Value} {st : List Value} {h : ab_Hp} {Q : ab_O → ab_Hp → Prop} (hv : ab_isA v0 = true) : wp 107 139 [v0, v1, v2, v3, v4, v5] st h Q = wp 107 140 [v0, v1, v2, v3, v4, v5] (v0 :: st) h Q := wp_aload_n (by decide +kernel : ab_cod 107 139 = some (.aload_n 0, 1, 0, 0, 0, 0)) hv
set_option maxRecDepth 100000 in
theorem i107_140 {v0 v1 v2 v3 v5 : Value} {x : Int32} {st : List Value} {h : ab_Hp} {Q : ab_O → ab_Hp → Prop} : wp 107 140 [v0, v1, v2, v3, .int x, v5] st h Q = wp 107 142 [v0, v1, v2, v3, .int x, v5] (.int x :: st) h Q := wp_stp (ri := (.iload 4, 2, 0, 0, 0, 0)) (by decide +kernel) rfl rfl rfl
set_option maxRecDepth 100000 in
theorem i107_142 {v0 v1 v2 v3 v4 : Value} {x : Int32} {st : List Value} {h : ab_Hp} {Q : ab_O → ab_Hp → Prop} : wp 107 142 [v0, v1, v2, v3, v4, .int x] st h Q = wp 107 144 [v0, v1, v2, v3, v4, .int x] (.int x :: st) h Q := wp_stp (ri := (.iload 5, 2, 0, 0, 0, 0)) (by decide +kernel) rfl rfl rfl
set_option maxRecDepth 100000 in
theorem i107_144 {v0 v1 v2 v3 v4 v5 : Value} {st : List Value} {h : ab_Hp} {Q : ab_O → ab_Hp → Prop} : wp 107 144 [v0, v1, v2, v3, v4, v5] st h Q = wp 107 145 [v0, v1, v2, v3, v4, v5] (.int (nI 1) :: st) h Q := wp_stp (ri := (.iconst 1, 1, 0, 0, 0, 0)) (by decide +kernel) rfl rfl rfl
set_option maxRecDepth 100000 in
theorem i107_145 {v0 v1 v2 v3 v4 v5 : Value} {x y : Int32} {st : List Value} {h : ab_Hp} {Q : ab_O → ab_Hp → Prop} : wp 107 145 [v0, v1, v2, v3, v4, v5] (.int y :: .int x :: st) h Q = wp 107 146 [v0, v1, v2, v3, v4, v5] (.int (x + y) :: st) h Q := wp_stp (ri := (.iadd, 1, 0, 0, 0, 0)) (by decide +kernel) rfl rfl rfl
set_option maxRecDepth 100000 in
theorem i107_146 {v0 v1 v2 v4 v5 : Value} {x : Int32} {st : List Value} {h : ab_Hp} {Q : ab_O → ab_Hp → Prop} : wp 107 146 [v0, v1, v2, .int x, v4, v5] st h Q = wp 107 147 [v0, v1, v2, .int x, v4, v5] (.int x :: st) h Q := wp_stp (ri := (.iload_n 3, 1, 0, 0, 0, 0)) (by decide +kernel) rfl rfl rfl
set_option maxRecDepth 100000 in
theorem i107_147 {v0 v1 v2 v3 v4 v5 : Value} {r : Nat} {a0 : Int32} {a1 : Int32} {a2 : Int32} {st : List Value} {h : ab_Hp} {Q : ab_O → ab_Hp → Prop} (hl : st.length ≤ 4) (hk : (ab_sh h r).1 = 17) : wp 107 147 [v0, v1, v2, v3, v4, v5] (.int a2 :: .int a1 :: .int a0 :: .ref r :: st) h Q = wp 93 0 [.ref r, .int a0, .int a1, .int a2] [] h (ab_K 107 147 [v0, v1, v2, v3, v4, v5] st Q) := wp_callV (as := [.int a0, .int a1, .int a2]) (by decide +kernel : ab_cod 107 147 = some (.invokevirtual 55, 3, 93, 4, 0, 848)) rfl rfl rfl rfl hl hk
set_option maxRecDepth 100000 in
theorem i107_150 {v0 v1 v2 v3 v4 v5 : Value} {st : List Value} {h : ab_Hp} {Q : ab_O → ab_Hp → Prop} (hv : ab_isA v0 = true) : wp 107 150 [v0, v1, v2, v3, v4, v5] st h Q = wp 107 151 [v0, v1, v2, v3, v4, v5] (v0 :: st) h Q := wp_aload_n (by decide +kernel : ab_cod 107 150 = some (.aload_n 0, 1, 0, 0, 0, 0)) hv
set_option maxRecDepth 100000 in
theorem i107_151 {v0 v1 v2 v3 v5 : Value} {x : Int32} {st : List Value} {h : ab_Hp} {Q : ab_O → ab_Hp → Prop} : wp 107 151 [v0, v1, v2, v3, .int x, v5] st h Q = wp 107 153 [v0, v1, v2, v3, .int x, v5] (.int x :: st) h Q := wp_stp (ri := (.iload 4, 2, 0, 0, 0, 0)) (by decide +kernel) rfl rfl rfl
set_option maxRecDepth 100000 in
theorem i107_153 {v0 v1 v2 v3 v4 : Value} {x : Int32} {st : List Value} {h : ab_Hp} {Q : ab_O → ab_Hp → Prop} : wp 107 153 [v0, v1, v2, v3, v4, .int x] st h Q = wp 107 155 [v0, v1, v2, v3, v4, .int x] (.int x :: st) h Q := wp_stp (ri := (.iload 5, 2, 0, 0, 0, 0)) (by decide +kernel) rfl rfl rfl
set_option maxRecDepth 100000 in
theorem i107_155 {v0 v1 v2 v3 v4 v5 : Value} {st : List Value} {h : ab_Hp} {Q : ab_O → ab_Hp → Prop} : wp 107 155 [v0, v1, v2, v3, v4, v5] st h Q = wp 107 156 [v0, v1, v2, v3, v4, v5] (.int (nI 2) :: st) h Q := wp_stp (ri := (.iconst 2, 1, 0, 0, 0, 0)) (by decide +kernel) rfl rfl rfl
set_option maxRecDepth 100000 in
theorem i107_156 {v0 v1 v2 v3 v4 v5 : Value} {x y : Int32} {st : List Value} {h : ab_Hp} {Q : ab_O → ab_Hp → Prop} : wp 107 156 [v0, v1, v2, v3, v4, v5] (.int y :: .int x :: st) h Q = wp 107 157 [v0, v1, v2, v3, v4, v5] (.int (x + y) :: st) h Q := wp_stp (ri := (.iadd, 1, 0, 0, 0, 0)) (by decide +kernel) rfl rfl rfl
set_option maxRecDepth 100000 in
theorem i107_157 {v0 v1 v2 v3 v4 v5 : Value} {st : List Value} {h : ab_Hp} {Q : ab_O → ab_Hp → Prop} : wp 107 157 [v0, v1, v2, v3, v4, v5] st h Q = wp 107 158 [v0, v1, v2, v3, v4, v5] (.int (nI 0) :: st) h Q := wp_stp (ri := (.iconst 0, 1, 0, 0, 0, 0)) (by decide +kernel) rfl rfl rfl
set_option maxRecDepth 100000 in
theorem i107_158 {v0 v1 v2 v3 v4 v5 : Value} {r : Nat} {a0 : Int32} {a1 : Int32} {a2 : Int32} {st : List Value} {h : ab_Hp} {Q : ab_O → ab_Hp → Prop} (hl : st.length ≤ 4) (hk : (ab_sh h r).1 = 17) : wp 107 158 [v0, v1, v2, v3, v4, v5] (.int a2 :: .int a1 :: .int a0 :: .ref r :: st) h Q = wp 93 0 [.ref r, .int a0, .int a1, .int a2] [] h (ab_K 107 158 [v0, v1, v2, v3, v4, v5] st Q) := wp_callV (as := [.int a0, .int a1, .int a2]) (by decide +kernel : ab_cod 107 158 = some (.invokevirtual 55, 3, 93, 4, 0, 848)) rfl rfl rfl rfl hl hk
set_option maxRecDepth 100000 in
theorem i107_161 {v0 v1 v2 v3 v4 v5 : Value} {st : List Value} {h : ab_Hp} {Q : ab_O → ab_Hp → Prop} (hv : ab_isA v0 = true) : wp 107 161 [v0, v1, v2, v3, v4, v5] st h Q = wp 107 162 [v0, v1, v2, v3, v4, v5] (v0 :: st) h Q := wp_aload_n (by decide +kernel : ab_cod 107 161 = some (.aload_n 0, 1, 0, 0, 0, 0)) hv
set_option maxRecDepth 100000 in
theorem i107_162 {v0 v1 v2 v3 v5 : Value} {x : Int32} {st : List Value} {h : ab_Hp} {Q : ab_O → ab_Hp → Prop} : wp 107 162 [v0, v1, v2, v3, .int x, v5] st h Q = wp 107 164 [v0, v1, v2, v3, .int x, v5] (.int x :: st) h Q := wp_stp (ri := (.iload 4, 2, 0, 0, 0, 0)) (by decide +kernel) rfl rfl rfl
set_option maxRecDepth 100000 in
theorem i107_164 {v0 v1 v2 v3 v4 v5 : Value} {st : List Value} {h : ab_Hp} {Q : ab_O → ab_Hp → Prop} : wp 107 164 [v0, v1, v2, v3, v4, v5] st h Q = wp 107 165 [v0, v1, v2, v3, v4, v5] (.int (nI 4) :: st) h Q := wp_stp (ri := (.iconst 4, 1, 0, 0, 0, 0)) (by decide +kernel) rfl rfl rfl
set_option maxRecDepth 100000 in
theorem i107_165 {v0 v1 v2 v3 v4 v5 : Value} {st : List Value} {h : ab_Hp} {Q : ab_O → ab_Hp → Prop} (hv : ab_isA v0 = true) : wp 107 165 [v0, v1, v2, v3, v4, v5] st h Q = wp 107 166 [v0, v1, v2, v3, v4, v5] (v0 :: st) h Q := wp_aload_n (by decide +kernel : ab_cod 107 165 = some (.aload_n 0, 1, 0, 0, 0, 0)) hv
set_option maxRecDepth 100000 in
theorem i107_166 {v0 v1 v2 v3 v5 : Value} {x : Int32} {st : List Value} {h : ab_Hp} {Q : ab_O → ab_Hp → Prop} : wp 107 166 [v0, v1, v2, v3, .int x, v5] st h Q = wp 107 168 [v0, v1, v2, v3, .int x, v5] (.int x :: st) h Q := wp_stp (ri := (.iload 4, 2, 0, 0, 0, 0)) (by decide +kernel) rfl rfl rfl
set_option maxRecDepth 100000 in
theorem i107_168 {v0 v1 v2 v3 v4 v5 : Value} {st : List Value} {h : ab_Hp} {Q : ab_O → ab_Hp → Prop} : wp 107 168 [v0, v1, v2, v3, v4, v5] st h Q = wp 107 169 [v0, v1, v2, v3, v4, v5] (.int (nI 4) :: st) h Q := wp_stp (ri := (.iconst 4, 1, 0, 0, 0, 0)) (by decide +kernel) rfl rfl rfl
set_option maxRecDepth 100000 in
theorem i107_169 {v0 v1 v2 v3 v4 v5 : Value} {r : Nat} {a0 : Int32} {a1 : Int32} {st : List Value} {h : ab_Hp} {Q : ab_O → ab_Hp → Prop} (hl : st.length ≤ 4) (hk : (ab_sh h r).1 = 17) : wp 107 169 [v0, v1, v2, v3, v4, v5] (.int a1 :: .int a0 :: .ref r :: st) h Q = wp 92 0 [.ref r, .int a0, .int a1] [] h (ab_K 107 169 [v0, v1, v2, v3, v4, v5] st Q) := wp_callV (as := [.int a0, .int a1]) (by decide +kernel : ab_cod 107 169 = some (.invokevirtual 61, 3, 92, 3, 0, 860)) rfl rfl rfl rfl hl hk
set_option maxRecDepth 100000 in
theorem i107_172 {v0 v1 v2 v3 v4 v5 : Value} {st : List Value} {h : ab_Hp} {Q : ab_O → ab_Hp → Prop} : wp 107 172 [v0, v1, v2, v3, v4, v5] st h Q = wp 107 173 [v0, v1, v2, v3, v4, v5] (.int (nI 1) :: st) h Q := wp_stp (ri := (.iconst 1, 1, 0, 0, 0, 0)) (by decide +kernel) rfl rfl rfl
set_option maxRecDepth 100000 in
theorem i107_173 {v0 v1 v2 v3 v4 v5 : Value} {x y : Int32} {st : List Value} {h : ab_Hp} {Q : ab_O → ab_Hp → Prop} : wp 107 173 [v0, v1, v2, v3, v4, v5] (.int y :: .int x :: st) h Q = wp 107 174 [v0, v1, v2, v3, v4, v5] (.int (x + y) :: st) h Q := wp_stp (ri := (.iadd, 1, 0, 0, 0, 0)) (by decide +kernel) rfl rfl rfl
set_option maxRecDepth 100000 in
theorem i107_174 {v0 v1 v2 v3 v4 v5 : Value} {r : Nat} {a0 : Int32} {a1 : Int32} {a2 : Int32} {st : List Value} {h : ab_Hp} {Q : ab_O → ab_Hp → Prop} (hl : st.length ≤ 4) (hk : (ab_sh h r).1 = 17) : wp 107 174 [v0, v1, v2, v3, v4, v5] (.int a2 :: .int a1 :: .int a0 :: .ref r :: st) h Q = wp 93 0 [.ref r, .int a0, .int a1, .int a2] [] h (ab_K 107 174 [v0, v1, v2, v3, v4, v5] st Q) := wp_callV (as := [.int a0, .int a1, .int a2]) (by decide +kernel : ab_cod 107 174 = some (.invokevirtual 55, 3, 93, 4, 0, 848)) rfl rfl rfl rfl hl hk
set_option maxRecDepth 100000 in
theorem i107_177 {v0 v1 v2 v3 v4 v5 : Value} {st : List Value} {h : ab_Hp} {Q : ab_O → ab_Hp → Prop} (hv : ab_isA v0 = true) : wp 107 177 [v0, v1, v2, v3, v4, v5] st h Q = wp 107 178 [v0, v1, v2, v3, v4, v5] (v0 :: st) h Q := wp_aload_n (by decide +kernel : ab_cod 107 177 = some (.aload_n 0, 1, 0, 0, 0, 0)) hv
set_option maxRecDepth 100000 in
theorem i107_178 {v0 v1 v2 v3 v5 : Value} {x : Int32} {st : List Value} {h : ab_Hp} {Q : ab_O → ab_Hp → Prop} : wp 107 178 [v0, v1, v2, v3, .int x, v5] st h Q = wp 107 180 [v0, v1, v2, v3, .int x, v5] (.int x :: st) h Q := wp_stp (ri := (.iload 4, 2, 0, 0, 0, 0)) (by decide +kernel) rfl rfl rfl
set_option maxRecDepth 100000 in
theorem i107_180 {v0 v1 v2 v3 v4 v5 : Value} {st : List Value} {h : ab_Hp} {Q : ab_O → ab_Hp → Prop} : wp 107 180 [v0, v1, v2, v3, v4, v5] st h Q = wp 107 181 [v0, v1, v2, v3, v4, v5] (.int (nI 5) :: st) h Q := wp_stp (ri := (.iconst 5, 1, 0, 0, 0, 0)) (by decide +kernel) rfl rfl rfl
set_option maxRecDepth 100000 in
theorem i107_181 {v0 v1 v2 v3 v4 v5 : Value} {st : List Value} {h : ab_Hp} {Q : ab_O → ab_Hp → Prop} (hv : ab_isA v0 = true) : wp 107 181 [v0, v1, v2, v3, v4, v5] st h Q = wp 107 182 [v0, v1, v2, v3, v4, v5] (v0 :: st) h Q := wp_aload_n (by decide +kernel : ab_cod 107 181 = some (.aload_n 0, 1, 0, 0, 0, 0)) hv
set_option maxRecDepth 100000 in
theorem i107_182 {v0 v1 v2 v3 v5 : Value} {x : Int32} {st : List Value} {h : ab_Hp} {Q : ab_O → ab_Hp → Prop} : wp 107 182 [v0, v1, v2, v3, .int x, v5] st h Q = wp 107 184 [v0, v1, v2, v3, .int x, v5] (.int x :: st) h Q := wp_stp (ri := (.iload 4, 2, 0, 0, 0, 0)) (by decide +kernel) rfl rfl rfl
set_option maxRecDepth 100000 in
theorem i107_184 {v0 v1 v2 v3 v4 v5 : Value} {st : List Value} {h : ab_Hp} {Q : ab_O → ab_Hp → Prop} : wp 107 184 [v0, v1, v2, v3, v4, v5] st h Q = wp 107 185 [v0, v1, v2, v3, v4, v5] (.int (nI 5) :: st) h Q := wp_stp (ri := (.iconst 5, 1, 0, 0, 0, 0)) (by decide +kernel) rfl rfl rfl
set_option maxRecDepth 100000 in
theorem i107_185 {v0 v1 v2 v3 v4 v5 : Value} {r : Nat} {a0 : Int32} {a1 : Int32} {st : List Value} {h : ab_Hp} {Q : ab_O → ab_Hp → Prop} (hl : st.length ≤ 4) (hk : (ab_sh h r).1 = 17) : wp 107 185 [v0, v1, v2, v3, v4, v5] (.int a1 :: .int a0 :: .ref r :: st) h Q = wp 92 0 [.ref r, .int a0, .int a1] [] h (ab_K 107 185 [v0, v1, v2, v3, v4, v5] st Q) := wp_callV (as := [.int a0, .int a1]) (by decide +kernel : ab_cod 107 185 = some (.invokevirtual 61, 3, 92, 3, 0, 860)) rfl rfl rfl rfl hl hk
set_option maxRecDepth 100000 in
theorem i107_188 {v0 v1 v2 v3 v4 v5 : Value} {st : List Value} {h : ab_Hp} {Q : ab_O → ab_Hp → Prop} : wp 107 188 [v0, v1, v2, v3, v4, v5] st h Q = wp 107 189 [v0, v1, v2, v3, v4, v5] (.int (nI 1) :: st) h Q := wp_stp (ri := (.iconst 1, 1, 0, 0, 0, 0)) (by decide +kernel) rfl rfl rfl
set_option maxRecDepth 100000 in
theorem i107_189 {v0 v1 v2 v3 v4 v5 : Value} {x y : Int32} {st : List Value} {h : ab_Hp} {Q : ab_O → ab_Hp → Prop} : wp 107 189 [v0, v1, v2, v3, v4, v5] (.int y :: .int x :: st) h Q = wp 107 190 [v0, v1, v2, v3, v4, v5] (.int (x + y) :: st) h Q := wp_stp (ri := (.iadd, 1, 0, 0, 0, 0)) (by decide +kernel) rfl rfl rfl
set_option maxRecDepth 100000 in
theorem i107_190 {v0 v1 v2 v3 v4 v5 : Value} {r : Nat} {a0 : Int32} {a1 : Int32} {a2 : Int32} {st : List Value} {h : ab_Hp} {Q : ab_O → ab_Hp → Prop} (hl : st.length ≤ 4) (hk : (ab_sh h r).1 = 17) : wp 107 190 [v0, v1, v2, v3, v4, v5] (.int a2 :: .int a1 :: .int a0 :: .ref r :: st) h Q = wp 93 0 [.ref r, .int a0, .int a1, .int a2] [] h (ab_K 107 190 [v0, v1, v2, v3, v4, v5] st Q) := wp_callV (as := [.int a0, .int a1, .int a2]) (by decide +kernel : ab_cod 107 190 = some (.invokevirtual 55, 3, 93, 4, 0, 848)) rfl rfl rfl rfl hl hk
set_option maxRecDepth 100000 in
theorem i107_193 {v0 v1 v2 v3 v4 v5 : Value} {st : List Value} {h : ab_Hp} {Q : ab_O → ab_Hp → Prop} (hv : ab_isA v0 = true) : wp 107 193 [v0, v1, v2, v3, v4, v5] st h Q = wp 107 194 [v0, v1, v2, v3, v4, v5] (v0 :: st) h Q := wp_aload_n (by decide +kernel : ab_cod 107 193 = some (.aload_n 0, 1, 0, 0, 0, 0)) hv
set_option maxRecDepth 100000 in
theorem i107_194 {v0 v2 v3 v4 v5 : Value} {x : Int32} {st : List Value} {h : ab_Hp} {Q : ab_O → ab_Hp → Prop} : wp 107 194 [v0, .int x, v2, v3, v4, v5] st h Q = wp 107 195 [v0, .int x, v2, v3, v4, v5] (.int x :: st) h Q := wp_stp (ri := (.iload_n 1, 1, 0, 0, 0, 0)) (by decide +kernel) rfl rfl rfl
set_option maxRecDepth 100000 in
theorem i107_195 {v0 v1 v2 v3 v4 v5 : Value} {r : Nat} {a0 : Int32} {st : List Value} {h : ab_Hp} {Q : ab_O → ab_Hp → Prop} (hl : st.length ≤ 4) (hk : (ab_sh h r).1 = 17) : wp 107 195 [v0, v1, v2, v3, v4, v5] (.int a0 :: .ref r :: st) h Q = wp 105 0 [.ref r, .int a0, ab_nov, ab_nov] [] h (ab_K 107 195 [v0, v1, v2, v3, v4, v5] st Q) := wp_callV (as := [.int a0]) (by decide +kernel : ab_cod 107 195 = some (.invokevirtual 67, 3, 105, 2, 0, 888)) rfl rfl rfl rfl hl hk
set_option maxRecDepth 100000 in
theorem i107_198 {v0 v1 v2 v3 v4 v5 : Value} {st : List Value} {h : ab_Hp} {Q : ab_O → ab_Hp → Prop} : wp 107 198 [v0, v1, v2, v3, v4, v5] st h Q = wp 107 217 [v0, v1, v2, v3, v4, v5] st h Q := wp_stp (ri := (.goto 19, 3, 217, 0, 0, 0)) (by decide +kernel) rfl rfl rfl
set_option maxRecDepth 100000 in
theorem i107_201 {v0 v1 v2 v3 v4 v5 : Value} {st : List Value} {h : ab_Hp} {Q : ab_O → ab_Hp → Prop} (hv : ab_isA v0 = true) : wp 107 201 [v0, v1, v2, v3, v4, v5] st h Q = wp 107 202 [v0, v1, v2, v3, v4, v5] (v0 :: st) h Q := wp_aload_n (by decide +kernel : ab_cod 107 201 = some (.aload_n 0, 1, 0, 0, 0, 0)) hv
set_option maxRecDepth 100000 in
theorem i107_202 {v0 v2 v3 v4 v5 : Value} {x : Int32} {st : List Value} {h : ab_Hp} {Q : ab_O → ab_Hp → Prop} : wp 107 202 [v0, .int x, v2, v3, v4, v5] st h Q = wp 107 203 [v0, .int x, v2, v3, v4, v5] (.int x :: st) h Q := wp_stp (ri := (.iload_n 1, 1, 0, 0, 0, 0)) (by decide +kernel) rfl rfl rfl
set_option maxRecDepth 100000 in
theorem i107_203 {v0 v1 v2 v3 v4 v5 : Value} {st : List Value} {h : ab_Hp} {Q : ab_O → ab_Hp → Prop} : wp 107 203 [v0, v1, v2, v3, v4, v5] st h Q = wp 107 205 [v0, v1, v2, v3, v4, v5] (.int (nI 7) :: st) h Q := wp_stp (ri := (.bipush 7, 2, 0, 0, 0, 0)) (by decide +kernel) rfl rfl rfl
set_option maxRecDepth 100000 in
theorem i107_205 {v0 v1 v2 v3 v4 v5 : Value} {st : List Value} {h : ab_Hp} {Q : ab_O → ab_Hp → Prop} (hv : ab_isA v0 = true) : wp 107 205 [v0, v1, v2, v3, v4, v5] st h Q = wp 107 206 [v0, v1, v2, v3, v4, v5] (v0 :: st) h Q := wp_aload_n (by decide +kernel : ab_cod 107 205 = some (.aload_n 0, 1, 0, 0, 0, 0)) hv
set_option maxRecDepth 100000 in
theorem i107_206 {v0 v2 v3 v4 v5 : Value} {x : Int32} {st : List Value} {h : ab_Hp} {Q : ab_O → ab_Hp → Prop} : wp 107 206 [v0, .int x, v2, v3, v4, v5] st h Q = wp 107 207 [v0, .int x, v2, v3, v4, v5] (.int x :: st) h Q := wp_stp (ri := (.iload_n 1, 1, 0, 0, 0, 0)) (by decide +kernel) rfl rfl rfl
set_option maxRecDepth 100000 in
theorem i107_207 {v0 v1 v2 v3 v4 v5 : Value} {st : List Value} {h : ab_Hp} {Q : ab_O → ab_Hp → Prop} : wp 107 207 [v0, v1, v2, v3, v4, v5] st h Q = wp 107 209 [v0, v1, v2, v3, v4, v5] (.int (nI 7) :: st) h Q := wp_stp (ri := (.bipush 7, 2, 0, 0, 0, 0)) (by decide +kernel) rfl rfl rfl
set_option maxRecDepth 100000 in
theorem i107_209 {v0 v1 v2 v3 v4 v5 : Value} {r : Nat} {a0 : Int32} {a1 : Int32} {st : List Value} {h : ab_Hp} {Q : ab_O → ab_Hp → Prop} (hl : st.length ≤ 4) (hk : (ab_sh h r).1 = 17) : wp 107 209 [v0, v1, v2, v3, v4, v5] (.int a1 :: .int a0 :: .ref r :: st) h Q = wp 90 0 [.ref r, .int a0, .int a1] [] h (ab_K 107 209 [v0, v1, v2, v3, v4, v5] st Q) := wp_callV (as := [.int a0, .int a1]) (by decide +kernel : ab_cod 107 209 = some (.invokevirtual 47, 3, 90, 3, 0, 828)) rfl rfl rfl rfl hl hk
set_option maxRecDepth 100000 in
theorem i107_212 {v0 v1 v2 v3 v4 v5 : Value} {st : List Value} {h : ab_Hp} {Q : ab_O → ab_Hp → Prop} : wp 107 212 [v0, v1, v2, v3, v4, v5] st h Q = wp 107 213 [v0, v1, v2, v3, v4, v5] (.int (nI 1) :: st) h Q := wp_stp (ri := (.iconst 1, 1, 0, 0, 0, 0)) (by decide +kernel) rfl rfl rfl
set_option maxRecDepth 100000 in
theorem i107_213 {v0 v1 v2 v3 v4 v5 : Value} {x y : Int32} {st : List Value} {h : ab_Hp} {Q : ab_O → ab_Hp → Prop} : wp 107 213 [v0, v1, v2, v3, v4, v5] (.int y :: .int x :: st) h Q = wp 107 214 [v0, v1, v2, v3, v4, v5] (.int (x + y) :: st) h Q := wp_stp (ri := (.iadd, 1, 0, 0, 0, 0)) (by decide +kernel) rfl rfl rfl
set_option maxRecDepth 100000 in
theorem i107_214 {v0 v1 v2 v3 v4 v5 : Value} {r : Nat} {a0 : Int32} {a1 : Int32} {a2 : Int32} {st : List Value} {h : ab_Hp} {Q : ab_O → ab_Hp → Prop} (hl : st.length ≤ 4) (hk : (ab_sh h r).1 = 17) : wp 107 214 [v0, v1, v2, v3, v4, v5] (.int a2 :: .int a1 :: .int a0 :: .ref r :: st) h Q = wp 91 0 [.ref r, .int a0, .int a1, .int a2] [] h (ab_K 107 214 [v0, v1, v2, v3, v4, v5] st Q) := wp_callV (as := [.int a0, .int a1, .int a2]) (by decide +kernel : ab_cod 107 214 = some (.invokevirtual 25, 3, 91, 4, 0, 768)) rfl rfl rfl rfl hl hk
set_option maxRecDepth 100000 in
theorem i107_217 {v0 v1 v2 v3 v4 v5 : Value} {h : ab_Hp} {Q : ab_O → ab_Hp → Prop} : wp 107 217 [v0, v1, v2, v3, v4, v5] [] h Q = Q (.inl none) h := wp_vret (by decide +kernel : ab_cod 107 217 = some (.return_, 1, 0, 0, 0, 0)) rfl
/-! 108: SeamBeatsModel.grow(I)V -/
set_option maxRecDepth 100000 in
theorem i108_0 {v0 v1 v2 v3 v4 : Value} {st : List Value} {h : ab_Hp} {Q : ab_O → ab_Hp → Prop} : wp 108 0 [v0, v1, v2, v3, v4] st h Q = wp 108 1 [v0, v1, v2, v3, v4] (.int (nI 0) :: st) h Q := wp_stp (ri := (.iconst 0, 1, 0, 0, 0, 0)) (by decide +kernel) rfl rfl rfl
set_option maxRecDepth 100000 in
theorem i108_1 {v0 v1 v2 v3 v4 : Value} {w : Int32} {st : List Value} {h : ab_Hp} {Q : ab_O → ab_Hp → Prop} : wp 108 1 [v0, v1, v2, v3, v4] (.int w :: st) h Q = wp 108 2 [v0, ab_clr v1, .int w, v3, v4] st h Q := wp_stp (ri := (.istore_n 2, 1, 0, 0, 0, 0)) (by decide +kernel) rfl rfl rfl
set_option maxRecDepth 100000 in
theorem i108_2 {v0 v1 v3 v4 : Value} {x : Int32} {st : List Value} {h : ab_Hp} {Q : ab_O → ab_Hp → Prop} : wp 108 2 [v0, v1, .int x, v3, v4] st h Q = wp 108 3 [v0, v1, .int x, v3, v4] (.int x :: st) h Q := wp_stp (ri := (.iload_n 2, 1, 0, 0, 0, 0)) (by decide +kernel) rfl rfl rfl
set_option maxRecDepth 100000 in
theorem i108_3 {v0 v1 v2 v3 v4 : Value} {st : List Value} {h : ab_Hp} {Q : ab_O → ab_Hp → Prop} (hv : ab_isA v0 = true) : wp 108 3 [v0, v1, v2, v3, v4] st h Q = wp 108 4 [v0, v1, v2, v3, v4] (v0 :: st) h Q := wp_aload_n (by decide +kernel : ab_cod 108 3 = some (.aload_n 0, 1, 0, 0, 0, 0)) hv
set_option maxRecDepth 100000 in
theorem i108_4 {v0 v1 v2 v3 v4 : Value} {r : Nat} {st : List Value} {h : ab_Hp} {Q : ab_O → ab_Hp → Prop} (hk : (ab_sh h r).1 = 17) : wp 108 4 [v0, v1, v2, v3, v4] (.ref r :: st) h Q = wp 108 7 [v0, v1, v2, v3, v4] (va_rf (ab_hr h r 1) :: st) h Q := wp_gf (by decide +kernel : ab_cod 108 4 = some (.getfield 7, 3, 7, 1, 773, 1)) hk
set_option maxRecDepth 100000 in
theorem i108_7 {v0 v1 v2 v3 v4 : Value} {st : List Value} {h : ab_Hp} {Q : ab_O → ab_Hp → Prop} : wp 108 7 [v0, v1, v2, v3, v4] st h Q = wp 108 8 [v0, v1, v2, v3, v4] (.int (nI 5) :: st) h Q := wp_stp (ri := (.iconst 5, 1, 0, 0, 0, 0)) (by decide +kernel) rfl rfl rfl
set_option maxRecDepth 100000 in
theorem i108_8 {v0 v1 v2 v3 v4 : Value} {r : Nat} {x : Int32} {st : List Value} {h : ab_Hp} {Q : ab_O → ab_Hp → Prop} (hk : ((ab_sh h r).1 = 1 ∨ (ab_sh h r).1 = 6) ∧ ab_in x (ab_sh h r).2 = true) : wp 108 8 [v0, v1, v2, v3, v4] (.int x :: .ref r :: st) h Q = wp 108 9 [v0, v1, v2, v3, v4] (.int (ab_hi h r x.toNatClampNeg) :: st) h Q := wp_ia (by decide +kernel : ab_cod 108 8 = some (.iaload, 1, 0, 0, 0, 0)) hk
set_option maxRecDepth 100000 in
theorem i108_9 {v0 v1 v2 v3 v4 : Value} {x y : Int32} {st : List Value} {h : ab_Hp} {Q : ab_O → ab_Hp → Prop} : wp 108 9 [v0, v1, v2, v3, v4] (.int y :: .int x :: st) h Q = if y ≤ x then wp 108 94 [v0, v1, v2, v3, v4] st h Q else wp 108 12 [v0, v1, v2, v3, v4] st h Q := wp_icmpP (by decide +kernel : ab_cod 108 9 = some (.if_icmp .ge 85, 3, 94, 0, 0, 0)) rfl
set_option maxRecDepth 100000 in
theorem i108_12 {v0 v1 v2 v3 v4 : Value} {st : List Value} {h : ab_Hp} {Q : ab_O → ab_Hp → Prop} : wp 108 12 [v0, v1, v2, v3, v4] st h Q = wp 108 13 [v0, v1, v2, v3, v4] (.int (nI 0) :: st) h Q := wp_stp (ri := (.iconst 0, 1, 0, 0, 0, 0)) (by decide +kernel) rfl rfl rfl
set_option maxRecDepth 100000 in
theorem i108_13 {v0 v1 v2 v3 v4 : Value} {w : Int32} {st : List Value} {h : ab_Hp} {Q : ab_O → ab_Hp → Prop} : wp 108 13 [v0, v1, v2, v3, v4] (.int w :: st) h Q = wp 108 14 [v0, v1, ab_clr v2, .int w, v4] st h Q := wp_stp (ri := (.istore_n 3, 1, 0, 0, 0, 0)) (by decide +kernel) rfl rfl rfl
set_option maxRecDepth 100000 in
theorem i108_14 {v0 v1 v2 v4 : Value} {x : Int32} {st : List Value} {h : ab_Hp} {Q : ab_O → ab_Hp → Prop} : wp 108 14 [v0, v1, v2, .int x, v4] st h Q = wp 108 15 [v0, v1, v2, .int x, v4] (.int x :: st) h Q := wp_stp (ri := (.iload_n 3, 1, 0, 0, 0, 0)) (by decide +kernel) rfl rfl rfl
set_option maxRecDepth 100000 in
theorem i108_15 {v0 v1 v2 v3 v4 : Value} {st : List Value} {h : ab_Hp} {Q : ab_O → ab_Hp → Prop} (hv : ab_isA v0 = true) : wp 108 15 [v0, v1, v2, v3, v4] st h Q = wp 108 16 [v0, v1, v2, v3, v4] (v0 :: st) h Q := wp_aload_n (by decide +kernel : ab_cod 108 15 = some (.aload_n 0, 1, 0, 0, 0, 0)) hv
set_option maxRecDepth 100000 in
theorem i108_16 {v0 v1 v3 v4 : Value} {x : Int32} {st : List Value} {h : ab_Hp} {Q : ab_O → ab_Hp → Prop} : wp 108 16 [v0, v1, .int x, v3, v4] st h Q = wp 108 17 [v0, v1, .int x, v3, v4] (.int x :: st) h Q := wp_stp (ri := (.iload_n 2, 1, 0, 0, 0, 0)) (by decide +kernel) rfl rfl rfl
set_option maxRecDepth 100000 in
theorem i108_17 {v0 v1 v2 v3 v4 : Value} {st : List Value} {h : ab_Hp} {Q : ab_O → ab_Hp → Prop} : wp 108 17 [v0, v1, v2, v3, v4] st h Q = wp 108 18 [v0, v1, v2, v3, v4] (.int (nI 4) :: st) h Q := wp_stp (ri := (.iconst 4, 1, 0, 0, 0, 0)) (by decide +kernel) rfl rfl rfl
set_option maxRecDepth 100000 in
theorem i108_18 {v0 v1 v2 v3 v4 : Value} {r : Nat} {a0 : Int32} {a1 : Int32} {st : List Value} {h : ab_Hp} {Q : ab_O → ab_Hp → Prop} (hl : st.length ≤ 4) (hk : (ab_sh h r).1 = 17) : wp 108 18 [v0, v1, v2, v3, v4] (.int a1 :: .int a0 :: .ref r :: st) h Q = wp 92 0 [.ref r, .int a0, .int a1] [] h (ab_K 108 18 [v0, v1, v2, v3, v4] st Q) := wp_callV (as := [.int a0, .int a1]) (by decide +kernel : ab_cod 108 18 = some (.invokevirtual 61, 3, 92, 3, 0, 860)) rfl rfl rfl rfl hl hk
set_option maxRecDepth 100000 in
theorem i108_21 {v0 v1 v2 v3 v4 : Value} {x y : Int32} {st : List Value} {h : ab_Hp} {Q : ab_O → ab_Hp → Prop} : wp 108 21 [v0, v1, v2, v3, v4] (.int y :: .int x :: st) h Q = if y ≤ x then wp 108 88 [v0, v1, v2, v3, v4] st h Q else wp 108 24 [v0, v1, v2, v3, v4] st h Q := wp_icmpP (by decide +kernel : ab_cod 108 21 = some (.if_icmp .ge 67, 3, 88, 0, 0, 0)) rfl
set_option maxRecDepth 100000 in
theorem i108_24 {v0 v1 v2 v3 v4 : Value} {st : List Value} {h : ab_Hp} {Q : ab_O → ab_Hp → Prop} (hv : ab_isA v0 = true) : wp 108 24 [v0, v1, v2, v3, v4] st h Q = wp 108 25 [v0, v1, v2, v3, v4] (v0 :: st) h Q := wp_aload_n (by decide +kernel : ab_cod 108 24 = some (.aload_n 0, 1, 0, 0, 0, 0)) hv
set_option maxRecDepth 100000 in
theorem i108_25 {v0 v1 v3 v4 : Value} {x : Int32} {st : List Value} {h : ab_Hp} {Q : ab_O → ab_Hp → Prop} : wp 108 25 [v0, v1, .int x, v3, v4] st h Q = wp 108 26 [v0, v1, .int x, v3, v4] (.int x :: st) h Q := wp_stp (ri := (.iload_n 2, 1, 0, 0, 0, 0)) (by decide +kernel) rfl rfl rfl
set_option maxRecDepth 100000 in
theorem i108_26 {v0 v1 v2 v3 v4 : Value} {st : List Value} {h : ab_Hp} {Q : ab_O → ab_Hp → Prop} : wp 108 26 [v0, v1, v2, v3, v4] st h Q = wp 108 27 [v0, v1, v2, v3, v4] (.int (nI 1) :: st) h Q := wp_stp (ri := (.iconst 1, 1, 0, 0, 0, 0)) (by decide +kernel) rfl rfl rfl
set_option maxRecDepth 100000 in
theorem i108_27 {v0 v1 v2 v3 v4 : Value} {r : Nat} {a0 : Int32} {a1 : Int32} {st : List Value} {h : ab_Hp} {Q : ab_O → ab_Hp → Prop} (hl : st.length ≤ 4) (hk : (ab_sh h r).1 = 17) : wp 108 27 [v0, v1, v2, v3, v4] (.int a1 :: .int a0 :: .ref r :: st) h Q = wp 92 0 [.ref r, .int a0, .int a1] [] h (ab_K 108 27 [v0, v1, v2, v3, v4] st Q) := wp_callV (as := [.int a0, .int a1]) (by decide +kernel : ab_cod 108 27 = some (.invokevirtual 61, 3, 92, 3, 0, 860)) rfl rfl rfl rfl hl hk
set_option maxRecDepth 100000 in
theorem i108_30 {v0 v2 v3 v4 : Value} {x : Int32} {st : List Value} {h : ab_Hp} {Q : ab_O → ab_Hp → Prop} : wp 108 30 [v0, .int x, v2, v3, v4] st h Q = wp 108 31 [v0, .int x, v2, v3, v4] (.int x :: st) h Q := wp_stp (ri := (.iload_n 1, 1, 0, 0, 0, 0)) (by decide +kernel) rfl rfl rfl
set_option maxRecDepth 100000 in
theorem i108_31 {v0 v1 v2 v3 v4 : Value} {x y : Int32} {st : List Value} {h : ab_Hp} {Q : ab_O → ab_Hp → Prop} : wp 108 31 [v0, v1, v2, v3, v4] (.int y :: .int x :: st) h Q = if ¬ x = y then wp 108 88 [v0, v1, v2, v3, v4] st h Q else wp 108 34 [v0, v1, v2, v3, v4] st h Q := wp_icmpP (by decide +kernel : ab_cod 108 31 = some (.if_icmp .ne 57, 3, 88, 0, 0, 0)) rfl
set_option maxRecDepth 100000 in
theorem i108_34 {v0 v1 v2 v3 v4 : Value} {st : List Value} {h : ab_Hp} {Q : ab_O → ab_Hp → Prop} (hv : ab_isA v0 = true) : wp 108 34 [v0, v1, v2, v3, v4] st h Q = wp 108 35 [v0, v1, v2, v3, v4] (v0 :: st) h Q := wp_aload_n (by decide +kernel : ab_cod 108 34 = some (.aload_n 0, 1, 0, 0, 0, 0)) hv
set_option maxRecDepth 100000 in
theorem i108_35 {v0 v1 v3 v4 : Value} {x : Int32} {st : List Value} {h : ab_Hp} {Q : ab_O → ab_Hp → Prop} : wp 108 35 [v0, v1, .int x, v3, v4] st h Q = wp 108 36 [v0, v1, .int x, v3, v4] (.int x :: st) h Q := wp_stp (ri := (.iload_n 2, 1, 0, 0, 0, 0)) (by decide +kernel) rfl rfl rfl
set_option maxRecDepth 100000 in
theorem i108_36 {v0 v1 v2 v3 v4 : Value} {st : List Value} {h : ab_Hp} {Q : ab_O → ab_Hp → Prop} : wp 108 36 [v0, v1, v2, v3, v4] st h Q = wp 108 38 [v0, v1, v2, v3, v4] (.int (nI 6) :: st) h Q := wp_stp (ri := (.bipush 6, 2, 0, 0, 0, 0)) (by decide +kernel) rfl rfl rfl
set_option maxRecDepth 100000 in
theorem i108_38 {v0 v1 v2 v3 v4 : Value} {st : List Value} {h : ab_Hp} {Q : ab_O → ab_Hp → Prop} : wp 108 38 [v0, v1, v2, v3, v4] st h Q = wp 108 39 [v0, v1, v2, v3, v4] (.int (nI 3) :: st) h Q := wp_stp (ri := (.iconst 3, 1, 0, 0, 0, 0)) (by decide +kernel) rfl rfl rfl
set_option maxRecDepth 100000 in
theorem i108_39 {v0 v1 v2 v4 : Value} {x : Int32} {st : List Value} {h : ab_Hp} {Q : ab_O → ab_Hp → Prop} : wp 108 39 [v0, v1, v2, .int x, v4] st h Q = wp 108 40 [v0, v1, v2, .int x, v4] (.int x :: st) h Q := wp_stp (ri := (.iload_n 3, 1, 0, 0, 0, 0)) (by decide +kernel) rfl rfl rfl
set_option maxRecDepth 100000 in
theorem i108_40 {v0 v1 v2 v3 v4 : Value} {x y : Int32} {st : List Value} {h : ab_Hp} {Q : ab_O → ab_Hp → Prop} : wp 108 40 [v0, v1, v2, v3, v4] (.int y :: .int x :: st) h Q = wp 108 41 [v0, v1, v2, v3, v4] (.int (x * y) :: st) h Q := wp_stp (ri := (.imul, 1, 0, 0, 0, 0)) (by decide +kernel) rfl rfl rfl
set_option maxRecDepth 100000 in
theorem i108_41 {v0 v1 v2 v3 v4 : Value} {x y : Int32} {st : List Value} {h : ab_Hp} {Q : ab_O → ab_Hp → Prop} : wp 108 41 [v0, v1, v2, v3, v4] (.int y :: .int x :: st) h Q = wp 108 42 [v0, v1, v2, v3, v4] (.int (x + y) :: st) h Q := wp_stp (ri := (.iadd, 1, 0, 0, 0, 0)) (by decide +kernel) rfl rfl rfl
set_option maxRecDepth 100000 in
theorem i108_42 {v0 v1 v2 v3 v4 : Value} {st : List Value} {h : ab_Hp} {Q : ab_O → ab_Hp → Prop} : wp 108 42 [v0, v1, v2, v3, v4] st h Q = wp 108 43 [v0, v1, v2, v3, v4] (.int (nI 2) :: st) h Q := wp_stp (ri := (.iconst 2, 1, 0, 0, 0, 0)) (by decide +kernel) rfl rfl rfl
set_option maxRecDepth 100000 in
theorem i108_43 {v0 v1 v2 v3 v4 : Value} {x y : Int32} {st : List Value} {h : ab_Hp} {Q : ab_O → ab_Hp → Prop} : wp 108 43 [v0, v1, v2, v3, v4] (.int y :: .int x :: st) h Q = wp 108 44 [v0, v1, v2, v3, v4] (.int (x + y) :: st) h Q := wp_stp (ri := (.iadd, 1, 0, 0, 0, 0)) (by decide +kernel) rfl rfl rfl
set_option maxRecDepth 100000 in
theorem i108_44 {v0 v1 v2 v3 v4 : Value} {r : Nat} {a0 : Int32} {a1 : Int32} {st : List Value} {h : ab_Hp} {Q : ab_O → ab_Hp → Prop} (hl : st.length ≤ 4) (hk : (ab_sh h r).1 = 17) : wp 108 44 [v0, v1, v2, v3, v4] (.int a1 :: .int a0 :: .ref r :: st) h Q = wp 92 0 [.ref r, .int a0, .int a1] [] h (ab_K 108 44 [v0, v1, v2, v3, v4] st Q) := wp_callV (as := [.int a0, .int a1]) (by decide +kernel : ab_cod 108 44 = some (.invokevirtual 61, 3, 92, 3, 0, 860)) rfl rfl rfl rfl hl hk
set_option maxRecDepth 100000 in
theorem i108_47 {v0 v1 v2 v3 v4 : Value} {w : Int32} {st : List Value} {h : ab_Hp} {Q : ab_O → ab_Hp → Prop} : wp 108 47 [v0, v1, v2, v3, v4] (.int w :: st) h Q = wp 108 49 [v0, v1, v2, ab_clr v3, .int w] st h Q := wp_stp (ri := (.istore 4, 2, 0, 0, 0, 0)) (by decide +kernel) rfl rfl rfl
set_option maxRecDepth 100000 in
theorem i108_49 {v0 v1 v2 v3 v4 : Value} {st : List Value} {h : ab_Hp} {Q : ab_O → ab_Hp → Prop} (hv : ab_isA v0 = true) : wp 108 49 [v0, v1, v2, v3, v4] st h Q = wp 108 50 [v0, v1, v2, v3, v4] (v0 :: st) h Q := wp_aload_n (by decide +kernel : ab_cod 108 49 = some (.aload_n 0, 1, 0, 0, 0, 0)) hv
set_option maxRecDepth 100000 in
theorem i108_50 {v0 v1 v3 v4 : Value} {x : Int32} {st : List Value} {h : ab_Hp} {Q : ab_O → ab_Hp → Prop} : wp 108 50 [v0, v1, .int x, v3, v4] st h Q = wp 108 51 [v0, v1, .int x, v3, v4] (.int x :: st) h Q := wp_stp (ri := (.iload_n 2, 1, 0, 0, 0, 0)) (by decide +kernel) rfl rfl rfl
set_option maxRecDepth 100000 in
theorem i108_51 {v0 v1 v2 v3 v4 : Value} {st : List Value} {h : ab_Hp} {Q : ab_O → ab_Hp → Prop} : wp 108 51 [v0, v1, v2, v3, v4] st h Q = wp 108 53 [v0, v1, v2, v3, v4] (.int (nI 6) :: st) h Q := wp_stp (ri := (.bipush 6, 2, 0, 0, 0, 0)) (by decide +kernel) rfl rfl rfl
set_option maxRecDepth 100000 in
theorem i108_53 {v0 v1 v2 v3 v4 : Value} {st : List Value} {h : ab_Hp} {Q : ab_O → ab_Hp → Prop} : wp 108 53 [v0, v1, v2, v3, v4] st h Q = wp 108 54 [v0, v1, v2, v3, v4] (.int (nI 3) :: st) h Q := wp_stp (ri := (.iconst 3, 1, 0, 0, 0, 0)) (by decide +kernel) rfl rfl rfl
set_option maxRecDepth 100000 in
theorem i108_54 {v0 v1 v2 v4 : Value} {x : Int32} {st : List Value} {h : ab_Hp} {Q : ab_O → ab_Hp → Prop} : wp 108 54 [v0, v1, v2, .int x, v4] st h Q = wp 108 55 [v0, v1, v2, .int x, v4] (.int x :: st) h Q := wp_stp (ri := (.iload_n 3, 1, 0, 0, 0, 0)) (by decide +kernel) rfl rfl rfl
set_option maxRecDepth 100000 in
theorem i108_55 {v0 v1 v2 v3 v4 : Value} {x y : Int32} {st : List Value} {h : ab_Hp} {Q : ab_O → ab_Hp → Prop} : wp 108 55 [v0, v1, v2, v3, v4] (.int y :: .int x :: st) h Q = wp 108 56 [v0, v1, v2, v3, v4] (.int (x * y) :: st) h Q := wp_stp (ri := (.imul, 1, 0, 0, 0, 0)) (by decide +kernel) rfl rfl rfl
set_option maxRecDepth 100000 in
theorem i108_56 {v0 v1 v2 v3 v4 : Value} {x y : Int32} {st : List Value} {h : ab_Hp} {Q : ab_O → ab_Hp → Prop} : wp 108 56 [v0, v1, v2, v3, v4] (.int y :: .int x :: st) h Q = wp 108 57 [v0, v1, v2, v3, v4] (.int (x + y) :: st) h Q := wp_stp (ri := (.iadd, 1, 0, 0, 0, 0)) (by decide +kernel) rfl rfl rfl
set_option maxRecDepth 100000 in
theorem i108_57 {v0 v1 v2 v3 v4 : Value} {st : List Value} {h : ab_Hp} {Q : ab_O → ab_Hp → Prop} : wp 108 57 [v0, v1, v2, v3, v4] st h Q = wp 108 58 [v0, v1, v2, v3, v4] (.int (nI 2) :: st) h Q := wp_stp (ri := (.iconst 2, 1, 0, 0, 0, 0)) (by decide +kernel) rfl rfl rfl
set_option maxRecDepth 100000 in
theorem i108_58 {v0 v1 v2 v3 v4 : Value} {x y : Int32} {st : List Value} {h : ab_Hp} {Q : ab_O → ab_Hp → Prop} : wp 108 58 [v0, v1, v2, v3, v4] (.int y :: .int x :: st) h Q = wp 108 59 [v0, v1, v2, v3, v4] (.int (x + y) :: st) h Q := wp_stp (ri := (.iadd, 1, 0, 0, 0, 0)) (by decide +kernel) rfl rfl rfl
set_option maxRecDepth 100000 in
theorem i108_59 {v0 v1 v2 v3 : Value} {x : Int32} {st : List Value} {h : ab_Hp} {Q : ab_O → ab_Hp → Prop} : wp 108 59 [v0, v1, v2, v3, .int x] st h Q = wp 108 61 [v0, v1, v2, v3, .int x] (.int x :: st) h Q := wp_stp (ri := (.iload 4, 2, 0, 0, 0, 0)) (by decide +kernel) rfl rfl rfl
set_option maxRecDepth 100000 in
theorem i108_61 {v0 v1 v2 v3 v4 : Value} {st : List Value} {h : ab_Hp} {Q : ab_O → ab_Hp → Prop} (hv : ab_isA v0 = true) : wp 108 61 [v0, v1, v2, v3, v4] st h Q = wp 108 62 [v0, v1, v2, v3, v4] (v0 :: st) h Q := wp_aload_n (by decide +kernel : ab_cod 108 61 = some (.aload_n 0, 1, 0, 0, 0, 0)) hv
set_option maxRecDepth 100000 in
theorem i108_62 {v0 v1 v3 v4 : Value} {x : Int32} {st : List Value} {h : ab_Hp} {Q : ab_O → ab_Hp → Prop} : wp 108 62 [v0, v1, .int x, v3, v4] st h Q = wp 108 63 [v0, v1, .int x, v3, v4] (.int x :: st) h Q := wp_stp (ri := (.iload_n 2, 1, 0, 0, 0, 0)) (by decide +kernel) rfl rfl rfl
set_option maxRecDepth 100000 in
theorem i108_63 {v0 v1 v2 v3 v4 : Value} {st : List Value} {h : ab_Hp} {Q : ab_O → ab_Hp → Prop} : wp 108 63 [v0, v1, v2, v3, v4] st h Q = wp 108 64 [v0, v1, v2, v3, v4] (.int (nI 3) :: st) h Q := wp_stp (ri := (.iconst 3, 1, 0, 0, 0, 0)) (by decide +kernel) rfl rfl rfl
set_option maxRecDepth 100000 in
theorem i108_64 {v0 v1 v2 v3 v4 : Value} {r : Nat} {a0 : Int32} {a1 : Int32} {st : List Value} {h : ab_Hp} {Q : ab_O → ab_Hp → Prop} (hl : st.length ≤ 4) (hk : (ab_sh h r).1 = 17) : wp 108 64 [v0, v1, v2, v3, v4] (.int a1 :: .int a0 :: .ref r :: st) h Q = wp 92 0 [.ref r, .int a0, .int a1] [] h (ab_K 108 64 [v0, v1, v2, v3, v4] st Q) := wp_callV (as := [.int a0, .int a1]) (by decide +kernel : ab_cod 108 64 = some (.invokevirtual 61, 3, 92, 3, 0, 860)) rfl rfl rfl rfl hl hk
set_option maxRecDepth 100000 in
theorem i108_67 {v0 v1 v2 v3 v4 : Value} {x y : Int32} {st : List Value} {h : ab_Hp} {Q : ab_O → ab_Hp → Prop} : wp 108 67 [v0, v1, v2, v3, v4] (.int y :: .int x :: st) h Q = if y ≤ x then wp 108 77 [v0, v1, v2, v3, v4] st h Q else wp 108 70 [v0, v1, v2, v3, v4] st h Q := wp_icmpP (by decide +kernel : ab_cod 108 67 = some (.if_icmp .ge 10, 3, 77, 0, 0, 0)) rfl
set_option maxRecDepth 100000 in
theorem i108_70 {v0 v1 v2 v3 : Value} {x : Int32} {st : List Value} {h : ab_Hp} {Q : ab_O → ab_Hp → Prop} : wp 108 70 [v0, v1, v2, v3, .int x] st h Q = wp 108 72 [v0, v1, v2, v3, .int x] (.int x :: st) h Q := wp_stp (ri := (.iload 4, 2, 0, 0, 0, 0)) (by decide +kernel) rfl rfl rfl
set_option maxRecDepth 100000 in
theorem i108_72 {v0 v1 v2 v3 v4 : Value} {st : List Value} {h : ab_Hp} {Q : ab_O → ab_Hp → Prop} : wp 108 72 [v0, v1, v2, v3, v4] st h Q = wp 108 73 [v0, v1, v2, v3, v4] (.int (nI 1) :: st) h Q := wp_stp (ri := (.iconst 1, 1, 0, 0, 0, 0)) (by decide +kernel) rfl rfl rfl
set_option maxRecDepth 100000 in
theorem i108_73 {v0 v1 v2 v3 v4 : Value} {x y : Int32} {st : List Value} {h : ab_Hp} {Q : ab_O → ab_Hp → Prop} : wp 108 73 [v0, v1, v2, v3, v4] (.int y :: .int x :: st) h Q = wp 108 74 [v0, v1, v2, v3, v4] (.int (x + y) :: st) h Q := wp_stp (ri := (.iadd, 1, 0, 0, 0, 0)) (by decide +kernel) rfl rfl rfl
set_option maxRecDepth 100000 in
theorem i108_74 {v0 v1 v2 v3 v4 : Value} {st : List Value} {h : ab_Hp} {Q : ab_O → ab_Hp → Prop} : wp 108 74 [v0, v1, v2, v3, v4] st h Q = wp 108 79 [v0, v1, v2, v3, v4] st h Q := wp_stp (ri := (.goto 5, 3, 79, 0, 0, 0)) (by decide +kernel) rfl rfl rfl
set_option maxRecDepth 100000 in
theorem i108_77 {v0 v1 v2 v3 : Value} {x : Int32} {st : List Value} {h : ab_Hp} {Q : ab_O → ab_Hp → Prop} : wp 108 77 [v0, v1, v2, v3, .int x] st h Q = wp 108 79 [v0, v1, v2, v3, .int x] (.int x :: st) h Q := wp_stp (ri := (.iload 4, 2, 0, 0, 0, 0)) (by decide +kernel) rfl rfl rfl
set_option maxRecDepth 100000 in
theorem i108_79 {v0 v1 v2 v3 v4 : Value} {r : Nat} {a0 : Int32} {a1 : Int32} {a2 : Int32} {st : List Value} {h : ab_Hp} {Q : ab_O → ab_Hp → Prop} (hl : st.length ≤ 4) (hk : (ab_sh h r).1 = 17) : wp 108 79 [v0, v1, v2, v3, v4] (.int a2 :: .int a1 :: .int a0 :: .ref r :: st) h Q = wp 93 0 [.ref r, .int a0, .int a1, .int a2] [] h (ab_K 108 79 [v0, v1, v2, v3, v4] st Q) := wp_callV (as := [.int a0, .int a1, .int a2]) (by decide +kernel : ab_cod 108 79 = some (.invokevirtual 55, 3, 93, 4, 0, 848)) rfl rfl rfl rfl hl hk
set_option maxRecDepth 100000 in
theorem i108_82 {v0 v1 v2 v4 : Value} {x : Int32} {st : List Value} {h : ab_Hp} {Q : ab_O → ab_Hp → Prop} : wp 108 82 [v0, v1, v2, .int x, v4] st h Q = wp 108 85 [v0, v1, ab_clr v2, .int (x + nI 1), v4] st h Q := wp_stp (ri := (.iinc 3 1, 3, 0, 0, 0, 0)) (by decide +kernel) rfl rfl rfl
set_option maxRecDepth 100000 in
theorem i108_85 {v0 v1 v2 v3 v4 : Value} {st : List Value} {h : ab_Hp} {Q : ab_O → ab_Hp → Prop} : wp 108 85 [v0, v1, v2, v3, v4] st h Q = wp 108 14 [v0, v1, v2, v3, v4] st h Q := wp_stp (ri := (.goto (-71), 3, 14, 0, 0, 0)) (by decide +kernel) rfl rfl rfl
set_option maxRecDepth 100000 in
theorem i108_88 {v0 v1 v3 v4 : Value} {x : Int32} {st : List Value} {h : ab_Hp} {Q : ab_O → ab_Hp → Prop} : wp 108 88 [v0, v1, .int x, v3, v4] st h Q = wp 108 91 [v0, ab_clr v1, .int (x + nI 1), v3, v4] st h Q := wp_stp (ri := (.iinc 2 1, 3, 0, 0, 0, 0)) (by decide +kernel) rfl rfl rfl
set_option maxRecDepth 100000 in
theorem i108_91 {v0 v1 v2 v3 v4 : Value} {st : List Value} {h : ab_Hp} {Q : ab_O → ab_Hp → Prop} : wp 108 91 [v0, v1, v2, v3, v4] st h Q = wp 108 2 [v0, v1, v2, v3, v4] st h Q := wp_stp (ri := (.goto (-89), 3, 2, 0, 0, 0)) (by decide +kernel) rfl rfl rfl
set_option maxRecDepth 100000 in
theorem i108_94 {v0 v1 v2 v3 v4 : Value} {h : ab_Hp} {Q : ab_O → ab_Hp → Prop} : wp 108 94 [v0, v1, v2, v3, v4] [] h Q = Q (.inl none) h := wp_vret (by decide +kernel : ab_cod 108 94 = some (.return_, 1, 0, 0, 0, 0)) rfl
/-! 109: SeamBeatsModel.isRipe(II)Z -/
theorem i109_0 {v0 v1 : Value} {x : Int32} {st : List Value} {h : ab_Hp} {Q : ab_O → ab_Hp → Prop} : wp 109 0 [v0, v1, .int x] st h Q = wp 109 1 [v0, v1, .int x] (.int x :: st) h Q := wp_stp (ri := (.iload_n 2, 1, 0, 0, 0, 0)) (by decide +kernel) rfl rfl rfl
theorem i109_1 {v0 v1 v2 : Value} {st : List Value} {h : ab_Hp} {Q : ab_O → ab_Hp → Prop} (hv : ab_isA v0 = true) : wp 109 1 [v0, v1, v2] st h Q = wp 109 2 [v0, v1, v2] (v0 :: st) h Q := wp_aload_n (by decide +kernel : ab_cod 109 1 = some (.aload_n 0, 1, 0, 0, 0, 0)) hv
theorem i109_2 {v0 v2 : Value} {x : Int32} {st : List Value} {h : ab_Hp} {Q : ab_O → ab_Hp → Prop} : wp 109 2 [v0, .int x, v2] st h Q = wp 109 3 [v0, .int x, v2] (.int x :: st) h Q := wp_stp (ri := (.iload_n 1, 1, 0, 0, 0, 0)) (by decide +kernel) rfl rfl rfl
theorem i109_3 {v0 v1 v2 : Value} {st : List Value} {h : ab_Hp} {Q : ab_O → ab_Hp → Prop} : wp 109 3 [v0, v1, v2] st h Q = wp 109 4 [v0, v1, v2] (.int (nI 4) :: st) h Q := wp_stp (ri := (.iconst 4, 1, 0, 0, 0, 0)) (by decide +kernel) rfl rfl rfl
theorem i109_4 {v0 v1 v2 : Value} {r : Nat} {a0 : Int32} {a1 : Int32} {st : List Value} {h : ab_Hp} {Q : ab_O → ab_Hp → Prop} (hl : st.length ≤ 4) (hk : (ab_sh h r).1 = 17) : wp 109 4 [v0, v1, v2] (.int a1 :: .int a0 :: .ref r :: st) h Q = wp 92 0 [.ref r, .int a0, .int a1] [] h (ab_K 109 4 [v0, v1, v2] st Q) := wp_callV (as := [.int a0, .int a1]) (by decide +kernel : ab_cod 109 4 = some (.invokevirtual 61, 3, 92, 3, 0, 860)) rfl rfl rfl rfl hl hk
theorem i109_7 {v0 v1 v2 : Value} {x y : Int32} {st : List Value} {h : ab_Hp} {Q : ab_O → ab_Hp → Prop} : wp 109 7 [v0, v1, v2] (.int y :: .int x :: st) h Q = if y ≤ x then wp 109 36 [v0, v1, v2] st h Q else wp 109 10 [v0, v1, v2] st h Q := wp_icmpP (by decide +kernel : ab_cod 109 7 = some (.if_icmp .ge 29, 3, 36, 0, 0, 0)) rfl
theorem i109_10 {v0 v1 v2 : Value} {st : List Value} {h : ab_Hp} {Q : ab_O → ab_Hp → Prop} (hv : ab_isA v0 = true) : wp 109 10 [v0, v1, v2] st h Q = wp 109 11 [v0, v1, v2] (v0 :: st) h Q := wp_aload_n (by decide +kernel : ab_cod 109 10 = some (.aload_n 0, 1, 0, 0, 0, 0)) hv
theorem i109_11 {v0 v2 : Value} {x : Int32} {st : List Value} {h : ab_Hp} {Q : ab_O → ab_Hp → Prop} : wp 109 11 [v0, .int x, v2] st h Q = wp 109 12 [v0, .int x, v2] (.int x :: st) h Q := wp_stp (ri := (.iload_n 1, 1, 0, 0, 0, 0)) (by decide +kernel) rfl rfl rfl
theorem i109_12 {v0 v1 v2 : Value} {st : List Value} {h : ab_Hp} {Q : ab_O → ab_Hp → Prop} : wp 109 12 [v0, v1, v2] st h Q = wp 109 14 [v0, v1, v2] (.int (nI 6) :: st) h Q := wp_stp (ri := (.bipush 6, 2, 0, 0, 0, 0)) (by decide +kernel) rfl rfl rfl
theorem i109_14 {v0 v1 v2 : Value} {st : List Value} {h : ab_Hp} {Q : ab_O → ab_Hp → Prop} : wp 109 14 [v0, v1, v2] st h Q = wp 109 15 [v0, v1, v2] (.int (nI 3) :: st) h Q := wp_stp (ri := (.iconst 3, 1, 0, 0, 0, 0)) (by decide +kernel) rfl rfl rfl
theorem i109_15 {v0 v1 : Value} {x : Int32} {st : List Value} {h : ab_Hp} {Q : ab_O → ab_Hp → Prop} : wp 109 15 [v0, v1, .int x] st h Q = wp 109 16 [v0, v1, .int x] (.int x :: st) h Q := wp_stp (ri := (.iload_n 2, 1, 0, 0, 0, 0)) (by decide +kernel) rfl rfl rfl
theorem i109_16 {v0 v1 v2 : Value} {x y : Int32} {st : List Value} {h : ab_Hp} {Q : ab_O → ab_Hp → Prop} : wp 109 16 [v0, v1, v2] (.int y :: .int x :: st) h Q = wp 109 17 [v0, v1, v2] (.int (x * y) :: st) h Q := wp_stp (ri := (.imul, 1, 0, 0, 0, 0)) (by decide +kernel) rfl rfl rfl
theorem i109_17 {v0 v1 v2 : Value} {x y : Int32} {st : List Value} {h : ab_Hp} {Q : ab_O → ab_Hp → Prop} : wp 109 17 [v0, v1, v2] (.int y :: .int x :: st) h Q = wp 109 18 [v0, v1, v2] (.int (x + y) :: st) h Q := wp_stp (ri := (.iadd, 1, 0, 0, 0, 0)) (by decide +kernel) rfl rfl rfl
theorem i109_18 {v0 v1 v2 : Value} {st : List Value} {h : ab_Hp} {Q : ab_O → ab_Hp → Prop} : wp 109 18 [v0, v1, v2] st h Q = wp 109 19 [v0, v1, v2] (.int (nI 2) :: st) h Q := wp_stp (ri := (.iconst 2, 1, 0, 0, 0, 0)) (by decide +kernel) rfl rfl rfl
theorem i109_19 {v0 v1 v2 : Value} {x y : Int32} {st : List Value} {h : ab_Hp} {Q : ab_O → ab_Hp → Prop} : wp 109 19 [v0, v1, v2] (.int y :: .int x :: st) h Q = wp 109 20 [v0, v1, v2] (.int (x + y) :: st) h Q := wp_stp (ri := (.iadd, 1, 0, 0, 0, 0)) (by decide +kernel) rfl rfl rfl
theorem i109_20 {v0 v1 v2 : Value} {r : Nat} {a0 : Int32} {a1 : Int32} {st : List Value} {h : ab_Hp} {Q : ab_O → ab_Hp → Prop} (hl : st.length ≤ 4) (hk : (ab_sh h r).1 = 17) : wp 109 20 [v0, v1, v2] (.int a1 :: .int a0 :: .ref r :: st) h Q = wp 92 0 [.ref r, .int a0, .int a1] [] h (ab_K 109 20 [v0, v1, v2] st Q) := wp_callV (as := [.int a0, .int a1]) (by decide +kernel : ab_cod 109 20 = some (.invokevirtual 61, 3, 92, 3, 0, 860)) rfl rfl rfl rfl hl hk
theorem i109_23 {v0 v1 v2 : Value} {st : List Value} {h : ab_Hp} {Q : ab_O → ab_Hp → Prop} (hv : ab_isA v0 = true) : wp 109 23 [v0, v1, v2] st h Q = wp 109 24 [v0, v1, v2] (v0 :: st) h Q := wp_aload_n (by decide +kernel : ab_cod 109 23 = some (.aload_n 0, 1, 0, 0, 0, 0)) hv
theorem i109_24 {v0 v2 : Value} {x : Int32} {st : List Value} {h : ab_Hp} {Q : ab_O → ab_Hp → Prop} : wp 109 24 [v0, .int x, v2] st h Q = wp 109 25 [v0, .int x, v2] (.int x :: st) h Q := wp_stp (ri := (.iload_n 1, 1, 0, 0, 0, 0)) (by decide +kernel) rfl rfl rfl
theorem i109_25 {v0 v1 v2 : Value} {st : List Value} {h : ab_Hp} {Q : ab_O → ab_Hp → Prop} : wp 109 25 [v0, v1, v2] st h Q = wp 109 26 [v0, v1, v2] (.int (nI 3) :: st) h Q := wp_stp (ri := (.iconst 3, 1, 0, 0, 0, 0)) (by decide +kernel) rfl rfl rfl
theorem i109_26 {v0 v1 v2 : Value} {r : Nat} {a0 : Int32} {a1 : Int32} {st : List Value} {h : ab_Hp} {Q : ab_O → ab_Hp → Prop} (hl : st.length ≤ 4) (hk : (ab_sh h r).1 = 17) : wp 109 26 [v0, v1, v2] (.int a1 :: .int a0 :: .ref r :: st) h Q = wp 92 0 [.ref r, .int a0, .int a1] [] h (ab_K 109 26 [v0, v1, v2] st Q) := wp_callV (as := [.int a0, .int a1]) (by decide +kernel : ab_cod 109 26 = some (.invokevirtual 61, 3, 92, 3, 0, 860)) rfl rfl rfl rfl hl hk
theorem i109_29 {v0 v1 v2 : Value} {x y : Int32} {st : List Value} {h : ab_Hp} {Q : ab_O → ab_Hp → Prop} : wp 109 29 [v0, v1, v2] (.int y :: .int x :: st) h Q = if ¬ x = y then wp 109 36 [v0, v1, v2] st h Q else wp 109 32 [v0, v1, v2] st h Q := wp_icmpP (by decide +kernel : ab_cod 109 29 = some (.if_icmp .ne 7, 3, 36, 0, 0, 0)) rfl
theorem i109_32 {v0 v1 v2 : Value} {st : List Value} {h : ab_Hp} {Q : ab_O → ab_Hp → Prop} : wp 109 32 [v0, v1, v2] st h Q = wp 109 33 [v0, v1, v2] (.int (nI 1) :: st) h Q := wp_stp (ri := (.iconst 1, 1, 0, 0, 0, 0)) (by decide +kernel) rfl rfl rfl
theorem i109_33 {v0 v1 v2 : Value} {st : List Value} {h : ab_Hp} {Q : ab_O → ab_Hp → Prop} : wp 109 33 [v0, v1, v2] st h Q = wp 109 37 [v0, v1, v2] st h Q := wp_stp (ri := (.goto 4, 3, 37, 0, 0, 0)) (by decide +kernel) rfl rfl rfl
theorem i109_36 {v0 v1 v2 : Value} {st : List Value} {h : ab_Hp} {Q : ab_O → ab_Hp → Prop} : wp 109 36 [v0, v1, v2] st h Q = wp 109 37 [v0, v1, v2] (.int (nI 0) :: st) h Q := wp_stp (ri := (.iconst 0, 1, 0, 0, 0, 0)) (by decide +kernel) rfl rfl rfl
theorem i109_37 {v0 v1 v2 : Value} {x : Int32} {h : ab_Hp} {Q : ab_O → ab_Hp → Prop} (hx : x = 0 ∨ x = 1) : wp 109 37 [v0, v1, v2] [.int x] h Q = Q (.inl (some (.int x))) h := wp_zret (by decide +kernel : ab_cod 109 37 = some (.ireturn, 1, 0, 0, 0, 0)) rfl hx
/-! 110: SeamBeatsModel.take(I)V -/
set_option maxRecDepth 100000 in
theorem i110_0 {v0 v1 v2 v3 v4 v5 v6 : Value} {st : List Value} {h : ab_Hp} {Q : ab_O → ab_Hp → Prop} : wp 110 0 [v0, v1, v2, v3, v4, v5, v6] st h Q = wp 110 1 [v0, v1, v2, v3, v4, v5, v6] (.int ((-1)) :: st) h Q := wp_stp (ri := (.iconst (-1), 1, 0, 0, 0, 0)) (by decide +kernel) rfl rfl rfl
set_option maxRecDepth 100000 in
theorem i110_1 {v0 v1 v2 v3 v4 v5 v6 : Value} {w : Int32} {st : List Value} {h : ab_Hp} {Q : ab_O → ab_Hp → Prop} : wp 110 1 [v0, v1, v2, v3, v4, v5, v6] (.int w :: st) h Q = wp 110 2 [v0, ab_clr v1, .int w, v3, v4, v5, v6] st h Q := wp_stp (ri := (.istore_n 2, 1, 0, 0, 0, 0)) (by decide +kernel) rfl rfl rfl
set_option maxRecDepth 100000 in
theorem i110_2 {v0 v1 v2 v3 v4 v5 v6 : Value} {st : List Value} {h : ab_Hp} {Q : ab_O → ab_Hp → Prop} : wp 110 2 [v0, v1, v2, v3, v4, v5, v6] st h Q = wp 110 3 [v0, v1, v2, v3, v4, v5, v6] (.int ((-1)) :: st) h Q := wp_stp (ri := (.iconst (-1), 1, 0, 0, 0, 0)) (by decide +kernel) rfl rfl rfl
set_option maxRecDepth 100000 in
theorem i110_3 {v0 v1 v2 v3 v4 v5 v6 : Value} {w : Int32} {st : List Value} {h : ab_Hp} {Q : ab_O → ab_Hp → Prop} : wp 110 3 [v0, v1, v2, v3, v4, v5, v6] (.int w :: st) h Q = wp 110 4 [v0, v1, ab_clr v2, .int w, v4, v5, v6] st h Q := wp_stp (ri := (.istore_n 3, 1, 0, 0, 0, 0)) (by decide +kernel) rfl rfl rfl
set_option maxRecDepth 100000 in
theorem i110_4 {v0 v1 v2 v3 v4 v5 v6 : Value} {st : List Value} {h : ab_Hp} {Q : ab_O → ab_Hp → Prop} (hv : ab_isA v0 = true) : wp 110 4 [v0, v1, v2, v3, v4, v5, v6] st h Q = wp 110 5 [v0, v1, v2, v3, v4, v5, v6] (v0 :: st) h Q := wp_aload_n (by decide +kernel : ab_cod 110 4 = some (.aload_n 0, 1, 0, 0, 0, 0)) hv
set_option maxRecDepth 100000 in
theorem i110_5 {v0 v1 v2 v3 v4 v5 v6 : Value} {r : Nat} {st : List Value} {h : ab_Hp} {Q : ab_O → ab_Hp → Prop} (hk : (ab_sh h r).1 = 17) : wp 110 5 [v0, v1, v2, v3, v4, v5, v6] (.ref r :: st) h Q = wp 110 8 [v0, v1, v2, v3, v4, v5, v6] (va_rf (ab_hr h r 1) :: st) h Q := wp_gf (by decide +kernel : ab_cod 110 5 = some (.getfield 7, 3, 7, 1, 773, 1)) hk
set_option maxRecDepth 100000 in
theorem i110_8 {v0 v1 v2 v3 v4 v5 v6 : Value} {st : List Value} {h : ab_Hp} {Q : ab_O → ab_Hp → Prop} : wp 110 8 [v0, v1, v2, v3, v4, v5, v6] st h Q = wp 110 9 [v0, v1, v2, v3, v4, v5, v6] (.int (nI 5) :: st) h Q := wp_stp (ri := (.iconst 5, 1, 0, 0, 0, 0)) (by decide +kernel) rfl rfl rfl
set_option maxRecDepth 100000 in
theorem i110_9 {v0 v1 v2 v3 v4 v5 v6 : Value} {r : Nat} {x : Int32} {st : List Value} {h : ab_Hp} {Q : ab_O → ab_Hp → Prop} (hk : ((ab_sh h r).1 = 1 ∨ (ab_sh h r).1 = 6) ∧ ab_in x (ab_sh h r).2 = true) : wp 110 9 [v0, v1, v2, v3, v4, v5, v6] (.int x :: .ref r :: st) h Q = wp 110 10 [v0, v1, v2, v3, v4, v5, v6] (.int (ab_hi h r x.toNatClampNeg) :: st) h Q := wp_ia (by decide +kernel : ab_cod 110 9 = some (.iaload, 1, 0, 0, 0, 0)) hk
set_option maxRecDepth 100000 in
theorem i110_10 {v0 v1 v2 v3 v4 v5 v6 : Value} {st : List Value} {h : ab_Hp} {Q : ab_O → ab_Hp → Prop} : wp 110 10 [v0, v1, v2, v3, v4, v5, v6] st h Q = wp 110 11 [v0, v1, v2, v3, v4, v5, v6] (.int (nI 1) :: st) h Q := wp_stp (ri := (.iconst 1, 1, 0, 0, 0, 0)) (by decide +kernel) rfl rfl rfl
set_option maxRecDepth 100000 in
theorem i110_11 {v0 v1 v2 v3 v4 v5 v6 : Value} {x y : Int32} {st : List Value} {h : ab_Hp} {Q : ab_O → ab_Hp → Prop} : wp 110 11 [v0, v1, v2, v3, v4, v5, v6] (.int y :: .int x :: st) h Q = wp 110 12 [v0, v1, v2, v3, v4, v5, v6] (.int (x - y) :: st) h Q := wp_stp (ri := (.isub, 1, 0, 0, 0, 0)) (by decide +kernel) rfl rfl rfl
set_option maxRecDepth 100000 in
theorem i110_12 {v0 v1 v2 v3 v4 v5 v6 : Value} {w : Int32} {st : List Value} {h : ab_Hp} {Q : ab_O → ab_Hp → Prop} : wp 110 12 [v0, v1, v2, v3, v4, v5, v6] (.int w :: st) h Q = wp 110 14 [v0, v1, v2, ab_clr v3, .int w, v5, v6] st h Q := wp_stp (ri := (.istore 4, 2, 0, 0, 0, 0)) (by decide +kernel) rfl rfl rfl
set_option maxRecDepth 100000 in
theorem i110_14 {v0 v1 v2 v3 v5 v6 : Value} {x : Int32} {st : List Value} {h : ab_Hp} {Q : ab_O → ab_Hp → Prop} : wp 110 14 [v0, v1, v2, v3, .int x, v5, v6] st h Q = wp 110 16 [v0, v1, v2, v3, .int x, v5, v6] (.int x :: st) h Q := wp_stp (ri := (.iload 4, 2, 0, 0, 0, 0)) (by decide +kernel) rfl rfl rfl
set_option maxRecDepth 100000 in
theorem i110_16 {v0 v1 v2 v3 v4 v5 v6 : Value} {x : Int32} {st : List Value} {h : ab_Hp} {Q : ab_O → ab_Hp → Prop} : wp 110 16 [v0, v1, v2, v3, v4, v5, v6] (.int x :: st) h Q = if x < 0 then wp 110 68 [v0, v1, v2, v3, v4, v5, v6] st h Q else wp 110 19 [v0, v1, v2, v3, v4, v5, v6] st h Q := wp_ifcP (by decide +kernel : ab_cod 110 16 = some (.ifCond .lt 52, 3, 68, 0, 0, 0)) rfl
set_option maxRecDepth 100000 in
theorem i110_19 {v0 v1 v2 v3 v4 v5 v6 : Value} {st : List Value} {h : ab_Hp} {Q : ab_O → ab_Hp → Prop} (hv : ab_isA v0 = true) : wp 110 19 [v0, v1, v2, v3, v4, v5, v6] st h Q = wp 110 20 [v0, v1, v2, v3, v4, v5, v6] (v0 :: st) h Q := wp_aload_n (by decide +kernel : ab_cod 110 19 = some (.aload_n 0, 1, 0, 0, 0, 0)) hv
set_option maxRecDepth 100000 in
theorem i110_20 {v0 v1 v2 v3 v5 v6 : Value} {x : Int32} {st : List Value} {h : ab_Hp} {Q : ab_O → ab_Hp → Prop} : wp 110 20 [v0, v1, v2, v3, .int x, v5, v6] st h Q = wp 110 22 [v0, v1, v2, v3, .int x, v5, v6] (.int x :: st) h Q := wp_stp (ri := (.iload 4, 2, 0, 0, 0, 0)) (by decide +kernel) rfl rfl rfl
set_option maxRecDepth 100000 in
theorem i110_22 {v0 v1 v2 v3 v4 v5 v6 : Value} {st : List Value} {h : ab_Hp} {Q : ab_O → ab_Hp → Prop} : wp 110 22 [v0, v1, v2, v3, v4, v5, v6] st h Q = wp 110 23 [v0, v1, v2, v3, v4, v5, v6] (.int (nI 1) :: st) h Q := wp_stp (ri := (.iconst 1, 1, 0, 0, 0, 0)) (by decide +kernel) rfl rfl rfl
set_option maxRecDepth 100000 in
theorem i110_23 {v0 v1 v2 v3 v4 v5 v6 : Value} {r : Nat} {a0 : Int32} {a1 : Int32} {st : List Value} {h : ab_Hp} {Q : ab_O → ab_Hp → Prop} (hl : st.length ≤ 4) (hk : (ab_sh h r).1 = 17) : wp 110 23 [v0, v1, v2, v3, v4, v5, v6] (.int a1 :: .int a0 :: .ref r :: st) h Q = wp 92 0 [.ref r, .int a0, .int a1] [] h (ab_K 110 23 [v0, v1, v2, v3, v4, v5, v6] st Q) := wp_callV (as := [.int a0, .int a1]) (by decide +kernel : ab_cod 110 23 = some (.invokevirtual 61, 3, 92, 3, 0, 860)) rfl rfl rfl rfl hl hk
set_option maxRecDepth 100000 in
theorem i110_26 {v0 v2 v3 v4 v5 v6 : Value} {x : Int32} {st : List Value} {h : ab_Hp} {Q : ab_O → ab_Hp → Prop} : wp 110 26 [v0, .int x, v2, v3, v4, v5, v6] st h Q = wp 110 27 [v0, .int x, v2, v3, v4, v5, v6] (.int x :: st) h Q := wp_stp (ri := (.iload_n 1, 1, 0, 0, 0, 0)) (by decide +kernel) rfl rfl rfl
set_option maxRecDepth 100000 in
theorem i110_27 {v0 v1 v2 v3 v4 v5 v6 : Value} {x y : Int32} {st : List Value} {h : ab_Hp} {Q : ab_O → ab_Hp → Prop} : wp 110 27 [v0, v1, v2, v3, v4, v5, v6] (.int y :: .int x :: st) h Q = if ¬ x = y then wp 110 62 [v0, v1, v2, v3, v4, v5, v6] st h Q else wp 110 30 [v0, v1, v2, v3, v4, v5, v6] st h Q := wp_icmpP (by decide +kernel : ab_cod 110 27 = some (.if_icmp .ne 35, 3, 62, 0, 0, 0)) rfl
set_option maxRecDepth 100000 in
theorem i110_30 {v0 v1 v2 v3 v4 v5 v6 : Value} {st : List Value} {h : ab_Hp} {Q : ab_O → ab_Hp → Prop} (hv : ab_isA v0 = true) : wp 110 30 [v0, v1, v2, v3, v4, v5, v6] st h Q = wp 110 31 [v0, v1, v2, v3, v4, v5, v6] (v0 :: st) h Q := wp_aload_n (by decide +kernel : ab_cod 110 30 = some (.aload_n 0, 1, 0, 0, 0, 0)) hv
set_option maxRecDepth 100000 in
theorem i110_31 {v0 v1 v2 v3 v5 v6 : Value} {x : Int32} {st : List Value} {h : ab_Hp} {Q : ab_O → ab_Hp → Prop} : wp 110 31 [v0, v1, v2, v3, .int x, v5, v6] st h Q = wp 110 33 [v0, v1, v2, v3, .int x, v5, v6] (.int x :: st) h Q := wp_stp (ri := (.iload 4, 2, 0, 0, 0, 0)) (by decide +kernel) rfl rfl rfl
set_option maxRecDepth 100000 in
theorem i110_33 {v0 v1 v2 v3 v4 v5 v6 : Value} {st : List Value} {h : ab_Hp} {Q : ab_O → ab_Hp → Prop} : wp 110 33 [v0, v1, v2, v3, v4, v5, v6] st h Q = wp 110 34 [v0, v1, v2, v3, v4, v5, v6] (.int (nI 0) :: st) h Q := wp_stp (ri := (.iconst 0, 1, 0, 0, 0, 0)) (by decide +kernel) rfl rfl rfl
set_option maxRecDepth 100000 in
theorem i110_34 {v0 v1 v2 v3 v4 v5 v6 : Value} {r : Nat} {a0 : Int32} {a1 : Int32} {st : List Value} {h : ab_Hp} {Q : ab_O → ab_Hp → Prop} (hl : st.length ≤ 4) (hk : (ab_sh h r).1 = 17) : wp 110 34 [v0, v1, v2, v3, v4, v5, v6] (.int a1 :: .int a0 :: .ref r :: st) h Q = wp 109 0 [.ref r, .int a0, .int a1] [] h (ab_K 110 34 [v0, v1, v2, v3, v4, v5, v6] st Q) := wp_callV (as := [.int a0, .int a1]) (by decide +kernel : ab_cod 110 34 = some (.invokevirtual 71, 3, 109, 3, 0, 900)) rfl rfl rfl rfl hl hk
set_option maxRecDepth 100000 in
theorem i110_37 {v0 v1 v2 v3 v4 v5 v6 : Value} {x : Int32} {st : List Value} {h : ab_Hp} {Q : ab_O → ab_Hp → Prop} : wp 110 37 [v0, v1, v2, v3, v4, v5, v6] (.int x :: st) h Q = if x = 0 then wp 110 62 [v0, v1, v2, v3, v4, v5, v6] st h Q else wp 110 40 [v0, v1, v2, v3, v4, v5, v6] st h Q := wp_ifcP (by decide +kernel : ab_cod 110 37 = some (.ifCond .eq 25, 3, 62, 0, 0, 0)) rfl
set_option maxRecDepth 100000 in
theorem i110_40 {v0 v1 v2 v3 v5 v6 : Value} {x : Int32} {st : List Value} {h : ab_Hp} {Q : ab_O → ab_Hp → Prop} : wp 110 40 [v0, v1, v2, v3, .int x, v5, v6] st h Q = wp 110 42 [v0, v1, v2, v3, .int x, v5, v6] (.int x :: st) h Q := wp_stp (ri := (.iload 4, 2, 0, 0, 0, 0)) (by decide +kernel) rfl rfl rfl
set_option maxRecDepth 100000 in
theorem i110_42 {v0 v1 v2 v3 v4 v5 v6 : Value} {w : Int32} {st : List Value} {h : ab_Hp} {Q : ab_O → ab_Hp → Prop} : wp 110 42 [v0, v1, v2, v3, v4, v5, v6] (.int w :: st) h Q = wp 110 43 [v0, v1, ab_clr v2, .int w, v4, v5, v6] st h Q := wp_stp (ri := (.istore_n 3, 1, 0, 0, 0, 0)) (by decide +kernel) rfl rfl rfl
set_option maxRecDepth 100000 in
theorem i110_43 {v0 v1 v2 v3 v5 v6 : Value} {x : Int32} {st : List Value} {h : ab_Hp} {Q : ab_O → ab_Hp → Prop} : wp 110 43 [v0, v1, v2, v3, .int x, v5, v6] st h Q = wp 110 45 [v0, v1, v2, v3, .int x, v5, v6] (.int x :: st) h Q := wp_stp (ri := (.iload 4, 2, 0, 0, 0, 0)) (by decide +kernel) rfl rfl rfl
set_option maxRecDepth 100000 in
theorem i110_45 {v0 v1 v2 v3 v4 v5 v6 : Value} {st : List Value} {h : ab_Hp} {Q : ab_O → ab_Hp → Prop} (hv : ab_isA v0 = true) : wp 110 45 [v0, v1, v2, v3, v4, v5, v6] st h Q = wp 110 46 [v0, v1, v2, v3, v4, v5, v6] (v0 :: st) h Q := wp_aload_n (by decide +kernel : ab_cod 110 45 = some (.aload_n 0, 1, 0, 0, 0, 0)) hv
set_option maxRecDepth 100000 in
theorem i110_46 {v0 v2 v3 v4 v5 v6 : Value} {x : Int32} {st : List Value} {h : ab_Hp} {Q : ab_O → ab_Hp → Prop} : wp 110 46 [v0, .int x, v2, v3, v4, v5, v6] st h Q = wp 110 47 [v0, .int x, v2, v3, v4, v5, v6] (.int x :: st) h Q := wp_stp (ri := (.iload_n 1, 1, 0, 0, 0, 0)) (by decide +kernel) rfl rfl rfl
set_option maxRecDepth 100000 in
theorem i110_47 {v0 v1 v2 v3 v4 v5 v6 : Value} {st : List Value} {h : ab_Hp} {Q : ab_O → ab_Hp → Prop} : wp 110 47 [v0, v1, v2, v3, v4, v5, v6] st h Q = wp 110 49 [v0, v1, v2, v3, v4, v5, v6] (.int (nI 10) :: st) h Q := wp_stp (ri := (.bipush 10, 2, 0, 0, 0, 0)) (by decide +kernel) rfl rfl rfl
set_option maxRecDepth 100000 in
theorem i110_49 {v0 v1 v2 v3 v4 v5 v6 : Value} {r : Nat} {a0 : Int32} {a1 : Int32} {st : List Value} {h : ab_Hp} {Q : ab_O → ab_Hp → Prop} (hl : st.length ≤ 4) (hk : (ab_sh h r).1 = 17) : wp 110 49 [v0, v1, v2, v3, v4, v5, v6] (.int a1 :: .int a0 :: .ref r :: st) h Q = wp 90 0 [.ref r, .int a0, .int a1] [] h (ab_K 110 49 [v0, v1, v2, v3, v4, v5, v6] st Q) := wp_callV (as := [.int a0, .int a1]) (by decide +kernel : ab_cod 110 49 = some (.invokevirtual 47, 3, 90, 3, 0, 828)) rfl rfl rfl rfl hl hk
set_option maxRecDepth 100000 in
theorem i110_52 {v0 v1 v2 v3 v4 v5 v6 : Value} {x y : Int32} {st : List Value} {h : ab_Hp} {Q : ab_O → ab_Hp → Prop} : wp 110 52 [v0, v1, v2, v3, v4, v5, v6] (.int y :: .int x :: st) h Q = if x ≤ y then wp 110 60 [v0, v1, v2, v3, v4, v5, v6] st h Q else wp 110 55 [v0, v1, v2, v3, v4, v5, v6] st h Q := wp_icmpP (by decide +kernel : ab_cod 110 52 = some (.if_icmp .le 8, 3, 60, 0, 0, 0)) rfl
set_option maxRecDepth 100000 in
theorem i110_55 {v0 v1 v2 v3 v5 v6 : Value} {x : Int32} {st : List Value} {h : ab_Hp} {Q : ab_O → ab_Hp → Prop} : wp 110 55 [v0, v1, v2, v3, .int x, v5, v6] st h Q = wp 110 57 [v0, v1, v2, v3, .int x, v5, v6] (.int x :: st) h Q := wp_stp (ri := (.iload 4, 2, 0, 0, 0, 0)) (by decide +kernel) rfl rfl rfl
set_option maxRecDepth 100000 in
theorem i110_57 {v0 v1 v2 v3 v4 v5 v6 : Value} {st : List Value} {h : ab_Hp} {Q : ab_O → ab_Hp → Prop} : wp 110 57 [v0, v1, v2, v3, v4, v5, v6] st h Q = wp 110 61 [v0, v1, v2, v3, v4, v5, v6] st h Q := wp_stp (ri := (.goto 4, 3, 61, 0, 0, 0)) (by decide +kernel) rfl rfl rfl
set_option maxRecDepth 100000 in
theorem i110_60 {v0 v1 v3 v4 v5 v6 : Value} {x : Int32} {st : List Value} {h : ab_Hp} {Q : ab_O → ab_Hp → Prop} : wp 110 60 [v0, v1, .int x, v3, v4, v5, v6] st h Q = wp 110 61 [v0, v1, .int x, v3, v4, v5, v6] (.int x :: st) h Q := wp_stp (ri := (.iload_n 2, 1, 0, 0, 0, 0)) (by decide +kernel) rfl rfl rfl
set_option maxRecDepth 100000 in
theorem i110_61 {v0 v1 v2 v3 v4 v5 v6 : Value} {w : Int32} {st : List Value} {h : ab_Hp} {Q : ab_O → ab_Hp → Prop} : wp 110 61 [v0, v1, v2, v3, v4, v5, v6] (.int w :: st) h Q = wp 110 62 [v0, ab_clr v1, .int w, v3, v4, v5, v6] st h Q := wp_stp (ri := (.istore_n 2, 1, 0, 0, 0, 0)) (by decide +kernel) rfl rfl rfl
set_option maxRecDepth 100000 in
theorem i110_62 {v0 v1 v2 v3 v5 v6 : Value} {x : Int32} {st : List Value} {h : ab_Hp} {Q : ab_O → ab_Hp → Prop} : wp 110 62 [v0, v1, v2, v3, .int x, v5, v6] st h Q = wp 110 65 [v0, v1, v2, ab_clr v3, .int (x + Int32.ofInt (-1)), v5, v6] st h Q := wp_stp (ri := (.iinc 4 (-1), 3, 0, 0, 0, 0)) (by decide +kernel) rfl rfl rfl
set_option maxRecDepth 100000 in
theorem i110_65 {v0 v1 v2 v3 v4 v5 v6 : Value} {st : List Value} {h : ab_Hp} {Q : ab_O → ab_Hp → Prop} : wp 110 65 [v0, v1, v2, v3, v4, v5, v6] st h Q = wp 110 14 [v0, v1, v2, v3, v4, v5, v6] st h Q := wp_stp (ri := (.goto (-51), 3, 14, 0, 0, 0)) (by decide +kernel) rfl rfl rfl
set_option maxRecDepth 100000 in
theorem i110_68 {v0 v1 v3 v4 v5 v6 : Value} {x : Int32} {st : List Value} {h : ab_Hp} {Q : ab_O → ab_Hp → Prop} : wp 110 68 [v0, v1, .int x, v3, v4, v5, v6] st h Q = wp 110 69 [v0, v1, .int x, v3, v4, v5, v6] (.int x :: st) h Q := wp_stp (ri := (.iload_n 2, 1, 0, 0, 0, 0)) (by decide +kernel) rfl rfl rfl
set_option maxRecDepth 100000 in
theorem i110_69 {v0 v1 v2 v3 v4 v5 v6 : Value} {st : List Value} {h : ab_Hp} {Q : ab_O → ab_Hp → Prop} : wp 110 69 [v0, v1, v2, v3, v4, v5, v6] st h Q = wp 110 70 [v0, v1, v2, v3, v4, v5, v6] (.int ((-1)) :: st) h Q := wp_stp (ri := (.iconst (-1), 1, 0, 0, 0, 0)) (by decide +kernel) rfl rfl rfl
set_option maxRecDepth 100000 in
theorem i110_70 {v0 v1 v2 v3 v4 v5 v6 : Value} {x y : Int32} {st : List Value} {h : ab_Hp} {Q : ab_O → ab_Hp → Prop} : wp 110 70 [v0, v1, v2, v3, v4, v5, v6] (.int y :: .int x :: st) h Q = if ¬ x = y then wp 110 77 [v0, v1, v2, v3, v4, v5, v6] st h Q else wp 110 73 [v0, v1, v2, v3, v4, v5, v6] st h Q := wp_icmpP (by decide +kernel : ab_cod 110 70 = some (.if_icmp .ne 7, 3, 77, 0, 0, 0)) rfl
set_option maxRecDepth 100000 in
theorem i110_73 {v0 v1 v2 v4 v5 v6 : Value} {x : Int32} {st : List Value} {h : ab_Hp} {Q : ab_O → ab_Hp → Prop} : wp 110 73 [v0, v1, v2, .int x, v4, v5, v6] st h Q = wp 110 74 [v0, v1, v2, .int x, v4, v5, v6] (.int x :: st) h Q := wp_stp (ri := (.iload_n 3, 1, 0, 0, 0, 0)) (by decide +kernel) rfl rfl rfl
set_option maxRecDepth 100000 in
theorem i110_74 {v0 v1 v2 v3 v4 v5 v6 : Value} {st : List Value} {h : ab_Hp} {Q : ab_O → ab_Hp → Prop} : wp 110 74 [v0, v1, v2, v3, v4, v5, v6] st h Q = wp 110 78 [v0, v1, v2, v3, v4, v5, v6] st h Q := wp_stp (ri := (.goto 4, 3, 78, 0, 0, 0)) (by decide +kernel) rfl rfl rfl
set_option maxRecDepth 100000 in
theorem i110_77 {v0 v1 v3 v4 v5 v6 : Value} {x : Int32} {st : List Value} {h : ab_Hp} {Q : ab_O → ab_Hp → Prop} : wp 110 77 [v0, v1, .int x, v3, v4, v5, v6] st h Q = wp 110 78 [v0, v1, .int x, v3, v4, v5, v6] (.int x :: st) h Q := wp_stp (ri := (.iload_n 2, 1, 0, 0, 0, 0)) (by decide +kernel) rfl rfl rfl
set_option maxRecDepth 100000 in
theorem i110_78 {v0 v1 v2 v3 v4 v5 v6 : Value} {w : Int32} {st : List Value} {h : ab_Hp} {Q : ab_O → ab_Hp → Prop} : wp 110 78 [v0, v1, v2, v3, v4, v5, v6] (.int w :: st) h Q = wp 110 80 [v0, v1, v2, ab_clr v3, .int w, v5, v6] st h Q := wp_stp (ri := (.istore 4, 2, 0, 0, 0, 0)) (by decide +kernel) rfl rfl rfl
set_option maxRecDepth 100000 in
theorem i110_80 {v0 v1 v2 v3 v5 v6 : Value} {x : Int32} {st : List Value} {h : ab_Hp} {Q : ab_O → ab_Hp → Prop} : wp 110 80 [v0, v1, v2, v3, .int x, v5, v6] st h Q = wp 110 82 [v0, v1, v2, v3, .int x, v5, v6] (.int x :: st) h Q := wp_stp (ri := (.iload 4, 2, 0, 0, 0, 0)) (by decide +kernel) rfl rfl rfl
set_option maxRecDepth 100000 in
theorem i110_82 {v0 v1 v2 v3 v4 v5 v6 : Value} {st : List Value} {h : ab_Hp} {Q : ab_O → ab_Hp → Prop} : wp 110 82 [v0, v1, v2, v3, v4, v5, v6] st h Q = wp 110 83 [v0, v1, v2, v3, v4, v5, v6] (.int ((-1)) :: st) h Q := wp_stp (ri := (.iconst (-1), 1, 0, 0, 0, 0)) (by decide +kernel) rfl rfl rfl
set_option maxRecDepth 100000 in
theorem i110_83 {v0 v1 v2 v3 v4 v5 v6 : Value} {x y : Int32} {st : List Value} {h : ab_Hp} {Q : ab_O → ab_Hp → Prop} : wp 110 83 [v0, v1, v2, v3, v4, v5, v6] (.int y :: .int x :: st) h Q = if x = y then wp 110 97 [v0, v1, v2, v3, v4, v5, v6] st h Q else wp 110 86 [v0, v1, v2, v3, v4, v5, v6] st h Q := wp_icmpP (by decide +kernel : ab_cod 110 83 = some (.if_icmp .eq 14, 3, 97, 0, 0, 0)) rfl
set_option maxRecDepth 100000 in
theorem i110_86 {v0 v1 v2 v3 v4 v5 v6 : Value} {st : List Value} {h : ab_Hp} {Q : ab_O → ab_Hp → Prop} (hv : ab_isA v0 = true) : wp 110 86 [v0, v1, v2, v3, v4, v5, v6] st h Q = wp 110 87 [v0, v1, v2, v3, v4, v5, v6] (v0 :: st) h Q := wp_aload_n (by decide +kernel : ab_cod 110 86 = some (.aload_n 0, 1, 0, 0, 0, 0)) hv
set_option maxRecDepth 100000 in
theorem i110_87 {v0 v2 v3 v4 v5 v6 : Value} {x : Int32} {st : List Value} {h : ab_Hp} {Q : ab_O → ab_Hp → Prop} : wp 110 87 [v0, .int x, v2, v3, v4, v5, v6] st h Q = wp 110 88 [v0, .int x, v2, v3, v4, v5, v6] (.int x :: st) h Q := wp_stp (ri := (.iload_n 1, 1, 0, 0, 0, 0)) (by decide +kernel) rfl rfl rfl
set_option maxRecDepth 100000 in
theorem i110_88 {v0 v1 v2 v3 v4 v5 v6 : Value} {st : List Value} {h : ab_Hp} {Q : ab_O → ab_Hp → Prop} : wp 110 88 [v0, v1, v2, v3, v4, v5, v6] st h Q = wp 110 89 [v0, v1, v2, v3, v4, v5, v6] (.int (nI 4) :: st) h Q := wp_stp (ri := (.iconst 4, 1, 0, 0, 0, 0)) (by decide +kernel) rfl rfl rfl
set_option maxRecDepth 100000 in
theorem i110_89 {v0 v1 v2 v3 v4 v5 v6 : Value} {r : Nat} {a0 : Int32} {a1 : Int32} {st : List Value} {h : ab_Hp} {Q : ab_O → ab_Hp → Prop} (hl : st.length ≤ 4) (hk : (ab_sh h r).1 = 17) : wp 110 89 [v0, v1, v2, v3, v4, v5, v6] (.int a1 :: .int a0 :: .ref r :: st) h Q = wp 90 0 [.ref r, .int a0, .int a1] [] h (ab_K 110 89 [v0, v1, v2, v3, v4, v5, v6] st Q) := wp_callV (as := [.int a0, .int a1]) (by decide +kernel : ab_cod 110 89 = some (.invokevirtual 47, 3, 90, 3, 0, 828)) rfl rfl rfl rfl hl hk
set_option maxRecDepth 100000 in
theorem i110_92 {v0 v1 v2 v3 v4 v5 v6 : Value} {st : List Value} {h : ab_Hp} {Q : ab_O → ab_Hp → Prop} : wp 110 92 [v0, v1, v2, v3, v4, v5, v6] st h Q = wp 110 94 [v0, v1, v2, v3, v4, v5, v6] (.int (nI 8) :: st) h Q := wp_stp (ri := (.bipush 8, 2, 0, 0, 0, 0)) (by decide +kernel) rfl rfl rfl
set_option maxRecDepth 100000 in
theorem i110_94 {v0 v1 v2 v3 v4 v5 v6 : Value} {x y : Int32} {st : List Value} {h : ab_Hp} {Q : ab_O → ab_Hp → Prop} : wp 110 94 [v0, v1, v2, v3, v4, v5, v6] (.int y :: .int x :: st) h Q = if ¬ x = y then wp 110 98 [v0, v1, v2, v3, v4, v5, v6] st h Q else wp 110 97 [v0, v1, v2, v3, v4, v5, v6] st h Q := wp_icmpP (by decide +kernel : ab_cod 110 94 = some (.if_icmp .ne 4, 3, 98, 0, 0, 0)) rfl
set_option maxRecDepth 100000 in
theorem i110_97 {v0 v1 v2 v3 v4 v5 v6 : Value} {h : ab_Hp} {Q : ab_O → ab_Hp → Prop} : wp 110 97 [v0, v1, v2, v3, v4, v5, v6] [] h Q = Q (.inl none) h := wp_vret (by decide +kernel : ab_cod 110 97 = some (.return_, 1, 0, 0, 0, 0)) rfl
set_option maxRecDepth 100000 in
theorem i110_98 {v0 v1 v2 v3 v4 v5 v6 : Value} {st : List Value} {h : ab_Hp} {Q : ab_O → ab_Hp → Prop} (hv : ab_isA v0 = true) : wp 110 98 [v0, v1, v2, v3, v4, v5, v6] st h Q = wp 110 99 [v0, v1, v2, v3, v4, v5, v6] (v0 :: st) h Q := wp_aload_n (by decide +kernel : ab_cod 110 98 = some (.aload_n 0, 1, 0, 0, 0, 0)) hv
set_option maxRecDepth 100000 in
theorem i110_99 {v0 v2 v3 v4 v5 v6 : Value} {x : Int32} {st : List Value} {h : ab_Hp} {Q : ab_O → ab_Hp → Prop} : wp 110 99 [v0, .int x, v2, v3, v4, v5, v6] st h Q = wp 110 100 [v0, .int x, v2, v3, v4, v5, v6] (.int x :: st) h Q := wp_stp (ri := (.iload_n 1, 1, 0, 0, 0, 0)) (by decide +kernel) rfl rfl rfl
set_option maxRecDepth 100000 in
theorem i110_100 {v0 v1 v2 v3 v4 v5 v6 : Value} {st : List Value} {h : ab_Hp} {Q : ab_O → ab_Hp → Prop} (hv : ab_isA v0 = true) : wp 110 100 [v0, v1, v2, v3, v4, v5, v6] st h Q = wp 110 101 [v0, v1, v2, v3, v4, v5, v6] (v0 :: st) h Q := wp_aload_n (by decide +kernel : ab_cod 110 100 = some (.aload_n 0, 1, 0, 0, 0, 0)) hv
set_option maxRecDepth 100000 in
theorem i110_101 {v0 v1 v2 v3 v5 v6 : Value} {x : Int32} {st : List Value} {h : ab_Hp} {Q : ab_O → ab_Hp → Prop} : wp 110 101 [v0, v1, v2, v3, .int x, v5, v6] st h Q = wp 110 103 [v0, v1, v2, v3, .int x, v5, v6] (.int x :: st) h Q := wp_stp (ri := (.iload 4, 2, 0, 0, 0, 0)) (by decide +kernel) rfl rfl rfl
set_option maxRecDepth 100000 in
theorem i110_103 {v0 v1 v2 v3 v4 v5 v6 : Value} {st : List Value} {h : ab_Hp} {Q : ab_O → ab_Hp → Prop} : wp 110 103 [v0, v1, v2, v3, v4, v5, v6] st h Q = wp 110 105 [v0, v1, v2, v3, v4, v5, v6] (.int (nI 6) :: st) h Q := wp_stp (ri := (.bipush 6, 2, 0, 0, 0, 0)) (by decide +kernel) rfl rfl rfl
set_option maxRecDepth 100000 in
theorem i110_105 {v0 v1 v2 v3 v4 v5 v6 : Value} {r : Nat} {a0 : Int32} {a1 : Int32} {st : List Value} {h : ab_Hp} {Q : ab_O → ab_Hp → Prop} (hl : st.length ≤ 4) (hk : (ab_sh h r).1 = 17) : wp 110 105 [v0, v1, v2, v3, v4, v5, v6] (.int a1 :: .int a0 :: .ref r :: st) h Q = wp 92 0 [.ref r, .int a0, .int a1] [] h (ab_K 110 105 [v0, v1, v2, v3, v4, v5, v6] st Q) := wp_callV (as := [.int a0, .int a1]) (by decide +kernel : ab_cod 110 105 = some (.invokevirtual 61, 3, 92, 3, 0, 860)) rfl rfl rfl rfl hl hk
set_option maxRecDepth 100000 in
theorem i110_108 {v0 v1 v2 v3 v4 v5 v6 : Value} {st : List Value} {h : ab_Hp} {Q : ab_O → ab_Hp → Prop} (hv : ab_isA v0 = true) : wp 110 108 [v0, v1, v2, v3, v4, v5, v6] st h Q = wp 110 109 [v0, v1, v2, v3, v4, v5, v6] (v0 :: st) h Q := wp_aload_n (by decide +kernel : ab_cod 110 108 = some (.aload_n 0, 1, 0, 0, 0, 0)) hv
set_option maxRecDepth 100000 in
theorem i110_109 {v0 v1 v2 v3 v5 v6 : Value} {x : Int32} {st : List Value} {h : ab_Hp} {Q : ab_O → ab_Hp → Prop} : wp 110 109 [v0, v1, v2, v3, .int x, v5, v6] st h Q = wp 110 111 [v0, v1, v2, v3, .int x, v5, v6] (.int x :: st) h Q := wp_stp (ri := (.iload 4, 2, 0, 0, 0, 0)) (by decide +kernel) rfl rfl rfl
set_option maxRecDepth 100000 in
theorem i110_111 {v0 v1 v2 v3 v4 v5 v6 : Value} {st : List Value} {h : ab_Hp} {Q : ab_O → ab_Hp → Prop} : wp 110 111 [v0, v1, v2, v3, v4, v5, v6] st h Q = wp 110 113 [v0, v1, v2, v3, v4, v5, v6] (.int (nI 7) :: st) h Q := wp_stp (ri := (.bipush 7, 2, 0, 0, 0, 0)) (by decide +kernel) rfl rfl rfl
set_option maxRecDepth 100000 in
theorem i110_113 {v0 v1 v2 v3 v4 v5 v6 : Value} {r : Nat} {a0 : Int32} {a1 : Int32} {st : List Value} {h : ab_Hp} {Q : ab_O → ab_Hp → Prop} (hl : st.length ≤ 4) (hk : (ab_sh h r).1 = 17) : wp 110 113 [v0, v1, v2, v3, v4, v5, v6] (.int a1 :: .int a0 :: .ref r :: st) h Q = wp 92 0 [.ref r, .int a0, .int a1] [] h (ab_K 110 113 [v0, v1, v2, v3, v4, v5, v6] st Q) := wp_callV (as := [.int a0, .int a1]) (by decide +kernel : ab_cod 110 113 = some (.invokevirtual 61, 3, 92, 3, 0, 860)) rfl rfl rfl rfl hl hk
set_option maxRecDepth 100000 in
theorem i110_116 {v0 v1 v2 v3 v4 v5 v6 : Value} {r : Nat} {a0 : Int32} {a1 : Int32} {a2 : Int32} {st : List Value} {h : ab_Hp} {Q : ab_O → ab_Hp → Prop} (hl : st.length ≤ 4) (hk : (ab_sh h r).1 = 17) : wp 110 116 [v0, v1, v2, v3, v4, v5, v6] (.int a2 :: .int a1 :: .int a0 :: .ref r :: st) h Q = wp 104 0 [.ref r, .int a0, .int a1, .int a2, ab_nov] [] h (ab_K 110 116 [v0, v1, v2, v3, v4, v5, v6] st Q) := wp_callV (as := [.int a0, .int a1, .int a2]) (by decide +kernel : ab_cod 110 116 = some (.invokevirtual 64, 3, 104, 4, 0, 868)) rfl rfl rfl rfl hl hk
set_option maxRecDepth 100000 in
theorem i110_119 {v0 v1 v2 v3 v4 v5 v6 : Value} {st : List Value} {h : ab_Hp} {Q : ab_O → ab_Hp → Prop} (hv : ab_isA v0 = true) : wp 110 119 [v0, v1, v2, v3, v4, v5, v6] st h Q = wp 110 120 [v0, v1, v2, v3, v4, v5, v6] (v0 :: st) h Q := wp_aload_n (by decide +kernel : ab_cod 110 119 = some (.aload_n 0, 1, 0, 0, 0, 0)) hv
set_option maxRecDepth 100000 in
theorem i110_120 {v0 v2 v3 v4 v5 v6 : Value} {x : Int32} {st : List Value} {h : ab_Hp} {Q : ab_O → ab_Hp → Prop} : wp 110 120 [v0, .int x, v2, v3, v4, v5, v6] st h Q = wp 110 121 [v0, .int x, v2, v3, v4, v5, v6] (.int x :: st) h Q := wp_stp (ri := (.iload_n 1, 1, 0, 0, 0, 0)) (by decide +kernel) rfl rfl rfl
set_option maxRecDepth 100000 in
theorem i110_121 {v0 v1 v2 v3 v4 v5 v6 : Value} {st : List Value} {h : ab_Hp} {Q : ab_O → ab_Hp → Prop} : wp 110 121 [v0, v1, v2, v3, v4, v5, v6] st h Q = wp 110 123 [v0, v1, v2, v3, v4, v5, v6] (.int (nI 10) :: st) h Q := wp_stp (ri := (.bipush 10, 2, 0, 0, 0, 0)) (by decide +kernel) rfl rfl rfl
set_option maxRecDepth 100000 in
theorem i110_123 {v0 v1 v2 v3 v5 v6 : Value} {x : Int32} {st : List Value} {h : ab_Hp} {Q : ab_O → ab_Hp → Prop} : wp 110 123 [v0, v1, v2, v3, .int x, v5, v6] st h Q = wp 110 125 [v0, v1, v2, v3, .int x, v5, v6] (.int x :: st) h Q := wp_stp (ri := (.iload 4, 2, 0, 0, 0, 0)) (by decide +kernel) rfl rfl rfl
set_option maxRecDepth 100000 in
theorem i110_125 {v0 v1 v2 v3 v4 v5 v6 : Value} {r : Nat} {a0 : Int32} {a1 : Int32} {a2 : Int32} {st : List Value} {h : ab_Hp} {Q : ab_O → ab_Hp → Prop} (hl : st.length ≤ 4) (hk : (ab_sh h r).1 = 17) : wp 110 125 [v0, v1, v2, v3, v4, v5, v6] (.int a2 :: .int a1 :: .int a0 :: .ref r :: st) h Q = wp 91 0 [.ref r, .int a0, .int a1, .int a2] [] h (ab_K 110 125 [v0, v1, v2, v3, v4, v5, v6] st Q) := wp_callV (as := [.int a0, .int a1, .int a2]) (by decide +kernel : ab_cod 110 125 = some (.invokevirtual 25, 3, 91, 4, 0, 768)) rfl rfl rfl rfl hl hk
set_option maxRecDepth 100000 in
theorem i110_128 {v0 v1 v2 v3 v4 v5 v6 : Value} {st : List Value} {h : ab_Hp} {Q : ab_O → ab_Hp → Prop} (hv : ab_isA v0 = true) : wp 110 128 [v0, v1, v2, v3, v4, v5, v6] st h Q = wp 110 129 [v0, v1, v2, v3, v4, v5, v6] (v0 :: st) h Q := wp_aload_n (by decide +kernel : ab_cod 110 128 = some (.aload_n 0, 1, 0, 0, 0, 0)) hv
set_option maxRecDepth 100000 in
theorem i110_129 {v0 v1 v2 v3 v5 v6 : Value} {x : Int32} {st : List Value} {h : ab_Hp} {Q : ab_O → ab_Hp → Prop} : wp 110 129 [v0, v1, v2, v3, .int x, v5, v6] st h Q = wp 110 131 [v0, v1, v2, v3, .int x, v5, v6] (.int x :: st) h Q := wp_stp (ri := (.iload 4, 2, 0, 0, 0, 0)) (by decide +kernel) rfl rfl rfl
set_option maxRecDepth 100000 in
theorem i110_131 {v0 v1 v2 v3 v4 v5 v6 : Value} {st : List Value} {h : ab_Hp} {Q : ab_O → ab_Hp → Prop} : wp 110 131 [v0, v1, v2, v3, v4, v5, v6] st h Q = wp 110 132 [v0, v1, v2, v3, v4, v5, v6] (.int (nI 4) :: st) h Q := wp_stp (ri := (.iconst 4, 1, 0, 0, 0, 0)) (by decide +kernel) rfl rfl rfl
set_option maxRecDepth 100000 in
theorem i110_132 {v0 v1 v2 v3 v4 v5 v6 : Value} {r : Nat} {a0 : Int32} {a1 : Int32} {st : List Value} {h : ab_Hp} {Q : ab_O → ab_Hp → Prop} (hl : st.length ≤ 4) (hk : (ab_sh h r).1 = 17) : wp 110 132 [v0, v1, v2, v3, v4, v5, v6] (.int a1 :: .int a0 :: .ref r :: st) h Q = wp 92 0 [.ref r, .int a0, .int a1] [] h (ab_K 110 132 [v0, v1, v2, v3, v4, v5, v6] st Q) := wp_callV (as := [.int a0, .int a1]) (by decide +kernel : ab_cod 110 132 = some (.invokevirtual 61, 3, 92, 3, 0, 860)) rfl rfl rfl rfl hl hk
set_option maxRecDepth 100000 in
theorem i110_135 {v0 v1 v2 v3 v4 v5 v6 : Value} {st : List Value} {h : ab_Hp} {Q : ab_O → ab_Hp → Prop} : wp 110 135 [v0, v1, v2, v3, v4, v5, v6] st h Q = wp 110 136 [v0, v1, v2, v3, v4, v5, v6] (.int (nI 1) :: st) h Q := wp_stp (ri := (.iconst 1, 1, 0, 0, 0, 0)) (by decide +kernel) rfl rfl rfl
set_option maxRecDepth 100000 in
theorem i110_136 {v0 v1 v2 v3 v4 v5 v6 : Value} {x y : Int32} {st : List Value} {h : ab_Hp} {Q : ab_O → ab_Hp → Prop} : wp 110 136 [v0, v1, v2, v3, v4, v5, v6] (.int y :: .int x :: st) h Q = wp 110 137 [v0, v1, v2, v3, v4, v5, v6] (.int (x - y) :: st) h Q := wp_stp (ri := (.isub, 1, 0, 0, 0, 0)) (by decide +kernel) rfl rfl rfl
set_option maxRecDepth 100000 in
theorem i110_137 {v0 v1 v2 v3 v4 v5 v6 : Value} {w : Int32} {st : List Value} {h : ab_Hp} {Q : ab_O → ab_Hp → Prop} : wp 110 137 [v0, v1, v2, v3, v4, v5, v6] (.int w :: st) h Q = wp 110 139 [v0, v1, v2, v3, ab_clr v4, .int w, v6] st h Q := wp_stp (ri := (.istore 5, 2, 0, 0, 0, 0)) (by decide +kernel) rfl rfl rfl
set_option maxRecDepth 100000 in
theorem i110_139 {v0 v1 v2 v3 v4 v5 v6 : Value} {st : List Value} {h : ab_Hp} {Q : ab_O → ab_Hp → Prop} : wp 110 139 [v0, v1, v2, v3, v4, v5, v6] st h Q = wp 110 140 [v0, v1, v2, v3, v4, v5, v6] (.int (nI 0) :: st) h Q := wp_stp (ri := (.iconst 0, 1, 0, 0, 0, 0)) (by decide +kernel) rfl rfl rfl
set_option maxRecDepth 100000 in
theorem i110_140 {v0 v1 v2 v3 v4 v5 v6 : Value} {w : Int32} {st : List Value} {h : ab_Hp} {Q : ab_O → ab_Hp → Prop} : wp 110 140 [v0, v1, v2, v3, v4, v5, v6] (.int w :: st) h Q = wp 110 142 [v0, v1, v2, v3, v4, ab_clr v5, .int w] st h Q := wp_stp (ri := (.istore 6, 2, 0, 0, 0, 0)) (by decide +kernel) rfl rfl rfl
set_option maxRecDepth 100000 in
theorem i110_142 {v0 v1 v2 v3 v4 v5 : Value} {x : Int32} {st : List Value} {h : ab_Hp} {Q : ab_O → ab_Hp → Prop} : wp 110 142 [v0, v1, v2, v3, v4, v5, .int x] st h Q = wp 110 144 [v0, v1, v2, v3, v4, v5, .int x] (.int x :: st) h Q := wp_stp (ri := (.iload 6, 2, 0, 0, 0, 0)) (by decide +kernel) rfl rfl rfl
set_option maxRecDepth 100000 in
theorem i110_144 {v0 v1 v2 v3 v4 v5 v6 : Value} {st : List Value} {h : ab_Hp} {Q : ab_O → ab_Hp → Prop} : wp 110 144 [v0, v1, v2, v3, v4, v5, v6] st h Q = wp 110 145 [v0, v1, v2, v3, v4, v5, v6] (.int (nI 3) :: st) h Q := wp_stp (ri := (.iconst 3, 1, 0, 0, 0, 0)) (by decide +kernel) rfl rfl rfl
set_option maxRecDepth 100000 in
theorem i110_145 {v0 v1 v2 v3 v4 v6 : Value} {x : Int32} {st : List Value} {h : ab_Hp} {Q : ab_O → ab_Hp → Prop} : wp 110 145 [v0, v1, v2, v3, v4, .int x, v6] st h Q = wp 110 147 [v0, v1, v2, v3, v4, .int x, v6] (.int x :: st) h Q := wp_stp (ri := (.iload 5, 2, 0, 0, 0, 0)) (by decide +kernel) rfl rfl rfl
set_option maxRecDepth 100000 in
theorem i110_147 {v0 v1 v2 v3 v4 v5 v6 : Value} {x y : Int32} {st : List Value} {h : ab_Hp} {Q : ab_O → ab_Hp → Prop} : wp 110 147 [v0, v1, v2, v3, v4, v5, v6] (.int y :: .int x :: st) h Q = wp 110 148 [v0, v1, v2, v3, v4, v5, v6] (.int (x * y) :: st) h Q := wp_stp (ri := (.imul, 1, 0, 0, 0, 0)) (by decide +kernel) rfl rfl rfl
set_option maxRecDepth 100000 in
theorem i110_148 {v0 v1 v2 v3 v4 v5 v6 : Value} {x y : Int32} {st : List Value} {h : ab_Hp} {Q : ab_O → ab_Hp → Prop} : wp 110 148 [v0, v1, v2, v3, v4, v5, v6] (.int y :: .int x :: st) h Q = if y ≤ x then wp 110 181 [v0, v1, v2, v3, v4, v5, v6] st h Q else wp 110 151 [v0, v1, v2, v3, v4, v5, v6] st h Q := wp_icmpP (by decide +kernel : ab_cod 110 148 = some (.if_icmp .ge 33, 3, 181, 0, 0, 0)) rfl
set_option maxRecDepth 100000 in
theorem i110_151 {v0 v1 v2 v3 v4 v5 v6 : Value} {st : List Value} {h : ab_Hp} {Q : ab_O → ab_Hp → Prop} (hv : ab_isA v0 = true) : wp 110 151 [v0, v1, v2, v3, v4, v5, v6] st h Q = wp 110 152 [v0, v1, v2, v3, v4, v5, v6] (v0 :: st) h Q := wp_aload_n (by decide +kernel : ab_cod 110 151 = some (.aload_n 0, 1, 0, 0, 0, 0)) hv
set_option maxRecDepth 100000 in
theorem i110_152 {v0 v1 v2 v3 v5 v6 : Value} {x : Int32} {st : List Value} {h : ab_Hp} {Q : ab_O → ab_Hp → Prop} : wp 110 152 [v0, v1, v2, v3, .int x, v5, v6] st h Q = wp 110 154 [v0, v1, v2, v3, .int x, v5, v6] (.int x :: st) h Q := wp_stp (ri := (.iload 4, 2, 0, 0, 0, 0)) (by decide +kernel) rfl rfl rfl
set_option maxRecDepth 100000 in
theorem i110_154 {v0 v1 v2 v3 v4 v5 v6 : Value} {st : List Value} {h : ab_Hp} {Q : ab_O → ab_Hp → Prop} : wp 110 154 [v0, v1, v2, v3, v4, v5, v6] st h Q = wp 110 156 [v0, v1, v2, v3, v4, v5, v6] (.int (nI 6) :: st) h Q := wp_stp (ri := (.bipush 6, 2, 0, 0, 0, 0)) (by decide +kernel) rfl rfl rfl
set_option maxRecDepth 100000 in
theorem i110_156 {v0 v1 v2 v3 v4 v5 : Value} {x : Int32} {st : List Value} {h : ab_Hp} {Q : ab_O → ab_Hp → Prop} : wp 110 156 [v0, v1, v2, v3, v4, v5, .int x] st h Q = wp 110 158 [v0, v1, v2, v3, v4, v5, .int x] (.int x :: st) h Q := wp_stp (ri := (.iload 6, 2, 0, 0, 0, 0)) (by decide +kernel) rfl rfl rfl
set_option maxRecDepth 100000 in
theorem i110_158 {v0 v1 v2 v3 v4 v5 v6 : Value} {x y : Int32} {st : List Value} {h : ab_Hp} {Q : ab_O → ab_Hp → Prop} : wp 110 158 [v0, v1, v2, v3, v4, v5, v6] (.int y :: .int x :: st) h Q = wp 110 159 [v0, v1, v2, v3, v4, v5, v6] (.int (x + y) :: st) h Q := wp_stp (ri := (.iadd, 1, 0, 0, 0, 0)) (by decide +kernel) rfl rfl rfl
set_option maxRecDepth 100000 in
theorem i110_159 {v0 v1 v2 v3 v4 v5 v6 : Value} {st : List Value} {h : ab_Hp} {Q : ab_O → ab_Hp → Prop} (hv : ab_isA v0 = true) : wp 110 159 [v0, v1, v2, v3, v4, v5, v6] st h Q = wp 110 160 [v0, v1, v2, v3, v4, v5, v6] (v0 :: st) h Q := wp_aload_n (by decide +kernel : ab_cod 110 159 = some (.aload_n 0, 1, 0, 0, 0, 0)) hv
set_option maxRecDepth 100000 in
theorem i110_160 {v0 v1 v2 v3 v5 v6 : Value} {x : Int32} {st : List Value} {h : ab_Hp} {Q : ab_O → ab_Hp → Prop} : wp 110 160 [v0, v1, v2, v3, .int x, v5, v6] st h Q = wp 110 162 [v0, v1, v2, v3, .int x, v5, v6] (.int x :: st) h Q := wp_stp (ri := (.iload 4, 2, 0, 0, 0, 0)) (by decide +kernel) rfl rfl rfl
set_option maxRecDepth 100000 in
theorem i110_162 {v0 v1 v2 v3 v4 v5 v6 : Value} {st : List Value} {h : ab_Hp} {Q : ab_O → ab_Hp → Prop} : wp 110 162 [v0, v1, v2, v3, v4, v5, v6] st h Q = wp 110 164 [v0, v1, v2, v3, v4, v5, v6] (.int (nI 6) :: st) h Q := wp_stp (ri := (.bipush 6, 2, 0, 0, 0, 0)) (by decide +kernel) rfl rfl rfl
set_option maxRecDepth 100000 in
theorem i110_164 {v0 v1 v2 v3 v4 v5 : Value} {x : Int32} {st : List Value} {h : ab_Hp} {Q : ab_O → ab_Hp → Prop} : wp 110 164 [v0, v1, v2, v3, v4, v5, .int x] st h Q = wp 110 166 [v0, v1, v2, v3, v4, v5, .int x] (.int x :: st) h Q := wp_stp (ri := (.iload 6, 2, 0, 0, 0, 0)) (by decide +kernel) rfl rfl rfl
set_option maxRecDepth 100000 in
theorem i110_166 {v0 v1 v2 v3 v4 v5 v6 : Value} {x y : Int32} {st : List Value} {h : ab_Hp} {Q : ab_O → ab_Hp → Prop} : wp 110 166 [v0, v1, v2, v3, v4, v5, v6] (.int y :: .int x :: st) h Q = wp 110 167 [v0, v1, v2, v3, v4, v5, v6] (.int (x + y) :: st) h Q := wp_stp (ri := (.iadd, 1, 0, 0, 0, 0)) (by decide +kernel) rfl rfl rfl
set_option maxRecDepth 100000 in
theorem i110_167 {v0 v1 v2 v3 v4 v5 v6 : Value} {st : List Value} {h : ab_Hp} {Q : ab_O → ab_Hp → Prop} : wp 110 167 [v0, v1, v2, v3, v4, v5, v6] st h Q = wp 110 168 [v0, v1, v2, v3, v4, v5, v6] (.int (nI 3) :: st) h Q := wp_stp (ri := (.iconst 3, 1, 0, 0, 0, 0)) (by decide +kernel) rfl rfl rfl
set_option maxRecDepth 100000 in
theorem i110_168 {v0 v1 v2 v3 v4 v5 v6 : Value} {x y : Int32} {st : List Value} {h : ab_Hp} {Q : ab_O → ab_Hp → Prop} : wp 110 168 [v0, v1, v2, v3, v4, v5, v6] (.int y :: .int x :: st) h Q = wp 110 169 [v0, v1, v2, v3, v4, v5, v6] (.int (x + y) :: st) h Q := wp_stp (ri := (.iadd, 1, 0, 0, 0, 0)) (by decide +kernel) rfl rfl rfl
set_option maxRecDepth 100000 in
theorem i110_169 {v0 v1 v2 v3 v4 v5 v6 : Value} {r : Nat} {a0 : Int32} {a1 : Int32} {st : List Value} {h : ab_Hp} {Q : ab_O → ab_Hp → Prop} (hl : st.length ≤ 4) (hk : (ab_sh h r).1 = 17) : wp 110 169 [v0, v1, v2, v3, v4, v5, v6] (.int a1 :: .int a0 :: .ref r :: st) h Q = wp 92 0 [.ref r, .int a0, .int a1] [] h (ab_K 110 169 [v0, v1, v2, v3, v4, v5, v6] st Q) := wp_callV (as := [.int a0, .int a1]) (by decide +kernel : ab_cod 110 169 = some (.invokevirtual 61, 3, 92, 3, 0, 860)) rfl rfl rfl rfl hl hk
set_option maxRecDepth 100000 in
theorem i110_172 {v0 v1 v2 v3 v4 v5 v6 : Value} {r : Nat} {a0 : Int32} {a1 : Int32} {a2 : Int32} {st : List Value} {h : ab_Hp} {Q : ab_O → ab_Hp → Prop} (hl : st.length ≤ 4) (hk : (ab_sh h r).1 = 17) : wp 110 172 [v0, v1, v2, v3, v4, v5, v6] (.int a2 :: .int a1 :: .int a0 :: .ref r :: st) h Q = wp 93 0 [.ref r, .int a0, .int a1, .int a2] [] h (ab_K 110 172 [v0, v1, v2, v3, v4, v5, v6] st Q) := wp_callV (as := [.int a0, .int a1, .int a2]) (by decide +kernel : ab_cod 110 172 = some (.invokevirtual 55, 3, 93, 4, 0, 848)) rfl rfl rfl rfl hl hk
set_option maxRecDepth 100000 in
theorem i110_175 {v0 v1 v2 v3 v4 v5 : Value} {x : Int32} {st : List Value} {h : ab_Hp} {Q : ab_O → ab_Hp → Prop} : wp 110 175 [v0, v1, v2, v3, v4, v5, .int x] st h Q = wp 110 178 [v0, v1, v2, v3, v4, ab_clr v5, .int (x + nI 1)] st h Q := wp_stp (ri := (.iinc 6 1, 3, 0, 0, 0, 0)) (by decide +kernel) rfl rfl rfl
set_option maxRecDepth 100000 in
theorem i110_178 {v0 v1 v2 v3 v4 v5 v6 : Value} {st : List Value} {h : ab_Hp} {Q : ab_O → ab_Hp → Prop} : wp 110 178 [v0, v1, v2, v3, v4, v5, v6] st h Q = wp 110 142 [v0, v1, v2, v3, v4, v5, v6] st h Q := wp_stp (ri := (.goto (-36), 3, 142, 0, 0, 0)) (by decide +kernel) rfl rfl rfl
set_option maxRecDepth 100000 in
theorem i110_181 {v0 v1 v2 v3 v4 v5 v6 : Value} {st : List Value} {h : ab_Hp} {Q : ab_O → ab_Hp → Prop} (hv : ab_isA v0 = true) : wp 110 181 [v0, v1, v2, v3, v4, v5, v6] st h Q = wp 110 182 [v0, v1, v2, v3, v4, v5, v6] (v0 :: st) h Q := wp_aload_n (by decide +kernel : ab_cod 110 181 = some (.aload_n 0, 1, 0, 0, 0, 0)) hv
set_option maxRecDepth 100000 in
theorem i110_182 {v0 v1 v2 v3 v5 v6 : Value} {x : Int32} {st : List Value} {h : ab_Hp} {Q : ab_O → ab_Hp → Prop} : wp 110 182 [v0, v1, v2, v3, .int x, v5, v6] st h Q = wp 110 184 [v0, v1, v2, v3, .int x, v5, v6] (.int x :: st) h Q := wp_stp (ri := (.iload 4, 2, 0, 0, 0, 0)) (by decide +kernel) rfl rfl rfl
set_option maxRecDepth 100000 in
theorem i110_184 {v0 v1 v2 v3 v4 v5 v6 : Value} {st : List Value} {h : ab_Hp} {Q : ab_O → ab_Hp → Prop} : wp 110 184 [v0, v1, v2, v3, v4, v5, v6] st h Q = wp 110 185 [v0, v1, v2, v3, v4, v5, v6] (.int (nI 4) :: st) h Q := wp_stp (ri := (.iconst 4, 1, 0, 0, 0, 0)) (by decide +kernel) rfl rfl rfl
set_option maxRecDepth 100000 in
theorem i110_185 {v0 v1 v2 v3 v4 v6 : Value} {x : Int32} {st : List Value} {h : ab_Hp} {Q : ab_O → ab_Hp → Prop} : wp 110 185 [v0, v1, v2, v3, v4, .int x, v6] st h Q = wp 110 187 [v0, v1, v2, v3, v4, .int x, v6] (.int x :: st) h Q := wp_stp (ri := (.iload 5, 2, 0, 0, 0, 0)) (by decide +kernel) rfl rfl rfl
set_option maxRecDepth 100000 in
theorem i110_187 {v0 v1 v2 v3 v4 v5 v6 : Value} {r : Nat} {a0 : Int32} {a1 : Int32} {a2 : Int32} {st : List Value} {h : ab_Hp} {Q : ab_O → ab_Hp → Prop} (hl : st.length ≤ 4) (hk : (ab_sh h r).1 = 17) : wp 110 187 [v0, v1, v2, v3, v4, v5, v6] (.int a2 :: .int a1 :: .int a0 :: .ref r :: st) h Q = wp 93 0 [.ref r, .int a0, .int a1, .int a2] [] h (ab_K 110 187 [v0, v1, v2, v3, v4, v5, v6] st Q) := wp_callV (as := [.int a0, .int a1, .int a2]) (by decide +kernel : ab_cod 110 187 = some (.invokevirtual 55, 3, 93, 4, 0, 848)) rfl rfl rfl rfl hl hk
set_option maxRecDepth 100000 in
theorem i110_190 {v0 v1 v2 v3 v4 v5 v6 : Value} {h : ab_Hp} {Q : ab_O → ab_Hp → Prop} : wp 110 190 [v0, v1, v2, v3, v4, v5, v6] [] h Q = Q (.inl none) h := wp_vret (by decide +kernel : ab_cod 110 190 = some (.return_, 1, 0, 0, 0, 0)) rfl
/-! 111: SeamBeatsModel.isTimeOf(I)Z -/
theorem i111_0 {v0 v1 : Value} {st : List Value} {h : ab_Hp} {Q : ab_O → ab_Hp → Prop} (hv : ab_isA v0 = true) : wp 111 0 [v0, v1] st h Q = wp 111 1 [v0, v1] (v0 :: st) h Q := wp_aload_n (by decide +kernel : ab_cod 111 0 = some (.aload_n 0, 1, 0, 0, 0, 0)) hv
theorem i111_1 {v0 : Value} {x : Int32} {st : List Value} {h : ab_Hp} {Q : ab_O → ab_Hp → Prop} : wp 111 1 [v0, .int x] st h Q = wp 111 2 [v0, .int x] (.int x :: st) h Q := wp_stp (ri := (.iload_n 1, 1, 0, 0, 0, 0)) (by decide +kernel) rfl rfl rfl
theorem i111_2 {v0 v1 : Value} {st : List Value} {h : ab_Hp} {Q : ab_O → ab_Hp → Prop} : wp 111 2 [v0, v1] st h Q = wp 111 3 [v0, v1] (.int (nI 2) :: st) h Q := wp_stp (ri := (.iconst 2, 1, 0, 0, 0, 0)) (by decide +kernel) rfl rfl rfl
theorem i111_3 {v0 v1 : Value} {r : Nat} {a0 : Int32} {a1 : Int32} {st : List Value} {h : ab_Hp} {Q : ab_O → ab_Hp → Prop} (hl : st.length ≤ 4) (hk : (ab_sh h r).1 = 17) : wp 111 3 [v0, v1] (.int a1 :: .int a0 :: .ref r :: st) h Q = wp 90 0 [.ref r, .int a0, .int a1] [] h (ab_K 111 3 [v0, v1] st Q) := wp_callV (as := [.int a0, .int a1]) (by decide +kernel : ab_cod 111 3 = some (.invokevirtual 47, 3, 90, 3, 0, 828)) rfl rfl rfl rfl hl hk
theorem i111_6 {v0 v1 : Value} {st : List Value} {h : ab_Hp} {Q : ab_O → ab_Hp → Prop} : wp 111 6 [v0, v1] st h Q = wp 111 7 [v0, v1] (.int (nI 1) :: st) h Q := wp_stp (ri := (.iconst 1, 1, 0, 0, 0, 0)) (by decide +kernel) rfl rfl rfl
theorem i111_7 {v0 v1 : Value} {x y : Int32} {st : List Value} {h : ab_Hp} {Q : ab_O → ab_Hp → Prop} : wp 111 7 [v0, v1] (.int y :: .int x :: st) h Q = if ¬ x = y then wp 111 36 [v0, v1] st h Q else wp 111 10 [v0, v1] st h Q := wp_icmpP (by decide +kernel : ab_cod 111 7 = some (.if_icmp .ne 29, 3, 36, 0, 0, 0)) rfl
theorem i111_10 {v0 v1 : Value} {st : List Value} {h : ab_Hp} {Q : ab_O → ab_Hp → Prop} (hv : ab_isA v0 = true) : wp 111 10 [v0, v1] st h Q = wp 111 11 [v0, v1] (v0 :: st) h Q := wp_aload_n (by decide +kernel : ab_cod 111 10 = some (.aload_n 0, 1, 0, 0, 0, 0)) hv
theorem i111_11 {v0 v1 : Value} {r : Nat} {st : List Value} {h : ab_Hp} {Q : ab_O → ab_Hp → Prop} (hk : (ab_sh h r).1 = 17) : wp 111 11 [v0, v1] (.ref r :: st) h Q = wp 111 14 [v0, v1] (va_rf (ab_hr h r 1) :: st) h Q := wp_gf (by decide +kernel : ab_cod 111 11 = some (.getfield 7, 3, 7, 1, 773, 1)) hk
theorem i111_14 {v0 v1 : Value} {st : List Value} {h : ab_Hp} {Q : ab_O → ab_Hp → Prop} : wp 111 14 [v0, v1] st h Q = wp 111 15 [v0, v1] (.int (nI 0) :: st) h Q := wp_stp (ri := (.iconst 0, 1, 0, 0, 0, 0)) (by decide +kernel) rfl rfl rfl
theorem i111_15 {v0 v1 : Value} {r : Nat} {x : Int32} {st : List Value} {h : ab_Hp} {Q : ab_O → ab_Hp → Prop} (hk : ((ab_sh h r).1 = 1 ∨ (ab_sh h r).1 = 6) ∧ ab_in x (ab_sh h r).2 = true) : wp 111 15 [v0, v1] (.int x :: .ref r :: st) h Q = wp 111 16 [v0, v1] (.int (ab_hi h r x.toNatClampNeg) :: st) h Q := wp_ia (by decide +kernel : ab_cod 111 15 = some (.iaload, 1, 0, 0, 0, 0)) hk
theorem i111_16 {v0 v1 : Value} {st : List Value} {h : ab_Hp} {Q : ab_O → ab_Hp → Prop} (hv : ab_isA v0 = true) : wp 111 16 [v0, v1] st h Q = wp 111 17 [v0, v1] (v0 :: st) h Q := wp_aload_n (by decide +kernel : ab_cod 111 16 = some (.aload_n 0, 1, 0, 0, 0, 0)) hv
theorem i111_17 {v0 : Value} {x : Int32} {st : List Value} {h : ab_Hp} {Q : ab_O → ab_Hp → Prop} : wp 111 17 [v0, .int x] st h Q = wp 111 18 [v0, .int x] (.int x :: st) h Q := wp_stp (ri := (.iload_n 1, 1, 0, 0, 0, 0)) (by decide +kernel) rfl rfl rfl
theorem i111_18 {v0 v1 : Value} {st : List Value} {h : ab_Hp} {Q : ab_O → ab_Hp → Prop} : wp 111 18 [v0, v1] st h Q = wp 111 19 [v0, v1] (.int (nI 0) :: st) h Q := wp_stp (ri := (.iconst 0, 1, 0, 0, 0, 0)) (by decide +kernel) rfl rfl rfl
theorem i111_19 {v0 v1 : Value} {r : Nat} {a0 : Int32} {a1 : Int32} {st : List Value} {h : ab_Hp} {Q : ab_O → ab_Hp → Prop} (hl : st.length ≤ 4) (hk : (ab_sh h r).1 = 17) : wp 111 19 [v0, v1] (.int a1 :: .int a0 :: .ref r :: st) h Q = wp 90 0 [.ref r, .int a0, .int a1] [] h (ab_K 111 19 [v0, v1] st Q) := wp_callV (as := [.int a0, .int a1]) (by decide +kernel : ab_cod 111 19 = some (.invokevirtual 47, 3, 90, 3, 0, 828)) rfl rfl rfl rfl hl hk
theorem i111_22 {v0 v1 : Value} {x y : Int32} {st : List Value} {h : ab_Hp} {Q : ab_O → ab_Hp → Prop} (hy : ¬ y = 0) : wp 111 22 [v0, v1] (.int y :: .int x :: st) h Q = wp 111 23 [v0, v1] (.int (x - x / y * y) :: st) h Q := wp_irem (by decide +kernel : ab_cod 111 22 = some (.irem, 1, 0, 0, 0, 0)) hy
theorem i111_23 {v0 v1 : Value} {st : List Value} {h : ab_Hp} {Q : ab_O → ab_Hp → Prop} (hv : ab_isA v0 = true) : wp 111 23 [v0, v1] st h Q = wp 111 24 [v0, v1] (v0 :: st) h Q := wp_aload_n (by decide +kernel : ab_cod 111 23 = some (.aload_n 0, 1, 0, 0, 0, 0)) hv
theorem i111_24 {v0 : Value} {x : Int32} {st : List Value} {h : ab_Hp} {Q : ab_O → ab_Hp → Prop} : wp 111 24 [v0, .int x] st h Q = wp 111 25 [v0, .int x] (.int x :: st) h Q := wp_stp (ri := (.iload_n 1, 1, 0, 0, 0, 0)) (by decide +kernel) rfl rfl rfl
theorem i111_25 {v0 v1 : Value} {st : List Value} {h : ab_Hp} {Q : ab_O → ab_Hp → Prop} : wp 111 25 [v0, v1] st h Q = wp 111 26 [v0, v1] (.int (nI 1) :: st) h Q := wp_stp (ri := (.iconst 1, 1, 0, 0, 0, 0)) (by decide +kernel) rfl rfl rfl
theorem i111_26 {v0 v1 : Value} {r : Nat} {a0 : Int32} {a1 : Int32} {st : List Value} {h : ab_Hp} {Q : ab_O → ab_Hp → Prop} (hl : st.length ≤ 4) (hk : (ab_sh h r).1 = 17) : wp 111 26 [v0, v1] (.int a1 :: .int a0 :: .ref r :: st) h Q = wp 90 0 [.ref r, .int a0, .int a1] [] h (ab_K 111 26 [v0, v1] st Q) := wp_callV (as := [.int a0, .int a1]) (by decide +kernel : ab_cod 111 26 = some (.invokevirtual 47, 3, 90, 3, 0, 828)) rfl rfl rfl rfl hl hk
theorem i111_29 {v0 v1 : Value} {x y : Int32} {st : List Value} {h : ab_Hp} {Q : ab_O → ab_Hp → Prop} : wp 111 29 [v0, v1] (.int y :: .int x :: st) h Q = if ¬ x = y then wp 111 36 [v0, v1] st h Q else wp 111 32 [v0, v1] st h Q := wp_icmpP (by decide +kernel : ab_cod 111 29 = some (.if_icmp .ne 7, 3, 36, 0, 0, 0)) rfl
theorem i111_32 {v0 v1 : Value} {st : List Value} {h : ab_Hp} {Q : ab_O → ab_Hp → Prop} : wp 111 32 [v0, v1] st h Q = wp 111 33 [v0, v1] (.int (nI 1) :: st) h Q := wp_stp (ri := (.iconst 1, 1, 0, 0, 0, 0)) (by decide +kernel) rfl rfl rfl
theorem i111_33 {v0 v1 : Value} {st : List Value} {h : ab_Hp} {Q : ab_O → ab_Hp → Prop} : wp 111 33 [v0, v1] st h Q = wp 111 37 [v0, v1] st h Q := wp_stp (ri := (.goto 4, 3, 37, 0, 0, 0)) (by decide +kernel) rfl rfl rfl
theorem i111_36 {v0 v1 : Value} {st : List Value} {h : ab_Hp} {Q : ab_O → ab_Hp → Prop} : wp 111 36 [v0, v1] st h Q = wp 111 37 [v0, v1] (.int (nI 0) :: st) h Q := wp_stp (ri := (.iconst 0, 1, 0, 0, 0, 0)) (by decide +kernel) rfl rfl rfl
theorem i111_37 {v0 v1 : Value} {x : Int32} {h : ab_Hp} {Q : ab_O → ab_Hp → Prop} (hx : x = 0 ∨ x = 1) : wp 111 37 [v0, v1] [.int x] h Q = Q (.inl (some (.int x))) h := wp_zret (by decide +kernel : ab_cod 111 37 = some (.ireturn, 1, 0, 0, 0, 0)) rfl hx
/-! 112: SeamBeatsModel.goTick()V -/
set_option maxRecDepth 100000 in
theorem i112_0 {v0 v1 : Value} {st : List Value} {h : ab_Hp} {Q : ab_O → ab_Hp → Prop} : wp 112 0 [v0, v1] st h Q = wp 112 1 [v0, v1] (.int (nI 0) :: st) h Q := wp_stp (ri := (.iconst 0, 1, 0, 0, 0, 0)) (by decide +kernel) rfl rfl rfl
set_option maxRecDepth 100000 in
theorem i112_1 {v0 v1 : Value} {w : Int32} {st : List Value} {h : ab_Hp} {Q : ab_O → ab_Hp → Prop} : wp 112 1 [v0, v1] (.int w :: st) h Q = wp 112 2 [ab_clr v0, .int w] st h Q := wp_stp (ri := (.istore_n 1, 1, 0, 0, 0, 0)) (by decide +kernel) rfl rfl rfl
set_option maxRecDepth 100000 in
theorem i112_2 {v0 : Value} {x : Int32} {st : List Value} {h : ab_Hp} {Q : ab_O → ab_Hp → Prop} : wp 112 2 [v0, .int x] st h Q = wp 112 3 [v0, .int x] (.int x :: st) h Q := wp_stp (ri := (.iload_n 1, 1, 0, 0, 0, 0)) (by decide +kernel) rfl rfl rfl
set_option maxRecDepth 100000 in
theorem i112_3 {v0 v1 : Value} {st : List Value} {h : ab_Hp} {Q : ab_O → ab_Hp → Prop} : wp 112 3 [v0, v1] st h Q = wp 112 5 [v0, v1] (.int (nI 6) :: st) h Q := wp_stp (ri := (.bipush 6, 2, 0, 0, 0, 0)) (by decide +kernel) rfl rfl rfl
set_option maxRecDepth 100000 in
theorem i112_5 {v0 v1 : Value} {x y : Int32} {st : List Value} {h : ab_Hp} {Q : ab_O → ab_Hp → Prop} : wp 112 5 [v0, v1] (.int y :: .int x :: st) h Q = if y ≤ x then wp 112 87 [v0, v1] st h Q else wp 112 8 [v0, v1] st h Q := wp_icmpP (by decide +kernel : ab_cod 112 5 = some (.if_icmp .ge 82, 3, 87, 0, 0, 0)) rfl
set_option maxRecDepth 100000 in
theorem i112_8 {v0 v1 : Value} {st : List Value} {h : ab_Hp} {Q : ab_O → ab_Hp → Prop} (hv : ab_isA v0 = true) : wp 112 8 [v0, v1] st h Q = wp 112 9 [v0, v1] (v0 :: st) h Q := wp_aload_n (by decide +kernel : ab_cod 112 8 = some (.aload_n 0, 1, 0, 0, 0, 0)) hv
set_option maxRecDepth 100000 in
theorem i112_9 {v0 : Value} {x : Int32} {st : List Value} {h : ab_Hp} {Q : ab_O → ab_Hp → Prop} : wp 112 9 [v0, .int x] st h Q = wp 112 10 [v0, .int x] (.int x :: st) h Q := wp_stp (ri := (.iload_n 1, 1, 0, 0, 0, 0)) (by decide +kernel) rfl rfl rfl
set_option maxRecDepth 100000 in
theorem i112_10 {v0 v1 : Value} {r : Nat} {a0 : Int32} {st : List Value} {h : ab_Hp} {Q : ab_O → ab_Hp → Prop} (hl : st.length ≤ 4) (hk : (ab_sh h r).1 = 17) : wp 112 10 [v0, v1] (.int a0 :: .ref r :: st) h Q = wp 111 0 [.ref r, .int a0] [] h (ab_K 112 10 [v0, v1] st Q) := wp_callV (as := [.int a0]) (by decide +kernel : ab_cod 112 10 = some (.invokevirtual 75, 3, 111, 2, 0, 880)) rfl rfl rfl rfl hl hk
set_option maxRecDepth 100000 in
theorem i112_13 {v0 v1 : Value} {x : Int32} {st : List Value} {h : ab_Hp} {Q : ab_O → ab_Hp → Prop} : wp 112 13 [v0, v1] (.int x :: st) h Q = if x = 0 then wp 112 58 [v0, v1] st h Q else wp 112 16 [v0, v1] st h Q := wp_ifcP (by decide +kernel : ab_cod 112 13 = some (.ifCond .eq 45, 3, 58, 0, 0, 0)) rfl
set_option maxRecDepth 100000 in
theorem i112_16 {v0 v1 : Value} {st : List Value} {h : ab_Hp} {Q : ab_O → ab_Hp → Prop} (hv : ab_isA v0 = true) : wp 112 16 [v0, v1] st h Q = wp 112 17 [v0, v1] (v0 :: st) h Q := wp_aload_n (by decide +kernel : ab_cod 112 16 = some (.aload_n 0, 1, 0, 0, 0, 0)) hv
set_option maxRecDepth 100000 in
theorem i112_17 {v0 : Value} {x : Int32} {st : List Value} {h : ab_Hp} {Q : ab_O → ab_Hp → Prop} : wp 112 17 [v0, .int x] st h Q = wp 112 18 [v0, .int x] (.int x :: st) h Q := wp_stp (ri := (.iload_n 1, 1, 0, 0, 0, 0)) (by decide +kernel) rfl rfl rfl
set_option maxRecDepth 100000 in
theorem i112_18 {v0 v1 : Value} {st : List Value} {h : ab_Hp} {Q : ab_O → ab_Hp → Prop} : wp 112 18 [v0, v1] st h Q = wp 112 19 [v0, v1] (.int (nI 5) :: st) h Q := wp_stp (ri := (.iconst 5, 1, 0, 0, 0, 0)) (by decide +kernel) rfl rfl rfl
set_option maxRecDepth 100000 in
theorem i112_19 {v0 v1 : Value} {r : Nat} {a0 : Int32} {a1 : Int32} {st : List Value} {h : ab_Hp} {Q : ab_O → ab_Hp → Prop} (hl : st.length ≤ 4) (hk : (ab_sh h r).1 = 17) : wp 112 19 [v0, v1] (.int a1 :: .int a0 :: .ref r :: st) h Q = wp 90 0 [.ref r, .int a0, .int a1] [] h (ab_K 112 19 [v0, v1] st Q) := wp_callV (as := [.int a0, .int a1]) (by decide +kernel : ab_cod 112 19 = some (.invokevirtual 47, 3, 90, 3, 0, 828)) rfl rfl rfl rfl hl hk
set_option maxRecDepth 100000 in
theorem i112_22 {v0 v1 : Value} {x : Int32} {st : List Value} {h : ab_Hp} {Q : ab_O → ab_Hp → Prop} : wp 112 22 [v0, v1] (.int x :: st) h Q = if x ≤ 0 then wp 112 58 [v0, v1] st h Q else wp 112 25 [v0, v1] st h Q := wp_ifcP (by decide +kernel : ab_cod 112 22 = some (.ifCond .le 36, 3, 58, 0, 0, 0)) rfl
set_option maxRecDepth 100000 in
theorem i112_25 {v0 v1 : Value} {st : List Value} {h : ab_Hp} {Q : ab_O → ab_Hp → Prop} (hv : ab_isA v0 = true) : wp 112 25 [v0, v1] st h Q = wp 112 26 [v0, v1] (v0 :: st) h Q := wp_aload_n (by decide +kernel : ab_cod 112 25 = some (.aload_n 0, 1, 0, 0, 0, 0)) hv
set_option maxRecDepth 100000 in
theorem i112_26 {v0 : Value} {x : Int32} {st : List Value} {h : ab_Hp} {Q : ab_O → ab_Hp → Prop} : wp 112 26 [v0, .int x] st h Q = wp 112 27 [v0, .int x] (.int x :: st) h Q := wp_stp (ri := (.iload_n 1, 1, 0, 0, 0, 0)) (by decide +kernel) rfl rfl rfl
set_option maxRecDepth 100000 in
theorem i112_27 {v0 v1 : Value} {st : List Value} {h : ab_Hp} {Q : ab_O → ab_Hp → Prop} : wp 112 27 [v0, v1] st h Q = wp 112 28 [v0, v1] (.int (nI 5) :: st) h Q := wp_stp (ri := (.iconst 5, 1, 0, 0, 0, 0)) (by decide +kernel) rfl rfl rfl
set_option maxRecDepth 100000 in
theorem i112_28 {v0 v1 : Value} {st : List Value} {h : ab_Hp} {Q : ab_O → ab_Hp → Prop} (hv : ab_isA v0 = true) : wp 112 28 [v0, v1] st h Q = wp 112 29 [v0, v1] (v0 :: st) h Q := wp_aload_n (by decide +kernel : ab_cod 112 28 = some (.aload_n 0, 1, 0, 0, 0, 0)) hv
set_option maxRecDepth 100000 in
theorem i112_29 {v0 : Value} {x : Int32} {st : List Value} {h : ab_Hp} {Q : ab_O → ab_Hp → Prop} : wp 112 29 [v0, .int x] st h Q = wp 112 30 [v0, .int x] (.int x :: st) h Q := wp_stp (ri := (.iload_n 1, 1, 0, 0, 0, 0)) (by decide +kernel) rfl rfl rfl
set_option maxRecDepth 100000 in
theorem i112_30 {v0 v1 : Value} {st : List Value} {h : ab_Hp} {Q : ab_O → ab_Hp → Prop} : wp 112 30 [v0, v1] st h Q = wp 112 31 [v0, v1] (.int (nI 5) :: st) h Q := wp_stp (ri := (.iconst 5, 1, 0, 0, 0, 0)) (by decide +kernel) rfl rfl rfl
set_option maxRecDepth 100000 in
theorem i112_31 {v0 v1 : Value} {r : Nat} {a0 : Int32} {a1 : Int32} {st : List Value} {h : ab_Hp} {Q : ab_O → ab_Hp → Prop} (hl : st.length ≤ 4) (hk : (ab_sh h r).1 = 17) : wp 112 31 [v0, v1] (.int a1 :: .int a0 :: .ref r :: st) h Q = wp 90 0 [.ref r, .int a0, .int a1] [] h (ab_K 112 31 [v0, v1] st Q) := wp_callV (as := [.int a0, .int a1]) (by decide +kernel : ab_cod 112 31 = some (.invokevirtual 47, 3, 90, 3, 0, 828)) rfl rfl rfl rfl hl hk
set_option maxRecDepth 100000 in
theorem i112_34 {v0 v1 : Value} {st : List Value} {h : ab_Hp} {Q : ab_O → ab_Hp → Prop} : wp 112 34 [v0, v1] st h Q = wp 112 35 [v0, v1] (.int (nI 1) :: st) h Q := wp_stp (ri := (.iconst 1, 1, 0, 0, 0, 0)) (by decide +kernel) rfl rfl rfl
set_option maxRecDepth 100000 in
theorem i112_35 {v0 v1 : Value} {x y : Int32} {st : List Value} {h : ab_Hp} {Q : ab_O → ab_Hp → Prop} : wp 112 35 [v0, v1] (.int y :: .int x :: st) h Q = wp 112 36 [v0, v1] (.int (x - y) :: st) h Q := wp_stp (ri := (.isub, 1, 0, 0, 0, 0)) (by decide +kernel) rfl rfl rfl
set_option maxRecDepth 100000 in
theorem i112_36 {v0 v1 : Value} {r : Nat} {a0 : Int32} {a1 : Int32} {a2 : Int32} {st : List Value} {h : ab_Hp} {Q : ab_O → ab_Hp → Prop} (hl : st.length ≤ 4) (hk : (ab_sh h r).1 = 17) : wp 112 36 [v0, v1] (.int a2 :: .int a1 :: .int a0 :: .ref r :: st) h Q = wp 91 0 [.ref r, .int a0, .int a1, .int a2] [] h (ab_K 112 36 [v0, v1] st Q) := wp_callV (as := [.int a0, .int a1, .int a2]) (by decide +kernel : ab_cod 112 36 = some (.invokevirtual 25, 3, 91, 4, 0, 768)) rfl rfl rfl rfl hl hk
set_option maxRecDepth 100000 in
theorem i112_39 {v0 v1 : Value} {st : List Value} {h : ab_Hp} {Q : ab_O → ab_Hp → Prop} (hv : ab_isA v0 = true) : wp 112 39 [v0, v1] st h Q = wp 112 40 [v0, v1] (v0 :: st) h Q := wp_aload_n (by decide +kernel : ab_cod 112 39 = some (.aload_n 0, 1, 0, 0, 0, 0)) hv
set_option maxRecDepth 100000 in
theorem i112_40 {v0 : Value} {x : Int32} {st : List Value} {h : ab_Hp} {Q : ab_O → ab_Hp → Prop} : wp 112 40 [v0, .int x] st h Q = wp 112 41 [v0, .int x] (.int x :: st) h Q := wp_stp (ri := (.iload_n 1, 1, 0, 0, 0, 0)) (by decide +kernel) rfl rfl rfl
set_option maxRecDepth 100000 in
theorem i112_41 {v0 v1 : Value} {st : List Value} {h : ab_Hp} {Q : ab_O → ab_Hp → Prop} : wp 112 41 [v0, v1] st h Q = wp 112 43 [v0, v1] (.int (nI 6) :: st) h Q := wp_stp (ri := (.bipush 6, 2, 0, 0, 0, 0)) (by decide +kernel) rfl rfl rfl
set_option maxRecDepth 100000 in
theorem i112_43 {v0 v1 : Value} {st : List Value} {h : ab_Hp} {Q : ab_O → ab_Hp → Prop} (hv : ab_isA v0 = true) : wp 112 43 [v0, v1] st h Q = wp 112 44 [v0, v1] (v0 :: st) h Q := wp_aload_n (by decide +kernel : ab_cod 112 43 = some (.aload_n 0, 1, 0, 0, 0, 0)) hv
set_option maxRecDepth 100000 in
theorem i112_44 {v0 : Value} {x : Int32} {st : List Value} {h : ab_Hp} {Q : ab_O → ab_Hp → Prop} : wp 112 44 [v0, .int x] st h Q = wp 112 45 [v0, .int x] (.int x :: st) h Q := wp_stp (ri := (.iload_n 1, 1, 0, 0, 0, 0)) (by decide +kernel) rfl rfl rfl
set_option maxRecDepth 100000 in
theorem i112_45 {v0 v1 : Value} {st : List Value} {h : ab_Hp} {Q : ab_O → ab_Hp → Prop} : wp 112 45 [v0, v1] st h Q = wp 112 47 [v0, v1] (.int (nI 6) :: st) h Q := wp_stp (ri := (.bipush 6, 2, 0, 0, 0, 0)) (by decide +kernel) rfl rfl rfl
set_option maxRecDepth 100000 in
theorem i112_47 {v0 v1 : Value} {r : Nat} {a0 : Int32} {a1 : Int32} {st : List Value} {h : ab_Hp} {Q : ab_O → ab_Hp → Prop} (hl : st.length ≤ 4) (hk : (ab_sh h r).1 = 17) : wp 112 47 [v0, v1] (.int a1 :: .int a0 :: .ref r :: st) h Q = wp 90 0 [.ref r, .int a0, .int a1] [] h (ab_K 112 47 [v0, v1] st Q) := wp_callV (as := [.int a0, .int a1]) (by decide +kernel : ab_cod 112 47 = some (.invokevirtual 47, 3, 90, 3, 0, 828)) rfl rfl rfl rfl hl hk
set_option maxRecDepth 100000 in
theorem i112_50 {v0 v1 : Value} {st : List Value} {h : ab_Hp} {Q : ab_O → ab_Hp → Prop} : wp 112 50 [v0, v1] st h Q = wp 112 51 [v0, v1] (.int (nI 1) :: st) h Q := wp_stp (ri := (.iconst 1, 1, 0, 0, 0, 0)) (by decide +kernel) rfl rfl rfl
set_option maxRecDepth 100000 in
theorem i112_51 {v0 v1 : Value} {x y : Int32} {st : List Value} {h : ab_Hp} {Q : ab_O → ab_Hp → Prop} : wp 112 51 [v0, v1] (.int y :: .int x :: st) h Q = wp 112 52 [v0, v1] (.int (x + y) :: st) h Q := wp_stp (ri := (.iadd, 1, 0, 0, 0, 0)) (by decide +kernel) rfl rfl rfl
set_option maxRecDepth 100000 in
theorem i112_52 {v0 v1 : Value} {r : Nat} {a0 : Int32} {a1 : Int32} {a2 : Int32} {st : List Value} {h : ab_Hp} {Q : ab_O → ab_Hp → Prop} (hl : st.length ≤ 4) (hk : (ab_sh h r).1 = 17) : wp 112 52 [v0, v1] (.int a2 :: .int a1 :: .int a0 :: .ref r :: st) h Q = wp 91 0 [.ref r, .int a0, .int a1, .int a2] [] h (ab_K 112 52 [v0, v1] st Q) := wp_callV (as := [.int a0, .int a1, .int a2]) (by decide +kernel : ab_cod 112 52 = some (.invokevirtual 25, 3, 91, 4, 0, 768)) rfl rfl rfl rfl hl hk
set_option maxRecDepth 100000 in
theorem i112_55 {v0 v1 : Value} {st : List Value} {h : ab_Hp} {Q : ab_O → ab_Hp → Prop} : wp 112 55 [v0, v1] st h Q = wp 112 81 [v0, v1] st h Q := wp_stp (ri := (.goto 26, 3, 81, 0, 0, 0)) (by decide +kernel) rfl rfl rfl
set_option maxRecDepth 100000 in
theorem i112_58 {v0 v1 : Value} {st : List Value} {h : ab_Hp} {Q : ab_O → ab_Hp → Prop} (hv : ab_isA v0 = true) : wp 112 58 [v0, v1] st h Q = wp 112 59 [v0, v1] (v0 :: st) h Q := wp_aload_n (by decide +kernel : ab_cod 112 58 = some (.aload_n 0, 1, 0, 0, 0, 0)) hv
set_option maxRecDepth 100000 in
theorem i112_59 {v0 : Value} {x : Int32} {st : List Value} {h : ab_Hp} {Q : ab_O → ab_Hp → Prop} : wp 112 59 [v0, .int x] st h Q = wp 112 60 [v0, .int x] (.int x :: st) h Q := wp_stp (ri := (.iload_n 1, 1, 0, 0, 0, 0)) (by decide +kernel) rfl rfl rfl
set_option maxRecDepth 100000 in
theorem i112_60 {v0 v1 : Value} {r : Nat} {a0 : Int32} {st : List Value} {h : ab_Hp} {Q : ab_O → ab_Hp → Prop} (hl : st.length ≤ 4) (hk : (ab_sh h r).1 = 17) : wp 112 60 [v0, v1] (.int a0 :: .ref r :: st) h Q = wp 111 0 [.ref r, .int a0] [] h (ab_K 112 60 [v0, v1] st Q) := wp_callV (as := [.int a0]) (by decide +kernel : ab_cod 112 60 = some (.invokevirtual 75, 3, 111, 2, 0, 880)) rfl rfl rfl rfl hl hk
set_option maxRecDepth 100000 in
theorem i112_63 {v0 v1 : Value} {x : Int32} {st : List Value} {h : ab_Hp} {Q : ab_O → ab_Hp → Prop} : wp 112 63 [v0, v1] (.int x :: st) h Q = if x = 0 then wp 112 81 [v0, v1] st h Q else wp 112 66 [v0, v1] st h Q := wp_ifcP (by decide +kernel : ab_cod 112 63 = some (.ifCond .eq 18, 3, 81, 0, 0, 0)) rfl
set_option maxRecDepth 100000 in
theorem i112_66 {v0 v1 : Value} {st : List Value} {h : ab_Hp} {Q : ab_O → ab_Hp → Prop} (hv : ab_isA v0 = true) : wp 112 66 [v0, v1] st h Q = wp 112 67 [v0, v1] (v0 :: st) h Q := wp_aload_n (by decide +kernel : ab_cod 112 66 = some (.aload_n 0, 1, 0, 0, 0, 0)) hv
set_option maxRecDepth 100000 in
theorem i112_67 {v0 : Value} {x : Int32} {st : List Value} {h : ab_Hp} {Q : ab_O → ab_Hp → Prop} : wp 112 67 [v0, .int x] st h Q = wp 112 68 [v0, .int x] (.int x :: st) h Q := wp_stp (ri := (.iload_n 1, 1, 0, 0, 0, 0)) (by decide +kernel) rfl rfl rfl
set_option maxRecDepth 100000 in
theorem i112_68 {v0 v1 : Value} {r : Nat} {a0 : Int32} {st : List Value} {h : ab_Hp} {Q : ab_O → ab_Hp → Prop} (hl : st.length ≤ 4) (hk : (ab_sh h r).1 = 17) : wp 112 68 [v0, v1] (.int a0 :: .ref r :: st) h Q = wp 107 0 [.ref r, .int a0, ab_nov, ab_nov, ab_nov, ab_nov] [] h (ab_K 112 68 [v0, v1] st Q) := wp_callV (as := [.int a0]) (by decide +kernel : ab_cod 112 68 = some (.invokevirtual 78, 3, 107, 2, 0, 884)) rfl rfl rfl rfl hl hk
set_option maxRecDepth 100000 in
theorem i112_71 {v0 v1 : Value} {st : List Value} {h : ab_Hp} {Q : ab_O → ab_Hp → Prop} (hv : ab_isA v0 = true) : wp 112 71 [v0, v1] st h Q = wp 112 72 [v0, v1] (v0 :: st) h Q := wp_aload_n (by decide +kernel : ab_cod 112 71 = some (.aload_n 0, 1, 0, 0, 0, 0)) hv
set_option maxRecDepth 100000 in
theorem i112_72 {v0 : Value} {x : Int32} {st : List Value} {h : ab_Hp} {Q : ab_O → ab_Hp → Prop} : wp 112 72 [v0, .int x] st h Q = wp 112 73 [v0, .int x] (.int x :: st) h Q := wp_stp (ri := (.iload_n 1, 1, 0, 0, 0, 0)) (by decide +kernel) rfl rfl rfl
set_option maxRecDepth 100000 in
theorem i112_73 {v0 v1 : Value} {r : Nat} {a0 : Int32} {st : List Value} {h : ab_Hp} {Q : ab_O → ab_Hp → Prop} (hl : st.length ≤ 4) (hk : (ab_sh h r).1 = 17) : wp 112 73 [v0, v1] (.int a0 :: .ref r :: st) h Q = wp 108 0 [.ref r, .int a0, ab_nov, ab_nov, ab_nov] [] h (ab_K 112 73 [v0, v1] st Q) := wp_callV (as := [.int a0]) (by decide +kernel : ab_cod 112 73 = some (.invokevirtual 81, 3, 108, 2, 0, 892)) rfl rfl rfl rfl hl hk
set_option maxRecDepth 100000 in
theorem i112_76 {v0 v1 : Value} {st : List Value} {h : ab_Hp} {Q : ab_O → ab_Hp → Prop} (hv : ab_isA v0 = true) : wp 112 76 [v0, v1] st h Q = wp 112 77 [v0, v1] (v0 :: st) h Q := wp_aload_n (by decide +kernel : ab_cod 112 76 = some (.aload_n 0, 1, 0, 0, 0, 0)) hv
set_option maxRecDepth 100000 in
theorem i112_77 {v0 : Value} {x : Int32} {st : List Value} {h : ab_Hp} {Q : ab_O → ab_Hp → Prop} : wp 112 77 [v0, .int x] st h Q = wp 112 78 [v0, .int x] (.int x :: st) h Q := wp_stp (ri := (.iload_n 1, 1, 0, 0, 0, 0)) (by decide +kernel) rfl rfl rfl
set_option maxRecDepth 100000 in
theorem i112_78 {v0 v1 : Value} {r : Nat} {a0 : Int32} {st : List Value} {h : ab_Hp} {Q : ab_O → ab_Hp → Prop} (hl : st.length ≤ 4) (hk : (ab_sh h r).1 = 17) : wp 112 78 [v0, v1] (.int a0 :: .ref r :: st) h Q = wp 110 0 [.ref r, .int a0, ab_nov, ab_nov, ab_nov, ab_nov, ab_nov] [] h (ab_K 112 78 [v0, v1] st Q) := wp_callV (as := [.int a0]) (by decide +kernel : ab_cod 112 78 = some (.invokevirtual 84, 3, 110, 2, 0, 896)) rfl rfl rfl rfl hl hk
set_option maxRecDepth 100000 in
theorem i112_81 {v0 : Value} {x : Int32} {st : List Value} {h : ab_Hp} {Q : ab_O → ab_Hp → Prop} : wp 112 81 [v0, .int x] st h Q = wp 112 84 [ab_clr v0, .int (x + nI 1)] st h Q := wp_stp (ri := (.iinc 1 1, 3, 0, 0, 0, 0)) (by decide +kernel) rfl rfl rfl
set_option maxRecDepth 100000 in
theorem i112_84 {v0 v1 : Value} {st : List Value} {h : ab_Hp} {Q : ab_O → ab_Hp → Prop} : wp 112 84 [v0, v1] st h Q = wp 112 2 [v0, v1] st h Q := wp_stp (ri := (.goto (-82), 3, 2, 0, 0, 0)) (by decide +kernel) rfl rfl rfl
set_option maxRecDepth 100000 in
theorem i112_87 {v0 v1 : Value} {st : List Value} {h : ab_Hp} {Q : ab_O → ab_Hp → Prop} (hv : ab_isA v0 = true) : wp 112 87 [v0, v1] st h Q = wp 112 88 [v0, v1] (v0 :: st) h Q := wp_aload_n (by decide +kernel : ab_cod 112 87 = some (.aload_n 0, 1, 0, 0, 0, 0)) hv
set_option maxRecDepth 100000 in
theorem i112_88 {v0 v1 : Value} {r : Nat} {st : List Value} {h : ab_Hp} {Q : ab_O → ab_Hp → Prop} (hk : (ab_sh h r).1 = 17) : wp 112 88 [v0, v1] (.ref r :: st) h Q = wp 112 91 [v0, v1] (va_rf (ab_hr h r 1) :: st) h Q := wp_gf (by decide +kernel : ab_cod 112 88 = some (.getfield 7, 3, 7, 1, 773, 1)) hk
set_option maxRecDepth 100000 in
theorem i112_91 {v0 v1 : Value} {st : List Value} {h : ab_Hp} {Q : ab_O → ab_Hp → Prop} : wp 112 91 [v0, v1] st h Q = wp 112 92 [v0, v1] (.int (nI 0) :: st) h Q := wp_stp (ri := (.iconst 0, 1, 0, 0, 0, 0)) (by decide +kernel) rfl rfl rfl
set_option maxRecDepth 100000 in
theorem i112_92 {v0 v1 : Value} {x : Int32} {r : Nat} {st : List Value} {h : ab_Hp} {Q : ab_O → ab_Hp → Prop} : wp 112 92 [v0, v1] (.int x :: .ref r :: st) h Q = wp 112 93 [v0, v1] (.int x :: .ref r :: .int x :: .ref r :: st) h Q := wp_stp (ri := (.dup2, 1, 0, 0, 0, 0)) (by decide +kernel) rfl rfl rfl
set_option maxRecDepth 100000 in
theorem i112_93 {v0 v1 : Value} {r : Nat} {x : Int32} {st : List Value} {h : ab_Hp} {Q : ab_O → ab_Hp → Prop} (hk : ((ab_sh h r).1 = 1 ∨ (ab_sh h r).1 = 6) ∧ ab_in x (ab_sh h r).2 = true) : wp 112 93 [v0, v1] (.int x :: .ref r :: st) h Q = wp 112 94 [v0, v1] (.int (ab_hi h r x.toNatClampNeg) :: st) h Q := wp_ia (by decide +kernel : ab_cod 112 93 = some (.iaload, 1, 0, 0, 0, 0)) hk
set_option maxRecDepth 100000 in
theorem i112_94 {v0 v1 : Value} {st : List Value} {h : ab_Hp} {Q : ab_O → ab_Hp → Prop} : wp 112 94 [v0, v1] st h Q = wp 112 95 [v0, v1] (.int (nI 1) :: st) h Q := wp_stp (ri := (.iconst 1, 1, 0, 0, 0, 0)) (by decide +kernel) rfl rfl rfl
set_option maxRecDepth 100000 in
theorem i112_95 {v0 v1 : Value} {x y : Int32} {st : List Value} {h : ab_Hp} {Q : ab_O → ab_Hp → Prop} : wp 112 95 [v0, v1] (.int y :: .int x :: st) h Q = wp 112 96 [v0, v1] (.int (x + y) :: st) h Q := wp_stp (ri := (.iadd, 1, 0, 0, 0, 0)) (by decide +kernel) rfl rfl rfl
set_option maxRecDepth 100000 in
theorem i112_96 {v0 v1 : Value} {r : Nat} {x y : Int32} {st : List Value} {h : ab_Hp} {Q : ab_O → ab_Hp → Prop} (hk : (ab_sh h r).1 = 1 ∧ ab_in x (ab_sh h r).2 = true) : wp 112 96 [v0, v1] (.int y :: .int x :: .ref r :: st) h Q = wp 112 97 [v0, v1] st (ab_setI h (ab_u (ab_hi h) r x.toNatClampNeg y)) Q := wp_ias (by decide +kernel : ab_cod 112 96 = some (.iastore, 1, 0, 0, 0, 0)) hk
set_option maxRecDepth 100000 in
theorem i112_97 {v0 v1 : Value} {h : ab_Hp} {Q : ab_O → ab_Hp → Prop} : wp 112 97 [v0, v1] [] h Q = Q (.inl none) h := wp_vret (by decide +kernel : ab_cod 112 97 = some (.return_, 1, 0, 0, 0, 0)) rfl
/-! 113: SeamBeatsModel.run(I)I -/
set_option maxRecDepth 100000 in
theorem i113_0 {v0 v1 v2 v3 : Value} {st : List Value} {h : ab_Hp} {Q : ab_O → ab_Hp → Prop} (hv : ab_isA v0 = true) : wp 113 0 [v0, v1, v2, v3] st h Q = wp 113 1 [v0, v1, v2, v3] (v0 :: st) h Q := wp_aload_n (by decide +kernel : ab_cod 113 0 = some (.aload_n 0, 1, 0, 0, 0, 0)) hv
set_option maxRecDepth 100000 in
theorem i113_1 {v0 v2 v3 : Value} {x : Int32} {st : List Value} {h : ab_Hp} {Q : ab_O → ab_Hp → Prop} : wp 113 1 [v0, .int x, v2, v3] st h Q = wp 113 2 [v0, .int x, v2, v3] (.int x :: st) h Q := wp_stp (ri := (.iload_n 1, 1, 0, 0, 0, 0)) (by decide +kernel) rfl rfl rfl
set_option maxRecDepth 100000 in
theorem i113_2 {v0 v1 v2 v3 : Value} {st : List Value} {h : ab_Hp} {Q : ab_O → ab_Hp → Prop} : wp 113 2 [v0, v1, v2, v3] st h Q = wp 113 3 [v0, v1, v2, v3] (.int (nI 1) :: st) h Q := wp_stp (ri := (.iconst 1, 1, 0, 0, 0, 0)) (by decide +kernel) rfl rfl rfl
set_option maxRecDepth 100000 in
theorem i113_3 {v0 v1 v2 v3 : Value} {st : List Value} {h : ab_Hp} {Q : ab_O → ab_Hp → Prop} : wp 113 3 [v0, v1, v2, v3] st h Q = wp 113 5 [v0, v1, v2, v3] (.int (nI 99) :: st) h Q := wp_stp (ri := (.bipush 99, 2, 0, 0, 0, 0)) (by decide +kernel) rfl rfl rfl
set_option maxRecDepth 100000 in
theorem i113_5 {v0 v1 v2 v3 : Value} {a0 : Int32} {a1 : Int32} {a2 : Int32} {st : List Value} {h : ab_Hp} {Q : ab_O → ab_Hp → Prop} (hl : st.length ≤ 4) : wp 113 5 [v0, v1, v2, v3] (.int a2 :: .int a1 :: .int a0 :: st) h Q = wp 87 0 [.int a0, .int a1, .int a2] [] h (ab_K 113 5 [v0, v1, v2, v3] st Q) := wp_callS (as := [.int a0, .int a1, .int a2]) (by decide +kernel : ab_cod 113 5 = some (.invokestatic 33, 3, 87, 3, 1, 821)) rfl rfl rfl rfl hl
set_option maxRecDepth 100000 in
theorem i113_8 {v0 v1 v2 v3 : Value} {x : Int32} {st : List Value} {h : ab_Hp} {Q : ab_O → ab_Hp → Prop} : wp 113 8 [v0, v1, v2, v3] (.int x :: st) h Q = if ¬ x = 0 then wp 113 15 [v0, v1, v2, v3] st h Q else wp 113 11 [v0, v1, v2, v3] st h Q := wp_ifcP (by decide +kernel : ab_cod 113 8 = some (.ifCond .ne 7, 3, 15, 0, 0, 0)) rfl
set_option maxRecDepth 100000 in
theorem i113_11 {v0 v1 v2 v3 : Value} {st : List Value} {h : ab_Hp} {Q : ab_O → ab_Hp → Prop} : wp 113 11 [v0, v1, v2, v3] st h Q = wp 113 12 [v0, v1, v2, v3] (.int (nI 1) :: st) h Q := wp_stp (ri := (.iconst 1, 1, 0, 0, 0, 0)) (by decide +kernel) rfl rfl rfl
set_option maxRecDepth 100000 in
theorem i113_12 {v0 v1 v2 v3 : Value} {st : List Value} {h : ab_Hp} {Q : ab_O → ab_Hp → Prop} : wp 113 12 [v0, v1, v2, v3] st h Q = wp 113 34 [v0, v1, v2, v3] st h Q := wp_stp (ri := (.goto 22, 3, 34, 0, 0, 0)) (by decide +kernel) rfl rfl rfl
set_option maxRecDepth 100000 in
theorem i113_15 {v0 v1 v2 v3 : Value} {st : List Value} {h : ab_Hp} {Q : ab_O → ab_Hp → Prop} (hv : ab_isA v0 = true) : wp 113 15 [v0, v1, v2, v3] st h Q = wp 113 16 [v0, v1, v2, v3] (v0 :: st) h Q := wp_aload_n (by decide +kernel : ab_cod 113 15 = some (.aload_n 0, 1, 0, 0, 0, 0)) hv
set_option maxRecDepth 100000 in
theorem i113_16 {v0 v1 v2 v3 : Value} {r : Nat} {st : List Value} {h : ab_Hp} {Q : ab_O → ab_Hp → Prop} (hk : (ab_sh h r).1 = 17) : wp 113 16 [v0, v1, v2, v3] (.ref r :: st) h Q = wp 113 19 [v0, v1, v2, v3] (va_rf (ab_hr h r 1) :: st) h Q := wp_gf (by decide +kernel : ab_cod 113 16 = some (.getfield 7, 3, 7, 1, 773, 1)) hk
set_option maxRecDepth 100000 in
theorem i113_19 {v0 v1 v2 v3 : Value} {st : List Value} {h : ab_Hp} {Q : ab_O → ab_Hp → Prop} : wp 113 19 [v0, v1, v2, v3] st h Q = wp 113 20 [v0, v1, v2, v3] (.int (nI 0) :: st) h Q := wp_stp (ri := (.iconst 0, 1, 0, 0, 0, 0)) (by decide +kernel) rfl rfl rfl
set_option maxRecDepth 100000 in
theorem i113_20 {v0 v1 v2 v3 : Value} {r : Nat} {x : Int32} {st : List Value} {h : ab_Hp} {Q : ab_O → ab_Hp → Prop} (hk : ((ab_sh h r).1 = 1 ∨ (ab_sh h r).1 = 6) ∧ ab_in x (ab_sh h r).2 = true) : wp 113 20 [v0, v1, v2, v3] (.int x :: .ref r :: st) h Q = wp 113 21 [v0, v1, v2, v3] (.int (ab_hi h r x.toNatClampNeg) :: st) h Q := wp_ia (by decide +kernel : ab_cod 113 20 = some (.iaload, 1, 0, 0, 0, 0)) hk
set_option maxRecDepth 100000 in
theorem i113_21 {v0 v2 v3 : Value} {x : Int32} {st : List Value} {h : ab_Hp} {Q : ab_O → ab_Hp → Prop} : wp 113 21 [v0, .int x, v2, v3] st h Q = wp 113 22 [v0, .int x, v2, v3] (.int x :: st) h Q := wp_stp (ri := (.iload_n 1, 1, 0, 0, 0, 0)) (by decide +kernel) rfl rfl rfl
set_option maxRecDepth 100000 in
theorem i113_22 {v0 v1 v2 v3 : Value} {x y : Int32} {st : List Value} {h : ab_Hp} {Q : ab_O → ab_Hp → Prop} : wp 113 22 [v0, v1, v2, v3] (.int y :: .int x :: st) h Q = wp 113 23 [v0, v1, v2, v3] (.int (x + y) :: st) h Q := wp_stp (ri := (.iadd, 1, 0, 0, 0, 0)) (by decide +kernel) rfl rfl rfl
set_option maxRecDepth 100000 in
theorem i113_23 {v0 v1 v2 v3 : Value} {st : List Value} {h : ab_Hp} {Q : ab_O → ab_Hp → Prop} : wp 113 23 [v0, v1, v2, v3] st h Q = wp 113 26 [v0, v1, v2, v3] (.int (nI 9999) :: st) h Q := wp_stp (ri := (.sipush 9999, 3, 0, 0, 0, 0)) (by decide +kernel) rfl rfl rfl
set_option maxRecDepth 100000 in
theorem i113_26 {v0 v1 v2 v3 : Value} {x y : Int32} {st : List Value} {h : ab_Hp} {Q : ab_O → ab_Hp → Prop} : wp 113 26 [v0, v1, v2, v3] (.int y :: .int x :: st) h Q = if x ≤ y then wp 113 33 [v0, v1, v2, v3] st h Q else wp 113 29 [v0, v1, v2, v3] st h Q := wp_icmpP (by decide +kernel : ab_cod 113 26 = some (.if_icmp .le 7, 3, 33, 0, 0, 0)) rfl
set_option maxRecDepth 100000 in
theorem i113_29 {v0 v1 v2 v3 : Value} {st : List Value} {h : ab_Hp} {Q : ab_O → ab_Hp → Prop} : wp 113 29 [v0, v1, v2, v3] st h Q = wp 113 30 [v0, v1, v2, v3] (.int (nI 2) :: st) h Q := wp_stp (ri := (.iconst 2, 1, 0, 0, 0, 0)) (by decide +kernel) rfl rfl rfl
set_option maxRecDepth 100000 in
theorem i113_30 {v0 v1 v2 v3 : Value} {st : List Value} {h : ab_Hp} {Q : ab_O → ab_Hp → Prop} : wp 113 30 [v0, v1, v2, v3] st h Q = wp 113 34 [v0, v1, v2, v3] st h Q := wp_stp (ri := (.goto 4, 3, 34, 0, 0, 0)) (by decide +kernel) rfl rfl rfl
set_option maxRecDepth 100000 in
theorem i113_33 {v0 v1 v2 v3 : Value} {st : List Value} {h : ab_Hp} {Q : ab_O → ab_Hp → Prop} : wp 113 33 [v0, v1, v2, v3] st h Q = wp 113 34 [v0, v1, v2, v3] (.int (nI 0) :: st) h Q := wp_stp (ri := (.iconst 0, 1, 0, 0, 0, 0)) (by decide +kernel) rfl rfl rfl
set_option maxRecDepth 100000 in
theorem i113_34 {v0 v1 v2 v3 : Value} {r : Nat} {x : Int32} {st : List Value} {h : ab_Hp} {Q : ab_O → ab_Hp → Prop} (hk : (ab_sh h r).1 = 17) : wp 113 34 [v0, v1, v2, v3] (.int x :: .ref r :: st) h Q = wp 113 37 [v0, v1, v2, v3] st (ab_setI h (ab_u (ab_hi h) r 0 x)) Q := wp_pf (by decide +kernel : ab_cod 113 34 = some (.putfield 29, 3, 7, 0, 772, 0)) hk rfl
set_option maxRecDepth 100000 in
theorem i113_37 {v0 v1 v2 v3 : Value} {st : List Value} {h : ab_Hp} {Q : ab_O → ab_Hp → Prop} (hv : ab_isA v0 = true) : wp 113 37 [v0, v1, v2, v3] st h Q = wp 113 38 [v0, v1, v2, v3] (v0 :: st) h Q := wp_aload_n (by decide +kernel : ab_cod 113 37 = some (.aload_n 0, 1, 0, 0, 0, 0)) hv
set_option maxRecDepth 100000 in
theorem i113_38 {v0 v1 v2 v3 : Value} {r : Nat} {st : List Value} {h : ab_Hp} {Q : ab_O → ab_Hp → Prop} (hk : (ab_sh h r).1 = 17) : wp 113 38 [v0, v1, v2, v3] (.ref r :: st) h Q = wp 113 41 [v0, v1, v2, v3] (.int (ab_hi h r 0) :: st) h Q := wp_gf (by decide +kernel : ab_cod 113 38 = some (.getfield 29, 3, 7, 0, 772, 0)) hk
set_option maxRecDepth 100000 in
theorem i113_41 {v0 v1 v2 v3 : Value} {x : Int32} {st : List Value} {h : ab_Hp} {Q : ab_O → ab_Hp → Prop} : wp 113 41 [v0, v1, v2, v3] (.int x :: st) h Q = if x ≤ 0 then wp 113 46 [v0, v1, v2, v3] st h Q else wp 113 44 [v0, v1, v2, v3] st h Q := wp_ifcP (by decide +kernel : ab_cod 113 41 = some (.ifCond .le 5, 3, 46, 0, 0, 0)) rfl
set_option maxRecDepth 100000 in
theorem i113_44 {v0 v1 v2 v3 : Value} {st : List Value} {h : ab_Hp} {Q : ab_O → ab_Hp → Prop} : wp 113 44 [v0, v1, v2, v3] st h Q = wp 113 45 [v0, v1, v2, v3] (.int (nI 0) :: st) h Q := wp_stp (ri := (.iconst 0, 1, 0, 0, 0, 0)) (by decide +kernel) rfl rfl rfl
set_option maxRecDepth 100000 in
theorem i113_45 {v0 v1 v2 v3 : Value} {x : Int32} {h : ab_Hp} {Q : ab_O → ab_Hp → Prop} : wp 113 45 [v0, v1, v2, v3] [.int x] h Q = Q (.inl (some (.int x))) h := wp_iret (by decide +kernel : ab_cod 113 45 = some (.ireturn, 1, 0, 0, 0, 0)) rfl
set_option maxRecDepth 100000 in
theorem i113_46 {v0 v1 v2 v3 : Value} {st : List Value} {h : ab_Hp} {Q : ab_O → ab_Hp → Prop} (hv : ab_isA v0 = true) : wp 113 46 [v0, v1, v2, v3] st h Q = wp 113 47 [v0, v1, v2, v3] (v0 :: st) h Q := wp_aload_n (by decide +kernel : ab_cod 113 46 = some (.aload_n 0, 1, 0, 0, 0, 0)) hv
set_option maxRecDepth 100000 in
theorem i113_47 {v0 v1 v2 v3 : Value} {r : Nat} {st : List Value} {h : ab_Hp} {Q : ab_O → ab_Hp → Prop} (hl : st.length ≤ 4) (hk : (ab_sh h r).1 = 17) : wp 113 47 [v0, v1, v2, v3] (.ref r :: st) h Q = wp 94 0 [.ref r, ab_nov] [] h (ab_K 113 47 [v0, v1, v2, v3] st Q) := wp_callV (as := []) (by decide +kernel : ab_cod 113 47 = some (.invokevirtual 44, 3, 94, 1, 0, 824)) rfl rfl rfl rfl hl hk
set_option maxRecDepth 100000 in
theorem i113_50 {v0 v1 v2 v3 : Value} {st : List Value} {h : ab_Hp} {Q : ab_O → ab_Hp → Prop} (hv : ab_isA v0 = true) : wp 113 50 [v0, v1, v2, v3] st h Q = wp 113 51 [v0, v1, v2, v3] (v0 :: st) h Q := wp_aload_n (by decide +kernel : ab_cod 113 50 = some (.aload_n 0, 1, 0, 0, 0, 0)) hv
set_option maxRecDepth 100000 in
theorem i113_51 {v0 v1 v2 v3 : Value} {r : Nat} {st : List Value} {h : ab_Hp} {Q : ab_O → ab_Hp → Prop} (hk : (ab_sh h r).1 = 17) : wp 113 51 [v0, v1, v2, v3] (.ref r :: st) h Q = wp 113 54 [v0, v1, v2, v3] (va_rf (ab_hr h r 1) :: st) h Q := wp_gf (by decide +kernel : ab_cod 113 51 = some (.getfield 7, 3, 7, 1, 773, 1)) hk
set_option maxRecDepth 100000 in
theorem i113_54 {v0 v1 v2 v3 : Value} {st : List Value} {h : ab_Hp} {Q : ab_O → ab_Hp → Prop} : wp 113 54 [v0, v1, v2, v3] st h Q = wp 113 55 [v0, v1, v2, v3] (.int (nI 2) :: st) h Q := wp_stp (ri := (.iconst 2, 1, 0, 0, 0, 0)) (by decide +kernel) rfl rfl rfl
set_option maxRecDepth 100000 in
theorem i113_55 {v0 v1 v2 v3 : Value} {r : Nat} {x : Int32} {st : List Value} {h : ab_Hp} {Q : ab_O → ab_Hp → Prop} (hk : ((ab_sh h r).1 = 1 ∨ (ab_sh h r).1 = 6) ∧ ab_in x (ab_sh h r).2 = true) : wp 113 55 [v0, v1, v2, v3] (.int x :: .ref r :: st) h Q = wp 113 56 [v0, v1, v2, v3] (.int (ab_hi h r x.toNatClampNeg) :: st) h Q := wp_ia (by decide +kernel : ab_cod 113 55 = some (.iaload, 1, 0, 0, 0, 0)) hk
set_option maxRecDepth 100000 in
theorem i113_56 {v0 v1 v2 v3 : Value} {w : Int32} {st : List Value} {h : ab_Hp} {Q : ab_O → ab_Hp → Prop} : wp 113 56 [v0, v1, v2, v3] (.int w :: st) h Q = wp 113 57 [v0, ab_clr v1, .int w, v3] st h Q := wp_stp (ri := (.istore_n 2, 1, 0, 0, 0, 0)) (by decide +kernel) rfl rfl rfl
set_option maxRecDepth 100000 in
theorem i113_57 {v0 v1 v2 v3 : Value} {st : List Value} {h : ab_Hp} {Q : ab_O → ab_Hp → Prop} : wp 113 57 [v0, v1, v2, v3] st h Q = wp 113 58 [v0, v1, v2, v3] (.int (nI 0) :: st) h Q := wp_stp (ri := (.iconst 0, 1, 0, 0, 0, 0)) (by decide +kernel) rfl rfl rfl
set_option maxRecDepth 100000 in
theorem i113_58 {v0 v1 v2 v3 : Value} {w : Int32} {st : List Value} {h : ab_Hp} {Q : ab_O → ab_Hp → Prop} : wp 113 58 [v0, v1, v2, v3] (.int w :: st) h Q = wp 113 59 [v0, v1, ab_clr v2, .int w] st h Q := wp_stp (ri := (.istore_n 3, 1, 0, 0, 0, 0)) (by decide +kernel) rfl rfl rfl
set_option maxRecDepth 100000 in
theorem i113_59 {v0 v1 v2 : Value} {x : Int32} {st : List Value} {h : ab_Hp} {Q : ab_O → ab_Hp → Prop} : wp 113 59 [v0, v1, v2, .int x] st h Q = wp 113 60 [v0, v1, v2, .int x] (.int x :: st) h Q := wp_stp (ri := (.iload_n 3, 1, 0, 0, 0, 0)) (by decide +kernel) rfl rfl rfl
set_option maxRecDepth 100000 in
theorem i113_60 {v0 v2 v3 : Value} {x : Int32} {st : List Value} {h : ab_Hp} {Q : ab_O → ab_Hp → Prop} : wp 113 60 [v0, .int x, v2, v3] st h Q = wp 113 61 [v0, .int x, v2, v3] (.int x :: st) h Q := wp_stp (ri := (.iload_n 1, 1, 0, 0, 0, 0)) (by decide +kernel) rfl rfl rfl
set_option maxRecDepth 100000 in
theorem i113_61 {v0 v1 v2 v3 : Value} {x y : Int32} {st : List Value} {h : ab_Hp} {Q : ab_O → ab_Hp → Prop} : wp 113 61 [v0, v1, v2, v3] (.int y :: .int x :: st) h Q = if y ≤ x then wp 113 74 [v0, v1, v2, v3] st h Q else wp 113 64 [v0, v1, v2, v3] st h Q := wp_icmpP (by decide +kernel : ab_cod 113 61 = some (.if_icmp .ge 13, 3, 74, 0, 0, 0)) rfl
set_option maxRecDepth 100000 in
theorem i113_64 {v0 v1 v2 v3 : Value} {st : List Value} {h : ab_Hp} {Q : ab_O → ab_Hp → Prop} (hv : ab_isA v0 = true) : wp 113 64 [v0, v1, v2, v3] st h Q = wp 113 65 [v0, v1, v2, v3] (v0 :: st) h Q := wp_aload_n (by decide +kernel : ab_cod 113 64 = some (.aload_n 0, 1, 0, 0, 0, 0)) hv
set_option maxRecDepth 100000 in
theorem i113_65 {v0 v1 v2 v3 : Value} {r : Nat} {st : List Value} {h : ab_Hp} {Q : ab_O → ab_Hp → Prop} (hl : st.length ≤ 4) (hk : (ab_sh h r).1 = 17) : wp 113 65 [v0, v1, v2, v3] (.ref r :: st) h Q = wp 112 0 [.ref r, ab_nov] [] h (ab_K 113 65 [v0, v1, v2, v3] st Q) := wp_callV (as := []) (by decide +kernel : ab_cod 113 65 = some (.invokevirtual 87, 3, 112, 1, 0, 876)) rfl rfl rfl rfl hl hk
set_option maxRecDepth 100000 in
theorem i113_68 {v0 v1 v2 : Value} {x : Int32} {st : List Value} {h : ab_Hp} {Q : ab_O → ab_Hp → Prop} : wp 113 68 [v0, v1, v2, .int x] st h Q = wp 113 71 [v0, v1, ab_clr v2, .int (x + nI 1)] st h Q := wp_stp (ri := (.iinc 3 1, 3, 0, 0, 0, 0)) (by decide +kernel) rfl rfl rfl
set_option maxRecDepth 100000 in
theorem i113_71 {v0 v1 v2 v3 : Value} {st : List Value} {h : ab_Hp} {Q : ab_O → ab_Hp → Prop} : wp 113 71 [v0, v1, v2, v3] st h Q = wp 113 59 [v0, v1, v2, v3] st h Q := wp_stp (ri := (.goto (-12), 3, 59, 0, 0, 0)) (by decide +kernel) rfl rfl rfl
set_option maxRecDepth 100000 in
theorem i113_74 {v0 v1 v2 v3 : Value} {st : List Value} {h : ab_Hp} {Q : ab_O → ab_Hp → Prop} (hv : ab_isA v0 = true) : wp 113 74 [v0, v1, v2, v3] st h Q = wp 113 75 [v0, v1, v2, v3] (v0 :: st) h Q := wp_aload_n (by decide +kernel : ab_cod 113 74 = some (.aload_n 0, 1, 0, 0, 0, 0)) hv
set_option maxRecDepth 100000 in
theorem i113_75 {v0 v1 v2 v3 : Value} {r : Nat} {st : List Value} {h : ab_Hp} {Q : ab_O → ab_Hp → Prop} (hk : (ab_sh h r).1 = 17) : wp 113 75 [v0, v1, v2, v3] (.ref r :: st) h Q = wp 113 78 [v0, v1, v2, v3] (va_rf (ab_hr h r 1) :: st) h Q := wp_gf (by decide +kernel : ab_cod 113 75 = some (.getfield 7, 3, 7, 1, 773, 1)) hk
set_option maxRecDepth 100000 in
theorem i113_78 {v0 v1 v2 v3 : Value} {st : List Value} {h : ab_Hp} {Q : ab_O → ab_Hp → Prop} : wp 113 78 [v0, v1, v2, v3] st h Q = wp 113 79 [v0, v1, v2, v3] (.int (nI 2) :: st) h Q := wp_stp (ri := (.iconst 2, 1, 0, 0, 0, 0)) (by decide +kernel) rfl rfl rfl
set_option maxRecDepth 100000 in
theorem i113_79 {v0 v1 v2 v3 : Value} {r : Nat} {x : Int32} {st : List Value} {h : ab_Hp} {Q : ab_O → ab_Hp → Prop} (hk : ((ab_sh h r).1 = 1 ∨ (ab_sh h r).1 = 6) ∧ ab_in x (ab_sh h r).2 = true) : wp 113 79 [v0, v1, v2, v3] (.int x :: .ref r :: st) h Q = wp 113 80 [v0, v1, v2, v3] (.int (ab_hi h r x.toNatClampNeg) :: st) h Q := wp_ia (by decide +kernel : ab_cod 113 79 = some (.iaload, 1, 0, 0, 0, 0)) hk
set_option maxRecDepth 100000 in
theorem i113_80 {v0 v1 v3 : Value} {x : Int32} {st : List Value} {h : ab_Hp} {Q : ab_O → ab_Hp → Prop} : wp 113 80 [v0, v1, .int x, v3] st h Q = wp 113 81 [v0, v1, .int x, v3] (.int x :: st) h Q := wp_stp (ri := (.iload_n 2, 1, 0, 0, 0, 0)) (by decide +kernel) rfl rfl rfl
set_option maxRecDepth 100000 in
theorem i113_81 {v0 v1 v2 v3 : Value} {x y : Int32} {st : List Value} {h : ab_Hp} {Q : ab_O → ab_Hp → Prop} : wp 113 81 [v0, v1, v2, v3] (.int y :: .int x :: st) h Q = wp 113 82 [v0, v1, v2, v3] (.int (x - y) :: st) h Q := wp_stp (ri := (.isub, 1, 0, 0, 0, 0)) (by decide +kernel) rfl rfl rfl
set_option maxRecDepth 100000 in
theorem i113_82 {v0 v1 v2 v3 : Value} {x : Int32} {h : ab_Hp} {Q : ab_O → ab_Hp → Prop} : wp 113 82 [v0, v1, v2, v3] [.int x] h Q = Q (.inl (some (.int x))) h := wp_iret (by decide +kernel : ab_cod 113 82 = some (.ireturn, 1, 0, 0, 0, 0)) rfl
/-! 114: SeamBeatsModel.append(I)I -/
theorem i114_0 {v0 v1 : Value} {st : List Value} {h : ab_Hp} {Q : ab_O → ab_Hp → Prop} (hv : ab_isA v0 = true) : wp 114 0 [v0, v1] st h Q = wp 114 1 [v0, v1] (v0 :: st) h Q := wp_aload_n (by decide +kernel : ab_cod 114 0 = some (.aload_n 0, 1, 0, 0, 0, 0)) hv
theorem i114_1 {v0 : Value} {x : Int32} {st : List Value} {h : ab_Hp} {Q : ab_O → ab_Hp → Prop} : wp 114 1 [v0, .int x] st h Q = wp 114 2 [v0, .int x] (.int x :: st) h Q := wp_stp (ri := (.iload_n 1, 1, 0, 0, 0, 0)) (by decide +kernel) rfl rfl rfl
theorem i114_2 {v0 v1 : Value} {st : List Value} {h : ab_Hp} {Q : ab_O → ab_Hp → Prop} : wp 114 2 [v0, v1] st h Q = wp 114 4 [v0, v1] (.int (nI 33) :: st) h Q := wp_stp (ri := (.bipush 33, 2, 0, 0, 0, 0)) (by decide +kernel) rfl rfl rfl
theorem i114_4 {v0 v1 : Value} {st : List Value} {h : ab_Hp} {Q : ab_O → ab_Hp → Prop} : wp 114 4 [v0, v1] st h Q = wp 114 6 [v0, v1] (.int (nI 126) :: st) h Q := wp_stp (ri := (.bipush 126, 2, 0, 0, 0, 0)) (by decide +kernel) rfl rfl rfl
theorem i114_6 {v0 v1 : Value} {a0 : Int32} {a1 : Int32} {a2 : Int32} {st : List Value} {h : ab_Hp} {Q : ab_O → ab_Hp → Prop} (hl : st.length ≤ 4) : wp 114 6 [v0, v1] (.int a2 :: .int a1 :: .int a0 :: st) h Q = wp 87 0 [.int a0, .int a1, .int a2] [] h (ab_K 114 6 [v0, v1] st Q) := wp_callS (as := [.int a0, .int a1, .int a2]) (by decide +kernel : ab_cod 114 6 = some (.invokestatic 33, 3, 87, 3, 1, 821)) rfl rfl rfl rfl hl
theorem i114_9 {v0 v1 : Value} {x : Int32} {st : List Value} {h : ab_Hp} {Q : ab_O → ab_Hp → Prop} : wp 114 9 [v0, v1] (.int x :: st) h Q = if ¬ x = 0 then wp 114 16 [v0, v1] st h Q else wp 114 12 [v0, v1] st h Q := wp_ifcP (by decide +kernel : ab_cod 114 9 = some (.ifCond .ne 7, 3, 16, 0, 0, 0)) rfl
theorem i114_12 {v0 v1 : Value} {st : List Value} {h : ab_Hp} {Q : ab_O → ab_Hp → Prop} : wp 114 12 [v0, v1] st h Q = wp 114 13 [v0, v1] (.int (nI 1) :: st) h Q := wp_stp (ri := (.iconst 1, 1, 0, 0, 0, 0)) (by decide +kernel) rfl rfl rfl
theorem i114_13 {v0 v1 : Value} {st : List Value} {h : ab_Hp} {Q : ab_O → ab_Hp → Prop} : wp 114 13 [v0, v1] st h Q = wp 114 30 [v0, v1] st h Q := wp_stp (ri := (.goto 17, 3, 30, 0, 0, 0)) (by decide +kernel) rfl rfl rfl
theorem i114_16 {v0 v1 : Value} {st : List Value} {h : ab_Hp} {Q : ab_O → ab_Hp → Prop} (hv : ab_isA v0 = true) : wp 114 16 [v0, v1] st h Q = wp 114 17 [v0, v1] (v0 :: st) h Q := wp_aload_n (by decide +kernel : ab_cod 114 16 = some (.aload_n 0, 1, 0, 0, 0, 0)) hv
theorem i114_17 {v0 v1 : Value} {r : Nat} {st : List Value} {h : ab_Hp} {Q : ab_O → ab_Hp → Prop} (hk : (ab_sh h r).1 = 17) : wp 114 17 [v0, v1] (.ref r :: st) h Q = wp 114 20 [v0, v1] (.int (ab_hi h r 6) :: st) h Q := wp_gf (by decide +kernel : ab_cod 114 17 = some (.getfield 90, 3, 7, 6, 778, 0)) hk
theorem i114_20 {v0 v1 : Value} {st : List Value} {h : ab_Hp} {Q : ab_O → ab_Hp → Prop} : wp 114 20 [v0, v1] st h Q = wp 114 22 [v0, v1] (.int (nI 60) :: st) h Q := wp_stp (ri := (.bipush 60, 2, 0, 0, 0, 0)) (by decide +kernel) rfl rfl rfl
theorem i114_22 {v0 v1 : Value} {x y : Int32} {st : List Value} {h : ab_Hp} {Q : ab_O → ab_Hp → Prop} : wp 114 22 [v0, v1] (.int y :: .int x :: st) h Q = if ¬ x = y then wp 114 29 [v0, v1] st h Q else wp 114 25 [v0, v1] st h Q := wp_icmpP (by decide +kernel : ab_cod 114 22 = some (.if_icmp .ne 7, 3, 29, 0, 0, 0)) rfl
theorem i114_25 {v0 v1 : Value} {st : List Value} {h : ab_Hp} {Q : ab_O → ab_Hp → Prop} : wp 114 25 [v0, v1] st h Q = wp 114 26 [v0, v1] (.int (nI 2) :: st) h Q := wp_stp (ri := (.iconst 2, 1, 0, 0, 0, 0)) (by decide +kernel) rfl rfl rfl
theorem i114_26 {v0 v1 : Value} {st : List Value} {h : ab_Hp} {Q : ab_O → ab_Hp → Prop} : wp 114 26 [v0, v1] st h Q = wp 114 30 [v0, v1] st h Q := wp_stp (ri := (.goto 4, 3, 30, 0, 0, 0)) (by decide +kernel) rfl rfl rfl
theorem i114_29 {v0 v1 : Value} {st : List Value} {h : ab_Hp} {Q : ab_O → ab_Hp → Prop} : wp 114 29 [v0, v1] st h Q = wp 114 30 [v0, v1] (.int (nI 0) :: st) h Q := wp_stp (ri := (.iconst 0, 1, 0, 0, 0, 0)) (by decide +kernel) rfl rfl rfl
theorem i114_30 {v0 v1 : Value} {r : Nat} {x : Int32} {st : List Value} {h : ab_Hp} {Q : ab_O → ab_Hp → Prop} (hk : (ab_sh h r).1 = 17) : wp 114 30 [v0, v1] (.int x :: .ref r :: st) h Q = wp 114 33 [v0, v1] st (ab_setI h (ab_u (ab_hi h) r 0 x)) Q := wp_pf (by decide +kernel : ab_cod 114 30 = some (.putfield 29, 3, 7, 0, 772, 0)) hk rfl
theorem i114_33 {v0 v1 : Value} {st : List Value} {h : ab_Hp} {Q : ab_O → ab_Hp → Prop} (hv : ab_isA v0 = true) : wp 114 33 [v0, v1] st h Q = wp 114 34 [v0, v1] (v0 :: st) h Q := wp_aload_n (by decide +kernel : ab_cod 114 33 = some (.aload_n 0, 1, 0, 0, 0, 0)) hv
theorem i114_34 {v0 v1 : Value} {r : Nat} {st : List Value} {h : ab_Hp} {Q : ab_O → ab_Hp → Prop} (hk : (ab_sh h r).1 = 17) : wp 114 34 [v0, v1] (.ref r :: st) h Q = wp 114 37 [v0, v1] (.int (ab_hi h r 0) :: st) h Q := wp_gf (by decide +kernel : ab_cod 114 34 = some (.getfield 29, 3, 7, 0, 772, 0)) hk
theorem i114_37 {v0 v1 : Value} {x : Int32} {st : List Value} {h : ab_Hp} {Q : ab_O → ab_Hp → Prop} : wp 114 37 [v0, v1] (.int x :: st) h Q = if x ≤ 0 then wp 114 42 [v0, v1] st h Q else wp 114 40 [v0, v1] st h Q := wp_ifcP (by decide +kernel : ab_cod 114 37 = some (.ifCond .le 5, 3, 42, 0, 0, 0)) rfl
theorem i114_40 {v0 v1 : Value} {st : List Value} {h : ab_Hp} {Q : ab_O → ab_Hp → Prop} : wp 114 40 [v0, v1] st h Q = wp 114 41 [v0, v1] (.int (nI 0) :: st) h Q := wp_stp (ri := (.iconst 0, 1, 0, 0, 0, 0)) (by decide +kernel) rfl rfl rfl
theorem i114_41 {v0 v1 : Value} {x : Int32} {h : ab_Hp} {Q : ab_O → ab_Hp → Prop} : wp 114 41 [v0, v1] [.int x] h Q = Q (.inl (some (.int x))) h := wp_iret (by decide +kernel : ab_cod 114 41 = some (.ireturn, 1, 0, 0, 0, 0)) rfl
theorem i114_42 {v0 v1 : Value} {st : List Value} {h : ab_Hp} {Q : ab_O → ab_Hp → Prop} (hv : ab_isA v0 = true) : wp 114 42 [v0, v1] st h Q = wp 114 43 [v0, v1] (v0 :: st) h Q := wp_aload_n (by decide +kernel : ab_cod 114 42 = some (.aload_n 0, 1, 0, 0, 0, 0)) hv
theorem i114_43 {v0 v1 : Value} {r : Nat} {st : List Value} {h : ab_Hp} {Q : ab_O → ab_Hp → Prop} (hk : (ab_sh h r).1 = 17) : wp 114 43 [v0, v1] (.ref r :: st) h Q = wp 114 46 [v0, v1] (va_rf (ab_hr h r 5) :: st) h Q := wp_gf (by decide +kernel : ab_cod 114 43 = some (.getfield 19, 3, 7, 5, 777, 1)) hk
theorem i114_46 {v0 v1 : Value} {st : List Value} {h : ab_Hp} {Q : ab_O → ab_Hp → Prop} (hv : ab_isA v0 = true) : wp 114 46 [v0, v1] st h Q = wp 114 47 [v0, v1] (v0 :: st) h Q := wp_aload_n (by decide +kernel : ab_cod 114 46 = some (.aload_n 0, 1, 0, 0, 0, 0)) hv
theorem i114_47 {v0 v1 : Value} {r : Nat} {st : List Value} {h : ab_Hp} {Q : ab_O → ab_Hp → Prop} (hk : (ab_sh h r).1 = 17) : wp 114 47 [v0, v1] (.ref r :: st) h Q = wp 114 50 [v0, v1] (.int (ab_hi h r 6) :: st) h Q := wp_gf (by decide +kernel : ab_cod 114 47 = some (.getfield 90, 3, 7, 6, 778, 0)) hk
theorem i114_50 {v0 : Value} {x : Int32} {st : List Value} {h : ab_Hp} {Q : ab_O → ab_Hp → Prop} : wp 114 50 [v0, .int x] st h Q = wp 114 51 [v0, .int x] (.int x :: st) h Q := wp_stp (ri := (.iload_n 1, 1, 0, 0, 0, 0)) (by decide +kernel) rfl rfl rfl
theorem i114_51 {v0 v1 : Value} {r : Nat} {x y : Int32} {st : List Value} {h : ab_Hp} {Q : ab_O → ab_Hp → Prop} (hk : (ab_sh h r).1 = 1 ∧ ab_in x (ab_sh h r).2 = true) : wp 114 51 [v0, v1] (.int y :: .int x :: .ref r :: st) h Q = wp 114 52 [v0, v1] st (ab_setI h (ab_u (ab_hi h) r x.toNatClampNeg y)) Q := wp_ias (by decide +kernel : ab_cod 114 51 = some (.iastore, 1, 0, 0, 0, 0)) hk
theorem i114_52 {v0 v1 : Value} {st : List Value} {h : ab_Hp} {Q : ab_O → ab_Hp → Prop} (hv : ab_isA v0 = true) : wp 114 52 [v0, v1] st h Q = wp 114 53 [v0, v1] (v0 :: st) h Q := wp_aload_n (by decide +kernel : ab_cod 114 52 = some (.aload_n 0, 1, 0, 0, 0, 0)) hv
theorem i114_53 {v0 v1 : Value} {v : Value} {st : List Value} {h : ab_Hp} {Q : ab_O → ab_Hp → Prop} (hv : v.category = 1) : wp 114 53 [v0, v1] (v :: st) h Q = wp 114 54 [v0, v1] (v :: v :: st) h Q := wp_dup (by decide +kernel : ab_cod 114 53 = some (.dup, 1, 0, 0, 0, 0)) hv
theorem i114_54 {v0 v1 : Value} {r : Nat} {st : List Value} {h : ab_Hp} {Q : ab_O → ab_Hp → Prop} (hk : (ab_sh h r).1 = 17) : wp 114 54 [v0, v1] (.ref r :: st) h Q = wp 114 57 [v0, v1] (.int (ab_hi h r 6) :: st) h Q := wp_gf (by decide +kernel : ab_cod 114 54 = some (.getfield 90, 3, 7, 6, 778, 0)) hk
theorem i114_57 {v0 v1 : Value} {st : List Value} {h : ab_Hp} {Q : ab_O → ab_Hp → Prop} : wp 114 57 [v0, v1] st h Q = wp 114 58 [v0, v1] (.int (nI 1) :: st) h Q := wp_stp (ri := (.iconst 1, 1, 0, 0, 0, 0)) (by decide +kernel) rfl rfl rfl
theorem i114_58 {v0 v1 : Value} {x y : Int32} {st : List Value} {h : ab_Hp} {Q : ab_O → ab_Hp → Prop} : wp 114 58 [v0, v1] (.int y :: .int x :: st) h Q = wp 114 59 [v0, v1] (.int (x + y) :: st) h Q := wp_stp (ri := (.iadd, 1, 0, 0, 0, 0)) (by decide +kernel) rfl rfl rfl
theorem i114_59 {v0 v1 : Value} {r : Nat} {x : Int32} {st : List Value} {h : ab_Hp} {Q : ab_O → ab_Hp → Prop} (hk : (ab_sh h r).1 = 17) : wp 114 59 [v0, v1] (.int x :: .ref r :: st) h Q = wp 114 62 [v0, v1] st (ab_setI h (ab_u (ab_hi h) r 6 x)) Q := wp_pf (by decide +kernel : ab_cod 114 59 = some (.putfield 90, 3, 7, 6, 778, 0)) hk rfl
theorem i114_62 {v0 v1 : Value} {st : List Value} {h : ab_Hp} {Q : ab_O → ab_Hp → Prop} (hv : ab_isA v0 = true) : wp 114 62 [v0, v1] st h Q = wp 114 63 [v0, v1] (v0 :: st) h Q := wp_aload_n (by decide +kernel : ab_cod 114 62 = some (.aload_n 0, 1, 0, 0, 0, 0)) hv
theorem i114_63 {v0 v1 : Value} {r : Nat} {st : List Value} {h : ab_Hp} {Q : ab_O → ab_Hp → Prop} (hk : (ab_sh h r).1 = 17) : wp 114 63 [v0, v1] (.ref r :: st) h Q = wp 114 66 [v0, v1] (.int (ab_hi h r 6) :: st) h Q := wp_gf (by decide +kernel : ab_cod 114 63 = some (.getfield 90, 3, 7, 6, 778, 0)) hk
theorem i114_66 {v0 v1 : Value} {x : Int32} {h : ab_Hp} {Q : ab_O → ab_Hp → Prop} : wp 114 66 [v0, v1] [.int x] h Q = Q (.inl (some (.int x))) h := wp_iret (by decide +kernel : ab_cod 114 66 = some (.ireturn, 1, 0, 0, 0, 0)) rfl
/-! 115: SeamBeatsModel.clearBuffer()I -/
theorem i115_0 {v0 v1 : Value} {st : List Value} {h : ab_Hp} {Q : ab_O → ab_Hp → Prop} (hv : ab_isA v0 = true) : wp 115 0 [v0, v1] st h Q = wp 115 1 [v0, v1] (v0 :: st) h Q := wp_aload_n (by decide +kernel : ab_cod 115 0 = some (.aload_n 0, 1, 0, 0, 0, 0)) hv
theorem i115_1 {v0 v1 : Value} {st : List Value} {h : ab_Hp} {Q : ab_O → ab_Hp → Prop} : wp 115 1 [v0, v1] st h Q = wp 115 2 [v0, v1] (.int (nI 0) :: st) h Q := wp_stp (ri := (.iconst 0, 1, 0, 0, 0, 0)) (by decide +kernel) rfl rfl rfl
theorem i115_2 {v0 v1 : Value} {r : Nat} {x : Int32} {st : List Value} {h : ab_Hp} {Q : ab_O → ab_Hp → Prop} (hk : (ab_sh h r).1 = 17) : wp 115 2 [v0, v1] (.int x :: .ref r :: st) h Q = wp 115 5 [v0, v1] st (ab_setI h (ab_u (ab_hi h) r 0 x)) Q := wp_pf (by decide +kernel : ab_cod 115 2 = some (.putfield 29, 3, 7, 0, 772, 0)) hk rfl
theorem i115_5 {v0 v1 : Value} {st : List Value} {h : ab_Hp} {Q : ab_O → ab_Hp → Prop} (hv : ab_isA v0 = true) : wp 115 5 [v0, v1] st h Q = wp 115 6 [v0, v1] (v0 :: st) h Q := wp_aload_n (by decide +kernel : ab_cod 115 5 = some (.aload_n 0, 1, 0, 0, 0, 0)) hv
theorem i115_6 {v0 v1 : Value} {r : Nat} {st : List Value} {h : ab_Hp} {Q : ab_O → ab_Hp → Prop} (hk : (ab_sh h r).1 = 17) : wp 115 6 [v0, v1] (.ref r :: st) h Q = wp 115 9 [v0, v1] (.int (ab_hi h r 6) :: st) h Q := wp_gf (by decide +kernel : ab_cod 115 6 = some (.getfield 90, 3, 7, 6, 778, 0)) hk
theorem i115_9 {v0 v1 : Value} {w : Int32} {st : List Value} {h : ab_Hp} {Q : ab_O → ab_Hp → Prop} : wp 115 9 [v0, v1] (.int w :: st) h Q = wp 115 10 [ab_clr v0, .int w] st h Q := wp_stp (ri := (.istore_n 1, 1, 0, 0, 0, 0)) (by decide +kernel) rfl rfl rfl
theorem i115_10 {v0 v1 : Value} {st : List Value} {h : ab_Hp} {Q : ab_O → ab_Hp → Prop} (hv : ab_isA v0 = true) : wp 115 10 [v0, v1] st h Q = wp 115 11 [v0, v1] (v0 :: st) h Q := wp_aload_n (by decide +kernel : ab_cod 115 10 = some (.aload_n 0, 1, 0, 0, 0, 0)) hv
theorem i115_11 {v0 v1 : Value} {st : List Value} {h : ab_Hp} {Q : ab_O → ab_Hp → Prop} : wp 115 11 [v0, v1] st h Q = wp 115 12 [v0, v1] (.int (nI 0) :: st) h Q := wp_stp (ri := (.iconst 0, 1, 0, 0, 0, 0)) (by decide +kernel) rfl rfl rfl
theorem i115_12 {v0 v1 : Value} {r : Nat} {x : Int32} {st : List Value} {h : ab_Hp} {Q : ab_O → ab_Hp → Prop} (hk : (ab_sh h r).1 = 17) : wp 115 12 [v0, v1] (.int x :: .ref r :: st) h Q = wp 115 15 [v0, v1] st (ab_setI h (ab_u (ab_hi h) r 6 x)) Q := wp_pf (by decide +kernel : ab_cod 115 12 = some (.putfield 90, 3, 7, 6, 778, 0)) hk rfl
theorem i115_15 {v0 : Value} {x : Int32} {st : List Value} {h : ab_Hp} {Q : ab_O → ab_Hp → Prop} : wp 115 15 [v0, .int x] st h Q = wp 115 16 [v0, .int x] (.int x :: st) h Q := wp_stp (ri := (.iload_n 1, 1, 0, 0, 0, 0)) (by decide +kernel) rfl rfl rfl
theorem i115_16 {v0 v1 : Value} {x : Int32} {h : ab_Hp} {Q : ab_O → ab_Hp → Prop} : wp 115 16 [v0, v1] [.int x] h Q = Q (.inl (some (.int x))) h := wp_iret (by decide +kernel : ab_cod 115 16 = some (.ireturn, 1, 0, 0, 0, 0)) rfl
/-! 116: SeamBeatsModel.behind(IZ)Z -/
theorem i116_0 {v0 v2 : Value} {x : Int32} {st : List Value} {h : ab_Hp} {Q : ab_O → ab_Hp → Prop} : wp 116 0 [v0, .int x, v2] st h Q = wp 116 1 [v0, .int x, v2] (.int x :: st) h Q := wp_stp (ri := (.iload_n 1, 1, 0, 0, 0, 0)) (by decide +kernel) rfl rfl rfl
theorem i116_1 {v0 v1 v2 : Value} {st : List Value} {h : ab_Hp} {Q : ab_O → ab_Hp → Prop} : wp 116 1 [v0, v1, v2] st h Q = wp 116 3 [v0, v1, v2] (.int (nI 59) :: st) h Q := wp_stp (ri := (.bipush 59, 2, 0, 0, 0, 0)) (by decide +kernel) rfl rfl rfl
theorem i116_3 {v0 v1 v2 : Value} {x y : Int32} {st : List Value} {h : ab_Hp} {Q : ab_O → ab_Hp → Prop} : wp 116 3 [v0, v1, v2] (.int y :: .int x :: st) h Q = if ¬ x = y then wp 116 13 [v0, v1, v2] st h Q else wp 116 6 [v0, v1, v2] st h Q := wp_icmpP (by decide +kernel : ab_cod 116 3 = some (.if_icmp .ne 10, 3, 13, 0, 0, 0)) rfl
theorem i116_6 {v0 v1 v2 : Value} {st : List Value} {h : ab_Hp} {Q : ab_O → ab_Hp → Prop} (hv : ab_isA v0 = true) : wp 116 6 [v0, v1, v2] st h Q = wp 116 7 [v0, v1, v2] (v0 :: st) h Q := wp_aload_n (by decide +kernel : ab_cod 116 6 = some (.aload_n 0, 1, 0, 0, 0, 0)) hv
theorem i116_7 {v0 v1 v2 : Value} {st : List Value} {h : ab_Hp} {Q : ab_O → ab_Hp → Prop} : wp 116 7 [v0, v1, v2] st h Q = wp 116 8 [v0, v1, v2] (.int (nI 0) :: st) h Q := wp_stp (ri := (.iconst 0, 1, 0, 0, 0, 0)) (by decide +kernel) rfl rfl rfl
theorem i116_8 {v0 v1 v2 : Value} {r : Nat} {x : Int32} {st : List Value} {h : ab_Hp} {Q : ab_O → ab_Hp → Prop} (hk : (ab_sh h r).1 = 17) : wp 116 8 [v0, v1, v2] (.int x :: .ref r :: st) h Q = wp 116 11 [v0, v1, v2] st (ab_setI h (ab_u (ab_hi h) r 9 x)) Q := wp_pf (by decide +kernel : ab_cod 116 8 = some (.putfield 93, 3, 7, 9, 781, 0)) hk rfl
theorem i116_11 {v0 v1 v2 : Value} {st : List Value} {h : ab_Hp} {Q : ab_O → ab_Hp → Prop} : wp 116 11 [v0, v1, v2] st h Q = wp 116 12 [v0, v1, v2] (.int (nI 1) :: st) h Q := wp_stp (ri := (.iconst 1, 1, 0, 0, 0, 0)) (by decide +kernel) rfl rfl rfl
theorem i116_12 {v0 v1 v2 : Value} {x : Int32} {h : ab_Hp} {Q : ab_O → ab_Hp → Prop} (hx : x = 0 ∨ x = 1) : wp 116 12 [v0, v1, v2] [.int x] h Q = Q (.inl (some (.int x))) h := wp_zret (by decide +kernel : ab_cod 116 12 = some (.ireturn, 1, 0, 0, 0, 0)) rfl hx
theorem i116_13 {v0 v1 v2 : Value} {st : List Value} {h : ab_Hp} {Q : ab_O → ab_Hp → Prop} (hv : ab_isA v0 = true) : wp 116 13 [v0, v1, v2] st h Q = wp 116 14 [v0, v1, v2] (v0 :: st) h Q := wp_aload_n (by decide +kernel : ab_cod 116 13 = some (.aload_n 0, 1, 0, 0, 0, 0)) hv
theorem i116_14 {v0 v1 v2 : Value} {st : List Value} {h : ab_Hp} {Q : ab_O → ab_Hp → Prop} : wp 116 14 [v0, v1, v2] st h Q = wp 116 15 [v0, v1, v2] (.int (nI 5) :: st) h Q := wp_stp (ri := (.iconst 5, 1, 0, 0, 0, 0)) (by decide +kernel) rfl rfl rfl
theorem i116_15 {v0 v1 v2 : Value} {r : Nat} {x : Int32} {st : List Value} {h : ab_Hp} {Q : ab_O → ab_Hp → Prop} (hk : (ab_sh h r).1 = 17) : wp 116 15 [v0, v1, v2] (.int x :: .ref r :: st) h Q = wp 116 18 [v0, v1, v2] st (ab_setI h (ab_u (ab_hi h) r 9 x)) Q := wp_pf (by decide +kernel : ab_cod 116 15 = some (.putfield 93, 3, 7, 9, 781, 0)) hk rfl
theorem i116_18 {v0 v1 : Value} {x : Int32} {st : List Value} {h : ab_Hp} {Q : ab_O → ab_Hp → Prop} : wp 116 18 [v0, v1, .int x] st h Q = wp 116 19 [v0, v1, .int x] (.int x :: st) h Q := wp_stp (ri := (.iload_n 2, 1, 0, 0, 0, 0)) (by decide +kernel) rfl rfl rfl
theorem i116_19 {v0 v1 v2 : Value} {x : Int32} {st : List Value} {h : ab_Hp} {Q : ab_O → ab_Hp → Prop} : wp 116 19 [v0, v1, v2] (.int x :: st) h Q = if x = 0 then wp 116 32 [v0, v1, v2] st h Q else wp 116 22 [v0, v1, v2] st h Q := wp_ifcP (by decide +kernel : ab_cod 116 19 = some (.ifCond .eq 13, 3, 32, 0, 0, 0)) rfl
theorem i116_22 {v0 v2 : Value} {x : Int32} {st : List Value} {h : ab_Hp} {Q : ab_O → ab_Hp → Prop} : wp 116 22 [v0, .int x, v2] st h Q = wp 116 23 [v0, .int x, v2] (.int x :: st) h Q := wp_stp (ri := (.iload_n 1, 1, 0, 0, 0, 0)) (by decide +kernel) rfl rfl rfl
theorem i116_23 {v0 v1 v2 : Value} {st : List Value} {h : ab_Hp} {Q : ab_O → ab_Hp → Prop} : wp 116 23 [v0, v1, v2] st h Q = wp 116 25 [v0, v1, v2] (.int (nI 42) :: st) h Q := wp_stp (ri := (.bipush 42, 2, 0, 0, 0, 0)) (by decide +kernel) rfl rfl rfl
theorem i116_25 {v0 v1 v2 : Value} {x y : Int32} {st : List Value} {h : ab_Hp} {Q : ab_O → ab_Hp → Prop} : wp 116 25 [v0, v1, v2] (.int y :: .int x :: st) h Q = if ¬ x = y then wp 116 32 [v0, v1, v2] st h Q else wp 116 28 [v0, v1, v2] st h Q := wp_icmpP (by decide +kernel : ab_cod 116 25 = some (.if_icmp .ne 7, 3, 32, 0, 0, 0)) rfl
theorem i116_28 {v0 v1 v2 : Value} {st : List Value} {h : ab_Hp} {Q : ab_O → ab_Hp → Prop} : wp 116 28 [v0, v1, v2] st h Q = wp 116 29 [v0, v1, v2] (.int (nI 1) :: st) h Q := wp_stp (ri := (.iconst 1, 1, 0, 0, 0, 0)) (by decide +kernel) rfl rfl rfl
theorem i116_29 {v0 v1 v2 : Value} {st : List Value} {h : ab_Hp} {Q : ab_O → ab_Hp → Prop} : wp 116 29 [v0, v1, v2] st h Q = wp 116 33 [v0, v1, v2] st h Q := wp_stp (ri := (.goto 4, 3, 33, 0, 0, 0)) (by decide +kernel) rfl rfl rfl
theorem i116_32 {v0 v1 v2 : Value} {st : List Value} {h : ab_Hp} {Q : ab_O → ab_Hp → Prop} : wp 116 32 [v0, v1, v2] st h Q = wp 116 33 [v0, v1, v2] (.int (nI 0) :: st) h Q := wp_stp (ri := (.iconst 0, 1, 0, 0, 0, 0)) (by decide +kernel) rfl rfl rfl
theorem i116_33 {v0 v1 v2 : Value} {x : Int32} {h : ab_Hp} {Q : ab_O → ab_Hp → Prop} (hx : x = 0 ∨ x = 1) : wp 116 33 [v0, v1, v2] [.int x] h Q = Q (.inl (some (.int x))) h := wp_zret (by decide +kernel : ab_cod 116 33 = some (.ireturn, 1, 0, 0, 0, 0)) rfl hx
/-! 117: SeamBeatsModel.figure(II)Z -/
theorem i117_0 {v0 v1 v2 v3 : Value} {st : List Value} {h : ab_Hp} {Q : ab_O → ab_Hp → Prop} : wp 117 0 [v0, v1, v2, v3] st h Q = wp 117 1 [v0, v1, v2, v3] (.int (nI 3) :: st) h Q := wp_stp (ri := (.iconst 3, 1, 0, 0, 0, 0)) (by decide +kernel) rfl rfl rfl
theorem i117_1 {v0 v1 v2 v3 : Value} {st : List Value} {h : ab_Hp} {Q : ab_O → ab_Hp → Prop} (hv : ab_isA v0 = true) : wp 117 1 [v0, v1, v2, v3] st h Q = wp 117 2 [v0, v1, v2, v3] (v0 :: st) h Q := wp_aload_n (by decide +kernel : ab_cod 117 1 = some (.aload_n 0, 1, 0, 0, 0, 0)) hv
theorem i117_2 {v0 v1 v2 v3 : Value} {r : Nat} {st : List Value} {h : ab_Hp} {Q : ab_O → ab_Hp → Prop} (hk : (ab_sh h r).1 = 17) : wp 117 2 [v0, v1, v2, v3] (.ref r :: st) h Q = wp 117 5 [v0, v1, v2, v3] (.int (ab_hi h r 8) :: st) h Q := wp_gf (by decide +kernel : ab_cod 117 2 = some (.getfield 96, 3, 7, 8, 780, 0)) hk
theorem i117_5 {v0 v1 v2 v3 : Value} {st : List Value} {h : ab_Hp} {Q : ab_O → ab_Hp → Prop} : wp 117 5 [v0, v1, v2, v3] st h Q = wp 117 6 [v0, v1, v2, v3] (.int (nI 1) :: st) h Q := wp_stp (ri := (.iconst 1, 1, 0, 0, 0, 0)) (by decide +kernel) rfl rfl rfl
theorem i117_6 {v0 v1 v2 v3 : Value} {x y : Int32} {st : List Value} {h : ab_Hp} {Q : ab_O → ab_Hp → Prop} : wp 117 6 [v0, v1, v2, v3] (.int y :: .int x :: st) h Q = wp 117 7 [v0, v1, v2, v3] (.int (x - y) :: st) h Q := wp_stp (ri := (.isub, 1, 0, 0, 0, 0)) (by decide +kernel) rfl rfl rfl
theorem i117_7 {v0 v1 v2 v3 : Value} {x y : Int32} {st : List Value} {h : ab_Hp} {Q : ab_O → ab_Hp → Prop} : wp 117 7 [v0, v1, v2, v3] (.int y :: .int x :: st) h Q = wp 117 8 [v0, v1, v2, v3] (.int (x * y) :: st) h Q := wp_stp (ri := (.imul, 1, 0, 0, 0, 0)) (by decide +kernel) rfl rfl rfl
theorem i117_8 {v0 v1 v2 v3 : Value} {w : Int32} {st : List Value} {h : ab_Hp} {Q : ab_O → ab_Hp → Prop} : wp 117 8 [v0, v1, v2, v3] (.int w :: st) h Q = wp 117 9 [v0, v1, ab_clr v2, .int w] st h Q := wp_stp (ri := (.istore_n 3, 1, 0, 0, 0, 0)) (by decide +kernel) rfl rfl rfl
theorem i117_9 {v0 v2 v3 : Value} {x : Int32} {st : List Value} {h : ab_Hp} {Q : ab_O → ab_Hp → Prop} : wp 117 9 [v0, .int x, v2, v3] st h Q = wp 117 10 [v0, .int x, v2, v3] (.int x :: st) h Q := wp_stp (ri := (.iload_n 1, 1, 0, 0, 0, 0)) (by decide +kernel) rfl rfl rfl
theorem i117_10 {v0 v1 v2 v3 : Value} {st : List Value} {h : ab_Hp} {Q : ab_O → ab_Hp → Prop} : wp 117 10 [v0, v1, v2, v3] st h Q = wp 117 12 [v0, v1, v2, v3] (.int (nI 48) :: st) h Q := wp_stp (ri := (.bipush 48, 2, 0, 0, 0, 0)) (by decide +kernel) rfl rfl rfl
theorem i117_12 {v0 v1 v2 v3 : Value} {st : List Value} {h : ab_Hp} {Q : ab_O → ab_Hp → Prop} : wp 117 12 [v0, v1, v2, v3] st h Q = wp 117 14 [v0, v1, v2, v3] (.int (nI 57) :: st) h Q := wp_stp (ri := (.bipush 57, 2, 0, 0, 0, 0)) (by decide +kernel) rfl rfl rfl
theorem i117_14 {v0 v1 v2 v3 : Value} {a0 : Int32} {a1 : Int32} {a2 : Int32} {st : List Value} {h : ab_Hp} {Q : ab_O → ab_Hp → Prop} (hl : st.length ≤ 4) : wp 117 14 [v0, v1, v2, v3] (.int a2 :: .int a1 :: .int a0 :: st) h Q = wp 87 0 [.int a0, .int a1, .int a2] [] h (ab_K 117 14 [v0, v1, v2, v3] st Q) := wp_callS (as := [.int a0, .int a1, .int a2]) (by decide +kernel : ab_cod 117 14 = some (.invokestatic 33, 3, 87, 3, 1, 821)) rfl rfl rfl rfl hl
theorem i117_17 {v0 v1 v2 v3 : Value} {x : Int32} {st : List Value} {h : ab_Hp} {Q : ab_O → ab_Hp → Prop} : wp 117 17 [v0, v1, v2, v3] (.int x :: st) h Q = if ¬ x = 0 then wp 117 22 [v0, v1, v2, v3] st h Q else wp 117 20 [v0, v1, v2, v3] st h Q := wp_ifcP (by decide +kernel : ab_cod 117 17 = some (.ifCond .ne 5, 3, 22, 0, 0, 0)) rfl
theorem i117_20 {v0 v1 v2 v3 : Value} {st : List Value} {h : ab_Hp} {Q : ab_O → ab_Hp → Prop} : wp 117 20 [v0, v1, v2, v3] st h Q = wp 117 21 [v0, v1, v2, v3] (.int (nI 0) :: st) h Q := wp_stp (ri := (.iconst 0, 1, 0, 0, 0, 0)) (by decide +kernel) rfl rfl rfl
theorem i117_21 {v0 v1 v2 v3 : Value} {x : Int32} {h : ab_Hp} {Q : ab_O → ab_Hp → Prop} (hx : x = 0 ∨ x = 1) : wp 117 21 [v0, v1, v2, v3] [.int x] h Q = Q (.inl (some (.int x))) h := wp_zret (by decide +kernel : ab_cod 117 21 = some (.ireturn, 1, 0, 0, 0, 0)) rfl hx
theorem i117_22 {v0 v1 v2 v3 : Value} {st : List Value} {h : ab_Hp} {Q : ab_O → ab_Hp → Prop} (hv : ab_isA v0 = true) : wp 117 22 [v0, v1, v2, v3] st h Q = wp 117 23 [v0, v1, v2, v3] (v0 :: st) h Q := wp_aload_n (by decide +kernel : ab_cod 117 22 = some (.aload_n 0, 1, 0, 0, 0, 0)) hv
theorem i117_23 {v0 v1 v2 v3 : Value} {r : Nat} {st : List Value} {h : ab_Hp} {Q : ab_O → ab_Hp → Prop} (hk : (ab_sh h r).1 = 17) : wp 117 23 [v0, v1, v2, v3] (.ref r :: st) h Q = wp 117 26 [v0, v1, v2, v3] (va_rf (ab_hr h r 7) :: st) h Q := wp_gf (by decide +kernel : ab_cod 117 23 = some (.getfield 22, 3, 7, 7, 779, 1)) hk
theorem i117_26 {v0 v1 v2 : Value} {x : Int32} {st : List Value} {h : ab_Hp} {Q : ab_O → ab_Hp → Prop} : wp 117 26 [v0, v1, v2, .int x] st h Q = wp 117 27 [v0, v1, v2, .int x] (.int x :: st) h Q := wp_stp (ri := (.iload_n 3, 1, 0, 0, 0, 0)) (by decide +kernel) rfl rfl rfl
theorem i117_27 {v0 v1 v2 v3 : Value} {st : List Value} {h : ab_Hp} {Q : ab_O → ab_Hp → Prop} : wp 117 27 [v0, v1, v2, v3] st h Q = wp 117 28 [v0, v1, v2, v3] (.int (nI 1) :: st) h Q := wp_stp (ri := (.iconst 1, 1, 0, 0, 0, 0)) (by decide +kernel) rfl rfl rfl
theorem i117_28 {v0 v1 v2 v3 : Value} {x y : Int32} {st : List Value} {h : ab_Hp} {Q : ab_O → ab_Hp → Prop} : wp 117 28 [v0, v1, v2, v3] (.int y :: .int x :: st) h Q = wp 117 29 [v0, v1, v2, v3] (.int (x + y) :: st) h Q := wp_stp (ri := (.iadd, 1, 0, 0, 0, 0)) (by decide +kernel) rfl rfl rfl
theorem i117_29 {v0 v1 v2 v3 : Value} {st : List Value} {h : ab_Hp} {Q : ab_O → ab_Hp → Prop} : wp 117 29 [v0, v1, v2, v3] st h Q = wp 117 31 [v0, v1, v2, v3] (.int (nI 10) :: st) h Q := wp_stp (ri := (.bipush 10, 2, 0, 0, 0, 0)) (by decide +kernel) rfl rfl rfl
theorem i117_31 {v0 v1 v2 v3 : Value} {st : List Value} {h : ab_Hp} {Q : ab_O → ab_Hp → Prop} (hv : ab_isA v0 = true) : wp 117 31 [v0, v1, v2, v3] st h Q = wp 117 32 [v0, v1, v2, v3] (v0 :: st) h Q := wp_aload_n (by decide +kernel : ab_cod 117 31 = some (.aload_n 0, 1, 0, 0, 0, 0)) hv
theorem i117_32 {v0 v1 v2 v3 : Value} {r : Nat} {st : List Value} {h : ab_Hp} {Q : ab_O → ab_Hp → Prop} (hk : (ab_sh h r).1 = 17) : wp 117 32 [v0, v1, v2, v3] (.ref r :: st) h Q = wp 117 35 [v0, v1, v2, v3] (va_rf (ab_hr h r 7) :: st) h Q := wp_gf (by decide +kernel : ab_cod 117 32 = some (.getfield 22, 3, 7, 7, 779, 1)) hk
theorem i117_35 {v0 v1 v2 : Value} {x : Int32} {st : List Value} {h : ab_Hp} {Q : ab_O → ab_Hp → Prop} : wp 117 35 [v0, v1, v2, .int x] st h Q = wp 117 36 [v0, v1, v2, .int x] (.int x :: st) h Q := wp_stp (ri := (.iload_n 3, 1, 0, 0, 0, 0)) (by decide +kernel) rfl rfl rfl
theorem i117_36 {v0 v1 v2 v3 : Value} {st : List Value} {h : ab_Hp} {Q : ab_O → ab_Hp → Prop} : wp 117 36 [v0, v1, v2, v3] st h Q = wp 117 37 [v0, v1, v2, v3] (.int (nI 1) :: st) h Q := wp_stp (ri := (.iconst 1, 1, 0, 0, 0, 0)) (by decide +kernel) rfl rfl rfl
theorem i117_37 {v0 v1 v2 v3 : Value} {x y : Int32} {st : List Value} {h : ab_Hp} {Q : ab_O → ab_Hp → Prop} : wp 117 37 [v0, v1, v2, v3] (.int y :: .int x :: st) h Q = wp 117 38 [v0, v1, v2, v3] (.int (x + y) :: st) h Q := wp_stp (ri := (.iadd, 1, 0, 0, 0, 0)) (by decide +kernel) rfl rfl rfl
theorem i117_38 {v0 v1 v2 v3 : Value} {r : Nat} {x : Int32} {st : List Value} {h : ab_Hp} {Q : ab_O → ab_Hp → Prop} (hk : ((ab_sh h r).1 = 1 ∨ (ab_sh h r).1 = 6) ∧ ab_in x (ab_sh h r).2 = true) : wp 117 38 [v0, v1, v2, v3] (.int x :: .ref r :: st) h Q = wp 117 39 [v0, v1, v2, v3] (.int (ab_hi h r x.toNatClampNeg) :: st) h Q := wp_ia (by decide +kernel : ab_cod 117 38 = some (.iaload, 1, 0, 0, 0, 0)) hk
theorem i117_39 {v0 v1 v2 v3 : Value} {x y : Int32} {st : List Value} {h : ab_Hp} {Q : ab_O → ab_Hp → Prop} : wp 117 39 [v0, v1, v2, v3] (.int y :: .int x :: st) h Q = wp 117 40 [v0, v1, v2, v3] (.int (x * y) :: st) h Q := wp_stp (ri := (.imul, 1, 0, 0, 0, 0)) (by decide +kernel) rfl rfl rfl
theorem i117_40 {v0 v2 v3 : Value} {x : Int32} {st : List Value} {h : ab_Hp} {Q : ab_O → ab_Hp → Prop} : wp 117 40 [v0, .int x, v2, v3] st h Q = wp 117 41 [v0, .int x, v2, v3] (.int x :: st) h Q := wp_stp (ri := (.iload_n 1, 1, 0, 0, 0, 0)) (by decide +kernel) rfl rfl rfl
theorem i117_41 {v0 v1 v2 v3 : Value} {x y : Int32} {st : List Value} {h : ab_Hp} {Q : ab_O → ab_Hp → Prop} : wp 117 41 [v0, v1, v2, v3] (.int y :: .int x :: st) h Q = wp 117 42 [v0, v1, v2, v3] (.int (x + y) :: st) h Q := wp_stp (ri := (.iadd, 1, 0, 0, 0, 0)) (by decide +kernel) rfl rfl rfl
theorem i117_42 {v0 v1 v2 v3 : Value} {st : List Value} {h : ab_Hp} {Q : ab_O → ab_Hp → Prop} : wp 117 42 [v0, v1, v2, v3] st h Q = wp 117 44 [v0, v1, v2, v3] (.int (nI 48) :: st) h Q := wp_stp (ri := (.bipush 48, 2, 0, 0, 0, 0)) (by decide +kernel) rfl rfl rfl
theorem i117_44 {v0 v1 v2 v3 : Value} {x y : Int32} {st : List Value} {h : ab_Hp} {Q : ab_O → ab_Hp → Prop} : wp 117 44 [v0, v1, v2, v3] (.int y :: .int x :: st) h Q = wp 117 45 [v0, v1, v2, v3] (.int (x - y) :: st) h Q := wp_stp (ri := (.isub, 1, 0, 0, 0, 0)) (by decide +kernel) rfl rfl rfl
theorem i117_45 {v0 v1 v2 v3 : Value} {r : Nat} {x y : Int32} {st : List Value} {h : ab_Hp} {Q : ab_O → ab_Hp → Prop} (hk : (ab_sh h r).1 = 1 ∧ ab_in x (ab_sh h r).2 = true) : wp 117 45 [v0, v1, v2, v3] (.int y :: .int x :: .ref r :: st) h Q = wp 117 46 [v0, v1, v2, v3] st (ab_setI h (ab_u (ab_hi h) r x.toNatClampNeg y)) Q := wp_ias (by decide +kernel : ab_cod 117 45 = some (.iastore, 1, 0, 0, 0, 0)) hk
theorem i117_46 {v0 v1 v2 v3 : Value} {st : List Value} {h : ab_Hp} {Q : ab_O → ab_Hp → Prop} (hv : ab_isA v0 = true) : wp 117 46 [v0, v1, v2, v3] st h Q = wp 117 47 [v0, v1, v2, v3] (v0 :: st) h Q := wp_aload_n (by decide +kernel : ab_cod 117 46 = some (.aload_n 0, 1, 0, 0, 0, 0)) hv
theorem i117_47 {v0 v1 v3 : Value} {x : Int32} {st : List Value} {h : ab_Hp} {Q : ab_O → ab_Hp → Prop} : wp 117 47 [v0, v1, .int x, v3] st h Q = wp 117 48 [v0, v1, .int x, v3] (.int x :: st) h Q := wp_stp (ri := (.iload_n 2, 1, 0, 0, 0, 0)) (by decide +kernel) rfl rfl rfl
theorem i117_48 {v0 v1 v2 v3 : Value} {r : Nat} {x : Int32} {st : List Value} {h : ab_Hp} {Q : ab_O → ab_Hp → Prop} (hk : (ab_sh h r).1 = 17) : wp 117 48 [v0, v1, v2, v3] (.int x :: .ref r :: st) h Q = wp 117 51 [v0, v1, v2, v3] st (ab_setI h (ab_u (ab_hi h) r 9 x)) Q := wp_pf (by decide +kernel : ab_cod 117 48 = some (.putfield 93, 3, 7, 9, 781, 0)) hk rfl
theorem i117_51 {v0 v1 v2 v3 : Value} {st : List Value} {h : ab_Hp} {Q : ab_O → ab_Hp → Prop} : wp 117 51 [v0, v1, v2, v3] st h Q = wp 117 52 [v0, v1, v2, v3] (.int (nI 1) :: st) h Q := wp_stp (ri := (.iconst 1, 1, 0, 0, 0, 0)) (by decide +kernel) rfl rfl rfl
theorem i117_52 {v0 v1 v2 v3 : Value} {x : Int32} {h : ab_Hp} {Q : ab_O → ab_Hp → Prop} (hx : x = 0 ∨ x = 1) : wp 117 52 [v0, v1, v2, v3] [.int x] h Q = Q (.inl (some (.int x))) h := wp_zret (by decide +kernel : ab_cod 117 52 = some (.ireturn, 1, 0, 0, 0, 0)) rfl hx
/-! 118: SeamBeatsModel.stands(I)Z -/
set_option maxRecDepth 100000 in
theorem i118_0 {v0 v1 v2 : Value} {st : List Value} {h : ab_Hp} {Q : ab_O → ab_Hp → Prop} : wp 118 0 [v0, v1, v2] st h Q = wp 118 1 [v0, v1, v2] (.int (nI 3) :: st) h Q := wp_stp (ri := (.iconst 3, 1, 0, 0, 0, 0)) (by decide +kernel) rfl rfl rfl
set_option maxRecDepth 100000 in
theorem i118_1 {v0 v1 v2 : Value} {st : List Value} {h : ab_Hp} {Q : ab_O → ab_Hp → Prop} (hv : ab_isA v0 = true) : wp 118 1 [v0, v1, v2] st h Q = wp 118 2 [v0, v1, v2] (v0 :: st) h Q := wp_aload_n (by decide +kernel : ab_cod 118 1 = some (.aload_n 0, 1, 0, 0, 0, 0)) hv
set_option maxRecDepth 100000 in
theorem i118_2 {v0 v1 v2 : Value} {r : Nat} {st : List Value} {h : ab_Hp} {Q : ab_O → ab_Hp → Prop} (hk : (ab_sh h r).1 = 17) : wp 118 2 [v0, v1, v2] (.ref r :: st) h Q = wp 118 5 [v0, v1, v2] (.int (ab_hi h r 8) :: st) h Q := wp_gf (by decide +kernel : ab_cod 118 2 = some (.getfield 96, 3, 7, 8, 780, 0)) hk
set_option maxRecDepth 100000 in
theorem i118_5 {v0 v1 v2 : Value} {x y : Int32} {st : List Value} {h : ab_Hp} {Q : ab_O → ab_Hp → Prop} : wp 118 5 [v0, v1, v2] (.int y :: .int x :: st) h Q = wp 118 6 [v0, v1, v2] (.int (x * y) :: st) h Q := wp_stp (ri := (.imul, 1, 0, 0, 0, 0)) (by decide +kernel) rfl rfl rfl
set_option maxRecDepth 100000 in
theorem i118_6 {v0 v1 v2 : Value} {w : Int32} {st : List Value} {h : ab_Hp} {Q : ab_O → ab_Hp → Prop} : wp 118 6 [v0, v1, v2] (.int w :: st) h Q = wp 118 7 [v0, ab_clr v1, .int w] st h Q := wp_stp (ri := (.istore_n 2, 1, 0, 0, 0, 0)) (by decide +kernel) rfl rfl rfl
set_option maxRecDepth 100000 in
theorem i118_7 {v0 v1 v2 : Value} {st : List Value} {h : ab_Hp} {Q : ab_O → ab_Hp → Prop} (hv : ab_isA v0 = true) : wp 118 7 [v0, v1, v2] st h Q = wp 118 8 [v0, v1, v2] (v0 :: st) h Q := wp_aload_n (by decide +kernel : ab_cod 118 7 = some (.aload_n 0, 1, 0, 0, 0, 0)) hv
set_option maxRecDepth 100000 in
theorem i118_8 {v0 v1 v2 : Value} {r : Nat} {st : List Value} {h : ab_Hp} {Q : ab_O → ab_Hp → Prop} (hk : (ab_sh h r).1 = 17) : wp 118 8 [v0, v1, v2] (.ref r :: st) h Q = wp 118 11 [v0, v1, v2] (.int (ab_hi h r 9) :: st) h Q := wp_gf (by decide +kernel : ab_cod 118 8 = some (.getfield 93, 3, 7, 9, 781, 0)) hk
set_option maxRecDepth 100000 in
theorem i118_11 {v0 v1 v2 : Value} {x : Int32} {st : List Value} {h : ab_Hp} {Q : ab_O → ab_Hp → Prop} : wp 118 11 [v0, v1, v2] (.int x :: st) h Q = if x = nI 0 then wp 118 48 [v0, v1, v2] st h Q else if x = nI 1 then wp 118 100 [v0, v1, v2] st h Q else if x = nI 2 then wp 118 117 [v0, v1, v2] st h Q else if x = nI 3 then wp 118 134 [v0, v1, v2] st h Q else if x = nI 4 then wp 118 185 [v0, v1, v2] st h Q else if x = nI 5 then wp 118 158 [v0, v1, v2] st h Q else wp 118 185 [v0, v1, v2] st h Q := by
  rw [wp_swt (by decide +kernel : ab_cod 118 11 = some (.tableswitch 174 0 5 #[37, 89, 106, 123, 174, 147], 37, 0, 0, 0, 0)) (by decide)]
  show wp 118 (if x = nI 0 then 48 else if x = nI 1 then 100 else if x = nI 2 then 117 else if x = nI 3 then 134 else if x = nI 4 then 185 else if x = nI 5 then 158 else 185) _ _ _ _ = _
  simp only [wp_ite]
set_option maxRecDepth 100000 in
theorem i118_48 {v0 v1 v2 : Value} {st : List Value} {h : ab_Hp} {Q : ab_O → ab_Hp → Prop} (hv : ab_isA v0 = true) : wp 118 48 [v0, v1, v2] st h Q = wp 118 49 [v0, v1, v2] (v0 :: st) h Q := wp_aload_n (by decide +kernel : ab_cod 118 48 = some (.aload_n 0, 1, 0, 0, 0, 0)) hv
set_option maxRecDepth 100000 in
theorem i118_49 {v0 v1 v2 : Value} {r : Nat} {st : List Value} {h : ab_Hp} {Q : ab_O → ab_Hp → Prop} (hk : (ab_sh h r).1 = 17) : wp 118 49 [v0, v1, v2] (.ref r :: st) h Q = wp 118 52 [v0, v1, v2] (va_rf (ab_hr h r 7) :: st) h Q := wp_gf (by decide +kernel : ab_cod 118 49 = some (.getfield 22, 3, 7, 7, 779, 1)) hk
set_option maxRecDepth 100000 in
theorem i118_52 {v0 v1 : Value} {x : Int32} {st : List Value} {h : ab_Hp} {Q : ab_O → ab_Hp → Prop} : wp 118 52 [v0, v1, .int x] st h Q = wp 118 53 [v0, v1, .int x] (.int x :: st) h Q := wp_stp (ri := (.iload_n 2, 1, 0, 0, 0, 0)) (by decide +kernel) rfl rfl rfl
set_option maxRecDepth 100000 in
theorem i118_53 {v0 v2 : Value} {x : Int32} {st : List Value} {h : ab_Hp} {Q : ab_O → ab_Hp → Prop} : wp 118 53 [v0, .int x, v2] st h Q = wp 118 54 [v0, .int x, v2] (.int x :: st) h Q := wp_stp (ri := (.iload_n 1, 1, 0, 0, 0, 0)) (by decide +kernel) rfl rfl rfl
set_option maxRecDepth 100000 in
theorem i118_54 {v0 v1 v2 : Value} {st : List Value} {h : ab_Hp} {Q : ab_O → ab_Hp → Prop} : wp 118 54 [v0, v1, v2] st h Q = wp 118 56 [v0, v1, v2] (.int (nI 48) :: st) h Q := wp_stp (ri := (.bipush 48, 2, 0, 0, 0, 0)) (by decide +kernel) rfl rfl rfl
set_option maxRecDepth 100000 in
theorem i118_56 {v0 v1 v2 : Value} {x y : Int32} {st : List Value} {h : ab_Hp} {Q : ab_O → ab_Hp → Prop} : wp 118 56 [v0, v1, v2] (.int y :: .int x :: st) h Q = wp 118 57 [v0, v1, v2] (.int (x - y) :: st) h Q := wp_stp (ri := (.isub, 1, 0, 0, 0, 0)) (by decide +kernel) rfl rfl rfl
set_option maxRecDepth 100000 in
theorem i118_57 {v0 v1 v2 : Value} {r : Nat} {x y : Int32} {st : List Value} {h : ab_Hp} {Q : ab_O → ab_Hp → Prop} (hk : (ab_sh h r).1 = 1 ∧ ab_in x (ab_sh h r).2 = true) : wp 118 57 [v0, v1, v2] (.int y :: .int x :: .ref r :: st) h Q = wp 118 58 [v0, v1, v2] st (ab_setI h (ab_u (ab_hi h) r x.toNatClampNeg y)) Q := wp_ias (by decide +kernel : ab_cod 118 57 = some (.iastore, 1, 0, 0, 0, 0)) hk
set_option maxRecDepth 100000 in
theorem i118_58 {v0 v1 v2 : Value} {st : List Value} {h : ab_Hp} {Q : ab_O → ab_Hp → Prop} (hv : ab_isA v0 = true) : wp 118 58 [v0, v1, v2] st h Q = wp 118 59 [v0, v1, v2] (v0 :: st) h Q := wp_aload_n (by decide +kernel : ab_cod 118 58 = some (.aload_n 0, 1, 0, 0, 0, 0)) hv
set_option maxRecDepth 100000 in
theorem i118_59 {v0 v1 v2 : Value} {r : Nat} {st : List Value} {h : ab_Hp} {Q : ab_O → ab_Hp → Prop} (hk : (ab_sh h r).1 = 17) : wp 118 59 [v0, v1, v2] (.ref r :: st) h Q = wp 118 62 [v0, v1, v2] (va_rf (ab_hr h r 7) :: st) h Q := wp_gf (by decide +kernel : ab_cod 118 59 = some (.getfield 22, 3, 7, 7, 779, 1)) hk
set_option maxRecDepth 100000 in
theorem i118_62 {v0 v1 : Value} {x : Int32} {st : List Value} {h : ab_Hp} {Q : ab_O → ab_Hp → Prop} : wp 118 62 [v0, v1, .int x] st h Q = wp 118 63 [v0, v1, .int x] (.int x :: st) h Q := wp_stp (ri := (.iload_n 2, 1, 0, 0, 0, 0)) (by decide +kernel) rfl rfl rfl
set_option maxRecDepth 100000 in
theorem i118_63 {v0 v1 v2 : Value} {st : List Value} {h : ab_Hp} {Q : ab_O → ab_Hp → Prop} : wp 118 63 [v0, v1, v2] st h Q = wp 118 64 [v0, v1, v2] (.int (nI 1) :: st) h Q := wp_stp (ri := (.iconst 1, 1, 0, 0, 0, 0)) (by decide +kernel) rfl rfl rfl
set_option maxRecDepth 100000 in
theorem i118_64 {v0 v1 v2 : Value} {x y : Int32} {st : List Value} {h : ab_Hp} {Q : ab_O → ab_Hp → Prop} : wp 118 64 [v0, v1, v2] (.int y :: .int x :: st) h Q = wp 118 65 [v0, v1, v2] (.int (x + y) :: st) h Q := wp_stp (ri := (.iadd, 1, 0, 0, 0, 0)) (by decide +kernel) rfl rfl rfl
set_option maxRecDepth 100000 in
theorem i118_65 {v0 v1 v2 : Value} {st : List Value} {h : ab_Hp} {Q : ab_O → ab_Hp → Prop} : wp 118 65 [v0, v1, v2] st h Q = wp 118 66 [v0, v1, v2] (.int (nI 0) :: st) h Q := wp_stp (ri := (.iconst 0, 1, 0, 0, 0, 0)) (by decide +kernel) rfl rfl rfl
set_option maxRecDepth 100000 in
theorem i118_66 {v0 v1 v2 : Value} {r : Nat} {x y : Int32} {st : List Value} {h : ab_Hp} {Q : ab_O → ab_Hp → Prop} (hk : (ab_sh h r).1 = 1 ∧ ab_in x (ab_sh h r).2 = true) : wp 118 66 [v0, v1, v2] (.int y :: .int x :: .ref r :: st) h Q = wp 118 67 [v0, v1, v2] st (ab_setI h (ab_u (ab_hi h) r x.toNatClampNeg y)) Q := wp_ias (by decide +kernel : ab_cod 118 66 = some (.iastore, 1, 0, 0, 0, 0)) hk
set_option maxRecDepth 100000 in
theorem i118_67 {v0 v1 v2 : Value} {st : List Value} {h : ab_Hp} {Q : ab_O → ab_Hp → Prop} (hv : ab_isA v0 = true) : wp 118 67 [v0, v1, v2] st h Q = wp 118 68 [v0, v1, v2] (v0 :: st) h Q := wp_aload_n (by decide +kernel : ab_cod 118 67 = some (.aload_n 0, 1, 0, 0, 0, 0)) hv
set_option maxRecDepth 100000 in
theorem i118_68 {v0 v1 v2 : Value} {r : Nat} {st : List Value} {h : ab_Hp} {Q : ab_O → ab_Hp → Prop} (hk : (ab_sh h r).1 = 17) : wp 118 68 [v0, v1, v2] (.ref r :: st) h Q = wp 118 71 [v0, v1, v2] (va_rf (ab_hr h r 7) :: st) h Q := wp_gf (by decide +kernel : ab_cod 118 68 = some (.getfield 22, 3, 7, 7, 779, 1)) hk
set_option maxRecDepth 100000 in
theorem i118_71 {v0 v1 : Value} {x : Int32} {st : List Value} {h : ab_Hp} {Q : ab_O → ab_Hp → Prop} : wp 118 71 [v0, v1, .int x] st h Q = wp 118 72 [v0, v1, .int x] (.int x :: st) h Q := wp_stp (ri := (.iload_n 2, 1, 0, 0, 0, 0)) (by decide +kernel) rfl rfl rfl
set_option maxRecDepth 100000 in
theorem i118_72 {v0 v1 v2 : Value} {st : List Value} {h : ab_Hp} {Q : ab_O → ab_Hp → Prop} : wp 118 72 [v0, v1, v2] st h Q = wp 118 73 [v0, v1, v2] (.int (nI 2) :: st) h Q := wp_stp (ri := (.iconst 2, 1, 0, 0, 0, 0)) (by decide +kernel) rfl rfl rfl
set_option maxRecDepth 100000 in
theorem i118_73 {v0 v1 v2 : Value} {x y : Int32} {st : List Value} {h : ab_Hp} {Q : ab_O → ab_Hp → Prop} : wp 118 73 [v0, v1, v2] (.int y :: .int x :: st) h Q = wp 118 74 [v0, v1, v2] (.int (x + y) :: st) h Q := wp_stp (ri := (.iadd, 1, 0, 0, 0, 0)) (by decide +kernel) rfl rfl rfl
set_option maxRecDepth 100000 in
theorem i118_74 {v0 v1 v2 : Value} {st : List Value} {h : ab_Hp} {Q : ab_O → ab_Hp → Prop} : wp 118 74 [v0, v1, v2] st h Q = wp 118 75 [v0, v1, v2] (.int (nI 1) :: st) h Q := wp_stp (ri := (.iconst 1, 1, 0, 0, 0, 0)) (by decide +kernel) rfl rfl rfl
set_option maxRecDepth 100000 in
theorem i118_75 {v0 v1 v2 : Value} {r : Nat} {x y : Int32} {st : List Value} {h : ab_Hp} {Q : ab_O → ab_Hp → Prop} (hk : (ab_sh h r).1 = 1 ∧ ab_in x (ab_sh h r).2 = true) : wp 118 75 [v0, v1, v2] (.int y :: .int x :: .ref r :: st) h Q = wp 118 76 [v0, v1, v2] st (ab_setI h (ab_u (ab_hi h) r x.toNatClampNeg y)) Q := wp_ias (by decide +kernel : ab_cod 118 75 = some (.iastore, 1, 0, 0, 0, 0)) hk
set_option maxRecDepth 100000 in
theorem i118_76 {v0 v1 v2 : Value} {st : List Value} {h : ab_Hp} {Q : ab_O → ab_Hp → Prop} (hv : ab_isA v0 = true) : wp 118 76 [v0, v1, v2] st h Q = wp 118 77 [v0, v1, v2] (v0 :: st) h Q := wp_aload_n (by decide +kernel : ab_cod 118 76 = some (.aload_n 0, 1, 0, 0, 0, 0)) hv
set_option maxRecDepth 100000 in
theorem i118_77 {v0 v1 v2 : Value} {v : Value} {st : List Value} {h : ab_Hp} {Q : ab_O → ab_Hp → Prop} (hv : v.category = 1) : wp 118 77 [v0, v1, v2] (v :: st) h Q = wp 118 78 [v0, v1, v2] (v :: v :: st) h Q := wp_dup (by decide +kernel : ab_cod 118 77 = some (.dup, 1, 0, 0, 0, 0)) hv
set_option maxRecDepth 100000 in
theorem i118_78 {v0 v1 v2 : Value} {r : Nat} {st : List Value} {h : ab_Hp} {Q : ab_O → ab_Hp → Prop} (hk : (ab_sh h r).1 = 17) : wp 118 78 [v0, v1, v2] (.ref r :: st) h Q = wp 118 81 [v0, v1, v2] (.int (ab_hi h r 8) :: st) h Q := wp_gf (by decide +kernel : ab_cod 118 78 = some (.getfield 96, 3, 7, 8, 780, 0)) hk
set_option maxRecDepth 100000 in
theorem i118_81 {v0 v1 v2 : Value} {st : List Value} {h : ab_Hp} {Q : ab_O → ab_Hp → Prop} : wp 118 81 [v0, v1, v2] st h Q = wp 118 82 [v0, v1, v2] (.int (nI 1) :: st) h Q := wp_stp (ri := (.iconst 1, 1, 0, 0, 0, 0)) (by decide +kernel) rfl rfl rfl
set_option maxRecDepth 100000 in
theorem i118_82 {v0 v1 v2 : Value} {x y : Int32} {st : List Value} {h : ab_Hp} {Q : ab_O → ab_Hp → Prop} : wp 118 82 [v0, v1, v2] (.int y :: .int x :: st) h Q = wp 118 83 [v0, v1, v2] (.int (x + y) :: st) h Q := wp_stp (ri := (.iadd, 1, 0, 0, 0, 0)) (by decide +kernel) rfl rfl rfl
set_option maxRecDepth 100000 in
theorem i118_83 {v0 v1 v2 : Value} {r : Nat} {x : Int32} {st : List Value} {h : ab_Hp} {Q : ab_O → ab_Hp → Prop} (hk : (ab_sh h r).1 = 17) : wp 118 83 [v0, v1, v2] (.int x :: .ref r :: st) h Q = wp 118 86 [v0, v1, v2] st (ab_setI h (ab_u (ab_hi h) r 8 x)) Q := wp_pf (by decide +kernel : ab_cod 118 83 = some (.putfield 96, 3, 7, 8, 780, 0)) hk rfl
set_option maxRecDepth 100000 in
theorem i118_86 {v0 v1 v2 : Value} {st : List Value} {h : ab_Hp} {Q : ab_O → ab_Hp → Prop} (hv : ab_isA v0 = true) : wp 118 86 [v0, v1, v2] st h Q = wp 118 87 [v0, v1, v2] (v0 :: st) h Q := wp_aload_n (by decide +kernel : ab_cod 118 86 = some (.aload_n 0, 1, 0, 0, 0, 0)) hv
set_option maxRecDepth 100000 in
theorem i118_87 {v0 v1 v2 : Value} {st : List Value} {h : ab_Hp} {Q : ab_O → ab_Hp → Prop} : wp 118 87 [v0, v1, v2] st h Q = wp 118 88 [v0, v1, v2] (.int (nI 1) :: st) h Q := wp_stp (ri := (.iconst 1, 1, 0, 0, 0, 0)) (by decide +kernel) rfl rfl rfl
set_option maxRecDepth 100000 in
theorem i118_88 {v0 v1 v2 : Value} {r : Nat} {x : Int32} {st : List Value} {h : ab_Hp} {Q : ab_O → ab_Hp → Prop} (hk : (ab_sh h r).1 = 17) : wp 118 88 [v0, v1, v2] (.int x :: .ref r :: st) h Q = wp 118 91 [v0, v1, v2] st (ab_setI h (ab_u (ab_hi h) r 9 x)) Q := wp_pf (by decide +kernel : ab_cod 118 88 = some (.putfield 93, 3, 7, 9, 781, 0)) hk rfl
set_option maxRecDepth 100000 in
theorem i118_91 {v0 v2 : Value} {x : Int32} {st : List Value} {h : ab_Hp} {Q : ab_O → ab_Hp → Prop} : wp 118 91 [v0, .int x, v2] st h Q = wp 118 92 [v0, .int x, v2] (.int x :: st) h Q := wp_stp (ri := (.iload_n 1, 1, 0, 0, 0, 0)) (by decide +kernel) rfl rfl rfl
set_option maxRecDepth 100000 in
theorem i118_92 {v0 v1 v2 : Value} {st : List Value} {h : ab_Hp} {Q : ab_O → ab_Hp → Prop} : wp 118 92 [v0, v1, v2] st h Q = wp 118 94 [v0, v1, v2] (.int (nI 48) :: st) h Q := wp_stp (ri := (.bipush 48, 2, 0, 0, 0, 0)) (by decide +kernel) rfl rfl rfl
set_option maxRecDepth 100000 in
theorem i118_94 {v0 v1 v2 : Value} {st : List Value} {h : ab_Hp} {Q : ab_O → ab_Hp → Prop} : wp 118 94 [v0, v1, v2] st h Q = wp 118 96 [v0, v1, v2] (.int (nI 53) :: st) h Q := wp_stp (ri := (.bipush 53, 2, 0, 0, 0, 0)) (by decide +kernel) rfl rfl rfl
set_option maxRecDepth 100000 in
theorem i118_96 {v0 v1 v2 : Value} {a0 : Int32} {a1 : Int32} {a2 : Int32} {st : List Value} {h : ab_Hp} {Q : ab_O → ab_Hp → Prop} (hl : st.length ≤ 4) : wp 118 96 [v0, v1, v2] (.int a2 :: .int a1 :: .int a0 :: st) h Q = wp 87 0 [.int a0, .int a1, .int a2] [] h (ab_K 118 96 [v0, v1, v2] st Q) := wp_callS (as := [.int a0, .int a1, .int a2]) (by decide +kernel : ab_cod 118 96 = some (.invokestatic 33, 3, 87, 3, 1, 821)) rfl rfl rfl rfl hl
set_option maxRecDepth 100000 in
theorem i118_99 {v0 v1 v2 : Value} {x : Int32} {h : ab_Hp} {Q : ab_O → ab_Hp → Prop} (hx : x = 0 ∨ x = 1) : wp 118 99 [v0, v1, v2] [.int x] h Q = Q (.inl (some (.int x))) h := wp_zret (by decide +kernel : ab_cod 118 99 = some (.ireturn, 1, 0, 0, 0, 0)) rfl hx
set_option maxRecDepth 100000 in
theorem i118_100 {v0 v1 v2 : Value} {st : List Value} {h : ab_Hp} {Q : ab_O → ab_Hp → Prop} (hv : ab_isA v0 = true) : wp 118 100 [v0, v1, v2] st h Q = wp 118 101 [v0, v1, v2] (v0 :: st) h Q := wp_aload_n (by decide +kernel : ab_cod 118 100 = some (.aload_n 0, 1, 0, 0, 0, 0)) hv
set_option maxRecDepth 100000 in
theorem i118_101 {v0 v1 v2 : Value} {st : List Value} {h : ab_Hp} {Q : ab_O → ab_Hp → Prop} : wp 118 101 [v0, v1, v2] st h Q = wp 118 102 [v0, v1, v2] (.int (nI 2) :: st) h Q := wp_stp (ri := (.iconst 2, 1, 0, 0, 0, 0)) (by decide +kernel) rfl rfl rfl
set_option maxRecDepth 100000 in
theorem i118_102 {v0 v1 v2 : Value} {r : Nat} {x : Int32} {st : List Value} {h : ab_Hp} {Q : ab_O → ab_Hp → Prop} (hk : (ab_sh h r).1 = 17) : wp 118 102 [v0, v1, v2] (.int x :: .ref r :: st) h Q = wp 118 105 [v0, v1, v2] st (ab_setI h (ab_u (ab_hi h) r 9 x)) Q := wp_pf (by decide +kernel : ab_cod 118 102 = some (.putfield 93, 3, 7, 9, 781, 0)) hk rfl
set_option maxRecDepth 100000 in
theorem i118_105 {v0 v2 : Value} {x : Int32} {st : List Value} {h : ab_Hp} {Q : ab_O → ab_Hp → Prop} : wp 118 105 [v0, .int x, v2] st h Q = wp 118 106 [v0, .int x, v2] (.int x :: st) h Q := wp_stp (ri := (.iload_n 1, 1, 0, 0, 0, 0)) (by decide +kernel) rfl rfl rfl
set_option maxRecDepth 100000 in
theorem i118_106 {v0 v1 v2 : Value} {st : List Value} {h : ab_Hp} {Q : ab_O → ab_Hp → Prop} : wp 118 106 [v0, v1, v2] st h Q = wp 118 108 [v0, v1, v2] (.int (nI 61) :: st) h Q := wp_stp (ri := (.bipush 61, 2, 0, 0, 0, 0)) (by decide +kernel) rfl rfl rfl
set_option maxRecDepth 100000 in
theorem i118_108 {v0 v1 v2 : Value} {x y : Int32} {st : List Value} {h : ab_Hp} {Q : ab_O → ab_Hp → Prop} : wp 118 108 [v0, v1, v2] (.int y :: .int x :: st) h Q = if ¬ x = y then wp 118 115 [v0, v1, v2] st h Q else wp 118 111 [v0, v1, v2] st h Q := wp_icmpP (by decide +kernel : ab_cod 118 108 = some (.if_icmp .ne 7, 3, 115, 0, 0, 0)) rfl
set_option maxRecDepth 100000 in
theorem i118_111 {v0 v1 v2 : Value} {st : List Value} {h : ab_Hp} {Q : ab_O → ab_Hp → Prop} : wp 118 111 [v0, v1, v2] st h Q = wp 118 112 [v0, v1, v2] (.int (nI 1) :: st) h Q := wp_stp (ri := (.iconst 1, 1, 0, 0, 0, 0)) (by decide +kernel) rfl rfl rfl
set_option maxRecDepth 100000 in
theorem i118_112 {v0 v1 v2 : Value} {st : List Value} {h : ab_Hp} {Q : ab_O → ab_Hp → Prop} : wp 118 112 [v0, v1, v2] st h Q = wp 118 116 [v0, v1, v2] st h Q := wp_stp (ri := (.goto 4, 3, 116, 0, 0, 0)) (by decide +kernel) rfl rfl rfl
set_option maxRecDepth 100000 in
theorem i118_115 {v0 v1 v2 : Value} {st : List Value} {h : ab_Hp} {Q : ab_O → ab_Hp → Prop} : wp 118 115 [v0, v1, v2] st h Q = wp 118 116 [v0, v1, v2] (.int (nI 0) :: st) h Q := wp_stp (ri := (.iconst 0, 1, 0, 0, 0, 0)) (by decide +kernel) rfl rfl rfl
set_option maxRecDepth 100000 in
theorem i118_116 {v0 v1 v2 : Value} {x : Int32} {h : ab_Hp} {Q : ab_O → ab_Hp → Prop} (hx : x = 0 ∨ x = 1) : wp 118 116 [v0, v1, v2] [.int x] h Q = Q (.inl (some (.int x))) h := wp_zret (by decide +kernel : ab_cod 118 116 = some (.ireturn, 1, 0, 0, 0, 0)) rfl hx
set_option maxRecDepth 100000 in
theorem i118_117 {v0 v1 v2 : Value} {st : List Value} {h : ab_Hp} {Q : ab_O → ab_Hp → Prop} (hv : ab_isA v0 = true) : wp 118 117 [v0, v1, v2] st h Q = wp 118 118 [v0, v1, v2] (v0 :: st) h Q := wp_aload_n (by decide +kernel : ab_cod 118 117 = some (.aload_n 0, 1, 0, 0, 0, 0)) hv
set_option maxRecDepth 100000 in
theorem i118_118 {v0 v2 : Value} {x : Int32} {st : List Value} {h : ab_Hp} {Q : ab_O → ab_Hp → Prop} : wp 118 118 [v0, .int x, v2] st h Q = wp 118 119 [v0, .int x, v2] (.int x :: st) h Q := wp_stp (ri := (.iload_n 1, 1, 0, 0, 0, 0)) (by decide +kernel) rfl rfl rfl
set_option maxRecDepth 100000 in
theorem i118_119 {v0 v2 : Value} {x : Int32} {st : List Value} {h : ab_Hp} {Q : ab_O → ab_Hp → Prop} : wp 118 119 [v0, .int x, v2] st h Q = wp 118 120 [v0, .int x, v2] (.int x :: st) h Q := wp_stp (ri := (.iload_n 1, 1, 0, 0, 0, 0)) (by decide +kernel) rfl rfl rfl
set_option maxRecDepth 100000 in
theorem i118_120 {v0 v1 v2 : Value} {st : List Value} {h : ab_Hp} {Q : ab_O → ab_Hp → Prop} : wp 118 120 [v0, v1, v2] st h Q = wp 118 122 [v0, v1, v2] (.int (nI 48) :: st) h Q := wp_stp (ri := (.bipush 48, 2, 0, 0, 0, 0)) (by decide +kernel) rfl rfl rfl
set_option maxRecDepth 100000 in
theorem i118_122 {v0 v1 v2 : Value} {x y : Int32} {st : List Value} {h : ab_Hp} {Q : ab_O → ab_Hp → Prop} : wp 118 122 [v0, v1, v2] (.int y :: .int x :: st) h Q = if ¬ x = y then wp 118 129 [v0, v1, v2] st h Q else wp 118 125 [v0, v1, v2] st h Q := wp_icmpP (by decide +kernel : ab_cod 118 122 = some (.if_icmp .ne 7, 3, 129, 0, 0, 0)) rfl
set_option maxRecDepth 100000 in
theorem i118_125 {v0 v1 v2 : Value} {st : List Value} {h : ab_Hp} {Q : ab_O → ab_Hp → Prop} : wp 118 125 [v0, v1, v2] st h Q = wp 118 126 [v0, v1, v2] (.int (nI 4) :: st) h Q := wp_stp (ri := (.iconst 4, 1, 0, 0, 0, 0)) (by decide +kernel) rfl rfl rfl
set_option maxRecDepth 100000 in
theorem i118_126 {v0 v1 v2 : Value} {st : List Value} {h : ab_Hp} {Q : ab_O → ab_Hp → Prop} : wp 118 126 [v0, v1, v2] st h Q = wp 118 130 [v0, v1, v2] st h Q := wp_stp (ri := (.goto 4, 3, 130, 0, 0, 0)) (by decide +kernel) rfl rfl rfl
set_option maxRecDepth 100000 in
theorem i118_129 {v0 v1 v2 : Value} {st : List Value} {h : ab_Hp} {Q : ab_O → ab_Hp → Prop} : wp 118 129 [v0, v1, v2] st h Q = wp 118 130 [v0, v1, v2] (.int (nI 3) :: st) h Q := wp_stp (ri := (.iconst 3, 1, 0, 0, 0, 0)) (by decide +kernel) rfl rfl rfl
set_option maxRecDepth 100000 in
theorem i118_130 {v0 v1 v2 : Value} {r : Nat} {a0 : Int32} {a1 : Int32} {st : List Value} {h : ab_Hp} {Q : ab_O → ab_Hp → Prop} (hl : st.length ≤ 4) (hk : (ab_sh h r).1 = 17) : wp 118 130 [v0, v1, v2] (.int a1 :: .int a0 :: .ref r :: st) h Q = wp 117 0 [.ref r, .int a0, .int a1, ab_nov] [] h (ab_K 118 130 [v0, v1, v2] st Q) := wp_callV (as := [.int a0, .int a1]) (by decide +kernel : ab_cod 118 130 = some (.invokevirtual 99, 3, 117, 3, 0, 924)) rfl rfl rfl rfl hl hk
set_option maxRecDepth 100000 in
theorem i118_133 {v0 v1 v2 : Value} {x : Int32} {h : ab_Hp} {Q : ab_O → ab_Hp → Prop} (hx : x = 0 ∨ x = 1) : wp 118 133 [v0, v1, v2] [.int x] h Q = Q (.inl (some (.int x))) h := wp_zret (by decide +kernel : ab_cod 118 133 = some (.ireturn, 1, 0, 0, 0, 0)) rfl hx
set_option maxRecDepth 100000 in
theorem i118_134 {v0 v1 v2 : Value} {st : List Value} {h : ab_Hp} {Q : ab_O → ab_Hp → Prop} (hv : ab_isA v0 = true) : wp 118 134 [v0, v1, v2] st h Q = wp 118 135 [v0, v1, v2] (v0 :: st) h Q := wp_aload_n (by decide +kernel : ab_cod 118 134 = some (.aload_n 0, 1, 0, 0, 0, 0)) hv
set_option maxRecDepth 100000 in
theorem i118_135 {v0 v2 : Value} {x : Int32} {st : List Value} {h : ab_Hp} {Q : ab_O → ab_Hp → Prop} : wp 118 135 [v0, .int x, v2] st h Q = wp 118 136 [v0, .int x, v2] (.int x :: st) h Q := wp_stp (ri := (.iload_n 1, 1, 0, 0, 0, 0)) (by decide +kernel) rfl rfl rfl
set_option maxRecDepth 100000 in
theorem i118_136 {v0 v1 v2 : Value} {st : List Value} {h : ab_Hp} {Q : ab_O → ab_Hp → Prop} : wp 118 136 [v0, v1, v2] st h Q = wp 118 137 [v0, v1, v2] (.int (nI 4) :: st) h Q := wp_stp (ri := (.iconst 4, 1, 0, 0, 0, 0)) (by decide +kernel) rfl rfl rfl
set_option maxRecDepth 100000 in
theorem i118_137 {v0 v1 v2 : Value} {r : Nat} {a0 : Int32} {a1 : Int32} {st : List Value} {h : ab_Hp} {Q : ab_O → ab_Hp → Prop} (hl : st.length ≤ 4) (hk : (ab_sh h r).1 = 17) : wp 118 137 [v0, v1, v2] (.int a1 :: .int a0 :: .ref r :: st) h Q = wp 117 0 [.ref r, .int a0, .int a1, ab_nov] [] h (ab_K 118 137 [v0, v1, v2] st Q) := wp_callV (as := [.int a0, .int a1]) (by decide +kernel : ab_cod 118 137 = some (.invokevirtual 99, 3, 117, 3, 0, 924)) rfl rfl rfl rfl hl hk
set_option maxRecDepth 100000 in
theorem i118_140 {v0 v1 v2 : Value} {x : Int32} {st : List Value} {h : ab_Hp} {Q : ab_O → ab_Hp → Prop} : wp 118 140 [v0, v1, v2] (.int x :: st) h Q = if ¬ x = 0 then wp 118 152 [v0, v1, v2] st h Q else wp 118 143 [v0, v1, v2] st h Q := wp_ifcP (by decide +kernel : ab_cod 118 140 = some (.ifCond .ne 12, 3, 152, 0, 0, 0)) rfl
set_option maxRecDepth 100000 in
theorem i118_143 {v0 v1 v2 : Value} {st : List Value} {h : ab_Hp} {Q : ab_O → ab_Hp → Prop} (hv : ab_isA v0 = true) : wp 118 143 [v0, v1, v2] st h Q = wp 118 144 [v0, v1, v2] (v0 :: st) h Q := wp_aload_n (by decide +kernel : ab_cod 118 143 = some (.aload_n 0, 1, 0, 0, 0, 0)) hv
set_option maxRecDepth 100000 in
theorem i118_144 {v0 v2 : Value} {x : Int32} {st : List Value} {h : ab_Hp} {Q : ab_O → ab_Hp → Prop} : wp 118 144 [v0, .int x, v2] st h Q = wp 118 145 [v0, .int x, v2] (.int x :: st) h Q := wp_stp (ri := (.iload_n 1, 1, 0, 0, 0, 0)) (by decide +kernel) rfl rfl rfl
set_option maxRecDepth 100000 in
theorem i118_145 {v0 v1 v2 : Value} {st : List Value} {h : ab_Hp} {Q : ab_O → ab_Hp → Prop} : wp 118 145 [v0, v1, v2] st h Q = wp 118 146 [v0, v1, v2] (.int (nI 1) :: st) h Q := wp_stp (ri := (.iconst 1, 1, 0, 0, 0, 0)) (by decide +kernel) rfl rfl rfl
set_option maxRecDepth 100000 in
theorem i118_146 {v0 v1 v2 : Value} {r : Nat} {a0 : Int32} {a1 : Int32} {st : List Value} {h : ab_Hp} {Q : ab_O → ab_Hp → Prop} (hl : st.length ≤ 4) (hk : (ab_sh h r).1 = 17) : wp 118 146 [v0, v1, v2] (.int a1 :: .int a0 :: .ref r :: st) h Q = wp 116 0 [.ref r, .int a0, .int a1] [] h (ab_K 118 146 [v0, v1, v2] st Q) := wp_callV (as := [.int a0, .int a1]) (by decide +kernel : ab_cod 118 146 = some (.invokevirtual 102, 3, 116, 3, 0, 928)) rfl rfl rfl rfl hl hk
set_option maxRecDepth 100000 in
theorem i118_149 {v0 v1 v2 : Value} {x : Int32} {st : List Value} {h : ab_Hp} {Q : ab_O → ab_Hp → Prop} : wp 118 149 [v0, v1, v2] (.int x :: st) h Q = if x = 0 then wp 118 156 [v0, v1, v2] st h Q else wp 118 152 [v0, v1, v2] st h Q := wp_ifcP (by decide +kernel : ab_cod 118 149 = some (.ifCond .eq 7, 3, 156, 0, 0, 0)) rfl
set_option maxRecDepth 100000 in
theorem i118_152 {v0 v1 v2 : Value} {st : List Value} {h : ab_Hp} {Q : ab_O → ab_Hp → Prop} : wp 118 152 [v0, v1, v2] st h Q = wp 118 153 [v0, v1, v2] (.int (nI 1) :: st) h Q := wp_stp (ri := (.iconst 1, 1, 0, 0, 0, 0)) (by decide +kernel) rfl rfl rfl
set_option maxRecDepth 100000 in
theorem i118_153 {v0 v1 v2 : Value} {st : List Value} {h : ab_Hp} {Q : ab_O → ab_Hp → Prop} : wp 118 153 [v0, v1, v2] st h Q = wp 118 157 [v0, v1, v2] st h Q := wp_stp (ri := (.goto 4, 3, 157, 0, 0, 0)) (by decide +kernel) rfl rfl rfl
set_option maxRecDepth 100000 in
theorem i118_156 {v0 v1 v2 : Value} {st : List Value} {h : ab_Hp} {Q : ab_O → ab_Hp → Prop} : wp 118 156 [v0, v1, v2] st h Q = wp 118 157 [v0, v1, v2] (.int (nI 0) :: st) h Q := wp_stp (ri := (.iconst 0, 1, 0, 0, 0, 0)) (by decide +kernel) rfl rfl rfl
set_option maxRecDepth 100000 in
theorem i118_157 {v0 v1 v2 : Value} {x : Int32} {h : ab_Hp} {Q : ab_O → ab_Hp → Prop} (hx : x = 0 ∨ x = 1) : wp 118 157 [v0, v1, v2] [.int x] h Q = Q (.inl (some (.int x))) h := wp_zret (by decide +kernel : ab_cod 118 157 = some (.ireturn, 1, 0, 0, 0, 0)) rfl hx
set_option maxRecDepth 100000 in
theorem i118_158 {v0 v1 v2 : Value} {st : List Value} {h : ab_Hp} {Q : ab_O → ab_Hp → Prop} (hv : ab_isA v0 = true) : wp 118 158 [v0, v1, v2] st h Q = wp 118 159 [v0, v1, v2] (v0 :: st) h Q := wp_aload_n (by decide +kernel : ab_cod 118 158 = some (.aload_n 0, 1, 0, 0, 0, 0)) hv
set_option maxRecDepth 100000 in
theorem i118_159 {v0 v1 v2 : Value} {r : Nat} {st : List Value} {h : ab_Hp} {Q : ab_O → ab_Hp → Prop} (hk : (ab_sh h r).1 = 17) : wp 118 159 [v0, v1, v2] (.ref r :: st) h Q = wp 118 162 [v0, v1, v2] (va_rf (ab_hr h r 7) :: st) h Q := wp_gf (by decide +kernel : ab_cod 118 159 = some (.getfield 22, 3, 7, 7, 779, 1)) hk
set_option maxRecDepth 100000 in
theorem i118_162 {v0 v1 : Value} {x : Int32} {st : List Value} {h : ab_Hp} {Q : ab_O → ab_Hp → Prop} : wp 118 162 [v0, v1, .int x] st h Q = wp 118 163 [v0, v1, .int x] (.int x :: st) h Q := wp_stp (ri := (.iload_n 2, 1, 0, 0, 0, 0)) (by decide +kernel) rfl rfl rfl
set_option maxRecDepth 100000 in
theorem i118_163 {v0 v1 v2 : Value} {st : List Value} {h : ab_Hp} {Q : ab_O → ab_Hp → Prop} : wp 118 163 [v0, v1, v2] st h Q = wp 118 164 [v0, v1, v2] (.int (nI 1) :: st) h Q := wp_stp (ri := (.iconst 1, 1, 0, 0, 0, 0)) (by decide +kernel) rfl rfl rfl
set_option maxRecDepth 100000 in
theorem i118_164 {v0 v1 v2 : Value} {x y : Int32} {st : List Value} {h : ab_Hp} {Q : ab_O → ab_Hp → Prop} : wp 118 164 [v0, v1, v2] (.int y :: .int x :: st) h Q = wp 118 165 [v0, v1, v2] (.int (x - y) :: st) h Q := wp_stp (ri := (.isub, 1, 0, 0, 0, 0)) (by decide +kernel) rfl rfl rfl
set_option maxRecDepth 100000 in
theorem i118_165 {v0 v2 : Value} {x : Int32} {st : List Value} {h : ab_Hp} {Q : ab_O → ab_Hp → Prop} : wp 118 165 [v0, .int x, v2] st h Q = wp 118 166 [v0, .int x, v2] (.int x :: st) h Q := wp_stp (ri := (.iload_n 1, 1, 0, 0, 0, 0)) (by decide +kernel) rfl rfl rfl
set_option maxRecDepth 100000 in
theorem i118_166 {v0 v1 v2 : Value} {st : List Value} {h : ab_Hp} {Q : ab_O → ab_Hp → Prop} : wp 118 166 [v0, v1, v2] st h Q = wp 118 168 [v0, v1, v2] (.int (nI 48) :: st) h Q := wp_stp (ri := (.bipush 48, 2, 0, 0, 0, 0)) (by decide +kernel) rfl rfl rfl
set_option maxRecDepth 100000 in
theorem i118_168 {v0 v1 v2 : Value} {x y : Int32} {st : List Value} {h : ab_Hp} {Q : ab_O → ab_Hp → Prop} : wp 118 168 [v0, v1, v2] (.int y :: .int x :: st) h Q = wp 118 169 [v0, v1, v2] (.int (x - y) :: st) h Q := wp_stp (ri := (.isub, 1, 0, 0, 0, 0)) (by decide +kernel) rfl rfl rfl
set_option maxRecDepth 100000 in
theorem i118_169 {v0 v1 v2 : Value} {r : Nat} {x y : Int32} {st : List Value} {h : ab_Hp} {Q : ab_O → ab_Hp → Prop} (hk : (ab_sh h r).1 = 1 ∧ ab_in x (ab_sh h r).2 = true) : wp 118 169 [v0, v1, v2] (.int y :: .int x :: .ref r :: st) h Q = wp 118 170 [v0, v1, v2] st (ab_setI h (ab_u (ab_hi h) r x.toNatClampNeg y)) Q := wp_ias (by decide +kernel : ab_cod 118 169 = some (.iastore, 1, 0, 0, 0, 0)) hk
set_option maxRecDepth 100000 in
theorem i118_170 {v0 v1 v2 : Value} {st : List Value} {h : ab_Hp} {Q : ab_O → ab_Hp → Prop} (hv : ab_isA v0 = true) : wp 118 170 [v0, v1, v2] st h Q = wp 118 171 [v0, v1, v2] (v0 :: st) h Q := wp_aload_n (by decide +kernel : ab_cod 118 170 = some (.aload_n 0, 1, 0, 0, 0, 0)) hv
set_option maxRecDepth 100000 in
theorem i118_171 {v0 v1 v2 : Value} {st : List Value} {h : ab_Hp} {Q : ab_O → ab_Hp → Prop} : wp 118 171 [v0, v1, v2] st h Q = wp 118 173 [v0, v1, v2] (.int (nI 6) :: st) h Q := wp_stp (ri := (.bipush 6, 2, 0, 0, 0, 0)) (by decide +kernel) rfl rfl rfl
set_option maxRecDepth 100000 in
theorem i118_173 {v0 v1 v2 : Value} {r : Nat} {x : Int32} {st : List Value} {h : ab_Hp} {Q : ab_O → ab_Hp → Prop} (hk : (ab_sh h r).1 = 17) : wp 118 173 [v0, v1, v2] (.int x :: .ref r :: st) h Q = wp 118 176 [v0, v1, v2] st (ab_setI h (ab_u (ab_hi h) r 9 x)) Q := wp_pf (by decide +kernel : ab_cod 118 173 = some (.putfield 93, 3, 7, 9, 781, 0)) hk rfl
set_option maxRecDepth 100000 in
theorem i118_176 {v0 v2 : Value} {x : Int32} {st : List Value} {h : ab_Hp} {Q : ab_O → ab_Hp → Prop} : wp 118 176 [v0, .int x, v2] st h Q = wp 118 177 [v0, .int x, v2] (.int x :: st) h Q := wp_stp (ri := (.iload_n 1, 1, 0, 0, 0, 0)) (by decide +kernel) rfl rfl rfl
set_option maxRecDepth 100000 in
theorem i118_177 {v0 v1 v2 : Value} {st : List Value} {h : ab_Hp} {Q : ab_O → ab_Hp → Prop} : wp 118 177 [v0, v1, v2] st h Q = wp 118 179 [v0, v1, v2] (.int (nI 50) :: st) h Q := wp_stp (ri := (.bipush 50, 2, 0, 0, 0, 0)) (by decide +kernel) rfl rfl rfl
set_option maxRecDepth 100000 in
theorem i118_179 {v0 v1 v2 : Value} {st : List Value} {h : ab_Hp} {Q : ab_O → ab_Hp → Prop} : wp 118 179 [v0, v1, v2] st h Q = wp 118 181 [v0, v1, v2] (.int (nI 56) :: st) h Q := wp_stp (ri := (.bipush 56, 2, 0, 0, 0, 0)) (by decide +kernel) rfl rfl rfl
set_option maxRecDepth 100000 in
theorem i118_181 {v0 v1 v2 : Value} {a0 : Int32} {a1 : Int32} {a2 : Int32} {st : List Value} {h : ab_Hp} {Q : ab_O → ab_Hp → Prop} (hl : st.length ≤ 4) : wp 118 181 [v0, v1, v2] (.int a2 :: .int a1 :: .int a0 :: st) h Q = wp 87 0 [.int a0, .int a1, .int a2] [] h (ab_K 118 181 [v0, v1, v2] st Q) := wp_callS (as := [.int a0, .int a1, .int a2]) (by decide +kernel : ab_cod 118 181 = some (.invokestatic 33, 3, 87, 3, 1, 821)) rfl rfl rfl rfl hl
set_option maxRecDepth 100000 in
theorem i118_184 {v0 v1 v2 : Value} {x : Int32} {h : ab_Hp} {Q : ab_O → ab_Hp → Prop} (hx : x = 0 ∨ x = 1) : wp 118 184 [v0, v1, v2] [.int x] h Q = Q (.inl (some (.int x))) h := wp_zret (by decide +kernel : ab_cod 118 184 = some (.ireturn, 1, 0, 0, 0, 0)) rfl hx
set_option maxRecDepth 100000 in
theorem i118_185 {v0 v1 v2 : Value} {st : List Value} {h : ab_Hp} {Q : ab_O → ab_Hp → Prop} (hv : ab_isA v0 = true) : wp 118 185 [v0, v1, v2] st h Q = wp 118 186 [v0, v1, v2] (v0 :: st) h Q := wp_aload_n (by decide +kernel : ab_cod 118 185 = some (.aload_n 0, 1, 0, 0, 0, 0)) hv
set_option maxRecDepth 100000 in
theorem i118_186 {v0 v2 : Value} {x : Int32} {st : List Value} {h : ab_Hp} {Q : ab_O → ab_Hp → Prop} : wp 118 186 [v0, .int x, v2] st h Q = wp 118 187 [v0, .int x, v2] (.int x :: st) h Q := wp_stp (ri := (.iload_n 1, 1, 0, 0, 0, 0)) (by decide +kernel) rfl rfl rfl
set_option maxRecDepth 100000 in
theorem i118_187 {v0 v1 v2 : Value} {st : List Value} {h : ab_Hp} {Q : ab_O → ab_Hp → Prop} (hv : ab_isA v0 = true) : wp 118 187 [v0, v1, v2] st h Q = wp 118 188 [v0, v1, v2] (v0 :: st) h Q := wp_aload_n (by decide +kernel : ab_cod 118 187 = some (.aload_n 0, 1, 0, 0, 0, 0)) hv
set_option maxRecDepth 100000 in
theorem i118_188 {v0 v1 v2 : Value} {r : Nat} {st : List Value} {h : ab_Hp} {Q : ab_O → ab_Hp → Prop} (hk : (ab_sh h r).1 = 17) : wp 118 188 [v0, v1, v2] (.ref r :: st) h Q = wp 118 191 [v0, v1, v2] (.int (ab_hi h r 9) :: st) h Q := wp_gf (by decide +kernel : ab_cod 118 188 = some (.getfield 93, 3, 7, 9, 781, 0)) hk
set_option maxRecDepth 100000 in
theorem i118_191 {v0 v1 v2 : Value} {st : List Value} {h : ab_Hp} {Q : ab_O → ab_Hp → Prop} : wp 118 191 [v0, v1, v2] st h Q = wp 118 192 [v0, v1, v2] (.int (nI 4) :: st) h Q := wp_stp (ri := (.iconst 4, 1, 0, 0, 0, 0)) (by decide +kernel) rfl rfl rfl
set_option maxRecDepth 100000 in
theorem i118_192 {v0 v1 v2 : Value} {x y : Int32} {st : List Value} {h : ab_Hp} {Q : ab_O → ab_Hp → Prop} : wp 118 192 [v0, v1, v2] (.int y :: .int x :: st) h Q = if ¬ x = y then wp 118 199 [v0, v1, v2] st h Q else wp 118 195 [v0, v1, v2] st h Q := wp_icmpP (by decide +kernel : ab_cod 118 192 = some (.if_icmp .ne 7, 3, 199, 0, 0, 0)) rfl
set_option maxRecDepth 100000 in
theorem i118_195 {v0 v1 v2 : Value} {st : List Value} {h : ab_Hp} {Q : ab_O → ab_Hp → Prop} : wp 118 195 [v0, v1, v2] st h Q = wp 118 196 [v0, v1, v2] (.int (nI 1) :: st) h Q := wp_stp (ri := (.iconst 1, 1, 0, 0, 0, 0)) (by decide +kernel) rfl rfl rfl
set_option maxRecDepth 100000 in
theorem i118_196 {v0 v1 v2 : Value} {st : List Value} {h : ab_Hp} {Q : ab_O → ab_Hp → Prop} : wp 118 196 [v0, v1, v2] st h Q = wp 118 200 [v0, v1, v2] st h Q := wp_stp (ri := (.goto 4, 3, 200, 0, 0, 0)) (by decide +kernel) rfl rfl rfl
set_option maxRecDepth 100000 in
theorem i118_199 {v0 v1 v2 : Value} {st : List Value} {h : ab_Hp} {Q : ab_O → ab_Hp → Prop} : wp 118 199 [v0, v1, v2] st h Q = wp 118 200 [v0, v1, v2] (.int (nI 0) :: st) h Q := wp_stp (ri := (.iconst 0, 1, 0, 0, 0, 0)) (by decide +kernel) rfl rfl rfl
set_option maxRecDepth 100000 in
theorem i118_200 {v0 v1 v2 : Value} {r : Nat} {a0 : Int32} {a1 : Int32} {st : List Value} {h : ab_Hp} {Q : ab_O → ab_Hp → Prop} (hl : st.length ≤ 4) (hk : (ab_sh h r).1 = 17) : wp 118 200 [v0, v1, v2] (.int a1 :: .int a0 :: .ref r :: st) h Q = wp 116 0 [.ref r, .int a0, .int a1] [] h (ab_K 118 200 [v0, v1, v2] st Q) := wp_callV (as := [.int a0, .int a1]) (by decide +kernel : ab_cod 118 200 = some (.invokevirtual 102, 3, 116, 3, 0, 928)) rfl rfl rfl rfl hl hk
set_option maxRecDepth 100000 in
theorem i118_203 {v0 v1 v2 : Value} {x : Int32} {h : ab_Hp} {Q : ab_O → ab_Hp → Prop} (hx : x = 0 ∨ x = 1) : wp 118 203 [v0, v1, v2] [.int x] h Q = Q (.inl (some (.int x))) h := wp_zret (by decide +kernel : ab_cod 118 203 = some (.ireturn, 1, 0, 0, 0, 0)) rfl hx
/-! 119: SeamBeatsModel.readBuffer()I -/
theorem i119_0 {v0 v1 : Value} {st : List Value} {h : ab_Hp} {Q : ab_O → ab_Hp → Prop} (hv : ab_isA v0 = true) : wp 119 0 [v0, v1] st h Q = wp 119 1 [v0, v1] (v0 :: st) h Q := wp_aload_n (by decide +kernel : ab_cod 119 0 = some (.aload_n 0, 1, 0, 0, 0, 0)) hv
theorem i119_1 {v0 v1 : Value} {st : List Value} {h : ab_Hp} {Q : ab_O → ab_Hp → Prop} : wp 119 1 [v0, v1] st h Q = wp 119 2 [v0, v1] (.int (nI 0) :: st) h Q := wp_stp (ri := (.iconst 0, 1, 0, 0, 0, 0)) (by decide +kernel) rfl rfl rfl
theorem i119_2 {v0 v1 : Value} {r : Nat} {x : Int32} {st : List Value} {h : ab_Hp} {Q : ab_O → ab_Hp → Prop} (hk : (ab_sh h r).1 = 17) : wp 119 2 [v0, v1] (.int x :: .ref r :: st) h Q = wp 119 5 [v0, v1] st (ab_setI h (ab_u (ab_hi h) r 8 x)) Q := wp_pf (by decide +kernel : ab_cod 119 2 = some (.putfield 96, 3, 7, 8, 780, 0)) hk rfl
theorem i119_5 {v0 v1 : Value} {st : List Value} {h : ab_Hp} {Q : ab_O → ab_Hp → Prop} (hv : ab_isA v0 = true) : wp 119 5 [v0, v1] st h Q = wp 119 6 [v0, v1] (v0 :: st) h Q := wp_aload_n (by decide +kernel : ab_cod 119 5 = some (.aload_n 0, 1, 0, 0, 0, 0)) hv
theorem i119_6 {v0 v1 : Value} {st : List Value} {h : ab_Hp} {Q : ab_O → ab_Hp → Prop} : wp 119 6 [v0, v1] st h Q = wp 119 7 [v0, v1] (.int (nI 0) :: st) h Q := wp_stp (ri := (.iconst 0, 1, 0, 0, 0, 0)) (by decide +kernel) rfl rfl rfl
theorem i119_7 {v0 v1 : Value} {r : Nat} {x : Int32} {st : List Value} {h : ab_Hp} {Q : ab_O → ab_Hp → Prop} (hk : (ab_sh h r).1 = 17) : wp 119 7 [v0, v1] (.int x :: .ref r :: st) h Q = wp 119 10 [v0, v1] st (ab_setI h (ab_u (ab_hi h) r 9 x)) Q := wp_pf (by decide +kernel : ab_cod 119 7 = some (.putfield 93, 3, 7, 9, 781, 0)) hk rfl
theorem i119_10 {v0 v1 : Value} {st : List Value} {h : ab_Hp} {Q : ab_O → ab_Hp → Prop} : wp 119 10 [v0, v1] st h Q = wp 119 11 [v0, v1] (.int (nI 0) :: st) h Q := wp_stp (ri := (.iconst 0, 1, 0, 0, 0, 0)) (by decide +kernel) rfl rfl rfl
theorem i119_11 {v0 v1 : Value} {w : Int32} {st : List Value} {h : ab_Hp} {Q : ab_O → ab_Hp → Prop} : wp 119 11 [v0, v1] (.int w :: st) h Q = wp 119 12 [ab_clr v0, .int w] st h Q := wp_stp (ri := (.istore_n 1, 1, 0, 0, 0, 0)) (by decide +kernel) rfl rfl rfl
theorem i119_12 {v0 : Value} {x : Int32} {st : List Value} {h : ab_Hp} {Q : ab_O → ab_Hp → Prop} : wp 119 12 [v0, .int x] st h Q = wp 119 13 [v0, .int x] (.int x :: st) h Q := wp_stp (ri := (.iload_n 1, 1, 0, 0, 0, 0)) (by decide +kernel) rfl rfl rfl
theorem i119_13 {v0 v1 : Value} {st : List Value} {h : ab_Hp} {Q : ab_O → ab_Hp → Prop} (hv : ab_isA v0 = true) : wp 119 13 [v0, v1] st h Q = wp 119 14 [v0, v1] (v0 :: st) h Q := wp_aload_n (by decide +kernel : ab_cod 119 13 = some (.aload_n 0, 1, 0, 0, 0, 0)) hv
theorem i119_14 {v0 v1 : Value} {r : Nat} {st : List Value} {h : ab_Hp} {Q : ab_O → ab_Hp → Prop} (hk : (ab_sh h r).1 = 17) : wp 119 14 [v0, v1] (.ref r :: st) h Q = wp 119 17 [v0, v1] (.int (ab_hi h r 6) :: st) h Q := wp_gf (by decide +kernel : ab_cod 119 14 = some (.getfield 90, 3, 7, 6, 778, 0)) hk
theorem i119_17 {v0 v1 : Value} {x y : Int32} {st : List Value} {h : ab_Hp} {Q : ab_O → ab_Hp → Prop} : wp 119 17 [v0, v1] (.int y :: .int x :: st) h Q = if y ≤ x then wp 119 41 [v0, v1] st h Q else wp 119 20 [v0, v1] st h Q := wp_icmpP (by decide +kernel : ab_cod 119 17 = some (.if_icmp .ge 24, 3, 41, 0, 0, 0)) rfl
theorem i119_20 {v0 v1 : Value} {st : List Value} {h : ab_Hp} {Q : ab_O → ab_Hp → Prop} (hv : ab_isA v0 = true) : wp 119 20 [v0, v1] st h Q = wp 119 21 [v0, v1] (v0 :: st) h Q := wp_aload_n (by decide +kernel : ab_cod 119 20 = some (.aload_n 0, 1, 0, 0, 0, 0)) hv
theorem i119_21 {v0 v1 : Value} {st : List Value} {h : ab_Hp} {Q : ab_O → ab_Hp → Prop} (hv : ab_isA v0 = true) : wp 119 21 [v0, v1] st h Q = wp 119 22 [v0, v1] (v0 :: st) h Q := wp_aload_n (by decide +kernel : ab_cod 119 21 = some (.aload_n 0, 1, 0, 0, 0, 0)) hv
theorem i119_22 {v0 v1 : Value} {r : Nat} {st : List Value} {h : ab_Hp} {Q : ab_O → ab_Hp → Prop} (hk : (ab_sh h r).1 = 17) : wp 119 22 [v0, v1] (.ref r :: st) h Q = wp 119 25 [v0, v1] (va_rf (ab_hr h r 5) :: st) h Q := wp_gf (by decide +kernel : ab_cod 119 22 = some (.getfield 19, 3, 7, 5, 777, 1)) hk
theorem i119_25 {v0 : Value} {x : Int32} {st : List Value} {h : ab_Hp} {Q : ab_O → ab_Hp → Prop} : wp 119 25 [v0, .int x] st h Q = wp 119 26 [v0, .int x] (.int x :: st) h Q := wp_stp (ri := (.iload_n 1, 1, 0, 0, 0, 0)) (by decide +kernel) rfl rfl rfl
theorem i119_26 {v0 v1 : Value} {r : Nat} {x : Int32} {st : List Value} {h : ab_Hp} {Q : ab_O → ab_Hp → Prop} (hk : ((ab_sh h r).1 = 1 ∨ (ab_sh h r).1 = 6) ∧ ab_in x (ab_sh h r).2 = true) : wp 119 26 [v0, v1] (.int x :: .ref r :: st) h Q = wp 119 27 [v0, v1] (.int (ab_hi h r x.toNatClampNeg) :: st) h Q := wp_ia (by decide +kernel : ab_cod 119 26 = some (.iaload, 1, 0, 0, 0, 0)) hk
theorem i119_27 {v0 v1 : Value} {r : Nat} {a0 : Int32} {st : List Value} {h : ab_Hp} {Q : ab_O → ab_Hp → Prop} (hl : st.length ≤ 4) (hk : (ab_sh h r).1 = 17) : wp 119 27 [v0, v1] (.int a0 :: .ref r :: st) h Q = wp 118 0 [.ref r, .int a0, ab_nov] [] h (ab_K 119 27 [v0, v1] st Q) := wp_callV (as := [.int a0]) (by decide +kernel : ab_cod 119 27 = some (.invokevirtual 106, 3, 118, 2, 0, 920)) rfl rfl rfl rfl hl hk
theorem i119_30 {v0 v1 : Value} {x : Int32} {st : List Value} {h : ab_Hp} {Q : ab_O → ab_Hp → Prop} : wp 119 30 [v0, v1] (.int x :: st) h Q = if ¬ x = 0 then wp 119 35 [v0, v1] st h Q else wp 119 33 [v0, v1] st h Q := wp_ifcP (by decide +kernel : ab_cod 119 30 = some (.ifCond .ne 5, 3, 35, 0, 0, 0)) rfl
theorem i119_33 {v0 : Value} {x : Int32} {st : List Value} {h : ab_Hp} {Q : ab_O → ab_Hp → Prop} : wp 119 33 [v0, .int x] st h Q = wp 119 34 [v0, .int x] (.int x :: st) h Q := wp_stp (ri := (.iload_n 1, 1, 0, 0, 0, 0)) (by decide +kernel) rfl rfl rfl
theorem i119_34 {v0 v1 : Value} {x : Int32} {h : ab_Hp} {Q : ab_O → ab_Hp → Prop} : wp 119 34 [v0, v1] [.int x] h Q = Q (.inl (some (.int x))) h := wp_iret (by decide +kernel : ab_cod 119 34 = some (.ireturn, 1, 0, 0, 0, 0)) rfl
theorem i119_35 {v0 : Value} {x : Int32} {st : List Value} {h : ab_Hp} {Q : ab_O → ab_Hp → Prop} : wp 119 35 [v0, .int x] st h Q = wp 119 38 [ab_clr v0, .int (x + nI 1)] st h Q := wp_stp (ri := (.iinc 1 1, 3, 0, 0, 0, 0)) (by decide +kernel) rfl rfl rfl
theorem i119_38 {v0 v1 : Value} {st : List Value} {h : ab_Hp} {Q : ab_O → ab_Hp → Prop} : wp 119 38 [v0, v1] st h Q = wp 119 12 [v0, v1] st h Q := wp_stp (ri := (.goto (-26), 3, 12, 0, 0, 0)) (by decide +kernel) rfl rfl rfl
theorem i119_41 {v0 v1 : Value} {st : List Value} {h : ab_Hp} {Q : ab_O → ab_Hp → Prop} (hv : ab_isA v0 = true) : wp 119 41 [v0, v1] st h Q = wp 119 42 [v0, v1] (v0 :: st) h Q := wp_aload_n (by decide +kernel : ab_cod 119 41 = some (.aload_n 0, 1, 0, 0, 0, 0)) hv
theorem i119_42 {v0 v1 : Value} {r : Nat} {st : List Value} {h : ab_Hp} {Q : ab_O → ab_Hp → Prop} (hk : (ab_sh h r).1 = 17) : wp 119 42 [v0, v1] (.ref r :: st) h Q = wp 119 45 [v0, v1] (.int (ab_hi h r 6) :: st) h Q := wp_gf (by decide +kernel : ab_cod 119 42 = some (.getfield 90, 3, 7, 6, 778, 0)) hk
theorem i119_45 {v0 v1 : Value} {x : Int32} {h : ab_Hp} {Q : ab_O → ab_Hp → Prop} : wp 119 45 [v0, v1] [.int x] h Q = Q (.inl (some (.int x))) h := wp_iret (by decide +kernel : ab_cod 119 45 = some (.ireturn, 1, 0, 0, 0, 0)) rfl
/-! 120: SeamBeatsModel.firstError()I -/
theorem i120_0 {v0 : Value} {st : List Value} {h : ab_Hp} {Q : ab_O → ab_Hp → Prop} (hv : ab_isA v0 = true) : wp 120 0 [v0] st h Q = wp 120 1 [v0] (v0 :: st) h Q := wp_aload_n (by decide +kernel : ab_cod 120 0 = some (.aload_n 0, 1, 0, 0, 0, 0)) hv
theorem i120_1 {v0 : Value} {st : List Value} {h : ab_Hp} {Q : ab_O → ab_Hp → Prop} : wp 120 1 [v0] st h Q = wp 120 2 [v0] (.int (nI 0) :: st) h Q := wp_stp (ri := (.iconst 0, 1, 0, 0, 0, 0)) (by decide +kernel) rfl rfl rfl
theorem i120_2 {v0 : Value} {r : Nat} {x : Int32} {st : List Value} {h : ab_Hp} {Q : ab_O → ab_Hp → Prop} (hk : (ab_sh h r).1 = 17) : wp 120 2 [v0] (.int x :: .ref r :: st) h Q = wp 120 5 [v0] st (ab_setI h (ab_u (ab_hi h) r 0 x)) Q := wp_pf (by decide +kernel : ab_cod 120 2 = some (.putfield 29, 3, 7, 0, 772, 0)) hk rfl
theorem i120_5 {v0 : Value} {st : List Value} {h : ab_Hp} {Q : ab_O → ab_Hp → Prop} (hv : ab_isA v0 = true) : wp 120 5 [v0] st h Q = wp 120 6 [v0] (v0 :: st) h Q := wp_aload_n (by decide +kernel : ab_cod 120 5 = some (.aload_n 0, 1, 0, 0, 0, 0)) hv
theorem i120_6 {v0 : Value} {r : Nat} {st : List Value} {h : ab_Hp} {Q : ab_O → ab_Hp → Prop} (hl : st.length ≤ 4) (hk : (ab_sh h r).1 = 17) : wp 120 6 [v0] (.ref r :: st) h Q = wp 119 0 [.ref r, ab_nov] [] h (ab_K 120 6 [v0] st Q) := wp_callV (as := []) (by decide +kernel : ab_cod 120 6 = some (.invokevirtual 109, 3, 119, 1, 0, 916)) rfl rfl rfl rfl hl hk
theorem i120_9 {v0 : Value} {x : Int32} {h : ab_Hp} {Q : ab_O → ab_Hp → Prop} : wp 120 9 [v0] [.int x] h Q = Q (.inl (some (.int x))) h := wp_iret (by decide +kernel : ab_cod 120 9 = some (.ireturn, 1, 0, 0, 0, 0)) rfl
/-! 121: SeamBeatsModel.readFor(I)I -/
theorem i121_0 {v0 v1 v2 v3 : Value} {st : List Value} {h : ab_Hp} {Q : ab_O → ab_Hp → Prop} : wp 121 0 [v0, v1, v2, v3] st h Q = wp 121 1 [v0, v1, v2, v3] (.int (nI 0) :: st) h Q := wp_stp (ri := (.iconst 0, 1, 0, 0, 0, 0)) (by decide +kernel) rfl rfl rfl
theorem i121_1 {v0 v1 v2 v3 : Value} {w : Int32} {st : List Value} {h : ab_Hp} {Q : ab_O → ab_Hp → Prop} : wp 121 1 [v0, v1, v2, v3] (.int w :: st) h Q = wp 121 2 [v0, ab_clr v1, .int w, v3] st h Q := wp_stp (ri := (.istore_n 2, 1, 0, 0, 0, 0)) (by decide +kernel) rfl rfl rfl
theorem i121_2 {v0 v1 v2 v3 : Value} {st : List Value} {h : ab_Hp} {Q : ab_O → ab_Hp → Prop} : wp 121 2 [v0, v1, v2, v3] st h Q = wp 121 3 [v0, v1, v2, v3] (.int (nI 0) :: st) h Q := wp_stp (ri := (.iconst 0, 1, 0, 0, 0, 0)) (by decide +kernel) rfl rfl rfl
theorem i121_3 {v0 v1 v2 v3 : Value} {w : Int32} {st : List Value} {h : ab_Hp} {Q : ab_O → ab_Hp → Prop} : wp 121 3 [v0, v1, v2, v3] (.int w :: st) h Q = wp 121 4 [v0, v1, ab_clr v2, .int w] st h Q := wp_stp (ri := (.istore_n 3, 1, 0, 0, 0, 0)) (by decide +kernel) rfl rfl rfl
theorem i121_4 {v0 v1 v2 : Value} {x : Int32} {st : List Value} {h : ab_Hp} {Q : ab_O → ab_Hp → Prop} : wp 121 4 [v0, v1, v2, .int x] st h Q = wp 121 5 [v0, v1, v2, .int x] (.int x :: st) h Q := wp_stp (ri := (.iload_n 3, 1, 0, 0, 0, 0)) (by decide +kernel) rfl rfl rfl
theorem i121_5 {v0 v1 v2 v3 : Value} {st : List Value} {h : ab_Hp} {Q : ab_O → ab_Hp → Prop} (hv : ab_isA v0 = true) : wp 121 5 [v0, v1, v2, v3] st h Q = wp 121 6 [v0, v1, v2, v3] (v0 :: st) h Q := wp_aload_n (by decide +kernel : ab_cod 121 5 = some (.aload_n 0, 1, 0, 0, 0, 0)) hv
theorem i121_6 {v0 v1 v2 v3 : Value} {r : Nat} {st : List Value} {h : ab_Hp} {Q : ab_O → ab_Hp → Prop} (hk : (ab_sh h r).1 = 17) : wp 121 6 [v0, v1, v2, v3] (.ref r :: st) h Q = wp 121 9 [v0, v1, v2, v3] (.int (ab_hi h r 8) :: st) h Q := wp_gf (by decide +kernel : ab_cod 121 6 = some (.getfield 96, 3, 7, 8, 780, 0)) hk
theorem i121_9 {v0 v1 v2 v3 : Value} {x y : Int32} {st : List Value} {h : ab_Hp} {Q : ab_O → ab_Hp → Prop} : wp 121 9 [v0, v1, v2, v3] (.int y :: .int x :: st) h Q = if y ≤ x then wp 121 47 [v0, v1, v2, v3] st h Q else wp 121 12 [v0, v1, v2, v3] st h Q := wp_icmpP (by decide +kernel : ab_cod 121 9 = some (.if_icmp .ge 38, 3, 47, 0, 0, 0)) rfl
theorem i121_12 {v0 v1 v3 : Value} {x : Int32} {st : List Value} {h : ab_Hp} {Q : ab_O → ab_Hp → Prop} : wp 121 12 [v0, v1, .int x, v3] st h Q = wp 121 13 [v0, v1, .int x, v3] (.int x :: st) h Q := wp_stp (ri := (.iload_n 2, 1, 0, 0, 0, 0)) (by decide +kernel) rfl rfl rfl
theorem i121_13 {v0 v1 v2 v3 : Value} {st : List Value} {h : ab_Hp} {Q : ab_O → ab_Hp → Prop} (hv : ab_isA v0 = true) : wp 121 13 [v0, v1, v2, v3] st h Q = wp 121 14 [v0, v1, v2, v3] (v0 :: st) h Q := wp_aload_n (by decide +kernel : ab_cod 121 13 = some (.aload_n 0, 1, 0, 0, 0, 0)) hv
theorem i121_14 {v0 v1 v2 v3 : Value} {r : Nat} {st : List Value} {h : ab_Hp} {Q : ab_O → ab_Hp → Prop} (hk : (ab_sh h r).1 = 17) : wp 121 14 [v0, v1, v2, v3] (.ref r :: st) h Q = wp 121 17 [v0, v1, v2, v3] (va_rf (ab_hr h r 7) :: st) h Q := wp_gf (by decide +kernel : ab_cod 121 14 = some (.getfield 22, 3, 7, 7, 779, 1)) hk
theorem i121_17 {v0 v1 v2 v3 : Value} {st : List Value} {h : ab_Hp} {Q : ab_O → ab_Hp → Prop} : wp 121 17 [v0, v1, v2, v3] st h Q = wp 121 18 [v0, v1, v2, v3] (.int (nI 3) :: st) h Q := wp_stp (ri := (.iconst 3, 1, 0, 0, 0, 0)) (by decide +kernel) rfl rfl rfl
theorem i121_18 {v0 v1 v2 : Value} {x : Int32} {st : List Value} {h : ab_Hp} {Q : ab_O → ab_Hp → Prop} : wp 121 18 [v0, v1, v2, .int x] st h Q = wp 121 19 [v0, v1, v2, .int x] (.int x :: st) h Q := wp_stp (ri := (.iload_n 3, 1, 0, 0, 0, 0)) (by decide +kernel) rfl rfl rfl
theorem i121_19 {v0 v1 v2 v3 : Value} {x y : Int32} {st : List Value} {h : ab_Hp} {Q : ab_O → ab_Hp → Prop} : wp 121 19 [v0, v1, v2, v3] (.int y :: .int x :: st) h Q = wp 121 20 [v0, v1, v2, v3] (.int (x * y) :: st) h Q := wp_stp (ri := (.imul, 1, 0, 0, 0, 0)) (by decide +kernel) rfl rfl rfl
theorem i121_20 {v0 v1 v2 v3 : Value} {r : Nat} {x : Int32} {st : List Value} {h : ab_Hp} {Q : ab_O → ab_Hp → Prop} (hk : ((ab_sh h r).1 = 1 ∨ (ab_sh h r).1 = 6) ∧ ab_in x (ab_sh h r).2 = true) : wp 121 20 [v0, v1, v2, v3] (.int x :: .ref r :: st) h Q = wp 121 21 [v0, v1, v2, v3] (.int (ab_hi h r x.toNatClampNeg) :: st) h Q := wp_ia (by decide +kernel : ab_cod 121 20 = some (.iaload, 1, 0, 0, 0, 0)) hk
theorem i121_21 {v0 v2 v3 : Value} {x : Int32} {st : List Value} {h : ab_Hp} {Q : ab_O → ab_Hp → Prop} : wp 121 21 [v0, .int x, v2, v3] st h Q = wp 121 22 [v0, .int x, v2, v3] (.int x :: st) h Q := wp_stp (ri := (.iload_n 1, 1, 0, 0, 0, 0)) (by decide +kernel) rfl rfl rfl
theorem i121_22 {v0 v1 v2 v3 : Value} {x y : Int32} {st : List Value} {h : ab_Hp} {Q : ab_O → ab_Hp → Prop} : wp 121 22 [v0, v1, v2, v3] (.int y :: .int x :: st) h Q = if ¬ x = y then wp 121 38 [v0, v1, v2, v3] st h Q else wp 121 25 [v0, v1, v2, v3] st h Q := wp_icmpP (by decide +kernel : ab_cod 121 22 = some (.if_icmp .ne 16, 3, 38, 0, 0, 0)) rfl
theorem i121_25 {v0 v1 v2 v3 : Value} {st : List Value} {h : ab_Hp} {Q : ab_O → ab_Hp → Prop} (hv : ab_isA v0 = true) : wp 121 25 [v0, v1, v2, v3] st h Q = wp 121 26 [v0, v1, v2, v3] (v0 :: st) h Q := wp_aload_n (by decide +kernel : ab_cod 121 25 = some (.aload_n 0, 1, 0, 0, 0, 0)) hv
theorem i121_26 {v0 v1 v2 v3 : Value} {r : Nat} {st : List Value} {h : ab_Hp} {Q : ab_O → ab_Hp → Prop} (hk : (ab_sh h r).1 = 17) : wp 121 26 [v0, v1, v2, v3] (.ref r :: st) h Q = wp 121 29 [v0, v1, v2, v3] (va_rf (ab_hr h r 7) :: st) h Q := wp_gf (by decide +kernel : ab_cod 121 26 = some (.getfield 22, 3, 7, 7, 779, 1)) hk
theorem i121_29 {v0 v1 v2 v3 : Value} {st : List Value} {h : ab_Hp} {Q : ab_O → ab_Hp → Prop} : wp 121 29 [v0, v1, v2, v3] st h Q = wp 121 30 [v0, v1, v2, v3] (.int (nI 3) :: st) h Q := wp_stp (ri := (.iconst 3, 1, 0, 0, 0, 0)) (by decide +kernel) rfl rfl rfl
theorem i121_30 {v0 v1 v2 : Value} {x : Int32} {st : List Value} {h : ab_Hp} {Q : ab_O → ab_Hp → Prop} : wp 121 30 [v0, v1, v2, .int x] st h Q = wp 121 31 [v0, v1, v2, .int x] (.int x :: st) h Q := wp_stp (ri := (.iload_n 3, 1, 0, 0, 0, 0)) (by decide +kernel) rfl rfl rfl
theorem i121_31 {v0 v1 v2 v3 : Value} {x y : Int32} {st : List Value} {h : ab_Hp} {Q : ab_O → ab_Hp → Prop} : wp 121 31 [v0, v1, v2, v3] (.int y :: .int x :: st) h Q = wp 121 32 [v0, v1, v2, v3] (.int (x * y) :: st) h Q := wp_stp (ri := (.imul, 1, 0, 0, 0, 0)) (by decide +kernel) rfl rfl rfl
theorem i121_32 {v0 v1 v2 v3 : Value} {st : List Value} {h : ab_Hp} {Q : ab_O → ab_Hp → Prop} : wp 121 32 [v0, v1, v2, v3] st h Q = wp 121 33 [v0, v1, v2, v3] (.int (nI 2) :: st) h Q := wp_stp (ri := (.iconst 2, 1, 0, 0, 0, 0)) (by decide +kernel) rfl rfl rfl
theorem i121_33 {v0 v1 v2 v3 : Value} {x y : Int32} {st : List Value} {h : ab_Hp} {Q : ab_O → ab_Hp → Prop} : wp 121 33 [v0, v1, v2, v3] (.int y :: .int x :: st) h Q = wp 121 34 [v0, v1, v2, v3] (.int (x + y) :: st) h Q := wp_stp (ri := (.iadd, 1, 0, 0, 0, 0)) (by decide +kernel) rfl rfl rfl
theorem i121_34 {v0 v1 v2 v3 : Value} {r : Nat} {x : Int32} {st : List Value} {h : ab_Hp} {Q : ab_O → ab_Hp → Prop} (hk : ((ab_sh h r).1 = 1 ∨ (ab_sh h r).1 = 6) ∧ ab_in x (ab_sh h r).2 = true) : wp 121 34 [v0, v1, v2, v3] (.int x :: .ref r :: st) h Q = wp 121 35 [v0, v1, v2, v3] (.int (ab_hi h r x.toNatClampNeg) :: st) h Q := wp_ia (by decide +kernel : ab_cod 121 34 = some (.iaload, 1, 0, 0, 0, 0)) hk
theorem i121_35 {v0 v1 v2 v3 : Value} {st : List Value} {h : ab_Hp} {Q : ab_O → ab_Hp → Prop} : wp 121 35 [v0, v1, v2, v3] st h Q = wp 121 39 [v0, v1, v2, v3] st h Q := wp_stp (ri := (.goto 4, 3, 39, 0, 0, 0)) (by decide +kernel) rfl rfl rfl
theorem i121_38 {v0 v1 v2 v3 : Value} {st : List Value} {h : ab_Hp} {Q : ab_O → ab_Hp → Prop} : wp 121 38 [v0, v1, v2, v3] st h Q = wp 121 39 [v0, v1, v2, v3] (.int (nI 0) :: st) h Q := wp_stp (ri := (.iconst 0, 1, 0, 0, 0, 0)) (by decide +kernel) rfl rfl rfl
theorem i121_39 {v0 v1 v2 v3 : Value} {x y : Int32} {st : List Value} {h : ab_Hp} {Q : ab_O → ab_Hp → Prop} : wp 121 39 [v0, v1, v2, v3] (.int y :: .int x :: st) h Q = wp 121 40 [v0, v1, v2, v3] (.int (x + y) :: st) h Q := wp_stp (ri := (.iadd, 1, 0, 0, 0, 0)) (by decide +kernel) rfl rfl rfl
theorem i121_40 {v0 v1 v2 v3 : Value} {w : Int32} {st : List Value} {h : ab_Hp} {Q : ab_O → ab_Hp → Prop} : wp 121 40 [v0, v1, v2, v3] (.int w :: st) h Q = wp 121 41 [v0, ab_clr v1, .int w, v3] st h Q := wp_stp (ri := (.istore_n 2, 1, 0, 0, 0, 0)) (by decide +kernel) rfl rfl rfl
theorem i121_41 {v0 v1 v2 : Value} {x : Int32} {st : List Value} {h : ab_Hp} {Q : ab_O → ab_Hp → Prop} : wp 121 41 [v0, v1, v2, .int x] st h Q = wp 121 44 [v0, v1, ab_clr v2, .int (x + nI 1)] st h Q := wp_stp (ri := (.iinc 3 1, 3, 0, 0, 0, 0)) (by decide +kernel) rfl rfl rfl
theorem i121_44 {v0 v1 v2 v3 : Value} {st : List Value} {h : ab_Hp} {Q : ab_O → ab_Hp → Prop} : wp 121 44 [v0, v1, v2, v3] st h Q = wp 121 4 [v0, v1, v2, v3] st h Q := wp_stp (ri := (.goto (-40), 3, 4, 0, 0, 0)) (by decide +kernel) rfl rfl rfl
theorem i121_47 {v0 v1 v3 : Value} {x : Int32} {st : List Value} {h : ab_Hp} {Q : ab_O → ab_Hp → Prop} : wp 121 47 [v0, v1, .int x, v3] st h Q = wp 121 48 [v0, v1, .int x, v3] (.int x :: st) h Q := wp_stp (ri := (.iload_n 2, 1, 0, 0, 0, 0)) (by decide +kernel) rfl rfl rfl
theorem i121_48 {v0 v1 v2 v3 : Value} {x : Int32} {h : ab_Hp} {Q : ab_O → ab_Hp → Prop} : wp 121 48 [v0, v1, v2, v3] [.int x] h Q = Q (.inl (some (.int x))) h := wp_iret (by decide +kernel : ab_cod 121 48 = some (.ireturn, 1, 0, 0, 0, 0)) rfl
/-! 122: SeamBeatsModel.areTooMany()Z -/
set_option maxRecDepth 100000 in
theorem i122_0 {v0 v1 v2 v3 : Value} {st : List Value} {h : ab_Hp} {Q : ab_O → ab_Hp → Prop} : wp 122 0 [v0, v1, v2, v3] st h Q = wp 122 1 [v0, v1, v2, v3] (.int (nI 0) :: st) h Q := wp_stp (ri := (.iconst 0, 1, 0, 0, 0, 0)) (by decide +kernel) rfl rfl rfl
set_option maxRecDepth 100000 in
theorem i122_1 {v0 v1 v2 v3 : Value} {w : Int32} {st : List Value} {h : ab_Hp} {Q : ab_O → ab_Hp → Prop} : wp 122 1 [v0, v1, v2, v3] (.int w :: st) h Q = wp 122 2 [ab_clr v0, .int w, v2, v3] st h Q := wp_stp (ri := (.istore_n 1, 1, 0, 0, 0, 0)) (by decide +kernel) rfl rfl rfl
set_option maxRecDepth 100000 in
theorem i122_2 {v0 v1 v2 v3 : Value} {st : List Value} {h : ab_Hp} {Q : ab_O → ab_Hp → Prop} (hv : ab_isA v0 = true) : wp 122 2 [v0, v1, v2, v3] st h Q = wp 122 3 [v0, v1, v2, v3] (v0 :: st) h Q := wp_aload_n (by decide +kernel : ab_cod 122 2 = some (.aload_n 0, 1, 0, 0, 0, 0)) hv
set_option maxRecDepth 100000 in
theorem i122_3 {v0 v1 v2 v3 : Value} {r : Nat} {st : List Value} {h : ab_Hp} {Q : ab_O → ab_Hp → Prop} (hk : (ab_sh h r).1 = 17) : wp 122 3 [v0, v1, v2, v3] (.ref r :: st) h Q = wp 122 6 [v0, v1, v2, v3] (va_rf (ab_hr h r 1) :: st) h Q := wp_gf (by decide +kernel : ab_cod 122 3 = some (.getfield 7, 3, 7, 1, 773, 1)) hk
set_option maxRecDepth 100000 in
theorem i122_6 {v0 v1 v2 v3 : Value} {st : List Value} {h : ab_Hp} {Q : ab_O → ab_Hp → Prop} : wp 122 6 [v0, v1, v2, v3] st h Q = wp 122 7 [v0, v1, v2, v3] (.int (nI 1) :: st) h Q := wp_stp (ri := (.iconst 1, 1, 0, 0, 0, 0)) (by decide +kernel) rfl rfl rfl
set_option maxRecDepth 100000 in
theorem i122_7 {v0 v1 v2 v3 : Value} {r : Nat} {x : Int32} {st : List Value} {h : ab_Hp} {Q : ab_O → ab_Hp → Prop} (hk : ((ab_sh h r).1 = 1 ∨ (ab_sh h r).1 = 6) ∧ ab_in x (ab_sh h r).2 = true) : wp 122 7 [v0, v1, v2, v3] (.int x :: .ref r :: st) h Q = wp 122 8 [v0, v1, v2, v3] (.int (ab_hi h r x.toNatClampNeg) :: st) h Q := wp_ia (by decide +kernel : ab_cod 122 7 = some (.iaload, 1, 0, 0, 0, 0)) hk
set_option maxRecDepth 100000 in
theorem i122_8 {v0 v1 v2 v3 : Value} {w : Int32} {st : List Value} {h : ab_Hp} {Q : ab_O → ab_Hp → Prop} : wp 122 8 [v0, v1, v2, v3] (.int w :: st) h Q = wp 122 9 [v0, ab_clr v1, .int w, v3] st h Q := wp_stp (ri := (.istore_n 2, 1, 0, 0, 0, 0)) (by decide +kernel) rfl rfl rfl
set_option maxRecDepth 100000 in
theorem i122_9 {v0 v1 v2 v3 : Value} {st : List Value} {h : ab_Hp} {Q : ab_O → ab_Hp → Prop} : wp 122 9 [v0, v1, v2, v3] st h Q = wp 122 10 [v0, v1, v2, v3] (.int (nI 0) :: st) h Q := wp_stp (ri := (.iconst 0, 1, 0, 0, 0, 0)) (by decide +kernel) rfl rfl rfl
set_option maxRecDepth 100000 in
theorem i122_10 {v0 v1 v2 v3 : Value} {w : Int32} {st : List Value} {h : ab_Hp} {Q : ab_O → ab_Hp → Prop} : wp 122 10 [v0, v1, v2, v3] (.int w :: st) h Q = wp 122 11 [v0, v1, ab_clr v2, .int w] st h Q := wp_stp (ri := (.istore_n 3, 1, 0, 0, 0, 0)) (by decide +kernel) rfl rfl rfl
set_option maxRecDepth 100000 in
theorem i122_11 {v0 v1 v2 : Value} {x : Int32} {st : List Value} {h : ab_Hp} {Q : ab_O → ab_Hp → Prop} : wp 122 11 [v0, v1, v2, .int x] st h Q = wp 122 12 [v0, v1, v2, .int x] (.int x :: st) h Q := wp_stp (ri := (.iload_n 3, 1, 0, 0, 0, 0)) (by decide +kernel) rfl rfl rfl
set_option maxRecDepth 100000 in
theorem i122_12 {v0 v1 v2 v3 : Value} {st : List Value} {h : ab_Hp} {Q : ab_O → ab_Hp → Prop} : wp 122 12 [v0, v1, v2, v3] st h Q = wp 122 14 [v0, v1, v2, v3] (.int (nI 6) :: st) h Q := wp_stp (ri := (.bipush 6, 2, 0, 0, 0, 0)) (by decide +kernel) rfl rfl rfl
set_option maxRecDepth 100000 in
theorem i122_14 {v0 v1 v2 v3 : Value} {x y : Int32} {st : List Value} {h : ab_Hp} {Q : ab_O → ab_Hp → Prop} : wp 122 14 [v0, v1, v2, v3] (.int y :: .int x :: st) h Q = if y ≤ x then wp 122 58 [v0, v1, v2, v3] st h Q else wp 122 17 [v0, v1, v2, v3] st h Q := wp_icmpP (by decide +kernel : ab_cod 122 14 = some (.if_icmp .ge 44, 3, 58, 0, 0, 0)) rfl
set_option maxRecDepth 100000 in
theorem i122_17 {v0 v2 v3 : Value} {x : Int32} {st : List Value} {h : ab_Hp} {Q : ab_O → ab_Hp → Prop} : wp 122 17 [v0, .int x, v2, v3] st h Q = wp 122 18 [v0, .int x, v2, v3] (.int x :: st) h Q := wp_stp (ri := (.iload_n 1, 1, 0, 0, 0, 0)) (by decide +kernel) rfl rfl rfl
set_option maxRecDepth 100000 in
theorem i122_18 {v0 v1 v2 v3 : Value} {x : Int32} {st : List Value} {h : ab_Hp} {Q : ab_O → ab_Hp → Prop} : wp 122 18 [v0, v1, v2, v3] (.int x :: st) h Q = if ¬ x = 0 then wp 122 38 [v0, v1, v2, v3] st h Q else wp 122 21 [v0, v1, v2, v3] st h Q := wp_ifcP (by decide +kernel : ab_cod 122 18 = some (.ifCond .ne 20, 3, 38, 0, 0, 0)) rfl
set_option maxRecDepth 100000 in
theorem i122_21 {v0 v1 v2 v3 : Value} {st : List Value} {h : ab_Hp} {Q : ab_O → ab_Hp → Prop} (hv : ab_isA v0 = true) : wp 122 21 [v0, v1, v2, v3] st h Q = wp 122 22 [v0, v1, v2, v3] (v0 :: st) h Q := wp_aload_n (by decide +kernel : ab_cod 122 21 = some (.aload_n 0, 1, 0, 0, 0, 0)) hv
set_option maxRecDepth 100000 in
theorem i122_22 {v0 v1 v2 : Value} {x : Int32} {st : List Value} {h : ab_Hp} {Q : ab_O → ab_Hp → Prop} : wp 122 22 [v0, v1, v2, .int x] st h Q = wp 122 23 [v0, v1, v2, .int x] (.int x :: st) h Q := wp_stp (ri := (.iload_n 3, 1, 0, 0, 0, 0)) (by decide +kernel) rfl rfl rfl
set_option maxRecDepth 100000 in
theorem i122_23 {v0 v1 v2 v3 : Value} {st : List Value} {h : ab_Hp} {Q : ab_O → ab_Hp → Prop} : wp 122 23 [v0, v1, v2, v3] st h Q = wp 122 24 [v0, v1, v2, v3] (.int (nI 4) :: st) h Q := wp_stp (ri := (.iconst 4, 1, 0, 0, 0, 0)) (by decide +kernel) rfl rfl rfl
set_option maxRecDepth 100000 in
theorem i122_24 {v0 v1 v2 v3 : Value} {r : Nat} {a0 : Int32} {a1 : Int32} {st : List Value} {h : ab_Hp} {Q : ab_O → ab_Hp → Prop} (hl : st.length ≤ 4) (hk : (ab_sh h r).1 = 17) : wp 122 24 [v0, v1, v2, v3] (.int a1 :: .int a0 :: .ref r :: st) h Q = wp 90 0 [.ref r, .int a0, .int a1] [] h (ab_K 122 24 [v0, v1, v2, v3] st Q) := wp_callV (as := [.int a0, .int a1]) (by decide +kernel : ab_cod 122 24 = some (.invokevirtual 47, 3, 90, 3, 0, 828)) rfl rfl rfl rfl hl hk
set_option maxRecDepth 100000 in
theorem i122_27 {v0 v1 v2 v3 : Value} {st : List Value} {h : ab_Hp} {Q : ab_O → ab_Hp → Prop} (hv : ab_isA v0 = true) : wp 122 27 [v0, v1, v2, v3] st h Q = wp 122 28 [v0, v1, v2, v3] (v0 :: st) h Q := wp_aload_n (by decide +kernel : ab_cod 122 27 = some (.aload_n 0, 1, 0, 0, 0, 0)) hv
set_option maxRecDepth 100000 in
theorem i122_28 {v0 v1 v2 : Value} {x : Int32} {st : List Value} {h : ab_Hp} {Q : ab_O → ab_Hp → Prop} : wp 122 28 [v0, v1, v2, .int x] st h Q = wp 122 29 [v0, v1, v2, .int x] (.int x :: st) h Q := wp_stp (ri := (.iload_n 3, 1, 0, 0, 0, 0)) (by decide +kernel) rfl rfl rfl
set_option maxRecDepth 100000 in
theorem i122_29 {v0 v1 v2 v3 : Value} {r : Nat} {a0 : Int32} {st : List Value} {h : ab_Hp} {Q : ab_O → ab_Hp → Prop} (hl : st.length ≤ 4) (hk : (ab_sh h r).1 = 17) : wp 122 29 [v0, v1, v2, v3] (.int a0 :: .ref r :: st) h Q = wp 121 0 [.ref r, .int a0, ab_nov, ab_nov] [] h (ab_K 122 29 [v0, v1, v2, v3] st Q) := wp_callV (as := [.int a0]) (by decide +kernel : ab_cod 122 29 = some (.invokevirtual 113, 3, 121, 2, 0, 944)) rfl rfl rfl rfl hl hk
set_option maxRecDepth 100000 in
theorem i122_32 {v0 v1 v2 v3 : Value} {x y : Int32} {st : List Value} {h : ab_Hp} {Q : ab_O → ab_Hp → Prop} : wp 122 32 [v0, v1, v2, v3] (.int y :: .int x :: st) h Q = wp 122 33 [v0, v1, v2, v3] (.int (x + y) :: st) h Q := wp_stp (ri := (.iadd, 1, 0, 0, 0, 0)) (by decide +kernel) rfl rfl rfl
set_option maxRecDepth 100000 in
theorem i122_33 {v0 v1 v2 v3 : Value} {st : List Value} {h : ab_Hp} {Q : ab_O → ab_Hp → Prop} : wp 122 33 [v0, v1, v2, v3] st h Q = wp 122 35 [v0, v1, v2, v3] (.int (nI 8) :: st) h Q := wp_stp (ri := (.bipush 8, 2, 0, 0, 0, 0)) (by decide +kernel) rfl rfl rfl
set_option maxRecDepth 100000 in
theorem i122_35 {v0 v1 v2 v3 : Value} {x y : Int32} {st : List Value} {h : ab_Hp} {Q : ab_O → ab_Hp → Prop} : wp 122 35 [v0, v1, v2, v3] (.int y :: .int x :: st) h Q = if x ≤ y then wp 122 42 [v0, v1, v2, v3] st h Q else wp 122 38 [v0, v1, v2, v3] st h Q := wp_icmpP (by decide +kernel : ab_cod 122 35 = some (.if_icmp .le 7, 3, 42, 0, 0, 0)) rfl
set_option maxRecDepth 100000 in
theorem i122_38 {v0 v1 v2 v3 : Value} {st : List Value} {h : ab_Hp} {Q : ab_O → ab_Hp → Prop} : wp 122 38 [v0, v1, v2, v3] st h Q = wp 122 39 [v0, v1, v2, v3] (.int (nI 1) :: st) h Q := wp_stp (ri := (.iconst 1, 1, 0, 0, 0, 0)) (by decide +kernel) rfl rfl rfl
set_option maxRecDepth 100000 in
theorem i122_39 {v0 v1 v2 v3 : Value} {st : List Value} {h : ab_Hp} {Q : ab_O → ab_Hp → Prop} : wp 122 39 [v0, v1, v2, v3] st h Q = wp 122 43 [v0, v1, v2, v3] st h Q := wp_stp (ri := (.goto 4, 3, 43, 0, 0, 0)) (by decide +kernel) rfl rfl rfl
set_option maxRecDepth 100000 in
theorem i122_42 {v0 v1 v2 v3 : Value} {st : List Value} {h : ab_Hp} {Q : ab_O → ab_Hp → Prop} : wp 122 42 [v0, v1, v2, v3] st h Q = wp 122 43 [v0, v1, v2, v3] (.int (nI 0) :: st) h Q := wp_stp (ri := (.iconst 0, 1, 0, 0, 0, 0)) (by decide +kernel) rfl rfl rfl
set_option maxRecDepth 100000 in
theorem i122_43 {v0 v1 v2 v3 : Value} {w : Int32} {st : List Value} {h : ab_Hp} {Q : ab_O → ab_Hp → Prop} : wp 122 43 [v0, v1, v2, v3] (.int w :: st) h Q = wp 122 44 [ab_clr v0, .int w, v2, v3] st h Q := wp_stp (ri := (.istore_n 1, 1, 0, 0, 0, 0)) (by decide +kernel) rfl rfl rfl
set_option maxRecDepth 100000 in
theorem i122_44 {v0 v1 v3 : Value} {x : Int32} {st : List Value} {h : ab_Hp} {Q : ab_O → ab_Hp → Prop} : wp 122 44 [v0, v1, .int x, v3] st h Q = wp 122 45 [v0, v1, .int x, v3] (.int x :: st) h Q := wp_stp (ri := (.iload_n 2, 1, 0, 0, 0, 0)) (by decide +kernel) rfl rfl rfl
set_option maxRecDepth 100000 in
theorem i122_45 {v0 v1 v2 v3 : Value} {st : List Value} {h : ab_Hp} {Q : ab_O → ab_Hp → Prop} (hv : ab_isA v0 = true) : wp 122 45 [v0, v1, v2, v3] st h Q = wp 122 46 [v0, v1, v2, v3] (v0 :: st) h Q := wp_aload_n (by decide +kernel : ab_cod 122 45 = some (.aload_n 0, 1, 0, 0, 0, 0)) hv
set_option maxRecDepth 100000 in
theorem i122_46 {v0 v1 v2 : Value} {x : Int32} {st : List Value} {h : ab_Hp} {Q : ab_O → ab_Hp → Prop} : wp 122 46 [v0, v1, v2, .int x] st h Q = wp 122 47 [v0, v1, v2, .int x] (.int x :: st) h Q := wp_stp (ri := (.iload_n 3, 1, 0, 0, 0, 0)) (by decide +kernel) rfl rfl rfl
set_option maxRecDepth 100000 in
theorem i122_47 {v0 v1 v2 v3 : Value} {r : Nat} {a0 : Int32} {st : List Value} {h : ab_Hp} {Q : ab_O → ab_Hp → Prop} (hl : st.length ≤ 4) (hk : (ab_sh h r).1 = 17) : wp 122 47 [v0, v1, v2, v3] (.int a0 :: .ref r :: st) h Q = wp 121 0 [.ref r, .int a0, ab_nov, ab_nov] [] h (ab_K 122 47 [v0, v1, v2, v3] st Q) := wp_callV (as := [.int a0]) (by decide +kernel : ab_cod 122 47 = some (.invokevirtual 113, 3, 121, 2, 0, 944)) rfl rfl rfl rfl hl hk
set_option maxRecDepth 100000 in
theorem i122_50 {v0 v1 v2 v3 : Value} {x y : Int32} {st : List Value} {h : ab_Hp} {Q : ab_O → ab_Hp → Prop} : wp 122 50 [v0, v1, v2, v3] (.int y :: .int x :: st) h Q = wp 122 51 [v0, v1, v2, v3] (.int (x + y) :: st) h Q := wp_stp (ri := (.iadd, 1, 0, 0, 0, 0)) (by decide +kernel) rfl rfl rfl
set_option maxRecDepth 100000 in
theorem i122_51 {v0 v1 v2 v3 : Value} {w : Int32} {st : List Value} {h : ab_Hp} {Q : ab_O → ab_Hp → Prop} : wp 122 51 [v0, v1, v2, v3] (.int w :: st) h Q = wp 122 52 [v0, ab_clr v1, .int w, v3] st h Q := wp_stp (ri := (.istore_n 2, 1, 0, 0, 0, 0)) (by decide +kernel) rfl rfl rfl
set_option maxRecDepth 100000 in
theorem i122_52 {v0 v1 v2 : Value} {x : Int32} {st : List Value} {h : ab_Hp} {Q : ab_O → ab_Hp → Prop} : wp 122 52 [v0, v1, v2, .int x] st h Q = wp 122 55 [v0, v1, ab_clr v2, .int (x + nI 1)] st h Q := wp_stp (ri := (.iinc 3 1, 3, 0, 0, 0, 0)) (by decide +kernel) rfl rfl rfl
set_option maxRecDepth 100000 in
theorem i122_55 {v0 v1 v2 v3 : Value} {st : List Value} {h : ab_Hp} {Q : ab_O → ab_Hp → Prop} : wp 122 55 [v0, v1, v2, v3] st h Q = wp 122 11 [v0, v1, v2, v3] st h Q := wp_stp (ri := (.goto (-44), 3, 11, 0, 0, 0)) (by decide +kernel) rfl rfl rfl
set_option maxRecDepth 100000 in
theorem i122_58 {v0 v2 v3 : Value} {x : Int32} {st : List Value} {h : ab_Hp} {Q : ab_O → ab_Hp → Prop} : wp 122 58 [v0, .int x, v2, v3] st h Q = wp 122 59 [v0, .int x, v2, v3] (.int x :: st) h Q := wp_stp (ri := (.iload_n 1, 1, 0, 0, 0, 0)) (by decide +kernel) rfl rfl rfl
set_option maxRecDepth 100000 in
theorem i122_59 {v0 v1 v2 v3 : Value} {x : Int32} {st : List Value} {h : ab_Hp} {Q : ab_O → ab_Hp → Prop} : wp 122 59 [v0, v1, v2, v3] (.int x :: st) h Q = if ¬ x = 0 then wp 122 69 [v0, v1, v2, v3] st h Q else wp 122 62 [v0, v1, v2, v3] st h Q := wp_ifcP (by decide +kernel : ab_cod 122 59 = some (.ifCond .ne 10, 3, 69, 0, 0, 0)) rfl
set_option maxRecDepth 100000 in
theorem i122_62 {v0 v1 v3 : Value} {x : Int32} {st : List Value} {h : ab_Hp} {Q : ab_O → ab_Hp → Prop} : wp 122 62 [v0, v1, .int x, v3] st h Q = wp 122 63 [v0, v1, .int x, v3] (.int x :: st) h Q := wp_stp (ri := (.iload_n 2, 1, 0, 0, 0, 0)) (by decide +kernel) rfl rfl rfl
set_option maxRecDepth 100000 in
theorem i122_63 {v0 v1 v2 v3 : Value} {st : List Value} {h : ab_Hp} {Q : ab_O → ab_Hp → Prop} : wp 122 63 [v0, v1, v2, v3] st h Q = wp 122 66 [v0, v1, v2, v3] (.int (nI 999) :: st) h Q := wp_stp (ri := (.sipush 999, 3, 0, 0, 0, 0)) (by decide +kernel) rfl rfl rfl
set_option maxRecDepth 100000 in
theorem i122_66 {v0 v1 v2 v3 : Value} {x y : Int32} {st : List Value} {h : ab_Hp} {Q : ab_O → ab_Hp → Prop} : wp 122 66 [v0, v1, v2, v3] (.int y :: .int x :: st) h Q = if x ≤ y then wp 122 73 [v0, v1, v2, v3] st h Q else wp 122 69 [v0, v1, v2, v3] st h Q := wp_icmpP (by decide +kernel : ab_cod 122 66 = some (.if_icmp .le 7, 3, 73, 0, 0, 0)) rfl
set_option maxRecDepth 100000 in
theorem i122_69 {v0 v1 v2 v3 : Value} {st : List Value} {h : ab_Hp} {Q : ab_O → ab_Hp → Prop} : wp 122 69 [v0, v1, v2, v3] st h Q = wp 122 70 [v0, v1, v2, v3] (.int (nI 1) :: st) h Q := wp_stp (ri := (.iconst 1, 1, 0, 0, 0, 0)) (by decide +kernel) rfl rfl rfl
set_option maxRecDepth 100000 in
theorem i122_70 {v0 v1 v2 v3 : Value} {st : List Value} {h : ab_Hp} {Q : ab_O → ab_Hp → Prop} : wp 122 70 [v0, v1, v2, v3] st h Q = wp 122 74 [v0, v1, v2, v3] st h Q := wp_stp (ri := (.goto 4, 3, 74, 0, 0, 0)) (by decide +kernel) rfl rfl rfl
set_option maxRecDepth 100000 in
theorem i122_73 {v0 v1 v2 v3 : Value} {st : List Value} {h : ab_Hp} {Q : ab_O → ab_Hp → Prop} : wp 122 73 [v0, v1, v2, v3] st h Q = wp 122 74 [v0, v1, v2, v3] (.int (nI 0) :: st) h Q := wp_stp (ri := (.iconst 0, 1, 0, 0, 0, 0)) (by decide +kernel) rfl rfl rfl
set_option maxRecDepth 100000 in
theorem i122_74 {v0 v1 v2 v3 : Value} {x : Int32} {h : ab_Hp} {Q : ab_O → ab_Hp → Prop} (hx : x = 0 ∨ x = 1) : wp 122 74 [v0, v1, v2, v3] [.int x] h Q = Q (.inl (some (.int x))) h := wp_zret (by decide +kernel : ab_cod 122 74 = some (.ireturn, 1, 0, 0, 0, 0)) rfl hx
/-! 123: SeamBeatsModel.isWhole()Z -/
theorem i123_0 {v0 : Value} {st : List Value} {h : ab_Hp} {Q : ab_O → ab_Hp → Prop} (hv : ab_isA v0 = true) : wp 123 0 [v0] st h Q = wp 123 1 [v0] (v0 :: st) h Q := wp_aload_n (by decide +kernel : ab_cod 123 0 = some (.aload_n 0, 1, 0, 0, 0, 0)) hv
theorem i123_1 {v0 : Value} {r : Nat} {st : List Value} {h : ab_Hp} {Q : ab_O → ab_Hp → Prop} (hl : st.length ≤ 4) (hk : (ab_sh h r).1 = 17) : wp 123 1 [v0] (.ref r :: st) h Q = wp 119 0 [.ref r, ab_nov] [] h (ab_K 123 1 [v0] st Q) := wp_callV (as := []) (by decide +kernel : ab_cod 123 1 = some (.invokevirtual 109, 3, 119, 1, 0, 916)) rfl rfl rfl rfl hl hk
theorem i123_4 {v0 : Value} {st : List Value} {h : ab_Hp} {Q : ab_O → ab_Hp → Prop} (hv : ab_isA v0 = true) : wp 123 4 [v0] st h Q = wp 123 5 [v0] (v0 :: st) h Q := wp_aload_n (by decide +kernel : ab_cod 123 4 = some (.aload_n 0, 1, 0, 0, 0, 0)) hv
theorem i123_5 {v0 : Value} {r : Nat} {st : List Value} {h : ab_Hp} {Q : ab_O → ab_Hp → Prop} (hk : (ab_sh h r).1 = 17) : wp 123 5 [v0] (.ref r :: st) h Q = wp 123 8 [v0] (.int (ab_hi h r 6) :: st) h Q := wp_gf (by decide +kernel : ab_cod 123 5 = some (.getfield 90, 3, 7, 6, 778, 0)) hk
theorem i123_8 {v0 : Value} {x y : Int32} {st : List Value} {h : ab_Hp} {Q : ab_O → ab_Hp → Prop} : wp 123 8 [v0] (.int y :: .int x :: st) h Q = if ¬ x = y then wp 123 40 [v0] st h Q else wp 123 11 [v0] st h Q := wp_icmpP (by decide +kernel : ab_cod 123 8 = some (.if_icmp .ne 32, 3, 40, 0, 0, 0)) rfl
theorem i123_11 {v0 : Value} {st : List Value} {h : ab_Hp} {Q : ab_O → ab_Hp → Prop} (hv : ab_isA v0 = true) : wp 123 11 [v0] st h Q = wp 123 12 [v0] (v0 :: st) h Q := wp_aload_n (by decide +kernel : ab_cod 123 11 = some (.aload_n 0, 1, 0, 0, 0, 0)) hv
theorem i123_12 {v0 : Value} {r : Nat} {st : List Value} {h : ab_Hp} {Q : ab_O → ab_Hp → Prop} (hk : (ab_sh h r).1 = 17) : wp 123 12 [v0] (.ref r :: st) h Q = wp 123 15 [v0] (.int (ab_hi h r 9) :: st) h Q := wp_gf (by decide +kernel : ab_cod 123 12 = some (.getfield 93, 3, 7, 9, 781, 0)) hk
theorem i123_15 {v0 : Value} {st : List Value} {h : ab_Hp} {Q : ab_O → ab_Hp → Prop} : wp 123 15 [v0] st h Q = wp 123 16 [v0] (.int (nI 3) :: st) h Q := wp_stp (ri := (.iconst 3, 1, 0, 0, 0, 0)) (by decide +kernel) rfl rfl rfl
theorem i123_16 {v0 : Value} {x y : Int32} {st : List Value} {h : ab_Hp} {Q : ab_O → ab_Hp → Prop} : wp 123 16 [v0] (.int y :: .int x :: st) h Q = if x = y then wp 123 36 [v0] st h Q else wp 123 19 [v0] st h Q := wp_icmpP (by decide +kernel : ab_cod 123 16 = some (.if_icmp .eq 20, 3, 36, 0, 0, 0)) rfl
theorem i123_19 {v0 : Value} {st : List Value} {h : ab_Hp} {Q : ab_O → ab_Hp → Prop} (hv : ab_isA v0 = true) : wp 123 19 [v0] st h Q = wp 123 20 [v0] (v0 :: st) h Q := wp_aload_n (by decide +kernel : ab_cod 123 19 = some (.aload_n 0, 1, 0, 0, 0, 0)) hv
theorem i123_20 {v0 : Value} {r : Nat} {st : List Value} {h : ab_Hp} {Q : ab_O → ab_Hp → Prop} (hk : (ab_sh h r).1 = 17) : wp 123 20 [v0] (.ref r :: st) h Q = wp 123 23 [v0] (.int (ab_hi h r 9) :: st) h Q := wp_gf (by decide +kernel : ab_cod 123 20 = some (.getfield 93, 3, 7, 9, 781, 0)) hk
theorem i123_23 {v0 : Value} {st : List Value} {h : ab_Hp} {Q : ab_O → ab_Hp → Prop} : wp 123 23 [v0] st h Q = wp 123 24 [v0] (.int (nI 4) :: st) h Q := wp_stp (ri := (.iconst 4, 1, 0, 0, 0, 0)) (by decide +kernel) rfl rfl rfl
theorem i123_24 {v0 : Value} {x y : Int32} {st : List Value} {h : ab_Hp} {Q : ab_O → ab_Hp → Prop} : wp 123 24 [v0] (.int y :: .int x :: st) h Q = if x = y then wp 123 36 [v0] st h Q else wp 123 27 [v0] st h Q := wp_icmpP (by decide +kernel : ab_cod 123 24 = some (.if_icmp .eq 12, 3, 36, 0, 0, 0)) rfl
theorem i123_27 {v0 : Value} {st : List Value} {h : ab_Hp} {Q : ab_O → ab_Hp → Prop} (hv : ab_isA v0 = true) : wp 123 27 [v0] st h Q = wp 123 28 [v0] (v0 :: st) h Q := wp_aload_n (by decide +kernel : ab_cod 123 27 = some (.aload_n 0, 1, 0, 0, 0, 0)) hv
theorem i123_28 {v0 : Value} {r : Nat} {st : List Value} {h : ab_Hp} {Q : ab_O → ab_Hp → Prop} (hk : (ab_sh h r).1 = 17) : wp 123 28 [v0] (.ref r :: st) h Q = wp 123 31 [v0] (.int (ab_hi h r 9) :: st) h Q := wp_gf (by decide +kernel : ab_cod 123 28 = some (.getfield 93, 3, 7, 9, 781, 0)) hk
theorem i123_31 {v0 : Value} {st : List Value} {h : ab_Hp} {Q : ab_O → ab_Hp → Prop} : wp 123 31 [v0] st h Q = wp 123 33 [v0] (.int (nI 6) :: st) h Q := wp_stp (ri := (.bipush 6, 2, 0, 0, 0, 0)) (by decide +kernel) rfl rfl rfl
theorem i123_33 {v0 : Value} {x y : Int32} {st : List Value} {h : ab_Hp} {Q : ab_O → ab_Hp → Prop} : wp 123 33 [v0] (.int y :: .int x :: st) h Q = if ¬ x = y then wp 123 40 [v0] st h Q else wp 123 36 [v0] st h Q := wp_icmpP (by decide +kernel : ab_cod 123 33 = some (.if_icmp .ne 7, 3, 40, 0, 0, 0)) rfl
theorem i123_36 {v0 : Value} {st : List Value} {h : ab_Hp} {Q : ab_O → ab_Hp → Prop} : wp 123 36 [v0] st h Q = wp 123 37 [v0] (.int (nI 1) :: st) h Q := wp_stp (ri := (.iconst 1, 1, 0, 0, 0, 0)) (by decide +kernel) rfl rfl rfl
theorem i123_37 {v0 : Value} {st : List Value} {h : ab_Hp} {Q : ab_O → ab_Hp → Prop} : wp 123 37 [v0] st h Q = wp 123 41 [v0] st h Q := wp_stp (ri := (.goto 4, 3, 41, 0, 0, 0)) (by decide +kernel) rfl rfl rfl
theorem i123_40 {v0 : Value} {st : List Value} {h : ab_Hp} {Q : ab_O → ab_Hp → Prop} : wp 123 40 [v0] st h Q = wp 123 41 [v0] (.int (nI 0) :: st) h Q := wp_stp (ri := (.iconst 0, 1, 0, 0, 0, 0)) (by decide +kernel) rfl rfl rfl
theorem i123_41 {v0 : Value} {x : Int32} {h : ab_Hp} {Q : ab_O → ab_Hp → Prop} (hx : x = 0 ∨ x = 1) : wp 123 41 [v0] [.int x] h Q = Q (.inl (some (.int x))) h := wp_zret (by decide +kernel : ab_cod 123 41 = some (.ireturn, 1, 0, 0, 0, 0)) rfl hx
/-! 124: SeamBeatsModel.putAll()I -/
set_option maxRecDepth 100000 in
theorem i124_0 {v0 v1 v2 : Value} {st : List Value} {h : ab_Hp} {Q : ab_O → ab_Hp → Prop} (hv : ab_isA v0 = true) : wp 124 0 [v0, v1, v2] st h Q = wp 124 1 [v0, v1, v2] (v0 :: st) h Q := wp_aload_n (by decide +kernel : ab_cod 124 0 = some (.aload_n 0, 1, 0, 0, 0, 0)) hv
set_option maxRecDepth 100000 in
theorem i124_1 {v0 v1 v2 : Value} {st : List Value} {h : ab_Hp} {Q : ab_O → ab_Hp → Prop} (hv : ab_isA v0 = true) : wp 124 1 [v0, v1, v2] st h Q = wp 124 2 [v0, v1, v2] (v0 :: st) h Q := wp_aload_n (by decide +kernel : ab_cod 124 1 = some (.aload_n 0, 1, 0, 0, 0, 0)) hv
set_option maxRecDepth 100000 in
theorem i124_2 {v0 v1 v2 : Value} {r : Nat} {st : List Value} {h : ab_Hp} {Q : ab_O → ab_Hp → Prop} (hl : st.length ≤ 4) (hk : (ab_sh h r).1 = 17) : wp 124 2 [v0, v1, v2] (.ref r :: st) h Q = wp 123 0 [.ref r] [] h (ab_K 124 2 [v0, v1, v2] st Q) := wp_callV (as := []) (by decide +kernel : ab_cod 124 2 = some (.invokevirtual 117, 3, 123, 1, 0, 936)) rfl rfl rfl rfl hl hk
set_option maxRecDepth 100000 in
theorem i124_5 {v0 v1 v2 : Value} {x : Int32} {st : List Value} {h : ab_Hp} {Q : ab_O → ab_Hp → Prop} : wp 124 5 [v0, v1, v2] (.int x :: st) h Q = if ¬ x = 0 then wp 124 12 [v0, v1, v2] st h Q else wp 124 8 [v0, v1, v2] st h Q := wp_ifcP (by decide +kernel : ab_cod 124 5 = some (.ifCond .ne 7, 3, 12, 0, 0, 0)) rfl
set_option maxRecDepth 100000 in
theorem i124_8 {v0 v1 v2 : Value} {st : List Value} {h : ab_Hp} {Q : ab_O → ab_Hp → Prop} : wp 124 8 [v0, v1, v2] st h Q = wp 124 9 [v0, v1, v2] (.int (nI 1) :: st) h Q := wp_stp (ri := (.iconst 1, 1, 0, 0, 0, 0)) (by decide +kernel) rfl rfl rfl
set_option maxRecDepth 100000 in
theorem i124_9 {v0 v1 v2 : Value} {st : List Value} {h : ab_Hp} {Q : ab_O → ab_Hp → Prop} : wp 124 9 [v0, v1, v2] st h Q = wp 124 24 [v0, v1, v2] st h Q := wp_stp (ri := (.goto 15, 3, 24, 0, 0, 0)) (by decide +kernel) rfl rfl rfl
set_option maxRecDepth 100000 in
theorem i124_12 {v0 v1 v2 : Value} {st : List Value} {h : ab_Hp} {Q : ab_O → ab_Hp → Prop} (hv : ab_isA v0 = true) : wp 124 12 [v0, v1, v2] st h Q = wp 124 13 [v0, v1, v2] (v0 :: st) h Q := wp_aload_n (by decide +kernel : ab_cod 124 12 = some (.aload_n 0, 1, 0, 0, 0, 0)) hv
set_option maxRecDepth 100000 in
theorem i124_13 {v0 v1 v2 : Value} {r : Nat} {st : List Value} {h : ab_Hp} {Q : ab_O → ab_Hp → Prop} (hl : st.length ≤ 4) (hk : (ab_sh h r).1 = 17) : wp 124 13 [v0, v1, v2] (.ref r :: st) h Q = wp 122 0 [.ref r, ab_nov, ab_nov, ab_nov] [] h (ab_K 124 13 [v0, v1, v2] st Q) := wp_callV (as := []) (by decide +kernel : ab_cod 124 13 = some (.invokevirtual 121, 3, 122, 1, 0, 940)) rfl rfl rfl rfl hl hk
set_option maxRecDepth 100000 in
theorem i124_16 {v0 v1 v2 : Value} {x : Int32} {st : List Value} {h : ab_Hp} {Q : ab_O → ab_Hp → Prop} : wp 124 16 [v0, v1, v2] (.int x :: st) h Q = if x = 0 then wp 124 23 [v0, v1, v2] st h Q else wp 124 19 [v0, v1, v2] st h Q := wp_ifcP (by decide +kernel : ab_cod 124 16 = some (.ifCond .eq 7, 3, 23, 0, 0, 0)) rfl
set_option maxRecDepth 100000 in
theorem i124_19 {v0 v1 v2 : Value} {st : List Value} {h : ab_Hp} {Q : ab_O → ab_Hp → Prop} : wp 124 19 [v0, v1, v2] st h Q = wp 124 20 [v0, v1, v2] (.int (nI 2) :: st) h Q := wp_stp (ri := (.iconst 2, 1, 0, 0, 0, 0)) (by decide +kernel) rfl rfl rfl
set_option maxRecDepth 100000 in
theorem i124_20 {v0 v1 v2 : Value} {st : List Value} {h : ab_Hp} {Q : ab_O → ab_Hp → Prop} : wp 124 20 [v0, v1, v2] st h Q = wp 124 24 [v0, v1, v2] st h Q := wp_stp (ri := (.goto 4, 3, 24, 0, 0, 0)) (by decide +kernel) rfl rfl rfl
set_option maxRecDepth 100000 in
theorem i124_23 {v0 v1 v2 : Value} {st : List Value} {h : ab_Hp} {Q : ab_O → ab_Hp → Prop} : wp 124 23 [v0, v1, v2] st h Q = wp 124 24 [v0, v1, v2] (.int (nI 0) :: st) h Q := wp_stp (ri := (.iconst 0, 1, 0, 0, 0, 0)) (by decide +kernel) rfl rfl rfl
set_option maxRecDepth 100000 in
theorem i124_24 {v0 v1 v2 : Value} {r : Nat} {x : Int32} {st : List Value} {h : ab_Hp} {Q : ab_O → ab_Hp → Prop} (hk : (ab_sh h r).1 = 17) : wp 124 24 [v0, v1, v2] (.int x :: .ref r :: st) h Q = wp 124 27 [v0, v1, v2] st (ab_setI h (ab_u (ab_hi h) r 0 x)) Q := wp_pf (by decide +kernel : ab_cod 124 24 = some (.putfield 29, 3, 7, 0, 772, 0)) hk rfl
set_option maxRecDepth 100000 in
theorem i124_27 {v0 v1 v2 : Value} {st : List Value} {h : ab_Hp} {Q : ab_O → ab_Hp → Prop} (hv : ab_isA v0 = true) : wp 124 27 [v0, v1, v2] st h Q = wp 124 28 [v0, v1, v2] (v0 :: st) h Q := wp_aload_n (by decide +kernel : ab_cod 124 27 = some (.aload_n 0, 1, 0, 0, 0, 0)) hv
set_option maxRecDepth 100000 in
theorem i124_28 {v0 v1 v2 : Value} {r : Nat} {st : List Value} {h : ab_Hp} {Q : ab_O → ab_Hp → Prop} (hk : (ab_sh h r).1 = 17) : wp 124 28 [v0, v1, v2] (.ref r :: st) h Q = wp 124 31 [v0, v1, v2] (.int (ab_hi h r 0) :: st) h Q := wp_gf (by decide +kernel : ab_cod 124 28 = some (.getfield 29, 3, 7, 0, 772, 0)) hk
set_option maxRecDepth 100000 in
theorem i124_31 {v0 v1 v2 : Value} {x : Int32} {st : List Value} {h : ab_Hp} {Q : ab_O → ab_Hp → Prop} : wp 124 31 [v0, v1, v2] (.int x :: st) h Q = if x ≤ 0 then wp 124 36 [v0, v1, v2] st h Q else wp 124 34 [v0, v1, v2] st h Q := wp_ifcP (by decide +kernel : ab_cod 124 31 = some (.ifCond .le 5, 3, 36, 0, 0, 0)) rfl
set_option maxRecDepth 100000 in
theorem i124_34 {v0 v1 v2 : Value} {st : List Value} {h : ab_Hp} {Q : ab_O → ab_Hp → Prop} : wp 124 34 [v0, v1, v2] st h Q = wp 124 35 [v0, v1, v2] (.int (nI 0) :: st) h Q := wp_stp (ri := (.iconst 0, 1, 0, 0, 0, 0)) (by decide +kernel) rfl rfl rfl
set_option maxRecDepth 100000 in
theorem i124_35 {v0 v1 v2 : Value} {x : Int32} {h : ab_Hp} {Q : ab_O → ab_Hp → Prop} : wp 124 35 [v0, v1, v2] [.int x] h Q = Q (.inl (some (.int x))) h := wp_iret (by decide +kernel : ab_cod 124 35 = some (.ireturn, 1, 0, 0, 0, 0)) rfl
set_option maxRecDepth 100000 in
theorem i124_36 {v0 v1 v2 : Value} {st : List Value} {h : ab_Hp} {Q : ab_O → ab_Hp → Prop} (hv : ab_isA v0 = true) : wp 124 36 [v0, v1, v2] st h Q = wp 124 37 [v0, v1, v2] (v0 :: st) h Q := wp_aload_n (by decide +kernel : ab_cod 124 36 = some (.aload_n 0, 1, 0, 0, 0, 0)) hv
set_option maxRecDepth 100000 in
theorem i124_37 {v0 v1 v2 : Value} {r : Nat} {st : List Value} {h : ab_Hp} {Q : ab_O → ab_Hp → Prop} (hl : st.length ≤ 4) (hk : (ab_sh h r).1 = 17) : wp 124 37 [v0, v1, v2] (.ref r :: st) h Q = wp 94 0 [.ref r, ab_nov] [] h (ab_K 124 37 [v0, v1, v2] st Q) := wp_callV (as := []) (by decide +kernel : ab_cod 124 37 = some (.invokevirtual 44, 3, 94, 1, 0, 824)) rfl rfl rfl rfl hl hk
set_option maxRecDepth 100000 in
theorem i124_40 {v0 v1 v2 : Value} {st : List Value} {h : ab_Hp} {Q : ab_O → ab_Hp → Prop} : wp 124 40 [v0, v1, v2] st h Q = wp 124 41 [v0, v1, v2] (.int (nI 0) :: st) h Q := wp_stp (ri := (.iconst 0, 1, 0, 0, 0, 0)) (by decide +kernel) rfl rfl rfl
set_option maxRecDepth 100000 in
theorem i124_41 {v0 v1 v2 : Value} {w : Int32} {st : List Value} {h : ab_Hp} {Q : ab_O → ab_Hp → Prop} : wp 124 41 [v0, v1, v2] (.int w :: st) h Q = wp 124 42 [ab_clr v0, .int w, v2] st h Q := wp_stp (ri := (.istore_n 1, 1, 0, 0, 0, 0)) (by decide +kernel) rfl rfl rfl
set_option maxRecDepth 100000 in
theorem i124_42 {v0 v2 : Value} {x : Int32} {st : List Value} {h : ab_Hp} {Q : ab_O → ab_Hp → Prop} : wp 124 42 [v0, .int x, v2] st h Q = wp 124 43 [v0, .int x, v2] (.int x :: st) h Q := wp_stp (ri := (.iload_n 1, 1, 0, 0, 0, 0)) (by decide +kernel) rfl rfl rfl
set_option maxRecDepth 100000 in
theorem i124_43 {v0 v1 v2 : Value} {st : List Value} {h : ab_Hp} {Q : ab_O → ab_Hp → Prop} (hv : ab_isA v0 = true) : wp 124 43 [v0, v1, v2] st h Q = wp 124 44 [v0, v1, v2] (v0 :: st) h Q := wp_aload_n (by decide +kernel : ab_cod 124 43 = some (.aload_n 0, 1, 0, 0, 0, 0)) hv
set_option maxRecDepth 100000 in
theorem i124_44 {v0 v1 v2 : Value} {r : Nat} {st : List Value} {h : ab_Hp} {Q : ab_O → ab_Hp → Prop} (hk : (ab_sh h r).1 = 17) : wp 124 44 [v0, v1, v2] (.ref r :: st) h Q = wp 124 47 [v0, v1, v2] (.int (ab_hi h r 8) :: st) h Q := wp_gf (by decide +kernel : ab_cod 124 44 = some (.getfield 96, 3, 7, 8, 780, 0)) hk
set_option maxRecDepth 100000 in
theorem i124_47 {v0 v1 v2 : Value} {x y : Int32} {st : List Value} {h : ab_Hp} {Q : ab_O → ab_Hp → Prop} : wp 124 47 [v0, v1, v2] (.int y :: .int x :: st) h Q = if y ≤ x then wp 124 116 [v0, v1, v2] st h Q else wp 124 50 [v0, v1, v2] st h Q := wp_icmpP (by decide +kernel : ab_cod 124 47 = some (.if_icmp .ge 69, 3, 116, 0, 0, 0)) rfl
set_option maxRecDepth 100000 in
theorem i124_50 {v0 v1 v2 : Value} {st : List Value} {h : ab_Hp} {Q : ab_O → ab_Hp → Prop} : wp 124 50 [v0, v1, v2] st h Q = wp 124 51 [v0, v1, v2] (.int (nI 0) :: st) h Q := wp_stp (ri := (.iconst 0, 1, 0, 0, 0, 0)) (by decide +kernel) rfl rfl rfl
set_option maxRecDepth 100000 in
theorem i124_51 {v0 v1 v2 : Value} {w : Int32} {st : List Value} {h : ab_Hp} {Q : ab_O → ab_Hp → Prop} : wp 124 51 [v0, v1, v2] (.int w :: st) h Q = wp 124 52 [v0, ab_clr v1, .int w] st h Q := wp_stp (ri := (.istore_n 2, 1, 0, 0, 0, 0)) (by decide +kernel) rfl rfl rfl
set_option maxRecDepth 100000 in
theorem i124_52 {v0 v1 : Value} {x : Int32} {st : List Value} {h : ab_Hp} {Q : ab_O → ab_Hp → Prop} : wp 124 52 [v0, v1, .int x] st h Q = wp 124 53 [v0, v1, .int x] (.int x :: st) h Q := wp_stp (ri := (.iload_n 2, 1, 0, 0, 0, 0)) (by decide +kernel) rfl rfl rfl
set_option maxRecDepth 100000 in
theorem i124_53 {v0 v1 v2 : Value} {st : List Value} {h : ab_Hp} {Q : ab_O → ab_Hp → Prop} (hv : ab_isA v0 = true) : wp 124 53 [v0, v1, v2] st h Q = wp 124 54 [v0, v1, v2] (v0 :: st) h Q := wp_aload_n (by decide +kernel : ab_cod 124 53 = some (.aload_n 0, 1, 0, 0, 0, 0)) hv
set_option maxRecDepth 100000 in
theorem i124_54 {v0 v1 v2 : Value} {r : Nat} {st : List Value} {h : ab_Hp} {Q : ab_O → ab_Hp → Prop} (hk : (ab_sh h r).1 = 17) : wp 124 54 [v0, v1, v2] (.ref r :: st) h Q = wp 124 57 [v0, v1, v2] (va_rf (ab_hr h r 7) :: st) h Q := wp_gf (by decide +kernel : ab_cod 124 54 = some (.getfield 22, 3, 7, 7, 779, 1)) hk
set_option maxRecDepth 100000 in
theorem i124_57 {v0 v1 v2 : Value} {st : List Value} {h : ab_Hp} {Q : ab_O → ab_Hp → Prop} : wp 124 57 [v0, v1, v2] st h Q = wp 124 58 [v0, v1, v2] (.int (nI 3) :: st) h Q := wp_stp (ri := (.iconst 3, 1, 0, 0, 0, 0)) (by decide +kernel) rfl rfl rfl
set_option maxRecDepth 100000 in
theorem i124_58 {v0 v2 : Value} {x : Int32} {st : List Value} {h : ab_Hp} {Q : ab_O → ab_Hp → Prop} : wp 124 58 [v0, .int x, v2] st h Q = wp 124 59 [v0, .int x, v2] (.int x :: st) h Q := wp_stp (ri := (.iload_n 1, 1, 0, 0, 0, 0)) (by decide +kernel) rfl rfl rfl
set_option maxRecDepth 100000 in
theorem i124_59 {v0 v1 v2 : Value} {x y : Int32} {st : List Value} {h : ab_Hp} {Q : ab_O → ab_Hp → Prop} : wp 124 59 [v0, v1, v2] (.int y :: .int x :: st) h Q = wp 124 60 [v0, v1, v2] (.int (x * y) :: st) h Q := wp_stp (ri := (.imul, 1, 0, 0, 0, 0)) (by decide +kernel) rfl rfl rfl
set_option maxRecDepth 100000 in
theorem i124_60 {v0 v1 v2 : Value} {st : List Value} {h : ab_Hp} {Q : ab_O → ab_Hp → Prop} : wp 124 60 [v0, v1, v2] st h Q = wp 124 61 [v0, v1, v2] (.int (nI 2) :: st) h Q := wp_stp (ri := (.iconst 2, 1, 0, 0, 0, 0)) (by decide +kernel) rfl rfl rfl
set_option maxRecDepth 100000 in
theorem i124_61 {v0 v1 v2 : Value} {x y : Int32} {st : List Value} {h : ab_Hp} {Q : ab_O → ab_Hp → Prop} : wp 124 61 [v0, v1, v2] (.int y :: .int x :: st) h Q = wp 124 62 [v0, v1, v2] (.int (x + y) :: st) h Q := wp_stp (ri := (.iadd, 1, 0, 0, 0, 0)) (by decide +kernel) rfl rfl rfl
set_option maxRecDepth 100000 in
theorem i124_62 {v0 v1 v2 : Value} {r : Nat} {x : Int32} {st : List Value} {h : ab_Hp} {Q : ab_O → ab_Hp → Prop} (hk : ((ab_sh h r).1 = 1 ∨ (ab_sh h r).1 = 6) ∧ ab_in x (ab_sh h r).2 = true) : wp 124 62 [v0, v1, v2] (.int x :: .ref r :: st) h Q = wp 124 63 [v0, v1, v2] (.int (ab_hi h r x.toNatClampNeg) :: st) h Q := wp_ia (by decide +kernel : ab_cod 124 62 = some (.iaload, 1, 0, 0, 0, 0)) hk
set_option maxRecDepth 100000 in
theorem i124_63 {v0 v1 v2 : Value} {x y : Int32} {st : List Value} {h : ab_Hp} {Q : ab_O → ab_Hp → Prop} : wp 124 63 [v0, v1, v2] (.int y :: .int x :: st) h Q = if y ≤ x then wp 124 110 [v0, v1, v2] st h Q else wp 124 66 [v0, v1, v2] st h Q := wp_icmpP (by decide +kernel : ab_cod 124 63 = some (.if_icmp .ge 47, 3, 110, 0, 0, 0)) rfl
set_option maxRecDepth 100000 in
theorem i124_66 {v0 v1 v2 : Value} {st : List Value} {h : ab_Hp} {Q : ab_O → ab_Hp → Prop} (hv : ab_isA v0 = true) : wp 124 66 [v0, v1, v2] st h Q = wp 124 67 [v0, v1, v2] (v0 :: st) h Q := wp_aload_n (by decide +kernel : ab_cod 124 66 = some (.aload_n 0, 1, 0, 0, 0, 0)) hv
set_option maxRecDepth 100000 in
theorem i124_67 {v0 v1 v2 : Value} {st : List Value} {h : ab_Hp} {Q : ab_O → ab_Hp → Prop} (hv : ab_isA v0 = true) : wp 124 67 [v0, v1, v2] st h Q = wp 124 68 [v0, v1, v2] (v0 :: st) h Q := wp_aload_n (by decide +kernel : ab_cod 124 67 = some (.aload_n 0, 1, 0, 0, 0, 0)) hv
set_option maxRecDepth 100000 in
theorem i124_68 {v0 v1 v2 : Value} {r : Nat} {st : List Value} {h : ab_Hp} {Q : ab_O → ab_Hp → Prop} (hk : (ab_sh h r).1 = 17) : wp 124 68 [v0, v1, v2] (.ref r :: st) h Q = wp 124 71 [v0, v1, v2] (va_rf (ab_hr h r 7) :: st) h Q := wp_gf (by decide +kernel : ab_cod 124 68 = some (.getfield 22, 3, 7, 7, 779, 1)) hk
set_option maxRecDepth 100000 in
theorem i124_71 {v0 v1 v2 : Value} {st : List Value} {h : ab_Hp} {Q : ab_O → ab_Hp → Prop} : wp 124 71 [v0, v1, v2] st h Q = wp 124 72 [v0, v1, v2] (.int (nI 3) :: st) h Q := wp_stp (ri := (.iconst 3, 1, 0, 0, 0, 0)) (by decide +kernel) rfl rfl rfl
set_option maxRecDepth 100000 in
theorem i124_72 {v0 v2 : Value} {x : Int32} {st : List Value} {h : ab_Hp} {Q : ab_O → ab_Hp → Prop} : wp 124 72 [v0, .int x, v2] st h Q = wp 124 73 [v0, .int x, v2] (.int x :: st) h Q := wp_stp (ri := (.iload_n 1, 1, 0, 0, 0, 0)) (by decide +kernel) rfl rfl rfl
set_option maxRecDepth 100000 in
theorem i124_73 {v0 v1 v2 : Value} {x y : Int32} {st : List Value} {h : ab_Hp} {Q : ab_O → ab_Hp → Prop} : wp 124 73 [v0, v1, v2] (.int y :: .int x :: st) h Q = wp 124 74 [v0, v1, v2] (.int (x * y) :: st) h Q := wp_stp (ri := (.imul, 1, 0, 0, 0, 0)) (by decide +kernel) rfl rfl rfl
set_option maxRecDepth 100000 in
theorem i124_74 {v0 v1 v2 : Value} {r : Nat} {x : Int32} {st : List Value} {h : ab_Hp} {Q : ab_O → ab_Hp → Prop} (hk : ((ab_sh h r).1 = 1 ∨ (ab_sh h r).1 = 6) ∧ ab_in x (ab_sh h r).2 = true) : wp 124 74 [v0, v1, v2] (.int x :: .ref r :: st) h Q = wp 124 75 [v0, v1, v2] (.int (ab_hi h r x.toNatClampNeg) :: st) h Q := wp_ia (by decide +kernel : ab_cod 124 74 = some (.iaload, 1, 0, 0, 0, 0)) hk
set_option maxRecDepth 100000 in
theorem i124_75 {v0 v1 v2 : Value} {st : List Value} {h : ab_Hp} {Q : ab_O → ab_Hp → Prop} (hv : ab_isA v0 = true) : wp 124 75 [v0, v1, v2] st h Q = wp 124 76 [v0, v1, v2] (v0 :: st) h Q := wp_aload_n (by decide +kernel : ab_cod 124 75 = some (.aload_n 0, 1, 0, 0, 0, 0)) hv
set_option maxRecDepth 100000 in
theorem i124_76 {v0 v1 v2 : Value} {r : Nat} {st : List Value} {h : ab_Hp} {Q : ab_O → ab_Hp → Prop} (hk : (ab_sh h r).1 = 17) : wp 124 76 [v0, v1, v2] (.ref r :: st) h Q = wp 124 79 [v0, v1, v2] (va_rf (ab_hr h r 1) :: st) h Q := wp_gf (by decide +kernel : ab_cod 124 76 = some (.getfield 7, 3, 7, 1, 773, 1)) hk
set_option maxRecDepth 100000 in
theorem i124_79 {v0 v1 v2 : Value} {st : List Value} {h : ab_Hp} {Q : ab_O → ab_Hp → Prop} : wp 124 79 [v0, v1, v2] st h Q = wp 124 80 [v0, v1, v2] (.int (nI 1) :: st) h Q := wp_stp (ri := (.iconst 1, 1, 0, 0, 0, 0)) (by decide +kernel) rfl rfl rfl
set_option maxRecDepth 100000 in
theorem i124_80 {v0 v1 v2 : Value} {r : Nat} {x : Int32} {st : List Value} {h : ab_Hp} {Q : ab_O → ab_Hp → Prop} (hk : ((ab_sh h r).1 = 1 ∨ (ab_sh h r).1 = 6) ∧ ab_in x (ab_sh h r).2 = true) : wp 124 80 [v0, v1, v2] (.int x :: .ref r :: st) h Q = wp 124 81 [v0, v1, v2] (.int (ab_hi h r x.toNatClampNeg) :: st) h Q := wp_ia (by decide +kernel : ab_cod 124 80 = some (.iaload, 1, 0, 0, 0, 0)) hk
set_option maxRecDepth 100000 in
theorem i124_81 {v0 v1 v2 : Value} {st : List Value} {h : ab_Hp} {Q : ab_O → ab_Hp → Prop} (hv : ab_isA v0 = true) : wp 124 81 [v0, v1, v2] st h Q = wp 124 82 [v0, v1, v2] (v0 :: st) h Q := wp_aload_n (by decide +kernel : ab_cod 124 81 = some (.aload_n 0, 1, 0, 0, 0, 0)) hv
set_option maxRecDepth 100000 in
theorem i124_82 {v0 v1 v2 : Value} {r : Nat} {st : List Value} {h : ab_Hp} {Q : ab_O → ab_Hp → Prop} (hk : (ab_sh h r).1 = 17) : wp 124 82 [v0, v1, v2] (.ref r :: st) h Q = wp 124 85 [v0, v1, v2] (va_rf (ab_hr h r 7) :: st) h Q := wp_gf (by decide +kernel : ab_cod 124 82 = some (.getfield 22, 3, 7, 7, 779, 1)) hk
set_option maxRecDepth 100000 in
theorem i124_85 {v0 v1 v2 : Value} {st : List Value} {h : ab_Hp} {Q : ab_O → ab_Hp → Prop} : wp 124 85 [v0, v1, v2] st h Q = wp 124 86 [v0, v1, v2] (.int (nI 3) :: st) h Q := wp_stp (ri := (.iconst 3, 1, 0, 0, 0, 0)) (by decide +kernel) rfl rfl rfl
set_option maxRecDepth 100000 in
theorem i124_86 {v0 v2 : Value} {x : Int32} {st : List Value} {h : ab_Hp} {Q : ab_O → ab_Hp → Prop} : wp 124 86 [v0, .int x, v2] st h Q = wp 124 87 [v0, .int x, v2] (.int x :: st) h Q := wp_stp (ri := (.iload_n 1, 1, 0, 0, 0, 0)) (by decide +kernel) rfl rfl rfl
set_option maxRecDepth 100000 in
theorem i124_87 {v0 v1 v2 : Value} {x y : Int32} {st : List Value} {h : ab_Hp} {Q : ab_O → ab_Hp → Prop} : wp 124 87 [v0, v1, v2] (.int y :: .int x :: st) h Q = wp 124 88 [v0, v1, v2] (.int (x * y) :: st) h Q := wp_stp (ri := (.imul, 1, 0, 0, 0, 0)) (by decide +kernel) rfl rfl rfl
set_option maxRecDepth 100000 in
theorem i124_88 {v0 v1 v2 : Value} {st : List Value} {h : ab_Hp} {Q : ab_O → ab_Hp → Prop} : wp 124 88 [v0, v1, v2] st h Q = wp 124 89 [v0, v1, v2] (.int (nI 1) :: st) h Q := wp_stp (ri := (.iconst 1, 1, 0, 0, 0, 0)) (by decide +kernel) rfl rfl rfl
set_option maxRecDepth 100000 in
theorem i124_89 {v0 v1 v2 : Value} {x y : Int32} {st : List Value} {h : ab_Hp} {Q : ab_O → ab_Hp → Prop} : wp 124 89 [v0, v1, v2] (.int y :: .int x :: st) h Q = wp 124 90 [v0, v1, v2] (.int (x + y) :: st) h Q := wp_stp (ri := (.iadd, 1, 0, 0, 0, 0)) (by decide +kernel) rfl rfl rfl
set_option maxRecDepth 100000 in
theorem i124_90 {v0 v1 v2 : Value} {r : Nat} {x : Int32} {st : List Value} {h : ab_Hp} {Q : ab_O → ab_Hp → Prop} (hk : ((ab_sh h r).1 = 1 ∨ (ab_sh h r).1 = 6) ∧ ab_in x (ab_sh h r).2 = true) : wp 124 90 [v0, v1, v2] (.int x :: .ref r :: st) h Q = wp 124 91 [v0, v1, v2] (.int (ab_hi h r x.toNatClampNeg) :: st) h Q := wp_ia (by decide +kernel : ab_cod 124 90 = some (.iaload, 1, 0, 0, 0, 0)) hk
set_option maxRecDepth 100000 in
theorem i124_91 {v0 v1 v2 : Value} {r : Nat} {a0 : Int32} {a1 : Int32} {a2 : Int32} {st : List Value} {h : ab_Hp} {Q : ab_O → ab_Hp → Prop} (hl : st.length ≤ 4) (hk : (ab_sh h r).1 = 17) : wp 124 91 [v0, v1, v2] (.int a2 :: .int a1 :: .int a0 :: .ref r :: st) h Q = wp 104 0 [.ref r, .int a0, .int a1, .int a2, ab_nov] [] h (ab_K 124 91 [v0, v1, v2] st Q) := wp_callV (as := [.int a0, .int a1, .int a2]) (by decide +kernel : ab_cod 124 91 = some (.invokevirtual 64, 3, 104, 4, 0, 868)) rfl rfl rfl rfl hl hk
set_option maxRecDepth 100000 in
theorem i124_94 {v0 v1 v2 : Value} {st : List Value} {h : ab_Hp} {Q : ab_O → ab_Hp → Prop} (hv : ab_isA v0 = true) : wp 124 94 [v0, v1, v2] st h Q = wp 124 95 [v0, v1, v2] (v0 :: st) h Q := wp_aload_n (by decide +kernel : ab_cod 124 94 = some (.aload_n 0, 1, 0, 0, 0, 0)) hv
set_option maxRecDepth 100000 in
theorem i124_95 {v0 v1 v2 : Value} {r : Nat} {st : List Value} {h : ab_Hp} {Q : ab_O → ab_Hp → Prop} (hk : (ab_sh h r).1 = 17) : wp 124 95 [v0, v1, v2] (.ref r :: st) h Q = wp 124 98 [v0, v1, v2] (va_rf (ab_hr h r 1) :: st) h Q := wp_gf (by decide +kernel : ab_cod 124 95 = some (.getfield 7, 3, 7, 1, 773, 1)) hk
set_option maxRecDepth 100000 in
theorem i124_98 {v0 v1 v2 : Value} {st : List Value} {h : ab_Hp} {Q : ab_O → ab_Hp → Prop} : wp 124 98 [v0, v1, v2] st h Q = wp 124 99 [v0, v1, v2] (.int (nI 1) :: st) h Q := wp_stp (ri := (.iconst 1, 1, 0, 0, 0, 0)) (by decide +kernel) rfl rfl rfl
set_option maxRecDepth 100000 in
theorem i124_99 {v0 v1 v2 : Value} {x : Int32} {r : Nat} {st : List Value} {h : ab_Hp} {Q : ab_O → ab_Hp → Prop} : wp 124 99 [v0, v1, v2] (.int x :: .ref r :: st) h Q = wp 124 100 [v0, v1, v2] (.int x :: .ref r :: .int x :: .ref r :: st) h Q := wp_stp (ri := (.dup2, 1, 0, 0, 0, 0)) (by decide +kernel) rfl rfl rfl
set_option maxRecDepth 100000 in
theorem i124_100 {v0 v1 v2 : Value} {r : Nat} {x : Int32} {st : List Value} {h : ab_Hp} {Q : ab_O → ab_Hp → Prop} (hk : ((ab_sh h r).1 = 1 ∨ (ab_sh h r).1 = 6) ∧ ab_in x (ab_sh h r).2 = true) : wp 124 100 [v0, v1, v2] (.int x :: .ref r :: st) h Q = wp 124 101 [v0, v1, v2] (.int (ab_hi h r x.toNatClampNeg) :: st) h Q := wp_ia (by decide +kernel : ab_cod 124 100 = some (.iaload, 1, 0, 0, 0, 0)) hk
set_option maxRecDepth 100000 in
theorem i124_101 {v0 v1 v2 : Value} {st : List Value} {h : ab_Hp} {Q : ab_O → ab_Hp → Prop} : wp 124 101 [v0, v1, v2] st h Q = wp 124 102 [v0, v1, v2] (.int (nI 1) :: st) h Q := wp_stp (ri := (.iconst 1, 1, 0, 0, 0, 0)) (by decide +kernel) rfl rfl rfl
set_option maxRecDepth 100000 in
theorem i124_102 {v0 v1 v2 : Value} {x y : Int32} {st : List Value} {h : ab_Hp} {Q : ab_O → ab_Hp → Prop} : wp 124 102 [v0, v1, v2] (.int y :: .int x :: st) h Q = wp 124 103 [v0, v1, v2] (.int (x + y) :: st) h Q := wp_stp (ri := (.iadd, 1, 0, 0, 0, 0)) (by decide +kernel) rfl rfl rfl
set_option maxRecDepth 100000 in
theorem i124_103 {v0 v1 v2 : Value} {r : Nat} {x y : Int32} {st : List Value} {h : ab_Hp} {Q : ab_O → ab_Hp → Prop} (hk : (ab_sh h r).1 = 1 ∧ ab_in x (ab_sh h r).2 = true) : wp 124 103 [v0, v1, v2] (.int y :: .int x :: .ref r :: st) h Q = wp 124 104 [v0, v1, v2] st (ab_setI h (ab_u (ab_hi h) r x.toNatClampNeg y)) Q := wp_ias (by decide +kernel : ab_cod 124 103 = some (.iastore, 1, 0, 0, 0, 0)) hk
set_option maxRecDepth 100000 in
theorem i124_104 {v0 v1 : Value} {x : Int32} {st : List Value} {h : ab_Hp} {Q : ab_O → ab_Hp → Prop} : wp 124 104 [v0, v1, .int x] st h Q = wp 124 107 [v0, ab_clr v1, .int (x + nI 1)] st h Q := wp_stp (ri := (.iinc 2 1, 3, 0, 0, 0, 0)) (by decide +kernel) rfl rfl rfl
set_option maxRecDepth 100000 in
theorem i124_107 {v0 v1 v2 : Value} {st : List Value} {h : ab_Hp} {Q : ab_O → ab_Hp → Prop} : wp 124 107 [v0, v1, v2] st h Q = wp 124 52 [v0, v1, v2] st h Q := wp_stp (ri := (.goto (-55), 3, 52, 0, 0, 0)) (by decide +kernel) rfl rfl rfl
set_option maxRecDepth 100000 in
theorem i124_110 {v0 v2 : Value} {x : Int32} {st : List Value} {h : ab_Hp} {Q : ab_O → ab_Hp → Prop} : wp 124 110 [v0, .int x, v2] st h Q = wp 124 113 [ab_clr v0, .int (x + nI 1), v2] st h Q := wp_stp (ri := (.iinc 1 1, 3, 0, 0, 0, 0)) (by decide +kernel) rfl rfl rfl
set_option maxRecDepth 100000 in
theorem i124_113 {v0 v1 v2 : Value} {st : List Value} {h : ab_Hp} {Q : ab_O → ab_Hp → Prop} : wp 124 113 [v0, v1, v2] st h Q = wp 124 42 [v0, v1, v2] st h Q := wp_stp (ri := (.goto (-71), 3, 42, 0, 0, 0)) (by decide +kernel) rfl rfl rfl
set_option maxRecDepth 100000 in
theorem i124_116 {v0 v1 v2 : Value} {st : List Value} {h : ab_Hp} {Q : ab_O → ab_Hp → Prop} (hv : ab_isA v0 = true) : wp 124 116 [v0, v1, v2] st h Q = wp 124 117 [v0, v1, v2] (v0 :: st) h Q := wp_aload_n (by decide +kernel : ab_cod 124 116 = some (.aload_n 0, 1, 0, 0, 0, 0)) hv
set_option maxRecDepth 100000 in
theorem i124_117 {v0 v1 v2 : Value} {st : List Value} {h : ab_Hp} {Q : ab_O → ab_Hp → Prop} : wp 124 117 [v0, v1, v2] st h Q = wp 124 118 [v0, v1, v2] (.int (nI 0) :: st) h Q := wp_stp (ri := (.iconst 0, 1, 0, 0, 0, 0)) (by decide +kernel) rfl rfl rfl
set_option maxRecDepth 100000 in
theorem i124_118 {v0 v1 v2 : Value} {r : Nat} {x : Int32} {st : List Value} {h : ab_Hp} {Q : ab_O → ab_Hp → Prop} (hk : (ab_sh h r).1 = 17) : wp 124 118 [v0, v1, v2] (.int x :: .ref r :: st) h Q = wp 124 121 [v0, v1, v2] st (ab_setI h (ab_u (ab_hi h) r 6 x)) Q := wp_pf (by decide +kernel : ab_cod 124 118 = some (.putfield 90, 3, 7, 6, 778, 0)) hk rfl
set_option maxRecDepth 100000 in
theorem i124_121 {v0 v1 v2 : Value} {st : List Value} {h : ab_Hp} {Q : ab_O → ab_Hp → Prop} (hv : ab_isA v0 = true) : wp 124 121 [v0, v1, v2] st h Q = wp 124 122 [v0, v1, v2] (v0 :: st) h Q := wp_aload_n (by decide +kernel : ab_cod 124 121 = some (.aload_n 0, 1, 0, 0, 0, 0)) hv
set_option maxRecDepth 100000 in
theorem i124_122 {v0 v1 v2 : Value} {r : Nat} {st : List Value} {h : ab_Hp} {Q : ab_O → ab_Hp → Prop} (hk : (ab_sh h r).1 = 17) : wp 124 122 [v0, v1, v2] (.ref r :: st) h Q = wp 124 125 [v0, v1, v2] (va_rf (ab_hr h r 1) :: st) h Q := wp_gf (by decide +kernel : ab_cod 124 122 = some (.getfield 7, 3, 7, 1, 773, 1)) hk
set_option maxRecDepth 100000 in
theorem i124_125 {v0 v1 v2 : Value} {st : List Value} {h : ab_Hp} {Q : ab_O → ab_Hp → Prop} : wp 124 125 [v0, v1, v2] st h Q = wp 124 126 [v0, v1, v2] (.int (nI 1) :: st) h Q := wp_stp (ri := (.iconst 1, 1, 0, 0, 0, 0)) (by decide +kernel) rfl rfl rfl
set_option maxRecDepth 100000 in
theorem i124_126 {v0 v1 v2 : Value} {r : Nat} {x : Int32} {st : List Value} {h : ab_Hp} {Q : ab_O → ab_Hp → Prop} (hk : ((ab_sh h r).1 = 1 ∨ (ab_sh h r).1 = 6) ∧ ab_in x (ab_sh h r).2 = true) : wp 124 126 [v0, v1, v2] (.int x :: .ref r :: st) h Q = wp 124 127 [v0, v1, v2] (.int (ab_hi h r x.toNatClampNeg) :: st) h Q := wp_ia (by decide +kernel : ab_cod 124 126 = some (.iaload, 1, 0, 0, 0, 0)) hk
set_option maxRecDepth 100000 in
theorem i124_127 {v0 v1 v2 : Value} {x : Int32} {h : ab_Hp} {Q : ab_O → ab_Hp → Prop} : wp 124 127 [v0, v1, v2] [.int x] h Q = Q (.inl (some (.int x))) h := wp_iret (by decide +kernel : ab_cod 124 127 = some (.ireturn, 1, 0, 0, 0, 0)) rfl
/-! 125: SeamBeatsModel.room(II)I -/
theorem i125_0 {v0 v1 v2 : Value} {st : List Value} {h : ab_Hp} {Q : ab_O → ab_Hp → Prop} (hv : ab_isA v0 = true) : wp 125 0 [v0, v1, v2] st h Q = wp 125 1 [v0, v1, v2] (v0 :: st) h Q := wp_aload_n (by decide +kernel : ab_cod 125 0 = some (.aload_n 0, 1, 0, 0, 0, 0)) hv
theorem i125_1 {v0 v2 : Value} {x : Int32} {st : List Value} {h : ab_Hp} {Q : ab_O → ab_Hp → Prop} : wp 125 1 [v0, .int x, v2] st h Q = wp 125 2 [v0, .int x, v2] (.int x :: st) h Q := wp_stp (ri := (.iload_n 1, 1, 0, 0, 0, 0)) (by decide +kernel) rfl rfl rfl
theorem i125_2 {v0 v1 v2 : Value} {a0 : Int32} {st : List Value} {h : ab_Hp} {Q : ab_O → ab_Hp → Prop} (hl : st.length ≤ 4) : wp 125 2 [v0, v1, v2] (.int a0 :: st) h Q = wp 88 0 [.int a0] [] h (ab_K 125 2 [v0, v1, v2] st Q) := wp_callS (as := [.int a0]) (by decide +kernel : ab_cod 125 2 = some (.invokestatic 40, 3, 88, 1, 1, 818)) rfl rfl rfl rfl hl
theorem i125_5 {v0 v1 v2 : Value} {x : Int32} {st : List Value} {h : ab_Hp} {Q : ab_O → ab_Hp → Prop} : wp 125 5 [v0, v1, v2] (.int x :: st) h Q = if ¬ x = 0 then wp 125 12 [v0, v1, v2] st h Q else wp 125 8 [v0, v1, v2] st h Q := wp_ifcP (by decide +kernel : ab_cod 125 5 = some (.ifCond .ne 7, 3, 12, 0, 0, 0)) rfl
theorem i125_8 {v0 v1 v2 : Value} {st : List Value} {h : ab_Hp} {Q : ab_O → ab_Hp → Prop} : wp 125 8 [v0, v1, v2] st h Q = wp 125 9 [v0, v1, v2] (.int (nI 1) :: st) h Q := wp_stp (ri := (.iconst 1, 1, 0, 0, 0, 0)) (by decide +kernel) rfl rfl rfl
theorem i125_9 {v0 v1 v2 : Value} {st : List Value} {h : ab_Hp} {Q : ab_O → ab_Hp → Prop} : wp 125 9 [v0, v1, v2] st h Q = wp 125 27 [v0, v1, v2] st h Q := wp_stp (ri := (.goto 18, 3, 27, 0, 0, 0)) (by decide +kernel) rfl rfl rfl
theorem i125_12 {v0 v1 : Value} {x : Int32} {st : List Value} {h : ab_Hp} {Q : ab_O → ab_Hp → Prop} : wp 125 12 [v0, v1, .int x] st h Q = wp 125 13 [v0, v1, .int x] (.int x :: st) h Q := wp_stp (ri := (.iload_n 2, 1, 0, 0, 0, 0)) (by decide +kernel) rfl rfl rfl
theorem i125_13 {v0 v1 v2 : Value} {st : List Value} {h : ab_Hp} {Q : ab_O → ab_Hp → Prop} : wp 125 13 [v0, v1, v2] st h Q = wp 125 14 [v0, v1, v2] (.int (nI 0) :: st) h Q := wp_stp (ri := (.iconst 0, 1, 0, 0, 0, 0)) (by decide +kernel) rfl rfl rfl
theorem i125_14 {v0 v1 v2 : Value} {st : List Value} {h : ab_Hp} {Q : ab_O → ab_Hp → Prop} : wp 125 14 [v0, v1, v2] st h Q = wp 125 16 [v0, v1, v2] (.int (nI 10) :: st) h Q := wp_stp (ri := (.bipush 10, 2, 0, 0, 0, 0)) (by decide +kernel) rfl rfl rfl
theorem i125_16 {v0 v1 v2 : Value} {a0 : Int32} {a1 : Int32} {a2 : Int32} {st : List Value} {h : ab_Hp} {Q : ab_O → ab_Hp → Prop} (hl : st.length ≤ 4) : wp 125 16 [v0, v1, v2] (.int a2 :: .int a1 :: .int a0 :: st) h Q = wp 87 0 [.int a0, .int a1, .int a2] [] h (ab_K 125 16 [v0, v1, v2] st Q) := wp_callS (as := [.int a0, .int a1, .int a2]) (by decide +kernel : ab_cod 125 16 = some (.invokestatic 33, 3, 87, 3, 1, 821)) rfl rfl rfl rfl hl
theorem i125_19 {v0 v1 v2 : Value} {x : Int32} {st : List Value} {h : ab_Hp} {Q : ab_O → ab_Hp → Prop} : wp 125 19 [v0, v1, v2] (.int x :: st) h Q = if ¬ x = 0 then wp 125 26 [v0, v1, v2] st h Q else wp 125 22 [v0, v1, v2] st h Q := wp_ifcP (by decide +kernel : ab_cod 125 19 = some (.ifCond .ne 7, 3, 26, 0, 0, 0)) rfl
theorem i125_22 {v0 v1 v2 : Value} {st : List Value} {h : ab_Hp} {Q : ab_O → ab_Hp → Prop} : wp 125 22 [v0, v1, v2] st h Q = wp 125 23 [v0, v1, v2] (.int (nI 2) :: st) h Q := wp_stp (ri := (.iconst 2, 1, 0, 0, 0, 0)) (by decide +kernel) rfl rfl rfl
theorem i125_23 {v0 v1 v2 : Value} {st : List Value} {h : ab_Hp} {Q : ab_O → ab_Hp → Prop} : wp 125 23 [v0, v1, v2] st h Q = wp 125 27 [v0, v1, v2] st h Q := wp_stp (ri := (.goto 4, 3, 27, 0, 0, 0)) (by decide +kernel) rfl rfl rfl
theorem i125_26 {v0 v1 v2 : Value} {st : List Value} {h : ab_Hp} {Q : ab_O → ab_Hp → Prop} : wp 125 26 [v0, v1, v2] st h Q = wp 125 27 [v0, v1, v2] (.int (nI 0) :: st) h Q := wp_stp (ri := (.iconst 0, 1, 0, 0, 0, 0)) (by decide +kernel) rfl rfl rfl
theorem i125_27 {v0 v1 v2 : Value} {r : Nat} {x : Int32} {st : List Value} {h : ab_Hp} {Q : ab_O → ab_Hp → Prop} (hk : (ab_sh h r).1 = 17) : wp 125 27 [v0, v1, v2] (.int x :: .ref r :: st) h Q = wp 125 30 [v0, v1, v2] st (ab_setI h (ab_u (ab_hi h) r 0 x)) Q := wp_pf (by decide +kernel : ab_cod 125 27 = some (.putfield 29, 3, 7, 0, 772, 0)) hk rfl
theorem i125_30 {v0 v1 v2 : Value} {st : List Value} {h : ab_Hp} {Q : ab_O → ab_Hp → Prop} (hv : ab_isA v0 = true) : wp 125 30 [v0, v1, v2] st h Q = wp 125 31 [v0, v1, v2] (v0 :: st) h Q := wp_aload_n (by decide +kernel : ab_cod 125 30 = some (.aload_n 0, 1, 0, 0, 0, 0)) hv
theorem i125_31 {v0 v1 v2 : Value} {r : Nat} {st : List Value} {h : ab_Hp} {Q : ab_O → ab_Hp → Prop} (hk : (ab_sh h r).1 = 17) : wp 125 31 [v0, v1, v2] (.ref r :: st) h Q = wp 125 34 [v0, v1, v2] (.int (ab_hi h r 0) :: st) h Q := wp_gf (by decide +kernel : ab_cod 125 31 = some (.getfield 29, 3, 7, 0, 772, 0)) hk
theorem i125_34 {v0 v1 v2 : Value} {x : Int32} {st : List Value} {h : ab_Hp} {Q : ab_O → ab_Hp → Prop} : wp 125 34 [v0, v1, v2] (.int x :: st) h Q = if x ≤ 0 then wp 125 41 [v0, v1, v2] st h Q else wp 125 37 [v0, v1, v2] st h Q := wp_ifcP (by decide +kernel : ab_cod 125 34 = some (.ifCond .le 7, 3, 41, 0, 0, 0)) rfl
theorem i125_37 {v0 v1 v2 : Value} {st : List Value} {h : ab_Hp} {Q : ab_O → ab_Hp → Prop} : wp 125 37 [v0, v1, v2] st h Q = wp 125 38 [v0, v1, v2] (.int (nI 0) :: st) h Q := wp_stp (ri := (.iconst 0, 1, 0, 0, 0, 0)) (by decide +kernel) rfl rfl rfl
theorem i125_38 {v0 v1 v2 : Value} {st : List Value} {h : ab_Hp} {Q : ab_O → ab_Hp → Prop} : wp 125 38 [v0, v1, v2] st h Q = wp 125 47 [v0, v1, v2] st h Q := wp_stp (ri := (.goto 9, 3, 47, 0, 0, 0)) (by decide +kernel) rfl rfl rfl
theorem i125_41 {v0 v1 v2 : Value} {st : List Value} {h : ab_Hp} {Q : ab_O → ab_Hp → Prop} (hv : ab_isA v0 = true) : wp 125 41 [v0, v1, v2] st h Q = wp 125 42 [v0, v1, v2] (v0 :: st) h Q := wp_aload_n (by decide +kernel : ab_cod 125 41 = some (.aload_n 0, 1, 0, 0, 0, 0)) hv
theorem i125_42 {v0 v2 : Value} {x : Int32} {st : List Value} {h : ab_Hp} {Q : ab_O → ab_Hp → Prop} : wp 125 42 [v0, .int x, v2] st h Q = wp 125 43 [v0, .int x, v2] (.int x :: st) h Q := wp_stp (ri := (.iload_n 1, 1, 0, 0, 0, 0)) (by decide +kernel) rfl rfl rfl
theorem i125_43 {v0 v1 : Value} {x : Int32} {st : List Value} {h : ab_Hp} {Q : ab_O → ab_Hp → Prop} : wp 125 43 [v0, v1, .int x] st h Q = wp 125 44 [v0, v1, .int x] (.int x :: st) h Q := wp_stp (ri := (.iload_n 2, 1, 0, 0, 0, 0)) (by decide +kernel) rfl rfl rfl
theorem i125_44 {v0 v1 v2 : Value} {r : Nat} {a0 : Int32} {a1 : Int32} {st : List Value} {h : ab_Hp} {Q : ab_O → ab_Hp → Prop} (hl : st.length ≤ 4) (hk : (ab_sh h r).1 = 17) : wp 125 44 [v0, v1, v2] (.int a1 :: .int a0 :: .ref r :: st) h Q = wp 90 0 [.ref r, .int a0, .int a1] [] h (ab_K 125 44 [v0, v1, v2] st Q) := wp_callV (as := [.int a0, .int a1]) (by decide +kernel : ab_cod 125 44 = some (.invokevirtual 47, 3, 90, 3, 0, 828)) rfl rfl rfl rfl hl hk
theorem i125_47 {v0 v1 v2 : Value} {x : Int32} {h : ab_Hp} {Q : ab_O → ab_Hp → Prop} : wp 125 47 [v0, v1, v2] [.int x] h Q = Q (.inl (some (.int x))) h := wp_iret (by decide +kernel : ab_cod 125 47 = some (.ireturn, 1, 0, 0, 0, 0)) rfl
/-! 126: SeamBeatsModel.queue(III)I -/
set_option maxRecDepth 100000 in
theorem i126_0 {v0 v1 v2 v3 : Value} {st : List Value} {h : ab_Hp} {Q : ab_O → ab_Hp → Prop} (hv : ab_isA v0 = true) : wp 126 0 [v0, v1, v2, v3] st h Q = wp 126 1 [v0, v1, v2, v3] (v0 :: st) h Q := wp_aload_n (by decide +kernel : ab_cod 126 0 = some (.aload_n 0, 1, 0, 0, 0, 0)) hv
set_option maxRecDepth 100000 in
theorem i126_1 {v0 v2 v3 : Value} {x : Int32} {st : List Value} {h : ab_Hp} {Q : ab_O → ab_Hp → Prop} : wp 126 1 [v0, .int x, v2, v3] st h Q = wp 126 2 [v0, .int x, v2, v3] (.int x :: st) h Q := wp_stp (ri := (.iload_n 1, 1, 0, 0, 0, 0)) (by decide +kernel) rfl rfl rfl
set_option maxRecDepth 100000 in
theorem i126_2 {v0 v1 v2 v3 : Value} {a0 : Int32} {st : List Value} {h : ab_Hp} {Q : ab_O → ab_Hp → Prop} (hl : st.length ≤ 4) : wp 126 2 [v0, v1, v2, v3] (.int a0 :: st) h Q = wp 88 0 [.int a0] [] h (ab_K 126 2 [v0, v1, v2, v3] st Q) := wp_callS (as := [.int a0]) (by decide +kernel : ab_cod 126 2 = some (.invokestatic 40, 3, 88, 1, 1, 818)) rfl rfl rfl rfl hl
set_option maxRecDepth 100000 in
theorem i126_5 {v0 v1 v2 v3 : Value} {x : Int32} {st : List Value} {h : ab_Hp} {Q : ab_O → ab_Hp → Prop} : wp 126 5 [v0, v1, v2, v3] (.int x :: st) h Q = if ¬ x = 0 then wp 126 12 [v0, v1, v2, v3] st h Q else wp 126 8 [v0, v1, v2, v3] st h Q := wp_ifcP (by decide +kernel : ab_cod 126 5 = some (.ifCond .ne 7, 3, 12, 0, 0, 0)) rfl
set_option maxRecDepth 100000 in
theorem i126_8 {v0 v1 v2 v3 : Value} {st : List Value} {h : ab_Hp} {Q : ab_O → ab_Hp → Prop} : wp 126 8 [v0, v1, v2, v3] st h Q = wp 126 9 [v0, v1, v2, v3] (.int (nI 1) :: st) h Q := wp_stp (ri := (.iconst 1, 1, 0, 0, 0, 0)) (by decide +kernel) rfl rfl rfl
set_option maxRecDepth 100000 in
theorem i126_9 {v0 v1 v2 v3 : Value} {st : List Value} {h : ab_Hp} {Q : ab_O → ab_Hp → Prop} : wp 126 9 [v0, v1, v2, v3] st h Q = wp 126 36 [v0, v1, v2, v3] st h Q := wp_stp (ri := (.goto 27, 3, 36, 0, 0, 0)) (by decide +kernel) rfl rfl rfl
set_option maxRecDepth 100000 in
theorem i126_12 {v0 v1 v3 : Value} {x : Int32} {st : List Value} {h : ab_Hp} {Q : ab_O → ab_Hp → Prop} : wp 126 12 [v0, v1, .int x, v3] st h Q = wp 126 13 [v0, v1, .int x, v3] (.int x :: st) h Q := wp_stp (ri := (.iload_n 2, 1, 0, 0, 0, 0)) (by decide +kernel) rfl rfl rfl
set_option maxRecDepth 100000 in
theorem i126_13 {v0 v1 v2 v3 : Value} {st : List Value} {h : ab_Hp} {Q : ab_O → ab_Hp → Prop} : wp 126 13 [v0, v1, v2, v3] st h Q = wp 126 14 [v0, v1, v2, v3] (.int (nI 0) :: st) h Q := wp_stp (ri := (.iconst 0, 1, 0, 0, 0, 0)) (by decide +kernel) rfl rfl rfl
set_option maxRecDepth 100000 in
theorem i126_14 {v0 v1 v2 v3 : Value} {st : List Value} {h : ab_Hp} {Q : ab_O → ab_Hp → Prop} : wp 126 14 [v0, v1, v2, v3] st h Q = wp 126 16 [v0, v1, v2, v3] (.int (nI 7) :: st) h Q := wp_stp (ri := (.bipush 7, 2, 0, 0, 0, 0)) (by decide +kernel) rfl rfl rfl
set_option maxRecDepth 100000 in
theorem i126_16 {v0 v1 v2 v3 : Value} {a0 : Int32} {a1 : Int32} {a2 : Int32} {st : List Value} {h : ab_Hp} {Q : ab_O → ab_Hp → Prop} (hl : st.length ≤ 4) : wp 126 16 [v0, v1, v2, v3] (.int a2 :: .int a1 :: .int a0 :: st) h Q = wp 87 0 [.int a0, .int a1, .int a2] [] h (ab_K 126 16 [v0, v1, v2, v3] st Q) := wp_callS (as := [.int a0, .int a1, .int a2]) (by decide +kernel : ab_cod 126 16 = some (.invokestatic 33, 3, 87, 3, 1, 821)) rfl rfl rfl rfl hl
set_option maxRecDepth 100000 in
theorem i126_19 {v0 v1 v2 v3 : Value} {x : Int32} {st : List Value} {h : ab_Hp} {Q : ab_O → ab_Hp → Prop} : wp 126 19 [v0, v1, v2, v3] (.int x :: st) h Q = if x = 0 then wp 126 31 [v0, v1, v2, v3] st h Q else wp 126 22 [v0, v1, v2, v3] st h Q := wp_ifcP (by decide +kernel : ab_cod 126 19 = some (.ifCond .eq 12, 3, 31, 0, 0, 0)) rfl
set_option maxRecDepth 100000 in
theorem i126_22 {v0 v1 v2 : Value} {x : Int32} {st : List Value} {h : ab_Hp} {Q : ab_O → ab_Hp → Prop} : wp 126 22 [v0, v1, v2, .int x] st h Q = wp 126 23 [v0, v1, v2, .int x] (.int x :: st) h Q := wp_stp (ri := (.iload_n 3, 1, 0, 0, 0, 0)) (by decide +kernel) rfl rfl rfl
set_option maxRecDepth 100000 in
theorem i126_23 {v0 v1 v2 v3 : Value} {st : List Value} {h : ab_Hp} {Q : ab_O → ab_Hp → Prop} : wp 126 23 [v0, v1, v2, v3] st h Q = wp 126 24 [v0, v1, v2, v3] (.int (nI 0) :: st) h Q := wp_stp (ri := (.iconst 0, 1, 0, 0, 0, 0)) (by decide +kernel) rfl rfl rfl
set_option maxRecDepth 100000 in
theorem i126_24 {v0 v1 v2 v3 : Value} {st : List Value} {h : ab_Hp} {Q : ab_O → ab_Hp → Prop} : wp 126 24 [v0, v1, v2, v3] st h Q = wp 126 25 [v0, v1, v2, v3] (.int (nI 1) :: st) h Q := wp_stp (ri := (.iconst 1, 1, 0, 0, 0, 0)) (by decide +kernel) rfl rfl rfl
set_option maxRecDepth 100000 in
theorem i126_25 {v0 v1 v2 v3 : Value} {a0 : Int32} {a1 : Int32} {a2 : Int32} {st : List Value} {h : ab_Hp} {Q : ab_O → ab_Hp → Prop} (hl : st.length ≤ 4) : wp 126 25 [v0, v1, v2, v3] (.int a2 :: .int a1 :: .int a0 :: st) h Q = wp 87 0 [.int a0, .int a1, .int a2] [] h (ab_K 126 25 [v0, v1, v2, v3] st Q) := wp_callS (as := [.int a0, .int a1, .int a2]) (by decide +kernel : ab_cod 126 25 = some (.invokestatic 33, 3, 87, 3, 1, 821)) rfl rfl rfl rfl hl
set_option maxRecDepth 100000 in
theorem i126_28 {v0 v1 v2 v3 : Value} {x : Int32} {st : List Value} {h : ab_Hp} {Q : ab_O → ab_Hp → Prop} : wp 126 28 [v0, v1, v2, v3] (.int x :: st) h Q = if ¬ x = 0 then wp 126 35 [v0, v1, v2, v3] st h Q else wp 126 31 [v0, v1, v2, v3] st h Q := wp_ifcP (by decide +kernel : ab_cod 126 28 = some (.ifCond .ne 7, 3, 35, 0, 0, 0)) rfl
set_option maxRecDepth 100000 in
theorem i126_31 {v0 v1 v2 v3 : Value} {st : List Value} {h : ab_Hp} {Q : ab_O → ab_Hp → Prop} : wp 126 31 [v0, v1, v2, v3] st h Q = wp 126 32 [v0, v1, v2, v3] (.int (nI 2) :: st) h Q := wp_stp (ri := (.iconst 2, 1, 0, 0, 0, 0)) (by decide +kernel) rfl rfl rfl
set_option maxRecDepth 100000 in
theorem i126_32 {v0 v1 v2 v3 : Value} {st : List Value} {h : ab_Hp} {Q : ab_O → ab_Hp → Prop} : wp 126 32 [v0, v1, v2, v3] st h Q = wp 126 36 [v0, v1, v2, v3] st h Q := wp_stp (ri := (.goto 4, 3, 36, 0, 0, 0)) (by decide +kernel) rfl rfl rfl
set_option maxRecDepth 100000 in
theorem i126_35 {v0 v1 v2 v3 : Value} {st : List Value} {h : ab_Hp} {Q : ab_O → ab_Hp → Prop} : wp 126 35 [v0, v1, v2, v3] st h Q = wp 126 36 [v0, v1, v2, v3] (.int (nI 0) :: st) h Q := wp_stp (ri := (.iconst 0, 1, 0, 0, 0, 0)) (by decide +kernel) rfl rfl rfl
set_option maxRecDepth 100000 in
theorem i126_36 {v0 v1 v2 v3 : Value} {r : Nat} {x : Int32} {st : List Value} {h : ab_Hp} {Q : ab_O → ab_Hp → Prop} (hk : (ab_sh h r).1 = 17) : wp 126 36 [v0, v1, v2, v3] (.int x :: .ref r :: st) h Q = wp 126 39 [v0, v1, v2, v3] st (ab_setI h (ab_u (ab_hi h) r 0 x)) Q := wp_pf (by decide +kernel : ab_cod 126 36 = some (.putfield 29, 3, 7, 0, 772, 0)) hk rfl
set_option maxRecDepth 100000 in
theorem i126_39 {v0 v1 v2 v3 : Value} {st : List Value} {h : ab_Hp} {Q : ab_O → ab_Hp → Prop} (hv : ab_isA v0 = true) : wp 126 39 [v0, v1, v2, v3] st h Q = wp 126 40 [v0, v1, v2, v3] (v0 :: st) h Q := wp_aload_n (by decide +kernel : ab_cod 126 39 = some (.aload_n 0, 1, 0, 0, 0, 0)) hv
set_option maxRecDepth 100000 in
theorem i126_40 {v0 v1 v2 v3 : Value} {r : Nat} {st : List Value} {h : ab_Hp} {Q : ab_O → ab_Hp → Prop} (hk : (ab_sh h r).1 = 17) : wp 126 40 [v0, v1, v2, v3] (.ref r :: st) h Q = wp 126 43 [v0, v1, v2, v3] (.int (ab_hi h r 0) :: st) h Q := wp_gf (by decide +kernel : ab_cod 126 40 = some (.getfield 29, 3, 7, 0, 772, 0)) hk
set_option maxRecDepth 100000 in
theorem i126_43 {v0 v1 v2 v3 : Value} {x : Int32} {st : List Value} {h : ab_Hp} {Q : ab_O → ab_Hp → Prop} : wp 126 43 [v0, v1, v2, v3] (.int x :: st) h Q = if x ≤ 0 then wp 126 48 [v0, v1, v2, v3] st h Q else wp 126 46 [v0, v1, v2, v3] st h Q := wp_ifcP (by decide +kernel : ab_cod 126 43 = some (.ifCond .le 5, 3, 48, 0, 0, 0)) rfl
set_option maxRecDepth 100000 in
theorem i126_46 {v0 v1 v2 v3 : Value} {st : List Value} {h : ab_Hp} {Q : ab_O → ab_Hp → Prop} : wp 126 46 [v0, v1, v2, v3] st h Q = wp 126 47 [v0, v1, v2, v3] (.int (nI 0) :: st) h Q := wp_stp (ri := (.iconst 0, 1, 0, 0, 0, 0)) (by decide +kernel) rfl rfl rfl
set_option maxRecDepth 100000 in
theorem i126_47 {v0 v1 v2 v3 : Value} {x : Int32} {h : ab_Hp} {Q : ab_O → ab_Hp → Prop} : wp 126 47 [v0, v1, v2, v3] [.int x] h Q = Q (.inl (some (.int x))) h := wp_iret (by decide +kernel : ab_cod 126 47 = some (.ireturn, 1, 0, 0, 0, 0)) rfl
set_option maxRecDepth 100000 in
theorem i126_48 {v0 v1 v3 : Value} {x : Int32} {st : List Value} {h : ab_Hp} {Q : ab_O → ab_Hp → Prop} : wp 126 48 [v0, v1, .int x, v3] st h Q = wp 126 49 [v0, v1, .int x, v3] (.int x :: st) h Q := wp_stp (ri := (.iload_n 2, 1, 0, 0, 0, 0)) (by decide +kernel) rfl rfl rfl
set_option maxRecDepth 100000 in
theorem i126_49 {v0 v1 v2 v3 : Value} {st : List Value} {h : ab_Hp} {Q : ab_O → ab_Hp → Prop} (hv : ab_isA v0 = true) : wp 126 49 [v0, v1, v2, v3] st h Q = wp 126 50 [v0, v1, v2, v3] (v0 :: st) h Q := wp_aload_n (by decide +kernel : ab_cod 126 49 = some (.aload_n 0, 1, 0, 0, 0, 0)) hv
set_option maxRecDepth 100000 in
theorem i126_50 {v0 v2 v3 : Value} {x : Int32} {st : List Value} {h : ab_Hp} {Q : ab_O → ab_Hp → Prop} : wp 126 50 [v0, .int x, v2, v3] st h Q = wp 126 51 [v0, .int x, v2, v3] (.int x :: st) h Q := wp_stp (ri := (.iload_n 1, 1, 0, 0, 0, 0)) (by decide +kernel) rfl rfl rfl
set_option maxRecDepth 100000 in
theorem i126_51 {v0 v1 v2 v3 : Value} {st : List Value} {h : ab_Hp} {Q : ab_O → ab_Hp → Prop} : wp 126 51 [v0, v1, v2, v3] st h Q = wp 126 52 [v0, v1, v2, v3] (.int (nI 4) :: st) h Q := wp_stp (ri := (.iconst 4, 1, 0, 0, 0, 0)) (by decide +kernel) rfl rfl rfl
set_option maxRecDepth 100000 in
theorem i126_52 {v0 v1 v2 v3 : Value} {r : Nat} {a0 : Int32} {a1 : Int32} {st : List Value} {h : ab_Hp} {Q : ab_O → ab_Hp → Prop} (hl : st.length ≤ 4) (hk : (ab_sh h r).1 = 17) : wp 126 52 [v0, v1, v2, v3] (.int a1 :: .int a0 :: .ref r :: st) h Q = wp 90 0 [.ref r, .int a0, .int a1] [] h (ab_K 126 52 [v0, v1, v2, v3] st Q) := wp_callV (as := [.int a0, .int a1]) (by decide +kernel : ab_cod 126 52 = some (.invokevirtual 47, 3, 90, 3, 0, 828)) rfl rfl rfl rfl hl hk
set_option maxRecDepth 100000 in
theorem i126_55 {v0 v1 v2 v3 : Value} {x y : Int32} {st : List Value} {h : ab_Hp} {Q : ab_O → ab_Hp → Prop} : wp 126 55 [v0, v1, v2, v3] (.int y :: .int x :: st) h Q = if y ≤ x then wp 126 74 [v0, v1, v2, v3] st h Q else wp 126 58 [v0, v1, v2, v3] st h Q := wp_icmpP (by decide +kernel : ab_cod 126 55 = some (.if_icmp .ge 19, 3, 74, 0, 0, 0)) rfl
set_option maxRecDepth 100000 in
theorem i126_58 {v0 v1 v2 v3 : Value} {st : List Value} {h : ab_Hp} {Q : ab_O → ab_Hp → Prop} (hv : ab_isA v0 = true) : wp 126 58 [v0, v1, v2, v3] st h Q = wp 126 59 [v0, v1, v2, v3] (v0 :: st) h Q := wp_aload_n (by decide +kernel : ab_cod 126 58 = some (.aload_n 0, 1, 0, 0, 0, 0)) hv
set_option maxRecDepth 100000 in
theorem i126_59 {v0 v2 v3 : Value} {x : Int32} {st : List Value} {h : ab_Hp} {Q : ab_O → ab_Hp → Prop} : wp 126 59 [v0, .int x, v2, v3] st h Q = wp 126 60 [v0, .int x, v2, v3] (.int x :: st) h Q := wp_stp (ri := (.iload_n 1, 1, 0, 0, 0, 0)) (by decide +kernel) rfl rfl rfl
set_option maxRecDepth 100000 in
theorem i126_60 {v0 v1 v2 v3 : Value} {st : List Value} {h : ab_Hp} {Q : ab_O → ab_Hp → Prop} : wp 126 60 [v0, v1, v2, v3] st h Q = wp 126 62 [v0, v1, v2, v3] (.int (nI 11) :: st) h Q := wp_stp (ri := (.bipush 11, 2, 0, 0, 0, 0)) (by decide +kernel) rfl rfl rfl
set_option maxRecDepth 100000 in
theorem i126_62 {v0 v1 v2 v3 : Value} {st : List Value} {h : ab_Hp} {Q : ab_O → ab_Hp → Prop} : wp 126 62 [v0, v1, v2, v3] st h Q = wp 126 63 [v0, v1, v2, v3] (.int (nI 2) :: st) h Q := wp_stp (ri := (.iconst 2, 1, 0, 0, 0, 0)) (by decide +kernel) rfl rfl rfl
set_option maxRecDepth 100000 in
theorem i126_63 {v0 v1 v3 : Value} {x : Int32} {st : List Value} {h : ab_Hp} {Q : ab_O → ab_Hp → Prop} : wp 126 63 [v0, v1, .int x, v3] st h Q = wp 126 64 [v0, v1, .int x, v3] (.int x :: st) h Q := wp_stp (ri := (.iload_n 2, 1, 0, 0, 0, 0)) (by decide +kernel) rfl rfl rfl
set_option maxRecDepth 100000 in
theorem i126_64 {v0 v1 v2 v3 : Value} {x y : Int32} {st : List Value} {h : ab_Hp} {Q : ab_O → ab_Hp → Prop} : wp 126 64 [v0, v1, v2, v3] (.int y :: .int x :: st) h Q = wp 126 65 [v0, v1, v2, v3] (.int (x * y) :: st) h Q := wp_stp (ri := (.imul, 1, 0, 0, 0, 0)) (by decide +kernel) rfl rfl rfl
set_option maxRecDepth 100000 in
theorem i126_65 {v0 v1 v2 v3 : Value} {x y : Int32} {st : List Value} {h : ab_Hp} {Q : ab_O → ab_Hp → Prop} : wp 126 65 [v0, v1, v2, v3] (.int y :: .int x :: st) h Q = wp 126 66 [v0, v1, v2, v3] (.int (x + y) :: st) h Q := wp_stp (ri := (.iadd, 1, 0, 0, 0, 0)) (by decide +kernel) rfl rfl rfl
set_option maxRecDepth 100000 in
theorem i126_66 {v0 v1 v2 : Value} {x : Int32} {st : List Value} {h : ab_Hp} {Q : ab_O → ab_Hp → Prop} : wp 126 66 [v0, v1, v2, .int x] st h Q = wp 126 67 [v0, v1, v2, .int x] (.int x :: st) h Q := wp_stp (ri := (.iload_n 3, 1, 0, 0, 0, 0)) (by decide +kernel) rfl rfl rfl
set_option maxRecDepth 100000 in
theorem i126_67 {v0 v1 v2 v3 : Value} {x y : Int32} {st : List Value} {h : ab_Hp} {Q : ab_O → ab_Hp → Prop} : wp 126 67 [v0, v1, v2, v3] (.int y :: .int x :: st) h Q = wp 126 68 [v0, v1, v2, v3] (.int (x + y) :: st) h Q := wp_stp (ri := (.iadd, 1, 0, 0, 0, 0)) (by decide +kernel) rfl rfl rfl
set_option maxRecDepth 100000 in
theorem i126_68 {v0 v1 v2 v3 : Value} {r : Nat} {a0 : Int32} {a1 : Int32} {st : List Value} {h : ab_Hp} {Q : ab_O → ab_Hp → Prop} (hl : st.length ≤ 4) (hk : (ab_sh h r).1 = 17) : wp 126 68 [v0, v1, v2, v3] (.int a1 :: .int a0 :: .ref r :: st) h Q = wp 90 0 [.ref r, .int a0, .int a1] [] h (ab_K 126 68 [v0, v1, v2, v3] st Q) := wp_callV (as := [.int a0, .int a1]) (by decide +kernel : ab_cod 126 68 = some (.invokevirtual 47, 3, 90, 3, 0, 828)) rfl rfl rfl rfl hl hk
set_option maxRecDepth 100000 in
theorem i126_71 {v0 v1 v2 v3 : Value} {st : List Value} {h : ab_Hp} {Q : ab_O → ab_Hp → Prop} : wp 126 71 [v0, v1, v2, v3] st h Q = wp 126 75 [v0, v1, v2, v3] st h Q := wp_stp (ri := (.goto 4, 3, 75, 0, 0, 0)) (by decide +kernel) rfl rfl rfl
set_option maxRecDepth 100000 in
theorem i126_74 {v0 v1 v2 v3 : Value} {st : List Value} {h : ab_Hp} {Q : ab_O → ab_Hp → Prop} : wp 126 74 [v0, v1, v2, v3] st h Q = wp 126 75 [v0, v1, v2, v3] (.int ((-1)) :: st) h Q := wp_stp (ri := (.iconst (-1), 1, 0, 0, 0, 0)) (by decide +kernel) rfl rfl rfl
set_option maxRecDepth 100000 in
theorem i126_75 {v0 v1 v2 v3 : Value} {x : Int32} {h : ab_Hp} {Q : ab_O → ab_Hp → Prop} : wp 126 75 [v0, v1, v2, v3] [.int x] h Q = Q (.inl (some (.int x))) h := wp_iret (by decide +kernel : ab_cod 126 75 = some (.ireturn, 1, 0, 0, 0, 0)) rfl
/-! 127: SeamBeatsModel.ripe(I)I -/
theorem i127_0 {v0 v1 v2 v3 : Value} {st : List Value} {h : ab_Hp} {Q : ab_O → ab_Hp → Prop} : wp 127 0 [v0, v1, v2, v3] st h Q = wp 127 1 [v0, v1, v2, v3] (.int (nI 0) :: st) h Q := wp_stp (ri := (.iconst 0, 1, 0, 0, 0, 0)) (by decide +kernel) rfl rfl rfl
theorem i127_1 {v0 v1 v2 v3 : Value} {w : Int32} {st : List Value} {h : ab_Hp} {Q : ab_O → ab_Hp → Prop} : wp 127 1 [v0, v1, v2, v3] (.int w :: st) h Q = wp 127 2 [v0, ab_clr v1, .int w, v3] st h Q := wp_stp (ri := (.istore_n 2, 1, 0, 0, 0, 0)) (by decide +kernel) rfl rfl rfl
theorem i127_2 {v0 v1 v2 v3 : Value} {st : List Value} {h : ab_Hp} {Q : ab_O → ab_Hp → Prop} : wp 127 2 [v0, v1, v2, v3] st h Q = wp 127 3 [v0, v1, v2, v3] (.int (nI 0) :: st) h Q := wp_stp (ri := (.iconst 0, 1, 0, 0, 0, 0)) (by decide +kernel) rfl rfl rfl
theorem i127_3 {v0 v1 v2 v3 : Value} {w : Int32} {st : List Value} {h : ab_Hp} {Q : ab_O → ab_Hp → Prop} : wp 127 3 [v0, v1, v2, v3] (.int w :: st) h Q = wp 127 4 [v0, v1, ab_clr v2, .int w] st h Q := wp_stp (ri := (.istore_n 3, 1, 0, 0, 0, 0)) (by decide +kernel) rfl rfl rfl
theorem i127_4 {v0 v1 v2 : Value} {x : Int32} {st : List Value} {h : ab_Hp} {Q : ab_O → ab_Hp → Prop} : wp 127 4 [v0, v1, v2, .int x] st h Q = wp 127 5 [v0, v1, v2, .int x] (.int x :: st) h Q := wp_stp (ri := (.iload_n 3, 1, 0, 0, 0, 0)) (by decide +kernel) rfl rfl rfl
theorem i127_5 {v0 v1 v2 v3 : Value} {st : List Value} {h : ab_Hp} {Q : ab_O → ab_Hp → Prop} (hv : ab_isA v0 = true) : wp 127 5 [v0, v1, v2, v3] st h Q = wp 127 6 [v0, v1, v2, v3] (v0 :: st) h Q := wp_aload_n (by decide +kernel : ab_cod 127 5 = some (.aload_n 0, 1, 0, 0, 0, 0)) hv
theorem i127_6 {v0 v2 v3 : Value} {x : Int32} {st : List Value} {h : ab_Hp} {Q : ab_O → ab_Hp → Prop} : wp 127 6 [v0, .int x, v2, v3] st h Q = wp 127 7 [v0, .int x, v2, v3] (.int x :: st) h Q := wp_stp (ri := (.iload_n 1, 1, 0, 0, 0, 0)) (by decide +kernel) rfl rfl rfl
theorem i127_7 {v0 v1 v2 v3 : Value} {st : List Value} {h : ab_Hp} {Q : ab_O → ab_Hp → Prop} : wp 127 7 [v0, v1, v2, v3] st h Q = wp 127 8 [v0, v1, v2, v3] (.int (nI 4) :: st) h Q := wp_stp (ri := (.iconst 4, 1, 0, 0, 0, 0)) (by decide +kernel) rfl rfl rfl
theorem i127_8 {v0 v1 v2 v3 : Value} {r : Nat} {a0 : Int32} {a1 : Int32} {st : List Value} {h : ab_Hp} {Q : ab_O → ab_Hp → Prop} (hl : st.length ≤ 4) (hk : (ab_sh h r).1 = 17) : wp 127 8 [v0, v1, v2, v3] (.int a1 :: .int a0 :: .ref r :: st) h Q = wp 92 0 [.ref r, .int a0, .int a1] [] h (ab_K 127 8 [v0, v1, v2, v3] st Q) := wp_callV (as := [.int a0, .int a1]) (by decide +kernel : ab_cod 127 8 = some (.invokevirtual 61, 3, 92, 3, 0, 860)) rfl rfl rfl rfl hl hk
theorem i127_11 {v0 v1 v2 v3 : Value} {x y : Int32} {st : List Value} {h : ab_Hp} {Q : ab_O → ab_Hp → Prop} : wp 127 11 [v0, v1, v2, v3] (.int y :: .int x :: st) h Q = if y ≤ x then wp 127 37 [v0, v1, v2, v3] st h Q else wp 127 14 [v0, v1, v2, v3] st h Q := wp_icmpP (by decide +kernel : ab_cod 127 11 = some (.if_icmp .ge 26, 3, 37, 0, 0, 0)) rfl
theorem i127_14 {v0 v1 v3 : Value} {x : Int32} {st : List Value} {h : ab_Hp} {Q : ab_O → ab_Hp → Prop} : wp 127 14 [v0, v1, .int x, v3] st h Q = wp 127 15 [v0, v1, .int x, v3] (.int x :: st) h Q := wp_stp (ri := (.iload_n 2, 1, 0, 0, 0, 0)) (by decide +kernel) rfl rfl rfl
theorem i127_15 {v0 v1 v2 v3 : Value} {st : List Value} {h : ab_Hp} {Q : ab_O → ab_Hp → Prop} (hv : ab_isA v0 = true) : wp 127 15 [v0, v1, v2, v3] st h Q = wp 127 16 [v0, v1, v2, v3] (v0 :: st) h Q := wp_aload_n (by decide +kernel : ab_cod 127 15 = some (.aload_n 0, 1, 0, 0, 0, 0)) hv
theorem i127_16 {v0 v2 v3 : Value} {x : Int32} {st : List Value} {h : ab_Hp} {Q : ab_O → ab_Hp → Prop} : wp 127 16 [v0, .int x, v2, v3] st h Q = wp 127 17 [v0, .int x, v2, v3] (.int x :: st) h Q := wp_stp (ri := (.iload_n 1, 1, 0, 0, 0, 0)) (by decide +kernel) rfl rfl rfl
theorem i127_17 {v0 v1 v2 : Value} {x : Int32} {st : List Value} {h : ab_Hp} {Q : ab_O → ab_Hp → Prop} : wp 127 17 [v0, v1, v2, .int x] st h Q = wp 127 18 [v0, v1, v2, .int x] (.int x :: st) h Q := wp_stp (ri := (.iload_n 3, 1, 0, 0, 0, 0)) (by decide +kernel) rfl rfl rfl
theorem i127_18 {v0 v1 v2 v3 : Value} {r : Nat} {a0 : Int32} {a1 : Int32} {st : List Value} {h : ab_Hp} {Q : ab_O → ab_Hp → Prop} (hl : st.length ≤ 4) (hk : (ab_sh h r).1 = 17) : wp 127 18 [v0, v1, v2, v3] (.int a1 :: .int a0 :: .ref r :: st) h Q = wp 109 0 [.ref r, .int a0, .int a1] [] h (ab_K 127 18 [v0, v1, v2, v3] st Q) := wp_callV (as := [.int a0, .int a1]) (by decide +kernel : ab_cod 127 18 = some (.invokevirtual 71, 3, 109, 3, 0, 900)) rfl rfl rfl rfl hl hk
theorem i127_21 {v0 v1 v2 v3 : Value} {x : Int32} {st : List Value} {h : ab_Hp} {Q : ab_O → ab_Hp → Prop} : wp 127 21 [v0, v1, v2, v3] (.int x :: st) h Q = if x = 0 then wp 127 28 [v0, v1, v2, v3] st h Q else wp 127 24 [v0, v1, v2, v3] st h Q := wp_ifcP (by decide +kernel : ab_cod 127 21 = some (.ifCond .eq 7, 3, 28, 0, 0, 0)) rfl
theorem i127_24 {v0 v1 v2 v3 : Value} {st : List Value} {h : ab_Hp} {Q : ab_O → ab_Hp → Prop} : wp 127 24 [v0, v1, v2, v3] st h Q = wp 127 25 [v0, v1, v2, v3] (.int (nI 1) :: st) h Q := wp_stp (ri := (.iconst 1, 1, 0, 0, 0, 0)) (by decide +kernel) rfl rfl rfl
theorem i127_25 {v0 v1 v2 v3 : Value} {st : List Value} {h : ab_Hp} {Q : ab_O → ab_Hp → Prop} : wp 127 25 [v0, v1, v2, v3] st h Q = wp 127 29 [v0, v1, v2, v3] st h Q := wp_stp (ri := (.goto 4, 3, 29, 0, 0, 0)) (by decide +kernel) rfl rfl rfl
theorem i127_28 {v0 v1 v2 v3 : Value} {st : List Value} {h : ab_Hp} {Q : ab_O → ab_Hp → Prop} : wp 127 28 [v0, v1, v2, v3] st h Q = wp 127 29 [v0, v1, v2, v3] (.int (nI 0) :: st) h Q := wp_stp (ri := (.iconst 0, 1, 0, 0, 0, 0)) (by decide +kernel) rfl rfl rfl
theorem i127_29 {v0 v1 v2 v3 : Value} {x y : Int32} {st : List Value} {h : ab_Hp} {Q : ab_O → ab_Hp → Prop} : wp 127 29 [v0, v1, v2, v3] (.int y :: .int x :: st) h Q = wp 127 30 [v0, v1, v2, v3] (.int (x + y) :: st) h Q := wp_stp (ri := (.iadd, 1, 0, 0, 0, 0)) (by decide +kernel) rfl rfl rfl
theorem i127_30 {v0 v1 v2 v3 : Value} {w : Int32} {st : List Value} {h : ab_Hp} {Q : ab_O → ab_Hp → Prop} : wp 127 30 [v0, v1, v2, v3] (.int w :: st) h Q = wp 127 31 [v0, ab_clr v1, .int w, v3] st h Q := wp_stp (ri := (.istore_n 2, 1, 0, 0, 0, 0)) (by decide +kernel) rfl rfl rfl
theorem i127_31 {v0 v1 v2 : Value} {x : Int32} {st : List Value} {h : ab_Hp} {Q : ab_O → ab_Hp → Prop} : wp 127 31 [v0, v1, v2, .int x] st h Q = wp 127 34 [v0, v1, ab_clr v2, .int (x + nI 1)] st h Q := wp_stp (ri := (.iinc 3 1, 3, 0, 0, 0, 0)) (by decide +kernel) rfl rfl rfl
theorem i127_34 {v0 v1 v2 v3 : Value} {st : List Value} {h : ab_Hp} {Q : ab_O → ab_Hp → Prop} : wp 127 34 [v0, v1, v2, v3] st h Q = wp 127 4 [v0, v1, v2, v3] st h Q := wp_stp (ri := (.goto (-30), 3, 4, 0, 0, 0)) (by decide +kernel) rfl rfl rfl
theorem i127_37 {v0 v1 v3 : Value} {x : Int32} {st : List Value} {h : ab_Hp} {Q : ab_O → ab_Hp → Prop} : wp 127 37 [v0, v1, .int x, v3] st h Q = wp 127 38 [v0, v1, .int x, v3] (.int x :: st) h Q := wp_stp (ri := (.iload_n 2, 1, 0, 0, 0, 0)) (by decide +kernel) rfl rfl rfl
theorem i127_38 {v0 v1 v2 v3 : Value} {x : Int32} {h : ab_Hp} {Q : ab_O → ab_Hp → Prop} : wp 127 38 [v0, v1, v2, v3] [.int x] h Q = Q (.inl (some (.int x))) h := wp_iret (by decide +kernel : ab_cod 127 38 = some (.ireturn, 1, 0, 0, 0, 0)) rfl
/-! 128: SeamBeatsModel.toldOf(II)I -/
theorem i128_0 {v0 v1 : Value} {x : Int32} {st : List Value} {h : ab_Hp} {Q : ab_O → ab_Hp → Prop} : wp 128 0 [v0, v1, .int x] st h Q = wp 128 1 [v0, v1, .int x] (.int x :: st) h Q := wp_stp (ri := (.iload_n 2, 1, 0, 0, 0, 0)) (by decide +kernel) rfl rfl rfl
theorem i128_1 {v0 v1 v2 : Value} {st : List Value} {h : ab_Hp} {Q : ab_O → ab_Hp → Prop} : wp 128 1 [v0, v1, v2] st h Q = wp 128 2 [v0, v1, v2] (.int (nI 5) :: st) h Q := wp_stp (ri := (.iconst 5, 1, 0, 0, 0, 0)) (by decide +kernel) rfl rfl rfl
theorem i128_2 {v0 v1 v2 : Value} {x y : Int32} {st : List Value} {h : ab_Hp} {Q : ab_O → ab_Hp → Prop} : wp 128 2 [v0, v1, v2] (.int y :: .int x :: st) h Q = if y ≤ x then wp 128 14 [v0, v1, v2] st h Q else wp 128 5 [v0, v1, v2] st h Q := wp_icmpP (by decide +kernel : ab_cod 128 2 = some (.if_icmp .ge 12, 3, 14, 0, 0, 0)) rfl
theorem i128_5 {v0 v1 v2 : Value} {st : List Value} {h : ab_Hp} {Q : ab_O → ab_Hp → Prop} (hv : ab_isA v0 = true) : wp 128 5 [v0, v1, v2] st h Q = wp 128 6 [v0, v1, v2] (v0 :: st) h Q := wp_aload_n (by decide +kernel : ab_cod 128 5 = some (.aload_n 0, 1, 0, 0, 0, 0)) hv
theorem i128_6 {v0 v2 : Value} {x : Int32} {st : List Value} {h : ab_Hp} {Q : ab_O → ab_Hp → Prop} : wp 128 6 [v0, .int x, v2] st h Q = wp 128 7 [v0, .int x, v2] (.int x :: st) h Q := wp_stp (ri := (.iload_n 1, 1, 0, 0, 0, 0)) (by decide +kernel) rfl rfl rfl
theorem i128_7 {v0 v1 : Value} {x : Int32} {st : List Value} {h : ab_Hp} {Q : ab_O → ab_Hp → Prop} : wp 128 7 [v0, v1, .int x] st h Q = wp 128 8 [v0, v1, .int x] (.int x :: st) h Q := wp_stp (ri := (.iload_n 2, 1, 0, 0, 0, 0)) (by decide +kernel) rfl rfl rfl
theorem i128_8 {v0 v1 v2 : Value} {r : Nat} {a0 : Int32} {a1 : Int32} {st : List Value} {h : ab_Hp} {Q : ab_O → ab_Hp → Prop} (hl : st.length ≤ 4) (hk : (ab_sh h r).1 = 17) : wp 128 8 [v0, v1, v2] (.int a1 :: .int a0 :: .ref r :: st) h Q = wp 92 0 [.ref r, .int a0, .int a1] [] h (ab_K 128 8 [v0, v1, v2] st Q) := wp_callV (as := [.int a0, .int a1]) (by decide +kernel : ab_cod 128 8 = some (.invokevirtual 61, 3, 92, 3, 0, 860)) rfl rfl rfl rfl hl hk
theorem i128_11 {v0 v1 v2 : Value} {st : List Value} {h : ab_Hp} {Q : ab_O → ab_Hp → Prop} : wp 128 11 [v0, v1, v2] st h Q = wp 128 33 [v0, v1, v2] st h Q := wp_stp (ri := (.goto 22, 3, 33, 0, 0, 0)) (by decide +kernel) rfl rfl rfl
theorem i128_14 {v0 v1 : Value} {x : Int32} {st : List Value} {h : ab_Hp} {Q : ab_O → ab_Hp → Prop} : wp 128 14 [v0, v1, .int x] st h Q = wp 128 15 [v0, v1, .int x] (.int x :: st) h Q := wp_stp (ri := (.iload_n 2, 1, 0, 0, 0, 0)) (by decide +kernel) rfl rfl rfl
theorem i128_15 {v0 v1 v2 : Value} {st : List Value} {h : ab_Hp} {Q : ab_O → ab_Hp → Prop} : wp 128 15 [v0, v1, v2] st h Q = wp 128 16 [v0, v1, v2] (.int (nI 5) :: st) h Q := wp_stp (ri := (.iconst 5, 1, 0, 0, 0, 0)) (by decide +kernel) rfl rfl rfl
theorem i128_16 {v0 v1 v2 : Value} {x y : Int32} {st : List Value} {h : ab_Hp} {Q : ab_O → ab_Hp → Prop} : wp 128 16 [v0, v1, v2] (.int y :: .int x :: st) h Q = if ¬ x = y then wp 128 27 [v0, v1, v2] st h Q else wp 128 19 [v0, v1, v2] st h Q := wp_icmpP (by decide +kernel : ab_cod 128 16 = some (.if_icmp .ne 11, 3, 27, 0, 0, 0)) rfl
theorem i128_19 {v0 v1 v2 : Value} {st : List Value} {h : ab_Hp} {Q : ab_O → ab_Hp → Prop} (hv : ab_isA v0 = true) : wp 128 19 [v0, v1, v2] st h Q = wp 128 20 [v0, v1, v2] (v0 :: st) h Q := wp_aload_n (by decide +kernel : ab_cod 128 19 = some (.aload_n 0, 1, 0, 0, 0, 0)) hv
theorem i128_20 {v0 v2 : Value} {x : Int32} {st : List Value} {h : ab_Hp} {Q : ab_O → ab_Hp → Prop} : wp 128 20 [v0, .int x, v2] st h Q = wp 128 21 [v0, .int x, v2] (.int x :: st) h Q := wp_stp (ri := (.iload_n 1, 1, 0, 0, 0, 0)) (by decide +kernel) rfl rfl rfl
theorem i128_21 {v0 v1 v2 : Value} {r : Nat} {a0 : Int32} {st : List Value} {h : ab_Hp} {Q : ab_O → ab_Hp → Prop} (hl : st.length ≤ 4) (hk : (ab_sh h r).1 = 17) : wp 128 21 [v0, v1, v2] (.int a0 :: .ref r :: st) h Q = wp 127 0 [.ref r, .int a0, ab_nov, ab_nov] [] h (ab_K 128 21 [v0, v1, v2] st Q) := wp_callV (as := [.int a0]) (by decide +kernel : ab_cod 128 21 = some (.invokevirtual 124, 3, 127, 2, 0, 964)) rfl rfl rfl rfl hl hk
theorem i128_24 {v0 v1 v2 : Value} {st : List Value} {h : ab_Hp} {Q : ab_O → ab_Hp → Prop} : wp 128 24 [v0, v1, v2] st h Q = wp 128 33 [v0, v1, v2] st h Q := wp_stp (ri := (.goto 9, 3, 33, 0, 0, 0)) (by decide +kernel) rfl rfl rfl
theorem i128_27 {v0 v1 v2 : Value} {st : List Value} {h : ab_Hp} {Q : ab_O → ab_Hp → Prop} (hv : ab_isA v0 = true) : wp 128 27 [v0, v1, v2] st h Q = wp 128 28 [v0, v1, v2] (v0 :: st) h Q := wp_aload_n (by decide +kernel : ab_cod 128 27 = some (.aload_n 0, 1, 0, 0, 0, 0)) hv
theorem i128_28 {v0 v2 : Value} {x : Int32} {st : List Value} {h : ab_Hp} {Q : ab_O → ab_Hp → Prop} : wp 128 28 [v0, .int x, v2] st h Q = wp 128 29 [v0, .int x, v2] (.int x :: st) h Q := wp_stp (ri := (.iload_n 1, 1, 0, 0, 0, 0)) (by decide +kernel) rfl rfl rfl
theorem i128_29 {v0 v1 v2 : Value} {st : List Value} {h : ab_Hp} {Q : ab_O → ab_Hp → Prop} : wp 128 29 [v0, v1, v2] st h Q = wp 128 30 [v0, v1, v2] (.int (nI 5) :: st) h Q := wp_stp (ri := (.iconst 5, 1, 0, 0, 0, 0)) (by decide +kernel) rfl rfl rfl
theorem i128_30 {v0 v1 v2 : Value} {r : Nat} {a0 : Int32} {a1 : Int32} {st : List Value} {h : ab_Hp} {Q : ab_O → ab_Hp → Prop} (hl : st.length ≤ 4) (hk : (ab_sh h r).1 = 17) : wp 128 30 [v0, v1, v2] (.int a1 :: .int a0 :: .ref r :: st) h Q = wp 92 0 [.ref r, .int a0, .int a1] [] h (ab_K 128 30 [v0, v1, v2] st Q) := wp_callV (as := [.int a0, .int a1]) (by decide +kernel : ab_cod 128 30 = some (.invokevirtual 61, 3, 92, 3, 0, 860)) rfl rfl rfl rfl hl hk
theorem i128_33 {v0 v1 v2 : Value} {x : Int32} {h : ab_Hp} {Q : ab_O → ab_Hp → Prop} : wp 128 33 [v0, v1, v2] [.int x] h Q = Q (.inl (some (.int x))) h := wp_iret (by decide +kernel : ab_cod 128 33 = some (.ireturn, 1, 0, 0, 0, 0)) rfl
/-! 129: SeamBeatsModel.seamOf(II)I -/
theorem i129_0 {v0 v1 v2 : Value} {st : List Value} {h : ab_Hp} {Q : ab_O → ab_Hp → Prop} (hv : ab_isA v0 = true) : wp 129 0 [v0, v1, v2] st h Q = wp 129 1 [v0, v1, v2] (v0 :: st) h Q := wp_aload_n (by decide +kernel : ab_cod 129 0 = some (.aload_n 0, 1, 0, 0, 0, 0)) hv
theorem i129_1 {v0 v1 v2 : Value} {st : List Value} {h : ab_Hp} {Q : ab_O → ab_Hp → Prop} (hv : ab_isA v0 = true) : wp 129 1 [v0, v1, v2] st h Q = wp 129 2 [v0, v1, v2] (v0 :: st) h Q := wp_aload_n (by decide +kernel : ab_cod 129 1 = some (.aload_n 0, 1, 0, 0, 0, 0)) hv
theorem i129_2 {v0 v2 : Value} {x : Int32} {st : List Value} {h : ab_Hp} {Q : ab_O → ab_Hp → Prop} : wp 129 2 [v0, .int x, v2] st h Q = wp 129 3 [v0, .int x, v2] (.int x :: st) h Q := wp_stp (ri := (.iload_n 1, 1, 0, 0, 0, 0)) (by decide +kernel) rfl rfl rfl
theorem i129_3 {v0 v1 v2 : Value} {r : Nat} {a0 : Int32} {st : List Value} {h : ab_Hp} {Q : ab_O → ab_Hp → Prop} (hl : st.length ≤ 4) (hk : (ab_sh h r).1 = 17) : wp 129 3 [v0, v1, v2] (.int a0 :: .ref r :: st) h Q = wp 89 0 [.ref r, .int a0] [] h (ab_K 129 3 [v0, v1, v2] st Q) := wp_callV (as := [.int a0]) (by decide +kernel : ab_cod 129 3 = some (.invokevirtual 58, 3, 89, 2, 0, 856)) rfl rfl rfl rfl hl hk
theorem i129_6 {v0 v1 v2 : Value} {x : Int32} {st : List Value} {h : ab_Hp} {Q : ab_O → ab_Hp → Prop} : wp 129 6 [v0, v1, v2] (.int x :: st) h Q = if ¬ x = 0 then wp 129 13 [v0, v1, v2] st h Q else wp 129 9 [v0, v1, v2] st h Q := wp_ifcP (by decide +kernel : ab_cod 129 6 = some (.ifCond .ne 7, 3, 13, 0, 0, 0)) rfl
theorem i129_9 {v0 v1 v2 : Value} {st : List Value} {h : ab_Hp} {Q : ab_O → ab_Hp → Prop} : wp 129 9 [v0, v1, v2] st h Q = wp 129 10 [v0, v1, v2] (.int (nI 1) :: st) h Q := wp_stp (ri := (.iconst 1, 1, 0, 0, 0, 0)) (by decide +kernel) rfl rfl rfl
theorem i129_10 {v0 v1 v2 : Value} {st : List Value} {h : ab_Hp} {Q : ab_O → ab_Hp → Prop} : wp 129 10 [v0, v1, v2] st h Q = wp 129 28 [v0, v1, v2] st h Q := wp_stp (ri := (.goto 18, 3, 28, 0, 0, 0)) (by decide +kernel) rfl rfl rfl
theorem i129_13 {v0 v1 : Value} {x : Int32} {st : List Value} {h : ab_Hp} {Q : ab_O → ab_Hp → Prop} : wp 129 13 [v0, v1, .int x] st h Q = wp 129 14 [v0, v1, .int x] (.int x :: st) h Q := wp_stp (ri := (.iload_n 2, 1, 0, 0, 0, 0)) (by decide +kernel) rfl rfl rfl
theorem i129_14 {v0 v1 v2 : Value} {st : List Value} {h : ab_Hp} {Q : ab_O → ab_Hp → Prop} : wp 129 14 [v0, v1, v2] st h Q = wp 129 15 [v0, v1, v2] (.int (nI 0) :: st) h Q := wp_stp (ri := (.iconst 0, 1, 0, 0, 0, 0)) (by decide +kernel) rfl rfl rfl
theorem i129_15 {v0 v1 v2 : Value} {st : List Value} {h : ab_Hp} {Q : ab_O → ab_Hp → Prop} : wp 129 15 [v0, v1, v2] st h Q = wp 129 17 [v0, v1, v2] (.int (nI 6) :: st) h Q := wp_stp (ri := (.bipush 6, 2, 0, 0, 0, 0)) (by decide +kernel) rfl rfl rfl
theorem i129_17 {v0 v1 v2 : Value} {a0 : Int32} {a1 : Int32} {a2 : Int32} {st : List Value} {h : ab_Hp} {Q : ab_O → ab_Hp → Prop} (hl : st.length ≤ 4) : wp 129 17 [v0, v1, v2] (.int a2 :: .int a1 :: .int a0 :: st) h Q = wp 87 0 [.int a0, .int a1, .int a2] [] h (ab_K 129 17 [v0, v1, v2] st Q) := wp_callS (as := [.int a0, .int a1, .int a2]) (by decide +kernel : ab_cod 129 17 = some (.invokestatic 33, 3, 87, 3, 1, 821)) rfl rfl rfl rfl hl
theorem i129_20 {v0 v1 v2 : Value} {x : Int32} {st : List Value} {h : ab_Hp} {Q : ab_O → ab_Hp → Prop} : wp 129 20 [v0, v1, v2] (.int x :: st) h Q = if ¬ x = 0 then wp 129 27 [v0, v1, v2] st h Q else wp 129 23 [v0, v1, v2] st h Q := wp_ifcP (by decide +kernel : ab_cod 129 20 = some (.ifCond .ne 7, 3, 27, 0, 0, 0)) rfl
theorem i129_23 {v0 v1 v2 : Value} {st : List Value} {h : ab_Hp} {Q : ab_O → ab_Hp → Prop} : wp 129 23 [v0, v1, v2] st h Q = wp 129 24 [v0, v1, v2] (.int (nI 2) :: st) h Q := wp_stp (ri := (.iconst 2, 1, 0, 0, 0, 0)) (by decide +kernel) rfl rfl rfl
theorem i129_24 {v0 v1 v2 : Value} {st : List Value} {h : ab_Hp} {Q : ab_O → ab_Hp → Prop} : wp 129 24 [v0, v1, v2] st h Q = wp 129 28 [v0, v1, v2] st h Q := wp_stp (ri := (.goto 4, 3, 28, 0, 0, 0)) (by decide +kernel) rfl rfl rfl
theorem i129_27 {v0 v1 v2 : Value} {st : List Value} {h : ab_Hp} {Q : ab_O → ab_Hp → Prop} : wp 129 27 [v0, v1, v2] st h Q = wp 129 28 [v0, v1, v2] (.int (nI 0) :: st) h Q := wp_stp (ri := (.iconst 0, 1, 0, 0, 0, 0)) (by decide +kernel) rfl rfl rfl
theorem i129_28 {v0 v1 v2 : Value} {r : Nat} {x : Int32} {st : List Value} {h : ab_Hp} {Q : ab_O → ab_Hp → Prop} (hk : (ab_sh h r).1 = 17) : wp 129 28 [v0, v1, v2] (.int x :: .ref r :: st) h Q = wp 129 31 [v0, v1, v2] st (ab_setI h (ab_u (ab_hi h) r 0 x)) Q := wp_pf (by decide +kernel : ab_cod 129 28 = some (.putfield 29, 3, 7, 0, 772, 0)) hk rfl
theorem i129_31 {v0 v1 v2 : Value} {st : List Value} {h : ab_Hp} {Q : ab_O → ab_Hp → Prop} (hv : ab_isA v0 = true) : wp 129 31 [v0, v1, v2] st h Q = wp 129 32 [v0, v1, v2] (v0 :: st) h Q := wp_aload_n (by decide +kernel : ab_cod 129 31 = some (.aload_n 0, 1, 0, 0, 0, 0)) hv
theorem i129_32 {v0 v1 v2 : Value} {r : Nat} {st : List Value} {h : ab_Hp} {Q : ab_O → ab_Hp → Prop} (hk : (ab_sh h r).1 = 17) : wp 129 32 [v0, v1, v2] (.ref r :: st) h Q = wp 129 35 [v0, v1, v2] (.int (ab_hi h r 0) :: st) h Q := wp_gf (by decide +kernel : ab_cod 129 32 = some (.getfield 29, 3, 7, 0, 772, 0)) hk
theorem i129_35 {v0 v1 v2 : Value} {x : Int32} {st : List Value} {h : ab_Hp} {Q : ab_O → ab_Hp → Prop} : wp 129 35 [v0, v1, v2] (.int x :: st) h Q = if x ≤ 0 then wp 129 42 [v0, v1, v2] st h Q else wp 129 38 [v0, v1, v2] st h Q := wp_ifcP (by decide +kernel : ab_cod 129 35 = some (.ifCond .le 7, 3, 42, 0, 0, 0)) rfl
theorem i129_38 {v0 v1 v2 : Value} {st : List Value} {h : ab_Hp} {Q : ab_O → ab_Hp → Prop} : wp 129 38 [v0, v1, v2] st h Q = wp 129 39 [v0, v1, v2] (.int (nI 0) :: st) h Q := wp_stp (ri := (.iconst 0, 1, 0, 0, 0, 0)) (by decide +kernel) rfl rfl rfl
theorem i129_39 {v0 v1 v2 : Value} {st : List Value} {h : ab_Hp} {Q : ab_O → ab_Hp → Prop} : wp 129 39 [v0, v1, v2] st h Q = wp 129 48 [v0, v1, v2] st h Q := wp_stp (ri := (.goto 9, 3, 48, 0, 0, 0)) (by decide +kernel) rfl rfl rfl
theorem i129_42 {v0 v1 v2 : Value} {st : List Value} {h : ab_Hp} {Q : ab_O → ab_Hp → Prop} (hv : ab_isA v0 = true) : wp 129 42 [v0, v1, v2] st h Q = wp 129 43 [v0, v1, v2] (v0 :: st) h Q := wp_aload_n (by decide +kernel : ab_cod 129 42 = some (.aload_n 0, 1, 0, 0, 0, 0)) hv
theorem i129_43 {v0 v2 : Value} {x : Int32} {st : List Value} {h : ab_Hp} {Q : ab_O → ab_Hp → Prop} : wp 129 43 [v0, .int x, v2] st h Q = wp 129 44 [v0, .int x, v2] (.int x :: st) h Q := wp_stp (ri := (.iload_n 1, 1, 0, 0, 0, 0)) (by decide +kernel) rfl rfl rfl
theorem i129_44 {v0 v1 : Value} {x : Int32} {st : List Value} {h : ab_Hp} {Q : ab_O → ab_Hp → Prop} : wp 129 44 [v0, v1, .int x] st h Q = wp 129 45 [v0, v1, .int x] (.int x :: st) h Q := wp_stp (ri := (.iload_n 2, 1, 0, 0, 0, 0)) (by decide +kernel) rfl rfl rfl
theorem i129_45 {v0 v1 v2 : Value} {r : Nat} {a0 : Int32} {a1 : Int32} {st : List Value} {h : ab_Hp} {Q : ab_O → ab_Hp → Prop} (hl : st.length ≤ 4) (hk : (ab_sh h r).1 = 17) : wp 129 45 [v0, v1, v2] (.int a1 :: .int a0 :: .ref r :: st) h Q = wp 128 0 [.ref r, .int a0, .int a1] [] h (ab_K 129 45 [v0, v1, v2] st Q) := wp_callV (as := [.int a0, .int a1]) (by decide +kernel : ab_cod 129 45 = some (.invokevirtual 127, 3, 128, 3, 0, 960)) rfl rfl rfl rfl hl hk
theorem i129_48 {v0 v1 v2 : Value} {x : Int32} {h : ab_Hp} {Q : ab_O → ab_Hp → Prop} : wp 129 48 [v0, v1, v2] [.int x] h Q = Q (.inl (some (.int x))) h := wp_iret (by decide +kernel : ab_cod 129 48 = some (.ireturn, 1, 0, 0, 0, 0)) rfl
/-! 130: SeamBeatsModel.onSeam(III)I -/
set_option maxRecDepth 100000 in
theorem i130_0 {v0 v1 v2 v3 : Value} {st : List Value} {h : ab_Hp} {Q : ab_O → ab_Hp → Prop} (hv : ab_isA v0 = true) : wp 130 0 [v0, v1, v2, v3] st h Q = wp 130 1 [v0, v1, v2, v3] (v0 :: st) h Q := wp_aload_n (by decide +kernel : ab_cod 130 0 = some (.aload_n 0, 1, 0, 0, 0, 0)) hv
set_option maxRecDepth 100000 in
theorem i130_1 {v0 v1 v2 v3 : Value} {st : List Value} {h : ab_Hp} {Q : ab_O → ab_Hp → Prop} (hv : ab_isA v0 = true) : wp 130 1 [v0, v1, v2, v3] st h Q = wp 130 2 [v0, v1, v2, v3] (v0 :: st) h Q := wp_aload_n (by decide +kernel : ab_cod 130 1 = some (.aload_n 0, 1, 0, 0, 0, 0)) hv
set_option maxRecDepth 100000 in
theorem i130_2 {v0 v2 v3 : Value} {x : Int32} {st : List Value} {h : ab_Hp} {Q : ab_O → ab_Hp → Prop} : wp 130 2 [v0, .int x, v2, v3] st h Q = wp 130 3 [v0, .int x, v2, v3] (.int x :: st) h Q := wp_stp (ri := (.iload_n 1, 1, 0, 0, 0, 0)) (by decide +kernel) rfl rfl rfl
set_option maxRecDepth 100000 in
theorem i130_3 {v0 v1 v2 v3 : Value} {r : Nat} {a0 : Int32} {st : List Value} {h : ab_Hp} {Q : ab_O → ab_Hp → Prop} (hl : st.length ≤ 4) (hk : (ab_sh h r).1 = 17) : wp 130 3 [v0, v1, v2, v3] (.int a0 :: .ref r :: st) h Q = wp 89 0 [.ref r, .int a0] [] h (ab_K 130 3 [v0, v1, v2, v3] st Q) := wp_callV (as := [.int a0]) (by decide +kernel : ab_cod 130 3 = some (.invokevirtual 58, 3, 89, 2, 0, 856)) rfl rfl rfl rfl hl hk
set_option maxRecDepth 100000 in
theorem i130_6 {v0 v1 v2 v3 : Value} {x : Int32} {st : List Value} {h : ab_Hp} {Q : ab_O → ab_Hp → Prop} : wp 130 6 [v0, v1, v2, v3] (.int x :: st) h Q = if ¬ x = 0 then wp 130 13 [v0, v1, v2, v3] st h Q else wp 130 9 [v0, v1, v2, v3] st h Q := wp_ifcP (by decide +kernel : ab_cod 130 6 = some (.ifCond .ne 7, 3, 13, 0, 0, 0)) rfl
set_option maxRecDepth 100000 in
theorem i130_9 {v0 v1 v2 v3 : Value} {st : List Value} {h : ab_Hp} {Q : ab_O → ab_Hp → Prop} : wp 130 9 [v0, v1, v2, v3] st h Q = wp 130 10 [v0, v1, v2, v3] (.int (nI 1) :: st) h Q := wp_stp (ri := (.iconst 1, 1, 0, 0, 0, 0)) (by decide +kernel) rfl rfl rfl
set_option maxRecDepth 100000 in
theorem i130_10 {v0 v1 v2 v3 : Value} {st : List Value} {h : ab_Hp} {Q : ab_O → ab_Hp → Prop} : wp 130 10 [v0, v1, v2, v3] st h Q = wp 130 36 [v0, v1, v2, v3] st h Q := wp_stp (ri := (.goto 26, 3, 36, 0, 0, 0)) (by decide +kernel) rfl rfl rfl
set_option maxRecDepth 100000 in
theorem i130_13 {v0 v1 v3 : Value} {x : Int32} {st : List Value} {h : ab_Hp} {Q : ab_O → ab_Hp → Prop} : wp 130 13 [v0, v1, .int x, v3] st h Q = wp 130 14 [v0, v1, .int x, v3] (.int x :: st) h Q := wp_stp (ri := (.iload_n 2, 1, 0, 0, 0, 0)) (by decide +kernel) rfl rfl rfl
set_option maxRecDepth 100000 in
theorem i130_14 {v0 v1 v2 v3 : Value} {st : List Value} {h : ab_Hp} {Q : ab_O → ab_Hp → Prop} : wp 130 14 [v0, v1, v2, v3] st h Q = wp 130 15 [v0, v1, v2, v3] (.int (nI 0) :: st) h Q := wp_stp (ri := (.iconst 0, 1, 0, 0, 0, 0)) (by decide +kernel) rfl rfl rfl
set_option maxRecDepth 100000 in
theorem i130_15 {v0 v1 v2 v3 : Value} {st : List Value} {h : ab_Hp} {Q : ab_O → ab_Hp → Prop} : wp 130 15 [v0, v1, v2, v3] st h Q = wp 130 16 [v0, v1, v2, v3] (.int (nI 5) :: st) h Q := wp_stp (ri := (.iconst 5, 1, 0, 0, 0, 0)) (by decide +kernel) rfl rfl rfl
set_option maxRecDepth 100000 in
theorem i130_16 {v0 v1 v2 v3 : Value} {a0 : Int32} {a1 : Int32} {a2 : Int32} {st : List Value} {h : ab_Hp} {Q : ab_O → ab_Hp → Prop} (hl : st.length ≤ 4) : wp 130 16 [v0, v1, v2, v3] (.int a2 :: .int a1 :: .int a0 :: st) h Q = wp 87 0 [.int a0, .int a1, .int a2] [] h (ab_K 130 16 [v0, v1, v2, v3] st Q) := wp_callS (as := [.int a0, .int a1, .int a2]) (by decide +kernel : ab_cod 130 16 = some (.invokestatic 33, 3, 87, 3, 1, 821)) rfl rfl rfl rfl hl
set_option maxRecDepth 100000 in
theorem i130_19 {v0 v1 v2 v3 : Value} {x : Int32} {st : List Value} {h : ab_Hp} {Q : ab_O → ab_Hp → Prop} : wp 130 19 [v0, v1, v2, v3] (.int x :: st) h Q = if x = 0 then wp 130 31 [v0, v1, v2, v3] st h Q else wp 130 22 [v0, v1, v2, v3] st h Q := wp_ifcP (by decide +kernel : ab_cod 130 19 = some (.ifCond .eq 12, 3, 31, 0, 0, 0)) rfl
set_option maxRecDepth 100000 in
theorem i130_22 {v0 v1 v2 : Value} {x : Int32} {st : List Value} {h : ab_Hp} {Q : ab_O → ab_Hp → Prop} : wp 130 22 [v0, v1, v2, .int x] st h Q = wp 130 23 [v0, v1, v2, .int x] (.int x :: st) h Q := wp_stp (ri := (.iload_n 3, 1, 0, 0, 0, 0)) (by decide +kernel) rfl rfl rfl
set_option maxRecDepth 100000 in
theorem i130_23 {v0 v1 v2 v3 : Value} {st : List Value} {h : ab_Hp} {Q : ab_O → ab_Hp → Prop} : wp 130 23 [v0, v1, v2, v3] st h Q = wp 130 24 [v0, v1, v2, v3] (.int (nI 0) :: st) h Q := wp_stp (ri := (.iconst 0, 1, 0, 0, 0, 0)) (by decide +kernel) rfl rfl rfl
set_option maxRecDepth 100000 in
theorem i130_24 {v0 v1 v2 v3 : Value} {st : List Value} {h : ab_Hp} {Q : ab_O → ab_Hp → Prop} : wp 130 24 [v0, v1, v2, v3] st h Q = wp 130 25 [v0, v1, v2, v3] (.int (nI 2) :: st) h Q := wp_stp (ri := (.iconst 2, 1, 0, 0, 0, 0)) (by decide +kernel) rfl rfl rfl
set_option maxRecDepth 100000 in
theorem i130_25 {v0 v1 v2 v3 : Value} {a0 : Int32} {a1 : Int32} {a2 : Int32} {st : List Value} {h : ab_Hp} {Q : ab_O → ab_Hp → Prop} (hl : st.length ≤ 4) : wp 130 25 [v0, v1, v2, v3] (.int a2 :: .int a1 :: .int a0 :: st) h Q = wp 87 0 [.int a0, .int a1, .int a2] [] h (ab_K 130 25 [v0, v1, v2, v3] st Q) := wp_callS (as := [.int a0, .int a1, .int a2]) (by decide +kernel : ab_cod 130 25 = some (.invokestatic 33, 3, 87, 3, 1, 821)) rfl rfl rfl rfl hl
set_option maxRecDepth 100000 in
theorem i130_28 {v0 v1 v2 v3 : Value} {x : Int32} {st : List Value} {h : ab_Hp} {Q : ab_O → ab_Hp → Prop} : wp 130 28 [v0, v1, v2, v3] (.int x :: st) h Q = if ¬ x = 0 then wp 130 35 [v0, v1, v2, v3] st h Q else wp 130 31 [v0, v1, v2, v3] st h Q := wp_ifcP (by decide +kernel : ab_cod 130 28 = some (.ifCond .ne 7, 3, 35, 0, 0, 0)) rfl
set_option maxRecDepth 100000 in
theorem i130_31 {v0 v1 v2 v3 : Value} {st : List Value} {h : ab_Hp} {Q : ab_O → ab_Hp → Prop} : wp 130 31 [v0, v1, v2, v3] st h Q = wp 130 32 [v0, v1, v2, v3] (.int (nI 2) :: st) h Q := wp_stp (ri := (.iconst 2, 1, 0, 0, 0, 0)) (by decide +kernel) rfl rfl rfl
set_option maxRecDepth 100000 in
theorem i130_32 {v0 v1 v2 v3 : Value} {st : List Value} {h : ab_Hp} {Q : ab_O → ab_Hp → Prop} : wp 130 32 [v0, v1, v2, v3] st h Q = wp 130 36 [v0, v1, v2, v3] st h Q := wp_stp (ri := (.goto 4, 3, 36, 0, 0, 0)) (by decide +kernel) rfl rfl rfl
set_option maxRecDepth 100000 in
theorem i130_35 {v0 v1 v2 v3 : Value} {st : List Value} {h : ab_Hp} {Q : ab_O → ab_Hp → Prop} : wp 130 35 [v0, v1, v2, v3] st h Q = wp 130 36 [v0, v1, v2, v3] (.int (nI 0) :: st) h Q := wp_stp (ri := (.iconst 0, 1, 0, 0, 0, 0)) (by decide +kernel) rfl rfl rfl
set_option maxRecDepth 100000 in
theorem i130_36 {v0 v1 v2 v3 : Value} {r : Nat} {x : Int32} {st : List Value} {h : ab_Hp} {Q : ab_O → ab_Hp → Prop} (hk : (ab_sh h r).1 = 17) : wp 130 36 [v0, v1, v2, v3] (.int x :: .ref r :: st) h Q = wp 130 39 [v0, v1, v2, v3] st (ab_setI h (ab_u (ab_hi h) r 0 x)) Q := wp_pf (by decide +kernel : ab_cod 130 36 = some (.putfield 29, 3, 7, 0, 772, 0)) hk rfl
set_option maxRecDepth 100000 in
theorem i130_39 {v0 v1 v2 v3 : Value} {st : List Value} {h : ab_Hp} {Q : ab_O → ab_Hp → Prop} (hv : ab_isA v0 = true) : wp 130 39 [v0, v1, v2, v3] st h Q = wp 130 40 [v0, v1, v2, v3] (v0 :: st) h Q := wp_aload_n (by decide +kernel : ab_cod 130 39 = some (.aload_n 0, 1, 0, 0, 0, 0)) hv
set_option maxRecDepth 100000 in
theorem i130_40 {v0 v1 v2 v3 : Value} {r : Nat} {st : List Value} {h : ab_Hp} {Q : ab_O → ab_Hp → Prop} (hk : (ab_sh h r).1 = 17) : wp 130 40 [v0, v1, v2, v3] (.ref r :: st) h Q = wp 130 43 [v0, v1, v2, v3] (.int (ab_hi h r 0) :: st) h Q := wp_gf (by decide +kernel : ab_cod 130 40 = some (.getfield 29, 3, 7, 0, 772, 0)) hk
set_option maxRecDepth 100000 in
theorem i130_43 {v0 v1 v2 v3 : Value} {x : Int32} {st : List Value} {h : ab_Hp} {Q : ab_O → ab_Hp → Prop} : wp 130 43 [v0, v1, v2, v3] (.int x :: st) h Q = if x ≤ 0 then wp 130 48 [v0, v1, v2, v3] st h Q else wp 130 46 [v0, v1, v2, v3] st h Q := wp_ifcP (by decide +kernel : ab_cod 130 43 = some (.ifCond .le 5, 3, 48, 0, 0, 0)) rfl
set_option maxRecDepth 100000 in
theorem i130_46 {v0 v1 v2 v3 : Value} {st : List Value} {h : ab_Hp} {Q : ab_O → ab_Hp → Prop} : wp 130 46 [v0, v1, v2, v3] st h Q = wp 130 47 [v0, v1, v2, v3] (.int (nI 0) :: st) h Q := wp_stp (ri := (.iconst 0, 1, 0, 0, 0, 0)) (by decide +kernel) rfl rfl rfl
set_option maxRecDepth 100000 in
theorem i130_47 {v0 v1 v2 v3 : Value} {x : Int32} {h : ab_Hp} {Q : ab_O → ab_Hp → Prop} : wp 130 47 [v0, v1, v2, v3] [.int x] h Q = Q (.inl (some (.int x))) h := wp_iret (by decide +kernel : ab_cod 130 47 = some (.ireturn, 1, 0, 0, 0, 0)) rfl
set_option maxRecDepth 100000 in
theorem i130_48 {v0 v1 v3 : Value} {x : Int32} {st : List Value} {h : ab_Hp} {Q : ab_O → ab_Hp → Prop} : wp 130 48 [v0, v1, .int x, v3] st h Q = wp 130 49 [v0, v1, .int x, v3] (.int x :: st) h Q := wp_stp (ri := (.iload_n 2, 1, 0, 0, 0, 0)) (by decide +kernel) rfl rfl rfl
set_option maxRecDepth 100000 in
theorem i130_49 {v0 v1 v2 v3 : Value} {st : List Value} {h : ab_Hp} {Q : ab_O → ab_Hp → Prop} (hv : ab_isA v0 = true) : wp 130 49 [v0, v1, v2, v3] st h Q = wp 130 50 [v0, v1, v2, v3] (v0 :: st) h Q := wp_aload_n (by decide +kernel : ab_cod 130 49 = some (.aload_n 0, 1, 0, 0, 0, 0)) hv
set_option maxRecDepth 100000 in
theorem i130_50 {v0 v2 v3 : Value} {x : Int32} {st : List Value} {h : ab_Hp} {Q : ab_O → ab_Hp → Prop} : wp 130 50 [v0, .int x, v2, v3] st h Q = wp 130 51 [v0, .int x, v2, v3] (.int x :: st) h Q := wp_stp (ri := (.iload_n 1, 1, 0, 0, 0, 0)) (by decide +kernel) rfl rfl rfl
set_option maxRecDepth 100000 in
theorem i130_51 {v0 v1 v2 v3 : Value} {st : List Value} {h : ab_Hp} {Q : ab_O → ab_Hp → Prop} : wp 130 51 [v0, v1, v2, v3] st h Q = wp 130 52 [v0, v1, v2, v3] (.int (nI 4) :: st) h Q := wp_stp (ri := (.iconst 4, 1, 0, 0, 0, 0)) (by decide +kernel) rfl rfl rfl
set_option maxRecDepth 100000 in
theorem i130_52 {v0 v1 v2 v3 : Value} {r : Nat} {a0 : Int32} {a1 : Int32} {st : List Value} {h : ab_Hp} {Q : ab_O → ab_Hp → Prop} (hl : st.length ≤ 4) (hk : (ab_sh h r).1 = 17) : wp 130 52 [v0, v1, v2, v3] (.int a1 :: .int a0 :: .ref r :: st) h Q = wp 92 0 [.ref r, .int a0, .int a1] [] h (ab_K 130 52 [v0, v1, v2, v3] st Q) := wp_callV (as := [.int a0, .int a1]) (by decide +kernel : ab_cod 130 52 = some (.invokevirtual 61, 3, 92, 3, 0, 860)) rfl rfl rfl rfl hl hk
set_option maxRecDepth 100000 in
theorem i130_55 {v0 v1 v2 v3 : Value} {x y : Int32} {st : List Value} {h : ab_Hp} {Q : ab_O → ab_Hp → Prop} : wp 130 55 [v0, v1, v2, v3] (.int y :: .int x :: st) h Q = if y ≤ x then wp 130 74 [v0, v1, v2, v3] st h Q else wp 130 58 [v0, v1, v2, v3] st h Q := wp_icmpP (by decide +kernel : ab_cod 130 55 = some (.if_icmp .ge 19, 3, 74, 0, 0, 0)) rfl
set_option maxRecDepth 100000 in
theorem i130_58 {v0 v1 v2 v3 : Value} {st : List Value} {h : ab_Hp} {Q : ab_O → ab_Hp → Prop} (hv : ab_isA v0 = true) : wp 130 58 [v0, v1, v2, v3] st h Q = wp 130 59 [v0, v1, v2, v3] (v0 :: st) h Q := wp_aload_n (by decide +kernel : ab_cod 130 58 = some (.aload_n 0, 1, 0, 0, 0, 0)) hv
set_option maxRecDepth 100000 in
theorem i130_59 {v0 v2 v3 : Value} {x : Int32} {st : List Value} {h : ab_Hp} {Q : ab_O → ab_Hp → Prop} : wp 130 59 [v0, .int x, v2, v3] st h Q = wp 130 60 [v0, .int x, v2, v3] (.int x :: st) h Q := wp_stp (ri := (.iload_n 1, 1, 0, 0, 0, 0)) (by decide +kernel) rfl rfl rfl
set_option maxRecDepth 100000 in
theorem i130_60 {v0 v1 v2 v3 : Value} {st : List Value} {h : ab_Hp} {Q : ab_O → ab_Hp → Prop} : wp 130 60 [v0, v1, v2, v3] st h Q = wp 130 62 [v0, v1, v2, v3] (.int (nI 6) :: st) h Q := wp_stp (ri := (.bipush 6, 2, 0, 0, 0, 0)) (by decide +kernel) rfl rfl rfl
set_option maxRecDepth 100000 in
theorem i130_62 {v0 v1 v2 v3 : Value} {st : List Value} {h : ab_Hp} {Q : ab_O → ab_Hp → Prop} : wp 130 62 [v0, v1, v2, v3] st h Q = wp 130 63 [v0, v1, v2, v3] (.int (nI 3) :: st) h Q := wp_stp (ri := (.iconst 3, 1, 0, 0, 0, 0)) (by decide +kernel) rfl rfl rfl
set_option maxRecDepth 100000 in
theorem i130_63 {v0 v1 v3 : Value} {x : Int32} {st : List Value} {h : ab_Hp} {Q : ab_O → ab_Hp → Prop} : wp 130 63 [v0, v1, .int x, v3] st h Q = wp 130 64 [v0, v1, .int x, v3] (.int x :: st) h Q := wp_stp (ri := (.iload_n 2, 1, 0, 0, 0, 0)) (by decide +kernel) rfl rfl rfl
set_option maxRecDepth 100000 in
theorem i130_64 {v0 v1 v2 v3 : Value} {x y : Int32} {st : List Value} {h : ab_Hp} {Q : ab_O → ab_Hp → Prop} : wp 130 64 [v0, v1, v2, v3] (.int y :: .int x :: st) h Q = wp 130 65 [v0, v1, v2, v3] (.int (x * y) :: st) h Q := wp_stp (ri := (.imul, 1, 0, 0, 0, 0)) (by decide +kernel) rfl rfl rfl
set_option maxRecDepth 100000 in
theorem i130_65 {v0 v1 v2 v3 : Value} {x y : Int32} {st : List Value} {h : ab_Hp} {Q : ab_O → ab_Hp → Prop} : wp 130 65 [v0, v1, v2, v3] (.int y :: .int x :: st) h Q = wp 130 66 [v0, v1, v2, v3] (.int (x + y) :: st) h Q := wp_stp (ri := (.iadd, 1, 0, 0, 0, 0)) (by decide +kernel) rfl rfl rfl
set_option maxRecDepth 100000 in
theorem i130_66 {v0 v1 v2 : Value} {x : Int32} {st : List Value} {h : ab_Hp} {Q : ab_O → ab_Hp → Prop} : wp 130 66 [v0, v1, v2, .int x] st h Q = wp 130 67 [v0, v1, v2, .int x] (.int x :: st) h Q := wp_stp (ri := (.iload_n 3, 1, 0, 0, 0, 0)) (by decide +kernel) rfl rfl rfl
set_option maxRecDepth 100000 in
theorem i130_67 {v0 v1 v2 v3 : Value} {x y : Int32} {st : List Value} {h : ab_Hp} {Q : ab_O → ab_Hp → Prop} : wp 130 67 [v0, v1, v2, v3] (.int y :: .int x :: st) h Q = wp 130 68 [v0, v1, v2, v3] (.int (x + y) :: st) h Q := wp_stp (ri := (.iadd, 1, 0, 0, 0, 0)) (by decide +kernel) rfl rfl rfl
set_option maxRecDepth 100000 in
theorem i130_68 {v0 v1 v2 v3 : Value} {r : Nat} {a0 : Int32} {a1 : Int32} {st : List Value} {h : ab_Hp} {Q : ab_O → ab_Hp → Prop} (hl : st.length ≤ 4) (hk : (ab_sh h r).1 = 17) : wp 130 68 [v0, v1, v2, v3] (.int a1 :: .int a0 :: .ref r :: st) h Q = wp 92 0 [.ref r, .int a0, .int a1] [] h (ab_K 130 68 [v0, v1, v2, v3] st Q) := wp_callV (as := [.int a0, .int a1]) (by decide +kernel : ab_cod 130 68 = some (.invokevirtual 61, 3, 92, 3, 0, 860)) rfl rfl rfl rfl hl hk
set_option maxRecDepth 100000 in
theorem i130_71 {v0 v1 v2 v3 : Value} {st : List Value} {h : ab_Hp} {Q : ab_O → ab_Hp → Prop} : wp 130 71 [v0, v1, v2, v3] st h Q = wp 130 75 [v0, v1, v2, v3] st h Q := wp_stp (ri := (.goto 4, 3, 75, 0, 0, 0)) (by decide +kernel) rfl rfl rfl
set_option maxRecDepth 100000 in
theorem i130_74 {v0 v1 v2 v3 : Value} {st : List Value} {h : ab_Hp} {Q : ab_O → ab_Hp → Prop} : wp 130 74 [v0, v1, v2, v3] st h Q = wp 130 75 [v0, v1, v2, v3] (.int ((-1)) :: st) h Q := wp_stp (ri := (.iconst (-1), 1, 0, 0, 0, 0)) (by decide +kernel) rfl rfl rfl
set_option maxRecDepth 100000 in
theorem i130_75 {v0 v1 v2 v3 : Value} {x : Int32} {h : ab_Hp} {Q : ab_O → ab_Hp → Prop} : wp 130 75 [v0, v1, v2, v3] [.int x] h Q = Q (.inl (some (.int x))) h := wp_iret (by decide +kernel : ab_cod 130 75 = some (.ireturn, 1, 0, 0, 0, 0)) rfl
/-! 131: SeamBeatsModel.sumOf(I)I -/
theorem i131_0 {v0 v1 v2 v3 : Value} {st : List Value} {h : ab_Hp} {Q : ab_O → ab_Hp → Prop} : wp 131 0 [v0, v1, v2, v3] st h Q = wp 131 1 [v0, v1, v2, v3] (.int (nI 0) :: st) h Q := wp_stp (ri := (.iconst 0, 1, 0, 0, 0, 0)) (by decide +kernel) rfl rfl rfl
theorem i131_1 {v0 v1 v2 v3 : Value} {w : Int32} {st : List Value} {h : ab_Hp} {Q : ab_O → ab_Hp → Prop} : wp 131 1 [v0, v1, v2, v3] (.int w :: st) h Q = wp 131 2 [v0, ab_clr v1, .int w, v3] st h Q := wp_stp (ri := (.istore_n 2, 1, 0, 0, 0, 0)) (by decide +kernel) rfl rfl rfl
theorem i131_2 {v0 v1 v2 v3 : Value} {st : List Value} {h : ab_Hp} {Q : ab_O → ab_Hp → Prop} : wp 131 2 [v0, v1, v2, v3] st h Q = wp 131 3 [v0, v1, v2, v3] (.int (nI 0) :: st) h Q := wp_stp (ri := (.iconst 0, 1, 0, 0, 0, 0)) (by decide +kernel) rfl rfl rfl
theorem i131_3 {v0 v1 v2 v3 : Value} {w : Int32} {st : List Value} {h : ab_Hp} {Q : ab_O → ab_Hp → Prop} : wp 131 3 [v0, v1, v2, v3] (.int w :: st) h Q = wp 131 4 [v0, v1, ab_clr v2, .int w] st h Q := wp_stp (ri := (.istore_n 3, 1, 0, 0, 0, 0)) (by decide +kernel) rfl rfl rfl
theorem i131_4 {v0 v1 v2 : Value} {x : Int32} {st : List Value} {h : ab_Hp} {Q : ab_O → ab_Hp → Prop} : wp 131 4 [v0, v1, v2, .int x] st h Q = wp 131 5 [v0, v1, v2, .int x] (.int x :: st) h Q := wp_stp (ri := (.iload_n 3, 1, 0, 0, 0, 0)) (by decide +kernel) rfl rfl rfl
theorem i131_5 {v0 v1 v2 v3 : Value} {st : List Value} {h : ab_Hp} {Q : ab_O → ab_Hp → Prop} : wp 131 5 [v0, v1, v2, v3] st h Q = wp 131 7 [v0, v1, v2, v3] (.int (nI 6) :: st) h Q := wp_stp (ri := (.bipush 6, 2, 0, 0, 0, 0)) (by decide +kernel) rfl rfl rfl
theorem i131_7 {v0 v1 v2 v3 : Value} {x y : Int32} {st : List Value} {h : ab_Hp} {Q : ab_O → ab_Hp → Prop} : wp 131 7 [v0, v1, v2, v3] (.int y :: .int x :: st) h Q = if y ≤ x then wp 131 25 [v0, v1, v2, v3] st h Q else wp 131 10 [v0, v1, v2, v3] st h Q := wp_icmpP (by decide +kernel : ab_cod 131 7 = some (.if_icmp .ge 18, 3, 25, 0, 0, 0)) rfl
theorem i131_10 {v0 v1 v3 : Value} {x : Int32} {st : List Value} {h : ab_Hp} {Q : ab_O → ab_Hp → Prop} : wp 131 10 [v0, v1, .int x, v3] st h Q = wp 131 11 [v0, v1, .int x, v3] (.int x :: st) h Q := wp_stp (ri := (.iload_n 2, 1, 0, 0, 0, 0)) (by decide +kernel) rfl rfl rfl
theorem i131_11 {v0 v1 v2 v3 : Value} {st : List Value} {h : ab_Hp} {Q : ab_O → ab_Hp → Prop} (hv : ab_isA v0 = true) : wp 131 11 [v0, v1, v2, v3] st h Q = wp 131 12 [v0, v1, v2, v3] (v0 :: st) h Q := wp_aload_n (by decide +kernel : ab_cod 131 11 = some (.aload_n 0, 1, 0, 0, 0, 0)) hv
theorem i131_12 {v0 v1 v2 : Value} {x : Int32} {st : List Value} {h : ab_Hp} {Q : ab_O → ab_Hp → Prop} : wp 131 12 [v0, v1, v2, .int x] st h Q = wp 131 13 [v0, v1, v2, .int x] (.int x :: st) h Q := wp_stp (ri := (.iload_n 3, 1, 0, 0, 0, 0)) (by decide +kernel) rfl rfl rfl
theorem i131_13 {v0 v2 v3 : Value} {x : Int32} {st : List Value} {h : ab_Hp} {Q : ab_O → ab_Hp → Prop} : wp 131 13 [v0, .int x, v2, v3] st h Q = wp 131 14 [v0, .int x, v2, v3] (.int x :: st) h Q := wp_stp (ri := (.iload_n 1, 1, 0, 0, 0, 0)) (by decide +kernel) rfl rfl rfl
theorem i131_14 {v0 v1 v2 v3 : Value} {r : Nat} {a0 : Int32} {a1 : Int32} {st : List Value} {h : ab_Hp} {Q : ab_O → ab_Hp → Prop} (hl : st.length ≤ 4) (hk : (ab_sh h r).1 = 17) : wp 131 14 [v0, v1, v2, v3] (.int a1 :: .int a0 :: .ref r :: st) h Q = wp 90 0 [.ref r, .int a0, .int a1] [] h (ab_K 131 14 [v0, v1, v2, v3] st Q) := wp_callV (as := [.int a0, .int a1]) (by decide +kernel : ab_cod 131 14 = some (.invokevirtual 47, 3, 90, 3, 0, 828)) rfl rfl rfl rfl hl hk
theorem i131_17 {v0 v1 v2 v3 : Value} {x y : Int32} {st : List Value} {h : ab_Hp} {Q : ab_O → ab_Hp → Prop} : wp 131 17 [v0, v1, v2, v3] (.int y :: .int x :: st) h Q = wp 131 18 [v0, v1, v2, v3] (.int (x + y) :: st) h Q := wp_stp (ri := (.iadd, 1, 0, 0, 0, 0)) (by decide +kernel) rfl rfl rfl
theorem i131_18 {v0 v1 v2 v3 : Value} {w : Int32} {st : List Value} {h : ab_Hp} {Q : ab_O → ab_Hp → Prop} : wp 131 18 [v0, v1, v2, v3] (.int w :: st) h Q = wp 131 19 [v0, ab_clr v1, .int w, v3] st h Q := wp_stp (ri := (.istore_n 2, 1, 0, 0, 0, 0)) (by decide +kernel) rfl rfl rfl
theorem i131_19 {v0 v1 v2 : Value} {x : Int32} {st : List Value} {h : ab_Hp} {Q : ab_O → ab_Hp → Prop} : wp 131 19 [v0, v1, v2, .int x] st h Q = wp 131 22 [v0, v1, ab_clr v2, .int (x + nI 1)] st h Q := wp_stp (ri := (.iinc 3 1, 3, 0, 0, 0, 0)) (by decide +kernel) rfl rfl rfl
theorem i131_22 {v0 v1 v2 v3 : Value} {st : List Value} {h : ab_Hp} {Q : ab_O → ab_Hp → Prop} : wp 131 22 [v0, v1, v2, v3] st h Q = wp 131 4 [v0, v1, v2, v3] st h Q := wp_stp (ri := (.goto (-18), 3, 4, 0, 0, 0)) (by decide +kernel) rfl rfl rfl
theorem i131_25 {v0 v1 v3 : Value} {x : Int32} {st : List Value} {h : ab_Hp} {Q : ab_O → ab_Hp → Prop} : wp 131 25 [v0, v1, .int x, v3] st h Q = wp 131 26 [v0, v1, .int x, v3] (.int x :: st) h Q := wp_stp (ri := (.iload_n 2, 1, 0, 0, 0, 0)) (by decide +kernel) rfl rfl rfl
theorem i131_26 {v0 v1 v2 v3 : Value} {x : Int32} {h : ab_Hp} {Q : ab_O → ab_Hp → Prop} : wp 131 26 [v0, v1, v2, v3] [.int x] h Q = Q (.inl (some (.int x))) h := wp_iret (by decide +kernel : ab_cod 131 26 = some (.ireturn, 1, 0, 0, 0, 0)) rfl
/-! 132: SeamBeatsModel.onSeams()I -/
theorem i132_0 {v0 v1 v2 : Value} {st : List Value} {h : ab_Hp} {Q : ab_O → ab_Hp → Prop} : wp 132 0 [v0, v1, v2] st h Q = wp 132 1 [v0, v1, v2] (.int (nI 0) :: st) h Q := wp_stp (ri := (.iconst 0, 1, 0, 0, 0, 0)) (by decide +kernel) rfl rfl rfl
theorem i132_1 {v0 v1 v2 : Value} {w : Int32} {st : List Value} {h : ab_Hp} {Q : ab_O → ab_Hp → Prop} : wp 132 1 [v0, v1, v2] (.int w :: st) h Q = wp 132 2 [ab_clr v0, .int w, v2] st h Q := wp_stp (ri := (.istore_n 1, 1, 0, 0, 0, 0)) (by decide +kernel) rfl rfl rfl
theorem i132_2 {v0 v1 v2 : Value} {st : List Value} {h : ab_Hp} {Q : ab_O → ab_Hp → Prop} : wp 132 2 [v0, v1, v2] st h Q = wp 132 3 [v0, v1, v2] (.int (nI 0) :: st) h Q := wp_stp (ri := (.iconst 0, 1, 0, 0, 0, 0)) (by decide +kernel) rfl rfl rfl
theorem i132_3 {v0 v1 v2 : Value} {w : Int32} {st : List Value} {h : ab_Hp} {Q : ab_O → ab_Hp → Prop} : wp 132 3 [v0, v1, v2] (.int w :: st) h Q = wp 132 4 [v0, ab_clr v1, .int w] st h Q := wp_stp (ri := (.istore_n 2, 1, 0, 0, 0, 0)) (by decide +kernel) rfl rfl rfl
theorem i132_4 {v0 v1 : Value} {x : Int32} {st : List Value} {h : ab_Hp} {Q : ab_O → ab_Hp → Prop} : wp 132 4 [v0, v1, .int x] st h Q = wp 132 5 [v0, v1, .int x] (.int x :: st) h Q := wp_stp (ri := (.iload_n 2, 1, 0, 0, 0, 0)) (by decide +kernel) rfl rfl rfl
theorem i132_5 {v0 v1 v2 : Value} {st : List Value} {h : ab_Hp} {Q : ab_O → ab_Hp → Prop} (hv : ab_isA v0 = true) : wp 132 5 [v0, v1, v2] st h Q = wp 132 6 [v0, v1, v2] (v0 :: st) h Q := wp_aload_n (by decide +kernel : ab_cod 132 5 = some (.aload_n 0, 1, 0, 0, 0, 0)) hv
theorem i132_6 {v0 v1 v2 : Value} {r : Nat} {st : List Value} {h : ab_Hp} {Q : ab_O → ab_Hp → Prop} (hk : (ab_sh h r).1 = 17) : wp 132 6 [v0, v1, v2] (.ref r :: st) h Q = wp 132 9 [v0, v1, v2] (va_rf (ab_hr h r 1) :: st) h Q := wp_gf (by decide +kernel : ab_cod 132 6 = some (.getfield 7, 3, 7, 1, 773, 1)) hk
theorem i132_9 {v0 v1 v2 : Value} {st : List Value} {h : ab_Hp} {Q : ab_O → ab_Hp → Prop} : wp 132 9 [v0, v1, v2] st h Q = wp 132 10 [v0, v1, v2] (.int (nI 5) :: st) h Q := wp_stp (ri := (.iconst 5, 1, 0, 0, 0, 0)) (by decide +kernel) rfl rfl rfl
theorem i132_10 {v0 v1 v2 : Value} {r : Nat} {x : Int32} {st : List Value} {h : ab_Hp} {Q : ab_O → ab_Hp → Prop} (hk : ((ab_sh h r).1 = 1 ∨ (ab_sh h r).1 = 6) ∧ ab_in x (ab_sh h r).2 = true) : wp 132 10 [v0, v1, v2] (.int x :: .ref r :: st) h Q = wp 132 11 [v0, v1, v2] (.int (ab_hi h r x.toNatClampNeg) :: st) h Q := wp_ia (by decide +kernel : ab_cod 132 10 = some (.iaload, 1, 0, 0, 0, 0)) hk
theorem i132_11 {v0 v1 v2 : Value} {x y : Int32} {st : List Value} {h : ab_Hp} {Q : ab_O → ab_Hp → Prop} : wp 132 11 [v0, v1, v2] (.int y :: .int x :: st) h Q = if y ≤ x then wp 132 29 [v0, v1, v2] st h Q else wp 132 14 [v0, v1, v2] st h Q := wp_icmpP (by decide +kernel : ab_cod 132 11 = some (.if_icmp .ge 18, 3, 29, 0, 0, 0)) rfl
theorem i132_14 {v0 v2 : Value} {x : Int32} {st : List Value} {h : ab_Hp} {Q : ab_O → ab_Hp → Prop} : wp 132 14 [v0, .int x, v2] st h Q = wp 132 15 [v0, .int x, v2] (.int x :: st) h Q := wp_stp (ri := (.iload_n 1, 1, 0, 0, 0, 0)) (by decide +kernel) rfl rfl rfl
theorem i132_15 {v0 v1 v2 : Value} {st : List Value} {h : ab_Hp} {Q : ab_O → ab_Hp → Prop} (hv : ab_isA v0 = true) : wp 132 15 [v0, v1, v2] st h Q = wp 132 16 [v0, v1, v2] (v0 :: st) h Q := wp_aload_n (by decide +kernel : ab_cod 132 15 = some (.aload_n 0, 1, 0, 0, 0, 0)) hv
theorem i132_16 {v0 v1 : Value} {x : Int32} {st : List Value} {h : ab_Hp} {Q : ab_O → ab_Hp → Prop} : wp 132 16 [v0, v1, .int x] st h Q = wp 132 17 [v0, v1, .int x] (.int x :: st) h Q := wp_stp (ri := (.iload_n 2, 1, 0, 0, 0, 0)) (by decide +kernel) rfl rfl rfl
theorem i132_17 {v0 v1 v2 : Value} {st : List Value} {h : ab_Hp} {Q : ab_O → ab_Hp → Prop} : wp 132 17 [v0, v1, v2] st h Q = wp 132 18 [v0, v1, v2] (.int (nI 4) :: st) h Q := wp_stp (ri := (.iconst 4, 1, 0, 0, 0, 0)) (by decide +kernel) rfl rfl rfl
theorem i132_18 {v0 v1 v2 : Value} {r : Nat} {a0 : Int32} {a1 : Int32} {st : List Value} {h : ab_Hp} {Q : ab_O → ab_Hp → Prop} (hl : st.length ≤ 4) (hk : (ab_sh h r).1 = 17) : wp 132 18 [v0, v1, v2] (.int a1 :: .int a0 :: .ref r :: st) h Q = wp 92 0 [.ref r, .int a0, .int a1] [] h (ab_K 132 18 [v0, v1, v2] st Q) := wp_callV (as := [.int a0, .int a1]) (by decide +kernel : ab_cod 132 18 = some (.invokevirtual 61, 3, 92, 3, 0, 860)) rfl rfl rfl rfl hl hk
theorem i132_21 {v0 v1 v2 : Value} {x y : Int32} {st : List Value} {h : ab_Hp} {Q : ab_O → ab_Hp → Prop} : wp 132 21 [v0, v1, v2] (.int y :: .int x :: st) h Q = wp 132 22 [v0, v1, v2] (.int (x + y) :: st) h Q := wp_stp (ri := (.iadd, 1, 0, 0, 0, 0)) (by decide +kernel) rfl rfl rfl
theorem i132_22 {v0 v1 v2 : Value} {w : Int32} {st : List Value} {h : ab_Hp} {Q : ab_O → ab_Hp → Prop} : wp 132 22 [v0, v1, v2] (.int w :: st) h Q = wp 132 23 [ab_clr v0, .int w, v2] st h Q := wp_stp (ri := (.istore_n 1, 1, 0, 0, 0, 0)) (by decide +kernel) rfl rfl rfl
theorem i132_23 {v0 v1 : Value} {x : Int32} {st : List Value} {h : ab_Hp} {Q : ab_O → ab_Hp → Prop} : wp 132 23 [v0, v1, .int x] st h Q = wp 132 26 [v0, ab_clr v1, .int (x + nI 1)] st h Q := wp_stp (ri := (.iinc 2 1, 3, 0, 0, 0, 0)) (by decide +kernel) rfl rfl rfl
theorem i132_26 {v0 v1 v2 : Value} {st : List Value} {h : ab_Hp} {Q : ab_O → ab_Hp → Prop} : wp 132 26 [v0, v1, v2] st h Q = wp 132 4 [v0, v1, v2] st h Q := wp_stp (ri := (.goto (-22), 3, 4, 0, 0, 0)) (by decide +kernel) rfl rfl rfl
theorem i132_29 {v0 v2 : Value} {x : Int32} {st : List Value} {h : ab_Hp} {Q : ab_O → ab_Hp → Prop} : wp 132 29 [v0, .int x, v2] st h Q = wp 132 30 [v0, .int x, v2] (.int x :: st) h Q := wp_stp (ri := (.iload_n 1, 1, 0, 0, 0, 0)) (by decide +kernel) rfl rfl rfl
theorem i132_30 {v0 v1 v2 : Value} {x : Int32} {h : ab_Hp} {Q : ab_O → ab_Hp → Prop} : wp 132 30 [v0, v1, v2] [.int x] h Q = Q (.inl (some (.int x))) h := wp_iret (by decide +kernel : ab_cod 132 30 = some (.ireturn, 1, 0, 0, 0, 0)) rfl
/-! 133: SeamBeatsModel.beating()I -/
theorem i133_0 {v0 v1 v2 : Value} {st : List Value} {h : ab_Hp} {Q : ab_O → ab_Hp → Prop} : wp 133 0 [v0, v1, v2] st h Q = wp 133 1 [v0, v1, v2] (.int (nI 0) :: st) h Q := wp_stp (ri := (.iconst 0, 1, 0, 0, 0, 0)) (by decide +kernel) rfl rfl rfl
theorem i133_1 {v0 v1 v2 : Value} {w : Int32} {st : List Value} {h : ab_Hp} {Q : ab_O → ab_Hp → Prop} : wp 133 1 [v0, v1, v2] (.int w :: st) h Q = wp 133 2 [ab_clr v0, .int w, v2] st h Q := wp_stp (ri := (.istore_n 1, 1, 0, 0, 0, 0)) (by decide +kernel) rfl rfl rfl
theorem i133_2 {v0 v1 v2 : Value} {st : List Value} {h : ab_Hp} {Q : ab_O → ab_Hp → Prop} : wp 133 2 [v0, v1, v2] st h Q = wp 133 3 [v0, v1, v2] (.int (nI 0) :: st) h Q := wp_stp (ri := (.iconst 0, 1, 0, 0, 0, 0)) (by decide +kernel) rfl rfl rfl
theorem i133_3 {v0 v1 v2 : Value} {w : Int32} {st : List Value} {h : ab_Hp} {Q : ab_O → ab_Hp → Prop} : wp 133 3 [v0, v1, v2] (.int w :: st) h Q = wp 133 4 [v0, ab_clr v1, .int w] st h Q := wp_stp (ri := (.istore_n 2, 1, 0, 0, 0, 0)) (by decide +kernel) rfl rfl rfl
theorem i133_4 {v0 v1 : Value} {x : Int32} {st : List Value} {h : ab_Hp} {Q : ab_O → ab_Hp → Prop} : wp 133 4 [v0, v1, .int x] st h Q = wp 133 5 [v0, v1, .int x] (.int x :: st) h Q := wp_stp (ri := (.iload_n 2, 1, 0, 0, 0, 0)) (by decide +kernel) rfl rfl rfl
theorem i133_5 {v0 v1 v2 : Value} {st : List Value} {h : ab_Hp} {Q : ab_O → ab_Hp → Prop} : wp 133 5 [v0, v1, v2] st h Q = wp 133 7 [v0, v1, v2] (.int (nI 6) :: st) h Q := wp_stp (ri := (.bipush 6, 2, 0, 0, 0, 0)) (by decide +kernel) rfl rfl rfl
theorem i133_7 {v0 v1 v2 : Value} {x y : Int32} {st : List Value} {h : ab_Hp} {Q : ab_O → ab_Hp → Prop} : wp 133 7 [v0, v1, v2] (.int y :: .int x :: st) h Q = if y ≤ x then wp 133 43 [v0, v1, v2] st h Q else wp 133 10 [v0, v1, v2] st h Q := wp_icmpP (by decide +kernel : ab_cod 133 7 = some (.if_icmp .ge 36, 3, 43, 0, 0, 0)) rfl
theorem i133_10 {v0 v2 : Value} {x : Int32} {st : List Value} {h : ab_Hp} {Q : ab_O → ab_Hp → Prop} : wp 133 10 [v0, .int x, v2] st h Q = wp 133 11 [v0, .int x, v2] (.int x :: st) h Q := wp_stp (ri := (.iload_n 1, 1, 0, 0, 0, 0)) (by decide +kernel) rfl rfl rfl
theorem i133_11 {v0 v1 v2 : Value} {st : List Value} {h : ab_Hp} {Q : ab_O → ab_Hp → Prop} (hv : ab_isA v0 = true) : wp 133 11 [v0, v1, v2] st h Q = wp 133 12 [v0, v1, v2] (v0 :: st) h Q := wp_aload_n (by decide +kernel : ab_cod 133 11 = some (.aload_n 0, 1, 0, 0, 0, 0)) hv
theorem i133_12 {v0 v1 : Value} {x : Int32} {st : List Value} {h : ab_Hp} {Q : ab_O → ab_Hp → Prop} : wp 133 12 [v0, v1, .int x] st h Q = wp 133 13 [v0, v1, .int x] (.int x :: st) h Q := wp_stp (ri := (.iload_n 2, 1, 0, 0, 0, 0)) (by decide +kernel) rfl rfl rfl
theorem i133_13 {v0 v1 v2 : Value} {r : Nat} {a0 : Int32} {st : List Value} {h : ab_Hp} {Q : ab_O → ab_Hp → Prop} (hl : st.length ≤ 4) (hk : (ab_sh h r).1 = 17) : wp 133 13 [v0, v1, v2] (.int a0 :: .ref r :: st) h Q = wp 111 0 [.ref r, .int a0] [] h (ab_K 133 13 [v0, v1, v2] st Q) := wp_callV (as := [.int a0]) (by decide +kernel : ab_cod 133 13 = some (.invokevirtual 75, 3, 111, 2, 0, 880)) rfl rfl rfl rfl hl hk
theorem i133_16 {v0 v1 v2 : Value} {x : Int32} {st : List Value} {h : ab_Hp} {Q : ab_O → ab_Hp → Prop} : wp 133 16 [v0, v1, v2] (.int x :: st) h Q = if x = 0 then wp 133 34 [v0, v1, v2] st h Q else wp 133 19 [v0, v1, v2] st h Q := wp_ifcP (by decide +kernel : ab_cod 133 16 = some (.ifCond .eq 18, 3, 34, 0, 0, 0)) rfl
theorem i133_19 {v0 v1 v2 : Value} {st : List Value} {h : ab_Hp} {Q : ab_O → ab_Hp → Prop} (hv : ab_isA v0 = true) : wp 133 19 [v0, v1, v2] st h Q = wp 133 20 [v0, v1, v2] (v0 :: st) h Q := wp_aload_n (by decide +kernel : ab_cod 133 19 = some (.aload_n 0, 1, 0, 0, 0, 0)) hv
theorem i133_20 {v0 v1 : Value} {x : Int32} {st : List Value} {h : ab_Hp} {Q : ab_O → ab_Hp → Prop} : wp 133 20 [v0, v1, .int x] st h Q = wp 133 21 [v0, v1, .int x] (.int x :: st) h Q := wp_stp (ri := (.iload_n 2, 1, 0, 0, 0, 0)) (by decide +kernel) rfl rfl rfl
theorem i133_21 {v0 v1 v2 : Value} {st : List Value} {h : ab_Hp} {Q : ab_O → ab_Hp → Prop} : wp 133 21 [v0, v1, v2] st h Q = wp 133 22 [v0, v1, v2] (.int (nI 5) :: st) h Q := wp_stp (ri := (.iconst 5, 1, 0, 0, 0, 0)) (by decide +kernel) rfl rfl rfl
theorem i133_22 {v0 v1 v2 : Value} {r : Nat} {a0 : Int32} {a1 : Int32} {st : List Value} {h : ab_Hp} {Q : ab_O → ab_Hp → Prop} (hl : st.length ≤ 4) (hk : (ab_sh h r).1 = 17) : wp 133 22 [v0, v1, v2] (.int a1 :: .int a0 :: .ref r :: st) h Q = wp 90 0 [.ref r, .int a0, .int a1] [] h (ab_K 133 22 [v0, v1, v2] st Q) := wp_callV (as := [.int a0, .int a1]) (by decide +kernel : ab_cod 133 22 = some (.invokevirtual 47, 3, 90, 3, 0, 828)) rfl rfl rfl rfl hl hk
theorem i133_25 {v0 v1 v2 : Value} {x : Int32} {st : List Value} {h : ab_Hp} {Q : ab_O → ab_Hp → Prop} : wp 133 25 [v0, v1, v2] (.int x :: st) h Q = if ¬ x = 0 then wp 133 34 [v0, v1, v2] st h Q else wp 133 28 [v0, v1, v2] st h Q := wp_ifcP (by decide +kernel : ab_cod 133 25 = some (.ifCond .ne 9, 3, 34, 0, 0, 0)) rfl
theorem i133_28 {v0 v1 v2 : Value} {st : List Value} {h : ab_Hp} {Q : ab_O → ab_Hp → Prop} : wp 133 28 [v0, v1, v2] st h Q = wp 133 29 [v0, v1, v2] (.int (nI 1) :: st) h Q := wp_stp (ri := (.iconst 1, 1, 0, 0, 0, 0)) (by decide +kernel) rfl rfl rfl
theorem i133_29 {v0 v1 : Value} {x : Int32} {st : List Value} {h : ab_Hp} {Q : ab_O → ab_Hp → Prop} : wp 133 29 [v0, v1, .int x] st h Q = wp 133 30 [v0, v1, .int x] (.int x :: st) h Q := wp_stp (ri := (.iload_n 2, 1, 0, 0, 0, 0)) (by decide +kernel) rfl rfl rfl
theorem i133_30 {v0 v1 v2 : Value} {x y : Int32} {st : List Value} {h : ab_Hp} {Q : ab_O → ab_Hp → Prop} : wp 133 30 [v0, v1, v2] (.int y :: .int x :: st) h Q = wp 133 31 [v0, v1, v2] (.int (x <<< (y &&& 31)) :: st) h Q := wp_stp (ri := (.ishl, 1, 0, 0, 0, 0)) (by decide +kernel) rfl rfl rfl
theorem i133_31 {v0 v1 v2 : Value} {st : List Value} {h : ab_Hp} {Q : ab_O → ab_Hp → Prop} : wp 133 31 [v0, v1, v2] st h Q = wp 133 35 [v0, v1, v2] st h Q := wp_stp (ri := (.goto 4, 3, 35, 0, 0, 0)) (by decide +kernel) rfl rfl rfl
theorem i133_34 {v0 v1 v2 : Value} {st : List Value} {h : ab_Hp} {Q : ab_O → ab_Hp → Prop} : wp 133 34 [v0, v1, v2] st h Q = wp 133 35 [v0, v1, v2] (.int (nI 0) :: st) h Q := wp_stp (ri := (.iconst 0, 1, 0, 0, 0, 0)) (by decide +kernel) rfl rfl rfl
theorem i133_35 {v0 v1 v2 : Value} {x y : Int32} {st : List Value} {h : ab_Hp} {Q : ab_O → ab_Hp → Prop} : wp 133 35 [v0, v1, v2] (.int y :: .int x :: st) h Q = wp 133 36 [v0, v1, v2] (.int (x ||| y) :: st) h Q := wp_stp (ri := (.ior, 1, 0, 0, 0, 0)) (by decide +kernel) rfl rfl rfl
theorem i133_36 {v0 v1 v2 : Value} {w : Int32} {st : List Value} {h : ab_Hp} {Q : ab_O → ab_Hp → Prop} : wp 133 36 [v0, v1, v2] (.int w :: st) h Q = wp 133 37 [ab_clr v0, .int w, v2] st h Q := wp_stp (ri := (.istore_n 1, 1, 0, 0, 0, 0)) (by decide +kernel) rfl rfl rfl
theorem i133_37 {v0 v1 : Value} {x : Int32} {st : List Value} {h : ab_Hp} {Q : ab_O → ab_Hp → Prop} : wp 133 37 [v0, v1, .int x] st h Q = wp 133 40 [v0, ab_clr v1, .int (x + nI 1)] st h Q := wp_stp (ri := (.iinc 2 1, 3, 0, 0, 0, 0)) (by decide +kernel) rfl rfl rfl
theorem i133_40 {v0 v1 v2 : Value} {st : List Value} {h : ab_Hp} {Q : ab_O → ab_Hp → Prop} : wp 133 40 [v0, v1, v2] st h Q = wp 133 4 [v0, v1, v2] st h Q := wp_stp (ri := (.goto (-36), 3, 4, 0, 0, 0)) (by decide +kernel) rfl rfl rfl
theorem i133_43 {v0 v2 : Value} {x : Int32} {st : List Value} {h : ab_Hp} {Q : ab_O → ab_Hp → Prop} : wp 133 43 [v0, .int x, v2] st h Q = wp 133 44 [v0, .int x, v2] (.int x :: st) h Q := wp_stp (ri := (.iload_n 1, 1, 0, 0, 0, 0)) (by decide +kernel) rfl rfl rfl
theorem i133_44 {v0 v1 v2 : Value} {x : Int32} {h : ab_Hp} {Q : ab_O → ab_Hp → Prop} : wp 133 44 [v0, v1, v2] [.int x] h Q = Q (.inl (some (.int x))) h := wp_iret (by decide +kernel : ab_cod 133 44 = some (.ireturn, 1, 0, 0, 0, 0)) rfl
/-! 134: SeamBeatsModel.counted(I)I -/
set_option maxRecDepth 100000 in
theorem i134_0 {v0 : Value} {x : Int32} {st : List Value} {h : ab_Hp} {Q : ab_O → ab_Hp → Prop} : wp 134 0 [v0, .int x] st h Q = wp 134 1 [v0, .int x] (.int x :: st) h Q := wp_stp (ri := (.iload_n 1, 1, 0, 0, 0, 0)) (by decide +kernel) rfl rfl rfl
set_option maxRecDepth 100000 in
theorem i134_1 {v0 v1 : Value} {x : Int32} {st : List Value} {h : ab_Hp} {Q : ab_O → ab_Hp → Prop} : wp 134 1 [v0, v1] (.int x :: st) h Q = if x = nI 0 then wp 134 60 [v0, v1] st h Q else if x = nI 1 then wp 134 67 [v0, v1] st h Q else if x = nI 2 then wp 134 74 [v0, v1] st h Q else if x = nI 3 then wp 134 81 [v0, v1] st h Q else if x = nI 4 then wp 134 87 [v0, v1] st h Q else if x = nI 5 then wp 134 92 [v0, v1] st h Q else if x = nI 6 then wp 134 99 [v0, v1] st h Q else if x = nI 7 then wp 134 106 [v0, v1] st h Q else if x = nI 8 then wp 134 113 [v0, v1] st h Q else if x = nI 9 then wp 134 120 [v0, v1] st h Q else if x = nI 10 then wp 134 127 [v0, v1] st h Q else wp 134 132 [v0, v1] st h Q := by
  rw [wp_swt (by decide +kernel : ab_cod 134 1 = some (.tableswitch 131 0 10 #[59, 66, 73, 80, 86, 91, 98, 105, 112, 119, 126], 59, 0, 0, 0, 0)) (by decide)]
  show wp 134 (if x = nI 0 then 60 else if x = nI 1 then 67 else if x = nI 2 then 74 else if x = nI 3 then 81 else if x = nI 4 then 87 else if x = nI 5 then 92 else if x = nI 6 then 99 else if x = nI 7 then 106 else if x = nI 8 then 113 else if x = nI 9 then 120 else if x = nI 10 then 127 else 132) _ _ _ _ = _
  simp only [wp_ite]
set_option maxRecDepth 100000 in
theorem i134_60 {v0 v1 : Value} {st : List Value} {h : ab_Hp} {Q : ab_O → ab_Hp → Prop} (hv : ab_isA v0 = true) : wp 134 60 [v0, v1] st h Q = wp 134 61 [v0, v1] (v0 :: st) h Q := wp_aload_n (by decide +kernel : ab_cod 134 60 = some (.aload_n 0, 1, 0, 0, 0, 0)) hv
set_option maxRecDepth 100000 in
theorem i134_61 {v0 v1 : Value} {r : Nat} {st : List Value} {h : ab_Hp} {Q : ab_O → ab_Hp → Prop} (hk : (ab_sh h r).1 = 17) : wp 134 61 [v0, v1] (.ref r :: st) h Q = wp 134 64 [v0, v1] (va_rf (ab_hr h r 1) :: st) h Q := wp_gf (by decide +kernel : ab_cod 134 61 = some (.getfield 7, 3, 7, 1, 773, 1)) hk
set_option maxRecDepth 100000 in
theorem i134_64 {v0 v1 : Value} {st : List Value} {h : ab_Hp} {Q : ab_O → ab_Hp → Prop} : wp 134 64 [v0, v1] st h Q = wp 134 65 [v0, v1] (.int (nI 0) :: st) h Q := wp_stp (ri := (.iconst 0, 1, 0, 0, 0, 0)) (by decide +kernel) rfl rfl rfl
set_option maxRecDepth 100000 in
theorem i134_65 {v0 v1 : Value} {r : Nat} {x : Int32} {st : List Value} {h : ab_Hp} {Q : ab_O → ab_Hp → Prop} (hk : ((ab_sh h r).1 = 1 ∨ (ab_sh h r).1 = 6) ∧ ab_in x (ab_sh h r).2 = true) : wp 134 65 [v0, v1] (.int x :: .ref r :: st) h Q = wp 134 66 [v0, v1] (.int (ab_hi h r x.toNatClampNeg) :: st) h Q := wp_ia (by decide +kernel : ab_cod 134 65 = some (.iaload, 1, 0, 0, 0, 0)) hk
set_option maxRecDepth 100000 in
theorem i134_66 {v0 v1 : Value} {x : Int32} {h : ab_Hp} {Q : ab_O → ab_Hp → Prop} : wp 134 66 [v0, v1] [.int x] h Q = Q (.inl (some (.int x))) h := wp_iret (by decide +kernel : ab_cod 134 66 = some (.ireturn, 1, 0, 0, 0, 0)) rfl
set_option maxRecDepth 100000 in
theorem i134_67 {v0 v1 : Value} {st : List Value} {h : ab_Hp} {Q : ab_O → ab_Hp → Prop} (hv : ab_isA v0 = true) : wp 134 67 [v0, v1] st h Q = wp 134 68 [v0, v1] (v0 :: st) h Q := wp_aload_n (by decide +kernel : ab_cod 134 67 = some (.aload_n 0, 1, 0, 0, 0, 0)) hv
set_option maxRecDepth 100000 in
theorem i134_68 {v0 v1 : Value} {r : Nat} {st : List Value} {h : ab_Hp} {Q : ab_O → ab_Hp → Prop} (hk : (ab_sh h r).1 = 17) : wp 134 68 [v0, v1] (.ref r :: st) h Q = wp 134 71 [v0, v1] (va_rf (ab_hr h r 1) :: st) h Q := wp_gf (by decide +kernel : ab_cod 134 68 = some (.getfield 7, 3, 7, 1, 773, 1)) hk
set_option maxRecDepth 100000 in
theorem i134_71 {v0 v1 : Value} {st : List Value} {h : ab_Hp} {Q : ab_O → ab_Hp → Prop} : wp 134 71 [v0, v1] st h Q = wp 134 72 [v0, v1] (.int (nI 5) :: st) h Q := wp_stp (ri := (.iconst 5, 1, 0, 0, 0, 0)) (by decide +kernel) rfl rfl rfl
set_option maxRecDepth 100000 in
theorem i134_72 {v0 v1 : Value} {r : Nat} {x : Int32} {st : List Value} {h : ab_Hp} {Q : ab_O → ab_Hp → Prop} (hk : ((ab_sh h r).1 = 1 ∨ (ab_sh h r).1 = 6) ∧ ab_in x (ab_sh h r).2 = true) : wp 134 72 [v0, v1] (.int x :: .ref r :: st) h Q = wp 134 73 [v0, v1] (.int (ab_hi h r x.toNatClampNeg) :: st) h Q := wp_ia (by decide +kernel : ab_cod 134 72 = some (.iaload, 1, 0, 0, 0, 0)) hk
set_option maxRecDepth 100000 in
theorem i134_73 {v0 v1 : Value} {x : Int32} {h : ab_Hp} {Q : ab_O → ab_Hp → Prop} : wp 134 73 [v0, v1] [.int x] h Q = Q (.inl (some (.int x))) h := wp_iret (by decide +kernel : ab_cod 134 73 = some (.ireturn, 1, 0, 0, 0, 0)) rfl
set_option maxRecDepth 100000 in
theorem i134_74 {v0 v1 : Value} {st : List Value} {h : ab_Hp} {Q : ab_O → ab_Hp → Prop} (hv : ab_isA v0 = true) : wp 134 74 [v0, v1] st h Q = wp 134 75 [v0, v1] (v0 :: st) h Q := wp_aload_n (by decide +kernel : ab_cod 134 74 = some (.aload_n 0, 1, 0, 0, 0, 0)) hv
set_option maxRecDepth 100000 in
theorem i134_75 {v0 v1 : Value} {r : Nat} {st : List Value} {h : ab_Hp} {Q : ab_O → ab_Hp → Prop} (hk : (ab_sh h r).1 = 17) : wp 134 75 [v0, v1] (.ref r :: st) h Q = wp 134 78 [v0, v1] (va_rf (ab_hr h r 1) :: st) h Q := wp_gf (by decide +kernel : ab_cod 134 75 = some (.getfield 7, 3, 7, 1, 773, 1)) hk
set_option maxRecDepth 100000 in
theorem i134_78 {v0 v1 : Value} {st : List Value} {h : ab_Hp} {Q : ab_O → ab_Hp → Prop} : wp 134 78 [v0, v1] st h Q = wp 134 79 [v0, v1] (.int (nI 1) :: st) h Q := wp_stp (ri := (.iconst 1, 1, 0, 0, 0, 0)) (by decide +kernel) rfl rfl rfl
set_option maxRecDepth 100000 in
theorem i134_79 {v0 v1 : Value} {r : Nat} {x : Int32} {st : List Value} {h : ab_Hp} {Q : ab_O → ab_Hp → Prop} (hk : ((ab_sh h r).1 = 1 ∨ (ab_sh h r).1 = 6) ∧ ab_in x (ab_sh h r).2 = true) : wp 134 79 [v0, v1] (.int x :: .ref r :: st) h Q = wp 134 80 [v0, v1] (.int (ab_hi h r x.toNatClampNeg) :: st) h Q := wp_ia (by decide +kernel : ab_cod 134 79 = some (.iaload, 1, 0, 0, 0, 0)) hk
set_option maxRecDepth 100000 in
theorem i134_80 {v0 v1 : Value} {x : Int32} {h : ab_Hp} {Q : ab_O → ab_Hp → Prop} : wp 134 80 [v0, v1] [.int x] h Q = Q (.inl (some (.int x))) h := wp_iret (by decide +kernel : ab_cod 134 80 = some (.ireturn, 1, 0, 0, 0, 0)) rfl
set_option maxRecDepth 100000 in
theorem i134_81 {v0 v1 : Value} {st : List Value} {h : ab_Hp} {Q : ab_O → ab_Hp → Prop} (hv : ab_isA v0 = true) : wp 134 81 [v0, v1] st h Q = wp 134 82 [v0, v1] (v0 :: st) h Q := wp_aload_n (by decide +kernel : ab_cod 134 81 = some (.aload_n 0, 1, 0, 0, 0, 0)) hv
set_option maxRecDepth 100000 in
theorem i134_82 {v0 v1 : Value} {st : List Value} {h : ab_Hp} {Q : ab_O → ab_Hp → Prop} : wp 134 82 [v0, v1] st h Q = wp 134 83 [v0, v1] (.int (nI 4) :: st) h Q := wp_stp (ri := (.iconst 4, 1, 0, 0, 0, 0)) (by decide +kernel) rfl rfl rfl
set_option maxRecDepth 100000 in
theorem i134_83 {v0 v1 : Value} {r : Nat} {a0 : Int32} {st : List Value} {h : ab_Hp} {Q : ab_O → ab_Hp → Prop} (hl : st.length ≤ 4) (hk : (ab_sh h r).1 = 17) : wp 134 83 [v0, v1] (.int a0 :: .ref r :: st) h Q = wp 131 0 [.ref r, .int a0, ab_nov, ab_nov] [] h (ab_K 134 83 [v0, v1] st Q) := wp_callV (as := [.int a0]) (by decide +kernel : ab_cod 134 83 = some (.invokevirtual 130, 3, 131, 2, 0, 980)) rfl rfl rfl rfl hl hk
set_option maxRecDepth 100000 in
theorem i134_86 {v0 v1 : Value} {x : Int32} {h : ab_Hp} {Q : ab_O → ab_Hp → Prop} : wp 134 86 [v0, v1] [.int x] h Q = Q (.inl (some (.int x))) h := wp_iret (by decide +kernel : ab_cod 134 86 = some (.ireturn, 1, 0, 0, 0, 0)) rfl
set_option maxRecDepth 100000 in
theorem i134_87 {v0 v1 : Value} {st : List Value} {h : ab_Hp} {Q : ab_O → ab_Hp → Prop} (hv : ab_isA v0 = true) : wp 134 87 [v0, v1] st h Q = wp 134 88 [v0, v1] (v0 :: st) h Q := wp_aload_n (by decide +kernel : ab_cod 134 87 = some (.aload_n 0, 1, 0, 0, 0, 0)) hv
set_option maxRecDepth 100000 in
theorem i134_88 {v0 v1 : Value} {r : Nat} {st : List Value} {h : ab_Hp} {Q : ab_O → ab_Hp → Prop} (hl : st.length ≤ 4) (hk : (ab_sh h r).1 = 17) : wp 134 88 [v0, v1] (.ref r :: st) h Q = wp 132 0 [.ref r, ab_nov, ab_nov] [] h (ab_K 134 88 [v0, v1] st Q) := wp_callV (as := []) (by decide +kernel : ab_cod 134 88 = some (.invokevirtual 133, 3, 132, 1, 0, 984)) rfl rfl rfl rfl hl hk
set_option maxRecDepth 100000 in
theorem i134_91 {v0 v1 : Value} {x : Int32} {h : ab_Hp} {Q : ab_O → ab_Hp → Prop} : wp 134 91 [v0, v1] [.int x] h Q = Q (.inl (some (.int x))) h := wp_iret (by decide +kernel : ab_cod 134 91 = some (.ireturn, 1, 0, 0, 0, 0)) rfl
set_option maxRecDepth 100000 in
theorem i134_92 {v0 v1 : Value} {st : List Value} {h : ab_Hp} {Q : ab_O → ab_Hp → Prop} (hv : ab_isA v0 = true) : wp 134 92 [v0, v1] st h Q = wp 134 93 [v0, v1] (v0 :: st) h Q := wp_aload_n (by decide +kernel : ab_cod 134 92 = some (.aload_n 0, 1, 0, 0, 0, 0)) hv
set_option maxRecDepth 100000 in
theorem i134_93 {v0 v1 : Value} {r : Nat} {st : List Value} {h : ab_Hp} {Q : ab_O → ab_Hp → Prop} (hk : (ab_sh h r).1 = 17) : wp 134 93 [v0, v1] (.ref r :: st) h Q = wp 134 96 [v0, v1] (va_rf (ab_hr h r 1) :: st) h Q := wp_gf (by decide +kernel : ab_cod 134 93 = some (.getfield 7, 3, 7, 1, 773, 1)) hk
set_option maxRecDepth 100000 in
theorem i134_96 {v0 v1 : Value} {st : List Value} {h : ab_Hp} {Q : ab_O → ab_Hp → Prop} : wp 134 96 [v0, v1] st h Q = wp 134 97 [v0, v1] (.int (nI 2) :: st) h Q := wp_stp (ri := (.iconst 2, 1, 0, 0, 0, 0)) (by decide +kernel) rfl rfl rfl
set_option maxRecDepth 100000 in
theorem i134_97 {v0 v1 : Value} {r : Nat} {x : Int32} {st : List Value} {h : ab_Hp} {Q : ab_O → ab_Hp → Prop} (hk : ((ab_sh h r).1 = 1 ∨ (ab_sh h r).1 = 6) ∧ ab_in x (ab_sh h r).2 = true) : wp 134 97 [v0, v1] (.int x :: .ref r :: st) h Q = wp 134 98 [v0, v1] (.int (ab_hi h r x.toNatClampNeg) :: st) h Q := wp_ia (by decide +kernel : ab_cod 134 97 = some (.iaload, 1, 0, 0, 0, 0)) hk
set_option maxRecDepth 100000 in
theorem i134_98 {v0 v1 : Value} {x : Int32} {h : ab_Hp} {Q : ab_O → ab_Hp → Prop} : wp 134 98 [v0, v1] [.int x] h Q = Q (.inl (some (.int x))) h := wp_iret (by decide +kernel : ab_cod 134 98 = some (.ireturn, 1, 0, 0, 0, 0)) rfl
set_option maxRecDepth 100000 in
theorem i134_99 {v0 v1 : Value} {st : List Value} {h : ab_Hp} {Q : ab_O → ab_Hp → Prop} (hv : ab_isA v0 = true) : wp 134 99 [v0, v1] st h Q = wp 134 100 [v0, v1] (v0 :: st) h Q := wp_aload_n (by decide +kernel : ab_cod 134 99 = some (.aload_n 0, 1, 0, 0, 0, 0)) hv
set_option maxRecDepth 100000 in
theorem i134_100 {v0 v1 : Value} {r : Nat} {st : List Value} {h : ab_Hp} {Q : ab_O → ab_Hp → Prop} (hk : (ab_sh h r).1 = 17) : wp 134 100 [v0, v1] (.ref r :: st) h Q = wp 134 103 [v0, v1] (va_rf (ab_hr h r 1) :: st) h Q := wp_gf (by decide +kernel : ab_cod 134 100 = some (.getfield 7, 3, 7, 1, 773, 1)) hk
set_option maxRecDepth 100000 in
theorem i134_103 {v0 v1 : Value} {st : List Value} {h : ab_Hp} {Q : ab_O → ab_Hp → Prop} : wp 134 103 [v0, v1] st h Q = wp 134 104 [v0, v1] (.int (nI 3) :: st) h Q := wp_stp (ri := (.iconst 3, 1, 0, 0, 0, 0)) (by decide +kernel) rfl rfl rfl
set_option maxRecDepth 100000 in
theorem i134_104 {v0 v1 : Value} {r : Nat} {x : Int32} {st : List Value} {h : ab_Hp} {Q : ab_O → ab_Hp → Prop} (hk : ((ab_sh h r).1 = 1 ∨ (ab_sh h r).1 = 6) ∧ ab_in x (ab_sh h r).2 = true) : wp 134 104 [v0, v1] (.int x :: .ref r :: st) h Q = wp 134 105 [v0, v1] (.int (ab_hi h r x.toNatClampNeg) :: st) h Q := wp_ia (by decide +kernel : ab_cod 134 104 = some (.iaload, 1, 0, 0, 0, 0)) hk
set_option maxRecDepth 100000 in
theorem i134_105 {v0 v1 : Value} {x : Int32} {h : ab_Hp} {Q : ab_O → ab_Hp → Prop} : wp 134 105 [v0, v1] [.int x] h Q = Q (.inl (some (.int x))) h := wp_iret (by decide +kernel : ab_cod 134 105 = some (.ireturn, 1, 0, 0, 0, 0)) rfl
set_option maxRecDepth 100000 in
theorem i134_106 {v0 v1 : Value} {st : List Value} {h : ab_Hp} {Q : ab_O → ab_Hp → Prop} (hv : ab_isA v0 = true) : wp 134 106 [v0, v1] st h Q = wp 134 107 [v0, v1] (v0 :: st) h Q := wp_aload_n (by decide +kernel : ab_cod 134 106 = some (.aload_n 0, 1, 0, 0, 0, 0)) hv
set_option maxRecDepth 100000 in
theorem i134_107 {v0 v1 : Value} {r : Nat} {st : List Value} {h : ab_Hp} {Q : ab_O → ab_Hp → Prop} (hk : (ab_sh h r).1 = 17) : wp 134 107 [v0, v1] (.ref r :: st) h Q = wp 134 110 [v0, v1] (va_rf (ab_hr h r 1) :: st) h Q := wp_gf (by decide +kernel : ab_cod 134 107 = some (.getfield 7, 3, 7, 1, 773, 1)) hk
set_option maxRecDepth 100000 in
theorem i134_110 {v0 v1 : Value} {st : List Value} {h : ab_Hp} {Q : ab_O → ab_Hp → Prop} : wp 134 110 [v0, v1] st h Q = wp 134 111 [v0, v1] (.int (nI 4) :: st) h Q := wp_stp (ri := (.iconst 4, 1, 0, 0, 0, 0)) (by decide +kernel) rfl rfl rfl
set_option maxRecDepth 100000 in
theorem i134_111 {v0 v1 : Value} {r : Nat} {x : Int32} {st : List Value} {h : ab_Hp} {Q : ab_O → ab_Hp → Prop} (hk : ((ab_sh h r).1 = 1 ∨ (ab_sh h r).1 = 6) ∧ ab_in x (ab_sh h r).2 = true) : wp 134 111 [v0, v1] (.int x :: .ref r :: st) h Q = wp 134 112 [v0, v1] (.int (ab_hi h r x.toNatClampNeg) :: st) h Q := wp_ia (by decide +kernel : ab_cod 134 111 = some (.iaload, 1, 0, 0, 0, 0)) hk
set_option maxRecDepth 100000 in
theorem i134_112 {v0 v1 : Value} {x : Int32} {h : ab_Hp} {Q : ab_O → ab_Hp → Prop} : wp 134 112 [v0, v1] [.int x] h Q = Q (.inl (some (.int x))) h := wp_iret (by decide +kernel : ab_cod 134 112 = some (.ireturn, 1, 0, 0, 0, 0)) rfl
set_option maxRecDepth 100000 in
theorem i134_113 {v0 v1 : Value} {st : List Value} {h : ab_Hp} {Q : ab_O → ab_Hp → Prop} (hv : ab_isA v0 = true) : wp 134 113 [v0, v1] st h Q = wp 134 114 [v0, v1] (v0 :: st) h Q := wp_aload_n (by decide +kernel : ab_cod 134 113 = some (.aload_n 0, 1, 0, 0, 0, 0)) hv
set_option maxRecDepth 100000 in
theorem i134_114 {v0 v1 : Value} {st : List Value} {h : ab_Hp} {Q : ab_O → ab_Hp → Prop} : wp 134 114 [v0, v1] st h Q = wp 134 116 [v0, v1] (.int (nI 6) :: st) h Q := wp_stp (ri := (.bipush 6, 2, 0, 0, 0, 0)) (by decide +kernel) rfl rfl rfl
set_option maxRecDepth 100000 in
theorem i134_116 {v0 v1 : Value} {r : Nat} {a0 : Int32} {st : List Value} {h : ab_Hp} {Q : ab_O → ab_Hp → Prop} (hl : st.length ≤ 4) (hk : (ab_sh h r).1 = 17) : wp 134 116 [v0, v1] (.int a0 :: .ref r :: st) h Q = wp 131 0 [.ref r, .int a0, ab_nov, ab_nov] [] h (ab_K 134 116 [v0, v1] st Q) := wp_callV (as := [.int a0]) (by decide +kernel : ab_cod 134 116 = some (.invokevirtual 130, 3, 131, 2, 0, 980)) rfl rfl rfl rfl hl hk
set_option maxRecDepth 100000 in
theorem i134_119 {v0 v1 : Value} {x : Int32} {h : ab_Hp} {Q : ab_O → ab_Hp → Prop} : wp 134 119 [v0, v1] [.int x] h Q = Q (.inl (some (.int x))) h := wp_iret (by decide +kernel : ab_cod 134 119 = some (.ireturn, 1, 0, 0, 0, 0)) rfl
set_option maxRecDepth 100000 in
theorem i134_120 {v0 v1 : Value} {st : List Value} {h : ab_Hp} {Q : ab_O → ab_Hp → Prop} (hv : ab_isA v0 = true) : wp 134 120 [v0, v1] st h Q = wp 134 121 [v0, v1] (v0 :: st) h Q := wp_aload_n (by decide +kernel : ab_cod 134 120 = some (.aload_n 0, 1, 0, 0, 0, 0)) hv
set_option maxRecDepth 100000 in
theorem i134_121 {v0 v1 : Value} {st : List Value} {h : ab_Hp} {Q : ab_O → ab_Hp → Prop} : wp 134 121 [v0, v1] st h Q = wp 134 123 [v0, v1] (.int (nI 7) :: st) h Q := wp_stp (ri := (.bipush 7, 2, 0, 0, 0, 0)) (by decide +kernel) rfl rfl rfl
set_option maxRecDepth 100000 in
theorem i134_123 {v0 v1 : Value} {r : Nat} {a0 : Int32} {st : List Value} {h : ab_Hp} {Q : ab_O → ab_Hp → Prop} (hl : st.length ≤ 4) (hk : (ab_sh h r).1 = 17) : wp 134 123 [v0, v1] (.int a0 :: .ref r :: st) h Q = wp 131 0 [.ref r, .int a0, ab_nov, ab_nov] [] h (ab_K 134 123 [v0, v1] st Q) := wp_callV (as := [.int a0]) (by decide +kernel : ab_cod 134 123 = some (.invokevirtual 130, 3, 131, 2, 0, 980)) rfl rfl rfl rfl hl hk
set_option maxRecDepth 100000 in
theorem i134_126 {v0 v1 : Value} {x : Int32} {h : ab_Hp} {Q : ab_O → ab_Hp → Prop} : wp 134 126 [v0, v1] [.int x] h Q = Q (.inl (some (.int x))) h := wp_iret (by decide +kernel : ab_cod 134 126 = some (.ireturn, 1, 0, 0, 0, 0)) rfl
set_option maxRecDepth 100000 in
theorem i134_127 {v0 v1 : Value} {st : List Value} {h : ab_Hp} {Q : ab_O → ab_Hp → Prop} (hv : ab_isA v0 = true) : wp 134 127 [v0, v1] st h Q = wp 134 128 [v0, v1] (v0 :: st) h Q := wp_aload_n (by decide +kernel : ab_cod 134 127 = some (.aload_n 0, 1, 0, 0, 0, 0)) hv
set_option maxRecDepth 100000 in
theorem i134_128 {v0 v1 : Value} {r : Nat} {st : List Value} {h : ab_Hp} {Q : ab_O → ab_Hp → Prop} (hl : st.length ≤ 4) (hk : (ab_sh h r).1 = 17) : wp 134 128 [v0, v1] (.ref r :: st) h Q = wp 133 0 [.ref r, ab_nov, ab_nov] [] h (ab_K 134 128 [v0, v1] st Q) := wp_callV (as := []) (by decide +kernel : ab_cod 134 128 = some (.invokevirtual 136, 3, 133, 1, 0, 988)) rfl rfl rfl rfl hl hk
set_option maxRecDepth 100000 in
theorem i134_131 {v0 v1 : Value} {x : Int32} {h : ab_Hp} {Q : ab_O → ab_Hp → Prop} : wp 134 131 [v0, v1] [.int x] h Q = Q (.inl (some (.int x))) h := wp_iret (by decide +kernel : ab_cod 134 131 = some (.ireturn, 1, 0, 0, 0, 0)) rfl
set_option maxRecDepth 100000 in
theorem i134_132 {v0 v1 : Value} {st : List Value} {h : ab_Hp} {Q : ab_O → ab_Hp → Prop} (hv : ab_isA v0 = true) : wp 134 132 [v0, v1] st h Q = wp 134 133 [v0, v1] (v0 :: st) h Q := wp_aload_n (by decide +kernel : ab_cod 134 132 = some (.aload_n 0, 1, 0, 0, 0, 0)) hv
set_option maxRecDepth 100000 in
theorem i134_133 {v0 v1 : Value} {r : Nat} {st : List Value} {h : ab_Hp} {Q : ab_O → ab_Hp → Prop} (hk : (ab_sh h r).1 = 17) : wp 134 133 [v0, v1] (.ref r :: st) h Q = wp 134 136 [v0, v1] (.int (ab_hi h r 3) :: st) h Q := wp_gf (by decide +kernel : ab_cod 134 133 = some (.getfield 37, 3, 7, 3, 775, 0)) hk
set_option maxRecDepth 100000 in
theorem i134_136 {v0 v1 : Value} {x : Int32} {h : ab_Hp} {Q : ab_O → ab_Hp → Prop} : wp 134 136 [v0, v1] [.int x] h Q = Q (.inl (some (.int x))) h := wp_iret (by decide +kernel : ab_cod 134 136 = some (.ireturn, 1, 0, 0, 0, 0)) rfl
/-! 135: SeamBeatsModel.count(I)I -/
theorem i135_0 {v0 v1 : Value} {st : List Value} {h : ab_Hp} {Q : ab_O → ab_Hp → Prop} (hv : ab_isA v0 = true) : wp 135 0 [v0, v1] st h Q = wp 135 1 [v0, v1] (v0 :: st) h Q := wp_aload_n (by decide +kernel : ab_cod 135 0 = some (.aload_n 0, 1, 0, 0, 0, 0)) hv
theorem i135_1 {v0 : Value} {x : Int32} {st : List Value} {h : ab_Hp} {Q : ab_O → ab_Hp → Prop} : wp 135 1 [v0, .int x] st h Q = wp 135 2 [v0, .int x] (.int x :: st) h Q := wp_stp (ri := (.iload_n 1, 1, 0, 0, 0, 0)) (by decide +kernel) rfl rfl rfl
theorem i135_2 {v0 v1 : Value} {st : List Value} {h : ab_Hp} {Q : ab_O → ab_Hp → Prop} : wp 135 2 [v0, v1] st h Q = wp 135 3 [v0, v1] (.int (nI 0) :: st) h Q := wp_stp (ri := (.iconst 0, 1, 0, 0, 0, 0)) (by decide +kernel) rfl rfl rfl
theorem i135_3 {v0 v1 : Value} {st : List Value} {h : ab_Hp} {Q : ab_O → ab_Hp → Prop} : wp 135 3 [v0, v1] st h Q = wp 135 5 [v0, v1] (.int (nI 11) :: st) h Q := wp_stp (ri := (.bipush 11, 2, 0, 0, 0, 0)) (by decide +kernel) rfl rfl rfl
theorem i135_5 {v0 v1 : Value} {a0 : Int32} {a1 : Int32} {a2 : Int32} {st : List Value} {h : ab_Hp} {Q : ab_O → ab_Hp → Prop} (hl : st.length ≤ 4) : wp 135 5 [v0, v1] (.int a2 :: .int a1 :: .int a0 :: st) h Q = wp 87 0 [.int a0, .int a1, .int a2] [] h (ab_K 135 5 [v0, v1] st Q) := wp_callS (as := [.int a0, .int a1, .int a2]) (by decide +kernel : ab_cod 135 5 = some (.invokestatic 33, 3, 87, 3, 1, 821)) rfl rfl rfl rfl hl
theorem i135_8 {v0 v1 : Value} {x : Int32} {st : List Value} {h : ab_Hp} {Q : ab_O → ab_Hp → Prop} : wp 135 8 [v0, v1] (.int x :: st) h Q = if x = 0 then wp 135 15 [v0, v1] st h Q else wp 135 11 [v0, v1] st h Q := wp_ifcP (by decide +kernel : ab_cod 135 8 = some (.ifCond .eq 7, 3, 15, 0, 0, 0)) rfl
theorem i135_11 {v0 v1 : Value} {st : List Value} {h : ab_Hp} {Q : ab_O → ab_Hp → Prop} : wp 135 11 [v0, v1] st h Q = wp 135 12 [v0, v1] (.int (nI 0) :: st) h Q := wp_stp (ri := (.iconst 0, 1, 0, 0, 0, 0)) (by decide +kernel) rfl rfl rfl
theorem i135_12 {v0 v1 : Value} {st : List Value} {h : ab_Hp} {Q : ab_O → ab_Hp → Prop} : wp 135 12 [v0, v1] st h Q = wp 135 16 [v0, v1] st h Q := wp_stp (ri := (.goto 4, 3, 16, 0, 0, 0)) (by decide +kernel) rfl rfl rfl
theorem i135_15 {v0 v1 : Value} {st : List Value} {h : ab_Hp} {Q : ab_O → ab_Hp → Prop} : wp 135 15 [v0, v1] st h Q = wp 135 16 [v0, v1] (.int (nI 1) :: st) h Q := wp_stp (ri := (.iconst 1, 1, 0, 0, 0, 0)) (by decide +kernel) rfl rfl rfl
theorem i135_16 {v0 v1 : Value} {r : Nat} {x : Int32} {st : List Value} {h : ab_Hp} {Q : ab_O → ab_Hp → Prop} (hk : (ab_sh h r).1 = 17) : wp 135 16 [v0, v1] (.int x :: .ref r :: st) h Q = wp 135 19 [v0, v1] st (ab_setI h (ab_u (ab_hi h) r 0 x)) Q := wp_pf (by decide +kernel : ab_cod 135 16 = some (.putfield 29, 3, 7, 0, 772, 0)) hk rfl
theorem i135_19 {v0 v1 : Value} {st : List Value} {h : ab_Hp} {Q : ab_O → ab_Hp → Prop} (hv : ab_isA v0 = true) : wp 135 19 [v0, v1] st h Q = wp 135 20 [v0, v1] (v0 :: st) h Q := wp_aload_n (by decide +kernel : ab_cod 135 19 = some (.aload_n 0, 1, 0, 0, 0, 0)) hv
theorem i135_20 {v0 v1 : Value} {r : Nat} {st : List Value} {h : ab_Hp} {Q : ab_O → ab_Hp → Prop} (hk : (ab_sh h r).1 = 17) : wp 135 20 [v0, v1] (.ref r :: st) h Q = wp 135 23 [v0, v1] (.int (ab_hi h r 0) :: st) h Q := wp_gf (by decide +kernel : ab_cod 135 20 = some (.getfield 29, 3, 7, 0, 772, 0)) hk
theorem i135_23 {v0 v1 : Value} {x : Int32} {st : List Value} {h : ab_Hp} {Q : ab_O → ab_Hp → Prop} : wp 135 23 [v0, v1] (.int x :: st) h Q = if x ≤ 0 then wp 135 30 [v0, v1] st h Q else wp 135 26 [v0, v1] st h Q := wp_ifcP (by decide +kernel : ab_cod 135 23 = some (.ifCond .le 7, 3, 30, 0, 0, 0)) rfl
theorem i135_26 {v0 v1 : Value} {st : List Value} {h : ab_Hp} {Q : ab_O → ab_Hp → Prop} : wp 135 26 [v0, v1] st h Q = wp 135 27 [v0, v1] (.int (nI 0) :: st) h Q := wp_stp (ri := (.iconst 0, 1, 0, 0, 0, 0)) (by decide +kernel) rfl rfl rfl
theorem i135_27 {v0 v1 : Value} {st : List Value} {h : ab_Hp} {Q : ab_O → ab_Hp → Prop} : wp 135 27 [v0, v1] st h Q = wp 135 35 [v0, v1] st h Q := wp_stp (ri := (.goto 8, 3, 35, 0, 0, 0)) (by decide +kernel) rfl rfl rfl
theorem i135_30 {v0 v1 : Value} {st : List Value} {h : ab_Hp} {Q : ab_O → ab_Hp → Prop} (hv : ab_isA v0 = true) : wp 135 30 [v0, v1] st h Q = wp 135 31 [v0, v1] (v0 :: st) h Q := wp_aload_n (by decide +kernel : ab_cod 135 30 = some (.aload_n 0, 1, 0, 0, 0, 0)) hv
theorem i135_31 {v0 : Value} {x : Int32} {st : List Value} {h : ab_Hp} {Q : ab_O → ab_Hp → Prop} : wp 135 31 [v0, .int x] st h Q = wp 135 32 [v0, .int x] (.int x :: st) h Q := wp_stp (ri := (.iload_n 1, 1, 0, 0, 0, 0)) (by decide +kernel) rfl rfl rfl
theorem i135_32 {v0 v1 : Value} {r : Nat} {a0 : Int32} {st : List Value} {h : ab_Hp} {Q : ab_O → ab_Hp → Prop} (hl : st.length ≤ 4) (hk : (ab_sh h r).1 = 17) : wp 135 32 [v0, v1] (.int a0 :: .ref r :: st) h Q = wp 134 0 [.ref r, .int a0] [] h (ab_K 135 32 [v0, v1] st Q) := wp_callV (as := [.int a0]) (by decide +kernel : ab_cod 135 32 = some (.invokevirtual 139, 3, 134, 2, 0, 976)) rfl rfl rfl rfl hl hk
theorem i135_35 {v0 v1 : Value} {x : Int32} {h : ab_Hp} {Q : ab_O → ab_Hp → Prop} : wp 135 35 [v0, v1] [.int x] h Q = Q (.inl (some (.int x))) h := wp_iret (by decide +kernel : ab_cod 135 35 = some (.ireturn, 1, 0, 0, 0, 0)) rfl
/-! 136: SeamBeatsModel.wouldBe(II)I -/
set_option maxRecDepth 100000 in
theorem i136_0 {v0 v1 v2 v3 v4 v5 v6 : Value} {st : List Value} {h : ab_Hp} {Q : ab_O → ab_Hp → Prop} (hv : ab_isA v0 = true) : wp 136 0 [v0, v1, v2, v3, v4, v5, v6] st h Q = wp 136 1 [v0, v1, v2, v3, v4, v5, v6] (v0 :: st) h Q := wp_aload_n (by decide +kernel : ab_cod 136 0 = some (.aload_n 0, 1, 0, 0, 0, 0)) hv
set_option maxRecDepth 100000 in
theorem i136_1 {v0 v1 v2 v3 v4 v5 v6 : Value} {r : Nat} {st : List Value} {h : ab_Hp} {Q : ab_O → ab_Hp → Prop} (hl : st.length ≤ 4) (hk : (ab_sh h r).1 = 17) : wp 136 1 [v0, v1, v2, v3, v4, v5, v6] (.ref r :: st) h Q = wp 96 0 [.ref r, ab_nov] [] h (ab_K 136 1 [v0, v1, v2, v3, v4, v5, v6] st Q) := wp_callV (as := []) (by decide +kernel : ab_cod 136 1 = some (.invokevirtual 142, 3, 96, 1, 0, 1000)) rfl rfl rfl rfl hl hk
set_option maxRecDepth 100000 in
theorem i136_4 {v0 v1 v2 v3 v4 v5 v6 : Value} {st : List Value} {h : ab_Hp} {Q : ab_O → ab_Hp → Prop} (hv : ab_isA v0 = true) : wp 136 4 [v0, v1, v2, v3, v4, v5, v6] st h Q = wp 136 5 [v0, v1, v2, v3, v4, v5, v6] (v0 :: st) h Q := wp_aload_n (by decide +kernel : ab_cod 136 4 = some (.aload_n 0, 1, 0, 0, 0, 0)) hv
set_option maxRecDepth 100000 in
theorem i136_5 {v0 v1 v2 v3 v4 v5 v6 : Value} {r : Nat} {st : List Value} {h : ab_Hp} {Q : ab_O → ab_Hp → Prop} (hk : (ab_sh h r).1 = 17) : wp 136 5 [v0, v1, v2, v3, v4, v5, v6] (.ref r :: st) h Q = wp 136 8 [v0, v1, v2, v3, v4, v5, v6] (va_rf (ab_hr h r 1) :: st) h Q := wp_gf (by decide +kernel : ab_cod 136 5 = some (.getfield 7, 3, 7, 1, 773, 1)) hk
set_option maxRecDepth 100000 in
theorem i136_8 {v0 v1 v2 v3 v4 v5 v6 : Value} {st : List Value} {h : ab_Hp} {Q : ab_O → ab_Hp → Prop} : wp 136 8 [v0, v1, v2, v3, v4, v5, v6] st h Q = wp 136 9 [v0, v1, v2, v3, v4, v5, v6] (.int (nI 2) :: st) h Q := wp_stp (ri := (.iconst 2, 1, 0, 0, 0, 0)) (by decide +kernel) rfl rfl rfl
set_option maxRecDepth 100000 in
theorem i136_9 {v0 v1 v2 v3 v4 v5 v6 : Value} {r : Nat} {x : Int32} {st : List Value} {h : ab_Hp} {Q : ab_O → ab_Hp → Prop} (hk : ((ab_sh h r).1 = 1 ∨ (ab_sh h r).1 = 6) ∧ ab_in x (ab_sh h r).2 = true) : wp 136 9 [v0, v1, v2, v3, v4, v5, v6] (.int x :: .ref r :: st) h Q = wp 136 10 [v0, v1, v2, v3, v4, v5, v6] (.int (ab_hi h r x.toNatClampNeg) :: st) h Q := wp_ia (by decide +kernel : ab_cod 136 9 = some (.iaload, 1, 0, 0, 0, 0)) hk
set_option maxRecDepth 100000 in
theorem i136_10 {v0 v1 v2 v3 v4 v5 v6 : Value} {w : Int32} {st : List Value} {h : ab_Hp} {Q : ab_O → ab_Hp → Prop} : wp 136 10 [v0, v1, v2, v3, v4, v5, v6] (.int w :: st) h Q = wp 136 11 [v0, v1, ab_clr v2, .int w, v4, v5, v6] st h Q := wp_stp (ri := (.istore_n 3, 1, 0, 0, 0, 0)) (by decide +kernel) rfl rfl rfl
set_option maxRecDepth 100000 in
theorem i136_11 {v0 v1 v2 v3 v4 v5 v6 : Value} {st : List Value} {h : ab_Hp} {Q : ab_O → ab_Hp → Prop} (hv : ab_isA v0 = true) : wp 136 11 [v0, v1, v2, v3, v4, v5, v6] st h Q = wp 136 12 [v0, v1, v2, v3, v4, v5, v6] (v0 :: st) h Q := wp_aload_n (by decide +kernel : ab_cod 136 11 = some (.aload_n 0, 1, 0, 0, 0, 0)) hv
set_option maxRecDepth 100000 in
theorem i136_12 {v0 v1 v2 v3 v4 v5 v6 : Value} {st : List Value} {h : ab_Hp} {Q : ab_O → ab_Hp → Prop} : wp 136 12 [v0, v1, v2, v3, v4, v5, v6] st h Q = wp 136 14 [v0, v1, v2, v3, v4, v5, v6] (.int (nI 7) :: st) h Q := wp_stp (ri := (.bipush 7, 2, 0, 0, 0, 0)) (by decide +kernel) rfl rfl rfl
set_option maxRecDepth 100000 in
theorem i136_14 {v0 v1 v2 v3 v4 v5 v6 : Value} {r : Nat} {a0 : Int32} {st : List Value} {h : ab_Hp} {Q : ab_O → ab_Hp → Prop} (hl : st.length ≤ 4) (hk : (ab_sh h r).1 = 17) : wp 136 14 [v0, v1, v2, v3, v4, v5, v6] (.int a0 :: .ref r :: st) h Q = wp 131 0 [.ref r, .int a0, ab_nov, ab_nov] [] h (ab_K 136 14 [v0, v1, v2, v3, v4, v5, v6] st Q) := wp_callV (as := [.int a0]) (by decide +kernel : ab_cod 136 14 = some (.invokevirtual 130, 3, 131, 2, 0, 980)) rfl rfl rfl rfl hl hk
set_option maxRecDepth 100000 in
theorem i136_17 {v0 v1 v2 v3 v4 v5 v6 : Value} {w : Int32} {st : List Value} {h : ab_Hp} {Q : ab_O → ab_Hp → Prop} : wp 136 17 [v0, v1, v2, v3, v4, v5, v6] (.int w :: st) h Q = wp 136 19 [v0, v1, v2, ab_clr v3, .int w, v5, v6] st h Q := wp_stp (ri := (.istore 4, 2, 0, 0, 0, 0)) (by decide +kernel) rfl rfl rfl
set_option maxRecDepth 100000 in
theorem i136_19 {v0 v1 v2 v3 v4 v5 v6 : Value} {st : List Value} {h : ab_Hp} {Q : ab_O → ab_Hp → Prop} (hv : ab_isA v0 = true) : wp 136 19 [v0, v1, v2, v3, v4, v5, v6] st h Q = wp 136 20 [v0, v1, v2, v3, v4, v5, v6] (v0 :: st) h Q := wp_aload_n (by decide +kernel : ab_cod 136 19 = some (.aload_n 0, 1, 0, 0, 0, 0)) hv
set_option maxRecDepth 100000 in
theorem i136_20 {v0 v1 v2 v3 v4 v5 v6 : Value} {st : List Value} {h : ab_Hp} {Q : ab_O → ab_Hp → Prop} : wp 136 20 [v0, v1, v2, v3, v4, v5, v6] st h Q = wp 136 22 [v0, v1, v2, v3, v4, v5, v6] (.int (nI 6) :: st) h Q := wp_stp (ri := (.bipush 6, 2, 0, 0, 0, 0)) (by decide +kernel) rfl rfl rfl
set_option maxRecDepth 100000 in
theorem i136_22 {v0 v1 v2 v3 v4 v5 v6 : Value} {r : Nat} {a0 : Int32} {st : List Value} {h : ab_Hp} {Q : ab_O → ab_Hp → Prop} (hl : st.length ≤ 4) (hk : (ab_sh h r).1 = 17) : wp 136 22 [v0, v1, v2, v3, v4, v5, v6] (.int a0 :: .ref r :: st) h Q = wp 131 0 [.ref r, .int a0, ab_nov, ab_nov] [] h (ab_K 136 22 [v0, v1, v2, v3, v4, v5, v6] st Q) := wp_callV (as := [.int a0]) (by decide +kernel : ab_cod 136 22 = some (.invokevirtual 130, 3, 131, 2, 0, 980)) rfl rfl rfl rfl hl hk
set_option maxRecDepth 100000 in
theorem i136_25 {v0 v1 v2 v3 v4 v5 v6 : Value} {w : Int32} {st : List Value} {h : ab_Hp} {Q : ab_O → ab_Hp → Prop} : wp 136 25 [v0, v1, v2, v3, v4, v5, v6] (.int w :: st) h Q = wp 136 27 [v0, v1, v2, v3, ab_clr v4, .int w, v6] st h Q := wp_stp (ri := (.istore 5, 2, 0, 0, 0, 0)) (by decide +kernel) rfl rfl rfl
set_option maxRecDepth 100000 in
theorem i136_27 {v0 v1 v2 v3 v4 v5 v6 : Value} {st : List Value} {h : ab_Hp} {Q : ab_O → ab_Hp → Prop} : wp 136 27 [v0, v1, v2, v3, v4, v5, v6] st h Q = wp 136 28 [v0, v1, v2, v3, v4, v5, v6] (.int (nI 0) :: st) h Q := wp_stp (ri := (.iconst 0, 1, 0, 0, 0, 0)) (by decide +kernel) rfl rfl rfl
set_option maxRecDepth 100000 in
theorem i136_28 {v0 v1 v2 v3 v4 v5 v6 : Value} {w : Int32} {st : List Value} {h : ab_Hp} {Q : ab_O → ab_Hp → Prop} : wp 136 28 [v0, v1, v2, v3, v4, v5, v6] (.int w :: st) h Q = wp 136 30 [v0, v1, v2, v3, v4, ab_clr v5, .int w] st h Q := wp_stp (ri := (.istore 6, 2, 0, 0, 0, 0)) (by decide +kernel) rfl rfl rfl
set_option maxRecDepth 100000 in
theorem i136_30 {v0 v1 v2 v3 v4 v5 : Value} {x : Int32} {st : List Value} {h : ab_Hp} {Q : ab_O → ab_Hp → Prop} : wp 136 30 [v0, v1, v2, v3, v4, v5, .int x] st h Q = wp 136 32 [v0, v1, v2, v3, v4, v5, .int x] (.int x :: st) h Q := wp_stp (ri := (.iload 6, 2, 0, 0, 0, 0)) (by decide +kernel) rfl rfl rfl
set_option maxRecDepth 100000 in
theorem i136_32 {v0 v2 v3 v4 v5 v6 : Value} {x : Int32} {st : List Value} {h : ab_Hp} {Q : ab_O → ab_Hp → Prop} : wp 136 32 [v0, .int x, v2, v3, v4, v5, v6] st h Q = wp 136 33 [v0, .int x, v2, v3, v4, v5, v6] (.int x :: st) h Q := wp_stp (ri := (.iload_n 1, 1, 0, 0, 0, 0)) (by decide +kernel) rfl rfl rfl
set_option maxRecDepth 100000 in
theorem i136_33 {v0 v1 v2 v3 v4 v5 v6 : Value} {x y : Int32} {st : List Value} {h : ab_Hp} {Q : ab_O → ab_Hp → Prop} : wp 136 33 [v0, v1, v2, v3, v4, v5, v6] (.int y :: .int x :: st) h Q = if y ≤ x then wp 136 46 [v0, v1, v2, v3, v4, v5, v6] st h Q else wp 136 36 [v0, v1, v2, v3, v4, v5, v6] st h Q := wp_icmpP (by decide +kernel : ab_cod 136 33 = some (.if_icmp .ge 13, 3, 46, 0, 0, 0)) rfl
set_option maxRecDepth 100000 in
theorem i136_36 {v0 v1 v2 v3 v4 v5 v6 : Value} {st : List Value} {h : ab_Hp} {Q : ab_O → ab_Hp → Prop} (hv : ab_isA v0 = true) : wp 136 36 [v0, v1, v2, v3, v4, v5, v6] st h Q = wp 136 37 [v0, v1, v2, v3, v4, v5, v6] (v0 :: st) h Q := wp_aload_n (by decide +kernel : ab_cod 136 36 = some (.aload_n 0, 1, 0, 0, 0, 0)) hv
set_option maxRecDepth 100000 in
theorem i136_37 {v0 v1 v2 v3 v4 v5 v6 : Value} {r : Nat} {st : List Value} {h : ab_Hp} {Q : ab_O → ab_Hp → Prop} (hl : st.length ≤ 4) (hk : (ab_sh h r).1 = 17) : wp 136 37 [v0, v1, v2, v3, v4, v5, v6] (.ref r :: st) h Q = wp 112 0 [.ref r, ab_nov] [] h (ab_K 136 37 [v0, v1, v2, v3, v4, v5, v6] st Q) := wp_callV (as := []) (by decide +kernel : ab_cod 136 37 = some (.invokevirtual 87, 3, 112, 1, 0, 876)) rfl rfl rfl rfl hl hk
set_option maxRecDepth 100000 in
theorem i136_40 {v0 v1 v2 v3 v4 v5 : Value} {x : Int32} {st : List Value} {h : ab_Hp} {Q : ab_O → ab_Hp → Prop} : wp 136 40 [v0, v1, v2, v3, v4, v5, .int x] st h Q = wp 136 43 [v0, v1, v2, v3, v4, ab_clr v5, .int (x + nI 1)] st h Q := wp_stp (ri := (.iinc 6 1, 3, 0, 0, 0, 0)) (by decide +kernel) rfl rfl rfl
set_option maxRecDepth 100000 in
theorem i136_43 {v0 v1 v2 v3 v4 v5 v6 : Value} {st : List Value} {h : ab_Hp} {Q : ab_O → ab_Hp → Prop} : wp 136 43 [v0, v1, v2, v3, v4, v5, v6] st h Q = wp 136 30 [v0, v1, v2, v3, v4, v5, v6] st h Q := wp_stp (ri := (.goto (-13), 3, 30, 0, 0, 0)) (by decide +kernel) rfl rfl rfl
set_option maxRecDepth 100000 in
theorem i136_46 {v0 v1 v3 v4 v5 v6 : Value} {x : Int32} {st : List Value} {h : ab_Hp} {Q : ab_O → ab_Hp → Prop} : wp 136 46 [v0, v1, .int x, v3, v4, v5, v6] st h Q = wp 136 47 [v0, v1, .int x, v3, v4, v5, v6] (.int x :: st) h Q := wp_stp (ri := (.iload_n 2, 1, 0, 0, 0, 0)) (by decide +kernel) rfl rfl rfl
set_option maxRecDepth 100000 in
theorem i136_47 {v0 v1 v2 v3 v4 v5 v6 : Value} {x : Int32} {st : List Value} {h : ab_Hp} {Q : ab_O → ab_Hp → Prop} : wp 136 47 [v0, v1, v2, v3, v4, v5, v6] (.int x :: st) h Q = if ¬ x = 0 then wp 136 61 [v0, v1, v2, v3, v4, v5, v6] st h Q else wp 136 50 [v0, v1, v2, v3, v4, v5, v6] st h Q := wp_ifcP (by decide +kernel : ab_cod 136 47 = some (.ifCond .ne 14, 3, 61, 0, 0, 0)) rfl
set_option maxRecDepth 100000 in
theorem i136_50 {v0 v1 v2 v3 v4 v5 v6 : Value} {st : List Value} {h : ab_Hp} {Q : ab_O → ab_Hp → Prop} (hv : ab_isA v0 = true) : wp 136 50 [v0, v1, v2, v3, v4, v5, v6] st h Q = wp 136 51 [v0, v1, v2, v3, v4, v5, v6] (v0 :: st) h Q := wp_aload_n (by decide +kernel : ab_cod 136 50 = some (.aload_n 0, 1, 0, 0, 0, 0)) hv
set_option maxRecDepth 100000 in
theorem i136_51 {v0 v1 v2 v3 v4 v5 v6 : Value} {r : Nat} {st : List Value} {h : ab_Hp} {Q : ab_O → ab_Hp → Prop} (hk : (ab_sh h r).1 = 17) : wp 136 51 [v0, v1, v2, v3, v4, v5, v6] (.ref r :: st) h Q = wp 136 54 [v0, v1, v2, v3, v4, v5, v6] (va_rf (ab_hr h r 1) :: st) h Q := wp_gf (by decide +kernel : ab_cod 136 51 = some (.getfield 7, 3, 7, 1, 773, 1)) hk
set_option maxRecDepth 100000 in
theorem i136_54 {v0 v1 v2 v3 v4 v5 v6 : Value} {st : List Value} {h : ab_Hp} {Q : ab_O → ab_Hp → Prop} : wp 136 54 [v0, v1, v2, v3, v4, v5, v6] st h Q = wp 136 55 [v0, v1, v2, v3, v4, v5, v6] (.int (nI 2) :: st) h Q := wp_stp (ri := (.iconst 2, 1, 0, 0, 0, 0)) (by decide +kernel) rfl rfl rfl
set_option maxRecDepth 100000 in
theorem i136_55 {v0 v1 v2 v3 v4 v5 v6 : Value} {r : Nat} {x : Int32} {st : List Value} {h : ab_Hp} {Q : ab_O → ab_Hp → Prop} (hk : ((ab_sh h r).1 = 1 ∨ (ab_sh h r).1 = 6) ∧ ab_in x (ab_sh h r).2 = true) : wp 136 55 [v0, v1, v2, v3, v4, v5, v6] (.int x :: .ref r :: st) h Q = wp 136 56 [v0, v1, v2, v3, v4, v5, v6] (.int (ab_hi h r x.toNatClampNeg) :: st) h Q := wp_ia (by decide +kernel : ab_cod 136 55 = some (.iaload, 1, 0, 0, 0, 0)) hk
set_option maxRecDepth 100000 in
theorem i136_56 {v0 v1 v2 v4 v5 v6 : Value} {x : Int32} {st : List Value} {h : ab_Hp} {Q : ab_O → ab_Hp → Prop} : wp 136 56 [v0, v1, v2, .int x, v4, v5, v6] st h Q = wp 136 57 [v0, v1, v2, .int x, v4, v5, v6] (.int x :: st) h Q := wp_stp (ri := (.iload_n 3, 1, 0, 0, 0, 0)) (by decide +kernel) rfl rfl rfl
set_option maxRecDepth 100000 in
theorem i136_57 {v0 v1 v2 v3 v4 v5 v6 : Value} {x y : Int32} {st : List Value} {h : ab_Hp} {Q : ab_O → ab_Hp → Prop} : wp 136 57 [v0, v1, v2, v3, v4, v5, v6] (.int y :: .int x :: st) h Q = wp 136 58 [v0, v1, v2, v3, v4, v5, v6] (.int (x - y) :: st) h Q := wp_stp (ri := (.isub, 1, 0, 0, 0, 0)) (by decide +kernel) rfl rfl rfl
set_option maxRecDepth 100000 in
theorem i136_58 {v0 v1 v2 v3 v4 v5 v6 : Value} {st : List Value} {h : ab_Hp} {Q : ab_O → ab_Hp → Prop} : wp 136 58 [v0, v1, v2, v3, v4, v5, v6] st h Q = wp 136 112 [v0, v1, v2, v3, v4, v5, v6] st h Q := wp_stp (ri := (.goto 54, 3, 112, 0, 0, 0)) (by decide +kernel) rfl rfl rfl
set_option maxRecDepth 100000 in
theorem i136_61 {v0 v1 v3 v4 v5 v6 : Value} {x : Int32} {st : List Value} {h : ab_Hp} {Q : ab_O → ab_Hp → Prop} : wp 136 61 [v0, v1, .int x, v3, v4, v5, v6] st h Q = wp 136 62 [v0, v1, .int x, v3, v4, v5, v6] (.int x :: st) h Q := wp_stp (ri := (.iload_n 2, 1, 0, 0, 0, 0)) (by decide +kernel) rfl rfl rfl
set_option maxRecDepth 100000 in
theorem i136_62 {v0 v1 v2 v3 v4 v5 v6 : Value} {st : List Value} {h : ab_Hp} {Q : ab_O → ab_Hp → Prop} : wp 136 62 [v0, v1, v2, v3, v4, v5, v6] st h Q = wp 136 63 [v0, v1, v2, v3, v4, v5, v6] (.int (nI 1) :: st) h Q := wp_stp (ri := (.iconst 1, 1, 0, 0, 0, 0)) (by decide +kernel) rfl rfl rfl
set_option maxRecDepth 100000 in
theorem i136_63 {v0 v1 v2 v3 v4 v5 v6 : Value} {x y : Int32} {st : List Value} {h : ab_Hp} {Q : ab_O → ab_Hp → Prop} : wp 136 63 [v0, v1, v2, v3, v4, v5, v6] (.int y :: .int x :: st) h Q = if ¬ x = y then wp 136 74 [v0, v1, v2, v3, v4, v5, v6] st h Q else wp 136 66 [v0, v1, v2, v3, v4, v5, v6] st h Q := wp_icmpP (by decide +kernel : ab_cod 136 63 = some (.if_icmp .ne 11, 3, 74, 0, 0, 0)) rfl
set_option maxRecDepth 100000 in
theorem i136_66 {v0 v1 v2 v3 v4 v5 v6 : Value} {st : List Value} {h : ab_Hp} {Q : ab_O → ab_Hp → Prop} (hv : ab_isA v0 = true) : wp 136 66 [v0, v1, v2, v3, v4, v5, v6] st h Q = wp 136 67 [v0, v1, v2, v3, v4, v5, v6] (v0 :: st) h Q := wp_aload_n (by decide +kernel : ab_cod 136 66 = some (.aload_n 0, 1, 0, 0, 0, 0)) hv
set_option maxRecDepth 100000 in
theorem i136_67 {v0 v1 v2 v3 v4 v5 v6 : Value} {st : List Value} {h : ab_Hp} {Q : ab_O → ab_Hp → Prop} : wp 136 67 [v0, v1, v2, v3, v4, v5, v6] st h Q = wp 136 68 [v0, v1, v2, v3, v4, v5, v6] (.int (nI 4) :: st) h Q := wp_stp (ri := (.iconst 4, 1, 0, 0, 0, 0)) (by decide +kernel) rfl rfl rfl
set_option maxRecDepth 100000 in
theorem i136_68 {v0 v1 v2 v3 v4 v5 v6 : Value} {r : Nat} {a0 : Int32} {st : List Value} {h : ab_Hp} {Q : ab_O → ab_Hp → Prop} (hl : st.length ≤ 4) (hk : (ab_sh h r).1 = 17) : wp 136 68 [v0, v1, v2, v3, v4, v5, v6] (.int a0 :: .ref r :: st) h Q = wp 131 0 [.ref r, .int a0, ab_nov, ab_nov] [] h (ab_K 136 68 [v0, v1, v2, v3, v4, v5, v6] st Q) := wp_callV (as := [.int a0]) (by decide +kernel : ab_cod 136 68 = some (.invokevirtual 130, 3, 131, 2, 0, 980)) rfl rfl rfl rfl hl hk
set_option maxRecDepth 100000 in
theorem i136_71 {v0 v1 v2 v3 v4 v5 v6 : Value} {st : List Value} {h : ab_Hp} {Q : ab_O → ab_Hp → Prop} : wp 136 71 [v0, v1, v2, v3, v4, v5, v6] st h Q = wp 136 112 [v0, v1, v2, v3, v4, v5, v6] st h Q := wp_stp (ri := (.goto 41, 3, 112, 0, 0, 0)) (by decide +kernel) rfl rfl rfl
set_option maxRecDepth 100000 in
theorem i136_74 {v0 v1 v3 v4 v5 v6 : Value} {x : Int32} {st : List Value} {h : ab_Hp} {Q : ab_O → ab_Hp → Prop} : wp 136 74 [v0, v1, .int x, v3, v4, v5, v6] st h Q = wp 136 75 [v0, v1, .int x, v3, v4, v5, v6] (.int x :: st) h Q := wp_stp (ri := (.iload_n 2, 1, 0, 0, 0, 0)) (by decide +kernel) rfl rfl rfl
set_option maxRecDepth 100000 in
theorem i136_75 {v0 v1 v2 v3 v4 v5 v6 : Value} {st : List Value} {h : ab_Hp} {Q : ab_O → ab_Hp → Prop} : wp 136 75 [v0, v1, v2, v3, v4, v5, v6] st h Q = wp 136 76 [v0, v1, v2, v3, v4, v5, v6] (.int (nI 2) :: st) h Q := wp_stp (ri := (.iconst 2, 1, 0, 0, 0, 0)) (by decide +kernel) rfl rfl rfl
set_option maxRecDepth 100000 in
theorem i136_76 {v0 v1 v2 v3 v4 v5 v6 : Value} {x y : Int32} {st : List Value} {h : ab_Hp} {Q : ab_O → ab_Hp → Prop} : wp 136 76 [v0, v1, v2, v3, v4, v5, v6] (.int y :: .int x :: st) h Q = if ¬ x = y then wp 136 86 [v0, v1, v2, v3, v4, v5, v6] st h Q else wp 136 79 [v0, v1, v2, v3, v4, v5, v6] st h Q := wp_icmpP (by decide +kernel : ab_cod 136 76 = some (.if_icmp .ne 10, 3, 86, 0, 0, 0)) rfl
set_option maxRecDepth 100000 in
theorem i136_79 {v0 v1 v2 v3 v4 v5 v6 : Value} {st : List Value} {h : ab_Hp} {Q : ab_O → ab_Hp → Prop} (hv : ab_isA v0 = true) : wp 136 79 [v0, v1, v2, v3, v4, v5, v6] st h Q = wp 136 80 [v0, v1, v2, v3, v4, v5, v6] (v0 :: st) h Q := wp_aload_n (by decide +kernel : ab_cod 136 79 = some (.aload_n 0, 1, 0, 0, 0, 0)) hv
set_option maxRecDepth 100000 in
theorem i136_80 {v0 v1 v2 v3 v4 v5 v6 : Value} {r : Nat} {st : List Value} {h : ab_Hp} {Q : ab_O → ab_Hp → Prop} (hl : st.length ≤ 4) (hk : (ab_sh h r).1 = 17) : wp 136 80 [v0, v1, v2, v3, v4, v5, v6] (.ref r :: st) h Q = wp 132 0 [.ref r, ab_nov, ab_nov] [] h (ab_K 136 80 [v0, v1, v2, v3, v4, v5, v6] st Q) := wp_callV (as := []) (by decide +kernel : ab_cod 136 80 = some (.invokevirtual 133, 3, 132, 1, 0, 984)) rfl rfl rfl rfl hl hk
set_option maxRecDepth 100000 in
theorem i136_83 {v0 v1 v2 v3 v4 v5 v6 : Value} {st : List Value} {h : ab_Hp} {Q : ab_O → ab_Hp → Prop} : wp 136 83 [v0, v1, v2, v3, v4, v5, v6] st h Q = wp 136 112 [v0, v1, v2, v3, v4, v5, v6] st h Q := wp_stp (ri := (.goto 29, 3, 112, 0, 0, 0)) (by decide +kernel) rfl rfl rfl
set_option maxRecDepth 100000 in
theorem i136_86 {v0 v1 v3 v4 v5 v6 : Value} {x : Int32} {st : List Value} {h : ab_Hp} {Q : ab_O → ab_Hp → Prop} : wp 136 86 [v0, v1, .int x, v3, v4, v5, v6] st h Q = wp 136 87 [v0, v1, .int x, v3, v4, v5, v6] (.int x :: st) h Q := wp_stp (ri := (.iload_n 2, 1, 0, 0, 0, 0)) (by decide +kernel) rfl rfl rfl
set_option maxRecDepth 100000 in
theorem i136_87 {v0 v1 v2 v3 v4 v5 v6 : Value} {st : List Value} {h : ab_Hp} {Q : ab_O → ab_Hp → Prop} : wp 136 87 [v0, v1, v2, v3, v4, v5, v6] st h Q = wp 136 88 [v0, v1, v2, v3, v4, v5, v6] (.int (nI 3) :: st) h Q := wp_stp (ri := (.iconst 3, 1, 0, 0, 0, 0)) (by decide +kernel) rfl rfl rfl
set_option maxRecDepth 100000 in
theorem i136_88 {v0 v1 v2 v3 v4 v5 v6 : Value} {x y : Int32} {st : List Value} {h : ab_Hp} {Q : ab_O → ab_Hp → Prop} : wp 136 88 [v0, v1, v2, v3, v4, v5, v6] (.int y :: .int x :: st) h Q = if ¬ x = y then wp 136 103 [v0, v1, v2, v3, v4, v5, v6] st h Q else wp 136 91 [v0, v1, v2, v3, v4, v5, v6] st h Q := wp_icmpP (by decide +kernel : ab_cod 136 88 = some (.if_icmp .ne 15, 3, 103, 0, 0, 0)) rfl
set_option maxRecDepth 100000 in
theorem i136_91 {v0 v1 v2 v3 v4 v5 v6 : Value} {st : List Value} {h : ab_Hp} {Q : ab_O → ab_Hp → Prop} (hv : ab_isA v0 = true) : wp 136 91 [v0, v1, v2, v3, v4, v5, v6] st h Q = wp 136 92 [v0, v1, v2, v3, v4, v5, v6] (v0 :: st) h Q := wp_aload_n (by decide +kernel : ab_cod 136 91 = some (.aload_n 0, 1, 0, 0, 0, 0)) hv
set_option maxRecDepth 100000 in
theorem i136_92 {v0 v1 v2 v3 v4 v5 v6 : Value} {st : List Value} {h : ab_Hp} {Q : ab_O → ab_Hp → Prop} : wp 136 92 [v0, v1, v2, v3, v4, v5, v6] st h Q = wp 136 94 [v0, v1, v2, v3, v4, v5, v6] (.int (nI 7) :: st) h Q := wp_stp (ri := (.bipush 7, 2, 0, 0, 0, 0)) (by decide +kernel) rfl rfl rfl
set_option maxRecDepth 100000 in
theorem i136_94 {v0 v1 v2 v3 v4 v5 v6 : Value} {r : Nat} {a0 : Int32} {st : List Value} {h : ab_Hp} {Q : ab_O → ab_Hp → Prop} (hl : st.length ≤ 4) (hk : (ab_sh h r).1 = 17) : wp 136 94 [v0, v1, v2, v3, v4, v5, v6] (.int a0 :: .ref r :: st) h Q = wp 131 0 [.ref r, .int a0, ab_nov, ab_nov] [] h (ab_K 136 94 [v0, v1, v2, v3, v4, v5, v6] st Q) := wp_callV (as := [.int a0]) (by decide +kernel : ab_cod 136 94 = some (.invokevirtual 130, 3, 131, 2, 0, 980)) rfl rfl rfl rfl hl hk
set_option maxRecDepth 100000 in
theorem i136_97 {v0 v1 v2 v3 v5 v6 : Value} {x : Int32} {st : List Value} {h : ab_Hp} {Q : ab_O → ab_Hp → Prop} : wp 136 97 [v0, v1, v2, v3, .int x, v5, v6] st h Q = wp 136 99 [v0, v1, v2, v3, .int x, v5, v6] (.int x :: st) h Q := wp_stp (ri := (.iload 4, 2, 0, 0, 0, 0)) (by decide +kernel) rfl rfl rfl
set_option maxRecDepth 100000 in
theorem i136_99 {v0 v1 v2 v3 v4 v5 v6 : Value} {x y : Int32} {st : List Value} {h : ab_Hp} {Q : ab_O → ab_Hp → Prop} : wp 136 99 [v0, v1, v2, v3, v4, v5, v6] (.int y :: .int x :: st) h Q = wp 136 100 [v0, v1, v2, v3, v4, v5, v6] (.int (x - y) :: st) h Q := wp_stp (ri := (.isub, 1, 0, 0, 0, 0)) (by decide +kernel) rfl rfl rfl
set_option maxRecDepth 100000 in
theorem i136_100 {v0 v1 v2 v3 v4 v5 v6 : Value} {st : List Value} {h : ab_Hp} {Q : ab_O → ab_Hp → Prop} : wp 136 100 [v0, v1, v2, v3, v4, v5, v6] st h Q = wp 136 112 [v0, v1, v2, v3, v4, v5, v6] st h Q := wp_stp (ri := (.goto 12, 3, 112, 0, 0, 0)) (by decide +kernel) rfl rfl rfl
set_option maxRecDepth 100000 in
theorem i136_103 {v0 v1 v2 v3 v4 v5 v6 : Value} {st : List Value} {h : ab_Hp} {Q : ab_O → ab_Hp → Prop} (hv : ab_isA v0 = true) : wp 136 103 [v0, v1, v2, v3, v4, v5, v6] st h Q = wp 136 104 [v0, v1, v2, v3, v4, v5, v6] (v0 :: st) h Q := wp_aload_n (by decide +kernel : ab_cod 136 103 = some (.aload_n 0, 1, 0, 0, 0, 0)) hv
set_option maxRecDepth 100000 in
theorem i136_104 {v0 v1 v2 v3 v4 v5 v6 : Value} {st : List Value} {h : ab_Hp} {Q : ab_O → ab_Hp → Prop} : wp 136 104 [v0, v1, v2, v3, v4, v5, v6] st h Q = wp 136 106 [v0, v1, v2, v3, v4, v5, v6] (.int (nI 6) :: st) h Q := wp_stp (ri := (.bipush 6, 2, 0, 0, 0, 0)) (by decide +kernel) rfl rfl rfl
set_option maxRecDepth 100000 in
theorem i136_106 {v0 v1 v2 v3 v4 v5 v6 : Value} {r : Nat} {a0 : Int32} {st : List Value} {h : ab_Hp} {Q : ab_O → ab_Hp → Prop} (hl : st.length ≤ 4) (hk : (ab_sh h r).1 = 17) : wp 136 106 [v0, v1, v2, v3, v4, v5, v6] (.int a0 :: .ref r :: st) h Q = wp 131 0 [.ref r, .int a0, ab_nov, ab_nov] [] h (ab_K 136 106 [v0, v1, v2, v3, v4, v5, v6] st Q) := wp_callV (as := [.int a0]) (by decide +kernel : ab_cod 136 106 = some (.invokevirtual 130, 3, 131, 2, 0, 980)) rfl rfl rfl rfl hl hk
set_option maxRecDepth 100000 in
theorem i136_109 {v0 v1 v2 v3 v4 v6 : Value} {x : Int32} {st : List Value} {h : ab_Hp} {Q : ab_O → ab_Hp → Prop} : wp 136 109 [v0, v1, v2, v3, v4, .int x, v6] st h Q = wp 136 111 [v0, v1, v2, v3, v4, .int x, v6] (.int x :: st) h Q := wp_stp (ri := (.iload 5, 2, 0, 0, 0, 0)) (by decide +kernel) rfl rfl rfl
set_option maxRecDepth 100000 in
theorem i136_111 {v0 v1 v2 v3 v4 v5 v6 : Value} {x y : Int32} {st : List Value} {h : ab_Hp} {Q : ab_O → ab_Hp → Prop} : wp 136 111 [v0, v1, v2, v3, v4, v5, v6] (.int y :: .int x :: st) h Q = wp 136 112 [v0, v1, v2, v3, v4, v5, v6] (.int (x - y) :: st) h Q := wp_stp (ri := (.isub, 1, 0, 0, 0, 0)) (by decide +kernel) rfl rfl rfl
set_option maxRecDepth 100000 in
theorem i136_112 {v0 v1 v2 v3 v4 v5 v6 : Value} {w : Int32} {st : List Value} {h : ab_Hp} {Q : ab_O → ab_Hp → Prop} : wp 136 112 [v0, v1, v2, v3, v4, v5, v6] (.int w :: st) h Q = wp 136 114 [v0, v1, v2, v3, v4, ab_clr v5, .int w] st h Q := wp_stp (ri := (.istore 6, 2, 0, 0, 0, 0)) (by decide +kernel) rfl rfl rfl
set_option maxRecDepth 100000 in
theorem i136_114 {v0 v1 v2 v3 v4 v5 v6 : Value} {st : List Value} {h : ab_Hp} {Q : ab_O → ab_Hp → Prop} (hv : ab_isA v0 = true) : wp 136 114 [v0, v1, v2, v3, v4, v5, v6] st h Q = wp 136 115 [v0, v1, v2, v3, v4, v5, v6] (v0 :: st) h Q := wp_aload_n (by decide +kernel : ab_cod 136 114 = some (.aload_n 0, 1, 0, 0, 0, 0)) hv
set_option maxRecDepth 100000 in
theorem i136_115 {v0 v1 v2 v3 v4 v5 v6 : Value} {r : Nat} {st : List Value} {h : ab_Hp} {Q : ab_O → ab_Hp → Prop} (hl : st.length ≤ 4) (hk : (ab_sh h r).1 = 17) : wp 136 115 [v0, v1, v2, v3, v4, v5, v6] (.ref r :: st) h Q = wp 97 0 [.ref r, ab_nov] [] h (ab_K 136 115 [v0, v1, v2, v3, v4, v5, v6] st Q) := wp_callV (as := []) (by decide +kernel : ab_cod 136 115 = some (.invokevirtual 145, 3, 97, 1, 0, 1004)) rfl rfl rfl rfl hl hk
set_option maxRecDepth 100000 in
theorem i136_118 {v0 v1 v2 v3 v4 v5 : Value} {x : Int32} {st : List Value} {h : ab_Hp} {Q : ab_O → ab_Hp → Prop} : wp 136 118 [v0, v1, v2, v3, v4, v5, .int x] st h Q = wp 136 120 [v0, v1, v2, v3, v4, v5, .int x] (.int x :: st) h Q := wp_stp (ri := (.iload 6, 2, 0, 0, 0, 0)) (by decide +kernel) rfl rfl rfl
set_option maxRecDepth 100000 in
theorem i136_120 {v0 v1 v2 v3 v4 v5 v6 : Value} {x : Int32} {h : ab_Hp} {Q : ab_O → ab_Hp → Prop} : wp 136 120 [v0, v1, v2, v3, v4, v5, v6] [.int x] h Q = Q (.inl (some (.int x))) h := wp_iret (by decide +kernel : ab_cod 136 120 = some (.ireturn, 1, 0, 0, 0, 0)) rfl
/-! 137: SeamBeatsModel.ifRun(II)I -/
theorem i137_0 {v0 v1 v2 : Value} {st : List Value} {h : ab_Hp} {Q : ab_O → ab_Hp → Prop} (hv : ab_isA v0 = true) : wp 137 0 [v0, v1, v2] st h Q = wp 137 1 [v0, v1, v2] (v0 :: st) h Q := wp_aload_n (by decide +kernel : ab_cod 137 0 = some (.aload_n 0, 1, 0, 0, 0, 0)) hv
theorem i137_1 {v0 v2 : Value} {x : Int32} {st : List Value} {h : ab_Hp} {Q : ab_O → ab_Hp → Prop} : wp 137 1 [v0, .int x, v2] st h Q = wp 137 2 [v0, .int x, v2] (.int x :: st) h Q := wp_stp (ri := (.iload_n 1, 1, 0, 0, 0, 0)) (by decide +kernel) rfl rfl rfl
theorem i137_2 {v0 v1 v2 : Value} {st : List Value} {h : ab_Hp} {Q : ab_O → ab_Hp → Prop} : wp 137 2 [v0, v1, v2] st h Q = wp 137 3 [v0, v1, v2] (.int (nI 0) :: st) h Q := wp_stp (ri := (.iconst 0, 1, 0, 0, 0, 0)) (by decide +kernel) rfl rfl rfl
theorem i137_3 {v0 v1 v2 : Value} {st : List Value} {h : ab_Hp} {Q : ab_O → ab_Hp → Prop} : wp 137 3 [v0, v1, v2] st h Q = wp 137 6 [v0, v1, v2] (.int (nI 300) :: st) h Q := wp_stp (ri := (.sipush 300, 3, 0, 0, 0, 0)) (by decide +kernel) rfl rfl rfl
theorem i137_6 {v0 v1 v2 : Value} {a0 : Int32} {a1 : Int32} {a2 : Int32} {st : List Value} {h : ab_Hp} {Q : ab_O → ab_Hp → Prop} (hl : st.length ≤ 4) : wp 137 6 [v0, v1, v2] (.int a2 :: .int a1 :: .int a0 :: st) h Q = wp 87 0 [.int a0, .int a1, .int a2] [] h (ab_K 137 6 [v0, v1, v2] st Q) := wp_callS (as := [.int a0, .int a1, .int a2]) (by decide +kernel : ab_cod 137 6 = some (.invokestatic 33, 3, 87, 3, 1, 821)) rfl rfl rfl rfl hl
theorem i137_9 {v0 v1 v2 : Value} {x : Int32} {st : List Value} {h : ab_Hp} {Q : ab_O → ab_Hp → Prop} : wp 137 9 [v0, v1, v2] (.int x :: st) h Q = if x = 0 then wp 137 25 [v0, v1, v2] st h Q else wp 137 12 [v0, v1, v2] st h Q := wp_ifcP (by decide +kernel : ab_cod 137 9 = some (.ifCond .eq 16, 3, 25, 0, 0, 0)) rfl
theorem i137_12 {v0 v1 : Value} {x : Int32} {st : List Value} {h : ab_Hp} {Q : ab_O → ab_Hp → Prop} : wp 137 12 [v0, v1, .int x] st h Q = wp 137 13 [v0, v1, .int x] (.int x :: st) h Q := wp_stp (ri := (.iload_n 2, 1, 0, 0, 0, 0)) (by decide +kernel) rfl rfl rfl
theorem i137_13 {v0 v1 v2 : Value} {st : List Value} {h : ab_Hp} {Q : ab_O → ab_Hp → Prop} : wp 137 13 [v0, v1, v2] st h Q = wp 137 14 [v0, v1, v2] (.int (nI 0) :: st) h Q := wp_stp (ri := (.iconst 0, 1, 0, 0, 0, 0)) (by decide +kernel) rfl rfl rfl
theorem i137_14 {v0 v1 v2 : Value} {st : List Value} {h : ab_Hp} {Q : ab_O → ab_Hp → Prop} : wp 137 14 [v0, v1, v2] st h Q = wp 137 15 [v0, v1, v2] (.int (nI 4) :: st) h Q := wp_stp (ri := (.iconst 4, 1, 0, 0, 0, 0)) (by decide +kernel) rfl rfl rfl
theorem i137_15 {v0 v1 v2 : Value} {a0 : Int32} {a1 : Int32} {a2 : Int32} {st : List Value} {h : ab_Hp} {Q : ab_O → ab_Hp → Prop} (hl : st.length ≤ 4) : wp 137 15 [v0, v1, v2] (.int a2 :: .int a1 :: .int a0 :: st) h Q = wp 87 0 [.int a0, .int a1, .int a2] [] h (ab_K 137 15 [v0, v1, v2] st Q) := wp_callS (as := [.int a0, .int a1, .int a2]) (by decide +kernel : ab_cod 137 15 = some (.invokestatic 33, 3, 87, 3, 1, 821)) rfl rfl rfl rfl hl
theorem i137_18 {v0 v1 v2 : Value} {x : Int32} {st : List Value} {h : ab_Hp} {Q : ab_O → ab_Hp → Prop} : wp 137 18 [v0, v1, v2] (.int x :: st) h Q = if x = 0 then wp 137 25 [v0, v1, v2] st h Q else wp 137 21 [v0, v1, v2] st h Q := wp_ifcP (by decide +kernel : ab_cod 137 18 = some (.ifCond .eq 7, 3, 25, 0, 0, 0)) rfl
theorem i137_21 {v0 v1 v2 : Value} {st : List Value} {h : ab_Hp} {Q : ab_O → ab_Hp → Prop} : wp 137 21 [v0, v1, v2] st h Q = wp 137 22 [v0, v1, v2] (.int (nI 0) :: st) h Q := wp_stp (ri := (.iconst 0, 1, 0, 0, 0, 0)) (by decide +kernel) rfl rfl rfl
theorem i137_22 {v0 v1 v2 : Value} {st : List Value} {h : ab_Hp} {Q : ab_O → ab_Hp → Prop} : wp 137 22 [v0, v1, v2] st h Q = wp 137 26 [v0, v1, v2] st h Q := wp_stp (ri := (.goto 4, 3, 26, 0, 0, 0)) (by decide +kernel) rfl rfl rfl
theorem i137_25 {v0 v1 v2 : Value} {st : List Value} {h : ab_Hp} {Q : ab_O → ab_Hp → Prop} : wp 137 25 [v0, v1, v2] st h Q = wp 137 26 [v0, v1, v2] (.int (nI 1) :: st) h Q := wp_stp (ri := (.iconst 1, 1, 0, 0, 0, 0)) (by decide +kernel) rfl rfl rfl
theorem i137_26 {v0 v1 v2 : Value} {r : Nat} {x : Int32} {st : List Value} {h : ab_Hp} {Q : ab_O → ab_Hp → Prop} (hk : (ab_sh h r).1 = 17) : wp 137 26 [v0, v1, v2] (.int x :: .ref r :: st) h Q = wp 137 29 [v0, v1, v2] st (ab_setI h (ab_u (ab_hi h) r 0 x)) Q := wp_pf (by decide +kernel : ab_cod 137 26 = some (.putfield 29, 3, 7, 0, 772, 0)) hk rfl
theorem i137_29 {v0 v1 v2 : Value} {st : List Value} {h : ab_Hp} {Q : ab_O → ab_Hp → Prop} (hv : ab_isA v0 = true) : wp 137 29 [v0, v1, v2] st h Q = wp 137 30 [v0, v1, v2] (v0 :: st) h Q := wp_aload_n (by decide +kernel : ab_cod 137 29 = some (.aload_n 0, 1, 0, 0, 0, 0)) hv
theorem i137_30 {v0 v1 v2 : Value} {r : Nat} {st : List Value} {h : ab_Hp} {Q : ab_O → ab_Hp → Prop} (hk : (ab_sh h r).1 = 17) : wp 137 30 [v0, v1, v2] (.ref r :: st) h Q = wp 137 33 [v0, v1, v2] (.int (ab_hi h r 0) :: st) h Q := wp_gf (by decide +kernel : ab_cod 137 30 = some (.getfield 29, 3, 7, 0, 772, 0)) hk
theorem i137_33 {v0 v1 v2 : Value} {x : Int32} {st : List Value} {h : ab_Hp} {Q : ab_O → ab_Hp → Prop} : wp 137 33 [v0, v1, v2] (.int x :: st) h Q = if x ≤ 0 then wp 137 40 [v0, v1, v2] st h Q else wp 137 36 [v0, v1, v2] st h Q := wp_ifcP (by decide +kernel : ab_cod 137 33 = some (.ifCond .le 7, 3, 40, 0, 0, 0)) rfl
theorem i137_36 {v0 v1 v2 : Value} {st : List Value} {h : ab_Hp} {Q : ab_O → ab_Hp → Prop} : wp 137 36 [v0, v1, v2] st h Q = wp 137 37 [v0, v1, v2] (.int (nI 0) :: st) h Q := wp_stp (ri := (.iconst 0, 1, 0, 0, 0, 0)) (by decide +kernel) rfl rfl rfl
theorem i137_37 {v0 v1 v2 : Value} {st : List Value} {h : ab_Hp} {Q : ab_O → ab_Hp → Prop} : wp 137 37 [v0, v1, v2] st h Q = wp 137 46 [v0, v1, v2] st h Q := wp_stp (ri := (.goto 9, 3, 46, 0, 0, 0)) (by decide +kernel) rfl rfl rfl
theorem i137_40 {v0 v1 v2 : Value} {st : List Value} {h : ab_Hp} {Q : ab_O → ab_Hp → Prop} (hv : ab_isA v0 = true) : wp 137 40 [v0, v1, v2] st h Q = wp 137 41 [v0, v1, v2] (v0 :: st) h Q := wp_aload_n (by decide +kernel : ab_cod 137 40 = some (.aload_n 0, 1, 0, 0, 0, 0)) hv
theorem i137_41 {v0 v2 : Value} {x : Int32} {st : List Value} {h : ab_Hp} {Q : ab_O → ab_Hp → Prop} : wp 137 41 [v0, .int x, v2] st h Q = wp 137 42 [v0, .int x, v2] (.int x :: st) h Q := wp_stp (ri := (.iload_n 1, 1, 0, 0, 0, 0)) (by decide +kernel) rfl rfl rfl
theorem i137_42 {v0 v1 : Value} {x : Int32} {st : List Value} {h : ab_Hp} {Q : ab_O → ab_Hp → Prop} : wp 137 42 [v0, v1, .int x] st h Q = wp 137 43 [v0, v1, .int x] (.int x :: st) h Q := wp_stp (ri := (.iload_n 2, 1, 0, 0, 0, 0)) (by decide +kernel) rfl rfl rfl
theorem i137_43 {v0 v1 v2 : Value} {r : Nat} {a0 : Int32} {a1 : Int32} {st : List Value} {h : ab_Hp} {Q : ab_O → ab_Hp → Prop} (hl : st.length ≤ 4) (hk : (ab_sh h r).1 = 17) : wp 137 43 [v0, v1, v2] (.int a1 :: .int a0 :: .ref r :: st) h Q = wp 136 0 [.ref r, .int a0, .int a1, ab_nov, ab_nov, ab_nov, ab_nov] [] h (ab_K 137 43 [v0, v1, v2] st Q) := wp_callV (as := [.int a0, .int a1]) (by decide +kernel : ab_cod 137 43 = some (.invokevirtual 148, 3, 136, 3, 0, 996)) rfl rfl rfl rfl hl hk
theorem i137_46 {v0 v1 v2 : Value} {x : Int32} {h : ab_Hp} {Q : ab_O → ab_Hp → Prop} : wp 137 46 [v0, v1, v2] [.int x] h Q = Q (.inl (some (.int x))) h := wp_iret (by decide +kernel : ab_cod 137 46 = some (.ireturn, 1, 0, 0, 0, 0)) rfl
/-! 138: SeamBeatsModel.isWithin(I)Z -/
set_option maxRecDepth 100000 in
theorem i138_0 {v0 v1 v2 v3 v4 : Value} {st : List Value} {h : ab_Hp} {Q : ab_O → ab_Hp → Prop} : wp 138 0 [v0, v1, v2, v3, v4] st h Q = wp 138 1 [v0, v1, v2, v3, v4] (.int (nI 0) :: st) h Q := wp_stp (ri := (.iconst 0, 1, 0, 0, 0, 0)) (by decide +kernel) rfl rfl rfl
set_option maxRecDepth 100000 in
theorem i138_1 {v0 v1 v2 v3 v4 : Value} {w : Int32} {st : List Value} {h : ab_Hp} {Q : ab_O → ab_Hp → Prop} : wp 138 1 [v0, v1, v2, v3, v4] (.int w :: st) h Q = wp 138 2 [v0, ab_clr v1, .int w, v3, v4] st h Q := wp_stp (ri := (.istore_n 2, 1, 0, 0, 0, 0)) (by decide +kernel) rfl rfl rfl
set_option maxRecDepth 100000 in
theorem i138_2 {v0 v1 v2 v3 v4 : Value} {st : List Value} {h : ab_Hp} {Q : ab_O → ab_Hp → Prop} : wp 138 2 [v0, v1, v2, v3, v4] st h Q = wp 138 3 [v0, v1, v2, v3, v4] (.int (nI 0) :: st) h Q := wp_stp (ri := (.iconst 0, 1, 0, 0, 0, 0)) (by decide +kernel) rfl rfl rfl
set_option maxRecDepth 100000 in
theorem i138_3 {v0 v1 v2 v3 v4 : Value} {w : Int32} {st : List Value} {h : ab_Hp} {Q : ab_O → ab_Hp → Prop} : wp 138 3 [v0, v1, v2, v3, v4] (.int w :: st) h Q = wp 138 4 [v0, v1, ab_clr v2, .int w, v4] st h Q := wp_stp (ri := (.istore_n 3, 1, 0, 0, 0, 0)) (by decide +kernel) rfl rfl rfl
set_option maxRecDepth 100000 in
theorem i138_4 {v0 v1 v2 v4 : Value} {x : Int32} {st : List Value} {h : ab_Hp} {Q : ab_O → ab_Hp → Prop} : wp 138 4 [v0, v1, v2, .int x, v4] st h Q = wp 138 5 [v0, v1, v2, .int x, v4] (.int x :: st) h Q := wp_stp (ri := (.iload_n 3, 1, 0, 0, 0, 0)) (by decide +kernel) rfl rfl rfl
set_option maxRecDepth 100000 in
theorem i138_5 {v0 v1 v2 v3 v4 : Value} {st : List Value} {h : ab_Hp} {Q : ab_O → ab_Hp → Prop} : wp 138 5 [v0, v1, v2, v3, v4] st h Q = wp 138 7 [v0, v1, v2, v3, v4] (.int (nI 6) :: st) h Q := wp_stp (ri := (.bipush 6, 2, 0, 0, 0, 0)) (by decide +kernel) rfl rfl rfl
set_option maxRecDepth 100000 in
theorem i138_7 {v0 v1 v2 v3 v4 : Value} {x y : Int32} {st : List Value} {h : ab_Hp} {Q : ab_O → ab_Hp → Prop} : wp 138 7 [v0, v1, v2, v3, v4] (.int y :: .int x :: st) h Q = if y ≤ x then wp 138 62 [v0, v1, v2, v3, v4] st h Q else wp 138 10 [v0, v1, v2, v3, v4] st h Q := wp_icmpP (by decide +kernel : ab_cod 138 7 = some (.if_icmp .ge 55, 3, 62, 0, 0, 0)) rfl
set_option maxRecDepth 100000 in
theorem i138_10 {v0 v1 v2 v3 v4 : Value} {st : List Value} {h : ab_Hp} {Q : ab_O → ab_Hp → Prop} : wp 138 10 [v0, v1, v2, v3, v4] st h Q = wp 138 11 [v0, v1, v2, v3, v4] (.int (nI 0) :: st) h Q := wp_stp (ri := (.iconst 0, 1, 0, 0, 0, 0)) (by decide +kernel) rfl rfl rfl
set_option maxRecDepth 100000 in
theorem i138_11 {v0 v1 v2 v3 v4 : Value} {w : Int32} {st : List Value} {h : ab_Hp} {Q : ab_O → ab_Hp → Prop} : wp 138 11 [v0, v1, v2, v3, v4] (.int w :: st) h Q = wp 138 13 [v0, v1, v2, ab_clr v3, .int w] st h Q := wp_stp (ri := (.istore 4, 2, 0, 0, 0, 0)) (by decide +kernel) rfl rfl rfl
set_option maxRecDepth 100000 in
theorem i138_13 {v0 v1 v2 v3 : Value} {x : Int32} {st : List Value} {h : ab_Hp} {Q : ab_O → ab_Hp → Prop} : wp 138 13 [v0, v1, v2, v3, .int x] st h Q = wp 138 15 [v0, v1, v2, v3, .int x] (.int x :: st) h Q := wp_stp (ri := (.iload 4, 2, 0, 0, 0, 0)) (by decide +kernel) rfl rfl rfl
set_option maxRecDepth 100000 in
theorem i138_15 {v0 v1 v2 v3 v4 : Value} {st : List Value} {h : ab_Hp} {Q : ab_O → ab_Hp → Prop} (hv : ab_isA v0 = true) : wp 138 15 [v0, v1, v2, v3, v4] st h Q = wp 138 16 [v0, v1, v2, v3, v4] (v0 :: st) h Q := wp_aload_n (by decide +kernel : ab_cod 138 15 = some (.aload_n 0, 1, 0, 0, 0, 0)) hv
set_option maxRecDepth 100000 in
theorem i138_16 {v0 v1 v2 v4 : Value} {x : Int32} {st : List Value} {h : ab_Hp} {Q : ab_O → ab_Hp → Prop} : wp 138 16 [v0, v1, v2, .int x, v4] st h Q = wp 138 17 [v0, v1, v2, .int x, v4] (.int x :: st) h Q := wp_stp (ri := (.iload_n 3, 1, 0, 0, 0, 0)) (by decide +kernel) rfl rfl rfl
set_option maxRecDepth 100000 in
theorem i138_17 {v0 v1 v2 v3 v4 : Value} {st : List Value} {h : ab_Hp} {Q : ab_O → ab_Hp → Prop} : wp 138 17 [v0, v1, v2, v3, v4] st h Q = wp 138 18 [v0, v1, v2, v3, v4] (.int (nI 4) :: st) h Q := wp_stp (ri := (.iconst 4, 1, 0, 0, 0, 0)) (by decide +kernel) rfl rfl rfl
set_option maxRecDepth 100000 in
theorem i138_18 {v0 v1 v2 v3 v4 : Value} {r : Nat} {a0 : Int32} {a1 : Int32} {st : List Value} {h : ab_Hp} {Q : ab_O → ab_Hp → Prop} (hl : st.length ≤ 4) (hk : (ab_sh h r).1 = 17) : wp 138 18 [v0, v1, v2, v3, v4] (.int a1 :: .int a0 :: .ref r :: st) h Q = wp 90 0 [.ref r, .int a0, .int a1] [] h (ab_K 138 18 [v0, v1, v2, v3, v4] st Q) := wp_callV (as := [.int a0, .int a1]) (by decide +kernel : ab_cod 138 18 = some (.invokevirtual 47, 3, 90, 3, 0, 828)) rfl rfl rfl rfl hl hk
set_option maxRecDepth 100000 in
theorem i138_21 {v0 v1 v2 v3 v4 : Value} {x y : Int32} {st : List Value} {h : ab_Hp} {Q : ab_O → ab_Hp → Prop} : wp 138 21 [v0, v1, v2, v3, v4] (.int y :: .int x :: st) h Q = if y ≤ x then wp 138 56 [v0, v1, v2, v3, v4] st h Q else wp 138 24 [v0, v1, v2, v3, v4] st h Q := wp_icmpP (by decide +kernel : ab_cod 138 21 = some (.if_icmp .ge 35, 3, 56, 0, 0, 0)) rfl
set_option maxRecDepth 100000 in
theorem i138_24 {v0 v1 v3 v4 : Value} {x : Int32} {st : List Value} {h : ab_Hp} {Q : ab_O → ab_Hp → Prop} : wp 138 24 [v0, v1, .int x, v3, v4] st h Q = wp 138 25 [v0, v1, .int x, v3, v4] (.int x :: st) h Q := wp_stp (ri := (.iload_n 2, 1, 0, 0, 0, 0)) (by decide +kernel) rfl rfl rfl
set_option maxRecDepth 100000 in
theorem i138_25 {v0 v1 v2 v3 v4 : Value} {x : Int32} {st : List Value} {h : ab_Hp} {Q : ab_O → ab_Hp → Prop} : wp 138 25 [v0, v1, v2, v3, v4] (.int x :: st) h Q = if ¬ x = 0 then wp 138 44 [v0, v1, v2, v3, v4] st h Q else wp 138 28 [v0, v1, v2, v3, v4] st h Q := wp_ifcP (by decide +kernel : ab_cod 138 25 = some (.ifCond .ne 19, 3, 44, 0, 0, 0)) rfl
set_option maxRecDepth 100000 in
theorem i138_28 {v0 v1 v2 v3 v4 : Value} {st : List Value} {h : ab_Hp} {Q : ab_O → ab_Hp → Prop} (hv : ab_isA v0 = true) : wp 138 28 [v0, v1, v2, v3, v4] st h Q = wp 138 29 [v0, v1, v2, v3, v4] (v0 :: st) h Q := wp_aload_n (by decide +kernel : ab_cod 138 28 = some (.aload_n 0, 1, 0, 0, 0, 0)) hv
set_option maxRecDepth 100000 in
theorem i138_29 {v0 v1 v2 v4 : Value} {x : Int32} {st : List Value} {h : ab_Hp} {Q : ab_O → ab_Hp → Prop} : wp 138 29 [v0, v1, v2, .int x, v4] st h Q = wp 138 30 [v0, v1, v2, .int x, v4] (.int x :: st) h Q := wp_stp (ri := (.iload_n 3, 1, 0, 0, 0, 0)) (by decide +kernel) rfl rfl rfl
set_option maxRecDepth 100000 in
theorem i138_30 {v0 v1 v2 v3 v4 : Value} {st : List Value} {h : ab_Hp} {Q : ab_O → ab_Hp → Prop} : wp 138 30 [v0, v1, v2, v3, v4] st h Q = wp 138 32 [v0, v1, v2, v3, v4] (.int (nI 11) :: st) h Q := wp_stp (ri := (.bipush 11, 2, 0, 0, 0, 0)) (by decide +kernel) rfl rfl rfl
set_option maxRecDepth 100000 in
theorem i138_32 {v0 v1 v2 v3 v4 : Value} {st : List Value} {h : ab_Hp} {Q : ab_O → ab_Hp → Prop} : wp 138 32 [v0, v1, v2, v3, v4] st h Q = wp 138 33 [v0, v1, v2, v3, v4] (.int (nI 2) :: st) h Q := wp_stp (ri := (.iconst 2, 1, 0, 0, 0, 0)) (by decide +kernel) rfl rfl rfl
set_option maxRecDepth 100000 in
theorem i138_33 {v0 v1 v2 v3 : Value} {x : Int32} {st : List Value} {h : ab_Hp} {Q : ab_O → ab_Hp → Prop} : wp 138 33 [v0, v1, v2, v3, .int x] st h Q = wp 138 35 [v0, v1, v2, v3, .int x] (.int x :: st) h Q := wp_stp (ri := (.iload 4, 2, 0, 0, 0, 0)) (by decide +kernel) rfl rfl rfl
set_option maxRecDepth 100000 in
theorem i138_35 {v0 v1 v2 v3 v4 : Value} {x y : Int32} {st : List Value} {h : ab_Hp} {Q : ab_O → ab_Hp → Prop} : wp 138 35 [v0, v1, v2, v3, v4] (.int y :: .int x :: st) h Q = wp 138 36 [v0, v1, v2, v3, v4] (.int (x * y) :: st) h Q := wp_stp (ri := (.imul, 1, 0, 0, 0, 0)) (by decide +kernel) rfl rfl rfl
set_option maxRecDepth 100000 in
theorem i138_36 {v0 v1 v2 v3 v4 : Value} {x y : Int32} {st : List Value} {h : ab_Hp} {Q : ab_O → ab_Hp → Prop} : wp 138 36 [v0, v1, v2, v3, v4] (.int y :: .int x :: st) h Q = wp 138 37 [v0, v1, v2, v3, v4] (.int (x + y) :: st) h Q := wp_stp (ri := (.iadd, 1, 0, 0, 0, 0)) (by decide +kernel) rfl rfl rfl
set_option maxRecDepth 100000 in
theorem i138_37 {v0 v1 v2 v3 v4 : Value} {r : Nat} {a0 : Int32} {a1 : Int32} {st : List Value} {h : ab_Hp} {Q : ab_O → ab_Hp → Prop} (hl : st.length ≤ 4) (hk : (ab_sh h r).1 = 17) : wp 138 37 [v0, v1, v2, v3, v4] (.int a1 :: .int a0 :: .ref r :: st) h Q = wp 90 0 [.ref r, .int a0, .int a1] [] h (ab_K 138 37 [v0, v1, v2, v3, v4] st Q) := wp_callV (as := [.int a0, .int a1]) (by decide +kernel : ab_cod 138 37 = some (.invokevirtual 47, 3, 90, 3, 0, 828)) rfl rfl rfl rfl hl hk
set_option maxRecDepth 100000 in
theorem i138_40 {v0 v2 v3 v4 : Value} {x : Int32} {st : List Value} {h : ab_Hp} {Q : ab_O → ab_Hp → Prop} : wp 138 40 [v0, .int x, v2, v3, v4] st h Q = wp 138 41 [v0, .int x, v2, v3, v4] (.int x :: st) h Q := wp_stp (ri := (.iload_n 1, 1, 0, 0, 0, 0)) (by decide +kernel) rfl rfl rfl
set_option maxRecDepth 100000 in
theorem i138_41 {v0 v1 v2 v3 v4 : Value} {x y : Int32} {st : List Value} {h : ab_Hp} {Q : ab_O → ab_Hp → Prop} : wp 138 41 [v0, v1, v2, v3, v4] (.int y :: .int x :: st) h Q = if ¬ x = y then wp 138 48 [v0, v1, v2, v3, v4] st h Q else wp 138 44 [v0, v1, v2, v3, v4] st h Q := wp_icmpP (by decide +kernel : ab_cod 138 41 = some (.if_icmp .ne 7, 3, 48, 0, 0, 0)) rfl
set_option maxRecDepth 100000 in
theorem i138_44 {v0 v1 v2 v3 v4 : Value} {st : List Value} {h : ab_Hp} {Q : ab_O → ab_Hp → Prop} : wp 138 44 [v0, v1, v2, v3, v4] st h Q = wp 138 45 [v0, v1, v2, v3, v4] (.int (nI 1) :: st) h Q := wp_stp (ri := (.iconst 1, 1, 0, 0, 0, 0)) (by decide +kernel) rfl rfl rfl
set_option maxRecDepth 100000 in
theorem i138_45 {v0 v1 v2 v3 v4 : Value} {st : List Value} {h : ab_Hp} {Q : ab_O → ab_Hp → Prop} : wp 138 45 [v0, v1, v2, v3, v4] st h Q = wp 138 49 [v0, v1, v2, v3, v4] st h Q := wp_stp (ri := (.goto 4, 3, 49, 0, 0, 0)) (by decide +kernel) rfl rfl rfl
set_option maxRecDepth 100000 in
theorem i138_48 {v0 v1 v2 v3 v4 : Value} {st : List Value} {h : ab_Hp} {Q : ab_O → ab_Hp → Prop} : wp 138 48 [v0, v1, v2, v3, v4] st h Q = wp 138 49 [v0, v1, v2, v3, v4] (.int (nI 0) :: st) h Q := wp_stp (ri := (.iconst 0, 1, 0, 0, 0, 0)) (by decide +kernel) rfl rfl rfl
set_option maxRecDepth 100000 in
theorem i138_49 {v0 v1 v2 v3 v4 : Value} {w : Int32} {st : List Value} {h : ab_Hp} {Q : ab_O → ab_Hp → Prop} : wp 138 49 [v0, v1, v2, v3, v4] (.int w :: st) h Q = wp 138 50 [v0, ab_clr v1, .int w, v3, v4] st h Q := wp_stp (ri := (.istore_n 2, 1, 0, 0, 0, 0)) (by decide +kernel) rfl rfl rfl
set_option maxRecDepth 100000 in
theorem i138_50 {v0 v1 v2 v3 : Value} {x : Int32} {st : List Value} {h : ab_Hp} {Q : ab_O → ab_Hp → Prop} : wp 138 50 [v0, v1, v2, v3, .int x] st h Q = wp 138 53 [v0, v1, v2, ab_clr v3, .int (x + nI 1)] st h Q := wp_stp (ri := (.iinc 4 1, 3, 0, 0, 0, 0)) (by decide +kernel) rfl rfl rfl
set_option maxRecDepth 100000 in
theorem i138_53 {v0 v1 v2 v3 v4 : Value} {st : List Value} {h : ab_Hp} {Q : ab_O → ab_Hp → Prop} : wp 138 53 [v0, v1, v2, v3, v4] st h Q = wp 138 13 [v0, v1, v2, v3, v4] st h Q := wp_stp (ri := (.goto (-40), 3, 13, 0, 0, 0)) (by decide +kernel) rfl rfl rfl
set_option maxRecDepth 100000 in
theorem i138_56 {v0 v1 v2 v4 : Value} {x : Int32} {st : List Value} {h : ab_Hp} {Q : ab_O → ab_Hp → Prop} : wp 138 56 [v0, v1, v2, .int x, v4] st h Q = wp 138 59 [v0, v1, ab_clr v2, .int (x + nI 1), v4] st h Q := wp_stp (ri := (.iinc 3 1, 3, 0, 0, 0, 0)) (by decide +kernel) rfl rfl rfl
set_option maxRecDepth 100000 in
theorem i138_59 {v0 v1 v2 v3 v4 : Value} {st : List Value} {h : ab_Hp} {Q : ab_O → ab_Hp → Prop} : wp 138 59 [v0, v1, v2, v3, v4] st h Q = wp 138 4 [v0, v1, v2, v3, v4] st h Q := wp_stp (ri := (.goto (-55), 3, 4, 0, 0, 0)) (by decide +kernel) rfl rfl rfl
set_option maxRecDepth 100000 in
theorem i138_62 {v0 v1 v2 v3 v4 : Value} {st : List Value} {h : ab_Hp} {Q : ab_O → ab_Hp → Prop} : wp 138 62 [v0, v1, v2, v3, v4] st h Q = wp 138 63 [v0, v1, v2, v3, v4] (.int (nI 0) :: st) h Q := wp_stp (ri := (.iconst 0, 1, 0, 0, 0, 0)) (by decide +kernel) rfl rfl rfl
set_option maxRecDepth 100000 in
theorem i138_63 {v0 v1 v2 v3 v4 : Value} {w : Int32} {st : List Value} {h : ab_Hp} {Q : ab_O → ab_Hp → Prop} : wp 138 63 [v0, v1, v2, v3, v4] (.int w :: st) h Q = wp 138 64 [v0, v1, ab_clr v2, .int w, v4] st h Q := wp_stp (ri := (.istore_n 3, 1, 0, 0, 0, 0)) (by decide +kernel) rfl rfl rfl
set_option maxRecDepth 100000 in
theorem i138_64 {v0 v1 v2 v4 : Value} {x : Int32} {st : List Value} {h : ab_Hp} {Q : ab_O → ab_Hp → Prop} : wp 138 64 [v0, v1, v2, .int x, v4] st h Q = wp 138 65 [v0, v1, v2, .int x, v4] (.int x :: st) h Q := wp_stp (ri := (.iload_n 3, 1, 0, 0, 0, 0)) (by decide +kernel) rfl rfl rfl
set_option maxRecDepth 100000 in
theorem i138_65 {v0 v1 v2 v3 v4 : Value} {st : List Value} {h : ab_Hp} {Q : ab_O → ab_Hp → Prop} (hv : ab_isA v0 = true) : wp 138 65 [v0, v1, v2, v3, v4] st h Q = wp 138 66 [v0, v1, v2, v3, v4] (v0 :: st) h Q := wp_aload_n (by decide +kernel : ab_cod 138 65 = some (.aload_n 0, 1, 0, 0, 0, 0)) hv
set_option maxRecDepth 100000 in
theorem i138_66 {v0 v1 v2 v3 v4 : Value} {r : Nat} {st : List Value} {h : ab_Hp} {Q : ab_O → ab_Hp → Prop} (hk : (ab_sh h r).1 = 17) : wp 138 66 [v0, v1, v2, v3, v4] (.ref r :: st) h Q = wp 138 69 [v0, v1, v2, v3, v4] (va_rf (ab_hr h r 1) :: st) h Q := wp_gf (by decide +kernel : ab_cod 138 66 = some (.getfield 7, 3, 7, 1, 773, 1)) hk
set_option maxRecDepth 100000 in
theorem i138_69 {v0 v1 v2 v3 v4 : Value} {st : List Value} {h : ab_Hp} {Q : ab_O → ab_Hp → Prop} : wp 138 69 [v0, v1, v2, v3, v4] st h Q = wp 138 70 [v0, v1, v2, v3, v4] (.int (nI 5) :: st) h Q := wp_stp (ri := (.iconst 5, 1, 0, 0, 0, 0)) (by decide +kernel) rfl rfl rfl
set_option maxRecDepth 100000 in
theorem i138_70 {v0 v1 v2 v3 v4 : Value} {r : Nat} {x : Int32} {st : List Value} {h : ab_Hp} {Q : ab_O → ab_Hp → Prop} (hk : ((ab_sh h r).1 = 1 ∨ (ab_sh h r).1 = 6) ∧ ab_in x (ab_sh h r).2 = true) : wp 138 70 [v0, v1, v2, v3, v4] (.int x :: .ref r :: st) h Q = wp 138 71 [v0, v1, v2, v3, v4] (.int (ab_hi h r x.toNatClampNeg) :: st) h Q := wp_ia (by decide +kernel : ab_cod 138 70 = some (.iaload, 1, 0, 0, 0, 0)) hk
set_option maxRecDepth 100000 in
theorem i138_71 {v0 v1 v2 v3 v4 : Value} {x y : Int32} {st : List Value} {h : ab_Hp} {Q : ab_O → ab_Hp → Prop} : wp 138 71 [v0, v1, v2, v3, v4] (.int y :: .int x :: st) h Q = if y ≤ x then wp 138 126 [v0, v1, v2, v3, v4] st h Q else wp 138 74 [v0, v1, v2, v3, v4] st h Q := wp_icmpP (by decide +kernel : ab_cod 138 71 = some (.if_icmp .ge 55, 3, 126, 0, 0, 0)) rfl
set_option maxRecDepth 100000 in
theorem i138_74 {v0 v1 v2 v3 v4 : Value} {st : List Value} {h : ab_Hp} {Q : ab_O → ab_Hp → Prop} : wp 138 74 [v0, v1, v2, v3, v4] st h Q = wp 138 75 [v0, v1, v2, v3, v4] (.int (nI 0) :: st) h Q := wp_stp (ri := (.iconst 0, 1, 0, 0, 0, 0)) (by decide +kernel) rfl rfl rfl
set_option maxRecDepth 100000 in
theorem i138_75 {v0 v1 v2 v3 v4 : Value} {w : Int32} {st : List Value} {h : ab_Hp} {Q : ab_O → ab_Hp → Prop} : wp 138 75 [v0, v1, v2, v3, v4] (.int w :: st) h Q = wp 138 77 [v0, v1, v2, ab_clr v3, .int w] st h Q := wp_stp (ri := (.istore 4, 2, 0, 0, 0, 0)) (by decide +kernel) rfl rfl rfl
set_option maxRecDepth 100000 in
theorem i138_77 {v0 v1 v2 v3 : Value} {x : Int32} {st : List Value} {h : ab_Hp} {Q : ab_O → ab_Hp → Prop} : wp 138 77 [v0, v1, v2, v3, .int x] st h Q = wp 138 79 [v0, v1, v2, v3, .int x] (.int x :: st) h Q := wp_stp (ri := (.iload 4, 2, 0, 0, 0, 0)) (by decide +kernel) rfl rfl rfl
set_option maxRecDepth 100000 in
theorem i138_79 {v0 v1 v2 v3 v4 : Value} {st : List Value} {h : ab_Hp} {Q : ab_O → ab_Hp → Prop} (hv : ab_isA v0 = true) : wp 138 79 [v0, v1, v2, v3, v4] st h Q = wp 138 80 [v0, v1, v2, v3, v4] (v0 :: st) h Q := wp_aload_n (by decide +kernel : ab_cod 138 79 = some (.aload_n 0, 1, 0, 0, 0, 0)) hv
set_option maxRecDepth 100000 in
theorem i138_80 {v0 v1 v2 v4 : Value} {x : Int32} {st : List Value} {h : ab_Hp} {Q : ab_O → ab_Hp → Prop} : wp 138 80 [v0, v1, v2, .int x, v4] st h Q = wp 138 81 [v0, v1, v2, .int x, v4] (.int x :: st) h Q := wp_stp (ri := (.iload_n 3, 1, 0, 0, 0, 0)) (by decide +kernel) rfl rfl rfl
set_option maxRecDepth 100000 in
theorem i138_81 {v0 v1 v2 v3 v4 : Value} {st : List Value} {h : ab_Hp} {Q : ab_O → ab_Hp → Prop} : wp 138 81 [v0, v1, v2, v3, v4] st h Q = wp 138 82 [v0, v1, v2, v3, v4] (.int (nI 4) :: st) h Q := wp_stp (ri := (.iconst 4, 1, 0, 0, 0, 0)) (by decide +kernel) rfl rfl rfl
set_option maxRecDepth 100000 in
theorem i138_82 {v0 v1 v2 v3 v4 : Value} {r : Nat} {a0 : Int32} {a1 : Int32} {st : List Value} {h : ab_Hp} {Q : ab_O → ab_Hp → Prop} (hl : st.length ≤ 4) (hk : (ab_sh h r).1 = 17) : wp 138 82 [v0, v1, v2, v3, v4] (.int a1 :: .int a0 :: .ref r :: st) h Q = wp 92 0 [.ref r, .int a0, .int a1] [] h (ab_K 138 82 [v0, v1, v2, v3, v4] st Q) := wp_callV (as := [.int a0, .int a1]) (by decide +kernel : ab_cod 138 82 = some (.invokevirtual 61, 3, 92, 3, 0, 860)) rfl rfl rfl rfl hl hk
set_option maxRecDepth 100000 in
theorem i138_85 {v0 v1 v2 v3 v4 : Value} {x y : Int32} {st : List Value} {h : ab_Hp} {Q : ab_O → ab_Hp → Prop} : wp 138 85 [v0, v1, v2, v3, v4] (.int y :: .int x :: st) h Q = if y ≤ x then wp 138 120 [v0, v1, v2, v3, v4] st h Q else wp 138 88 [v0, v1, v2, v3, v4] st h Q := wp_icmpP (by decide +kernel : ab_cod 138 85 = some (.if_icmp .ge 35, 3, 120, 0, 0, 0)) rfl
set_option maxRecDepth 100000 in
theorem i138_88 {v0 v1 v3 v4 : Value} {x : Int32} {st : List Value} {h : ab_Hp} {Q : ab_O → ab_Hp → Prop} : wp 138 88 [v0, v1, .int x, v3, v4] st h Q = wp 138 89 [v0, v1, .int x, v3, v4] (.int x :: st) h Q := wp_stp (ri := (.iload_n 2, 1, 0, 0, 0, 0)) (by decide +kernel) rfl rfl rfl
set_option maxRecDepth 100000 in
theorem i138_89 {v0 v1 v2 v3 v4 : Value} {x : Int32} {st : List Value} {h : ab_Hp} {Q : ab_O → ab_Hp → Prop} : wp 138 89 [v0, v1, v2, v3, v4] (.int x :: st) h Q = if ¬ x = 0 then wp 138 108 [v0, v1, v2, v3, v4] st h Q else wp 138 92 [v0, v1, v2, v3, v4] st h Q := wp_ifcP (by decide +kernel : ab_cod 138 89 = some (.ifCond .ne 19, 3, 108, 0, 0, 0)) rfl
set_option maxRecDepth 100000 in
theorem i138_92 {v0 v1 v2 v3 v4 : Value} {st : List Value} {h : ab_Hp} {Q : ab_O → ab_Hp → Prop} (hv : ab_isA v0 = true) : wp 138 92 [v0, v1, v2, v3, v4] st h Q = wp 138 93 [v0, v1, v2, v3, v4] (v0 :: st) h Q := wp_aload_n (by decide +kernel : ab_cod 138 92 = some (.aload_n 0, 1, 0, 0, 0, 0)) hv
set_option maxRecDepth 100000 in
theorem i138_93 {v0 v1 v2 v4 : Value} {x : Int32} {st : List Value} {h : ab_Hp} {Q : ab_O → ab_Hp → Prop} : wp 138 93 [v0, v1, v2, .int x, v4] st h Q = wp 138 94 [v0, v1, v2, .int x, v4] (.int x :: st) h Q := wp_stp (ri := (.iload_n 3, 1, 0, 0, 0, 0)) (by decide +kernel) rfl rfl rfl
set_option maxRecDepth 100000 in
theorem i138_94 {v0 v1 v2 v3 v4 : Value} {st : List Value} {h : ab_Hp} {Q : ab_O → ab_Hp → Prop} : wp 138 94 [v0, v1, v2, v3, v4] st h Q = wp 138 96 [v0, v1, v2, v3, v4] (.int (nI 6) :: st) h Q := wp_stp (ri := (.bipush 6, 2, 0, 0, 0, 0)) (by decide +kernel) rfl rfl rfl
set_option maxRecDepth 100000 in
theorem i138_96 {v0 v1 v2 v3 v4 : Value} {st : List Value} {h : ab_Hp} {Q : ab_O → ab_Hp → Prop} : wp 138 96 [v0, v1, v2, v3, v4] st h Q = wp 138 97 [v0, v1, v2, v3, v4] (.int (nI 3) :: st) h Q := wp_stp (ri := (.iconst 3, 1, 0, 0, 0, 0)) (by decide +kernel) rfl rfl rfl
set_option maxRecDepth 100000 in
theorem i138_97 {v0 v1 v2 v3 : Value} {x : Int32} {st : List Value} {h : ab_Hp} {Q : ab_O → ab_Hp → Prop} : wp 138 97 [v0, v1, v2, v3, .int x] st h Q = wp 138 99 [v0, v1, v2, v3, .int x] (.int x :: st) h Q := wp_stp (ri := (.iload 4, 2, 0, 0, 0, 0)) (by decide +kernel) rfl rfl rfl
set_option maxRecDepth 100000 in
theorem i138_99 {v0 v1 v2 v3 v4 : Value} {x y : Int32} {st : List Value} {h : ab_Hp} {Q : ab_O → ab_Hp → Prop} : wp 138 99 [v0, v1, v2, v3, v4] (.int y :: .int x :: st) h Q = wp 138 100 [v0, v1, v2, v3, v4] (.int (x * y) :: st) h Q := wp_stp (ri := (.imul, 1, 0, 0, 0, 0)) (by decide +kernel) rfl rfl rfl
set_option maxRecDepth 100000 in
theorem i138_100 {v0 v1 v2 v3 v4 : Value} {x y : Int32} {st : List Value} {h : ab_Hp} {Q : ab_O → ab_Hp → Prop} : wp 138 100 [v0, v1, v2, v3, v4] (.int y :: .int x :: st) h Q = wp 138 101 [v0, v1, v2, v3, v4] (.int (x + y) :: st) h Q := wp_stp (ri := (.iadd, 1, 0, 0, 0, 0)) (by decide +kernel) rfl rfl rfl
set_option maxRecDepth 100000 in
theorem i138_101 {v0 v1 v2 v3 v4 : Value} {r : Nat} {a0 : Int32} {a1 : Int32} {st : List Value} {h : ab_Hp} {Q : ab_O → ab_Hp → Prop} (hl : st.length ≤ 4) (hk : (ab_sh h r).1 = 17) : wp 138 101 [v0, v1, v2, v3, v4] (.int a1 :: .int a0 :: .ref r :: st) h Q = wp 92 0 [.ref r, .int a0, .int a1] [] h (ab_K 138 101 [v0, v1, v2, v3, v4] st Q) := wp_callV (as := [.int a0, .int a1]) (by decide +kernel : ab_cod 138 101 = some (.invokevirtual 61, 3, 92, 3, 0, 860)) rfl rfl rfl rfl hl hk
set_option maxRecDepth 100000 in
theorem i138_104 {v0 v2 v3 v4 : Value} {x : Int32} {st : List Value} {h : ab_Hp} {Q : ab_O → ab_Hp → Prop} : wp 138 104 [v0, .int x, v2, v3, v4] st h Q = wp 138 105 [v0, .int x, v2, v3, v4] (.int x :: st) h Q := wp_stp (ri := (.iload_n 1, 1, 0, 0, 0, 0)) (by decide +kernel) rfl rfl rfl
set_option maxRecDepth 100000 in
theorem i138_105 {v0 v1 v2 v3 v4 : Value} {x y : Int32} {st : List Value} {h : ab_Hp} {Q : ab_O → ab_Hp → Prop} : wp 138 105 [v0, v1, v2, v3, v4] (.int y :: .int x :: st) h Q = if ¬ x = y then wp 138 112 [v0, v1, v2, v3, v4] st h Q else wp 138 108 [v0, v1, v2, v3, v4] st h Q := wp_icmpP (by decide +kernel : ab_cod 138 105 = some (.if_icmp .ne 7, 3, 112, 0, 0, 0)) rfl
set_option maxRecDepth 100000 in
theorem i138_108 {v0 v1 v2 v3 v4 : Value} {st : List Value} {h : ab_Hp} {Q : ab_O → ab_Hp → Prop} : wp 138 108 [v0, v1, v2, v3, v4] st h Q = wp 138 109 [v0, v1, v2, v3, v4] (.int (nI 1) :: st) h Q := wp_stp (ri := (.iconst 1, 1, 0, 0, 0, 0)) (by decide +kernel) rfl rfl rfl
set_option maxRecDepth 100000 in
theorem i138_109 {v0 v1 v2 v3 v4 : Value} {st : List Value} {h : ab_Hp} {Q : ab_O → ab_Hp → Prop} : wp 138 109 [v0, v1, v2, v3, v4] st h Q = wp 138 113 [v0, v1, v2, v3, v4] st h Q := wp_stp (ri := (.goto 4, 3, 113, 0, 0, 0)) (by decide +kernel) rfl rfl rfl
set_option maxRecDepth 100000 in
theorem i138_112 {v0 v1 v2 v3 v4 : Value} {st : List Value} {h : ab_Hp} {Q : ab_O → ab_Hp → Prop} : wp 138 112 [v0, v1, v2, v3, v4] st h Q = wp 138 113 [v0, v1, v2, v3, v4] (.int (nI 0) :: st) h Q := wp_stp (ri := (.iconst 0, 1, 0, 0, 0, 0)) (by decide +kernel) rfl rfl rfl
set_option maxRecDepth 100000 in
theorem i138_113 {v0 v1 v2 v3 v4 : Value} {w : Int32} {st : List Value} {h : ab_Hp} {Q : ab_O → ab_Hp → Prop} : wp 138 113 [v0, v1, v2, v3, v4] (.int w :: st) h Q = wp 138 114 [v0, ab_clr v1, .int w, v3, v4] st h Q := wp_stp (ri := (.istore_n 2, 1, 0, 0, 0, 0)) (by decide +kernel) rfl rfl rfl
set_option maxRecDepth 100000 in
theorem i138_114 {v0 v1 v2 v3 : Value} {x : Int32} {st : List Value} {h : ab_Hp} {Q : ab_O → ab_Hp → Prop} : wp 138 114 [v0, v1, v2, v3, .int x] st h Q = wp 138 117 [v0, v1, v2, ab_clr v3, .int (x + nI 1)] st h Q := wp_stp (ri := (.iinc 4 1, 3, 0, 0, 0, 0)) (by decide +kernel) rfl rfl rfl
set_option maxRecDepth 100000 in
theorem i138_117 {v0 v1 v2 v3 v4 : Value} {st : List Value} {h : ab_Hp} {Q : ab_O → ab_Hp → Prop} : wp 138 117 [v0, v1, v2, v3, v4] st h Q = wp 138 77 [v0, v1, v2, v3, v4] st h Q := wp_stp (ri := (.goto (-40), 3, 77, 0, 0, 0)) (by decide +kernel) rfl rfl rfl
set_option maxRecDepth 100000 in
theorem i138_120 {v0 v1 v2 v4 : Value} {x : Int32} {st : List Value} {h : ab_Hp} {Q : ab_O → ab_Hp → Prop} : wp 138 120 [v0, v1, v2, .int x, v4] st h Q = wp 138 123 [v0, v1, ab_clr v2, .int (x + nI 1), v4] st h Q := wp_stp (ri := (.iinc 3 1, 3, 0, 0, 0, 0)) (by decide +kernel) rfl rfl rfl
set_option maxRecDepth 100000 in
theorem i138_123 {v0 v1 v2 v3 v4 : Value} {st : List Value} {h : ab_Hp} {Q : ab_O → ab_Hp → Prop} : wp 138 123 [v0, v1, v2, v3, v4] st h Q = wp 138 64 [v0, v1, v2, v3, v4] st h Q := wp_stp (ri := (.goto (-59), 3, 64, 0, 0, 0)) (by decide +kernel) rfl rfl rfl
set_option maxRecDepth 100000 in
theorem i138_126 {v0 v1 v3 v4 : Value} {x : Int32} {st : List Value} {h : ab_Hp} {Q : ab_O → ab_Hp → Prop} : wp 138 126 [v0, v1, .int x, v3, v4] st h Q = wp 138 127 [v0, v1, .int x, v3, v4] (.int x :: st) h Q := wp_stp (ri := (.iload_n 2, 1, 0, 0, 0, 0)) (by decide +kernel) rfl rfl rfl
set_option maxRecDepth 100000 in
theorem i138_127 {v0 v1 v2 v3 v4 : Value} {x : Int32} {h : ab_Hp} {Q : ab_O → ab_Hp → Prop} (hx : x = 0 ∨ x = 1) : wp 138 127 [v0, v1, v2, v3, v4] [.int x] h Q = Q (.inl (some (.int x))) h := wp_zret (by decide +kernel : ab_cod 138 127 = some (.ireturn, 1, 0, 0, 0, 0)) rfl hx
/-! 139: SeamBeatsModel.outOf(I)I -/
theorem i139_0 {v0 v1 v2 : Value} {st : List Value} {h : ab_Hp} {Q : ab_O → ab_Hp → Prop} (hv : ab_isA v0 = true) : wp 139 0 [v0, v1, v2] st h Q = wp 139 1 [v0, v1, v2] (v0 :: st) h Q := wp_aload_n (by decide +kernel : ab_cod 139 0 = some (.aload_n 0, 1, 0, 0, 0, 0)) hv
theorem i139_1 {v0 v1 v2 : Value} {r : Nat} {st : List Value} {h : ab_Hp} {Q : ab_O → ab_Hp → Prop} (hl : st.length ≤ 4) (hk : (ab_sh h r).1 = 17) : wp 139 1 [v0, v1, v2] (.ref r :: st) h Q = wp 96 0 [.ref r, ab_nov] [] h (ab_K 139 1 [v0, v1, v2] st Q) := wp_callV (as := []) (by decide +kernel : ab_cod 139 1 = some (.invokevirtual 142, 3, 96, 1, 0, 1000)) rfl rfl rfl rfl hl hk
theorem i139_4 {v0 v1 v2 : Value} {st : List Value} {h : ab_Hp} {Q : ab_O → ab_Hp → Prop} : wp 139 4 [v0, v1, v2] st h Q = wp 139 5 [v0, v1, v2] (.int (nI 0) :: st) h Q := wp_stp (ri := (.iconst 0, 1, 0, 0, 0, 0)) (by decide +kernel) rfl rfl rfl
theorem i139_5 {v0 v1 v2 : Value} {w : Int32} {st : List Value} {h : ab_Hp} {Q : ab_O → ab_Hp → Prop} : wp 139 5 [v0, v1, v2] (.int w :: st) h Q = wp 139 6 [v0, ab_clr v1, .int w] st h Q := wp_stp (ri := (.istore_n 2, 1, 0, 0, 0, 0)) (by decide +kernel) rfl rfl rfl
theorem i139_6 {v0 v1 : Value} {x : Int32} {st : List Value} {h : ab_Hp} {Q : ab_O → ab_Hp → Prop} : wp 139 6 [v0, v1, .int x] st h Q = wp 139 7 [v0, v1, .int x] (.int x :: st) h Q := wp_stp (ri := (.iload_n 2, 1, 0, 0, 0, 0)) (by decide +kernel) rfl rfl rfl
theorem i139_7 {v0 v1 v2 : Value} {st : List Value} {h : ab_Hp} {Q : ab_O → ab_Hp → Prop} : wp 139 7 [v0, v1, v2] st h Q = wp 139 10 [v0, v1, v2] (.int (nI 300) :: st) h Q := wp_stp (ri := (.sipush 300, 3, 0, 0, 0, 0)) (by decide +kernel) rfl rfl rfl
theorem i139_10 {v0 v1 v2 : Value} {x y : Int32} {st : List Value} {h : ab_Hp} {Q : ab_O → ab_Hp → Prop} : wp 139 10 [v0, v1, v2] (.int y :: .int x :: st) h Q = if y < x then wp 139 31 [v0, v1, v2] st h Q else wp 139 13 [v0, v1, v2] st h Q := wp_icmpP (by decide +kernel : ab_cod 139 10 = some (.if_icmp .gt 21, 3, 31, 0, 0, 0)) rfl
theorem i139_13 {v0 v1 v2 : Value} {st : List Value} {h : ab_Hp} {Q : ab_O → ab_Hp → Prop} (hv : ab_isA v0 = true) : wp 139 13 [v0, v1, v2] st h Q = wp 139 14 [v0, v1, v2] (v0 :: st) h Q := wp_aload_n (by decide +kernel : ab_cod 139 13 = some (.aload_n 0, 1, 0, 0, 0, 0)) hv
theorem i139_14 {v0 v2 : Value} {x : Int32} {st : List Value} {h : ab_Hp} {Q : ab_O → ab_Hp → Prop} : wp 139 14 [v0, .int x, v2] st h Q = wp 139 15 [v0, .int x, v2] (.int x :: st) h Q := wp_stp (ri := (.iload_n 1, 1, 0, 0, 0, 0)) (by decide +kernel) rfl rfl rfl
theorem i139_15 {v0 v1 v2 : Value} {r : Nat} {a0 : Int32} {st : List Value} {h : ab_Hp} {Q : ab_O → ab_Hp → Prop} (hl : st.length ≤ 4) (hk : (ab_sh h r).1 = 17) : wp 139 15 [v0, v1, v2] (.int a0 :: .ref r :: st) h Q = wp 138 0 [.ref r, .int a0, ab_nov, ab_nov, ab_nov] [] h (ab_K 139 15 [v0, v1, v2] st Q) := wp_callV (as := [.int a0]) (by decide +kernel : ab_cod 139 15 = some (.invokevirtual 151, 3, 138, 2, 0, 1016)) rfl rfl rfl rfl hl hk
theorem i139_18 {v0 v1 v2 : Value} {x : Int32} {st : List Value} {h : ab_Hp} {Q : ab_O → ab_Hp → Prop} : wp 139 18 [v0, v1, v2] (.int x :: st) h Q = if x = 0 then wp 139 31 [v0, v1, v2] st h Q else wp 139 21 [v0, v1, v2] st h Q := wp_ifcP (by decide +kernel : ab_cod 139 18 = some (.ifCond .eq 13, 3, 31, 0, 0, 0)) rfl
theorem i139_21 {v0 v1 v2 : Value} {st : List Value} {h : ab_Hp} {Q : ab_O → ab_Hp → Prop} (hv : ab_isA v0 = true) : wp 139 21 [v0, v1, v2] st h Q = wp 139 22 [v0, v1, v2] (v0 :: st) h Q := wp_aload_n (by decide +kernel : ab_cod 139 21 = some (.aload_n 0, 1, 0, 0, 0, 0)) hv
theorem i139_22 {v0 v1 v2 : Value} {r : Nat} {st : List Value} {h : ab_Hp} {Q : ab_O → ab_Hp → Prop} (hl : st.length ≤ 4) (hk : (ab_sh h r).1 = 17) : wp 139 22 [v0, v1, v2] (.ref r :: st) h Q = wp 112 0 [.ref r, ab_nov] [] h (ab_K 139 22 [v0, v1, v2] st Q) := wp_callV (as := []) (by decide +kernel : ab_cod 139 22 = some (.invokevirtual 87, 3, 112, 1, 0, 876)) rfl rfl rfl rfl hl hk
theorem i139_25 {v0 v1 : Value} {x : Int32} {st : List Value} {h : ab_Hp} {Q : ab_O → ab_Hp → Prop} : wp 139 25 [v0, v1, .int x] st h Q = wp 139 28 [v0, ab_clr v1, .int (x + nI 1)] st h Q := wp_stp (ri := (.iinc 2 1, 3, 0, 0, 0, 0)) (by decide +kernel) rfl rfl rfl
theorem i139_28 {v0 v1 v2 : Value} {st : List Value} {h : ab_Hp} {Q : ab_O → ab_Hp → Prop} : wp 139 28 [v0, v1, v2] st h Q = wp 139 6 [v0, v1, v2] st h Q := wp_stp (ri := (.goto (-22), 3, 6, 0, 0, 0)) (by decide +kernel) rfl rfl rfl
theorem i139_31 {v0 v1 v2 : Value} {st : List Value} {h : ab_Hp} {Q : ab_O → ab_Hp → Prop} (hv : ab_isA v0 = true) : wp 139 31 [v0, v1, v2] st h Q = wp 139 32 [v0, v1, v2] (v0 :: st) h Q := wp_aload_n (by decide +kernel : ab_cod 139 31 = some (.aload_n 0, 1, 0, 0, 0, 0)) hv
theorem i139_32 {v0 v1 v2 : Value} {r : Nat} {st : List Value} {h : ab_Hp} {Q : ab_O → ab_Hp → Prop} (hl : st.length ≤ 4) (hk : (ab_sh h r).1 = 17) : wp 139 32 [v0, v1, v2] (.ref r :: st) h Q = wp 97 0 [.ref r, ab_nov] [] h (ab_K 139 32 [v0, v1, v2] st Q) := wp_callV (as := []) (by decide +kernel : ab_cod 139 32 = some (.invokevirtual 145, 3, 97, 1, 0, 1004)) rfl rfl rfl rfl hl hk
theorem i139_35 {v0 v1 : Value} {x : Int32} {st : List Value} {h : ab_Hp} {Q : ab_O → ab_Hp → Prop} : wp 139 35 [v0, v1, .int x] st h Q = wp 139 36 [v0, v1, .int x] (.int x :: st) h Q := wp_stp (ri := (.iload_n 2, 1, 0, 0, 0, 0)) (by decide +kernel) rfl rfl rfl
theorem i139_36 {v0 v1 v2 : Value} {st : List Value} {h : ab_Hp} {Q : ab_O → ab_Hp → Prop} : wp 139 36 [v0, v1, v2] st h Q = wp 139 39 [v0, v1, v2] (.int (nI 300) :: st) h Q := wp_stp (ri := (.sipush 300, 3, 0, 0, 0, 0)) (by decide +kernel) rfl rfl rfl
theorem i139_39 {v0 v1 v2 : Value} {x y : Int32} {st : List Value} {h : ab_Hp} {Q : ab_O → ab_Hp → Prop} : wp 139 39 [v0, v1, v2] (.int y :: .int x :: st) h Q = if x ≤ y then wp 139 46 [v0, v1, v2] st h Q else wp 139 42 [v0, v1, v2] st h Q := wp_icmpP (by decide +kernel : ab_cod 139 39 = some (.if_icmp .le 7, 3, 46, 0, 0, 0)) rfl
theorem i139_42 {v0 v1 v2 : Value} {st : List Value} {h : ab_Hp} {Q : ab_O → ab_Hp → Prop} : wp 139 42 [v0, v1, v2] st h Q = wp 139 43 [v0, v1, v2] (.int ((-1)) :: st) h Q := wp_stp (ri := (.iconst (-1), 1, 0, 0, 0, 0)) (by decide +kernel) rfl rfl rfl
theorem i139_43 {v0 v1 v2 : Value} {st : List Value} {h : ab_Hp} {Q : ab_O → ab_Hp → Prop} : wp 139 43 [v0, v1, v2] st h Q = wp 139 47 [v0, v1, v2] st h Q := wp_stp (ri := (.goto 4, 3, 47, 0, 0, 0)) (by decide +kernel) rfl rfl rfl
theorem i139_46 {v0 v1 : Value} {x : Int32} {st : List Value} {h : ab_Hp} {Q : ab_O → ab_Hp → Prop} : wp 139 46 [v0, v1, .int x] st h Q = wp 139 47 [v0, v1, .int x] (.int x :: st) h Q := wp_stp (ri := (.iload_n 2, 1, 0, 0, 0, 0)) (by decide +kernel) rfl rfl rfl
theorem i139_47 {v0 v1 v2 : Value} {x : Int32} {h : ab_Hp} {Q : ab_O → ab_Hp → Prop} : wp 139 47 [v0, v1, v2] [.int x] h Q = Q (.inl (some (.int x))) h := wp_iret (by decide +kernel : ab_cod 139 47 = some (.ireturn, 1, 0, 0, 0, 0)) rfl
/-! 140: SeamBeatsModel.outIn(I)I -/
theorem i140_0 {v0 v1 : Value} {st : List Value} {h : ab_Hp} {Q : ab_O → ab_Hp → Prop} (hv : ab_isA v0 = true) : wp 140 0 [v0, v1] st h Q = wp 140 1 [v0, v1] (v0 :: st) h Q := wp_aload_n (by decide +kernel : ab_cod 140 0 = some (.aload_n 0, 1, 0, 0, 0, 0)) hv
theorem i140_1 {v0 : Value} {x : Int32} {st : List Value} {h : ab_Hp} {Q : ab_O → ab_Hp → Prop} : wp 140 1 [v0, .int x] st h Q = wp 140 2 [v0, .int x] (.int x :: st) h Q := wp_stp (ri := (.iload_n 1, 1, 0, 0, 0, 0)) (by decide +kernel) rfl rfl rfl
theorem i140_2 {v0 v1 : Value} {x : Int32} {st : List Value} {h : ab_Hp} {Q : ab_O → ab_Hp → Prop} : wp 140 2 [v0, v1] (.int x :: st) h Q = if x < 0 then wp 140 19 [v0, v1] st h Q else wp 140 5 [v0, v1] st h Q := wp_ifcP (by decide +kernel : ab_cod 140 2 = some (.ifCond .lt 17, 3, 19, 0, 0, 0)) rfl
theorem i140_5 {v0 : Value} {x : Int32} {st : List Value} {h : ab_Hp} {Q : ab_O → ab_Hp → Prop} : wp 140 5 [v0, .int x] st h Q = wp 140 6 [v0, .int x] (.int x :: st) h Q := wp_stp (ri := (.iload_n 1, 1, 0, 0, 0, 0)) (by decide +kernel) rfl rfl rfl
theorem i140_6 {v0 v1 : Value} {st : List Value} {h : ab_Hp} {Q : ab_O → ab_Hp → Prop} (hv : ab_isA v0 = true) : wp 140 6 [v0, v1] st h Q = wp 140 7 [v0, v1] (v0 :: st) h Q := wp_aload_n (by decide +kernel : ab_cod 140 6 = some (.aload_n 0, 1, 0, 0, 0, 0)) hv
theorem i140_7 {v0 v1 : Value} {r : Nat} {st : List Value} {h : ab_Hp} {Q : ab_O → ab_Hp → Prop} (hk : (ab_sh h r).1 = 17) : wp 140 7 [v0, v1] (.ref r :: st) h Q = wp 140 10 [v0, v1] (va_rf (ab_hr h r 1) :: st) h Q := wp_gf (by decide +kernel : ab_cod 140 7 = some (.getfield 7, 3, 7, 1, 773, 1)) hk
theorem i140_10 {v0 v1 : Value} {st : List Value} {h : ab_Hp} {Q : ab_O → ab_Hp → Prop} : wp 140 10 [v0, v1] st h Q = wp 140 11 [v0, v1] (.int (nI 1) :: st) h Q := wp_stp (ri := (.iconst 1, 1, 0, 0, 0, 0)) (by decide +kernel) rfl rfl rfl
theorem i140_11 {v0 v1 : Value} {r : Nat} {x : Int32} {st : List Value} {h : ab_Hp} {Q : ab_O → ab_Hp → Prop} (hk : ((ab_sh h r).1 = 1 ∨ (ab_sh h r).1 = 6) ∧ ab_in x (ab_sh h r).2 = true) : wp 140 11 [v0, v1] (.int x :: .ref r :: st) h Q = wp 140 12 [v0, v1] (.int (ab_hi h r x.toNatClampNeg) :: st) h Q := wp_ia (by decide +kernel : ab_cod 140 11 = some (.iaload, 1, 0, 0, 0, 0)) hk
theorem i140_12 {v0 v1 : Value} {x y : Int32} {st : List Value} {h : ab_Hp} {Q : ab_O → ab_Hp → Prop} : wp 140 12 [v0, v1] (.int y :: .int x :: st) h Q = if y ≤ x then wp 140 19 [v0, v1] st h Q else wp 140 15 [v0, v1] st h Q := wp_icmpP (by decide +kernel : ab_cod 140 12 = some (.if_icmp .ge 7, 3, 19, 0, 0, 0)) rfl
theorem i140_15 {v0 v1 : Value} {st : List Value} {h : ab_Hp} {Q : ab_O → ab_Hp → Prop} : wp 140 15 [v0, v1] st h Q = wp 140 16 [v0, v1] (.int (nI 0) :: st) h Q := wp_stp (ri := (.iconst 0, 1, 0, 0, 0, 0)) (by decide +kernel) rfl rfl rfl
theorem i140_16 {v0 v1 : Value} {st : List Value} {h : ab_Hp} {Q : ab_O → ab_Hp → Prop} : wp 140 16 [v0, v1] st h Q = wp 140 20 [v0, v1] st h Q := wp_stp (ri := (.goto 4, 3, 20, 0, 0, 0)) (by decide +kernel) rfl rfl rfl
theorem i140_19 {v0 v1 : Value} {st : List Value} {h : ab_Hp} {Q : ab_O → ab_Hp → Prop} : wp 140 19 [v0, v1] st h Q = wp 140 20 [v0, v1] (.int (nI 1) :: st) h Q := wp_stp (ri := (.iconst 1, 1, 0, 0, 0, 0)) (by decide +kernel) rfl rfl rfl
theorem i140_20 {v0 v1 : Value} {r : Nat} {x : Int32} {st : List Value} {h : ab_Hp} {Q : ab_O → ab_Hp → Prop} (hk : (ab_sh h r).1 = 17) : wp 140 20 [v0, v1] (.int x :: .ref r :: st) h Q = wp 140 23 [v0, v1] st (ab_setI h (ab_u (ab_hi h) r 0 x)) Q := wp_pf (by decide +kernel : ab_cod 140 20 = some (.putfield 29, 3, 7, 0, 772, 0)) hk rfl
theorem i140_23 {v0 v1 : Value} {st : List Value} {h : ab_Hp} {Q : ab_O → ab_Hp → Prop} (hv : ab_isA v0 = true) : wp 140 23 [v0, v1] st h Q = wp 140 24 [v0, v1] (v0 :: st) h Q := wp_aload_n (by decide +kernel : ab_cod 140 23 = some (.aload_n 0, 1, 0, 0, 0, 0)) hv
theorem i140_24 {v0 v1 : Value} {r : Nat} {st : List Value} {h : ab_Hp} {Q : ab_O → ab_Hp → Prop} (hk : (ab_sh h r).1 = 17) : wp 140 24 [v0, v1] (.ref r :: st) h Q = wp 140 27 [v0, v1] (.int (ab_hi h r 0) :: st) h Q := wp_gf (by decide +kernel : ab_cod 140 24 = some (.getfield 29, 3, 7, 0, 772, 0)) hk
theorem i140_27 {v0 v1 : Value} {x : Int32} {st : List Value} {h : ab_Hp} {Q : ab_O → ab_Hp → Prop} : wp 140 27 [v0, v1] (.int x :: st) h Q = if x ≤ 0 then wp 140 34 [v0, v1] st h Q else wp 140 30 [v0, v1] st h Q := wp_ifcP (by decide +kernel : ab_cod 140 27 = some (.ifCond .le 7, 3, 34, 0, 0, 0)) rfl
theorem i140_30 {v0 v1 : Value} {st : List Value} {h : ab_Hp} {Q : ab_O → ab_Hp → Prop} : wp 140 30 [v0, v1] st h Q = wp 140 31 [v0, v1] (.int (nI 0) :: st) h Q := wp_stp (ri := (.iconst 0, 1, 0, 0, 0, 0)) (by decide +kernel) rfl rfl rfl
theorem i140_31 {v0 v1 : Value} {st : List Value} {h : ab_Hp} {Q : ab_O → ab_Hp → Prop} : wp 140 31 [v0, v1] st h Q = wp 140 39 [v0, v1] st h Q := wp_stp (ri := (.goto 8, 3, 39, 0, 0, 0)) (by decide +kernel) rfl rfl rfl
theorem i140_34 {v0 v1 : Value} {st : List Value} {h : ab_Hp} {Q : ab_O → ab_Hp → Prop} (hv : ab_isA v0 = true) : wp 140 34 [v0, v1] st h Q = wp 140 35 [v0, v1] (v0 :: st) h Q := wp_aload_n (by decide +kernel : ab_cod 140 34 = some (.aload_n 0, 1, 0, 0, 0, 0)) hv
theorem i140_35 {v0 : Value} {x : Int32} {st : List Value} {h : ab_Hp} {Q : ab_O → ab_Hp → Prop} : wp 140 35 [v0, .int x] st h Q = wp 140 36 [v0, .int x] (.int x :: st) h Q := wp_stp (ri := (.iload_n 1, 1, 0, 0, 0, 0)) (by decide +kernel) rfl rfl rfl
theorem i140_36 {v0 v1 : Value} {r : Nat} {a0 : Int32} {st : List Value} {h : ab_Hp} {Q : ab_O → ab_Hp → Prop} (hl : st.length ≤ 4) (hk : (ab_sh h r).1 = 17) : wp 140 36 [v0, v1] (.int a0 :: .ref r :: st) h Q = wp 139 0 [.ref r, .int a0, ab_nov] [] h (ab_K 140 36 [v0, v1] st Q) := wp_callV (as := [.int a0]) (by decide +kernel : ab_cod 140 36 = some (.invokevirtual 154, 3, 139, 2, 0, 1012)) rfl rfl rfl rfl hl hk
theorem i140_39 {v0 v1 : Value} {x : Int32} {h : ab_Hp} {Q : ab_O → ab_Hp → Prop} : wp 140 39 [v0, v1] [.int x] h Q = Q (.inl (some (.int x))) h := wp_iret (by decide +kernel : ab_cod 140 39 = some (.ireturn, 1, 0, 0, 0, 0)) rfl
/-! 141: SeamBeatsModel.bestOf(I)I -/
set_option maxRecDepth 100000 in
theorem i141_0 {v0 v1 v2 v3 v4 v5 v6 : Value} {st : List Value} {h : ab_Hp} {Q : ab_O → ab_Hp → Prop} (hv : ab_isA v0 = true) : wp 141 0 [v0, v1, v2, v3, v4, v5, v6] st h Q = wp 141 1 [v0, v1, v2, v3, v4, v5, v6] (v0 :: st) h Q := wp_aload_n (by decide +kernel : ab_cod 141 0 = some (.aload_n 0, 1, 0, 0, 0, 0)) hv
set_option maxRecDepth 100000 in
theorem i141_1 {v0 v2 v3 v4 v5 v6 : Value} {x : Int32} {st : List Value} {h : ab_Hp} {Q : ab_O → ab_Hp → Prop} : wp 141 1 [v0, .int x, v2, v3, v4, v5, v6] st h Q = wp 141 2 [v0, .int x, v2, v3, v4, v5, v6] (.int x :: st) h Q := wp_stp (ri := (.iload_n 1, 1, 0, 0, 0, 0)) (by decide +kernel) rfl rfl rfl
set_option maxRecDepth 100000 in
theorem i141_2 {v0 v1 v2 v3 v4 v5 v6 : Value} {st : List Value} {h : ab_Hp} {Q : ab_O → ab_Hp → Prop} : wp 141 2 [v0, v1, v2, v3, v4, v5, v6] st h Q = wp 141 3 [v0, v1, v2, v3, v4, v5, v6] (.int (nI 1) :: st) h Q := wp_stp (ri := (.iconst 1, 1, 0, 0, 0, 0)) (by decide +kernel) rfl rfl rfl
set_option maxRecDepth 100000 in
theorem i141_3 {v0 v1 v2 v3 v4 v5 v6 : Value} {r : Nat} {a0 : Int32} {a1 : Int32} {st : List Value} {h : ab_Hp} {Q : ab_O → ab_Hp → Prop} (hl : st.length ≤ 4) (hk : (ab_sh h r).1 = 17) : wp 141 3 [v0, v1, v2, v3, v4, v5, v6] (.int a1 :: .int a0 :: .ref r :: st) h Q = wp 90 0 [.ref r, .int a0, .int a1] [] h (ab_K 141 3 [v0, v1, v2, v3, v4, v5, v6] st Q) := wp_callV (as := [.int a0, .int a1]) (by decide +kernel : ab_cod 141 3 = some (.invokevirtual 47, 3, 90, 3, 0, 828)) rfl rfl rfl rfl hl hk
set_option maxRecDepth 100000 in
theorem i141_6 {v0 v1 v2 v3 v4 v5 v6 : Value} {w : Int32} {st : List Value} {h : ab_Hp} {Q : ab_O → ab_Hp → Prop} : wp 141 6 [v0, v1, v2, v3, v4, v5, v6] (.int w :: st) h Q = wp 141 7 [v0, ab_clr v1, .int w, v3, v4, v5, v6] st h Q := wp_stp (ri := (.istore_n 2, 1, 0, 0, 0, 0)) (by decide +kernel) rfl rfl rfl
set_option maxRecDepth 100000 in
theorem i141_7 {v0 v1 v2 v3 v4 v5 v6 : Value} {st : List Value} {h : ab_Hp} {Q : ab_O → ab_Hp → Prop} : wp 141 7 [v0, v1, v2, v3, v4, v5, v6] st h Q = wp 141 8 [v0, v1, v2, v3, v4, v5, v6] (.int (nI 0) :: st) h Q := wp_stp (ri := (.iconst 0, 1, 0, 0, 0, 0)) (by decide +kernel) rfl rfl rfl
set_option maxRecDepth 100000 in
theorem i141_8 {v0 v1 v2 v3 v4 v5 v6 : Value} {w : Int32} {st : List Value} {h : ab_Hp} {Q : ab_O → ab_Hp → Prop} : wp 141 8 [v0, v1, v2, v3, v4, v5, v6] (.int w :: st) h Q = wp 141 9 [v0, v1, ab_clr v2, .int w, v4, v5, v6] st h Q := wp_stp (ri := (.istore_n 3, 1, 0, 0, 0, 0)) (by decide +kernel) rfl rfl rfl
set_option maxRecDepth 100000 in
theorem i141_9 {v0 v1 v2 v3 v4 v5 v6 : Value} {st : List Value} {h : ab_Hp} {Q : ab_O → ab_Hp → Prop} : wp 141 9 [v0, v1, v2, v3, v4, v5, v6] st h Q = wp 141 10 [v0, v1, v2, v3, v4, v5, v6] (.int ((-1)) :: st) h Q := wp_stp (ri := (.iconst (-1), 1, 0, 0, 0, 0)) (by decide +kernel) rfl rfl rfl
set_option maxRecDepth 100000 in
theorem i141_10 {v0 v1 v2 v3 v4 v5 v6 : Value} {w : Int32} {st : List Value} {h : ab_Hp} {Q : ab_O → ab_Hp → Prop} : wp 141 10 [v0, v1, v2, v3, v4, v5, v6] (.int w :: st) h Q = wp 141 12 [v0, v1, v2, ab_clr v3, .int w, v5, v6] st h Q := wp_stp (ri := (.istore 4, 2, 0, 0, 0, 0)) (by decide +kernel) rfl rfl rfl
set_option maxRecDepth 100000 in
theorem i141_12 {v0 v1 v2 v3 v4 v5 v6 : Value} {st : List Value} {h : ab_Hp} {Q : ab_O → ab_Hp → Prop} : wp 141 12 [v0, v1, v2, v3, v4, v5, v6] st h Q = wp 141 13 [v0, v1, v2, v3, v4, v5, v6] (.int (nI 0) :: st) h Q := wp_stp (ri := (.iconst 0, 1, 0, 0, 0, 0)) (by decide +kernel) rfl rfl rfl
set_option maxRecDepth 100000 in
theorem i141_13 {v0 v1 v2 v3 v4 v5 v6 : Value} {w : Int32} {st : List Value} {h : ab_Hp} {Q : ab_O → ab_Hp → Prop} : wp 141 13 [v0, v1, v2, v3, v4, v5, v6] (.int w :: st) h Q = wp 141 15 [v0, v1, v2, v3, ab_clr v4, .int w, v6] st h Q := wp_stp (ri := (.istore 5, 2, 0, 0, 0, 0)) (by decide +kernel) rfl rfl rfl
set_option maxRecDepth 100000 in
theorem i141_15 {v0 v1 v2 v3 v4 v6 : Value} {x : Int32} {st : List Value} {h : ab_Hp} {Q : ab_O → ab_Hp → Prop} : wp 141 15 [v0, v1, v2, v3, v4, .int x, v6] st h Q = wp 141 17 [v0, v1, v2, v3, v4, .int x, v6] (.int x :: st) h Q := wp_stp (ri := (.iload 5, 2, 0, 0, 0, 0)) (by decide +kernel) rfl rfl rfl
set_option maxRecDepth 100000 in
theorem i141_17 {v0 v1 v2 v3 v4 v5 v6 : Value} {st : List Value} {h : ab_Hp} {Q : ab_O → ab_Hp → Prop} (hv : ab_isA v0 = true) : wp 141 17 [v0, v1, v2, v3, v4, v5, v6] st h Q = wp 141 18 [v0, v1, v2, v3, v4, v5, v6] (v0 :: st) h Q := wp_aload_n (by decide +kernel : ab_cod 141 17 = some (.aload_n 0, 1, 0, 0, 0, 0)) hv
set_option maxRecDepth 100000 in
theorem i141_18 {v0 v2 v3 v4 v5 v6 : Value} {x : Int32} {st : List Value} {h : ab_Hp} {Q : ab_O → ab_Hp → Prop} : wp 141 18 [v0, .int x, v2, v3, v4, v5, v6] st h Q = wp 141 19 [v0, .int x, v2, v3, v4, v5, v6] (.int x :: st) h Q := wp_stp (ri := (.iload_n 1, 1, 0, 0, 0, 0)) (by decide +kernel) rfl rfl rfl
set_option maxRecDepth 100000 in
theorem i141_19 {v0 v1 v2 v3 v4 v5 v6 : Value} {st : List Value} {h : ab_Hp} {Q : ab_O → ab_Hp → Prop} : wp 141 19 [v0, v1, v2, v3, v4, v5, v6] st h Q = wp 141 20 [v0, v1, v2, v3, v4, v5, v6] (.int (nI 0) :: st) h Q := wp_stp (ri := (.iconst 0, 1, 0, 0, 0, 0)) (by decide +kernel) rfl rfl rfl
set_option maxRecDepth 100000 in
theorem i141_20 {v0 v1 v2 v3 v4 v5 v6 : Value} {r : Nat} {a0 : Int32} {a1 : Int32} {st : List Value} {h : ab_Hp} {Q : ab_O → ab_Hp → Prop} (hl : st.length ≤ 4) (hk : (ab_sh h r).1 = 17) : wp 141 20 [v0, v1, v2, v3, v4, v5, v6] (.int a1 :: .int a0 :: .ref r :: st) h Q = wp 90 0 [.ref r, .int a0, .int a1] [] h (ab_K 141 20 [v0, v1, v2, v3, v4, v5, v6] st Q) := wp_callV (as := [.int a0, .int a1]) (by decide +kernel : ab_cod 141 20 = some (.invokevirtual 47, 3, 90, 3, 0, 828)) rfl rfl rfl rfl hl hk
set_option maxRecDepth 100000 in
theorem i141_23 {v0 v1 v2 v3 v4 v5 v6 : Value} {x y : Int32} {st : List Value} {h : ab_Hp} {Q : ab_O → ab_Hp → Prop} : wp 141 23 [v0, v1, v2, v3, v4, v5, v6] (.int y :: .int x :: st) h Q = if y ≤ x then wp 141 79 [v0, v1, v2, v3, v4, v5, v6] st h Q else wp 141 26 [v0, v1, v2, v3, v4, v5, v6] st h Q := wp_icmpP (by decide +kernel : ab_cod 141 23 = some (.if_icmp .ge 56, 3, 79, 0, 0, 0)) rfl
set_option maxRecDepth 100000 in
theorem i141_26 {v0 v1 v2 v3 v4 v5 v6 : Value} {st : List Value} {h : ab_Hp} {Q : ab_O → ab_Hp → Prop} (hv : ab_isA v0 = true) : wp 141 26 [v0, v1, v2, v3, v4, v5, v6] st h Q = wp 141 27 [v0, v1, v2, v3, v4, v5, v6] (v0 :: st) h Q := wp_aload_n (by decide +kernel : ab_cod 141 26 = some (.aload_n 0, 1, 0, 0, 0, 0)) hv
set_option maxRecDepth 100000 in
theorem i141_27 {v0 v2 v3 v4 v5 v6 : Value} {x : Int32} {st : List Value} {h : ab_Hp} {Q : ab_O → ab_Hp → Prop} : wp 141 27 [v0, .int x, v2, v3, v4, v5, v6] st h Q = wp 141 28 [v0, .int x, v2, v3, v4, v5, v6] (.int x :: st) h Q := wp_stp (ri := (.iload_n 1, 1, 0, 0, 0, 0)) (by decide +kernel) rfl rfl rfl
set_option maxRecDepth 100000 in
theorem i141_28 {v0 v1 v2 v3 v4 v5 v6 : Value} {st : List Value} {h : ab_Hp} {Q : ab_O → ab_Hp → Prop} : wp 141 28 [v0, v1, v2, v3, v4, v5, v6] st h Q = wp 141 29 [v0, v1, v2, v3, v4, v5, v6] (.int (nI 1) :: st) h Q := wp_stp (ri := (.iconst 1, 1, 0, 0, 0, 0)) (by decide +kernel) rfl rfl rfl
set_option maxRecDepth 100000 in
theorem i141_29 {v0 v1 v2 v3 v4 v6 : Value} {x : Int32} {st : List Value} {h : ab_Hp} {Q : ab_O → ab_Hp → Prop} : wp 141 29 [v0, v1, v2, v3, v4, .int x, v6] st h Q = wp 141 31 [v0, v1, v2, v3, v4, .int x, v6] (.int x :: st) h Q := wp_stp (ri := (.iload 5, 2, 0, 0, 0, 0)) (by decide +kernel) rfl rfl rfl
set_option maxRecDepth 100000 in
theorem i141_31 {v0 v1 v2 v3 v4 v5 v6 : Value} {r : Nat} {a0 : Int32} {a1 : Int32} {a2 : Int32} {st : List Value} {h : ab_Hp} {Q : ab_O → ab_Hp → Prop} (hl : st.length ≤ 4) (hk : (ab_sh h r).1 = 17) : wp 141 31 [v0, v1, v2, v3, v4, v5, v6] (.int a2 :: .int a1 :: .int a0 :: .ref r :: st) h Q = wp 91 0 [.ref r, .int a0, .int a1, .int a2] [] h (ab_K 141 31 [v0, v1, v2, v3, v4, v5, v6] st Q) := wp_callV (as := [.int a0, .int a1, .int a2]) (by decide +kernel : ab_cod 141 31 = some (.invokevirtual 25, 3, 91, 4, 0, 768)) rfl rfl rfl rfl hl hk
set_option maxRecDepth 100000 in
theorem i141_34 {v0 v1 v2 v3 v4 v5 v6 : Value} {st : List Value} {h : ab_Hp} {Q : ab_O → ab_Hp → Prop} (hv : ab_isA v0 = true) : wp 141 34 [v0, v1, v2, v3, v4, v5, v6] st h Q = wp 141 35 [v0, v1, v2, v3, v4, v5, v6] (v0 :: st) h Q := wp_aload_n (by decide +kernel : ab_cod 141 34 = some (.aload_n 0, 1, 0, 0, 0, 0)) hv
set_option maxRecDepth 100000 in
theorem i141_35 {v0 v1 v2 v3 v4 v5 v6 : Value} {st : List Value} {h : ab_Hp} {Q : ab_O → ab_Hp → Prop} : wp 141 35 [v0, v1, v2, v3, v4, v5, v6] st h Q = wp 141 37 [v0, v1, v2, v3, v4, v5, v6] (.int (nI 40) :: st) h Q := wp_stp (ri := (.bipush 40, 2, 0, 0, 0, 0)) (by decide +kernel) rfl rfl rfl
set_option maxRecDepth 100000 in
theorem i141_37 {v0 v1 v2 v3 v4 v5 v6 : Value} {st : List Value} {h : ab_Hp} {Q : ab_O → ab_Hp → Prop} : wp 141 37 [v0, v1, v2, v3, v4, v5, v6] st h Q = wp 141 38 [v0, v1, v2, v3, v4, v5, v6] (.int (nI 0) :: st) h Q := wp_stp (ri := (.iconst 0, 1, 0, 0, 0, 0)) (by decide +kernel) rfl rfl rfl
set_option maxRecDepth 100000 in
theorem i141_38 {v0 v1 v2 v3 v4 v5 v6 : Value} {r : Nat} {a0 : Int32} {a1 : Int32} {st : List Value} {h : ab_Hp} {Q : ab_O → ab_Hp → Prop} (hl : st.length ≤ 4) (hk : (ab_sh h r).1 = 17) : wp 141 38 [v0, v1, v2, v3, v4, v5, v6] (.int a1 :: .int a0 :: .ref r :: st) h Q = wp 136 0 [.ref r, .int a0, .int a1, ab_nov, ab_nov, ab_nov, ab_nov] [] h (ab_K 141 38 [v0, v1, v2, v3, v4, v5, v6] st Q) := wp_callV (as := [.int a0, .int a1]) (by decide +kernel : ab_cod 141 38 = some (.invokevirtual 148, 3, 136, 3, 0, 996)) rfl rfl rfl rfl hl hk
set_option maxRecDepth 100000 in
theorem i141_41 {v0 v1 v2 v3 v4 v5 v6 : Value} {w : Int32} {st : List Value} {h : ab_Hp} {Q : ab_O → ab_Hp → Prop} : wp 141 41 [v0, v1, v2, v3, v4, v5, v6] (.int w :: st) h Q = wp 141 43 [v0, v1, v2, v3, v4, ab_clr v5, .int w] st h Q := wp_stp (ri := (.istore 6, 2, 0, 0, 0, 0)) (by decide +kernel) rfl rfl rfl
set_option maxRecDepth 100000 in
theorem i141_43 {v0 v1 v2 v3 v4 v5 : Value} {x : Int32} {st : List Value} {h : ab_Hp} {Q : ab_O → ab_Hp → Prop} : wp 141 43 [v0, v1, v2, v3, v4, v5, .int x] st h Q = wp 141 45 [v0, v1, v2, v3, v4, v5, .int x] (.int x :: st) h Q := wp_stp (ri := (.iload 6, 2, 0, 0, 0, 0)) (by decide +kernel) rfl rfl rfl
set_option maxRecDepth 100000 in
theorem i141_45 {v0 v1 v2 v3 v5 v6 : Value} {x : Int32} {st : List Value} {h : ab_Hp} {Q : ab_O → ab_Hp → Prop} : wp 141 45 [v0, v1, v2, v3, .int x, v5, v6] st h Q = wp 141 47 [v0, v1, v2, v3, .int x, v5, v6] (.int x :: st) h Q := wp_stp (ri := (.iload 4, 2, 0, 0, 0, 0)) (by decide +kernel) rfl rfl rfl
set_option maxRecDepth 100000 in
theorem i141_47 {v0 v1 v2 v3 v4 v5 v6 : Value} {x y : Int32} {st : List Value} {h : ab_Hp} {Q : ab_O → ab_Hp → Prop} : wp 141 47 [v0, v1, v2, v3, v4, v5, v6] (.int y :: .int x :: st) h Q = if x ≤ y then wp 141 55 [v0, v1, v2, v3, v4, v5, v6] st h Q else wp 141 50 [v0, v1, v2, v3, v4, v5, v6] st h Q := wp_icmpP (by decide +kernel : ab_cod 141 47 = some (.if_icmp .le 8, 3, 55, 0, 0, 0)) rfl
set_option maxRecDepth 100000 in
theorem i141_50 {v0 v1 v2 v3 v4 v6 : Value} {x : Int32} {st : List Value} {h : ab_Hp} {Q : ab_O → ab_Hp → Prop} : wp 141 50 [v0, v1, v2, v3, v4, .int x, v6] st h Q = wp 141 52 [v0, v1, v2, v3, v4, .int x, v6] (.int x :: st) h Q := wp_stp (ri := (.iload 5, 2, 0, 0, 0, 0)) (by decide +kernel) rfl rfl rfl
set_option maxRecDepth 100000 in
theorem i141_52 {v0 v1 v2 v3 v4 v5 v6 : Value} {st : List Value} {h : ab_Hp} {Q : ab_O → ab_Hp → Prop} : wp 141 52 [v0, v1, v2, v3, v4, v5, v6] st h Q = wp 141 56 [v0, v1, v2, v3, v4, v5, v6] st h Q := wp_stp (ri := (.goto 4, 3, 56, 0, 0, 0)) (by decide +kernel) rfl rfl rfl
set_option maxRecDepth 100000 in
theorem i141_55 {v0 v1 v2 v4 v5 v6 : Value} {x : Int32} {st : List Value} {h : ab_Hp} {Q : ab_O → ab_Hp → Prop} : wp 141 55 [v0, v1, v2, .int x, v4, v5, v6] st h Q = wp 141 56 [v0, v1, v2, .int x, v4, v5, v6] (.int x :: st) h Q := wp_stp (ri := (.iload_n 3, 1, 0, 0, 0, 0)) (by decide +kernel) rfl rfl rfl
set_option maxRecDepth 100000 in
theorem i141_56 {v0 v1 v2 v3 v4 v5 v6 : Value} {w : Int32} {st : List Value} {h : ab_Hp} {Q : ab_O → ab_Hp → Prop} : wp 141 56 [v0, v1, v2, v3, v4, v5, v6] (.int w :: st) h Q = wp 141 57 [v0, v1, ab_clr v2, .int w, v4, v5, v6] st h Q := wp_stp (ri := (.istore_n 3, 1, 0, 0, 0, 0)) (by decide +kernel) rfl rfl rfl
set_option maxRecDepth 100000 in
theorem i141_57 {v0 v1 v2 v3 v4 v5 : Value} {x : Int32} {st : List Value} {h : ab_Hp} {Q : ab_O → ab_Hp → Prop} : wp 141 57 [v0, v1, v2, v3, v4, v5, .int x] st h Q = wp 141 59 [v0, v1, v2, v3, v4, v5, .int x] (.int x :: st) h Q := wp_stp (ri := (.iload 6, 2, 0, 0, 0, 0)) (by decide +kernel) rfl rfl rfl
set_option maxRecDepth 100000 in
theorem i141_59 {v0 v1 v2 v3 v5 v6 : Value} {x : Int32} {st : List Value} {h : ab_Hp} {Q : ab_O → ab_Hp → Prop} : wp 141 59 [v0, v1, v2, v3, .int x, v5, v6] st h Q = wp 141 61 [v0, v1, v2, v3, .int x, v5, v6] (.int x :: st) h Q := wp_stp (ri := (.iload 4, 2, 0, 0, 0, 0)) (by decide +kernel) rfl rfl rfl
set_option maxRecDepth 100000 in
theorem i141_61 {v0 v1 v2 v3 v4 v5 v6 : Value} {x y : Int32} {st : List Value} {h : ab_Hp} {Q : ab_O → ab_Hp → Prop} : wp 141 61 [v0, v1, v2, v3, v4, v5, v6] (.int y :: .int x :: st) h Q = if x ≤ y then wp 141 69 [v0, v1, v2, v3, v4, v5, v6] st h Q else wp 141 64 [v0, v1, v2, v3, v4, v5, v6] st h Q := wp_icmpP (by decide +kernel : ab_cod 141 61 = some (.if_icmp .le 8, 3, 69, 0, 0, 0)) rfl
set_option maxRecDepth 100000 in
theorem i141_64 {v0 v1 v2 v3 v4 v5 : Value} {x : Int32} {st : List Value} {h : ab_Hp} {Q : ab_O → ab_Hp → Prop} : wp 141 64 [v0, v1, v2, v3, v4, v5, .int x] st h Q = wp 141 66 [v0, v1, v2, v3, v4, v5, .int x] (.int x :: st) h Q := wp_stp (ri := (.iload 6, 2, 0, 0, 0, 0)) (by decide +kernel) rfl rfl rfl
set_option maxRecDepth 100000 in
theorem i141_66 {v0 v1 v2 v3 v4 v5 v6 : Value} {st : List Value} {h : ab_Hp} {Q : ab_O → ab_Hp → Prop} : wp 141 66 [v0, v1, v2, v3, v4, v5, v6] st h Q = wp 141 71 [v0, v1, v2, v3, v4, v5, v6] st h Q := wp_stp (ri := (.goto 5, 3, 71, 0, 0, 0)) (by decide +kernel) rfl rfl rfl
set_option maxRecDepth 100000 in
theorem i141_69 {v0 v1 v2 v3 v5 v6 : Value} {x : Int32} {st : List Value} {h : ab_Hp} {Q : ab_O → ab_Hp → Prop} : wp 141 69 [v0, v1, v2, v3, .int x, v5, v6] st h Q = wp 141 71 [v0, v1, v2, v3, .int x, v5, v6] (.int x :: st) h Q := wp_stp (ri := (.iload 4, 2, 0, 0, 0, 0)) (by decide +kernel) rfl rfl rfl
set_option maxRecDepth 100000 in
theorem i141_71 {v0 v1 v2 v3 v4 v5 v6 : Value} {w : Int32} {st : List Value} {h : ab_Hp} {Q : ab_O → ab_Hp → Prop} : wp 141 71 [v0, v1, v2, v3, v4, v5, v6] (.int w :: st) h Q = wp 141 73 [v0, v1, v2, ab_clr v3, .int w, v5, v6] st h Q := wp_stp (ri := (.istore 4, 2, 0, 0, 0, 0)) (by decide +kernel) rfl rfl rfl
set_option maxRecDepth 100000 in
theorem i141_73 {v0 v1 v2 v3 v4 v6 : Value} {x : Int32} {st : List Value} {h : ab_Hp} {Q : ab_O → ab_Hp → Prop} : wp 141 73 [v0, v1, v2, v3, v4, .int x, v6] st h Q = wp 141 76 [v0, v1, v2, v3, ab_clr v4, .int (x + nI 1), v6] st h Q := wp_stp (ri := (.iinc 5 1, 3, 0, 0, 0, 0)) (by decide +kernel) rfl rfl rfl
set_option maxRecDepth 100000 in
theorem i141_76 {v0 v1 v2 v3 v4 v5 v6 : Value} {st : List Value} {h : ab_Hp} {Q : ab_O → ab_Hp → Prop} : wp 141 76 [v0, v1, v2, v3, v4, v5, v6] st h Q = wp 141 15 [v0, v1, v2, v3, v4, v5, v6] st h Q := wp_stp (ri := (.goto (-61), 3, 15, 0, 0, 0)) (by decide +kernel) rfl rfl rfl
set_option maxRecDepth 100000 in
theorem i141_79 {v0 v1 v2 v3 v4 v5 v6 : Value} {st : List Value} {h : ab_Hp} {Q : ab_O → ab_Hp → Prop} (hv : ab_isA v0 = true) : wp 141 79 [v0, v1, v2, v3, v4, v5, v6] st h Q = wp 141 80 [v0, v1, v2, v3, v4, v5, v6] (v0 :: st) h Q := wp_aload_n (by decide +kernel : ab_cod 141 79 = some (.aload_n 0, 1, 0, 0, 0, 0)) hv
set_option maxRecDepth 100000 in
theorem i141_80 {v0 v2 v3 v4 v5 v6 : Value} {x : Int32} {st : List Value} {h : ab_Hp} {Q : ab_O → ab_Hp → Prop} : wp 141 80 [v0, .int x, v2, v3, v4, v5, v6] st h Q = wp 141 81 [v0, .int x, v2, v3, v4, v5, v6] (.int x :: st) h Q := wp_stp (ri := (.iload_n 1, 1, 0, 0, 0, 0)) (by decide +kernel) rfl rfl rfl
set_option maxRecDepth 100000 in
theorem i141_81 {v0 v1 v2 v3 v4 v5 v6 : Value} {st : List Value} {h : ab_Hp} {Q : ab_O → ab_Hp → Prop} : wp 141 81 [v0, v1, v2, v3, v4, v5, v6] st h Q = wp 141 82 [v0, v1, v2, v3, v4, v5, v6] (.int (nI 1) :: st) h Q := wp_stp (ri := (.iconst 1, 1, 0, 0, 0, 0)) (by decide +kernel) rfl rfl rfl
set_option maxRecDepth 100000 in
theorem i141_82 {v0 v1 v3 v4 v5 v6 : Value} {x : Int32} {st : List Value} {h : ab_Hp} {Q : ab_O → ab_Hp → Prop} : wp 141 82 [v0, v1, .int x, v3, v4, v5, v6] st h Q = wp 141 83 [v0, v1, .int x, v3, v4, v5, v6] (.int x :: st) h Q := wp_stp (ri := (.iload_n 2, 1, 0, 0, 0, 0)) (by decide +kernel) rfl rfl rfl
set_option maxRecDepth 100000 in
theorem i141_83 {v0 v1 v2 v3 v4 v5 v6 : Value} {r : Nat} {a0 : Int32} {a1 : Int32} {a2 : Int32} {st : List Value} {h : ab_Hp} {Q : ab_O → ab_Hp → Prop} (hl : st.length ≤ 4) (hk : (ab_sh h r).1 = 17) : wp 141 83 [v0, v1, v2, v3, v4, v5, v6] (.int a2 :: .int a1 :: .int a0 :: .ref r :: st) h Q = wp 91 0 [.ref r, .int a0, .int a1, .int a2] [] h (ab_K 141 83 [v0, v1, v2, v3, v4, v5, v6] st Q) := wp_callV (as := [.int a0, .int a1, .int a2]) (by decide +kernel : ab_cod 141 83 = some (.invokevirtual 25, 3, 91, 4, 0, 768)) rfl rfl rfl rfl hl hk
set_option maxRecDepth 100000 in
theorem i141_86 {v0 v1 v2 v4 v5 v6 : Value} {x : Int32} {st : List Value} {h : ab_Hp} {Q : ab_O → ab_Hp → Prop} : wp 141 86 [v0, v1, v2, .int x, v4, v5, v6] st h Q = wp 141 87 [v0, v1, v2, .int x, v4, v5, v6] (.int x :: st) h Q := wp_stp (ri := (.iload_n 3, 1, 0, 0, 0, 0)) (by decide +kernel) rfl rfl rfl
set_option maxRecDepth 100000 in
theorem i141_87 {v0 v1 v2 v3 v4 v5 v6 : Value} {x : Int32} {h : ab_Hp} {Q : ab_O → ab_Hp → Prop} : wp 141 87 [v0, v1, v2, v3, v4, v5, v6] [.int x] h Q = Q (.inl (some (.int x))) h := wp_iret (by decide +kernel : ab_cod 141 87 = some (.ireturn, 1, 0, 0, 0, 0)) rfl
/-! 142: SeamBeatsModel.bestPhase(I)I -/
theorem i142_0 {v0 v1 : Value} {st : List Value} {h : ab_Hp} {Q : ab_O → ab_Hp → Prop} (hv : ab_isA v0 = true) : wp 142 0 [v0, v1] st h Q = wp 142 1 [v0, v1] (v0 :: st) h Q := wp_aload_n (by decide +kernel : ab_cod 142 0 = some (.aload_n 0, 1, 0, 0, 0, 0)) hv
theorem i142_1 {v0 : Value} {x : Int32} {st : List Value} {h : ab_Hp} {Q : ab_O → ab_Hp → Prop} : wp 142 1 [v0, .int x] st h Q = wp 142 2 [v0, .int x] (.int x :: st) h Q := wp_stp (ri := (.iload_n 1, 1, 0, 0, 0, 0)) (by decide +kernel) rfl rfl rfl
theorem i142_2 {v0 v1 : Value} {a0 : Int32} {st : List Value} {h : ab_Hp} {Q : ab_O → ab_Hp → Prop} (hl : st.length ≤ 4) : wp 142 2 [v0, v1] (.int a0 :: st) h Q = wp 88 0 [.int a0] [] h (ab_K 142 2 [v0, v1] st Q) := wp_callS (as := [.int a0]) (by decide +kernel : ab_cod 142 2 = some (.invokestatic 40, 3, 88, 1, 1, 818)) rfl rfl rfl rfl hl
theorem i142_5 {v0 v1 : Value} {x : Int32} {st : List Value} {h : ab_Hp} {Q : ab_O → ab_Hp → Prop} : wp 142 5 [v0, v1] (.int x :: st) h Q = if x = 0 then wp 142 12 [v0, v1] st h Q else wp 142 8 [v0, v1] st h Q := wp_ifcP (by decide +kernel : ab_cod 142 5 = some (.ifCond .eq 7, 3, 12, 0, 0, 0)) rfl
theorem i142_8 {v0 v1 : Value} {st : List Value} {h : ab_Hp} {Q : ab_O → ab_Hp → Prop} : wp 142 8 [v0, v1] st h Q = wp 142 9 [v0, v1] (.int (nI 0) :: st) h Q := wp_stp (ri := (.iconst 0, 1, 0, 0, 0, 0)) (by decide +kernel) rfl rfl rfl
theorem i142_9 {v0 v1 : Value} {st : List Value} {h : ab_Hp} {Q : ab_O → ab_Hp → Prop} : wp 142 9 [v0, v1] st h Q = wp 142 13 [v0, v1] st h Q := wp_stp (ri := (.goto 4, 3, 13, 0, 0, 0)) (by decide +kernel) rfl rfl rfl
theorem i142_12 {v0 v1 : Value} {st : List Value} {h : ab_Hp} {Q : ab_O → ab_Hp → Prop} : wp 142 12 [v0, v1] st h Q = wp 142 13 [v0, v1] (.int (nI 1) :: st) h Q := wp_stp (ri := (.iconst 1, 1, 0, 0, 0, 0)) (by decide +kernel) rfl rfl rfl
theorem i142_13 {v0 v1 : Value} {r : Nat} {x : Int32} {st : List Value} {h : ab_Hp} {Q : ab_O → ab_Hp → Prop} (hk : (ab_sh h r).1 = 17) : wp 142 13 [v0, v1] (.int x :: .ref r :: st) h Q = wp 142 16 [v0, v1] st (ab_setI h (ab_u (ab_hi h) r 0 x)) Q := wp_pf (by decide +kernel : ab_cod 142 13 = some (.putfield 29, 3, 7, 0, 772, 0)) hk rfl
theorem i142_16 {v0 v1 : Value} {st : List Value} {h : ab_Hp} {Q : ab_O → ab_Hp → Prop} (hv : ab_isA v0 = true) : wp 142 16 [v0, v1] st h Q = wp 142 17 [v0, v1] (v0 :: st) h Q := wp_aload_n (by decide +kernel : ab_cod 142 16 = some (.aload_n 0, 1, 0, 0, 0, 0)) hv
theorem i142_17 {v0 v1 : Value} {r : Nat} {st : List Value} {h : ab_Hp} {Q : ab_O → ab_Hp → Prop} (hk : (ab_sh h r).1 = 17) : wp 142 17 [v0, v1] (.ref r :: st) h Q = wp 142 20 [v0, v1] (.int (ab_hi h r 0) :: st) h Q := wp_gf (by decide +kernel : ab_cod 142 17 = some (.getfield 29, 3, 7, 0, 772, 0)) hk
theorem i142_20 {v0 v1 : Value} {x : Int32} {st : List Value} {h : ab_Hp} {Q : ab_O → ab_Hp → Prop} : wp 142 20 [v0, v1] (.int x :: st) h Q = if x ≤ 0 then wp 142 27 [v0, v1] st h Q else wp 142 23 [v0, v1] st h Q := wp_ifcP (by decide +kernel : ab_cod 142 20 = some (.ifCond .le 7, 3, 27, 0, 0, 0)) rfl
theorem i142_23 {v0 v1 : Value} {st : List Value} {h : ab_Hp} {Q : ab_O → ab_Hp → Prop} : wp 142 23 [v0, v1] st h Q = wp 142 24 [v0, v1] (.int (nI 0) :: st) h Q := wp_stp (ri := (.iconst 0, 1, 0, 0, 0, 0)) (by decide +kernel) rfl rfl rfl
theorem i142_24 {v0 v1 : Value} {st : List Value} {h : ab_Hp} {Q : ab_O → ab_Hp → Prop} : wp 142 24 [v0, v1] st h Q = wp 142 32 [v0, v1] st h Q := wp_stp (ri := (.goto 8, 3, 32, 0, 0, 0)) (by decide +kernel) rfl rfl rfl
theorem i142_27 {v0 v1 : Value} {st : List Value} {h : ab_Hp} {Q : ab_O → ab_Hp → Prop} (hv : ab_isA v0 = true) : wp 142 27 [v0, v1] st h Q = wp 142 28 [v0, v1] (v0 :: st) h Q := wp_aload_n (by decide +kernel : ab_cod 142 27 = some (.aload_n 0, 1, 0, 0, 0, 0)) hv
theorem i142_28 {v0 : Value} {x : Int32} {st : List Value} {h : ab_Hp} {Q : ab_O → ab_Hp → Prop} : wp 142 28 [v0, .int x] st h Q = wp 142 29 [v0, .int x] (.int x :: st) h Q := wp_stp (ri := (.iload_n 1, 1, 0, 0, 0, 0)) (by decide +kernel) rfl rfl rfl
theorem i142_29 {v0 v1 : Value} {r : Nat} {a0 : Int32} {st : List Value} {h : ab_Hp} {Q : ab_O → ab_Hp → Prop} (hl : st.length ≤ 4) (hk : (ab_sh h r).1 = 17) : wp 142 29 [v0, v1] (.int a0 :: .ref r :: st) h Q = wp 141 0 [.ref r, .int a0, ab_nov, ab_nov, ab_nov, ab_nov, ab_nov] [] h (ab_K 142 29 [v0, v1] st Q) := wp_callV (as := [.int a0]) (by decide +kernel : ab_cod 142 29 = some (.invokevirtual 157, 3, 141, 2, 0, 1024)) rfl rfl rfl rfl hl hk
theorem i142_32 {v0 v1 : Value} {x : Int32} {h : ab_Hp} {Q : ab_O → ab_Hp → Prop} : wp 142 32 [v0, v1] [.int x] h Q = Q (.inl (some (.int x))) h := wp_iret (by decide +kernel : ab_cod 142 32 = some (.ireturn, 1, 0, 0, 0, 0)) rfl
/-! 143: SeamBeatsModel.slowestNow()I -/
theorem i143_0 {v0 v1 v2 : Value} {st : List Value} {h : ab_Hp} {Q : ab_O → ab_Hp → Prop} : wp 143 0 [v0, v1, v2] st h Q = wp 143 1 [v0, v1, v2] (.int ((-1)) :: st) h Q := wp_stp (ri := (.iconst (-1), 1, 0, 0, 0, 0)) (by decide +kernel) rfl rfl rfl
theorem i143_1 {v0 v1 v2 : Value} {w : Int32} {st : List Value} {h : ab_Hp} {Q : ab_O → ab_Hp → Prop} : wp 143 1 [v0, v1, v2] (.int w :: st) h Q = wp 143 2 [ab_clr v0, .int w, v2] st h Q := wp_stp (ri := (.istore_n 1, 1, 0, 0, 0, 0)) (by decide +kernel) rfl rfl rfl
theorem i143_2 {v0 v1 v2 : Value} {st : List Value} {h : ab_Hp} {Q : ab_O → ab_Hp → Prop} : wp 143 2 [v0, v1, v2] st h Q = wp 143 3 [v0, v1, v2] (.int (nI 0) :: st) h Q := wp_stp (ri := (.iconst 0, 1, 0, 0, 0, 0)) (by decide +kernel) rfl rfl rfl
theorem i143_3 {v0 v1 v2 : Value} {w : Int32} {st : List Value} {h : ab_Hp} {Q : ab_O → ab_Hp → Prop} : wp 143 3 [v0, v1, v2] (.int w :: st) h Q = wp 143 4 [v0, ab_clr v1, .int w] st h Q := wp_stp (ri := (.istore_n 2, 1, 0, 0, 0, 0)) (by decide +kernel) rfl rfl rfl
theorem i143_4 {v0 v1 : Value} {x : Int32} {st : List Value} {h : ab_Hp} {Q : ab_O → ab_Hp → Prop} : wp 143 4 [v0, v1, .int x] st h Q = wp 143 5 [v0, v1, .int x] (.int x :: st) h Q := wp_stp (ri := (.iload_n 2, 1, 0, 0, 0, 0)) (by decide +kernel) rfl rfl rfl
theorem i143_5 {v0 v1 v2 : Value} {st : List Value} {h : ab_Hp} {Q : ab_O → ab_Hp → Prop} : wp 143 5 [v0, v1, v2] st h Q = wp 143 7 [v0, v1, v2] (.int (nI 6) :: st) h Q := wp_stp (ri := (.bipush 6, 2, 0, 0, 0, 0)) (by decide +kernel) rfl rfl rfl
theorem i143_7 {v0 v1 v2 : Value} {x y : Int32} {st : List Value} {h : ab_Hp} {Q : ab_O → ab_Hp → Prop} : wp 143 7 [v0, v1, v2] (.int y :: .int x :: st) h Q = if y ≤ x then wp 143 48 [v0, v1, v2] st h Q else wp 143 10 [v0, v1, v2] st h Q := wp_icmpP (by decide +kernel : ab_cod 143 7 = some (.if_icmp .ge 41, 3, 48, 0, 0, 0)) rfl
theorem i143_10 {v0 v1 v2 : Value} {st : List Value} {h : ab_Hp} {Q : ab_O → ab_Hp → Prop} (hv : ab_isA v0 = true) : wp 143 10 [v0, v1, v2] st h Q = wp 143 11 [v0, v1, v2] (v0 :: st) h Q := wp_aload_n (by decide +kernel : ab_cod 143 10 = some (.aload_n 0, 1, 0, 0, 0, 0)) hv
theorem i143_11 {v0 v1 : Value} {x : Int32} {st : List Value} {h : ab_Hp} {Q : ab_O → ab_Hp → Prop} : wp 143 11 [v0, v1, .int x] st h Q = wp 143 12 [v0, v1, .int x] (.int x :: st) h Q := wp_stp (ri := (.iload_n 2, 1, 0, 0, 0, 0)) (by decide +kernel) rfl rfl rfl
theorem i143_12 {v0 v1 v2 : Value} {st : List Value} {h : ab_Hp} {Q : ab_O → ab_Hp → Prop} : wp 143 12 [v0, v1, v2] st h Q = wp 143 14 [v0, v1, v2] (.int (nI 7) :: st) h Q := wp_stp (ri := (.bipush 7, 2, 0, 0, 0, 0)) (by decide +kernel) rfl rfl rfl
theorem i143_14 {v0 v1 v2 : Value} {r : Nat} {a0 : Int32} {a1 : Int32} {st : List Value} {h : ab_Hp} {Q : ab_O → ab_Hp → Prop} (hl : st.length ≤ 4) (hk : (ab_sh h r).1 = 17) : wp 143 14 [v0, v1, v2] (.int a1 :: .int a0 :: .ref r :: st) h Q = wp 90 0 [.ref r, .int a0, .int a1] [] h (ab_K 143 14 [v0, v1, v2] st Q) := wp_callV (as := [.int a0, .int a1]) (by decide +kernel : ab_cod 143 14 = some (.invokevirtual 47, 3, 90, 3, 0, 828)) rfl rfl rfl rfl hl hk
theorem i143_17 {v0 v2 : Value} {x : Int32} {st : List Value} {h : ab_Hp} {Q : ab_O → ab_Hp → Prop} : wp 143 17 [v0, .int x, v2] st h Q = wp 143 18 [v0, .int x, v2] (.int x :: st) h Q := wp_stp (ri := (.iload_n 1, 1, 0, 0, 0, 0)) (by decide +kernel) rfl rfl rfl
theorem i143_18 {v0 v1 v2 : Value} {st : List Value} {h : ab_Hp} {Q : ab_O → ab_Hp → Prop} : wp 143 18 [v0, v1, v2] st h Q = wp 143 19 [v0, v1, v2] (.int ((-1)) :: st) h Q := wp_stp (ri := (.iconst (-1), 1, 0, 0, 0, 0)) (by decide +kernel) rfl rfl rfl
theorem i143_19 {v0 v1 v2 : Value} {x y : Int32} {st : List Value} {h : ab_Hp} {Q : ab_O → ab_Hp → Prop} : wp 143 19 [v0, v1, v2] (.int y :: .int x :: st) h Q = if ¬ x = y then wp 143 26 [v0, v1, v2] st h Q else wp 143 22 [v0, v1, v2] st h Q := wp_icmpP (by decide +kernel : ab_cod 143 19 = some (.if_icmp .ne 7, 3, 26, 0, 0, 0)) rfl
theorem i143_22 {v0 v1 v2 : Value} {st : List Value} {h : ab_Hp} {Q : ab_O → ab_Hp → Prop} : wp 143 22 [v0, v1, v2] st h Q = wp 143 23 [v0, v1, v2] (.int (nI 0) :: st) h Q := wp_stp (ri := (.iconst 0, 1, 0, 0, 0, 0)) (by decide +kernel) rfl rfl rfl
theorem i143_23 {v0 v1 v2 : Value} {st : List Value} {h : ab_Hp} {Q : ab_O → ab_Hp → Prop} : wp 143 23 [v0, v1, v2] st h Q = wp 143 33 [v0, v1, v2] st h Q := wp_stp (ri := (.goto 10, 3, 33, 0, 0, 0)) (by decide +kernel) rfl rfl rfl
theorem i143_26 {v0 v1 v2 : Value} {st : List Value} {h : ab_Hp} {Q : ab_O → ab_Hp → Prop} (hv : ab_isA v0 = true) : wp 143 26 [v0, v1, v2] st h Q = wp 143 27 [v0, v1, v2] (v0 :: st) h Q := wp_aload_n (by decide +kernel : ab_cod 143 26 = some (.aload_n 0, 1, 0, 0, 0, 0)) hv
theorem i143_27 {v0 v2 : Value} {x : Int32} {st : List Value} {h : ab_Hp} {Q : ab_O → ab_Hp → Prop} : wp 143 27 [v0, .int x, v2] st h Q = wp 143 28 [v0, .int x, v2] (.int x :: st) h Q := wp_stp (ri := (.iload_n 1, 1, 0, 0, 0, 0)) (by decide +kernel) rfl rfl rfl
theorem i143_28 {v0 v1 v2 : Value} {st : List Value} {h : ab_Hp} {Q : ab_O → ab_Hp → Prop} : wp 143 28 [v0, v1, v2] st h Q = wp 143 30 [v0, v1, v2] (.int (nI 7) :: st) h Q := wp_stp (ri := (.bipush 7, 2, 0, 0, 0, 0)) (by decide +kernel) rfl rfl rfl
theorem i143_30 {v0 v1 v2 : Value} {r : Nat} {a0 : Int32} {a1 : Int32} {st : List Value} {h : ab_Hp} {Q : ab_O → ab_Hp → Prop} (hl : st.length ≤ 4) (hk : (ab_sh h r).1 = 17) : wp 143 30 [v0, v1, v2] (.int a1 :: .int a0 :: .ref r :: st) h Q = wp 90 0 [.ref r, .int a0, .int a1] [] h (ab_K 143 30 [v0, v1, v2] st Q) := wp_callV (as := [.int a0, .int a1]) (by decide +kernel : ab_cod 143 30 = some (.invokevirtual 47, 3, 90, 3, 0, 828)) rfl rfl rfl rfl hl hk
theorem i143_33 {v0 v1 v2 : Value} {x y : Int32} {st : List Value} {h : ab_Hp} {Q : ab_O → ab_Hp → Prop} : wp 143 33 [v0, v1, v2] (.int y :: .int x :: st) h Q = if x ≤ y then wp 143 40 [v0, v1, v2] st h Q else wp 143 36 [v0, v1, v2] st h Q := wp_icmpP (by decide +kernel : ab_cod 143 33 = some (.if_icmp .le 7, 3, 40, 0, 0, 0)) rfl
theorem i143_36 {v0 v1 : Value} {x : Int32} {st : List Value} {h : ab_Hp} {Q : ab_O → ab_Hp → Prop} : wp 143 36 [v0, v1, .int x] st h Q = wp 143 37 [v0, v1, .int x] (.int x :: st) h Q := wp_stp (ri := (.iload_n 2, 1, 0, 0, 0, 0)) (by decide +kernel) rfl rfl rfl
theorem i143_37 {v0 v1 v2 : Value} {st : List Value} {h : ab_Hp} {Q : ab_O → ab_Hp → Prop} : wp 143 37 [v0, v1, v2] st h Q = wp 143 41 [v0, v1, v2] st h Q := wp_stp (ri := (.goto 4, 3, 41, 0, 0, 0)) (by decide +kernel) rfl rfl rfl
theorem i143_40 {v0 v2 : Value} {x : Int32} {st : List Value} {h : ab_Hp} {Q : ab_O → ab_Hp → Prop} : wp 143 40 [v0, .int x, v2] st h Q = wp 143 41 [v0, .int x, v2] (.int x :: st) h Q := wp_stp (ri := (.iload_n 1, 1, 0, 0, 0, 0)) (by decide +kernel) rfl rfl rfl
theorem i143_41 {v0 v1 v2 : Value} {w : Int32} {st : List Value} {h : ab_Hp} {Q : ab_O → ab_Hp → Prop} : wp 143 41 [v0, v1, v2] (.int w :: st) h Q = wp 143 42 [ab_clr v0, .int w, v2] st h Q := wp_stp (ri := (.istore_n 1, 1, 0, 0, 0, 0)) (by decide +kernel) rfl rfl rfl
theorem i143_42 {v0 v1 : Value} {x : Int32} {st : List Value} {h : ab_Hp} {Q : ab_O → ab_Hp → Prop} : wp 143 42 [v0, v1, .int x] st h Q = wp 143 45 [v0, ab_clr v1, .int (x + nI 1)] st h Q := wp_stp (ri := (.iinc 2 1, 3, 0, 0, 0, 0)) (by decide +kernel) rfl rfl rfl
theorem i143_45 {v0 v1 v2 : Value} {st : List Value} {h : ab_Hp} {Q : ab_O → ab_Hp → Prop} : wp 143 45 [v0, v1, v2] st h Q = wp 143 4 [v0, v1, v2] st h Q := wp_stp (ri := (.goto (-41), 3, 4, 0, 0, 0)) (by decide +kernel) rfl rfl rfl
theorem i143_48 {v0 v2 : Value} {x : Int32} {st : List Value} {h : ab_Hp} {Q : ab_O → ab_Hp → Prop} : wp 143 48 [v0, .int x, v2] st h Q = wp 143 49 [v0, .int x, v2] (.int x :: st) h Q := wp_stp (ri := (.iload_n 1, 1, 0, 0, 0, 0)) (by decide +kernel) rfl rfl rfl
theorem i143_49 {v0 v1 v2 : Value} {x : Int32} {h : ab_Hp} {Q : ab_O → ab_Hp → Prop} : wp 143 49 [v0, v1, v2] [.int x] h Q = Q (.inl (some (.int x))) h := wp_iret (by decide +kernel : ab_cod 143 49 = some (.ireturn, 1, 0, 0, 0, 0)) rfl
/-! 144: SeamBeatsModel.slowest()I -/
theorem i144_0 {v0 : Value} {st : List Value} {h : ab_Hp} {Q : ab_O → ab_Hp → Prop} (hv : ab_isA v0 = true) : wp 144 0 [v0] st h Q = wp 144 1 [v0] (v0 :: st) h Q := wp_aload_n (by decide +kernel : ab_cod 144 0 = some (.aload_n 0, 1, 0, 0, 0, 0)) hv
theorem i144_1 {v0 : Value} {st : List Value} {h : ab_Hp} {Q : ab_O → ab_Hp → Prop} : wp 144 1 [v0] st h Q = wp 144 2 [v0] (.int (nI 0) :: st) h Q := wp_stp (ri := (.iconst 0, 1, 0, 0, 0, 0)) (by decide +kernel) rfl rfl rfl
theorem i144_2 {v0 : Value} {r : Nat} {x : Int32} {st : List Value} {h : ab_Hp} {Q : ab_O → ab_Hp → Prop} (hk : (ab_sh h r).1 = 17) : wp 144 2 [v0] (.int x :: .ref r :: st) h Q = wp 144 5 [v0] st (ab_setI h (ab_u (ab_hi h) r 0 x)) Q := wp_pf (by decide +kernel : ab_cod 144 2 = some (.putfield 29, 3, 7, 0, 772, 0)) hk rfl
theorem i144_5 {v0 : Value} {st : List Value} {h : ab_Hp} {Q : ab_O → ab_Hp → Prop} (hv : ab_isA v0 = true) : wp 144 5 [v0] st h Q = wp 144 6 [v0] (v0 :: st) h Q := wp_aload_n (by decide +kernel : ab_cod 144 5 = some (.aload_n 0, 1, 0, 0, 0, 0)) hv
theorem i144_6 {v0 : Value} {r : Nat} {st : List Value} {h : ab_Hp} {Q : ab_O → ab_Hp → Prop} (hl : st.length ≤ 4) (hk : (ab_sh h r).1 = 17) : wp 144 6 [v0] (.ref r :: st) h Q = wp 143 0 [.ref r, ab_nov, ab_nov] [] h (ab_K 144 6 [v0] st Q) := wp_callV (as := []) (by decide +kernel : ab_cod 144 6 = some (.invokevirtual 160, 3, 143, 1, 0, 1032)) rfl rfl rfl rfl hl hk
theorem i144_9 {v0 : Value} {x : Int32} {h : ab_Hp} {Q : ab_O → ab_Hp → Prop} : wp 144 9 [v0] [.int x] h Q = Q (.inl (some (.int x))) h := wp_iret (by decide +kernel : ab_cod 144 9 = some (.ireturn, 1, 0, 0, 0, 0)) rfl
/-! 145: SeamBeatsModel.shareNow()D -/
theorem i145_0 {v0 : Value} {st : List Value} {h : ab_Hp} {Q : ab_O → ab_Hp → Prop} (hv : ab_isA v0 = true) : wp 145 0 [v0] st h Q = wp 145 1 [v0] (v0 :: st) h Q := wp_aload_n (by decide +kernel : ab_cod 145 0 = some (.aload_n 0, 1, 0, 0, 0, 0)) hv
theorem i145_1 {v0 : Value} {r : Nat} {st : List Value} {h : ab_Hp} {Q : ab_O → ab_Hp → Prop} (hk : (ab_sh h r).1 = 17) : wp 145 1 [v0] (.ref r :: st) h Q = wp 145 4 [v0] (va_rf (ab_hr h r 1) :: st) h Q := wp_gf (by decide +kernel : ab_cod 145 1 = some (.getfield 7, 3, 7, 1, 773, 1)) hk
theorem i145_4 {v0 : Value} {st : List Value} {h : ab_Hp} {Q : ab_O → ab_Hp → Prop} : wp 145 4 [v0] st h Q = wp 145 5 [v0] (.int (nI 1) :: st) h Q := wp_stp (ri := (.iconst 1, 1, 0, 0, 0, 0)) (by decide +kernel) rfl rfl rfl
theorem i145_5 {v0 : Value} {r : Nat} {x : Int32} {st : List Value} {h : ab_Hp} {Q : ab_O → ab_Hp → Prop} (hk : ((ab_sh h r).1 = 1 ∨ (ab_sh h r).1 = 6) ∧ ab_in x (ab_sh h r).2 = true) : wp 145 5 [v0] (.int x :: .ref r :: st) h Q = wp 145 6 [v0] (.int (ab_hi h r x.toNatClampNeg) :: st) h Q := wp_ia (by decide +kernel : ab_cod 145 5 = some (.iaload, 1, 0, 0, 0, 0)) hk
theorem i145_6 {v0 : Value} {x : Int32} {st : List Value} {h : ab_Hp} {Q : ab_O → ab_Hp → Prop} : wp 145 6 [v0] (.int x :: st) h Q = if ¬ x = 0 then wp 145 13 [v0] st h Q else wp 145 9 [v0] st h Q := wp_ifcP (by decide +kernel : ab_cod 145 6 = some (.ifCond .ne 7, 3, 13, 0, 0, 0)) rfl
theorem i145_9 {v0 : Value} {st : List Value} {h : ab_Hp} {Q : ab_O → ab_Hp → Prop} : wp 145 9 [v0] st h Q = wp 145 10 [v0] (.double FP.dconst1 :: st) h Q := wp_stp (ri := (.dconst 1, 1, 0, 0, 0, 0)) (by decide +kernel) rfl rfl rfl
theorem i145_10 {v0 : Value} {st : List Value} {h : ab_Hp} {Q : ab_O → ab_Hp → Prop} : wp 145 10 [v0] st h Q = wp 145 28 [v0] st h Q := wp_stp (ri := (.goto 18, 3, 28, 0, 0, 0)) (by decide +kernel) rfl rfl rfl
theorem i145_13 {v0 : Value} {st : List Value} {h : ab_Hp} {Q : ab_O → ab_Hp → Prop} (hv : ab_isA v0 = true) : wp 145 13 [v0] st h Q = wp 145 14 [v0] (v0 :: st) h Q := wp_aload_n (by decide +kernel : ab_cod 145 13 = some (.aload_n 0, 1, 0, 0, 0, 0)) hv
theorem i145_14 {v0 : Value} {r : Nat} {st : List Value} {h : ab_Hp} {Q : ab_O → ab_Hp → Prop} (hk : (ab_sh h r).1 = 17) : wp 145 14 [v0] (.ref r :: st) h Q = wp 145 17 [v0] (va_rf (ab_hr h r 1) :: st) h Q := wp_gf (by decide +kernel : ab_cod 145 14 = some (.getfield 7, 3, 7, 1, 773, 1)) hk
theorem i145_17 {v0 : Value} {st : List Value} {h : ab_Hp} {Q : ab_O → ab_Hp → Prop} : wp 145 17 [v0] st h Q = wp 145 18 [v0] (.int (nI 2) :: st) h Q := wp_stp (ri := (.iconst 2, 1, 0, 0, 0, 0)) (by decide +kernel) rfl rfl rfl
theorem i145_18 {v0 : Value} {r : Nat} {x : Int32} {st : List Value} {h : ab_Hp} {Q : ab_O → ab_Hp → Prop} (hk : ((ab_sh h r).1 = 1 ∨ (ab_sh h r).1 = 6) ∧ ab_in x (ab_sh h r).2 = true) : wp 145 18 [v0] (.int x :: .ref r :: st) h Q = wp 145 19 [v0] (.int (ab_hi h r x.toNatClampNeg) :: st) h Q := wp_ia (by decide +kernel : ab_cod 145 18 = some (.iaload, 1, 0, 0, 0, 0)) hk
theorem i145_19 {v0 : Value} {x : Int32} {st : List Value} {h : ab_Hp} {Q : ab_O → ab_Hp → Prop} : wp 145 19 [v0] (.int x :: st) h Q = wp 145 20 [v0] (.double (FP.i2d x) :: st) h Q := wp_stp (ri := (.i2d, 1, 0, 0, 0, 0)) (by decide +kernel) rfl rfl rfl
theorem i145_20 {v0 : Value} {st : List Value} {h : ab_Hp} {Q : ab_O → ab_Hp → Prop} (hv : ab_isA v0 = true) : wp 145 20 [v0] st h Q = wp 145 21 [v0] (v0 :: st) h Q := wp_aload_n (by decide +kernel : ab_cod 145 20 = some (.aload_n 0, 1, 0, 0, 0, 0)) hv
theorem i145_21 {v0 : Value} {r : Nat} {st : List Value} {h : ab_Hp} {Q : ab_O → ab_Hp → Prop} (hk : (ab_sh h r).1 = 17) : wp 145 21 [v0] (.ref r :: st) h Q = wp 145 24 [v0] (va_rf (ab_hr h r 1) :: st) h Q := wp_gf (by decide +kernel : ab_cod 145 21 = some (.getfield 7, 3, 7, 1, 773, 1)) hk
theorem i145_24 {v0 : Value} {st : List Value} {h : ab_Hp} {Q : ab_O → ab_Hp → Prop} : wp 145 24 [v0] st h Q = wp 145 25 [v0] (.int (nI 1) :: st) h Q := wp_stp (ri := (.iconst 1, 1, 0, 0, 0, 0)) (by decide +kernel) rfl rfl rfl
theorem i145_25 {v0 : Value} {r : Nat} {x : Int32} {st : List Value} {h : ab_Hp} {Q : ab_O → ab_Hp → Prop} (hk : ((ab_sh h r).1 = 1 ∨ (ab_sh h r).1 = 6) ∧ ab_in x (ab_sh h r).2 = true) : wp 145 25 [v0] (.int x :: .ref r :: st) h Q = wp 145 26 [v0] (.int (ab_hi h r x.toNatClampNeg) :: st) h Q := wp_ia (by decide +kernel : ab_cod 145 25 = some (.iaload, 1, 0, 0, 0, 0)) hk
theorem i145_26 {v0 : Value} {x : Int32} {st : List Value} {h : ab_Hp} {Q : ab_O → ab_Hp → Prop} : wp 145 26 [v0] (.int x :: st) h Q = wp 145 27 [v0] (.double (FP.i2d x) :: st) h Q := wp_stp (ri := (.i2d, 1, 0, 0, 0, 0)) (by decide +kernel) rfl rfl rfl
theorem i145_27 {v0 : Value} {x y : UInt64} {st : List Value} {h : ab_Hp} {Q : ab_O → ab_Hp → Prop} (hn : (FP.ddiv x y) &&& 0x7fffffffffffffff ≤ 0x7ff0000000000000) : wp 145 27 [v0] (.double y :: .double x :: st) h Q = wp 145 28 [v0] (.double (FP.ddiv x y) :: st) h Q := wp_dd (by decide +kernel : ab_cod 145 27 = some (.ddiv, 1, 0, 0, 0, 0)) rfl rfl (fun _ _ _ => rfl) hn
theorem i145_28 {v0 : Value} {z : UInt64} {h : ab_Hp} {Q : ab_O → ab_Hp → Prop} : wp 145 28 [v0] [.double z] h Q = Q (.inl (some (.double z))) h := wp_dret (by decide +kernel : ab_cod 145 28 = some (.dreturn, 1, 0, 0, 0, 0)) rfl
/-! 146: SeamBeatsModel.outShare()D -/
theorem i146_0 {v0 : Value} {st : List Value} {h : ab_Hp} {Q : ab_O → ab_Hp → Prop} (hv : ab_isA v0 = true) : wp 146 0 [v0] st h Q = wp 146 1 [v0] (v0 :: st) h Q := wp_aload_n (by decide +kernel : ab_cod 146 0 = some (.aload_n 0, 1, 0, 0, 0, 0)) hv
theorem i146_1 {v0 : Value} {st : List Value} {h : ab_Hp} {Q : ab_O → ab_Hp → Prop} : wp 146 1 [v0] st h Q = wp 146 2 [v0] (.int (nI 0) :: st) h Q := wp_stp (ri := (.iconst 0, 1, 0, 0, 0, 0)) (by decide +kernel) rfl rfl rfl
theorem i146_2 {v0 : Value} {r : Nat} {x : Int32} {st : List Value} {h : ab_Hp} {Q : ab_O → ab_Hp → Prop} (hk : (ab_sh h r).1 = 17) : wp 146 2 [v0] (.int x :: .ref r :: st) h Q = wp 146 5 [v0] st (ab_setI h (ab_u (ab_hi h) r 0 x)) Q := wp_pf (by decide +kernel : ab_cod 146 2 = some (.putfield 29, 3, 7, 0, 772, 0)) hk rfl
theorem i146_5 {v0 : Value} {st : List Value} {h : ab_Hp} {Q : ab_O → ab_Hp → Prop} (hv : ab_isA v0 = true) : wp 146 5 [v0] st h Q = wp 146 6 [v0] (v0 :: st) h Q := wp_aload_n (by decide +kernel : ab_cod 146 5 = some (.aload_n 0, 1, 0, 0, 0, 0)) hv
theorem i146_6 {v0 : Value} {r : Nat} {st : List Value} {h : ab_Hp} {Q : ab_O → ab_Hp → Prop} (hl : st.length ≤ 4) (hk : (ab_sh h r).1 = 17) : wp 146 6 [v0] (.ref r :: st) h Q = wp 145 0 [.ref r] [] h (ab_K 146 6 [v0] st Q) := wp_callV (as := []) (by decide +kernel : ab_cod 146 6 = some (.invokevirtual 163, 3, 145, 1, 0, 1040)) rfl rfl rfl rfl hl hk
theorem i146_9 {v0 : Value} {z : UInt64} {h : ab_Hp} {Q : ab_O → ab_Hp → Prop} : wp 146 9 [v0] [.double z] h Q = Q (.inl (some (.double z))) h := wp_dret (by decide +kernel : ab_cod 146 9 = some (.dreturn, 1, 0, 0, 0, 0)) rfl
/-! 147: SeamBeatsModel.bitsOf(D)J -/
set_option maxRecDepth 100000 in
theorem i147_0 {v1 v2 v3 v4 v5 : Value} {x : UInt64} {st : List Value} {h : ab_Hp} {Q : ab_O → ab_Hp → Prop} : wp 147 0 [.double x, v1, v2, v3, v4, v5] st h Q = wp 147 1 [.double x, v1, v2, v3, v4, v5] (.double x :: st) h Q := wp_stp (ri := (.dload_n 0, 1, 0, 0, 0, 0)) (by decide +kernel) rfl rfl rfl
set_option maxRecDepth 100000 in
theorem i147_1 {v0 v1 v2 v3 v4 v5 : Value} {st : List Value} {h : ab_Hp} {Q : ab_O → ab_Hp → Prop} : wp 147 1 [v0, v1, v2, v3, v4, v5] st h Q = wp 147 2 [v0, v1, v2, v3, v4, v5] (.double FP.dconst0 :: st) h Q := wp_stp (ri := (.dconst 0, 1, 0, 0, 0, 0)) (by decide +kernel) rfl rfl rfl
set_option maxRecDepth 100000 in
theorem i147_2 {v0 v1 v2 v3 v4 v5 : Value} {x y : UInt64} {st : List Value} {h : ab_Hp} {Q : ab_O → ab_Hp → Prop} : wp 147 2 [v0, v1, v2, v3, v4, v5] (.double y :: .double x :: st) h Q = wp 147 3 [v0, v1, v2, v3, v4, v5] (.int (Op.cmpValue (FP.dcmp x y) .l) :: st) h Q := wp_stp (ri := (.dcmp .l, 1, 0, 0, 0, 0)) (by decide +kernel) rfl rfl rfl
set_option maxRecDepth 100000 in
theorem i147_3 {v0 v1 v2 v3 v4 v5 : Value} {x : Int32} {st : List Value} {h : ab_Hp} {Q : ab_O → ab_Hp → Prop} : wp 147 3 [v0, v1, v2, v3, v4, v5] (.int x :: st) h Q = if ¬ x = 0 then wp 147 8 [v0, v1, v2, v3, v4, v5] st h Q else wp 147 6 [v0, v1, v2, v3, v4, v5] st h Q := wp_ifcP (by decide +kernel : ab_cod 147 3 = some (.ifCond .ne 5, 3, 8, 0, 0, 0)) rfl
set_option maxRecDepth 100000 in
theorem i147_6 {v0 v1 v2 v3 v4 v5 : Value} {st : List Value} {h : ab_Hp} {Q : ab_O → ab_Hp → Prop} : wp 147 6 [v0, v1, v2, v3, v4, v5] st h Q = wp 147 7 [v0, v1, v2, v3, v4, v5] (.long 0 :: st) h Q := wp_stp (ri := (.lconst 0, 1, 0, 0, 0, 0)) (by decide +kernel) rfl rfl rfl
set_option maxRecDepth 100000 in
theorem i147_7 {v0 v1 v2 v3 v4 v5 : Value} {z : Int64} {h : ab_Hp} {Q : ab_O → ab_Hp → Prop} : wp 147 7 [v0, v1, v2, v3, v4, v5] [.long z] h Q = Q (.inl (some (.long z))) h := wp_lret (by decide +kernel : ab_cod 147 7 = some (.lreturn, 1, 0, 0, 0, 0)) rfl
set_option maxRecDepth 100000 in
theorem i147_8 {v1 v2 v3 v4 v5 : Value} {x : UInt64} {st : List Value} {h : ab_Hp} {Q : ab_O → ab_Hp → Prop} : wp 147 8 [.double x, v1, v2, v3, v4, v5] st h Q = wp 147 9 [.double x, v1, v2, v3, v4, v5] (.double x :: st) h Q := wp_stp (ri := (.dload_n 0, 1, 0, 0, 0, 0)) (by decide +kernel) rfl rfl rfl
set_option maxRecDepth 100000 in
theorem i147_9 {v0 v1 v2 v3 v4 v5 : Value} {w : UInt64} {st : List Value} {h : ab_Hp} {Q : ab_O → ab_Hp → Prop} : wp 147 9 [v0, v1, v2, v3, v4, v5] (.double w :: st) h Q = wp 147 10 [v0, ab_clr v1, .double w, ab_nov, v4, v5] st h Q := wp_stp (ri := (.dstore_n 2, 1, 0, 0, 0, 0)) (by decide +kernel) rfl rfl rfl
set_option maxRecDepth 100000 in
theorem i147_10 {v0 v1 v2 v3 v4 v5 : Value} {st : List Value} {h : ab_Hp} {Q : ab_O → ab_Hp → Prop} : wp 147 10 [v0, v1, v2, v3, v4, v5] st h Q = wp 147 13 [v0, v1, v2, v3, v4, v5] (.long 1023 :: st) h Q := wp_stp (ri := (.ldc2_w 167, 3, 0, 1065, 1023, 0)) (by decide +kernel) rfl rfl rfl
set_option maxRecDepth 100000 in
theorem i147_13 {v0 v1 v2 v3 v4 v5 : Value} {w : Int64} {st : List Value} {h : ab_Hp} {Q : ab_O → ab_Hp → Prop} : wp 147 13 [v0, v1, v2, v3, v4, v5] (.long w :: st) h Q = wp 147 15 [v0, v1, v2, ab_clr v3, .long w, ab_nov] st h Q := wp_stp (ri := (.lstore 4, 2, 0, 0, 0, 0)) (by decide +kernel) rfl rfl rfl
set_option maxRecDepth 100000 in
theorem i147_15 {v0 v1 v3 v4 v5 : Value} {x : UInt64} {st : List Value} {h : ab_Hp} {Q : ab_O → ab_Hp → Prop} : wp 147 15 [v0, v1, .double x, v3, v4, v5] st h Q = wp 147 16 [v0, v1, .double x, v3, v4, v5] (.double x :: st) h Q := wp_stp (ri := (.dload_n 2, 1, 0, 0, 0, 0)) (by decide +kernel) rfl rfl rfl
set_option maxRecDepth 100000 in
theorem i147_16 {v0 v1 v2 v3 v4 v5 : Value} {st : List Value} {h : ab_Hp} {Q : ab_O → ab_Hp → Prop} : wp 147 16 [v0, v1, v2, v3, v4, v5] st h Q = wp 147 19 [v0, v1, v2, v3, v4, v5] (.double 4611686018427387904 :: st) h Q := wp_stp (ri := (.ldc2_w 169, 3, 1, 1066, 4611686018427387904, 0)) (by decide +kernel) rfl rfl rfl
set_option maxRecDepth 100000 in
theorem i147_19 {v0 v1 v2 v3 v4 v5 : Value} {x y : UInt64} {st : List Value} {h : ab_Hp} {Q : ab_O → ab_Hp → Prop} : wp 147 19 [v0, v1, v2, v3, v4, v5] (.double y :: .double x :: st) h Q = wp 147 20 [v0, v1, v2, v3, v4, v5] (.int (Op.cmpValue (FP.dcmp x y) .l) :: st) h Q := wp_stp (ri := (.dcmp .l, 1, 0, 0, 0, 0)) (by decide +kernel) rfl rfl rfl
set_option maxRecDepth 100000 in
theorem i147_20 {v0 v1 v2 v3 v4 v5 : Value} {x : Int32} {st : List Value} {h : ab_Hp} {Q : ab_O → ab_Hp → Prop} : wp 147 20 [v0, v1, v2, v3, v4, v5] (.int x :: st) h Q = if x < 0 then wp 147 38 [v0, v1, v2, v3, v4, v5] st h Q else wp 147 23 [v0, v1, v2, v3, v4, v5] st h Q := wp_ifcP (by decide +kernel : ab_cod 147 20 = some (.ifCond .lt 18, 3, 38, 0, 0, 0)) rfl
set_option maxRecDepth 100000 in
theorem i147_23 {v0 v1 v3 v4 v5 : Value} {x : UInt64} {st : List Value} {h : ab_Hp} {Q : ab_O → ab_Hp → Prop} : wp 147 23 [v0, v1, .double x, v3, v4, v5] st h Q = wp 147 24 [v0, v1, .double x, v3, v4, v5] (.double x :: st) h Q := wp_stp (ri := (.dload_n 2, 1, 0, 0, 0, 0)) (by decide +kernel) rfl rfl rfl
set_option maxRecDepth 100000 in
theorem i147_24 {v0 v1 v2 v3 v4 v5 : Value} {st : List Value} {h : ab_Hp} {Q : ab_O → ab_Hp → Prop} : wp 147 24 [v0, v1, v2, v3, v4, v5] st h Q = wp 147 27 [v0, v1, v2, v3, v4, v5] (.double 4611686018427387904 :: st) h Q := wp_stp (ri := (.ldc2_w 169, 3, 1, 1066, 4611686018427387904, 0)) (by decide +kernel) rfl rfl rfl
set_option maxRecDepth 100000 in
theorem i147_27 {v0 v1 v2 v3 v4 v5 : Value} {x y : UInt64} {st : List Value} {h : ab_Hp} {Q : ab_O → ab_Hp → Prop} (hn : (FP.ddiv x y) &&& 0x7fffffffffffffff ≤ 0x7ff0000000000000) : wp 147 27 [v0, v1, v2, v3, v4, v5] (.double y :: .double x :: st) h Q = wp 147 28 [v0, v1, v2, v3, v4, v5] (.double (FP.ddiv x y) :: st) h Q := wp_dd (by decide +kernel : ab_cod 147 27 = some (.ddiv, 1, 0, 0, 0, 0)) rfl rfl (fun _ _ _ => rfl) hn
set_option maxRecDepth 100000 in
theorem i147_28 {v0 v1 v2 v3 v4 v5 : Value} {w : UInt64} {st : List Value} {h : ab_Hp} {Q : ab_O → ab_Hp → Prop} : wp 147 28 [v0, v1, v2, v3, v4, v5] (.double w :: st) h Q = wp 147 29 [v0, ab_clr v1, .double w, ab_nov, v4, v5] st h Q := wp_stp (ri := (.dstore_n 2, 1, 0, 0, 0, 0)) (by decide +kernel) rfl rfl rfl
set_option maxRecDepth 100000 in
theorem i147_29 {v0 v1 v2 v3 v5 : Value} {x : Int64} {st : List Value} {h : ab_Hp} {Q : ab_O → ab_Hp → Prop} : wp 147 29 [v0, v1, v2, v3, .long x, v5] st h Q = wp 147 31 [v0, v1, v2, v3, .long x, v5] (.long x :: st) h Q := wp_stp (ri := (.lload 4, 2, 0, 0, 0, 0)) (by decide +kernel) rfl rfl rfl
set_option maxRecDepth 100000 in
theorem i147_31 {v0 v1 v2 v3 v4 v5 : Value} {st : List Value} {h : ab_Hp} {Q : ab_O → ab_Hp → Prop} : wp 147 31 [v0, v1, v2, v3, v4, v5] st h Q = wp 147 32 [v0, v1, v2, v3, v4, v5] (.long 1 :: st) h Q := wp_stp (ri := (.lconst 1, 1, 0, 0, 0, 0)) (by decide +kernel) rfl rfl rfl
set_option maxRecDepth 100000 in
theorem i147_32 {v0 v1 v2 v3 v4 v5 : Value} {x y : Int64} {st : List Value} {h : ab_Hp} {Q : ab_O → ab_Hp → Prop} : wp 147 32 [v0, v1, v2, v3, v4, v5] (.long y :: .long x :: st) h Q = wp 147 33 [v0, v1, v2, v3, v4, v5] (.long (x + y) :: st) h Q := wp_stp (ri := (.ladd, 1, 0, 0, 0, 0)) (by decide +kernel) rfl rfl rfl
set_option maxRecDepth 100000 in
theorem i147_33 {v0 v1 v2 v3 v4 v5 : Value} {w : Int64} {st : List Value} {h : ab_Hp} {Q : ab_O → ab_Hp → Prop} : wp 147 33 [v0, v1, v2, v3, v4, v5] (.long w :: st) h Q = wp 147 35 [v0, v1, v2, ab_clr v3, .long w, ab_nov] st h Q := wp_stp (ri := (.lstore 4, 2, 0, 0, 0, 0)) (by decide +kernel) rfl rfl rfl
set_option maxRecDepth 100000 in
theorem i147_35 {v0 v1 v2 v3 v4 v5 : Value} {st : List Value} {h : ab_Hp} {Q : ab_O → ab_Hp → Prop} : wp 147 35 [v0, v1, v2, v3, v4, v5] st h Q = wp 147 15 [v0, v1, v2, v3, v4, v5] st h Q := wp_stp (ri := (.goto (-20), 3, 15, 0, 0, 0)) (by decide +kernel) rfl rfl rfl
set_option maxRecDepth 100000 in
theorem i147_38 {v0 v1 v3 v4 v5 : Value} {x : UInt64} {st : List Value} {h : ab_Hp} {Q : ab_O → ab_Hp → Prop} : wp 147 38 [v0, v1, .double x, v3, v4, v5] st h Q = wp 147 39 [v0, v1, .double x, v3, v4, v5] (.double x :: st) h Q := wp_stp (ri := (.dload_n 2, 1, 0, 0, 0, 0)) (by decide +kernel) rfl rfl rfl
set_option maxRecDepth 100000 in
theorem i147_39 {v0 v1 v2 v3 v4 v5 : Value} {st : List Value} {h : ab_Hp} {Q : ab_O → ab_Hp → Prop} : wp 147 39 [v0, v1, v2, v3, v4, v5] st h Q = wp 147 40 [v0, v1, v2, v3, v4, v5] (.double FP.dconst1 :: st) h Q := wp_stp (ri := (.dconst 1, 1, 0, 0, 0, 0)) (by decide +kernel) rfl rfl rfl
set_option maxRecDepth 100000 in
theorem i147_40 {v0 v1 v2 v3 v4 v5 : Value} {x y : UInt64} {st : List Value} {h : ab_Hp} {Q : ab_O → ab_Hp → Prop} : wp 147 40 [v0, v1, v2, v3, v4, v5] (.double y :: .double x :: st) h Q = wp 147 41 [v0, v1, v2, v3, v4, v5] (.int (Op.cmpValue (FP.dcmp x y) .g) :: st) h Q := wp_stp (ri := (.dcmp .g, 1, 0, 0, 0, 0)) (by decide +kernel) rfl rfl rfl
set_option maxRecDepth 100000 in
theorem i147_41 {v0 v1 v2 v3 v4 v5 : Value} {x : Int32} {st : List Value} {h : ab_Hp} {Q : ab_O → ab_Hp → Prop} : wp 147 41 [v0, v1, v2, v3, v4, v5] (.int x :: st) h Q = if 0 ≤ x then wp 147 59 [v0, v1, v2, v3, v4, v5] st h Q else wp 147 44 [v0, v1, v2, v3, v4, v5] st h Q := wp_ifcP (by decide +kernel : ab_cod 147 41 = some (.ifCond .ge 18, 3, 59, 0, 0, 0)) rfl
set_option maxRecDepth 100000 in
theorem i147_44 {v0 v1 v3 v4 v5 : Value} {x : UInt64} {st : List Value} {h : ab_Hp} {Q : ab_O → ab_Hp → Prop} : wp 147 44 [v0, v1, .double x, v3, v4, v5] st h Q = wp 147 45 [v0, v1, .double x, v3, v4, v5] (.double x :: st) h Q := wp_stp (ri := (.dload_n 2, 1, 0, 0, 0, 0)) (by decide +kernel) rfl rfl rfl
set_option maxRecDepth 100000 in
theorem i147_45 {v0 v1 v2 v3 v4 v5 : Value} {st : List Value} {h : ab_Hp} {Q : ab_O → ab_Hp → Prop} : wp 147 45 [v0, v1, v2, v3, v4, v5] st h Q = wp 147 48 [v0, v1, v2, v3, v4, v5] (.double 4611686018427387904 :: st) h Q := wp_stp (ri := (.ldc2_w 169, 3, 1, 1066, 4611686018427387904, 0)) (by decide +kernel) rfl rfl rfl
set_option maxRecDepth 100000 in
theorem i147_48 {v0 v1 v2 v3 v4 v5 : Value} {x y : UInt64} {st : List Value} {h : ab_Hp} {Q : ab_O → ab_Hp → Prop} (hn : (FP.dmul x y) &&& 0x7fffffffffffffff ≤ 0x7ff0000000000000) : wp 147 48 [v0, v1, v2, v3, v4, v5] (.double y :: .double x :: st) h Q = wp 147 49 [v0, v1, v2, v3, v4, v5] (.double (FP.dmul x y) :: st) h Q := wp_dd (by decide +kernel : ab_cod 147 48 = some (.dmul, 1, 0, 0, 0, 0)) rfl rfl (fun _ _ _ => rfl) hn
set_option maxRecDepth 100000 in
theorem i147_49 {v0 v1 v2 v3 v4 v5 : Value} {w : UInt64} {st : List Value} {h : ab_Hp} {Q : ab_O → ab_Hp → Prop} : wp 147 49 [v0, v1, v2, v3, v4, v5] (.double w :: st) h Q = wp 147 50 [v0, ab_clr v1, .double w, ab_nov, v4, v5] st h Q := wp_stp (ri := (.dstore_n 2, 1, 0, 0, 0, 0)) (by decide +kernel) rfl rfl rfl
set_option maxRecDepth 100000 in
theorem i147_50 {v0 v1 v2 v3 v5 : Value} {x : Int64} {st : List Value} {h : ab_Hp} {Q : ab_O → ab_Hp → Prop} : wp 147 50 [v0, v1, v2, v3, .long x, v5] st h Q = wp 147 52 [v0, v1, v2, v3, .long x, v5] (.long x :: st) h Q := wp_stp (ri := (.lload 4, 2, 0, 0, 0, 0)) (by decide +kernel) rfl rfl rfl
set_option maxRecDepth 100000 in
theorem i147_52 {v0 v1 v2 v3 v4 v5 : Value} {st : List Value} {h : ab_Hp} {Q : ab_O → ab_Hp → Prop} : wp 147 52 [v0, v1, v2, v3, v4, v5] st h Q = wp 147 53 [v0, v1, v2, v3, v4, v5] (.long 1 :: st) h Q := wp_stp (ri := (.lconst 1, 1, 0, 0, 0, 0)) (by decide +kernel) rfl rfl rfl
set_option maxRecDepth 100000 in
theorem i147_53 {v0 v1 v2 v3 v4 v5 : Value} {x y : Int64} {st : List Value} {h : ab_Hp} {Q : ab_O → ab_Hp → Prop} : wp 147 53 [v0, v1, v2, v3, v4, v5] (.long y :: .long x :: st) h Q = wp 147 54 [v0, v1, v2, v3, v4, v5] (.long (x - y) :: st) h Q := wp_stp (ri := (.lsub, 1, 0, 0, 0, 0)) (by decide +kernel) rfl rfl rfl
set_option maxRecDepth 100000 in
theorem i147_54 {v0 v1 v2 v3 v4 v5 : Value} {w : Int64} {st : List Value} {h : ab_Hp} {Q : ab_O → ab_Hp → Prop} : wp 147 54 [v0, v1, v2, v3, v4, v5] (.long w :: st) h Q = wp 147 56 [v0, v1, v2, ab_clr v3, .long w, ab_nov] st h Q := wp_stp (ri := (.lstore 4, 2, 0, 0, 0, 0)) (by decide +kernel) rfl rfl rfl
set_option maxRecDepth 100000 in
theorem i147_56 {v0 v1 v2 v3 v4 v5 : Value} {st : List Value} {h : ab_Hp} {Q : ab_O → ab_Hp → Prop} : wp 147 56 [v0, v1, v2, v3, v4, v5] st h Q = wp 147 38 [v0, v1, v2, v3, v4, v5] st h Q := wp_stp (ri := (.goto (-18), 3, 38, 0, 0, 0)) (by decide +kernel) rfl rfl rfl
set_option maxRecDepth 100000 in
theorem i147_59 {v0 v1 v2 v3 v5 : Value} {x : Int64} {st : List Value} {h : ab_Hp} {Q : ab_O → ab_Hp → Prop} : wp 147 59 [v0, v1, v2, v3, .long x, v5] st h Q = wp 147 61 [v0, v1, v2, v3, .long x, v5] (.long x :: st) h Q := wp_stp (ri := (.lload 4, 2, 0, 0, 0, 0)) (by decide +kernel) rfl rfl rfl
set_option maxRecDepth 100000 in
theorem i147_61 {v0 v1 v2 v3 v4 v5 : Value} {st : List Value} {h : ab_Hp} {Q : ab_O → ab_Hp → Prop} : wp 147 61 [v0, v1, v2, v3, v4, v5] st h Q = wp 147 63 [v0, v1, v2, v3, v4, v5] (.int (nI 52) :: st) h Q := wp_stp (ri := (.bipush 52, 2, 0, 0, 0, 0)) (by decide +kernel) rfl rfl rfl
set_option maxRecDepth 100000 in
theorem i147_63 {v0 v1 v2 v3 v4 v5 : Value} {x : Int64} {y : Int32} {st : List Value} {h : ab_Hp} {Q : ab_O → ab_Hp → Prop} : wp 147 63 [v0, v1, v2, v3, v4, v5] (.int y :: .long x :: st) h Q = wp 147 64 [v0, v1, v2, v3, v4, v5] (.long (x <<< (y.toInt64 &&& 63)) :: st) h Q := wp_stp (ri := (.lshl, 1, 0, 0, 0, 0)) (by decide +kernel) rfl rfl rfl
set_option maxRecDepth 100000 in
theorem i147_64 {v0 v1 v3 v4 v5 : Value} {x : UInt64} {st : List Value} {h : ab_Hp} {Q : ab_O → ab_Hp → Prop} : wp 147 64 [v0, v1, .double x, v3, v4, v5] st h Q = wp 147 65 [v0, v1, .double x, v3, v4, v5] (.double x :: st) h Q := wp_stp (ri := (.dload_n 2, 1, 0, 0, 0, 0)) (by decide +kernel) rfl rfl rfl
set_option maxRecDepth 100000 in
theorem i147_65 {v0 v1 v2 v3 v4 v5 : Value} {st : List Value} {h : ab_Hp} {Q : ab_O → ab_Hp → Prop} : wp 147 65 [v0, v1, v2, v3, v4, v5] st h Q = wp 147 68 [v0, v1, v2, v3, v4, v5] (.double 4841369599423283200 :: st) h Q := wp_stp (ri := (.ldc2_w 171, 3, 1, 1067, 4841369599423283200, 0)) (by decide +kernel) rfl rfl rfl
set_option maxRecDepth 100000 in
theorem i147_68 {v0 v1 v2 v3 v4 v5 : Value} {x y : UInt64} {st : List Value} {h : ab_Hp} {Q : ab_O → ab_Hp → Prop} (hn : (FP.dmul x y) &&& 0x7fffffffffffffff ≤ 0x7ff0000000000000) : wp 147 68 [v0, v1, v2, v3, v4, v5] (.double y :: .double x :: st) h Q = wp 147 69 [v0, v1, v2, v3, v4, v5] (.double (FP.dmul x y) :: st) h Q := wp_dd (by decide +kernel : ab_cod 147 68 = some (.dmul, 1, 0, 0, 0, 0)) rfl rfl (fun _ _ _ => rfl) hn
set_option maxRecDepth 100000 in
theorem i147_69 {v0 v1 v2 v3 v4 v5 : Value} {x : UInt64} {st : List Value} {h : ab_Hp} {Q : ab_O → ab_Hp → Prop} : wp 147 69 [v0, v1, v2, v3, v4, v5] (.double x :: st) h Q = wp 147 70 [v0, v1, v2, v3, v4, v5] (.long (FP.d2l x) :: st) h Q := wp_stp (ri := (.d2l, 1, 0, 0, 0, 0)) (by decide +kernel) rfl rfl rfl
set_option maxRecDepth 100000 in
theorem i147_70 {v0 v1 v2 v3 v4 v5 : Value} {x y : Int64} {st : List Value} {h : ab_Hp} {Q : ab_O → ab_Hp → Prop} : wp 147 70 [v0, v1, v2, v3, v4, v5] (.long y :: .long x :: st) h Q = wp 147 71 [v0, v1, v2, v3, v4, v5] (.long (x + y) :: st) h Q := wp_stp (ri := (.ladd, 1, 0, 0, 0, 0)) (by decide +kernel) rfl rfl rfl
set_option maxRecDepth 100000 in
theorem i147_71 {v0 v1 v2 v3 v4 v5 : Value} {st : List Value} {h : ab_Hp} {Q : ab_O → ab_Hp → Prop} : wp 147 71 [v0, v1, v2, v3, v4, v5] st h Q = wp 147 74 [v0, v1, v2, v3, v4, v5] (.long 4503599627370496 :: st) h Q := wp_stp (ri := (.ldc2_w 173, 3, 0, 1068, 4503599627370496, 0)) (by decide +kernel) rfl rfl rfl
set_option maxRecDepth 100000 in
theorem i147_74 {v0 v1 v2 v3 v4 v5 : Value} {x y : Int64} {st : List Value} {h : ab_Hp} {Q : ab_O → ab_Hp → Prop} : wp 147 74 [v0, v1, v2, v3, v4, v5] (.long y :: .long x :: st) h Q = wp 147 75 [v0, v1, v2, v3, v4, v5] (.long (x - y) :: st) h Q := wp_stp (ri := (.lsub, 1, 0, 0, 0, 0)) (by decide +kernel) rfl rfl rfl
set_option maxRecDepth 100000 in
theorem i147_75 {v0 v1 v2 v3 v4 v5 : Value} {z : Int64} {h : ab_Hp} {Q : ab_O → ab_Hp → Prop} : wp 147 75 [v0, v1, v2, v3, v4, v5] [.long z] h Q = Q (.inl (some (.long z))) h := wp_lret (by decide +kernel : ab_cod 147 75 = some (.lreturn, 1, 0, 0, 0, 0)) rfl
/-! 148: SeamBeatsModel.mix(J)V -/
theorem i148_0 {v0 v1 v2 : Value} {st : List Value} {h : ab_Hp} {Q : ab_O → ab_Hp → Prop} (hv : ab_isA v0 = true) : wp 148 0 [v0, v1, v2] st h Q = wp 148 1 [v0, v1, v2] (v0 :: st) h Q := wp_aload_n (by decide +kernel : ab_cod 148 0 = some (.aload_n 0, 1, 0, 0, 0, 0)) hv
theorem i148_1 {v0 v1 v2 : Value} {st : List Value} {h : ab_Hp} {Q : ab_O → ab_Hp → Prop} : wp 148 1 [v0, v1, v2] st h Q = wp 148 4 [v0, v1, v2] (.long 31 :: st) h Q := wp_stp (ri := (.ldc2_w 175, 3, 0, 1053, 31, 0)) (by decide +kernel) rfl rfl rfl
theorem i148_4 {v0 v1 v2 : Value} {st : List Value} {h : ab_Hp} {Q : ab_O → ab_Hp → Prop} (hv : ab_isA v0 = true) : wp 148 4 [v0, v1, v2] st h Q = wp 148 5 [v0, v1, v2] (v0 :: st) h Q := wp_aload_n (by decide +kernel : ab_cod 148 4 = some (.aload_n 0, 1, 0, 0, 0, 0)) hv
theorem i148_5 {v0 v1 v2 : Value} {r : Nat} {st : List Value} {h : ab_Hp} {Q : ab_O → ab_Hp → Prop} (hk : (ab_sh h r).1 = 17) : wp 148 5 [v0, v1, v2] (.ref r :: st) h Q = wp 148 8 [v0, v1, v2] (.long (ab_hl h r 10) :: st) h Q := wp_gf (by decide +kernel : ab_cod 148 5 = some (.getfield 177, 3, 7, 10, 782, 0)) hk
theorem i148_8 {v0 v1 v2 : Value} {x y : Int64} {st : List Value} {h : ab_Hp} {Q : ab_O → ab_Hp → Prop} : wp 148 8 [v0, v1, v2] (.long y :: .long x :: st) h Q = wp 148 9 [v0, v1, v2] (.long (x * y) :: st) h Q := wp_stp (ri := (.lmul, 1, 0, 0, 0, 0)) (by decide +kernel) rfl rfl rfl
theorem i148_9 {v0 v2 : Value} {x : Int64} {st : List Value} {h : ab_Hp} {Q : ab_O → ab_Hp → Prop} : wp 148 9 [v0, .long x, v2] st h Q = wp 148 10 [v0, .long x, v2] (.long x :: st) h Q := wp_stp (ri := (.lload_n 1, 1, 0, 0, 0, 0)) (by decide +kernel) rfl rfl rfl
theorem i148_10 {v0 v1 v2 : Value} {x y : Int64} {st : List Value} {h : ab_Hp} {Q : ab_O → ab_Hp → Prop} : wp 148 10 [v0, v1, v2] (.long y :: .long x :: st) h Q = wp 148 11 [v0, v1, v2] (.long (x + y) :: st) h Q := wp_stp (ri := (.ladd, 1, 0, 0, 0, 0)) (by decide +kernel) rfl rfl rfl
theorem i148_11 {v0 v1 v2 : Value} {r : Nat} {z : Int64} {st : List Value} {h : ab_Hp} {Q : ab_O → ab_Hp → Prop} (hk : (ab_sh h r).1 = 17) : wp 148 11 [v0, v1, v2] (.long z :: .ref r :: st) h Q = wp 148 14 [v0, v1, v2] st (ab_setL h (ab_u (ab_hl h) r 10 z)) Q := wp_pf (by decide +kernel : ab_cod 148 11 = some (.putfield 177, 3, 7, 10, 782, 0)) hk rfl
theorem i148_14 {v0 v1 v2 : Value} {h : ab_Hp} {Q : ab_O → ab_Hp → Prop} : wp 148 14 [v0, v1, v2] [] h Q = Q (.inl none) h := wp_vret (by decide +kernel : ab_cod 148 14 = some (.return_, 1, 0, 0, 0, 0)) rfl
/-! 149: SeamBeatsModel.mixRoom(I)V -/
set_option maxRecDepth 100000 in
theorem i149_0 {v0 v1 v2 : Value} {st : List Value} {h : ab_Hp} {Q : ab_O → ab_Hp → Prop} : wp 149 0 [v0, v1, v2] st h Q = wp 149 1 [v0, v1, v2] (.int (nI 0) :: st) h Q := wp_stp (ri := (.iconst 0, 1, 0, 0, 0, 0)) (by decide +kernel) rfl rfl rfl
set_option maxRecDepth 100000 in
theorem i149_1 {v0 v1 v2 : Value} {w : Int32} {st : List Value} {h : ab_Hp} {Q : ab_O → ab_Hp → Prop} : wp 149 1 [v0, v1, v2] (.int w :: st) h Q = wp 149 2 [v0, ab_clr v1, .int w] st h Q := wp_stp (ri := (.istore_n 2, 1, 0, 0, 0, 0)) (by decide +kernel) rfl rfl rfl
set_option maxRecDepth 100000 in
theorem i149_2 {v0 v1 : Value} {x : Int32} {st : List Value} {h : ab_Hp} {Q : ab_O → ab_Hp → Prop} : wp 149 2 [v0, v1, .int x] st h Q = wp 149 3 [v0, v1, .int x] (.int x :: st) h Q := wp_stp (ri := (.iload_n 2, 1, 0, 0, 0, 0)) (by decide +kernel) rfl rfl rfl
set_option maxRecDepth 100000 in
theorem i149_3 {v0 v1 v2 : Value} {st : List Value} {h : ab_Hp} {Q : ab_O → ab_Hp → Prop} : wp 149 3 [v0, v1, v2] st h Q = wp 149 5 [v0, v1, v2] (.int (nI 10) :: st) h Q := wp_stp (ri := (.bipush 10, 2, 0, 0, 0, 0)) (by decide +kernel) rfl rfl rfl
set_option maxRecDepth 100000 in
theorem i149_5 {v0 v1 v2 : Value} {x y : Int32} {st : List Value} {h : ab_Hp} {Q : ab_O → ab_Hp → Prop} : wp 149 5 [v0, v1, v2] (.int y :: .int x :: st) h Q = if y < x then wp 149 25 [v0, v1, v2] st h Q else wp 149 8 [v0, v1, v2] st h Q := wp_icmpP (by decide +kernel : ab_cod 149 5 = some (.if_icmp .gt 20, 3, 25, 0, 0, 0)) rfl
set_option maxRecDepth 100000 in
theorem i149_8 {v0 v1 v2 : Value} {st : List Value} {h : ab_Hp} {Q : ab_O → ab_Hp → Prop} (hv : ab_isA v0 = true) : wp 149 8 [v0, v1, v2] st h Q = wp 149 9 [v0, v1, v2] (v0 :: st) h Q := wp_aload_n (by decide +kernel : ab_cod 149 8 = some (.aload_n 0, 1, 0, 0, 0, 0)) hv
set_option maxRecDepth 100000 in
theorem i149_9 {v0 v1 v2 : Value} {st : List Value} {h : ab_Hp} {Q : ab_O → ab_Hp → Prop} (hv : ab_isA v0 = true) : wp 149 9 [v0, v1, v2] st h Q = wp 149 10 [v0, v1, v2] (v0 :: st) h Q := wp_aload_n (by decide +kernel : ab_cod 149 9 = some (.aload_n 0, 1, 0, 0, 0, 0)) hv
set_option maxRecDepth 100000 in
theorem i149_10 {v0 v2 : Value} {x : Int32} {st : List Value} {h : ab_Hp} {Q : ab_O → ab_Hp → Prop} : wp 149 10 [v0, .int x, v2] st h Q = wp 149 11 [v0, .int x, v2] (.int x :: st) h Q := wp_stp (ri := (.iload_n 1, 1, 0, 0, 0, 0)) (by decide +kernel) rfl rfl rfl
set_option maxRecDepth 100000 in
theorem i149_11 {v0 v1 : Value} {x : Int32} {st : List Value} {h : ab_Hp} {Q : ab_O → ab_Hp → Prop} : wp 149 11 [v0, v1, .int x] st h Q = wp 149 12 [v0, v1, .int x] (.int x :: st) h Q := wp_stp (ri := (.iload_n 2, 1, 0, 0, 0, 0)) (by decide +kernel) rfl rfl rfl
set_option maxRecDepth 100000 in
theorem i149_12 {v0 v1 v2 : Value} {r : Nat} {a0 : Int32} {a1 : Int32} {st : List Value} {h : ab_Hp} {Q : ab_O → ab_Hp → Prop} (hl : st.length ≤ 4) (hk : (ab_sh h r).1 = 17) : wp 149 12 [v0, v1, v2] (.int a1 :: .int a0 :: .ref r :: st) h Q = wp 90 0 [.ref r, .int a0, .int a1] [] h (ab_K 149 12 [v0, v1, v2] st Q) := wp_callV (as := [.int a0, .int a1]) (by decide +kernel : ab_cod 149 12 = some (.invokevirtual 47, 3, 90, 3, 0, 828)) rfl rfl rfl rfl hl hk
set_option maxRecDepth 100000 in
theorem i149_15 {v0 v1 v2 : Value} {x : Int32} {st : List Value} {h : ab_Hp} {Q : ab_O → ab_Hp → Prop} : wp 149 15 [v0, v1, v2] (.int x :: st) h Q = wp 149 16 [v0, v1, v2] (.long x.toInt64 :: st) h Q := wp_stp (ri := (.i2l, 1, 0, 0, 0, 0)) (by decide +kernel) rfl rfl rfl
set_option maxRecDepth 100000 in
theorem i149_16 {v0 v1 v2 : Value} {r : Nat} {a0 : Int64} {st : List Value} {h : ab_Hp} {Q : ab_O → ab_Hp → Prop} (hl : st.length ≤ 4) (hk : (ab_sh h r).1 = 17) : wp 149 16 [v0, v1, v2] (.long a0 :: .ref r :: st) h Q = wp 148 0 [.ref r, .long a0, ab_nov] [] h (ab_K 149 16 [v0, v1, v2] st Q) := wp_callV (as := [.long a0]) (by decide +kernel : ab_cod 149 16 = some (.invokevirtual 181, 3, 148, 2, 0, 1049)) rfl rfl rfl rfl hl hk
set_option maxRecDepth 100000 in
theorem i149_19 {v0 v1 : Value} {x : Int32} {st : List Value} {h : ab_Hp} {Q : ab_O → ab_Hp → Prop} : wp 149 19 [v0, v1, .int x] st h Q = wp 149 22 [v0, ab_clr v1, .int (x + nI 1)] st h Q := wp_stp (ri := (.iinc 2 1, 3, 0, 0, 0, 0)) (by decide +kernel) rfl rfl rfl
set_option maxRecDepth 100000 in
theorem i149_22 {v0 v1 v2 : Value} {st : List Value} {h : ab_Hp} {Q : ab_O → ab_Hp → Prop} : wp 149 22 [v0, v1, v2] st h Q = wp 149 2 [v0, v1, v2] st h Q := wp_stp (ri := (.goto (-20), 3, 2, 0, 0, 0)) (by decide +kernel) rfl rfl rfl
set_option maxRecDepth 100000 in
theorem i149_25 {v0 v1 v2 : Value} {st : List Value} {h : ab_Hp} {Q : ab_O → ab_Hp → Prop} : wp 149 25 [v0, v1, v2] st h Q = wp 149 26 [v0, v1, v2] (.int (nI 0) :: st) h Q := wp_stp (ri := (.iconst 0, 1, 0, 0, 0, 0)) (by decide +kernel) rfl rfl rfl
set_option maxRecDepth 100000 in
theorem i149_26 {v0 v1 v2 : Value} {w : Int32} {st : List Value} {h : ab_Hp} {Q : ab_O → ab_Hp → Prop} : wp 149 26 [v0, v1, v2] (.int w :: st) h Q = wp 149 27 [v0, ab_clr v1, .int w] st h Q := wp_stp (ri := (.istore_n 2, 1, 0, 0, 0, 0)) (by decide +kernel) rfl rfl rfl
set_option maxRecDepth 100000 in
theorem i149_27 {v0 v1 : Value} {x : Int32} {st : List Value} {h : ab_Hp} {Q : ab_O → ab_Hp → Prop} : wp 149 27 [v0, v1, .int x] st h Q = wp 149 28 [v0, v1, .int x] (.int x :: st) h Q := wp_stp (ri := (.iload_n 2, 1, 0, 0, 0, 0)) (by decide +kernel) rfl rfl rfl
set_option maxRecDepth 100000 in
theorem i149_28 {v0 v1 v2 : Value} {st : List Value} {h : ab_Hp} {Q : ab_O → ab_Hp → Prop} : wp 149 28 [v0, v1, v2] st h Q = wp 149 29 [v0, v1, v2] (.int (nI 2) :: st) h Q := wp_stp (ri := (.iconst 2, 1, 0, 0, 0, 0)) (by decide +kernel) rfl rfl rfl
set_option maxRecDepth 100000 in
theorem i149_29 {v0 v1 v2 : Value} {st : List Value} {h : ab_Hp} {Q : ab_O → ab_Hp → Prop} (hv : ab_isA v0 = true) : wp 149 29 [v0, v1, v2] st h Q = wp 149 30 [v0, v1, v2] (v0 :: st) h Q := wp_aload_n (by decide +kernel : ab_cod 149 29 = some (.aload_n 0, 1, 0, 0, 0, 0)) hv
set_option maxRecDepth 100000 in
theorem i149_30 {v0 v2 : Value} {x : Int32} {st : List Value} {h : ab_Hp} {Q : ab_O → ab_Hp → Prop} : wp 149 30 [v0, .int x, v2] st h Q = wp 149 31 [v0, .int x, v2] (.int x :: st) h Q := wp_stp (ri := (.iload_n 1, 1, 0, 0, 0, 0)) (by decide +kernel) rfl rfl rfl
set_option maxRecDepth 100000 in
theorem i149_31 {v0 v1 v2 : Value} {st : List Value} {h : ab_Hp} {Q : ab_O → ab_Hp → Prop} : wp 149 31 [v0, v1, v2] st h Q = wp 149 32 [v0, v1, v2] (.int (nI 4) :: st) h Q := wp_stp (ri := (.iconst 4, 1, 0, 0, 0, 0)) (by decide +kernel) rfl rfl rfl
set_option maxRecDepth 100000 in
theorem i149_32 {v0 v1 v2 : Value} {r : Nat} {a0 : Int32} {a1 : Int32} {st : List Value} {h : ab_Hp} {Q : ab_O → ab_Hp → Prop} (hl : st.length ≤ 4) (hk : (ab_sh h r).1 = 17) : wp 149 32 [v0, v1, v2] (.int a1 :: .int a0 :: .ref r :: st) h Q = wp 90 0 [.ref r, .int a0, .int a1] [] h (ab_K 149 32 [v0, v1, v2] st Q) := wp_callV (as := [.int a0, .int a1]) (by decide +kernel : ab_cod 149 32 = some (.invokevirtual 47, 3, 90, 3, 0, 828)) rfl rfl rfl rfl hl hk
set_option maxRecDepth 100000 in
theorem i149_35 {v0 v1 v2 : Value} {x y : Int32} {st : List Value} {h : ab_Hp} {Q : ab_O → ab_Hp → Prop} : wp 149 35 [v0, v1, v2] (.int y :: .int x :: st) h Q = wp 149 36 [v0, v1, v2] (.int (x * y) :: st) h Q := wp_stp (ri := (.imul, 1, 0, 0, 0, 0)) (by decide +kernel) rfl rfl rfl
set_option maxRecDepth 100000 in
theorem i149_36 {v0 v1 v2 : Value} {x y : Int32} {st : List Value} {h : ab_Hp} {Q : ab_O → ab_Hp → Prop} : wp 149 36 [v0, v1, v2] (.int y :: .int x :: st) h Q = if y ≤ x then wp 149 59 [v0, v1, v2] st h Q else wp 149 39 [v0, v1, v2] st h Q := wp_icmpP (by decide +kernel : ab_cod 149 36 = some (.if_icmp .ge 23, 3, 59, 0, 0, 0)) rfl
set_option maxRecDepth 100000 in
theorem i149_39 {v0 v1 v2 : Value} {st : List Value} {h : ab_Hp} {Q : ab_O → ab_Hp → Prop} (hv : ab_isA v0 = true) : wp 149 39 [v0, v1, v2] st h Q = wp 149 40 [v0, v1, v2] (v0 :: st) h Q := wp_aload_n (by decide +kernel : ab_cod 149 39 = some (.aload_n 0, 1, 0, 0, 0, 0)) hv
set_option maxRecDepth 100000 in
theorem i149_40 {v0 v1 v2 : Value} {st : List Value} {h : ab_Hp} {Q : ab_O → ab_Hp → Prop} (hv : ab_isA v0 = true) : wp 149 40 [v0, v1, v2] st h Q = wp 149 41 [v0, v1, v2] (v0 :: st) h Q := wp_aload_n (by decide +kernel : ab_cod 149 40 = some (.aload_n 0, 1, 0, 0, 0, 0)) hv
set_option maxRecDepth 100000 in
theorem i149_41 {v0 v2 : Value} {x : Int32} {st : List Value} {h : ab_Hp} {Q : ab_O → ab_Hp → Prop} : wp 149 41 [v0, .int x, v2] st h Q = wp 149 42 [v0, .int x, v2] (.int x :: st) h Q := wp_stp (ri := (.iload_n 1, 1, 0, 0, 0, 0)) (by decide +kernel) rfl rfl rfl
set_option maxRecDepth 100000 in
theorem i149_42 {v0 v1 v2 : Value} {st : List Value} {h : ab_Hp} {Q : ab_O → ab_Hp → Prop} : wp 149 42 [v0, v1, v2] st h Q = wp 149 44 [v0, v1, v2] (.int (nI 11) :: st) h Q := wp_stp (ri := (.bipush 11, 2, 0, 0, 0, 0)) (by decide +kernel) rfl rfl rfl
set_option maxRecDepth 100000 in
theorem i149_44 {v0 v1 : Value} {x : Int32} {st : List Value} {h : ab_Hp} {Q : ab_O → ab_Hp → Prop} : wp 149 44 [v0, v1, .int x] st h Q = wp 149 45 [v0, v1, .int x] (.int x :: st) h Q := wp_stp (ri := (.iload_n 2, 1, 0, 0, 0, 0)) (by decide +kernel) rfl rfl rfl
set_option maxRecDepth 100000 in
theorem i149_45 {v0 v1 v2 : Value} {x y : Int32} {st : List Value} {h : ab_Hp} {Q : ab_O → ab_Hp → Prop} : wp 149 45 [v0, v1, v2] (.int y :: .int x :: st) h Q = wp 149 46 [v0, v1, v2] (.int (x + y) :: st) h Q := wp_stp (ri := (.iadd, 1, 0, 0, 0, 0)) (by decide +kernel) rfl rfl rfl
set_option maxRecDepth 100000 in
theorem i149_46 {v0 v1 v2 : Value} {r : Nat} {a0 : Int32} {a1 : Int32} {st : List Value} {h : ab_Hp} {Q : ab_O → ab_Hp → Prop} (hl : st.length ≤ 4) (hk : (ab_sh h r).1 = 17) : wp 149 46 [v0, v1, v2] (.int a1 :: .int a0 :: .ref r :: st) h Q = wp 90 0 [.ref r, .int a0, .int a1] [] h (ab_K 149 46 [v0, v1, v2] st Q) := wp_callV (as := [.int a0, .int a1]) (by decide +kernel : ab_cod 149 46 = some (.invokevirtual 47, 3, 90, 3, 0, 828)) rfl rfl rfl rfl hl hk
set_option maxRecDepth 100000 in
theorem i149_49 {v0 v1 v2 : Value} {x : Int32} {st : List Value} {h : ab_Hp} {Q : ab_O → ab_Hp → Prop} : wp 149 49 [v0, v1, v2] (.int x :: st) h Q = wp 149 50 [v0, v1, v2] (.long x.toInt64 :: st) h Q := wp_stp (ri := (.i2l, 1, 0, 0, 0, 0)) (by decide +kernel) rfl rfl rfl
set_option maxRecDepth 100000 in
theorem i149_50 {v0 v1 v2 : Value} {r : Nat} {a0 : Int64} {st : List Value} {h : ab_Hp} {Q : ab_O → ab_Hp → Prop} (hl : st.length ≤ 4) (hk : (ab_sh h r).1 = 17) : wp 149 50 [v0, v1, v2] (.long a0 :: .ref r :: st) h Q = wp 148 0 [.ref r, .long a0, ab_nov] [] h (ab_K 149 50 [v0, v1, v2] st Q) := wp_callV (as := [.long a0]) (by decide +kernel : ab_cod 149 50 = some (.invokevirtual 181, 3, 148, 2, 0, 1049)) rfl rfl rfl rfl hl hk
set_option maxRecDepth 100000 in
theorem i149_53 {v0 v1 : Value} {x : Int32} {st : List Value} {h : ab_Hp} {Q : ab_O → ab_Hp → Prop} : wp 149 53 [v0, v1, .int x] st h Q = wp 149 56 [v0, ab_clr v1, .int (x + nI 1)] st h Q := wp_stp (ri := (.iinc 2 1, 3, 0, 0, 0, 0)) (by decide +kernel) rfl rfl rfl
set_option maxRecDepth 100000 in
theorem i149_56 {v0 v1 v2 : Value} {st : List Value} {h : ab_Hp} {Q : ab_O → ab_Hp → Prop} : wp 149 56 [v0, v1, v2] st h Q = wp 149 27 [v0, v1, v2] st h Q := wp_stp (ri := (.goto (-29), 3, 27, 0, 0, 0)) (by decide +kernel) rfl rfl rfl
set_option maxRecDepth 100000 in
theorem i149_59 {v0 v1 v2 : Value} {st : List Value} {h : ab_Hp} {Q : ab_O → ab_Hp → Prop} (hv : ab_isA v0 = true) : wp 149 59 [v0, v1, v2] st h Q = wp 149 60 [v0, v1, v2] (v0 :: st) h Q := wp_aload_n (by decide +kernel : ab_cod 149 59 = some (.aload_n 0, 1, 0, 0, 0, 0)) hv
set_option maxRecDepth 100000 in
theorem i149_60 {v0 v1 v2 : Value} {st : List Value} {h : ab_Hp} {Q : ab_O → ab_Hp → Prop} (hv : ab_isA v0 = true) : wp 149 60 [v0, v1, v2] st h Q = wp 149 61 [v0, v1, v2] (v0 :: st) h Q := wp_aload_n (by decide +kernel : ab_cod 149 60 = some (.aload_n 0, 1, 0, 0, 0, 0)) hv
set_option maxRecDepth 100000 in
theorem i149_61 {v0 v2 : Value} {x : Int32} {st : List Value} {h : ab_Hp} {Q : ab_O → ab_Hp → Prop} : wp 149 61 [v0, .int x, v2] st h Q = wp 149 62 [v0, .int x, v2] (.int x :: st) h Q := wp_stp (ri := (.iload_n 1, 1, 0, 0, 0, 0)) (by decide +kernel) rfl rfl rfl
set_option maxRecDepth 100000 in
theorem i149_62 {v0 v1 v2 : Value} {r : Nat} {a0 : Int32} {st : List Value} {h : ab_Hp} {Q : ab_O → ab_Hp → Prop} (hl : st.length ≤ 4) (hk : (ab_sh h r).1 = 17) : wp 149 62 [v0, v1, v2] (.int a0 :: .ref r :: st) h Q = wp 141 0 [.ref r, .int a0, ab_nov, ab_nov, ab_nov, ab_nov, ab_nov] [] h (ab_K 149 62 [v0, v1, v2] st Q) := wp_callV (as := [.int a0]) (by decide +kernel : ab_cod 149 62 = some (.invokevirtual 157, 3, 141, 2, 0, 1024)) rfl rfl rfl rfl hl hk
set_option maxRecDepth 100000 in
theorem i149_65 {v0 v1 v2 : Value} {x : Int32} {st : List Value} {h : ab_Hp} {Q : ab_O → ab_Hp → Prop} : wp 149 65 [v0, v1, v2] (.int x :: st) h Q = wp 149 66 [v0, v1, v2] (.long x.toInt64 :: st) h Q := wp_stp (ri := (.i2l, 1, 0, 0, 0, 0)) (by decide +kernel) rfl rfl rfl
set_option maxRecDepth 100000 in
theorem i149_66 {v0 v1 v2 : Value} {r : Nat} {a0 : Int64} {st : List Value} {h : ab_Hp} {Q : ab_O → ab_Hp → Prop} (hl : st.length ≤ 4) (hk : (ab_sh h r).1 = 17) : wp 149 66 [v0, v1, v2] (.long a0 :: .ref r :: st) h Q = wp 148 0 [.ref r, .long a0, ab_nov] [] h (ab_K 149 66 [v0, v1, v2] st Q) := wp_callV (as := [.long a0]) (by decide +kernel : ab_cod 149 66 = some (.invokevirtual 181, 3, 148, 2, 0, 1049)) rfl rfl rfl rfl hl hk
set_option maxRecDepth 100000 in
theorem i149_69 {v0 v1 v2 : Value} {h : ab_Hp} {Q : ab_O → ab_Hp → Prop} : wp 149 69 [v0, v1, v2] [] h Q = Q (.inl none) h := wp_vret (by decide +kernel : ab_cod 149 69 = some (.return_, 1, 0, 0, 0, 0)) rfl
/-! 150: SeamBeatsModel.mixSeam(I)V -/
theorem i150_0 {v0 v1 v2 : Value} {st : List Value} {h : ab_Hp} {Q : ab_O → ab_Hp → Prop} : wp 150 0 [v0, v1, v2] st h Q = wp 150 1 [v0, v1, v2] (.int (nI 0) :: st) h Q := wp_stp (ri := (.iconst 0, 1, 0, 0, 0, 0)) (by decide +kernel) rfl rfl rfl
theorem i150_1 {v0 v1 v2 : Value} {w : Int32} {st : List Value} {h : ab_Hp} {Q : ab_O → ab_Hp → Prop} : wp 150 1 [v0, v1, v2] (.int w :: st) h Q = wp 150 2 [v0, ab_clr v1, .int w] st h Q := wp_stp (ri := (.istore_n 2, 1, 0, 0, 0, 0)) (by decide +kernel) rfl rfl rfl
theorem i150_2 {v0 v1 : Value} {x : Int32} {st : List Value} {h : ab_Hp} {Q : ab_O → ab_Hp → Prop} : wp 150 2 [v0, v1, .int x] st h Q = wp 150 3 [v0, v1, .int x] (.int x :: st) h Q := wp_stp (ri := (.iload_n 2, 1, 0, 0, 0, 0)) (by decide +kernel) rfl rfl rfl
theorem i150_3 {v0 v1 v2 : Value} {st : List Value} {h : ab_Hp} {Q : ab_O → ab_Hp → Prop} : wp 150 3 [v0, v1, v2] st h Q = wp 150 5 [v0, v1, v2] (.int (nI 6) :: st) h Q := wp_stp (ri := (.bipush 6, 2, 0, 0, 0, 0)) (by decide +kernel) rfl rfl rfl
theorem i150_5 {v0 v1 v2 : Value} {x y : Int32} {st : List Value} {h : ab_Hp} {Q : ab_O → ab_Hp → Prop} : wp 150 5 [v0, v1, v2] (.int y :: .int x :: st) h Q = if y < x then wp 150 25 [v0, v1, v2] st h Q else wp 150 8 [v0, v1, v2] st h Q := wp_icmpP (by decide +kernel : ab_cod 150 5 = some (.if_icmp .gt 20, 3, 25, 0, 0, 0)) rfl
theorem i150_8 {v0 v1 v2 : Value} {st : List Value} {h : ab_Hp} {Q : ab_O → ab_Hp → Prop} (hv : ab_isA v0 = true) : wp 150 8 [v0, v1, v2] st h Q = wp 150 9 [v0, v1, v2] (v0 :: st) h Q := wp_aload_n (by decide +kernel : ab_cod 150 8 = some (.aload_n 0, 1, 0, 0, 0, 0)) hv
theorem i150_9 {v0 v1 v2 : Value} {st : List Value} {h : ab_Hp} {Q : ab_O → ab_Hp → Prop} (hv : ab_isA v0 = true) : wp 150 9 [v0, v1, v2] st h Q = wp 150 10 [v0, v1, v2] (v0 :: st) h Q := wp_aload_n (by decide +kernel : ab_cod 150 9 = some (.aload_n 0, 1, 0, 0, 0, 0)) hv
theorem i150_10 {v0 v2 : Value} {x : Int32} {st : List Value} {h : ab_Hp} {Q : ab_O → ab_Hp → Prop} : wp 150 10 [v0, .int x, v2] st h Q = wp 150 11 [v0, .int x, v2] (.int x :: st) h Q := wp_stp (ri := (.iload_n 1, 1, 0, 0, 0, 0)) (by decide +kernel) rfl rfl rfl
theorem i150_11 {v0 v1 : Value} {x : Int32} {st : List Value} {h : ab_Hp} {Q : ab_O → ab_Hp → Prop} : wp 150 11 [v0, v1, .int x] st h Q = wp 150 12 [v0, v1, .int x] (.int x :: st) h Q := wp_stp (ri := (.iload_n 2, 1, 0, 0, 0, 0)) (by decide +kernel) rfl rfl rfl
theorem i150_12 {v0 v1 v2 : Value} {r : Nat} {a0 : Int32} {a1 : Int32} {st : List Value} {h : ab_Hp} {Q : ab_O → ab_Hp → Prop} (hl : st.length ≤ 4) (hk : (ab_sh h r).1 = 17) : wp 150 12 [v0, v1, v2] (.int a1 :: .int a0 :: .ref r :: st) h Q = wp 128 0 [.ref r, .int a0, .int a1] [] h (ab_K 150 12 [v0, v1, v2] st Q) := wp_callV (as := [.int a0, .int a1]) (by decide +kernel : ab_cod 150 12 = some (.invokevirtual 127, 3, 128, 3, 0, 960)) rfl rfl rfl rfl hl hk
theorem i150_15 {v0 v1 v2 : Value} {x : Int32} {st : List Value} {h : ab_Hp} {Q : ab_O → ab_Hp → Prop} : wp 150 15 [v0, v1, v2] (.int x :: st) h Q = wp 150 16 [v0, v1, v2] (.long x.toInt64 :: st) h Q := wp_stp (ri := (.i2l, 1, 0, 0, 0, 0)) (by decide +kernel) rfl rfl rfl
theorem i150_16 {v0 v1 v2 : Value} {r : Nat} {a0 : Int64} {st : List Value} {h : ab_Hp} {Q : ab_O → ab_Hp → Prop} (hl : st.length ≤ 4) (hk : (ab_sh h r).1 = 17) : wp 150 16 [v0, v1, v2] (.long a0 :: .ref r :: st) h Q = wp 148 0 [.ref r, .long a0, ab_nov] [] h (ab_K 150 16 [v0, v1, v2] st Q) := wp_callV (as := [.long a0]) (by decide +kernel : ab_cod 150 16 = some (.invokevirtual 181, 3, 148, 2, 0, 1049)) rfl rfl rfl rfl hl hk
theorem i150_19 {v0 v1 : Value} {x : Int32} {st : List Value} {h : ab_Hp} {Q : ab_O → ab_Hp → Prop} : wp 150 19 [v0, v1, .int x] st h Q = wp 150 22 [v0, ab_clr v1, .int (x + nI 1)] st h Q := wp_stp (ri := (.iinc 2 1, 3, 0, 0, 0, 0)) (by decide +kernel) rfl rfl rfl
theorem i150_22 {v0 v1 v2 : Value} {st : List Value} {h : ab_Hp} {Q : ab_O → ab_Hp → Prop} : wp 150 22 [v0, v1, v2] st h Q = wp 150 2 [v0, v1, v2] st h Q := wp_stp (ri := (.goto (-20), 3, 2, 0, 0, 0)) (by decide +kernel) rfl rfl rfl
theorem i150_25 {v0 v1 v2 : Value} {st : List Value} {h : ab_Hp} {Q : ab_O → ab_Hp → Prop} : wp 150 25 [v0, v1, v2] st h Q = wp 150 26 [v0, v1, v2] (.int (nI 0) :: st) h Q := wp_stp (ri := (.iconst 0, 1, 0, 0, 0, 0)) (by decide +kernel) rfl rfl rfl
theorem i150_26 {v0 v1 v2 : Value} {w : Int32} {st : List Value} {h : ab_Hp} {Q : ab_O → ab_Hp → Prop} : wp 150 26 [v0, v1, v2] (.int w :: st) h Q = wp 150 27 [v0, ab_clr v1, .int w] st h Q := wp_stp (ri := (.istore_n 2, 1, 0, 0, 0, 0)) (by decide +kernel) rfl rfl rfl
theorem i150_27 {v0 v1 : Value} {x : Int32} {st : List Value} {h : ab_Hp} {Q : ab_O → ab_Hp → Prop} : wp 150 27 [v0, v1, .int x] st h Q = wp 150 28 [v0, v1, .int x] (.int x :: st) h Q := wp_stp (ri := (.iload_n 2, 1, 0, 0, 0, 0)) (by decide +kernel) rfl rfl rfl
theorem i150_28 {v0 v1 v2 : Value} {st : List Value} {h : ab_Hp} {Q : ab_O → ab_Hp → Prop} : wp 150 28 [v0, v1, v2] st h Q = wp 150 29 [v0, v1, v2] (.int (nI 3) :: st) h Q := wp_stp (ri := (.iconst 3, 1, 0, 0, 0, 0)) (by decide +kernel) rfl rfl rfl
theorem i150_29 {v0 v1 v2 : Value} {st : List Value} {h : ab_Hp} {Q : ab_O → ab_Hp → Prop} (hv : ab_isA v0 = true) : wp 150 29 [v0, v1, v2] st h Q = wp 150 30 [v0, v1, v2] (v0 :: st) h Q := wp_aload_n (by decide +kernel : ab_cod 150 29 = some (.aload_n 0, 1, 0, 0, 0, 0)) hv
theorem i150_30 {v0 v2 : Value} {x : Int32} {st : List Value} {h : ab_Hp} {Q : ab_O → ab_Hp → Prop} : wp 150 30 [v0, .int x, v2] st h Q = wp 150 31 [v0, .int x, v2] (.int x :: st) h Q := wp_stp (ri := (.iload_n 1, 1, 0, 0, 0, 0)) (by decide +kernel) rfl rfl rfl
theorem i150_31 {v0 v1 v2 : Value} {st : List Value} {h : ab_Hp} {Q : ab_O → ab_Hp → Prop} : wp 150 31 [v0, v1, v2] st h Q = wp 150 32 [v0, v1, v2] (.int (nI 4) :: st) h Q := wp_stp (ri := (.iconst 4, 1, 0, 0, 0, 0)) (by decide +kernel) rfl rfl rfl
theorem i150_32 {v0 v1 v2 : Value} {r : Nat} {a0 : Int32} {a1 : Int32} {st : List Value} {h : ab_Hp} {Q : ab_O → ab_Hp → Prop} (hl : st.length ≤ 4) (hk : (ab_sh h r).1 = 17) : wp 150 32 [v0, v1, v2] (.int a1 :: .int a0 :: .ref r :: st) h Q = wp 92 0 [.ref r, .int a0, .int a1] [] h (ab_K 150 32 [v0, v1, v2] st Q) := wp_callV (as := [.int a0, .int a1]) (by decide +kernel : ab_cod 150 32 = some (.invokevirtual 61, 3, 92, 3, 0, 860)) rfl rfl rfl rfl hl hk
theorem i150_35 {v0 v1 v2 : Value} {x y : Int32} {st : List Value} {h : ab_Hp} {Q : ab_O → ab_Hp → Prop} : wp 150 35 [v0, v1, v2] (.int y :: .int x :: st) h Q = wp 150 36 [v0, v1, v2] (.int (x * y) :: st) h Q := wp_stp (ri := (.imul, 1, 0, 0, 0, 0)) (by decide +kernel) rfl rfl rfl
theorem i150_36 {v0 v1 v2 : Value} {x y : Int32} {st : List Value} {h : ab_Hp} {Q : ab_O → ab_Hp → Prop} : wp 150 36 [v0, v1, v2] (.int y :: .int x :: st) h Q = if y ≤ x then wp 150 59 [v0, v1, v2] st h Q else wp 150 39 [v0, v1, v2] st h Q := wp_icmpP (by decide +kernel : ab_cod 150 36 = some (.if_icmp .ge 23, 3, 59, 0, 0, 0)) rfl
theorem i150_39 {v0 v1 v2 : Value} {st : List Value} {h : ab_Hp} {Q : ab_O → ab_Hp → Prop} (hv : ab_isA v0 = true) : wp 150 39 [v0, v1, v2] st h Q = wp 150 40 [v0, v1, v2] (v0 :: st) h Q := wp_aload_n (by decide +kernel : ab_cod 150 39 = some (.aload_n 0, 1, 0, 0, 0, 0)) hv
theorem i150_40 {v0 v1 v2 : Value} {st : List Value} {h : ab_Hp} {Q : ab_O → ab_Hp → Prop} (hv : ab_isA v0 = true) : wp 150 40 [v0, v1, v2] st h Q = wp 150 41 [v0, v1, v2] (v0 :: st) h Q := wp_aload_n (by decide +kernel : ab_cod 150 40 = some (.aload_n 0, 1, 0, 0, 0, 0)) hv
theorem i150_41 {v0 v2 : Value} {x : Int32} {st : List Value} {h : ab_Hp} {Q : ab_O → ab_Hp → Prop} : wp 150 41 [v0, .int x, v2] st h Q = wp 150 42 [v0, .int x, v2] (.int x :: st) h Q := wp_stp (ri := (.iload_n 1, 1, 0, 0, 0, 0)) (by decide +kernel) rfl rfl rfl
theorem i150_42 {v0 v1 v2 : Value} {st : List Value} {h : ab_Hp} {Q : ab_O → ab_Hp → Prop} : wp 150 42 [v0, v1, v2] st h Q = wp 150 44 [v0, v1, v2] (.int (nI 6) :: st) h Q := wp_stp (ri := (.bipush 6, 2, 0, 0, 0, 0)) (by decide +kernel) rfl rfl rfl
theorem i150_44 {v0 v1 : Value} {x : Int32} {st : List Value} {h : ab_Hp} {Q : ab_O → ab_Hp → Prop} : wp 150 44 [v0, v1, .int x] st h Q = wp 150 45 [v0, v1, .int x] (.int x :: st) h Q := wp_stp (ri := (.iload_n 2, 1, 0, 0, 0, 0)) (by decide +kernel) rfl rfl rfl
theorem i150_45 {v0 v1 v2 : Value} {x y : Int32} {st : List Value} {h : ab_Hp} {Q : ab_O → ab_Hp → Prop} : wp 150 45 [v0, v1, v2] (.int y :: .int x :: st) h Q = wp 150 46 [v0, v1, v2] (.int (x + y) :: st) h Q := wp_stp (ri := (.iadd, 1, 0, 0, 0, 0)) (by decide +kernel) rfl rfl rfl
theorem i150_46 {v0 v1 v2 : Value} {r : Nat} {a0 : Int32} {a1 : Int32} {st : List Value} {h : ab_Hp} {Q : ab_O → ab_Hp → Prop} (hl : st.length ≤ 4) (hk : (ab_sh h r).1 = 17) : wp 150 46 [v0, v1, v2] (.int a1 :: .int a0 :: .ref r :: st) h Q = wp 92 0 [.ref r, .int a0, .int a1] [] h (ab_K 150 46 [v0, v1, v2] st Q) := wp_callV (as := [.int a0, .int a1]) (by decide +kernel : ab_cod 150 46 = some (.invokevirtual 61, 3, 92, 3, 0, 860)) rfl rfl rfl rfl hl hk
theorem i150_49 {v0 v1 v2 : Value} {x : Int32} {st : List Value} {h : ab_Hp} {Q : ab_O → ab_Hp → Prop} : wp 150 49 [v0, v1, v2] (.int x :: st) h Q = wp 150 50 [v0, v1, v2] (.long x.toInt64 :: st) h Q := wp_stp (ri := (.i2l, 1, 0, 0, 0, 0)) (by decide +kernel) rfl rfl rfl
theorem i150_50 {v0 v1 v2 : Value} {r : Nat} {a0 : Int64} {st : List Value} {h : ab_Hp} {Q : ab_O → ab_Hp → Prop} (hl : st.length ≤ 4) (hk : (ab_sh h r).1 = 17) : wp 150 50 [v0, v1, v2] (.long a0 :: .ref r :: st) h Q = wp 148 0 [.ref r, .long a0, ab_nov] [] h (ab_K 150 50 [v0, v1, v2] st Q) := wp_callV (as := [.long a0]) (by decide +kernel : ab_cod 150 50 = some (.invokevirtual 181, 3, 148, 2, 0, 1049)) rfl rfl rfl rfl hl hk
theorem i150_53 {v0 v1 : Value} {x : Int32} {st : List Value} {h : ab_Hp} {Q : ab_O → ab_Hp → Prop} : wp 150 53 [v0, v1, .int x] st h Q = wp 150 56 [v0, ab_clr v1, .int (x + nI 1)] st h Q := wp_stp (ri := (.iinc 2 1, 3, 0, 0, 0, 0)) (by decide +kernel) rfl rfl rfl
theorem i150_56 {v0 v1 v2 : Value} {st : List Value} {h : ab_Hp} {Q : ab_O → ab_Hp → Prop} : wp 150 56 [v0, v1, v2] st h Q = wp 150 27 [v0, v1, v2] st h Q := wp_stp (ri := (.goto (-29), 3, 27, 0, 0, 0)) (by decide +kernel) rfl rfl rfl
theorem i150_59 {v0 v1 v2 : Value} {h : ab_Hp} {Q : ab_O → ab_Hp → Prop} : wp 150 59 [v0, v1, v2] [] h Q = Q (.inl none) h := wp_vret (by decide +kernel : ab_cod 150 59 = some (.return_, 1, 0, 0, 0, 0)) rfl
/-! 151: SeamBeatsModel.digest()J -/
set_option maxRecDepth 100000 in
theorem i151_0 {v0 v1 : Value} {st : List Value} {h : ab_Hp} {Q : ab_O → ab_Hp → Prop} (hv : ab_isA v0 = true) : wp 151 0 [v0, v1] st h Q = wp 151 1 [v0, v1] (v0 :: st) h Q := wp_aload_n (by decide +kernel : ab_cod 151 0 = some (.aload_n 0, 1, 0, 0, 0, 0)) hv
set_option maxRecDepth 100000 in
theorem i151_1 {v0 v1 : Value} {st : List Value} {h : ab_Hp} {Q : ab_O → ab_Hp → Prop} : wp 151 1 [v0, v1] st h Q = wp 151 2 [v0, v1] (.int (nI 0) :: st) h Q := wp_stp (ri := (.iconst 0, 1, 0, 0, 0, 0)) (by decide +kernel) rfl rfl rfl
set_option maxRecDepth 100000 in
theorem i151_2 {v0 v1 : Value} {r : Nat} {x : Int32} {st : List Value} {h : ab_Hp} {Q : ab_O → ab_Hp → Prop} (hk : (ab_sh h r).1 = 17) : wp 151 2 [v0, v1] (.int x :: .ref r :: st) h Q = wp 151 5 [v0, v1] st (ab_setI h (ab_u (ab_hi h) r 0 x)) Q := wp_pf (by decide +kernel : ab_cod 151 2 = some (.putfield 29, 3, 7, 0, 772, 0)) hk rfl
set_option maxRecDepth 100000 in
theorem i151_5 {v0 v1 : Value} {st : List Value} {h : ab_Hp} {Q : ab_O → ab_Hp → Prop} (hv : ab_isA v0 = true) : wp 151 5 [v0, v1] st h Q = wp 151 6 [v0, v1] (v0 :: st) h Q := wp_aload_n (by decide +kernel : ab_cod 151 5 = some (.aload_n 0, 1, 0, 0, 0, 0)) hv
set_option maxRecDepth 100000 in
theorem i151_6 {v0 v1 : Value} {st : List Value} {h : ab_Hp} {Q : ab_O → ab_Hp → Prop} : wp 151 6 [v0, v1] st h Q = wp 151 9 [v0, v1] (.long 2689 :: st) h Q := wp_stp (ri := (.ldc2_w 185, 3, 0, 1048, 2689, 0)) (by decide +kernel) rfl rfl rfl
set_option maxRecDepth 100000 in
theorem i151_9 {v0 v1 : Value} {r : Nat} {z : Int64} {st : List Value} {h : ab_Hp} {Q : ab_O → ab_Hp → Prop} (hk : (ab_sh h r).1 = 17) : wp 151 9 [v0, v1] (.long z :: .ref r :: st) h Q = wp 151 12 [v0, v1] st (ab_setL h (ab_u (ab_hl h) r 10 z)) Q := wp_pf (by decide +kernel : ab_cod 151 9 = some (.putfield 177, 3, 7, 10, 782, 0)) hk rfl
set_option maxRecDepth 100000 in
theorem i151_12 {v0 v1 : Value} {st : List Value} {h : ab_Hp} {Q : ab_O → ab_Hp → Prop} : wp 151 12 [v0, v1] st h Q = wp 151 13 [v0, v1] (.int (nI 0) :: st) h Q := wp_stp (ri := (.iconst 0, 1, 0, 0, 0, 0)) (by decide +kernel) rfl rfl rfl
set_option maxRecDepth 100000 in
theorem i151_13 {v0 v1 : Value} {w : Int32} {st : List Value} {h : ab_Hp} {Q : ab_O → ab_Hp → Prop} : wp 151 13 [v0, v1] (.int w :: st) h Q = wp 151 14 [ab_clr v0, .int w] st h Q := wp_stp (ri := (.istore_n 1, 1, 0, 0, 0, 0)) (by decide +kernel) rfl rfl rfl
set_option maxRecDepth 100000 in
theorem i151_14 {v0 : Value} {x : Int32} {st : List Value} {h : ab_Hp} {Q : ab_O → ab_Hp → Prop} : wp 151 14 [v0, .int x] st h Q = wp 151 15 [v0, .int x] (.int x :: st) h Q := wp_stp (ri := (.iload_n 1, 1, 0, 0, 0, 0)) (by decide +kernel) rfl rfl rfl
set_option maxRecDepth 100000 in
theorem i151_15 {v0 v1 : Value} {st : List Value} {h : ab_Hp} {Q : ab_O → ab_Hp → Prop} : wp 151 15 [v0, v1] st h Q = wp 151 17 [v0, v1] (.int (nI 11) :: st) h Q := wp_stp (ri := (.bipush 11, 2, 0, 0, 0, 0)) (by decide +kernel) rfl rfl rfl
set_option maxRecDepth 100000 in
theorem i151_17 {v0 v1 : Value} {x y : Int32} {st : List Value} {h : ab_Hp} {Q : ab_O → ab_Hp → Prop} : wp 151 17 [v0, v1] (.int y :: .int x :: st) h Q = if y < x then wp 151 36 [v0, v1] st h Q else wp 151 20 [v0, v1] st h Q := wp_icmpP (by decide +kernel : ab_cod 151 17 = some (.if_icmp .gt 19, 3, 36, 0, 0, 0)) rfl
set_option maxRecDepth 100000 in
theorem i151_20 {v0 v1 : Value} {st : List Value} {h : ab_Hp} {Q : ab_O → ab_Hp → Prop} (hv : ab_isA v0 = true) : wp 151 20 [v0, v1] st h Q = wp 151 21 [v0, v1] (v0 :: st) h Q := wp_aload_n (by decide +kernel : ab_cod 151 20 = some (.aload_n 0, 1, 0, 0, 0, 0)) hv
set_option maxRecDepth 100000 in
theorem i151_21 {v0 v1 : Value} {st : List Value} {h : ab_Hp} {Q : ab_O → ab_Hp → Prop} (hv : ab_isA v0 = true) : wp 151 21 [v0, v1] st h Q = wp 151 22 [v0, v1] (v0 :: st) h Q := wp_aload_n (by decide +kernel : ab_cod 151 21 = some (.aload_n 0, 1, 0, 0, 0, 0)) hv
set_option maxRecDepth 100000 in
theorem i151_22 {v0 : Value} {x : Int32} {st : List Value} {h : ab_Hp} {Q : ab_O → ab_Hp → Prop} : wp 151 22 [v0, .int x] st h Q = wp 151 23 [v0, .int x] (.int x :: st) h Q := wp_stp (ri := (.iload_n 1, 1, 0, 0, 0, 0)) (by decide +kernel) rfl rfl rfl
set_option maxRecDepth 100000 in
theorem i151_23 {v0 v1 : Value} {r : Nat} {a0 : Int32} {st : List Value} {h : ab_Hp} {Q : ab_O → ab_Hp → Prop} (hl : st.length ≤ 4) (hk : (ab_sh h r).1 = 17) : wp 151 23 [v0, v1] (.int a0 :: .ref r :: st) h Q = wp 134 0 [.ref r, .int a0] [] h (ab_K 151 23 [v0, v1] st Q) := wp_callV (as := [.int a0]) (by decide +kernel : ab_cod 151 23 = some (.invokevirtual 139, 3, 134, 2, 0, 976)) rfl rfl rfl rfl hl hk
set_option maxRecDepth 100000 in
theorem i151_26 {v0 v1 : Value} {x : Int32} {st : List Value} {h : ab_Hp} {Q : ab_O → ab_Hp → Prop} : wp 151 26 [v0, v1] (.int x :: st) h Q = wp 151 27 [v0, v1] (.long x.toInt64 :: st) h Q := wp_stp (ri := (.i2l, 1, 0, 0, 0, 0)) (by decide +kernel) rfl rfl rfl
set_option maxRecDepth 100000 in
theorem i151_27 {v0 v1 : Value} {r : Nat} {a0 : Int64} {st : List Value} {h : ab_Hp} {Q : ab_O → ab_Hp → Prop} (hl : st.length ≤ 4) (hk : (ab_sh h r).1 = 17) : wp 151 27 [v0, v1] (.long a0 :: .ref r :: st) h Q = wp 148 0 [.ref r, .long a0, ab_nov] [] h (ab_K 151 27 [v0, v1] st Q) := wp_callV (as := [.long a0]) (by decide +kernel : ab_cod 151 27 = some (.invokevirtual 181, 3, 148, 2, 0, 1049)) rfl rfl rfl rfl hl hk
set_option maxRecDepth 100000 in
theorem i151_30 {v0 : Value} {x : Int32} {st : List Value} {h : ab_Hp} {Q : ab_O → ab_Hp → Prop} : wp 151 30 [v0, .int x] st h Q = wp 151 33 [ab_clr v0, .int (x + nI 1)] st h Q := wp_stp (ri := (.iinc 1 1, 3, 0, 0, 0, 0)) (by decide +kernel) rfl rfl rfl
set_option maxRecDepth 100000 in
theorem i151_33 {v0 v1 : Value} {st : List Value} {h : ab_Hp} {Q : ab_O → ab_Hp → Prop} : wp 151 33 [v0, v1] st h Q = wp 151 14 [v0, v1] st h Q := wp_stp (ri := (.goto (-19), 3, 14, 0, 0, 0)) (by decide +kernel) rfl rfl rfl
set_option maxRecDepth 100000 in
theorem i151_36 {v0 v1 : Value} {st : List Value} {h : ab_Hp} {Q : ab_O → ab_Hp → Prop} : wp 151 36 [v0, v1] st h Q = wp 151 37 [v0, v1] (.int (nI 0) :: st) h Q := wp_stp (ri := (.iconst 0, 1, 0, 0, 0, 0)) (by decide +kernel) rfl rfl rfl
set_option maxRecDepth 100000 in
theorem i151_37 {v0 v1 : Value} {w : Int32} {st : List Value} {h : ab_Hp} {Q : ab_O → ab_Hp → Prop} : wp 151 37 [v0, v1] (.int w :: st) h Q = wp 151 38 [ab_clr v0, .int w] st h Q := wp_stp (ri := (.istore_n 1, 1, 0, 0, 0, 0)) (by decide +kernel) rfl rfl rfl
set_option maxRecDepth 100000 in
theorem i151_38 {v0 : Value} {x : Int32} {st : List Value} {h : ab_Hp} {Q : ab_O → ab_Hp → Prop} : wp 151 38 [v0, .int x] st h Q = wp 151 39 [v0, .int x] (.int x :: st) h Q := wp_stp (ri := (.iload_n 1, 1, 0, 0, 0, 0)) (by decide +kernel) rfl rfl rfl
set_option maxRecDepth 100000 in
theorem i151_39 {v0 v1 : Value} {st : List Value} {h : ab_Hp} {Q : ab_O → ab_Hp → Prop} : wp 151 39 [v0, v1] st h Q = wp 151 41 [v0, v1] (.int (nI 6) :: st) h Q := wp_stp (ri := (.bipush 6, 2, 0, 0, 0, 0)) (by decide +kernel) rfl rfl rfl
set_option maxRecDepth 100000 in
theorem i151_41 {v0 v1 : Value} {x y : Int32} {st : List Value} {h : ab_Hp} {Q : ab_O → ab_Hp → Prop} : wp 151 41 [v0, v1] (.int y :: .int x :: st) h Q = if y ≤ x then wp 151 55 [v0, v1] st h Q else wp 151 44 [v0, v1] st h Q := wp_icmpP (by decide +kernel : ab_cod 151 41 = some (.if_icmp .ge 14, 3, 55, 0, 0, 0)) rfl
set_option maxRecDepth 100000 in
theorem i151_44 {v0 v1 : Value} {st : List Value} {h : ab_Hp} {Q : ab_O → ab_Hp → Prop} (hv : ab_isA v0 = true) : wp 151 44 [v0, v1] st h Q = wp 151 45 [v0, v1] (v0 :: st) h Q := wp_aload_n (by decide +kernel : ab_cod 151 44 = some (.aload_n 0, 1, 0, 0, 0, 0)) hv
set_option maxRecDepth 100000 in
theorem i151_45 {v0 : Value} {x : Int32} {st : List Value} {h : ab_Hp} {Q : ab_O → ab_Hp → Prop} : wp 151 45 [v0, .int x] st h Q = wp 151 46 [v0, .int x] (.int x :: st) h Q := wp_stp (ri := (.iload_n 1, 1, 0, 0, 0, 0)) (by decide +kernel) rfl rfl rfl
set_option maxRecDepth 100000 in
theorem i151_46 {v0 v1 : Value} {r : Nat} {a0 : Int32} {st : List Value} {h : ab_Hp} {Q : ab_O → ab_Hp → Prop} (hl : st.length ≤ 4) (hk : (ab_sh h r).1 = 17) : wp 151 46 [v0, v1] (.int a0 :: .ref r :: st) h Q = wp 149 0 [.ref r, .int a0, ab_nov] [] h (ab_K 151 46 [v0, v1] st Q) := wp_callV (as := [.int a0]) (by decide +kernel : ab_cod 151 46 = some (.invokevirtual 187, 3, 149, 2, 0, 1054)) rfl rfl rfl rfl hl hk
set_option maxRecDepth 100000 in
theorem i151_49 {v0 : Value} {x : Int32} {st : List Value} {h : ab_Hp} {Q : ab_O → ab_Hp → Prop} : wp 151 49 [v0, .int x] st h Q = wp 151 52 [ab_clr v0, .int (x + nI 1)] st h Q := wp_stp (ri := (.iinc 1 1, 3, 0, 0, 0, 0)) (by decide +kernel) rfl rfl rfl
set_option maxRecDepth 100000 in
theorem i151_52 {v0 v1 : Value} {st : List Value} {h : ab_Hp} {Q : ab_O → ab_Hp → Prop} : wp 151 52 [v0, v1] st h Q = wp 151 38 [v0, v1] st h Q := wp_stp (ri := (.goto (-14), 3, 38, 0, 0, 0)) (by decide +kernel) rfl rfl rfl
set_option maxRecDepth 100000 in
theorem i151_55 {v0 v1 : Value} {st : List Value} {h : ab_Hp} {Q : ab_O → ab_Hp → Prop} : wp 151 55 [v0, v1] st h Q = wp 151 56 [v0, v1] (.int (nI 0) :: st) h Q := wp_stp (ri := (.iconst 0, 1, 0, 0, 0, 0)) (by decide +kernel) rfl rfl rfl
set_option maxRecDepth 100000 in
theorem i151_56 {v0 v1 : Value} {w : Int32} {st : List Value} {h : ab_Hp} {Q : ab_O → ab_Hp → Prop} : wp 151 56 [v0, v1] (.int w :: st) h Q = wp 151 57 [ab_clr v0, .int w] st h Q := wp_stp (ri := (.istore_n 1, 1, 0, 0, 0, 0)) (by decide +kernel) rfl rfl rfl
set_option maxRecDepth 100000 in
theorem i151_57 {v0 : Value} {x : Int32} {st : List Value} {h : ab_Hp} {Q : ab_O → ab_Hp → Prop} : wp 151 57 [v0, .int x] st h Q = wp 151 58 [v0, .int x] (.int x :: st) h Q := wp_stp (ri := (.iload_n 1, 1, 0, 0, 0, 0)) (by decide +kernel) rfl rfl rfl
set_option maxRecDepth 100000 in
theorem i151_58 {v0 v1 : Value} {st : List Value} {h : ab_Hp} {Q : ab_O → ab_Hp → Prop} (hv : ab_isA v0 = true) : wp 151 58 [v0, v1] st h Q = wp 151 59 [v0, v1] (v0 :: st) h Q := wp_aload_n (by decide +kernel : ab_cod 151 58 = some (.aload_n 0, 1, 0, 0, 0, 0)) hv
set_option maxRecDepth 100000 in
theorem i151_59 {v0 v1 : Value} {r : Nat} {st : List Value} {h : ab_Hp} {Q : ab_O → ab_Hp → Prop} (hk : (ab_sh h r).1 = 17) : wp 151 59 [v0, v1] (.ref r :: st) h Q = wp 151 62 [v0, v1] (va_rf (ab_hr h r 1) :: st) h Q := wp_gf (by decide +kernel : ab_cod 151 59 = some (.getfield 7, 3, 7, 1, 773, 1)) hk
set_option maxRecDepth 100000 in
theorem i151_62 {v0 v1 : Value} {st : List Value} {h : ab_Hp} {Q : ab_O → ab_Hp → Prop} : wp 151 62 [v0, v1] st h Q = wp 151 63 [v0, v1] (.int (nI 5) :: st) h Q := wp_stp (ri := (.iconst 5, 1, 0, 0, 0, 0)) (by decide +kernel) rfl rfl rfl
set_option maxRecDepth 100000 in
theorem i151_63 {v0 v1 : Value} {r : Nat} {x : Int32} {st : List Value} {h : ab_Hp} {Q : ab_O → ab_Hp → Prop} (hk : ((ab_sh h r).1 = 1 ∨ (ab_sh h r).1 = 6) ∧ ab_in x (ab_sh h r).2 = true) : wp 151 63 [v0, v1] (.int x :: .ref r :: st) h Q = wp 151 64 [v0, v1] (.int (ab_hi h r x.toNatClampNeg) :: st) h Q := wp_ia (by decide +kernel : ab_cod 151 63 = some (.iaload, 1, 0, 0, 0, 0)) hk
set_option maxRecDepth 100000 in
theorem i151_64 {v0 v1 : Value} {x y : Int32} {st : List Value} {h : ab_Hp} {Q : ab_O → ab_Hp → Prop} : wp 151 64 [v0, v1] (.int y :: .int x :: st) h Q = if y ≤ x then wp 151 78 [v0, v1] st h Q else wp 151 67 [v0, v1] st h Q := wp_icmpP (by decide +kernel : ab_cod 151 64 = some (.if_icmp .ge 14, 3, 78, 0, 0, 0)) rfl
set_option maxRecDepth 100000 in
theorem i151_67 {v0 v1 : Value} {st : List Value} {h : ab_Hp} {Q : ab_O → ab_Hp → Prop} (hv : ab_isA v0 = true) : wp 151 67 [v0, v1] st h Q = wp 151 68 [v0, v1] (v0 :: st) h Q := wp_aload_n (by decide +kernel : ab_cod 151 67 = some (.aload_n 0, 1, 0, 0, 0, 0)) hv
set_option maxRecDepth 100000 in
theorem i151_68 {v0 : Value} {x : Int32} {st : List Value} {h : ab_Hp} {Q : ab_O → ab_Hp → Prop} : wp 151 68 [v0, .int x] st h Q = wp 151 69 [v0, .int x] (.int x :: st) h Q := wp_stp (ri := (.iload_n 1, 1, 0, 0, 0, 0)) (by decide +kernel) rfl rfl rfl
set_option maxRecDepth 100000 in
theorem i151_69 {v0 v1 : Value} {r : Nat} {a0 : Int32} {st : List Value} {h : ab_Hp} {Q : ab_O → ab_Hp → Prop} (hl : st.length ≤ 4) (hk : (ab_sh h r).1 = 17) : wp 151 69 [v0, v1] (.int a0 :: .ref r :: st) h Q = wp 150 0 [.ref r, .int a0, ab_nov] [] h (ab_K 151 69 [v0, v1] st Q) := wp_callV (as := [.int a0]) (by decide +kernel : ab_cod 151 69 = some (.invokevirtual 190, 3, 150, 2, 0, 1058)) rfl rfl rfl rfl hl hk
set_option maxRecDepth 100000 in
theorem i151_72 {v0 : Value} {x : Int32} {st : List Value} {h : ab_Hp} {Q : ab_O → ab_Hp → Prop} : wp 151 72 [v0, .int x] st h Q = wp 151 75 [ab_clr v0, .int (x + nI 1)] st h Q := wp_stp (ri := (.iinc 1 1, 3, 0, 0, 0, 0)) (by decide +kernel) rfl rfl rfl
set_option maxRecDepth 100000 in
theorem i151_75 {v0 v1 : Value} {st : List Value} {h : ab_Hp} {Q : ab_O → ab_Hp → Prop} : wp 151 75 [v0, v1] st h Q = wp 151 57 [v0, v1] st h Q := wp_stp (ri := (.goto (-18), 3, 57, 0, 0, 0)) (by decide +kernel) rfl rfl rfl
set_option maxRecDepth 100000 in
theorem i151_78 {v0 v1 : Value} {st : List Value} {h : ab_Hp} {Q : ab_O → ab_Hp → Prop} : wp 151 78 [v0, v1] st h Q = wp 151 79 [v0, v1] (.int (nI 0) :: st) h Q := wp_stp (ri := (.iconst 0, 1, 0, 0, 0, 0)) (by decide +kernel) rfl rfl rfl
set_option maxRecDepth 100000 in
theorem i151_79 {v0 v1 : Value} {w : Int32} {st : List Value} {h : ab_Hp} {Q : ab_O → ab_Hp → Prop} : wp 151 79 [v0, v1] (.int w :: st) h Q = wp 151 80 [ab_clr v0, .int w] st h Q := wp_stp (ri := (.istore_n 1, 1, 0, 0, 0, 0)) (by decide +kernel) rfl rfl rfl
set_option maxRecDepth 100000 in
theorem i151_80 {v0 : Value} {x : Int32} {st : List Value} {h : ab_Hp} {Q : ab_O → ab_Hp → Prop} : wp 151 80 [v0, .int x] st h Q = wp 151 81 [v0, .int x] (.int x :: st) h Q := wp_stp (ri := (.iload_n 1, 1, 0, 0, 0, 0)) (by decide +kernel) rfl rfl rfl
set_option maxRecDepth 100000 in
theorem i151_81 {v0 v1 : Value} {st : List Value} {h : ab_Hp} {Q : ab_O → ab_Hp → Prop} : wp 151 81 [v0, v1] st h Q = wp 151 82 [v0, v1] (.int (nI 4) :: st) h Q := wp_stp (ri := (.iconst 4, 1, 0, 0, 0, 0)) (by decide +kernel) rfl rfl rfl
set_option maxRecDepth 100000 in
theorem i151_82 {v0 v1 : Value} {x y : Int32} {st : List Value} {h : ab_Hp} {Q : ab_O → ab_Hp → Prop} : wp 151 82 [v0, v1] (.int y :: .int x :: st) h Q = if y < x then wp 151 103 [v0, v1] st h Q else wp 151 85 [v0, v1] st h Q := wp_icmpP (by decide +kernel : ab_cod 151 82 = some (.if_icmp .gt 21, 3, 103, 0, 0, 0)) rfl
set_option maxRecDepth 100000 in
theorem i151_85 {v0 v1 : Value} {st : List Value} {h : ab_Hp} {Q : ab_O → ab_Hp → Prop} (hv : ab_isA v0 = true) : wp 151 85 [v0, v1] st h Q = wp 151 86 [v0, v1] (v0 :: st) h Q := wp_aload_n (by decide +kernel : ab_cod 151 85 = some (.aload_n 0, 1, 0, 0, 0, 0)) hv
set_option maxRecDepth 100000 in
theorem i151_86 {v0 v1 : Value} {st : List Value} {h : ab_Hp} {Q : ab_O → ab_Hp → Prop} (hv : ab_isA v0 = true) : wp 151 86 [v0, v1] st h Q = wp 151 87 [v0, v1] (v0 :: st) h Q := wp_aload_n (by decide +kernel : ab_cod 151 86 = some (.aload_n 0, 1, 0, 0, 0, 0)) hv
set_option maxRecDepth 100000 in
theorem i151_87 {v0 v1 : Value} {st : List Value} {h : ab_Hp} {Q : ab_O → ab_Hp → Prop} : wp 151 87 [v0, v1] st h Q = wp 151 89 [v0, v1] (.int (nI 30) :: st) h Q := wp_stp (ri := (.bipush 30, 2, 0, 0, 0, 0)) (by decide +kernel) rfl rfl rfl
set_option maxRecDepth 100000 in
theorem i151_89 {v0 : Value} {x : Int32} {st : List Value} {h : ab_Hp} {Q : ab_O → ab_Hp → Prop} : wp 151 89 [v0, .int x] st h Q = wp 151 90 [v0, .int x] (.int x :: st) h Q := wp_stp (ri := (.iload_n 1, 1, 0, 0, 0, 0)) (by decide +kernel) rfl rfl rfl
set_option maxRecDepth 100000 in
theorem i151_90 {v0 v1 : Value} {r : Nat} {a0 : Int32} {a1 : Int32} {st : List Value} {h : ab_Hp} {Q : ab_O → ab_Hp → Prop} (hl : st.length ≤ 4) (hk : (ab_sh h r).1 = 17) : wp 151 90 [v0, v1] (.int a1 :: .int a0 :: .ref r :: st) h Q = wp 136 0 [.ref r, .int a0, .int a1, ab_nov, ab_nov, ab_nov, ab_nov] [] h (ab_K 151 90 [v0, v1] st Q) := wp_callV (as := [.int a0, .int a1]) (by decide +kernel : ab_cod 151 90 = some (.invokevirtual 148, 3, 136, 3, 0, 996)) rfl rfl rfl rfl hl hk
set_option maxRecDepth 100000 in
theorem i151_93 {v0 v1 : Value} {x : Int32} {st : List Value} {h : ab_Hp} {Q : ab_O → ab_Hp → Prop} : wp 151 93 [v0, v1] (.int x :: st) h Q = wp 151 94 [v0, v1] (.long x.toInt64 :: st) h Q := wp_stp (ri := (.i2l, 1, 0, 0, 0, 0)) (by decide +kernel) rfl rfl rfl
set_option maxRecDepth 100000 in
theorem i151_94 {v0 v1 : Value} {r : Nat} {a0 : Int64} {st : List Value} {h : ab_Hp} {Q : ab_O → ab_Hp → Prop} (hl : st.length ≤ 4) (hk : (ab_sh h r).1 = 17) : wp 151 94 [v0, v1] (.long a0 :: .ref r :: st) h Q = wp 148 0 [.ref r, .long a0, ab_nov] [] h (ab_K 151 94 [v0, v1] st Q) := wp_callV (as := [.long a0]) (by decide +kernel : ab_cod 151 94 = some (.invokevirtual 181, 3, 148, 2, 0, 1049)) rfl rfl rfl rfl hl hk
set_option maxRecDepth 100000 in
theorem i151_97 {v0 : Value} {x : Int32} {st : List Value} {h : ab_Hp} {Q : ab_O → ab_Hp → Prop} : wp 151 97 [v0, .int x] st h Q = wp 151 100 [ab_clr v0, .int (x + nI 1)] st h Q := wp_stp (ri := (.iinc 1 1, 3, 0, 0, 0, 0)) (by decide +kernel) rfl rfl rfl
set_option maxRecDepth 100000 in
theorem i151_100 {v0 v1 : Value} {st : List Value} {h : ab_Hp} {Q : ab_O → ab_Hp → Prop} : wp 151 100 [v0, v1] st h Q = wp 151 80 [v0, v1] st h Q := wp_stp (ri := (.goto (-20), 3, 80, 0, 0, 0)) (by decide +kernel) rfl rfl rfl
set_option maxRecDepth 100000 in
theorem i151_103 {v0 v1 : Value} {st : List Value} {h : ab_Hp} {Q : ab_O → ab_Hp → Prop} (hv : ab_isA v0 = true) : wp 151 103 [v0, v1] st h Q = wp 151 104 [v0, v1] (v0 :: st) h Q := wp_aload_n (by decide +kernel : ab_cod 151 103 = some (.aload_n 0, 1, 0, 0, 0, 0)) hv
set_option maxRecDepth 100000 in
theorem i151_104 {v0 v1 : Value} {r : Nat} {st : List Value} {h : ab_Hp} {Q : ab_O → ab_Hp → Prop} (hk : (ab_sh h r).1 = 17) : wp 151 104 [v0, v1] (.ref r :: st) h Q = wp 151 107 [v0, v1] (va_rf (ab_hr h r 1) :: st) h Q := wp_gf (by decide +kernel : ab_cod 151 104 = some (.getfield 7, 3, 7, 1, 773, 1)) hk
set_option maxRecDepth 100000 in
theorem i151_107 {v0 v1 : Value} {st : List Value} {h : ab_Hp} {Q : ab_O → ab_Hp → Prop} : wp 151 107 [v0, v1] st h Q = wp 151 108 [v0, v1] (.int (nI 1) :: st) h Q := wp_stp (ri := (.iconst 1, 1, 0, 0, 0, 0)) (by decide +kernel) rfl rfl rfl
set_option maxRecDepth 100000 in
theorem i151_108 {v0 v1 : Value} {r : Nat} {x : Int32} {st : List Value} {h : ab_Hp} {Q : ab_O → ab_Hp → Prop} (hk : ((ab_sh h r).1 = 1 ∨ (ab_sh h r).1 = 6) ∧ ab_in x (ab_sh h r).2 = true) : wp 151 108 [v0, v1] (.int x :: .ref r :: st) h Q = wp 151 109 [v0, v1] (.int (ab_hi h r x.toNatClampNeg) :: st) h Q := wp_ia (by decide +kernel : ab_cod 151 108 = some (.iaload, 1, 0, 0, 0, 0)) hk
set_option maxRecDepth 100000 in
theorem i151_109 {v0 v1 : Value} {x : Int32} {st : List Value} {h : ab_Hp} {Q : ab_O → ab_Hp → Prop} : wp 151 109 [v0, v1] (.int x :: st) h Q = if x ≤ 0 then wp 151 122 [v0, v1] st h Q else wp 151 112 [v0, v1] st h Q := wp_ifcP (by decide +kernel : ab_cod 151 109 = some (.ifCond .le 13, 3, 122, 0, 0, 0)) rfl
set_option maxRecDepth 100000 in
theorem i151_112 {v0 v1 : Value} {st : List Value} {h : ab_Hp} {Q : ab_O → ab_Hp → Prop} (hv : ab_isA v0 = true) : wp 151 112 [v0, v1] st h Q = wp 151 113 [v0, v1] (v0 :: st) h Q := wp_aload_n (by decide +kernel : ab_cod 151 112 = some (.aload_n 0, 1, 0, 0, 0, 0)) hv
set_option maxRecDepth 100000 in
theorem i151_113 {v0 v1 : Value} {st : List Value} {h : ab_Hp} {Q : ab_O → ab_Hp → Prop} (hv : ab_isA v0 = true) : wp 151 113 [v0, v1] st h Q = wp 151 114 [v0, v1] (v0 :: st) h Q := wp_aload_n (by decide +kernel : ab_cod 151 113 = some (.aload_n 0, 1, 0, 0, 0, 0)) hv
set_option maxRecDepth 100000 in
theorem i151_114 {v0 v1 : Value} {st : List Value} {h : ab_Hp} {Q : ab_O → ab_Hp → Prop} : wp 151 114 [v0, v1] st h Q = wp 151 115 [v0, v1] (.int (nI 0) :: st) h Q := wp_stp (ri := (.iconst 0, 1, 0, 0, 0, 0)) (by decide +kernel) rfl rfl rfl
set_option maxRecDepth 100000 in
theorem i151_115 {v0 v1 : Value} {r : Nat} {a0 : Int32} {st : List Value} {h : ab_Hp} {Q : ab_O → ab_Hp → Prop} (hl : st.length ≤ 4) (hk : (ab_sh h r).1 = 17) : wp 151 115 [v0, v1] (.int a0 :: .ref r :: st) h Q = wp 139 0 [.ref r, .int a0, ab_nov] [] h (ab_K 151 115 [v0, v1] st Q) := wp_callV (as := [.int a0]) (by decide +kernel : ab_cod 151 115 = some (.invokevirtual 154, 3, 139, 2, 0, 1012)) rfl rfl rfl rfl hl hk
set_option maxRecDepth 100000 in
theorem i151_118 {v0 v1 : Value} {x : Int32} {st : List Value} {h : ab_Hp} {Q : ab_O → ab_Hp → Prop} : wp 151 118 [v0, v1] (.int x :: st) h Q = wp 151 119 [v0, v1] (.long x.toInt64 :: st) h Q := wp_stp (ri := (.i2l, 1, 0, 0, 0, 0)) (by decide +kernel) rfl rfl rfl
set_option maxRecDepth 100000 in
theorem i151_119 {v0 v1 : Value} {r : Nat} {a0 : Int64} {st : List Value} {h : ab_Hp} {Q : ab_O → ab_Hp → Prop} (hl : st.length ≤ 4) (hk : (ab_sh h r).1 = 17) : wp 151 119 [v0, v1] (.long a0 :: .ref r :: st) h Q = wp 148 0 [.ref r, .long a0, ab_nov] [] h (ab_K 151 119 [v0, v1] st Q) := wp_callV (as := [.long a0]) (by decide +kernel : ab_cod 151 119 = some (.invokevirtual 181, 3, 148, 2, 0, 1049)) rfl rfl rfl rfl hl hk
set_option maxRecDepth 100000 in
theorem i151_122 {v0 v1 : Value} {st : List Value} {h : ab_Hp} {Q : ab_O → ab_Hp → Prop} (hv : ab_isA v0 = true) : wp 151 122 [v0, v1] st h Q = wp 151 123 [v0, v1] (v0 :: st) h Q := wp_aload_n (by decide +kernel : ab_cod 151 122 = some (.aload_n 0, 1, 0, 0, 0, 0)) hv
set_option maxRecDepth 100000 in
theorem i151_123 {v0 v1 : Value} {st : List Value} {h : ab_Hp} {Q : ab_O → ab_Hp → Prop} (hv : ab_isA v0 = true) : wp 151 123 [v0, v1] st h Q = wp 151 124 [v0, v1] (v0 :: st) h Q := wp_aload_n (by decide +kernel : ab_cod 151 123 = some (.aload_n 0, 1, 0, 0, 0, 0)) hv
set_option maxRecDepth 100000 in
theorem i151_124 {v0 v1 : Value} {r : Nat} {st : List Value} {h : ab_Hp} {Q : ab_O → ab_Hp → Prop} (hl : st.length ≤ 4) (hk : (ab_sh h r).1 = 17) : wp 151 124 [v0, v1] (.ref r :: st) h Q = wp 143 0 [.ref r, ab_nov, ab_nov] [] h (ab_K 151 124 [v0, v1] st Q) := wp_callV (as := []) (by decide +kernel : ab_cod 151 124 = some (.invokevirtual 160, 3, 143, 1, 0, 1032)) rfl rfl rfl rfl hl hk
set_option maxRecDepth 100000 in
theorem i151_127 {v0 v1 : Value} {x : Int32} {st : List Value} {h : ab_Hp} {Q : ab_O → ab_Hp → Prop} : wp 151 127 [v0, v1] (.int x :: st) h Q = wp 151 128 [v0, v1] (.long x.toInt64 :: st) h Q := wp_stp (ri := (.i2l, 1, 0, 0, 0, 0)) (by decide +kernel) rfl rfl rfl
set_option maxRecDepth 100000 in
theorem i151_128 {v0 v1 : Value} {r : Nat} {a0 : Int64} {st : List Value} {h : ab_Hp} {Q : ab_O → ab_Hp → Prop} (hl : st.length ≤ 4) (hk : (ab_sh h r).1 = 17) : wp 151 128 [v0, v1] (.long a0 :: .ref r :: st) h Q = wp 148 0 [.ref r, .long a0, ab_nov] [] h (ab_K 151 128 [v0, v1] st Q) := wp_callV (as := [.long a0]) (by decide +kernel : ab_cod 151 128 = some (.invokevirtual 181, 3, 148, 2, 0, 1049)) rfl rfl rfl rfl hl hk
set_option maxRecDepth 100000 in
theorem i151_131 {v0 v1 : Value} {st : List Value} {h : ab_Hp} {Q : ab_O → ab_Hp → Prop} (hv : ab_isA v0 = true) : wp 151 131 [v0, v1] st h Q = wp 151 132 [v0, v1] (v0 :: st) h Q := wp_aload_n (by decide +kernel : ab_cod 151 131 = some (.aload_n 0, 1, 0, 0, 0, 0)) hv
set_option maxRecDepth 100000 in
theorem i151_132 {v0 v1 : Value} {st : List Value} {h : ab_Hp} {Q : ab_O → ab_Hp → Prop} (hv : ab_isA v0 = true) : wp 151 132 [v0, v1] st h Q = wp 151 133 [v0, v1] (v0 :: st) h Q := wp_aload_n (by decide +kernel : ab_cod 151 132 = some (.aload_n 0, 1, 0, 0, 0, 0)) hv
set_option maxRecDepth 100000 in
theorem i151_133 {v0 v1 : Value} {r : Nat} {st : List Value} {h : ab_Hp} {Q : ab_O → ab_Hp → Prop} (hl : st.length ≤ 4) (hk : (ab_sh h r).1 = 17) : wp 151 133 [v0, v1] (.ref r :: st) h Q = wp 145 0 [.ref r] [] h (ab_K 151 133 [v0, v1] st Q) := wp_callV (as := []) (by decide +kernel : ab_cod 151 133 = some (.invokevirtual 163, 3, 145, 1, 0, 1040)) rfl rfl rfl rfl hl hk
set_option maxRecDepth 100000 in
theorem i151_136 {v0 v1 : Value} {a0 : UInt64} {st : List Value} {h : ab_Hp} {Q : ab_O → ab_Hp → Prop} (hl : st.length ≤ 4) : wp 151 136 [v0, v1] (.double a0 :: st) h Q = wp 147 0 [.double a0, ab_nov, ab_nov, ab_nov, ab_nov, ab_nov] [] h (ab_K 151 136 [v0, v1] st Q) := wp_callS (as := [.double a0]) (by decide +kernel : ab_cod 151 136 = some (.invokestatic 193, 3, 147, 1, 1, 1062)) rfl rfl rfl rfl hl
set_option maxRecDepth 100000 in
theorem i151_139 {v0 v1 : Value} {r : Nat} {a0 : Int64} {st : List Value} {h : ab_Hp} {Q : ab_O → ab_Hp → Prop} (hl : st.length ≤ 4) (hk : (ab_sh h r).1 = 17) : wp 151 139 [v0, v1] (.long a0 :: .ref r :: st) h Q = wp 148 0 [.ref r, .long a0, ab_nov] [] h (ab_K 151 139 [v0, v1] st Q) := wp_callV (as := [.long a0]) (by decide +kernel : ab_cod 151 139 = some (.invokevirtual 181, 3, 148, 2, 0, 1049)) rfl rfl rfl rfl hl hk
set_option maxRecDepth 100000 in
theorem i151_142 {v0 v1 : Value} {st : List Value} {h : ab_Hp} {Q : ab_O → ab_Hp → Prop} (hv : ab_isA v0 = true) : wp 151 142 [v0, v1] st h Q = wp 151 143 [v0, v1] (v0 :: st) h Q := wp_aload_n (by decide +kernel : ab_cod 151 142 = some (.aload_n 0, 1, 0, 0, 0, 0)) hv
set_option maxRecDepth 100000 in
theorem i151_143 {v0 v1 : Value} {st : List Value} {h : ab_Hp} {Q : ab_O → ab_Hp → Prop} (hv : ab_isA v0 = true) : wp 151 143 [v0, v1] st h Q = wp 151 144 [v0, v1] (v0 :: st) h Q := wp_aload_n (by decide +kernel : ab_cod 151 143 = some (.aload_n 0, 1, 0, 0, 0, 0)) hv
set_option maxRecDepth 100000 in
theorem i151_144 {v0 v1 : Value} {r : Nat} {st : List Value} {h : ab_Hp} {Q : ab_O → ab_Hp → Prop} (hk : (ab_sh h r).1 = 17) : wp 151 144 [v0, v1] (.ref r :: st) h Q = wp 151 147 [v0, v1] (.int (ab_hi h r 6) :: st) h Q := wp_gf (by decide +kernel : ab_cod 151 144 = some (.getfield 90, 3, 7, 6, 778, 0)) hk
set_option maxRecDepth 100000 in
theorem i151_147 {v0 v1 : Value} {x : Int32} {st : List Value} {h : ab_Hp} {Q : ab_O → ab_Hp → Prop} : wp 151 147 [v0, v1] (.int x :: st) h Q = wp 151 148 [v0, v1] (.long x.toInt64 :: st) h Q := wp_stp (ri := (.i2l, 1, 0, 0, 0, 0)) (by decide +kernel) rfl rfl rfl
set_option maxRecDepth 100000 in
theorem i151_148 {v0 v1 : Value} {r : Nat} {a0 : Int64} {st : List Value} {h : ab_Hp} {Q : ab_O → ab_Hp → Prop} (hl : st.length ≤ 4) (hk : (ab_sh h r).1 = 17) : wp 151 148 [v0, v1] (.long a0 :: .ref r :: st) h Q = wp 148 0 [.ref r, .long a0, ab_nov] [] h (ab_K 151 148 [v0, v1] st Q) := wp_callV (as := [.long a0]) (by decide +kernel : ab_cod 151 148 = some (.invokevirtual 181, 3, 148, 2, 0, 1049)) rfl rfl rfl rfl hl hk
set_option maxRecDepth 100000 in
theorem i151_151 {v0 v1 : Value} {st : List Value} {h : ab_Hp} {Q : ab_O → ab_Hp → Prop} : wp 151 151 [v0, v1] st h Q = wp 151 152 [v0, v1] (.int (nI 0) :: st) h Q := wp_stp (ri := (.iconst 0, 1, 0, 0, 0, 0)) (by decide +kernel) rfl rfl rfl
set_option maxRecDepth 100000 in
theorem i151_152 {v0 v1 : Value} {w : Int32} {st : List Value} {h : ab_Hp} {Q : ab_O → ab_Hp → Prop} : wp 151 152 [v0, v1] (.int w :: st) h Q = wp 151 153 [ab_clr v0, .int w] st h Q := wp_stp (ri := (.istore_n 1, 1, 0, 0, 0, 0)) (by decide +kernel) rfl rfl rfl
set_option maxRecDepth 100000 in
theorem i151_153 {v0 : Value} {x : Int32} {st : List Value} {h : ab_Hp} {Q : ab_O → ab_Hp → Prop} : wp 151 153 [v0, .int x] st h Q = wp 151 154 [v0, .int x] (.int x :: st) h Q := wp_stp (ri := (.iload_n 1, 1, 0, 0, 0, 0)) (by decide +kernel) rfl rfl rfl
set_option maxRecDepth 100000 in
theorem i151_154 {v0 v1 : Value} {st : List Value} {h : ab_Hp} {Q : ab_O → ab_Hp → Prop} (hv : ab_isA v0 = true) : wp 151 154 [v0, v1] st h Q = wp 151 155 [v0, v1] (v0 :: st) h Q := wp_aload_n (by decide +kernel : ab_cod 151 154 = some (.aload_n 0, 1, 0, 0, 0, 0)) hv
set_option maxRecDepth 100000 in
theorem i151_155 {v0 v1 : Value} {r : Nat} {st : List Value} {h : ab_Hp} {Q : ab_O → ab_Hp → Prop} (hk : (ab_sh h r).1 = 17) : wp 151 155 [v0, v1] (.ref r :: st) h Q = wp 151 158 [v0, v1] (.int (ab_hi h r 6) :: st) h Q := wp_gf (by decide +kernel : ab_cod 151 155 = some (.getfield 90, 3, 7, 6, 778, 0)) hk
set_option maxRecDepth 100000 in
theorem i151_158 {v0 v1 : Value} {x y : Int32} {st : List Value} {h : ab_Hp} {Q : ab_O → ab_Hp → Prop} : wp 151 158 [v0, v1] (.int y :: .int x :: st) h Q = if y ≤ x then wp 151 178 [v0, v1] st h Q else wp 151 161 [v0, v1] st h Q := wp_icmpP (by decide +kernel : ab_cod 151 158 = some (.if_icmp .ge 20, 3, 178, 0, 0, 0)) rfl
set_option maxRecDepth 100000 in
theorem i151_161 {v0 v1 : Value} {st : List Value} {h : ab_Hp} {Q : ab_O → ab_Hp → Prop} (hv : ab_isA v0 = true) : wp 151 161 [v0, v1] st h Q = wp 151 162 [v0, v1] (v0 :: st) h Q := wp_aload_n (by decide +kernel : ab_cod 151 161 = some (.aload_n 0, 1, 0, 0, 0, 0)) hv
set_option maxRecDepth 100000 in
theorem i151_162 {v0 v1 : Value} {st : List Value} {h : ab_Hp} {Q : ab_O → ab_Hp → Prop} (hv : ab_isA v0 = true) : wp 151 162 [v0, v1] st h Q = wp 151 163 [v0, v1] (v0 :: st) h Q := wp_aload_n (by decide +kernel : ab_cod 151 162 = some (.aload_n 0, 1, 0, 0, 0, 0)) hv
set_option maxRecDepth 100000 in
theorem i151_163 {v0 v1 : Value} {r : Nat} {st : List Value} {h : ab_Hp} {Q : ab_O → ab_Hp → Prop} (hk : (ab_sh h r).1 = 17) : wp 151 163 [v0, v1] (.ref r :: st) h Q = wp 151 166 [v0, v1] (va_rf (ab_hr h r 5) :: st) h Q := wp_gf (by decide +kernel : ab_cod 151 163 = some (.getfield 19, 3, 7, 5, 777, 1)) hk
set_option maxRecDepth 100000 in
theorem i151_166 {v0 : Value} {x : Int32} {st : List Value} {h : ab_Hp} {Q : ab_O → ab_Hp → Prop} : wp 151 166 [v0, .int x] st h Q = wp 151 167 [v0, .int x] (.int x :: st) h Q := wp_stp (ri := (.iload_n 1, 1, 0, 0, 0, 0)) (by decide +kernel) rfl rfl rfl
set_option maxRecDepth 100000 in
theorem i151_167 {v0 v1 : Value} {r : Nat} {x : Int32} {st : List Value} {h : ab_Hp} {Q : ab_O → ab_Hp → Prop} (hk : ((ab_sh h r).1 = 1 ∨ (ab_sh h r).1 = 6) ∧ ab_in x (ab_sh h r).2 = true) : wp 151 167 [v0, v1] (.int x :: .ref r :: st) h Q = wp 151 168 [v0, v1] (.int (ab_hi h r x.toNatClampNeg) :: st) h Q := wp_ia (by decide +kernel : ab_cod 151 167 = some (.iaload, 1, 0, 0, 0, 0)) hk
set_option maxRecDepth 100000 in
theorem i151_168 {v0 v1 : Value} {x : Int32} {st : List Value} {h : ab_Hp} {Q : ab_O → ab_Hp → Prop} : wp 151 168 [v0, v1] (.int x :: st) h Q = wp 151 169 [v0, v1] (.long x.toInt64 :: st) h Q := wp_stp (ri := (.i2l, 1, 0, 0, 0, 0)) (by decide +kernel) rfl rfl rfl
set_option maxRecDepth 100000 in
theorem i151_169 {v0 v1 : Value} {r : Nat} {a0 : Int64} {st : List Value} {h : ab_Hp} {Q : ab_O → ab_Hp → Prop} (hl : st.length ≤ 4) (hk : (ab_sh h r).1 = 17) : wp 151 169 [v0, v1] (.long a0 :: .ref r :: st) h Q = wp 148 0 [.ref r, .long a0, ab_nov] [] h (ab_K 151 169 [v0, v1] st Q) := wp_callV (as := [.long a0]) (by decide +kernel : ab_cod 151 169 = some (.invokevirtual 181, 3, 148, 2, 0, 1049)) rfl rfl rfl rfl hl hk
set_option maxRecDepth 100000 in
theorem i151_172 {v0 : Value} {x : Int32} {st : List Value} {h : ab_Hp} {Q : ab_O → ab_Hp → Prop} : wp 151 172 [v0, .int x] st h Q = wp 151 175 [ab_clr v0, .int (x + nI 1)] st h Q := wp_stp (ri := (.iinc 1 1, 3, 0, 0, 0, 0)) (by decide +kernel) rfl rfl rfl
set_option maxRecDepth 100000 in
theorem i151_175 {v0 v1 : Value} {st : List Value} {h : ab_Hp} {Q : ab_O → ab_Hp → Prop} : wp 151 175 [v0, v1] st h Q = wp 151 153 [v0, v1] st h Q := wp_stp (ri := (.goto (-22), 3, 153, 0, 0, 0)) (by decide +kernel) rfl rfl rfl
set_option maxRecDepth 100000 in
theorem i151_178 {v0 v1 : Value} {st : List Value} {h : ab_Hp} {Q : ab_O → ab_Hp → Prop} (hv : ab_isA v0 = true) : wp 151 178 [v0, v1] st h Q = wp 151 179 [v0, v1] (v0 :: st) h Q := wp_aload_n (by decide +kernel : ab_cod 151 178 = some (.aload_n 0, 1, 0, 0, 0, 0)) hv
set_option maxRecDepth 100000 in
theorem i151_179 {v0 v1 : Value} {r : Nat} {st : List Value} {h : ab_Hp} {Q : ab_O → ab_Hp → Prop} (hk : (ab_sh h r).1 = 17) : wp 151 179 [v0, v1] (.ref r :: st) h Q = wp 151 182 [v0, v1] (.long (ab_hl h r 10) :: st) h Q := wp_gf (by decide +kernel : ab_cod 151 179 = some (.getfield 177, 3, 7, 10, 782, 0)) hk
set_option maxRecDepth 100000 in
theorem i151_182 {v0 v1 : Value} {z : Int64} {h : ab_Hp} {Q : ab_O → ab_Hp → Prop} : wp 151 182 [v0, v1] [.long z] h Q = Q (.inl (some (.long z))) h := wp_lret (by decide +kernel : ab_cod 151 182 = some (.lreturn, 1, 0, 0, 0, 0)) rfl
