/-! The share and the slowest room. -/
theorem ab_cvg {o : CmpOp} : Op.cmpValue (some .gt) o = nI 1 := rfl
theorem ab_cve {o : CmpOp} : Op.cmpValue (some .eq) o = nI 0 := rfl
theorem ab_cvl {o : CmpOp} : Op.cmpValue (some .lt) o = -1 := rfl
theorem ab_c1 : FP.dconst1 = ab_nb 1023 0 := by decide +kernel
section AbBits
variable {h : ab_Hp} {f f' f0 : Nat → Nat → Int32} {g g' : Nat → Nat → Option Nat} {l l' : Nat → Nat → Int64} {Q : ab_O → ab_Hp → Prop} {X M b L i n n' tn tn' : Nat} {xs z z' Z Z' : Nat → Int32} {zs zs' : Nat → Nat → Int32} {cs cs' : Nat → Nat} {s : Nat → Nat × Nat} {u5 u6 u7 u8 : Value}
def ab_dv (z : Nat → Int32) : UInt64 := if z 1 = nI 0 then FP.dconst1 else FP.ddiv (FP.i2d (z 2)) (FP.i2d (z 1))
theorem ab_dv_or (v : InvZ z) : (z 1 = nI 0 ∧ ab_dv z = FP.dconst1) ∨ ∃ p o, z 1 = nI p ∧ z 2 = nI o ∧ 1 ≤ p ∧ p ≤ 999 ∧ ab_dv z = FP.ddiv (FP.i2d (nI o)) (FP.i2d (nI p)) ∧ (ab_dv z = FP.dconst0 ∨ ab_good 1013 1023 (ab_dv z)) := by
  obtain ⟨p, o, y1, y2, y9, yc⟩ := v.2.2.2.2
  by_cases hp : p = 0
  · subst hp
    exact Or.inl ⟨y1, if_pos y1⟩
  · have hd : ab_dv z = FP.ddiv (FP.i2d (nI o)) (FP.i2d (nI p)) := by
      unfold ab_dv
      rw [if_neg (by rw [y1, ab_neq (by omega) (by omega)]; exact hp), y1, y2]
    refine Or.inr ⟨p, o, y1, y2, by omega, y9, hd, ?_⟩
    rw [hd]
    by_cases ho : o = 0
    · subst ho
      exact Or.inl (ab_share_zero (by omega) y9)
    · exact Or.inr (ab_share_good (by omega) (by omega) y9)
theorem ab_dv_ok (v : InvZ z) : ab_dv z = FP.dconst0 ∨ ab_good 1013 1023 (ab_dv z) := by
  rcases ab_dv_or v with ⟨-, e⟩ | ⟨p, o, -, -, -, -, -, h⟩
  · rw [e, ab_c1]
    exact Or.inr ⟨1023, 0, rfl, by omega, by omega, by omega⟩
  · exact h
theorem ab_ok_nan {d : UInt64} (h : d = FP.dconst0 ∨ ab_good 1013 1023 d) : d &&& 0x7fffffffffffffff ≤ 0x7ff0000000000000 := by
  rcases h with rfl | ⟨k, m, rfl, h1, h2, hm⟩
  · decide +kernel
  · exact ab_nb_ok (by omega) hm
theorem ab_ok_same {d : UInt64} (h : d = FP.dconst0 ∨ ab_good 1013 1023 d) : FP.dcmp d d = some .eq := by
  rcases h with rfl | ⟨k, m, rfl, h1, h2, hm⟩
  · decide +kernel
  · exact ab_dcmp_same (by omega) (by omega) hm
theorem t_pshare (B : PicB (ab_sh h) f g X z n zs tn cs) : wp 71 0 [.ref X] [] (ab_S h f g l) Q = Q (.inl (some (.double (ab_dv z)))) (ab_S h f g l) := by
  obtain ⟨⟨s0, g0, g1, g2, g3⟩, sk1, sk2, ⟨px, v⟩, ph, pt⟩ := B
  have k1 := sk1.1.1
  have c4 : f (X + 1) 4 = z 1 := px.1.2.2.1
  have e8 : ab_sum (fun i => z (6 + 27 * i + 8)) 6 = z 2 := v.2.2.2.1.symm
  rcases ab_dv_or v with ⟨e, ed⟩ | ⟨p, o, y1, y2, p1, p9, ed, hok⟩
  · rw [ed]
    simp (disch := first | with_reducible assumption | exact ab_dK (by with_reducible assumption) | exact id rfl | exact Nat.le_of_ble_eq_true rfl | exact ab_dL (by with_reducible assumption) (by omega) | exact ab_dI (by with_reducible assumption) (by omega) (by omega) | exact ab_dI6 (by with_reducible assumption) (by omega) (by omega) | exact ab_dIs (by with_reducible assumption) (by omega) (by omega) | exact ab_dJ (by with_reducible assumption) (by omega) (by omega) | omega | exact ab_isA_rf _ | exact nI_ne0 (by omega) (by omega) | exact ab_dA (by with_reducible assumption) (by omega) (by omega) (by omega) | exact id (Or.inl rfl) | exact id (Or.inr rfl) | exact ab_b01 | fail) only [i71_0, i71_1, i71_4, i71_7, i71_10, i71_11, i71_14, i71_16, i71_19, i71_20, i71_21, i71_24, i71_27, i71_28, i71_29, i71_32, i71_33, ab_isA_rf, ab_clr_int, ab_clr_ref, ab_clr_null, ab_clr_rf, ab_clr_nov, ab_clr_long, ab_clr_dbl, ab_rf_some, ab_rf_none, ab_hi_S, ab_hr_S, ab_hl_S, ab_sh_S, ab_setI_S, ab_setR_S, ab_setL_S, ab_thr_S, ab_K_ret, ab_K_void, List.length_cons, List.length_nil, Nat.reduceAdd, Nat.reduceMul, ↓reduceIte, ↓Nat.reduceLT, ↓Nat.reduceLeDiff, ↓Nat.reduceEqDiff, ab_nadd, ab_nmul, ab_nsub, ab_nclamp, ab_nlt, ab_nle, ab_neq, ab_nlt0, ab_n0lt, ab_nle0, ab_nle00, ab_neq0, ab_nm1, ab_m1n, ab_m1lt, ab_nltm1, ab_nlem1, ab_m1le, ab_m1lt0, ab_0lem1, ab_m1eq0, ab_m1eqm1, ab_ltT, ab_ltF, ab_leT, ab_leF, ab_eqT, ab_eqF, ab_b0, ab_not_true, ab_not_false, ab_u_at, ab_u_ne, ab_u_eq, Nat.add_zero, Nat.zero_add, g0, c4, e]
  · have hn := ab_ok_nan hok
    rw [ed] at hn ⊢
    simp (disch := first | with_reducible assumption | exact ab_dK (by with_reducible assumption) | exact id rfl | exact Nat.le_of_ble_eq_true rfl | exact ab_dL (by with_reducible assumption) (by omega) | exact ab_dI (by with_reducible assumption) (by omega) (by omega) | exact ab_dI6 (by with_reducible assumption) (by omega) (by omega) | exact ab_dIs (by with_reducible assumption) (by omega) (by omega) | exact ab_dJ (by with_reducible assumption) (by omega) (by omega) | omega | exact ab_isA_rf _ | exact nI_ne0 (by omega) (by omega) | exact ab_dA (by with_reducible assumption) (by omega) (by omega) (by omega) | exact id (Or.inl rfl) | exact id (Or.inr rfl) | exact ab_b01 | fail) only [i71_0, i71_1, i71_4, i71_7, i71_10, i71_11, i71_14, i71_16, i71_19, i71_20, i71_21, i71_24, i71_27, i71_28, i71_29, i71_32, i71_33, ab_isA_rf, ab_clr_int, ab_clr_ref, ab_clr_null, ab_clr_rf, ab_clr_nov, ab_clr_long, ab_clr_dbl, ab_rf_some, ab_rf_none, ab_hi_S, ab_hr_S, ab_hl_S, ab_sh_S, ab_setI_S, ab_setR_S, ab_setL_S, ab_thr_S, ab_K_ret, ab_K_void, List.length_cons, List.length_nil, Nat.reduceAdd, Nat.reduceMul, ↓reduceIte, ↓Nat.reduceLT, ↓Nat.reduceLeDiff, ↓Nat.reduceEqDiff, ab_nadd, ab_nmul, ab_nsub, ab_nclamp, ab_nlt, ab_nle, ab_neq, ab_nlt0, ab_n0lt, ab_nle0, ab_nle00, ab_neq0, ab_nm1, ab_m1n, ab_m1lt, ab_nltm1, ab_nlem1, ab_m1le, ab_m1lt0, ab_0lem1, ab_m1eq0, ab_m1eqm1, ab_ltT, ab_ltF, ab_leT, ab_leF, ab_eqT, ab_eqF, ab_b0, ab_not_true, ab_not_false, ab_u_at, ab_u_ne, ab_u_eq, Nat.add_zero, Nat.zero_add, g0, c4, y1, t_total (k := 8) sk1 px v, e8, y2]
def ab_wq (z : Nat → Int32) : Option Nat → Int32
  | none => nI 0
  | some k => z (6 + 27 * k + 7)
def ab_sr : Option Nat → Int32
  | none => -1
  | some k => nI k
def ab_sb (z : Nat → Int32) : Nat → Option Nat
  | 0 => none
  | i + 1 => if ab_wq z (ab_sb z i) < z (6 + 27 * i + 7) then some i else ab_sb z i
theorem ab_sb_or (z : Nat → Int32) : ∀ i, ab_sb z i = none ∨ ∃ k, ab_sb z i = some k ∧ k < i := by
  intro i
  induction i with
  | zero => exact Or.inl rfl
  | succ i ih =>
    unfold ab_sb
    split
    · exact Or.inr ⟨i, rfl, by omega⟩
    · rcases ih with e | ⟨k, e, hk⟩
      · exact Or.inl e
      · exact Or.inr ⟨k, e, by omega⟩
theorem t_pslow_loop (B : PicB (ab_sh h) f g X z n zs tn cs) : ∀ (c i : Nat) (u : Value), i + c = 6 →
    wp 70 6 [.ref X, .int (ab_sr (ab_sb z i)), .int (ab_wq z (ab_sb z i)), .int (nI i), u] [] (ab_S h f g l) Q = Q (.inl (some (.int (ab_sr (ab_sb z 6))))) (ab_S h f g l) := by
  obtain ⟨⟨s0, g0, g1, g2, g3⟩, sk1, sk2, ⟨px, v⟩, ph, pt⟩ := B
  have k1 := sk1.1.1
  intro c
  induction c with
  | zero =>
    intro i u hi
    have e : i = 6 := by omega
    subst e
    simp (disch := first | with_reducible assumption | exact ab_dK (by with_reducible assumption) | exact id rfl | exact Nat.le_of_ble_eq_true rfl | exact ab_dL (by with_reducible assumption) (by omega) | exact ab_dI (by with_reducible assumption) (by omega) (by omega) | exact ab_dI6 (by with_reducible assumption) (by omega) (by omega) | exact ab_dIs (by with_reducible assumption) (by omega) (by omega) | exact ab_dJ (by with_reducible assumption) (by omega) (by omega) | omega | exact ab_isA_rf _ | exact nI_ne0 (by omega) (by omega) | exact ab_dA (by with_reducible assumption) (by omega) (by omega) (by omega) | exact id (Or.inl rfl) | exact id (Or.inr rfl) | exact ab_b01 | fail) only [i70_6, ab_isA_rf, ab_clr_int, ab_clr_ref, ab_clr_null, ab_clr_rf, ab_clr_nov, ab_clr_long, ab_clr_dbl, ab_rf_some, ab_rf_none, ab_hi_S, ab_hr_S, ab_hl_S, ab_sh_S, ab_setI_S, ab_setR_S, ab_setL_S, ab_thr_S, ab_K_ret, ab_K_void, List.length_cons, List.length_nil, Nat.reduceAdd, Nat.reduceMul, ↓reduceIte, ↓Nat.reduceLT, ↓Nat.reduceLeDiff, ↓Nat.reduceEqDiff, ab_nadd, ab_nmul, ab_nsub, ab_nclamp, ab_nlt, ab_nle, ab_neq, ab_nlt0, ab_n0lt, ab_nle0, ab_nle00, ab_neq0, ab_nm1, ab_m1n, ab_m1lt, ab_nltm1, ab_nlem1, ab_m1le, ab_m1lt0, ab_0lem1, ab_m1eq0, ab_m1eqm1, ab_ltT, ab_ltF, ab_leT, ab_leF, ab_eqT, ab_eqF, ab_b0, ab_not_true, ab_not_false, ab_u_at, ab_u_ne, ab_u_eq, Nat.add_zero, Nat.zero_add]
    simp (disch := first | with_reducible assumption | exact ab_dK (by with_reducible assumption) | exact id rfl | exact Nat.le_of_ble_eq_true rfl | exact ab_dL (by with_reducible assumption) (by omega) | exact ab_dI (by with_reducible assumption) (by omega) (by omega) | exact ab_dI6 (by with_reducible assumption) (by omega) (by omega) | exact ab_dIs (by with_reducible assumption) (by omega) (by omega) | exact ab_dJ (by with_reducible assumption) (by omega) (by omega) | omega | exact ab_isA_rf _ | exact nI_ne0 (by omega) (by omega) | exact ab_dA (by with_reducible assumption) (by omega) (by omega) (by omega) | exact id (Or.inl rfl) | exact id (Or.inr rfl) | exact ab_b01 | fail) only [i70_0, i70_1, i70_2, i70_3, i70_4, i70_5, i70_7, i70_9, i70_12, i70_13, i70_16, i70_17, i70_20, i70_22, i70_24, i70_24r, i70_24n, i70_27, i70_29, i70_32, i70_33, i70_36, i70_37, i70_38, i70_40, i70_43, i70_44, i70_47, i70_50, i70_51, ab_isA_rf, ab_clr_int, ab_clr_ref, ab_clr_null, ab_clr_rf, ab_clr_nov, ab_clr_long, ab_clr_dbl, ab_rf_some, ab_rf_none, ab_hi_S, ab_hr_S, ab_hl_S, ab_sh_S, ab_setI_S, ab_setR_S, ab_setL_S, ab_thr_S, ab_K_ret, ab_K_void, List.length_cons, List.length_nil, Nat.reduceAdd, Nat.reduceMul, ↓reduceIte, ↓Nat.reduceLT, ↓Nat.reduceLeDiff, ↓Nat.reduceEqDiff, ab_nadd, ab_nmul, ab_nsub, ab_nclamp, ab_nlt, ab_nle, ab_neq, ab_nlt0, ab_n0lt, ab_nle0, ab_nle00, ab_neq0, ab_nm1, ab_m1n, ab_m1lt, ab_nltm1, ab_nlem1, ab_m1le, ab_m1lt0, ab_0lem1, ab_m1eq0, ab_m1eqm1, ab_ltT, ab_ltF, ab_leT, ab_leF, ab_eqT, ab_eqF, ab_b0, ab_not_true, ab_not_false, ab_u_at, ab_u_ne, ab_u_eq, Nat.add_zero, Nat.zero_add]
  | succ c ih =>
    intro i u hi
    have hi6 : i < 6 := by omega
    have kr := (sk1.2.1 i hi6).2.1
    have c7 : f (X + 1 + 3 + 3 * i) 7 = z (6 + 27 * i + 7) := (px.room hi6).1 7 (by omega)
    have ih' := ih (i + 1) (.ref (X + 1 + 3 + 3 * i)) (by omega)
    have e : ab_sb z (i + 1) = if ab_wq z (ab_sb z i) < z (6 + 27 * i + 7) then some i else ab_sb z i := rfl
    rw [e] at ih'
    by_cases hlt : ab_wq z (ab_sb z i) < z (6 + 27 * i + 7)
    · rw [if_pos hlt] at ih'
      simp (disch := first | with_reducible assumption | exact ab_dK (by with_reducible assumption) | exact id rfl | exact Nat.le_of_ble_eq_true rfl | exact ab_dL (by with_reducible assumption) (by omega) | exact ab_dI (by with_reducible assumption) (by omega) (by omega) | exact ab_dI6 (by with_reducible assumption) (by omega) (by omega) | exact ab_dIs (by with_reducible assumption) (by omega) (by omega) | exact ab_dJ (by with_reducible assumption) (by omega) (by omega) | omega | exact ab_isA_rf _ | exact nI_ne0 (by omega) (by omega) | exact ab_dA (by with_reducible assumption) (by omega) (by omega) (by omega) | exact id (Or.inl rfl) | exact id (Or.inr rfl) | exact ab_b01 | fail) only [i70_6, ab_isA_rf, ab_clr_int, ab_clr_ref, ab_clr_null, ab_clr_rf, ab_clr_nov, ab_clr_long, ab_clr_dbl, ab_rf_some, ab_rf_none, ab_hi_S, ab_hr_S, ab_hl_S, ab_sh_S, ab_setI_S, ab_setR_S, ab_setL_S, ab_thr_S, ab_K_ret, ab_K_void, List.length_cons, List.length_nil, Nat.reduceAdd, Nat.reduceMul, ↓reduceIte, ↓Nat.reduceLT, ↓Nat.reduceLeDiff, ↓Nat.reduceEqDiff, ab_nadd, ab_nmul, ab_nsub, ab_nclamp, ab_nlt, ab_nle, ab_neq, ab_nlt0, ab_n0lt, ab_nle0, ab_nle00, ab_neq0, ab_nm1, ab_m1n, ab_m1lt, ab_nltm1, ab_nlem1, ab_m1le, ab_m1lt0, ab_0lem1, ab_m1eq0, ab_m1eqm1, ab_ltT, ab_ltF, ab_leT, ab_leF, ab_eqT, ab_eqF, ab_b0, ab_not_true, ab_not_false, ab_u_at, ab_u_ne, ab_u_eq, Nat.add_zero, Nat.zero_add]
      simp (disch := first | with_reducible assumption | exact ab_dK (by with_reducible assumption) | exact id rfl | exact Nat.le_of_ble_eq_true rfl | exact ab_dL (by with_reducible assumption) (by omega) | exact ab_dI (by with_reducible assumption) (by omega) (by omega) | exact ab_dI6 (by with_reducible assumption) (by omega) (by omega) | exact ab_dIs (by with_reducible assumption) (by omega) (by omega) | exact ab_dJ (by with_reducible assumption) (by omega) (by omega) | omega | exact ab_isA_rf _ | exact nI_ne0 (by omega) (by omega) | exact ab_dA (by with_reducible assumption) (by omega) (by omega) (by omega) | exact id (Or.inl rfl) | exact id (Or.inr rfl) | exact ab_b01 | fail) only [i70_0, i70_1, i70_2, i70_3, i70_4, i70_5, i70_7, i70_9, i70_12, i70_13, i70_16, i70_17, i70_20, i70_22, i70_24, i70_24r, i70_24n, i70_27, i70_29, i70_32, i70_33, i70_36, i70_37, i70_38, i70_40, i70_43, i70_44, i70_47, i70_50, i70_51, ab_isA_rf, ab_clr_int, ab_clr_ref, ab_clr_null, ab_clr_rf, ab_clr_nov, ab_clr_long, ab_clr_dbl, ab_rf_some, ab_rf_none, ab_hi_S, ab_hr_S, ab_hl_S, ab_sh_S, ab_setI_S, ab_setR_S, ab_setL_S, ab_thr_S, ab_K_ret, ab_K_void, List.length_cons, List.length_nil, Nat.reduceAdd, Nat.reduceMul, ↓reduceIte, ↓Nat.reduceLT, ↓Nat.reduceLeDiff, ↓Nat.reduceEqDiff, ab_nadd, ab_nmul, ab_nsub, ab_nclamp, ab_nlt, ab_nle, ab_neq, ab_nlt0, ab_n0lt, ab_nle0, ab_nle00, ab_neq0, ab_nm1, ab_m1n, ab_m1lt, ab_nltm1, ab_nlem1, ab_m1le, ab_m1lt0, ab_0lem1, ab_m1eq0, ab_m1eqm1, ab_ltT, ab_ltF, ab_leT, ab_leF, ab_eqT, ab_eqF, ab_b0, ab_not_true, ab_not_false, ab_u_at, ab_u_ne, ab_u_eq, Nat.add_zero, Nat.zero_add, g0, t_roomAt sk1 hi6, c7, ab_leFi hlt]
      exact ih'
    · rw [if_neg hlt] at ih'
      simp (disch := first | with_reducible assumption | exact ab_dK (by with_reducible assumption) | exact id rfl | exact Nat.le_of_ble_eq_true rfl | exact ab_dL (by with_reducible assumption) (by omega) | exact ab_dI (by with_reducible assumption) (by omega) (by omega) | exact ab_dI6 (by with_reducible assumption) (by omega) (by omega) | exact ab_dIs (by with_reducible assumption) (by omega) (by omega) | exact ab_dJ (by with_reducible assumption) (by omega) (by omega) | omega | exact ab_isA_rf _ | exact nI_ne0 (by omega) (by omega) | exact ab_dA (by with_reducible assumption) (by omega) (by omega) (by omega) | exact id (Or.inl rfl) | exact id (Or.inr rfl) | exact ab_b01 | fail) only [i70_6, ab_isA_rf, ab_clr_int, ab_clr_ref, ab_clr_null, ab_clr_rf, ab_clr_nov, ab_clr_long, ab_clr_dbl, ab_rf_some, ab_rf_none, ab_hi_S, ab_hr_S, ab_hl_S, ab_sh_S, ab_setI_S, ab_setR_S, ab_setL_S, ab_thr_S, ab_K_ret, ab_K_void, List.length_cons, List.length_nil, Nat.reduceAdd, Nat.reduceMul, ↓reduceIte, ↓Nat.reduceLT, ↓Nat.reduceLeDiff, ↓Nat.reduceEqDiff, ab_nadd, ab_nmul, ab_nsub, ab_nclamp, ab_nlt, ab_nle, ab_neq, ab_nlt0, ab_n0lt, ab_nle0, ab_nle00, ab_neq0, ab_nm1, ab_m1n, ab_m1lt, ab_nltm1, ab_nlem1, ab_m1le, ab_m1lt0, ab_0lem1, ab_m1eq0, ab_m1eqm1, ab_ltT, ab_ltF, ab_leT, ab_leF, ab_eqT, ab_eqF, ab_b0, ab_not_true, ab_not_false, ab_u_at, ab_u_ne, ab_u_eq, Nat.add_zero, Nat.zero_add]
      simp (disch := first | with_reducible assumption | exact ab_dK (by with_reducible assumption) | exact id rfl | exact Nat.le_of_ble_eq_true rfl | exact ab_dL (by with_reducible assumption) (by omega) | exact ab_dI (by with_reducible assumption) (by omega) (by omega) | exact ab_dI6 (by with_reducible assumption) (by omega) (by omega) | exact ab_dIs (by with_reducible assumption) (by omega) (by omega) | exact ab_dJ (by with_reducible assumption) (by omega) (by omega) | omega | exact ab_isA_rf _ | exact nI_ne0 (by omega) (by omega) | exact ab_dA (by with_reducible assumption) (by omega) (by omega) (by omega) | exact id (Or.inl rfl) | exact id (Or.inr rfl) | exact ab_b01 | fail) only [i70_0, i70_1, i70_2, i70_3, i70_4, i70_5, i70_7, i70_9, i70_12, i70_13, i70_16, i70_17, i70_20, i70_22, i70_24, i70_24r, i70_24n, i70_27, i70_29, i70_32, i70_33, i70_36, i70_37, i70_38, i70_40, i70_43, i70_44, i70_47, i70_50, i70_51, ab_isA_rf, ab_clr_int, ab_clr_ref, ab_clr_null, ab_clr_rf, ab_clr_nov, ab_clr_long, ab_clr_dbl, ab_rf_some, ab_rf_none, ab_hi_S, ab_hr_S, ab_hl_S, ab_sh_S, ab_setI_S, ab_setR_S, ab_setL_S, ab_thr_S, ab_K_ret, ab_K_void, List.length_cons, List.length_nil, Nat.reduceAdd, Nat.reduceMul, ↓reduceIte, ↓Nat.reduceLT, ↓Nat.reduceLeDiff, ↓Nat.reduceEqDiff, ab_nadd, ab_nmul, ab_nsub, ab_nclamp, ab_nlt, ab_nle, ab_neq, ab_nlt0, ab_n0lt, ab_nle0, ab_nle00, ab_neq0, ab_nm1, ab_m1n, ab_m1lt, ab_nltm1, ab_nlem1, ab_m1le, ab_m1lt0, ab_0lem1, ab_m1eq0, ab_m1eqm1, ab_ltT, ab_ltF, ab_leT, ab_leF, ab_eqT, ab_eqF, ab_b0, ab_not_true, ab_not_false, ab_u_at, ab_u_ne, ab_u_eq, Nat.add_zero, Nat.zero_add, g0, t_roomAt sk1 hi6, c7, ab_leTi hlt]
      exact ih'
theorem t_pslow (B : PicB (ab_sh h) f g X z n zs tn cs) : wp 70 0 [.ref X, ab_nov, ab_nov, ab_nov, ab_nov] [] (ab_S h f g l) Q = Q (.inl (some (.int (ab_sr (ab_sb z 6))))) (ab_S h f g l) := by
  simp (disch := first | with_reducible assumption | exact ab_dK (by with_reducible assumption) | exact id rfl | exact Nat.le_of_ble_eq_true rfl | exact ab_dL (by with_reducible assumption) (by omega) | exact ab_dI (by with_reducible assumption) (by omega) (by omega) | exact ab_dI6 (by with_reducible assumption) (by omega) (by omega) | exact ab_dIs (by with_reducible assumption) (by omega) (by omega) | exact ab_dJ (by with_reducible assumption) (by omega) (by omega) | omega | exact ab_isA_rf _ | exact nI_ne0 (by omega) (by omega) | exact ab_dA (by with_reducible assumption) (by omega) (by omega) (by omega) | exact id (Or.inl rfl) | exact id (Or.inr rfl) | exact ab_b01 | fail) only [i70_0, i70_1, i70_2, i70_3, i70_4, i70_5, i70_7, i70_9, i70_12, i70_13, i70_16, i70_17, i70_20, i70_22, i70_24, i70_24r, i70_24n, i70_27, i70_29, i70_32, i70_33, i70_36, i70_37, i70_38, i70_40, i70_43, i70_44, i70_47, i70_50, i70_51, ab_isA_rf, ab_clr_int, ab_clr_ref, ab_clr_null, ab_clr_rf, ab_clr_nov, ab_clr_long, ab_clr_dbl, ab_rf_some, ab_rf_none, ab_hi_S, ab_hr_S, ab_hl_S, ab_sh_S, ab_setI_S, ab_setR_S, ab_setL_S, ab_thr_S, ab_K_ret, ab_K_void, List.length_cons, List.length_nil, Nat.reduceAdd, Nat.reduceMul, ↓reduceIte, ↓Nat.reduceLT, ↓Nat.reduceLeDiff, ↓Nat.reduceEqDiff, ab_nadd, ab_nmul, ab_nsub, ab_nclamp, ab_nlt, ab_nle, ab_neq, ab_nlt0, ab_n0lt, ab_nle0, ab_nle00, ab_neq0, ab_nm1, ab_m1n, ab_m1lt, ab_nltm1, ab_nlem1, ab_m1le, ab_m1lt0, ab_0lem1, ab_m1eq0, ab_m1eqm1, ab_ltT, ab_ltF, ab_leT, ab_leF, ab_eqT, ab_eqF, ab_b0, ab_not_true, ab_not_false, ab_u_at, ab_u_ne, ab_u_eq, Nat.add_zero, Nat.zero_add]
  exact t_pslow_loop B 6 0 ab_nov (by omega)
end AbBits
