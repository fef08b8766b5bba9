/-! SeamBeatsModel: its saved rows. -/
section AbSave
variable {h : ab_Hp} {f f' f0 : Nat → Nat → Int32} {g g' g0 : Nat → Nat → Option Nat} {l l' l0 : Nat → Nat → Int64} {Q : ab_O → ab_Hp → Prop} {M : Nat} {Z W z : Nat → Int32}
def ab_sw (f : Nat → Nat → Int32) (m : Nat) (Z : Nat → Int32) (n i : Nat) : Nat → Nat → Int32 := fun b j => if b = m ∧ n * 360 ≤ j ∧ j < n * 360 + i then Z (j - n * 360) else f b j
theorem ab_sw_ne {m n i b j : Nat} (h : ¬ (b = m ∧ n * 360 ≤ j ∧ j < n * 360 + i)) : ab_sw f m Z n i b j = f b j := if_neg h
def ab_sv (f : Nat → Nat → Int32) (m i : Nat) : Nat → Nat → Int32 := fun b j => if b = m ∧ j < i then f m (j + 360) else f b j
theorem ab_sv_ne {m i b j : Nat} (h : ¬ (b = m ∧ j < i)) : ab_sv f m i b j = f b j := if_neg h
theorem ab_sv_at {m i b j : Nat} (h : b = m ∧ j < i) : ab_sv f m i b j = f m (j + 360) := if_pos h
set_option maxHeartbeats 4000000 in
theorem t_msave2 {n : Nat} (sk : SkM (ab_sh h) g M) (hn : f M 3 = nI n) (hn6 : n < 6) : ∀ (c i : Nat), i + c = 360 →
    wp 94 52 [.ref M, .int (nI i)] [] (ab_S h (ab_mr (ab_sw f (M + 2) Z n i) (M + 1) Z) g l) Q = Q (.inl none) (ab_S h (ab_mr (ab_u (ab_sw f (M + 2) Z n 360) M 3 (nI (n + 1))) (M + 1) Z) g l) := by
  obtain ⟨s0, g1, g2, g4, g5, g7, s1, s2, s3, s4, s5⟩ := sk
  intro c
  induction c with
  | zero =>
    intro i hi
    have e : i = 360 := by omega
    subst e
    simp (disch := first | assumption | exact id rfl | omega | exact ab_dK (by assumption) | exact ab_dL (by assumption) (by omega) | exact ab_dI (by assumption) (by omega) (by omega) | exact ab_dIs (by assumption) (by omega) (by omega) | exact ab_isA_rf _ | exact nI_ne0 (by omega) (by omega) | exact Nat.le_of_ble_eq_true rfl | exact ab_dA (by assumption) (by omega) (by omega) (by omega) | exact id (Or.inl rfl) | exact id (Or.inr rfl) | exact ab_b01 | exact ab_dJ (by assumption) (by omega) (by omega) | exact ab_dI6 (by assumption) (by omega) (by omega) | fail) only [i94_52, ab_isA_rf, ab_clr_int, ab_clr_ref, ab_clr_null, ab_clr_rf, ab_clr_nov, ab_clr_long, ab_clr_dbl, ab_rf_some, ab_rf_none, ab_hi_S, ab_hr_S, ab_hl_S, ab_sh_S, ab_setI_S, ab_setR_S, ab_setL_S, ab_thr_S, ab_K_ret, ab_K_void, List.length_cons, List.length_nil, Nat.reduceAdd, Nat.reduceMul, ite_not, reduceIte, ab_nadd, ab_nmul, ab_nsub, ab_nclamp, ab_nlt, ab_nle, ab_neq, ab_nlt0, ab_n0lt, ab_nle0, ab_nle00, ab_neq0, ab_nm1, ab_m1n, ab_m1lt, ab_nltm1, ab_nlem1, ab_m1le, ab_m1lt0, ab_0lem1, ab_m1eq0, ab_m1eqm1, ab_ltT, ab_ltF, ab_leT, ab_leF, ab_eqT, ab_eqF, ab_b0, ab_not_true, ab_not_false, ab_u_at, ab_u_ne, ab_u_eq, Nat.add_zero, Nat.zero_add]
    simp (disch := first | assumption | exact id rfl | omega | exact ab_dK (by assumption) | exact ab_dL (by assumption) (by omega) | exact ab_dI (by assumption) (by omega) (by omega) | exact ab_dIs (by assumption) (by omega) (by omega) | exact ab_isA_rf _ | exact nI_ne0 (by omega) (by omega) | exact Nat.le_of_ble_eq_true rfl | exact ab_dA (by assumption) (by omega) (by omega) (by omega) | exact id (Or.inl rfl) | exact id (Or.inr rfl) | exact ab_b01 | exact ab_dJ (by assumption) (by omega) (by omega) | exact ab_dI6 (by assumption) (by omega) (by omega) | fail) only [i94_0, i94_1, i94_4, i94_6, i94_9, i94_10, i94_12, i94_15, i94_18, i94_19, i94_22, i94_23, i94_24, i94_27, i94_28, i94_31, i94_32, i94_33, i94_34, i94_37, i94_40, i94_41, i94_42, i94_45, i94_46, i94_47, i94_50, i94_51, i94_53, i94_56, i94_59, i94_60, i94_63, i94_64, i94_67, i94_70, i94_71, i94_72, i94_73, i94_74, i94_77, i94_78, i94_79, i94_80, i94_83, i94_86, i94_87, i94_88, i94_91, i94_92, i94_93, i94_96, ab_isA_rf, ab_clr_int, ab_clr_ref, ab_clr_null, ab_clr_rf, ab_clr_nov, ab_clr_long, ab_clr_dbl, ab_rf_some, ab_rf_none, ab_hi_S, ab_hr_S, ab_hl_S, ab_sh_S, ab_setI_S, ab_setR_S, ab_setL_S, ab_thr_S, ab_K_ret, ab_K_void, List.length_cons, List.length_nil, Nat.reduceAdd, Nat.reduceMul, ite_not, reduceIte, ab_nadd, ab_nmul, ab_nsub, ab_nclamp, ab_nlt, ab_nle, ab_neq, ab_nlt0, ab_n0lt, ab_nle0, ab_nle00, ab_neq0, ab_nm1, ab_m1n, ab_m1lt, ab_nltm1, ab_nlem1, ab_m1le, ab_m1lt0, ab_0lem1, ab_m1eq0, ab_m1eqm1, ab_ltT, ab_ltF, ab_leT, ab_leF, ab_eqT, ab_eqF, ab_b0, ab_not_true, ab_not_false, ab_u_at, ab_u_ne, ab_u_eq, Nat.add_zero, Nat.zero_add, ab_mr_ne, ab_sw_ne, hn, ab_mr_un]
  | succ c ih =>
    intro i hi
    have e : ab_u (ab_sw f (M + 2) Z n i) (M + 2) (n * 360 + i) (Z i) = ab_sw f (M + 2) Z n (i + 1) := by
      funext b j
      simp only [ab_u, ab_sw]
      by_cases hc : b = M + 2 ∧ j = n * 360 + i
      · rw [if_pos hc, if_pos (by omega), show j - n * 360 = i by omega]
      · rw [if_neg hc]
        by_cases h2 : b = M + 2 ∧ n * 360 ≤ j ∧ j < n * 360 + i
        · rw [if_pos h2, if_pos (by omega)]
        · rw [if_neg h2, if_neg (by omega)]
    simp (disch := first | assumption | exact id rfl | omega | exact ab_dK (by assumption) | exact ab_dL (by assumption) (by omega) | exact ab_dI (by assumption) (by omega) (by omega) | exact ab_dIs (by assumption) (by omega) (by omega) | exact ab_isA_rf _ | exact nI_ne0 (by omega) (by omega) | exact Nat.le_of_ble_eq_true rfl | exact ab_dA (by assumption) (by omega) (by omega) (by omega) | exact id (Or.inl rfl) | exact id (Or.inr rfl) | exact ab_b01 | exact ab_dJ (by assumption) (by omega) (by omega) | exact ab_dI6 (by assumption) (by omega) (by omega) | fail) only [i94_52, ab_isA_rf, ab_clr_int, ab_clr_ref, ab_clr_null, ab_clr_rf, ab_clr_nov, ab_clr_long, ab_clr_dbl, ab_rf_some, ab_rf_none, ab_hi_S, ab_hr_S, ab_hl_S, ab_sh_S, ab_setI_S, ab_setR_S, ab_setL_S, ab_thr_S, ab_K_ret, ab_K_void, List.length_cons, List.length_nil, Nat.reduceAdd, Nat.reduceMul, ite_not, reduceIte, ab_nadd, ab_nmul, ab_nsub, ab_nclamp, ab_nlt, ab_nle, ab_neq, ab_nlt0, ab_n0lt, ab_nle0, ab_nle00, ab_neq0, ab_nm1, ab_m1n, ab_m1lt, ab_nltm1, ab_nlem1, ab_m1le, ab_m1lt0, ab_0lem1, ab_m1eq0, ab_m1eqm1, ab_ltT, ab_ltF, ab_leT, ab_leF, ab_eqT, ab_eqF, ab_b0, ab_not_true, ab_not_false, ab_u_at, ab_u_ne, ab_u_eq, Nat.add_zero, Nat.zero_add]
    simp (disch := first | assumption | exact id rfl | omega | exact ab_dK (by assumption) | exact ab_dL (by assumption) (by omega) | exact ab_dI (by assumption) (by omega) (by omega) | exact ab_dIs (by assumption) (by omega) (by omega) | exact ab_isA_rf _ | exact nI_ne0 (by omega) (by omega) | exact Nat.le_of_ble_eq_true rfl | exact ab_dA (by assumption) (by omega) (by omega) (by omega) | exact id (Or.inl rfl) | exact id (Or.inr rfl) | exact ab_b01 | exact ab_dJ (by assumption) (by omega) (by omega) | exact ab_dI6 (by assumption) (by omega) (by omega) | fail) only [i94_0, i94_1, i94_4, i94_6, i94_9, i94_10, i94_12, i94_15, i94_18, i94_19, i94_22, i94_23, i94_24, i94_27, i94_28, i94_31, i94_32, i94_33, i94_34, i94_37, i94_40, i94_41, i94_42, i94_45, i94_46, i94_47, i94_50, i94_51, i94_53, i94_56, i94_59, i94_60, i94_63, i94_64, i94_67, i94_70, i94_71, i94_72, i94_73, i94_74, i94_77, i94_78, i94_79, i94_80, i94_83, i94_86, i94_87, i94_88, i94_91, i94_92, i94_93, i94_96, ab_isA_rf, ab_clr_int, ab_clr_ref, ab_clr_null, ab_clr_rf, ab_clr_nov, ab_clr_long, ab_clr_dbl, ab_rf_some, ab_rf_none, ab_hi_S, ab_hr_S, ab_hl_S, ab_sh_S, ab_setI_S, ab_setR_S, ab_setL_S, ab_thr_S, ab_K_ret, ab_K_void, List.length_cons, List.length_nil, Nat.reduceAdd, Nat.reduceMul, ite_not, reduceIte, ab_nadd, ab_nmul, ab_nsub, ab_nclamp, ab_nlt, ab_nle, ab_neq, ab_nlt0, ab_n0lt, ab_nle0, ab_nle00, ab_neq0, ab_nm1, ab_m1n, ab_m1lt, ab_nltm1, ab_nlem1, ab_m1le, ab_m1lt0, ab_0lem1, ab_m1eq0, ab_m1eqm1, ab_ltT, ab_ltF, ab_leT, ab_leF, ab_eqT, ab_eqF, ab_b0, ab_not_true, ab_not_false, ab_u_at, ab_u_ne, ab_u_eq, Nat.add_zero, Nat.zero_add, g1, g2, ab_mr_at, ab_mr_ne, ab_sw_ne, hn, ab_mr_un, e]
    exact ih (i + 1) (by omega)
set_option maxHeartbeats 4000000 in
theorem t_msave1 {R : Prop} (sk : SkM (ab_sh h) g M) (hn : f M 3 = nI 6) (hR : wp 94 52 [.ref M, .int (nI 0)] [] (ab_S h (ab_mr (ab_u (ab_sv f (M + 2) 1800) M 3 (nI 5)) (M + 1) Z) g l) Q = R) : ∀ (c i : Nat), i + c = 1800 →
    wp 94 11 [.ref M, .int (nI i)] [] (ab_S h (ab_mr (ab_sv f (M + 2) i) (M + 1) Z) g l) Q = R := by
  obtain ⟨s0, g1, g2, g4, g5, g7, s1, s2, s3, s4, s5⟩ := sk
  intro c
  induction c with
  | zero =>
    intro i hi
    have e : i = 1800 := by omega
    subst e
    rw [← hR]
    simp (disch := first | assumption | exact id rfl | omega | exact ab_dK (by assumption) | exact ab_dL (by assumption) (by omega) | exact ab_dI (by assumption) (by omega) (by omega) | exact ab_dIs (by assumption) (by omega) (by omega) | exact ab_isA_rf _ | exact nI_ne0 (by omega) (by omega) | exact Nat.le_of_ble_eq_true rfl | exact ab_dA (by assumption) (by omega) (by omega) (by omega) | exact id (Or.inl rfl) | exact id (Or.inr rfl) | exact ab_b01 | exact ab_dJ (by assumption) (by omega) (by omega) | exact ab_dI6 (by assumption) (by omega) (by omega) | fail) only [i94_11, ab_isA_rf, ab_clr_int, ab_clr_ref, ab_clr_null, ab_clr_rf, ab_clr_nov, ab_clr_long, ab_clr_dbl, ab_rf_some, ab_rf_none, ab_hi_S, ab_hr_S, ab_hl_S, ab_sh_S, ab_setI_S, ab_setR_S, ab_setL_S, ab_thr_S, ab_K_ret, ab_K_void, List.length_cons, List.length_nil, Nat.reduceAdd, Nat.reduceMul, ite_not, reduceIte, ab_nadd, ab_nmul, ab_nsub, ab_nclamp, ab_nlt, ab_nle, ab_neq, ab_nlt0, ab_n0lt, ab_nle0, ab_nle00, ab_neq0, ab_nm1, ab_m1n, ab_m1lt, ab_nltm1, ab_nlem1, ab_m1le, ab_m1lt0, ab_0lem1, ab_m1eq0, ab_m1eqm1, ab_ltT, ab_ltF, ab_leT, ab_leF, ab_eqT, ab_eqF, ab_b0, ab_not_true, ab_not_false, ab_u_at, ab_u_ne, ab_u_eq, Nat.add_zero, Nat.zero_add]
    simp (disch := first | assumption | exact id rfl | omega | exact ab_dK (by assumption) | exact ab_dL (by assumption) (by omega) | exact ab_dI (by assumption) (by omega) (by omega) | exact ab_dIs (by assumption) (by omega) (by omega) | exact ab_isA_rf _ | exact nI_ne0 (by omega) (by omega) | exact Nat.le_of_ble_eq_true rfl | exact ab_dA (by assumption) (by omega) (by omega) (by omega) | exact id (Or.inl rfl) | exact id (Or.inr rfl) | exact ab_b01 | exact ab_dJ (by assumption) (by omega) (by omega) | exact ab_dI6 (by assumption) (by omega) (by omega) | fail) only [i94_0, i94_1, i94_4, i94_6, i94_9, i94_10, i94_12, i94_15, i94_18, i94_19, i94_22, i94_23, i94_24, i94_27, i94_28, i94_31, i94_32, i94_33, i94_34, i94_37, i94_40, i94_41, i94_42, i94_45, i94_46, i94_47, i94_50, i94_51, i94_53, i94_56, i94_59, i94_60, i94_63, i94_64, i94_67, i94_70, i94_71, i94_72, i94_73, i94_74, i94_77, i94_78, i94_79, i94_80, i94_83, i94_86, i94_87, i94_88, i94_91, i94_92, i94_93, i94_96, ab_isA_rf, ab_clr_int, ab_clr_ref, ab_clr_null, ab_clr_rf, ab_clr_nov, ab_clr_long, ab_clr_dbl, ab_rf_some, ab_rf_none, ab_hi_S, ab_hr_S, ab_hl_S, ab_sh_S, ab_setI_S, ab_setR_S, ab_setL_S, ab_thr_S, ab_K_ret, ab_K_void, List.length_cons, List.length_nil, Nat.reduceAdd, Nat.reduceMul, ite_not, reduceIte, ab_nadd, ab_nmul, ab_nsub, ab_nclamp, ab_nlt, ab_nle, ab_neq, ab_nlt0, ab_n0lt, ab_nle0, ab_nle00, ab_neq0, ab_nm1, ab_m1n, ab_m1lt, ab_nltm1, ab_nlem1, ab_m1le, ab_m1lt0, ab_0lem1, ab_m1eq0, ab_m1eqm1, ab_ltT, ab_ltF, ab_leT, ab_leF, ab_eqT, ab_eqF, ab_b0, ab_not_true, ab_not_false, ab_u_at, ab_u_ne, ab_u_eq, Nat.add_zero, Nat.zero_add, ab_mr_ne, ab_sv_ne, hn, ab_mr_un]
  | succ c ih =>
    intro i hi
    have e : ab_u (ab_sv f (M + 2) i) (M + 2) i (f (M + 2) (i + 360)) = ab_sv f (M + 2) (i + 1) := by
      funext b j
      simp only [ab_u, ab_sv]
      by_cases hc : b = M + 2 ∧ j = i
      · rw [if_pos hc, if_pos (by omega), hc.2]
      · rw [if_neg hc]
        by_cases h2 : b = M + 2 ∧ j < i
        · rw [if_pos h2, if_pos (by omega)]
        · rw [if_neg h2, if_neg (by omega)]
    simp (disch := first | assumption | exact id rfl | omega | exact ab_dK (by assumption) | exact ab_dL (by assumption) (by omega) | exact ab_dI (by assumption) (by omega) (by omega) | exact ab_dIs (by assumption) (by omega) (by omega) | exact ab_isA_rf _ | exact nI_ne0 (by omega) (by omega) | exact Nat.le_of_ble_eq_true rfl | exact ab_dA (by assumption) (by omega) (by omega) (by omega) | exact id (Or.inl rfl) | exact id (Or.inr rfl) | exact ab_b01 | exact ab_dJ (by assumption) (by omega) (by omega) | exact ab_dI6 (by assumption) (by omega) (by omega) | fail) only [i94_11, ab_isA_rf, ab_clr_int, ab_clr_ref, ab_clr_null, ab_clr_rf, ab_clr_nov, ab_clr_long, ab_clr_dbl, ab_rf_some, ab_rf_none, ab_hi_S, ab_hr_S, ab_hl_S, ab_sh_S, ab_setI_S, ab_setR_S, ab_setL_S, ab_thr_S, ab_K_ret, ab_K_void, List.length_cons, List.length_nil, Nat.reduceAdd, Nat.reduceMul, ite_not, reduceIte, ab_nadd, ab_nmul, ab_nsub, ab_nclamp, ab_nlt, ab_nle, ab_neq, ab_nlt0, ab_n0lt, ab_nle0, ab_nle00, ab_neq0, ab_nm1, ab_m1n, ab_m1lt, ab_nltm1, ab_nlem1, ab_m1le, ab_m1lt0, ab_0lem1, ab_m1eq0, ab_m1eqm1, ab_ltT, ab_ltF, ab_leT, ab_leF, ab_eqT, ab_eqF, ab_b0, ab_not_true, ab_not_false, ab_u_at, ab_u_ne, ab_u_eq, Nat.add_zero, Nat.zero_add]
    simp (disch := first | assumption | exact id rfl | omega | exact ab_dK (by assumption) | exact ab_dL (by assumption) (by omega) | exact ab_dI (by assumption) (by omega) (by omega) | exact ab_dIs (by assumption) (by omega) (by omega) | exact ab_isA_rf _ | exact nI_ne0 (by omega) (by omega) | exact Nat.le_of_ble_eq_true rfl | exact ab_dA (by assumption) (by omega) (by omega) (by omega) | exact id (Or.inl rfl) | exact id (Or.inr rfl) | exact ab_b01 | exact ab_dJ (by assumption) (by omega) (by omega) | exact ab_dI6 (by assumption) (by omega) (by omega) | fail) only [i94_0, i94_1, i94_4, i94_6, i94_9, i94_10, i94_12, i94_15, i94_18, i94_19, i94_22, i94_23, i94_24, i94_27, i94_28, i94_31, i94_32, i94_33, i94_34, i94_37, i94_40, i94_41, i94_42, i94_45, i94_46, i94_47, i94_50, i94_51, i94_53, i94_56, i94_59, i94_60, i94_63, i94_64, i94_67, i94_70, i94_71, i94_72, i94_73, i94_74, i94_77, i94_78, i94_79, i94_80, i94_83, i94_86, i94_87, i94_88, i94_91, i94_92, i94_93, i94_96, ab_isA_rf, ab_clr_int, ab_clr_ref, ab_clr_null, ab_clr_rf, ab_clr_nov, ab_clr_long, ab_clr_dbl, ab_rf_some, ab_rf_none, ab_hi_S, ab_hr_S, ab_hl_S, ab_sh_S, ab_setI_S, ab_setR_S, ab_setL_S, ab_thr_S, ab_K_ret, ab_K_void, List.length_cons, List.length_nil, Nat.reduceAdd, Nat.reduceMul, ite_not, reduceIte, ab_nadd, ab_nmul, ab_nsub, ab_nclamp, ab_nlt, ab_nle, ab_neq, ab_nlt0, ab_n0lt, ab_nle0, ab_nle00, ab_neq0, ab_nm1, ab_m1n, ab_m1lt, ab_nltm1, ab_nlem1, ab_m1le, ab_m1lt0, ab_0lem1, ab_m1eq0, ab_m1eqm1, ab_ltT, ab_ltF, ab_leT, ab_leF, ab_eqT, ab_eqF, ab_b0, ab_not_true, ab_not_false, ab_u_at, ab_u_ne, ab_u_eq, Nat.add_zero, Nat.zero_add, g1, g2, ab_mr_at, ab_mr_ne, ab_sv_ne, ab_mr_un, e]
    exact ih (i + 1) (by omega)
def PicS (f : Nat → Nat → Int32) (M n : Nat) (zs : Nat → Nat → Int32) : Prop := f M 3 = nI n ∧ n ≤ 6 ∧ ∀ k, k < n → ∀ j, j < 360 → f (M + 2) (k * 360 + j) = zs k j
theorem t_msave_at {n : Nat} {zs : Nat → Nat → Int32} (sk : SkM (ab_sh h) g M) (p : PicS f M n zs) (hn6 : n < 6) (hQ : ∀ f', PicS f' M (n + 1) (fun i => if i = n then Z else zs i) → (∀ b j, b ≠ M + 2 → b ≠ M ∨ j ≠ 3 → f' b j = f b j) → Q (.inl none) (ab_S h (ab_mr f' (M + 1) Z) g l)) :
    wp 94 52 [.ref M, .int (nI 0)] [] (ab_S h (ab_mr f (M + 1) Z) g l) Q := by
  obtain ⟨p1, p2, p3⟩ := p
  have e := t_msave2 (f := f) (Z := Z) (l := l) (Q := Q) sk p1 hn6 360 0 (by omega)
  have e0 : ab_sw f (M + 2) Z n 0 = f := by
    funext b j
    exact ab_sw_ne (by omega)
  rw [e0] at e
  rw [e]
  refine hQ _ ⟨ab_u_at _ _ _ _, by omega, fun k hk j hj => ?_⟩ (fun b j hb hb2 => ?_)
  · rw [ab_u_ne (by omega)]
    dsimp only
    by_cases hkn : k = n
    · rw [if_pos hkn]
      unfold ab_sw
      rw [if_pos (by omega), show k * 360 + j - n * 360 = j by omega]
    · rw [if_neg hkn, ab_sw_ne (by omega)]
      exact p3 k (by omega) j hj
  · rw [ab_u_ne (by omega), ab_sw_ne (by omega)]
theorem t_msave {n : Nat} {zs : Nat → Nat → Int32} (sk : SkM (ab_sh h) g M) (p : PicS f M n zs) (hQ : ∀ f', PicS f' M (pushN n) (pushZ n zs Z) → (∀ b j, b ≠ M + 2 → b ≠ M ∨ j ≠ 3 → f' b j = f b j) → Q (.inl none) (ab_S h (ab_mr f' (M + 1) Z) g l)) :
    wp 94 0 [.ref M, ab_nov] [] (ab_S h (ab_mr f (M + 1) Z) g l) Q := by
  have s0 := sk.1
  obtain ⟨p1, p2, p3⟩ := p
  by_cases h6 : n = 6
  · subst h6
    have hgo : wp 94 52 [.ref M, .int (nI 0)] [] (ab_S h (ab_mr (ab_u (ab_sv f (M + 2) 1800) M 3 (nI 5)) (M + 1) Z) g l) Q := by
      refine t_msave_at (n := 5) (zs := fun i => zs (i + 1)) sk ⟨ab_u_at _ _ _ _, by omega, fun k hk j hj => ?_⟩ (by omega) (fun f1 q1 q2 => ?_)
      · rw [ab_u_ne (by omega), ab_sv_at (by omega), show k * 360 + j + 360 = (k + 1) * 360 + j by omega]
        exact p3 (k + 1) (by omega) j hj
      · refine hQ f1 q1 (fun b j hb hb2 => (q2 b j hb hb2).trans ?_)
        rw [ab_u_ne (by omega), ab_sv_ne (by omega)]
    have e := t_msave1 (f := f) (Z := Z) (l := l) (Q := Q) sk p1 rfl 1800 0 (by omega)
    have e0 : ab_sv f (M + 2) 0 = f := by
      funext b j
      exact ab_sv_ne (by omega)
    rw [e0] at e
    simp (disch := first | assumption | exact id rfl | omega | exact ab_dK (by assumption) | exact ab_dL (by assumption) (by omega) | exact ab_dI (by assumption) (by omega) (by omega) | exact ab_dIs (by assumption) (by omega) (by omega) | exact ab_isA_rf _ | exact nI_ne0 (by omega) (by omega) | exact Nat.le_of_ble_eq_true rfl | exact ab_dA (by assumption) (by omega) (by omega) (by omega) | exact id (Or.inl rfl) | exact id (Or.inr rfl) | exact ab_b01 | exact ab_dJ (by assumption) (by omega) (by omega) | exact ab_dI6 (by assumption) (by omega) (by omega) | fail) only [i94_0, i94_1, i94_4, i94_6, i94_9, i94_10, ab_isA_rf, ab_clr_int, ab_clr_ref, ab_clr_null, ab_clr_rf, ab_clr_nov, ab_clr_long, ab_clr_dbl, ab_rf_some, ab_rf_none, ab_hi_S, ab_hr_S, ab_hl_S, ab_sh_S, ab_setI_S, ab_setR_S, ab_setL_S, ab_thr_S, ab_K_ret, ab_K_void, List.length_cons, List.length_nil, Nat.reduceAdd, Nat.reduceMul, ite_not, reduceIte, ab_nadd, ab_nmul, ab_nsub, ab_nclamp, ab_nlt, ab_nle, ab_neq, ab_nlt0, ab_n0lt, ab_nle0, ab_nle00, ab_neq0, ab_nm1, ab_m1n, ab_m1lt, ab_nltm1, ab_nlem1, ab_m1le, ab_m1lt0, ab_0lem1, ab_m1eq0, ab_m1eqm1, ab_ltT, ab_ltF, ab_leT, ab_leF, ab_eqT, ab_eqF, ab_b0, ab_not_true, ab_not_false, ab_u_at, ab_u_ne, ab_u_eq, Nat.add_zero, Nat.zero_add, ab_mr_ne, p1]
    rw [e]
    exact hgo
  · have h6' : n < 6 := by omega
    simp (disch := first | assumption | exact id rfl | omega | exact ab_dK (by assumption) | exact ab_dL (by assumption) (by omega) | exact ab_dI (by assumption) (by omega) (by omega) | exact ab_dIs (by assumption) (by omega) (by omega) | exact ab_isA_rf _ | exact nI_ne0 (by omega) (by omega) | exact Nat.le_of_ble_eq_true rfl | exact ab_dA (by assumption) (by omega) (by omega) (by omega) | exact id (Or.inl rfl) | exact id (Or.inr rfl) | exact ab_b01 | exact ab_dJ (by assumption) (by omega) (by omega) | exact ab_dI6 (by assumption) (by omega) (by omega) | fail) only [i94_0, i94_1, i94_4, i94_6, i94_50, i94_51, ab_isA_rf, ab_clr_int, ab_clr_ref, ab_clr_null, ab_clr_rf, ab_clr_nov, ab_clr_long, ab_clr_dbl, ab_rf_some, ab_rf_none, ab_hi_S, ab_hr_S, ab_hl_S, ab_sh_S, ab_setI_S, ab_setR_S, ab_setL_S, ab_thr_S, ab_K_ret, ab_K_void, List.length_cons, List.length_nil, Nat.reduceAdd, Nat.reduceMul, ite_not, reduceIte, ab_nadd, ab_nmul, ab_nsub, ab_nclamp, ab_nlt, ab_nle, ab_neq, ab_nlt0, ab_n0lt, ab_nle0, ab_nle00, ab_neq0, ab_nm1, ab_m1n, ab_m1lt, ab_nltm1, ab_nlem1, ab_m1le, ab_m1lt0, ab_0lem1, ab_m1eq0, ab_m1eqm1, ab_ltT, ab_ltF, ab_leT, ab_leF, ab_eqT, ab_eqF, ab_b0, ab_not_true, ab_not_false, ab_u_at, ab_u_ne, ab_u_eq, Nat.add_zero, Nat.zero_add, ab_mr_ne, p1]
    refine t_msave_at sk ⟨p1, p2, p3⟩ h6' (fun f1 q1 q2 => hQ f1 ?_ q2)
    unfold pushN pushZ
    rw [if_neg h6, if_neg h6]
    exact q1
end AbSave
