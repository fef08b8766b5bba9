/-! SeamBeatsModel: growing, taking, a tick. -/
section AbMod2
variable {h : ab_Hp} {f f' f0 : Nat → Nat → Int32} {g g' g0 : Nat → Nat → Option Nat} {l l' l0 : Nat → Nat → Int64} {Q : ab_O → ab_Hp → Prop} {M : Nat} {Z z : Nat → Int32}
/-- the seam s, its ages before the place k grown -/
def ab_gp (Z : Nat → Int32) (s k : Nat) : Nat → Int32 := fun j => if 168 + 24 * s + 6 ≤ j ∧ j < 168 + 24 * s + 6 + 3 * k ∧ (j - 168) % 3 = 2 ∧ Z j < Z (168 + 24 * s + 3) then Z j + nI 1 else Z j
theorem ab_gp_ne {s k j : Nat} (h : ¬ (168 + 24 * s + 6 ≤ j ∧ j < 168 + 24 * s + 6 + 3 * k)) : ab_gp Z s k j = Z j := by unfold ab_gp; rw [if_neg (fun q => h ⟨q.1, q.2.1⟩)]
theorem ab_upd_self {k : Nat} {x : Int32} (hx : Z k = x) : upd Z k x = Z := by
  funext j
  unfold upd
  by_cases hj : j = k
  · rw [if_pos hj, hj, hx]
  · rw [if_neg hj]
set_option maxHeartbeats 8000000 in
theorem t_mgrow_in {i s n : Nat} {u : Value} (sk : SkM (ab_sh h) g M) (hi : i < 6) (hs : s < 8) (hon : Z (168 + 24 * s + 4) = nI n) (hn : n ≤ 6) (hto : Z (168 + 24 * s + 1) = nI i) : ∀ (c k : Nat) (u : Value), k + c = n →
    ∃ u', wp 108 14 [.ref M, .int (nI i), .int (nI s), .int (nI k), u] [] (ab_S h (ab_mr f (M + 1) (ab_gp Z s k)) g l) Q = wp 108 88 [.ref M, .int (nI i), .int (nI s), .int (nI n), u'] [] (ab_S h (ab_mr f (M + 1) (ab_gp Z s n)) g l) Q := by
  have s0 := sk.1
  intro c
  induction c with
  | zero =>
    intro k u hk
    have e : k = n := by omega
    subst e
    refine ⟨u, ?_⟩
    simp (disch := first | assumption | exact id rfl | omega | exact ab_dK (by assumption) | exact ab_dL (by assumption) (by omega) | exact ab_dI (by assumption) (by omega) (by omega) | exact ab_dIs (by assumption) (by omega) (by omega) | exact ab_isA_rf _ | exact nI_ne0 (by omega) (by omega) | exact Nat.le_of_ble_eq_true rfl | exact ab_dA (by assumption) (by omega) (by omega) (by omega) | exact id (Or.inl rfl) | exact id (Or.inr rfl) | exact ab_b01 | exact ab_dJ (by assumption) (by omega) (by omega) | exact ab_dI6 (by assumption) (by omega) (by omega) | fail) only [i108_14, i108_15, i108_16, i108_17, i108_18, i108_21, ab_isA_rf, ab_clr_int, ab_clr_ref, ab_clr_null, ab_clr_rf, ab_clr_nov, ab_clr_long, ab_clr_dbl, ab_rf_some, ab_rf_none, ab_hi_S, ab_hr_S, ab_hl_S, ab_sh_S, ab_setI_S, ab_setR_S, ab_setL_S, ab_thr_S, ab_K_ret, ab_K_void, List.length_cons, List.length_nil, Nat.reduceAdd, Nat.reduceMul, ite_not, reduceIte, ab_nadd, ab_nmul, ab_nsub, ab_nclamp, ab_nlt, ab_nle, ab_neq, ab_nlt0, ab_n0lt, ab_nle0, ab_nle00, ab_neq0, ab_nm1, ab_m1n, ab_m1lt, ab_nltm1, ab_nlem1, ab_m1le, ab_m1lt0, ab_0lem1, ab_m1eq0, ab_m1eqm1, ab_ltT, ab_ltF, ab_leT, ab_leF, ab_eqT, ab_eqF, ab_b0, ab_not_true, ab_not_false, ab_u_at, ab_u_ne, ab_u_eq, Nat.add_zero, Nat.zero_add, t_ofSeam sk, ab_gp_ne, hon]
  | succ c ih =>
    intro k u hk
    have e0 : ab_gp Z s k (168 + 24 * s + (6 + 3 * k + 2)) = Z (168 + 24 * s + (6 + 3 * k + 2)) := ab_gp_ne (by omega)
    obtain ⟨u', hu'⟩ := ih (k + 1) (.int (Z (168 + 24 * s + (6 + 3 * k + 2)))) (by omega)
    refine ⟨u', ?_⟩
    rw [← hu']
    by_cases hx : Z (168 + 24 * s + (6 + 3 * k + 2)) < Z (168 + 24 * s + 3)
    · have e1 : upd (ab_gp Z s k) (168 + 24 * s + (6 + 3 * k + 2)) (Z (168 + 24 * s + (6 + 3 * k + 2)) + nI 1) = ab_gp Z s (k + 1) := by
        funext j
        unfold upd ab_gp
        by_cases hj : j = 168 + 24 * s + (6 + 3 * k + 2)
        · rw [if_pos hj, if_pos ⟨by omega, by omega, by omega, by rw [hj]; exact hx⟩, hj]
        · rw [if_neg hj]
          have : (j < 168 + 24 * s + 6 + 3 * k ∧ (j - 168) % 3 = 2 ∧ Z j < Z (168 + 24 * s + 3)) = (j < 168 + 24 * s + 6 + 3 * (k + 1) ∧ (j - 168) % 3 = 2 ∧ Z j < Z (168 + 24 * s + 3)) := propext ⟨fun q => ⟨by omega, q.2⟩, fun q => ⟨by omega, q.2⟩⟩
          simp only [this]
      simp (disch := first | assumption | exact id rfl | omega | exact ab_dK (by assumption) | exact ab_dL (by assumption) (by omega) | exact ab_dI (by assumption) (by omega) (by omega) | exact ab_dIs (by assumption) (by omega) (by omega) | exact ab_isA_rf _ | exact nI_ne0 (by omega) (by omega) | exact Nat.le_of_ble_eq_true rfl | exact ab_dA (by assumption) (by omega) (by omega) (by omega) | exact id (Or.inl rfl) | exact id (Or.inr rfl) | exact ab_b01 | exact ab_dJ (by assumption) (by omega) (by omega) | exact ab_dI6 (by assumption) (by omega) (by omega) | fail) only [i108_14, i108_0, i108_1, i108_3, i108_4, i108_7, i108_8, i108_9, i108_12, i108_13, i108_15, i108_16, i108_17, i108_18, i108_21, i108_24, i108_25, i108_26, i108_27, i108_30, i108_31, i108_34, i108_35, i108_36, i108_38, i108_39, i108_40, i108_41, i108_42, i108_43, i108_44, i108_47, i108_49, i108_50, i108_51, i108_53, i108_54, i108_55, i108_56, i108_57, i108_58, i108_59, i108_61, i108_62, i108_63, i108_64, i108_67, i108_70, i108_72, i108_73, i108_74, i108_77, i108_79, i108_82, i108_85, i108_88, i108_91, i108_94, ab_isA_rf, ab_clr_int, ab_clr_ref, ab_clr_null, ab_clr_rf, ab_clr_nov, ab_clr_long, ab_clr_dbl, ab_rf_some, ab_rf_none, ab_hi_S, ab_hr_S, ab_hl_S, ab_sh_S, ab_setI_S, ab_setR_S, ab_setL_S, ab_thr_S, ab_K_ret, ab_K_void, List.length_cons, List.length_nil, Nat.reduceAdd, Nat.reduceMul, ite_not, reduceIte, ab_nadd, ab_nmul, ab_nsub, ab_nclamp, ab_nlt, ab_nle, ab_neq, ab_nlt0, ab_n0lt, ab_nle0, ab_nle00, ab_neq0, ab_nm1, ab_m1n, ab_m1lt, ab_nltm1, ab_nlem1, ab_m1le, ab_m1lt0, ab_0lem1, ab_m1eq0, ab_m1eqm1, ab_ltT, ab_ltF, ab_leT, ab_leF, ab_eqT, ab_eqF, ab_b0, ab_not_true, ab_not_false, ab_u_at, ab_u_ne, ab_u_eq, Nat.add_zero, Nat.zero_add, t_ofSeam sk, t_putSeam sk, ab_gp_ne, hon, hto, e0, ab_leFi hx, e1]
    · have e1 : upd (ab_gp Z s k) (168 + 24 * s + (6 + 3 * k + 2)) (Z (168 + 24 * s + (6 + 3 * k + 2))) = ab_gp Z s (k + 1) := by
        rw [ab_upd_self e0]
        funext j
        unfold ab_gp
        have : (j < 168 + 24 * s + 6 + 3 * k ∧ (j - 168) % 3 = 2 ∧ Z j < Z (168 + 24 * s + 3)) = (j < 168 + 24 * s + 6 + 3 * (k + 1) ∧ (j - 168) % 3 = 2 ∧ Z j < Z (168 + 24 * s + 3)) := propext ⟨fun q => ⟨by omega, q.2⟩, fun q => ⟨by
          by_cases hj : j = 168 + 24 * s + (6 + 3 * k + 2)
          · exact absurd (hj ▸ q.2.2) hx
          · omega, q.2⟩⟩
        sorry
      simp (disch := first | assumption | exact id rfl | omega | exact ab_dK (by assumption) | exact ab_dL (by assumption) (by omega) | exact ab_dI (by assumption) (by omega) (by omega) | exact ab_dIs (by assumption) (by omega) (by omega) | exact ab_isA_rf _ | exact nI_ne0 (by omega) (by omega) | exact Nat.le_of_ble_eq_true rfl | exact ab_dA (by assumption) (by omega) (by omega) (by omega) | exact id (Or.inl rfl) | exact id (Or.inr rfl) | exact ab_b01 | exact ab_dJ (by assumption) (by omega) (by omega) | exact ab_dI6 (by assumption) (by omega) (by omega) | fail) only [i108_14, i108_0, i108_1, i108_3, i108_4, i108_7, i108_8, i108_9, i108_12, i108_13, i108_15, i108_16, i108_17, i108_18, i108_21, i108_24, i108_25, i108_26, i108_27, i108_30, i108_31, i108_34, i108_35, i108_36, i108_38, i108_39, i108_40, i108_41, i108_42, i108_43, i108_44, i108_47, i108_49, i108_50, i108_51, i108_53, i108_54, i108_55, i108_56, i108_57, i108_58, i108_59, i108_61, i108_62, i108_63, i108_64, i108_67, i108_70, i108_72, i108_73, i108_74, i108_77, i108_79, i108_82, i108_85, i108_88, i108_91, i108_94, ab_isA_rf, ab_clr_int, ab_clr_ref, ab_clr_null, ab_clr_rf, ab_clr_nov, ab_clr_long, ab_clr_dbl, ab_rf_some, ab_rf_none, ab_hi_S, ab_hr_S, ab_hl_S, ab_sh_S, ab_setI_S, ab_setR_S, ab_setL_S, ab_thr_S, ab_K_ret, ab_K_void, List.length_cons, List.length_nil, Nat.reduceAdd, Nat.reduceMul, ite_not, reduceIte, ab_nadd, ab_nmul, ab_nsub, ab_nclamp, ab_nlt, ab_nle, ab_neq, ab_nlt0, ab_n0lt, ab_nle0, ab_nle00, ab_neq0, ab_nm1, ab_m1n, ab_m1lt, ab_nltm1, ab_nlem1, ab_m1le, ab_m1lt0, ab_0lem1, ab_m1eq0, ab_m1eqm1, ab_ltT, ab_ltF, ab_leT, ab_leF, ab_eqT, ab_eqF, ab_b0, ab_not_true, ab_not_false, ab_u_at, ab_u_ne, ab_u_eq, Nat.add_zero, Nat.zero_add, t_ofSeam sk, t_putSeam sk, ab_gp_ne, hon, hto, e0, ab_leTi hx, e1]
end AbMod2
