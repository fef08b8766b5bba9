/-! SeamBeatsModel is made. -/
section AbMini
variable {h : ab_Hp} {f f' f0 : Nat → Nat → Int32} {g g' : Nat → Nat → Option Nat} {l l' : Nat → Nat → Int64} {Q : ab_O → ab_Hp → Prop} {X M b L i n n' tn tn' : Nat} {xs z z' Z Z' : Nat → Int32} {zs zs' : Nat → Nat → Int32} {cs cs' : Nat → Nat} {s : Nat → Nat × Nat} {u5 u6 u7 u8 : Value}
theorem PicB.same2 {s' : Nat → Nat × Nat} (B : PicB s f g X z n zs tn cs) (hs : ∀ b, X ≤ b → b < X + 365 → s' b = s b) (hf : ∀ b, X ≤ b → b < X + 365 → ∀ j, f' b j = f b j) (hg : ∀ b, X ≤ b → b < X + 365 → ∀ j, g' b j = g b j) : PicB s' f' g' X z n zs tn cs := by
  obtain ⟨⟨s0, g0, g1, g2, g3⟩, sk1, sk2, ⟨px, v⟩, ph, pt⟩ := B
  exact ⟨⟨(hs _ (by omega) (by omega)).trans s0, (hg _ (by omega) (by omega) _).trans g0, (hg _ (by omega) (by omega) _).trans g1, (hg _ (by omega) (by omega) _).trans g2, (hg _ (by omega) (by omega) _).trans g3⟩, sk1.same2 (fun b h1 h2 => hs b (by omega) (by omega)) (fun b h1 h2 j => hg b (by omega) (by omega) j), sk2.same2 (fun b h1 h2 => hs b (by omega) (by omega)) (fun b h1 h2 j => hg b (by omega) (by omega) j), ⟨px.same v (fun b h1 h2 j => hf b (by omega) (by omega) j), v⟩, ph.same (fun b h1 h2 => hs b (by omega) (by omega)) (fun b h1 h2 j => hf b (by omega) (by omega) j) (fun b h1 h2 j => hg b (by omega) (by omega) j), pt.same (fun b h1 h2 => hs b (by omega) (by omega)) (fun b h1 h2 j => hf b (by omega) (by omega) j) (fun b h1 h2 j => hg b (by omega) (by omega) j)⟩
def ab_zi (i : Nat) : Nat → Int32 := fun j => if j < 6 + 27 * i then ab_z0 j else nI 0
theorem ab_zi_six : ab_zi 6 = ab_z0 := by
  funext j
  unfold ab_zi
  by_cases hj : j < 6 + 27 * 6
  · rw [if_pos hj]
  · rw [if_neg hj, ab_z0_late (by omega)]
theorem ab_zi_step {i : Nat} (hi : i < 6) : upd (upd (upd (upd (upd (ab_zi i) (6 + 27 * i) (nI 1)) (6 + 27 * i + 2) (nI 1)) (6 + 27 * i + 3) (-1)) (6 + 27 * i + 9) (-1)) (6 + 27 * i + 10) (-1) = ab_zi (i + 1) := by
  funext j
  by_cases hj : 6 + 27 * i ≤ j ∧ j < 6 + 27 * i + 27
  · obtain ⟨k, rfl⟩ : ∃ k, j = 6 + 27 * i + k := ⟨j - (6 + 27 * i), by omega⟩
    have e : ab_zi (i + 1) (6 + 27 * i + k) = ab_z0 (6 + 27 * i + k) := if_pos (by omega)
    have e2 : ab_zi i (6 + 27 * i + k) = nI 0 := if_neg (by omega)
    rw [e, ab_z0_room hi (by omega)]
    by_cases h0 : k = 0
    · subst h0
      rw [ab_upd_ne (by omega), ab_upd_ne (by omega), ab_upd_ne (by omega), ab_upd_ne (by omega), ab_upd_eq (by omega)]
      rfl
    · by_cases h2 : k = 2
      · subst h2
        rw [ab_upd_ne (by omega), ab_upd_ne (by omega), ab_upd_ne (by omega), ab_upd_eq (by omega)]
        rfl
      · by_cases h3 : k = 3
        · subst h3
          rw [ab_upd_ne (by omega), ab_upd_ne (by omega), ab_upd_eq (by omega)]
          rfl
        · by_cases h9 : k = 9
          · subst h9
            rw [ab_upd_ne (by omega), ab_upd_eq (by omega)]
            rfl
          · by_cases h10 : k = 10
            · subst h10
              rw [ab_upd_eq (by omega)]
              rfl
            · rw [ab_upd_ne (by omega), ab_upd_ne (by omega), ab_upd_ne (by omega), ab_upd_ne (by omega), ab_upd_ne (by omega), e2, if_neg h0, if_neg h2, if_neg h3, if_neg h9, if_neg h10]
  · rw [ab_upd_ne (by omega), ab_upd_ne (by omega), ab_upd_ne (by omega), ab_upd_ne (by omega), ab_upd_ne (by omega)]
    unfold ab_zi
    by_cases h1 : j < 6 + 27 * i
    · rw [if_pos h1, if_pos (by omega)]
    · rw [if_neg h1, if_neg (by omega)]
theorem t_mini_loop (m0 : ab_sh h M = (17, 0)) (m1 : g M 1 = some (M + 1)) (ms1 : ab_sh h (M + 1) = (1, 360)) : ∀ (c i : Nat), i + c = 6 →
    wp 85 56 [.ref M, .int (nI i)] [] (ab_S h (ab_mr f (M + 1) (ab_zi i)) g l) Q = Q (.inl none) (ab_S h (ab_mr f (M + 1) ab_z0) g l) := by
  intro c
  induction c with
  | zero =>
    intro i hi
    have e : i = 6 := by omega
    subst e
    rw [ab_zi_six]
    simp (disch := first | with_reducible assumption | exact ab_dK (by with_reducible assumption) | exact id rfl | exact Nat.le_of_ble_eq_true rfl | exact ab_dL (by with_reducible assumption) (by omega) | exact ab_dI (by with_reducible assumption) (by omega) (by omega) | exact ab_dI6 (by with_reducible assumption) (by omega) (by omega) | exact ab_dIs (by with_reducible assumption) (by omega) (by omega) | exact ab_dJ (by with_reducible assumption) (by omega) (by omega) | omega | exact ab_isA_rf _ | exact nI_ne0 (by omega) (by omega) | exact ab_dA (by with_reducible assumption) (by omega) (by omega) (by omega) | exact id (Or.inl rfl) | exact id (Or.inr rfl) | exact ab_b01 | fail) only [i85_56, ab_isA_rf, ab_clr_int, ab_clr_ref, ab_clr_null, ab_clr_rf, ab_clr_nov, ab_clr_long, ab_clr_dbl, ab_rf_some, ab_rf_none, ab_hi_S, ab_hr_S, ab_hl_S, ab_sh_S, ab_setI_S, ab_setR_S, ab_setL_S, ab_thr_S, ab_K_ret, ab_K_void, List.length_cons, List.length_nil, Nat.reduceAdd, Nat.reduceMul, ↓reduceIte, ↓Nat.reduceLT, ↓Nat.reduceLeDiff, ↓Nat.reduceEqDiff, ab_nadd, ab_nmul, ab_nsub, ab_nclamp, ab_nlt, ab_nle, ab_neq, ab_nlt0, ab_n0lt, ab_nle0, ab_nle00, ab_neq0, ab_nm1, ab_m1n, ab_m1lt, ab_nltm1, ab_nlem1, ab_m1le, ab_m1lt0, ab_0lem1, ab_m1eq0, ab_m1eqm1, ab_ltT, ab_ltF, ab_leT, ab_leF, ab_eqT, ab_eqF, ab_b0, ab_not_true, ab_not_false, ab_u_at, ab_u_ne, ab_u_eq, Nat.add_zero, Nat.zero_add]
    simp (disch := first | with_reducible assumption | exact ab_dK (by with_reducible assumption) | exact id rfl | exact Nat.le_of_ble_eq_true rfl | exact ab_dL (by with_reducible assumption) (by omega) | exact ab_dI (by with_reducible assumption) (by omega) (by omega) | exact ab_dI6 (by with_reducible assumption) (by omega) (by omega) | exact ab_dIs (by with_reducible assumption) (by omega) (by omega) | exact ab_dJ (by with_reducible assumption) (by omega) (by omega) | omega | exact ab_isA_rf _ | exact nI_ne0 (by omega) (by omega) | exact ab_dA (by with_reducible assumption) (by omega) (by omega) (by omega) | exact id (Or.inl rfl) | exact id (Or.inr rfl) | exact ab_b01 | fail) only [i85_0, i85_1, i85_4, i85_5, i85_8, i85_10, i85_13, i85_14, i85_17, i85_19, i85_22, i85_23, i85_26, i85_28, i85_31, i85_32, i85_34, i85_36, i85_39, i85_40, i85_42, i85_44, i85_47, i85_48, i85_51, i85_52, i85_53, i85_54, i85_55, i85_57, i85_59, i85_62, i85_63, i85_64, i85_65, i85_66, i85_69, i85_70, i85_71, i85_72, i85_73, i85_76, i85_77, i85_78, i85_79, i85_80, i85_83, i85_84, i85_85, i85_87, i85_88, i85_91, i85_92, i85_93, i85_95, i85_96, i85_99, i85_102, i85_105, ab_isA_rf, ab_clr_int, ab_clr_ref, ab_clr_null, ab_clr_rf, ab_clr_nov, ab_clr_long, ab_clr_dbl, ab_rf_some, ab_rf_none, ab_hi_S, ab_hr_S, ab_hl_S, ab_sh_S, ab_setI_S, ab_setR_S, ab_setL_S, ab_thr_S, ab_K_ret, ab_K_void, List.length_cons, List.length_nil, Nat.reduceAdd, Nat.reduceMul, ↓reduceIte, ↓Nat.reduceLT, ↓Nat.reduceLeDiff, ↓Nat.reduceEqDiff, ab_nadd, ab_nmul, ab_nsub, ab_nclamp, ab_nlt, ab_nle, ab_neq, ab_nlt0, ab_n0lt, ab_nle0, ab_nle00, ab_neq0, ab_nm1, ab_m1n, ab_m1lt, ab_nltm1, ab_nlem1, ab_m1le, ab_m1lt0, ab_0lem1, ab_m1eq0, ab_m1eqm1, ab_ltT, ab_ltF, ab_leT, ab_leF, ab_eqT, ab_eqF, ab_b0, ab_not_true, ab_not_false, ab_u_at, ab_u_ne, ab_u_eq, Nat.add_zero, Nat.zero_add]
  | succ c ih =>
    intro i hi
    have ih' := ih (i + 1) (by omega)
    have e := ab_zi_step (i := i) (by omega)
    simp (disch := first | with_reducible assumption | exact ab_dK (by with_reducible assumption) | exact id rfl | exact Nat.le_of_ble_eq_true rfl | exact ab_dL (by with_reducible assumption) (by omega) | exact ab_dI (by with_reducible assumption) (by omega) (by omega) | exact ab_dI6 (by with_reducible assumption) (by omega) (by omega) | exact ab_dIs (by with_reducible assumption) (by omega) (by omega) | exact ab_dJ (by with_reducible assumption) (by omega) (by omega) | omega | exact ab_isA_rf _ | exact nI_ne0 (by omega) (by omega) | exact ab_dA (by with_reducible assumption) (by omega) (by omega) (by omega) | exact id (Or.inl rfl) | exact id (Or.inr rfl) | exact ab_b01 | fail) only [i85_56, ab_isA_rf, ab_clr_int, ab_clr_ref, ab_clr_null, ab_clr_rf, ab_clr_nov, ab_clr_long, ab_clr_dbl, ab_rf_some, ab_rf_none, ab_hi_S, ab_hr_S, ab_hl_S, ab_sh_S, ab_setI_S, ab_setR_S, ab_setL_S, ab_thr_S, ab_K_ret, ab_K_void, List.length_cons, List.length_nil, Nat.reduceAdd, Nat.reduceMul, ↓reduceIte, ↓Nat.reduceLT, ↓Nat.reduceLeDiff, ↓Nat.reduceEqDiff, ab_nadd, ab_nmul, ab_nsub, ab_nclamp, ab_nlt, ab_nle, ab_neq, ab_nlt0, ab_n0lt, ab_nle0, ab_nle00, ab_neq0, ab_nm1, ab_m1n, ab_m1lt, ab_nltm1, ab_nlem1, ab_m1le, ab_m1lt0, ab_0lem1, ab_m1eq0, ab_m1eqm1, ab_ltT, ab_ltF, ab_leT, ab_leF, ab_eqT, ab_eqF, ab_b0, ab_not_true, ab_not_false, ab_u_at, ab_u_ne, ab_u_eq, Nat.add_zero, Nat.zero_add]
    simp (disch := first | with_reducible assumption | exact ab_dK (by with_reducible assumption) | exact id rfl | exact Nat.le_of_ble_eq_true rfl | exact ab_dL (by with_reducible assumption) (by omega) | exact ab_dI (by with_reducible assumption) (by omega) (by omega) | exact ab_dI6 (by with_reducible assumption) (by omega) (by omega) | exact ab_dIs (by with_reducible assumption) (by omega) (by omega) | exact ab_dJ (by with_reducible assumption) (by omega) (by omega) | omega | exact ab_isA_rf _ | exact nI_ne0 (by omega) (by omega) | exact ab_dA (by with_reducible assumption) (by omega) (by omega) (by omega) | exact id (Or.inl rfl) | exact id (Or.inr rfl) | exact ab_b01 | fail) only [i85_0, i85_1, i85_4, i85_5, i85_8, i85_10, i85_13, i85_14, i85_17, i85_19, i85_22, i85_23, i85_26, i85_28, i85_31, i85_32, i85_34, i85_36, i85_39, i85_40, i85_42, i85_44, i85_47, i85_48, i85_51, i85_52, i85_53, i85_54, i85_55, i85_57, i85_59, i85_62, i85_63, i85_64, i85_65, i85_66, i85_69, i85_70, i85_71, i85_72, i85_73, i85_76, i85_77, i85_78, i85_79, i85_80, i85_83, i85_84, i85_85, i85_87, i85_88, i85_91, i85_92, i85_93, i85_95, i85_96, i85_99, i85_102, i85_105, ab_isA_rf, ab_clr_int, ab_clr_ref, ab_clr_null, ab_clr_rf, ab_clr_nov, ab_clr_long, ab_clr_dbl, ab_rf_some, ab_rf_none, ab_hi_S, ab_hr_S, ab_hl_S, ab_sh_S, ab_setI_S, ab_setR_S, ab_setL_S, ab_thr_S, ab_K_ret, ab_K_void, List.length_cons, List.length_nil, Nat.reduceAdd, Nat.reduceMul, ↓reduceIte, ↓Nat.reduceLT, ↓Nat.reduceLeDiff, ↓Nat.reduceEqDiff, ab_nadd, ab_nmul, ab_nsub, ab_nclamp, ab_nlt, ab_nle, ab_neq, ab_nlt0, ab_n0lt, ab_nle0, ab_nle00, ab_neq0, ab_nm1, ab_m1n, ab_m1lt, ab_nltm1, ab_nlem1, ab_m1le, ab_m1lt0, ab_0lem1, ab_m1eq0, ab_m1eqm1, ab_ltT, ab_ltF, ab_leT, ab_leF, ab_eqT, ab_eqF, ab_b0, ab_not_true, ab_not_false, ab_u_at, ab_u_ne, ab_u_eq, Nat.add_zero, Nat.zero_add, i91_0, i91_1, i91_4, i91_6, i91_8, i91_9, i91_10, i91_11, i91_12, i91_13, i91_14, i91_15, m1, ab_mr_u, e]
    exact ih'
set_option maxRecDepth 8000 in
set_option maxHeartbeats 4000000 in
theorem t_mini (m0 : ab_sh h M = (17, 0)) (hN : ab_nx h = M + 1) (hz : ∀ j, f M j = nI 0) (hQ : ∀ h' f' g', Grew h h' 5 3004 → PicM (ab_sh h') g' f' M ab_z0 0 zs 0 cs → (∀ b, b < M → ∀ j, f' b j = f b j ∧ g' b j = g b j) → ∀ l', Q (.inl none) (ab_S h' f' g' l')) :
    wp 85 0 [.ref M, ab_nov] [] (ab_S h f g l) Q := by
  have hN0 : M + 1 ≠ 0 := by omega
  obtain ⟨h1, e1⟩ : ∃ h1, h1 = ab_nw h 1 360 360 := ⟨_, rfl⟩
  obtain ⟨h2, e2⟩ : ∃ h2, h2 = ab_nw h1 1 2160 2160 := ⟨_, rfl⟩
  obtain ⟨h3, e3⟩ : ∃ h3, h3 = ab_nw h2 1 360 360 := ⟨_, rfl⟩
  obtain ⟨h4, e4⟩ : ∃ h4, h4 = ab_nw h3 1 60 60 := ⟨_, rfl⟩
  obtain ⟨h5, e5⟩ : ∃ h5, h5 = ab_nw h4 1 64 64 := ⟨_, rfl⟩
  have n1 : ab_nx h1 = M + 1 + 1 := by rw [e1]; exact ab_nx_nw hN
  have n2 : ab_nx h2 = M + 1 + 1 + 1 := by rw [e2]; exact ab_nx_nw n1
  have n3 : ab_nx h3 = M + 1 + 1 + 1 + 1 := by rw [e3]; exact ab_nx_nw n2
  have n4 : ab_nx h4 = M + 1 + 1 + 1 + 1 + 1 := by rw [e4]; exact ab_nx_nw n3
  have s1 : ∀ b, b ≠ M + 1 → ab_sh h1 b = ab_sh h b := fun b hb => by rw [e1]; exact ab_sh_nw_ne hN hb
  have s2 : ∀ b, b ≠ M + 2 → ab_sh h2 b = ab_sh h1 b := fun b hb => by rw [e2]; exact ab_sh_nw_ne n1 hb
  have s3 : ∀ b, b ≠ M + 3 → ab_sh h3 b = ab_sh h2 b := fun b hb => by rw [e3]; exact ab_sh_nw_ne n2 hb
  have s4 : ∀ b, b ≠ M + 4 → ab_sh h4 b = ab_sh h3 b := fun b hb => by rw [e4]; exact ab_sh_nw_ne n3 hb
  have s5 : ∀ b, b ≠ M + 5 → ab_sh h5 b = ab_sh h4 b := fun b hb => by rw [e5]; exact ab_sh_nw_ne n4 hb
  have k1 : ab_sh h1 M = (17, 0) := (s1 M (by omega)).trans m0
  have k2 : ab_sh h2 M = (17, 0) := (s2 M (by omega)).trans k1
  have k3 : ab_sh h3 M = (17, 0) := (s3 M (by omega)).trans k2
  have k4 : ab_sh h4 M = (17, 0) := (s4 M (by omega)).trans k3
  have k5 : ab_sh h5 M = (17, 0) := (s5 M (by omega)).trans k4
  have t1 : ab_sh h1 (M + 1) = (1, 360) := by rw [e1]; exact ab_sh_nw_at hN
  have t2 : ab_sh h2 (M + 2) = (1, 2160) := by rw [e2]; exact ab_sh_nw_at n1
  have t3 : ab_sh h3 (M + 3) = (1, 360) := by rw [e3]; exact ab_sh_nw_at n2
  have t4 : ab_sh h4 (M + 4) = (1, 60) := by rw [e4]; exact ab_sh_nw_at n3
  have t5 : ab_sh h5 (M + 5) = (1, 64) := by rw [e5]; exact ab_sh_nw_at n4
  have u1 : ab_sh h5 (M + 1) = (1, 360) := (s5 _ (by omega)).trans ((s4 _ (by omega)).trans ((s3 _ (by omega)).trans ((s2 _ (by omega)).trans t1)))
  have u2 : ab_sh h5 (M + 2) = (1, 2160) := (s5 _ (by omega)).trans ((s4 _ (by omega)).trans ((s3 _ (by omega)).trans t2))
  have u3 : ab_sh h5 (M + 3) = (1, 360) := (s5 _ (by omega)).trans ((s4 _ (by omega)).trans t3)
  have u4 : ab_sh h5 (M + 4) = (1, 60) := (s5 _ (by omega)).trans t4
  have G : Grew h h5 5 3004 := by
    rw [e5, e4, e3, e2, e1]
    exact ((((Grew.new (h := h) (kd := 1) (n := 360) (w := 360)).trans (Grew.new (kd := 1) (n := 2160) (w := 2160))).trans (Grew.new (kd := 1) (n := 360) (w := 360))).trans (Grew.new (kd := 1) (n := 60) (w := 60))).trans (Grew.new (kd := 1) (n := 64) (w := 64))
  obtain ⟨f5, ef⟩ : ∃ f5, f5 = ab_zf (ab_zf (ab_zf (ab_zf (ab_zf f (M + 1)) (M + 2)) (M + 3)) (M + 4)) (M + 5) := ⟨_, rfl⟩
  obtain ⟨g5, eg⟩ : ∃ g5, g5 = ab_u (ab_zg (ab_u (ab_zg (ab_u (ab_zg (ab_u (ab_zg (ab_u (ab_zg g (M + 1)) M 1 (some (M + 1))) (M + 2)) M 2 (some (M + 2))) (M + 3)) M 4 (some (M + 3))) (M + 4)) M 5 (some (M + 4))) (M + 5)) M 7 (some (M + 5)) := ⟨_, rfl⟩
  have f5z : ∀ j, f5 (M + 1) j = nI 0 := fun j => by
    rw [ef, ab_zf_ne (by omega), ab_zf_ne (by omega), ab_zf_ne (by omega), ab_zf_ne (by omega), ab_zf_at rfl]
    rfl
  have f5k : ∀ b, b < M + 1 → ∀ j, f5 b j = f b j := fun b hb j => by
    rw [ef, ab_zf_ne (by omega), ab_zf_ne (by omega), ab_zf_ne (by omega), ab_zf_ne (by omega), ab_zf_ne (by omega)]
  have g5k : ∀ b, b < M → ∀ j, g5 b j = g b j := fun b hb j => by
    rw [eg]
    rw [ab_u_ne (by omega), ab_zg_ne (by omega), ab_u_ne (by omega), ab_zg_ne (by omega), ab_u_ne (by omega), ab_zg_ne (by omega), ab_u_ne (by omega), ab_zg_ne (by omega), ab_u_ne (by omega), ab_zg_ne (by omega)]
  have w7 : g5 M 7 = some (M + 5) := by rw [eg]; exact ab_u_at _ _ _ _
  have w5 : g5 M 5 = some (M + 4) := by rw [eg, ab_u_ne (by omega), ab_zg_ne (by omega)]; exact ab_u_at _ _ _ _
  have w4 : g5 M 4 = some (M + 3) := by rw [eg, ab_u_ne (by omega), ab_zg_ne (by omega), ab_u_ne (by omega), ab_zg_ne (by omega)]; exact ab_u_at _ _ _ _
  have w2 : g5 M 2 = some (M + 2) := by rw [eg, ab_u_ne (by omega), ab_zg_ne (by omega), ab_u_ne (by omega), ab_zg_ne (by omega), ab_u_ne (by omega), ab_zg_ne (by omega)]; exact ab_u_at _ _ _ _
  have w1 : g5 M 1 = some (M + 1) := by rw [eg, ab_u_ne (by omega), ab_zg_ne (by omega), ab_u_ne (by omega), ab_zg_ne (by omega), ab_u_ne (by omega), ab_zg_ne (by omega), ab_u_ne (by omega), ab_zg_ne (by omega)]; exact ab_u_at _ _ _ _
  have er : ab_u f5 (M + 1) 4 (-1) = ab_mr f5 (M + 1) (ab_zi 0) := by
    funext b j
    unfold ab_u ab_mr
    by_cases hb : b = M + 1
    · rw [if_pos hb]
      by_cases hj : j = 4
      · rw [if_pos ⟨hb, hj⟩, hj]
        rfl
      · rw [if_neg (fun q => hj q.2), hb, f5z]
        unfold ab_zi
        by_cases h6 : j < 6 + 27 * 0
        · rw [if_pos h6]
          unfold ab_z0
          rw [if_neg hj, if_neg (by omega)]
        · rw [if_neg h6]
    · rw [if_neg (fun q => hb q.1), if_neg hb]
  have hl := fun (l' : Nat → Nat → Int64) => t_mini_loop (h := h5) (f := f5) (g := g5) (l := l') (Q := Q) k5 w1 u1 6 0 (by omega)
  have hq : ∀ l', Q (.inl none) (ab_S h5 (ab_mr f5 (M + 1) ab_z0) g5 l') := hQ h5 _ g5 G ⟨⟨k5, w1, w2, w4, w5, w7, u1, u2, u3, u4, t5⟩, fun j => ab_mr_at, ⟨(ab_mr_ne (by omega)).trans ((f5k _ (by omega) _).trans (hz _)), by omega, fun k hk => by omega⟩, (ab_mr_ne (by omega)).trans ((f5k _ (by omega) _).trans (hz _)), fun i hi => by omega⟩ (fun b hb j => ⟨(ab_mr_ne (by omega)).trans (f5k b (by omega) j), g5k b hb j⟩)
  simp (disch := first | exact ab_dN (by assumption) (by omega) | exact ab_dNA (by assumption) (by omega) (by omega) | exact ab_dAs (by assumption) (by assumption) (by omega) (by omega) (by omega) | first | assumption | exact id rfl | omega | exact ab_dK (by assumption) | exact ab_dL (by assumption) (by omega) | exact ab_dI (by assumption) (by omega) (by omega) | exact ab_dIs (by assumption) (by omega) (by omega) | exact ab_isA_rf _ | exact nI_ne0 (by omega) (by omega) | exact Nat.le_of_ble_eq_true rfl | exact ab_dA (by assumption) (by omega) (by omega) (by omega) | exact id (Or.inl rfl) | exact id (Or.inr rfl) | exact ab_b01 | exact ab_dJ (by assumption) (by omega) (by omega) | exact ab_dI6 (by assumption) (by omega) (by omega) | fail) only [i85_0, i85_1, i85_4, i85_5, i85_8, i85_10, i85_13, i85_14, i85_17, i85_19, i85_22, i85_23, i85_26, i85_28, i85_31, i85_32, i85_34, i85_36, i85_39, i85_40, i85_42, i85_44, i85_47, i85_48, i85_51, i85_52, i85_53, i85_54, i85_55, i85_57, i85_59, i85_62, i85_63, i85_64, i85_65, i85_66, i85_69, i85_70, i85_71, i85_72, i85_73, i85_76, i85_77, i85_78, i85_79, i85_80, i85_83, i85_84, i85_85, i85_87, i85_88, i85_91, i85_92, i85_93, i85_95, i85_96, i85_99, i85_102, i85_105, ab_isA_rf, ab_clr_int, ab_clr_ref, ab_clr_null, ab_clr_rf, ab_clr_nov, ab_clr_long, ab_clr_dbl, ab_rf_some, ab_rf_none, ab_hi_S, ab_hr_S, ab_hl_S, ab_sh_S, ab_setI_S, ab_setR_S, ab_setL_S, ab_thr_S, ab_K_ret, ab_K_void, List.length_cons, List.length_nil, Nat.reduceAdd, Nat.reduceMul, ite_not, reduceIte, ab_nadd, ab_nmul, ab_nsub, ab_nclamp, ab_nlt, ab_nle, ab_neq, ab_nlt0, ab_n0lt, ab_nle0, ab_nle00, ab_neq0, ab_nm1, ab_m1n, ab_m1lt, ab_nltm1, ab_nlem1, ab_m1le, ab_m1lt0, ab_0lem1, ab_m1eq0, ab_m1eqm1, ab_ltT, ab_ltF, ab_leT, ab_leF, ab_eqT, ab_eqF, ab_b0, ab_not_true, ab_not_false, ab_u_at, ab_u_ne, ab_u_eq, Nat.add_zero, Nat.zero_add, ab_new_S, ab_nx_S, hN, n1, n2, n3, n4, ← e1, ← e2, ← e3, ← e4, ← e5, ab_zg_ne]
  rw [← ef, ← eg, er]
  exact Eq.mpr (hl _) (hq _)
end AbMini
