/-! A State, a Text, a History, a SeamBeats are made. -/
section AbMake3
variable {h : ab_Hp} {f f' f0 : Nat → Nat → Int32} {g g' g0 : Nat → Nat → Option Nat} {l l' l0 : Nat → Nat → Int64} {Q : ab_O → ab_Hp → Prop} {N r a H T X : Nat} {s s' : Nat → Nat × Nat}
def KeptB (f f' : Nat → Nat → Int32) (g g' : Nat → Nat → Option Nat) (l l' : Nat → Nat → Int64) (N : Nat) : Prop := ∀ b, b < N → ∀ j, f' b j = f b j ∧ g' b j = g b j ∧ l' b j = l b j
theorem Made.sk {h0 : ab_Hp} (m : Made h0 f0 g0 l0 a 6 8 h f g l) : SkState (ab_sh h) g a := by
  obtain ⟨⟨n1, n2, n3, n4⟩, ⟨t1, t2, t3, t4, t5⟩, tf, mr, ms, mk⟩ := m
  exact ⟨⟨t1, t2, t3, t4, t5⟩, fun i hi => ⟨(mr i hi).1, (mr i hi).2.1⟩, fun i hi => ⟨(ms i hi).1, (ms i hi).2⟩⟩
theorem Made.pic {h0 : ab_Hp} (m : Made h0 f0 g0 l0 a 6 8 h f g l) : PicX f a ab_z0 := by
  obtain ⟨⟨n1, n2, n3, n4⟩, ⟨t1, t2, t3, t4, t5⟩, ⟨u1, u2, u3, u4, u5⟩, mr, ms, mk⟩ := m
  refine ⟨⟨u1, u2, u3, u4, u5⟩, fun i hi => ⟨fun k hk => ?_, fun k hk => ?_⟩, fun s hs => ?_⟩
  · obtain ⟨d0, d1, d2, d3, d4, d5, d6, d7, d8, d9, d10⟩ := (mr i hi).2.2
    rw [ab_z0_room hi (by omega)]
    have hc : k = 0 ∨ k = 1 ∨ k = 2 ∨ k = 3 ∨ k = 4 ∨ k = 5 ∨ k = 6 ∨ k = 7 ∨ k = 8 ∨ k = 9 ∨ k = 10 := by omega
    rcases hc with rfl | rfl | rfl | rfl | rfl | rfl | rfl | rfl | rfl | rfl | rfl
    · exact d1
    · exact d2
    · exact d3
    · exact d4
    · exact d0
    · exact d5
    · exact d6
    · exact d7
    · exact d8
    · exact d9
    · exact d10
  · rw [ab_z0_q hi] at hk
    omega
  · rw [ab_z0_ns] at hs
    omega
set_option maxHeartbeats 4000000 in
theorem t_state_init (k1 : ab_sh h a = (14, 0)) (hN : ab_nx h = a + 1) (hQ : ∀ h' f' g' l', Grew h h' 44 492 → SkState (ab_sh h') g' a → PicX f' a ab_z0 → KeptB f f' g g' l l' a → Q (.inl none) (ab_S h' f' g' l')) :
    wp 21 0 [.ref a, ab_nov] [] (ab_S h f g l) Q := by
  have k2 : ab_sh (ab_nw h 3 6 6) a = (14, 0) := (ab_sh_nw_ne hN (by omega)).trans k1
  have hN1 : ab_nx (ab_nw h 3 6 6) = a + 2 := ab_nx_nw hN
  have k3 : ab_sh (ab_nw (ab_nw h 3 6 6) 4 8 8) a = (14, 0) := (ab_sh_nw_ne hN1 (by omega)).trans k2
  have k4 : ab_sh (ab_nw (ab_nw h 3 6 6) 4 8 8) (a + 1) = (3, 6) := (ab_sh_nw_ne hN1 (by omega)).trans (ab_sh_nw_at hN)
  have k5 : ab_sh (ab_nw (ab_nw h 3 6 6) 4 8 8) (a + 2) = (4, 8) := ab_sh_nw_at hN1
  have eG := (Grew.new (h := h) (kd := 3) (n := 6) (w := 6)).trans (Grew.new (kd := 4) (n := 8) (w := 8))
  simp (disch := first | exact ab_dN (by assumption) (by omega) | exact ab_dNA (by assumption) (by omega) (by omega) | exact ab_dAs (by assumption) (by assumption) (by omega) (by omega) (by omega) | first | assumption | exact id rfl | omega | exact ab_dK (by assumption) | exact ab_dL (by assumption) (by omega) | exact ab_dI (by assumption) (by omega) (by omega) | exact ab_dIs (by assumption) (by omega) (by omega) | exact ab_isA_rf _ | exact nI_ne0 (by omega) (by omega) | exact Nat.le_of_ble_eq_true rfl | exact ab_dA (by assumption) (by omega) (by omega) (by omega) | exact id (Or.inl rfl) | exact id (Or.inr rfl) | exact ab_b01 | exact ab_dJ (by assumption) (by omega) (by omega) | exact ab_dI6 (by assumption) (by omega) (by omega) | fail) only [i21_0, i21_1, i21_4, i21_5, i21_7, i21_10, i21_13, i21_14, i21_16, i21_19, i21_22, i21_23, i21_24, i21_27, i21_28, i21_29, i21_32, i21_33, i21_34, i21_37, i21_38, i21_39, i21_42, i21_43, i21_44, i21_47, i21_48, i21_50, i21_51, i21_54, i21_55, i21_58, i21_59, i21_62, i21_63, i21_66, i21_67, i21_70, i21_71, i21_74, i21_77, i21_78, i21_80, i21_81, i21_84, i21_85, i21_88, i21_89, i21_92, i21_93, i21_96, i21_97, i21_100, i21_101, i21_104, i21_107, ab_isA_rf, ab_clr_int, ab_clr_ref, ab_clr_null, ab_clr_rf, ab_clr_nov, ab_clr_long, ab_clr_dbl, ab_rf_some, ab_rf_none, ab_hi_S, ab_hr_S, ab_hl_S, ab_sh_S, ab_setI_S, ab_setR_S, ab_setL_S, ab_thr_S, ab_K_ret, ab_K_void, List.length_cons, List.length_nil, Nat.reduceAdd, Nat.reduceMul, ite_not, reduceIte, ab_nadd, ab_nmul, ab_nsub, ab_nclamp, ab_nlt, ab_nle, ab_neq, ab_nlt0, ab_n0lt, ab_nle0, ab_nle00, ab_neq0, ab_nm1, ab_m1n, ab_m1lt, ab_nltm1, ab_nlem1, ab_m1le, ab_m1lt0, ab_0lem1, ab_m1eq0, ab_m1eqm1, ab_ltT, ab_ltF, ab_leT, ab_leF, ab_eqT, ab_eqF, ab_b0, ab_not_true, ab_not_false, ab_u_at, ab_u_ne, ab_u_eq, Nat.add_zero, Nat.zero_add, ab_new_S, ab_nx_S, hN, hN1]
  refine t_made_rooms (h0 := h) (f0 := f) (g0 := g) (l0 := l) (fun h1 f1 g1 l1 m => ?_) 6 0 _ _ _ _ (by omega) ⟨⟨by have := eG.1; omega, by have := eG.2.1; omega, by have := eG.2.2.1; omega, fun b hb => eG.2.2.2 b (by omega)⟩, ⟨k3, ?_, ab_u_at _ _ _ _, k4, k5⟩, ⟨?_, ?_, ?_, ?_, ?_⟩, fun k hk => by omega, fun k hk => by omega, fun b hb j => ⟨?_, ?_, ?_⟩⟩
  · have m' := m
    obtain ⟨⟨n1, n2, n3, n4⟩, t, u, mr, ms, mk⟩ := m
    refine hQ h1 f1 g1 l1 ⟨by omega, by omega, by omega, fun b hb => ?_⟩ m'.sk m'.pic mk
    by_cases e : b = a
    · subst e; exact t.1.trans k1.symm
    · exact n4 b (by omega)
  · simp (disch := first | assumption | exact id rfl | omega | exact ab_dK (by assumption) | exact ab_dL (by assumption) (by omega) | exact ab_dI (by assumption) (by omega) (by omega) | exact ab_dIs (by assumption) (by omega) (by omega) | exact ab_isA_rf _ | exact nI_ne0 (by omega) (by omega) | exact Nat.le_of_ble_eq_true rfl | exact ab_dA (by assumption) (by omega) (by omega) (by omega) | exact id (Or.inl rfl) | exact id (Or.inr rfl) | exact ab_b01 | exact ab_dJ (by assumption) (by omega) (by omega) | exact ab_dI6 (by assumption) (by omega) (by omega) | fail) only [ab_u_ne, ab_zg_ne, ab_u_eq]
  · simp (disch := first | assumption | exact id rfl | omega | exact ab_dK (by assumption) | exact ab_dL (by assumption) (by omega) | exact ab_dI (by assumption) (by omega) (by omega) | exact ab_dIs (by assumption) (by omega) (by omega) | exact ab_isA_rf _ | exact nI_ne0 (by omega) (by omega) | exact Nat.le_of_ble_eq_true rfl | exact ab_dA (by assumption) (by omega) (by omega) (by omega) | exact id (Or.inl rfl) | exact id (Or.inr rfl) | exact ab_b01 | exact ab_dJ (by assumption) (by omega) (by omega) | exact ab_dI6 (by assumption) (by omega) (by omega) | fail) only [ab_u_ne, ab_u_eq]
  · simp (disch := first | assumption | exact id rfl | omega | exact ab_dK (by assumption) | exact ab_dL (by assumption) (by omega) | exact ab_dI (by assumption) (by omega) (by omega) | exact ab_dIs (by assumption) (by omega) (by omega) | exact ab_isA_rf _ | exact nI_ne0 (by omega) (by omega) | exact Nat.le_of_ble_eq_true rfl | exact ab_dA (by assumption) (by omega) (by omega) (by omega) | exact id (Or.inl rfl) | exact id (Or.inr rfl) | exact ab_b01 | exact ab_dJ (by assumption) (by omega) (by omega) | exact ab_dI6 (by assumption) (by omega) (by omega) | fail) only [ab_u_ne, ab_u_eq]
  · simp (disch := first | assumption | exact id rfl | omega | exact ab_dK (by assumption) | exact ab_dL (by assumption) (by omega) | exact ab_dI (by assumption) (by omega) (by omega) | exact ab_dIs (by assumption) (by omega) (by omega) | exact ab_isA_rf _ | exact nI_ne0 (by omega) (by omega) | exact Nat.le_of_ble_eq_true rfl | exact ab_dA (by assumption) (by omega) (by omega) (by omega) | exact id (Or.inl rfl) | exact id (Or.inr rfl) | exact ab_b01 | exact ab_dJ (by assumption) (by omega) (by omega) | exact ab_dI6 (by assumption) (by omega) (by omega) | fail) only [ab_u_ne, ab_u_eq]
  · simp (disch := first | assumption | exact id rfl | omega | exact ab_dK (by assumption) | exact ab_dL (by assumption) (by omega) | exact ab_dI (by assumption) (by omega) (by omega) | exact ab_dIs (by assumption) (by omega) (by omega) | exact ab_isA_rf _ | exact nI_ne0 (by omega) (by omega) | exact Nat.le_of_ble_eq_true rfl | exact ab_dA (by assumption) (by omega) (by omega) (by omega) | exact id (Or.inl rfl) | exact id (Or.inr rfl) | exact ab_b01 | exact ab_dJ (by assumption) (by omega) (by omega) | exact ab_dI6 (by assumption) (by omega) (by omega) | fail) only [ab_u_ne, ab_u_eq]
  · simp (disch := first | assumption | exact id rfl | omega | exact ab_dK (by assumption) | exact ab_dL (by assumption) (by omega) | exact ab_dI (by assumption) (by omega) (by omega) | exact ab_dIs (by assumption) (by omega) (by omega) | exact ab_isA_rf _ | exact nI_ne0 (by omega) (by omega) | exact Nat.le_of_ble_eq_true rfl | exact ab_dA (by assumption) (by omega) (by omega) (by omega) | exact id (Or.inl rfl) | exact id (Or.inr rfl) | exact ab_b01 | exact ab_dJ (by assumption) (by omega) (by omega) | exact ab_dI6 (by assumption) (by omega) (by omega) | fail) only [ab_u_ne, ab_u_eq]
  · simp (disch := first | assumption | exact id rfl | omega | exact ab_dK (by assumption) | exact ab_dL (by assumption) (by omega) | exact ab_dI (by assumption) (by omega) (by omega) | exact ab_dIs (by assumption) (by omega) (by omega) | exact ab_isA_rf _ | exact nI_ne0 (by omega) (by omega) | exact Nat.le_of_ble_eq_true rfl | exact ab_dA (by assumption) (by omega) (by omega) (by omega) | exact id (Or.inl rfl) | exact id (Or.inr rfl) | exact ab_b01 | exact ab_dJ (by assumption) (by omega) (by omega) | exact ab_dI6 (by assumption) (by omega) (by omega) | fail) only [ab_u_ne, ab_zf_ne]
  · simp (disch := first | assumption | exact id rfl | omega | exact ab_dK (by assumption) | exact ab_dL (by assumption) (by omega) | exact ab_dI (by assumption) (by omega) (by omega) | exact ab_dIs (by assumption) (by omega) (by omega) | exact ab_isA_rf _ | exact nI_ne0 (by omega) (by omega) | exact Nat.le_of_ble_eq_true rfl | exact ab_dA (by assumption) (by omega) (by omega) (by omega) | exact id (Or.inl rfl) | exact id (Or.inr rfl) | exact ab_b01 | exact ab_dJ (by assumption) (by omega) (by omega) | exact ab_dI6 (by assumption) (by omega) (by omega) | fail) only [ab_u_ne, ab_zg_ne]
  · simp (disch := first | assumption | exact id rfl | omega | exact ab_dK (by assumption) | exact ab_dL (by assumption) (by omega) | exact ab_dI (by assumption) (by omega) (by omega) | exact ab_dIs (by assumption) (by omega) (by omega) | exact ab_isA_rf _ | exact nI_ne0 (by omega) (by omega) | exact Nat.le_of_ble_eq_true rfl | exact ab_dA (by assumption) (by omega) (by omega) (by omega) | exact id (Or.inl rfl) | exact id (Or.inr rfl) | exact ab_b01 | exact ab_dJ (by assumption) (by omega) (by omega) | exact ab_dI6 (by assumption) (by omega) (by omega) | fail) only [ab_zl_ne]
theorem t_text_init {cs : Nat → Nat} (k1 : ab_sh h T = (15, 0)) (hN : ab_nx h = T + 1) (hQ : ∀ h' f' g' l', Grew h h' 1 60 → PicT (ab_sh h') f' g' T 0 cs → KeptB f f' g g' l l' T → Q (.inl none) (ab_S h' f' g' l')) :
    wp 39 0 [.ref T] [] (ab_S h f g l) Q := by
  have k2 : ab_sh (ab_nw h 1 60 60) T = (15, 0) := (ab_sh_nw_ne hN (by omega)).trans k1
  simp (disch := first | exact ab_dN (by assumption) (by omega) | exact ab_dNA (by assumption) (by omega) (by omega) | exact ab_dAs (by assumption) (by assumption) (by omega) (by omega) (by omega) | first | assumption | exact id rfl | omega | exact ab_dK (by assumption) | exact ab_dL (by assumption) (by omega) | exact ab_dI (by assumption) (by omega) (by omega) | exact ab_dIs (by assumption) (by omega) (by omega) | exact ab_isA_rf _ | exact nI_ne0 (by omega) (by omega) | exact Nat.le_of_ble_eq_true rfl | exact ab_dA (by assumption) (by omega) (by omega) (by omega) | exact id (Or.inl rfl) | exact id (Or.inr rfl) | exact ab_b01 | exact ab_dJ (by assumption) (by omega) (by omega) | exact ab_dI6 (by assumption) (by omega) (by omega) | fail) only [i39_0, i39_1, i39_4, i39_5, i39_7, i39_9, i39_12, i39_13, i39_14, i39_17, ab_isA_rf, ab_clr_int, ab_clr_ref, ab_clr_null, ab_clr_rf, ab_clr_nov, ab_clr_long, ab_clr_dbl, ab_rf_some, ab_rf_none, ab_hi_S, ab_hr_S, ab_hl_S, ab_sh_S, ab_setI_S, ab_setR_S, ab_setL_S, ab_thr_S, ab_K_ret, ab_K_void, List.length_cons, List.length_nil, Nat.reduceAdd, Nat.reduceMul, ite_not, reduceIte, ab_nadd, ab_nmul, ab_nsub, ab_nclamp, ab_nlt, ab_nle, ab_neq, ab_nlt0, ab_n0lt, ab_nle0, ab_nle00, ab_neq0, ab_nm1, ab_m1n, ab_m1lt, ab_nltm1, ab_nlem1, ab_m1le, ab_m1lt0, ab_0lem1, ab_m1eq0, ab_m1eqm1, ab_ltT, ab_ltF, ab_leT, ab_leF, ab_eqT, ab_eqF, ab_b0, ab_not_true, ab_not_false, ab_u_at, ab_u_ne, ab_u_eq, Nat.add_zero, Nat.zero_add, ab_new_S, ab_nx_S, hN]
  exact hQ _ _ _ _ Grew.new ⟨⟨k2, ab_sh_nw_at hN, ab_u_at _ _ _ _, ab_u_at _ _ _ _, by omega⟩, fun i hi => by omega⟩ (fun b hb j => ⟨(ab_u_ne (by omega)).trans (ab_zf_ne (by omega)), (ab_u_ne (by omega)).trans (ab_zg_ne (by omega)), ab_zl_ne (by omega)⟩)
theorem SkState.same2 (sk : SkState s g a) (hs : ∀ b, a ≤ b → b < a + 45 → s' b = s b) (hg : ∀ b, a ≤ b → b < a + 45 → ∀ j, g' b j = g b j) : SkState s' g' a := by
  obtain ⟨⟨s0, g0, g1, s1, s2⟩, hr, hs'⟩ := sk
  refine ⟨⟨by rw [hs _ (by omega) (by omega)]; exact s0, by rw [hg _ (by omega) (by omega)]; exact g0, by rw [hg _ (by omega) (by omega)]; exact g1, by rw [hs _ (by omega) (by omega)]; exact s1, by rw [hs _ (by omega) (by omega)]; exact s2⟩, fun i hi => ?_, fun i hi => ?_⟩
  · obtain ⟨e1, e2, e3, e4, e5, e6⟩ := hr i hi
    exact ⟨by rw [hg _ (by omega) (by omega)]; exact e1, by rw [hs _ (by omega) (by omega)]; exact e2, by rw [hg _ (by omega) (by omega)]; exact e3, by rw [hs _ (by omega) (by omega)]; exact e4, by rw [hg _ (by omega) (by omega)]; exact e5, by rw [hs _ (by omega) (by omega)]; exact e6⟩
  · obtain ⟨e1, e2, e3, e4, e5, e6⟩ := hs' i hi
    exact ⟨by rw [hg _ (by omega) (by omega)]; exact e1, by rw [hs _ (by omega) (by omega)]; exact e2, by rw [hg _ (by omega) (by omega)]; exact e3, by rw [hs _ (by omega) (by omega)]; exact e4, by rw [hg _ (by omega) (by omega)]; exact e5, by rw [hs _ (by omega) (by omega)]; exact e6⟩
def MadeH (h0 : ab_Hp) (f0 : Nat → Nat → Int32) (g0 : Nat → Nat → Option Nat) (l0 : Nat → Nat → Int64) (H i : Nat) (h : ab_Hp) (f : Nat → Nat → Int32) (g : Nat → Nat → Option Nat) (l : Nat → Nat → Int64) : Prop :=
  (ab_nx h = H + 2 + 45 * i ∧ ab_cc h = ab_cc h0 + 1 + 45 * i ∧ ab_sc h = ab_sc h0 + 6 + 499 * i ∧ ∀ b, b < H → ab_sh h b = ab_sh h0 b) ∧
  (ab_sh h H = (10, 0) ∧ ab_sh h (H + 1) = (5, 6) ∧ g H 0 = some (H + 1) ∧ f H 1 = nI 0) ∧
  (∀ k, k < i → g (H + 1) k = some (H + 2 + 45 * k) ∧ SkState (ab_sh h) g (H + 2 + 45 * k)) ∧
  KeptB f0 f g0 g l0 l H
set_option maxRecDepth 8000 in
set_option maxHeartbeats 4000000 in
theorem t_made_hist {h0 : ab_Hp} (hQ : ∀ h f g l, MadeH h0 f0 g0 l0 H 6 h f g l → Q (.inl none) (ab_S h f g l)) : ∀ (c i : Nat) (h : ab_Hp) (f : Nat → Nat → Int32) (g : Nat → Nat → Option Nat) (l : Nat → Nat → Int64), i + c = 6 → MadeH h0 f0 g0 l0 H i h f g l →
    wp 0 20 [.ref H, .int (nI i)] [] (ab_S h f g l) Q := by
  intro c
  induction c with
  | zero =>
    intro i h f g l hi m
    have e : i = 6 := by omega
    subst e
    have m' := m
    obtain ⟨⟨n1, n2, n3, n4⟩, ⟨t1, t2, t3, t4⟩, ms, mk⟩ := m
    simp (disch := first | exact ab_dN (by assumption) (by omega) | exact ab_dNA (by assumption) (by omega) (by omega) | exact ab_dAs (by assumption) (by assumption) (by omega) (by omega) (by omega) | first | assumption | exact id rfl | omega | exact ab_dK (by assumption) | exact ab_dL (by assumption) (by omega) | exact ab_dI (by assumption) (by omega) (by omega) | exact ab_dIs (by assumption) (by omega) (by omega) | exact ab_isA_rf _ | exact nI_ne0 (by omega) (by omega) | exact Nat.le_of_ble_eq_true rfl | exact ab_dA (by assumption) (by omega) (by omega) (by omega) | exact id (Or.inl rfl) | exact id (Or.inr rfl) | exact ab_b01 | exact ab_dJ (by assumption) (by omega) (by omega) | exact ab_dI6 (by assumption) (by omega) (by omega) | fail) only [i0_20, i0_0, i0_1, i0_4, i0_5, i0_7, i0_10, i0_13, i0_14, i0_15, i0_18, i0_19, i0_21, i0_22, i0_25, i0_26, i0_29, i0_30, i0_33, i0_34, i0_37, i0_38, i0_41, i0_42, i0_45, i0_48, ab_isA_rf, ab_clr_int, ab_clr_ref, ab_clr_null, ab_clr_rf, ab_clr_nov, ab_clr_long, ab_clr_dbl, ab_rf_some, ab_rf_none, ab_hi_S, ab_hr_S, ab_hl_S, ab_sh_S, ab_setI_S, ab_setR_S, ab_setL_S, ab_thr_S, ab_K_ret, ab_K_void, List.length_cons, List.length_nil, Nat.reduceAdd, Nat.reduceMul, ite_not, reduceIte, ab_nadd, ab_nmul, ab_nsub, ab_nclamp, ab_nlt, ab_nle, ab_neq, ab_nlt0, ab_n0lt, ab_nle0, ab_nle00, ab_neq0, ab_nm1, ab_m1n, ab_m1lt, ab_nltm1, ab_nlem1, ab_m1le, ab_m1lt0, ab_0lem1, ab_m1eq0, ab_m1eqm1, ab_ltT, ab_ltF, ab_leT, ab_leF, ab_eqT, ab_eqF, ab_b0, ab_not_true, ab_not_false, ab_u_at, ab_u_ne, ab_u_eq, Nat.add_zero, Nat.zero_add, ab_new_S, ab_nx_S, t1, t2, t3, t4]
    exact hQ _ _ _ _ m'
  | succ c ih =>
    intro i h f g l hi m
    obtain ⟨⟨n1, n2, n3, n4⟩, ⟨t1, t2, t3, t4⟩, ms, mk⟩ := m
    have hN : ab_nx h = H + 2 + 45 * i := by omega
    have hN0 : H + 2 + 45 * i ≠ 0 := by omega
    have k1 : ab_sh (ab_nw h 14 0 7) (H + 2 + 45 * i) = (14, 0) := ab_sh_nw_at hN
    have hN2 : ab_nx (ab_nw h 14 0 7) = H + 2 + 45 * i + 1 := ab_nx_nw hN
    simp (disch := first | exact ab_dN (by assumption) (by omega) | exact ab_dNA (by assumption) (by omega) (by omega) | exact ab_dAs (by assumption) (by assumption) (by omega) (by omega) (by omega) | first | assumption | exact id rfl | omega | exact ab_dK (by assumption) | exact ab_dL (by assumption) (by omega) | exact ab_dI (by assumption) (by omega) (by omega) | exact ab_dIs (by assumption) (by omega) (by omega) | exact ab_isA_rf _ | exact nI_ne0 (by omega) (by omega) | exact Nat.le_of_ble_eq_true rfl | exact ab_dA (by assumption) (by omega) (by omega) (by omega) | exact id (Or.inl rfl) | exact id (Or.inr rfl) | exact ab_b01 | exact ab_dJ (by assumption) (by omega) (by omega) | exact ab_dI6 (by assumption) (by omega) (by omega) | fail) only [i0_20, i0_0, i0_1, i0_4, i0_5, i0_7, i0_10, i0_13, i0_14, i0_15, i0_18, i0_19, i0_21, i0_22, i0_25, i0_26, i0_29, i0_30, i0_33, i0_34, i0_37, i0_38, i0_41, i0_42, i0_45, i0_48, ab_isA_rf, ab_clr_int, ab_clr_ref, ab_clr_null, ab_clr_rf, ab_clr_nov, ab_clr_long, ab_clr_dbl, ab_rf_some, ab_rf_none, ab_hi_S, ab_hr_S, ab_hl_S, ab_sh_S, ab_setI_S, ab_setR_S, ab_setL_S, ab_thr_S, ab_K_ret, ab_K_void, List.length_cons, List.length_nil, Nat.reduceAdd, Nat.reduceMul, ite_not, reduceIte, ab_nadd, ab_nmul, ab_nsub, ab_nclamp, ab_nlt, ab_nle, ab_neq, ab_nlt0, ab_n0lt, ab_nle0, ab_nle00, ab_neq0, ab_nm1, ab_m1n, ab_m1lt, ab_nltm1, ab_nlem1, ab_m1le, ab_m1lt0, ab_0lem1, ab_m1eq0, ab_m1eqm1, ab_ltT, ab_ltF, ab_leT, ab_leF, ab_eqT, ab_eqF, ab_b0, ab_not_true, ab_not_false, ab_u_at, ab_u_ne, ab_u_eq, Nat.add_zero, Nat.zero_add, ab_new_S, ab_nx_S, hN, t2, t3]
    refine t_state_init k1 hN2 (fun h1 f1 g1 l1 e1 e2 e3 e4 => ?_)
    have hA : ∀ b, b < H + 2 + 45 * i → ab_sh h1 b = ab_sh h b := fun b hb => (e1.2.2.2 b (by omega)).trans (ab_sh_nw_ne hN (by omega))
    have hB : ∀ b, b < H + 2 + 45 * i → ∀ j, f1 b j = f b j ∧ g1 b j = g b j ∧ l1 b j = l b j := fun b hb j => by
      obtain ⟨w1, w2, w3⟩ := e4 b (by omega) j
      exact ⟨w1.trans (ab_zf_ne (by omega)), w2.trans (ab_zg_ne (by omega)), w3.trans (ab_zl_ne (by omega))⟩
    have eG := (Grew.new (h := h) (kd := 14) (n := 0) (w := 7)).trans e1
    have q4 : ab_sh h1 (H + 1) = (5, 6) := (hA _ (by omega)).trans t2
    have q5 : ab_sh h1 (H + 2 + 45 * i) = (14, 0) := e2.1.1
    simp (disch := first | exact ab_dN (by assumption) (by omega) | exact ab_dNA (by assumption) (by omega) (by omega) | exact ab_dAs (by assumption) (by assumption) (by omega) (by omega) (by omega) | first | assumption | exact id rfl | omega | exact ab_dK (by assumption) | exact ab_dL (by assumption) (by omega) | exact ab_dI (by assumption) (by omega) (by omega) | exact ab_dIs (by assumption) (by omega) (by omega) | exact ab_isA_rf _ | exact nI_ne0 (by omega) (by omega) | exact Nat.le_of_ble_eq_true rfl | exact ab_dA (by assumption) (by omega) (by omega) (by omega) | exact id (Or.inl rfl) | exact id (Or.inr rfl) | exact ab_b01 | exact ab_dJ (by assumption) (by omega) (by omega) | exact ab_dI6 (by assumption) (by omega) (by omega) | fail) only [i0_0, i0_1, i0_4, i0_5, i0_7, i0_10, i0_13, i0_14, i0_15, i0_18, i0_19, i0_21, i0_22, i0_25, i0_26, i0_29, i0_30, i0_33, i0_34, i0_37, i0_38, i0_41, i0_42, i0_45, i0_48, ab_isA_rf, ab_clr_int, ab_clr_ref, ab_clr_null, ab_clr_rf, ab_clr_nov, ab_clr_long, ab_clr_dbl, ab_rf_some, ab_rf_none, ab_hi_S, ab_hr_S, ab_hl_S, ab_sh_S, ab_setI_S, ab_setR_S, ab_setL_S, ab_thr_S, ab_K_ret, ab_K_void, List.length_cons, List.length_nil, Nat.reduceAdd, Nat.reduceMul, ite_not, reduceIte, ab_nadd, ab_nmul, ab_nsub, ab_nclamp, ab_nlt, ab_nle, ab_neq, ab_nlt0, ab_n0lt, ab_nle0, ab_nle00, ab_neq0, ab_nm1, ab_m1n, ab_m1lt, ab_nltm1, ab_nlem1, ab_m1le, ab_m1lt0, ab_0lem1, ab_m1eq0, ab_m1eqm1, ab_ltT, ab_ltF, ab_leT, ab_leF, ab_eqT, ab_eqF, ab_b0, ab_not_true, ab_not_false, ab_u_at, ab_u_ne, ab_u_eq, Nat.add_zero, Nat.zero_add, ab_new_S, ab_nx_S, hN, q4]
    refine ih (i + 1) h1 f1 _ l1 (by omega) ⟨⟨by have := eG.1; omega, by have := eG.2.1; omega, by have := eG.2.2.1; omega, fun b hb => (hA b (by omega)).trans (n4 b hb)⟩, ⟨(hA _ (by omega)).trans t1, q4, ?_, (hB H (by omega) 1).1.trans t4⟩, fun k hk => ?_, fun b hb j => ⟨?_, ?_, ?_⟩⟩
    · rw [ab_u_ne (by omega)]; exact (hB H (by omega) 0).2.1.trans t3
    · by_cases e : k = i
      · subst e
        exact ⟨ab_u_at _ _ _ _, e2.same (fun b h1 h2 j => ab_u_ne (by omega))⟩
      · obtain ⟨w1, w2⟩ := ms k (by omega)
        exact ⟨(ab_u_ne (by omega)).trans ((hB _ (by omega) k).2.1.trans w1), w2.same2 (fun b h1 h2 => hA b (by omega)) (fun b h1 h2 j => (ab_u_ne (by omega)).trans (hB b (by omega) j).2.1)⟩
    · exact (hB b (by omega) j).1.trans (mk b hb j).1
    · rw [ab_u_ne (by omega)]; exact (hB b (by omega) j).2.1.trans (mk b hb j).2.1
    · exact (hB b (by omega) j).2.2.trans (mk b hb j).2.2
set_option maxHeartbeats 4000000 in
theorem t_hist_init {zs : Nat → Nat → Int32} (k1 : ab_sh h H = (10, 0)) (hN : ab_nx h = H + 1) (hQ : ∀ h' f' g' l', Grew h h' 271 3000 → PicH (ab_sh h') f' g' H 0 zs → KeptB f f' g g' l l' H → Q (.inl none) (ab_S h' f' g' l')) :
    wp 0 0 [.ref H, ab_nov] [] (ab_S h f g l) Q := by
  have k2 : ab_sh (ab_nw h 5 6 6) H = (10, 0) := (ab_sh_nw_ne hN (by omega)).trans k1
  have k3 : ab_sh (ab_nw h 5 6 6) (H + 1) = (5, 6) := ab_sh_nw_at hN
  have eG := (Grew.new (h := h) (kd := 5) (n := 6) (w := 6))
  simp (disch := first | exact ab_dN (by assumption) (by omega) | exact ab_dNA (by assumption) (by omega) (by omega) | exact ab_dAs (by assumption) (by assumption) (by omega) (by omega) (by omega) | first | assumption | exact id rfl | omega | exact ab_dK (by assumption) | exact ab_dL (by assumption) (by omega) | exact ab_dI (by assumption) (by omega) (by omega) | exact ab_dIs (by assumption) (by omega) (by omega) | exact ab_isA_rf _ | exact nI_ne0 (by omega) (by omega) | exact Nat.le_of_ble_eq_true rfl | exact ab_dA (by assumption) (by omega) (by omega) (by omega) | exact id (Or.inl rfl) | exact id (Or.inr rfl) | exact ab_b01 | exact ab_dJ (by assumption) (by omega) (by omega) | exact ab_dI6 (by assumption) (by omega) (by omega) | fail) only [i0_0, i0_1, i0_4, i0_5, i0_7, i0_10, i0_13, i0_14, i0_15, i0_18, i0_19, i0_21, i0_22, i0_25, i0_26, i0_29, i0_30, i0_33, i0_34, i0_37, i0_38, i0_41, i0_42, i0_45, i0_48, ab_isA_rf, ab_clr_int, ab_clr_ref, ab_clr_null, ab_clr_rf, ab_clr_nov, ab_clr_long, ab_clr_dbl, ab_rf_some, ab_rf_none, ab_hi_S, ab_hr_S, ab_hl_S, ab_sh_S, ab_setI_S, ab_setR_S, ab_setL_S, ab_thr_S, ab_K_ret, ab_K_void, List.length_cons, List.length_nil, Nat.reduceAdd, Nat.reduceMul, ite_not, reduceIte, ab_nadd, ab_nmul, ab_nsub, ab_nclamp, ab_nlt, ab_nle, ab_neq, ab_nlt0, ab_n0lt, ab_nle0, ab_nle00, ab_neq0, ab_nm1, ab_m1n, ab_m1lt, ab_nltm1, ab_nlem1, ab_m1le, ab_m1lt0, ab_0lem1, ab_m1eq0, ab_m1eqm1, ab_ltT, ab_ltF, ab_leT, ab_leF, ab_eqT, ab_eqF, ab_b0, ab_not_true, ab_not_false, ab_u_at, ab_u_ne, ab_u_eq, Nat.add_zero, Nat.zero_add, ab_new_S, ab_nx_S, hN]
  refine t_made_hist (h0 := h) (f0 := f) (g0 := g) (l0 := l) (fun h1 f1 g1 l1 m => ?_) 6 0 _ _ _ _ (by omega) ⟨⟨by have := eG.1; omega, by have := eG.2.1; omega, by have := eG.2.2.1; omega, fun b hb => eG.2.2.2 b (by omega)⟩, ⟨k2, k3, ab_u_at _ _ _ _, ab_u_at _ _ _ _⟩, fun k hk => by omega, fun b hb j => ⟨?_, ?_, ?_⟩⟩
  · obtain ⟨⟨n1, n2, n3, n4⟩, ⟨t1, t2, t3, t4⟩, ms, mk⟩ := m
    refine hQ h1 f1 g1 l1 ⟨by omega, by omega, by omega, fun b hb => ?_⟩ ⟨⟨t1, t2, t3, t4, by omega⟩, fun k hk => (ms k hk).2, fun i => i, fun i hi => ⟨hi, (ms i hi).1⟩, fun i j _ _ q => q, fun i hi => by omega⟩ mk
    by_cases e : b = H
    · subst e; exact t1.trans k1.symm
    · exact n4 b (by omega)
  · simp (disch := first | assumption | exact id rfl | omega | exact ab_dK (by assumption) | exact ab_dL (by assumption) (by omega) | exact ab_dI (by assumption) (by omega) (by omega) | exact ab_dIs (by assumption) (by omega) (by omega) | exact ab_isA_rf _ | exact nI_ne0 (by omega) (by omega) | exact Nat.le_of_ble_eq_true rfl | exact ab_dA (by assumption) (by omega) (by omega) (by omega) | exact id (Or.inl rfl) | exact id (Or.inr rfl) | exact ab_b01 | exact ab_dJ (by assumption) (by omega) (by omega) | exact ab_dI6 (by assumption) (by omega) (by omega) | fail) only [ab_u_ne, ab_zf_ne]
  · simp (disch := first | assumption | exact id rfl | omega | exact ab_dK (by assumption) | exact ab_dL (by assumption) (by omega) | exact ab_dI (by assumption) (by omega) (by omega) | exact ab_dIs (by assumption) (by omega) (by omega) | exact ab_isA_rf _ | exact nI_ne0 (by omega) (by omega) | exact Nat.le_of_ble_eq_true rfl | exact ab_dA (by assumption) (by omega) (by omega) (by omega) | exact id (Or.inl rfl) | exact id (Or.inr rfl) | exact ab_b01 | exact ab_dJ (by assumption) (by omega) (by omega) | exact ab_dI6 (by assumption) (by omega) (by omega) | fail) only [ab_u_ne, ab_zg_ne]
  · simp (disch := first | assumption | exact id rfl | omega | exact ab_dK (by assumption) | exact ab_dL (by assumption) (by omega) | exact ab_dI (by assumption) (by omega) (by omega) | exact ab_dIs (by assumption) (by omega) (by omega) | exact ab_isA_rf _ | exact nI_ne0 (by omega) (by omega) | exact Nat.le_of_ble_eq_true rfl | exact ab_dA (by assumption) (by omega) (by omega) (by omega) | exact id (Or.inl rfl) | exact id (Or.inr rfl) | exact ab_b01 | exact ab_dJ (by assumption) (by omega) (by omega) | exact ab_dI6 (by assumption) (by omega) (by omega) | fail) only [ab_zl_ne]
end AbMake3
