/-! A State is made. -/
section AbMake2
variable {h : ab_Hp} {f f' f0 : Nat → Nat → Int32} {g g' g0 : Nat → Nat → Option Nat} {l l' l0 : Nat → Nat → Int64} {Q : ab_O → ab_Hp → Prop} {N r a : Nat} {s s' : Nat → Nat × Nat}
def ab_z0 : Nat → Int32 := fun j => if j = 4 then -1 else if 6 ≤ j ∧ j < 168 then (if (j - 6) % 27 = 0 then nI 1 else if (j - 6) % 27 = 2 then nI 1 else if (j - 6) % 27 = 3 then -1 else if (j - 6) % 27 = 9 then -1 else if (j - 6) % 27 = 10 then -1 else nI 0) else nI 0
theorem ab_z0_room {i k : Nat} (hi : i < 6) (hk : k < 27) : ab_z0 (6 + 27 * i + k) = if k = 0 then nI 1 else if k = 2 then nI 1 else if k = 3 then -1 else if k = 9 then -1 else if k = 10 then -1 else nI 0 := by
  unfold ab_z0
  rw [if_neg (by omega), if_pos (by omega), show (6 + 27 * i + k - 6) % 27 = k by omega]
theorem ab_z0_late {j : Nat} (hj : 168 ≤ j) : ab_z0 j = nI 0 := by
  unfold ab_z0
  rw [if_neg (by omega), if_neg (by omega)]
theorem ab_z0_q {i : Nat} (hi : i < 6) : ab_q ab_z0 i = 0 := by
  unfold ab_q
  rw [ab_z0_room hi (by omega)]
  rfl
theorem ab_z0_ns : ab_ns ab_z0 = 0 := rfl
theorem SkLine.same {kd : Nat} (hl : SkLine s g kd r) (hs : ∀ b, r ≤ b → b < r + 3 → s' b = s b) (hg : ∀ b, r ≤ b → b < r + 3 → ∀ j, g' b j = g b j) : SkLine s' g' kd r := by
  obtain ⟨e1, e2, e3, e4, e5⟩ := hl
  exact ⟨by rw [hs _ (by omega) (by omega)]; exact e1, by rw [hg _ (by omega) (by omega)]; exact e2, by rw [hs _ (by omega) (by omega)]; exact e3, by rw [hg _ (by omega) (by omega)]; exact e4, by rw [hs _ (by omega) (by omega)]; exact e5⟩
theorem NewRoom.same (hl : NewRoom f r) (hf : ∀ b, r ≤ b → b < r + 3 → ∀ j, f' b j = f b j) : NewRoom f' r := by
  unfold NewRoom
  rw [hf r (by omega) (by omega), hf r (by omega) (by omega), hf r (by omega) (by omega), hf r (by omega) (by omega), hf r (by omega) (by omega), hf r (by omega) (by omega), hf r (by omega) (by omega), hf r (by omega) (by omega), hf r (by omega) (by omega), hf r (by omega) (by omega), hf (r + 1) (by omega) (by omega)]
  exact hl
def Made (h0 : ab_Hp) (f0 : Nat → Nat → Int32) (g0 : Nat → Nat → Option Nat) (l0 : Nat → Nat → Int64) (a i j : Nat) (h : ab_Hp) (f : Nat → Nat → Int32) (g : Nat → Nat → Option Nat) (l : Nat → Nat → Int64) : Prop :=
  (ab_nx h = a + 3 + 3 * i + 3 * j ∧ ab_cc h = ab_cc h0 + 2 + 3 * i + 3 * j ∧ ab_sc h = ab_sc h0 + 14 + 37 * i + 32 * j ∧ ∀ b, b < a → ab_sh h b = ab_sh h0 b) ∧
  (ab_sh h a = (14, 0) ∧ g a 0 = some (a + 1) ∧ g a 1 = some (a + 2) ∧ ab_sh h (a + 1) = (3, 6) ∧ ab_sh h (a + 2) = (4, 8)) ∧
  (f a 2 = nI 0 ∧ f a 3 = nI 0 ∧ f a 4 = nI 0 ∧ f a 5 = nI 0 ∧ f a 6 = -1) ∧
  (∀ k, k < i → g (a + 1) k = some (a + 3 + 3 * k) ∧ SkLine (ab_sh h) g 12 (a + 3 + 3 * k) ∧ NewRoom f (a + 3 + 3 * k)) ∧
  (∀ k, k < j → g (a + 2) k = some (a + 21 + 3 * k) ∧ SkLine (ab_sh h) g 13 (a + 21 + 3 * k)) ∧
  ∀ b, b < a → ∀ j, f b j = f0 b j ∧ g b j = g0 b j ∧ l b j = l0 b j
set_option maxHeartbeats 4000000 in
theorem t_made_seams {h0 : ab_Hp} (hQ : ∀ h f g l, Made h0 f0 g0 l0 a 6 8 h f g l → Q (.inl none) (ab_S h f g l)) : ∀ (c i : Nat) (h : ab_Hp) (f : Nat → Nat → Int32) (g : Nat → Nat → Option Nat) (l : Nat → Nat → Int64), i + c = 8 → Made h0 f0 g0 l0 a 6 i h f g l →
    wp 21 79 [.ref a, .int (nI i)] [] (ab_S h f g l) Q := by
  intro c
  induction c with
  | zero =>
    intro i h f g l hi m
    have e : i = 8 := by omega
    subst e
    have m' := m
    obtain ⟨⟨n1, n2, n3, n4⟩, ⟨t1, t2, t3, t4, t5⟩, tf, mr, ms, mk⟩ := m
    simp (disch := first | exact ab_dN (by assumption) (by omega) | exact ab_dNA (by assumption) (by omega) (by omega) | exact ab_dAs (by assumption) (by assumption) (by omega) (by omega) (by omega) | first | assumption | exact id rfl | omega | exact ab_dK (by assumption) | exact ab_dL (by assumption) (by omega) | exact ab_dI (by assumption) (by omega) (by omega) | exact ab_dIs (by assumption) (by omega) (by omega) | exact ab_isA_rf _ | exact nI_ne0 (by omega) (by omega) | exact Nat.le_of_ble_eq_true rfl | exact ab_dA (by assumption) (by omega) (by omega) (by omega) | exact id (Or.inl rfl) | exact id (Or.inr rfl) | exact ab_b01 | exact ab_dJ (by assumption) (by omega) (by omega) | exact ab_dI6 (by assumption) (by omega) (by omega) | fail) only [i21_79, i21_0, i21_1, i21_4, i21_5, i21_7, i21_10, i21_13, i21_14, i21_16, i21_19, i21_22, i21_23, i21_24, i21_27, i21_28, i21_29, i21_32, i21_33, i21_34, i21_37, i21_38, i21_39, i21_42, i21_43, i21_44, i21_47, i21_48, i21_50, i21_51, i21_54, i21_55, i21_58, i21_59, i21_62, i21_63, i21_66, i21_67, i21_70, i21_71, i21_74, i21_77, i21_78, i21_80, i21_81, i21_84, i21_85, i21_88, i21_89, i21_92, i21_93, i21_96, i21_97, i21_100, i21_101, i21_104, i21_107, ab_isA_rf, ab_clr_int, ab_clr_ref, ab_clr_null, ab_clr_rf, ab_clr_nov, ab_clr_long, ab_clr_dbl, ab_rf_some, ab_rf_none, ab_hi_S, ab_hr_S, ab_hl_S, ab_sh_S, ab_setI_S, ab_setR_S, ab_setL_S, ab_thr_S, ab_K_ret, ab_K_void, List.length_cons, List.length_nil, Nat.reduceAdd, Nat.reduceMul, ite_not, reduceIte, ab_nadd, ab_nmul, ab_nsub, ab_nclamp, ab_nlt, ab_nle, ab_neq, ab_nlt0, ab_n0lt, ab_nle0, ab_nle00, ab_neq0, ab_nm1, ab_m1n, ab_m1lt, ab_nltm1, ab_nlem1, ab_m1le, ab_m1lt0, ab_0lem1, ab_m1eq0, ab_m1eqm1, ab_ltT, ab_ltF, ab_leT, ab_leF, ab_eqT, ab_eqF, ab_b0, ab_not_true, ab_not_false, ab_u_at, ab_u_ne, ab_u_eq, Nat.add_zero, Nat.zero_add, ab_new_S, ab_nx_S, t1, t2, t3, t4, t5]
    exact hQ _ _ _ _ m'
  | succ c ih =>
    intro i h f g l hi m
    obtain ⟨⟨n1, n2, n3, n4⟩, ⟨t1, t2, t3, t4, t5⟩, tf, mr, ms, mk⟩ := m
    have hN : ab_nx h = a + 21 + 3 * i := by omega
    have hN0 : a + 21 + 3 * i ≠ 0 := by omega
    have k1 : ab_sh (ab_nw h 13 0 6) (a + 21 + 3 * i) = (13, 0) := ab_sh_nw_at hN
    have hN2 : ab_nx (ab_nw h 13 0 6) = a + 21 + 3 * i + 1 := ab_nx_nw hN
    simp (disch := first | exact ab_dN (by assumption) (by omega) | exact ab_dNA (by assumption) (by omega) (by omega) | exact ab_dAs (by assumption) (by assumption) (by omega) (by omega) (by omega) | first | assumption | exact id rfl | omega | exact ab_dK (by assumption) | exact ab_dL (by assumption) (by omega) | exact ab_dI (by assumption) (by omega) (by omega) | exact ab_dIs (by assumption) (by omega) (by omega) | exact ab_isA_rf _ | exact nI_ne0 (by omega) (by omega) | exact Nat.le_of_ble_eq_true rfl | exact ab_dA (by assumption) (by omega) (by omega) (by omega) | exact id (Or.inl rfl) | exact id (Or.inr rfl) | exact ab_b01 | exact ab_dJ (by assumption) (by omega) (by omega) | exact ab_dI6 (by assumption) (by omega) (by omega) | fail) only [i21_79, i21_0, i21_1, i21_4, i21_5, i21_7, i21_10, i21_13, i21_14, i21_16, i21_19, i21_22, i21_23, i21_24, i21_27, i21_28, i21_29, i21_32, i21_33, i21_34, i21_37, i21_38, i21_39, i21_42, i21_43, i21_44, i21_47, i21_48, i21_50, i21_51, i21_54, i21_55, i21_58, i21_59, i21_62, i21_63, i21_66, i21_67, i21_70, i21_71, i21_74, i21_77, i21_78, i21_80, i21_81, i21_84, i21_85, i21_88, i21_89, i21_92, i21_93, i21_96, i21_97, i21_100, i21_101, i21_104, i21_107, ab_isA_rf, ab_clr_int, ab_clr_ref, ab_clr_null, ab_clr_rf, ab_clr_nov, ab_clr_long, ab_clr_dbl, ab_rf_some, ab_rf_none, ab_hi_S, ab_hr_S, ab_hl_S, ab_sh_S, ab_setI_S, ab_setR_S, ab_setL_S, ab_thr_S, ab_K_ret, ab_K_void, List.length_cons, List.length_nil, Nat.reduceAdd, Nat.reduceMul, ite_not, reduceIte, ab_nadd, ab_nmul, ab_nsub, ab_nclamp, ab_nlt, ab_nle, ab_neq, ab_nlt0, ab_n0lt, ab_nle0, ab_nle00, ab_neq0, ab_nm1, ab_m1n, ab_m1lt, ab_nltm1, ab_nlem1, ab_m1le, ab_m1lt0, ab_0lem1, ab_m1eq0, ab_m1eqm1, ab_ltT, ab_ltF, ab_leT, ab_leF, ab_eqT, ab_eqF, ab_b0, ab_not_true, ab_not_false, ab_u_at, ab_u_ne, ab_u_eq, Nat.add_zero, Nat.zero_add, ab_new_S, ab_nx_S, hN, t2, t3, t4, t5]
    refine t_seam_init k1 hN2 (fun h1 f1 g1 l1 e1 e2 e4 => ?_)
    have hA : ∀ b, b < a + 21 + 3 * i → ab_sh h1 b = ab_sh h b := fun b hb => (e1.2.2.2 b (by omega)).trans (ab_sh_nw_ne hN (by omega))
    have hB : ∀ b, b < a + 21 + 3 * i → ∀ j, f1 b j = f b j ∧ g1 b j = g b j ∧ l1 b j = l b j := fun b hb j => by
      obtain ⟨w1, w2, w3⟩ := e4 b (by omega) (by omega) j
      exact ⟨w1.trans (ab_zf_ne (by omega)), w2.trans (ab_zg_ne (by omega)), w3.trans (ab_zl_ne (by omega))⟩
    have eG := (Grew.new (h := h) (kd := 13) (n := 0) (w := 6)).trans e1
    have q4 : ab_sh h1 (a + 2) = (4, 8) := (hA _ (by omega)).trans t5
    have q5 : ab_sh h1 (a + 21 + 3 * i) = (13, 0) := e2.1
    simp (disch := first | exact ab_dN (by assumption) (by omega) | exact ab_dNA (by assumption) (by omega) (by omega) | exact ab_dAs (by assumption) (by assumption) (by omega) (by omega) (by omega) | first | assumption | exact id rfl | omega | exact ab_dK (by assumption) | exact ab_dL (by assumption) (by omega) | exact ab_dI (by assumption) (by omega) (by omega) | exact ab_dIs (by assumption) (by omega) (by omega) | exact ab_isA_rf _ | exact nI_ne0 (by omega) (by omega) | exact Nat.le_of_ble_eq_true rfl | exact ab_dA (by assumption) (by omega) (by omega) (by omega) | exact id (Or.inl rfl) | exact id (Or.inr rfl) | exact ab_b01 | exact ab_dJ (by assumption) (by omega) (by omega) | exact ab_dI6 (by assumption) (by omega) (by omega) | fail) only [i21_0, i21_1, i21_4, i21_5, i21_7, i21_10, i21_13, i21_14, i21_16, i21_19, i21_22, i21_23, i21_24, i21_27, i21_28, i21_29, i21_32, i21_33, i21_34, i21_37, i21_38, i21_39, i21_42, i21_43, i21_44, i21_47, i21_48, i21_50, i21_51, i21_54, i21_55, i21_58, i21_59, i21_62, i21_63, i21_66, i21_67, i21_70, i21_71, i21_74, i21_77, i21_78, i21_80, i21_81, i21_84, i21_85, i21_88, i21_89, i21_92, i21_93, i21_96, i21_97, i21_100, i21_101, i21_104, i21_107, ab_isA_rf, ab_clr_int, ab_clr_ref, ab_clr_null, ab_clr_rf, ab_clr_nov, ab_clr_long, ab_clr_dbl, ab_rf_some, ab_rf_none, ab_hi_S, ab_hr_S, ab_hl_S, ab_sh_S, ab_setI_S, ab_setR_S, ab_setL_S, ab_thr_S, ab_K_ret, ab_K_void, List.length_cons, List.length_nil, Nat.reduceAdd, Nat.reduceMul, ite_not, reduceIte, ab_nadd, ab_nmul, ab_nsub, ab_nclamp, ab_nlt, ab_nle, ab_neq, ab_nlt0, ab_n0lt, ab_nle0, ab_nle00, ab_neq0, ab_nm1, ab_m1n, ab_m1lt, ab_nltm1, ab_nlem1, ab_m1le, ab_m1lt0, ab_0lem1, ab_m1eq0, ab_m1eqm1, ab_ltT, ab_ltF, ab_leT, ab_leF, ab_eqT, ab_eqF, ab_b0, ab_not_true, ab_not_false, ab_u_at, ab_u_ne, ab_u_eq, Nat.add_zero, Nat.zero_add, ab_new_S, ab_nx_S, hN, q4]
    refine ih (i + 1) h1 f1 _ l1 (by omega) ⟨⟨by have := eG.1; omega, by have := eG.2.1; omega, by have := eG.2.2.1; omega, fun b hb => (hA b (by omega)).trans (n4 b hb)⟩, ⟨(hA _ (by omega)).trans t1, ?_, ?_, (hA _ (by omega)).trans t4, q4⟩, ?_, fun k hk => ⟨?_, ?_, ?_⟩, fun k hk => ?_, fun b hb j => ⟨?_, ?_, ?_⟩⟩
    · rw [ab_u_ne (by omega)]; exact (hB a (by omega) 0).2.1.trans t2
    · rw [ab_u_ne (by omega)]; exact (hB a (by omega) 1).2.1.trans t3
    · rw [(hB a (by omega) 2).1, (hB a (by omega) 3).1, (hB a (by omega) 4).1, (hB a (by omega) 5).1, (hB a (by omega) 6).1]; exact tf
    · rw [ab_u_ne (by omega)]; exact (hB _ (by omega) k).2.1.trans (mr k hk).1
    · exact (mr k hk).2.1.same (fun b h1 h2 => hA b (by omega)) (fun b h1 h2 j => (ab_u_ne (by omega)).trans (hB b (by omega) j).2.1)
    · exact (mr k hk).2.2.same (fun b h1 h2 j => (hB b (by omega) j).1)
    · by_cases e : k = i
      · subst e
        exact ⟨ab_u_at _ _ _ _, e2.same (fun _ _ _ => rfl) (fun b h1 h2 j => ab_u_ne (by omega))⟩
      · obtain ⟨w1, w2⟩ := ms k (by omega)
        exact ⟨(ab_u_ne (by omega)).trans ((hB _ (by omega) k).2.1.trans w1), w2.same (fun b h1 h2 => hA b (by omega)) (fun b h1 h2 j => (ab_u_ne (by omega)).trans (hB b (by omega) j).2.1)⟩
    · exact (hB b (by omega) j).1.trans (mk b hb j).1
    · rw [ab_u_ne (by omega)]; exact (hB b (by omega) j).2.1.trans (mk b hb j).2.1
    · exact (hB b (by omega) j).2.2.trans (mk b hb j).2.2
set_option maxHeartbeats 4000000 in
theorem t_made_rooms {h0 : ab_Hp} (hQ : ∀ h f g l, Made h0 f0 g0 l0 a 6 8 h f g l → Q (.inl none) (ab_S h f g l)) : ∀ (c i : Nat) (h : ab_Hp) (f : Nat → Nat → Int32) (g : Nat → Nat → Option Nat) (l : Nat → Nat → Int64), i + c = 6 → Made h0 f0 g0 l0 a i 0 h f g l →
    wp 21 49 [.ref a, .int (nI i)] [] (ab_S h f g l) Q := by
  intro c
  induction c with
  | zero =>
    intro i h f g l hi m
    have e : i = 6 := by omega
    subst e
    have m' := m
    obtain ⟨⟨n1, n2, n3, n4⟩, ⟨t1, t2, t3, t4, t5⟩, tf, mr, ms, mk⟩ := m
    simp (disch := first | exact ab_dN (by assumption) (by omega) | exact ab_dNA (by assumption) (by omega) (by omega) | exact ab_dAs (by assumption) (by assumption) (by omega) (by omega) (by omega) | first | assumption | exact id rfl | omega | exact ab_dK (by assumption) | exact ab_dL (by assumption) (by omega) | exact ab_dI (by assumption) (by omega) (by omega) | exact ab_dIs (by assumption) (by omega) (by omega) | exact ab_isA_rf _ | exact nI_ne0 (by omega) (by omega) | exact Nat.le_of_ble_eq_true rfl | exact ab_dA (by assumption) (by omega) (by omega) (by omega) | exact id (Or.inl rfl) | exact id (Or.inr rfl) | exact ab_b01 | exact ab_dJ (by assumption) (by omega) (by omega) | exact ab_dI6 (by assumption) (by omega) (by omega) | fail) only [i21_49, i21_0, i21_1, i21_4, i21_5, i21_7, i21_10, i21_13, i21_14, i21_16, i21_19, i21_22, i21_23, i21_24, i21_27, i21_28, i21_29, i21_32, i21_33, i21_34, i21_37, i21_38, i21_39, i21_42, i21_43, i21_44, i21_47, i21_48, i21_50, i21_51, i21_54, i21_55, i21_58, i21_59, i21_62, i21_63, i21_66, i21_67, i21_70, i21_71, i21_74, i21_77, i21_78, i21_80, i21_81, i21_84, i21_85, i21_88, i21_89, i21_92, i21_93, i21_96, i21_97, i21_100, i21_101, i21_104, i21_107, ab_isA_rf, ab_clr_int, ab_clr_ref, ab_clr_null, ab_clr_rf, ab_clr_nov, ab_clr_long, ab_clr_dbl, ab_rf_some, ab_rf_none, ab_hi_S, ab_hr_S, ab_hl_S, ab_sh_S, ab_setI_S, ab_setR_S, ab_setL_S, ab_thr_S, ab_K_ret, ab_K_void, List.length_cons, List.length_nil, Nat.reduceAdd, Nat.reduceMul, ite_not, reduceIte, ab_nadd, ab_nmul, ab_nsub, ab_nclamp, ab_nlt, ab_nle, ab_neq, ab_nlt0, ab_n0lt, ab_nle0, ab_nle00, ab_neq0, ab_nm1, ab_m1n, ab_m1lt, ab_nltm1, ab_nlem1, ab_m1le, ab_m1lt0, ab_0lem1, ab_m1eq0, ab_m1eqm1, ab_ltT, ab_ltF, ab_leT, ab_leF, ab_eqT, ab_eqF, ab_b0, ab_not_true, ab_not_false, ab_u_at, ab_u_ne, ab_u_eq, Nat.add_zero, Nat.zero_add, ab_new_S, ab_nx_S, t1, t2, t3, t4, t5]
    exact t_made_seams hQ 8 0 h f g l (by omega) m'
  | succ c ih =>
    intro i h f g l hi m
    obtain ⟨⟨n1, n2, n3, n4⟩, ⟨t1, t2, t3, t4, t5⟩, tf, mr, ms, mk⟩ := m
    have hN : ab_nx h = a + 3 + 3 * i := by omega
    have hN0 : a + 3 + 3 * i ≠ 0 := by omega
    have k1 : ab_sh (ab_nw h 12 0 11) (a + 3 + 3 * i) = (12, 0) := ab_sh_nw_at hN
    have hN2 : ab_nx (ab_nw h 12 0 11) = a + 3 + 3 * i + 1 := ab_nx_nw hN
    simp (disch := first | exact ab_dN (by assumption) (by omega) | exact ab_dNA (by assumption) (by omega) (by omega) | exact ab_dAs (by assumption) (by assumption) (by omega) (by omega) (by omega) | first | assumption | exact id rfl | omega | exact ab_dK (by assumption) | exact ab_dL (by assumption) (by omega) | exact ab_dI (by assumption) (by omega) (by omega) | exact ab_dIs (by assumption) (by omega) (by omega) | exact ab_isA_rf _ | exact nI_ne0 (by omega) (by omega) | exact Nat.le_of_ble_eq_true rfl | exact ab_dA (by assumption) (by omega) (by omega) (by omega) | exact id (Or.inl rfl) | exact id (Or.inr rfl) | exact ab_b01 | exact ab_dJ (by assumption) (by omega) (by omega) | exact ab_dI6 (by assumption) (by omega) (by omega) | fail) only [i21_49, i21_0, i21_1, i21_4, i21_5, i21_7, i21_10, i21_13, i21_14, i21_16, i21_19, i21_22, i21_23, i21_24, i21_27, i21_28, i21_29, i21_32, i21_33, i21_34, i21_37, i21_38, i21_39, i21_42, i21_43, i21_44, i21_47, i21_48, i21_50, i21_51, i21_54, i21_55, i21_58, i21_59, i21_62, i21_63, i21_66, i21_67, i21_70, i21_71, i21_74, i21_77, i21_78, i21_80, i21_81, i21_84, i21_85, i21_88, i21_89, i21_92, i21_93, i21_96, i21_97, i21_100, i21_101, i21_104, i21_107, ab_isA_rf, ab_clr_int, ab_clr_ref, ab_clr_null, ab_clr_rf, ab_clr_nov, ab_clr_long, ab_clr_dbl, ab_rf_some, ab_rf_none, ab_hi_S, ab_hr_S, ab_hl_S, ab_sh_S, ab_setI_S, ab_setR_S, ab_setL_S, ab_thr_S, ab_K_ret, ab_K_void, List.length_cons, List.length_nil, Nat.reduceAdd, Nat.reduceMul, ite_not, reduceIte, ab_nadd, ab_nmul, ab_nsub, ab_nclamp, ab_nlt, ab_nle, ab_neq, ab_nlt0, ab_n0lt, ab_nle0, ab_nle00, ab_neq0, ab_nm1, ab_m1n, ab_m1lt, ab_nltm1, ab_nlem1, ab_m1le, ab_m1lt0, ab_0lem1, ab_m1eq0, ab_m1eqm1, ab_ltT, ab_ltF, ab_leT, ab_leF, ab_eqT, ab_eqF, ab_b0, ab_not_true, ab_not_false, ab_u_at, ab_u_ne, ab_u_eq, Nat.add_zero, Nat.zero_add, ab_new_S, ab_nx_S, hN, t2, t3, t4, t5]
    refine t_room_init k1 hN2 (fun h1 f1 g1 l1 e1 e2 e3 e4 => ?_)
    have hA : ∀ b, b < a + 3 + 3 * i → ab_sh h1 b = ab_sh h b := fun b hb => (e1.2.2.2 b (by omega)).trans (ab_sh_nw_ne hN (by omega))
    have hB : ∀ b, b < a + 3 + 3 * i → ∀ j, f1 b j = f b j ∧ g1 b j = g b j ∧ l1 b j = l b j := fun b hb j => by
      obtain ⟨w1, w2, w3⟩ := e4 b (by omega) (by omega) j
      exact ⟨w1.trans (ab_zf_ne (by omega)), w2.trans (ab_zg_ne (by omega)), w3.trans (ab_zl_ne (by omega))⟩
    have eG := (Grew.new (h := h) (kd := 12) (n := 0) (w := 11)).trans e1
    have q4 : ab_sh h1 (a + 1) = (3, 6) := (hA _ (by omega)).trans t4
    have q5 : ab_sh h1 (a + 3 + 3 * i) = (12, 0) := e2.1
    simp (disch := first | exact ab_dN (by assumption) (by omega) | exact ab_dNA (by assumption) (by omega) (by omega) | exact ab_dAs (by assumption) (by assumption) (by omega) (by omega) (by omega) | first | assumption | exact id rfl | omega | exact ab_dK (by assumption) | exact ab_dL (by assumption) (by omega) | exact ab_dI (by assumption) (by omega) (by omega) | exact ab_dIs (by assumption) (by omega) (by omega) | exact ab_isA_rf _ | exact nI_ne0 (by omega) (by omega) | exact Nat.le_of_ble_eq_true rfl | exact ab_dA (by assumption) (by omega) (by omega) (by omega) | exact id (Or.inl rfl) | exact id (Or.inr rfl) | exact ab_b01 | exact ab_dJ (by assumption) (by omega) (by omega) | exact ab_dI6 (by assumption) (by omega) (by omega) | fail) only [i21_0, i21_1, i21_4, i21_5, i21_7, i21_10, i21_13, i21_14, i21_16, i21_19, i21_22, i21_23, i21_24, i21_27, i21_28, i21_29, i21_32, i21_33, i21_34, i21_37, i21_38, i21_39, i21_42, i21_43, i21_44, i21_47, i21_48, i21_50, i21_51, i21_54, i21_55, i21_58, i21_59, i21_62, i21_63, i21_66, i21_67, i21_70, i21_71, i21_74, i21_77, i21_78, i21_80, i21_81, i21_84, i21_85, i21_88, i21_89, i21_92, i21_93, i21_96, i21_97, i21_100, i21_101, i21_104, i21_107, ab_isA_rf, ab_clr_int, ab_clr_ref, ab_clr_null, ab_clr_rf, ab_clr_nov, ab_clr_long, ab_clr_dbl, ab_rf_some, ab_rf_none, ab_hi_S, ab_hr_S, ab_hl_S, ab_sh_S, ab_setI_S, ab_setR_S, ab_setL_S, ab_thr_S, ab_K_ret, ab_K_void, List.length_cons, List.length_nil, Nat.reduceAdd, Nat.reduceMul, ite_not, reduceIte, ab_nadd, ab_nmul, ab_nsub, ab_nclamp, ab_nlt, ab_nle, ab_neq, ab_nlt0, ab_n0lt, ab_nle0, ab_nle00, ab_neq0, ab_nm1, ab_m1n, ab_m1lt, ab_nltm1, ab_nlem1, ab_m1le, ab_m1lt0, ab_0lem1, ab_m1eq0, ab_m1eqm1, ab_ltT, ab_ltF, ab_leT, ab_leF, ab_eqT, ab_eqF, ab_b0, ab_not_true, ab_not_false, ab_u_at, ab_u_ne, ab_u_eq, Nat.add_zero, Nat.zero_add, ab_new_S, ab_nx_S, hN, q4]
    refine ih (i + 1) h1 f1 _ l1 (by omega) ⟨⟨by have := eG.1; omega, by have := eG.2.1; omega, by have := eG.2.2.1; omega, fun b hb => (hA b (by omega)).trans (n4 b hb)⟩, ⟨(hA _ (by omega)).trans t1, ?_, ?_, q4, (hA _ (by omega)).trans t5⟩, ?_, fun k hk => ?_, fun k hk => by omega, fun b hb j => ⟨?_, ?_, ?_⟩⟩
    · rw [ab_u_ne (by omega)]; exact (hB a (by omega) 0).2.1.trans t2
    · rw [ab_u_ne (by omega)]; exact (hB a (by omega) 1).2.1.trans t3
    · rw [(hB a (by omega) 2).1, (hB a (by omega) 3).1, (hB a (by omega) 4).1, (hB a (by omega) 5).1, (hB a (by omega) 6).1]; exact tf
    · by_cases e : k = i
      · subst e
        exact ⟨ab_u_at _ _ _ _, e2.same (fun _ _ _ => rfl) (fun b h1 h2 j => ab_u_ne (by omega)), e3⟩
      · obtain ⟨w1, w2, w3⟩ := mr k (by omega)
        exact ⟨(ab_u_ne (by omega)).trans ((hB _ (by omega) k).2.1.trans w1), w2.same (fun b h1 h2 => hA b (by omega)) (fun b h1 h2 j => (ab_u_ne (by omega)).trans (hB b (by omega) j).2.1), w3.same (fun b h1 h2 j => (hB b (by omega) j).1)⟩
    · exact (hB b (by omega) j).1.trans (mk b hb j).1
    · rw [ab_u_ne (by omega)]; exact (hB b (by omega) j).2.1.trans (mk b hb j).2.1
    · exact (hB b (by omega) j).2.2.trans (mk b hb j).2.2
end AbMake2
