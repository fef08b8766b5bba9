/-! One tick of a State at a. -/
section AbHand
variable {h : ab_Hp} {f f' f0 : Nat → Nat → Int32} {g : Nat → Nat → Option Nat} {l : Nat → Nat → Int64} {Q : ab_O → ab_Hp → Prop} {a : Nat} {z z' : Nat → Int32}
theorem ab_u_mdrop {a n i b k : Nat} {x : Int32} (h : b ≠ a ∧ b ≠ a + 1) : ab_u (ab_mdrop f a n i) b k x = ab_mdrop (ab_u f b k x) a n i := by
  funext b' j
  simp only [ab_u, ab_mdrop]
  by_cases h1 : b' = b ∧ j = k
  · rw [if_pos h1, if_neg (by omega), if_neg (by omega), if_pos h1]
  · rw [if_neg h1]
    split
    · rfl
    · split
      · rw [if_neg (by omega)]
      · rfl
set_option maxHeartbeats 8000000 in
theorem t_hand {i : Nat} (sk : SkState (ab_sh h) g a) (p : PicF f0 a f z) (v : InvZ z) (hi : i < 6) (hQ : ∀ f', PicF f0 a f' (handZ z i) → Q (.inl none) (ab_S h f' g l)) :
    wp 29 0 [.ref a, .ref (a + 3 + 3 * i), ab_nov, ab_nov, ab_nov] [] (ab_S h f g l) Q := by
  have sk' := sk
  obtain ⟨⟨s0, g0, g1, s1, s2⟩, hr, hs⟩ := sk
  obtain ⟨e1, e2, e3, e4, e5, e6⟩ := hr i hi
  have px := p.2.1
  have hlen := (px.room hi).len (v.2.1 i hi)
  have hq8 := (v.2.1 i hi).2.2.2.1.2
  have hz4 := (v.2.1 i hi).2.2.2.1.1
  have hns := px.ns v
  have hn8 := v.1.2
  have c4 : f (a + 3 + 3 * i) 4 = z (6 + 27 * i + 3) := (px.room hi).1 3 (by omega)
  have c7 : f (a + 3 + 3 * i) 7 = z (6 + 27 * i + 7) := (px.room hi).1 7 (by omega)
  have c8 : f (a + 3 + 3 * i) 8 = z (6 + 27 * i + 8) := (px.room hi).1 8 (by omega)
  have d5 : f a 5 = z 3 := px.1.2.2.2.1
  by_cases hq : ab_q z i = 0
  · rw [hq] at hlen
    simp (disch := first | assumption | exact id rfl | omega | exact ab_dK (by assumption) | exact ab_dL (by assumption) (by omega) | exact ab_dI (by assumption) (by omega) (by omega) | exact ab_dIs (by assumption) (by omega) (by omega) | exact ab_isA_rf _ | exact nI_ne0 (by omega) (by omega) | exact Nat.le_of_ble_eq_true rfl | exact ab_dA (by assumption) (by omega) (by omega) (by omega) | exact id (Or.inl rfl) | exact id (Or.inr rfl) | exact ab_b01 | exact ab_dJ (by assumption) (by omega) (by omega) | exact ab_dI6 (by assumption) (by omega) (by omega) | fail) only [i29_0, i29_1, i29_4, i29_7, i29_10, i29_11, i29_12, i29_15, i29_16, i29_17, i29_20, i29_21, i29_22, i29_25, i29_26, i29_27, i29_30, i29_31, i29_32, i29_33, i29_36, i29_39, i29_41, i29_43, i29_43r, i29_43n, i29_46, i29_47, i29_50, i29_53, i29_54, i29_55, i29_58, i29_59, i29_60, i29_63, i29_64, i29_65, i29_68, i29_69, i29_70, i29_73, i29_74, i29_75, i29_78, i29_79, i29_80, i29_83, i29_86, i29_88, i29_91, i29_94, i29_96, i29_99, i29_102, i29_103, i29_106, i29_109, i29_111, i29_114, i29_115, i29_116, i29_119, i29_121, i29_122, i29_125, i29_126, i29_127, i29_130, i29_133, i29_134, i29_135, i29_138, i29_139, i29_140, i29_143, ab_isA_rf, ab_clr_int, ab_clr_ref, ab_clr_null, ab_clr_rf, ab_clr_nov, ab_clr_long, ab_clr_dbl, ab_rf_some, ab_rf_none, ab_hi_S, ab_hr_S, ab_hl_S, ab_sh_S, ab_setI_S, ab_setR_S, ab_setL_S, ab_thr_S, ab_K_ret, ab_K_void, List.length_cons, List.length_nil, Nat.reduceAdd, Nat.reduceMul, ite_not, reduceIte, ab_nadd, ab_nmul, ab_nsub, ab_nclamp, ab_nlt, ab_nle, ab_neq, ab_nlt0, ab_n0lt, ab_nle0, ab_nle00, ab_neq0, ab_nm1, ab_m1n, ab_m1lt, ab_nltm1, ab_nlem1, ab_m1le, ab_m1lt0, ab_0lem1, ab_m1eq0, ab_m1eqm1, ab_ltT, ab_ltF, ab_leT, ab_leF, ab_eqT, ab_eqF, ab_b0, ab_not_true, ab_not_false, ab_u_at, ab_u_ne, ab_u_eq, Nat.add_zero, Nat.zero_add, e3, hlen]
    refine hQ f ?_
    unfold handZ
    rw [if_pos hq]
    exact p
  · have hqp : 0 < ab_q z i := by omega
    have x0 : f (a + 3 + 3 * i + 1 + 1) (3 * 0 + 0) = z (6 + 27 * i + 11) := ((px.room hi).2 0 hqp).1
    have x1 : f (a + 3 + 3 * i + 1 + 1) (3 * 0 + 1) = z (6 + 27 * i + (11 + 1)) := ((px.room hi).2 0 hqp).2
    have hqn : ¬ nI (ab_q z i) = 0 := nI_ne0 (by omega) (by omega)
    rcases (v.2.1 i hi).2.2.1 with hr1 | ⟨s, hr1, hsn⟩
    · simp (disch := first | assumption | exact id rfl | omega | exact ab_dK (by assumption) | exact ab_dL (by assumption) (by omega) | exact ab_dI (by assumption) (by omega) (by omega) | exact ab_dIs (by assumption) (by omega) (by omega) | exact ab_isA_rf _ | exact nI_ne0 (by omega) (by omega) | exact Nat.le_of_ble_eq_true rfl | exact ab_dA (by assumption) (by omega) (by omega) (by omega) | exact id (Or.inl rfl) | exact id (Or.inr rfl) | exact ab_b01 | exact ab_dJ (by assumption) (by omega) (by omega) | exact ab_dI6 (by assumption) (by omega) (by omega) | fail) only [i29_0, i29_1, i29_4, i29_7, i29_10, i29_11, i29_12, i29_15, i29_16, i29_17, i29_20, i29_21, i29_22, i29_25, i29_26, i29_27, i29_30, i29_31, i29_32, i29_33, i29_36, i29_39, i29_41, i29_43, i29_43r, i29_43n, i29_46, i29_47, i29_50, i29_53, i29_54, i29_55, i29_58, i29_59, i29_60, i29_63, i29_64, i29_65, i29_68, i29_69, i29_70, i29_73, i29_74, i29_75, i29_78, i29_79, i29_80, i29_83, i29_86, i29_88, i29_91, i29_94, i29_96, i29_99, i29_102, i29_103, i29_106, i29_109, i29_111, i29_114, i29_115, i29_116, i29_119, i29_121, i29_122, i29_125, i29_126, i29_127, i29_130, i29_133, i29_134, i29_135, i29_138, i29_139, i29_140, i29_143, ab_isA_rf, ab_clr_int, ab_clr_ref, ab_clr_null, ab_clr_rf, ab_clr_nov, ab_clr_long, ab_clr_dbl, ab_rf_some, ab_rf_none, ab_hi_S, ab_hr_S, ab_hl_S, ab_sh_S, ab_setI_S, ab_setR_S, ab_setL_S, ab_thr_S, ab_K_ret, ab_K_void, List.length_cons, List.length_nil, Nat.reduceAdd, Nat.reduceMul, ite_not, reduceIte, ab_nadd, ab_nmul, ab_nsub, ab_nclamp, ab_nlt, ab_nle, ab_neq, ab_nlt0, ab_n0lt, ab_nle0, ab_nle00, ab_neq0, ab_nm1, ab_m1n, ab_m1lt, ab_nltm1, ab_nlem1, ab_m1le, ab_m1lt0, ab_0lem1, ab_m1eq0, ab_m1eqm1, ab_ltT, ab_ltF, ab_leT, ab_leF, ab_eqT, ab_eqF, ab_b0, ab_not_true, ab_not_false, ab_u_at, ab_u_ne, ab_u_eq, Nat.add_zero, Nat.zero_add, e3, hlen, hqn, t_cellAt (n := ab_q z i) e4 e6 e5, x0, x1, c4, hr1, t_seamAtN (x := -1) sk' hns hn8 (Or.inl (by decide)), t_drop e4 e6 e5 hlen hqp hq8, ab_mdrop_ne, c8, d5, ab_u_mdrop, if_pos hqp]
      refine hQ _ ?_
      unfold handZ
      rw [if_neg hq, if_pos hr1]
      have p2 := ((((p.rfield (k := 8) (c := 8) (x := z (6 + 27 * i + 8) + nI 1) hi (by omega) (by omega) (by omega)).rfield (k := 9) (c := 9) (x := z (6 + 27 * i + (11 + 1))) hi (by omega) (by omega) (by omega)).out2 (x := z 2 + nI 1)).top (c := 5) (k := 3) (x := z 3 + z (6 + 27 * i + (11 + 1))) (by omega)).top (c := 6) (k := 4) (x := z (6 + 27 * i + 11)) (by omega)
      exact p2.drop hi (ab_q_same (by simp (disch := first | assumption | exact id rfl | omega | exact ab_dK (by assumption) | exact ab_dL (by assumption) (by omega) | exact ab_dI (by assumption) (by omega) (by omega) | exact ab_dIs (by assumption) (by omega) (by omega) | exact ab_isA_rf _ | exact nI_ne0 (by omega) (by omega) | exact Nat.le_of_ble_eq_true rfl | exact ab_dA (by assumption) (by omega) (by omega) (by omega) | exact id (Or.inl rfl) | exact id (Or.inr rfl) | exact ab_b01 | exact ab_dJ (by assumption) (by omega) (by omega) | exact ab_dI6 (by assumption) (by omega) (by omega) | fail) only [ab_upd_ne])) hqp
    · obtain ⟨f1, f2, f3, f4, f5, f6⟩ := hs s (by omega)
      have hsl := (px.seam hsn).len (v.2.2.1 s hsn)
      obtain ⟨-, -, ⟨sz, hsz, hsz6, hsz7⟩, -, ho4, ho6⟩ := v.2.2.1 s hsn
      have c3 : f (a + 21 + 3 * s) 3 = nI sz := ((px.seam hsn).1 2 (by omega)).trans hsz
      have c5 : f (a + 21 + 3 * s) 5 = z (168 + 24 * s + 5) := (px.seam hsn).1 5 (by omega)
      have hsl' : ab_mdrop f (a + 3 + 3 * i + 1) (ab_q z i) (3 * (ab_q z i - 1)) (a + 21 + 3 * s + 1) 1 = nI (ab_on z s) := (ab_mdrop_ne (by omega)).trans hsl
      by_cases hfull : ab_on z s < sz
      · simp (disch := first | assumption | exact id rfl | omega | exact ab_dK (by assumption) | exact ab_dL (by assumption) (by omega) | exact ab_dI (by assumption) (by omega) (by omega) | exact ab_dIs (by assumption) (by omega) (by omega) | exact ab_isA_rf _ | exact nI_ne0 (by omega) (by omega) | exact Nat.le_of_ble_eq_true rfl | exact ab_dA (by assumption) (by omega) (by omega) (by omega) | exact id (Or.inl rfl) | exact id (Or.inr rfl) | exact ab_b01 | exact ab_dJ (by assumption) (by omega) (by omega) | exact ab_dI6 (by assumption) (by omega) (by omega) | fail) only [i29_0, i29_1, i29_4, i29_7, i29_10, i29_11, i29_12, i29_15, i29_16, i29_17, i29_20, i29_21, i29_22, i29_25, i29_26, i29_27, i29_30, i29_31, i29_32, i29_33, i29_36, i29_39, i29_41, i29_43, i29_43r, i29_43n, i29_46, i29_47, i29_50, i29_53, i29_54, i29_55, i29_58, i29_59, i29_60, i29_63, i29_64, i29_65, i29_68, i29_69, i29_70, i29_73, i29_74, i29_75, i29_78, i29_79, i29_80, i29_83, i29_86, i29_88, i29_91, i29_94, i29_96, i29_99, i29_102, i29_103, i29_106, i29_109, i29_111, i29_114, i29_115, i29_116, i29_119, i29_121, i29_122, i29_125, i29_126, i29_127, i29_130, i29_133, i29_134, i29_135, i29_138, i29_139, i29_140, i29_143, ab_isA_rf, ab_clr_int, ab_clr_ref, ab_clr_null, ab_clr_rf, ab_clr_nov, ab_clr_long, ab_clr_dbl, ab_rf_some, ab_rf_none, ab_hi_S, ab_hr_S, ab_hl_S, ab_sh_S, ab_setI_S, ab_setR_S, ab_setL_S, ab_thr_S, ab_K_ret, ab_K_void, List.length_cons, List.length_nil, Nat.reduceAdd, Nat.reduceMul, ite_not, reduceIte, ab_nadd, ab_nmul, ab_nsub, ab_nclamp, ab_nlt, ab_nle, ab_neq, ab_nlt0, ab_n0lt, ab_nle0, ab_nle00, ab_neq0, ab_nm1, ab_m1n, ab_m1lt, ab_nltm1, ab_nlem1, ab_m1le, ab_m1lt0, ab_0lem1, ab_m1eq0, ab_m1eqm1, ab_ltT, ab_ltF, ab_leT, ab_leF, ab_eqT, ab_eqF, ab_b0, ab_not_true, ab_not_false, ab_u_at, ab_u_ne, ab_u_eq, Nat.add_zero, Nat.zero_add, e3, hlen, hqn, t_cellAt (n := ab_q z i) e4 e6 e5, x0, x1, c4, hr1, t_seamAt sk' hns hn8 hsn, f3, hsl, c3, t_drop e4 e6 e5 hlen hqp hq8, ab_mdrop_ne, t_add (n := ab_on z s) f4 f6 f5 hsl' (by omega), c5, ab_u_mdrop, if_pos hqp]
        refine hQ _ ?_
        unfold handZ
        rw [if_neg hq, if_neg (by rw [hr1, ab_nm1 (by omega)]; exact fun h => h)]
        simp only [hr1, ab_nclamp (show s < 2147483648 by omega)]
        rw [if_pos (by rw [ho4, hsz, ab_nlt (by omega) (by omega)]; exact hfull)]
        have p2 := (p.senter (x := z (6 + 27 * i + 11)) (y := z (6 + 27 * i + (11 + 1))) hsn rfl (by omega)).sfield (i := s) (k := 5) (c := 5) (x := z (168 + 24 * s + 5) + nI 1) (by rw [ab_ns_same (z := z) (by unfold senterZ; simp (disch := first | assumption | exact id rfl | omega | exact ab_dK (by assumption) | exact ab_dL (by assumption) (by omega) | exact ab_dI (by assumption) (by omega) (by omega) | exact ab_dIs (by assumption) (by omega) (by omega) | exact ab_isA_rf _ | exact nI_ne0 (by omega) (by omega) | exact Nat.le_of_ble_eq_true rfl | exact ab_dA (by assumption) (by omega) (by omega) (by omega) | exact id (Or.inl rfl) | exact id (Or.inr rfl) | exact ab_b01 | exact ab_dJ (by assumption) (by omega) (by omega) | exact ab_dI6 (by assumption) (by omega) (by omega) | fail) only [ab_upd_ne])]; exact hsn) (by omega) (by omega) (by omega)
        exact p2.drop hi (ab_q_same (by unfold senterZ; simp (disch := first | assumption | exact id rfl | omega | exact ab_dK (by assumption) | exact ab_dL (by assumption) (by omega) | exact ab_dI (by assumption) (by omega) (by omega) | exact ab_dIs (by assumption) (by omega) (by omega) | exact ab_isA_rf _ | exact nI_ne0 (by omega) (by omega) | exact Nat.le_of_ble_eq_true rfl | exact ab_dA (by assumption) (by omega) (by omega) (by omega) | exact id (Or.inl rfl) | exact id (Or.inr rfl) | exact ab_b01 | exact ab_dJ (by assumption) (by omega) (by omega) | exact ab_dI6 (by assumption) (by omega) (by omega) | fail) only [ab_upd_ne])) hqp
      · simp (disch := first | assumption | exact id rfl | omega | exact ab_dK (by assumption) | exact ab_dL (by assumption) (by omega) | exact ab_dI (by assumption) (by omega) (by omega) | exact ab_dIs (by assumption) (by omega) (by omega) | exact ab_isA_rf _ | exact nI_ne0 (by omega) (by omega) | exact Nat.le_of_ble_eq_true rfl | exact ab_dA (by assumption) (by omega) (by omega) (by omega) | exact id (Or.inl rfl) | exact id (Or.inr rfl) | exact ab_b01 | exact ab_dJ (by assumption) (by omega) (by omega) | exact ab_dI6 (by assumption) (by omega) (by omega) | fail) only [i29_0, i29_1, i29_4, i29_7, i29_10, i29_11, i29_12, i29_15, i29_16, i29_17, i29_20, i29_21, i29_22, i29_25, i29_26, i29_27, i29_30, i29_31, i29_32, i29_33, i29_36, i29_39, i29_41, i29_43, i29_43r, i29_43n, i29_46, i29_47, i29_50, i29_53, i29_54, i29_55, i29_58, i29_59, i29_60, i29_63, i29_64, i29_65, i29_68, i29_69, i29_70, i29_73, i29_74, i29_75, i29_78, i29_79, i29_80, i29_83, i29_86, i29_88, i29_91, i29_94, i29_96, i29_99, i29_102, i29_103, i29_106, i29_109, i29_111, i29_114, i29_115, i29_116, i29_119, i29_121, i29_122, i29_125, i29_126, i29_127, i29_130, i29_133, i29_134, i29_135, i29_138, i29_139, i29_140, i29_143, ab_isA_rf, ab_clr_int, ab_clr_ref, ab_clr_null, ab_clr_rf, ab_clr_nov, ab_clr_long, ab_clr_dbl, ab_rf_some, ab_rf_none, ab_hi_S, ab_hr_S, ab_hl_S, ab_sh_S, ab_setI_S, ab_setR_S, ab_setL_S, ab_thr_S, ab_K_ret, ab_K_void, List.length_cons, List.length_nil, Nat.reduceAdd, Nat.reduceMul, ite_not, reduceIte, ab_nadd, ab_nmul, ab_nsub, ab_nclamp, ab_nlt, ab_nle, ab_neq, ab_nlt0, ab_n0lt, ab_nle0, ab_nle00, ab_neq0, ab_nm1, ab_m1n, ab_m1lt, ab_nltm1, ab_nlem1, ab_m1le, ab_m1lt0, ab_0lem1, ab_m1eq0, ab_m1eqm1, ab_ltT, ab_ltF, ab_leT, ab_leF, ab_eqT, ab_eqF, ab_b0, ab_not_true, ab_not_false, ab_u_at, ab_u_ne, ab_u_eq, Nat.add_zero, Nat.zero_add, e3, hlen, hqn, t_cellAt (n := ab_q z i) e4 e6 e5, x0, x1, c4, hr1, t_seamAt sk' hns hn8 hsn, f3, hsl, c3, c7, if_pos hqp]
        refine hQ _ ?_
        unfold handZ
        rw [if_neg hq, if_neg (by rw [hr1, ab_nm1 (by omega)]; exact fun h => h)]
        simp only [hr1, ab_nclamp (show s < 2147483648 by omega)]
        rw [if_neg (by rw [ho4, hsz, ab_nlt (by omega) (by omega)]; exact hfull)]
        exact p.rfield (k := 7) (c := 7) hi (by omega) (by omega) (by omega)
def grow1Z (z : Nat → Int32) (s : Nat) : Nat → Int32 := fun j => if 168 + 24 * s + 6 ≤ j ∧ j < 168 + 24 * s + 6 + 3 * ab_on z s ∧ (j - 168) % 3 = 2 ∧ z j < z (168 + 24 * s + 3) then z j + nI 1 else z j
theorem ab_grow1_ne {s j : Nat} (h : ¬ (168 + 24 * s + 6 ≤ j ∧ j < 168 + 24 * s + 6 + 3 * ab_on z s)) : grow1Z z s j = z j := by unfold grow1Z; rw [if_neg (fun q => h ⟨q.1, q.2.1⟩)]
theorem PicF.sgrow (p : PicF f0 a f z) {i q : Nat} (hi : i < ab_ns z) (hq : ab_on z i = q) : PicF f0 a (ab_mgrow f (a + 21 + 3 * i + 1) (z (168 + 24 * i + 3)) (3 * q)) (grow1Z z i) := by
  have hl := p.2.2.2.2 i hi
  have hp := p.2.1.2.2 i hi
  have hq' : ab_on (grow1Z z i) i = q := (ab_on_same (z := z) (ab_grow1_ne (by omega))).trans hq
  refine p.seam1 hi (fun b hb j => ab_mgrow_ne (by omega)) (fun j hj => ab_grow1_ne (by omega)) ⟨fun k' hk' => ?_, fun k' j hk' hj => ?_⟩ ⟨?_, ?_⟩
  · rw [ab_grow1_ne (by omega), ← hp.1 k' hk']
    unfold ab_sp
    rw [ab_mgrow_ne (by omega), ab_mgrow_ne (by omega), ab_mgrow_ne (by omega)]
  · rw [hq'] at hk'
    have h1 := hp.2 k' j (by omega) hj
    by_cases hj2 : j = 2
    · subst hj2
      unfold ab_mgrow grow1Z
      rw [hq, show a + 21 + 3 * i + 2 = a + 21 + 3 * i + 1 + 1 by omega] at *
      rw [h1]
      by_cases hx : z (168 + 24 * i + (6 + 3 * k' + 2)) < z (168 + 24 * i + 3)
      · rw [if_pos ⟨rfl, by omega, by omega, hx⟩, if_pos ⟨by omega, by omega, by omega, hx⟩]
      · rw [if_neg (fun q => hx q.2.2.2), if_neg (fun q => hx q.2.2.2)]
    · rw [ab_mgrow_ne (by omega)]
      unfold grow1Z
      rw [if_neg (by omega)]
      exact h1
  · rw [hq', ab_grow1_ne (by omega), ← hq]; exact hl.1
  · omega
theorem ab_growZ_low {i n j : Nat} (h : j < 168) : growZ z i n j = z j := by unfold growZ; rw [if_neg (by omega)]
theorem ab_growZ_head {i n s k : Nat} (hk : k < 6) : growZ z i n (168 + 24 * s + k) = z (168 + 24 * s + k) := by unfold growZ; rw [if_neg (by omega)]
theorem ab_growZ_late {i n s k : Nat} (hs : n ≤ s) (hk : k < 24) : growZ z i n (168 + 24 * s + k) = z (168 + 24 * s + k) := by unfold growZ; rw [if_neg (by omega)]
theorem ab_growZ_zero {i : Nat} : growZ z i 0 = z := by funext j; unfold growZ; rw [if_neg (by omega)]
theorem ab_growZ_ns {i n : Nat} : ab_ns (growZ z i n) = ab_ns z := ab_ns_same (ab_growZ_low (by omega))
theorem ab_growZ_on {i n s : Nat} : ab_on (growZ z i n) s = ab_on z s := ab_on_same (ab_growZ_head (by omega))
theorem ab_growZ_q {i n k : Nat} (hk : k < 6) : ab_q (growZ z i n) k = ab_q z k := ab_q_same (ab_growZ_low (by omega))
theorem ab_growZ_succ {i n : Nat} (h : z (168 + 24 * n + 1) = nI i) (ho : ab_on z n ≤ 6) : growZ z i (n + 1) = grow1Z (growZ z i n) n := by
  funext j
  unfold grow1Z
  rw [ab_growZ_on, ab_growZ_head (by omega)]
  by_cases hj : 168 + 24 * n + 6 ≤ j ∧ j < 168 + 24 * n + 24
  · have e1 : (j - 168) / 24 = n := by omega
    have e2 : growZ z i n j = z j := by unfold growZ; rw [if_neg (by omega)]
    rw [e2]
    unfold growZ
    rw [e1, h]
    by_cases hx : z j < z (168 + 24 * n + 3)
    · by_cases hy : 168 + 24 * n + 6 ≤ j ∧ j < 168 + 24 * n + 6 + 3 * ab_on z n ∧ (j - 168) % 3 = 2
      · rw [if_pos ⟨by omega, by omega, rfl, by omega, by omega, hy.2.2, hx⟩, if_pos ⟨hy.1, hy.2.1, hy.2.2, hx⟩]
      · rw [if_neg (by omega), if_neg (by omega)]
    · rw [if_neg (fun q => hx q.2.2.2.2.2.2), if_neg (fun q => hx q.2.2.2)]
  · rw [if_neg (by omega)]
    unfold growZ
    by_cases hd : (j - 168) / 24 = n
    · rw [if_neg (by omega), if_neg (by omega)]
    · have e : ((j - 168) / 24 < n + 1) = ((j - 168) / 24 < n) := propext ⟨fun h => by omega, fun h => by omega⟩
      simp only [e]
theorem ab_growZ_skip {i n : Nat} (h : ¬ z (168 + 24 * n + 1) = nI i) : growZ z i (n + 1) = growZ z i n := by
  funext j
  unfold growZ
  by_cases hd : (j - 168) / 24 = n
  · rw [hd, if_neg (fun q => h q.2.2.1), if_neg (by omega)]
  · have e : ((j - 168) / 24 < n + 1) = ((j - 168) / 24 < n) := propext ⟨fun h => by omega, fun h => by omega⟩
    simp only [e]
/-- the growing only touches ages: what the picture needs of the row stays -/
theorem t_growInto_loop {i : Nat} (sk : SkState (ab_sh h) g a) (v : InvZ z) (hi : i < 6) (hQ : ∀ f', PicF f0 a f' (growZ z i (ab_ns z)) → Q (.inl none) (ab_S h f' g l)) : ∀ (c s : Nat) (u : Value) (f : Nat → Nat → Int32), s + c = ab_ns z → PicF f0 a f (growZ z i s) →
    wp 30 2 [.ref a, .int (nI i), .int (nI s), ab_clr u] [] (ab_S h f g l) Q := by
  obtain ⟨⟨s0, g0, g1, s1, s2⟩, hr, hs⟩ := sk
  have hn8 := v.1.2
  intro c
  induction c with
  | zero =>
    intro s u f hsc p
    have e : s = ab_ns z := by omega
    have hns : f a 2 = nI (ab_ns z) := by rw [p.2.1.1.1, ab_growZ_low (by omega)]; exact v.1.1
    rw [← e] at hns hn8 hQ
    simp (disch := first | assumption | exact id rfl | omega | exact ab_dK (by assumption) | exact ab_dL (by assumption) (by omega) | exact ab_dI (by assumption) (by omega) (by omega) | exact ab_dIs (by assumption) (by omega) (by omega) | exact ab_isA_rf _ | exact nI_ne0 (by omega) (by omega) | exact Nat.le_of_ble_eq_true rfl | exact ab_dA (by assumption) (by omega) (by omega) (by omega) | exact id (Or.inl rfl) | exact id (Or.inr rfl) | exact ab_b01 | exact ab_dJ (by assumption) (by omega) (by omega) | exact ab_dI6 (by assumption) (by omega) (by omega) | fail) only [i30_2, ab_isA_rf, ab_clr_int, ab_clr_ref, ab_clr_null, ab_clr_rf, ab_clr_nov, ab_clr_long, ab_clr_dbl, ab_rf_some, ab_rf_none, ab_hi_S, ab_hr_S, ab_hl_S, ab_sh_S, ab_setI_S, ab_setR_S, ab_setL_S, ab_thr_S, ab_K_ret, ab_K_void, List.length_cons, List.length_nil, Nat.reduceAdd, Nat.reduceMul, ite_not, reduceIte, ab_nadd, ab_nmul, ab_nsub, ab_nclamp, ab_nlt, ab_nle, ab_neq, ab_nlt0, ab_n0lt, ab_nle0, ab_nle00, ab_neq0, ab_nm1, ab_m1n, ab_m1lt, ab_nltm1, ab_nlem1, ab_m1le, ab_m1lt0, ab_0lem1, ab_m1eq0, ab_m1eqm1, ab_ltT, ab_ltF, ab_leT, ab_leF, ab_eqT, ab_eqF, ab_b0, ab_not_true, ab_not_false, ab_u_at, ab_u_ne, ab_u_eq, Nat.add_zero, Nat.zero_add, hns, s2, g1]
    simp (disch := first | assumption | exact id rfl | omega | exact ab_dK (by assumption) | exact ab_dL (by assumption) (by omega) | exact ab_dI (by assumption) (by omega) (by omega) | exact ab_dIs (by assumption) (by omega) (by omega) | exact ab_isA_rf _ | exact nI_ne0 (by omega) (by omega) | exact Nat.le_of_ble_eq_true rfl | exact ab_dA (by assumption) (by omega) (by omega) (by omega) | exact id (Or.inl rfl) | exact id (Or.inr rfl) | exact ab_b01 | exact ab_dJ (by assumption) (by omega) (by omega) | exact ab_dI6 (by assumption) (by omega) (by omega) | fail) only [i30_0, i30_1, i30_3, i30_4, i30_7, i30_10, i30_11, i30_12, i30_15, i30_16, i30_19, i30_20, i30_23, i30_24, i30_25, i30_26, i30_27, i30_27r, i30_27n, i30_30, i30_31, i30_34, i30_35, i30_38, i30_39, i30_42, i30_43, i30_46, i30_49, i30_52, i30_55, ab_isA_rf, ab_clr_int, ab_clr_ref, ab_clr_null, ab_clr_rf, ab_clr_nov, ab_clr_long, ab_clr_dbl, ab_rf_some, ab_rf_none, ab_hi_S, ab_hr_S, ab_hl_S, ab_sh_S, ab_setI_S, ab_setR_S, ab_setL_S, ab_thr_S, ab_K_ret, ab_K_void, List.length_cons, List.length_nil, Nat.reduceAdd, Nat.reduceMul, ite_not, reduceIte, ab_nadd, ab_nmul, ab_nsub, ab_nclamp, ab_nlt, ab_nle, ab_neq, ab_nlt0, ab_n0lt, ab_nle0, ab_nle00, ab_neq0, ab_nm1, ab_m1n, ab_m1lt, ab_nltm1, ab_nlem1, ab_m1le, ab_m1lt0, ab_0lem1, ab_m1eq0, ab_m1eqm1, ab_ltT, ab_ltF, ab_leT, ab_leF, ab_eqT, ab_eqF, ab_b0, ab_not_true, ab_not_false, ab_u_at, ab_u_ne, ab_u_eq, Nat.add_zero, Nat.zero_add, hns, s2, g1]
    exact hQ f p
  | succ c ih =>
    intro s u f hsc p
    have hns : f a 2 = nI (ab_ns z) := by rw [p.2.1.1.1, ab_growZ_low (by omega)]; exact v.1.1
    have hin : s < ab_ns z := by omega
    obtain ⟨f1, f2, f3, f4, f5, f6⟩ := hs s (by omega)
    obtain ⟨-, ⟨x, hx, hx6⟩, -, -, ho4, ho6⟩ := v.2.2.1 s hin
    have hin' : s < ab_ns (growZ z i s) := by rw [ab_growZ_ns]; exact hin
    have hon : ab_on (growZ z i s) s = ab_on z s := ab_growZ_on
    have hp := p.2.1.2.2 s hin'
    have c2 : f (a + 21 + 3 * s) 2 = nI x := ((hp.1 1 (by omega)).trans (ab_growZ_head (by omega))).trans hx
    have c4 : f (a + 21 + 3 * s) 4 = z (168 + 24 * s + 3) := (hp.1 3 (by omega)).trans (ab_growZ_head (by omega))
    have c1 : f (a + 21 + 3 * s + 1) 1 = nI (ab_on z s) := ((hp.1 4 (by omega)).trans (ab_growZ_head (by omega))).trans ho4
    by_cases hxi : x = i
    · subst hxi
      have ih' := fun p' => ih (s + 1) (.ref (a + 21 + 3 * s)) (ab_mgrow f (a + 21 + 3 * s + 1) (z (168 + 24 * s + 3)) (3 * ab_on z s)) (by omega) p'
      rw [ab_growZ_succ hx ho6] at ih'
      have p2 := p.sgrow hin' hon
      rw [ab_growZ_head (show 3 < 6 by omega)] at p2
      simp (disch := first | assumption | exact id rfl | omega | exact ab_dK (by assumption) | exact ab_dL (by assumption) (by omega) | exact ab_dI (by assumption) (by omega) (by omega) | exact ab_dIs (by assumption) (by omega) (by omega) | exact ab_isA_rf _ | exact nI_ne0 (by omega) (by omega) | exact Nat.le_of_ble_eq_true rfl | exact ab_dA (by assumption) (by omega) (by omega) (by omega) | exact id (Or.inl rfl) | exact id (Or.inr rfl) | exact ab_b01 | exact ab_dJ (by assumption) (by omega) (by omega) | exact ab_dI6 (by assumption) (by omega) (by omega) | fail) only [i30_2, ab_isA_rf, ab_clr_int, ab_clr_ref, ab_clr_null, ab_clr_rf, ab_clr_nov, ab_clr_long, ab_clr_dbl, ab_rf_some, ab_rf_none, ab_hi_S, ab_hr_S, ab_hl_S, ab_sh_S, ab_setI_S, ab_setR_S, ab_setL_S, ab_thr_S, ab_K_ret, ab_K_void, List.length_cons, List.length_nil, Nat.reduceAdd, Nat.reduceMul, ite_not, reduceIte, ab_nadd, ab_nmul, ab_nsub, ab_nclamp, ab_nlt, ab_nle, ab_neq, ab_nlt0, ab_n0lt, ab_nle0, ab_nle00, ab_neq0, ab_nm1, ab_m1n, ab_m1lt, ab_nltm1, ab_nlem1, ab_m1le, ab_m1lt0, ab_0lem1, ab_m1eq0, ab_m1eqm1, ab_ltT, ab_ltF, ab_leT, ab_leF, ab_eqT, ab_eqF, ab_b0, ab_not_true, ab_not_false, ab_u_at, ab_u_ne, ab_u_eq, Nat.add_zero, Nat.zero_add, hns, s2, g1]
      simp (disch := first | assumption | exact id rfl | omega | exact ab_dK (by assumption) | exact ab_dL (by assumption) (by omega) | exact ab_dI (by assumption) (by omega) (by omega) | exact ab_dIs (by assumption) (by omega) (by omega) | exact ab_isA_rf _ | exact nI_ne0 (by omega) (by omega) | exact Nat.le_of_ble_eq_true rfl | exact ab_dA (by assumption) (by omega) (by omega) (by omega) | exact id (Or.inl rfl) | exact id (Or.inr rfl) | exact ab_b01 | exact ab_dJ (by assumption) (by omega) (by omega) | exact ab_dI6 (by assumption) (by omega) (by omega) | fail) only [i30_0, i30_1, i30_3, i30_4, i30_7, i30_10, i30_11, i30_12, i30_15, i30_16, i30_19, i30_20, i30_23, i30_24, i30_25, i30_26, i30_27, i30_27r, i30_27n, i30_30, i30_31, i30_34, i30_35, i30_38, i30_39, i30_42, i30_43, i30_46, i30_49, i30_52, i30_55, ab_isA_rf, ab_clr_int, ab_clr_ref, ab_clr_null, ab_clr_rf, ab_clr_nov, ab_clr_long, ab_clr_dbl, ab_rf_some, ab_rf_none, ab_hi_S, ab_hr_S, ab_hl_S, ab_sh_S, ab_setI_S, ab_setR_S, ab_setL_S, ab_thr_S, ab_K_ret, ab_K_void, List.length_cons, List.length_nil, Nat.reduceAdd, Nat.reduceMul, ite_not, reduceIte, ab_nadd, ab_nmul, ab_nsub, ab_nclamp, ab_nlt, ab_nle, ab_neq, ab_nlt0, ab_n0lt, ab_nle0, ab_nle00, ab_neq0, ab_nm1, ab_m1n, ab_m1lt, ab_nltm1, ab_nlem1, ab_m1le, ab_m1lt0, ab_0lem1, ab_m1eq0, ab_m1eqm1, ab_ltT, ab_ltF, ab_leT, ab_leF, ab_eqT, ab_eqF, ab_b0, ab_not_true, ab_not_false, ab_u_at, ab_u_ne, ab_u_eq, Nat.add_zero, Nat.zero_add, hns, s2, g1, f1, f3, c2, c4, t_grow (n := ab_on z s) f4 f6 f5 c1 (by omega)]
      exact ih' p2
    · have ih' := fun p' => ih (s + 1) (.ref (a + 21 + 3 * s)) f (by omega) p'
      rw [ab_growZ_skip (by rw [hx, ab_neq (by omega) (by omega)]; exact hxi)] at ih'
      simp (disch := first | assumption | exact id rfl | omega | exact ab_dK (by assumption) | exact ab_dL (by assumption) (by omega) | exact ab_dI (by assumption) (by omega) (by omega) | exact ab_dIs (by assumption) (by omega) (by omega) | exact ab_isA_rf _ | exact nI_ne0 (by omega) (by omega) | exact Nat.le_of_ble_eq_true rfl | exact ab_dA (by assumption) (by omega) (by omega) (by omega) | exact id (Or.inl rfl) | exact id (Or.inr rfl) | exact ab_b01 | exact ab_dJ (by assumption) (by omega) (by omega) | exact ab_dI6 (by assumption) (by omega) (by omega) | fail) only [i30_2, ab_isA_rf, ab_clr_int, ab_clr_ref, ab_clr_null, ab_clr_rf, ab_clr_nov, ab_clr_long, ab_clr_dbl, ab_rf_some, ab_rf_none, ab_hi_S, ab_hr_S, ab_hl_S, ab_sh_S, ab_setI_S, ab_setR_S, ab_setL_S, ab_thr_S, ab_K_ret, ab_K_void, List.length_cons, List.length_nil, Nat.reduceAdd, Nat.reduceMul, ite_not, reduceIte, ab_nadd, ab_nmul, ab_nsub, ab_nclamp, ab_nlt, ab_nle, ab_neq, ab_nlt0, ab_n0lt, ab_nle0, ab_nle00, ab_neq0, ab_nm1, ab_m1n, ab_m1lt, ab_nltm1, ab_nlem1, ab_m1le, ab_m1lt0, ab_0lem1, ab_m1eq0, ab_m1eqm1, ab_ltT, ab_ltF, ab_leT, ab_leF, ab_eqT, ab_eqF, ab_b0, ab_not_true, ab_not_false, ab_u_at, ab_u_ne, ab_u_eq, Nat.add_zero, Nat.zero_add, hns, s2, g1]
      simp (disch := first | assumption | exact id rfl | omega | exact ab_dK (by assumption) | exact ab_dL (by assumption) (by omega) | exact ab_dI (by assumption) (by omega) (by omega) | exact ab_dIs (by assumption) (by omega) (by omega) | exact ab_isA_rf _ | exact nI_ne0 (by omega) (by omega) | exact Nat.le_of_ble_eq_true rfl | exact ab_dA (by assumption) (by omega) (by omega) (by omega) | exact id (Or.inl rfl) | exact id (Or.inr rfl) | exact ab_b01 | exact ab_dJ (by assumption) (by omega) (by omega) | exact ab_dI6 (by assumption) (by omega) (by omega) | fail) only [i30_0, i30_1, i30_3, i30_4, i30_7, i30_10, i30_11, i30_12, i30_15, i30_16, i30_19, i30_20, i30_23, i30_24, i30_25, i30_26, i30_27, i30_27r, i30_27n, i30_30, i30_31, i30_34, i30_35, i30_38, i30_39, i30_42, i30_43, i30_46, i30_49, i30_52, i30_55, ab_isA_rf, ab_clr_int, ab_clr_ref, ab_clr_null, ab_clr_rf, ab_clr_nov, ab_clr_long, ab_clr_dbl, ab_rf_some, ab_rf_none, ab_hi_S, ab_hr_S, ab_hl_S, ab_sh_S, ab_setI_S, ab_setR_S, ab_setL_S, ab_thr_S, ab_K_ret, ab_K_void, List.length_cons, List.length_nil, Nat.reduceAdd, Nat.reduceMul, ite_not, reduceIte, ab_nadd, ab_nmul, ab_nsub, ab_nclamp, ab_nlt, ab_nle, ab_neq, ab_nlt0, ab_n0lt, ab_nle0, ab_nle00, ab_neq0, ab_nm1, ab_m1n, ab_m1lt, ab_nltm1, ab_nlem1, ab_m1le, ab_m1lt0, ab_0lem1, ab_m1eq0, ab_m1eqm1, ab_ltT, ab_ltF, ab_leT, ab_leF, ab_eqT, ab_eqF, ab_b0, ab_not_true, ab_not_false, ab_u_at, ab_u_ne, ab_u_eq, Nat.add_zero, Nat.zero_add, hns, s2, g1, f1, f3, c2, c4]
      exact ih' p
theorem t_growInto {i : Nat} (sk : SkState (ab_sh h) g a) (p : PicF f0 a f z) (v : InvZ z) (hi : i < 6) (hQ : ∀ f', PicF f0 a f' (growZ z i (ab_ns z)) → Q (.inl none) (ab_S h f' g l)) :
    wp 30 0 [.ref a, .int (nI i), ab_nov, ab_nov] [] (ab_S h f g l) Q := by
  simp (disch := first | assumption | exact id rfl | omega | exact ab_dK (by assumption) | exact ab_dL (by assumption) (by omega) | exact ab_dI (by assumption) (by omega) (by omega) | exact ab_dIs (by assumption) (by omega) (by omega) | exact ab_isA_rf _ | exact nI_ne0 (by omega) (by omega) | exact Nat.le_of_ble_eq_true rfl | exact ab_dA (by assumption) (by omega) (by omega) (by omega) | exact id (Or.inl rfl) | exact id (Or.inr rfl) | exact ab_b01 | exact ab_dJ (by assumption) (by omega) (by omega) | exact ab_dI6 (by assumption) (by omega) (by omega) | fail) only [i30_0, i30_1, i30_3, i30_4, i30_7, i30_10, i30_11, i30_12, i30_15, i30_16, i30_19, i30_20, i30_23, i30_24, i30_25, i30_26, i30_27, i30_27r, i30_27n, i30_30, i30_31, i30_34, i30_35, i30_38, i30_39, i30_42, i30_43, i30_46, i30_49, i30_52, i30_55, ab_isA_rf, ab_clr_int, ab_clr_ref, ab_clr_null, ab_clr_rf, ab_clr_nov, ab_clr_long, ab_clr_dbl, ab_rf_some, ab_rf_none, ab_hi_S, ab_hr_S, ab_hl_S, ab_sh_S, ab_setI_S, ab_setR_S, ab_setL_S, ab_thr_S, ab_K_ret, ab_K_void, List.length_cons, List.length_nil, Nat.reduceAdd, Nat.reduceMul, ite_not, reduceIte, ab_nadd, ab_nmul, ab_nsub, ab_nclamp, ab_nlt, ab_nle, ab_neq, ab_nlt0, ab_n0lt, ab_nle0, ab_nle00, ab_neq0, ab_nm1, ab_m1n, ab_m1lt, ab_nltm1, ab_nlem1, ab_m1le, ab_m1lt0, ab_0lem1, ab_m1eq0, ab_m1eqm1, ab_ltT, ab_ltF, ab_leT, ab_leF, ab_eqT, ab_eqF, ab_b0, ab_not_true, ab_not_false, ab_u_at, ab_u_ne, ab_u_eq, Nat.add_zero, Nat.zero_add]
  exact t_growInto_loop sk v hi hQ (ab_ns z) 0 ab_nov f (by omega) (by rw [ab_growZ_zero]; exact p)
/-! taking -/
theorem t_next_loop {i : Nat} {y : Int32} (sk : SkState (ab_sh h) g a) (p : PicX f a z) (v : InvZ z) (hi : i < 6) : ∀ (c s : Nat) (w : Int32) (u : Value), s + c = ab_ns z → (w = -1 ∨ ∃ m, w = nI m ∧ m < 8) →
    wp 32 5 [.ref a, .int (nI i), .int y, .int w, .int (nI s), ab_clr u] [] (ab_S h f g l) Q = Q (.inl (some (.int (if ab_fst (fun s => ab_ripe z i s && decide (y < nI s)) s c = -1 then (if w = -1 then ab_fst (ab_ripe z i) s c else w) else ab_fst (fun s => ab_ripe z i s && decide (y < nI s)) s c)))) (ab_S h f g l) := by
  obtain ⟨⟨s0, g0, g1, s1, s2⟩, hr, hs⟩ := sk
  have hns := p.ns v
  have hn8 := v.1.2
  intro c
  induction c with
  | zero =>
    intro s w u hsc hw
    have e : s = ab_ns z := by omega
    rw [← e] at hns hn8
    have hww : (if ab_fst (fun s => ab_ripe z i s && decide (y < nI s)) s 0 = -1 then (if w = -1 then ab_fst (ab_ripe z i) s 0 else w) else ab_fst (fun s => ab_ripe z i s && decide (y < nI s)) s 0) = w := by
      simp only [ab_fst, if_true]
      split
      · rename_i h; exact h.symm
      · rfl
    rw [hww]
    simp (disch := first | assumption | exact id rfl | omega | exact ab_dK (by assumption) | exact ab_dL (by assumption) (by omega) | exact ab_dI (by assumption) (by omega) (by omega) | exact ab_dIs (by assumption) (by omega) (by omega) | exact ab_isA_rf _ | exact nI_ne0 (by omega) (by omega) | exact Nat.le_of_ble_eq_true rfl | exact ab_dA (by assumption) (by omega) (by omega) (by omega) | exact id (Or.inl rfl) | exact id (Or.inr rfl) | exact ab_b01 | exact ab_dJ (by assumption) (by omega) (by omega) | exact ab_dI6 (by assumption) (by omega) (by omega) | fail) only [i32_5, ab_isA_rf, ab_clr_int, ab_clr_ref, ab_clr_null, ab_clr_rf, ab_clr_nov, ab_clr_long, ab_clr_dbl, ab_rf_some, ab_rf_none, ab_hi_S, ab_hr_S, ab_hl_S, ab_sh_S, ab_setI_S, ab_setR_S, ab_setL_S, ab_thr_S, ab_K_ret, ab_K_void, List.length_cons, List.length_nil, Nat.reduceAdd, Nat.reduceMul, ite_not, reduceIte, ab_nadd, ab_nmul, ab_nsub, ab_nclamp, ab_nlt, ab_nle, ab_neq, ab_nlt0, ab_n0lt, ab_nle0, ab_nle00, ab_neq0, ab_nm1, ab_m1n, ab_m1lt, ab_nltm1, ab_nlem1, ab_m1le, ab_m1lt0, ab_0lem1, ab_m1eq0, ab_m1eqm1, ab_ltT, ab_ltF, ab_leT, ab_leF, ab_eqT, ab_eqF, ab_b0, ab_not_true, ab_not_false, ab_u_at, ab_u_ne, ab_u_eq, Nat.add_zero, Nat.zero_add, hns, s2, g1]
    simp (disch := first | assumption | exact id rfl | omega | exact ab_dK (by assumption) | exact ab_dL (by assumption) (by omega) | exact ab_dI (by assumption) (by omega) (by omega) | exact ab_dIs (by assumption) (by omega) (by omega) | exact ab_isA_rf _ | exact nI_ne0 (by omega) (by omega) | exact Nat.le_of_ble_eq_true rfl | exact ab_dA (by assumption) (by omega) (by omega) (by omega) | exact id (Or.inl rfl) | exact id (Or.inr rfl) | exact ab_b01 | exact ab_dJ (by assumption) (by omega) (by omega) | exact ab_dI6 (by assumption) (by omega) (by omega) | fail) only [i32_0, i32_1, i32_2, i32_3, i32_7, i32_8, i32_11, i32_14, i32_16, i32_17, i32_20, i32_21, i32_24, i32_25, i32_28, i32_30, i32_31, i32_33, i32_35, i32_35r, i32_35n, i32_38, i32_40, i32_43, i32_44, i32_47, i32_49, i32_52, i32_53, i32_54, i32_57, i32_59, i32_62, i32_65, i32_67, i32_68, i32_71, i32_73, i32_74, i32_75, i32_76, i32_79, i32_81, i32_82, i32_85, i32_88, i32_89, ab_isA_rf, ab_clr_int, ab_clr_ref, ab_clr_null, ab_clr_rf, ab_clr_nov, ab_clr_long, ab_clr_dbl, ab_rf_some, ab_rf_none, ab_hi_S, ab_hr_S, ab_hl_S, ab_sh_S, ab_setI_S, ab_setR_S, ab_setL_S, ab_thr_S, ab_K_ret, ab_K_void, List.length_cons, List.length_nil, Nat.reduceAdd, Nat.reduceMul, ite_not, reduceIte, ab_nadd, ab_nmul, ab_nsub, ab_nclamp, ab_nlt, ab_nle, ab_neq, ab_nlt0, ab_n0lt, ab_nle0, ab_nle00, ab_neq0, ab_nm1, ab_m1n, ab_m1lt, ab_nltm1, ab_nlem1, ab_m1le, ab_m1lt0, ab_0lem1, ab_m1eq0, ab_m1eqm1, ab_ltT, ab_ltF, ab_leT, ab_leF, ab_eqT, ab_eqF, ab_b0, ab_not_true, ab_not_false, ab_u_at, ab_u_ne, ab_u_eq, Nat.add_zero, Nat.zero_add, hns, s2, g1]
  | succ c ih =>
    intro s w u hsc hw
    have hin : s < ab_ns z := by omega
    obtain ⟨f1, f2, f3, f4, f5, f6⟩ := hs s (by omega)
    obtain ⟨-, ⟨x, hx, hx6⟩, -, ⟨cr, hcr, hcr1, hcr3⟩, ho4, ho6⟩ := v.2.2.1 s hin
    have hp := p.seam hin
    have c2 : f (a + 21 + 3 * s) 2 = nI x := (hp.1 1 (by omega)).trans hx
    have c4 : f (a + 21 + 3 * s) 4 = nI cr := (hp.1 3 (by omega)).trans hcr
    have c1 := hp.len (v.2.2.1 s hin)
    have hrp := p.ripe v hin i hi
    rw [c2, c4] at hrp
    have hm1 : ∀ m : Nat, m < 9 → ¬ (nI m = -1) := fun m hm => by rw [ab_nm1 (by omega)]; exact fun h => h
    by_cases hrip : ab_ripe z i s = true
    · rw [hrip] at hrp
      have hrp' := hrp.symm
      rw [Bool.and_eq_true, decide_eq_true_eq, decide_eq_true_eq, ab_neq (by omega) (by omega)] at hrp'
      obtain ⟨hxi, hage⟩ := hrp'
      subst hxi
      by_cases hlt : y < nI s
      · have hres : ab_fst (fun s => ab_ripe z x s && decide (y < nI s)) s (c + 1) = nI s := by simp [ab_fst, hrip, hlt]
        rw [hres, if_neg (hm1 s (by omega))]
        simp (disch := first | assumption | exact id rfl | omega | exact ab_dK (by assumption) | exact ab_dL (by assumption) (by omega) | exact ab_dI (by assumption) (by omega) (by omega) | exact ab_dIs (by assumption) (by omega) (by omega) | exact ab_isA_rf _ | exact nI_ne0 (by omega) (by omega) | exact Nat.le_of_ble_eq_true rfl | exact ab_dA (by assumption) (by omega) (by omega) (by omega) | exact id (Or.inl rfl) | exact id (Or.inr rfl) | exact ab_b01 | exact ab_dJ (by assumption) (by omega) (by omega) | exact ab_dI6 (by assumption) (by omega) (by omega) | fail) only [i32_5, ab_isA_rf, ab_clr_int, ab_clr_ref, ab_clr_null, ab_clr_rf, ab_clr_nov, ab_clr_long, ab_clr_dbl, ab_rf_some, ab_rf_none, ab_hi_S, ab_hr_S, ab_hl_S, ab_sh_S, ab_setI_S, ab_setR_S, ab_setL_S, ab_thr_S, ab_K_ret, ab_K_void, List.length_cons, List.length_nil, Nat.reduceAdd, Nat.reduceMul, ite_not, reduceIte, ab_nadd, ab_nmul, ab_nsub, ab_nclamp, ab_nlt, ab_nle, ab_neq, ab_nlt0, ab_n0lt, ab_nle0, ab_nle00, ab_neq0, ab_nm1, ab_m1n, ab_m1lt, ab_nltm1, ab_nlem1, ab_m1le, ab_m1lt0, ab_0lem1, ab_m1eq0, ab_m1eqm1, ab_ltT, ab_ltF, ab_leT, ab_leF, ab_eqT, ab_eqF, ab_b0, ab_not_true, ab_not_false, ab_u_at, ab_u_ne, ab_u_eq, Nat.add_zero, Nat.zero_add, hns, s2, g1]
        simp (disch := first | assumption | exact id rfl | omega | exact ab_dK (by assumption) | exact ab_dL (by assumption) (by omega) | exact ab_dI (by assumption) (by omega) (by omega) | exact ab_dIs (by assumption) (by omega) (by omega) | exact ab_isA_rf _ | exact nI_ne0 (by omega) (by omega) | exact Nat.le_of_ble_eq_true rfl | exact ab_dA (by assumption) (by omega) (by omega) (by omega) | exact id (Or.inl rfl) | exact id (Or.inr rfl) | exact ab_b01 | exact ab_dJ (by assumption) (by omega) (by omega) | exact ab_dI6 (by assumption) (by omega) (by omega) | fail) only [i32_0, i32_1, i32_2, i32_3, i32_7, i32_8, i32_11, i32_14, i32_16, i32_17, i32_20, i32_21, i32_24, i32_25, i32_28, i32_30, i32_31, i32_33, i32_35, i32_35r, i32_35n, i32_38, i32_40, i32_43, i32_44, i32_47, i32_49, i32_52, i32_53, i32_54, i32_57, i32_59, i32_62, i32_65, i32_67, i32_68, i32_71, i32_73, i32_74, i32_75, i32_76, i32_79, i32_81, i32_82, i32_85, i32_88, i32_89, ab_isA_rf, ab_clr_int, ab_clr_ref, ab_clr_null, ab_clr_rf, ab_clr_nov, ab_clr_long, ab_clr_dbl, ab_rf_some, ab_rf_none, ab_hi_S, ab_hr_S, ab_hl_S, ab_sh_S, ab_setI_S, ab_setR_S, ab_setL_S, ab_thr_S, ab_K_ret, ab_K_void, List.length_cons, List.length_nil, Nat.reduceAdd, Nat.reduceMul, ite_not, reduceIte, ab_nadd, ab_nmul, ab_nsub, ab_nclamp, ab_nlt, ab_nle, ab_neq, ab_nlt0, ab_n0lt, ab_nle0, ab_nle00, ab_neq0, ab_nm1, ab_m1n, ab_m1lt, ab_nltm1, ab_nlem1, ab_m1le, ab_m1lt0, ab_0lem1, ab_m1eq0, ab_m1eqm1, ab_ltT, ab_ltF, ab_leT, ab_leF, ab_eqT, ab_eqF, ab_b0, ab_not_true, ab_not_false, ab_u_at, ab_u_ne, ab_u_eq, Nat.add_zero, Nat.zero_add, hns, s2, g1, f1, f3, c2, c4, t_cellAt (n := ab_on z s) f4 f6 f5 c1, hage, ab_leFi hlt]
      · have hres : ab_fst (fun s => ab_ripe z x s && decide (y < nI s)) s (c + 1) = ab_fst (fun s => ab_ripe z x s && decide (y < nI s)) (s + 1) c := by simp [ab_fst, hlt]
        have hres2 : ab_fst (ab_ripe z x) s (c + 1) = nI s := by simp [ab_fst, hrip]
        rw [hres, hres2]
        rcases hw with rfl | ⟨m, rfl, hm8⟩
        · have ih' := ih (s + 1) (nI s) (.ref (a + 21 + 3 * s)) (by omega) (Or.inr ⟨s, rfl, by omega⟩)
          rw [if_neg (hm1 s (by omega))] at ih'
          rw [if_pos (show (-1 : Int32) = -1 from rfl)]
          simp (disch := first | assumption | exact id rfl | omega | exact ab_dK (by assumption) | exact ab_dL (by assumption) (by omega) | exact ab_dI (by assumption) (by omega) (by omega) | exact ab_dIs (by assumption) (by omega) (by omega) | exact ab_isA_rf _ | exact nI_ne0 (by omega) (by omega) | exact Nat.le_of_ble_eq_true rfl | exact ab_dA (by assumption) (by omega) (by omega) (by omega) | exact id (Or.inl rfl) | exact id (Or.inr rfl) | exact ab_b01 | exact ab_dJ (by assumption) (by omega) (by omega) | exact ab_dI6 (by assumption) (by omega) (by omega) | fail) only [i32_5, ab_isA_rf, ab_clr_int, ab_clr_ref, ab_clr_null, ab_clr_rf, ab_clr_nov, ab_clr_long, ab_clr_dbl, ab_rf_some, ab_rf_none, ab_hi_S, ab_hr_S, ab_hl_S, ab_sh_S, ab_setI_S, ab_setR_S, ab_setL_S, ab_thr_S, ab_K_ret, ab_K_void, List.length_cons, List.length_nil, Nat.reduceAdd, Nat.reduceMul, ite_not, reduceIte, ab_nadd, ab_nmul, ab_nsub, ab_nclamp, ab_nlt, ab_nle, ab_neq, ab_nlt0, ab_n0lt, ab_nle0, ab_nle00, ab_neq0, ab_nm1, ab_m1n, ab_m1lt, ab_nltm1, ab_nlem1, ab_m1le, ab_m1lt0, ab_0lem1, ab_m1eq0, ab_m1eqm1, ab_ltT, ab_ltF, ab_leT, ab_leF, ab_eqT, ab_eqF, ab_b0, ab_not_true, ab_not_false, ab_u_at, ab_u_ne, ab_u_eq, Nat.add_zero, Nat.zero_add, hns, s2, g1]
          simp (disch := first | assumption | exact id rfl | omega | exact ab_dK (by assumption) | exact ab_dL (by assumption) (by omega) | exact ab_dI (by assumption) (by omega) (by omega) | exact ab_dIs (by assumption) (by omega) (by omega) | exact ab_isA_rf _ | exact nI_ne0 (by omega) (by omega) | exact Nat.le_of_ble_eq_true rfl | exact ab_dA (by assumption) (by omega) (by omega) (by omega) | exact id (Or.inl rfl) | exact id (Or.inr rfl) | exact ab_b01 | exact ab_dJ (by assumption) (by omega) (by omega) | exact ab_dI6 (by assumption) (by omega) (by omega) | fail) only [i32_0, i32_1, i32_2, i32_3, i32_7, i32_8, i32_11, i32_14, i32_16, i32_17, i32_20, i32_21, i32_24, i32_25, i32_28, i32_30, i32_31, i32_33, i32_35, i32_35r, i32_35n, i32_38, i32_40, i32_43, i32_44, i32_47, i32_49, i32_52, i32_53, i32_54, i32_57, i32_59, i32_62, i32_65, i32_67, i32_68, i32_71, i32_73, i32_74, i32_75, i32_76, i32_79, i32_81, i32_82, i32_85, i32_88, i32_89, ab_isA_rf, ab_clr_int, ab_clr_ref, ab_clr_null, ab_clr_rf, ab_clr_nov, ab_clr_long, ab_clr_dbl, ab_rf_some, ab_rf_none, ab_hi_S, ab_hr_S, ab_hl_S, ab_sh_S, ab_setI_S, ab_setR_S, ab_setL_S, ab_thr_S, ab_K_ret, ab_K_void, List.length_cons, List.length_nil, Nat.reduceAdd, Nat.reduceMul, ite_not, reduceIte, ab_nadd, ab_nmul, ab_nsub, ab_nclamp, ab_nlt, ab_nle, ab_neq, ab_nlt0, ab_n0lt, ab_nle0, ab_nle00, ab_neq0, ab_nm1, ab_m1n, ab_m1lt, ab_nltm1, ab_nlem1, ab_m1le, ab_m1lt0, ab_0lem1, ab_m1eq0, ab_m1eqm1, ab_ltT, ab_ltF, ab_leT, ab_leF, ab_eqT, ab_eqF, ab_b0, ab_not_true, ab_not_false, ab_u_at, ab_u_ne, ab_u_eq, Nat.add_zero, Nat.zero_add, hns, s2, g1, f1, f3, c2, c4, t_cellAt (n := ab_on z s) f4 f6 f5 c1, hage, ab_leTi hlt]
          exact ih'
        · have ih' := ih (s + 1) (nI m) (.ref (a + 21 + 3 * s)) (by omega) (Or.inr ⟨m, rfl, by omega⟩)
          rw [if_neg (hm1 m (by omega))] at ih' ⊢
          simp (disch := first | assumption | exact id rfl | omega | exact ab_dK (by assumption) | exact ab_dL (by assumption) (by omega) | exact ab_dI (by assumption) (by omega) (by omega) | exact ab_dIs (by assumption) (by omega) (by omega) | exact ab_isA_rf _ | exact nI_ne0 (by omega) (by omega) | exact Nat.le_of_ble_eq_true rfl | exact ab_dA (by assumption) (by omega) (by omega) (by omega) | exact id (Or.inl rfl) | exact id (Or.inr rfl) | exact ab_b01 | exact ab_dJ (by assumption) (by omega) (by omega) | exact ab_dI6 (by assumption) (by omega) (by omega) | fail) only [i32_5, ab_isA_rf, ab_clr_int, ab_clr_ref, ab_clr_null, ab_clr_rf, ab_clr_nov, ab_clr_long, ab_clr_dbl, ab_rf_some, ab_rf_none, ab_hi_S, ab_hr_S, ab_hl_S, ab_sh_S, ab_setI_S, ab_setR_S, ab_setL_S, ab_thr_S, ab_K_ret, ab_K_void, List.length_cons, List.length_nil, Nat.reduceAdd, Nat.reduceMul, ite_not, reduceIte, ab_nadd, ab_nmul, ab_nsub, ab_nclamp, ab_nlt, ab_nle, ab_neq, ab_nlt0, ab_n0lt, ab_nle0, ab_nle00, ab_neq0, ab_nm1, ab_m1n, ab_m1lt, ab_nltm1, ab_nlem1, ab_m1le, ab_m1lt0, ab_0lem1, ab_m1eq0, ab_m1eqm1, ab_ltT, ab_ltF, ab_leT, ab_leF, ab_eqT, ab_eqF, ab_b0, ab_not_true, ab_not_false, ab_u_at, ab_u_ne, ab_u_eq, Nat.add_zero, Nat.zero_add, hns, s2, g1]
          simp (disch := first | assumption | exact id rfl | omega | exact ab_dK (by assumption) | exact ab_dL (by assumption) (by omega) | exact ab_dI (by assumption) (by omega) (by omega) | exact ab_dIs (by assumption) (by omega) (by omega) | exact ab_isA_rf _ | exact nI_ne0 (by omega) (by omega) | exact Nat.le_of_ble_eq_true rfl | exact ab_dA (by assumption) (by omega) (by omega) (by omega) | exact id (Or.inl rfl) | exact id (Or.inr rfl) | exact ab_b01 | exact ab_dJ (by assumption) (by omega) (by omega) | exact ab_dI6 (by assumption) (by omega) (by omega) | fail) only [i32_0, i32_1, i32_2, i32_3, i32_7, i32_8, i32_11, i32_14, i32_16, i32_17, i32_20, i32_21, i32_24, i32_25, i32_28, i32_30, i32_31, i32_33, i32_35, i32_35r, i32_35n, i32_38, i32_40, i32_43, i32_44, i32_47, i32_49, i32_52, i32_53, i32_54, i32_57, i32_59, i32_62, i32_65, i32_67, i32_68, i32_71, i32_73, i32_74, i32_75, i32_76, i32_79, i32_81, i32_82, i32_85, i32_88, i32_89, ab_isA_rf, ab_clr_int, ab_clr_ref, ab_clr_null, ab_clr_rf, ab_clr_nov, ab_clr_long, ab_clr_dbl, ab_rf_some, ab_rf_none, ab_hi_S, ab_hr_S, ab_hl_S, ab_sh_S, ab_setI_S, ab_setR_S, ab_setL_S, ab_thr_S, ab_K_ret, ab_K_void, List.length_cons, List.length_nil, Nat.reduceAdd, Nat.reduceMul, ite_not, reduceIte, ab_nadd, ab_nmul, ab_nsub, ab_nclamp, ab_nlt, ab_nle, ab_neq, ab_nlt0, ab_n0lt, ab_nle0, ab_nle00, ab_neq0, ab_nm1, ab_m1n, ab_m1lt, ab_nltm1, ab_nlem1, ab_m1le, ab_m1lt0, ab_0lem1, ab_m1eq0, ab_m1eqm1, ab_ltT, ab_ltF, ab_leT, ab_leF, ab_eqT, ab_eqF, ab_b0, ab_not_true, ab_not_false, ab_u_at, ab_u_ne, ab_u_eq, Nat.add_zero, Nat.zero_add, hns, s2, g1, f1, f3, c2, c4, t_cellAt (n := ab_on z s) f4 f6 f5 c1, hage, ab_leTi hlt]
          exact ih'
    · have hres : ab_fst (fun s => ab_ripe z i s && decide (y < nI s)) s (c + 1) = ab_fst (fun s => ab_ripe z i s && decide (y < nI s)) (s + 1) c := by simp [ab_fst, hrip]
      have hres2 : ab_fst (ab_ripe z i) s (c + 1) = ab_fst (ab_ripe z i) (s + 1) c := by simp [ab_fst, hrip]
      have ih' := ih (s + 1) w (.ref (a + 21 + 3 * s)) (by omega) hw
      rw [hres, hres2]
      by_cases hxi : x = i
      · subst hxi
        have hage : ¬ ((if 0 < ab_on z s then f (a + 21 + 3 * s + 1 + 1) (3 * 0 + 2) else -1) = nI cr) := by
          intro hh
          rw [hh] at hrp
          simp at hrp
          exact hrip hrp
        simp (disch := first | assumption | exact id rfl | omega | exact ab_dK (by assumption) | exact ab_dL (by assumption) (by omega) | exact ab_dI (by assumption) (by omega) (by omega) | exact ab_dIs (by assumption) (by omega) (by omega) | exact ab_isA_rf _ | exact nI_ne0 (by omega) (by omega) | exact Nat.le_of_ble_eq_true rfl | exact ab_dA (by assumption) (by omega) (by omega) (by omega) | exact id (Or.inl rfl) | exact id (Or.inr rfl) | exact ab_b01 | exact ab_dJ (by assumption) (by omega) (by omega) | exact ab_dI6 (by assumption) (by omega) (by omega) | fail) only [i32_5, ab_isA_rf, ab_clr_int, ab_clr_ref, ab_clr_null, ab_clr_rf, ab_clr_nov, ab_clr_long, ab_clr_dbl, ab_rf_some, ab_rf_none, ab_hi_S, ab_hr_S, ab_hl_S, ab_sh_S, ab_setI_S, ab_setR_S, ab_setL_S, ab_thr_S, ab_K_ret, ab_K_void, List.length_cons, List.length_nil, Nat.reduceAdd, Nat.reduceMul, ite_not, reduceIte, ab_nadd, ab_nmul, ab_nsub, ab_nclamp, ab_nlt, ab_nle, ab_neq, ab_nlt0, ab_n0lt, ab_nle0, ab_nle00, ab_neq0, ab_nm1, ab_m1n, ab_m1lt, ab_nltm1, ab_nlem1, ab_m1le, ab_m1lt0, ab_0lem1, ab_m1eq0, ab_m1eqm1, ab_ltT, ab_ltF, ab_leT, ab_leF, ab_eqT, ab_eqF, ab_b0, ab_not_true, ab_not_false, ab_u_at, ab_u_ne, ab_u_eq, Nat.add_zero, Nat.zero_add, hns, s2, g1]
        simp (disch := first | assumption | exact id rfl | omega | exact ab_dK (by assumption) | exact ab_dL (by assumption) (by omega) | exact ab_dI (by assumption) (by omega) (by omega) | exact ab_dIs (by assumption) (by omega) (by omega) | exact ab_isA_rf _ | exact nI_ne0 (by omega) (by omega) | exact Nat.le_of_ble_eq_true rfl | exact ab_dA (by assumption) (by omega) (by omega) (by omega) | exact id (Or.inl rfl) | exact id (Or.inr rfl) | exact ab_b01 | exact ab_dJ (by assumption) (by omega) (by omega) | exact ab_dI6 (by assumption) (by omega) (by omega) | fail) only [i32_0, i32_1, i32_2, i32_3, i32_7, i32_8, i32_11, i32_14, i32_16, i32_17, i32_20, i32_21, i32_24, i32_25, i32_28, i32_30, i32_31, i32_33, i32_35, i32_35r, i32_35n, i32_38, i32_40, i32_43, i32_44, i32_47, i32_49, i32_52, i32_53, i32_54, i32_57, i32_59, i32_62, i32_65, i32_67, i32_68, i32_71, i32_73, i32_74, i32_75, i32_76, i32_79, i32_81, i32_82, i32_85, i32_88, i32_89, ab_isA_rf, ab_clr_int, ab_clr_ref, ab_clr_null, ab_clr_rf, ab_clr_nov, ab_clr_long, ab_clr_dbl, ab_rf_some, ab_rf_none, ab_hi_S, ab_hr_S, ab_hl_S, ab_sh_S, ab_setI_S, ab_setR_S, ab_setL_S, ab_thr_S, ab_K_ret, ab_K_void, List.length_cons, List.length_nil, Nat.reduceAdd, Nat.reduceMul, ite_not, reduceIte, ab_nadd, ab_nmul, ab_nsub, ab_nclamp, ab_nlt, ab_nle, ab_neq, ab_nlt0, ab_n0lt, ab_nle0, ab_nle00, ab_neq0, ab_nm1, ab_m1n, ab_m1lt, ab_nltm1, ab_nlem1, ab_m1le, ab_m1lt0, ab_0lem1, ab_m1eq0, ab_m1eqm1, ab_ltT, ab_ltF, ab_leT, ab_leF, ab_eqT, ab_eqF, ab_b0, ab_not_true, ab_not_false, ab_u_at, ab_u_ne, ab_u_eq, Nat.add_zero, Nat.zero_add, hns, s2, g1, f1, f3, c2, c4, t_cellAt (n := ab_on z s) f4 f6 f5 c1, eq_false hage]
        exact ih'
      · simp (disch := first | assumption | exact id rfl | omega | exact ab_dK (by assumption) | exact ab_dL (by assumption) (by omega) | exact ab_dI (by assumption) (by omega) (by omega) | exact ab_dIs (by assumption) (by omega) (by omega) | exact ab_isA_rf _ | exact nI_ne0 (by omega) (by omega) | exact Nat.le_of_ble_eq_true rfl | exact ab_dA (by assumption) (by omega) (by omega) (by omega) | exact id (Or.inl rfl) | exact id (Or.inr rfl) | exact ab_b01 | exact ab_dJ (by assumption) (by omega) (by omega) | exact ab_dI6 (by assumption) (by omega) (by omega) | fail) only [i32_5, ab_isA_rf, ab_clr_int, ab_clr_ref, ab_clr_null, ab_clr_rf, ab_clr_nov, ab_clr_long, ab_clr_dbl, ab_rf_some, ab_rf_none, ab_hi_S, ab_hr_S, ab_hl_S, ab_sh_S, ab_setI_S, ab_setR_S, ab_setL_S, ab_thr_S, ab_K_ret, ab_K_void, List.length_cons, List.length_nil, Nat.reduceAdd, Nat.reduceMul, ite_not, reduceIte, ab_nadd, ab_nmul, ab_nsub, ab_nclamp, ab_nlt, ab_nle, ab_neq, ab_nlt0, ab_n0lt, ab_nle0, ab_nle00, ab_neq0, ab_nm1, ab_m1n, ab_m1lt, ab_nltm1, ab_nlem1, ab_m1le, ab_m1lt0, ab_0lem1, ab_m1eq0, ab_m1eqm1, ab_ltT, ab_ltF, ab_leT, ab_leF, ab_eqT, ab_eqF, ab_b0, ab_not_true, ab_not_false, ab_u_at, ab_u_ne, ab_u_eq, Nat.add_zero, Nat.zero_add, hns, s2, g1]
        simp (disch := first | assumption | exact id rfl | omega | exact ab_dK (by assumption) | exact ab_dL (by assumption) (by omega) | exact ab_dI (by assumption) (by omega) (by omega) | exact ab_dIs (by assumption) (by omega) (by omega) | exact ab_isA_rf _ | exact nI_ne0 (by omega) (by omega) | exact Nat.le_of_ble_eq_true rfl | exact ab_dA (by assumption) (by omega) (by omega) (by omega) | exact id (Or.inl rfl) | exact id (Or.inr rfl) | exact ab_b01 | exact ab_dJ (by assumption) (by omega) (by omega) | exact ab_dI6 (by assumption) (by omega) (by omega) | fail) only [i32_0, i32_1, i32_2, i32_3, i32_7, i32_8, i32_11, i32_14, i32_16, i32_17, i32_20, i32_21, i32_24, i32_25, i32_28, i32_30, i32_31, i32_33, i32_35, i32_35r, i32_35n, i32_38, i32_40, i32_43, i32_44, i32_47, i32_49, i32_52, i32_53, i32_54, i32_57, i32_59, i32_62, i32_65, i32_67, i32_68, i32_71, i32_73, i32_74, i32_75, i32_76, i32_79, i32_81, i32_82, i32_85, i32_88, i32_89, ab_isA_rf, ab_clr_int, ab_clr_ref, ab_clr_null, ab_clr_rf, ab_clr_nov, ab_clr_long, ab_clr_dbl, ab_rf_some, ab_rf_none, ab_hi_S, ab_hr_S, ab_hl_S, ab_sh_S, ab_setI_S, ab_setR_S, ab_setL_S, ab_thr_S, ab_K_ret, ab_K_void, List.length_cons, List.length_nil, Nat.reduceAdd, Nat.reduceMul, ite_not, reduceIte, ab_nadd, ab_nmul, ab_nsub, ab_nclamp, ab_nlt, ab_nle, ab_neq, ab_nlt0, ab_n0lt, ab_nle0, ab_nle00, ab_neq0, ab_nm1, ab_m1n, ab_m1lt, ab_nltm1, ab_nlem1, ab_m1le, ab_m1lt0, ab_0lem1, ab_m1eq0, ab_m1eqm1, ab_ltT, ab_ltF, ab_leT, ab_leF, ab_eqT, ab_eqF, ab_b0, ab_not_true, ab_not_false, ab_u_at, ab_u_ne, ab_u_eq, Nat.add_zero, Nat.zero_add, hns, s2, g1, f1, f3, c2, c4, t_cellAt (n := ab_on z s) f4 f6 f5 c1]
        exact ih'
theorem t_next {i : Nat} (sk : SkState (ab_sh h) g a) (p : PicX f a z) (v : InvZ z) (hi : i < 6) : wp 32 0 [.ref a, .int (nI i), .int (z (6 + 27 * i + 10)), ab_nov, ab_nov, ab_nov] [] (ab_S h f g l) Q = Q (.inl (some (.int (ab_pick z i)))) (ab_S h f g l) := by
  have e := t_next_loop (Q := Q) (l := l) (y := z (6 + 27 * i + 10)) sk p v hi (ab_ns z) 0 (-1) ab_nov (by omega) (Or.inl rfl)
  rw [if_pos (show (-1 : Int32) = -1 from rfl)] at e
  simp (disch := first | assumption | exact id rfl | omega | exact ab_dK (by assumption) | exact ab_dL (by assumption) (by omega) | exact ab_dI (by assumption) (by omega) (by omega) | exact ab_dIs (by assumption) (by omega) (by omega) | exact ab_isA_rf _ | exact nI_ne0 (by omega) (by omega) | exact Nat.le_of_ble_eq_true rfl | exact ab_dA (by assumption) (by omega) (by omega) (by omega) | exact id (Or.inl rfl) | exact id (Or.inr rfl) | exact ab_b01 | exact ab_dJ (by assumption) (by omega) (by omega) | exact ab_dI6 (by assumption) (by omega) (by omega) | fail) only [i32_0, i32_1, i32_2, i32_3, i32_7, i32_8, i32_11, i32_14, i32_16, i32_17, i32_20, i32_21, i32_24, i32_25, i32_28, i32_30, i32_31, i32_33, i32_35, i32_35r, i32_35n, i32_38, i32_40, i32_43, i32_44, i32_47, i32_49, i32_52, i32_53, i32_54, i32_57, i32_59, i32_62, i32_65, i32_67, i32_68, i32_71, i32_73, i32_74, i32_75, i32_76, i32_79, i32_81, i32_82, i32_85, i32_88, i32_89, ab_isA_rf, ab_clr_int, ab_clr_ref, ab_clr_null, ab_clr_rf, ab_clr_nov, ab_clr_long, ab_clr_dbl, ab_rf_some, ab_rf_none, ab_hi_S, ab_hr_S, ab_hl_S, ab_sh_S, ab_setI_S, ab_setR_S, ab_setL_S, ab_thr_S, ab_K_ret, ab_K_void, List.length_cons, List.length_nil, Nat.reduceAdd, Nat.reduceMul, ite_not, reduceIte, ab_nadd, ab_nmul, ab_nsub, ab_nclamp, ab_nlt, ab_nle, ab_neq, ab_nlt0, ab_n0lt, ab_nle0, ab_nle00, ab_neq0, ab_nm1, ab_m1n, ab_m1lt, ab_nltm1, ab_nlem1, ab_m1le, ab_m1lt0, ab_0lem1, ab_m1eq0, ab_m1eqm1, ab_ltT, ab_ltF, ab_leT, ab_leF, ab_eqT, ab_eqF, ab_b0, ab_not_true, ab_not_false, ab_u_at, ab_u_ne, ab_u_eq, Nat.add_zero, Nat.zero_add]
  exact e
theorem ab_fst_or {p : Nat → Bool} : ∀ {n k : Nat}, ab_fst p k n = -1 ∨ ∃ s, ab_fst p k n = nI s ∧ k ≤ s ∧ s < k + n ∧ p s = true := by
  intro n
  induction n with
  | zero => intro k; exact Or.inl rfl
  | succ n ih =>
    intro k
    unfold ab_fst
    by_cases hp : p k = true
    · rw [if_pos hp]
      exact Or.inr ⟨k, rfl, by omega, by omega, hp⟩
    · rw [if_neg hp]
      rcases ih (k := k + 1) with e | ⟨s, e, h1, h2, h3⟩
      · exact Or.inl e
      · exact Or.inr ⟨s, e, by omega, by omega, h3⟩
theorem ab_pick_or {i : Nat} : ab_pick z i = -1 ∨ ∃ s, ab_pick z i = nI s ∧ s < ab_ns z ∧ ab_ripe z i s = true := by
  unfold ab_pick
  split
  · rcases ab_fst_or (p := ab_ripe z i) (k := 0) (n := ab_ns z) with e | ⟨s, e, h1, h2, h3⟩
    · exact Or.inl e
    · exact Or.inr ⟨s, e, by omega, h3⟩
  · rcases ab_fst_or (p := fun s => ab_ripe z i s && decide (z (6 + 27 * i + 10) < nI s)) (k := 0) (n := ab_ns z) with e | ⟨s, e, h1, h2, h3⟩
    · exact Or.inl e
    · rw [Bool.and_eq_true] at h3
      exact Or.inr ⟨s, e, by omega, h3.1⟩
theorem ab_ripe_on {i s : Nat} (h : ab_ripe z i s = true) : 0 < ab_on z s := by
  unfold ab_ripe at h
  rw [Bool.and_eq_true, Bool.and_eq_true, decide_eq_true_eq, decide_eq_true_eq] at h
  exact h.2.1
theorem t_take {i : Nat} (sk : SkState (ab_sh h) g a) (p : PicF f0 a f z) (v : InvZ z) (hi : i < 6) (hQ : ∀ f', PicF f0 a f' (takeZ z i) → Q (.inl none) (ab_S h f' g l)) :
    wp 31 0 [.ref a, .ref (a + 3 + 3 * i), .int (nI i), ab_nov, ab_nov] [] (ab_S h f g l) Q := by
  have sk' := sk
  obtain ⟨⟨s0, g0, g1, s1, s2⟩, hr, hs⟩ := sk
  obtain ⟨e1, e2, e3, e4, e5, e6⟩ := hr i hi
  have px := p.2.1
  have hlen := (px.room hi).len (v.2.1 i hi)
  have hq8 := (v.2.1 i hi).2.2.2.1.2
  have hns := px.ns v
  have hn8 := v.1.2
  have c10 : f (a + 3 + 3 * i) 10 = z (6 + 27 * i + 10) := (px.room hi).1 10 (by omega)
  by_cases hq : ab_q z i = 8
  · rw [hq] at hlen
    simp (disch := first | assumption | exact id rfl | omega | exact ab_dK (by assumption) | exact ab_dL (by assumption) (by omega) | exact ab_dI (by assumption) (by omega) (by omega) | exact ab_dIs (by assumption) (by omega) (by omega) | exact ab_isA_rf _ | exact nI_ne0 (by omega) (by omega) | exact Nat.le_of_ble_eq_true rfl | exact ab_dA (by assumption) (by omega) (by omega) (by omega) | exact id (Or.inl rfl) | exact id (Or.inr rfl) | exact ab_b01 | exact ab_dJ (by assumption) (by omega) (by omega) | exact ab_dI6 (by assumption) (by omega) (by omega) | fail) only [i31_0, i31_1, i31_4, i31_7, i31_9, i31_12, i31_13, i31_14, i31_15, i31_16, i31_19, i31_22, i31_23, i31_24, i31_25, i31_28, i31_30, i31_32, i31_32r, i31_32n, i31_35, i31_36, i31_39, i31_41, i31_44, i31_45, i31_46, i31_49, i31_51, i31_54, i31_55, i31_56, i31_59, i31_62, i31_64, i31_67, i31_70, i31_71, i31_72, i31_75, ab_isA_rf, ab_clr_int, ab_clr_ref, ab_clr_null, ab_clr_rf, ab_clr_nov, ab_clr_long, ab_clr_dbl, ab_rf_some, ab_rf_none, ab_hi_S, ab_hr_S, ab_hl_S, ab_sh_S, ab_setI_S, ab_setR_S, ab_setL_S, ab_thr_S, ab_K_ret, ab_K_void, List.length_cons, List.length_nil, Nat.reduceAdd, Nat.reduceMul, ite_not, reduceIte, ab_nadd, ab_nmul, ab_nsub, ab_nclamp, ab_nlt, ab_nle, ab_neq, ab_nlt0, ab_n0lt, ab_nle0, ab_nle00, ab_neq0, ab_nm1, ab_m1n, ab_m1lt, ab_nltm1, ab_nlem1, ab_m1le, ab_m1lt0, ab_0lem1, ab_m1eq0, ab_m1eqm1, ab_ltT, ab_ltF, ab_leT, ab_leF, ab_eqT, ab_eqF, ab_b0, ab_not_true, ab_not_false, ab_u_at, ab_u_ne, ab_u_eq, Nat.add_zero, Nat.zero_add, e3, hlen]
    refine hQ f ?_
    unfold takeZ
    rw [if_pos hq]
    exact p
  · have hq8' : ab_q z i < 8 := by omega
    rcases ab_pick_or (z := z) (i := i) with hpk | ⟨s, hpk, hsn, hrip⟩
    · simp (disch := first | assumption | exact id rfl | omega | exact ab_dK (by assumption) | exact ab_dL (by assumption) (by omega) | exact ab_dI (by assumption) (by omega) (by omega) | exact ab_dIs (by assumption) (by omega) (by omega) | exact ab_isA_rf _ | exact nI_ne0 (by omega) (by omega) | exact Nat.le_of_ble_eq_true rfl | exact ab_dA (by assumption) (by omega) (by omega) (by omega) | exact id (Or.inl rfl) | exact id (Or.inr rfl) | exact ab_b01 | exact ab_dJ (by assumption) (by omega) (by omega) | exact ab_dI6 (by assumption) (by omega) (by omega) | fail) only [i31_0, i31_1, i31_4, i31_7, i31_9, i31_12, i31_13, i31_14, i31_15, i31_16, i31_19, i31_22, i31_23, i31_24, i31_25, i31_28, i31_30, i31_32, i31_32r, i31_32n, i31_35, i31_36, i31_39, i31_41, i31_44, i31_45, i31_46, i31_49, i31_51, i31_54, i31_55, i31_56, i31_59, i31_62, i31_64, i31_67, i31_70, i31_71, i31_72, i31_75, ab_isA_rf, ab_clr_int, ab_clr_ref, ab_clr_null, ab_clr_rf, ab_clr_nov, ab_clr_long, ab_clr_dbl, ab_rf_some, ab_rf_none, ab_hi_S, ab_hr_S, ab_hl_S, ab_sh_S, ab_setI_S, ab_setR_S, ab_setL_S, ab_thr_S, ab_K_ret, ab_K_void, List.length_cons, List.length_nil, Nat.reduceAdd, Nat.reduceMul, ite_not, reduceIte, ab_nadd, ab_nmul, ab_nsub, ab_nclamp, ab_nlt, ab_nle, ab_neq, ab_nlt0, ab_n0lt, ab_nle0, ab_nle00, ab_neq0, ab_nm1, ab_m1n, ab_m1lt, ab_nltm1, ab_nlem1, ab_m1le, ab_m1lt0, ab_0lem1, ab_m1eq0, ab_m1eqm1, ab_ltT, ab_ltF, ab_leT, ab_leF, ab_eqT, ab_eqF, ab_b0, ab_not_true, ab_not_false, ab_u_at, ab_u_ne, ab_u_eq, Nat.add_zero, Nat.zero_add, e3, hlen, c10, t_next sk' px v hi, hpk, t_seamAtN (x := -1) sk' hns hn8 (Or.inl (by decide))]
      refine hQ f ?_
      unfold takeZ
      rw [if_neg hq, if_pos hpk]
      exact p
    · obtain ⟨f1, f2, f3, f4, f5, f6⟩ := hs s (by omega)
      have ho := ab_ripe_on hrip
      have hsl := (px.seam hsn).len (v.2.2.1 s hsn)
      have ho6 := (v.2.2.1 s hsn).2.2.2.2.2
      have x0 : f (a + 21 + 3 * s + 1 + 1) (3 * 0 + 0) = z (168 + 24 * s + 6) := (px.seam hsn).2 0 0 ho (by omega)
      have x1 : f (a + 21 + 3 * s + 1 + 1) (3 * 0 + 1) = z (168 + 24 * s + (6 + 1)) := (px.seam hsn).2 0 1 ho (by omega)
      have hsl' : (ab_u (ab_u (ab_u (ab_u f (a + 3 + 3 * i + 1 + 1) (3 * ab_q z i) (z (168 + 24 * s + 6))) (a + 3 + 3 * i + 1 + 1) (3 * ab_q z i + 1) (z (168 + 24 * s + (6 + 1)))) (a + 3 + 3 * i + 1 + 1) (3 * ab_q z i + 2) (nI 0)) (a + 3 + 3 * i + 1) 1 (nI (ab_q z i + 1))) (a + 21 + 3 * s + 1) 1 = nI (ab_on z s) := by
        simp (disch := first | assumption | exact id rfl | omega | exact ab_dK (by assumption) | exact ab_dL (by assumption) (by omega) | exact ab_dI (by assumption) (by omega) (by omega) | exact ab_dIs (by assumption) (by omega) (by omega) | exact ab_isA_rf _ | exact nI_ne0 (by omega) (by omega) | exact Nat.le_of_ble_eq_true rfl | exact ab_dA (by assumption) (by omega) (by omega) (by omega) | exact id (Or.inl rfl) | exact id (Or.inr rfl) | exact ab_b01 | exact ab_dJ (by assumption) (by omega) (by omega) | exact ab_dI6 (by assumption) (by omega) (by omega) | fail) only [ab_u_ne, hsl]
      simp (disch := first | assumption | exact id rfl | omega | exact ab_dK (by assumption) | exact ab_dL (by assumption) (by omega) | exact ab_dI (by assumption) (by omega) (by omega) | exact ab_dIs (by assumption) (by omega) (by omega) | exact ab_isA_rf _ | exact nI_ne0 (by omega) (by omega) | exact Nat.le_of_ble_eq_true rfl | exact ab_dA (by assumption) (by omega) (by omega) (by omega) | exact id (Or.inl rfl) | exact id (Or.inr rfl) | exact ab_b01 | exact ab_dJ (by assumption) (by omega) (by omega) | exact ab_dI6 (by assumption) (by omega) (by omega) | fail) only [i31_0, i31_1, i31_4, i31_7, i31_9, i31_12, i31_13, i31_14, i31_15, i31_16, i31_19, i31_22, i31_23, i31_24, i31_25, i31_28, i31_30, i31_32, i31_32r, i31_32n, i31_35, i31_36, i31_39, i31_41, i31_44, i31_45, i31_46, i31_49, i31_51, i31_54, i31_55, i31_56, i31_59, i31_62, i31_64, i31_67, i31_70, i31_71, i31_72, i31_75, ab_isA_rf, ab_clr_int, ab_clr_ref, ab_clr_null, ab_clr_rf, ab_clr_nov, ab_clr_long, ab_clr_dbl, ab_rf_some, ab_rf_none, ab_hi_S, ab_hr_S, ab_hl_S, ab_sh_S, ab_setI_S, ab_setR_S, ab_setL_S, ab_thr_S, ab_K_ret, ab_K_void, List.length_cons, List.length_nil, Nat.reduceAdd, Nat.reduceMul, ite_not, reduceIte, ab_nadd, ab_nmul, ab_nsub, ab_nclamp, ab_nlt, ab_nle, ab_neq, ab_nlt0, ab_n0lt, ab_nle0, ab_nle00, ab_neq0, ab_nm1, ab_m1n, ab_m1lt, ab_nltm1, ab_nlem1, ab_m1le, ab_m1lt0, ab_0lem1, ab_m1eq0, ab_m1eqm1, ab_ltT, ab_ltF, ab_leT, ab_leF, ab_eqT, ab_eqF, ab_b0, ab_not_true, ab_not_false, ab_u_at, ab_u_ne, ab_u_eq, Nat.add_zero, Nat.zero_add, e3, hlen, c10, t_next sk' px v hi, hpk, t_seamAt sk' hns hn8 hsn, f3, t_cellAt (n := ab_on z s) f4 f6 f5 hsl, x0, x1, t_add (n := ab_q z i) e4 e6 e5 hlen hq8', t_drop f4 f6 f5 hsl' ho (by omega), ab_u_mdrop, if_pos ho]
      refine hQ _ ?_
      unfold takeZ
      rw [if_neg hq, if_neg (by rw [hpk, ab_nm1 (by omega)]; exact fun h => h), hpk, ab_nclamp (show s < 2147483648 by omega)]
      have p2 := ((p.enter (x := z (168 + 24 * s + 6)) (y := z (168 + 24 * s + (6 + 1))) hi rfl hq8').rfield (k := 10) (c := 10) (x := nI s) hi (by omega) (by omega) (by omega))
      exact p2.sdrop (by rw [ab_ns_same (z := z) (by unfold enterZ; simp (disch := first | assumption | exact id rfl | omega | exact ab_dK (by assumption) | exact ab_dL (by assumption) (by omega) | exact ab_dI (by assumption) (by omega) (by omega) | exact ab_dIs (by assumption) (by omega) (by omega) | exact ab_isA_rf _ | exact nI_ne0 (by omega) (by omega) | exact Nat.le_of_ble_eq_true rfl | exact ab_dA (by assumption) (by omega) (by omega) (by omega) | exact id (Or.inl rfl) | exact id (Or.inr rfl) | exact ab_b01 | exact ab_dJ (by assumption) (by omega) (by omega) | exact ab_dI6 (by assumption) (by omega) (by omega) | fail) only [ab_upd_ne])]; exact hsn) (ab_on_same (by unfold enterZ; simp (disch := first | assumption | exact id rfl | omega | exact ab_dK (by assumption) | exact ab_dL (by assumption) (by omega) | exact ab_dI (by assumption) (by omega) (by omega) | exact ab_dIs (by assumption) (by omega) (by omega) | exact ab_isA_rf _ | exact nI_ne0 (by omega) (by omega) | exact Nat.le_of_ble_eq_true rfl | exact ab_dA (by assumption) (by omega) (by omega) (by omega) | exact id (Or.inl rfl) | exact id (Or.inr rfl) | exact ab_b01 | exact ab_dJ (by assumption) (by omega) (by omega) | exact ab_dI6 (by assumption) (by omega) (by omega) | fail) only [ab_upd_ne])) ho
end AbHand
