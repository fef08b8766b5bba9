/-! A SeamBeats is made. -/
section AbMake4
variable {h : ab_Hp} {f f' f0 : Nat → Nat → Int32} {g g' g0 : Nat → Nat → Option Nat} {l l' l0 : Nat → Nat → Int64} {Q : ab_O → ab_Hp → Prop} {N r a H T X n tn : Nat} {s s' : Nat → Nat × Nat} {z : Nat → Int32} {zs : Nat → Nat → Int32} {cs : Nat → Nat}
theorem ab_nsum_zero {p : Nat → Nat} : ∀ {n : Nat}, (∀ k, k < n → p k = 0) → ab_nsum p n = 0 := by
  intro n
  induction n with
  | zero => intro _; rfl
  | succ n ih =>
    intro hp
    simp only [ab_nsum]
    rw [ih (fun k hk => hp k (by omega)), hp n (by omega)]
theorem ab_z0_inv : InvZ ab_z0 := by
  refine ⟨⟨rfl, by rw [ab_z0_ns]; omega⟩, fun i hi => ⟨⟨1, ?_, by omega, by omega⟩, ?_, ?_, ⟨?_, ?_⟩, ?_⟩, fun s hs => ?_, ?_, 0, 0, rfl, rfl, by omega, ?_⟩
  · exact ab_z0_room (k := 0) hi (by omega)
  · exact Or.inr (ab_z0_room (k := 2) hi (by omega))
  · exact Or.inl (ab_z0_room (k := 3) hi (by omega))
  · rw [ab_z0_q hi]; exact ab_z0_room (k := 4) hi (by omega)
  · rw [ab_z0_q hi]; omega
  · exact Or.inl (ab_z0_room (k := 10) hi (by omega))
  · rw [ab_z0_ns] at hs; omega
  · have e : ab_sum (fun i => ab_z0 (6 + 27 * i + 8)) 6 = ab_sum (fun _ => nI 0) 6 := ab_sum_congr (fun k hk => by rw [ab_z0_room hk (by omega)]; rfl)
    rw [e]
    decide
  · rw [ab_nsum_zero (fun k hk => ab_z0_q hk), ab_z0_ns]
    rfl
theorem PicH.same (p : PicH s f g H n zs) (hs : ∀ b, H ≤ b → b < H + 272 → s' b = s b) (hf : ∀ b, H ≤ b → b < H + 272 → ∀ j, f' b j = f b j) (hg : ∀ b, H ≤ b → b < H + 272 → ∀ j, g' b j = g b j) : PicH s' f' g' H n zs := by
  obtain ⟨⟨k0, k1, g0, hn, hn6⟩, hsk, π, hp, hinj, hpic⟩ := p
  refine ⟨⟨(hs _ (by omega) (by omega)).trans k0, (hs _ (by omega) (by omega)).trans k1, (hg _ (by omega) (by omega) 0).trans g0, (hf _ (by omega) (by omega) 1).trans hn, hn6⟩, fun k hk => (hsk k hk).same2 (fun b h1 h2 => hs b (by omega) (by omega)) (fun b h1 h2 j => hg b (by omega) (by omega) j), π, fun i hi => ⟨(hp i hi).1, (hg _ (by omega) (by omega) i).trans (hp i hi).2⟩, hinj, fun i hi => ?_⟩
  have := (hp i (by omega)).1
  exact ⟨(hpic i hi).1.same (hpic i hi).2 (fun b h1 h2 j => hf b (by omega) (by omega) j), (hpic i hi).2⟩
theorem PicT.same (p : PicT s f g T tn cs) (hs : ∀ b, T ≤ b → b < T + 2 → s' b = s b) (hf : ∀ b, T ≤ b → b < T + 2 → ∀ j, f' b j = f b j) (hg : ∀ b, T ≤ b → b < T + 2 → ∀ j, g' b j = g b j) : PicT s' f' g' T tn cs := by
  obtain ⟨⟨k0, k1, g0, hn, hn6⟩, hc⟩ := p
  exact ⟨⟨(hs _ (by omega) (by omega)).trans k0, (hs _ (by omega) (by omega)).trans k1, (hg _ (by omega) (by omega) 0).trans g0, (hf _ (by omega) (by omega) 1).trans hn, hn6⟩, fun i hi => ⟨(hf _ (by omega) (by omega) i).trans (hc i hi).1, (hc i hi).2⟩⟩
def PicB (s : Nat → Nat × Nat) (f : Nat → Nat → Int32) (g : Nat → Nat → Option Nat) (X : Nat) (z : Nat → Int32) (n : Nat) (zs : Nat → Nat → Int32) (tn : Nat) (cs : Nat → Nat) : Prop :=
  (s X = (16, 0) ∧ g X 0 = some (X + 1) ∧ g X 1 = some (X + 46) ∧ g X 2 = some (X + 91) ∧ g X 3 = some (X + 363)) ∧ SkState s g (X + 1) ∧ SkState s g (X + 46) ∧ (PicX f (X + 1) z ∧ InvZ z) ∧ PicH s f g (X + 91) n zs ∧ PicT s f g (X + 363) tn cs
set_option maxRecDepth 8000 in
set_option maxHeartbeats 4000000 in
theorem t_beats_init (k1 : ab_sh h X = (16, 0)) (hN : ab_nx h = X + 1) (hQ : ∀ h' f' g' l', Grew h h' 364 4062 → PicB (ab_sh h') f' g' X ab_z0 0 zs 0 cs → KeptB f f' g g' l l' X → Q (.inl none) (ab_S h' f' g' l')) :
    wp 49 0 [.ref X] [] (ab_S h f g l) Q := by
  -- now
  have hN0 : X + 1 ≠ 0 := by omega
  have a1 : ab_sh (ab_nw h 14 0 7) (X + 1) = (14, 0) := ab_sh_nw_at hN
  have a2 : ab_nx (ab_nw h 14 0 7) = X + 1 + 1 := ab_nx_nw hN
  have a3 : ab_sh (ab_nw h 14 0 7) X = (16, 0) := (ab_sh_nw_ne hN (by omega)).trans k1
  simp (disch := first | exact ab_dN (by assumption) (by omega) | exact ab_dNA (by assumption) (by omega) (by omega) | exact ab_dAs (by assumption) (by assumption) (by omega) (by omega) (by omega) | first | assumption | exact id rfl | omega | exact ab_dK (by assumption) | exact ab_dL (by assumption) (by omega) | exact ab_dI (by assumption) (by omega) (by omega) | exact ab_dIs (by assumption) (by omega) (by omega) | exact ab_isA_rf _ | exact nI_ne0 (by omega) (by omega) | exact Nat.le_of_ble_eq_true rfl | exact ab_dA (by assumption) (by omega) (by omega) (by omega) | exact id (Or.inl rfl) | exact id (Or.inr rfl) | exact ab_b01 | exact ab_dJ (by assumption) (by omega) (by omega) | exact ab_dI6 (by assumption) (by omega) (by omega) | fail) only [i49_0, i49_1, i49_4, i49_5, i49_8, i49_9, i49_12, i49_15, i49_16, i49_19, i49_20, i49_23, i49_26, i49_27, i49_30, i49_31, i49_34, i49_37, i49_38, i49_41, i49_42, i49_45, i49_48, ab_isA_rf, ab_clr_int, ab_clr_ref, ab_clr_null, ab_clr_rf, ab_clr_nov, ab_clr_long, ab_clr_dbl, ab_rf_some, ab_rf_none, ab_hi_S, ab_hr_S, ab_hl_S, ab_sh_S, ab_setI_S, ab_setR_S, ab_setL_S, ab_thr_S, ab_K_ret, ab_K_void, List.length_cons, List.length_nil, Nat.reduceAdd, Nat.reduceMul, ite_not, reduceIte, ab_nadd, ab_nmul, ab_nsub, ab_nclamp, ab_nlt, ab_nle, ab_neq, ab_nlt0, ab_n0lt, ab_nle0, ab_nle00, ab_neq0, ab_nm1, ab_m1n, ab_m1lt, ab_nltm1, ab_nlem1, ab_m1le, ab_m1lt0, ab_0lem1, ab_m1eq0, ab_m1eqm1, ab_ltT, ab_ltF, ab_leT, ab_leF, ab_eqT, ab_eqF, ab_b0, ab_not_true, ab_not_false, ab_u_at, ab_u_ne, ab_u_eq, Nat.add_zero, Nat.zero_add, ab_new_S, ab_nx_S, hN]
  refine t_state_init a1 a2 (fun h1 f1 g1 l1 e1 e2 e3 e4 => ?_)
  have c1 : ab_sh h1 X = (16, 0) := (e1.2.2.2 X (by omega)).trans a3
  have n1 : ab_nx h1 = X + 46 := by have := e1.1; omega
  -- ahead
  have n1' : X + 46 ≠ 0 := by omega
  have b1 : ab_sh (ab_nw h1 14 0 7) (X + 46) = (14, 0) := ab_sh_nw_at n1
  have b2 : ab_nx (ab_nw h1 14 0 7) = X + 46 + 1 := ab_nx_nw n1
  have b3 : ab_sh (ab_nw h1 14 0 7) X = (16, 0) := (ab_sh_nw_ne n1 (by omega)).trans c1
  simp (disch := first | exact ab_dN (by assumption) (by omega) | exact ab_dNA (by assumption) (by omega) (by omega) | exact ab_dAs (by assumption) (by assumption) (by omega) (by omega) (by omega) | first | assumption | exact id rfl | omega | exact ab_dK (by assumption) | exact ab_dL (by assumption) (by omega) | exact ab_dI (by assumption) (by omega) (by omega) | exact ab_dIs (by assumption) (by omega) (by omega) | exact ab_isA_rf _ | exact nI_ne0 (by omega) (by omega) | exact Nat.le_of_ble_eq_true rfl | exact ab_dA (by assumption) (by omega) (by omega) (by omega) | exact id (Or.inl rfl) | exact id (Or.inr rfl) | exact ab_b01 | exact ab_dJ (by assumption) (by omega) (by omega) | exact ab_dI6 (by assumption) (by omega) (by omega) | fail) only [i49_0, i49_1, i49_4, i49_5, i49_8, i49_9, i49_12, i49_15, i49_16, i49_19, i49_20, i49_23, i49_26, i49_27, i49_30, i49_31, i49_34, i49_37, i49_38, i49_41, i49_42, i49_45, i49_48, ab_isA_rf, ab_clr_int, ab_clr_ref, ab_clr_null, ab_clr_rf, ab_clr_nov, ab_clr_long, ab_clr_dbl, ab_rf_some, ab_rf_none, ab_hi_S, ab_hr_S, ab_hl_S, ab_sh_S, ab_setI_S, ab_setR_S, ab_setL_S, ab_thr_S, ab_K_ret, ab_K_void, List.length_cons, List.length_nil, Nat.reduceAdd, Nat.reduceMul, ite_not, reduceIte, ab_nadd, ab_nmul, ab_nsub, ab_nclamp, ab_nlt, ab_nle, ab_neq, ab_nlt0, ab_n0lt, ab_nle0, ab_nle00, ab_neq0, ab_nm1, ab_m1n, ab_m1lt, ab_nltm1, ab_nlem1, ab_m1le, ab_m1lt0, ab_0lem1, ab_m1eq0, ab_m1eqm1, ab_ltT, ab_ltF, ab_leT, ab_leF, ab_eqT, ab_eqF, ab_b0, ab_not_true, ab_not_false, ab_u_at, ab_u_ne, ab_u_eq, Nat.add_zero, Nat.zero_add, ab_new_S, ab_nx_S, n1]
  refine t_state_init b1 b2 (fun h2 f2 g2 l2 i1 i2 i3 i4 => ?_)
  have c2 : ab_sh h2 X = (16, 0) := (i1.2.2.2 X (by omega)).trans b3
  have n2 : ab_nx h2 = X + 91 := by have := i1.1; omega
  -- history
  have n2' : X + 91 ≠ 0 := by omega
  have d1 : ab_sh (ab_nw h2 10 0 2) (X + 91) = (10, 0) := ab_sh_nw_at n2
  have d2 : ab_nx (ab_nw h2 10 0 2) = X + 91 + 1 := ab_nx_nw n2
  have d3 : ab_sh (ab_nw h2 10 0 2) X = (16, 0) := (ab_sh_nw_ne n2 (by omega)).trans c2
  simp (disch := first | exact ab_dN (by assumption) (by omega) | exact ab_dNA (by assumption) (by omega) (by omega) | exact ab_dAs (by assumption) (by assumption) (by omega) (by omega) (by omega) | first | assumption | exact id rfl | omega | exact ab_dK (by assumption) | exact ab_dL (by assumption) (by omega) | exact ab_dI (by assumption) (by omega) (by omega) | exact ab_dIs (by assumption) (by omega) (by omega) | exact ab_isA_rf _ | exact nI_ne0 (by omega) (by omega) | exact Nat.le_of_ble_eq_true rfl | exact ab_dA (by assumption) (by omega) (by omega) (by omega) | exact id (Or.inl rfl) | exact id (Or.inr rfl) | exact ab_b01 | exact ab_dJ (by assumption) (by omega) (by omega) | exact ab_dI6 (by assumption) (by omega) (by omega) | fail) only [i49_0, i49_1, i49_4, i49_5, i49_8, i49_9, i49_12, i49_15, i49_16, i49_19, i49_20, i49_23, i49_26, i49_27, i49_30, i49_31, i49_34, i49_37, i49_38, i49_41, i49_42, i49_45, i49_48, ab_isA_rf, ab_clr_int, ab_clr_ref, ab_clr_null, ab_clr_rf, ab_clr_nov, ab_clr_long, ab_clr_dbl, ab_rf_some, ab_rf_none, ab_hi_S, ab_hr_S, ab_hl_S, ab_sh_S, ab_setI_S, ab_setR_S, ab_setL_S, ab_thr_S, ab_K_ret, ab_K_void, List.length_cons, List.length_nil, Nat.reduceAdd, Nat.reduceMul, ite_not, reduceIte, ab_nadd, ab_nmul, ab_nsub, ab_nclamp, ab_nlt, ab_nle, ab_neq, ab_nlt0, ab_n0lt, ab_nle0, ab_nle00, ab_neq0, ab_nm1, ab_m1n, ab_m1lt, ab_nltm1, ab_nlem1, ab_m1le, ab_m1lt0, ab_0lem1, ab_m1eq0, ab_m1eqm1, ab_ltT, ab_ltF, ab_leT, ab_leF, ab_eqT, ab_eqF, ab_b0, ab_not_true, ab_not_false, ab_u_at, ab_u_ne, ab_u_eq, Nat.add_zero, Nat.zero_add, ab_new_S, ab_nx_S, n2]
  refine t_hist_init (zs := zs) d1 d2 (fun h3 f3 g3 l3 j1 j2 j3 => ?_)
  have c3 : ab_sh h3 X = (16, 0) := (j1.2.2.2 X (by omega)).trans d3
  have n3 : ab_nx h3 = X + 363 := by have := j1.1; omega
  -- text
  have n3' : X + 363 ≠ 0 := by omega
  have m1 : ab_sh (ab_nw h3 15 0 2) (X + 363) = (15, 0) := ab_sh_nw_at n3
  have m2 : ab_nx (ab_nw h3 15 0 2) = X + 363 + 1 := ab_nx_nw n3
  have m3 : ab_sh (ab_nw h3 15 0 2) X = (16, 0) := (ab_sh_nw_ne n3 (by omega)).trans c3
  simp (disch := first | exact ab_dN (by assumption) (by omega) | exact ab_dNA (by assumption) (by omega) (by omega) | exact ab_dAs (by assumption) (by assumption) (by omega) (by omega) (by omega) | first | assumption | exact id rfl | omega | exact ab_dK (by assumption) | exact ab_dL (by assumption) (by omega) | exact ab_dI (by assumption) (by omega) (by omega) | exact ab_dIs (by assumption) (by omega) (by omega) | exact ab_isA_rf _ | exact nI_ne0 (by omega) (by omega) | exact Nat.le_of_ble_eq_true rfl | exact ab_dA (by assumption) (by omega) (by omega) (by omega) | exact id (Or.inl rfl) | exact id (Or.inr rfl) | exact ab_b01 | exact ab_dJ (by assumption) (by omega) (by omega) | exact ab_dI6 (by assumption) (by omega) (by omega) | fail) only [i49_0, i49_1, i49_4, i49_5, i49_8, i49_9, i49_12, i49_15, i49_16, i49_19, i49_20, i49_23, i49_26, i49_27, i49_30, i49_31, i49_34, i49_37, i49_38, i49_41, i49_42, i49_45, i49_48, ab_isA_rf, ab_clr_int, ab_clr_ref, ab_clr_null, ab_clr_rf, ab_clr_nov, ab_clr_long, ab_clr_dbl, ab_rf_some, ab_rf_none, ab_hi_S, ab_hr_S, ab_hl_S, ab_sh_S, ab_setI_S, ab_setR_S, ab_setL_S, ab_thr_S, ab_K_ret, ab_K_void, List.length_cons, List.length_nil, Nat.reduceAdd, Nat.reduceMul, ite_not, reduceIte, ab_nadd, ab_nmul, ab_nsub, ab_nclamp, ab_nlt, ab_nle, ab_neq, ab_nlt0, ab_n0lt, ab_nle0, ab_nle00, ab_neq0, ab_nm1, ab_m1n, ab_m1lt, ab_nltm1, ab_nlem1, ab_m1le, ab_m1lt0, ab_0lem1, ab_m1eq0, ab_m1eqm1, ab_ltT, ab_ltF, ab_leT, ab_leF, ab_eqT, ab_eqF, ab_b0, ab_not_true, ab_not_false, ab_u_at, ab_u_ne, ab_u_eq, Nat.add_zero, Nat.zero_add, ab_new_S, ab_nx_S, n3]
  refine t_text_init (cs := cs) m1 m2 (fun h4 f4 g4 l4 o1 o2 o3 => ?_)
  have c4 : ab_sh h4 X = (16, 0) := (o1.2.2.2 X (by omega)).trans m3
  simp (disch := first | exact ab_dN (by assumption) (by omega) | exact ab_dNA (by assumption) (by omega) (by omega) | exact ab_dAs (by assumption) (by assumption) (by omega) (by omega) (by omega) | first | assumption | exact id rfl | omega | exact ab_dK (by assumption) | exact ab_dL (by assumption) (by omega) | exact ab_dI (by assumption) (by omega) (by omega) | exact ab_dIs (by assumption) (by omega) (by omega) | exact ab_isA_rf _ | exact nI_ne0 (by omega) (by omega) | exact Nat.le_of_ble_eq_true rfl | exact ab_dA (by assumption) (by omega) (by omega) (by omega) | exact id (Or.inl rfl) | exact id (Or.inr rfl) | exact ab_b01 | exact ab_dJ (by assumption) (by omega) (by omega) | exact ab_dI6 (by assumption) (by omega) (by omega) | fail) only [i49_0, i49_1, i49_4, i49_5, i49_8, i49_9, i49_12, i49_15, i49_16, i49_19, i49_20, i49_23, i49_26, i49_27, i49_30, i49_31, i49_34, i49_37, i49_38, i49_41, i49_42, i49_45, i49_48, ab_isA_rf, ab_clr_int, ab_clr_ref, ab_clr_null, ab_clr_rf, ab_clr_nov, ab_clr_long, ab_clr_dbl, ab_rf_some, ab_rf_none, ab_hi_S, ab_hr_S, ab_hl_S, ab_sh_S, ab_setI_S, ab_setR_S, ab_setL_S, ab_thr_S, ab_K_ret, ab_K_void, List.length_cons, List.length_nil, Nat.reduceAdd, Nat.reduceMul, ite_not, reduceIte, ab_nadd, ab_nmul, ab_nsub, ab_nclamp, ab_nlt, ab_nle, ab_neq, ab_nlt0, ab_n0lt, ab_nle0, ab_nle00, ab_neq0, ab_nm1, ab_m1n, ab_m1lt, ab_nltm1, ab_nlem1, ab_m1le, ab_m1lt0, ab_0lem1, ab_m1eq0, ab_m1eqm1, ab_ltT, ab_ltF, ab_leT, ab_leF, ab_eqT, ab_eqF, ab_b0, ab_not_true, ab_not_false, ab_u_at, ab_u_ne, ab_u_eq, Nat.add_zero, Nat.zero_add, ab_new_S, ab_nx_S]
  -- what stays
  have G4 := (((((((Grew.new (h := h) (kd := 14) (n := 0) (w := 7)).trans e1).trans (Grew.new (kd := 14) (n := 0) (w := 7))).trans i1).trans (Grew.new (kd := 10) (n := 0) (w := 2))).trans j1).trans (Grew.new (kd := 15) (n := 0) (w := 2))).trans o1
  have S34 : ∀ b, b < X + 363 → ab_sh h4 b = ab_sh h3 b := fun b hb => (o1.2.2.2 b (by omega)).trans (ab_sh_nw_ne n3 (by omega))
  have S23 : ∀ b, b < X + 91 → ab_sh h3 b = ab_sh h2 b := fun b hb => (j1.2.2.2 b (by omega)).trans (ab_sh_nw_ne n2 (by omega))
  have S12 : ∀ b, b < X + 46 → ab_sh h2 b = ab_sh h1 b := fun b hb => (i1.2.2.2 b (by omega)).trans (ab_sh_nw_ne n1 (by omega))
  have M34 : ∀ b, b < X + 363 → b ≠ X → ∀ j, f4 b j = f3 b j ∧ g4 b j = g3 b j ∧ l4 b j = l3 b j := fun b hb hx j => by
    obtain ⟨w1, w2, w3⟩ := o3 b (by omega) j
    exact ⟨w1.trans (ab_zf_ne (by omega)), w2.trans ((ab_zg_ne (by omega)).trans (ab_u_ne (by omega))), w3.trans (ab_zl_ne (by omega))⟩
  have M23 : ∀ b, b < X + 91 → b ≠ X → ∀ j, f3 b j = f2 b j ∧ g3 b j = g2 b j ∧ l3 b j = l2 b j := fun b hb hx j => by
    obtain ⟨w1, w2, w3⟩ := j3 b (by omega) j
    exact ⟨w1.trans (ab_zf_ne (by omega)), w2.trans ((ab_zg_ne (by omega)).trans (ab_u_ne (by omega))), w3.trans (ab_zl_ne (by omega))⟩
  have M12 : ∀ b, b < X + 46 → b ≠ X → ∀ j, f2 b j = f1 b j ∧ g2 b j = g1 b j ∧ l2 b j = l1 b j := fun b hb hx j => by
    obtain ⟨w1, w2, w3⟩ := i4 b (by omega) j
    exact ⟨w1.trans (ab_zf_ne (by omega)), w2.trans ((ab_zg_ne (by omega)).trans (ab_u_ne (by omega))), w3.trans (ab_zl_ne (by omega))⟩
  have gX0 : g4 X 0 = some (X + 1) := by
    rw [(o3 X (by omega) 0).2.1, ab_zg_ne (by omega), ab_u_ne (by omega), (j3 X (by omega) 0).2.1, ab_zg_ne (by omega), ab_u_ne (by omega), (i4 X (by omega) 0).2.1, ab_zg_ne (by omega), ab_u_at]
  have gX1 : g4 X 1 = some (X + 46) := by
    rw [(o3 X (by omega) 1).2.1, ab_zg_ne (by omega), ab_u_ne (by omega), (j3 X (by omega) 1).2.1, ab_zg_ne (by omega), ab_u_at]
  have gX2 : g4 X 2 = some (X + 91) := by
    rw [(o3 X (by omega) 2).2.1, ab_zg_ne (by omega), ab_u_at]
  refine hQ _ _ _ _ G4 ⟨⟨c4, ?_, ?_, ?_, ab_u_at _ _ _ _⟩, ?_, ?_, ⟨?_, ab_z0_inv⟩, ?_, ?_⟩ (fun b hb j => ⟨?_, ?_, ?_⟩)
  · rw [ab_u_ne (by omega)]; exact gX0
  · rw [ab_u_ne (by omega)]; exact gX1
  · rw [ab_u_ne (by omega)]; exact gX2
  · refine e2.same2 (fun b q1 q2 => (S34 b (by omega)).trans ((S23 b (by omega)).trans (S12 b (by omega)))) (fun b q1 q2 j => ?_)
    rw [ab_u_ne (by omega), (M34 b (by omega) (by omega) j).2.1, (M23 b (by omega) (by omega) j).2.1, (M12 b (by omega) (by omega) j).2.1]
  · refine i2.same2 (fun b q1 q2 => (S34 b (by omega)).trans (S23 b (by omega))) (fun b q1 q2 j => ?_)
    rw [ab_u_ne (by omega), (M34 b (by omega) (by omega) j).2.1, (M23 b (by omega) (by omega) j).2.1]
  · refine e3.same ab_z0_inv (fun b q1 q2 j => ?_)
    rw [(M34 b (by omega) (by omega) j).1, (M23 b (by omega) (by omega) j).1, (M12 b (by omega) (by omega) j).1]
  · refine j2.same (fun b q1 q2 => S34 b (by omega)) (fun b q1 q2 j => (M34 b (by omega) (by omega) j).1) (fun b q1 q2 j => ?_)
    rw [ab_u_ne (by omega), (M34 b (by omega) (by omega) j).2.1]
  · exact o2.same (fun _ _ _ => rfl) (fun _ _ _ _ => rfl) (fun b q1 q2 j => ab_u_ne (by omega))
  · rw [(M34 b (by omega) (by omega) j).1, (M23 b (by omega) (by omega) j).1, (M12 b (by omega) (by omega) j).1, (e4 b (by omega) j).1, ab_zf_ne (by omega)]
  · rw [ab_u_ne (by omega), (M34 b (by omega) (by omega) j).2.1, (M23 b (by omega) (by omega) j).2.1, (M12 b (by omega) (by omega) j).2.1, (e4 b (by omega) j).2.1, ab_zg_ne (by omega)]
  · rw [(M34 b (by omega) (by omega) j).2.2, (M23 b (by omega) (by omega) j).2.2, (M12 b (by omega) (by omega) j).2.2, (e4 b (by omega) j).2.2, ab_zl_ne (by omega)]
end AbMake4
