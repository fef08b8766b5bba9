/-! The law: its loop, and its start. -/
section AbLaw
variable {h : ab_Hp} {f f' f0 : Nat → Nat → Int32} {g g' : Nat → Nat → Option Nat} {l l' : Nat → Nat → Int64} {Q : ab_O → ab_Hp → Prop} {X M b L i n n' tn tn' : Nat} {xs z z' Z Z' : Nat → Int32} {zs zs' : Nat → Nat → Int32} {cs cs' : Nat → Nat} {s : Nat → Nat × Nat} {u5 u6 u7 u8 : Value}
theorem ab_ite {P A B : Prop} [Decidable P] (h1 : P → A) (h2 : ¬ P → B) : if P then A else B := by
  by_cases hp : P
  · rw [if_pos hp]; exact h1 hp
  · rw [if_neg hp]; exact h2 hp
theorem ab_lawcmp {i : Nat} (hL : L ≤ 2560) (hi : i ≤ 3000) : (nI L - nI 5 < nI i) = (L < i + 5) := by
  by_cases h5 : 5 ≤ L
  · rw [ab_nsub h5, ab_nlt (by omega) (by omega)]
    exact propext ⟨fun h => by omega, fun h => by omega⟩
  · have hneg : nI L - nI 5 < 0 := by
      have hc : L = 0 ∨ L = 1 ∨ L = 2 ∨ L = 3 ∨ L = 4 := by omega
      rcases hc with rfl | rfl | rfl | rfl | rfl <;> decide
    rw [ab_g2 hneg (by omega)]
    exact (eq_true (by omega)).symm
def LawQ : ab_O → ab_Hp → Prop := fun o h' => o = .inl (some (.int 1)) ∧ ab_cc h' ≤ 601024 ∧ ab_sc h' ≤ 7293034
set_option maxHeartbeats 4000000 in
theorem law_loop : ∀ (c k : Nat) (h : ab_Hp) (f : Nat → Nat → Int32) (g : Nat → Nat → Option Nat) (l : Nat → Nat → Int64) (z : Nat → Int32) (n : Nat) (zs : Nat → Nat → Int32) (tn : Nat) (cs : Nat → Nat) (u5 u6 u7 u8 : Value), k + c = 513 → St (ab_sh h) f g X M b L xs z n zs tn cs → ab_cc h ≤ 400 + k → ab_sc h ≤ 8000 + 6 * k →
    wp 170 23 [.ref b, .ref X, .ref M, .ref (M + 6), .int (nI (5 * k)), u5, u6, u7, u8] [] (ab_S h f g l) LawQ := by
  intro c
  induction c with
  | zero =>
    intro k h f g l z n zs tn cs u5 u6 u7 u8 hk S hc hs
    have e : k = 513 := by omega
    obtain ⟨-, -, -, -, ⟨sb, hbX, hL⟩, -⟩ := S
    have hcmp : (nI L - nI 5 < nI (5 * k)) = True := (ab_lawcmp hL (by omega)).trans (eq_true (by omega))
    simp (disch := first | with_reducible assumption | exact ab_dK (by with_reducible assumption) | exact id rfl | exact Nat.le_of_ble_eq_true rfl | exact ab_dL (by with_reducible assumption) (by omega) | exact ab_dI (by with_reducible assumption) (by omega) (by omega) | exact ab_dI6 (by with_reducible assumption) (by omega) (by omega) | exact ab_dIs (by with_reducible assumption) (by omega) (by omega) | exact ab_dJ (by with_reducible assumption) (by omega) (by omega) | omega | exact ab_isA_rf _ | exact nI_ne0 (by omega) (by omega) | exact ab_dA (by with_reducible assumption) (by omega) (by omega) (by omega) | exact id (Or.inl rfl) | exact id (Or.inr rfl) | exact ab_b01 | fail) only [i170_23, ab_isA_rf, ab_clr_int, ab_clr_ref, ab_clr_null, ab_clr_rf, ab_clr_nov, ab_clr_long, ab_clr_dbl, ab_rf_some, ab_rf_none, ab_hi_S, ab_hr_S, ab_hl_S, ab_sh_S, ab_setI_S, ab_setR_S, ab_setL_S, ab_thr_S, ab_K_ret, ab_K_void, List.length_cons, List.length_nil, Nat.reduceAdd, Nat.reduceMul, ↓reduceIte, ↓Nat.reduceLT, ↓Nat.reduceLeDiff, ↓Nat.reduceEqDiff, ab_nadd, ab_nmul, ab_nsub, ab_nclamp, ab_nlt, ab_nle, ab_neq, ab_nlt0, ab_n0lt, ab_nle0, ab_nle00, ab_neq0, ab_nm1, ab_m1n, ab_m1lt, ab_nltm1, ab_nlem1, ab_m1le, ab_m1lt0, ab_0lem1, ab_m1eq0, ab_m1eqm1, ab_ltT, ab_ltF, ab_leT, ab_leF, ab_eqT, ab_eqF, ab_b0, ab_not_true, ab_not_false, ab_u_at, ab_u_ne, ab_u_eq, Nat.add_zero, Nat.zero_add]
    simp (disch := first | with_reducible assumption | exact ab_dK (by with_reducible assumption) | exact id rfl | exact Nat.le_of_ble_eq_true rfl | exact ab_dL (by with_reducible assumption) (by omega) | exact ab_dI (by with_reducible assumption) (by omega) (by omega) | exact ab_dI6 (by with_reducible assumption) (by omega) (by omega) | exact ab_dIs (by with_reducible assumption) (by omega) (by omega) | exact ab_dJ (by with_reducible assumption) (by omega) (by omega) | omega | exact ab_isA_rf _ | exact nI_ne0 (by omega) (by omega) | exact ab_dA (by with_reducible assumption) (by omega) (by omega) (by omega) | exact id (Or.inl rfl) | exact id (Or.inr rfl) | exact ab_b01 | fail) only [i170_25, i170_26, i170_27, i170_28, i170_29, i170_32, i170_33, i170_35, i170_36, i170_38, i170_1436, i170_1437, ab_isA_rf, ab_clr_int, ab_clr_ref, ab_clr_null, ab_clr_rf, ab_clr_nov, ab_clr_long, ab_clr_dbl, ab_rf_some, ab_rf_none, ab_hi_S, ab_hr_S, ab_hl_S, ab_sh_S, ab_setI_S, ab_setR_S, ab_setL_S, ab_thr_S, ab_K_ret, ab_K_void, List.length_cons, List.length_nil, Nat.reduceAdd, Nat.reduceMul, ↓reduceIte, ↓Nat.reduceLT, ↓Nat.reduceLeDiff, ↓Nat.reduceEqDiff, sb, hcmp]
    exact ⟨rfl, by show ab_cc h ≤ _; omega, by show ab_sc h ≤ _; omega⟩
  | succ c ih =>
    intro k h f g l z n zs tn cs u5 u6 u7 u8 hk S hc hs
    have S' := S
    obtain ⟨-, -, -, -, ⟨sb, hbX, hL⟩, -⟩ := S'
    by_cases hlt : L < 5 * k + 5
    · have hcmp : (nI L - nI 5 < nI (5 * k)) = True := (ab_lawcmp hL (by omega)).trans (eq_true (by omega))
      simp (disch := first | with_reducible assumption | exact ab_dK (by with_reducible assumption) | exact id rfl | exact Nat.le_of_ble_eq_true rfl | exact ab_dL (by with_reducible assumption) (by omega) | exact ab_dI (by with_reducible assumption) (by omega) (by omega) | exact ab_dI6 (by with_reducible assumption) (by omega) (by omega) | exact ab_dIs (by with_reducible assumption) (by omega) (by omega) | exact ab_dJ (by with_reducible assumption) (by omega) (by omega) | omega | exact ab_isA_rf _ | exact nI_ne0 (by omega) (by omega) | exact ab_dA (by with_reducible assumption) (by omega) (by omega) (by omega) | exact id (Or.inl rfl) | exact id (Or.inr rfl) | exact ab_b01 | fail) only [i170_23, ab_isA_rf, ab_clr_int, ab_clr_ref, ab_clr_null, ab_clr_rf, ab_clr_nov, ab_clr_long, ab_clr_dbl, ab_rf_some, ab_rf_none, ab_hi_S, ab_hr_S, ab_hl_S, ab_sh_S, ab_setI_S, ab_setR_S, ab_setL_S, ab_thr_S, ab_K_ret, ab_K_void, List.length_cons, List.length_nil, Nat.reduceAdd, Nat.reduceMul, ↓reduceIte, ↓Nat.reduceLT, ↓Nat.reduceLeDiff, ↓Nat.reduceEqDiff, ab_nadd, ab_nmul, ab_nsub, ab_nclamp, ab_nlt, ab_nle, ab_neq, ab_nlt0, ab_n0lt, ab_nle0, ab_nle00, ab_neq0, ab_nm1, ab_m1n, ab_m1lt, ab_nltm1, ab_nlem1, ab_m1le, ab_m1lt0, ab_0lem1, ab_m1eq0, ab_m1eqm1, ab_ltT, ab_ltF, ab_leT, ab_leF, ab_eqT, ab_eqF, ab_b0, ab_not_true, ab_not_false, ab_u_at, ab_u_ne, ab_u_eq, Nat.add_zero, Nat.zero_add]
      simp (disch := first | with_reducible assumption | exact ab_dK (by with_reducible assumption) | exact id rfl | exact Nat.le_of_ble_eq_true rfl | exact ab_dL (by with_reducible assumption) (by omega) | exact ab_dI (by with_reducible assumption) (by omega) (by omega) | exact ab_dI6 (by with_reducible assumption) (by omega) (by omega) | exact ab_dIs (by with_reducible assumption) (by omega) (by omega) | exact ab_dJ (by with_reducible assumption) (by omega) (by omega) | omega | exact ab_isA_rf _ | exact nI_ne0 (by omega) (by omega) | exact ab_dA (by with_reducible assumption) (by omega) (by omega) (by omega) | exact id (Or.inl rfl) | exact id (Or.inr rfl) | exact ab_b01 | fail) only [i170_25, i170_26, i170_27, i170_28, i170_29, i170_32, i170_33, i170_35, i170_36, i170_38, i170_1436, i170_1437, ab_isA_rf, ab_clr_int, ab_clr_ref, ab_clr_null, ab_clr_rf, ab_clr_nov, ab_clr_long, ab_clr_dbl, ab_rf_some, ab_rf_none, ab_hi_S, ab_hr_S, ab_hl_S, ab_sh_S, ab_setI_S, ab_setR_S, ab_setL_S, ab_thr_S, ab_K_ret, ab_K_void, List.length_cons, List.length_nil, Nat.reduceAdd, Nat.reduceMul, ↓reduceIte, ↓Nat.reduceLT, ↓Nat.reduceLeDiff, ↓Nat.reduceEqDiff, sb, hcmp]
      exact ⟨rfl, by show ab_cc h ≤ _; omega, by show ab_sc h ≤ _; omega⟩
    · have hcmp : (nI L - nI 5 < nI (5 * k)) = False := (ab_lawcmp hL (by omega)).trans (eq_false hlt)
      have hi : 5 * k + 5 ≤ L := by omega
      have K : LawK h X M b L xs (5 * k) LawQ := fun h' f' g' l' z' n' zs' tn' cs' v5 v6 v7 v8 S2 c1 c2 => ih (k + 1) h' f' g' l' z' n' zs' tn' cs' v5 v6 v7 v8 (by omega) S2 (by omega) (by omega)
      simp (disch := first | with_reducible assumption | exact ab_dK (by with_reducible assumption) | exact id rfl | exact Nat.le_of_ble_eq_true rfl | exact ab_dL (by with_reducible assumption) (by omega) | exact ab_dI (by with_reducible assumption) (by omega) (by omega) | exact ab_dI6 (by with_reducible assumption) (by omega) (by omega) | exact ab_dIs (by with_reducible assumption) (by omega) (by omega) | exact ab_dJ (by with_reducible assumption) (by omega) (by omega) | omega | exact ab_isA_rf _ | exact nI_ne0 (by omega) (by omega) | exact ab_dA (by with_reducible assumption) (by omega) (by omega) (by omega) | exact id (Or.inl rfl) | exact id (Or.inr rfl) | exact ab_b01 | fail) only [i170_23, ab_isA_rf, ab_clr_int, ab_clr_ref, ab_clr_null, ab_clr_rf, ab_clr_nov, ab_clr_long, ab_clr_dbl, ab_rf_some, ab_rf_none, ab_hi_S, ab_hr_S, ab_hl_S, ab_sh_S, ab_setI_S, ab_setR_S, ab_setL_S, ab_thr_S, ab_K_ret, ab_K_void, List.length_cons, List.length_nil, Nat.reduceAdd, Nat.reduceMul, ↓reduceIte, ↓Nat.reduceLT, ↓Nat.reduceLeDiff, ↓Nat.reduceEqDiff, ab_nadd, ab_nmul, ab_nsub, ab_nclamp, ab_nlt, ab_nle, ab_neq, ab_nlt0, ab_n0lt, ab_nle0, ab_nle00, ab_neq0, ab_nm1, ab_m1n, ab_m1lt, ab_nltm1, ab_nlem1, ab_m1le, ab_m1lt0, ab_0lem1, ab_m1eq0, ab_m1eqm1, ab_ltT, ab_ltF, ab_leT, ab_leF, ab_eqT, ab_eqF, ab_b0, ab_not_true, ab_not_false, ab_u_at, ab_u_ne, ab_u_eq, Nat.add_zero, Nat.zero_add]
      simp (disch := first | with_reducible assumption | exact ab_dK (by with_reducible assumption) | exact id rfl | exact Nat.le_of_ble_eq_true rfl | exact ab_dL (by with_reducible assumption) (by omega) | exact ab_dI (by with_reducible assumption) (by omega) (by omega) | exact ab_dI6 (by with_reducible assumption) (by omega) (by omega) | exact ab_dIs (by with_reducible assumption) (by omega) (by omega) | exact ab_dJ (by with_reducible assumption) (by omega) (by omega) | omega | exact ab_isA_rf _ | exact nI_ne0 (by omega) (by omega) | exact ab_dA (by with_reducible assumption) (by omega) (by omega) (by omega) | exact id (Or.inl rfl) | exact id (Or.inr rfl) | exact ab_b01 | fail) only [i170_25, i170_26, i170_27, i170_28, i170_29, i170_32, i170_33, i170_35, i170_36, i170_38, ab_isA_rf, ab_clr_int, ab_clr_ref, ab_clr_null, ab_clr_rf, ab_clr_nov, ab_clr_long, ab_clr_dbl, ab_rf_some, ab_rf_none, ab_hi_S, ab_hr_S, ab_hl_S, ab_sh_S, ab_setI_S, ab_setR_S, ab_setL_S, ab_thr_S, ab_K_ret, ab_K_void, List.length_cons, List.length_nil, Nat.reduceAdd, Nat.reduceMul, ↓reduceIte, ↓Nat.reduceLT, ↓Nat.reduceLeDiff, ↓Nat.reduceEqDiff, sb, hcmp, ab_nclamp]
      rw [i170_39]
      refine ab_ite (fun _ => c_beat S hi K) (fun _ => ?_)
      refine ab_ite (fun _ => c_wake S hi K) (fun _ => ?_)
      refine ab_ite (fun _ => c_lose S hi K) (fun _ => ?_)
      refine ab_ite (fun _ => c_seam S hi K) (fun _ => ?_)
      refine ab_ite (fun _ => c_route S hi K) (fun _ => ?_)
      refine ab_ite (fun _ => c_put S hi K) (fun _ => ?_)
      refine ab_ite (fun _ => c_run S hi K) (fun _ => ?_)
      refine ab_ite (fun _ => c_append S hi K) (fun _ => ?_)
      refine ab_ite (fun _ => c_clear S hi K) (fun _ => ?_)
      refine ab_ite (fun _ => c_first S hi K) (fun _ => ?_)
      refine ab_ite (fun _ => c_putAll S hi K) (fun _ => ?_)
      refine ab_ite (fun _ => c_undo S hi K) (fun _ => ?_)
      refine ab_ite (fun _ => c_room S hi K) (fun _ => ?_)
      refine ab_ite (fun _ => c_queue S hi K) (fun _ => ?_)
      refine ab_ite (fun _ => c_seamOf S hi K) (fun _ => ?_)
      refine ab_ite (fun _ => c_onSeam S hi K) (fun _ => ?_)
      refine ab_ite (fun _ => c_count S hi K) (fun _ => ?_)
      refine ab_ite (fun _ => c_ifRun S hi K) (fun _ => ?_)
      refine ab_ite (fun _ => c_outIn S hi K) (fun _ => ?_)
      refine ab_ite (fun _ => c_best S hi K) (fun _ => ?_)
      refine ab_ite (fun _ => c_slow S hi K) (fun _ => ?_)
      refine ab_ite (fun _ => c_share S hi K) (fun _ => ?_)
      refine ab_ite (fun _ => c_digest S hi K) (fun _ => ?_)
      simp (disch := first | with_reducible assumption | exact ab_dK (by with_reducible assumption) | exact id rfl | exact Nat.le_of_ble_eq_true rfl | exact ab_dL (by with_reducible assumption) (by omega) | exact ab_dI (by with_reducible assumption) (by omega) (by omega) | exact ab_dI6 (by with_reducible assumption) (by omega) (by omega) | exact ab_dIs (by with_reducible assumption) (by omega) (by omega) | exact ab_dJ (by with_reducible assumption) (by omega) (by omega) | omega | exact ab_isA_rf _ | exact nI_ne0 (by omega) (by omega) | exact ab_dA (by with_reducible assumption) (by omega) (by omega) (by omega) | exact id (Or.inl rfl) | exact id (Or.inr rfl) | exact ab_b01 | fail) only [i170_1430, i170_1433, ab_isA_rf, ab_clr_int, ab_clr_ref, ab_clr_null, ab_clr_rf, ab_clr_nov, ab_clr_long, ab_clr_dbl, ab_rf_some, ab_rf_none, ab_hi_S, ab_hr_S, ab_hl_S, ab_sh_S, ab_setI_S, ab_setR_S, ab_setL_S, ab_thr_S, ab_K_ret, ab_K_void, List.length_cons, List.length_nil, Nat.reduceAdd, Nat.reduceMul, ↓reduceIte, ↓Nat.reduceLT, ↓Nat.reduceLeDiff, ↓Nat.reduceEqDiff, ab_nadd, ab_nmul, ab_nsub, ab_nclamp, ab_nlt, ab_nle, ab_neq, ab_nlt0, ab_n0lt, ab_nle0, ab_nle00, ab_neq0, ab_nm1, ab_m1n, ab_m1lt, ab_nltm1, ab_nlem1, ab_m1le, ab_m1lt0, ab_0lem1, ab_m1eq0, ab_m1eqm1, ab_ltT, ab_ltF, ab_leT, ab_leF, ab_eqT, ab_eqF, ab_b0, ab_not_true, ab_not_false, ab_u_at, ab_u_ne, ab_u_eq, Nat.add_zero, Nat.zero_add]
      exact K.ok S
theorem PicM.same2 {s' : Nat → Nat × Nat} (p : PicM s g f M Z n zs tn cs) (hs : ∀ b, M ≤ b → b < M + 6 → s' b = s b) (hf : ∀ b, M ≤ b → b < M + 6 → ∀ j, f' b j = f b j) (hg : ∀ j, g' M j = g M j) : PicM s' g' f' M Z n zs tn cs := by
  have p2 := p.keep hf hg
  obtain ⟨⟨s0, g1, g2, g4, g5, g7, r1, r2, r3, r4, r5⟩, rest⟩ := p2
  exact ⟨⟨(hs _ (by omega) (by omega)).trans s0, g1, g2, g4, g5, g7, (hs _ (by omega) (by omega)).trans r1, (hs _ (by omega) (by omega)).trans r2, (hs _ (by omega) (by omega)).trans r3, (hs _ (by omega) (by omega)).trans r4, (hs _ (by omega) (by omega)).trans r5⟩, rest⟩
theorem ab_z0_T : InvT ab_z0 := fun j hj => by
  rw [ab_z0_ns] at hj
  exact ab_z0_late (by omega)
set_option maxRecDepth 8000 in
set_option maxHeartbeats 4000000 in
theorem law_start (hb : b < X) (hL : L ≤ 2560) : wp 170 0 [.ref b, ab_nov, ab_nov, ab_nov, ab_nov, ab_nov, ab_nov, ab_nov, ab_nov] [] (ab_h0 b L xs X) LawQ := by
  obtain ⟨h0, e0⟩ : ∃ h0, h0 = ab_h0 b L xs X := ⟨_, rfl⟩
  have n0 : ab_nx h0 = X := by rw [e0]; rfl
  have cc0 : ab_cc h0 = 0 := by rw [e0]; rfl
  have sc0 : ab_sc h0 = 0 := by rw [e0]; rfl
  have sb0 : ab_sh h0 b = (6, L) := by rw [e0]; exact if_pos rfl
  obtain ⟨f0, ef0⟩ : ∃ f0, f0 = ab_hi h0 := ⟨_, rfl⟩
  obtain ⟨g0, eg0⟩ : ∃ g0, g0 = ab_hr h0 := ⟨_, rfl⟩
  obtain ⟨l0, el0⟩ : ∃ l0, l0 = ab_hl h0 := ⟨_, rfl⟩
  have hx0 : ∀ j, f0 b j = xs j := fun j => by rw [ef0, e0]; exact if_pos rfl
  have hS : ab_h0 b L xs X = ab_S h0 f0 g0 l0 := by rw [ef0, eg0, el0, ab_S_self, e0]
  rw [hS]
  have hX0 : X ≠ 0 := by omega
  have k1 : ab_sh (ab_nw h0 16 0 4) X = (16, 0) := ab_sh_nw_at n0
  have n1 : ab_nx (ab_nw h0 16 0 4) = X + 1 := ab_nx_nw n0
  simp (disch := first | exact ab_dN (by assumption) (by omega) | exact ab_dNA (by assumption) (by omega) (by omega) | exact ab_dAs (by assumption) (by assumption) (by omega) (by omega) (by omega) | first | assumption | exact id rfl | omega | exact ab_dK (by assumption) | exact ab_dL (by assumption) (by omega) | exact ab_dI (by assumption) (by omega) (by omega) | exact ab_dIs (by assumption) (by omega) (by omega) | exact ab_isA_rf _ | exact nI_ne0 (by omega) (by omega) | exact Nat.le_of_ble_eq_true rfl | exact ab_dA (by assumption) (by omega) (by omega) (by omega) | exact id (Or.inl rfl) | exact id (Or.inr rfl) | exact ab_b01 | exact ab_dJ (by assumption) (by omega) (by omega) | exact ab_dI6 (by assumption) (by omega) (by omega) | fail) only [i170_0, i170_3, i170_4, i170_7, i170_8, i170_11, i170_12, i170_15, i170_16, i170_17, i170_19, i170_20, i170_21, ab_isA_rf, ab_clr_int, ab_clr_ref, ab_clr_null, ab_clr_rf, ab_clr_nov, ab_clr_long, ab_clr_dbl, ab_rf_some, ab_rf_none, ab_hi_S, ab_hr_S, ab_hl_S, ab_sh_S, ab_setI_S, ab_setR_S, ab_setL_S, ab_thr_S, ab_K_ret, ab_K_void, List.length_cons, List.length_nil, Nat.reduceAdd, Nat.reduceMul, ite_not, reduceIte, ab_nadd, ab_nmul, ab_nsub, ab_nclamp, ab_nlt, ab_nle, ab_neq, ab_nlt0, ab_n0lt, ab_nle0, ab_nle00, ab_neq0, ab_nm1, ab_m1n, ab_m1lt, ab_nltm1, ab_nlem1, ab_m1le, ab_m1lt0, ab_0lem1, ab_m1eq0, ab_m1eqm1, ab_ltT, ab_ltF, ab_leT, ab_leF, ab_eqT, ab_eqF, ab_b0, ab_not_true, ab_not_false, ab_u_at, ab_u_ne, ab_u_eq, Nat.add_zero, Nat.zero_add, ab_new_S, ab_nx_S, n0]
  refine t_beats_init (zs := fun _ _ => 0) (cs := fun _ => 0) k1 n1 (fun h1 f1 g1 l1 G1 B1 K1 => ?_)
  obtain ⟨M, hM⟩ : ∃ M, M = X + 365 := ⟨_, rfl⟩
  have nM : ab_nx h1 = M := by rw [G1.1, n1, hM]
  have hM0 : M ≠ 0 := by omega
  have m0 : ab_sh (ab_nw h1 17 0 11) M = (17, 0) := ab_sh_nw_at nM
  have nM1 : ab_nx (ab_nw h1 17 0 11) = M + 1 := ab_nx_nw nM
  simp (disch := first | exact ab_dN (by assumption) (by omega) | exact ab_dNA (by assumption) (by omega) (by omega) | exact ab_dAs (by assumption) (by assumption) (by omega) (by omega) (by omega) | first | assumption | exact id rfl | omega | exact ab_dK (by assumption) | exact ab_dL (by assumption) (by omega) | exact ab_dI (by assumption) (by omega) (by omega) | exact ab_dIs (by assumption) (by omega) (by omega) | exact ab_isA_rf _ | exact nI_ne0 (by omega) (by omega) | exact Nat.le_of_ble_eq_true rfl | exact ab_dA (by assumption) (by omega) (by omega) (by omega) | exact id (Or.inl rfl) | exact id (Or.inr rfl) | exact ab_b01 | exact ab_dJ (by assumption) (by omega) (by omega) | exact ab_dI6 (by assumption) (by omega) (by omega) | fail) only [i170_0, i170_3, i170_4, i170_7, i170_8, i170_11, i170_12, i170_15, i170_16, i170_17, i170_19, i170_20, i170_21, ab_isA_rf, ab_clr_int, ab_clr_ref, ab_clr_null, ab_clr_rf, ab_clr_nov, ab_clr_long, ab_clr_dbl, ab_rf_some, ab_rf_none, ab_hi_S, ab_hr_S, ab_hl_S, ab_sh_S, ab_setI_S, ab_setR_S, ab_setL_S, ab_thr_S, ab_K_ret, ab_K_void, List.length_cons, List.length_nil, Nat.reduceAdd, Nat.reduceMul, ite_not, reduceIte, ab_nadd, ab_nmul, ab_nsub, ab_nclamp, ab_nlt, ab_nle, ab_neq, ab_nlt0, ab_n0lt, ab_nle0, ab_nle00, ab_neq0, ab_nm1, ab_m1n, ab_m1lt, ab_nltm1, ab_nlem1, ab_m1le, ab_m1lt0, ab_0lem1, ab_m1eq0, ab_m1eqm1, ab_ltT, ab_ltF, ab_leT, ab_leF, ab_eqT, ab_eqF, ab_b0, ab_not_true, ab_not_false, ab_u_at, ab_u_ne, ab_u_eq, Nat.add_zero, Nat.zero_add, ab_new_S, ab_nx_S, nM]
  refine t_mini (zs := fun _ _ => 0) (cs := fun _ => 0) m0 nM1 (fun j => by rw [ab_zf_at rfl]; rfl) (fun h2 f2 g2 G2 P2 K2 l2 => ?_)
  have nM6 : ab_nx h2 = M + 6 := by rw [G2.1, nM1]
  have hM60 : M + 6 ≠ 0 := by omega
  simp (disch := first | exact ab_dN (by assumption) (by omega) | exact ab_dNA (by assumption) (by omega) (by omega) | exact ab_dAs (by assumption) (by assumption) (by omega) (by omega) (by omega) | first | assumption | exact id rfl | omega | exact ab_dK (by assumption) | exact ab_dL (by assumption) (by omega) | exact ab_dI (by assumption) (by omega) (by omega) | exact ab_dIs (by assumption) (by omega) (by omega) | exact ab_isA_rf _ | exact nI_ne0 (by omega) (by omega) | exact Nat.le_of_ble_eq_true rfl | exact ab_dA (by assumption) (by omega) (by omega) (by omega) | exact id (Or.inl rfl) | exact id (Or.inr rfl) | exact ab_b01 | exact ab_dJ (by assumption) (by omega) (by omega) | exact ab_dI6 (by assumption) (by omega) (by omega) | fail) only [i170_0, i170_3, i170_4, i170_7, i170_8, i170_11, i170_12, i170_15, i170_16, i170_17, i170_19, i170_20, i170_21, ab_isA_rf, ab_clr_int, ab_clr_ref, ab_clr_null, ab_clr_rf, ab_clr_nov, ab_clr_long, ab_clr_dbl, ab_rf_some, ab_rf_none, ab_hi_S, ab_hr_S, ab_hl_S, ab_sh_S, ab_setI_S, ab_setR_S, ab_setL_S, ab_thr_S, ab_K_ret, ab_K_void, List.length_cons, List.length_nil, Nat.reduceAdd, Nat.reduceMul, ite_not, reduceIte, ab_nadd, ab_nmul, ab_nsub, ab_nclamp, ab_nlt, ab_nle, ab_neq, ab_nlt0, ab_n0lt, ab_nle0, ab_nle00, ab_neq0, ab_nm1, ab_m1n, ab_m1lt, ab_nltm1, ab_nlem1, ab_m1le, ab_m1lt0, ab_0lem1, ab_m1eq0, ab_m1eqm1, ab_ltT, ab_ltF, ab_leT, ab_leF, ab_eqT, ab_eqF, ab_b0, ab_not_true, ab_not_false, ab_u_at, ab_u_ne, ab_u_eq, Nat.add_zero, Nat.zero_add, ab_new_S, ab_nx_S, nM6]
  have r1 : ∀ c, c ≠ X → ab_sh (ab_nw h0 16 0 4) c = ab_sh h0 c := fun c hc => ab_sh_nw_ne n0 hc
  have r2 : ∀ c, c < X + 1 → ab_sh h1 c = ab_sh (ab_nw h0 16 0 4) c := fun c hc => G1.2.2.2 c (by omega)
  have r3 : ∀ c, c ≠ M → ab_sh (ab_nw h1 17 0 11) c = ab_sh h1 c := fun c hc => ab_sh_nw_ne nM hc
  have r4 : ∀ c, c < M + 1 → ab_sh h2 c = ab_sh (ab_nw h1 17 0 11) c := fun c hc => G2.2.2.2 c (by omega)
  have r5 : ∀ c, c ≠ M + 6 → ab_sh (ab_nw h2 2 1 1) c = ab_sh h2 c := fun c hc => ab_sh_nw_ne nM6 hc
  have q1 : ∀ c j, c < M → f2 c j = f1 c j ∧ g2 c j = g1 c j := fun c j hc => by
    obtain ⟨a1, a2⟩ := K2 c hc j
    exact ⟨a1.trans (ab_zf_ne (by omega)), a2.trans (ab_zg_ne (by omega))⟩
  have B3 : PicB (ab_sh (ab_nw h2 2 1 1)) (ab_zf f2 (M + 6)) (ab_zg g2 (M + 6)) X ab_z0 0 (fun _ _ => 0) 0 (fun _ => 0) := B1.same2 (fun c c1 c2 => (r5 c (by omega)).trans ((r4 c (by omega)).trans (r3 c (by omega)))) (fun c c1 c2 j => (ab_zf_ne (by omega)).trans (q1 c j (by omega)).1) (fun c c1 c2 j => (ab_zg_ne (by omega)).trans (q1 c j (by omega)).2)
  have P3 : PicM (ab_sh (ab_nw h2 2 1 1)) (ab_zg g2 (M + 6)) (ab_zf f2 (M + 6)) M ab_z0 0 (fun _ _ => 0) 0 (fun _ => 0) := P2.same2 (fun c c1 c2 => r5 c (by omega)) (fun c c1 c2 j => ab_zf_ne (by omega)) (fun j => ab_zg_ne (by omega))
  have hcc : ab_cc (ab_nw h2 2 1 1) ≤ 400 + 0 := by
    have a1 : ab_cc (ab_nw h0 16 0 4) = ab_cc h0 + 1 := rfl
    have a2 : ab_cc (ab_nw h1 17 0 11) = ab_cc h1 + 1 := rfl
    have a3 : ab_cc (ab_nw h2 2 1 1) = ab_cc h2 + 1 := rfl
    have a4 := G1.2.1
    have a5 := G2.2.1
    omega
  have hsc : ab_sc (ab_nw h2 2 1 1) ≤ 8000 + 6 * 0 := by
    have a1 : ab_sc (ab_nw h0 16 0 4) = ab_sc h0 + 4 := rfl
    have a2 : ab_sc (ab_nw h1 17 0 11) = ab_sc h1 + 11 := rfl
    have a3 : ab_sc (ab_nw h2 2 1 1) = ab_sc h2 + 1 := rfl
    have a4 := G1.2.2.1
    have a5 := G2.2.2.1
    omega
  refine law_loop (xs := xs) 513 0 (ab_nw h2 2 1 1) _ _ _ ab_z0 0 (fun _ _ => 0) 0 (fun _ => 0) ab_nov ab_nov ab_nov ab_nov (by omega) ⟨B3, P3, ⟨ab_z0_T, fun k hk => by omega⟩, ⟨hM, ab_sh_nw_at nM6⟩, ⟨?_, hb, hL⟩, fun j => ?_⟩ hcc hsc
  · exact (r5 b (by omega)).trans ((r4 b (by omega)).trans ((r3 b (by omega)).trans ((r2 b (by omega)).trans ((r1 b (by omega)).trans sb0))))
  · rw [ab_zf_ne (by omega), (q1 b j (by omega)).1, (K1 b (by omega) j).1, ab_zf_ne (by omega), hx0]
end AbLaw
