/-! The saved states: SeamBeats$History at H, its array at H + 1, the States behind it. -/
section AbHist
variable {h : ab_Hp} {f f' f0 : Nat → Nat → Int32} {g g' : Nat → Nat → Option Nat} {l : Nat → Nat → Int64} {Q : ab_O → ab_Hp → Prop} {a H : Nat} {z z' : Nat → Int32} {s : Nat → Nat × Nat}
theorem SkState.same (sk : SkState s g a) (hg : ∀ b, a ≤ b → b < a + 45 → ∀ j, g' b j = g b j) : SkState s g' a := by
  obtain ⟨⟨s0, g0, g1, s1, s2⟩, hr, hs⟩ := sk
  refine ⟨⟨s0, by rw [hg _ (by omega) (by omega)]; exact g0, by rw [hg _ (by omega) (by omega)]; exact g1, s1, s2⟩, fun i hi => ?_, fun i hi => ?_⟩
  · obtain ⟨e1, e2, e3, e4, e5, e6⟩ := hr i hi
    exact ⟨by rw [hg _ (by omega) (by omega)]; exact e1, e2, by rw [hg _ (by omega) (by omega)]; exact e3, e4, by rw [hg _ (by omega) (by omega)]; exact e5, e6⟩
  · obtain ⟨e1, e2, e3, e4, e5, e6⟩ := hs i hi
    exact ⟨by rw [hg _ (by omega) (by omega)]; exact e1, e2, by rw [hg _ (by omega) (by omega)]; exact e3, e4, by rw [hg _ (by omega) (by omega)]; exact e5, e6⟩
def PicH (s : Nat → Nat × Nat) (f : Nat → Nat → Int32) (g : Nat → Nat → Option Nat) (H n : Nat) (zs : Nat → Nat → Int32) : Prop :=
  (s H = (10, 0) ∧ s (H + 1) = (5, 6) ∧ g H 0 = some (H + 1) ∧ f H 1 = nI n ∧ n ≤ 6) ∧ (∀ k, k < 6 → SkState s g (H + 2 + 45 * k)) ∧ ∃ π : Nat → Nat, (∀ i, i < 6 → π i < 6 ∧ g (H + 1) i = some (H + 2 + 45 * π i)) ∧ (∀ i j, i < 6 → j < 6 → π i = π j → i = j) ∧ ∀ i, i < n → PicX f (H + 2 + 45 * π i) (zs i) ∧ InvZ (zs i)
theorem t_stateAt {i r : Nat} (k0 : ab_sh h H = (10, 0)) (k1 : ab_sh h (H + 1) = (5, 6)) (g0 : g H 0 = some (H + 1)) (hi : i < 6) (hg : g (H + 1) i = some r) : wp 3 0 [.ref H, .int (nI i)] [] (ab_S h f g l) Q = Q (.inl (some (.ref r))) (ab_S h f g l) := by
  simp (disch := first | assumption | exact id rfl | omega | exact ab_dK (by assumption) | exact ab_dL (by assumption) (by omega) | exact ab_dI (by assumption) (by omega) (by omega) | exact ab_dIs (by assumption) (by omega) (by omega) | exact ab_isA_rf _ | exact nI_ne0 (by omega) (by omega) | exact Nat.le_of_ble_eq_true rfl | exact ab_dA (by assumption) (by omega) (by omega) (by omega) | exact id (Or.inl rfl) | exact id (Or.inr rfl) | exact ab_b01 | exact ab_dJ (by assumption) (by omega) (by omega) | exact ab_dI6 (by assumption) (by omega) (by omega) | fail) only [i3_0, i3_1, i3_4, i3_5, i3_6, i3_9, i3_10, i3_13, i3_14, i3_17, i3_18, i3_19, i3_22, i3_23, ab_isA_rf, ab_clr_int, ab_clr_ref, ab_clr_null, ab_clr_rf, ab_clr_nov, ab_clr_long, ab_clr_dbl, ab_rf_some, ab_rf_none, ab_hi_S, ab_hr_S, ab_hl_S, ab_sh_S, ab_setI_S, ab_setR_S, ab_setL_S, ab_thr_S, ab_K_ret, ab_K_void, List.length_cons, List.length_nil, Nat.reduceAdd, Nat.reduceMul, ite_not, reduceIte, ab_nadd, ab_nmul, ab_nsub, ab_nclamp, ab_nlt, ab_nle, ab_neq, ab_nlt0, ab_n0lt, ab_nle0, ab_nle00, ab_neq0, ab_nm1, ab_m1n, ab_m1lt, ab_nltm1, ab_nlem1, ab_m1le, ab_m1lt0, ab_0lem1, ab_m1eq0, ab_m1eqm1, ab_ltT, ab_ltF, ab_leT, ab_leF, ab_eqT, ab_eqF, ab_b0, ab_not_true, ab_not_false, ab_u_at, ab_u_ne, ab_u_eq, Nat.add_zero, Nat.zero_add, g0, k1, hg]
def ab_shift (g : Nat → Nat → Option Nat) (H i : Nat) : Nat → Nat → Option Nat := fun b j => if b = H + 1 ∧ j < i then g (H + 1) (j + 1) else g b j
theorem ab_shift_ne {i b j : Nat} (h : b ≠ H + 1 ∨ i ≤ j) : ab_shift g H i b j = g b j := by unfold ab_shift; rw [if_neg (by omega)]
theorem ab_shift_at {i b j : Nat} (h : b = H + 1 ∧ j < i) : ab_shift g H i b j = g (H + 1) (j + 1) := by unfold ab_shift; rw [if_pos h]
set_option maxHeartbeats 4000000 in
theorem t_dropOldest_loop {u : Value} {π : Nat → Nat} (k1 : ab_sh h (H + 1) = (5, 6)) (k0 : ab_sh h H = (10, 0)) (g0 : g H 0 = some (H + 1)) (hp : ∀ i, i < 6 → π i < 6 ∧ g (H + 1) i = some (H + 2 + 45 * π i)) (hs : ∀ k, k < 6 → ab_sh h (H + 2 + 45 * k) = (14, 0)) {n : Nat} (hn : f H 1 = nI n) (hn1 : 1 ≤ n) (hu : u = .ref (H + 2 + 45 * π 0)) : ∀ (c i : Nat), i + c = 5 →
    wp 4 8 [.ref H, u, .int (nI i)] [] (ab_S h f (ab_shift g H i) l) Q = Q (.inl none) (ab_S h (ab_u f H 1 (nI (n - 1))) (ab_u (ab_shift g H 5) (H + 1) 5 (some (H + 2 + 45 * π 0))) l) := by
  subst hu
  intro c
  induction c with
  | zero =>
    intro i hi
    have e : i = 5 := by omega
    subst e
    have hs0 := hs (π 0) (hp 0 (by omega)).1
    simp (disch := first | assumption | exact id rfl | omega | exact ab_dK (by assumption) | exact ab_dL (by assumption) (by omega) | exact ab_dI (by assumption) (by omega) (by omega) | exact ab_dIs (by assumption) (by omega) (by omega) | exact ab_isA_rf _ | exact nI_ne0 (by omega) (by omega) | exact Nat.le_of_ble_eq_true rfl | exact ab_dA (by assumption) (by omega) (by omega) (by omega) | exact id (Or.inl rfl) | exact id (Or.inr rfl) | exact ab_b01 | exact ab_dJ (by assumption) (by omega) (by omega) | exact ab_dI6 (by assumption) (by omega) (by omega) | fail) only [i4_8, ab_isA_rf, ab_clr_int, ab_clr_ref, ab_clr_null, ab_clr_rf, ab_clr_nov, ab_clr_long, ab_clr_dbl, ab_rf_some, ab_rf_none, ab_hi_S, ab_hr_S, ab_hl_S, ab_sh_S, ab_setI_S, ab_setR_S, ab_setL_S, ab_thr_S, ab_K_ret, ab_K_void, List.length_cons, List.length_nil, Nat.reduceAdd, Nat.reduceMul, ite_not, reduceIte, ab_nadd, ab_nmul, ab_nsub, ab_nclamp, ab_nlt, ab_nle, ab_neq, ab_nlt0, ab_n0lt, ab_nle0, ab_nle00, ab_neq0, ab_nm1, ab_m1n, ab_m1lt, ab_nltm1, ab_nlem1, ab_m1le, ab_m1lt0, ab_0lem1, ab_m1eq0, ab_m1eqm1, ab_ltT, ab_ltF, ab_leT, ab_leF, ab_eqT, ab_eqF, ab_b0, ab_not_true, ab_not_false, ab_u_at, ab_u_ne, ab_u_eq, Nat.add_zero, Nat.zero_add, g0, k1, ab_shift_ne]
    simp (disch := first | exact ab_dAs (by assumption) (by assumption) (by omega) (by omega) (by omega) | first | assumption | exact id rfl | omega | exact ab_dK (by assumption) | exact ab_dL (by assumption) (by omega) | exact ab_dI (by assumption) (by omega) (by omega) | exact ab_dIs (by assumption) (by omega) (by omega) | exact ab_isA_rf _ | exact nI_ne0 (by omega) (by omega) | exact Nat.le_of_ble_eq_true rfl | exact ab_dA (by assumption) (by omega) (by omega) (by omega) | exact id (Or.inl rfl) | exact id (Or.inr rfl) | exact ab_b01 | exact ab_dJ (by assumption) (by omega) (by omega) | exact ab_dI6 (by assumption) (by omega) (by omega) | fail) only [i4_0, i4_1, i4_2, i4_5, i4_6, i4_7, i4_9, i4_10, i4_13, i4_14, i4_15, i4_16, i4_19, i4_20, i4_23, i4_24, i4_25, i4_28, i4_29, i4_30, i4_31, i4_32, i4_33, i4_36, i4_39, i4_40, i4_43, i4_44, i4_47, i4_48, i4_51, i4_52, i4_55, i4_56, i4_57, i4_58, i4_59, i4_60, i4_61, i4_62, i4_65, i4_66, i4_67, i4_70, ab_isA_rf, ab_clr_int, ab_clr_ref, ab_clr_null, ab_clr_rf, ab_clr_nov, ab_clr_long, ab_clr_dbl, ab_rf_some, ab_rf_none, ab_hi_S, ab_hr_S, ab_hl_S, ab_sh_S, ab_setI_S, ab_setR_S, ab_setL_S, ab_thr_S, ab_K_ret, ab_K_void, List.length_cons, List.length_nil, Nat.reduceAdd, Nat.reduceMul, ite_not, reduceIte, ab_nadd, ab_nmul, ab_nsub, ab_nclamp, ab_nlt, ab_nle, ab_neq, ab_nlt0, ab_n0lt, ab_nle0, ab_nle00, ab_neq0, ab_nm1, ab_m1n, ab_m1lt, ab_nltm1, ab_nlem1, ab_m1le, ab_m1lt0, ab_0lem1, ab_m1eq0, ab_m1eqm1, ab_ltT, ab_ltF, ab_leT, ab_leF, ab_eqT, ab_eqF, ab_b0, ab_not_true, ab_not_false, ab_u_at, ab_u_ne, ab_u_eq, Nat.add_zero, Nat.zero_add, g0, k1, ab_shift_ne, hn]
  | succ c ih =>
    intro i hi
    obtain ⟨h1, h2⟩ := hp (i + 1) (by omega)
    have hs1 := hs (π (i + 1)) h1
    have e : ab_u (ab_shift g H i) (H + 1) i (some (H + 2 + 45 * π (i + 1))) = ab_shift g H (i + 1) := by
      funext b j
      simp only [ab_u, ab_shift]
      split
      · rename_i hc
        obtain ⟨rfl, rfl⟩ := hc
        rw [if_pos (by omega), h2]
      · split
        · rw [if_pos (by omega)]
        · rw [if_neg (by omega)]
    simp (disch := first | assumption | exact id rfl | omega | exact ab_dK (by assumption) | exact ab_dL (by assumption) (by omega) | exact ab_dI (by assumption) (by omega) (by omega) | exact ab_dIs (by assumption) (by omega) (by omega) | exact ab_isA_rf _ | exact nI_ne0 (by omega) (by omega) | exact Nat.le_of_ble_eq_true rfl | exact ab_dA (by assumption) (by omega) (by omega) (by omega) | exact id (Or.inl rfl) | exact id (Or.inr rfl) | exact ab_b01 | exact ab_dJ (by assumption) (by omega) (by omega) | exact ab_dI6 (by assumption) (by omega) (by omega) | fail) only [i4_8, ab_isA_rf, ab_clr_int, ab_clr_ref, ab_clr_null, ab_clr_rf, ab_clr_nov, ab_clr_long, ab_clr_dbl, ab_rf_some, ab_rf_none, ab_hi_S, ab_hr_S, ab_hl_S, ab_sh_S, ab_setI_S, ab_setR_S, ab_setL_S, ab_thr_S, ab_K_ret, ab_K_void, List.length_cons, List.length_nil, Nat.reduceAdd, Nat.reduceMul, ite_not, reduceIte, ab_nadd, ab_nmul, ab_nsub, ab_nclamp, ab_nlt, ab_nle, ab_neq, ab_nlt0, ab_n0lt, ab_nle0, ab_nle00, ab_neq0, ab_nm1, ab_m1n, ab_m1lt, ab_nltm1, ab_nlem1, ab_m1le, ab_m1lt0, ab_0lem1, ab_m1eq0, ab_m1eqm1, ab_ltT, ab_ltF, ab_leT, ab_leF, ab_eqT, ab_eqF, ab_b0, ab_not_true, ab_not_false, ab_u_at, ab_u_ne, ab_u_eq, Nat.add_zero, Nat.zero_add, g0, k1, ab_shift_ne]
    simp (disch := first | exact ab_dAs (by assumption) (by assumption) (by omega) (by omega) (by omega) | first | assumption | exact id rfl | omega | exact ab_dK (by assumption) | exact ab_dL (by assumption) (by omega) | exact ab_dI (by assumption) (by omega) (by omega) | exact ab_dIs (by assumption) (by omega) (by omega) | exact ab_isA_rf _ | exact nI_ne0 (by omega) (by omega) | exact Nat.le_of_ble_eq_true rfl | exact ab_dA (by assumption) (by omega) (by omega) (by omega) | exact id (Or.inl rfl) | exact id (Or.inr rfl) | exact ab_b01 | exact ab_dJ (by assumption) (by omega) (by omega) | exact ab_dI6 (by assumption) (by omega) (by omega) | fail) only [i4_0, i4_1, i4_2, i4_5, i4_6, i4_7, i4_9, i4_10, i4_13, i4_14, i4_15, i4_16, i4_19, i4_20, i4_23, i4_24, i4_25, i4_28, i4_29, i4_30, i4_31, i4_32, i4_33, i4_36, i4_39, i4_40, i4_43, i4_44, i4_47, i4_48, i4_51, i4_52, i4_55, i4_56, i4_57, i4_58, i4_59, i4_60, i4_61, i4_62, i4_65, i4_66, i4_67, i4_70, ab_isA_rf, ab_clr_int, ab_clr_ref, ab_clr_null, ab_clr_rf, ab_clr_nov, ab_clr_long, ab_clr_dbl, ab_rf_some, ab_rf_none, ab_hi_S, ab_hr_S, ab_hl_S, ab_sh_S, ab_setI_S, ab_setR_S, ab_setL_S, ab_thr_S, ab_K_ret, ab_K_void, List.length_cons, List.length_nil, Nat.reduceAdd, Nat.reduceMul, ite_not, reduceIte, ab_nadd, ab_nmul, ab_nsub, ab_nclamp, ab_nlt, ab_nle, ab_neq, ab_nlt0, ab_n0lt, ab_nle0, ab_nle00, ab_neq0, ab_nm1, ab_m1n, ab_m1lt, ab_nltm1, ab_nlem1, ab_m1le, ab_m1lt0, ab_0lem1, ab_m1eq0, ab_m1eqm1, ab_ltT, ab_ltF, ab_leT, ab_leF, ab_eqT, ab_eqF, ab_b0, ab_not_true, ab_not_false, ab_u_at, ab_u_ne, ab_u_eq, Nat.add_zero, Nat.zero_add, g0, k1, ab_shift_ne, h2, e]
    exact ih (i + 1) (by omega)
theorem PicH.sk {n : Nat} {zs : Nat → Nat → Int32} (p : PicH s f g H n zs) {k : Nat} (hk : k < 6) : SkState s g (H + 2 + 45 * k) := p.2.1 k hk
set_option maxHeartbeats 4000000 in
theorem t_dropOldest {zs : Nat → Nat → Int32} (p : PicH (ab_sh h) f g H 6 zs) (hQ : ∀ f' g', PicH (ab_sh h) f' g' H 5 (fun i => zs (i + 1)) → (∀ b, b ≠ H → ∀ j, f' b j = f b j) → (∀ b, b ≠ H + 1 → ∀ j, g' b j = g b j) → Q (.inl none) (ab_S h f' g' l)) :
    wp 4 0 [.ref H, ab_nov, ab_nov] [] (ab_S h f g l) Q := by
  obtain ⟨⟨k0, k1, g0, hn, hn6⟩, hsk, π, hp, hinj, hpic⟩ := p
  have hp0 := hp 0 (by omega)
  have hs : ∀ k, k < 6 → ab_sh h (H + 2 + 45 * k) = (14, 0) := fun k hk => (hsk k hk).1.1
  have e := t_dropOldest_loop (Q := Q) (l := l) (u := .ref (H + 2 + 45 * π 0)) k1 k0 g0 hp hs hn (by omega) rfl 5 0 (by omega)
  have e0 : ab_shift g H 0 = g := by
    funext b j
    exact ab_shift_ne (Or.inr (by omega))
  rw [e0] at e
  simp (disch := first | assumption | exact id rfl | omega | exact ab_dK (by assumption) | exact ab_dL (by assumption) (by omega) | exact ab_dI (by assumption) (by omega) (by omega) | exact ab_dIs (by assumption) (by omega) (by omega) | exact ab_isA_rf _ | exact nI_ne0 (by omega) (by omega) | exact Nat.le_of_ble_eq_true rfl | exact ab_dA (by assumption) (by omega) (by omega) (by omega) | exact id (Or.inl rfl) | exact id (Or.inr rfl) | exact ab_b01 | exact ab_dJ (by assumption) (by omega) (by omega) | exact ab_dI6 (by assumption) (by omega) (by omega) | fail) only [i4_0, i4_1, i4_2, i4_5, i4_6, i4_7, i4_9, i4_10, i4_13, i4_14, i4_15, i4_16, i4_19, i4_20, i4_23, i4_24, i4_25, i4_28, i4_29, i4_30, i4_31, i4_32, i4_33, i4_36, i4_39, i4_40, i4_43, i4_44, i4_47, i4_48, i4_51, i4_52, i4_55, i4_56, i4_57, i4_58, i4_59, i4_60, i4_61, i4_62, i4_65, i4_66, i4_67, i4_70, ab_isA_rf, ab_clr_int, ab_clr_ref, ab_clr_null, ab_clr_rf, ab_clr_nov, ab_clr_long, ab_clr_dbl, ab_rf_some, ab_rf_none, ab_hi_S, ab_hr_S, ab_hl_S, ab_sh_S, ab_setI_S, ab_setR_S, ab_setL_S, ab_thr_S, ab_K_ret, ab_K_void, List.length_cons, List.length_nil, Nat.reduceAdd, Nat.reduceMul, ite_not, reduceIte, ab_nadd, ab_nmul, ab_nsub, ab_nclamp, ab_nlt, ab_nle, ab_neq, ab_nlt0, ab_n0lt, ab_nle0, ab_nle00, ab_neq0, ab_nm1, ab_m1n, ab_m1lt, ab_nltm1, ab_nlem1, ab_m1le, ab_m1lt0, ab_0lem1, ab_m1eq0, ab_m1eqm1, ab_ltT, ab_ltF, ab_leT, ab_leF, ab_eqT, ab_eqF, ab_b0, ab_not_true, ab_not_false, ab_u_at, ab_u_ne, ab_u_eq, Nat.add_zero, Nat.zero_add, g0, k1, t_stateAt (r := H + 2 + 45 * π 0) k0 k1 g0 (show 0 < 6 by omega) hp0.2]
  rw [e]
  have hg' : ∀ b, b ≠ H + 1 → ∀ j, ab_u (ab_shift g H 5) (H + 1) 5 (some (H + 2 + 45 * π 0)) b j = g b j := by
    intro b hb j
    rw [ab_u_ne (by omega), ab_shift_ne (by omega)]
  refine hQ _ _ ⟨⟨k0, k1, (hg' H (by omega) 0).trans g0, ab_u_at _ _ _ _, by omega⟩, fun k hk => (hsk k hk).same (fun b h1 h2 j => hg' b (by omega) j), fun i => if i = 5 then π 0 else π (i + 1), fun i hi => ?_, fun i j hi hj hij => ?_, fun i hi => ?_⟩ (fun b hb j => ab_u_ne (by omega)) hg'
  · dsimp only
    by_cases h5 : i = 5
    · subst h5
      rw [if_pos rfl, ab_u_at]
      exact ⟨hp0.1, rfl⟩
    · rw [if_neg h5, ab_u_ne (by omega), ab_shift_at (by omega)]
      exact hp (i + 1) (by omega)
  · dsimp only at hij
    by_cases hi5 : i = 5
    · by_cases hj5 : j = 5
      · omega
      · rw [if_pos hi5, if_neg hj5] at hij
        have := hinj 0 (j + 1) (by omega) (by omega) hij
        omega
    · by_cases hj5 : j = 5
      · rw [if_neg hi5, if_pos hj5] at hij
        have := hinj (i + 1) 0 (by omega) (by omega) hij
        omega
      · rw [if_neg hi5, if_neg hj5] at hij
        have := hinj (i + 1) (j + 1) (by omega) (by omega) hij
        omega
  · dsimp only
    rw [if_neg (by omega)]
    obtain ⟨h1, h2⟩ := hpic (i + 1) (by omega)
    refine ⟨h1.same h2 (fun b hb1 hb2 j => ab_u_ne (by omega)), h2⟩
def pushN (n : Nat) : Nat := if n = 6 then 6 else n + 1
def pushZ (n : Nat) (zs : Nat → Nat → Int32) (z : Nat → Int32) : Nat → Nat → Int32 := if n = 6 then (fun i => if i = 5 then z else zs (i + 1)) else fun i => if i = n then z else zs i
set_option maxHeartbeats 4000000 in
theorem t_save_at {n : Nat} {zs : Nat → Nat → Int32} {π : Nat → Nat} {v0 : Value} (k0 : ab_sh h H = (10, 0)) (k1 : ab_sh h (H + 1) = (5, 6)) (g0 : g H 0 = some (H + 1)) (hn : f H 1 = nI n) (hn6 : n < 6) (hsk : ∀ k, k < 6 → SkState (ab_sh h) g (H + 2 + 45 * k)) (hp : ∀ i, i < 6 → π i < 6 ∧ g (H + 1) i = some (H + 2 + 45 * π i)) (hinj : ∀ i j, i < 6 → j < 6 → π i = π j → i = j) (hpic : ∀ i, i < n → PicX f (H + 2 + 45 * π i) (zs i) ∧ InvZ (zs i)) (ska : SkState (ab_sh h) g a) (px : PicX f a z) (v : InvZ z) (hd : a + 45 ≤ H) (hv0 : v0 = .ref H)
    (hQ : ∀ f', PicH (ab_sh h) f' g H (n + 1) (fun i => if i = n then z else zs i) → (∀ b, b < H ∨ H + 272 ≤ b → ∀ j, f' b j = f b j) → Q (.inl none) (ab_S h f' g l)) :
    wp 1 16 [v0, .ref a, ab_nov] [] (ab_S h f g l) Q := by
  subst hv0
  obtain ⟨h1, h2⟩ := hp n hn6
  have hk1 := (hsk _ h1).1.1
  have hk2 := ska.1.1
  simp (disch := first | assumption | exact id rfl | omega | exact ab_dK (by assumption) | exact ab_dL (by assumption) (by omega) | exact ab_dI (by assumption) (by omega) (by omega) | exact ab_dIs (by assumption) (by omega) (by omega) | exact ab_isA_rf _ | exact nI_ne0 (by omega) (by omega) | exact Nat.le_of_ble_eq_true rfl | exact ab_dA (by assumption) (by omega) (by omega) (by omega) | exact id (Or.inl rfl) | exact id (Or.inr rfl) | exact ab_b01 | exact ab_dJ (by assumption) (by omega) (by omega) | exact ab_dI6 (by assumption) (by omega) (by omega) | fail) only [i1_0, i1_1, i1_4, i1_5, i1_8, i1_9, i1_12, i1_13, i1_16, i1_17, i1_18, i1_21, i1_24, i1_25, i1_26, i1_26r, i1_26n, i1_29, i1_30, i1_31, i1_34, i1_35, i1_36, i1_39, i1_40, i1_41, i1_44, ab_isA_rf, ab_clr_int, ab_clr_ref, ab_clr_null, ab_clr_rf, ab_clr_nov, ab_clr_long, ab_clr_dbl, ab_rf_some, ab_rf_none, ab_hi_S, ab_hr_S, ab_hl_S, ab_sh_S, ab_setI_S, ab_setR_S, ab_setL_S, ab_thr_S, ab_K_ret, ab_K_void, List.length_cons, List.length_nil, Nat.reduceAdd, Nat.reduceMul, ite_not, reduceIte, ab_nadd, ab_nmul, ab_nsub, ab_nclamp, ab_nlt, ab_nle, ab_neq, ab_nlt0, ab_n0lt, ab_nle0, ab_nle00, ab_neq0, ab_nm1, ab_m1n, ab_m1lt, ab_nltm1, ab_nlem1, ab_m1le, ab_m1lt0, ab_0lem1, ab_m1eq0, ab_m1eqm1, ab_ltT, ab_ltF, ab_leT, ab_leF, ab_eqT, ab_eqF, ab_b0, ab_not_true, ab_not_false, ab_u_at, ab_u_ne, ab_u_eq, Nat.add_zero, Nat.zero_add, g0, k1, hn, t_stateAt (r := H + 2 + 45 * π n) k0 k1 g0 hn6 h2]
  refine t_copy (hsk _ h1) ska px v (by omega) (fun f1 p1 => ?_)
  have e1 : f1 H 1 = nI n := (p1.1 H (by omega) 1).trans hn
  simp (disch := first | assumption | exact id rfl | omega | exact ab_dK (by assumption) | exact ab_dL (by assumption) (by omega) | exact ab_dI (by assumption) (by omega) (by omega) | exact ab_dIs (by assumption) (by omega) (by omega) | exact ab_isA_rf _ | exact nI_ne0 (by omega) (by omega) | exact Nat.le_of_ble_eq_true rfl | exact ab_dA (by assumption) (by omega) (by omega) (by omega) | exact id (Or.inl rfl) | exact id (Or.inr rfl) | exact ab_b01 | exact ab_dJ (by assumption) (by omega) (by omega) | exact ab_dI6 (by assumption) (by omega) (by omega) | fail) only [i1_0, i1_1, i1_4, i1_5, i1_8, i1_9, i1_12, i1_13, i1_16, i1_17, i1_18, i1_21, i1_24, i1_25, i1_26, i1_26r, i1_26n, i1_29, i1_30, i1_31, i1_34, i1_35, i1_36, i1_39, i1_40, i1_41, i1_44, ab_isA_rf, ab_clr_int, ab_clr_ref, ab_clr_null, ab_clr_rf, ab_clr_nov, ab_clr_long, ab_clr_dbl, ab_rf_some, ab_rf_none, ab_hi_S, ab_hr_S, ab_hl_S, ab_sh_S, ab_setI_S, ab_setR_S, ab_setL_S, ab_thr_S, ab_K_ret, ab_K_void, List.length_cons, List.length_nil, Nat.reduceAdd, Nat.reduceMul, ite_not, reduceIte, ab_nadd, ab_nmul, ab_nsub, ab_nclamp, ab_nlt, ab_nle, ab_neq, ab_nlt0, ab_n0lt, ab_nle0, ab_nle00, ab_neq0, ab_nm1, ab_m1n, ab_m1lt, ab_nltm1, ab_nlem1, ab_m1le, ab_m1lt0, ab_0lem1, ab_m1eq0, ab_m1eqm1, ab_ltT, ab_ltF, ab_leT, ab_leF, ab_eqT, ab_eqF, ab_b0, ab_not_true, ab_not_false, ab_u_at, ab_u_ne, ab_u_eq, Nat.add_zero, Nat.zero_add, e1]
  refine hQ _ ⟨⟨k0, k1, g0, ab_u_at _ _ _ _, by omega⟩, hsk, π, hp, hinj, fun i hi => ?_⟩ (fun b hb j => ?_)
  · dsimp only
    by_cases hin : i = n
    · rw [if_pos hin, hin]
      exact ⟨p1.2.1.same v (fun b hb1 hb2 j => ab_u_ne (by omega)), v⟩
    · rw [if_neg hin]
      obtain ⟨h3, h4⟩ := hpic i (by omega)
      refine ⟨h3.same h4 (fun b hb1 hb2 j => ?_), h4⟩
      have hne : π i ≠ π n := fun q => hin (hinj i n (by omega) (by omega) q)
      rw [ab_u_ne (by omega)]
      exact p1.1 b (by omega) j
  · rw [ab_u_ne (by omega)]
    exact p1.1 b (by omega) j
theorem t_save {n : Nat} {zs : Nat → Nat → Int32} (p : PicH (ab_sh h) f g H n zs) (ska : SkState (ab_sh h) g a) (px : PicX f a z) (v : InvZ z) (hd : a + 45 ≤ H)
    (hQ : ∀ f' g', PicH (ab_sh h) f' g' H (pushN n) (pushZ n zs z) → (∀ b, b < H ∨ H + 272 ≤ b → ∀ j, f' b j = f b j) → (∀ b, b ≠ H + 1 → ∀ j, g' b j = g b j) → Q (.inl none) (ab_S h f' g' l)) :
    wp 1 0 [.ref H, .ref a, ab_nov] [] (ab_S h f g l) Q := by
  have p' := p
  obtain ⟨⟨k0, k1, g0, hn, hn6⟩, hsk, π, hp, hinj, hpic⟩ := p
  by_cases h6 : n = 6
  · subst h6
    simp (disch := first | assumption | exact id rfl | omega | exact ab_dK (by assumption) | exact ab_dL (by assumption) (by omega) | exact ab_dI (by assumption) (by omega) (by omega) | exact ab_dIs (by assumption) (by omega) (by omega) | exact ab_isA_rf _ | exact nI_ne0 (by omega) (by omega) | exact Nat.le_of_ble_eq_true rfl | exact ab_dA (by assumption) (by omega) (by omega) (by omega) | exact id (Or.inl rfl) | exact id (Or.inr rfl) | exact ab_b01 | exact ab_dJ (by assumption) (by omega) (by omega) | exact ab_dI6 (by assumption) (by omega) (by omega) | fail) only [i1_0, i1_1, i1_4, i1_5, i1_8, i1_9, i1_12, i1_13, ab_isA_rf, ab_clr_int, ab_clr_ref, ab_clr_null, ab_clr_rf, ab_clr_nov, ab_clr_long, ab_clr_dbl, ab_rf_some, ab_rf_none, ab_hi_S, ab_hr_S, ab_hl_S, ab_sh_S, ab_setI_S, ab_setR_S, ab_setL_S, ab_thr_S, ab_K_ret, ab_K_void, List.length_cons, List.length_nil, Nat.reduceAdd, Nat.reduceMul, ite_not, reduceIte, ab_nadd, ab_nmul, ab_nsub, ab_nclamp, ab_nlt, ab_nle, ab_neq, ab_nlt0, ab_n0lt, ab_nle0, ab_nle00, ab_neq0, ab_nm1, ab_m1n, ab_m1lt, ab_nltm1, ab_nlem1, ab_m1le, ab_m1lt0, ab_0lem1, ab_m1eq0, ab_m1eqm1, ab_ltT, ab_ltF, ab_leT, ab_leF, ab_eqT, ab_eqF, ab_b0, ab_not_true, ab_not_false, ab_u_at, ab_u_ne, ab_u_eq, Nat.add_zero, Nat.zero_add, g0, k1, hn]
    refine t_dropOldest p' (fun f1 g1 p1 hf1 hg1 => ?_)
    obtain ⟨⟨k0, k1, g0', hn', hn6'⟩, hsk', π', hp', hinj', hpic'⟩ := p1
    simp (disch := first | assumption | exact id rfl | omega | exact ab_dK (by assumption) | exact ab_dL (by assumption) (by omega) | exact ab_dI (by assumption) (by omega) (by omega) | exact ab_dIs (by assumption) (by omega) (by omega) | exact ab_isA_rf _ | exact nI_ne0 (by omega) (by omega) | exact Nat.le_of_ble_eq_true rfl | exact ab_dA (by assumption) (by omega) (by omega) (by omega) | exact id (Or.inl rfl) | exact id (Or.inr rfl) | exact ab_b01 | exact ab_dJ (by assumption) (by omega) (by omega) | exact ab_dI6 (by assumption) (by omega) (by omega) | fail) only [ab_isA_rf, ab_clr_int, ab_clr_ref, ab_clr_null, ab_clr_rf, ab_clr_nov, ab_clr_long, ab_clr_dbl, ab_rf_some, ab_rf_none, ab_hi_S, ab_hr_S, ab_hl_S, ab_sh_S, ab_setI_S, ab_setR_S, ab_setL_S, ab_thr_S, ab_K_ret, ab_K_void, List.length_cons, List.length_nil, Nat.reduceAdd, Nat.reduceMul, ite_not, reduceIte]
    refine t_save_at k0 k1 g0' hn' (by omega) hsk' hp' hinj' hpic' (ska.same (fun b h1 h2 j => hg1 b (by omega) j)) (px.same v (fun b h1 h2 j => hf1 b (by omega) j)) v hd rfl (fun f2 p2 hf2 => ?_)
    exact hQ f2 g1 p2 (fun b hb j => (hf2 b hb j).trans (hf1 b (by omega) j)) hg1
  · have h6' : n < 6 := by omega
    simp (disch := first | assumption | exact id rfl | omega | exact ab_dK (by assumption) | exact ab_dL (by assumption) (by omega) | exact ab_dI (by assumption) (by omega) (by omega) | exact ab_dIs (by assumption) (by omega) (by omega) | exact ab_isA_rf _ | exact nI_ne0 (by omega) (by omega) | exact Nat.le_of_ble_eq_true rfl | exact ab_dA (by assumption) (by omega) (by omega) (by omega) | exact id (Or.inl rfl) | exact id (Or.inr rfl) | exact ab_b01 | exact ab_dJ (by assumption) (by omega) (by omega) | exact ab_dI6 (by assumption) (by omega) (by omega) | fail) only [i1_0, i1_1, i1_4, i1_5, i1_8, i1_9, ab_isA_rf, ab_clr_int, ab_clr_ref, ab_clr_null, ab_clr_rf, ab_clr_nov, ab_clr_long, ab_clr_dbl, ab_rf_some, ab_rf_none, ab_hi_S, ab_hr_S, ab_hl_S, ab_sh_S, ab_setI_S, ab_setR_S, ab_setL_S, ab_thr_S, ab_K_ret, ab_K_void, List.length_cons, List.length_nil, Nat.reduceAdd, Nat.reduceMul, ite_not, reduceIte, ab_nadd, ab_nmul, ab_nsub, ab_nclamp, ab_nlt, ab_nle, ab_neq, ab_nlt0, ab_n0lt, ab_nle0, ab_nle00, ab_neq0, ab_nm1, ab_m1n, ab_m1lt, ab_nltm1, ab_nlem1, ab_m1le, ab_m1lt0, ab_0lem1, ab_m1eq0, ab_m1eqm1, ab_ltT, ab_ltF, ab_leT, ab_leF, ab_eqT, ab_eqF, ab_b0, ab_not_true, ab_not_false, ab_u_at, ab_u_ne, ab_u_eq, Nat.add_zero, Nat.zero_add, g0, k1, hn]
    refine t_save_at k0 k1 g0 hn h6' hsk hp hinj hpic ska px v hd rfl (fun f2 p2 hf2 => ?_)
    refine hQ f2 g ?_ hf2 (fun _ _ _ => rfl)
    unfold pushN pushZ
    rw [if_neg h6, if_neg h6]
    exact p2
set_option maxHeartbeats 4000000 in
theorem t_restore {n : Nat} {zs : Nat → Nat → Int32} (p : PicH (ab_sh h) f g H n zs) (h1n : 1 ≤ n) (ska : SkState (ab_sh h) g a) (hd : a + 45 ≤ H)
    (hQ : ∀ f', PicH (ab_sh h) f' g H (n - 1) zs → PicX f' a (zs (n - 1)) → (∀ b, b < a ∨ (a + 45 ≤ b ∧ b < H) ∨ H + 272 ≤ b → ∀ j, f' b j = f b j) → Q (.inl none) (ab_S h f' g l)) :
    wp 2 0 [.ref H, .ref a, ab_nov] [] (ab_S h f g l) Q := by
  obtain ⟨⟨k0, k1, g0, hn, hn6⟩, hsk, π, hp, hinj, hpic⟩ := p
  obtain ⟨h1, h2⟩ := hp (n - 1) (by omega)
  obtain ⟨px, v⟩ := hpic (n - 1) (by omega)
  have hk1 := (hsk _ h1).1.1
  have hk2 := ska.1.1
  simp (disch := first | assumption | exact id rfl | omega | exact ab_dK (by assumption) | exact ab_dL (by assumption) (by omega) | exact ab_dI (by assumption) (by omega) (by omega) | exact ab_dIs (by assumption) (by omega) (by omega) | exact ab_isA_rf _ | exact nI_ne0 (by omega) (by omega) | exact Nat.le_of_ble_eq_true rfl | exact ab_dA (by assumption) (by omega) (by omega) (by omega) | exact id (Or.inl rfl) | exact id (Or.inr rfl) | exact ab_b01 | exact ab_dJ (by assumption) (by omega) (by omega) | exact ab_dI6 (by assumption) (by omega) (by omega) | fail) only [i2_0, i2_1, i2_2, i2_5, i2_6, i2_7, i2_10, i2_11, i2_12, i2_12r, i2_12n, i2_15, i2_16, i2_17, i2_20, i2_21, i2_22, i2_25, i2_26, i2_27, i2_30, ab_isA_rf, ab_clr_int, ab_clr_ref, ab_clr_null, ab_clr_rf, ab_clr_nov, ab_clr_long, ab_clr_dbl, ab_rf_some, ab_rf_none, ab_hi_S, ab_hr_S, ab_hl_S, ab_sh_S, ab_setI_S, ab_setR_S, ab_setL_S, ab_thr_S, ab_K_ret, ab_K_void, List.length_cons, List.length_nil, Nat.reduceAdd, Nat.reduceMul, ite_not, reduceIte, ab_nadd, ab_nmul, ab_nsub, ab_nclamp, ab_nlt, ab_nle, ab_neq, ab_nlt0, ab_n0lt, ab_nle0, ab_nle00, ab_neq0, ab_nm1, ab_m1n, ab_m1lt, ab_nltm1, ab_nlem1, ab_m1le, ab_m1lt0, ab_0lem1, ab_m1eq0, ab_m1eqm1, ab_ltT, ab_ltF, ab_leT, ab_leF, ab_eqT, ab_eqF, ab_b0, ab_not_true, ab_not_false, ab_u_at, ab_u_ne, ab_u_eq, Nat.add_zero, Nat.zero_add, g0, k1, hn, t_stateAt (r := H + 2 + 45 * π (n - 1)) k0 k1 g0 (show n - 1 < 6 by omega) h2]
  refine t_copy ska (hsk _ h1) px v (by omega) (fun f1 p1 => ?_)
  have e1 : f1 H 1 = nI n := (p1.1 H (by omega) 1).trans hn
  simp (disch := first | assumption | exact id rfl | omega | exact ab_dK (by assumption) | exact ab_dL (by assumption) (by omega) | exact ab_dI (by assumption) (by omega) (by omega) | exact ab_dIs (by assumption) (by omega) (by omega) | exact ab_isA_rf _ | exact nI_ne0 (by omega) (by omega) | exact Nat.le_of_ble_eq_true rfl | exact ab_dA (by assumption) (by omega) (by omega) (by omega) | exact id (Or.inl rfl) | exact id (Or.inr rfl) | exact ab_b01 | exact ab_dJ (by assumption) (by omega) (by omega) | exact ab_dI6 (by assumption) (by omega) (by omega) | fail) only [i2_0, i2_1, i2_2, i2_5, i2_6, i2_7, i2_10, i2_11, i2_12, i2_12r, i2_12n, i2_15, i2_16, i2_17, i2_20, i2_21, i2_22, i2_25, i2_26, i2_27, i2_30, ab_isA_rf, ab_clr_int, ab_clr_ref, ab_clr_null, ab_clr_rf, ab_clr_nov, ab_clr_long, ab_clr_dbl, ab_rf_some, ab_rf_none, ab_hi_S, ab_hr_S, ab_hl_S, ab_sh_S, ab_setI_S, ab_setR_S, ab_setL_S, ab_thr_S, ab_K_ret, ab_K_void, List.length_cons, List.length_nil, Nat.reduceAdd, Nat.reduceMul, ite_not, reduceIte, ab_nadd, ab_nmul, ab_nsub, ab_nclamp, ab_nlt, ab_nle, ab_neq, ab_nlt0, ab_n0lt, ab_nle0, ab_nle00, ab_neq0, ab_nm1, ab_m1n, ab_m1lt, ab_nltm1, ab_nlem1, ab_m1le, ab_m1lt0, ab_0lem1, ab_m1eq0, ab_m1eqm1, ab_ltT, ab_ltF, ab_leT, ab_leF, ab_eqT, ab_eqF, ab_b0, ab_not_true, ab_not_false, ab_u_at, ab_u_ne, ab_u_eq, Nat.add_zero, Nat.zero_add, e1]
  refine hQ _ ⟨⟨k0, k1, g0, ab_u_at _ _ _ _, by omega⟩, hsk, π, hp, hinj, fun i hi => ?_⟩ (p1.2.1.same v (fun b hb1 hb2 j => ab_u_ne (by omega))) (fun b hb j => ?_)
  · obtain ⟨h3, h4⟩ := hpic i (by omega)
    have := (hp i (by omega)).1
    refine ⟨h3.same h4 (fun b hb1 hb2 j => ?_), h4⟩
    rw [ab_u_ne (by omega)]
    exact p1.1 b (by omega) j
  · rw [ab_u_ne (by omega)]
    exact p1.1 b (by omega) j
end AbHist
