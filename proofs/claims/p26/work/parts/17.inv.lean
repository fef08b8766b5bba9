/-! What holds of the row goes on to hold. -/
section AbInv
variable {z z' : Nat → Int32}
theorem ab_nsum_congr {p p' : Nat → Nat} : ∀ {n : Nat}, (∀ k, k < n → p' k = p k) → ab_nsum p' n = ab_nsum p n := by
  intro n
  induction n with
  | zero => intro _; rfl
  | succ n ih =>
    intro h
    simp only [ab_nsum]
    rw [ih (fun k hk => h k (by omega)), h n (by omega)]
theorem ab_nsum_one {p p' : Nat → Nat} {i : Nat} : ∀ {n : Nat}, i < n → (∀ k, k < n → k ≠ i → p' k = p k) → ab_nsum p' n + p i = ab_nsum p n + p' i := by
  intro n
  induction n with
  | zero => intro h; omega
  | succ n ih =>
    intro hi h
    simp only [ab_nsum]
    by_cases e : i = n
    · subst e
      rw [ab_nsum_congr (p := p) (p' := p') (fun k hk => h k (by omega) (by omega))]
      omega
    · have := ih (by omega) (fun k hk hki => h k (by omega) hki)
      rw [h n (by omega) (by omega)]
      omega
theorem ab_sum_congr {p p' : Nat → Int32} : ∀ {n : Nat}, (∀ k, k < n → p' k = p k) → ab_sum p' n = ab_sum p n := by
  intro n
  induction n with
  | zero => intro _; rfl
  | succ n ih =>
    intro h
    simp only [ab_sum]
    rw [ih (fun k hk => h k (by omega)), h n (by omega)]
theorem ab_sum_one {p p' : Nat → Int32} {i : Nat} {x : Int32} : ∀ {n : Nat}, i < n → (∀ k, k < n → k ≠ i → p' k = p k) → p' i = p i + x → ab_sum p' n = ab_sum p n + x := by
  intro n
  induction n with
  | zero => intro h; omega
  | succ n ih =>
    intro hi h hx
    simp only [ab_sum]
    by_cases e : i = n
    · subst e
      rw [ab_sum_congr (p := p) (p' := p') (fun k hk => h k (by omega) (by omega)), hx, Int32.add_assoc]
    · rw [ih (by omega) (fun k hk hki => h k (by omega) hki) hx, h n (by omega) (by omega), Int32.add_assoc, Int32.add_assoc, Int32.add_comm x]
theorem InvZ.step (v : InvZ z) {q' on' : Nat → Nat} {o' : Nat} (h5 : z' 5 = z 5) (h1 : z' 1 = z 1)
    (hrm : ∀ k, k < 6 → z' (6 + 27 * k) = z (6 + 27 * k) ∧ z' (6 + 27 * k + 2) = z (6 + 27 * k + 2) ∧ z' (6 + 27 * k + 3) = z (6 + 27 * k + 3) ∧ (z' (6 + 27 * k + 4) = nI (q' k) ∧ q' k ≤ 8) ∧ (z' (6 + 27 * k + 10) = z (6 + 27 * k + 10) ∨ ∃ s, z' (6 + 27 * k + 10) = nI s ∧ s < 8))
    (hsm : ∀ s, s < ab_ns z → z' (168 + 24 * s) = z (168 + 24 * s) ∧ z' (168 + 24 * s + 1) = z (168 + 24 * s + 1) ∧ z' (168 + 24 * s + 2) = z (168 + 24 * s + 2) ∧ z' (168 + 24 * s + 3) = z (168 + 24 * s + 3) ∧ z' (168 + 24 * s + 4) = nI (on' s) ∧ (on' s ≤ ab_on z s ∨ z (168 + 24 * s + 4) < z (168 + 24 * s + 2) ∧ on' s = ab_on z s + 1))
    (ho : z' 2 = nI o') (hout : z' 2 = ab_sum (fun i => z' (6 + 27 * i + 8)) 6)
    (hc : ∀ p o, z 1 = nI p → z 2 = nI o → p ≤ 999 → o + ab_nsum (ab_q z) 6 + ab_nsum (ab_on z) (ab_ns z) = p → o' + ab_nsum q' 6 + ab_nsum on' (ab_ns z) = p) : InvZ z' := by
  obtain ⟨⟨v5, vn⟩, vr, vs, v2, p, o, w1, w2, w9, wc⟩ := v
  have en : ab_ns z' = ab_ns z := ab_ns_same h5
  have eq : ∀ k, k < 6 → ab_q z' k = q' k := fun k hk => by
    have := (hrm k hk).2.2.2.1
    unfold ab_q
    rw [this.1, ab_nclamp (by omega)]
  have eo : ∀ s, s < ab_ns z → ab_on z' s = on' s ∧ on' s ≤ 6 ∧ ∃ x, z (168 + 24 * s + 2) = nI x ∧ x ≤ 6 ∧ on' s ≤ x := fun s hs => by
    obtain ⟨-, -, -, -, h4, h5⟩ := hsm s hs
    obtain ⟨-, -, ⟨x, hx, hx6, hx7⟩, -, y4, y6⟩ := vs s hs
    have : on' s ≤ x := by
      rcases h5 with h | ⟨h, h'⟩
      · omega
      · rw [y4, hx, ab_nlt (by omega) (by omega)] at h
        omega
    refine ⟨?_, by omega, x, hx, hx6, this⟩
    unfold ab_on
    rw [h4, ab_nclamp (by omega)]
  refine ⟨⟨by rw [en, h5]; exact v5, by rw [en]; exact vn⟩, fun k hk => ?_, fun s hs => ?_, hout, p, o', by rw [h1]; exact w1, ho, w9, ?_⟩
  · obtain ⟨a1, a2, a3, a4, a5⟩ := hrm k hk
    obtain ⟨b1, b2, b3, b4, b5⟩ := vr k hk
    refine ⟨by rw [a1]; exact b1, by rw [a2]; exact b2, by rw [a3, en]; exact b3, by rw [eq k hk]; exact a4, ?_⟩
    rcases a5 with a5 | a5
    · rw [a5]; exact b5
    · exact Or.inr a5
  · rw [en] at hs
    obtain ⟨a1, a2, a3, a4, a5, a6⟩ := hsm s hs
    obtain ⟨b1, b2, b3, b4, b5⟩ := vs s hs
    obtain ⟨c1, c2, c3⟩ := eo s hs
    refine ⟨by rw [a1]; exact b1, by rw [a2]; exact b2, by rw [a3, c1]; exact c3, by rw [a4]; exact b4, by rw [c1]; exact a5, by rw [c1]; exact c2⟩
  · rw [en, ab_nsum_congr eq, ab_nsum_congr (fun s hs => (eo s hs).1)]
    exact hc p o w1 w2 w9 wc
theorem ab_q_eq (v : InvZ z) {k : Nat} (hk : k < 6) : z (6 + 27 * k + 4) = nI (ab_q z k) ∧ ab_q z k ≤ 8 := (v.2.1 k hk).2.2.2.1
theorem ab_on_eq (v : InvZ z) {s : Nat} (hs : s < ab_ns z) : z (168 + 24 * s + 4) = nI (ab_on z s) := (v.2.2.1 s hs).2.2.2.2.1
theorem InvZ.grow (v : InvZ z) {i n : Nat} : InvZ (growZ z i n) := by
  have hl : ∀ j, j < 168 → growZ z i n j = z j := fun j hj => ab_growZ_low hj
  have hh : ∀ s k, k < 6 → growZ z i n (168 + 24 * s + k) = z (168 + 24 * s + k) := fun s k hk => ab_growZ_head hk
  obtain ⟨p, o, w1, w2, w9, wc⟩ := v.2.2.2.2
  refine v.step (q' := ab_q z) (on' := ab_on z) (o' := o) (hl 5 (by omega)) (hl 1 (by omega)) (fun k hk => ⟨hl _ (by omega), hl _ (by omega), hl _ (by omega), ⟨?_, (ab_q_eq v hk).2⟩, Or.inl (hl _ (by omega))⟩) (fun s hs => ⟨hh s 0 (by omega), hh s 1 (by omega), hh s 2 (by omega), hh s 3 (by omega), (hh s 4 (by omega)).trans (ab_on_eq v hs), Or.inl (Nat.le_refl _)⟩) ?_ ?_ ?_
  · rw [hl _ (by omega)]; exact (ab_q_eq v hk).1
  · rw [hl _ (by omega)]; exact w2
  · rw [hl _ (by omega), v.2.2.2.1]
    exact (ab_sum_congr (fun k hk => hl _ (by omega))).symm
  · intro p' o'' h1 h2 h3 h4
    have e1 : p' = p := by
      have := h1.symm.trans w1
      have h9 : ab_nsum (ab_q z) 6 ≤ p' := by omega
      rw [ab_neq (by omega) (by omega)] at this
      exact this
    omega
theorem ab_leave_off {i j : Nat} (hq : ab_q z i ≤ 8) (hi : i < 6) (h : j ≠ 6 + 27 * i + 4) (h2 : j < 6 + 27 * i + 11 ∨ 6 + 27 * i + 27 ≤ j) : leaveZ z i j = z j := ab_leave_ne (by omega)
theorem ab_drop_off {i j : Nat} (hq : ab_on z i ≤ 6) (h : j ≠ 168 + 24 * i + 4) (h2 : j < 168 + 24 * i + 6 ∨ 168 + 24 * i + 24 ≤ j) : dropZ z i j = z j := ab_drop_ne (by omega)
set_option maxHeartbeats 4000000 in
theorem InvZ.hand (v : InvZ z) {i : Nat} (hi : i < 6) : InvZ (handZ z i) := by
  have hq8 := (ab_q_eq v hi).2
  obtain ⟨p, o, w1, w2, w9, wc⟩ := v.2.2.2.2
  have hob : o ≤ 999 := by omega
  unfold handZ
  by_cases hq : ab_q z i = 0
  · rw [if_pos hq]; exact v
  · rw [if_neg hq]
    have hns := ab_nsum_one (p := ab_q z) (p' := fun k => if k = i then ab_q z i - 1 else ab_q z k) (i := i) (n := 6) hi (fun k hk hki => if_neg hki)
    rw [if_pos rfl] at hns
    rcases (v.2.1 i hi).2.2.1 with hr1 | ⟨s, hr1, hsn⟩
    · rw [if_pos hr1]
      obtain ⟨z1, hz1⟩ : ∃ z1, z1 = upd (upd (upd (upd (upd z (6 + 27 * i + 8) (z (6 + 27 * i + 8) + nI 1)) (6 + 27 * i + 9) (z (6 + 27 * i + (11 + 1)))) 2 (z 2 + nI 1)) 3 (z 3 + z (6 + 27 * i + (11 + 1)))) 4 (z (6 + 27 * i + 11)) := ⟨_, rfl⟩
      rw [← hz1]
      have r : ∀ j, j ≠ 6 + 27 * i + 8 → j ≠ 6 + 27 * i + 9 → j ≠ 2 → j ≠ 3 → j ≠ 4 → z1 j = z j := by
        intro j h1 h2 h3 h4 h5
        rw [hz1]
        simp (disch := first | assumption | exact id rfl | omega | exact ab_dK (by assumption) | exact ab_dL (by assumption) (by omega) | exact ab_dI (by assumption) (by omega) (by omega) | exact ab_dIs (by assumption) (by omega) (by omega) | exact ab_isA_rf _ | exact nI_ne0 (by omega) (by omega) | exact Nat.le_of_ble_eq_true rfl | exact ab_dA (by assumption) (by omega) (by omega) (by omega) | exact id (Or.inl rfl) | exact id (Or.inr rfl) | exact ab_b01 | exact ab_dJ (by assumption) (by omega) (by omega) | exact ab_dI6 (by assumption) (by omega) (by omega) | fail) only [ab_upd_ne]
      have r8 : z1 (6 + 27 * i + 8) = z (6 + 27 * i + 8) + nI 1 := by
        rw [hz1]
        simp (disch := first | assumption | exact id rfl | omega | exact ab_dK (by assumption) | exact ab_dL (by assumption) (by omega) | exact ab_dI (by assumption) (by omega) (by omega) | exact ab_dIs (by assumption) (by omega) (by omega) | exact ab_isA_rf _ | exact nI_ne0 (by omega) (by omega) | exact Nat.le_of_ble_eq_true rfl | exact ab_dA (by assumption) (by omega) (by omega) (by omega) | exact id (Or.inl rfl) | exact id (Or.inr rfl) | exact ab_b01 | exact ab_dJ (by assumption) (by omega) (by omega) | exact ab_dI6 (by assumption) (by omega) (by omega) | fail) only [ab_upd_ne, ab_upd_eq]
      have r2 : z1 2 = z 2 + nI 1 := by
        rw [hz1]
        simp (disch := first | assumption | exact id rfl | omega | exact ab_dK (by assumption) | exact ab_dL (by assumption) (by omega) | exact ab_dI (by assumption) (by omega) (by omega) | exact ab_dIs (by assumption) (by omega) (by omega) | exact ab_isA_rf _ | exact nI_ne0 (by omega) (by omega) | exact Nat.le_of_ble_eq_true rfl | exact ab_dA (by assumption) (by omega) (by omega) (by omega) | exact id (Or.inl rfl) | exact id (Or.inr rfl) | exact ab_b01 | exact ab_dJ (by assumption) (by omega) (by omega) | exact ab_dI6 (by assumption) (by omega) (by omega) | fail) only [ab_upd_ne, ab_upd_eq]
      have hq1 : ab_q z1 i = ab_q z i := ab_q_same (r _ (by omega) (by omega) (by omega) (by omega) (by omega))
      have hq18 : ab_q z1 i ≤ 8 := by omega
      have e : ∀ j, j ≠ 6 + 27 * i + 4 → j < 6 + 27 * i + 11 ∨ 6 + 27 * i + 27 ≤ j → leaveZ z1 i j = z1 j := fun j h1 h2 => ab_leave_off hq18 hi h1 h2
      refine v.step (q' := fun k => if k = i then ab_q z i - 1 else ab_q z k) (on' := ab_on z) (o' := o + 1) ?_ ?_ (fun k hk => ⟨?_, ?_, ?_, ?_, Or.inl ?_⟩) (fun s hs => ⟨?_, ?_, ?_, ?_, ?_, Or.inl (Nat.le_refl _)⟩) ?_ ?_ ?_
      · rw [e _ (by omega) (by omega), r _ (by omega) (by omega) (by omega) (by omega) (by omega)]
      · rw [e _ (by omega) (by omega), r _ (by omega) (by omega) (by omega) (by omega) (by omega)]
      · rw [e _ (by omega) (by omega), r _ (by omega) (by omega) (by omega) (by omega) (by omega)]
      · rw [e _ (by omega) (by omega), r _ (by omega) (by omega) (by omega) (by omega) (by omega)]
      · rw [e _ (by omega) (by omega), r _ (by omega) (by omega) (by omega) (by omega) (by omega)]
      · by_cases hki : k = i
        · rw [if_pos hki, hki, ab_leave_len rfl, hq1]
          exact ⟨rfl, by omega⟩
        · rw [if_neg hki, e _ (by omega) (by omega), r _ (by omega) (by omega) (by omega) (by omega) (by omega)]
          exact ab_q_eq v hk
      · rw [e _ (by omega) (by omega), r _ (by omega) (by omega) (by omega) (by omega) (by omega)]
      · rw [e _ (by omega) (by omega), r _ (by omega) (by omega) (by omega) (by omega) (by omega)]
      · rw [e _ (by omega) (by omega), r _ (by omega) (by omega) (by omega) (by omega) (by omega)]
      · rw [e _ (by omega) (by omega), r _ (by omega) (by omega) (by omega) (by omega) (by omega)]
      · rw [e _ (by omega) (by omega), r _ (by omega) (by omega) (by omega) (by omega) (by omega)]
      · rw [e _ (by omega) (by omega), r _ (by omega) (by omega) (by omega) (by omega) (by omega)]
        exact ab_on_eq v hs
      · rw [e _ (by omega) (by omega), r2, w2, ab_nadd]
      · rw [e _ (by omega) (by omega), r2, v.2.2.2.1]
        refine (ab_sum_one (i := i) hi (fun k hk hki => ?_) ?_).symm
        · rw [e _ (by omega) (by omega), r _ (by omega) (by omega) (by omega) (by omega) (by omega)]
        · rw [e _ (by omega) (by omega), r8]
      · intro p' o'' h1 h2 h3 h4
        have e1 : o'' = o := by
          have := h2.symm.trans w2
          rw [ab_neq (by omega) (by omega)] at this
          exact this
        omega
    · rw [if_neg (by rw [hr1, ab_nm1 (by have := v.1.2; omega)]; exact fun h => h)]
      simp only [hr1, ab_nclamp (show s < 2147483648 by have := v.1.2; omega)]
      have hon := ab_on_eq v hsn
      have hn8 := v.1.2
      obtain ⟨-, -, ⟨sz, hsz, hsz6, hsz7⟩, -, ho4, ho6⟩ := v.2.2.1 s hsn
      by_cases hfull : z (168 + 24 * s + 4) < z (168 + 24 * s + 2)
      · rw [if_pos hfull]
        have hfull' : ab_on z s < sz := by rw [hon, hsz, ab_nlt (by omega) (by omega)] at hfull; exact hfull
        obtain ⟨z1, hz1⟩ : ∃ z1, z1 = upd (upd (upd (upd (upd z (168 + 24 * s + (6 + 3 * ab_on z s)) (z (6 + 27 * i + 11))) (168 + 24 * s + (6 + 3 * ab_on z s + 1)) (z (6 + 27 * i + (11 + 1)))) (168 + 24 * s + (6 + 3 * ab_on z s + 2)) (nI 0)) (168 + 24 * s + 4) (nI (ab_on z s + 1))) (168 + 24 * s + 5) (z (168 + 24 * s + 5) + nI 1) := ⟨_, rfl⟩
        rw [← hz1]
        have r : ∀ j, j < 168 + 24 * s + 4 ∨ 168 + 24 * s + 24 ≤ j → z1 j = z j := by
          intro j h1
          rw [hz1]
          simp (disch := first | assumption | exact id rfl | omega | exact ab_dK (by assumption) | exact ab_dL (by assumption) (by omega) | exact ab_dI (by assumption) (by omega) (by omega) | exact ab_dIs (by assumption) (by omega) (by omega) | exact ab_isA_rf _ | exact nI_ne0 (by omega) (by omega) | exact Nat.le_of_ble_eq_true rfl | exact ab_dA (by assumption) (by omega) (by omega) (by omega) | exact id (Or.inl rfl) | exact id (Or.inr rfl) | exact ab_b01 | exact ab_dJ (by assumption) (by omega) (by omega) | exact ab_dI6 (by assumption) (by omega) (by omega) | fail) only [ab_upd_ne]
        have r4 : z1 (168 + 24 * s + 4) = nI (ab_on z s + 1) := by
          rw [hz1]
          simp (disch := first | assumption | exact id rfl | omega | exact ab_dK (by assumption) | exact ab_dL (by assumption) (by omega) | exact ab_dI (by assumption) (by omega) (by omega) | exact ab_dIs (by assumption) (by omega) (by omega) | exact ab_isA_rf _ | exact nI_ne0 (by omega) (by omega) | exact Nat.le_of_ble_eq_true rfl | exact ab_dA (by assumption) (by omega) (by omega) (by omega) | exact id (Or.inl rfl) | exact id (Or.inr rfl) | exact ab_b01 | exact ab_dJ (by assumption) (by omega) (by omega) | exact ab_dI6 (by assumption) (by omega) (by omega) | fail) only [ab_upd_ne, ab_upd_eq]
        have hq1 : ab_q z1 i = ab_q z i := ab_q_same (r _ (by omega))
        have hq18 : ab_q z1 i ≤ 8 := by omega
        have e : ∀ j, j ≠ 6 + 27 * i + 4 → j < 6 + 27 * i + 11 ∨ 6 + 27 * i + 27 ≤ j → leaveZ z1 i j = z1 j := fun j h1 h2 => ab_leave_off hq18 hi h1 h2
        have hos := ab_nsum_one (p := ab_on z) (p' := fun k => if k = s then ab_on z s + 1 else ab_on z k) (i := s) (n := ab_ns z) hsn (fun k hk hki => if_neg hki)
        rw [if_pos rfl] at hos
        refine v.step (q' := fun k => if k = i then ab_q z i - 1 else ab_q z k) (on' := fun k => if k = s then ab_on z s + 1 else ab_on z k) (o' := o) ?_ ?_ (fun k hk => ⟨?_, ?_, ?_, ?_, Or.inl ?_⟩) (fun t ht => ⟨?_, ?_, ?_, ?_, ?_⟩) ?_ ?_ ?_
        · rw [e _ (by omega) (by omega), r _ (by omega)]
        · rw [e _ (by omega) (by omega), r _ (by omega)]
        · rw [e _ (by omega) (by omega), r _ (by omega)]
        · rw [e _ (by omega) (by omega), r _ (by omega)]
        · rw [e _ (by omega) (by omega), r _ (by omega)]
        · by_cases hki : k = i
          · rw [if_pos hki, hki, ab_leave_len rfl, hq1]
            exact ⟨rfl, by omega⟩
          · rw [if_neg hki, e _ (by omega) (by omega), r _ (by omega)]
            exact ab_q_eq v hk
        · rw [e _ (by omega) (by omega), r _ (by omega)]
        · rw [e _ (by omega) (by omega), r _ (by omega)]
        · rw [e _ (by omega) (by omega), r _ (by omega)]
        · rw [e _ (by omega) (by omega), r _ (by omega)]
        · rw [e _ (by omega) (by omega), r _ (by omega)]
        · by_cases hts : t = s
          · subst hts
            rw [if_pos rfl, e _ (by omega) (by omega)]
            exact ⟨r4, Or.inr ⟨hfull, rfl⟩⟩
          · rw [if_neg hts, e _ (by omega) (by omega), r _ (by omega)]
            exact ⟨ab_on_eq v ht, Or.inl (Nat.le_refl _)⟩
        · rw [e _ (by omega) (by omega), r _ (by omega), w2]
        · rw [e _ (by omega) (by omega), r _ (by omega), v.2.2.2.1]
          exact (ab_sum_congr (fun k hk => by rw [e _ (by omega) (by omega), r _ (by omega)])).symm
        · intro p' o'' h1 h2 h3 h4
          have e1 : o'' = o := by
            have := h2.symm.trans w2
            rw [ab_neq (by omega) (by omega)] at this
            exact this
          omega
      · rw [if_neg hfull]
        refine v.step (q' := ab_q z) (on' := ab_on z) (o' := o) ?_ ?_ (fun k hk => ⟨?_, ?_, ?_, ?_, Or.inl ?_⟩) (fun t ht => ⟨?_, ?_, ?_, ?_, ?_, Or.inl (Nat.le_refl _)⟩) ?_ ?_ ?_
        · rw [ab_upd_ne (by omega)]
        · rw [ab_upd_ne (by omega)]
        · rw [ab_upd_ne (by omega)]
        · rw [ab_upd_ne (by omega)]
        · rw [ab_upd_ne (by omega)]
        · rw [ab_upd_ne (by omega)]
          exact ab_q_eq v hk
        · rw [ab_upd_ne (by omega)]
        · rw [ab_upd_ne (by omega)]
        · rw [ab_upd_ne (by omega)]
        · rw [ab_upd_ne (by omega)]
        · rw [ab_upd_ne (by omega)]
        · rw [ab_upd_ne (by omega)]
          exact ab_on_eq v ht
        · rw [ab_upd_ne (by omega), w2]
        · rw [ab_upd_ne (by omega), v.2.2.2.1]
          exact (ab_sum_congr (fun k hk => by rw [ab_upd_ne (by omega)])).symm
        · intro p' o'' h1 h2 h3 h4
          have e1 : o'' = o := by
            have := h2.symm.trans w2
            rw [ab_neq (by omega) (by omega)] at this
            exact this
          omega
set_option maxHeartbeats 4000000 in
theorem InvZ.take (v : InvZ z) {i : Nat} (hi : i < 6) : InvZ (takeZ z i) := by
  have hq8 := (ab_q_eq v hi).2
  obtain ⟨p, o, w1, w2, w9, wc⟩ := v.2.2.2.2
  have hob : o ≤ 999 := by omega
  have hn8 := v.1.2
  unfold takeZ
  by_cases hq : ab_q z i = 8
  · rw [if_pos hq]; exact v
  · rw [if_neg hq]
    rcases ab_pick_or (z := z) (i := i) with hpk | ⟨s, hpk, hsn, hrip⟩
    · rw [if_pos hpk]; exact v
    · rw [if_neg (by rw [hpk, ab_nm1 (by omega)]; exact fun h => h), hpk, ab_nclamp (show s < 2147483648 by omega)]
      have ho := ab_ripe_on hrip
      have ho6 := (v.2.2.1 s hsn).2.2.2.2.2
      have hns := ab_nsum_one (p := ab_q z) (p' := fun k => if k = i then ab_q z i + 1 else ab_q z k) (i := i) (n := 6) hi (fun k hk hki => if_neg hki)
      rw [if_pos rfl] at hns
      have hos := ab_nsum_one (p := ab_on z) (p' := fun k => if k = s then ab_on z s - 1 else ab_on z k) (i := s) (n := ab_ns z) hsn (fun k hk hki => if_neg hki)
      rw [if_pos rfl] at hos
      obtain ⟨z1, hz1⟩ : ∃ z1, z1 = upd (enterZ z i (z (168 + 24 * s + 6)) (z (168 + 24 * s + (6 + 1)))) (6 + 27 * i + 10) (nI s) := ⟨_, rfl⟩
      rw [← hz1]
      have r : ∀ j, j ≠ 6 + 27 * i + 4 → j ≠ 6 + 27 * i + 10 → j < 6 + 27 * i + 11 ∨ 6 + 27 * i + 27 ≤ j → z1 j = z j := by
        intro j h1 h2 h3
        rw [hz1]
        unfold enterZ
        simp (disch := first | assumption | exact id rfl | omega | exact ab_dK (by assumption) | exact ab_dL (by assumption) (by omega) | exact ab_dI (by assumption) (by omega) (by omega) | exact ab_dIs (by assumption) (by omega) (by omega) | exact ab_isA_rf _ | exact nI_ne0 (by omega) (by omega) | exact Nat.le_of_ble_eq_true rfl | exact ab_dA (by assumption) (by omega) (by omega) (by omega) | exact id (Or.inl rfl) | exact id (Or.inr rfl) | exact ab_b01 | exact ab_dJ (by assumption) (by omega) (by omega) | exact ab_dI6 (by assumption) (by omega) (by omega) | fail) only [ab_upd_ne]
      have r4 : z1 (6 + 27 * i + 4) = nI (ab_q z i + 1) := by
        rw [hz1]
        unfold enterZ
        simp (disch := first | assumption | exact id rfl | omega | exact ab_dK (by assumption) | exact ab_dL (by assumption) (by omega) | exact ab_dI (by assumption) (by omega) (by omega) | exact ab_dIs (by assumption) (by omega) (by omega) | exact ab_isA_rf _ | exact nI_ne0 (by omega) (by omega) | exact Nat.le_of_ble_eq_true rfl | exact ab_dA (by assumption) (by omega) (by omega) (by omega) | exact id (Or.inl rfl) | exact id (Or.inr rfl) | exact ab_b01 | exact ab_dJ (by assumption) (by omega) (by omega) | exact ab_dI6 (by assumption) (by omega) (by omega) | fail) only [ab_upd_ne, ab_upd_eq]
      have r10 : z1 (6 + 27 * i + 10) = nI s := by
        rw [hz1]
        simp (disch := first | assumption | exact id rfl | omega | exact ab_dK (by assumption) | exact ab_dL (by assumption) (by omega) | exact ab_dI (by assumption) (by omega) (by omega) | exact ab_dIs (by assumption) (by omega) (by omega) | exact ab_isA_rf _ | exact nI_ne0 (by omega) (by omega) | exact Nat.le_of_ble_eq_true rfl | exact ab_dA (by assumption) (by omega) (by omega) (by omega) | exact id (Or.inl rfl) | exact id (Or.inr rfl) | exact ab_b01 | exact ab_dJ (by assumption) (by omega) (by omega) | exact ab_dI6 (by assumption) (by omega) (by omega) | fail) only [ab_upd_ne, ab_upd_eq]
      have hq1 : ab_on z1 s = ab_on z s := ab_on_same (r _ (by omega) (by omega) (by omega))
      have hq18 : ab_on z1 s ≤ 6 := by omega
      have e : ∀ j, j ≠ 168 + 24 * s + 4 → j < 168 + 24 * s + 6 ∨ 168 + 24 * s + 24 ≤ j → dropZ z1 s j = z1 j := fun j h1 h2 => ab_drop_off hq18 h1 h2
      refine v.step (q' := fun k => if k = i then ab_q z i + 1 else ab_q z k) (on' := fun k => if k = s then ab_on z s - 1 else ab_on z k) (o' := o) ?_ ?_ (fun k hk => ⟨?_, ?_, ?_, ?_, ?_⟩) (fun t ht => ⟨?_, ?_, ?_, ?_, ?_⟩) ?_ ?_ ?_
      · rw [e _ (by omega) (by omega), r _ (by omega) (by omega) (by omega)]
      · rw [e _ (by omega) (by omega), r _ (by omega) (by omega) (by omega)]
      · rw [e _ (by omega) (by omega), r _ (by omega) (by omega) (by omega)]
      · rw [e _ (by omega) (by omega), r _ (by omega) (by omega) (by omega)]
      · rw [e _ (by omega) (by omega), r _ (by omega) (by omega) (by omega)]
      · by_cases hki : k = i
        · rw [if_pos hki, hki, e _ (by omega) (by omega), r4]
          exact ⟨rfl, by omega⟩
        · rw [if_neg hki, e _ (by omega) (by omega), r _ (by omega) (by omega) (by omega)]
          exact ab_q_eq v hk
      · by_cases hki : k = i
        · refine Or.inr ⟨s, ?_, by omega⟩
          rw [hki, e _ (by omega) (by omega), r10]
        · refine Or.inl ?_
          rw [e _ (by omega) (by omega), r _ (by omega) (by omega) (by omega)]
      · rw [e _ (by omega) (by omega), r _ (by omega) (by omega) (by omega)]
      · rw [e _ (by omega) (by omega), r _ (by omega) (by omega) (by omega)]
      · rw [e _ (by omega) (by omega), r _ (by omega) (by omega) (by omega)]
      · rw [e _ (by omega) (by omega), r _ (by omega) (by omega) (by omega)]
      · by_cases hts : t = s
        · subst hts
          rw [if_pos rfl, ab_drop_len rfl, hq1]
          exact ⟨rfl, Or.inl (by omega)⟩
        · rw [if_neg hts, e _ (by omega) (by omega), r _ (by omega) (by omega) (by omega)]
          exact ⟨ab_on_eq v ht, Or.inl (Nat.le_refl _)⟩
      · rw [e _ (by omega) (by omega), r _ (by omega) (by omega) (by omega), w2]
      · rw [e _ (by omega) (by omega), r _ (by omega) (by omega) (by omega), v.2.2.2.1]
        exact (ab_sum_congr (fun k hk => by rw [e _ (by omega) (by omega), r _ (by omega) (by omega) (by omega)])).symm
      · intro p' o'' h1 h2 h3 h4
        have e1 : o'' = o := by
          have := h2.symm.trans w2
          rw [ab_neq (by omega) (by omega)] at this
          exact this
        omega
/-- a change of numbers that no sum speaks of -/
theorem InvZ.upd (v : InvZ z) {c : Nat} {x : Int32} (h : c = 0 ∨ c = 3 ∨ c = 4 ∨ (∃ i, i < 6 ∧ (c = 6 + 27 * i + 1 ∨ c = 6 + 27 * i + 5 ∨ c = 6 + 27 * i + 6 ∨ c = 6 + 27 * i + 7 ∨ c = 6 + 27 * i + 9))) : InvZ (upd z c x) := by
  obtain ⟨p, o, w1, w2, w9, wc⟩ := v.2.2.2.2
  have hc : c < 168 ∧ c ≠ 5 ∧ c ≠ 1 ∧ c ≠ 2 ∧ ∀ k, k < 6 → c ≠ 6 + 27 * k ∧ c ≠ 6 + 27 * k + 2 ∧ c ≠ 6 + 27 * k + 3 ∧ c ≠ 6 + 27 * k + 4 ∧ c ≠ 6 + 27 * k + 10 ∧ c ≠ 6 + 27 * k + 8 := by
    rcases h with h | h | h | ⟨i, hi, h⟩
    · exact ⟨by omega, by omega, by omega, by omega, fun k hk => by omega⟩
    · exact ⟨by omega, by omega, by omega, by omega, fun k hk => by omega⟩
    · exact ⟨by omega, by omega, by omega, by omega, fun k hk => by omega⟩
    · exact ⟨by omega, by omega, by omega, by omega, fun k hk => by omega⟩
  obtain ⟨b1, b2, b3, b4, b5⟩ := hc
  refine v.step (q' := ab_q z) (on' := ab_on z) (o' := o) ?_ ?_ (fun k hk => ?_) (fun t ht => ⟨?_, ?_, ?_, ?_, ?_, Or.inl (Nat.le_refl _)⟩) ?_ ?_ ?_
  · rw [ab_upd_ne (by omega)]
  · rw [ab_upd_ne (by omega)]
  · obtain ⟨c1, c2, c3, c4, c5, c6⟩ := b5 k hk
    rw [ab_upd_ne (by omega), ab_upd_ne (by omega), ab_upd_ne (by omega), ab_upd_ne (by omega), ab_upd_ne (by omega)]
    exact ⟨rfl, rfl, rfl, ab_q_eq v hk, Or.inl rfl⟩
  · rw [ab_upd_ne (by omega)]
  · rw [ab_upd_ne (by omega)]
  · rw [ab_upd_ne (by omega)]
  · rw [ab_upd_ne (by omega)]
  · rw [ab_upd_ne (by omega)]
    exact ab_on_eq v ht
  · rw [ab_upd_ne (by omega), w2]
  · rw [ab_upd_ne (by omega), v.2.2.2.1]
    exact (ab_sum_congr (fun k hk => by rw [ab_upd_ne (by have := (b5 k hk).2.2.2.2.2; omega)])).symm
  · intro p' o'' h1 h2 h3 h4
    have e1 : o'' = o := by
      have := h2.symm.trans w2
      rw [ab_neq (by omega) (by omega)] at this
      exact this
    omega
theorem InvZ.beat (v : InvZ z) {i : Nat} (hi : i < 6) : InvZ (beatZ z i) := by
  unfold beatZ
  split
  · split
    · exact (v.upd (Or.inr (Or.inr (Or.inr ⟨i, hi, by omega⟩)))).upd (Or.inr (Or.inr (Or.inr ⟨i, hi, by omega⟩)))
    · exact ((v.hand hi).grow).take hi
  · exact v
theorem InvZ.rooms (v : InvZ z) : ∀ n, n ≤ 6 → InvZ (roomsZ z n) := by
  intro n
  induction n with
  | zero => intro _; exact v
  | succ n ih =>
    intro hn
    exact (ih (by omega)).beat (by omega)
theorem InvZ.tick (v : InvZ z) : InvZ (tickZ z) := (v.rooms 6 (by omega)).upd (Or.inl rfl)
theorem InvZ.ticks (v : InvZ z) : ∀ n, InvZ (ticksZ z n) := by
  intro n
  induction n with
  | zero => exact v
  | succ n ih => exact ih.tick
end AbInv
