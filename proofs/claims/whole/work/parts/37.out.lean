/-! The number of items that are out never falls. -/
section AbOut
variable {z z' : Nat → Int32}
def ab_o (z : Nat → Int32) : Nat := (z 2).toNatClampNeg
theorem InvZ.out (v : InvZ z) : z 2 = nI (ab_o z) ∧ ab_o z ≤ 999 := by
  obtain ⟨p, o, w1, w2, w9, wc⟩ := v.2.2.2.2
  have e : ab_o z = o := by unfold ab_o; rw [w2, ab_nclamp (by omega)]
  rw [e]
  exact ⟨w2, by omega⟩
theorem ab_o_same (h : z' 2 = z 2) : ab_o z' = ab_o z := by unfold ab_o; rw [h]
theorem ab_o_hand (v : InvZ z) {i : Nat} (hi : i < 6) : ab_o z ≤ ab_o (handZ z i) := by
  have hq8 := (ab_q_eq v hi).2
  have hn8 := v.1.2
  obtain ⟨ho, ho9⟩ := v.out
  unfold handZ
  by_cases hq : ab_q z i = 0
  · rw [if_pos hq]; exact Nat.le_refl _
  · rw [if_neg hq]
    rcases (v.2.1 i hi).2.2.1 with hr1 | ⟨s, hr1, hsn⟩
    · rw [if_pos hr1]
      obtain ⟨z1, hz1⟩ : ∃ z1, z1 = upd (upd (upd (upd (upd z (6 + 27 * i + 8) (z (6 + 27 * i + 8) + nI 1)) (6 + 27 * i + 9) (z (6 + 27 * i + (11 + 1)))) 2 (z 2 + nI 1)) 3 (z 3 + z (6 + 27 * i + (11 + 1)))) 4 (z (6 + 27 * i + 11)) := ⟨_, rfl⟩
      rw [← hz1]
      have r4 : z1 (6 + 27 * i + 4) = z (6 + 27 * i + 4) := by rw [hz1]; simp (disch := first | assumption | exact id rfl | omega | exact ab_dK (by assumption) | exact ab_dL (by assumption) (by omega) | exact ab_dI (by assumption) (by omega) (by omega) | exact ab_dIs (by assumption) (by omega) (by omega) | exact ab_isA_rf _ | exact nI_ne0 (by omega) (by omega) | exact Nat.le_of_ble_eq_true rfl | exact ab_dA (by assumption) (by omega) (by omega) (by omega) | exact id (Or.inl rfl) | exact id (Or.inr rfl) | exact ab_b01 | exact ab_dJ (by assumption) (by omega) (by omega) | exact ab_dI6 (by assumption) (by omega) (by omega) | fail) only [ab_upd_ne]
      have r2 : z1 2 = nI (ab_o z + 1) := by
        rw [hz1, ho, ab_nadd]
        simp (disch := first | assumption | exact id rfl | omega | exact ab_dK (by assumption) | exact ab_dL (by assumption) (by omega) | exact ab_dI (by assumption) (by omega) (by omega) | exact ab_dIs (by assumption) (by omega) (by omega) | exact ab_isA_rf _ | exact nI_ne0 (by omega) (by omega) | exact Nat.le_of_ble_eq_true rfl | exact ab_dA (by assumption) (by omega) (by omega) (by omega) | exact id (Or.inl rfl) | exact id (Or.inr rfl) | exact ab_b01 | exact ab_dJ (by assumption) (by omega) (by omega) | exact ab_dI6 (by assumption) (by omega) (by omega) | fail) only [ab_upd_ne, ab_upd_eq]
      have hq1 : ab_q z1 i = ab_q z i := ab_q_same r4
      have e : leaveZ z1 i 2 = nI (ab_o z + 1) := by rw [ab_leave_off (by omega) hi (by omega) (by omega), r2]
      have e2 : ab_o (leaveZ z1 i) = ab_o z + 1 := by
        have : ab_o (leaveZ z1 i) = (leaveZ z1 i 2).toNatClampNeg := rfl
        rw [this, e, ab_nclamp (by omega)]
      omega
    · rw [if_neg (by rw [hr1, ab_nm1 (by omega)]; exact fun h => h)]
      simp only [hr1, ab_nclamp (show s < 2147483648 by omega)]
      obtain ⟨-, -, ⟨sz, hsz, hsz6, hsz7⟩, -, ho4, ho6⟩ := v.2.2.1 s hsn
      by_cases hfull : z (168 + 24 * s + 4) < z (168 + 24 * s + 2)
      · rw [if_pos hfull]
        obtain ⟨z1, hz1⟩ : ∃ z1, z1 = upd (upd (upd (upd (upd z (168 + 24 * s + (6 + 3 * ab_on z s)) (z (6 + 27 * i + 11))) (168 + 24 * s + (6 + 3 * ab_on z s + 1)) (z (6 + 27 * i + (11 + 1)))) (168 + 24 * s + (6 + 3 * ab_on z s + 2)) (nI 0)) (168 + 24 * s + 4) (nI (ab_on z s + 1))) (168 + 24 * s + 5) (z (168 + 24 * s + 5) + nI 1) := ⟨_, rfl⟩
        rw [← hz1]
        have r4 : z1 (6 + 27 * i + 4) = z (6 + 27 * i + 4) := by rw [hz1]; simp (disch := first | assumption | exact id rfl | omega | exact ab_dK (by assumption) | exact ab_dL (by assumption) (by omega) | exact ab_dI (by assumption) (by omega) (by omega) | exact ab_dIs (by assumption) (by omega) (by omega) | exact ab_isA_rf _ | exact nI_ne0 (by omega) (by omega) | exact Nat.le_of_ble_eq_true rfl | exact ab_dA (by assumption) (by omega) (by omega) (by omega) | exact id (Or.inl rfl) | exact id (Or.inr rfl) | exact ab_b01 | exact ab_dJ (by assumption) (by omega) (by omega) | exact ab_dI6 (by assumption) (by omega) (by omega) | fail) only [ab_upd_ne]
        have r2 : z1 2 = z 2 := by rw [hz1]; simp (disch := first | assumption | exact id rfl | omega | exact ab_dK (by assumption) | exact ab_dL (by assumption) (by omega) | exact ab_dI (by assumption) (by omega) (by omega) | exact ab_dIs (by assumption) (by omega) (by omega) | exact ab_isA_rf _ | exact nI_ne0 (by omega) (by omega) | exact Nat.le_of_ble_eq_true rfl | exact ab_dA (by assumption) (by omega) (by omega) (by omega) | exact id (Or.inl rfl) | exact id (Or.inr rfl) | exact ab_b01 | exact ab_dJ (by assumption) (by omega) (by omega) | exact ab_dI6 (by assumption) (by omega) (by omega) | fail) only [ab_upd_ne]
        have hq1 : ab_q z1 i = ab_q z i := ab_q_same r4
        exact Nat.le_of_eq (ab_o_same (by rw [ab_leave_off (by omega) hi (by omega) (by omega), r2])).symm
      · rw [if_neg hfull]
        exact Nat.le_of_eq (ab_o_same (ab_upd_ne (by omega))).symm
theorem ab_o_grow {i n : Nat} : ab_o (growZ z i n) = ab_o z := ab_o_same (ab_growZ_low (by omega))
theorem ab_o_take (v : InvZ z) {i : Nat} (hi : i < 6) : ab_o (takeZ z i) = ab_o z := by
  have hn8 := v.1.2
  have hq8 := (ab_q_eq v hi).2
  unfold takeZ
  by_cases hq : ab_q z i = 8
  · rw [if_pos hq]
  · rw [if_neg hq]
    rcases ab_pick_or (z := z) (i := i) with hpk | ⟨s, hpk, hsn, hrip⟩
    · rw [if_pos hpk]
    · rw [if_neg (by rw [hpk, ab_nm1 (by omega)]; exact fun h => h), hpk, ab_nclamp (show s < 2147483648 by omega)]
      have ho6 := (v.2.2.1 s hsn).2.2.2.2.2
      obtain ⟨z1, hz1⟩ : ∃ z1, z1 = upd (enterZ z i (z (168 + 24 * s + 6)) (z (168 + 24 * s + (6 + 1)))) (6 + 27 * i + 10) (nI s) := ⟨_, rfl⟩
      rw [← hz1]
      have r : ∀ j, j < 6 ∨ 168 ≤ j → z1 j = z j := by
        intro j hj
        rw [hz1]
        unfold enterZ
        simp (disch := first | assumption | exact id rfl | omega | exact ab_dK (by assumption) | exact ab_dL (by assumption) (by omega) | exact ab_dI (by assumption) (by omega) (by omega) | exact ab_dIs (by assumption) (by omega) (by omega) | exact ab_isA_rf _ | exact nI_ne0 (by omega) (by omega) | exact Nat.le_of_ble_eq_true rfl | exact ab_dA (by assumption) (by omega) (by omega) (by omega) | exact id (Or.inl rfl) | exact id (Or.inr rfl) | exact ab_b01 | exact ab_dJ (by assumption) (by omega) (by omega) | exact ab_dI6 (by assumption) (by omega) (by omega) | fail) only [ab_upd_ne]
      have hq1 : ab_on z1 s = ab_on z s := ab_on_same (r _ (by omega))
      exact ab_o_same (by rw [ab_drop_off (by omega) (by omega) (by omega), r _ (by omega)])
theorem ab_o_beat (v : InvZ z) {i : Nat} (hi : i < 6) : ab_o z ≤ ab_o (beatZ z i) := by
  unfold beatZ
  split
  · split
    · refine Nat.le_of_eq (ab_o_same ?_).symm
      rw [ab_upd_ne (by omega), ab_upd_ne (by omega)]
    · rw [ab_o_take ((v.hand hi).grow) hi, ab_o_grow]
      exact ab_o_hand v hi
  · exact Nat.le_refl _
theorem ab_o_rooms (v : InvZ z) : ∀ n, n ≤ 6 → ab_o z ≤ ab_o (roomsZ z n) := by
  intro n
  induction n with
  | zero => intro _; exact Nat.le_refl _
  | succ n ih =>
    intro hn
    exact Nat.le_trans (ih (by omega)) (ab_o_beat (v.rooms n (by omega)) (by omega))
theorem ab_o_tick (v : InvZ z) : ab_o z ≤ ab_o (tickZ z) := by
  have e : ab_o (tickZ z) = ab_o (roomsZ z 6) := ab_o_same (ab_upd_ne (by omega))
  rw [e]
  exact ab_o_rooms v 6 (by omega)
theorem ab_o_ticks (v : InvZ z) : ∀ n, ab_o z ≤ ab_o (ticksZ z n) := by
  intro n
  induction n with
  | zero => exact Nat.le_refl _
  | succ n ih => exact Nat.le_trans ih (ab_o_tick (v.ticks n))
end AbOut
