/-! What lies behind the last seam isn't touched. -/
section AbTail
variable {z z' z2 : Nat → Int32}
def Tail (z z' : Nat → Int32) : Prop := z' 5 = z 5 ∧ ∀ j, 168 + 24 * ab_ns z ≤ j → z' j = z j
theorem Tail.refl : Tail z z := ⟨rfl, fun _ _ => rfl⟩
theorem Tail.trans (a : Tail z z') (b : Tail z' z2) : Tail z z2 := by
  have e : ab_ns z' = ab_ns z := ab_ns_same a.1
  refine ⟨b.1.trans a.1, fun j hj => (b.2 j (by rw [e]; exact hj)).trans (a.2 j hj)⟩
theorem Tail.set1 {c : Nat} {x : Int32} (hc : c < 168) (h5 : c ≠ 5) : Tail z (upd z c x) := ⟨ab_upd_ne (by omega), fun j hj => ab_upd_ne (by omega)⟩
theorem Tail.hand (v : InvZ z) {i : Nat} (hi : i < 6) : Tail z (handZ z i) := by
  refine ⟨ab_hand_five, fun j hj => ?_⟩
  have hq8 := (ab_q_eq v hi).2
  have hn8 := v.1.2
  unfold handZ
  by_cases hq : ab_q z i = 0
  · rw [if_pos hq]
  · rw [if_neg hq]
    rcases (v.2.1 i hi).2.2.1 with hr1 | ⟨s, hr1, hsn⟩
    · rw [if_pos hr1]
      obtain ⟨z1, hz1⟩ : ∃ z1, z1 = upd (upd (upd (upd (upd z (6 + 27 * i + 8) (z (6 + 27 * i + 8) + nI 1)) (6 + 27 * i + 9) (z (6 + 27 * i + (11 + 1)))) 2 (z 2 + nI 1)) 3 (z 3 + z (6 + 27 * i + (11 + 1)))) 4 (z (6 + 27 * i + 11)) := ⟨_, rfl⟩
      rw [← hz1]
      have r4 : z1 (6 + 27 * i + 4) = z (6 + 27 * i + 4) := by rw [hz1]; simp (disch := first | assumption | exact id rfl | omega | exact ab_dK (by assumption) | exact ab_dL (by assumption) (by omega) | exact ab_dI (by assumption) (by omega) (by omega) | exact ab_dIs (by assumption) (by omega) (by omega) | exact ab_isA_rf _ | exact nI_ne0 (by omega) (by omega) | exact Nat.le_of_ble_eq_true rfl | exact ab_dA (by assumption) (by omega) (by omega) (by omega) | exact id (Or.inl rfl) | exact id (Or.inr rfl) | exact ab_b01 | exact ab_dJ (by assumption) (by omega) (by omega) | exact ab_dI6 (by assumption) (by omega) (by omega) | fail) only [ab_upd_ne]
      have rj : z1 j = z j := by rw [hz1]; simp (disch := first | assumption | exact id rfl | omega | exact ab_dK (by assumption) | exact ab_dL (by assumption) (by omega) | exact ab_dI (by assumption) (by omega) (by omega) | exact ab_dIs (by assumption) (by omega) (by omega) | exact ab_isA_rf _ | exact nI_ne0 (by omega) (by omega) | exact Nat.le_of_ble_eq_true rfl | exact ab_dA (by assumption) (by omega) (by omega) (by omega) | exact id (Or.inl rfl) | exact id (Or.inr rfl) | exact ab_b01 | exact ab_dJ (by assumption) (by omega) (by omega) | exact ab_dI6 (by assumption) (by omega) (by omega) | fail) only [ab_upd_ne]
      have hq1 : ab_q z1 i = ab_q z i := ab_q_same r4
      rw [ab_leave_off (by omega) hi (by omega) (by omega), rj]
    · rw [if_neg (by rw [hr1, ab_nm1 (by omega)]; exact fun h => h)]
      simp only [hr1, ab_nclamp (show s < 2147483648 by omega)]
      obtain ⟨-, -, ⟨sz, hsz, hsz6, hsz7⟩, -, ho4, ho6⟩ := v.2.2.1 s hsn
      by_cases hfull : z (168 + 24 * s + 4) < z (168 + 24 * s + 2)
      · rw [if_pos hfull]
        have hfull' : ab_on z s < sz := by rw [ho4, hsz, ab_nlt (by omega) (by omega)] at hfull; exact hfull
        obtain ⟨z1, hz1⟩ : ∃ z1, z1 = upd (upd (upd (upd (upd z (168 + 24 * s + (6 + 3 * ab_on z s)) (z (6 + 27 * i + 11))) (168 + 24 * s + (6 + 3 * ab_on z s + 1)) (z (6 + 27 * i + (11 + 1)))) (168 + 24 * s + (6 + 3 * ab_on z s + 2)) (nI 0)) (168 + 24 * s + 4) (nI (ab_on z s + 1))) (168 + 24 * s + 5) (z (168 + 24 * s + 5) + nI 1) := ⟨_, rfl⟩
        rw [← hz1]
        have r4 : z1 (6 + 27 * i + 4) = z (6 + 27 * i + 4) := by rw [hz1]; simp (disch := first | assumption | exact id rfl | omega | exact ab_dK (by assumption) | exact ab_dL (by assumption) (by omega) | exact ab_dI (by assumption) (by omega) (by omega) | exact ab_dIs (by assumption) (by omega) (by omega) | exact ab_isA_rf _ | exact nI_ne0 (by omega) (by omega) | exact Nat.le_of_ble_eq_true rfl | exact ab_dA (by assumption) (by omega) (by omega) (by omega) | exact id (Or.inl rfl) | exact id (Or.inr rfl) | exact ab_b01 | exact ab_dJ (by assumption) (by omega) (by omega) | exact ab_dI6 (by assumption) (by omega) (by omega) | fail) only [ab_upd_ne]
        have rj : z1 j = z j := by rw [hz1]; simp (disch := first | assumption | exact id rfl | omega | exact ab_dK (by assumption) | exact ab_dL (by assumption) (by omega) | exact ab_dI (by assumption) (by omega) (by omega) | exact ab_dIs (by assumption) (by omega) (by omega) | exact ab_isA_rf _ | exact nI_ne0 (by omega) (by omega) | exact Nat.le_of_ble_eq_true rfl | exact ab_dA (by assumption) (by omega) (by omega) (by omega) | exact id (Or.inl rfl) | exact id (Or.inr rfl) | exact ab_b01 | exact ab_dJ (by assumption) (by omega) (by omega) | exact ab_dI6 (by assumption) (by omega) (by omega) | fail) only [ab_upd_ne]
        have hq1 : ab_q z1 i = ab_q z i := ab_q_same r4
        rw [ab_leave_off (by omega) hi (by omega) (by omega), rj]
      · rw [if_neg hfull, ab_upd_ne (by omega)]
theorem Tail.grow {i n : Nat} (hn : n ≤ ab_ns z) : Tail z (growZ z i n) := by
  refine ⟨ab_growZ_low (by omega), fun j hj => ?_⟩
  unfold growZ
  rw [if_neg (by omega)]
theorem Tail.take (v : InvZ z) {i : Nat} (hi : i < 6) : Tail z (takeZ z i) := by
  have hq8 := (ab_q_eq v hi).2
  have hn8 := v.1.2
  unfold takeZ
  by_cases hq : ab_q z i = 8
  · rw [if_pos hq]; exact Tail.refl
  · rw [if_neg hq]
    rcases ab_pick_or (z := z) (i := i) with hpk | ⟨s, hpk, hsn, hrip⟩
    · rw [if_pos hpk]; exact Tail.refl
    · rw [if_neg (by rw [hpk, ab_nm1 (by omega)]; exact fun h => h), hpk, ab_nclamp (show s < 2147483648 by omega)]
      have ho6 := (v.2.2.1 s hsn).2.2.2.2.2
      obtain ⟨z1, hz1⟩ : ∃ z1, z1 = upd (enterZ z i (z (168 + 24 * s + 6)) (z (168 + 24 * s + (6 + 1)))) (6 + 27 * i + 10) (nI s) := ⟨_, rfl⟩
      rw [← hz1]
      have r : ∀ j, j < 6 ∨ 168 ≤ j → z1 j = z j := by
        intro j hj
        rw [hz1]
        unfold enterZ
        simp (disch := first | assumption | exact id rfl | omega | exact ab_dK (by assumption) | exact ab_dL (by assumption) (by omega) | exact ab_dI (by assumption) (by omega) (by omega) | exact ab_dIs (by assumption) (by omega) (by omega) | exact ab_isA_rf _ | exact nI_ne0 (by omega) (by omega) | exact Nat.le_of_ble_eq_true rfl | exact ab_dA (by assumption) (by omega) (by omega) (by omega) | exact id (Or.inl rfl) | exact id (Or.inr rfl) | exact ab_b01 | exact ab_dJ (by assumption) (by omega) (by omega) | exact ab_dI6 (by assumption) (by omega) (by omega) | fail) only [ab_upd_ne]
      have hq1 : ab_on z1 s = ab_on z s := ab_on_same (r _ (by omega))
      refine ⟨?_, fun j hj => ?_⟩
      · rw [ab_drop_off (by omega) (by omega) (by omega), r _ (by omega)]
      · rw [ab_drop_off (by omega) (by omega) (by omega), r _ (by omega)]
theorem Tail.beat (v : InvZ z) {i : Nat} (hi : i < 6) : Tail z (beatZ z i) := by
  unfold beatZ
  split
  · split
    · exact (Tail.set1 (by omega) (by omega)).trans (Tail.set1 (by omega) (by omega))
    · have a := Tail.hand v hi
      have e : ab_ns (handZ z i) = ab_ns z := ab_ns_same a.1
      exact (a.trans (Tail.grow (by omega))).trans (Tail.take ((v.hand hi).grow) hi)
  · exact Tail.refl
theorem Tail.rooms (v : InvZ z) : ∀ n, n ≤ 6 → Tail z (roomsZ z n) := by
  intro n
  induction n with
  | zero => intro _; exact Tail.refl
  | succ n ih =>
    intro hn
    exact (ih (by omega)).trans (Tail.beat (v.rooms n (by omega)) (by omega))
theorem Tail.tick (v : InvZ z) : Tail z (tickZ z) := (Tail.rooms v 6 (by omega)).trans (Tail.set1 (by omega) (by omega))
theorem Tail.ticks (v : InvZ z) : ∀ n, Tail z (ticksZ z n) := by
  intro n
  induction n with
  | zero => exact Tail.refl
  | succ n ih => exact ih.trans (Tail.tick (v.ticks n))
end AbTail
