/-! What the ticks bring, in numbers alone. -/
def ab_would (Z : Nat → Int32) (t k : Nat) : Int32 := if k = 0 then ticksZ Z t 2 - Z 2 else if k = 1 then ab_sum (fun i => ticksZ Z t (6 + 27 * i + 4)) 6 else if k = 2 then nI (ab_nsum (ab_on (ticksZ Z t)) (ab_ns (ticksZ Z t))) else if k = 3 then ab_sum (fun i => ticksZ Z t (6 + 27 * i + 7)) 6 - ab_sum (fun i => Z (6 + 27 * i + 7)) 6 else ab_sum (fun i => ticksZ Z t (6 + 27 * i + 6)) 6 - ab_sum (fun i => Z (6 + 27 * i + 6)) 6
def ab_oo (Z : Nat → Int32) (x : Int32) : Nat → Nat → Int32
  | _, 0 => -1
  | n, c + 1 => if ab_within (ticksZ Z n) x = true then ab_oo Z x (n + 1) c else nI n
/-! The number of items that are out never falls. -/
section AbOut
variable {z z' : Nat → Int32}
def ab_o (z : Nat → Int32) : Nat := (z 2).toNatClampNeg
theorem InvZ.out (v : InvZ z) : z 2 = nI (ab_o z) ∧ ab_o z ≤ 999 := by
  obtain ⟨p, o, w1, w2, w9, wc⟩ := v.2.2.2.2
  have e : ab_o z = o := by unfold ab_o; rw [w2, ab_nclamp (by omega)]
  rw [e]
  exact ⟨w2, by omega⟩
theorem ab_o_same (h : z' 2 = z 2) : ab_o z' = ab_o z := by unfold ab_o; rw [h]
theorem ab_o_hand (v : InvZ z) {i : Nat} (hi : i < 6) : ab_o z ≤ ab_o (handZ z i) := by
  have hq8 := (ab_q_eq v hi).2
  have hn8 := v.1.2
  obtain ⟨ho, ho9⟩ := v.out
  unfold handZ
  by_cases hq : ab_q z i = 0
  · rw [if_pos hq]; exact Nat.le_refl _
  · rw [if_neg hq]
    rcases (v.2.1 i hi).2.2.1 with hr1 | ⟨s, hr1, hsn⟩
    · rw [if_pos hr1]
      obtain ⟨z1, hz1⟩ : ∃ z1, z1 = upd (upd (upd (upd (upd z (6 + 27 * i + 8) (z (6 + 27 * i + 8) + nI 1)) (6 + 27 * i + 9) (z (6 + 27 * i + (11 + 1)))) 2 (z 2 + nI 1)) 3 (z 3 + z (6 + 27 * i + (11 + 1)))) 4 (z (6 + 27 * i + 11)) := ⟨_, rfl⟩
      rw [← hz1]
      have r4 : z1 (6 + 27 * i + 4) = z (6 + 27 * i + 4) := by rw [hz1]; simp (disch := first | assumption | exact id rfl | omega | exact ab_dK (by assumption) | exact ab_dL (by assumption) (by omega) | exact ab_dI (by assumption) (by omega) (by omega) | exact ab_dIs (by assumption) (by omega) (by omega) | exact ab_isA_rf _ | exact nI_ne0 (by omega) (by omega) | exact Nat.le_of_ble_eq_true rfl | exact ab_dA (by assumption) (by omega) (by omega) (by omega) | exact id (Or.inl rfl) | exact id (Or.inr rfl) | exact ab_b01 | exact ab_dJ (by assumption) (by omega) (by omega) | exact ab_dI6 (by assumption) (by omega) (by omega) | fail) only [ab_upd_ne]
      have r2 : z1 2 = nI (ab_o z + 1) := by
        rw [hz1, ho, ab_nadd]
        simp (disch := first | assumption | exact id rfl | omega | exact ab_dK (by assumption) | exact ab_dL (by assumption) (by omega) | exact ab_dI (by assumption) (by omega) (by omega) | exact ab_dIs (by assumption) (by omega) (by omega) | exact ab_isA_rf _ | exact nI_ne0 (by omega) (by omega) | exact Nat.le_of_ble_eq_true rfl | exact ab_dA (by assumption) (by omega) (by omega) (by omega) | exact id (Or.inl rfl) | exact id (Or.inr rfl) | exact ab_b01 | exact ab_dJ (by assumption) (by omega) (by omega) | exact ab_dI6 (by assumption) (by omega) (by omega) | fail) only [ab_upd_ne, ab_upd_eq]
      have hq1 : ab_q z1 i = ab_q z i := ab_q_same r4
      have e : leaveZ z1 i 2 = nI (ab_o z + 1) := by rw [ab_leave_off (by omega) hi (by omega) (by omega), r2]
      have e2 : ab_o (leaveZ z1 i) = ab_o z + 1 := by
        have : ab_o (leaveZ z1 i) = (leaveZ z1 i 2).toNatClampNeg := rfl
        rw [this, e, ab_nclamp (by omega)]
      omega
    · rw [if_neg (by rw [hr1, ab_nm1 (by omega)]; exact fun h => h)]
      simp only [hr1, ab_nclamp (show s < 2147483648 by omega)]
      obtain ⟨-, -, ⟨sz, hsz, hsz6, hsz7⟩, -, ho4, ho6⟩ := v.2.2.1 s hsn
      by_cases hfull : z (168 + 24 * s + 4) < z (168 + 24 * s + 2)
      · rw [if_pos hfull]
        obtain ⟨z1, hz1⟩ : ∃ z1, z1 = upd (upd (upd (upd (upd z (168 + 24 * s + (6 + 3 * ab_on z s)) (z (6 + 27 * i + 11))) (168 + 24 * s + (6 + 3 * ab_on z s + 1)) (z (6 + 27 * i + (11 + 1)))) (168 + 24 * s + (6 + 3 * ab_on z s + 2)) (nI 0)) (168 + 24 * s + 4) (nI (ab_on z s + 1))) (168 + 24 * s + 5) (z (168 + 24 * s + 5) + nI 1) := ⟨_, rfl⟩
        rw [← hz1]
        have r4 : z1 (6 + 27 * i + 4) = z (6 + 27 * i + 4) := by rw [hz1]; simp (disch := first | assumption | exact id rfl | omega | exact ab_dK (by assumption) | exact ab_dL (by assumption) (by omega) | exact ab_dI (by assumption) (by omega) (by omega) | exact ab_dIs (by assumption) (by omega) (by omega) | exact ab_isA_rf _ | exact nI_ne0 (by omega) (by omega) | exact Nat.le_of_ble_eq_true rfl | exact ab_dA (by assumption) (by omega) (by omega) (by omega) | exact id (Or.inl rfl) | exact id (Or.inr rfl) | exact ab_b01 | exact ab_dJ (by assumption) (by omega) (by omega) | exact ab_dI6 (by assumption) (by omega) (by omega) | fail) only [ab_upd_ne]
        have r2 : z1 2 = z 2 := by rw [hz1]; simp (disch := first | assumption | exact id rfl | omega | exact ab_dK (by assumption) | exact ab_dL (by assumption) (by omega) | exact ab_dI (by assumption) (by omega) (by omega) | exact ab_dIs (by assumption) (by omega) (by omega) | exact ab_isA_rf _ | exact nI_ne0 (by omega) (by omega) | exact Nat.le_of_ble_eq_true rfl | exact ab_dA (by assumption) (by omega) (by omega) (by omega) | exact id (Or.inl rfl) | exact id (Or.inr rfl) | exact ab_b01 | exact ab_dJ (by assumption) (by omega) (by omega) | exact ab_dI6 (by assumption) (by omega) (by omega) | fail) only [ab_upd_ne]
        have hq1 : ab_q z1 i = ab_q z i := ab_q_same r4
        exact Nat.le_of_eq (ab_o_same (by rw [ab_leave_off (by omega) hi (by omega) (by omega), r2])).symm
      · rw [if_neg hfull]
        exact Nat.le_of_eq (ab_o_same (ab_upd_ne (by omega))).symm
theorem ab_o_grow {i n : Nat} : ab_o (growZ z i n) = ab_o z := ab_o_same (ab_growZ_low (by omega))
theorem ab_o_take (v : InvZ z) {i : Nat} (hi : i < 6) : ab_o (takeZ z i) = ab_o z := by
  have hn8 := v.1.2
  have hq8 := (ab_q_eq v hi).2
  unfold takeZ
  by_cases hq : ab_q z i = 8
  · rw [if_pos hq]
  · rw [if_neg hq]
    rcases ab_pick_or (z := z) (i := i) with hpk | ⟨s, hpk, hsn, hrip⟩
    · rw [if_pos hpk]
    · rw [if_neg (by rw [hpk, ab_nm1 (by omega)]; exact fun h => h), hpk, ab_nclamp (show s < 2147483648 by omega)]
      have ho6 := (v.2.2.1 s hsn).2.2.2.2.2
      obtain ⟨z1, hz1⟩ : ∃ z1, z1 = upd (enterZ z i (z (168 + 24 * s + 6)) (z (168 + 24 * s + (6 + 1)))) (6 + 27 * i + 10) (nI s) := ⟨_, rfl⟩
      rw [← hz1]
      have r : ∀ j, j < 6 ∨ 168 ≤ j → z1 j = z j := by
        intro j hj
        rw [hz1]
        unfold enterZ
        simp (disch := first | assumption | exact id rfl | omega | exact ab_dK (by assumption) | exact ab_dL (by assumption) (by omega) | exact ab_dI (by assumption) (by omega) (by omega) | exact ab_dIs (by assumption) (by omega) (by omega) | exact ab_isA_rf _ | exact nI_ne0 (by omega) (by omega) | exact Nat.le_of_ble_eq_true rfl | exact ab_dA (by assumption) (by omega) (by omega) (by omega) | exact id (Or.inl rfl) | exact id (Or.inr rfl) | exact ab_b01 | exact ab_dJ (by assumption) (by omega) (by omega) | exact ab_dI6 (by assumption) (by omega) (by omega) | fail) only [ab_upd_ne]
      have hq1 : ab_on z1 s = ab_on z s := ab_on_same (r _ (by omega))
      exact ab_o_same (by rw [ab_drop_off (by omega) (by omega) (by omega), r _ (by omega)])
theorem ab_o_beat (v : InvZ z) {i : Nat} (hi : i < 6) : ab_o z ≤ ab_o (beatZ z i) := by
  unfold beatZ
  split
  · split
    · refine Nat.le_of_eq (ab_o_same ?_).symm
      rw [ab_upd_ne (by omega), ab_upd_ne (by omega)]
    · rw [ab_o_take ((v.hand hi).grow) hi, ab_o_grow]
      exact ab_o_hand v hi
  · exact Nat.le_refl _
theorem ab_o_rooms (v : InvZ z) : ∀ n, n ≤ 6 → ab_o z ≤ ab_o (roomsZ z n) := by
  intro n
  induction n with
  | zero => intro _; exact Nat.le_refl _
  | succ n ih =>
    intro hn
    exact Nat.le_trans (ih (by omega)) (ab_o_beat (v.rooms n (by omega)) (by omega))
theorem ab_o_tick (v : InvZ z) : ab_o z ≤ ab_o (tickZ z) := by
  have e : ab_o (tickZ z) = ab_o (roomsZ z 6) := ab_o_same (ab_upd_ne (by omega))
  rw [e]
  exact ab_o_rooms v 6 (by omega)
theorem ab_o_ticks (v : InvZ z) : ∀ n, ab_o z ≤ ab_o (ticksZ z n) := by
  intro n
  induction n with
  | zero => exact Nat.le_refl _
  | succ n ih => exact Nat.le_trans ih (ab_o_tick (v.ticks n))
end AbOut
def ab_bb (w : Nat → Nat) : Nat → Nat
  | 0 => 0
  | n + 1 => if n = 0 then 0 else if w (ab_bb w n) < w n then n else ab_bb w n
theorem ab_bb_le (w : Nat → Nat) : ∀ n, ab_bb w n ≤ n := by
  intro n
  induction n with
  | zero => exact Nat.le_refl _
  | succ n ih =>
    unfold ab_bb
    split
    · omega
    · split <;> omega
def ab_wp (Z : Nat → Int32) (r t p : Nat) : Nat := ab_o (ticksZ (upd Z (6 + 27 * r + 1) (nI p)) t)
section AbBest
variable {Z W z : Nat → Int32}
theorem ab_upd_upd {c : Nat} {x y : Int32} : upd (upd Z c x) c y = upd Z c y := by
  funext j
  unfold upd
  by_cases hj : j = c
  · rw [if_pos hj, if_pos hj]
  · rw [if_neg hj, if_neg hj, if_neg hj]
theorem ab_wp_ge (v : InvZ Z) {r t p : Nat} (hr : r < 6) : ab_o Z ≤ ab_wp Z r t p ∧ ab_wp Z r t p ≤ 999 := by
  have v1 : InvZ (upd Z (6 + 27 * r + 1) (nI p)) := v.upd (Or.inr (Or.inr (Or.inr ⟨r, hr, Or.inl rfl⟩)))
  refine ⟨?_, ((v1.ticks t).out).2⟩
  have h1 := ab_o_ticks v1 t
  rw [ab_o_same (z := Z) (ab_upd_ne (by omega))] at h1
  exact h1
theorem ab_wp_would (v : InvZ Z) {r t p : Nat} (hr : r < 6) : ab_would (upd Z (6 + 27 * r + 1) (nI p)) t 0 = nI (ab_wp Z r t p - ab_o Z) := by
  have v1 : InvZ (upd Z (6 + 27 * r + 1) (nI p)) := v.upd (Or.inr (Or.inr (Or.inr ⟨r, hr, Or.inl rfl⟩)))
  have h1 := (v1.ticks t).out.1
  have h2 := ab_wp_ge v (t := t) (p := p) hr
  have e : ab_would (upd Z (6 + 27 * r + 1) (nI p)) t 0 = ticksZ (upd Z (6 + 27 * r + 1) (nI p)) t 2 - upd Z (6 + 27 * r + 1) (nI p) 2 := rfl
  rw [e, h1, ab_upd_ne (by omega), v.out.1]
  exact ab_nsub h2.1
end AbBest
