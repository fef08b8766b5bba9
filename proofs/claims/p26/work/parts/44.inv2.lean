/-! What holds of the row stays, call by call. -/
section AbInv2
variable {z z' : Nat → Int32}
def ab_rok (z : Nat → Int32) (k : Nat) (x : Int32) : Prop := (k = 0 → ∃ p, x = nI p ∧ 1 ≤ p ∧ p ≤ 4) ∧ (k = 2 → x = nI 0 ∨ x = nI 1) ∧ (k = 3 → x = -1 ∨ ∃ s, x = nI s ∧ s < ab_ns z)
theorem InvZ_setR (v : InvZ z) {i k : Nat} {x : Int32} (hi : i < 6) (hk : k = 0 ∨ k = 2 ∨ k = 3) (ok : ab_rok z k x) : InvZ (upd z (6 + 27 * i + k) x) := by
  obtain ⟨⟨v5, vn⟩, vr, vs, v2, p, o, w1, w2, w9, wc⟩ := v
  obtain ⟨z1, hz1⟩ : ∃ z1, z1 = upd z (6 + 27 * i + k) x := ⟨_, rfl⟩
  rw [← hz1]
  have r : ∀ c, c ≠ 6 + 27 * i + k → z1 c = z c := fun c hc => by rw [hz1]; exact ab_upd_ne hc
  have re : ∀ c, c = 6 + 27 * i + k → z1 c = x := fun c hc => by rw [hz1]; exact ab_upd_eq hc
  have en : ab_ns z1 = ab_ns z := ab_ns_same (r _ (by omega))
  have eq : ∀ j, j < 6 → ab_q z1 j = ab_q z j := fun j hj => ab_q_same (r _ (by omega))
  have eo : ∀ s, s < ab_ns z → ab_on z1 s = ab_on z s := fun s hs => ab_on_same (r _ (by omega))
  refine ⟨⟨by rw [r _ (by omega), en]; exact v5, by rw [en]; exact vn⟩, fun j hj => ?_, fun s hs => ?_, ?_, p, o, by rw [r _ (by omega)]; exact w1, by rw [r _ (by omega)]; exact w2, w9, ?_⟩
  · obtain ⟨b1, b2, b3, b4, b5⟩ := vr j hj
    refine ⟨?_, ?_, ?_, ?_, ?_⟩
    · by_cases e : j = i ∧ k = 0
      · rw [re _ (by omega)]; exact ok.1 e.2
      · rw [r _ (by omega)]; exact b1
    · by_cases e : j = i ∧ k = 2
      · rw [re _ (by omega)]; exact ok.2.1 e.2
      · rw [r _ (by omega)]; exact b2
    · rw [en]
      by_cases e : j = i ∧ k = 3
      · rw [re _ (by omega)]; exact ok.2.2 e.2
      · rw [r _ (by omega)]; exact b3
    · rw [eq j hj, r _ (by omega)]; exact b4
    · rw [r _ (by omega)]; exact b5
  · rw [en] at hs
    unfold InvSeam
    rw [eo s hs, r _ (by omega), r _ (by omega), r _ (by omega), r _ (by omega), r _ (by omega)]
    exact vs s hs
  · rw [r _ (by omega), v2]
    exact (ab_sum_congr (fun j hj => r _ (by omega))).symm
  · rw [en, ab_nsum_congr eq, ab_nsum_congr eo]
    exact wc
theorem InvZ.put (v : InvZ z) {i p0 : Nat} {x : Int32} (hi : i < 6) (h8 : ab_q z i < 8) (h9 : z 1 = nI p0) (h99 : p0 < 999) : InvZ (putZ z i x) := by
  obtain ⟨⟨v5, vn⟩, vr, vs, v2, p, o, w1, w2, w9, wc⟩ := v
  have hp : p < 999 := by
    have e := w1.symm.trans h9
    rw [ab_neq (by omega) (by omega)] at e
    omega
  obtain ⟨z1, hz1⟩ : ∃ z1, z1 = putZ z i x := ⟨_, rfl⟩
  rw [← hz1]
  have r : ∀ c, c ≠ 1 → c ≠ 6 + 27 * i + 4 → c < 6 + 27 * i + 11 ∨ 6 + 27 * i + 27 ≤ c → z1 c = z c := fun c h1 h2 h3 => by
    rw [hz1]
    unfold putZ enterZ
    simp (disch := first | assumption | exact id rfl | omega | exact ab_dK (by assumption) | exact ab_dL (by assumption) (by omega) | exact ab_dI (by assumption) (by omega) (by omega) | exact ab_dIs (by assumption) (by omega) (by omega) | exact ab_isA_rf _ | exact nI_ne0 (by omega) (by omega) | exact Nat.le_of_ble_eq_true rfl | exact ab_dA (by assumption) (by omega) (by omega) (by omega) | exact id (Or.inl rfl) | exact id (Or.inr rfl) | exact ab_b01 | exact ab_dJ (by assumption) (by omega) (by omega) | exact ab_dI6 (by assumption) (by omega) (by omega) | fail) only [ab_upd_ne]
  have r1 : z1 1 = nI (p + 1) := by
    rw [hz1]
    unfold putZ
    rw [ab_upd_eq rfl, w1]
    exact ab_nadd _ _
  have r4 : z1 (6 + 27 * i + 4) = nI (ab_q z i + 1) := by
    rw [hz1]
    unfold putZ enterZ
    simp (disch := first | assumption | exact id rfl | omega | exact ab_dK (by assumption) | exact ab_dL (by assumption) (by omega) | exact ab_dI (by assumption) (by omega) (by omega) | exact ab_dIs (by assumption) (by omega) (by omega) | exact ab_isA_rf _ | exact nI_ne0 (by omega) (by omega) | exact Nat.le_of_ble_eq_true rfl | exact ab_dA (by assumption) (by omega) (by omega) (by omega) | exact id (Or.inl rfl) | exact id (Or.inr rfl) | exact ab_b01 | exact ab_dJ (by assumption) (by omega) (by omega) | exact ab_dI6 (by assumption) (by omega) (by omega) | fail) only [ab_upd_ne, ab_upd_eq]
  have en : ab_ns z1 = ab_ns z := ab_ns_same (r _ (by omega) (by omega) (by omega))
  have eqi : ab_q z1 i = ab_q z i + 1 := by unfold ab_q; rw [r4]; exact ab_nclamp (by omega)
  have eq : ∀ j, j < 6 → j ≠ i → ab_q z1 j = ab_q z j := fun j hj hji => ab_q_same (r _ (by omega) (by omega) (by omega))
  have eo : ∀ s, s < ab_ns z → ab_on z1 s = ab_on z s := fun s hs => ab_on_same (r _ (by omega) (by omega) (by omega))
  refine ⟨⟨by rw [r _ (by omega) (by omega) (by omega), en]; exact v5, by rw [en]; exact vn⟩, fun j hj => ?_, fun s hs => ?_, ?_, p + 1, o, r1, by rw [r _ (by omega) (by omega) (by omega)]; exact w2, by omega, ?_⟩
  · obtain ⟨b1, b2, b3, b4, b5⟩ := vr j hj
    unfold InvRoom
    rw [en, r _ (by omega) (by omega) (by omega), r (6 + 27 * j + 2) (by omega) (by omega) (by omega), r (6 + 27 * j + 3) (by omega) (by omega) (by omega), r (6 + 27 * j + 10) (by omega) (by omega) (by omega)]
    refine ⟨b1, b2, b3, ?_, b5⟩
    by_cases e : j = i
    · subst e
      rw [eqi, r4]
      exact ⟨rfl, by omega⟩
    · rw [eq j hj e, r _ (by omega) (by omega) (by omega)]
      exact b4
  · rw [en] at hs
    unfold InvSeam
    rw [eo s hs, r _ (by omega) (by omega) (by omega), r (168 + 24 * s + 1) (by omega) (by omega) (by omega), r (168 + 24 * s + 2) (by omega) (by omega) (by omega), r (168 + 24 * s + 3) (by omega) (by omega) (by omega), r (168 + 24 * s + 4) (by omega) (by omega) (by omega)]
    exact vs s hs
  · rw [r _ (by omega) (by omega) (by omega), v2]
    exact (ab_sum_congr (fun j hj => r _ (by omega) (by omega) (by omega))).symm
  · have e := ab_nsum_one (p := ab_q z) (p' := ab_q z1) (i := i) (n := 6) hi eq
    rw [en, ab_nsum_congr eo]
    omega
theorem InvZ.newSeam (v : InvZ z) {n i k a b : Nat} (hn : ab_ns z = n) (h8 : n < 8) (hi : i < 6) (hk : k < 6) (ha : a ≤ 6) (hb : 1 ≤ b) (hb3 : b ≤ 3) : InvZ (newSeamZ z (nI i) (nI k) (nI a) (nI b)) := by
  obtain ⟨⟨v5, vn⟩, vr, vs, v2, p, o, w1, w2, w9, wc⟩ := v
  obtain ⟨z1, hz1⟩ : ∃ z1, z1 = newSeamZ z (nI i) (nI k) (nI a) (nI b) := ⟨_, rfl⟩
  rw [← hz1]
  unfold newSeamZ at hz1
  rw [hn] at hz1 vn v5
  have r : ∀ c, c ≠ 5 → c < 168 + 24 * n ∨ 168 + 24 * n + 6 ≤ c → z1 c = z c := fun c h1 h2 => by
    rw [hz1]
    simp (disch := first | assumption | exact id rfl | omega | exact ab_dK (by assumption) | exact ab_dL (by assumption) (by omega) | exact ab_dI (by assumption) (by omega) (by omega) | exact ab_dIs (by assumption) (by omega) (by omega) | exact ab_isA_rf _ | exact nI_ne0 (by omega) (by omega) | exact Nat.le_of_ble_eq_true rfl | exact ab_dA (by assumption) (by omega) (by omega) (by omega) | exact id (Or.inl rfl) | exact id (Or.inr rfl) | exact ab_b01 | exact ab_dJ (by assumption) (by omega) (by omega) | exact ab_dI6 (by assumption) (by omega) (by omega) | fail) only [ab_upd_ne]
  have r5 : z1 5 = nI (n + 1) := by
    rw [hz1]
    simp (disch := first | assumption | exact id rfl | omega | exact ab_dK (by assumption) | exact ab_dL (by assumption) (by omega) | exact ab_dI (by assumption) (by omega) (by omega) | exact ab_dIs (by assumption) (by omega) (by omega) | exact ab_isA_rf _ | exact nI_ne0 (by omega) (by omega) | exact Nat.le_of_ble_eq_true rfl | exact ab_dA (by assumption) (by omega) (by omega) (by omega) | exact id (Or.inl rfl) | exact id (Or.inr rfl) | exact ab_b01 | exact ab_dJ (by assumption) (by omega) (by omega) | exact ab_dI6 (by assumption) (by omega) (by omega) | fail) only [ab_upd_ne, ab_upd_eq]
  have c0 : z1 (168 + 24 * n) = nI i := by
    rw [hz1]
    simp (disch := first | assumption | exact id rfl | omega | exact ab_dK (by assumption) | exact ab_dL (by assumption) (by omega) | exact ab_dI (by assumption) (by omega) (by omega) | exact ab_dIs (by assumption) (by omega) (by omega) | exact ab_isA_rf _ | exact nI_ne0 (by omega) (by omega) | exact Nat.le_of_ble_eq_true rfl | exact ab_dA (by assumption) (by omega) (by omega) (by omega) | exact id (Or.inl rfl) | exact id (Or.inr rfl) | exact ab_b01 | exact ab_dJ (by assumption) (by omega) (by omega) | exact ab_dI6 (by assumption) (by omega) (by omega) | fail) only [ab_upd_ne, ab_upd_eq]
  have c1 : z1 (168 + 24 * n + 1) = nI k := by
    rw [hz1]
    simp (disch := first | assumption | exact id rfl | omega | exact ab_dK (by assumption) | exact ab_dL (by assumption) (by omega) | exact ab_dI (by assumption) (by omega) (by omega) | exact ab_dIs (by assumption) (by omega) (by omega) | exact ab_isA_rf _ | exact nI_ne0 (by omega) (by omega) | exact Nat.le_of_ble_eq_true rfl | exact ab_dA (by assumption) (by omega) (by omega) (by omega) | exact id (Or.inl rfl) | exact id (Or.inr rfl) | exact ab_b01 | exact ab_dJ (by assumption) (by omega) (by omega) | exact ab_dI6 (by assumption) (by omega) (by omega) | fail) only [ab_upd_ne, ab_upd_eq]
  have c2 : z1 (168 + 24 * n + 2) = nI a := by
    rw [hz1]
    simp (disch := first | assumption | exact id rfl | omega | exact ab_dK (by assumption) | exact ab_dL (by assumption) (by omega) | exact ab_dI (by assumption) (by omega) (by omega) | exact ab_dIs (by assumption) (by omega) (by omega) | exact ab_isA_rf _ | exact nI_ne0 (by omega) (by omega) | exact Nat.le_of_ble_eq_true rfl | exact ab_dA (by assumption) (by omega) (by omega) (by omega) | exact id (Or.inl rfl) | exact id (Or.inr rfl) | exact ab_b01 | exact ab_dJ (by assumption) (by omega) (by omega) | exact ab_dI6 (by assumption) (by omega) (by omega) | fail) only [ab_upd_ne, ab_upd_eq]
  have c3 : z1 (168 + 24 * n + 3) = nI b := by
    rw [hz1]
    simp (disch := first | assumption | exact id rfl | omega | exact ab_dK (by assumption) | exact ab_dL (by assumption) (by omega) | exact ab_dI (by assumption) (by omega) (by omega) | exact ab_dIs (by assumption) (by omega) (by omega) | exact ab_isA_rf _ | exact nI_ne0 (by omega) (by omega) | exact Nat.le_of_ble_eq_true rfl | exact ab_dA (by assumption) (by omega) (by omega) (by omega) | exact id (Or.inl rfl) | exact id (Or.inr rfl) | exact ab_b01 | exact ab_dJ (by assumption) (by omega) (by omega) | exact ab_dI6 (by assumption) (by omega) (by omega) | fail) only [ab_upd_ne, ab_upd_eq]
  have c4 : z1 (168 + 24 * n + 4) = nI 0 := by
    rw [hz1]
    simp (disch := first | assumption | exact id rfl | omega | exact ab_dK (by assumption) | exact ab_dL (by assumption) (by omega) | exact ab_dI (by assumption) (by omega) (by omega) | exact ab_dIs (by assumption) (by omega) (by omega) | exact ab_isA_rf _ | exact nI_ne0 (by omega) (by omega) | exact Nat.le_of_ble_eq_true rfl | exact ab_dA (by assumption) (by omega) (by omega) (by omega) | exact id (Or.inl rfl) | exact id (Or.inr rfl) | exact ab_b01 | exact ab_dJ (by assumption) (by omega) (by omega) | exact ab_dI6 (by assumption) (by omega) (by omega) | fail) only [ab_upd_ne, ab_upd_eq]
  have en : ab_ns z1 = n + 1 := by unfold ab_ns; rw [r5]; exact ab_nclamp (by omega)
  have e0 : ab_on z1 n = 0 := by unfold ab_on; rw [c4]; rfl
  have eq : ∀ j, j < 6 → ab_q z1 j = ab_q z j := fun j hj => ab_q_same (r _ (by omega) (by omega))
  have eo : ∀ s, s < n → ab_on z1 s = ab_on z s := fun s hs => ab_on_same (r _ (by omega) (by omega))
  refine ⟨⟨by rw [en]; exact r5, by rw [en]; omega⟩, fun j hj => ?_, fun s hs => ?_, ?_, p, o, by rw [r _ (by omega) (by omega)]; exact w1, by rw [r _ (by omega) (by omega)]; exact w2, w9, ?_⟩
  · obtain ⟨b1, b2, b3, b4, b5⟩ := vr j hj
    unfold InvRoom
    rw [en, eq j hj, r _ (by omega) (by omega), r (6 + 27 * j + 2) (by omega) (by omega), r (6 + 27 * j + 3) (by omega) (by omega), r (6 + 27 * j + 4) (by omega) (by omega), r (6 + 27 * j + 10) (by omega) (by omega)]
    refine ⟨b1, b2, ?_, b4, b5⟩
    rcases b3 with b3 | ⟨s, b3, b3'⟩
    · exact Or.inl b3
    · exact Or.inr ⟨s, b3, by omega⟩
  · rw [en] at hs
    unfold InvSeam
    by_cases e : s = n
    · subst e
      rw [c0, c1, c2, c3, c4, e0]
      exact ⟨⟨i, rfl, hi⟩, ⟨k, rfl, hk⟩, ⟨a, rfl, ha, by omega⟩, ⟨b, rfl, hb, hb3⟩, rfl, by omega⟩
    · rw [eo s (by omega), r _ (by omega) (by omega), r (168 + 24 * s + 1) (by omega) (by omega), r (168 + 24 * s + 2) (by omega) (by omega), r (168 + 24 * s + 3) (by omega) (by omega), r (168 + 24 * s + 4) (by omega) (by omega)]
      exact vs s (by omega)
  · rw [r _ (by omega) (by omega), v2]
    exact (ab_sum_congr (fun j hj => r _ (by omega) (by omega))).symm
  · have e2 : ab_nsum (ab_on z1) (n + 1) = ab_nsum (ab_on z1) n + ab_on z1 n := rfl
    rw [en, ab_nsum_congr eq, e2, ab_nsum_congr eo, e0]
    rw [hn] at wc
    omega
theorem ab_newSeam_ns {n : Nat} {x y u w : Int32} (hn : ab_ns z = n) (h8 : n < 8) : ab_ns (newSeamZ z x y u w) = n + 1 := by
  unfold ab_ns newSeamZ
  rw [hn]
  simp (disch := first | assumption | exact id rfl | omega | exact ab_dK (by assumption) | exact ab_dL (by assumption) (by omega) | exact ab_dI (by assumption) (by omega) (by omega) | exact ab_dIs (by assumption) (by omega) (by omega) | exact ab_isA_rf _ | exact nI_ne0 (by omega) (by omega) | exact Nat.le_of_ble_eq_true rfl | exact ab_dA (by assumption) (by omega) (by omega) (by omega) | exact id (Or.inl rfl) | exact id (Or.inr rfl) | exact ab_b01 | exact ab_dJ (by assumption) (by omega) (by omega) | exact ab_dI6 (by assumption) (by omega) (by omega) | fail) only [ab_upd_ne, ab_upd_eq]
  exact ab_nclamp (by omega)
theorem InvZ.addSeam (v : InvZ z) {n i k a b : Nat} (hn : ab_ns z = n) (h8 : n < 8) (hi : i < 6) (hk : k < 6) (ha : a ≤ 6) (hb : 1 ≤ b) (hb3 : b ≤ 3) : InvZ (addSeamZ z i k (nI a) (nI b)) := by
  have v1 := v.newSeam hn h8 hi hk ha hb hb3
  unfold addSeamZ
  split
  · refine InvZ_setR v1 hi (by omega) ⟨fun h => by omega, fun h => by omega, fun _ => Or.inr ⟨n, by rw [hn], ?_⟩⟩
    rw [ab_newSeam_ns hn h8]
    omega
  · exact v1
end AbInv2
