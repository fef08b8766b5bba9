/-! How often a number stands in queues and on seams: ticks never make more of it. -/
section AbOcc
variable {z z' z1 : Nat → Int32} {x : Int32}
def ab_ind (a x : Int32) : Nat := if decide (a = x) = true then 1 else 0
def ab_occR (z : Nat → Int32) (x : Int32) (i : Nat) : Nat := ab_cnt (fun k => decide (z (6 + 27 * i + (11 + 2 * k)) = x)) (ab_q z i)
def ab_occS (z : Nat → Int32) (x : Int32) (s : Nat) : Nat := ab_cnt (fun k => decide (z (168 + 24 * s + (6 + 3 * k)) = x)) (ab_on z s)
def ab_occ (z : Nat → Int32) (x : Int32) : Nat := ab_nsum (ab_occR z x) 6 + ab_nsum (ab_occS z x) (ab_ns z)
theorem ab_cnt_shift (p : Nat → Bool) : ∀ n, ab_cnt p (n + 1) = (if p 0 = true then 1 else 0) + ab_cnt (fun k => p (k + 1)) n := by
  intro n
  induction n with
  | zero => simp only [ab_cnt]; omega
  | succ n ih =>
    have e1 : ab_cnt p (n + 1 + 1) = ab_cnt p (n + 1) + (if p (n + 1) = true then 1 else 0) := rfl
    have e2 : ab_cnt (fun k => p (k + 1)) (n + 1) = ab_cnt (fun k => p (k + 1)) n + (if p (n + 1) = true then 1 else 0) := rfl
    rw [e1, e2, ih]
    omega
theorem ab_occR_same {i : Nat} (hq : z' (6 + 27 * i + 4) = z (6 + 27 * i + 4)) (hz : ∀ k, k < ab_q z i → z' (6 + 27 * i + (11 + 2 * k)) = z (6 + 27 * i + (11 + 2 * k))) : ab_occR z' x i = ab_occR z x i := by
  unfold ab_occR
  rw [ab_q_same hq]
  exact ab_cnt_congr (fun k hk => by rw [hz k hk])
theorem ab_occS_same {s : Nat} (hq : z' (168 + 24 * s + 4) = z (168 + 24 * s + 4)) (hz : ∀ k, k < ab_on z s → z' (168 + 24 * s + (6 + 3 * k)) = z (168 + 24 * s + (6 + 3 * k))) : ab_occS z' x s = ab_occS z x s := by
  unfold ab_occS
  rw [ab_on_same hq]
  exact ab_cnt_congr (fun k hk => by rw [hz k hk])
theorem ab_occ_same (h5 : z' 5 = z 5) (hR : ∀ i, i < 6 → z' (6 + 27 * i + 4) = z (6 + 27 * i + 4) ∧ ∀ k, k < ab_q z i → z' (6 + 27 * i + (11 + 2 * k)) = z (6 + 27 * i + (11 + 2 * k))) (hS : ∀ s, s < ab_ns z → z' (168 + 24 * s + 4) = z (168 + 24 * s + 4) ∧ ∀ k, k < ab_on z s → z' (168 + 24 * s + (6 + 3 * k)) = z (168 + 24 * s + (6 + 3 * k))) : ab_occ z' x = ab_occ z x := by
  unfold ab_occ
  rw [ab_ns_same h5, ab_nsum_congr (fun i hi => ab_occR_same (hR i hi).1 (hR i hi).2), ab_nsum_congr (fun s hs => ab_occS_same (hS s hs).1 (hS s hs).2)]
theorem ab_occ_leave {i : Nat} (hi : i < 6) (hl : ∀ k, k < 6 → ab_q z k ≤ 8) (h0 : 0 < ab_q z i) : ab_occ (leaveZ z i) x + ab_ind (z (6 + 27 * i + 11)) x = ab_occ z x := by
  have h8 := hl i hi
  have e : ∀ j, j ≠ 6 + 27 * i + 4 → j < 6 + 27 * i + 11 ∨ 6 + 27 * i + 27 ≤ j → leaveZ z i j = z j := fun j h1 h2 => ab_leave_off h8 hi h1 h2
  obtain ⟨n, hn⟩ : ∃ n, ab_q z i = n + 1 := ⟨ab_q z i - 1, by omega⟩
  have hq' : ab_q (leaveZ z i) i = n := by
    have : ab_q (leaveZ z i) i = (leaveZ z i (6 + 27 * i + 4)).toNatClampNeg := rfl
    rw [this, ab_leave_len rfl, hn, ab_nclamp (by omega)]
    omega
  have hR : ab_occR (leaveZ z i) x i + ab_ind (z (6 + 27 * i + 11)) x = ab_occR z x i := by
    unfold ab_occR
    rw [hq', hn, ab_cnt_shift]
    have hc : ab_cnt (fun k => decide (leaveZ z i (6 + 27 * i + (11 + 2 * k)) = x)) n = ab_cnt (fun k => decide (z (6 + 27 * i + (11 + 2 * (k + 1))) = x)) n := ab_cnt_congr (fun k hk => by
      rw [ab_leave_cell (by omega), show 6 + 27 * i + (11 + 2 * k) + 2 = 6 + 27 * i + (11 + 2 * (k + 1)) by omega])
    rw [hc]
    unfold ab_ind
    rw [show 6 + 27 * i + (11 + 2 * 0) = 6 + 27 * i + 11 by omega]
    omega
  have h1 := ab_nsum_one (p := ab_occR z x) (p' := ab_occR (leaveZ z i) x) (i := i) (n := 6) hi (fun k hk hki => ab_occR_same (e _ (by omega) (by omega)) (fun j hj => by
    have := hl k hk
    exact e _ (by omega) (by omega)))
  have h2 : ab_nsum (ab_occS (leaveZ z i) x) (ab_ns z) = ab_nsum (ab_occS z x) (ab_ns z) := ab_nsum_congr (fun s hs => ab_occS_same (e _ (by omega) (by omega)) (fun j hj => e _ (by omega) (by omega)))
  unfold ab_occ
  rw [ab_ns_same (e 5 (by omega) (by omega)), h2]
  omega
theorem ab_occ_drop {i : Nat} (hi : i < ab_ns z) (h6 : ab_on z i ≤ 6) (hl : ∀ s, s < ab_ns z → ab_on z s ≤ 6) (hq8 : ∀ k, k < 6 → ab_q z k ≤ 8) (h0 : 0 < ab_on z i) : ab_occ (dropZ z i) x + ab_ind (z (168 + 24 * i + 6)) x = ab_occ z x := by
  have e : ∀ j, j ≠ 168 + 24 * i + 4 → j < 168 + 24 * i + 6 ∨ 168 + 24 * i + 24 ≤ j → dropZ z i j = z j := fun j h1 h2 => ab_drop_off h6 h1 h2
  obtain ⟨n, hn⟩ : ∃ n, ab_on z i = n + 1 := ⟨ab_on z i - 1, by omega⟩
  have hq' : ab_on (dropZ z i) i = n := by
    have : ab_on (dropZ z i) i = (dropZ z i (168 + 24 * i + 4)).toNatClampNeg := rfl
    rw [this, ab_drop_len rfl, hn, ab_nclamp (by omega)]
    omega
  have hR : ab_occS (dropZ z i) x i + ab_ind (z (168 + 24 * i + 6)) x = ab_occS z x i := by
    unfold ab_occS
    rw [hq', hn, ab_cnt_shift]
    have hc : ab_cnt (fun k => decide (dropZ z i (168 + 24 * i + (6 + 3 * k)) = x)) n = ab_cnt (fun k => decide (z (168 + 24 * i + (6 + 3 * (k + 1))) = x)) n := ab_cnt_congr (fun k hk => by
      rw [ab_drop_cell (by omega), show 168 + 24 * i + (6 + 3 * k) + 3 = 168 + 24 * i + (6 + 3 * (k + 1)) by omega])
    rw [hc]
    unfold ab_ind
    rw [show 168 + 24 * i + (6 + 3 * 0) = 168 + 24 * i + 6 by omega]
    omega
  have h1 := ab_nsum_one (p := ab_occS z x) (p' := ab_occS (dropZ z i) x) (i := i) (n := ab_ns z) hi (fun k hk hki => ab_occS_same (e _ (by omega) (by omega)) (fun j hj => by
    have := hl k hk
    exact e _ (by omega) (by omega)))
  have h2 : ab_nsum (ab_occR (dropZ z i) x) 6 = ab_nsum (ab_occR z x) 6 := ab_nsum_congr (fun s hs => ab_occR_same (e _ (by omega) (by omega)) (fun j hj => by
    have := hq8 s hs
    exact e _ (by omega) (by omega)))
  unfold ab_occ
  rw [ab_ns_same (e 5 (by omega) (by omega)), h2]
  omega
theorem ab_occ_enter {i : Nat} {a y : Int32} (hi : i < 6) (h8 : ab_q z i < 8) (hl : ∀ k, k < 6 → ab_q z k ≤ 8) : ab_occ (enterZ z i a y) x = ab_occ z x + ab_ind a x := by
  have e : ∀ j, j ≠ 6 + 27 * i + 4 → j < 6 + 27 * i + (11 + 2 * ab_q z i) ∨ 6 + 27 * i + 27 ≤ j → enterZ z i a y j = z j := fun j h1 h2 => by
    unfold enterZ
    rw [ab_upd_ne (by omega), ab_upd_ne (by omega), ab_upd_ne (by omega)]
  have hq' : ab_q (enterZ z i a y) i = ab_q z i + 1 := by
    have : ab_q (enterZ z i a y) i = (enterZ z i a y (6 + 27 * i + 4)).toNatClampNeg := rfl
    rw [this]
    unfold enterZ
    rw [ab_upd_eq rfl, ab_nclamp (by omega)]
  have hR : ab_occR (enterZ z i a y) x i = ab_occR z x i + ab_ind a x := by
    unfold ab_occR
    rw [hq']
    have hc : ab_cnt (fun k => decide (enterZ z i a y (6 + 27 * i + (11 + 2 * k)) = x)) (ab_q z i) = ab_cnt (fun k => decide (z (6 + 27 * i + (11 + 2 * k)) = x)) (ab_q z i) := ab_cnt_congr (fun k hk => by rw [e _ (by omega) (by omega)])
    have ha : enterZ z i a y (6 + 27 * i + (11 + 2 * ab_q z i)) = a := by
      unfold enterZ
      rw [ab_upd_ne (by omega), ab_upd_ne (by omega), ab_upd_eq rfl]
    simp only [ab_cnt, hc, ha]
    rfl
  have h1 := ab_nsum_one (p := ab_occR z x) (p' := ab_occR (enterZ z i a y) x) (i := i) (n := 6) hi (fun k hk hki => ab_occR_same (e _ (by omega) (by omega)) (fun j hj => by
    have := hl k hk
    exact e _ (by omega) (by omega)))
  have h2 : ab_nsum (ab_occS (enterZ z i a y) x) (ab_ns z) = ab_nsum (ab_occS z x) (ab_ns z) := ab_nsum_congr (fun s hs => ab_occS_same (e _ (by omega) (by omega)) (fun j hj => e _ (by omega) (by omega)))
  unfold ab_occ
  rw [ab_ns_same (e 5 (by omega) (by omega)), h2]
  omega
theorem ab_occ_senter {i : Nat} {a y : Int32} (hi : i < ab_ns z) (h6 : ab_on z i < 6) (hl : ∀ s, s < ab_ns z → ab_on z s ≤ 6) (hq8 : ∀ k, k < 6 → ab_q z k ≤ 8) : ab_occ (senterZ z i a y) x = ab_occ z x + ab_ind a x := by
  have e : ∀ j, j ≠ 168 + 24 * i + 4 → j < 168 + 24 * i + (6 + 3 * ab_on z i) ∨ 168 + 24 * i + 24 ≤ j → senterZ z i a y j = z j := fun j h1 h2 => by
    unfold senterZ
    rw [ab_upd_ne (by omega), ab_upd_ne (by omega), ab_upd_ne (by omega), ab_upd_ne (by omega)]
  have hq' : ab_on (senterZ z i a y) i = ab_on z i + 1 := by
    have : ab_on (senterZ z i a y) i = (senterZ z i a y (168 + 24 * i + 4)).toNatClampNeg := rfl
    rw [this]
    unfold senterZ
    rw [ab_upd_eq rfl, ab_nclamp (by omega)]
  have hR : ab_occS (senterZ z i a y) x i = ab_occS z x i + ab_ind a x := by
    unfold ab_occS
    rw [hq']
    have hc : ab_cnt (fun k => decide (senterZ z i a y (168 + 24 * i + (6 + 3 * k)) = x)) (ab_on z i) = ab_cnt (fun k => decide (z (168 + 24 * i + (6 + 3 * k)) = x)) (ab_on z i) := ab_cnt_congr (fun k hk => by rw [e _ (by omega) (by omega)])
    have ha : senterZ z i a y (168 + 24 * i + (6 + 3 * ab_on z i)) = a := by
      unfold senterZ
      rw [ab_upd_ne (by omega), ab_upd_ne (by omega), ab_upd_ne (by omega), ab_upd_eq rfl]
    simp only [ab_cnt, hc, ha]
    rfl
  have h1 := ab_nsum_one (p := ab_occS z x) (p' := ab_occS (senterZ z i a y) x) (i := i) (n := ab_ns z) hi (fun k hk hki => ab_occS_same (e _ (by omega) (by omega)) (fun j hj => by
    have := hl k hk
    exact e _ (by omega) (by omega)))
  have h2 : ab_nsum (ab_occR (senterZ z i a y) x) 6 = ab_nsum (ab_occR z x) 6 := ab_nsum_congr (fun s hs => ab_occR_same (e _ (by omega) (by omega)) (fun j hj => by
    have := hq8 s hs
    exact e _ (by omega) (by omega)))
  unfold ab_occ
  rw [ab_ns_same (e 5 (by omega) (by omega)), h2]
  omega
theorem InvZ.q8 (v : InvZ z) {k : Nat} (hk : k < 6) : ab_q z k ≤ 8 := (ab_q_eq v hk).2
theorem InvZ.o6 (v : InvZ z) {s : Nat} (hs : s < ab_ns z) : ab_on z s ≤ 6 := (v.2.2.1 s hs).2.2.2.2.2
set_option maxHeartbeats 4000000 in
theorem ab_occ_hand (v : InvZ z) {i : Nat} (hi : i < 6) : ab_occ (handZ z i) x ≤ ab_occ z x := by
  have hq8 := v.q8 hi
  have hn8 := v.1.2
  unfold handZ
  by_cases hq : ab_q z i = 0
  · rw [if_pos hq]; exact Nat.le_refl _
  · rw [if_neg hq]
    rcases (v.2.1 i hi).2.2.1 with hr1 | ⟨s, hr1, hsn⟩
    · rw [if_pos hr1]
      obtain ⟨z1, hz1⟩ : ∃ z1, z1 = upd (upd (upd (upd (upd z (6 + 27 * i + 8) (z (6 + 27 * i + 8) + nI 1)) (6 + 27 * i + 9) (z (6 + 27 * i + (11 + 1)))) 2 (z 2 + nI 1)) 3 (z 3 + z (6 + 27 * i + (11 + 1)))) 4 (z (6 + 27 * i + 11)) := ⟨_, rfl⟩
      rw [← hz1]
      have r : ∀ j, j ≠ 6 + 27 * i + 8 → j ≠ 6 + 27 * i + 9 → j ≠ 2 → j ≠ 3 → j ≠ 4 → z1 j = z j := fun j h1 h2 h3 h4 h5 => by
        rw [hz1, ab_upd_ne h5, ab_upd_ne h4, ab_upd_ne h3, ab_upd_ne h2, ab_upd_ne h1]
      have hq1 : ab_q z1 i = ab_q z i := ab_q_same (r _ (by omega) (by omega) (by omega) (by omega) (by omega))
      have h1 := ab_occ_leave (z := z1) (x := x) hi (fun k hk => by
        rw [ab_q_same (r _ (by omega) (by omega) (by omega) (by omega) (by omega))]
        exact v.q8 hk) (by omega)
      have h2 : ab_occ z1 x = ab_occ z x := ab_occ_same (r _ (by omega) (by omega) (by omega) (by omega) (by omega)) (fun k hk => ⟨r _ (by omega) (by omega) (by omega) (by omega) (by omega), fun j hj => by
        have := v.q8 hk
        exact r _ (by omega) (by omega) (by omega) (by omega) (by omega)⟩) (fun t ht => ⟨r _ (by omega) (by omega) (by omega) (by omega) (by omega), fun j hj => r _ (by omega) (by omega) (by omega) (by omega) (by omega)⟩)
      omega
    · rw [if_neg (by rw [hr1, ab_nm1 (by omega)]; exact fun h => h)]
      simp only [hr1, ab_nclamp (show s < 2147483648 by omega)]
      obtain ⟨-, -, ⟨sz, hsz, hsz6, hsz7⟩, -, ho4, ho6⟩ := v.2.2.1 s hsn
      by_cases hfull : z (168 + 24 * s + 4) < z (168 + 24 * s + 2)
      · rw [if_pos hfull]
        have hfull' : ab_on z s < sz := by rw [ho4, hsz, ab_nlt (by omega) (by omega)] at hfull; exact hfull
        obtain ⟨z0, hz0⟩ : ∃ z0, z0 = senterZ z s (z (6 + 27 * i + 11)) (z (6 + 27 * i + (11 + 1))) := ⟨_, rfl⟩
        obtain ⟨z1, hz1⟩ : ∃ z1, z1 = upd z0 (168 + 24 * s + 5) (z (168 + 24 * s + 5) + nI 1) := ⟨_, rfl⟩
        have hgoal : upd (upd (upd (upd (upd z (168 + 24 * s + (6 + 3 * ab_on z s)) (z (6 + 27 * i + 11))) (168 + 24 * s + (6 + 3 * ab_on z s + 1)) (z (6 + 27 * i + (11 + 1)))) (168 + 24 * s + (6 + 3 * ab_on z s + 2)) (nI 0)) (168 + 24 * s + 4) (nI (ab_on z s + 1))) (168 + 24 * s + 5) (z (168 + 24 * s + 5) + nI 1) = z1 := by
          rw [hz1, hz0]
          rfl
        rw [hgoal]
        have r0 : ∀ j, j < 168 → z0 j = z j := fun j hj => by
          rw [hz0]
          unfold senterZ
          rw [ab_upd_ne (by omega), ab_upd_ne (by omega), ab_upd_ne (by omega), ab_upd_ne (by omega)]
        have r1 : ∀ j, j ≠ 168 + 24 * s + 5 → z1 j = z0 j := fun j hj => by rw [hz1, ab_upd_ne hj]
        have hq1 : ab_q z1 i = ab_q z i := ab_q_same ((r1 _ (by omega)).trans (r0 _ (by omega)))
        have h1 := ab_occ_leave (z := z1) (x := x) hi (fun k hk => by
          rw [ab_q_same ((r1 _ (by omega)).trans (r0 _ (by omega)))]
          exact v.q8 hk) (by omega)
        have h2 : ab_occ z1 x = ab_occ z0 x := ab_occ_same (r1 _ (by omega)) (fun k hk => ⟨r1 _ (by omega), fun j hj => by
          have := v.q8 hk
          have e : ab_q z0 k = ab_q z k := ab_q_same (r0 _ (by omega))
          exact r1 _ (by omega)⟩) (fun t ht => ⟨r1 _ (by omega), fun j hj => r1 _ (by omega)⟩)
        have h3 : ab_occ z0 x = ab_occ z x + ab_ind (z (6 + 27 * i + 11)) x := by
          rw [hz0]
          exact ab_occ_senter hsn (by omega) (fun t ht => v.o6 ht) (fun k hk => v.q8 hk)
        have h4 : z1 (6 + 27 * i + 11) = z (6 + 27 * i + 11) := (r1 _ (by omega)).trans (r0 _ (by omega))
        rw [h4] at h1
        omega
      · rw [if_neg hfull]
        refine Nat.le_of_eq (ab_occ_same (ab_upd_ne (by omega)) (fun k hk => ⟨ab_upd_ne (by omega), fun j hj => ab_upd_ne (by have := v.q8 hk; omega)⟩) (fun t ht => ⟨ab_upd_ne (by omega), fun j hj => ab_upd_ne (by omega)⟩))
theorem ab_occ_grow (v : InvZ z) {i n : Nat} : ab_occ (growZ z i n) x = ab_occ z x := by
  refine ab_occ_same (ab_growZ_low (by omega)) (fun k hk => ⟨ab_growZ_low (by omega), fun j hj => ab_growZ_low (by have := v.q8 hk; omega)⟩) (fun t ht => ⟨ab_growZ_head (by omega), fun j hj => ?_⟩)
  unfold growZ
  rw [if_neg (by omega)]
set_option maxHeartbeats 4000000 in
theorem ab_occ_take (v : InvZ z) {i : Nat} (hi : i < 6) : ab_occ (takeZ z i) x = ab_occ z x := by
  have hq8 := v.q8 hi
  have hn8 := v.1.2
  unfold takeZ
  by_cases hq : ab_q z i = 8
  · rw [if_pos hq]
  · rw [if_neg hq]
    rcases ab_pick_or (z := z) (i := i) with hpk | ⟨s, hpk, hsn, hrip⟩
    · rw [if_pos hpk]
    · rw [if_neg (by rw [hpk, ab_nm1 (by omega)]; exact fun h => h), hpk, ab_nclamp (show s < 2147483648 by omega)]
      have ho := ab_ripe_on hrip
      obtain ⟨z0, hz0⟩ : ∃ z0, z0 = enterZ z i (z (168 + 24 * s + 6)) (z (168 + 24 * s + (6 + 1))) := ⟨_, rfl⟩
      obtain ⟨z1, hz1⟩ : ∃ z1, z1 = upd z0 (6 + 27 * i + 10) (nI s) := ⟨_, rfl⟩
      rw [← hz0, ← hz1]
      have r0 : ∀ j, j < 6 ∨ 168 ≤ j → z0 j = z j := fun j hj => by
        rw [hz0]
        unfold enterZ
        rw [ab_upd_ne (by omega), ab_upd_ne (by omega), ab_upd_ne (by omega)]
      have r1 : ∀ j, j ≠ 6 + 27 * i + 10 → z1 j = z0 j := fun j hj => by rw [hz1, ab_upd_ne hj]
      have en0 : ab_ns z0 = ab_ns z := ab_ns_same (r0 _ (by omega))
      have en : ab_ns z1 = ab_ns z := ab_ns_same ((r1 _ (by omega)).trans (r0 _ (by omega)))
      have eo : ∀ t, ab_on z1 t = ab_on z t := fun t => ab_on_same ((r1 _ (by omega)).trans (r0 _ (by omega)))
      have eq0 : ∀ k, k < 6 → k ≠ i → ab_q z0 k = ab_q z k := fun k hk hki => ab_q_same (by rw [hz0]; unfold enterZ; rw [ab_upd_ne (by omega), ab_upd_ne (by omega), ab_upd_ne (by omega)])
      have eqi : ab_q z0 i = ab_q z i + 1 := by
        have : ab_q z0 i = (z0 (6 + 27 * i + 4)).toNatClampNeg := rfl
        rw [this, hz0]
        unfold enterZ
        rw [ab_upd_eq rfl, ab_nclamp (by omega)]
      have h2 : ab_occ z1 x = ab_occ z0 x := ab_occ_same (r1 _ (by omega)) (fun k hk => ⟨r1 _ (by omega), fun j hj => by
        have h8 : ab_q z0 k ≤ 8 := by
          by_cases hki : k = i
          · rw [hki, eqi]; omega
          · rw [eq0 k hk hki]; exact v.q8 hk
        exact r1 _ (by omega)⟩) (fun t ht => ⟨r1 _ (by omega), fun j hj => r1 _ (by omega)⟩)
      have hq08 : ∀ k, k < 6 → ab_q z0 k ≤ 8 := fun k hk => by
        by_cases hki : k = i
        · rw [hki, eqi]; omega
        · rw [eq0 k hk hki]; exact v.q8 hk
      have h1 := ab_occ_drop (z := z1) (x := x) (i := s) (by omega) (by rw [eo]; exact v.o6 hsn) (fun t ht => by rw [eo]; exact v.o6 (by omega)) (fun k hk => by
        rw [ab_q_same (r1 _ (by omega))]
        exact hq08 k hk) (by rw [eo]; exact ho)
      have h3 : ab_occ z0 x = ab_occ z x + ab_ind (z (168 + 24 * s + 6)) x := by
        rw [hz0]
        exact ab_occ_enter hi (by omega) (fun k hk => v.q8 hk)
      have h4 : z1 (168 + 24 * s + 6) = z (168 + 24 * s + 6) := (r1 _ (by omega)).trans (r0 _ (by omega))
      rw [h4] at h1
      omega
theorem ab_occ_set {c : Nat} {y : Int32} (v : InvZ z) (hc : c < 168) (h5 : c ≠ 5) (hR : ∀ i, i < 6 → c ≠ 6 + 27 * i + 4 ∧ (c < 6 + 27 * i + 11 ∨ 6 + 27 * i + 27 ≤ c)) : ab_occ (upd z c y) x = ab_occ z x :=
  ab_occ_same (ab_upd_ne (by omega)) (fun k hk => ⟨ab_upd_ne (by have := (hR k hk).1; omega), fun j hj => ab_upd_ne (by have := v.q8 hk; have := (hR k hk).2; omega)⟩) (fun t ht => ⟨ab_upd_ne (by omega), fun j hj => ab_upd_ne (by omega)⟩)
theorem ab_occ_beat (v : InvZ z) {i : Nat} (hi : i < 6) : ab_occ (beatZ z i) x ≤ ab_occ z x := by
  unfold beatZ
  split
  · split
    · have v1 : InvZ (upd z (6 + 27 * i + 5) (z (6 + 27 * i + 5) - nI 1)) := v.upd (Or.inr (Or.inr (Or.inr ⟨i, hi, by omega⟩)))
      rw [ab_occ_set v1 (by omega) (by omega) (fun k hk => by omega), ab_occ_set v (by omega) (by omega) (fun k hk => by omega)]
      exact Nat.le_refl _
    · rw [ab_occ_take ((v.hand hi).grow) hi, ab_occ_grow (v.hand hi)]
      exact ab_occ_hand v hi
  · exact Nat.le_refl _
theorem ab_occ_rooms (v : InvZ z) : ∀ n, n ≤ 6 → ab_occ (roomsZ z n) x ≤ ab_occ z x := by
  intro n
  induction n with
  | zero => intro _; exact Nat.le_refl _
  | succ n ih =>
    intro hn
    exact Nat.le_trans (ab_occ_beat (v.rooms n (by omega)) (by omega)) (ih (by omega))
theorem ab_occ_tick (v : InvZ z) : ab_occ (tickZ z) x ≤ ab_occ z x := by
  have e : ab_occ (tickZ z) x = ab_occ (roomsZ z 6) x := ab_occ_set (v.rooms 6 (by omega)) (by omega) (by omega) (fun k hk => by omega)
  rw [e]
  exact ab_occ_rooms v 6 (by omega)
theorem ab_occ_ticks (v : InvZ z) : ∀ n, ab_occ (ticksZ z n) x ≤ ab_occ z x := by
  intro n
  induction n with
  | zero => exact Nat.le_refl _
  | succ n ih => exact Nat.le_trans (ab_occ_tick (v.ticks n)) ih
theorem ab_any_cnt (p : Nat → Bool) : ∀ n, ab_any p n = true ↔ 0 < ab_cnt p n := by
  intro n
  induction n with
  | zero => exact ⟨fun h => (by cases h), fun h => absurd h (by simp only [ab_cnt]; omega)⟩
  | succ n ih =>
    simp only [ab_any, ab_cnt, Bool.or_eq_true]
    by_cases hp : p n = true
    · rw [if_pos hp]
      exact ⟨fun _ => by omega, fun _ => Or.inr hp⟩
    · rw [if_neg hp, Nat.add_zero, ← ih]
      exact ⟨fun h => h.resolve_right hp, Or.inl⟩
theorem ab_any_nsum {p : Nat → Bool} {q : Nat → Nat} : ∀ {n : Nat}, (∀ i, i < n → (p i = true ↔ 0 < q i)) → (ab_any p n = true ↔ 0 < ab_nsum q n) := by
  intro n
  induction n with
  | zero => intro _; exact ⟨fun h => (by cases h), fun h => absurd h (by simp only [ab_nsum]; omega)⟩
  | succ n ih =>
    intro h
    have h1 := ih (fun i hi => h i (by omega))
    have h2 := h n (by omega)
    simp only [ab_any, ab_nsum, Bool.or_eq_true]
    rw [h1, h2]
    omega
theorem ab_within_occ : ab_within z x = true ↔ 0 < ab_occ z x := by
  have h1 : ab_any (ab_inRoom z x) 6 = true ↔ 0 < ab_nsum (ab_occR z x) 6 := ab_any_nsum (fun i hi => ab_any_cnt _ _)
  have h2 : ab_any (ab_inSeam z x) (ab_ns z) = true ↔ 0 < ab_nsum (ab_occS z x) (ab_ns z) := ab_any_nsum (fun i hi => ab_any_cnt _ _)
  unfold ab_within ab_occ
  rw [Bool.or_eq_true, h1, h2]
  omega
/-! when an item is out -/
theorem ab_ticks_add (a : Nat) : ∀ b, ticksZ (ticksZ z a) b = ticksZ z (a + b) := by
  intro b
  induction b with
  | zero => rfl
  | succ b ih =>
    have e1 : ticksZ (ticksZ z a) (b + 1) = tickZ (ticksZ (ticksZ z a) b) := rfl
    have e2 : ticksZ z (a + (b + 1)) = tickZ (ticksZ z (a + b)) := rfl
    rw [e1, e2, ih]
theorem ab_gone (v : InvZ z) {m : Nat} (hm : ¬ ab_within (ticksZ z m) x = true) : ∀ j, m ≤ j → ¬ ab_within (ticksZ z j) x = true := by
  intro j hj
  obtain ⟨d, rfl⟩ : ∃ d, j = m + d := ⟨j - m, by omega⟩
  rw [← ab_ticks_add]
  rw [ab_within_occ] at hm ⊢
  have := ab_occ_ticks (x := x) (v.ticks m) d
  omega
theorem ab_oo_spec : ∀ c n, (ab_oo z x n c = -1 ∧ ∀ j, n ≤ j → j < n + c → ab_within (ticksZ z j) x = true) ∨ ∃ m, ab_oo z x n c = nI m ∧ n ≤ m ∧ m < n + c ∧ (¬ ab_within (ticksZ z m) x = true) ∧ ∀ j, n ≤ j → j < m → ab_within (ticksZ z j) x = true := by
  intro c
  induction c with
  | zero => intro n; exact Or.inl ⟨rfl, fun j h1 h2 => by omega⟩
  | succ c ih =>
    intro n
    have e : ab_oo z x n (c + 1) = if ab_within (ticksZ z n) x = true then ab_oo z x (n + 1) c else nI n := rfl
    by_cases hw : ab_within (ticksZ z n) x = true
    · rw [if_pos hw] at e
      rw [e]
      rcases ih (n + 1) with ⟨h1, h2⟩ | ⟨m, h1, h2, h3, h4, h5⟩
      · refine Or.inl ⟨h1, fun j j1 j2 => ?_⟩
        by_cases hj : j = n
        · rw [hj]; exact hw
        · exact h2 j (by omega) (by omega)
      · refine Or.inr ⟨m, h1, by omega, by omega, h4, fun j j1 j2 => ?_⟩
        by_cases hj : j = n
        · rw [hj]; exact hw
        · exact h5 j (by omega) (by omega)
    · rw [if_neg hw] at e
      exact Or.inr ⟨n, e, Nat.le_refl _, by omega, hw, fun j j1 j2 => by omega⟩
theorem ab_oo_zero : (ab_oo z x 0 301 = nI 0) = ¬ 0 < ab_occ z x := by
  rw [← ab_within_occ]
  apply propext
  rcases ab_oo_spec (z := z) (x := x) 301 0 with ⟨h1, h2⟩ | ⟨m, h1, h2, h3, h4, h5⟩
  · rw [h1]
    have h0 := h2 0 (by omega) (by omega)
    exact ⟨fun h => absurd h (by decide), fun h => absurd h0 h⟩
  · rw [h1, ab_neq (by omega) (by omega)]
    constructor
    · intro h
      rw [h] at h4
      exact h4
    · intro h
      by_cases hm : m = 0
      · exact hm
      · exact absurd (h5 0 (by omega) (by omega)) h
/-- what outIn answers t ticks later -/
theorem ab_oo_later (v : InvZ z) {t : Nat} (ht : t ≤ 300) : (ab_oo z x 0 301 = -1 ∧ (ab_oo (ticksZ z t) x 0 301 = -1 ∨ ∃ m, ab_oo (ticksZ z t) x 0 301 = nI m ∧ 300 - t < m ∧ m ≤ 300)) ∨ ∃ m, ab_oo z x 0 301 = nI m ∧ m ≤ 300 ∧ ab_oo (ticksZ z t) x 0 301 = nI (m - t) := by
  rcases ab_oo_spec (z := z) (x := x) 301 0 with ⟨h1, h2⟩ | ⟨m, h1, h2, h3, h4, h5⟩
  · refine Or.inl ⟨h1, ?_⟩
    rcases ab_oo_spec (z := ticksZ z t) (x := x) 301 0 with ⟨g1, g2⟩ | ⟨m, g1, g2, g3, g4, g5⟩
    · exact Or.inl g1
    · refine Or.inr ⟨m, g1, ?_, by omega⟩
      rw [ab_ticks_add] at g4
      by_cases hm : t + m ≤ 300
      · exact absurd (h2 (t + m) (by omega) (by omega)) g4
      · omega
  · refine Or.inr ⟨m, h1, by omega, ?_⟩
    rcases ab_oo_spec (z := ticksZ z t) (x := x) 301 0 with ⟨g1, g2⟩ | ⟨k, g1, g2, g3, g4, g5⟩
    · have h6 := g2 (m - t) (by omega) (by omega)
      rw [ab_ticks_add] at h6
      exact absurd h6 (ab_gone v h4 _ (by omega))
    · rw [g1]
      rw [ab_ticks_add] at g4
      congr 1
      by_cases hlt : k < m - t
      · exact absurd (h5 (t + k) (by omega) (by omega)) g4
      · by_cases hgt : m - t < k
        · have h6 := g5 (m - t) (by omega) hgt
          rw [ab_ticks_add] at h6
          exact absurd h6 (ab_gone v h4 _ (by omega))
        · omega
end AbOcc
