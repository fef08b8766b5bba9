/-! Items as a text are put: rows. -/
def ab_pz (z : Nat → Int32) (r v : Nat) : Nat → Nat → Int32
  | 0 => z
  | k + 1 => putZ (ab_pz z r v k) r (nI v)
def ab_P (z : Nat → Int32) : Nat := (z 1).toNatClampNeg
def ab_pr (tn : Nat) (cs : Nat → Nat) (i : Nat) : Nat := ab_code tn cs i - 48
def ab_nxp (tn : Nat) (cs : Nat → Nat) (i : Nat) : Nat := if ab_btw 48 57 (ab_code tn cs (i + 3)) = true then i + 4 else i + 3
def ab_pv (tn : Nat) (cs : Nat → Nat) (i : Nat) : Nat := if ab_btw 48 57 (ab_code tn cs (i + 3)) = true then 10 * (ab_code tn cs (i + 2) - 48) + (ab_code tn cs (i + 3) - 48) else ab_code tn cs (i + 2) - 48
def ab_pt (tn : Nat) (cs : Nat → Nat) (i : Nat) : Nat := if ab_code tn cs (ab_nxp tn cs i) = 42 then ab_code tn cs (ab_nxp tn cs i + 1) - 48 else 1
def ab_tz (z : Nat → Int32) (tn : Nat) (cs : Nat → Nat) : Nat → Nat → Int32
  | 0 => z
  | i + 1 => if ab_st cs i = 0 then ab_pz (ab_tz z tn cs i) (ab_pr tn cs i) (ab_pv tn cs i) (ab_pt tn cs i) else ab_tz z tn cs i
def ab_Cd (z : Nat → Int32) (tn : Nat) (cs : Nat → Nat) (i : Nat) : Prop := ab_q (ab_tz z tn cs i) (ab_pr tn cs i) + ab_pt tn cs i ≤ 8 ∧ ab_P (ab_tz z tn cs i) + ab_pt tn cs i ≤ 999
section AbPutsA
variable {z : Nat → Int32} {tn : Nat} {cs : Nat → Nat}
theorem ab_P_eq (v : InvZ z) : z 1 = nI (ab_P z) ∧ ab_P z ≤ 999 := by
  obtain ⟨p, o, y1, y2, y9, yc⟩ := v.2.2.2.2
  have e : ab_P z = p := by unfold ab_P; rw [y1]; exact ab_nclamp (by omega)
  rw [e]
  exact ⟨y1, y9⟩
theorem ab_put_q {i j : Nat} {x : Int32} (hi : i < 6) (hj : j < 6) (h8 : ab_q z i < 8) : ab_q (putZ z i x) j = ab_q z j + (if j = i then 1 else 0) := by
  by_cases e : j = i
  · subst e
    have r4 : putZ z j x (6 + 27 * j + 4) = nI (ab_q z j + 1) := by
      unfold putZ enterZ
      simp (disch := first | with_reducible assumption | exact ab_dK (by with_reducible assumption) | exact id rfl | exact Nat.le_of_ble_eq_true rfl | exact ab_dL (by with_reducible assumption) (by omega) | exact ab_dI (by with_reducible assumption) (by omega) (by omega) | exact ab_dI6 (by with_reducible assumption) (by omega) (by omega) | exact ab_dIs (by with_reducible assumption) (by omega) (by omega) | exact ab_dJ (by with_reducible assumption) (by omega) (by omega) | omega | exact ab_isA_rf _ | exact nI_ne0 (by omega) (by omega) | exact ab_dA (by with_reducible assumption) (by omega) (by omega) (by omega) | exact id (Or.inl rfl) | exact id (Or.inr rfl) | exact ab_b01 | fail) only [ab_upd_ne, ab_upd_eq]
    have e2 : ab_q (putZ z j x) j = (putZ z j x (6 + 27 * j + 4)).toNatClampNeg := rfl
    rw [if_pos rfl, e2, r4, ab_nclamp (by omega)]
  · rw [if_neg e]
    refine ab_q_same ?_
    unfold putZ enterZ
    simp (disch := first | with_reducible assumption | exact ab_dK (by with_reducible assumption) | exact id rfl | exact Nat.le_of_ble_eq_true rfl | exact ab_dL (by with_reducible assumption) (by omega) | exact ab_dI (by with_reducible assumption) (by omega) (by omega) | exact ab_dI6 (by with_reducible assumption) (by omega) (by omega) | exact ab_dIs (by with_reducible assumption) (by omega) (by omega) | exact ab_dJ (by with_reducible assumption) (by omega) (by omega) | omega | exact ab_isA_rf _ | exact nI_ne0 (by omega) (by omega) | exact ab_dA (by with_reducible assumption) (by omega) (by omega) (by omega) | exact id (Or.inl rfl) | exact id (Or.inr rfl) | exact ab_b01 | fail) only [ab_upd_ne]
theorem ab_put_P {i : Nat} {x : Int32} (v : InvZ z) (h9 : ab_P z < 999) : ab_P (putZ z i x) = ab_P z + 1 := by
  have e : putZ z i x 1 = nI (ab_P z + 1) := by
    unfold putZ
    rw [ab_upd_eq rfl, (ab_P_eq v).1]
    exact ab_nadd _ _
  have e2 : ab_P (putZ z i x) = (putZ z i x 1).toNatClampNeg := rfl
  rw [e2, e, ab_nclamp (by omega)]
theorem ab_pz_ok {r w : Nat} (v : InvZ z) (T : InvT z) (hr : r < 6) : ∀ k, ab_q z r + k ≤ 8 → ab_P z + k ≤ 999 → InvZ (ab_pz z r w k) ∧ InvT (ab_pz z r w k) ∧ (∀ j, j < 6 → ab_q (ab_pz z r w k) j = ab_q z j + (if j = r then k else 0)) ∧ ab_P (ab_pz z r w k) = ab_P z + k := by
  intro k
  induction k with
  | zero =>
    intro _ _
    refine ⟨v, T, fun j hj => ?_, rfl⟩
    show ab_q z j = _
    split <;> rfl
  | succ k ih =>
    intro h1 h2
    obtain ⟨v1, T1, q1, p1⟩ := ih (by omega) (by omega)
    have hq := q1 r hr
    rw [if_pos rfl] at hq
    have e : ab_pz z r w (k + 1) = putZ (ab_pz z r w k) r (nI w) := rfl
    rw [e]
    refine ⟨v1.put hr (by omega) (ab_P_eq v1).1 (by omega), InvT.put T1 v1 hr (by omega), fun j hj => ?_, ?_⟩
    · rw [ab_put_q hr hj (by omega), q1 j hj]
      by_cases hjr : j = r
      · rw [if_pos hjr, if_pos hjr, if_pos hjr]; omega
      · rw [if_neg hjr, if_neg hjr, if_neg hjr]
    · rw [ab_put_P v1 (by omega), p1]
      omega
theorem ab_tz_ok (v : InvZ z) (T : InvT z) (hr : ∀ j, j < tn → ab_st cs j = 0 → ab_pr tn cs j < 6) : ∀ i, i ≤ tn → (∀ j, j < i → ab_st cs j = 0 → ab_Cd z tn cs j) → InvZ (ab_tz z tn cs i) ∧ InvT (ab_tz z tn cs i) := by
  intro i
  induction i with
  | zero => intro _ _; exact ⟨v, T⟩
  | succ i ih =>
    intro hi hC
    obtain ⟨v1, T1⟩ := ih (by omega) (fun j hj => hC j (by omega))
    have e : ab_tz z tn cs (i + 1) = if ab_st cs i = 0 then ab_pz (ab_tz z tn cs i) (ab_pr tn cs i) (ab_pv tn cs i) (ab_pt tn cs i) else ab_tz z tn cs i := rfl
    rw [e]
    by_cases h0 : ab_st cs i = 0
    · rw [if_pos h0]
      have hc := hC i (by omega) h0
      have h := ab_pz_ok (w := ab_pv tn cs i) v1 T1 (hr i (by omega) h0) (ab_pt tn cs i) hc.1 hc.2
      exact ⟨h.1, h.2.1⟩
    · rw [if_neg h0]
      exact ⟨v1, T1⟩
/-! where parts begin -/
theorem ab_start {i : Nat} (h6 : ab_st cs i ≠ 7) (h7 : ab_st cs (i + 1) ≠ 7) : (ab_st cs (i + 1) = 0) = (cs i = 59) := by
  have hq := ab_st_lt cs i
  have e : ab_st cs (i + 1) = ab_sa (ab_st cs i) (cs i) := rfl
  rw [e] at h7 ⊢
  generalize ab_st cs i = q at *
  generalize cs i = c at *
  apply propext
  constructor
  · intro h0
    have hcc : q = 0 ∨ q = 1 ∨ q = 2 ∨ q = 3 ∨ q = 4 ∨ q = 5 ∨ q = 6 := by omega
    have hs : ab_sav c = 0 → c = 59 := by
      unfold ab_sav
      split
      · intro _; assumption
      · split <;> intro h9 <;> omega
    rcases hcc with rfl | rfl | rfl | rfl | rfl | rfl | rfl
    · rcases ab_sa_cases (by omega) h7 with h | h | h | h | h | h | h <;> omega
    · rcases ab_sa_cases (by omega) h7 with h | h | h | h | h | h | h <;> omega
    · rcases ab_sa_cases (by omega) h7 with h | h | h | h | h | h | h <;> omega
    · have e3 : ab_sa 3 c = if ab_btw 48 57 c = true then 4 else ab_sav c := rfl
      rw [e3] at h0
      split at h0
      · omega
      · exact hs h0
    · exact hs h0
    · rcases ab_sa_cases (by omega) h7 with h | h | h | h | h | h | h <;> omega
    · have e6 : ab_sa 6 c = if c = 59 then 0 else 7 := rfl
      rw [e6] at h0
      split at h0
      · assumption
      · omega
  · intro h59
    subst h59
    have hcc : q = 0 ∨ q = 1 ∨ q = 2 ∨ q = 3 ∨ q = 4 ∨ q = 5 ∨ q = 6 := by omega
    rcases hcc with rfl | rfl | rfl | rfl | rfl | rfl | rfl
    · exact absurd (by decide) h7
    · exact absurd (by decide) h7
    · exact absurd (by decide) h7
    · decide
    · decide
    · exact absurd (by decide) h7
    · decide
/-! the read array keeps what lies before -/
theorem ab_rd_low {q c T x : Nat} {A : Nat → Int32} (h : (q = 0 ∧ x < 3 * T) ∨ (q ≠ 0 ∧ 1 ≤ T ∧ x ≤ 3 * (T - 1))) : (ab_rd q c T A).2 x = A x := by
  unfold ab_rd
  by_cases h0 : q = 0
  · rw [if_pos h0]
    show upd (upd (upd A (3 * T) _) (3 * T + 1) _) (3 * T + 2) _ x = A x
    rw [ab_upd_ne (by omega), ab_upd_ne (by omega), ab_upd_ne (by omega)]
  · rw [if_neg h0]
    split
    · show upd A (3 * (T - 1) + 1) _ x = A x
      rw [ab_upd_ne (by omega)]
    · split
      · show upd A (3 * (T - 1) + 2) _ x = A x
        rw [ab_upd_ne (by omega)]
      · rfl
theorem ab_stab {A0 : Nat → Int32} {K i : Nat} (h0 : ab_st cs i = 0) (hT : (ab_rn cs A0 i).1 = K) : ∀ c, (∀ m, m ≤ i + c → ab_st cs m ≠ 7) → (∀ x, x < 3 * K → (ab_rn cs A0 (i + c)).2 x = (ab_rn cs A0 i).2 x) ∧ ((ab_st cs (i + c) = 0 ∧ K ≤ (ab_rn cs A0 (i + c)).1) ∨ (ab_st cs (i + c) ≠ 0 ∧ K + 1 ≤ (ab_rn cs A0 (i + c)).1)) := by
  intro c
  induction c with
  | zero => intro _; exact ⟨fun _ _ => rfl, Or.inl ⟨h0, Nat.le_of_eq hT.symm⟩⟩
  | succ c ih =>
    intro h7
    obtain ⟨a1, a2⟩ := ih (fun m hm => h7 m (by omega))
    have hlt := ab_st_lt cs (i + c)
    have hn7 := h7 (i + c) (by omega)
    have hn8 := h7 (i + (c + 1)) (by omega)
    have e : ab_rn cs A0 (i + (c + 1)) = ab_rd (ab_st cs (i + c)) (cs (i + c)) (ab_rn cs A0 (i + c)).1 (ab_rn cs A0 (i + c)).2 := rfl
    have e2 : ab_st cs (i + (c + 1)) = ab_sa (ab_st cs (i + c)) (cs (i + c)) := rfl
    rw [e2] at hn8
    rw [e, e2, ab_rd_T]
    refine ⟨fun x hx => (ab_rd_low (by omega)).trans (a1 x hx), ?_⟩
    rcases ab_sa_cases (by omega) hn8 with ⟨y1, y2⟩ | ⟨y1, y2⟩ | ⟨y1, y2⟩ | ⟨y1, y2⟩ | ⟨y1, y2⟩ | ⟨y1, y2⟩ | ⟨y1, y2⟩
    · rw [if_pos y1]; omega
    all_goals
      rw [if_neg (by omega)]
      omega
/-- a part of a whole text, and what the Model's array has of it in the end -/
theorem ab_tok {A0 : Nat → Int32} {j : Nat} (V7 : ∀ i, i ≤ tn → ab_st cs i ≠ 7) (Vf : ab_st cs tn = 3 ∨ ab_st cs tn = 4 ∨ ab_st cs tn = 6) (hj : j < tn) (h0 : ab_st cs j = 0) :
    (48 ≤ cs j ∧ cs j ≤ 53) ∧ j + 2 < tn ∧ (48 ≤ cs (j + 2) ∧ cs (j + 2) ≤ 57) ∧ (ab_code tn cs (ab_nxp tn cs j) = 42 → 50 ≤ ab_code tn cs (ab_nxp tn cs j + 1) ∧ ab_code tn cs (ab_nxp tn cs j + 1) ≤ 56) ∧
    (ab_rn cs A0 tn).2 (3 * (ab_rn cs A0 j).1) = nI (ab_pr tn cs j) ∧ (ab_rn cs A0 tn).2 (3 * (ab_rn cs A0 j).1 + 1) = nI (ab_pv tn cs j) ∧ (ab_rn cs A0 tn).2 (3 * (ab_rn cs A0 j).1 + 2) = nI (ab_pt tn cs j) := by
  obtain ⟨k, hk⟩ : ∃ k, k = (ab_rn cs A0 j).1 := ⟨_, rfl⟩
  have cd : ∀ i, i < tn → ab_code tn cs i = cs i := fun i hi => if_pos hi
  have S : ∀ i, ab_st cs (i + 1) = ab_sa (ab_st cs i) (cs i) := fun _ => rfl
  have R : ∀ i, ab_rn cs A0 (i + 1) = ab_rd (ab_st cs i) (cs i) (ab_rn cs A0 i).1 (ab_rn cs A0 i).2 := fun _ => rfl
  -- the room
  have a1 := V7 (j + 1) (by omega)
  rw [S, h0] at a1
  have c0 : 48 ≤ cs j ∧ cs j ≤ 53 := by
    by_cases hx : ab_btw 48 53 (cs j) = true
    · simp only [ab_btw, Bool.and_eq_true, decide_eq_true_eq] at hx
      exact hx
    · exact absurd (show ab_sa 0 (cs j) = 7 from if_neg hx) a1
  have s1 : ab_st cs (j + 1) = 1 := by
    rw [S, h0]
    rcases ab_sa_cases (by omega) a1 with h | h | h | h | h | h | h <;> omega
  have j1 : j + 1 < tn := by
    by_cases h : j + 1 = tn
    · rw [h] at s1; omega
    · omega
  have a2 := V7 (j + 2) (by omega)
  rw [S, s1] at a2
  have s2 : ab_st cs (j + 2) = 2 := by
    rw [S, s1]
    rcases ab_sa_cases (by omega) a2 with h | h | h | h | h | h | h <;> omega
  have j2 : j + 2 < tn := by
    by_cases h : j + 2 = tn
    · rw [h] at s2; omega
    · omega
  have a3 := V7 (j + 3) (by omega)
  rw [S, s2] at a3
  have c2 : 48 ≤ cs (j + 2) ∧ cs (j + 2) ≤ 57 := by
    have e : ab_sa 2 (cs (j + 2)) = if cs (j + 2) = 48 then 4 else if ab_btw 49 57 (cs (j + 2)) = true then 3 else 7 := rfl
    rw [e] at a3
    by_cases h48 : cs (j + 2) = 48
    · omega
    · rw [if_neg h48] at a3
      by_cases hx : ab_btw 49 57 (cs (j + 2)) = true
      · simp only [ab_btw, Bool.and_eq_true, decide_eq_true_eq] at hx
        omega
      · rw [if_neg hx] at a3
        exact absurd rfl a3
  have s3 : ab_st cs (j + 3) = 3 ∨ ab_st cs (j + 3) = 4 := by
    rw [S, s2]
    rcases ab_sa_cases (by omega) a3 with h | h | h | h | h | h | h <;> omega
  -- the array so far
  have r1 : ab_rn cs A0 (j + 1) = (k + 1, upd (upd (upd (ab_rn cs A0 j).2 (3 * k) (nI (cs j) - nI 48)) (3 * k + 1) (nI 0)) (3 * k + 2) (nI 1)) := by rw [R, h0, hk]; rfl
  have r2 : ab_rn cs A0 (j + 2) = ab_rn cs A0 (j + 1) := by rw [R, s1]; rfl
  have r3 : ab_rn cs A0 (j + 3) = (k + 1, upd (ab_rn cs A0 (j + 1)).2 (3 * k + 1) (nI 10 * (ab_rn cs A0 (j + 1)).2 (3 * k + 1) + nI (cs (j + 2)) - nI 48)) := by
    rw [R, s2, r2, r1]
    rfl
  have f3 : (ab_rn cs A0 (j + 3)).1 = k + 1 ∧ (ab_rn cs A0 (j + 3)).2 (3 * k) = nI (cs j - 48) ∧ (ab_rn cs A0 (j + 3)).2 (3 * k + 1) = nI (cs (j + 2) - 48) ∧ (ab_rn cs A0 (j + 3)).2 (3 * k + 2) = nI 1 := by
    have e1 : (ab_rn cs A0 (j + 1)).2 (3 * k + 1) = nI 0 := by
      rw [r1]
      show upd (upd (upd (ab_rn cs A0 j).2 (3 * k) (nI (cs j) - nI 48)) (3 * k + 1) (nI 0)) (3 * k + 2) (nI 1) (3 * k + 1) = nI 0
      rw [ab_upd_ne (by omega), ab_upd_eq rfl]
    rw [r3, e1]
    refine ⟨rfl, ?_, ?_, ?_⟩
    · show upd (ab_rn cs A0 (j + 1)).2 (3 * k + 1) _ (3 * k) = _
      rw [ab_upd_ne (by omega), r1]
      show upd (upd (upd (ab_rn cs A0 j).2 (3 * k) (nI (cs j) - nI 48)) (3 * k + 1) (nI 0)) (3 * k + 2) (nI 1) (3 * k) = _
      rw [ab_upd_ne (by omega), ab_upd_ne (by omega), ab_upd_eq rfl, ab_nsub c0.1]
    · show upd (ab_rn cs A0 (j + 1)).2 (3 * k + 1) _ (3 * k + 1) = _
      rw [ab_upd_eq rfl, ab_nmul, ab_nadd, show 10 * 0 + cs (j + 2) = cs (j + 2) by omega, ab_nsub c2.1]
    · show upd (ab_rn cs A0 (j + 1)).2 (3 * k + 1) _ (3 * k + 2) = _
      rw [ab_upd_ne (by omega), r1]
      show upd (upd (upd (ab_rn cs A0 j).2 (3 * k) (nI (cs j) - nI 48)) (3 * k + 1) (nI 0)) (3 * k + 2) (nI 1) (3 * k + 2) = _
      rw [ab_upd_eq rfl]
  -- the end of the value
  obtain ⟨e, he⟩ : ∃ e, e = ab_nxp tn cs j := ⟨_, rfl⟩
  have fe : e ≤ tn ∧ (ab_st cs e = 3 ∨ ab_st cs e = 4) ∧ (e < tn → ab_st cs e = 3 → ¬ ab_btw 48 57 (cs e) = true) ∧ (ab_rn cs A0 e).1 = k + 1 ∧ (ab_rn cs A0 e).2 (3 * k) = nI (cs j - 48) ∧ (ab_rn cs A0 e).2 (3 * k + 1) = nI (ab_pv tn cs j) ∧ (ab_rn cs A0 e).2 (3 * k + 2) = nI 1 := by
    by_cases hd : ab_btw 48 57 (ab_code tn cs (j + 3)) = true
    · have ee : e = j + 4 := by rw [he]; exact if_pos hd
      have ev : ab_pv tn cs j = 10 * (ab_code tn cs (j + 2) - 48) + (ab_code tn cs (j + 3) - 48) := if_pos hd
      have j3 : j + 3 < tn := by
        by_cases h : j + 3 < tn
        · exact h
        · have : ab_code tn cs (j + 3) = 0 := if_neg h
          rw [this] at hd
          exact absurd hd (by decide)
      rw [cd _ j3] at hd ev
      rw [cd _ j2] at ev
      have a4 := V7 (j + 4) (by omega)
      have hd' := hd
      simp only [ab_btw, Bool.and_eq_true, decide_eq_true_eq] at hd'
      have q3 : ab_st cs (j + 3) = 3 := by
        rcases s3 with h | h
        · exact h
        · rw [S, h] at a4
          have : ab_sa 4 (cs (j + 3)) = 7 := by
            show ab_sav (cs (j + 3)) = 7
            unfold ab_sav
            rw [if_neg (by omega), if_neg (by omega)]
          exact absurd this a4
      have s4 : ab_st cs (j + 4) = 4 := by
        rw [S, q3]
        exact if_pos hd
      have r4 : ab_rn cs A0 (j + 4) = (k + 1, upd (ab_rn cs A0 (j + 3)).2 (3 * k + 1) (nI 10 * (ab_rn cs A0 (j + 3)).2 (3 * k + 1) + nI (cs (j + 3)) - nI 48)) := by
        rw [R, q3]
        unfold ab_rd
        rw [if_neg (by omega), if_pos (Or.inr ⟨rfl, hd⟩), f3.1]
        rfl
      rw [ee, r4, f3.2.2.1, ev]
      refine ⟨by omega, Or.inr s4, fun _ h => by omega, rfl, ?_, ?_, ?_⟩
      · show upd (ab_rn cs A0 (j + 3)).2 (3 * k + 1) _ (3 * k) = _
        rw [ab_upd_ne (by omega), f3.2.1]
      · show upd (ab_rn cs A0 (j + 3)).2 (3 * k + 1) _ (3 * k + 1) = _
        rw [ab_upd_eq rfl, ab_nmul, ab_nadd, ab_nsub (by omega)]
        congr 1
        omega
      · show upd (ab_rn cs A0 (j + 3)).2 (3 * k + 1) _ (3 * k + 2) = _
        rw [ab_upd_ne (by omega), f3.2.2.2]
    · have ee : e = j + 3 := by rw [he]; exact if_neg hd
      have ev : ab_pv tn cs j = ab_code tn cs (j + 2) - 48 := if_neg hd
      rw [cd _ j2] at ev
      rw [ee, ev]
      refine ⟨by omega, s3, fun h _ => ?_, f3⟩
      rw [cd _ h] at hd
      exact hd
  obtain ⟨e1, e2, e3, e4, e5, e6, e7⟩ := fe
  have hpr : ab_pr tn cs j = cs j - 48 := by unfold ab_pr; rw [cd j hj]
  refine ⟨c0, j2, c2, ?_⟩
  rw [← he, hpr, ← hk]
  have hpt : ab_pt tn cs j = if ab_code tn cs e = 42 then ab_code tn cs (e + 1) - 48 else 1 := by unfold ab_pt; rw [← he]
  rw [hpt]
  by_cases het : e = tn
  · have c9 : ab_code tn cs e = 0 := if_neg (by omega)
    have hz : ab_rn cs A0 tn = ab_rn cs A0 e := by rw [het]
    rw [c9, if_neg (by omega), hz]
    exact ⟨fun h => absurd h (by omega), e5, e6, e7⟩
  · have hlt : e < tn := by omega
    rw [cd e hlt]
    have a5 := V7 (e + 1) (by omega)
    have hsa : ab_st cs (e + 1) = ab_sav (cs e) := by
      rw [S]
      rcases e2 with h | h
      · rw [h]
        exact if_neg (e3 hlt h)
      · rw [h]
        rfl
    have re : ab_rn cs A0 (e + 1) = ab_rn cs A0 e := by
      rw [R]
      unfold ab_rd
      rcases e2 with h | h
      · have h9 := e3 hlt h
        rw [h, if_neg (by omega), if_neg (by rintro (h8 | h8)
                                             · omega
                                             · exact h9 h8.2), if_neg (by omega)]
      · rw [h, if_neg (by omega), if_neg (by omega), if_neg (by omega)]
    by_cases h42 : cs e = 42
    · have s5 : ab_st cs (e + 1) = 5 := by rw [hsa, h42]; rfl
      have j5 : e + 1 < tn := by
        by_cases h : e + 1 = tn
        · rw [h] at s5; omega
        · omega
      have a6 := V7 (e + 2) (by omega)
      rw [S, s5] at a6
      have c5 : 50 ≤ cs (e + 1) ∧ cs (e + 1) ≤ 56 := by
        by_cases hx : ab_btw 50 56 (cs (e + 1)) = true
        · simp only [ab_btw, Bool.and_eq_true, decide_eq_true_eq] at hx
          exact hx
        · exact absurd (show ab_sa 5 (cs (e + 1)) = 7 from if_neg hx) a6
      have s6 : ab_st cs (e + 2) = 6 := by
        rw [S, s5]
        rcases ab_sa_cases (by omega) a6 with h | h | h | h | h | h | h <;> omega
      have r6 : ab_rn cs A0 (e + 2) = (k + 1, upd (ab_rn cs A0 e).2 (3 * k + 2) (nI (cs (e + 1)) - nI 48)) := by
        rw [R, s5, re, e4]
        rfl
      have f6 : (ab_rn cs A0 (e + 2)).2 (3 * k) = nI (cs j - 48) ∧ (ab_rn cs A0 (e + 2)).2 (3 * k + 1) = nI (ab_pv tn cs j) ∧ (ab_rn cs A0 (e + 2)).2 (3 * k + 2) = nI (cs (e + 1) - 48) := by
        rw [r6]
        refine ⟨?_, ?_, ?_⟩
        · show upd (ab_rn cs A0 e).2 (3 * k + 2) _ (3 * k) = _
          rw [ab_upd_ne (by omega), e5]
        · show upd (ab_rn cs A0 e).2 (3 * k + 2) _ (3 * k + 1) = _
          rw [ab_upd_ne (by omega), e6]
        · show upd (ab_rn cs A0 e).2 (3 * k + 2) _ (3 * k + 2) = _
          rw [ab_upd_eq rfl, ab_nsub (by omega)]
      rw [if_pos h42, cd _ j5]
      refine ⟨fun _ => c5, ?_⟩
      by_cases hend : e + 2 = tn
      · have hz : ab_rn cs A0 tn = ab_rn cs A0 (e + 2) := by rw [hend]
        rw [hz]
        exact f6
      · have a7 := V7 (e + 3) (by omega)
        rw [S, s6] at a7
        have s7 : ab_st cs (e + 3) = 0 := by
          rw [S, s6]
          rcases ab_sa_cases (by omega) a7 with h | h | h | h | h | h | h <;> omega
        have r7 : ab_rn cs A0 (e + 3) = ab_rn cs A0 (e + 2) := by rw [R, s6]; rfl
        have hst := (ab_stab (A0 := A0) (K := k + 1) s7 (by rw [r7, r6]) (tn - (e + 3)) (fun m hm => V7 m (by omega))).1
        rw [show e + 3 + (tn - (e + 3)) = tn by omega, r7] at hst
        rw [hst _ (by omega), hst _ (by omega), hst _ (by omega)]
        exact f6
    · rw [if_neg h42]
      refine ⟨fun h => absurd h h42, ?_⟩
      have h59 : cs e = 59 := by
        rw [hsa] at a5
        unfold ab_sav at a5
        by_cases h : cs e = 59
        · exact h
        · rw [if_neg h, if_neg h42] at a5
          exact absurd rfl a5
      have s5 : ab_st cs (e + 1) = 0 := by rw [hsa, h59]; rfl
      have hst := (ab_stab (A0 := A0) (K := k + 1) s5 (by rw [re, e4]) (tn - (e + 1)) (fun m hm => V7 m (by omega))).1
      rw [show e + 1 + (tn - (e + 1)) = tn by omega, re] at hst
      rw [hst _ (by omega), hst _ (by omega), hst _ (by omega)]
      exact ⟨e5, e6, e7⟩
/-- each token has its place -/
theorem ab_tok_at {A0 : Nat → Int32} : ∀ i k, k < (ab_rn cs A0 i).1 → ∃ j, j < i ∧ ab_st cs j = 0 ∧ (ab_rn cs A0 j).1 = k := by
  intro i
  induction i with
  | zero => intro k hk; exact absurd hk (by show ¬ k < 0; omega)
  | succ i ih =>
    intro k hk
    have e : (ab_rn cs A0 (i + 1)).1 = (ab_rd (ab_st cs i) (cs i) (ab_rn cs A0 i).1 (ab_rn cs A0 i).2).1 := rfl
    rw [e, ab_rd_T] at hk
    by_cases h0 : ab_st cs i = 0
    · rw [if_pos h0] at hk
      by_cases hki : k = (ab_rn cs A0 i).1
      · exact ⟨i, by omega, h0, hki.symm⟩
      · obtain ⟨j, h1, h2, h3⟩ := ih k (by omega)
        exact ⟨j, by omega, h2, h3⟩
    · rw [if_neg h0] at hk
      obtain ⟨j, h1, h2, h3⟩ := ih k hk
      exact ⟨j, by omega, h2, h3⟩
end AbPutsA
