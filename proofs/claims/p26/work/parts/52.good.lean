/-! Ages, hand-overs, waits and beats to lose, in every state of the run. -/
section AbGood
variable {z z' z1 : Nat → Int32} {x : Int32} {A E : Nat}
def ab_ag (z : Nat → Int32) (s k : Nat) : Nat := (z (168 + 24 * s + (6 + 3 * k + 2))).toNatClampNeg
def ab_cr (z : Nat → Int32) (s : Nat) : Nat := (z (168 + 24 * s + 3)).toNatClampNeg
def AgeOk (z : Nat → Int32) (s : Nat) : Prop := ∀ k, k < ab_on z s → z (168 + 24 * s + (6 + 3 * k + 2)) = nI (ab_ag z s k) ∧ ab_ag z s k ≤ (if k = 0 then ab_cr z s else ab_ag z s (k - 1))
def HandOk (z : Nat → Int32) (s A : Nat) : Prop := ∃ d, z (168 + 24 * s + 5) = nI d ∧ ab_on z s ≤ d ∧ d ≤ A
def WaitOk (z : Nat → Int32) (r A : Nat) : Prop := ∃ w, z (6 + 27 * r + 7) = nI w ∧ w ≤ A
def LoseOk (z : Nat → Int32) (r E : Nat) : Prop := ∃ w, z (6 + 27 * r + 5) = nI w ∧ w ≤ E
def Gd (z : Nat → Int32) (A E : Nat) : Prop := (∀ s, s < ab_ns z → AgeOk z s ∧ HandOk z s A) ∧ ∀ r, r < 6 → WaitOk z r A ∧ LoseOk z r E
theorem Gd.mono {A' E' : Nat} (g : Gd z A E) (hA : A ≤ A') (hE : E ≤ E') : Gd z A' E' := by
  refine ⟨fun s hs => ⟨(g.1 s hs).1, ?_⟩, fun r hr => ⟨?_, ?_⟩⟩
  · obtain ⟨d, d1, d2, d3⟩ := (g.1 s hs).2
    exact ⟨d, d1, d2, by omega⟩
  · obtain ⟨w, w1, w2⟩ := (g.2 r hr).1
    exact ⟨w, w1, by omega⟩
  · obtain ⟨w, w1, w2⟩ := (g.2 r hr).2
    exact ⟨w, w1, by omega⟩
theorem AgeOk.same {s : Nat} (a : AgeOk z s) (ho : ab_on z s ≤ 6) (hz : ∀ j, 168 + 24 * s ≤ j → j < 168 + 24 * s + 24 → z' j = z j) : AgeOk z' s := by
  have e1 : ab_on z' s = ab_on z s := ab_on_same (hz _ (by omega) (by omega))
  have e2 : ab_cr z' s = ab_cr z s := by unfold ab_cr; rw [hz _ (by omega) (by omega)]
  have e3 : ∀ k, k < 6 → ab_ag z' s k = ab_ag z s k := fun k hk => by unfold ab_ag; rw [hz _ (by omega) (by omega)]
  intro k hk
  rw [e1] at hk
  rw [e2, e3 k (by omega), e3 (k - 1) (by omega), hz _ (by omega) (by omega)]
  exact a k hk
theorem HandOk.same {s : Nat} (a : HandOk z s A) (hz : ∀ j, 168 + 24 * s ≤ j → j < 168 + 24 * s + 24 → z' j = z j) : HandOk z' s A := by
  obtain ⟨d, d1, d2, d3⟩ := a
  exact ⟨d, (hz _ (by omega) (by omega)).trans d1, by rw [ab_on_same (hz _ (by omega) (by omega))]; exact d2, d3⟩
/-- a change that none of it speaks of -/
theorem Gd.same (g : Gd z A E) (v : InvZ z) (h5 : z' 5 = z 5) (hS : ∀ j, 168 ≤ j → z' j = z j) (hR : ∀ r, r < 6 → z' (6 + 27 * r + 7) = z (6 + 27 * r + 7) ∧ z' (6 + 27 * r + 5) = z (6 + 27 * r + 5)) : Gd z' A E := by
  have en : ab_ns z' = ab_ns z := ab_ns_same h5
  refine ⟨fun s hs => ?_, fun r hr => ?_⟩
  · rw [en] at hs
    exact ⟨(g.1 s hs).1.same (v.o6 hs) (fun j h1 h2 => hS j (by omega)), (g.1 s hs).2.same (fun j h1 h2 => hS j (by omega))⟩
  · obtain ⟨⟨w, w1, w2⟩, ⟨y, y1, y2⟩⟩ := g.2 r hr
    exact ⟨⟨w, (hR r hr).1.trans w1, w2⟩, ⟨y, (hR r hr).2.trans y1, y2⟩⟩
/-- one seam changes -/
theorem Gd.seam1 (g : Gd z A E) (v : InvZ z) {t : Nat} (h5 : z' 5 = z 5) (hS : ∀ j, 168 ≤ j → j < 168 + 24 * t ∨ 168 + 24 * t + 24 ≤ j → z' j = z j) (hR : ∀ r, r < 6 → z' (6 + 27 * r + 7) = z (6 + 27 * r + 7) ∧ z' (6 + 27 * r + 5) = z (6 + 27 * r + 5)) (ht : AgeOk z' t ∧ HandOk z' t A) : Gd z' A E := by
  have en : ab_ns z' = ab_ns z := ab_ns_same h5
  refine ⟨fun s hs => ?_, fun r hr => ?_⟩
  · rw [en] at hs
    by_cases hst : s = t
    · rw [hst]; exact ht
    · exact ⟨(g.1 s hs).1.same (v.o6 hs) (fun j h1 h2 => hS j (by omega) (by omega)), (g.1 s hs).2.same (fun j h1 h2 => hS j (by omega) (by omega))⟩
  · obtain ⟨⟨w, w1, w2⟩, ⟨y, y1, y2⟩⟩ := g.2 r hr
    exact ⟨⟨w, (hR r hr).1.trans w1, w2⟩, ⟨y, (hR r hr).2.trans y1, y2⟩⟩
set_option maxHeartbeats 4000000 in
theorem Gd.hand (g : Gd z A E) (v : InvZ z) {i : Nat} (hi : i < 6) : Gd (handZ z i) (A + 1) E := by
  have hq8 := v.q8 hi
  have hn8 := v.1.2
  have g' := g.mono (A' := A + 1) (E' := E) (by omega) (Nat.le_refl _)
  unfold handZ
  by_cases hq : ab_q z i = 0
  · rw [if_pos hq]; exact g'
  · rw [if_neg hq]
    rcases (v.2.1 i hi).2.2.1 with hr1 | ⟨s, hr1, hsn⟩
    · rw [if_pos hr1]
      obtain ⟨z1, hz1⟩ : ∃ z1, z1 = upd (upd (upd (upd (upd z (6 + 27 * i + 8) (z (6 + 27 * i + 8) + nI 1)) (6 + 27 * i + 9) (z (6 + 27 * i + (11 + 1)))) 2 (z 2 + nI 1)) 3 (z 3 + z (6 + 27 * i + (11 + 1)))) 4 (z (6 + 27 * i + 11)) := ⟨_, rfl⟩
      rw [← hz1]
      have r : ∀ j, j ≠ 6 + 27 * i + 8 → j ≠ 6 + 27 * i + 9 → j ≠ 2 → j ≠ 3 → j ≠ 4 → z1 j = z j := fun j h1 h2 h3 h4 h5 => by
        rw [hz1, ab_upd_ne h5, ab_upd_ne h4, ab_upd_ne h3, ab_upd_ne h2, ab_upd_ne h1]
      have hq1 : ab_q z1 i = ab_q z i := ab_q_same (r _ (by omega) (by omega) (by omega) (by omega) (by omega))
      have e : ∀ j, j ≠ 6 + 27 * i + 4 → j < 6 + 27 * i + 11 ∨ 6 + 27 * i + 27 ≤ j → leaveZ z1 i j = z1 j := fun j h1 h2 => ab_leave_off (by omega) hi h1 h2
      refine g'.same v ?_ (fun j hj => ?_) (fun k hk => ⟨?_, ?_⟩)
      · rw [e _ (by omega) (by omega), r _ (by omega) (by omega) (by omega) (by omega) (by omega)]
      · rw [e _ (by omega) (by omega), r _ (by omega) (by omega) (by omega) (by omega) (by omega)]
      · rw [e _ (by omega) (by omega), r _ (by omega) (by omega) (by omega) (by omega) (by omega)]
      · rw [e _ (by omega) (by omega), r _ (by omega) (by omega) (by omega) (by omega) (by omega)]
    · rw [if_neg (by rw [hr1, ab_nm1 (by omega)]; exact fun h => h)]
      simp only [hr1, ab_nclamp (show s < 2147483648 by omega)]
      obtain ⟨-, -, ⟨sz, hsz, hsz6, hsz7⟩, -, ho4, ho6⟩ := v.2.2.1 s hsn
      by_cases hfull : z (168 + 24 * s + 4) < z (168 + 24 * s + 2)
      · rw [if_pos hfull]
        have hfull' : ab_on z s < sz := by rw [ho4, hsz, ab_nlt (by omega) (by omega)] at hfull; exact hfull
        obtain ⟨z1, hz1⟩ : ∃ z1, z1 = upd (upd (upd (upd (upd z (168 + 24 * s + (6 + 3 * ab_on z s)) (z (6 + 27 * i + 11))) (168 + 24 * s + (6 + 3 * ab_on z s + 1)) (z (6 + 27 * i + (11 + 1)))) (168 + 24 * s + (6 + 3 * ab_on z s + 2)) (nI 0)) (168 + 24 * s + 4) (nI (ab_on z s + 1))) (168 + 24 * s + 5) (z (168 + 24 * s + 5) + nI 1) := ⟨_, rfl⟩
        rw [← hz1]
        have r : ∀ j, j < 168 + 24 * s + 4 ∨ 168 + 24 * s + 24 ≤ j → z1 j = z j := fun j h1 => by
          rw [hz1, ab_upd_ne (by omega), ab_upd_ne (by omega), ab_upd_ne (by omega), ab_upd_ne (by omega), ab_upd_ne (by omega)]
        have r4 : z1 (168 + 24 * s + 4) = nI (ab_on z s + 1) := by rw [hz1, ab_upd_ne (by omega), ab_upd_eq rfl]
        have r5 : z1 (168 + 24 * s + 5) = z (168 + 24 * s + 5) + nI 1 := by rw [hz1, ab_upd_eq rfl]
        have ra : ∀ k, k < ab_on z s → z1 (168 + 24 * s + (6 + 3 * k + 2)) = z (168 + 24 * s + (6 + 3 * k + 2)) := fun k hk => by
          rw [hz1, ab_upd_ne (by omega), ab_upd_ne (by omega), ab_upd_ne (by omega), ab_upd_ne (by omega), ab_upd_ne (by omega)]
        have rn : z1 (168 + 24 * s + (6 + 3 * ab_on z s + 2)) = nI 0 := by rw [hz1, ab_upd_ne (by omega), ab_upd_ne (by omega), ab_upd_eq rfl]
        have hq1 : ab_q z1 i = ab_q z i := ab_q_same (r _ (by omega))
        have e : ∀ j, j ≠ 6 + 27 * i + 4 → j < 6 + 27 * i + 11 ∨ 6 + 27 * i + 27 ≤ j → leaveZ z1 i j = z1 j := fun j h1 h2 => ab_leave_off (by omega) hi h1 h2
        refine g'.seam1 v (t := s) ?_ (fun j hj h1 => ?_) (fun k hk => ⟨?_, ?_⟩) ?_
        · rw [e _ (by omega) (by omega), r _ (by omega)]
        · rw [e _ (by omega) (by omega), r _ (by omega)]
        · rw [e _ (by omega) (by omega), r _ (by omega)]
        · rw [e _ (by omega) (by omega), r _ (by omega)]
        · have ho : ab_on (leaveZ z1 i) s = ab_on z s + 1 := by
            have : ab_on (leaveZ z1 i) s = (leaveZ z1 i (168 + 24 * s + 4)).toNatClampNeg := rfl
            rw [this, e _ (by omega) (by omega), r4, ab_nclamp (by omega)]
          have hc : ab_cr (leaveZ z1 i) s = ab_cr z s := by unfold ab_cr; rw [e _ (by omega) (by omega), r _ (by omega)]
          have hak : ∀ k, k < ab_on z s → ab_ag (leaveZ z1 i) s k = ab_ag z s k := fun k hk => by unfold ab_ag; rw [e _ (by omega) (by omega), ra k hk]
          have han : ab_ag (leaveZ z1 i) s (ab_on z s) = 0 := by unfold ab_ag; rw [e _ (by omega) (by omega), rn]; rfl
          refine ⟨fun k hk => ?_, ?_⟩
          · rw [ho] at hk
            by_cases hko : k = ab_on z s
            · subst hko
              rw [han, e _ (by omega) (by omega), rn]
              exact ⟨rfl, Nat.zero_le _⟩
            · have hk' : k < ab_on z s := by omega
              rw [hak k hk', hc, e _ (by omega) (by omega), ra k hk']
              have ha := (g.1 s hsn).1 k hk'
              refine ⟨ha.1, ?_⟩
              by_cases hk0 : k = 0
              · rw [if_pos hk0]
                have h2 := ha.2
                rw [if_pos hk0] at h2
                exact h2
              · rw [if_neg hk0, hak (k - 1) (by omega)]
                have h2 := ha.2
                rw [if_neg hk0] at h2
                exact h2
          · obtain ⟨d, d1, d2, d3⟩ := (g.1 s hsn).2
            refine ⟨d + 1, ?_, by rw [ho]; omega, by omega⟩
            rw [e _ (by omega) (by omega), r5, d1, ab_nadd]
      · rw [if_neg hfull]
        refine ⟨fun t ht => ?_, fun k hk => ⟨?_, ?_⟩⟩
        · have ht' : t < ab_ns z := by rw [ab_ns_same (z := z) (ab_upd_ne (by omega))] at ht; exact ht
          exact ⟨(g'.1 t ht').1.same (v.o6 ht') (fun j h1 h2 => ab_upd_ne (by omega)), (g'.1 t ht').2.same (fun j h1 h2 => ab_upd_ne (by omega))⟩
        · obtain ⟨w, w1, w2⟩ := (g.2 k hk).1
          by_cases hki : k = i
          · subst hki
            exact ⟨w + 1, by rw [ab_upd_eq rfl, w1, ab_nadd], by omega⟩
          · exact ⟨w, by rw [ab_upd_ne (by omega)]; exact w1, by omega⟩
        · obtain ⟨w, w1, w2⟩ := (g.2 k hk).2
          exact ⟨w, by rw [ab_upd_ne (by omega)]; exact w1, w2⟩
theorem ab_cr_eq (v : InvZ z) {s : Nat} (hs : s < ab_ns z) : z (168 + 24 * s + 3) = nI (ab_cr z s) ∧ ab_cr z s ≤ 3 := by
  obtain ⟨cr, hcr, h1, h3⟩ := (v.2.2.1 s hs).2.2.2.1
  have e : ab_cr z s = cr := by unfold ab_cr; rw [hcr, ab_nclamp (by omega)]
  rw [e]
  exact ⟨hcr, h3⟩
theorem AgeOk.le {s : Nat} (a : AgeOk z s) : ∀ k, k < ab_on z s → ab_ag z s k ≤ ab_cr z s := by
  intro k
  induction k with
  | zero => intro hk; exact (a 0 hk).2
  | succ k ih =>
    intro hk
    have h1 := (a (k + 1) hk).2
    rw [if_neg (by omega), show k + 1 - 1 = k by omega] at h1
    exact Nat.le_trans h1 (ih (by omega))
theorem Gd.grow (g : Gd z A E) (v : InvZ z) {i n : Nat} (hi : i < 6) (hn : n ≤ ab_ns z) : Gd (growZ z i n) A E := by
  have en : ab_ns (growZ z i n) = ab_ns z := ab_growZ_ns
  refine ⟨fun s hs => ?_, fun r hr => ?_⟩
  · rw [en] at hs
    obtain ⟨a, d, d1, d2, d3⟩ := g.1 s hs
    obtain ⟨hcr, hcr3⟩ := ab_cr_eq v hs
    have ho6 := v.o6 hs
    have hc : ab_cr (growZ z i n) s = ab_cr z s := by unfold ab_cr; rw [ab_growZ_head (by omega)]
    refine ⟨fun k hk => ?_, ⟨d, by rw [ab_growZ_head (by omega)]; exact d1, by rw [ab_growZ_on]; exact d2, d3⟩⟩
    rw [ab_growZ_on] at hk
    have key : ∀ k, k < ab_on z s → growZ z i n (168 + 24 * s + (6 + 3 * k + 2)) = nI (if s < n ∧ z (168 + 24 * s + 1) = nI i ∧ ab_ag z s k < ab_cr z s then ab_ag z s k + 1 else ab_ag z s k) := fun k hk => by
      have hak := (a k hk).1
      have hal := a.le k hk
      have e1 : (168 + 24 * s + (6 + 3 * k + 2) - 168) / 24 = s := by omega
      unfold growZ
      rw [e1, hcr, hak]
      by_cases hx : s < n ∧ z (168 + 24 * s + 1) = nI i ∧ ab_ag z s k < ab_cr z s
      · rw [if_pos hx, if_pos ⟨by omega, hx.1, hx.2.1, by omega, by omega, by omega, by rw [ab_nlt (by omega) (by omega)]; exact hx.2.2⟩, ab_nadd]
      · rw [if_neg hx, if_neg]
        intro q
        refine hx ⟨q.2.1, q.2.2.1, ?_⟩
        have h7 := q.2.2.2.2.2.2
        rw [ab_nlt (by omega) (by omega)] at h7
        exact h7
    have hag : ∀ k, k < ab_on z s → ab_ag (growZ z i n) s k = if s < n ∧ z (168 + 24 * s + 1) = nI i ∧ ab_ag z s k < ab_cr z s then ab_ag z s k + 1 else ab_ag z s k := fun k hk => by
      have hal := a.le k hk
      have : ab_ag (growZ z i n) s k = (growZ z i n (168 + 24 * s + (6 + 3 * k + 2))).toNatClampNeg := rfl
      rw [this, key k hk]
      refine ab_nclamp ?_
      split <;> omega
    have hal := a.le k hk
    have h2 := (a k hk).2
    refine ⟨by rw [key k hk, hag k hk], ?_⟩
    rw [hag k hk, hc]
    by_cases hk0 : k = 0
    · rw [if_pos hk0]
      split <;> omega
    · rw [if_neg hk0] at h2
      have hal1 := a.le (k - 1) (by omega)
      rw [if_neg hk0, hag (k - 1) (by omega)]
      by_cases hx : s < n ∧ z (168 + 24 * s + 1) = nI i
      · by_cases hx1 : ab_ag z s k < ab_cr z s
        · rw [if_pos ⟨hx.1, hx.2, hx1⟩]
          split
          · omega
          · rename_i hy
            have : ¬ ab_ag z s (k - 1) < ab_cr z s := fun q => hy ⟨hx.1, hx.2, q⟩
            omega
        · rw [if_neg (fun q => hx1 q.2.2)]
          split <;> omega
      · rw [if_neg (fun q => hx ⟨q.1, q.2.1⟩), if_neg (fun q => hx ⟨q.1, q.2.1⟩)]
        exact h2
  · obtain ⟨⟨w, w1, w2⟩, ⟨y, y1, y2⟩⟩ := g.2 r hr
    exact ⟨⟨w, (ab_growZ_low (by omega)).trans w1, w2⟩, ⟨y, (ab_growZ_low (by omega)).trans y1, y2⟩⟩
set_option maxHeartbeats 4000000 in
theorem Gd.take (g : Gd z A E) (v : InvZ z) {i : Nat} (hi : i < 6) : Gd (takeZ z i) A E := by
  have hq8 := v.q8 hi
  have hn8 := v.1.2
  unfold takeZ
  by_cases hq : ab_q z i = 8
  · rw [if_pos hq]; exact g
  · rw [if_neg hq]
    rcases ab_pick_or (z := z) (i := i) with hpk | ⟨s, hpk, hsn, hrip⟩
    · rw [if_pos hpk]; exact g
    · rw [if_neg (by rw [hpk, ab_nm1 (by omega)]; exact fun h => h), hpk, ab_nclamp (show s < 2147483648 by omega)]
      have ho := ab_ripe_on hrip
      have ho6 := v.o6 hsn
      obtain ⟨z1, hz1⟩ : ∃ z1, z1 = upd (enterZ z i (z (168 + 24 * s + 6)) (z (168 + 24 * s + (6 + 1)))) (6 + 27 * i + 10) (nI s) := ⟨_, rfl⟩
      rw [← hz1]
      have r : ∀ j, j ≠ 6 + 27 * i + 4 → j ≠ 6 + 27 * i + 10 → j < 6 + 27 * i + 11 ∨ 6 + 27 * i + 27 ≤ j → z1 j = z j := fun j h1 h2 h3 => by
        rw [hz1, ab_upd_ne h2]
        unfold enterZ
        rw [ab_upd_ne h1, ab_upd_ne (by omega), ab_upd_ne (by omega)]
      have hq1 : ab_on z1 s = ab_on z s := ab_on_same (r _ (by omega) (by omega) (by omega))
      have e : ∀ j, j ≠ 168 + 24 * s + 4 → j < 168 + 24 * s + 6 ∨ 168 + 24 * s + 24 ≤ j → dropZ z1 s j = z1 j := fun j h1 h2 => ab_drop_off (by omega) h1 h2
      refine g.seam1 v (t := s) ?_ (fun j hj h1 => ?_) (fun k hk => ⟨?_, ?_⟩) ?_
      · rw [e _ (by omega) (by omega), r _ (by omega) (by omega) (by omega)]
      · rw [e _ (by omega) (by omega), r _ (by omega) (by omega) (by omega)]
      · rw [e _ (by omega) (by omega), r _ (by omega) (by omega) (by omega)]
      · rw [e _ (by omega) (by omega), r _ (by omega) (by omega) (by omega)]
      · have ho' : ab_on (dropZ z1 s) s = ab_on z s - 1 := by
          have : ab_on (dropZ z1 s) s = (dropZ z1 s (168 + 24 * s + 4)).toNatClampNeg := rfl
          rw [this, ab_drop_len rfl, hq1, ab_nclamp (by omega)]
        have hc : ab_cr (dropZ z1 s) s = ab_cr z s := by unfold ab_cr; rw [e _ (by omega) (by omega), r _ (by omega) (by omega) (by omega)]
        have hcell : ∀ k, k < ab_on z s - 1 → dropZ z1 s (168 + 24 * s + (6 + 3 * k + 2)) = z (168 + 24 * s + (6 + 3 * (k + 1) + 2)) := fun k hk => by
          rw [ab_drop_cell (by omega), r _ (by omega) (by omega) (by omega), show 168 + 24 * s + (6 + 3 * k + 2) + 3 = 168 + 24 * s + (6 + 3 * (k + 1) + 2) by omega]
        have hak : ∀ k, k < ab_on z s - 1 → ab_ag (dropZ z1 s) s k = ab_ag z s (k + 1) := fun k hk => by unfold ab_ag; rw [hcell k hk]
        obtain ⟨a, d, d1, d2, d3⟩ := g.1 s hsn
        refine ⟨fun k hk => ?_, ⟨d, by rw [e _ (by omega) (by omega), r _ (by omega) (by omega) (by omega)]; exact d1, by rw [ho']; omega, d3⟩⟩
        rw [ho'] at hk
        rw [hak k hk, hcell k hk, hc]
        refine ⟨(a (k + 1) (by omega)).1, ?_⟩
        by_cases hk0 : k = 0
        · rw [if_pos hk0]
          exact a.le (k + 1) (by omega)
        · rw [if_neg hk0, hak (k - 1) (by omega), show k - 1 + 1 = k + 1 - 1 by omega]
          have h2 := (a (k + 1) (by omega)).2
          rw [if_neg (by omega)] at h2
          exact h2
theorem Gd.beat (g : Gd z A E) (v : InvZ z) {i : Nat} (hi : i < 6) (hE : E < 2147483648) : Gd (beatZ z i) (A + 1) E := by
  have g' := g.mono (A' := A + 1) (E' := E) (by omega) (Nat.le_refl _)
  unfold beatZ
  split
  · split
    · rename_i hd hl
      refine ⟨fun t ht => ?_, fun k hk => ⟨?_, ?_⟩⟩
      · have ht' : t < ab_ns z := by
          rw [ab_ns_same (z := z) (by rw [ab_upd_ne (by omega), ab_upd_ne (by omega)])] at ht
          exact ht
        exact ⟨(g'.1 t ht').1.same (v.o6 ht') (fun j h1 h2 => by rw [ab_upd_ne (by omega), ab_upd_ne (by omega)]), (g'.1 t ht').2.same (fun j h1 h2 => by rw [ab_upd_ne (by omega), ab_upd_ne (by omega)])⟩
      · obtain ⟨w, w1, w2⟩ := (g'.2 k hk).1
        exact ⟨w, by rw [ab_upd_ne (by omega), ab_upd_ne (by omega)]; exact w1, w2⟩
      · obtain ⟨w, w1, w2⟩ := (g.2 k hk).2
        by_cases hki : k = i
        · subst hki
          rw [w1, ab_n0lt (by omega)] at hl
          refine ⟨w - 1, ?_, by omega⟩
          rw [ab_upd_ne (by omega), ab_upd_eq rfl, w1, ab_nsub (by omega)]
        · exact ⟨w, by rw [ab_upd_ne (by omega), ab_upd_ne (by omega)]; exact w1, w2⟩
    · exact ((g.hand v hi).grow (v.hand hi) hi (Nat.le_of_eq (ab_ns_same ab_hand_five).symm)).take ((v.hand hi).grow) hi
  · exact g'
theorem Gd.rooms (g : Gd z A E) (v : InvZ z) (hE : E < 2147483648) : ∀ n, n ≤ 6 → Gd (roomsZ z n) (A + n) E := by
  intro n
  induction n with
  | zero => intro _; exact g
  | succ n ih =>
    intro hn
    exact (ih (by omega)).beat (v.rooms n (by omega)) (by omega) hE
theorem Gd.tick (g : Gd z A E) (v : InvZ z) (hE : E < 2147483648) : Gd (tickZ z) (A + 6) E := by
  refine (g.rooms v hE 6 (by omega)).same (v.rooms 6 (by omega)) ?_ (fun j hj => ?_) (fun r hr => ⟨?_, ?_⟩)
  · exact ab_upd_ne (by omega)
  · exact ab_upd_ne (by omega)
  · exact ab_upd_ne (by omega)
  · exact ab_upd_ne (by omega)
theorem Gd.ticks (g : Gd z A E) (v : InvZ z) (hE : E < 2147483648) : ∀ n, Gd (ticksZ z n) (A + 6 * n) E := by
  intro n
  induction n with
  | zero => exact g
  | succ n ih =>
    have h := ih.tick (v.ticks n) hE
    exact h.mono (by omega) (Nat.le_refl _)
/-! the number of the tick -/
theorem ab_hand_zero {i : Nat} (hi : i < 6) (v : InvZ z) : handZ z i 0 = z 0 := by
  unfold handZ
  split
  · rfl
  · split
    · rw [ab_leave_ne ⟨by omega, by omega⟩, ab_upd_ne (by omega), ab_upd_ne (by omega), ab_upd_ne (by omega), ab_upd_ne (by omega), ab_upd_ne (by omega)]
    · dsimp only
      split
      · rw [ab_leave_ne ⟨by omega, by omega⟩, ab_upd_ne (by omega), ab_upd_ne (by omega), ab_upd_ne (by omega), ab_upd_ne (by omega), ab_upd_ne (by omega)]
      · rw [ab_upd_ne (by omega)]
theorem ab_take_zero {i : Nat} : takeZ z i 0 = z 0 := by
  unfold takeZ
  split
  · rfl
  · split
    · rfl
    · rw [ab_drop_ne ⟨by omega, by omega⟩, ab_upd_ne (by omega)]
      unfold enterZ
      rw [ab_upd_ne (by omega), ab_upd_ne (by omega), ab_upd_ne (by omega)]
theorem ab_beat_zero {i : Nat} (hi : i < 6) (v : InvZ z) : beatZ z i 0 = z 0 := by
  unfold beatZ
  split
  · split
    · rw [ab_upd_ne (by omega), ab_upd_ne (by omega)]
    · rw [ab_take_zero, ab_growZ_low (by omega), ab_hand_zero hi v]
  · rfl
theorem ab_rooms_zero (v : InvZ z) : ∀ n, n ≤ 6 → roomsZ z n 0 = z 0 := by
  intro n
  induction n with
  | zero => intro _; rfl
  | succ n ih =>
    intro hn
    have e : roomsZ z (n + 1) = beatZ (roomsZ z n) n := rfl
    rw [e, ab_beat_zero (by omega) (v.rooms n (by omega)), ih (by omega)]
theorem ab_ticks_zero (v : InvZ z) {t : Nat} (h0 : z 0 = nI t) : ∀ n, ticksZ z n 0 = nI (t + n) := by
  intro n
  induction n with
  | zero => exact h0
  | succ n ih =>
    have e : ticksZ z (n + 1) = upd (roomsZ (ticksZ z n) 6) 0 (roomsZ (ticksZ z n) 6 0 + nI 1) := rfl
    rw [e, ab_upd_eq rfl, ab_rooms_zero (v.ticks n) 6 (by omega), ih, ab_nadd]
    rfl
end AbGood
