/-! A State at a, as it changes: the picture goes with the row, step by step. -/
section AbMut
variable {h : ab_Hp} {f f' f0 : Nat → Nat → Int32} {g : Nat → Nat → Option Nat} {l : Nat → Nat → Int64} {Q : ab_O → ab_Hp → Prop} {a : Nat} {z z' : Nat → Int32}
def Lim (z : Nat → Int32) : Prop := ab_ns z ≤ 8 ∧ (∀ i, i < 6 → z (6 + 27 * i + 4) = nI (ab_q z i) ∧ ab_q z i ≤ 8) ∧ ∀ s, s < ab_ns z → z (168 + 24 * s + 4) = nI (ab_on z s) ∧ ab_on z s ≤ 6
theorem InvZ.lim (v : InvZ z) : Lim z := ⟨v.1.2, fun i hi => (v.2.1 i hi).2.2.2.1, fun s hs => (v.2.2.1 s hs).2.2.2.2⟩
def PicF (f0 : Nat → Nat → Int32) (a : Nat) (f : Nat → Nat → Int32) (z : Nat → Int32) : Prop := (∀ b, b < a ∨ a + 45 ≤ b → ∀ j, f b j = f0 b j) ∧ PicX f a z ∧ Lim z
theorem PicX.toF (p : PicX f a z) (v : InvZ z) : PicF f a f z := ⟨fun _ _ _ => rfl, p, v.lim⟩
theorem ab_q_same {i : Nat} (hz : z' (6 + 27 * i + 4) = z (6 + 27 * i + 4)) : ab_q z' i = ab_q z i := by unfold ab_q; rw [hz]
theorem ab_on_same {s : Nat} (hz : z' (168 + 24 * s + 4) = z (168 + 24 * s + 4)) : ab_on z' s = ab_on z s := by unfold ab_on; rw [hz]
theorem ab_ns_same (hz : z' 5 = z 5) : ab_ns z' = ab_ns z := by unfold ab_ns; rw [hz]
theorem PicF.room1 (p : PicF f0 a f z) {i : Nat} (hi : i < 6) (hf : ∀ b, ¬ (a + 3 + 3 * i ≤ b ∧ b < a + 3 + 3 * i + 3) → ∀ j, f' b j = f b j) (hz : ∀ j, ¬ (6 + 27 * i ≤ j ∧ j < 6 + 27 * i + 27) → z' j = z j) (hr : PicRoom f' (a + 3 + 3 * i) z' i) (hl : z' (6 + 27 * i + 4) = nI (ab_q z' i) ∧ ab_q z' i ≤ 8) : PicF f0 a f' z' := by
  obtain ⟨po, ⟨⟨t1, t2, t3, t4, t5⟩, pr, ps⟩, l1, l2, l3⟩ := p
  have en : ab_ns z' = ab_ns z := ab_ns_same (hz 5 (by omega))
  refine ⟨fun b hb j => (hf b (by omega) j).trans (po b hb j), ⟨⟨?_, ?_, ?_, ?_, ?_⟩, fun k hk => ?_, fun s hs => ?_⟩, by rw [en]; exact l1, fun k hk => ?_, fun s hs => ?_⟩
  · rw [hf _ (by omega), hz _ (by omega), t1]
  · rw [hf _ (by omega), hz _ (by omega), t2]
  · rw [hf _ (by omega), hz _ (by omega), t3]
  · rw [hf _ (by omega), hz _ (by omega), t4]
  · rw [hf _ (by omega), hz _ (by omega), t5]
  · by_cases e : k = i
    · subst e; exact hr
    · exact (pr k hk).same (fun b h1 h2 j => hf b (by omega) j) (fun j h1 h2 => hz j (by omega)) (l2 k hk).2
  · rw [en] at hs
    exact (ps s hs).same (fun b h1 h2 j => hf b (by omega) j) (fun j h1 h2 => hz j (by omega)) (l3 s hs).2
  · by_cases e : k = i
    · subst e; exact hl
    · have eq : ab_q z' k = ab_q z k := ab_q_same (hz _ (by omega))
      rw [eq, hz _ (by omega)]
      exact l2 k hk
  · rw [en] at hs
    have eq : ab_on z' s = ab_on z s := ab_on_same (hz _ (by omega))
    rw [eq, hz _ (by omega)]
    exact l3 s hs
theorem PicF.seam1 (p : PicF f0 a f z) {i : Nat} (hi : i < ab_ns z) (hf : ∀ b, ¬ (a + 21 + 3 * i ≤ b ∧ b < a + 21 + 3 * i + 3) → ∀ j, f' b j = f b j) (hz : ∀ j, ¬ (168 + 24 * i ≤ j ∧ j < 168 + 24 * i + 24) → z' j = z j) (hr : PicSeam f' (a + 21 + 3 * i) z' i) (hl : z' (168 + 24 * i + 4) = nI (ab_on z' i) ∧ ab_on z' i ≤ 6) : PicF f0 a f' z' := by
  obtain ⟨po, ⟨⟨t1, t2, t3, t4, t5⟩, pr, ps⟩, l1, l2, l3⟩ := p
  have en : ab_ns z' = ab_ns z := ab_ns_same (hz 5 (by omega))
  refine ⟨fun b hb j => (hf b (by omega) j).trans (po b hb j), ⟨⟨?_, ?_, ?_, ?_, ?_⟩, fun k hk => ?_, fun s hs => ?_⟩, by rw [en]; exact l1, fun k hk => ?_, fun s hs => ?_⟩
  · rw [hf _ (by omega), hz _ (by omega), t1]
  · rw [hf _ (by omega), hz _ (by omega), t2]
  · rw [hf _ (by omega), hz _ (by omega), t3]
  · rw [hf _ (by omega), hz _ (by omega), t4]
  · rw [hf _ (by omega), hz _ (by omega), t5]
  · exact (pr k hk).same (fun b h1 h2 j => hf b (by omega) j) (fun j h1 h2 => hz j (by omega)) (l2 k hk).2
  · rw [en] at hs
    by_cases e : s = i
    · subst e; exact hr
    · exact (ps s hs).same (fun b h1 h2 j => hf b (by omega) j) (fun j h1 h2 => hz j (by omega)) (l3 s hs).2
  · have eq : ab_q z' k = ab_q z k := ab_q_same (hz _ (by omega))
    rw [eq, hz _ (by omega)]
    exact l2 k hk
  · rw [en] at hs
    by_cases e : s = i
    · subst e; exact hl
    · have eq : ab_on z' s = ab_on z s := ab_on_same (hz _ (by omega))
      rw [eq, hz _ (by omega)]
      exact l3 s hs
theorem PicF.top (p : PicF f0 a f z) {c k : Nat} {x : Int32} (hc : (c = 3 ∧ k = 0) ∨ (c = 4 ∧ k = 1) ∨ (c = 5 ∧ k = 3) ∨ (c = 6 ∧ k = 4)) : PicF f0 a (ab_u f a c x) (upd z k x) := by
  obtain ⟨po, ⟨⟨t1, t2, t3, t4, t5⟩, pr, ps⟩, l1, l2, l3⟩ := p
  have en : ab_ns (upd z k x) = ab_ns z := ab_ns_same (ab_upd_ne (by omega))
  have eq : ∀ k', ab_q (upd z k x) k' = ab_q z k' := fun k' => ab_q_same (ab_upd_ne (by omega))
  have eo : ∀ k', ab_on (upd z k x) k' = ab_on z k' := fun k' => ab_on_same (ab_upd_ne (by omega))
  refine ⟨fun b hb j => (ab_u_ne (by omega)).trans (po b hb j), ⟨?_, fun k' hk => ?_, fun s hs => ?_⟩, by rw [en]; exact l1, fun k' hk => ?_, fun s hs => ?_⟩
  · rcases hc with ⟨rfl, rfl⟩ | ⟨rfl, rfl⟩ | ⟨rfl, rfl⟩ | ⟨rfl, rfl⟩ <;> (simp (disch := first | assumption | exact id rfl | omega | exact ab_dK (by assumption) | exact ab_dL (by assumption) (by omega) | exact ab_dI (by assumption) (by omega) (by omega) | exact ab_dIs (by assumption) (by omega) (by omega) | exact ab_isA_rf _ | exact nI_ne0 (by omega) (by omega) | exact Nat.le_of_ble_eq_true rfl | exact ab_dA (by assumption) (by omega) (by omega) (by omega) | exact id (Or.inl rfl) | exact id (Or.inr rfl) | exact ab_b01 | exact ab_dJ (by assumption) (by omega) (by omega) | exact ab_dI6 (by assumption) (by omega) (by omega) | fail) only [ab_u_ne, ab_u_eq, ab_upd_ne, ab_upd_eq, t1, t2, t3, t4, t5, and_self])
  · exact (pr k' hk).same (fun b h1 h2 j => ab_u_ne (by omega)) (fun j h1 h2 => ab_upd_ne (by omega)) (l2 k' hk).2
  · rw [en] at hs
    exact (ps s hs).same (fun b h1 h2 j => ab_u_ne (by omega)) (fun j h1 h2 => ab_upd_ne (by omega)) (l3 s hs).2
  · rw [eq, ab_upd_ne (by omega)]
    exact l2 k' hk
  · rw [en] at hs
    rw [eo, ab_upd_ne (by omega)]
    exact l3 s hs
theorem PicF.out2 (p : PicF f0 a f z) {x : Int32} : PicF f0 a f (upd z 2 x) := by
  obtain ⟨po, ⟨⟨t1, t2, t3, t4, t5⟩, pr, ps⟩, l1, l2, l3⟩ := p
  have en : ab_ns (upd z 2 x) = ab_ns z := ab_ns_same (ab_upd_ne (by omega))
  have eq : ∀ k', ab_q (upd z 2 x) k' = ab_q z k' := fun k' => ab_q_same (ab_upd_ne (by omega))
  have eo : ∀ k', ab_on (upd z 2 x) k' = ab_on z k' := fun k' => ab_on_same (ab_upd_ne (by omega))
  refine ⟨po, ⟨?_, fun k' hk => ?_, fun s hs => ?_⟩, by rw [en]; exact l1, fun k' hk => ?_, fun s hs => ?_⟩
  · simp (disch := first | assumption | exact id rfl | omega | exact ab_dK (by assumption) | exact ab_dL (by assumption) (by omega) | exact ab_dI (by assumption) (by omega) (by omega) | exact ab_dIs (by assumption) (by omega) (by omega) | exact ab_isA_rf _ | exact nI_ne0 (by omega) (by omega) | exact Nat.le_of_ble_eq_true rfl | exact ab_dA (by assumption) (by omega) (by omega) (by omega) | exact id (Or.inl rfl) | exact id (Or.inr rfl) | exact ab_b01 | exact ab_dJ (by assumption) (by omega) (by omega) | exact ab_dI6 (by assumption) (by omega) (by omega) | fail) only [ab_upd_ne, t1, t2, t3, t4, t5, and_self]
  · exact (pr k' hk).same (fun b h1 h2 j => rfl) (fun j h1 h2 => ab_upd_ne (by omega)) (l2 k' hk).2
  · rw [en] at hs
    exact (ps s hs).same (fun b h1 h2 j => rfl) (fun j h1 h2 => ab_upd_ne (by omega)) (l3 s hs).2
  · rw [eq, ab_upd_ne (by omega)]
    exact l2 k' hk
  · rw [en] at hs
    rw [eo, ab_upd_ne (by omega)]
    exact l3 s hs
theorem PicF.rfield (p : PicF f0 a f z) {i k c : Nat} {x : Int32} (hi : i < 6) (hk : k < 11) (hk4 : k ≠ 4) (hc : (k ≤ 3 ∧ c = k + 1) ∨ (5 ≤ k ∧ c = k)) : PicF f0 a (ab_u f (a + 3 + 3 * i) c x) (upd z (6 + 27 * i + k) x) := by
  have hq : ab_q (upd z (6 + 27 * i + k) x) i = ab_q z i := ab_q_same (ab_upd_ne (by omega))
  have hl := p.2.2.2.1 i hi
  have hp := p.2.1.2.1 i hi
  refine p.room1 hi (fun b hb j => ab_u_ne (by omega)) (fun j hj => ab_upd_ne (by omega)) ⟨fun k' hk' => ?_, fun k' hk' => ?_⟩ ⟨?_, ?_⟩
  · have h1 := hp.1 k' hk'
    by_cases e : k' = k
    · subst e
      rw [ab_upd_eq rfl]
      unfold ab_rp
      rw [if_neg hk4]
      split
      · exact ab_u_eq (by omega)
      · exact ab_u_eq (by omega)
    · rw [ab_upd_ne (by omega), ← h1]
      unfold ab_rp
      split
      · exact ab_u_ne (by omega)
      · split
        · exact ab_u_ne (by omega)
        · exact ab_u_ne (by omega)
  · rw [hq] at hk'
    have h1 := hp.2 k' hk'
    rw [ab_u_ne (by omega), ab_u_ne (by omega), ab_upd_ne (by omega), ab_upd_ne (by omega)]
    exact h1
  · rw [hq, ab_upd_ne (by omega)]; exact hl.1
  · rw [hq]; exact hl.2
theorem PicF.sfield (p : PicF f0 a f z) {i k c : Nat} {x : Int32} (hi : i < ab_ns z) (hk : k < 6) (hk4 : k ≠ 4) (hc : (k ≤ 3 ∧ c = k + 1) ∨ (5 ≤ k ∧ c = k)) : PicF f0 a (ab_u f (a + 21 + 3 * i) c x) (upd z (168 + 24 * i + k) x) := by
  have hq : ab_on (upd z (168 + 24 * i + k) x) i = ab_on z i := ab_on_same (ab_upd_ne (by omega))
  have hl := p.2.2.2.2 i hi
  have hp := p.2.1.2.2 i hi
  refine p.seam1 hi (fun b hb j => ab_u_ne (by omega)) (fun j hj => ab_upd_ne (by omega)) ⟨fun k' hk' => ?_, fun k' j hk' hj => ?_⟩ ⟨?_, ?_⟩
  · have h1 := hp.1 k' hk'
    by_cases e : k' = k
    · subst e
      rw [ab_upd_eq rfl]
      unfold ab_sp
      rw [if_neg hk4]
      split
      · exact ab_u_eq (by omega)
      · exact ab_u_eq (by omega)
    · rw [ab_upd_ne (by omega), ← h1]
      unfold ab_sp
      split
      · exact ab_u_ne (by omega)
      · split
        · exact ab_u_ne (by omega)
        · exact ab_u_ne (by omega)
  · rw [hq] at hk'
    have h1 := hp.2 k' j hk' hj
    rw [ab_u_ne (by omega), ab_upd_ne (by omega)]
    exact h1
  · rw [hq, ab_upd_ne (by omega)]; exact hl.1
  · rw [hq]; exact hl.2
theorem ab_rp_eq {r k : Nat} (h1 : f' (r + 1) 1 = f (r + 1) 1) (h2 : ∀ k, f' r k = f r k) : ab_rp f' r k = ab_rp f r k := by unfold ab_rp; rw [h1, h2, h2]
theorem ab_rp_ne {r k : Nat} (hk : k ≠ 4) (h2 : ∀ k, f' r k = f r k) : ab_rp f' r k = ab_rp f r k := by unfold ab_rp; rw [if_neg hk, if_neg hk, h2, h2]
theorem ab_sp_ne {r k : Nat} (hk : k ≠ 4) (h2 : ∀ k, f' r k = f r k) : ab_sp f' r k = ab_sp f r k := by unfold ab_sp; rw [if_neg hk, if_neg hk, h2, h2]
theorem PicF.drop (p : PicF f0 a f z) {i q : Nat} (hi : i < 6) (hq : ab_q z i = q) (h0 : 0 < q) : PicF f0 a (ab_mdrop f (a + 3 + 3 * i + 1) q (3 * (q - 1))) (leaveZ z i) := by
  have hl := p.2.2.2.1 i hi
  have hp := p.2.1.2.1 i hi
  have hq' : ab_q (leaveZ z i) i = q - 1 := by
    have : ab_q (leaveZ z i) i = (leaveZ z i (6 + 27 * i + 4)).toNatClampNeg := rfl
    rw [this, ab_leave_len rfl, hq, ab_nclamp (by omega)]
  refine p.room1 hi (fun b hb j => ab_mdrop_ne (by omega)) (fun j hj => ab_leave_ne (by omega)) ⟨fun k' hk' => ?_, fun k' hk' => ?_⟩ ⟨?_, ?_⟩
  · by_cases e : k' = 4
    · subst e
      rw [ab_leave_len rfl, hq]
      exact ab_mdrop_len ⟨rfl, rfl⟩
    · rw [ab_leave_ne (by omega), ← hp.1 k' hk']
      exact ab_rp_ne e (fun k => ab_mdrop_ne (by omega))
  · rw [hq'] at hk'
    have h1 := hp.2 (k' + 1) (by omega)
    rw [ab_mdrop_cell (by omega), ab_mdrop_cell (by omega), ab_leave_cell (by omega), ab_leave_cell (by omega)]
    exact h1
  · rw [hq', ab_leave_len rfl, hq]
  · omega
theorem PicF.sdrop (p : PicF f0 a f z) {i q : Nat} (hi : i < ab_ns z) (hq : ab_on z i = q) (h0 : 0 < q) : PicF f0 a (ab_mdrop f (a + 21 + 3 * i + 1) q (3 * (q - 1))) (dropZ z i) := by
  have hl := p.2.2.2.2 i hi
  have hp := p.2.1.2.2 i hi
  have hq' : ab_on (dropZ z i) i = q - 1 := by
    have : ab_on (dropZ z i) i = (dropZ z i (168 + 24 * i + 4)).toNatClampNeg := rfl
    rw [this, ab_drop_len rfl, hq, ab_nclamp (by omega)]
  refine p.seam1 hi (fun b hb j => ab_mdrop_ne (by omega)) (fun j hj => ab_drop_ne (by omega)) ⟨fun k' hk' => ?_, fun k' j hk' hj => ?_⟩ ⟨?_, ?_⟩
  · by_cases e : k' = 4
    · subst e
      rw [ab_drop_len rfl, hq]
      exact ab_mdrop_len ⟨rfl, rfl⟩
    · rw [ab_drop_ne (by omega), ← hp.1 k' hk']
      exact ab_sp_ne e (fun k => ab_mdrop_ne (by omega))
  · rw [hq'] at hk'
    have h1 := hp.2 (k' + 1) j (by omega) hj
    rw [ab_mdrop_cell (by omega), ab_drop_cell (by omega)]
    rw [show 168 + 24 * i + (6 + 3 * k' + j) + 3 = 168 + 24 * i + (6 + 3 * (k' + 1) + j) by omega, ← h1]
    rw [show 3 * k' + j + 3 = 3 * (k' + 1) + j by omega]
  · rw [hq', ab_drop_len rfl, hq]
  · omega
theorem PicF.enter (p : PicF f0 a f z) {i q : Nat} {x y : Int32} (hi : i < 6) (hq : ab_q z i = q) (h8 : q < 8) : PicF f0 a (ab_u (ab_u (ab_u (ab_u f (a + 3 + 3 * i + 1 + 1) (3 * q) x) (a + 3 + 3 * i + 1 + 1) (3 * q + 1) y) (a + 3 + 3 * i + 1 + 1) (3 * q + 2) (nI 0)) (a + 3 + 3 * i + 1) 1 (nI (q + 1))) (enterZ z i x y) := by
  have hp := p.2.1.2.1 i hi
  have hq' : ab_q (enterZ z i x y) i = q + 1 := by
    have : ab_q (enterZ z i x y) i = (enterZ z i x y (6 + 27 * i + 4)).toNatClampNeg := rfl
    rw [this, enterZ, ab_upd_eq rfl, hq, ab_nclamp (by omega)]
  refine p.room1 hi (fun b hb j => ?_) (fun j hj => ?_) ⟨fun k' hk' => ?_, fun k' hk' => ?_⟩ ⟨?_, ?_⟩
  · simp (disch := first | assumption | exact id rfl | omega | exact ab_dK (by assumption) | exact ab_dL (by assumption) (by omega) | exact ab_dI (by assumption) (by omega) (by omega) | exact ab_dIs (by assumption) (by omega) (by omega) | exact ab_isA_rf _ | exact nI_ne0 (by omega) (by omega) | exact Nat.le_of_ble_eq_true rfl | exact ab_dA (by assumption) (by omega) (by omega) (by omega) | exact id (Or.inl rfl) | exact id (Or.inr rfl) | exact ab_b01 | exact ab_dJ (by assumption) (by omega) (by omega) | exact ab_dI6 (by assumption) (by omega) (by omega) | fail) only [ab_u_ne]
  · unfold enterZ
    rw [hq]
    simp (disch := first | assumption | exact id rfl | omega | exact ab_dK (by assumption) | exact ab_dL (by assumption) (by omega) | exact ab_dI (by assumption) (by omega) (by omega) | exact ab_dIs (by assumption) (by omega) (by omega) | exact ab_isA_rf _ | exact nI_ne0 (by omega) (by omega) | exact Nat.le_of_ble_eq_true rfl | exact ab_dA (by assumption) (by omega) (by omega) (by omega) | exact id (Or.inl rfl) | exact id (Or.inr rfl) | exact ab_b01 | exact ab_dJ (by assumption) (by omega) (by omega) | exact ab_dI6 (by assumption) (by omega) (by omega) | fail) only [ab_upd_ne]
  · by_cases e : k' = 4
    · subst e
      unfold enterZ
      rw [hq, ab_upd_eq rfl]
      exact ab_u_at _ _ _ _
    · have : enterZ z i x y (6 + 27 * i + k') = z (6 + 27 * i + k') := by
        unfold enterZ
        rw [hq]
        simp (disch := first | assumption | exact id rfl | omega | exact ab_dK (by assumption) | exact ab_dL (by assumption) (by omega) | exact ab_dI (by assumption) (by omega) (by omega) | exact ab_dIs (by assumption) (by omega) (by omega) | exact ab_isA_rf _ | exact nI_ne0 (by omega) (by omega) | exact Nat.le_of_ble_eq_true rfl | exact ab_dA (by assumption) (by omega) (by omega) (by omega) | exact id (Or.inl rfl) | exact id (Or.inr rfl) | exact ab_b01 | exact ab_dJ (by assumption) (by omega) (by omega) | exact ab_dI6 (by assumption) (by omega) (by omega) | fail) only [ab_upd_ne]
      rw [this, ← hp.1 k' hk']
      refine ab_rp_ne e (fun k => ?_)
      simp (disch := first | assumption | exact id rfl | omega | exact ab_dK (by assumption) | exact ab_dL (by assumption) (by omega) | exact ab_dI (by assumption) (by omega) (by omega) | exact ab_dIs (by assumption) (by omega) (by omega) | exact ab_isA_rf _ | exact nI_ne0 (by omega) (by omega) | exact Nat.le_of_ble_eq_true rfl | exact ab_dA (by assumption) (by omega) (by omega) (by omega) | exact id (Or.inl rfl) | exact id (Or.inr rfl) | exact ab_b01 | exact ab_dJ (by assumption) (by omega) (by omega) | exact ab_dI6 (by assumption) (by omega) (by omega) | fail) only [ab_u_ne]
  · rw [hq'] at hk'
    unfold enterZ
    rw [hq]
    by_cases e : k' = q
    · subst e
      simp (disch := first | assumption | exact id rfl | omega | exact ab_dK (by assumption) | exact ab_dL (by assumption) (by omega) | exact ab_dI (by assumption) (by omega) (by omega) | exact ab_dIs (by assumption) (by omega) (by omega) | exact ab_isA_rf _ | exact nI_ne0 (by omega) (by omega) | exact Nat.le_of_ble_eq_true rfl | exact ab_dA (by assumption) (by omega) (by omega) (by omega) | exact id (Or.inl rfl) | exact id (Or.inr rfl) | exact ab_b01 | exact ab_dJ (by assumption) (by omega) (by omega) | exact ab_dI6 (by assumption) (by omega) (by omega) | fail) only [ab_u_ne, ab_u_eq, ab_upd_ne, ab_upd_eq, and_self]
    · have h1 := hp.2 k' (by omega)
      simp (disch := first | assumption | exact id rfl | omega | exact ab_dK (by assumption) | exact ab_dL (by assumption) (by omega) | exact ab_dI (by assumption) (by omega) (by omega) | exact ab_dIs (by assumption) (by omega) (by omega) | exact ab_isA_rf _ | exact nI_ne0 (by omega) (by omega) | exact Nat.le_of_ble_eq_true rfl | exact ab_dA (by assumption) (by omega) (by omega) (by omega) | exact id (Or.inl rfl) | exact id (Or.inr rfl) | exact ab_b01 | exact ab_dJ (by assumption) (by omega) (by omega) | exact ab_dI6 (by assumption) (by omega) (by omega) | fail) only [ab_u_ne, ab_upd_ne]
      exact h1
  · rw [hq', enterZ, ab_upd_eq rfl, hq]
  · omega
/-- an item steps on a seam -/
def senterZ (z : Nat → Int32) (s : Nat) (x y : Int32) : Nat → Int32 := upd (upd (upd (upd z (168 + 24 * s + (6 + 3 * ab_on z s)) x) (168 + 24 * s + (6 + 3 * ab_on z s + 1)) y) (168 + 24 * s + (6 + 3 * ab_on z s + 2)) (nI 0)) (168 + 24 * s + 4) (nI (ab_on z s + 1))
theorem PicF.senter (p : PicF f0 a f z) {i q : Nat} {x y : Int32} (hi : i < ab_ns z) (hq : ab_on z i = q) (h8 : q < 6) : PicF f0 a (ab_u (ab_u (ab_u (ab_u f (a + 21 + 3 * i + 1 + 1) (3 * q) x) (a + 21 + 3 * i + 1 + 1) (3 * q + 1) y) (a + 21 + 3 * i + 1 + 1) (3 * q + 2) (nI 0)) (a + 21 + 3 * i + 1) 1 (nI (q + 1))) (senterZ z i x y) := by
  have hp := p.2.1.2.2 i hi
  have hq' : ab_on (senterZ z i x y) i = q + 1 := by
    have : ab_on (senterZ z i x y) i = (senterZ z i x y (168 + 24 * i + 4)).toNatClampNeg := rfl
    rw [this, senterZ, ab_upd_eq rfl, hq, ab_nclamp (by omega)]
  refine p.seam1 hi (fun b hb j => ?_) (fun j hj => ?_) ⟨fun k' hk' => ?_, fun k' j hk' hj => ?_⟩ ⟨?_, ?_⟩
  · simp (disch := first | assumption | exact id rfl | omega | exact ab_dK (by assumption) | exact ab_dL (by assumption) (by omega) | exact ab_dI (by assumption) (by omega) (by omega) | exact ab_dIs (by assumption) (by omega) (by omega) | exact ab_isA_rf _ | exact nI_ne0 (by omega) (by omega) | exact Nat.le_of_ble_eq_true rfl | exact ab_dA (by assumption) (by omega) (by omega) (by omega) | exact id (Or.inl rfl) | exact id (Or.inr rfl) | exact ab_b01 | exact ab_dJ (by assumption) (by omega) (by omega) | exact ab_dI6 (by assumption) (by omega) (by omega) | fail) only [ab_u_ne]
  · unfold senterZ
    rw [hq]
    simp (disch := first | assumption | exact id rfl | omega | exact ab_dK (by assumption) | exact ab_dL (by assumption) (by omega) | exact ab_dI (by assumption) (by omega) (by omega) | exact ab_dIs (by assumption) (by omega) (by omega) | exact ab_isA_rf _ | exact nI_ne0 (by omega) (by omega) | exact Nat.le_of_ble_eq_true rfl | exact ab_dA (by assumption) (by omega) (by omega) (by omega) | exact id (Or.inl rfl) | exact id (Or.inr rfl) | exact ab_b01 | exact ab_dJ (by assumption) (by omega) (by omega) | exact ab_dI6 (by assumption) (by omega) (by omega) | fail) only [ab_upd_ne]
  · by_cases e : k' = 4
    · subst e
      unfold senterZ
      rw [hq, ab_upd_eq rfl]
      exact ab_u_at _ _ _ _
    · have : senterZ z i x y (168 + 24 * i + k') = z (168 + 24 * i + k') := by
        unfold senterZ
        rw [hq]
        simp (disch := first | assumption | exact id rfl | omega | exact ab_dK (by assumption) | exact ab_dL (by assumption) (by omega) | exact ab_dI (by assumption) (by omega) (by omega) | exact ab_dIs (by assumption) (by omega) (by omega) | exact ab_isA_rf _ | exact nI_ne0 (by omega) (by omega) | exact Nat.le_of_ble_eq_true rfl | exact ab_dA (by assumption) (by omega) (by omega) (by omega) | exact id (Or.inl rfl) | exact id (Or.inr rfl) | exact ab_b01 | exact ab_dJ (by assumption) (by omega) (by omega) | exact ab_dI6 (by assumption) (by omega) (by omega) | fail) only [ab_upd_ne]
      rw [this, ← hp.1 k' hk']
      refine ab_sp_ne e (fun k => ?_)
      simp (disch := first | assumption | exact id rfl | omega | exact ab_dK (by assumption) | exact ab_dL (by assumption) (by omega) | exact ab_dI (by assumption) (by omega) (by omega) | exact ab_dIs (by assumption) (by omega) (by omega) | exact ab_isA_rf _ | exact nI_ne0 (by omega) (by omega) | exact Nat.le_of_ble_eq_true rfl | exact ab_dA (by assumption) (by omega) (by omega) (by omega) | exact id (Or.inl rfl) | exact id (Or.inr rfl) | exact ab_b01 | exact ab_dJ (by assumption) (by omega) (by omega) | exact ab_dI6 (by assumption) (by omega) (by omega) | fail) only [ab_u_ne]
  · rw [hq'] at hk'
    unfold senterZ
    rw [hq]
    by_cases e : k' = q
    · subst e
      have hj3 : j = 0 ∨ j = 1 ∨ j = 2 := by omega
      rcases hj3 with rfl | rfl | rfl
      · simp (disch := first | assumption | exact id rfl | omega | exact ab_dK (by assumption) | exact ab_dL (by assumption) (by omega) | exact ab_dI (by assumption) (by omega) (by omega) | exact ab_dIs (by assumption) (by omega) (by omega) | exact ab_isA_rf _ | exact nI_ne0 (by omega) (by omega) | exact Nat.le_of_ble_eq_true rfl | exact ab_dA (by assumption) (by omega) (by omega) (by omega) | exact id (Or.inl rfl) | exact id (Or.inr rfl) | exact ab_b01 | exact ab_dJ (by assumption) (by omega) (by omega) | exact ab_dI6 (by assumption) (by omega) (by omega) | fail) only [ab_u_ne, ab_u_eq, ab_upd_ne, ab_upd_eq]
      · simp (disch := first | assumption | exact id rfl | omega | exact ab_dK (by assumption) | exact ab_dL (by assumption) (by omega) | exact ab_dI (by assumption) (by omega) (by omega) | exact ab_dIs (by assumption) (by omega) (by omega) | exact ab_isA_rf _ | exact nI_ne0 (by omega) (by omega) | exact Nat.le_of_ble_eq_true rfl | exact ab_dA (by assumption) (by omega) (by omega) (by omega) | exact id (Or.inl rfl) | exact id (Or.inr rfl) | exact ab_b01 | exact ab_dJ (by assumption) (by omega) (by omega) | exact ab_dI6 (by assumption) (by omega) (by omega) | fail) only [ab_u_ne, ab_u_eq, ab_upd_ne, ab_upd_eq]
      · simp (disch := first | assumption | exact id rfl | omega | exact ab_dK (by assumption) | exact ab_dL (by assumption) (by omega) | exact ab_dI (by assumption) (by omega) (by omega) | exact ab_dIs (by assumption) (by omega) (by omega) | exact ab_isA_rf _ | exact nI_ne0 (by omega) (by omega) | exact Nat.le_of_ble_eq_true rfl | exact ab_dA (by assumption) (by omega) (by omega) (by omega) | exact id (Or.inl rfl) | exact id (Or.inr rfl) | exact ab_b01 | exact ab_dJ (by assumption) (by omega) (by omega) | exact ab_dI6 (by assumption) (by omega) (by omega) | fail) only [ab_u_ne, ab_u_eq, ab_upd_ne, ab_upd_eq]
    · have h1 := hp.2 k' j (by omega) hj
      simp (disch := first | assumption | exact id rfl | omega | exact ab_dK (by assumption) | exact ab_dL (by assumption) (by omega) | exact ab_dI (by assumption) (by omega) (by omega) | exact ab_dIs (by assumption) (by omega) (by omega) | exact ab_isA_rf _ | exact nI_ne0 (by omega) (by omega) | exact Nat.le_of_ble_eq_true rfl | exact ab_dA (by assumption) (by omega) (by omega) (by omega) | exact id (Or.inl rfl) | exact id (Or.inr rfl) | exact ab_b01 | exact ab_dJ (by assumption) (by omega) (by omega) | exact ab_dI6 (by assumption) (by omega) (by omega) | fail) only [ab_u_ne, ab_upd_ne]
      exact h1
  · rw [hq', senterZ, ab_upd_eq rfl, hq]
  · omega
end AbMut
