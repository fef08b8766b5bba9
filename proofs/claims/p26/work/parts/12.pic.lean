/-! One row of numbers for both sides: z as SeamBeatsModel keeps it; what SeamBeats holds of it. -/
def ab_q (z : Nat → Int32) (i : Nat) : Nat := (z (6 + 27 * i + 4)).toNatClampNeg
def ab_ns (z : Nat → Int32) : Nat := (z 5).toNatClampNeg
def ab_on (z : Nat → Int32) (s : Nat) : Nat := (z (168 + 24 * s + 4)).toNatClampNeg
/-- a room's properties, by what -/
def ab_rp (f : Nat → Nat → Int32) (r k : Nat) : Int32 := if k = 4 then f (r + 1) 1 else if k ≤ 3 then f r (k + 1) else f r k
/-- a seam's numbers, in the order of the row -/
def ab_sp (f : Nat → Nat → Int32) (t k : Nat) : Int32 := if k = 4 then f (t + 1) 1 else if k ≤ 3 then f t (k + 1) else f t k
def PicRoom (f : Nat → Nat → Int32) (r : Nat) (z : Nat → Int32) (i : Nat) : Prop := (∀ k, k < 11 → ab_rp f r k = z (6 + 27 * i + k)) ∧ ∀ k, k < ab_q z i → f (r + 2) (3 * k) = z (6 + 27 * i + (11 + 2 * k)) ∧ f (r + 2) (3 * k + 1) = z (6 + 27 * i + (11 + 2 * k + 1))
def PicSeam (f : Nat → Nat → Int32) (t : Nat) (z : Nat → Int32) (s : Nat) : Prop := (∀ k, k < 6 → ab_sp f t k = z (168 + 24 * s + k)) ∧ ∀ k j, k < ab_on z s → j < 3 → f (t + 2) (3 * k + j) = z (168 + 24 * s + (6 + 3 * k + j))
def PicX (f : Nat → Nat → Int32) (a : Nat) (z : Nat → Int32) : Prop := (f a 2 = z 5 ∧ f a 3 = z 0 ∧ f a 4 = z 1 ∧ f a 5 = z 3 ∧ f a 6 = z 4) ∧ (∀ i, i < 6 → PicRoom f (a + 3 + 3 * i) z i) ∧ ∀ s, s < ab_ns z → PicSeam f (a + 21 + 3 * s) z s
/-- the objects of a State at a: 45 cells from a on -/
def SkState (s : Nat → Nat × Nat) (g : Nat → Nat → Option Nat) (a : Nat) : Prop := (s a = (14, 0) ∧ g a 0 = some (a + 1) ∧ g a 1 = some (a + 2) ∧ s (a + 1) = (3, 6) ∧ s (a + 2) = (4, 8)) ∧
  (∀ i, i < 6 → g (a + 1) i = some (a + 3 + 3 * i) ∧ s (a + 3 + 3 * i) = (12, 0) ∧ g (a + 3 + 3 * i) 0 = some (a + 3 + 3 * i + 1) ∧ s (a + 3 + 3 * i + 1) = (11, 0) ∧ g (a + 3 + 3 * i + 1) 0 = some (a + 3 + 3 * i + 1 + 1) ∧ s (a + 3 + 3 * i + 1 + 1) = (1, 24)) ∧
  ∀ i, i < 8 → g (a + 2) i = some (a + 21 + 3 * i) ∧ s (a + 21 + 3 * i) = (13, 0) ∧ g (a + 21 + 3 * i) 0 = some (a + 21 + 3 * i + 1) ∧ s (a + 21 + 3 * i + 1) = (11, 0) ∧ g (a + 21 + 3 * i + 1) 0 = some (a + 21 + 3 * i + 1 + 1) ∧ s (a + 21 + 3 * i + 1 + 1) = (1, 24)
/-- sums over rooms and seams -/
def ab_sum (p : Nat → Int32) : Nat → Int32
  | 0 => nI 0
  | n + 1 => ab_sum p n + p n
def ab_nsum (p : Nat → Nat) : Nat → Nat
  | 0 => 0
  | n + 1 => ab_nsum p n + p n
/-- what holds of the row in every state -/
def InvRoom (z : Nat → Int32) (i : Nat) : Prop := (∃ p, z (6 + 27 * i) = nI p ∧ 1 ≤ p ∧ p ≤ 4) ∧ (z (6 + 27 * i + 2) = nI 0 ∨ z (6 + 27 * i + 2) = nI 1) ∧ (z (6 + 27 * i + 3) = -1 ∨ ∃ s, z (6 + 27 * i + 3) = nI s ∧ s < ab_ns z) ∧ (z (6 + 27 * i + 4) = nI (ab_q z i) ∧ ab_q z i ≤ 8) ∧ (z (6 + 27 * i + 10) = -1 ∨ ∃ s, z (6 + 27 * i + 10) = nI s ∧ s < 8)
def InvSeam (z : Nat → Int32) (s : Nat) : Prop := (∃ x, z (168 + 24 * s) = nI x ∧ x < 6) ∧ (∃ x, z (168 + 24 * s + 1) = nI x ∧ x < 6) ∧ (∃ x, z (168 + 24 * s + 2) = nI x ∧ x ≤ 6 ∧ ab_on z s ≤ x) ∧ (∃ x, z (168 + 24 * s + 3) = nI x ∧ 1 ≤ x ∧ x ≤ 3) ∧ (z (168 + 24 * s + 4) = nI (ab_on z s) ∧ ab_on z s ≤ 6)
def InvZ (z : Nat → Int32) : Prop := (z 5 = nI (ab_ns z) ∧ ab_ns z ≤ 8) ∧ (∀ i, i < 6 → InvRoom z i) ∧ (∀ s, s < ab_ns z → InvSeam z s) ∧ z 2 = ab_sum (fun i => z (6 + 27 * i + 8)) 6 ∧ (∃ p o, z 1 = nI p ∧ z 2 = nI o ∧ p ≤ 999 ∧ o + ab_nsum (ab_q z) 6 + ab_nsum (ab_on z) (ab_ns z) = p)
/-! what the calls do to the row -/
def enterZ (z : Nat → Int32) (i : Nat) (x y : Int32) : Nat → Int32 := upd (upd (upd z (6 + 27 * i + (11 + 2 * ab_q z i)) x) (6 + 27 * i + (11 + 2 * ab_q z i + 1)) y) (6 + 27 * i + 4) (nI (ab_q z i + 1))
def leaveZ (z : Nat → Int32) (i : Nat) : Nat → Int32 := fun j => if j = 6 + 27 * i + 4 then nI (ab_q z i - 1) else if 6 + 27 * i + 11 ≤ j ∧ j < 6 + 27 * i + 11 + 2 * (ab_q z i - 1) then z (j + 2) else z j
def handZ (z : Nat → Int32) (i : Nat) : Nat → Int32 :=
  if ab_q z i = 0 then z else
  if z (6 + 27 * i + 3) = -1 then leaveZ (upd (upd (upd (upd (upd z (6 + 27 * i + 8) (z (6 + 27 * i + 8) + nI 1)) (6 + 27 * i + 9) (z (6 + 27 * i + (11 + 1)))) 2 (z 2 + nI 1)) 3 (z 3 + z (6 + 27 * i + (11 + 1)))) 4 (z (6 + 27 * i + 11))) i else
  let s := (z (6 + 27 * i + 3)).toNatClampNeg
  if z (168 + 24 * s + 4) < z (168 + 24 * s + 2) then leaveZ (upd (upd (upd (upd (upd z (168 + 24 * s + (6 + 3 * ab_on z s)) (z (6 + 27 * i + 11))) (168 + 24 * s + (6 + 3 * ab_on z s + 1)) (z (6 + 27 * i + (11 + 1)))) (168 + 24 * s + (6 + 3 * ab_on z s + 2)) (nI 0)) (168 + 24 * s + 4) (nI (ab_on z s + 1))) (168 + 24 * s + 5) (z (168 + 24 * s + 5) + nI 1)) i else
  upd z (6 + 27 * i + 7) (z (6 + 27 * i + 7) + nI 1)
/-- the seams before n, into the room i, grow -/
def growZ (z : Nat → Int32) (i n : Nat) : Nat → Int32 := fun j => if 168 ≤ j ∧ (j - 168) / 24 < n ∧ z (168 + 24 * ((j - 168) / 24) + 1) = nI i ∧ 6 ≤ (j - 168) % 24 ∧ (j - 168) % 24 < 6 + 3 * ab_on z ((j - 168) / 24) ∧ (j - 168) % 3 = 2 ∧ z j < z (168 + 24 * ((j - 168) / 24) + 3) then z j + nI 1 else z j
/-- whether the room i can take from the seam s -/
def ab_ripe (z : Nat → Int32) (i s : Nat) : Bool := decide (z (168 + 24 * s + 1) = nI i) && (decide (0 < ab_on z s) && decide (z (168 + 24 * s + (6 + 2)) = z (168 + 24 * s + 3)))
/-- the lowest number of the n from k on that p takes; -1 if none -/
def ab_fst (p : Nat → Bool) : Nat → Nat → Int32
  | _, 0 => -1
  | k, n + 1 => if p k = true then nI k else ab_fst p (k + 1) n
def ab_pick (z : Nat → Int32) (i : Nat) : Int32 := if ab_fst (fun s => ab_ripe z i s && decide (z (6 + 27 * i + 10) < nI s)) 0 (ab_ns z) = -1 then ab_fst (ab_ripe z i) 0 (ab_ns z) else ab_fst (fun s => ab_ripe z i s && decide (z (6 + 27 * i + 10) < nI s)) 0 (ab_ns z)
def dropZ (z : Nat → Int32) (s : Nat) : Nat → Int32 := fun j => if j = 168 + 24 * s + 4 then nI (ab_on z s - 1) else if 168 + 24 * s + 6 ≤ j ∧ j < 168 + 24 * s + 6 + 3 * (ab_on z s - 1) then z (j + 3) else z j
def takeZ (z : Nat → Int32) (i : Nat) : Nat → Int32 := if ab_q z i = 8 then z else if ab_pick z i = -1 then z else dropZ (upd (enterZ z i (z (168 + 24 * (ab_pick z i).toNatClampNeg + 6)) (z (168 + 24 * (ab_pick z i).toNatClampNeg + (6 + 1)))) (6 + 27 * i + 10) (ab_pick z i)) (ab_pick z i).toNatClampNeg
def dueZ (z : Nat → Int32) (i : Nat) : Bool := decide (z (6 + 27 * i + 2) = nI 1) && decide (z 0 - z 0 / z (6 + 27 * i) * z (6 + 27 * i) = z (6 + 27 * i + 1))
def beatZ (z : Nat → Int32) (i : Nat) : Nat → Int32 := if dueZ z i = true then (if 0 < z (6 + 27 * i + 5) then upd (upd z (6 + 27 * i + 5) (z (6 + 27 * i + 5) - nI 1)) (6 + 27 * i + 6) (z (6 + 27 * i + 6) + nI 1) else takeZ (growZ (handZ z i) i (ab_ns z)) i) else z
def roomsZ (z : Nat → Int32) : Nat → Nat → Int32
  | 0 => z
  | n + 1 => beatZ (roomsZ z n) n
def tickZ (z : Nat → Int32) : Nat → Int32 := upd (roomsZ z 6) 0 (roomsZ z 6 0 + nI 1)
def ticksZ (z : Nat → Int32) : Nat → Nat → Int32
  | 0 => z
  | n + 1 => tickZ (ticksZ z n)
/-! reading a changed row -/
theorem ab_upd_eq {z : Nat → Int32} {k j : Nat} {x : Int32} (h : j = k) : upd z k x j = x := by unfold upd; rw [if_pos h]
theorem ab_upd_ne {z : Nat → Int32} {k j : Nat} {x : Int32} (h : j ≠ k) : upd z k x j = z j := by unfold upd; rw [if_neg h]
theorem ab_mdrop_len {f : Nat → Nat → Int32} {a n i b j : Nat} (h : b = a ∧ j = 1) : ab_mdrop f a n i b j = nI (n - 1) := by unfold ab_mdrop; rw [if_pos h]
theorem ab_mdrop_cell {f : Nat → Nat → Int32} {a n i b j : Nat} (h : b = a + 1 ∧ j < i) : ab_mdrop f a n i b j = f (a + 1) (j + 3) := by unfold ab_mdrop; rw [if_neg (by omega), if_pos h]
theorem ab_mdrop_ne {f : Nat → Nat → Int32} {a n i b j : Nat} (h : ¬ (b = a ∧ j = 1) ∧ ¬ (b = a + 1 ∧ j < i)) : ab_mdrop f a n i b j = f b j := by unfold ab_mdrop; rw [if_neg h.1, if_neg h.2]
theorem ab_mgrow_ne {f : Nat → Nat → Int32} {a i b j : Nat} {x : Int32} (h : b ≠ a + 1 ∨ i ≤ j ∨ j % 3 ≠ 2) : ab_mgrow f a x i b j = f b j := by unfold ab_mgrow; rw [if_neg]; intro q; omega
theorem ab_mcopy_len {f : Nat → Nat → Int32} {a a2 i b j : Nat} (h : b = a ∧ j = 1) : ab_mcopy f a a2 i b j = f a2 1 := by unfold ab_mcopy; rw [if_pos h]
theorem ab_mcopy_cell {f : Nat → Nat → Int32} {a a2 i b j : Nat} (h : b = a + 1 ∧ j < i) : ab_mcopy f a a2 i b j = f (a2 + 1) j := by unfold ab_mcopy; rw [if_neg (by omega), if_pos h]
theorem ab_mcopy_ne {f : Nat → Nat → Int32} {a a2 i b j : Nat} (h : ¬ (b = a ∧ j = 1) ∧ ¬ (b = a + 1 ∧ j < i)) : ab_mcopy f a a2 i b j = f b j := by unfold ab_mcopy; rw [if_neg h.1, if_neg h.2]
theorem ab_leave_len {z : Nat → Int32} {i j : Nat} (h : j = 6 + 27 * i + 4) : leaveZ z i j = nI (ab_q z i - 1) := by unfold leaveZ; rw [if_pos h]
theorem ab_leave_cell {z : Nat → Int32} {i j : Nat} (h : 6 + 27 * i + 11 ≤ j ∧ j < 6 + 27 * i + 11 + 2 * (ab_q z i - 1)) : leaveZ z i j = z (j + 2) := by unfold leaveZ; rw [if_neg (by omega), if_pos h]
theorem ab_leave_ne {z : Nat → Int32} {i j : Nat} (h : j ≠ 6 + 27 * i + 4 ∧ ¬ (6 + 27 * i + 11 ≤ j ∧ j < 6 + 27 * i + 11 + 2 * (ab_q z i - 1))) : leaveZ z i j = z j := by unfold leaveZ; rw [if_neg h.1, if_neg h.2]
theorem ab_drop_len {z : Nat → Int32} {i j : Nat} (h : j = 168 + 24 * i + 4) : dropZ z i j = nI (ab_on z i - 1) := by unfold dropZ; rw [if_pos h]
theorem ab_drop_cell {z : Nat → Int32} {i j : Nat} (h : 168 + 24 * i + 6 ≤ j ∧ j < 168 + 24 * i + 6 + 3 * (ab_on z i - 1)) : dropZ z i j = z (j + 3) := by unfold dropZ; rw [if_neg (by omega), if_pos h]
theorem ab_drop_ne {z : Nat → Int32} {i j : Nat} (h : j ≠ 168 + 24 * i + 4 ∧ ¬ (168 + 24 * i + 6 ≤ j ∧ j < 168 + 24 * i + 6 + 3 * (ab_on z i - 1))) : dropZ z i j = z j := by unfold dropZ; rw [if_neg h.1, if_neg h.2]
/-! the picture's parts where nothing of theirs has changed -/
theorem PicRoom.same {f f' : Nat → Nat → Int32} {z z' : Nat → Int32} {r i : Nat} (h : PicRoom f r z i) (hf : ∀ b, r ≤ b → b < r + 3 → ∀ j, f' b j = f b j) (hz : ∀ j, 6 + 27 * i ≤ j → j < 6 + 27 * i + 27 → z' j = z j) (hq : ab_q z i ≤ 8) : PicRoom f' r z' i := by
  have eq : ab_q z' i = ab_q z i := by unfold ab_q; rw [hz _ (by omega) (by omega)]
  refine ⟨fun k hk => ?_, fun k hk => ?_⟩
  · have e : ab_rp f' r k = ab_rp f r k := by
      unfold ab_rp
      rw [hf (r + 1) (by omega) (by omega), hf r (by omega) (by omega), hf r (by omega) (by omega)]
    rw [e, hz _ (by omega) (by omega)]
    exact h.1 k hk
  · rw [eq] at hk
    rw [hf _ (by omega) (by omega), hf _ (by omega) (by omega), hz _ (by omega) (by omega), hz _ (by omega) (by omega)]
    exact h.2 k hk
theorem PicSeam.same {f f' : Nat → Nat → Int32} {z z' : Nat → Int32} {t s : Nat} (h : PicSeam f t z s) (hf : ∀ b, t ≤ b → b < t + 3 → ∀ j, f' b j = f b j) (hz : ∀ j, 168 + 24 * s ≤ j → j < 168 + 24 * s + 24 → z' j = z j) (hq : ab_on z s ≤ 6) : PicSeam f' t z' s := by
  have eq : ab_on z' s = ab_on z s := by unfold ab_on; rw [hz _ (by omega) (by omega)]
  refine ⟨fun k hk => ?_, fun k j hk hj => ?_⟩
  · have e : ab_sp f' t k = ab_sp f t k := by
      unfold ab_sp
      rw [hf (t + 1) (by omega) (by omega), hf t (by omega) (by omega), hf t (by omega) (by omega)]
    rw [e, hz _ (by omega) (by omega)]
    exact h.1 k hk
  · rw [eq] at hk
    rw [hf _ (by omega) (by omega), hz _ (by omega) (by omega)]
    exact h.2 k j hk hj
theorem PicRoom.len {f : Nat → Nat → Int32} {z : Nat → Int32} {r i : Nat} (h : PicRoom f r z i) (hz : InvRoom z i) : f (r + 1) 1 = nI (ab_q z i) := by
  have := h.1 4 (by omega)
  unfold ab_rp at this
  rw [if_pos rfl] at this
  rw [this]
  exact hz.2.2.2.1.1
theorem PicSeam.len {f : Nat → Nat → Int32} {z : Nat → Int32} {t s : Nat} (h : PicSeam f t z s) (hz : InvSeam z s) : f (t + 1) 1 = nI (ab_on z s) := by
  have := h.1 4 (by omega)
  unfold ab_sp at this
  rw [if_pos rfl] at this
  rw [this]
  exact hz.2.2.2.2.1
