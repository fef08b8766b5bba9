/-! The buffer: it stays empty here. -/
def PicT (s : Nat → Nat × Nat) (f : Nat → Nat → Int32) (g : Nat → Nat → Option Nat) (T n : Nat) (cs : Nat → Nat) : Prop := (s T = (15, 0) ∧ s (T + 1) = (1, 60) ∧ g T 0 = some (T + 1) ∧ f T 1 = nI n ∧ n ≤ 60) ∧ ∀ i, i < n → f (T + 1) i = nI (cs i) ∧ 33 ≤ cs i ∧ cs i ≤ 126
