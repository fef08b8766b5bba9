/-! Common rows for the runs: numbers, heaps, locals. -/
def ab_S (h : ab_Hp) (f : Nat → Nat → Int32) (g : Nat → Nat → Option Nat) (l : Nat → Nat → Int64) : ab_Hp := (h.1, h.2.1, h.2.2.1, h.2.2.2.1, f, g, l)
section AbBase
variable {h : ab_Hp} {f : Nat → Nat → Int32} {g : Nat → Nat → Option Nat} {l : Nat → Nat → Int64}
theorem ab_S_self : ab_S h (ab_hi h) (ab_hr h) (ab_hl h) = h := rfl
theorem ab_hi_S : ab_hi (ab_S h f g l) = f := rfl
theorem ab_hr_S : ab_hr (ab_S h f g l) = g := rfl
theorem ab_hl_S : ab_hl (ab_S h f g l) = l := rfl
theorem ab_sh_S : ab_sh (ab_S h f g l) = ab_sh h := rfl
theorem ab_setI_S (f' : Nat → Nat → Int32) : ab_setI (ab_S h f g l) f' = ab_S h f' g l := rfl
theorem ab_setR_S (g' : Nat → Nat → Option Nat) : ab_setR (ab_S h f g l) g' = ab_S h f g' l := rfl
theorem ab_setL_S (l' : Nat → Nat → Int64) : ab_setL (ab_S h f g l) l' = ab_S h f g l' := rfl
theorem ab_thr_S : ab_thr (ab_S h f g l) = ab_S (ab_thr h) f g l := rfl
theorem ab_sh_thr : ab_sh (ab_thr h) = ab_sh h := rfl
theorem ab_isA_ref (r : Nat) : ab_isA (.ref r) = true := rfl
theorem ab_isA_null : ab_isA .null = true := rfl
theorem ab_clr_int (x : Int32) : ab_clr (.int x) = .int x := rfl
theorem ab_clr_ref (x : Nat) : ab_clr (.ref x) = .ref x := rfl
theorem ab_clr_null : ab_clr .null = .null := rfl
theorem ab_clr_nov : ab_clr ab_nov = ab_nov := rfl
theorem ab_clr_long (x : Int64) : ab_clr (.long x) = ab_nov := rfl
theorem ab_clr_dbl (x : UInt64) : ab_clr (.double x) = ab_nov := rfl
theorem ab_dK {a kd n : Nat} (e : ab_sh h a = (kd, n)) : (ab_sh (ab_S h f g l) a).1 = kd := by rw [ab_sh_S, e]
theorem ab_dL {a kd n : Nat} (e : ab_sh h a = (kd, n)) (hk : 1 ≤ kd ∧ kd ≤ 6) : 1 ≤ (ab_sh (ab_S h f g l) a).1 ∧ (ab_sh (ab_S h f g l) a).1 ≤ 6 := by rw [ab_sh_S, e]; exact hk
theorem ab_in_nI {a n : Nat} (h : a < n) (ha : a < 2147483648) : ab_in (nI a) n = true := by
  have h1 : (0 : Int32) ≤ nI a := nI_pos' (by omega)
  simp [ab_in, h1, nI_clamp (show a < 2 ^ 31 by omega), h]
theorem ab_dI {a n x : Nat} (e : ab_sh h a = (1, n)) (hx : x < n) (hx2 : x < 2147483648) : ((ab_sh (ab_S h f g l) a).1 = 1 ∨ (ab_sh (ab_S h f g l) a).1 = 6) ∧ ab_in (nI x) (ab_sh (ab_S h f g l) a).2 = true := by rw [ab_sh_S, e]; exact ⟨Or.inl rfl, ab_in_nI hx hx2⟩
theorem ab_dI6 {a n x : Nat} (e : ab_sh h a = (6, n)) (hx : x < n) (hx2 : x < 2147483648) : ((ab_sh (ab_S h f g l) a).1 = 1 ∨ (ab_sh (ab_S h f g l) a).1 = 6) ∧ ab_in (nI x) (ab_sh (ab_S h f g l) a).2 = true := by rw [ab_sh_S, e]; exact ⟨Or.inr rfl, ab_in_nI hx hx2⟩
theorem ab_dIs {a n x : Nat} (e : ab_sh h a = (1, n)) (hx : x < n) (hx2 : x < 2147483648) : (ab_sh (ab_S h f g l) a).1 = 1 ∧ ab_in (nI x) (ab_sh (ab_S h f g l) a).2 = true := by rw [ab_sh_S, e]; exact ⟨rfl, ab_in_nI hx hx2⟩
theorem ab_dJ {a n x : Nat} (e : ab_sh h a = (2, n)) (hx : x < n) (hx2 : x < 2147483648) : (ab_sh (ab_S h f g l) a).1 = 2 ∧ ab_in (nI x) (ab_sh (ab_S h f g l) a).2 = true := by rw [ab_sh_S, e]; exact ⟨rfl, ab_in_nI hx hx2⟩
theorem ab_dA {a kd n x : Nat} (e : ab_sh h a = (kd, n)) (hk : 3 ≤ kd ∧ kd ≤ 5) (hx : x < n) (hx2 : x < 2147483648) : (3 ≤ (ab_sh (ab_S h f g l) a).1 ∧ (ab_sh (ab_S h f g l) a).1 ≤ 5) ∧ ab_in (nI x) (ab_sh (ab_S h f g l) a).2 = true := by rw [ab_sh_S, e]; exact ⟨hk, ab_in_nI hx hx2⟩
theorem ab_dAs {a p kd n m x : Nat} (e : ab_sh h a = (kd, n)) (ep : ab_sh h p = (10 + (kd - 1), m)) (hk : 3 ≤ kd ∧ kd ≤ 5) (hx : x < n) (hx2 : x < 2147483648) : ((3 ≤ (ab_sh (ab_S h f g l) a).1 ∧ (ab_sh (ab_S h f g l) a).1 ≤ 5) ∧ (ab_sh (ab_S h f g l) p).1 = 10 + ab_ac (ab_sh (ab_S h f g l) a).1) ∧ ab_in (nI x) (ab_sh (ab_S h f g l) a).2 = true := by rw [ab_sh_S, e, ep]; exact ⟨⟨hk, rfl⟩, ab_in_nI hx hx2⟩
end AbBase
/-! numbers -/
theorem ab_nadd (a b : Nat) : nI a + nI b = nI (a + b) := (nI_add a b).trans rfl
theorem ab_nmul (a b : Nat) : nI a * nI b = nI (a * b) := (Int32.ofNat_mul a b).symm
theorem ab_nsub {a b : Nat} (h : b ≤ a) : nI a - nI b = nI (a - b) := by
  have e : nI a = nI (a - b) + nI b := by rw [ab_nadd]; congr 1; omega
  rw [e]
  exact Int32.add_sub_cancel _ _
theorem ab_nclamp {a : Nat} (ha : a < 2147483648) : (nI a).toNatClampNeg = a := nI_clamp (by omega)
theorem ab_nlt {a b : Nat} (ha : a < 2147483648) (hb : b < 2147483648) : (nI a < nI b) = (a < b) := by
  apply propext
  rw [Int32.lt_iff_toInt_lt, nI_toInt (by omega), nI_toInt (by omega)]
  omega
theorem ab_nle {a b : Nat} (ha : a < 2147483648) (hb : b < 2147483648) : (nI a ≤ nI b) = (a ≤ b) := by
  apply propext
  rw [Int32.le_iff_toInt_le, nI_toInt (by omega), nI_toInt (by omega)]
  omega
theorem ab_neq {a b : Nat} (ha : a < 2147483648) (hb : b < 2147483648) : (nI a = nI b) = (a = b) := by
  apply propext
  constructor
  · intro h
    have := congrArg Int32.toInt h
    rw [nI_toInt (by omega), nI_toInt (by omega)] at this
    omega
  · intro h; rw [h]
theorem ab_nlt0 {a : Nat} (ha : a < 2147483648) : (nI a < 0) = False := by
  apply propext
  rw [Int32.lt_iff_toInt_lt, nI_toInt (by omega), Int32.toInt_zero]
  simp
theorem ab_n0lt {a : Nat} (ha : a < 2147483648) : ((0 : Int32) < nI a) = (0 < a) := by
  apply propext
  rw [Int32.lt_iff_toInt_lt, nI_toInt (by omega), Int32.toInt_zero]
  omega
theorem ab_nle0 {a : Nat} (ha : a < 2147483648) : ((0 : Int32) ≤ nI a) = True := by
  apply propext
  rw [Int32.le_iff_toInt_le, nI_toInt (by omega), Int32.toInt_zero]
  simp
theorem ab_nle00 {a : Nat} (ha : a < 2147483648) : (nI a ≤ 0) = (a = 0) := by
  apply propext
  rw [Int32.le_iff_toInt_le, nI_toInt (by omega), Int32.toInt_zero]
  omega
theorem ab_neq0 {a : Nat} (ha : a < 2147483648) : (nI a = 0) = (a = 0) := ab_neq (b := 0) ha (by omega)
theorem ab_nm1 {a : Nat} (ha : a < 2147483648) : (nI a = -1) = False := by
  apply propext
  constructor
  · intro h
    have := congrArg Int32.toInt h
    rw [nI_toInt (by omega)] at this
    have h2 : ((-1 : Int32)).toInt = -1 := by decide
    omega
  · intro h; exact h.elim
theorem ab_m1n {a : Nat} (ha : a < 2147483648) : ((-1 : Int32) = nI a) = False := (propext ⟨fun h => h.symm, fun h => h.symm⟩ : ((-1 : Int32) = nI a) = (nI a = -1)).trans (ab_nm1 ha)
theorem ab_m1lt {a : Nat} (ha : a < 2147483648) : ((-1 : Int32) < nI a) = True := by
  apply propext
  have h2 : ((-1 : Int32)).toInt = -1 := by decide
  rw [Int32.lt_iff_toInt_lt, nI_toInt (by omega), h2]
  constructor
  · intro _; trivial
  · intro _; omega
theorem ab_nltm1 {a : Nat} (ha : a < 2147483648) : (nI a < (-1 : Int32)) = False := by
  apply propext
  have h2 : ((-1 : Int32)).toInt = -1 := by decide
  rw [Int32.lt_iff_toInt_lt, nI_toInt (by omega), h2]
  constructor
  · intro _; omega
  · intro h; exact h.elim
theorem ab_nlem1 {a : Nat} (ha : a < 2147483648) : (nI a ≤ (-1 : Int32)) = False := by
  apply propext
  have h2 : ((-1 : Int32)).toInt = -1 := by decide
  rw [Int32.le_iff_toInt_le, nI_toInt (by omega), h2]
  constructor
  · intro _; omega
  · intro h; exact h.elim
theorem ab_m1le {a : Nat} (ha : a < 2147483648) : ((-1 : Int32) ≤ nI a) = True := by
  apply propext
  have h2 : ((-1 : Int32)).toInt = -1 := by decide
  rw [Int32.le_iff_toInt_le, nI_toInt (by omega), h2]
  constructor
  · intro _; trivial
  · intro _; omega
theorem ab_m1lt0 : ((-1 : Int32) < 0) = True := eq_true (by decide)
theorem ab_0lem1 : ((0 : Int32) ≤ -1) = False := eq_false (by decide)
theorem ab_m1eq0 : ((-1 : Int32) = 0) = False := eq_false (by decide)
theorem ab_m1eqm1 : ((-1 : Int32) = -1) = True := eq_true rfl
theorem ab_ltT {a b : Nat} (h : a < b) : (a < b) = True := eq_true h
theorem ab_ltF {a b : Nat} (h : b ≤ a) : (a < b) = False := eq_false (by omega)
theorem ab_leT {a b : Nat} (h : a ≤ b) : (a ≤ b) = True := eq_true h
theorem ab_leF {a b : Nat} (h : b < a) : (a ≤ b) = False := eq_false (by omega)
theorem ab_eqT {a b : Nat} (h : a = b) : (a = b) = True := eq_true h
theorem ab_eqF {a b : Nat} (h : a ≠ b) : (a = b) = False := eq_false h
theorem ab_b0 {P : Prop} [Decidable P] : ((if P then nI 1 else nI 0) = (0 : Int32)) = ¬ P := by
  by_cases hp : P
  · rw [if_pos hp]; exact propext ⟨fun h => absurd h (by decide), fun h => absurd hp h⟩
  · rw [if_neg hp]; exact propext ⟨fun _ => hp, fun _ => rfl⟩
theorem ab_b01 {P : Prop} [Decidable P] : (if P then nI 1 else nI 0) = (0 : Int32) ∨ (if P then nI 1 else nI 0) = (1 : Int32) := by
  by_cases hp : P
  · rw [if_pos hp]; exact Or.inr rfl
  · rw [if_neg hp]; exact Or.inl rfl
theorem ab_u_at {α : Type} (f : Nat → Nat → α) (a k : Nat) (x : α) : ab_u f a k x a k = x := by simp [ab_u]
theorem ab_u_ne {α : Type} {f : Nat → Nat → α} {a k b j : Nat} {x : α} (h : b ≠ a ∨ j ≠ k) : ab_u f a k x b j = f b j := by
  unfold ab_u
  rw [if_neg]
  intro q
  rcases h with h | h
  · exact h q.1
  · exact h q.2
theorem ab_u_eq {α : Type} {f : Nat → Nat → α} {a k b j : Nat} {x : α} (h : b = a ∧ j = k) : ab_u f a k x b j = x := by
  unfold ab_u
  rw [if_pos h]
theorem ab_not_true : (¬ True) = False := eq_false (fun h => h trivial)
theorem ab_not_false : (¬ False) = True := eq_true (fun h => h)
def ab_cnt (p : Nat → Bool) : Nat → Nat
  | 0 => 0
  | n + 1 => ab_cnt p n + (if p n = true then 1 else 0)
def ab_any (p : Nat → Bool) : Nat → Bool
  | 0 => false
  | n + 1 => ab_any p n || p n
theorem ab_cnt_le (p : Nat → Bool) : ∀ n, ab_cnt p n ≤ n := by
  intro n
  induction n with
  | zero => exact Nat.le_refl 0
  | succ n ih =>
    simp only [ab_cnt]
    split <;> omega
theorem ab_any_of {p : Nat → Bool} {k : Nat} : ∀ {n : Nat}, k < n → p k = true → ab_any p n = true := by
  intro n
  induction n with
  | zero => intro h; omega
  | succ n ih =>
    intro h hp
    simp only [ab_any, Bool.or_eq_true]
    by_cases hk : k = n
    · subst hk; exact Or.inr hp
    · exact Or.inl (ih (by omega) hp)
theorem ab_any_none {p : Nat → Bool} : ∀ {n : Nat}, (∀ k, k < n → p k = false) → ab_any p n = false := by
  intro n
  induction n with
  | zero => intro _; rfl
  | succ n ih =>
    intro h
    simp only [ab_any, Bool.or_eq_false_iff]
    exact ⟨ih (fun k hk => h k (by omega)), h n (by omega)⟩
theorem ab_any_ex {p : Nat → Bool} : ∀ {n : Nat}, ab_any p n = true → ∃ k, k < n ∧ p k = true := by
  intro n
  induction n with
  | zero => intro h; cases h
  | succ n ih =>
    intro h
    simp only [ab_any, Bool.or_eq_true] at h
    rcases h with h | h
    · obtain ⟨k, h1, h2⟩ := ih h
      exact ⟨k, by omega, h2⟩
    · exact ⟨n, by omega, h⟩
theorem ab_cnt_congr {p q : Nat → Bool} : ∀ {n : Nat}, (∀ k, k < n → p k = q k) → ab_cnt p n = ab_cnt q n := by
  intro n
  induction n with
  | zero => intro _; rfl
  | succ n ih =>
    intro h
    simp only [ab_cnt]
    rw [ih (fun k hk => h k (by omega)), h n (by omega)]
theorem ab_any_congr {p q : Nat → Bool} : ∀ {n : Nat}, (∀ k, k < n → p k = q k) → ab_any p n = ab_any q n := by
  intro n
  induction n with
  | zero => intro _; rfl
  | succ n ih =>
    intro h
    simp only [ab_any]
    rw [ih (fun k hk => h k (by omega)), h n (by omega)]
theorem ab_bT {b : Bool} (h : b = true) : (if b = true then nI 1 else nI 0) = nI 1 := by rw [if_pos h]
theorem ab_bF {b : Bool} (h : b = false) : (if b = true then nI 1 else nI 0) = nI 0 := by rw [if_neg (by rw [h]; decide)]
theorem ab_leFi {x y : Int32} (h : y < x) : (x ≤ y) = False := eq_false (Int32.not_le.mpr h)
theorem ab_leTi {x y : Int32} (h : ¬ y < x) : (x ≤ y) = True := eq_true (Int32.not_lt.mp h)
