/-! The classes: what the rows of fields want. -/
def ab_lis : List (List Nat) := [[185, 187], [62, 64], [93, 95, 97, 99, 101, 103, 105, 107, 109, 111, 113], [135, 137, 139, 141, 143, 145], [158, 160, 162, 164, 166, 168, 170], [198, 200], [207, 209, 211, 213]]
def ab_li (c k : Nat) : Nat := (ab_lis.getD c []).getD k 0
def ab_ftok (c k : Nat) : Bool := match ab_ft c k, ab_ty c k with
  | 0, .int => true
  | 3, .boolean => true
  | 2, .long => true
  | 1, .object _ => true
  | 1, .array _ => true
  | _, _ => false
theorem ab_lw0 : ∀ k, k < 2 → ab_ok (ab_li 0 k) (u_lay (ab_CN 0) (ab_T 0) k) = true := by decide +kernel
theorem ab_fo0 : ∀ k, k < 2 → ab_ftok 0 k = true := by decide +kernel
theorem ab_lw1 : ∀ k, k < 2 → ab_ok (ab_li 1 k) (u_lay (ab_CN 1) (ab_T 1) k) = true := by decide +kernel
theorem ab_fo1 : ∀ k, k < 2 → ab_ftok 1 k = true := by decide +kernel
theorem ab_lw2 : ∀ k, k < 11 → ab_ok (ab_li 2 k) (u_lay (ab_CN 2) (ab_T 2) k) = true := by decide +kernel
theorem ab_fo2 : ∀ k, k < 11 → ab_ftok 2 k = true := by decide +kernel
theorem ab_lw3 : ∀ k, k < 6 → ab_ok (ab_li 3 k) (u_lay (ab_CN 3) (ab_T 3) k) = true := by decide +kernel
theorem ab_fo3 : ∀ k, k < 6 → ab_ftok 3 k = true := by decide +kernel
theorem ab_lw4 : ∀ k, k < 7 → ab_ok (ab_li 4 k) (u_lay (ab_CN 4) (ab_T 4) k) = true := by decide +kernel
theorem ab_fo4 : ∀ k, k < 7 → ab_ftok 4 k = true := by decide +kernel
theorem ab_lw5 : ∀ k, k < 2 → ab_ok (ab_li 5 k) (u_lay (ab_CN 5) (ab_T 5) k) = true := by decide +kernel
theorem ab_fo5 : ∀ k, k < 2 → ab_ftok 5 k = true := by decide +kernel
theorem ab_lw6 : ∀ k, k < 4 → ab_ok (ab_li 6 k) (u_lay (ab_CN 6) (ab_T 6) k) = true := by decide +kernel
theorem ab_fo6 : ∀ k, k < 4 → ab_ftok 6 k = true := by decide +kernel
abbrev ab_CKP (c : Nat) : Prop := vwCl[c]? = some (ab_CN c, ab_T c, ab_nf c) ∧ (∀ w ∈ u_ws (ab_CN c) (ab_T c) (ab_nf c), w ∈ ab_gw) ∧ (∀ k, k < ab_nf c → parseFieldDescriptor (ab_T c k).2.2.1 = some (ab_ty c k)) ∧ (∀ a, a < ab_nf c → ∀ b, b < ab_nf c → a ≠ b → (ab_T c a).2.1 ≠ (ab_T c b).2.1) ∧ (∀ k, k < ab_nf c → ab_ftok c k = true)
theorem ab_wsin {C : String} {T : u_T} {N c : Nat} (h : ∀ k, k < N → ab_ok (ab_li c k) (u_lay C T k) = true) : ∀ w ∈ u_ws C T N, w ∈ ab_gw := by
  intro w hw
  obtain ⟨k, hk, rfl⟩ := List.mem_map.mp hw
  exact ab_ok_in (h k (List.mem_range.mp hk))
theorem ab_CK0 : ab_CKP 0 := ⟨rfl, ab_wsin ab_lw0, tyX0_ok, nmX0, ab_fo0⟩
theorem ab_CK1 : ab_CKP 1 := ⟨rfl, ab_wsin ab_lw1, tyX1_ok, nmX1, ab_fo1⟩
theorem ab_CK2 : ab_CKP 2 := ⟨rfl, ab_wsin ab_lw2, tyX2_ok, nmX2, ab_fo2⟩
theorem ab_CK3 : ab_CKP 3 := ⟨rfl, ab_wsin ab_lw3, tyX3_ok, nmX3, ab_fo3⟩
theorem ab_CK4 : ab_CKP 4 := ⟨rfl, ab_wsin ab_lw4, tyX4_ok, nmX4, ab_fo4⟩
theorem ab_CK5 : ab_CKP 5 := ⟨rfl, ab_wsin ab_lw5, tyX5_ok, nmX5, ab_fo5⟩
theorem ab_CK6 : ab_CKP 6 := ⟨rfl, ab_wsin ab_lw6, tyX6_ok, nmX6, ab_fo6⟩
theorem ab_CK {c : Nat} (hc : c < 7) : ab_CKP c := match c, hc with
  | 0, _ => ab_CK0
  | 1, _ => ab_CK1
  | 2, _ => ab_CK2
  | 3, _ => ab_CK3
  | 4, _ => ab_CK4
  | 5, _ => ab_CK5
  | 6, _ => ab_CK6
  | n + 7, h => absurd h (by omega)
