/-! What the steps' functions of part 05 say, by their shapes. -/
section AbShapes
variable {n i ci kf : Nat} {ls st : List Value} {h : ab_Hp} {r : Nat × List Value × List Value × ab_Hp}
theorem ab_isI_spec {v : Value} (h : ab_isI v = true) : ∃ x, v = .int x := by cases v <;> first | exact ⟨_, rfl⟩ | cases h
theorem ab_isL_spec {v : Value} (h : ab_isL v = true) : ∃ x, v = .long x := by cases v <;> first | exact ⟨_, rfl⟩ | cases h
theorem ab_isD_spec {v : Value} (h : ab_isD v = true) : ∃ x, v = .double x := by cases v <;> first | exact ⟨_, rfl⟩ | cases h
theorem ab_isA_spec {v : Value} (h : ab_isA v = true) : v = .null ∨ ∃ x, v = .ref x := by cases v <;> first | exact Or.inl rfl | exact Or.inr ⟨_, rfl⟩ | cases h
theorem ab_isV_of {v : Value} (h : v.category = 2 ∨ ab_isA v = true ∨ ab_isI v = true) : ab_isV v = true := by
  cases v <;> first | rfl | (exfalso; rcases h with h | h | h <;> cases h)
theorem ab_ld_spec {p : Value → Bool} (e : ab_ld p i n ls st h = some r) : p (ab_get ls i) = true ∧ r = (n, ls, ab_get ls i :: st, h) := by
  unfold ab_ld at e
  split at e
  · rename_i hp; cases e; exact ⟨hp, rfl⟩
  · cases e
theorem ab_s1_spec {p : Value → Bool} (e : ab_s1 p i n ls st h = some r) : ∃ v rest, st = v :: rest ∧ p v = true ∧ r = (n, ab_st1 ls i v, rest, h) := by
  unfold ab_s1 at e
  split at e
  · cases e
  · split at e
    · rename_i hp; cases e; exact ⟨_, _, rfl, hp, rfl⟩
    · cases e
theorem ab_s2_spec {p : Value → Bool} (e : ab_s2 p i n ls st h = some r) : ∃ v rest, st = v :: rest ∧ p v = true ∧ r = (n, ab_st2 ls i v, rest, h) := by
  unfold ab_s2 at e
  split at e
  · cases e
  · split at e
    · rename_i hp; cases e; exact ⟨_, _, rfl, hp, rfl⟩
    · cases e
theorem ab_ii_spec {f : Int32 → Int32 → Int32} (e : ab_ii f n ls st h = some r) : ∃ x y rest, st = .int y :: .int x :: rest ∧ r = (n, ls, .int (f x y) :: rest, h) := by
  unfold ab_ii at e
  split at e
  · cases e; exact ⟨_, _, _, rfl, rfl⟩
  · cases e
theorem ab_ll_spec {f : Int64 → Int64 → Int64} (e : ab_ll f n ls st h = some r) : ∃ x y rest, st = .long y :: .long x :: rest ∧ r = (n, ls, .long (f x y) :: rest, h) := by
  unfold ab_ll at e
  split at e
  · cases e; exact ⟨_, _, _, rfl, rfl⟩
  · cases e
theorem ab_dd_spec {f : UInt64 → UInt64 → UInt64} (e : ab_dd f n ls st h = some r) : ∃ x y rest, st = .double y :: .double x :: rest ∧ vf_n64 (f x y) ∧ r = (n, ls, .double (f x y) :: rest, h) := by
  unfold ab_dd at e
  split at e
  · split at e
    · rename_i hn; cases e; exact ⟨_, _, _, rfl, hn, rfl⟩
    · cases e
  · cases e
theorem ab_gf_spec (e : ab_gf ci kf n ls st h = some r) : ∃ a rest, st = .ref a :: rest ∧ (ab_sh h a).1 = 10 + ci ∧ r = (n, ls, ab_fv h ci a kf :: rest, h) := by
  unfold ab_gf at e
  split at e
  · split at e
    · rename_i hn; cases e; exact ⟨_, _, rfl, hn, rfl⟩
    · cases e
  · cases e
theorem ab_pf_spec (e : ab_pf ci kf n ls st h = some r) : ∃ v a rest h', st = v :: .ref a :: rest ∧ (ab_sh h a).1 = 10 + ci ∧ ab_wf h ci a kf v = some h' ∧ r = (n, ls, rest, h') := by
  unfold ab_pf at e
  split at e
  · split at e
    · rename_i hn
      split at e
      · rename_i hw; cases e; exact ⟨_, _, _, _, rfl, hn, hw, rfl⟩
      · cases e
    · cases e
  · cases e
theorem ab_al_spec (e : ab_al n ls st h = some r) : ∃ a rest, st = .ref a :: rest ∧ (1 ≤ (ab_sh h a).1 ∧ (ab_sh h a).1 ≤ 6) ∧ r = (n, ls, .int (Int32.ofNat (ab_sh h a).2) :: rest, h) := by
  unfold ab_al at e
  split at e
  · split at e
    · rename_i hn; cases e; exact ⟨_, _, rfl, hn, rfl⟩
    · cases e
  · cases e
theorem ab_ia_spec (e : ab_ia n ls st h = some r) : ∃ a i rest, st = .int i :: .ref a :: rest ∧ ((ab_sh h a).1 = 1 ∨ (ab_sh h a).1 = 6) ∧ ab_in i (ab_sh h a).2 = true ∧ r = (n, ls, .int (ab_hi h a i.toNatClampNeg) :: rest, h) := by
  unfold ab_ia at e
  split at e
  · split at e
    · rename_i hn; cases e; exact ⟨_, _, _, rfl, hn.1, hn.2, rfl⟩
    · cases e
  · cases e
theorem ab_la_spec (e : ab_la n ls st h = some r) : ∃ a i rest, st = .int i :: .ref a :: rest ∧ (ab_sh h a).1 = 2 ∧ ab_in i (ab_sh h a).2 = true ∧ r = (n, ls, .long (ab_hl h a i.toNatClampNeg) :: rest, h) := by
  unfold ab_la at e
  split at e
  · split at e
    · rename_i hn; cases e; exact ⟨_, _, _, rfl, hn.1, hn.2, rfl⟩
    · cases e
  · cases e
theorem ab_aa_spec (e : ab_aa n ls st h = some r) : ∃ a i rest, st = .int i :: .ref a :: rest ∧ (3 ≤ (ab_sh h a).1 ∧ (ab_sh h a).1 ≤ 5) ∧ ab_in i (ab_sh h a).2 = true ∧ r = (n, ls, va_rf (ab_hr h a i.toNatClampNeg) :: rest, h) := by
  unfold ab_aa at e
  split at e
  · split at e
    · rename_i hn; cases e; exact ⟨_, _, _, rfl, hn.1, hn.2, rfl⟩
    · cases e
  · cases e
theorem ab_ias_spec (e : ab_ias n ls st h = some r) : ∃ a i x rest, st = .int x :: .int i :: .ref a :: rest ∧ (ab_sh h a).1 = 1 ∧ ab_in i (ab_sh h a).2 = true ∧ r = (n, ls, rest, ab_setI h (ab_u (ab_hi h) a i.toNatClampNeg x)) := by
  unfold ab_ias at e
  split at e
  · split at e
    · rename_i hn; cases e; exact ⟨_, _, _, _, rfl, hn.1, hn.2, rfl⟩
    · cases e
  · cases e
theorem ab_las_spec (e : ab_las n ls st h = some r) : ∃ a i x rest, st = .long x :: .int i :: .ref a :: rest ∧ (ab_sh h a).1 = 2 ∧ ab_in i (ab_sh h a).2 = true ∧ r = (n, ls, rest, ab_setL h (ab_u (ab_hl h) a i.toNatClampNeg x)) := by
  unfold ab_las at e
  split at e
  · split at e
    · rename_i hn; cases e; exact ⟨_, _, _, _, rfl, hn.1, hn.2, rfl⟩
    · cases e
  · cases e
theorem ab_aas_spec (e : ab_aas n ls st h = some r) : ∃ a i p rest, st = .ref p :: .int i :: .ref a :: rest ∧ (3 ≤ (ab_sh h a).1 ∧ (ab_sh h a).1 ≤ 5) ∧ (ab_sh h p).1 = 10 + ab_ac (ab_sh h a).1 ∧ ab_in i (ab_sh h a).2 = true ∧ r = (n, ls, rest, ab_setR h (ab_u (ab_hr h) a i.toNatClampNeg (some p))) := by
  unfold ab_aas at e
  split at e
  · split at e
    · rename_i hn; cases e; exact ⟨_, _, _, _, rfl, hn.1.1, hn.1.2, hn.2, rfl⟩
    · cases e
  · cases e
theorem ab_mka_spec {kd : Nat} (e : ab_mka kd n ls st h = some r) : ∃ m rest, st = .int m :: rest ∧ ab_nx h ≠ 0 ∧ 0 ≤ m ∧ m.toNatClampNeg ≤ 65536 ∧ r = (n, ls, .ref (ab_nx h) :: rest, ab_new h kd m.toNatClampNeg m.toNatClampNeg) := by
  unfold ab_mka at e
  split at e
  · split at e
    · rename_i hn; cases e; exact ⟨_, _, rfl, hn.1, hn.2.1, hn.2.2, rfl⟩
    · cases e
  · cases e
theorem ab_in_spec {i : Int32} {N : Nat} (e : ab_in i N = true) : vp_in i N := by
  simp only [ab_in, Bool.and_eq_true, decide_eq_true_eq] at e
  intro h
  rcases h with h | h
  · exact absurd e.1 (Int32.not_le.mpr h)
  · omega
/-- what a store into a field changes -/
theorem ab_wf_spec {c a k : Nat} {v : Value} {h' : ab_Hp} (hok : ab_ftok c k = true) (e : ab_wf h c a k v = some h') : (ab_nx h' = ab_nx h ∧ ab_cc h' = ab_cc h ∧ ab_sc h' = ab_sc h ∧ ab_sh h' = ab_sh h) ∧ (∀ z, z ≠ a → ab_hi h' z = ab_hi h z) ∧ (∀ z, z ≠ a → ab_hr h' z = ab_hr h z) ∧ (∀ z, z ≠ a → ab_hl h' z = ab_hl h z) ∧ ab_fv h' c a k = v ∧ (∀ j, j ≠ k → ab_fv h' c a j = ab_fv h c a j) ∧ narrow (ab_ty c k) v = v ∧ fits (ab_ty c k) v = true := by
  unfold ab_wf at e
  unfold ab_ftok at hok
  split at e
  · rename_i x hf
    cases e
    rw [hf] at hok
    have ht : ab_ty c k = .int := by
      split at hok <;> first | assumption | (rename_i h1 h2; cases h1; done) | (rename_i h1; cases h1; done) | cases hok
    rw [ht]
    refine ⟨⟨rfl, rfl, rfl, rfl⟩, fun z hz => ?_, fun z _ => rfl, fun z _ => rfl, ?_, fun j hj => ?_, rfl, rfl⟩
    · funext j; simp [ab_hi, ab_setI, ab_u, hz]
    · unfold ab_fv; rw [hf]; simp [ab_hi, ab_setI, ab_u]
    · have e1 : ab_hi (ab_setI h (ab_u (ab_hi h) a k x)) a j = ab_hi h a j := by simp [ab_hi, ab_setI, ab_u, hj]
      have e2 : ab_hr (ab_setI h (ab_u (ab_hi h) a k x)) a j = ab_hr h a j := rfl
      have e3 : ab_hl (ab_setI h (ab_u (ab_hi h) a k x)) a j = ab_hl h a j := rfl
      unfold ab_fv; rw [e1, e2, e3]
  · rename_i p hf
    cases e
    rw [hf] at hok
    have ht : (∃ C, ab_ty c k = .object C) ∨ ∃ t, ab_ty c k = .array t := by
      split at hok <;> first | exact Or.inl ⟨_, by assumption⟩ | exact Or.inr ⟨_, by assumption⟩ | (rename_i h1 h2; cases h1; done) | (rename_i h1; cases h1; done) | cases hok
    refine ⟨⟨rfl, rfl, rfl, rfl⟩, fun z _ => rfl, fun z hz => ?_, fun z _ => rfl, ?_, fun j hj => ?_, ?_, ?_⟩
    · funext j; simp [ab_hr, ab_setR, ab_u, hz]
    · unfold ab_fv; rw [hf]; simp [ab_hr, ab_setR, ab_u, va_rf]
    · have e2 : ab_hr (ab_setR h (ab_u (ab_hr h) a k (some p))) a j = ab_hr h a j := by simp [ab_hr, ab_setR, ab_u, hj]
      have e1 : ab_hi (ab_setR h (ab_u (ab_hr h) a k (some p))) a j = ab_hi h a j := rfl
      have e3 : ab_hl (ab_setR h (ab_u (ab_hr h) a k (some p))) a j = ab_hl h a j := rfl
      unfold ab_fv; rw [e1, e2, e3]
    · rcases ht with ⟨C, ht⟩ | ⟨t, ht⟩ <;> rw [ht] <;> rfl
    · rcases ht with ⟨C, ht⟩ | ⟨t, ht⟩ <;> rw [ht] <;> rfl
  · rename_i x hf
    cases e
    rw [hf] at hok
    have ht : ab_ty c k = .long := by
      split at hok <;> first | assumption | (rename_i h1 h2; cases h1; done) | (rename_i h1; cases h1; done) | cases hok
    rw [ht]
    refine ⟨⟨rfl, rfl, rfl, rfl⟩, fun z _ => rfl, fun z _ => rfl, fun z hz => ?_, ?_, fun j hj => ?_, rfl, rfl⟩
    · funext j; simp [ab_hl, ab_setL, ab_u, hz]
    · unfold ab_fv; rw [hf]; simp [ab_hl, ab_setL, ab_u]
    · have e3 : ab_hl (ab_setL h (ab_u (ab_hl h) a k x)) a j = ab_hl h a j := by simp [ab_hl, ab_setL, ab_u, hj]
      have e1 : ab_hi (ab_setL h (ab_u (ab_hl h) a k x)) a j = ab_hi h a j := rfl
      have e2 : ab_hr (ab_setL h (ab_u (ab_hl h) a k x)) a j = ab_hr h a j := rfl
      unfold ab_fv; rw [e1, e2, e3]
  · rename_i x hf
    split at e
    · rename_i hx
      cases e
      rw [hf] at hok
      have ht : ab_ty c k = .boolean := by
        split at hok <;> first | assumption | (rename_i h1 h2; cases h1; done) | (rename_i h1; cases h1; done) | cases hok
      rw [ht]
      refine ⟨⟨rfl, rfl, rfl, rfl⟩, fun z hz => ?_, fun z _ => rfl, fun z _ => rfl, ?_, fun j hj => ?_, ?_, ?_⟩
      · funext j; simp [ab_hi, ab_setI, ab_u, hz]
      · unfold ab_fv; rw [hf]; simp [ab_hi, ab_setI, ab_u]
      · have e1 : ab_hi (ab_setI h (ab_u (ab_hi h) a k x)) a j = ab_hi h a j := by simp [ab_hi, ab_setI, ab_u, hj]
        have e2 : ab_hr (ab_setI h (ab_u (ab_hi h) a k x)) a j = ab_hr h a j := rfl
        have e3 : ab_hl (ab_setI h (ab_u (ab_hi h) a k x)) a j = ab_hl h a j := rfl
        unfold ab_fv; rw [e1, e2, e3]
      · rcases hx with rfl | rfl <;> rfl
      · rcases hx with rfl | rfl <;> rfl
    · cases e
  · cases e
end AbShapes
