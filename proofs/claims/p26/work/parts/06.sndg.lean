/-! The JVM follows a call, and so a whole run. -/
theorem ab_cas : ∀ x, x < 3 → Cond.castable (ab_EN x) (ab_EN x) ∈ ab_xw ++ ab_xy := by decide +kernel
/-- nothing is caught here -/
def ab_hck1 (k _pc x : Nat) : Bool := match ab_hd k x with
  | none => true
  | some _ => false
def ab_hck (k : Nat) : Bool := (ab_cd k).all (fun q => !ab_isC q.2 || [0, 1, 2].all (fun x => ab_hck1 k q.1 x))
theorem ab_hcks : (List.range 94).all ab_hck = true := by decide +kernel
theorem ab_hck_at {k pc x : Nat} {ri : ab_RI} (hk : k < 94) (hc : ab_cod k pc = some ri) (hC : ab_isC ri = true) (hx : x < 3) : ab_hck1 k pc x = true := by
  have h1 := List.all_eq_true.mp ab_hcks k (List.mem_range.mpr hk)
  have h2 := List.all_eq_true.mp h1 _ (ab_fnd_mem _ hc)
  dsimp only at h2
  rw [hC] at h2
  simp only [Bool.not_true, Bool.false_or, List.all_cons, List.all_nil, Bool.and_true, Bool.and_eq_true] at h2
  have : x = 0 ∨ x = 1 ∨ x = 2 := by omega
  rcases this with rfl | rfl | rfl
  · exact h2.1
  · exact h2.2.1
  · exact h2.2.2
theorem ab_RL.nov {lsA ls' : Array Slot} {nL i : Nat} {ls : List Value} {v : Value} (h : ab_RL lsA nL ls) (h' : lv_has ls' nL ((i, v) :: (ab_lst nL ls).filter (fun q => !(q.1 == i) && !(q.1 + 1 == i && q.2.category == 2)))) : ab_RL ls' nL (ab_st1 ls i ab_nov) := by
  refine ⟨h'.1, h'.2.1, fun j hj => ?_⟩
  rcases ab_get_st1 ab_nov ls i j hj with ⟨e1, e2⟩ | ⟨e1, e2, e3⟩
  · rw [e2] at hj; cases hj
  · rw [e2] at hj ⊢
    refine h'.2.2 (j, ab_get ls j) (List.mem_cons_of_mem _ (List.mem_filter.mpr ⟨ab_lst_mem (h.lt hj) hj, ?_⟩))
    by_cases hji : j + 1 = i
    · simp [e1, hji, e3 hji]
    · simp [e1, hji]
/-! counts only grow -/
theorem ab_stp_cc {ri : ab_RI} {pc : Nat} {ls st : List Value} {h : ab_Hp} {q : ab_C} (hst : ab_stp ri pc ls st h = some q) : ab_cc h ≤ ab_cc q.2.2.2 ∧ ab_sc h ≤ ab_sc q.2.2.2 := by
  have wf : ∀ {c a k : Nat} {v : Value} {h' : ab_Hp}, ab_wf h c a k v = some h' → ab_cc h ≤ ab_cc h' ∧ ab_sc h ≤ ab_sc h' := by
    intro c a k v h' e
    unfold ab_wf at e
    split at e
    · cases e; exact ⟨Nat.le_refl _, Nat.le_refl _⟩
    · cases e; exact ⟨Nat.le_refl _, Nat.le_refl _⟩
    · cases e; exact ⟨Nat.le_refl _, Nat.le_refl _⟩
    · split at e
      · cases e; exact ⟨Nat.le_refl _, Nat.le_refl _⟩
      · cases e
    · cases e
  have nw : ∀ (kd len n : Nat), ab_cc h ≤ ab_cc (ab_new h kd len n) ∧ ab_sc h ≤ ab_sc (ab_new h kd len n) := fun kd len n => ⟨Nat.le_succ _, Nat.le_add_right _ _⟩
  obtain ⟨ins, len, a, b, c, d⟩ := ri
  cases ins <;> simp only [ab_stp] at hst <;> first
    | (cases hst; done)
    | (cases hst; exact ⟨Nat.le_refl _, Nat.le_refl _⟩)
    | (obtain ⟨-, rfl⟩ := ab_ld_spec hst; exact ⟨Nat.le_refl _, Nat.le_refl _⟩)
    | (obtain ⟨_, _, -, -, rfl⟩ := ab_s1_spec hst; exact ⟨Nat.le_refl _, Nat.le_refl _⟩)
    | (obtain ⟨_, _, -, -, rfl⟩ := ab_s2_spec hst; exact ⟨Nat.le_refl _, Nat.le_refl _⟩)
    | (obtain ⟨_, _, _, -, rfl⟩ := ab_ii_spec hst; exact ⟨Nat.le_refl _, Nat.le_refl _⟩)
    | (obtain ⟨_, _, _, -, rfl⟩ := ab_ll_spec hst; exact ⟨Nat.le_refl _, Nat.le_refl _⟩)
    | (obtain ⟨_, _, _, -, -, rfl⟩ := ab_dd_spec hst; exact ⟨Nat.le_refl _, Nat.le_refl _⟩)
    | (obtain ⟨_, _, -, -, rfl⟩ := ab_gf_spec hst; exact ⟨Nat.le_refl _, Nat.le_refl _⟩)
    | (obtain ⟨_, _, _, _, -, -, hw, rfl⟩ := ab_pf_spec hst; exact wf hw)
    | (obtain ⟨_, _, -, -, rfl⟩ := ab_al_spec hst; exact ⟨Nat.le_refl _, Nat.le_refl _⟩)
    | (obtain ⟨_, _, _, -, -, -, rfl⟩ := ab_ia_spec hst; exact ⟨Nat.le_refl _, Nat.le_refl _⟩)
    | (obtain ⟨_, _, _, -, -, -, rfl⟩ := ab_la_spec hst; exact ⟨Nat.le_refl _, Nat.le_refl _⟩)
    | (obtain ⟨_, _, _, -, -, -, rfl⟩ := ab_aa_spec hst; exact ⟨Nat.le_refl _, Nat.le_refl _⟩)
    | (obtain ⟨_, _, _, _, -, -, -, rfl⟩ := ab_ias_spec hst; exact ⟨Nat.le_refl _, Nat.le_refl _⟩)
    | (obtain ⟨_, _, _, _, -, -, -, rfl⟩ := ab_las_spec hst; exact ⟨Nat.le_refl _, Nat.le_refl _⟩)
    | (obtain ⟨_, _, _, _, -, -, -, -, rfl⟩ := ab_aas_spec hst; exact ⟨Nat.le_refl _, Nat.le_refl _⟩)
    | (obtain ⟨_, _, -, -, -, -, rfl⟩ := ab_mka_spec hst; exact nw _ _ _)
    | (split at hst <;> first
        | (cases hst; done)
        | (cases hst; exact ⟨Nat.le_refl _, Nat.le_refl _⟩)
        | (cases hst; exact nw _ _ _)
        | (simp only [ab_jmp] at hst; cases hst; exact ⟨Nat.le_refl _, Nat.le_refl _⟩)
        | (split at hst <;> first
            | (cases hst; done)
            | (cases hst; exact ⟨Nat.le_refl _, Nat.le_refl _⟩)))
theorem ab_out_cc {k : Nat} {q : ab_C} {o : ab_O} {h' : ab_Hp} (ho : ab_out k q = some (o, h')) : ab_cc q.2.2.2 ≤ ab_cc h' ∧ ab_sc q.2.2.2 ≤ ab_sc h' := by
  obtain ⟨pc, ls, st, h⟩ := q
  dsimp only
  have th : ab_cc h ≤ ab_cc (ab_thr h) ∧ ab_sc h ≤ ab_sc (ab_thr h) := ⟨Nat.le_succ _, Nat.le_add_right _ _⟩
  simp only [ab_out] at ho
  split at ho
  · cases ho
  · split at ho
    · unfold ab_outI at ho
      split at ho
      · split at ho
        · cases ho; exact ⟨Nat.le_refl _, Nat.le_refl _⟩
        · split at ho
          · cases ho; exact ⟨Nat.le_refl _, Nat.le_refl _⟩
          · cases ho
        · cases ho
      · cases ho
    · split at ho
      · split at ho
        · cases ho; exact ⟨Nat.le_refl _, Nat.le_refl _⟩
        · cases ho
      · cases ho
    · split at ho
      · split at ho
        · cases ho; exact ⟨Nat.le_refl _, Nat.le_refl _⟩
        · cases ho
      · cases ho
    · unfold ab_outA at ho
      split at ho
      · split at ho
        · cases ho; exact ⟨Nat.le_refl _, Nat.le_refl _⟩
        · cases ho
      · cases ho
    · split at ho
      · split at ho
        · cases ho; exact ⟨Nat.le_refl _, Nat.le_refl _⟩
        · cases ho
      · cases ho
    · split at ho
      · cases ho; exact th
      · cases ho
    · cases ho
theorem ab_exec_cc : ∀ (n k pc : Nat) (ls st : List Value) (h : ab_Hp) (q : ab_C), ab_exec n k pc ls st h = some q → (ab_cc h ≤ ab_cc q.2.2.2 ∧ ab_sc h ≤ ab_sc q.2.2.2) ∧ ∃ ri, ab_cod k q.1 = some ri ∧ ab_isE ri = true := by
  intro n
  induction n with
  | zero => intro k pc ls st h q hq; cases hq
  | succ n ih =>
    intro k pc ls st h q hq
    cases hc : ab_cod k pc with
    | none => simp only [ab_exec, hc] at hq; cases hq
    | some ri =>
      cases hE : ab_isE ri with
      | true =>
        rw [ab_exec_E hc hE] at hq
        cases hq
        exact ⟨⟨Nat.le_refl _, Nat.le_refl _⟩, ri, hc, hE⟩
      | false =>
        cases hC : ab_isC ri with
        | false =>
          rw [ab_exec_S hc hE hC] at hq
          cases hs : ab_stp ri pc ls st h with
          | none => rw [hs] at hq; cases hq
          | some r =>
            rw [hs] at hq
            have h1 := ab_stp_cc hs
            obtain ⟨a1, a2, a3, a4⟩ := r
            obtain ⟨h2, h3⟩ := ih _ _ _ _ _ _ hq
            exact ⟨⟨Nat.le_trans h1.1 h2.1, Nat.le_trans h1.2 h2.2⟩, h3⟩
        | true =>
          obtain ⟨ins, len, j, na, c, d⟩ := ri
          rw [ab_exec_C hc hE hC] at hq
          split at hq
          · cases he : ab_exec n j 0 (ab_ent j (st.take na).reverse) [] h with
            | none => rw [he] at hq; cases hq
            | some q1 =>
              rw [he] at hq
              obtain ⟨h1, -⟩ := ih _ _ _ _ _ _ he
              dsimp only at hq
              cases ho : ab_out j q1 with
              | none => rw [ho] at hq; cases hq
              | some oh =>
                rw [ho] at hq
                obtain ⟨o, h9⟩ := oh
                have h2 := ab_out_cc ho
                cases o with
                | inl v =>
                  simp only [ab_aft] at hq
                  obtain ⟨h3, h4⟩ := ih _ _ _ _ _ _ hq
                  exact ⟨⟨Nat.le_trans h1.1 (Nat.le_trans h2.1 h3.1), Nat.le_trans h1.2 (Nat.le_trans h2.2 h3.2)⟩, h4⟩
                | inr x =>
                  simp only [ab_aft] at hq
                  cases hd : ab_hd k x with
                  | none => rw [hd] at hq; cases hq
                  | some w =>
                    rw [hd] at hq
                    obtain ⟨w1, w2, w3⟩ := w
                    obtain ⟨h3, h4⟩ := ih _ _ _ _ _ _ hq
                    exact ⟨⟨Nat.le_trans h1.1 (Nat.le_trans h2.1 h3.1), Nat.le_trans h1.2 (Nat.le_trans h2.2 h3.2)⟩, h4⟩
          · cases hq
