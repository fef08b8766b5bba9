theorem ab_main : ∀ (n k pc : Nat) (ls st : List Value) (h : ab_Hp) (q : ab_C), ab_exec n k pc ls st h = some q → k < 94 → ∀ (p : Program) (l : Launch) (e : Env) (R : Room) (s : State) (m : MethodId) (args : Array Value) (below : List Frame) (meth : Method) (c : Code) (D : va_G) (base b L : Nat) (xs : Nat → Int32) (cb sb : Nat) (Q : State → Prop), ab_EM k D base b L xs p l R s m args meth c → cb ≤ ab_cc h → sb ≤ ab_sc h → ab_cc q.2.2.2 - cb ≤ R.cells → ab_sc q.2.2.2 - sb ≤ R.slots → ab_G D base b L xs p l e R s m args below meth c k cb sb Q q → ab_G D base b L xs p l e R s m args below meth c k cb sb Q (pc, ls, st, h) := by
  intro n
  induction n with
  | zero => intro k pc ls st h q hq; cases hq
  | succ n ih =>
    intro k pc ls st h q hq hk p l e R s m args below meth c D base b L xs cb sb Q hEM hcb hsb hcc hss hG
    cases hc : ab_cod k pc with
    | none => simp only [ab_exec, hc] at hq; cases hq
    | some ri =>
      cases hE : ab_isE ri with
      | true =>
        rw [ab_exec_E hc hE] at hq
        cases hq
        exact hG
      | false =>
        cases hC : ab_isC ri with
        | false =>
          rw [ab_exec_S hc hE hC] at hq
          cases hs : ab_stp ri pc ls st h with
          | none => rw [hs] at hq; cases hq
          | some r =>
            rw [hs] at hq
            have h1 := ab_stp_cc hs
            obtain ⟨a1, a2, a3, a4⟩ := r
            dsimp only at hq h1
            have h2 := (ab_exec_cc _ _ _ _ _ _ _ hq).1
            exact ab_snd hEM hc hE hC hs hcb hsb (by dsimp only; omega) (by dsimp only; omega) (ih _ _ _ _ _ _ hq hk p l e R s m args below meth c D base b L xs cb sb Q hEM (by omega) (by omega) hcc hss hG)
        | true =>
          obtain ⟨ins, len, j, na, fl, d⟩ := ri
          rw [ab_exec_C hc hE hC] at hq
          split at hq
          · rename_i hcond
            cases he : ab_exec n j 0 (ab_ent j (st.take na).reverse) [] h with
            | none => rw [he] at hq; cases hq
            | some q1 =>
              rw [he] at hq
              obtain ⟨h1, ri1, hc1, hE1⟩ := ab_exec_cc _ _ _ _ _ _ _ he
              dsimp only at hq
              cases ho : ab_out j q1 with
              | none => rw [ho] at hq; cases hq
              | some oh =>
                rw [ho] at hq
                obtain ⟨o, h9⟩ := oh
                have h2 := ab_out_cc ho
                have hstr : l.stackTraces = false := hEM.2.2.2.2.2.2.2.2.2.2.1
                have hx9 : ab_cc h9 - cb ≤ R.cells ∧ ab_sc h9 - sb ≤ R.slots := by
                  cases o with
                  | inl v =>
                    simp only [ab_aft] at hq
                    have h3 := (ab_exec_cc _ _ _ _ _ _ _ hq).1
                    omega
                  | inr x =>
                    simp only [ab_aft] at hq
                    cases hd : ab_hd k x with
                    | none => rw [hd] at hq; cases hq
                    | some w =>
                      rw [hd] at hq
                      obtain ⟨w1, w2, w3⟩ := w
                      have h3 := (ab_exec_cc _ _ _ _ _ _ _ hq).1
                      omega
                refine ab_callG hEM hc hE hC hcond (fun hpl hj hxl => ab_met hj hpl hstr hxl hc1 hE1 ho h1 (fun p e R s m args below meth c Q hEM' g1 g2 hG' => ih _ _ _ _ _ _ he hj p l e R s m args below meth c D base b L xs (ab_cc h) (ab_sc h) Q hEM' (Nat.le_refl _) (Nat.le_refl _) g1 g2 hG')) hcb hsb (Nat.le_trans h1.1 h2.1) (Nat.le_trans h1.2 h2.2) hx9.1 hx9.2 (fun v hv => ?_) (fun x hx hx3 => ?_)
                · subst hv
                  simp only [ab_aft] at hq
                  exact ih _ _ _ _ _ _ hq hk p l e R s m args below meth c D base b L xs cb sb Q hEM (by omega) (by omega) hcc hss hG
                · subst hx
                  simp only [ab_aft] at hq
                  cases hd : ab_hd k x with
                  | none => rw [hd] at hq; cases hq
                  | some w =>
                    rw [hd] at hq
                    obtain ⟨w1, w2, w3⟩ := w
                    exact ⟨w1, w2, w3, rfl, ih _ _ _ _ _ _ hq hk p l e R s m args below meth c D base b L xs cb sb Q hEM (by omega) (by omega) hcc hss hG⟩
          · cases hq
