/-! What of the JVM's state stands for what of the machine of part 05. -/
def ab_cell (D : va_G) (base b L : Nat) (xs : Nat → Int32) (U : State) (h : ab_Hp) (H : Heap) (a : Nat) : Prop :=
  ((ab_sh h a).1 = 1 → base ≤ a ∧ ∃ cA, ArrOfT U cA .int ∧ H[a]? = some (arrV cA (ab_sh h a).2 (fun j => .int (ab_hi h a j)))) ∧
  ((ab_sh h a).1 = 2 → base ≤ a ∧ ∃ cA, ArrOfT U cA .long ∧ H[a]? = some (arrV cA (ab_sh h a).2 (fun j => .long (ab_hl h a j)))) ∧
  (3 ≤ (ab_sh h a).1 ∧ (ab_sh h a).1 ≤ 5 → base ≤ a ∧ ∃ cA, ArrOfT U cA (.object (ab_CN (ab_ac (ab_sh h a).1))) ∧ va_RA U cA (.object (ab_CN (ab_ac (ab_sh h a).1))) ∧ H[a]? = some (arrV cA (ab_sh h a).2 (fun j => va_rf (ab_hr h a j)))) ∧
  ((ab_sh h a).1 = 6 → a = b ∧ (ab_sh h a).2 = L ∧ ∀ j, j < L → ab_hi h a j = xs j) ∧
  (∀ c, (ab_sh h a).1 = 10 + c → base ≤ a ∧ c < 7 ∧ t_OB a (D.1 c) (ab_nf c) (D.2 c) H (fun k => ab_fv h c a k))
def ab_Rep (D : va_G) (base b L : Nat) (xs : Nat → Int32) (U : State) (h : ab_Hp) (H : Heap) : Prop := (ab_nx h ≠ 0 → H.size = ab_nx h) ∧ ∀ a, ab_cell D base b L xs U h H a
theorem ab_fv_eq {h h' : ab_Hp} {c a k : Nat} (e1 : ab_hi h' a = ab_hi h a) (e2 : ab_hr h' a = ab_hr h a) (e3 : ab_hl h' a = ab_hl h a) : ab_fv h' c a k = ab_fv h c a k := by
  unfold ab_fv
  rw [e1, e2, e3]
theorem ab_cell.kept {D : va_G} {base b L : Nat} {xs : Nat → Int32} {U : State} {h h' : ab_Hp} {H H' : Heap} {a : Nat} (es : ab_sh h' a = ab_sh h a) (e1 : ab_hi h' a = ab_hi h a) (e2 : ab_hr h' a = ab_hr h a) (e3 : ab_hl h' a = ab_hl h a) (hq : H'[a]? = H[a]?) (q : ab_cell D base b L xs U h H a) : ab_cell D base b L xs U h' H' a := by
  obtain ⟨c1, c2, c3, c4, c5⟩ := q
  unfold ab_cell
  rw [es, e1, e2, e3, hq]
  refine ⟨c1, c2, c3, c4, fun c hc => ?_⟩
  obtain ⟨g1, g2, g3⟩ := c5 c hc
  exact ⟨g1, g2, (g3.kept hq).to (fun k _ => (ab_fv_eq e1 e2 e3).symm)⟩
theorem ab_cell.moved {D : va_G} {base b L : Nat} {xs : Nat → Int32} {u U : State} {h : ab_Hp} {H : Heap} {a : Nat} (hvm : u.vm.Alike U.vm) (q : ab_cell D base b L xs u h H a) : ab_cell D base b L xs U h H a := by
  obtain ⟨c1, c2, c3, c4, c5⟩ := q
  refine ⟨fun e => ?_, fun e => ?_, fun e => ?_, c4, c5⟩
  · obtain ⟨g1, cA, g2, g3⟩ := c1 e
    exact ⟨g1, cA, arrOfT_moved hvm g2, g3⟩
  · obtain ⟨g1, cA, g2, g3⟩ := c2 e
    exact ⟨g1, cA, arrOfT_moved hvm g2, g3⟩
  · obtain ⟨g1, cA, g2, g3, g4⟩ := c3 e
    exact ⟨g1, cA, arrOfT_moved hvm g2, g3.moved hvm, g4⟩
theorem ab_Rep.moved {D : va_G} {base b L : Nat} {xs : Nat → Int32} {u U : State} {h : ab_Hp} {H : Heap} (hvm : u.vm.Alike U.vm) (q : ab_Rep D base b L xs u h H) : ab_Rep D base b L xs U h H := ⟨q.1, fun a => (q.2 a).moved hvm⟩
/-- one cell is written -/
theorem ab_Rep.put {D : va_G} {base b L : Nat} {xs : Nat → Int32} {U : State} {h h' : ab_Hp} {H H' : Heap} {a : Nat} (q : ab_Rep D base b L xs U h H) (en : ab_nx h' = ab_nx h) (es : ab_sh h' = ab_sh h) (e1 : ∀ z, z ≠ a → ab_hi h' z = ab_hi h z) (e2 : ∀ z, z ≠ a → ab_hr h' z = ab_hr h z) (e3 : ∀ z, z ≠ a → ab_hl h' z = ab_hl h z)
    (hz : H'.size = H.size) (hq : ∀ z : Nat, z ≠ a → H'[z]? = H[z]?) (hn : ab_cell D base b L xs U h' H' a) : ab_Rep D base b L xs U h' H' := by
  refine ⟨fun e => by rw [hz, en]; exact q.1 (by rw [← en]; exact e), fun z => ?_⟩
  by_cases hza : z = a
  · rw [hza]; exact hn
  · exact (q.2 z).kept (by rw [es]) (e1 z hza) (e2 z hza) (e3 z hza) (hq z hza)
/-- one cell is new -/
theorem ab_Rep.push {D : va_G} {base b L : Nat} {xs : Nat → Int32} {U : State} {h : ab_Hp} {H H' : Heap} {kind len n : Nat} (q : ab_Rep D base b L xs U h H) (hx : ab_nx h ≠ 0) (hz : H'.size = H.size + 1) (hq : ∀ z : Nat, z < H.size → H'[z]? = H[z]?) (hn : ab_cell D base b L xs U (ab_new h kind len n) H' (ab_nx h)) : ab_Rep D base b L xs U (ab_new h kind len n) H' := by
  have hs := q.1 hx
  refine ⟨fun _ => by rw [hz, hs]; rfl, fun z => ?_⟩
  by_cases hza : z = ab_nx h
  · rw [hza]; exact hn
  · have hza' : ¬ z = h.1 := hza
    refine (q.2 z).kept (by simp [ab_new, ab_sh, hza']) (by funext j; simp [ab_new, ab_hi, hza']) (by funext j; simp [ab_new, ab_hr, hza']) (by funext j; simp [ab_new, ab_hl, hza']) ?_
    by_cases hl : z < H.size
    · exact hq z hl
    · rw [Array.getElem?_eq_none (by omega), Array.getElem?_eq_none (by omega)]
/-! the locals -/
def ab_isV : Value → Bool := fun v => match v with
  | .float _ => false
  | _ => true
def ab_RL (lsA : Array Slot) (nL : Nat) (ls : List Value) : Prop := lsA.size = nL ∧ lv_wf lsA ∧ ∀ i, ab_isV (ab_get ls i) = true → lsA[i]? = some (.val (ab_get ls i))
theorem ab_isV_nov : ab_isV ab_nov = false := rfl
theorem ab_get_st1 (v : Value) : ∀ (ls : List Value) (i j : Nat), ab_isV (ab_get (ab_st1 ls i v) j) = true → (j = i ∧ ab_get (ab_st1 ls i v) j = v) ∨ (j ≠ i ∧ ab_get (ab_st1 ls i v) j = ab_get ls j ∧ (j + 1 = i → (ab_get ls j).category ≠ 2)) := by
  intro ls
  induction ls with
  | nil =>
    intro i j h
    simp only [ab_st1, ab_get] at h
    cases h
  | cons w t ih =>
    intro i j h
    cases i with
    | zero =>
      cases j with
      | zero => exact Or.inl ⟨rfl, rfl⟩
      | succ j => exact Or.inr ⟨by omega, rfl, fun h => by omega⟩
    | succ i =>
      cases j with
      | zero =>
        cases i with
        | zero =>
          right
          refine ⟨by omega, ?_, ?_⟩
          · simp only [ab_st1, ab_get] at h ⊢
            cases w <;> first | rfl | cases h
          · intro _
            simp only [ab_st1, ab_get] at h ⊢
            cases w <;> first | (simp [Value.category]; done) | cases h
        | succ i =>
          right
          exact ⟨by omega, rfl, fun h => by omega⟩
      | succ j =>
        have h' : ab_isV (ab_get (ab_st1 t i v) j) = true := h
        rcases ih i j h' with ⟨e1, e2⟩ | ⟨e1, e2, e3⟩
        · exact Or.inl ⟨by omega, e2⟩
        · exact Or.inr ⟨by omega, e2, fun h => e3 (by omega)⟩
theorem ab_get_st2 (v : Value) : ∀ (ls : List Value) (i j : Nat), ab_isV (ab_get (ab_st2 ls i v) j) = true → (j = i ∧ ab_get (ab_st2 ls i v) j = v) ∨ (j ≠ i ∧ j ≠ i + 1 ∧ ab_get (ab_st2 ls i v) j = ab_get ls j ∧ (j + 1 = i → (ab_get ls j).category ≠ 2)) := by
  intro ls
  induction ls with
  | nil =>
    intro i j h
    simp only [ab_st2, ab_get] at h
    cases h
  | cons w t ih =>
    intro i j h
    cases i with
    | zero =>
      cases j with
      | zero => exact Or.inl ⟨rfl, rfl⟩
      | succ j =>
        cases t with
        | nil =>
          simp only [ab_st2, ab_get] at h
          cases h
        | cons t0 t =>
          cases j with
          | zero =>
            simp only [ab_st2, ab_get] at h
            cases h
          | succ j => exact Or.inr ⟨by omega, by omega, rfl, fun h => by omega⟩
    | succ i =>
      cases j with
      | zero =>
        cases i with
        | zero =>
          right
          refine ⟨by omega, by omega, ?_, ?_⟩
          · simp only [ab_st2, ab_get] at h ⊢
            cases w <;> first | rfl | cases h
          · intro _
            simp only [ab_st2, ab_get] at h ⊢
            cases w <;> first | (simp [Value.category]; done) | cases h
        | succ i =>
          right
          exact ⟨by omega, by omega, rfl, fun h => by omega⟩
      | succ j =>
        have h' : ab_isV (ab_get (ab_st2 t i v) j) = true := h
        rcases ih i j h' with ⟨e1, e2⟩ | ⟨e1, e2, e3, e4⟩
        · exact Or.inl ⟨by omega, e2⟩
        · exact Or.inr ⟨by omega, by omega, e3, fun h => e4 (by omega)⟩
/-- the locals as the kit lists them -/
def ab_lst (n : Nat) (ls : List Value) : List (Nat × Value) := (List.range n).filterMap (fun i => if ab_isV (ab_get ls i) = true then some (i, ab_get ls i) else none)
theorem ab_lst_mem {n : Nat} {ls : List Value} {i : Nat} (hi : i < n) (hv : ab_isV (ab_get ls i) = true) : (i, ab_get ls i) ∈ ab_lst n ls := List.mem_filterMap.mpr ⟨i, List.mem_range.mpr hi, by rw [if_pos hv]⟩
theorem ab_RL.has {lsA : Array Slot} {nL : Nat} {ls : List Value} (h : ab_RL lsA nL ls) : lv_has lsA nL (ab_lst nL ls) := by
  refine ⟨h.1, h.2.1, fun q hq => ?_⟩
  obtain ⟨i, hi, e⟩ := List.mem_filterMap.mp hq
  split at e
  · rename_i hv
    cases e
    exact h.2.2 i hv
  · cases e
theorem ab_RL.lt {lsA : Array Slot} {nL : Nat} {ls : List Value} (h : ab_RL lsA nL ls) {i : Nat} (hv : ab_isV (ab_get ls i) = true) : i < nL := by
  have := (Array.getElem?_eq_some_iff.mp (h.2.2 i hv)).1
  rw [h.1] at this
  exact this
theorem ab_RL.st1 {lsA ls' : Array Slot} {nL i : Nat} {ls : List Value} {v : Value} (h : ab_RL lsA nL ls) (h' : lv_has ls' nL ((i, v) :: (ab_lst nL ls).filter (fun q => !(q.1 == i) && !(q.1 + 1 == i && q.2.category == 2)))) : ab_RL ls' nL (ab_st1 ls i v) := by
  refine ⟨h'.1, h'.2.1, fun j hj => ?_⟩
  rcases ab_get_st1 v ls i j hj with ⟨e1, e2⟩ | ⟨e1, e2, e3⟩
  · rw [e2, e1]
    exact h'.2.2 _ List.mem_cons_self
  · rw [e2] at hj ⊢
    refine h'.2.2 (j, ab_get ls j) (List.mem_cons_of_mem _ (List.mem_filter.mpr ⟨ab_lst_mem (h.lt hj) hj, ?_⟩))
    by_cases hji : j + 1 = i
    · simp [e1, hji, e3 hji]
    · simp [e1, hji]
theorem ab_RL.st2 {lsA ls' : Array Slot} {nL i : Nat} {ls : List Value} {v : Value} (h : ab_RL lsA nL ls) (h' : lv_has ls' nL ((i, v) :: (ab_lst nL ls).filter (fun q => !(q.1 == i) && (!(q.1 == i + 1) && !(q.1 + 1 == i && q.2.category == 2))))) : ab_RL ls' nL (ab_st2 ls i v) := by
  refine ⟨h'.1, h'.2.1, fun j hj => ?_⟩
  rcases ab_get_st2 v ls i j hj with ⟨e1, e2⟩ | ⟨e1, e2, e3, e4⟩
  · rw [e2, e1]
    exact h'.2.2 _ List.mem_cons_self
  · rw [e3] at hj ⊢
    refine h'.2.2 (j, ab_get ls j) (List.mem_cons_of_mem _ (List.mem_filter.mpr ⟨ab_lst_mem (h.lt hj) hj, ?_⟩))
    by_cases hji : j + 1 = i
    · simp [e1, e2, hji, e4 hji]
    · simp [e1, e2, hji]
theorem ab_exp_mem : ∀ (as : List Value) (o i : Nat), ab_isV (ab_get (ab_exp as) i) = true → (o + i, ab_get (ab_exp as) i) ∈ lv_args o as := by
  intro as
  induction as with
  | nil =>
    intro o i h
    simp only [ab_exp, ab_get] at h
    cases h
  | cons v t ih =>
    intro o i h
    by_cases hc : v.category = 2
    · simp only [ab_exp, if_pos hc, lv_args] at h ⊢
      cases i with
      | zero => exact List.mem_cons_self
      | succ i =>
        cases i with
        | zero =>
          simp only [ab_get] at h
          cases h
        | succ i =>
          simp only [ab_get] at h ⊢
          have := ih (o + 2) i h
          rw [show o + 2 + i = o + (i + 1 + 1) by omega] at this
          exact List.mem_cons_of_mem _ this
    · simp only [ab_exp, if_neg hc, lv_args] at h ⊢
      cases i with
      | zero => exact List.mem_cons_self
      | succ i =>
        simp only [ab_get] at h ⊢
        have := ih (o + 1) i h
        rw [show o + 1 + i = o + (i + 1) by omega] at this
        exact List.mem_cons_of_mem _ this
theorem ab_exp_len : ∀ (as : List Value), (lg_sl as).length = (ab_exp as).length := by
  intro as
  induction as with
  | nil => rfl
  | cons v t ih =>
    have : lg_sl (v :: t) = (if v.category = 2 then [.val v, .second] else [.val v]) ++ lg_sl t := rfl
    rw [this]
    by_cases hc : v.category = 2
    · simp only [ab_exp, if_pos hc, List.length_append, List.length_cons, List.length_nil, ih]; omega
    · simp only [ab_exp, if_neg hc, List.length_append, List.length_cons, List.length_nil, ih]; omega
theorem ab_get_app : ∀ (l1 : List Value) (n i : Nat), ab_isV (ab_get (l1 ++ List.replicate n ab_nov) i) = true → ab_get (l1 ++ List.replicate n ab_nov) i = ab_get l1 i := by
  intro l1
  induction l1 with
  | nil =>
    intro n
    induction n with
    | zero => intro i h; rfl
    | succ n ih =>
      intro i h
      cases i with
      | zero => cases h
      | succ i => exact ih i h
  | cons v t ih =>
    intro n i h
    cases i with
    | zero => rfl
    | succ i => exact ih n i h
theorem ab_RL.ent {j : Nat} {as : List Value} (hx : Nat.ble (ab_exp as).length (ab_xl j) = true) : ab_RL ((lg_sl as ++ List.replicate (ab_xl j - (lg_sl as).length) Slot.unset).toArray) (ab_xl j) (ab_ent j as) := by
  have hl := lv_entry as (n := ab_xl j) (by rw [ab_exp_len]; exact Nat.le_of_ble_eq_true hx)
  refine ⟨hl.1, hl.2.1, fun i hi => ?_⟩
  have e := ab_get_app (ab_exp as) (ab_xl j - (ab_exp as).length) i hi
  have e2 : ab_get (ab_ent j as) i = ab_get (ab_exp as) i := e
  rw [e2] at hi ⊢
  have := ab_exp_mem as 0 i hi
  rw [Nat.zero_add] at this
  exact hl.2.2 _ this
/-! what stays as it is through a whole run -/
def ab_xy : List Jvm.Cond := [.declares ⟨"java/lang/RuntimeException", "<init>", "(Ljava/lang/String;)V"⟩, .declares ⟨"java/lang/Exception", "<init>", "(Ljava/lang/String;)V"⟩, .declares ⟨"java/lang/Throwable", "<init>", "(Ljava/lang/String;)V"⟩]
def ab_EH (D : va_G) (base b L : Nat) (xs : Nat → Int32) (U : State) (H : Heap) : Prop := va_K D vwCl [] U ∧ vx_Zq Bundle.tN "UNASSIGNED_STACK" Bundle.steD (fun q => base ≤ q) U H ∧ vx_Zq Bundle.tN "SUPPRESSED_SENTINEL" Bundle.listD (fun q => base ≤ q) U H ∧ (∀ w ∈ ab_xw ++ ab_xy, va_Nw w U) ∧ (∀ q ∈ ab_strs, ∃ sa, vk_R RX6 q.1 q.2 sa U) ∧ (∀ q ∈ ab_ncs, va_Nc q.1 q.2 U) ∧ (va_AO (ab_CN 2) U ∧ va_AO (ab_CN 3) U ∧ va_AO (ab_CN 4) U) ∧ va_X b L xs U H ∧ b < base ∧ base ≤ H.size
theorem ab_EH.heap {D : va_G} {base b L : Nat} {xs : Nat → Int32} {U : State} {H H1 : Heap} (h : ab_EH D base b L xs U H) (hq : ∀ q : Nat, q < base → H1[q]? = H[q]?) (hz : base ≤ H1.size) : ab_EH D base b L xs U H1 := by
  obtain ⟨h1, h2, h3, h4, h5, h6, h7, h8, h9, h10⟩ := h
  exact ⟨h1, h2.kept (fun a _ ha => hq a (Nat.lt_of_not_le ha)), h3.kept (fun a _ ha => hq a (Nat.lt_of_not_le ha)), h4, h5, h6, h7, h8.kept (hq b h9), h9, hz⟩
theorem ab_xw_warm {s U : State} (hW : s.WarmedH U.vm) {w : Jvm.Cond} (hw : w ∈ ab_xw ++ ab_xy) (h : va_Nw w s) : va_Nw w U := by
  simp only [ab_xw, ab_xy, List.cons_append, List.nil_append, List.mem_cons, List.not_mem_nil, or_false] at hw
  rcases hw with rfl | rfl | rfl | rfl | rfl | rfl | rfl | rfl | rfl | rfl | rfl
  · exact va_Nw.warmM hW h
  · exact va_Nw.warmM hW h
  · exact va_Nw.warmM hW h
  · exact va_Nw.warmM hW h
  · exact va_Nw.warmM hW h
  · exact va_Nw.warmC hW h
  · exact va_Nw.warmC hW h
  · exact va_Nw.warmC hW h
  · exact va_Nw.warmD hW h
  · exact va_Nw.warmD hW h
  · exact va_Nw.warmD hW h
theorem ab_EH.warm {D : va_G} {base b L : Nat} {xs : Nat → Int32} {s U : State} {H : Heap} (hW : s.WarmedH U.vm) (h : ab_EH D base b L xs s H) : ab_EH D base b L xs U H := by
  obtain ⟨h1, h2, h3, h4, h5, h6, h7, h8, h9, h10⟩ := h
  refine ⟨va_K.moved hW.alike h1, vx_Zq.moved hW.alike h2, vx_Zq.moved hW.alike h3, fun w hw => ab_xw_warm hW hw (h4 w hw), fun q hq => ?_, fun q hq => ?_, ⟨va_AO.moved hW.alike h7.1, va_AO.moved hW.alike h7.2.1, va_AO.moved hW.alike h7.2.2⟩, va_X.moved hW.alike h8, h9, h10⟩
  · obtain ⟨sa, hs⟩ := h5 q hq
    exact ⟨sa, vk_R.warm hW hs⟩
  · obtain ⟨c, t, g1, g2, g3⟩ := h6 q hq
    exact ⟨c, t, by rw [hW.alike.findClass]; exact g1, by rw [hW.alike.findClass]; exact g2, by rw [hW.alike.assignable]; exact g3⟩
