/-! From the law's entry. -/
def ab_h0 (b L : Nat) (xs : Nat → Int32) (sz : Nat) : ab_Hp := (sz, 0, 0, fun a => if a = b then (6, L) else (0, 0), fun a j => if a = b then xs j else 0, fun _ _ => none, fun _ _ => 0)
theorem ab_xwall : (ab_xw ++ ab_xy).all (fun w => lw_tbl.contains w) = true := by decide +kernel
theorem ab_zws : (lw_tbl.contains (.laysStatic Bundle.tN "UNASSIGNED_STACK" Bundle.steD) && lw_tbl.contains (.laysStatic Bundle.tN "SUPPRESSED_SENTINEL" Bundle.listD) && lw_tbl.contains (.initialized Bundle.tN)) = true := by decide +kernel
theorem ab_aows : (lw_tbl.contains (.arrayOver (.object (ab_CN 2))) && lw_tbl.contains (.arrayOver (.object (ab_CN 3))) && lw_tbl.contains (.arrayOver (.object (ab_CN 4)))) = true := by decide +kernel
theorem ab_insts : ∀ c, c < 7 → lw_tbl.contains (.instantiable (ab_CN c) (ab_nf c)) = true := by decide +kernel
theorem ab_strws : ab_strs.all (fun q => lw_tbl.contains (.stringRef RX6 q.1 q.2) && (flatC (Jvm.Cond.and given_1 narrow_1)).contains (.exactly (.string RX6 q.1) "java/lang/String")) = true := by decide +kernel
theorem ab_ncws : ab_ncs.all (fun q => (flatC (Jvm.Cond.and given_1 narrow_1)).contains (.not (.castable q.1 q.2))) = true := by decide +kernel
theorem ab_zrs : ((flatC (Jvm.Cond.and given_1 narrow_1)).contains (.isRef (.static Bundle.tN "UNASSIGNED_STACK" Bundle.steD)) && (flatC (Jvm.Cond.and given_1 narrow_1)).contains (.isRef (.static Bundle.tN "SUPPRESSED_SENTINEL" Bundle.listD))) = true := by decide +kernel
theorem ab_EH.entry {s : State} {b L : Nat} {xs : Nat → Int32} (hts : ∀ w ∈ lw_tbl, w.before #[Value.ref b] s = true) (hX : va_X b L xs s s.heap) (hbl : b < s.heap.size) (hgv : (Jvm.Cond.and given_1 narrow_1).before #[Value.ref b] s = true) : ∃ D : va_G, ab_EH D s.heap.size b L xs s s.heap := by
  have hfl := flat_of_before _ hgv
  have hc : ∀ {w : Jvm.Cond}, lw_tbl.contains w = true → w.before #[Value.ref b] s = true := fun h => hts _ (List.contains_iff_mem.mp h)
  have hg : ∀ {w : Jvm.Cond}, (flatC (Jvm.Cond.and given_1 narrow_1)).contains w = true → w.before #[Value.ref b] s = true := fun h => hfl _ (List.contains_iff_mem.mp h)
  have hgw : ∀ w ∈ ab_gw, w.before #[Value.ref b] s = true := fun w hw => hts w (List.mem_filter.mp hw).1
  have hkn : ∀ c, c < 7 → ∃ (cC : ClassId) (iS : Nat → Nat), u_Kn s (ab_CN c) (ab_T c) (ab_nf c) cC iS := fun c hc8 => u_known hgw (ab_CK hc8).2.1 (hc (ab_insts c hc8))
  obtain ⟨dC, hdC⟩ : ∃ dC : Nat → ClassId, ∀ c, c < 7 → ∃ iS : Nat → Nat, u_Kn s (ab_CN c) (ab_T c) (ab_nf c) (dC c) iS := by
    refine ⟨fun c => if h : c < 7 then (hkn c h).choose else (hkn 0 (by omega)).choose, fun c h => ?_⟩
    simp only [dif_pos h]
    exact (hkn c h).choose_spec
  obtain ⟨dI, hdI⟩ : ∃ dI : Nat → Nat → Nat, ∀ c, c < 7 → u_Kn s (ab_CN c) (ab_T c) (ab_nf c) (dC c) (dI c) := by
    refine ⟨fun c => if h : c < 7 then (hdC c h).choose else fun _ => 0, fun c h => ?_⟩
    simp only [dif_pos h]
    exact (hdC c h).choose_spec
  have hz := ab_zws
  have hz2 := ab_zrs
  have ha := ab_aows
  simp only [Bool.and_eq_true] at hz hz2 ha
  have hA : ∀ a : Nat, a < s.heap.size → ¬ s.heap.size ≤ a := fun a h => Nat.not_le.mpr h
  refine ⟨(dC, dI), ⟨fun c q hq => ?_, fun k q h => by simp at h⟩, vx_Zqof (hc hz.1.1) (hc hz.2) (hg hz2.1) hA, vx_Zqof (hc hz.1.2) (hc hz.2) (hg hz2.2) hA, fun w hw => va_Nw.of (ab_xwt w hw) (hc (List.all_eq_true.mp ab_xwall w hw)), fun q hq => ?_, fun q hq => va_Nc.of (hg (List.all_eq_true.mp ab_ncws q hq)), ⟨va_AO.of (hc ha.1.1), va_AO.of (hc ha.1.2), va_AO.of (hc ha.2)⟩, hX, hbl, Nat.le_refl _⟩
  · have hc8 : c < 7 := (List.getElem?_eq_some_iff.mp hq).1
    have h1 := (ab_CK hc8).1
    rw [hq] at h1
    cases h1
    exact hdI c hc8
  · have h1 := List.all_eq_true.mp ab_strws q hq
    simp only [Bool.and_eq_true] at h1
    obtain ⟨a, c, cell, k, h2, -⟩ := Cond.exactly_spec (hg h1.2)
    exact ⟨a, vk_R.of (hc h1.1) h2⟩
theorem ab_out_int {k : Nat} {q : ab_C} {v : Int32} {h' : ab_Hp} (ho : ab_out k q = some (.inl (some (.int v)), h')) : ∃ len a b c d, ab_cod k q.1 = some (.ireturn, len, a, b, c, d) ∧ q.2.2.1 = [.int v] ∧ h' = q.2.2.2 := by
  obtain ⟨pc, ls, st, h⟩ := q
  dsimp only
  simp only [ab_out] at ho
  split at ho
  · cases ho
  · rename_i ins len a rest hc
    obtain ⟨b, c, d⟩ := rest
    split at ho
    · unfold ab_outI at ho
      split at ho
      · split at ho
        · cases ho; exact ⟨_, _, _, _, _, hc, rfl, rfl⟩
        · split at ho
          · cases ho; exact ⟨_, _, _, _, _, hc, rfl, rfl⟩
          · cases ho
        · cases ho
      · cases ho
    · split at ho
      · split at ho
        · cases ho
        · cases ho
      · cases ho
    · split at ho
      · split at ho
        · cases ho
        · cases ho
      · cases ho
    · unfold ab_outA at ho
      split at ho
      · split at ho
        · rename_i h1 h2
          cases ho
          cases h1
        · cases ho
      · cases ho
    · split at ho
      · split at ho
        · cases ho
        · cases ho
      · cases ho
    · split at ho
      · cases ho
      · cases ho
    · cases ho
set_option maxHeartbeats 4000000 in
theorem ab_sound {p : Program} {e : Env} {s : State} {m : MethodId} {below : List Frame} {meth : Method} {c : Code} (l : Launch) (hflags : l.flags = flags0) {b L : Nat} {xs : Nat → Int32} (C0 : lw_At p s m meth c b L xs)
    (hw : wp 93 0 [.ref b, ab_nov, ab_nov, ab_nov, ab_nov, ab_nov, ab_nov, ab_nov, ab_nov] [] (ab_h0 b L xs s.heap.size) (fun o h' => o = .inl (some (.int 1)) ∧ ab_cc h' ≤ 600104 ∧ ab_sc h' ≤ 7301314)) :
    W p l e room_1 s m #[Value.ref b] below meth c s.heap [] 0 0 (lw_Z below #[Value.ref b] s) (entryFrame m ([Value.ref b] : List Value).toArray 9) := by
  obtain ⟨hx, hb, hr, hml, hown, hts, hX, hbl, hlocks, hgv⟩ := C0
  obtain ⟨D, hEH⟩ := ab_EH.entry hts hX hbl hgv
  have hstr : l.stackTraces = false := by
    simp only [Launch.stackTraces, hflags]
    decide
  have hEM : ab_EM 93 D s.heap.size b L xs p l room_1 s m #[Value.ref b] meth c := ⟨by omega, hx, hb, hml, hown, fun w hw => hts w (List.mem_filter.mp hw).1, hlocks, hr, fun h => absurd h (by decide), fun h => absurd rfl h, hstr, hEH, (by show 8 ≤ 10; omega), (by show 192 ≤ 384; omega)⟩
  obtain ⟨n, q, o, h', hq, ho, rfl, hcc, hss⟩ := hw
  obtain ⟨-, ri, hc, hE⟩ := ab_exec_cc _ _ _ _ _ _ _ hq
  have ho2 := ab_out_cc ho
  have hG : ab_G D s.heap.size b L xs p l e room_1 s m #[Value.ref b] below meth c 93 0 0 (lw_Z below #[Value.ref b] s) q := by
    obtain ⟨hd0, hch⟩ := ab_cod_ch (by omega) hc
    obtain ⟨len, a, b1, c1, d1, hc2, hst, he⟩ := ab_out_int ho
    cases Option.some.inj (hc.symm.trans hc2)
    obtain ⟨pc, ls, st, h⟩ := q
    have hd := ab_dec_spec hd0
    clear hd0
    intro H locs lsA hR hS hL
    dsimp only at hd hc hR hL ho2 hst he ⊢
    simp only [ab_chI, decide_eq_true_eq] at hch
    subst hch
    subst hst
    subst he
    refine va_forget (fun z hz => hS.2.2 z hz) ?_
    refine W.widen (k := 600104) (n := 7301314) (by omega) (by omega) ?_
    exact W.base (lw_ret (Drawn.sameBut.refl s.drawn lw_cs) hx hb hr hlocks hd)
  have hmain := ab_main n 93 0 _ [] _ q hq (by omega) p l e room_1 s m #[Value.ref b] below meth c D s.heap.size b L xs 0 0 (lw_Z below #[Value.ref b] s) hEM (Nat.le_refl _) (Nat.le_refl _) (by show _ ≤ 600104; omega) (by show _ ≤ 7301314; omega) hG
  rw [lg_entry_eq]
  have hsz : s.heap.size ≠ 0 := by omega
  refine hmain s.heap [] _ ⟨fun _ => rfl, fun a => ?_⟩ va_S.rf (ab_RL.ent (j := 93) (as := [.ref b]) rfl)
  have hsh : ab_sh (ab_h0 b L xs s.heap.size) a = if a = b then (6, L) else (0, 0) := rfl
  dsimp only
  unfold ab_cell
  rw [hsh]
  by_cases hab : a = b
  · subst hab
    rw [if_pos rfl]
    refine ⟨fun e => by dsimp only at e; omega, fun e => by dsimp only at e; omega, fun e => by dsimp only at e; omega, fun _ => ⟨rfl, rfl, fun j hj => ?_⟩, fun c2 hc2 => by dsimp only at hc2; omega⟩
    show (if a = a then xs j else 0) = xs j
    rw [if_pos rfl]
  · rw [if_neg hab]
    exact ⟨fun e => by dsimp only at e; omega, fun e => by dsimp only at e; omega, fun e => by dsimp only at e; omega, fun e => by dsimp only at e; omega, fun c2 hc2 => by dsimp only at hc2; omega⟩
