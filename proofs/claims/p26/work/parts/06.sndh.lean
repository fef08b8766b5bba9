/-! Calls, and the whole of a run. -/
section AbCalls
variable {p : Program} {l : Launch} {e : Env} {R : Room} {s : State} {m : MethodId} {args : Array Value} {below : List Frame} {meth : Method} {c : Code}
variable {D : va_G} {base b L : Nat} {xs : Nat → Int32}
theorem ab_gwgood : ∀ w ∈ ab_gw, goodWord w = true := fun w hw => (List.mem_filter.mp hw).2
/-- a callee's contract, out of its run -/
theorem ab_met {j : Nat} {as : List Value} {h h1 : ab_Hp} {q1 : ab_C} {ri : ab_RI} {o : ab_O} (hj : j < 94) (hpl : plainName (ab_mn j).cls = true) (hstr : l.stackTraces = false) (hx : Nat.ble (ab_exp as).length (ab_xl j) = true) (hc : ab_cod j q1.1 = some ri) (hE : ab_isE ri = true) (ho : ab_out j q1 = some (o, h1)) (hm : ab_cc h ≤ ab_cc q1.2.2.2 ∧ ab_sc h ≤ ab_sc q1.2.2.2)
    (IH : ∀ (p : Program) (e : Env) (R : Room) (s : State) (m : MethodId) (args : Array Value) (below : List Frame) (meth : Method) (c : Code) (Q : State → Prop), ab_EM j D base b L xs p l R s m args meth c → ab_cc q1.2.2.2 - ab_cc h ≤ R.cells → ab_sc q1.2.2.2 - ab_sc h ≤ R.slots → ab_G D base b L xs p l e R s m args below meth c j (ab_cc h) (ab_sc h) Q q1 → ab_G D base b L xs p l e R s m args below meth c j (ab_cc h) (ab_sc h) Q (0, ab_ent j as, [], h)) :
    vx_Met l (ab_mn j) (ab_codeW j :: ab_gw) { frames := ab_fr j, cells := ab_cc h1 - ab_cc h, slots := ab_sc h1 - ab_sc h, locals := ab_lo j } (fun a U => a = as.toArray ∧ ab_EH D base b L xs U U.heap ∧ ab_Rep D base b L xs U h U.heap) (ab_Qc D base b L xs o h1) (ab_XC D base b L xs o h1) (ab_cc h1 - ab_cc h) (ab_sc h1 - ab_sc h) (fun z => base ≤ z) := by
  have ho2 := ab_out_cc ho
  have fin : ∀ (p : Program) (e : Env) (s : State) (m : MethodId) (args : Array Value) (below : List Frame) (meth : Method) (c : Code) (s₁ : State), BodyLoose p l (ab_mn j) (headSpec (ab_codeW j :: ab_gw) { frames := ab_fr j, cells := ab_cc h1 - ab_cc h, slots := ab_sc h1 - ab_sc h, locals := ab_lo j }) (ab_by j) (ab_xl j) (ab_rt j) e s m args below meth c s₁ → c.maxLocals = ab_xl j → c.exceptionTable.toList = tableOf (ab_hh j) → (args = as.toArray ∧ ab_EH D base b L xs s s.heap ∧ ab_Rep D base b L xs s h s.heap) →
      W p l e { frames := ab_fr j, cells := ab_cc h1 - ab_cc h, slots := ab_sc h1 - ab_sc h, locals := ab_lo j } s m args below meth c s.heap [] 0 0 (vx_MQ below (ab_Qc D base b L xs o h1) (ab_XC D base b L xs o h1) args s (ab_cc h1 - ab_cc h) (ab_sc h1 - ab_sc h) (fun z => base ≤ z)) (entryFrame m args (ab_xl j)) := by
    intro p e s m args below meth c s₁ B hml htab hP
    obtain ⟨rfl, hEH, hR⟩ := hP
    have hts : ∀ w ∈ ab_codeW j :: ab_gw, w.before as.toArray s = true := atoms_spec (ws := ab_codeW j :: ab_gw) B.pre
    have hEM : ab_EM j D base b L xs p l { frames := ab_fr j, cells := ab_cc h1 - ab_cc h, slots := ab_sc h1 - ab_sc h, locals := ab_lo j } s m as.toArray meth c := ⟨hj, B.exec, B.bytes, hml, findClass_of_methodNamed B.named, fun w hw => hts w (List.mem_cons_of_mem _ hw), B.notSynchronized, B.returns, fun hn => ((name_of_methodNamed B.named B.method).1).trans hn, fun _ => htab, hstr, hEH, Nat.le_refl _, Nat.le_refl _⟩
    rw [lg_entry_eq]
    have hG := IH p e _ s m as.toArray below meth c (vx_MQ below (ab_Qc D base b L xs o h1) (ab_XC D base b L xs o h1) as.toArray s (ab_cc h1 - ab_cc h) (ab_sc h1 - ab_sc h) (fun z => base ≤ z)) hEM (Nat.sub_le_sub_right ho2.1 _) (Nat.sub_le_sub_right ho2.2 _) (ab_term hEM hc hE ho hm.1 hm.2 (Nat.le_refl _) (Nat.le_refl _))
    have hg := hG s.heap [] _ hR va_S.rf (ab_RL.ent hx)
    dsimp only at hg
    rw [Nat.sub_self, Nat.sub_self] at hg
    exact hg
  cases hh : ab_hh j with
  | nil =>
    have hcw : ab_codeW j = .code (ab_mn j) (ab_by j) (ab_xl j) (ab_rt j) := by simp only [ab_codeW, hh]
    refine vx_ofW (cc := ab_by j) (maxL := ab_xl j) (ret := ab_rt j) (ws' := ab_gw) hpl (by rw [hcw]) ?_
    intro p e s m args below meth c s₁ B hml ht hP
    refine fin p e s m args below meth c s₁ B hml ?_ hP
    rw [hh]
    cases hl : c.exceptionTable.toList with
    | nil => rfl
    | cons y t => exact (ht y (by rw [hl]; exact List.mem_cons_self)).elim
  | cons q t =>
    have hcw : ab_codeW j = .codeWith (ab_mn j) (ab_by j) (ab_xl j) (ab_rt j) (ab_hh j) := by simp only [ab_codeW, hh]
    refine vx_ofWH (cc := ab_by j) (maxL := ab_xl j) (ret := ab_rt j) (hh := ab_hh j) (ws' := ab_gw) hpl (by rw [hcw]) ?_
    intro p e s m args below meth c s₁ B hml hP
    refine fin p e s m args below meth c s₁ B hml ?_ hP
    have hts : ∀ w ∈ ab_codeW j :: ab_gw, w.before args s = true := atoms_spec (ws := ab_codeW j :: ab_gw) B.pre
    have h9 := hts _ List.mem_cons_self
    rw [hcw] at h9
    exact vx_table (x := ab_mn j) B h9
/-- behind a call -/
theorem ab_after {o : ab_O} {h1 : ab_Hp} {H : Heap} {locs : List Loc} {lsA : Array Slot} {pc cells slots mc ms : Nat} {st0 rest : List Value} {a : Array Value} {Q : State → Prop} (hr : vx_Run p l e R s m args below meth c H locs cells slots mc ms (F0 m pc lsA st0) rest (ab_Qc D base b L xs o h1 a) (ab_XC D base b L xs o h1) (fun z => base ≤ z)) (hS : va_S (fun z => base ≤ z) s.heap H locs)
    (kk : ∀ v, o = .inl v → ∀ (H1 : Heap) (locs1 : List Loc), ab_Rep D base b L xs s h1 H1 → va_S (fun z => base ≤ z) s.heap H1 locs1 → W p l e R s m args below meth c H1 locs1 (cells + mc) (slots + ms) Q (F0 m (pc + 3) lsA (v.toList ++ rest)))
    (kx : ∀ x, o = .inr x → x < 3 → ∀ (H1 : Heap) (locs1 : List Loc) (ce : Cell) (q9 : Addr), ab_Rep D base b L xs s h1 H1 → va_S (fun z => base ≤ z) s.heap H1 locs1 → H1[q9]? = some ce → ce.vm = .none → s.vm.findClass (ab_EN x) = some ce.cls → vx_W p l e R s m args below meth c H1 locs1 (cells + mc) (slots + ms) Q (F0 m pc lsA rest) q9) :
    W p l e R s m args below meth c H locs cells slots Q (F0 m pc lsA st0) := by
  intro T hT X
  rcases hr T hT X with ⟨v, st₀, t, T', L1, h0, X', hL, e1, e2, ⟨⟨v', ho, hv⟩, hR, hF⟩, st⟩ | ⟨q, st₀, t, T', L1, E, ce, h0, X', hL, e1, e2, ⟨⟨x, ho, hx3, hE⟩, hR, hF⟩, hce, hcv, hcl, st⟩
  · cases hv
    obtain ⟨k1, k2, k3⟩ := vx_keep (A0 := fun z => base ≤ z) (A1 := fun z => base ≤ z) h0 e1 hS (fun q _ h => h) (fun q h => h) hL hF
    obtain ⟨t2, a1, b1⟩ := kk v ho T'.heap (locs ++ L1) (by rw [e1]; exact hR.moved (by rw [← e2]; exact X'.warmed.alike.symm)) k3 T' rfl X'
    exact ⟨t2, st t2 a1, b1⟩
  · obtain ⟨k1, k2, k3⟩ := vx_keep (A0 := fun z => base ≤ z) (A1 := fun z => base ≤ z) h0 e1 hS (fun q _ h => h) (fun q h => h) hL hF
    subst hE
    obtain ⟨t2, a1, b1⟩ := kx x ho hx3 T'.heap (locs ++ L1) ce q (by rw [e1]; exact hR.moved (by rw [← e2]; exact X'.warmed.alike.symm)) k3 (by rw [e1]; exact hce) hcv hcl T' rfl X'
    exact ⟨t2, st.trans a1, b1⟩
theorem ab_EH.at {H : Heap} {locs : List Loc} (hEH : ab_EH D base b L xs s s.heap) (hS : va_S (fun z => base ≤ z) s.heap H locs) : ab_EH D base b L xs s H :=
  hEH.heap (fun q hq => hS.2.1 q (Nat.lt_of_lt_of_le hq hEH.2.2.2.2.2.2.2.2.2) (Nat.not_le.mpr hq)) (Nat.le_trans hEH.2.2.2.2.2.2.2.2.2 hS.1)
theorem ab_blind {as : List Value} {h : ab_Hp} : FrameBlind (fun a U => a = as.toArray ∧ ab_EH D base b L xs U U.heap ∧ ab_Rep D base b L xs U h U.heap) := by
  intro a U g mk hP
  obtain ⟨e1, e2, e3⟩ := hP
  exact ⟨e1, ab_EH.warm (s := U) (U := U.calling g mk a) (State.WarmedH.refl U) e2, ab_Rep.moved (u := U) (U := U.calling g mk a) (Vm.Alike.refl U.vm) e3⟩
theorem ab_rm_sum {rest : List Value} (h : ab_rm rest = true) : (rest.map fun v => v.category).sum ≤ 8 := by
  unfold ab_rm at h
  rw [Bool.or_eq_true] at h
  rcases h with h | h
  · have h1 := Nat.le_of_ble_eq_true h
    have := ab_catsum rest
    omega
  · exact Nat.le_of_ble_eq_true h
set_option maxHeartbeats 4000000 in
theorem ab_callG {k pc j na fl d len cb sb : Nat} {ins : Instr} {ls st : List Value} {h h1 : ab_Hp} {o : ab_O} {Q : State → Prop} (hEM : ab_EM k D base b L xs p l R s m args meth c) (hc : ab_cod k pc = some (ins, len, j, na, fl, d)) (hE : ab_isE (ins, len, j, na, fl, d) = false) (hC : ab_isC (ins, len, j, na, fl, d) = true) (hcond : (na ≤ st.length ∧ ab_rm (st.drop na) = true) ∧ ab_rcv fl j (st.take na).reverse h = true)
    (hM : plainName (ab_mn j).cls = true → j < 94 → Nat.ble (ab_exp (st.take na).reverse).length (ab_xl j) = true → vx_Met l (ab_mn j) (ab_codeW j :: ab_gw) { frames := ab_fr j, cells := ab_cc h1 - ab_cc h, slots := ab_sc h1 - ab_sc h, locals := ab_lo j } (fun a U => a = (st.take na).reverse.toArray ∧ ab_EH D base b L xs U U.heap ∧ ab_Rep D base b L xs U h U.heap) (ab_Qc D base b L xs o h1) (ab_XC D base b L xs o h1) (ab_cc h1 - ab_cc h) (ab_sc h1 - ab_sc h) (fun z => base ≤ z))
    (hcb : cb ≤ ab_cc h) (hsb : sb ≤ ab_sc h) (hh1 : ab_cc h ≤ ab_cc h1) (hh2 : ab_sc h ≤ ab_sc h1) (hcc : ab_cc h1 - cb ≤ R.cells) (hss : ab_sc h1 - sb ≤ R.slots)
    (kk : ∀ v, o = .inl v → ab_G D base b L xs p l e R s m args below meth c k cb sb Q (pc + 3, ls, v.toList ++ st.drop na, h1))
    (kx : ∀ x, o = .inr x → x < 3 → ∃ hp lv ln, ab_hd k x = some (hp, lv, ln) ∧ ab_G D base b L xs p l e R s m args below meth c k cb sb Q (hp + ln, ab_st1 ls lv ab_nov, [], h1)) :
    ab_G D base b L xs p l e R s m args below meth c k cb sb Q (pc, ls, st, h) := by
  obtain ⟨hk, hx, hb, hml, hown, hts, hlocks, hrt, hin, htab, hstr, hEH, hfr, hlo⟩ := hEM
  obtain ⟨hd0, hch⟩ := ab_cod_ch hk hc
  have hd := ab_dec_spec hd0
  clear hd0
  dsimp only at hd
  obtain ⟨⟨hna, hrest⟩, hrcv⟩ := hcond
  generalize has : (st.take na).reverse = as at hrcv hM
  generalize hrs : st.drop na = rest at hrest kk
  have hst : st = as.reverse ++ rest := by rw [← has, ← hrs, List.reverse_reverse, List.take_append_drop]
  have hlen : as.length = na := by rw [← has, List.length_reverse, List.length_take]; omega
  have hhc : ∀ x, x < 3 → ab_hck1 k pc x = true := fun x hx3 => ab_hck_at hk hc hC hx3
  intro H locs lsA hR hS hL
  dsimp only at hR hL ⊢
  have hEH' := hEH.at hS
  have hPc : ∀ U : State, U.heap = H → s.WarmedH U.vm → as.toArray = as.toArray ∧ ab_EH D base b L xs U U.heap ∧ ab_Rep D base b L xs U h U.heap := fun U hU hW => ⟨rfl, by rw [hU]; exact hEH'.warm hW, by rw [hU]; exact hR.moved hW.alike⟩
  simp only [ab_rcv, Bool.and_eq_true] at hrcv
  obtain ⟨hxl, hrcv⟩ := hrcv
  have hcs : 2 * (F0 m pc lsA st).monitorRoom + (rest.map fun v => v.category).sum ≤ 8 := lv_room (rest := st) (st := rest) (ab_rm_sum hrest)
  have hf : ab_cc h - cb + (ab_cc h1 - ab_cc h) ≤ R.cells ∧ ab_sc h - sb + (ab_sc h1 - ab_sc h) ≤ R.slots := by omega
  have eC : ab_cc h - cb + (ab_cc h1 - ab_cc h) = ab_cc h1 - cb := by omega
  have eS : ab_sc h - sb + (ab_sc h1 - ab_sc h) = ab_sc h1 - sb := by omega
  have fin : ∀ {a : Array Value}, vx_Run p l e R s m args below meth c H locs (ab_cc h - cb) (ab_sc h - sb) (ab_cc h1 - ab_cc h) (ab_sc h1 - ab_sc h) (F0 m pc lsA st) rest (ab_Qc D base b L xs o h1 a) (ab_XC D base b L xs o h1) (fun z => base ≤ z) → W p l e R s m args below meth c H locs (ab_cc h - cb) (ab_sc h - sb) Q (F0 m pc lsA st) := by
    intro a hr
    refine ab_after hr hS (fun v hv H1 locs1 hR1 hS1 => ?_) (fun x hx1 hx3 H1 locs1 ce q9 hR1 hS1 hce hcv hcl => ?_)
    · rw [eC, eS]
      exact kk v hv H1 locs1 lsA hR1 hS1 hL
    · rw [eC, eS]
      obtain ⟨hp, lv, ln, hhd, hG⟩ := kx x hx1 hx3
      have hk1 := hhc x hx3
      unfold ab_hck1 at hk1
      rw [hhd] at hk1
      cases hk1
  have hgood : ∀ (w : Jvm.Cond), w ∈ ab_codeW j :: ab_gw → ab_codeW j ∈ ab_gw → ∀ (a' : Array Value) (U : State), s.WarmedH U.vm → w.before a' U = true := fun w hw hcw a' U hW => by
    have hm : w ∈ ab_gw := by
      rcases List.mem_cons.mp hw with rfl | h9
      · exact hcw
      · exact h9
    exact word_at hW (good_of_word (ab_gwgood w hm)) (hts w hm)
  cases ins with
  | invokevirtual idx =>
    simp only [ab_chI, ab_calV, ab_calA, decide_eq_true_eq, Bool.and_eq_true] at hch
    obtain ⟨⟨hlen3, hfl⟩, ⟨⟨⟨⟨⟨⟨⟨⟨⟨⟨⟨⟨⟨hj, c1⟩, c2⟩, c3⟩, c4⟩, c5⟩, c6⟩, c7⟩, hhh⟩, c8⟩, c9⟩, c10⟩, c11⟩, c12⟩⟩ := hch
    subst hlen3
    subst hfl
    have hcw : ab_codeW j = .code (ab_mn j) (ab_by j) (ab_xl j) (ab_rt j) := by simp only [ab_codeW, hhh]
    have hmem : ab_codeW j ∈ ab_gw := ab_ok_in (ab_cwall j (by omega) c1)
    cases as with
    | nil => cases hrcv
    | cons a0 As =>
      cases a0 with
      | ref r =>
        simp only [decide_eq_true_eq] at hrcv
        have hM' := hM c4 (by omega) hxl
        obtain ⟨g1, g2, cell, q1, q2, q3, -⟩ := (hR.2 r).2.2.2.2 _ hrcv
        obtain ⟨hcl, -⟩ := ab_CK g2
        have hfc : s.vm.findClass (ab_mn j).cls = some cell.cls := by
          rw [q2, ← c12]
          exact (hEH.1.1 _ _ hcl).2.1
        exact fin (vx_runV (As := As) (rest := rest) (own := ab_ow k) (C := (ab_mn j).cls) (index := idx) (bytes := ab_by j) (maxL := ab_xl j) (ret := ab_rt j) (Ts := ab_gw) (nL := ab_xl k) (n := na - 1) (g := F0 m pc lsA st) ⟨hx, hb, hml, hown, hts⟩ hM'
          ⟨⟨rfl, rfl, Nat.le_trans c6.1 hfr, Nat.le_trans c6.2 hlo, fun w hw a' U hW => hgood w hw hmem a' U hW, by rw [← hcw]; exact List.mem_cons_self, by rw [← hcw]; exact hts _ hmem, hts _ (ab_ok_in c2), c3, fun sig hsig => by rw [hsig] at c5; exact (Option.some.inj c5).symm, hts _ (ab_ok_in c8)⟩, hts _ (ab_ok_in c9), hts _ (ab_ok_in c10)⟩
          ⟨ab_blind, ⟨cell, q1, by rw [q3]; rfl, hfc⟩, hPc⟩ rfl (by rw [← hlen]; rfl) hL.1 (by show st = _; rw [hst]; simp) hcs hd hf)
      | _ => cases hrcv
  | invokestatic idx =>
    simp only [ab_chI, ab_calS, ab_calA, decide_eq_true_eq, Bool.and_eq_true] at hch
    obtain ⟨⟨hlen3, hfl⟩, ⟨⟨⟨⟨⟨⟨⟨⟨hj, c1⟩, c2⟩, c3⟩, c4⟩, c5⟩, c6⟩, c8⟩, c9⟩⟩ := hch
    subst hlen3
    subst hfl
    have hmem : ab_codeW j ∈ ab_gw := ab_ok_in (ab_cwall j (by omega) c1)
    have hM' := hM c4 (by omega) hxl
    cases hhh : ab_hh j with
    | nil =>
      have hcw : ab_codeW j = .code (ab_mn j) (ab_by j) (ab_xl j) (ab_rt j) := by simp only [ab_codeW, hhh]
      exact fin (vx_runS (As := as) (rest := rest) (own := ab_ow k) (index := idx) (bytes := ab_by j) (maxL := ab_xl j) (ret := ab_rt j) (Ts := ab_gw) (nL := ab_xl k) (n := na) (g := F0 m pc lsA st) ⟨hx, hb, hml, hown, hts⟩ hM'
        ⟨⟨rfl, rfl, Nat.le_trans c6.1 hfr, Nat.le_trans c6.2 hlo, fun w hw a' U hW => hgood w hw hmem a' U hW, by rw [← hcw]; exact List.mem_cons_self, by rw [← hcw]; exact hts _ hmem, hts _ (ab_ok_in c2), c3, fun sig hsig => by rw [hsig] at c5; exact (Option.some.inj c5).symm, hts _ (ab_ok_in c8)⟩, hts _ (ab_ok_in c9)⟩
        ⟨ab_blind, hPc⟩ rfl hlen hL.1 hst hcs hd hf)
    | cons q t =>
      have hcw : ab_codeW j = .codeWith (ab_mn j) (ab_by j) (ab_xl j) (ab_rt j) (ab_hh j) := by simp only [ab_codeW, hhh]
      exact fin (vx_runSX (As := as) (rest := rest) (own := ab_ow k) (index := idx) (bytes := ab_by j) (maxL := ab_xl j) (ret := ab_rt j) (hh := ab_hh j) (Ts := ab_gw) (nL := ab_xl k) (n := na) (g := F0 m pc lsA st) ⟨hx, hb, hml, hown, hts⟩ hM'
        ⟨⟨rfl, rfl, Nat.le_trans c6.1 hfr, Nat.le_trans c6.2 hlo, fun w hw a' U hW => hgood w hw hmem a' U hW, by rw [← hcw]; exact List.mem_cons_self⟩, by rw [← hcw]; exact hts _ hmem, hts _ (ab_ok_in c2), c3, fun sig hsig => by rw [hsig] at c5; exact (Option.some.inj c5).symm, hts _ (ab_ok_in c8), hts _ (ab_ok_in c9)⟩
        ⟨ab_blind, hPc⟩ rfl hlen hL.1 hst hcs hd hf)
  | invokespecial idx =>
    have hf4 : ¬ fl = 4 := by
      intro h4
      subst h4
      cases hC
    simp only [ab_chI, decide_eq_true_eq, Bool.and_eq_true] at hch
    rw [if_neg hf4] at hch
    simp only [ab_calI, ab_calA, decide_eq_true_eq, Bool.and_eq_true] at hch
    obtain ⟨hlen3, ⟨⟨⟨⟨⟨⟨⟨⟨⟨⟨⟨⟨hj, c1⟩, c2⟩, c3⟩, c4⟩, c5⟩, c6⟩, c7⟩, hhh⟩, c8⟩, c9⟩, c10⟩, c11⟩⟩ := hch
    subst hlen3
    have hcw : ab_codeW j = .code (ab_mn j) (ab_by j) (ab_xl j) none := by simp only [ab_codeW, hhh, c8]
    have hmem : ab_codeW j ∈ ab_gw := ab_ok_in (ab_cwall j (by omega) c1)
    have hM' := hM c4 (by omega) hxl
    have hfl : fl = 2 ∨ fl = 3 := by
      split at c11
      · exact Or.inl rfl
      · exact Or.inr rfl
      · cases c11
    obtain ⟨r, As, rfl⟩ : ∃ r As, as = Value.ref r :: As := by
      rcases hfl with rfl | rfl <;>
        (cases as with
         | nil => cases hrcv
         | cons a0 As =>
           cases a0 with
           | ref r => exact ⟨r, As, rfl⟩
           | _ => cases hrcv)
    rcases hfl with rfl | rfl
    · exact fin (vx_runI (As := As) (b := r) (rest := rest) (own := ab_ow k) (index := idx) (bytes := ab_by j) (maxL := ab_xl j) (Ts := ab_gw) (nL := ab_xl k) (n := na - 1) (g := F0 m pc lsA st) ⟨hx, hb, hml, hown, hts⟩ hM'
        ⟨⟨rfl, rfl, Nat.le_trans c6.1 hfr, Nat.le_trans c6.2 hlo, fun w hw a' U hW => hgood w hw hmem a' U hW, by rw [← hcw]; exact List.mem_cons_self, by rw [← hcw]; exact hts _ hmem, hts _ (ab_ok_in c2), c3, fun sig hsig => by rw [hsig] at c5; exact (Option.some.inj c5).symm, hts _ (ab_ok_in c11)⟩, c9, hts _ (ab_ok_in c10)⟩
        ⟨ab_blind, hPc⟩ rfl (by rw [← hlen]; rfl) hL.1 (by show st = _; rw [hst]; simp) hcs hd hf)
    · simp only [decide_eq_true_eq] at c11
      have hxm := List.mem_append_left ab_xy c11
      exact fin (vx_runIN (As := As) (b := r) (rest := rest) (own := ab_ow k) (host := ab_host j idx ab_hosts) (index := idx) (bytes := ab_by j) (maxL := ab_xl j) (Ts := ab_gw) (nL := ab_xl k) (n := na - 1) (g := F0 m pc lsA st) ⟨hx, hb, hml, hown, hts⟩ hM'
        ⟨⟨⟨rfl, rfl, Nat.le_trans c6.1 hfr, Nat.le_trans c6.2 hlo, fun w hw a' U hW => hgood w hw hmem a' U hW, by rw [← hcw]; exact List.mem_cons_self⟩, by rw [← hcw]; exact hts _ hmem, hts _ (ab_ok_in c2), c3, fun sig hsig => by rw [hsig] at c5; exact (Option.some.inj c5).symm, va_Nw.use (ab_xwt _ hxm) (hEH.2.2.2.1 _ hxm)⟩, c9, hts _ (ab_ok_in c10)⟩
        ⟨ab_blind, hPc⟩ rfl (by rw [← hlen]; rfl) hL.1 (by show st = _; rw [hst]; simp) hcs hd hf)
  | _ => cases hC
end AbCalls
