/-! The JVM follows a plain step: all kinds. -/
section AbStep2
variable {p : Program} {l : Launch} {e : Env} {R : Room} {s : State} {m : MethodId} {args : Array Value} {below : List Frame} {meth : Method} {c : Code}
variable {D : va_G} {base b L : Nat} {xs : Nat → Int32} {k cb sb : Nat} {Q : State → Prop}
theorem ab_al_snd {pc a : Nat} {h : ab_Hp} {H : Heap} {locs : List Loc} {lsA : Array Slot} {rest : List Value} {cells slots : Nat} (hx : p.tables.exec = Jvm.exec) (hb : c.code = ab_by k) (hEH : ab_EH D base b L xs s s.heap) (hR : ab_Rep D base b L xs s h H) (hS : va_S (fun z => base ≤ z) s.heap H locs) (hk : 1 ≤ (ab_sh h a).1 ∧ (ab_sh h a).1 ≤ 6) (hd : decode (ab_by k) pc = .ok (.arraylength, 1))
    (kk : W p l e R s m args below meth c H locs cells slots Q (F0 m (pc + 1) lsA (.int (Int32.ofNat (ab_sh h a).2) :: rest))) : W p l e R s m args below meth c H locs cells slots Q (F0 m pc lsA (.ref a :: rest)) := by
  obtain ⟨r1, r2, r3, r4, -⟩ := hR.2 a
  obtain ⟨-, -, -, -, -, -, -, hX, hbb, hbs⟩ := hEH
  have hcase : (ab_sh h a).1 = 1 ∨ (ab_sh h a).1 = 2 ∨ (3 ≤ (ab_sh h a).1 ∧ (ab_sh h a).1 ≤ 5) ∨ (ab_sh h a).1 = 6 := by omega
  rcases hcase with q | q | q | q
  · obtain ⟨g1, cA, g2, g3⟩ := r1 q
    exact W.alen hx hb g3 (g2 _ _) (by rw [arrV_size]) rfl rfl hd kk
  · obtain ⟨g1, cA, g2, g3⟩ := r2 q
    exact W.alen hx hb g3 (g2 _ _) (by rw [arrV_size]) rfl rfl hd kk
  · obtain ⟨g1, cA, g2, -, g3⟩ := r3 q
    exact W.alen hx hb g3 (g2 _ _) (by rw [arrV_size]) rfl rfl hd kk
  · obtain ⟨g1, g2, -⟩ := r4 q
    subst g1
    rw [g2] at kk
    exact va_slen hx hb hX (Nat.lt_of_lt_of_le hbb hbs) (Nat.not_le.mpr hbb) hS hd kk
set_option maxHeartbeats 4000000 in
theorem ab_snd {pc : Nat} {ri : ab_RI} {ls st : List Value} {h : ab_Hp} {q : ab_C} (hEM : ab_EM k D base b L xs p l R s m args meth c) (hc : ab_cod k pc = some ri) (hE : ab_isE ri = false) (hC : ab_isC ri = false) (hst : ab_stp ri pc ls st h = some q) (hcb : cb ≤ ab_cc h) (hsb : sb ≤ ab_sc h) (hcc : ab_cc q.2.2.2 - cb ≤ R.cells) (hss : ab_sc q.2.2.2 - sb ≤ R.slots) (hG : ab_G D base b L xs p l e R s m args below meth c k cb sb Q q) : ab_G D base b L xs p l e R s m args below meth c k cb sb Q (pc, ls, st, h) := by
  obtain ⟨hk, hx, hb, hml, hown, hts, hlocks, hrt, hin, htab, hstr, hEH, hfr, hlo⟩ := hEM
  obtain ⟨hd0, hch⟩ := ab_cod_ch hk hc
  obtain ⟨ins, len, a, b1, c1, d1⟩ := ri
  have hd := ab_dec_spec hd0
  clear hd0
  dsimp only at hd
  intro H locs lsA hR hS hL
  dsimp only at hR hL ⊢
  have hK : va_K D vwCl [] s := hEH.1
  cases ins with
  | iconst n =>
    simp only [ab_chI, decide_eq_true_eq] at hch
    subst hch
    simp only [ab_stp, Option.some.injEq] at hst
    subst hst
    exact lv_iconst hx hb hd rfl (hG H locs lsA hR hS hL)
  | bipush n =>
    simp only [ab_chI, decide_eq_true_eq] at hch
    subst hch
    simp only [ab_stp, Option.some.injEq] at hst
    subst hst
    exact lv_bipush hx hb hd rfl (hG H locs lsA hR hS hL)
  | sipush n =>
    simp only [ab_chI, decide_eq_true_eq] at hch
    subst hch
    simp only [ab_stp, Option.some.injEq] at hst
    subst hst
    exact lv_sipush hx hb hd rfl (hG H locs lsA hR hS hL)
  | lconst n =>
    simp only [ab_chI, decide_eq_true_eq] at hch
    subst hch
    simp only [ab_stp, Option.some.injEq] at hst
    subst hst
    exact lv_lconst hx hb hd rfl (hG H locs lsA hR hS hL)
  | dconst n =>
    simp only [ab_chI, decide_eq_true_eq] at hch
    subst hch
    simp only [ab_stp, Option.some.injEq] at hst
    subst hst
    have hg := hG H locs lsA hR hS hL
    dsimp only at hg
    by_cases h0 : n = 0
    · subst h0
      exact lv_dconst0 hx hb hd hg
    · have h1 : n = 1 := by omega
      subst h1
      exact lv_dconst1 hx hb hd hg
  | aconst_null =>
    simp only [ab_chI, decide_eq_true_eq] at hch
    subst hch
    simp only [ab_stp, Option.some.injEq] at hst
    subst hst
    exact lv_null hx hb hd (hG H locs lsA hR hS hL)
  | ldc2_w idx =>
    simp only [ab_chI, decide_eq_true_eq, Bool.and_eq_true] at hch
    obtain ⟨hlen, hw⟩ := hch
    subst hlen
    simp only [ab_stp, Option.some.injEq] at hst
    subst hst
    have hg := hG H locs lsA hR hS hL
    dsimp only at hg
    by_cases h0 : a = 0
    · rw [if_pos h0] at hw hg
      exact lv_ldc2 hx hb hown (hts _ (ab_ok_in hw)) hd hg
    · rw [if_neg h0] at hw hg
      exact lv_ldc2d hx hb hown (hts _ (ab_ok_in hw)) hd hg
  | iload i =>
    simp only [ab_chI, decide_eq_true_eq] at hch
    subst hch
    obtain ⟨hp, rfl⟩ := ab_ld_spec hst
    obtain ⟨x, hv⟩ := ab_isI_spec hp
    have hs := hL.2.2 i (by rw [hv]; rfl)
    have hg := hG H locs lsA hR hS hL
    dsimp only at hg
    rw [hv] at hs hg
    exact lv_iload hx hb hd hs hg
  | iload_n i =>
    simp only [ab_chI, decide_eq_true_eq] at hch
    subst hch
    obtain ⟨hp, rfl⟩ := ab_ld_spec hst
    obtain ⟨x, hv⟩ := ab_isI_spec hp
    have hs := hL.2.2 i (by rw [hv]; rfl)
    have hg := hG H locs lsA hR hS hL
    dsimp only at hg
    rw [hv] at hs hg
    exact lv_iload_n hx hb hd rfl hs hg
  | lload i =>
    simp only [ab_chI, decide_eq_true_eq] at hch
    subst hch
    obtain ⟨hp, rfl⟩ := ab_ld_spec hst
    obtain ⟨x, hv⟩ := ab_isL_spec hp
    have hs := hL.2.2 i (by rw [hv]; rfl)
    have hg := hG H locs lsA hR hS hL
    dsimp only at hg
    rw [hv] at hs hg
    exact lv_lload hx hb hd hs hg
  | lload_n i =>
    simp only [ab_chI, decide_eq_true_eq] at hch
    subst hch
    obtain ⟨hp, rfl⟩ := ab_ld_spec hst
    obtain ⟨x, hv⟩ := ab_isL_spec hp
    have hs := hL.2.2 i (by rw [hv]; rfl)
    have hg := hG H locs lsA hR hS hL
    dsimp only at hg
    rw [hv] at hs hg
    exact lv_lload_n hx hb hd rfl hs hg
  | dload i =>
    simp only [ab_chI, decide_eq_true_eq] at hch
    subst hch
    obtain ⟨hp, rfl⟩ := ab_ld_spec hst
    obtain ⟨x, hv⟩ := ab_isD_spec hp
    have hs := hL.2.2 i (by rw [hv]; rfl)
    have hg := hG H locs lsA hR hS hL
    dsimp only at hg
    rw [hv] at hs hg
    exact lv_dload hx hb hd hs hg
  | dload_n i =>
    simp only [ab_chI, decide_eq_true_eq] at hch
    subst hch
    obtain ⟨hp, rfl⟩ := ab_ld_spec hst
    obtain ⟨x, hv⟩ := ab_isD_spec hp
    have hs := hL.2.2 i (by rw [hv]; rfl)
    have hg := hG H locs lsA hR hS hL
    dsimp only at hg
    rw [hv] at hs hg
    exact lv_dload_n hx hb hd rfl hs hg
  | aload i =>
    simp only [ab_chI, decide_eq_true_eq] at hch
    subst hch
    obtain ⟨hp, rfl⟩ := ab_ld_spec hst
    have hg := hG H locs lsA hR hS hL
    dsimp only at hg
    rcases ab_isA_spec hp with hv | ⟨x, hv⟩
    · have hs := hL.2.2 i (by rw [hv]; rfl)
      rw [hv] at hs hg
      exact lv_aloadN hx hb hd hs hg
    · have hs := hL.2.2 i (by rw [hv]; rfl)
      rw [hv] at hs hg
      exact lv_aload hx hb hd hs hg
  | aload_n i =>
    simp only [ab_chI, decide_eq_true_eq] at hch
    subst hch
    obtain ⟨hp, rfl⟩ := ab_ld_spec hst
    have hg := hG H locs lsA hR hS hL
    dsimp only at hg
    rcases ab_isA_spec hp with hv | ⟨x, hv⟩
    · have hs := hL.2.2 i (by rw [hv]; rfl)
      rw [hv] at hs hg
      exact lv_aload_nN hx hb hd rfl hs hg
    · have hs := hL.2.2 i (by rw [hv]; rfl)
      rw [hv] at hs hg
      exact lv_aload_n hx hb hd rfl hs hg
  | istore i =>
    simp only [ab_chI, decide_eq_true_eq, Bool.and_eq_true] at hch
    obtain ⟨hlen, hlt⟩ := hch
    subst hlen
    obtain ⟨v, rest, rfl, hp, rfl⟩ := ab_s1_spec hst
    obtain ⟨x, rfl⟩ := ab_isI_spec hp
    exact lv_istore hx hb hd hL.has hlt rfl (fun ls' hl' => hG H locs ls' hR hS (hL.st1 hl'))
  | istore_n i =>
    simp only [ab_chI, decide_eq_true_eq, Bool.and_eq_true] at hch
    obtain ⟨hlen, hlt⟩ := hch
    subst hlen
    obtain ⟨v, rest, rfl, hp, rfl⟩ := ab_s1_spec hst
    obtain ⟨x, rfl⟩ := ab_isI_spec hp
    exact lv_istore_n hx hb hd rfl hL.has hlt rfl (fun ls' hl' => hG H locs ls' hR hS (hL.st1 hl'))
  | lstore i =>
    simp only [ab_chI, decide_eq_true_eq, Bool.and_eq_true] at hch
    obtain ⟨hlen, hlt⟩ := hch
    subst hlen
    obtain ⟨v, rest, rfl, hp, rfl⟩ := ab_s2_spec hst
    obtain ⟨x, rfl⟩ := ab_isL_spec hp
    exact lv_lstore hx hb hd hL.has hlt rfl (fun ls' hl' => hG H locs ls' hR hS (hL.st2 hl'))
  | lstore_n i =>
    simp only [ab_chI, decide_eq_true_eq, Bool.and_eq_true] at hch
    obtain ⟨hlen, hlt⟩ := hch
    subst hlen
    obtain ⟨v, rest, rfl, hp, rfl⟩ := ab_s2_spec hst
    obtain ⟨x, rfl⟩ := ab_isL_spec hp
    exact lv_lstore_n hx hb hd rfl hL.has hlt rfl (fun ls' hl' => hG H locs ls' hR hS (hL.st2 hl'))
  | dstore i =>
    simp only [ab_chI, decide_eq_true_eq, Bool.and_eq_true] at hch
    obtain ⟨hlen, hlt⟩ := hch
    subst hlen
    obtain ⟨v, rest, rfl, hp, rfl⟩ := ab_s2_spec hst
    obtain ⟨x, rfl⟩ := ab_isD_spec hp
    exact lv_dstore hx hb hd hL.has hlt rfl (fun ls' hl' => hG H locs ls' hR hS (hL.st2 hl'))
  | dstore_n i =>
    simp only [ab_chI, decide_eq_true_eq, Bool.and_eq_true] at hch
    obtain ⟨hlen, hlt⟩ := hch
    subst hlen
    obtain ⟨v, rest, rfl, hp, rfl⟩ := ab_s2_spec hst
    obtain ⟨x, rfl⟩ := ab_isD_spec hp
    exact lv_dstore_n hx hb hd rfl hL.has hlt rfl (fun ls' hl' => hG H locs ls' hR hS (hL.st2 hl'))
  | astore i =>
    simp only [ab_chI, decide_eq_true_eq, Bool.and_eq_true] at hch
    obtain ⟨hlen, hlt⟩ := hch
    subst hlen
    obtain ⟨v, rest, rfl, hp, rfl⟩ := ab_s1_spec hst
    rcases ab_isA_spec hp with rfl | ⟨x, rfl⟩
    · exact lv_astoreN hx hb hd hL.has hlt rfl (fun ls' hl' => hG H locs ls' hR hS (hL.st1 hl'))
    · exact lv_astore hx hb hd hL.has hlt rfl (fun ls' hl' => hG H locs ls' hR hS (hL.st1 hl'))
  | astore_n i =>
    simp only [ab_chI, decide_eq_true_eq, Bool.and_eq_true] at hch
    obtain ⟨hlen, hlt⟩ := hch
    subst hlen
    obtain ⟨v, rest, rfl, hp, rfl⟩ := ab_s1_spec hst
    rcases ab_isA_spec hp with rfl | ⟨x, rfl⟩
    · exact lv_astore_nN hx hb hd rfl hL.has hlt rfl (fun ls' hl' => hG H locs ls' hR hS (hL.st1 hl'))
    · exact lv_astore_n hx hb hd rfl hL.has hlt rfl (fun ls' hl' => hG H locs ls' hR hS (hL.st1 hl'))
  | iinc i n =>
    simp only [ab_chI, decide_eq_true_eq, Bool.and_eq_true] at hch
    obtain ⟨hlen, hlt⟩ := hch
    subst hlen
    simp only [ab_stp] at hst
    split at hst
    · rename_i x hv
      simp only [Option.some.injEq] at hst
      subst hst
      have hh := hL.has
      have hh2 : lv_has lsA (ab_xl k) ((i, .int x) :: ab_lst (ab_xl k) ls) := ⟨hh.1, hh.2.1, fun q hq => by
        rcases List.mem_cons.mp hq with rfl | hq
        · have := hL.2.2 i (by rw [hv]; rfl)
          rw [hv] at this
          exact this
        · exact hh.2.2 q hq⟩
      exact lv_iinc (k := 0) (lv' := (i, .int (x + Int32.ofInt n)) :: (ab_lst (ab_xl k) ls).filter (fun q => !(q.1 == i) && !(q.1 + 1 == i && q.2.category == 2))) hx hb hd hh2 rfl rfl hlt (by rw [List.filter_cons_of_neg (by simp)]) (fun ls' hl' => hG H locs ls' hR hS (hL.st1 hl'))
    · cases hst
  | iadd =>
    simp only [ab_chI, decide_eq_true_eq] at hch
    subst hch
    obtain ⟨x, y, rest, rfl, rfl⟩ := ab_ii_spec hst
    exact lv_iadd hx hb hd (hG H locs lsA hR hS hL)
  | isub =>
    simp only [ab_chI, decide_eq_true_eq] at hch
    subst hch
    obtain ⟨x, y, rest, rfl, rfl⟩ := ab_ii_spec hst
    exact lv_isub hx hb hd (hG H locs lsA hR hS hL)
  | imul =>
    simp only [ab_chI, decide_eq_true_eq] at hch
    subst hch
    obtain ⟨x, y, rest, rfl, rfl⟩ := ab_ii_spec hst
    exact lv_imul hx hb hd (hG H locs lsA hR hS hL)
  | iand =>
    simp only [ab_chI, decide_eq_true_eq] at hch
    subst hch
    obtain ⟨x, y, rest, rfl, rfl⟩ := ab_ii_spec hst
    exact lv_iand hx hb hd (hG H locs lsA hR hS hL)
  | ior =>
    simp only [ab_chI, decide_eq_true_eq] at hch
    subst hch
    obtain ⟨x, y, rest, rfl, rfl⟩ := ab_ii_spec hst
    exact lv_ior hx hb hd (hG H locs lsA hR hS hL)
  | ishl =>
    simp only [ab_chI, decide_eq_true_eq] at hch
    subst hch
    obtain ⟨x, y, rest, rfl, rfl⟩ := ab_ii_spec hst
    exact lv_ishl hx hb hd (hG H locs lsA hR hS hL)
  | ishr =>
    simp only [ab_chI, decide_eq_true_eq] at hch
    subst hch
    obtain ⟨x, y, rest, rfl, rfl⟩ := ab_ii_spec hst
    exact lv_ishr hx hb hd (hG H locs lsA hR hS hL)
  | ldc idx =>
    simp only [ab_chI, decide_eq_true_eq, Bool.and_eq_true] at hch
    obtain ⟨⟨hlen, ha⟩, hw⟩ := hch
    subst hlen
    subst ha
    simp only [ab_stp, if_true, Option.some.injEq] at hst
    subst hst
    exact lv_ldc hx hb hown (hts _ (ab_ok_in hw)) hd (hG H locs lsA hR hS hL)
  | irem =>
    simp only [ab_chI, decide_eq_true_eq] at hch
    subst hch
    simp only [ab_stp] at hst
    split at hst
    · split at hst
      · cases hst
      · rename_i hy
        simp only [Option.some.injEq] at hst
        subst hst
        exact lv_irem hx hb hd hy (hG H locs lsA hR hS hL)
    · cases hst
  | i2l =>
    simp only [ab_chI, decide_eq_true_eq] at hch
    subst hch
    simp only [ab_stp] at hst
    split at hst
    · simp only [Option.some.injEq] at hst
      subst hst
      exact lv_i2l hx hb hd rfl (hG H locs lsA hR hS hL)
    · cases hst
  | i2d =>
    simp only [ab_chI, decide_eq_true_eq] at hch
    subst hch
    simp only [ab_stp] at hst
    split at hst
    · simp only [Option.some.injEq] at hst
      subst hst
      exact lv_i2d hx hb hd (hG H locs lsA hR hS hL)
    · cases hst
  | d2l =>
    simp only [ab_chI, decide_eq_true_eq] at hch
    subst hch
    simp only [ab_stp] at hst
    split at hst
    · simp only [Option.some.injEq] at hst
      subst hst
      exact lv_d2l hx hb hd (hG H locs lsA hR hS hL)
    · cases hst
  | ladd =>
    simp only [ab_chI, decide_eq_true_eq] at hch
    subst hch
    obtain ⟨x, y, rest, rfl, rfl⟩ := ab_ll_spec hst
    exact lv_ladd hx hb hd (hG H locs lsA hR hS hL)
  | lsub =>
    simp only [ab_chI, decide_eq_true_eq] at hch
    subst hch
    obtain ⟨x, y, rest, rfl, rfl⟩ := ab_ll_spec hst
    exact lv_lsub hx hb hd (hG H locs lsA hR hS hL)
  | lmul =>
    simp only [ab_chI, decide_eq_true_eq] at hch
    subst hch
    obtain ⟨x, y, rest, rfl, rfl⟩ := ab_ll_spec hst
    exact lv_lmul hx hb hd (hG H locs lsA hR hS hL)
  | lor =>
    simp only [ab_chI, decide_eq_true_eq] at hch
    subst hch
    obtain ⟨x, y, rest, rfl, rfl⟩ := ab_ll_spec hst
    exact lv_lor hx hb hd (hG H locs lsA hR hS hL)
  | lshl =>
    simp only [ab_chI, decide_eq_true_eq] at hch
    subst hch
    simp only [ab_stp] at hst
    split at hst
    · simp only [Option.some.injEq] at hst
      subst hst
      exact lv_lshl hx hb hd rfl (hG H locs lsA hR hS hL)
    · cases hst
  | lcmp =>
    simp only [ab_chI, decide_eq_true_eq] at hch
    subst hch
    simp only [ab_stp] at hst
    split at hst
    · simp only [Option.some.injEq] at hst
      subst hst
      exact W.lcmp hx hb hd (hG H locs lsA hR hS hL)
    · cases hst
  | ddiv =>
    simp only [ab_chI, decide_eq_true_eq] at hch
    subst hch
    obtain ⟨x, y, rest, rfl, hn, rfl⟩ := ab_dd_spec hst
    exact lv_ddiv hx hb hd hn (hG H locs lsA hR hS hL)
  | dmul =>
    simp only [ab_chI, decide_eq_true_eq] at hch
    subst hch
    obtain ⟨x, y, rest, rfl, hn, rfl⟩ := ab_dd_spec hst
    exact lv_dmul hx hb hd hn (hG H locs lsA hR hS hL)
  | dsub =>
    simp only [ab_chI, decide_eq_true_eq] at hch
    subst hch
    obtain ⟨x, y, rest, rfl, hn, rfl⟩ := ab_dd_spec hst
    exact lv_dsub hx hb hd hn (hG H locs lsA hR hS hL)
  | dcmp op =>
    simp only [ab_chI, decide_eq_true_eq] at hch
    subst hch
    simp only [ab_stp] at hst
    split at hst
    · simp only [Option.some.injEq] at hst
      subst hst
      exact lv_dcmp hx hb hd (hG H locs lsA hR hS hL)
    · cases hst
  | dup =>
    simp only [ab_chI, decide_eq_true_eq] at hch
    subst hch
    simp only [ab_stp] at hst
    split at hst
    · split at hst
      · rename_i hv
        simp only [Option.some.injEq] at hst
        subst hst
        exact lv_dup hx hb hd hv (hG H locs lsA hR hS hL)
      · cases hst
    · cases hst
  | dup2 =>
    simp only [ab_chI, decide_eq_true_eq] at hch
    subst hch
    simp only [ab_stp] at hst
    split at hst
    · split at hst
      · rename_i hv
        simp only [Option.some.injEq] at hst
        subst hst
        exact lv_dup2_11 hx hb hd hv.1 hv.2 (hG H locs lsA hR hS hL)
      · cases hst
    · cases hst
  | goto off =>
    simp only [ab_chI, decide_eq_true_eq, Bool.and_eq_true] at hch
    obtain ⟨hlen, ht⟩ := hch
    subst hlen
    simp only [ab_stp, Option.some.injEq] at hst
    subst hst
    exact lv_goto hx hb hd ht (hG H locs lsA hR hS hL)
  | if_icmp cn off =>
    simp only [ab_chI, decide_eq_true_eq, Bool.and_eq_true] at hch
    obtain ⟨hlen, ht⟩ := hch
    subst hlen
    simp only [ab_stp] at hst
    split at hst
    · simp only [ab_jmp, Option.some.injEq] at hst
      subst hst
      have hg := hG H locs lsA hR hS hL
      dsimp only at hg
      cases cn with
      | eq => exact lv_icmp_eq hx hb hd ht (fun q => by simpa [ab_cmp, q] using hg) (fun q => by simpa [ab_cmp, q] using hg)
      | ne => exact lv_icmp_ne hx hb hd ht (fun q => by simpa [ab_cmp, q] using hg) (fun q => by simpa [ab_cmp, q] using hg)
      | lt => exact lv_icmp_lt hx hb hd ht (fun q => by rw [if_pos (by simpa [ab_cmp] using q)] at hg; exact hg) (fun q => by rw [if_neg (by simpa [ab_cmp] using q)] at hg; exact hg)
      | ge => exact lv_icmp_ge hx hb hd ht (fun q => by rw [if_pos (by simpa [ab_cmp] using q)] at hg; exact hg) (fun q => by rw [if_neg (by simpa [ab_cmp] using q)] at hg; exact hg)
      | gt => exact lv_icmp_gt hx hb hd ht (fun q => by rw [if_pos (by simpa [ab_cmp] using q)] at hg; exact hg) (fun q => by rw [if_neg (by simpa [ab_cmp] using q)] at hg; exact hg)
      | le => exact lv_icmp_le hx hb hd ht (fun q => by rw [if_pos (by simpa [ab_cmp] using q)] at hg; exact hg) (fun q => by rw [if_neg (by simpa [ab_cmp] using q)] at hg; exact hg)
    · cases hst
  | ifCond cn off =>
    simp only [ab_chI, decide_eq_true_eq, Bool.and_eq_true] at hch
    obtain ⟨hlen, ht⟩ := hch
    subst hlen
    simp only [ab_stp] at hst
    split at hst
    · simp only [ab_jmp, Option.some.injEq] at hst
      subst hst
      have hg := hG H locs lsA hR hS hL
      dsimp only at hg
      cases cn with
      | eq => exact lv_if_eq hx hb hd ht (fun q => by simpa [ab_cmp, q] using hg) (fun q => by simpa [ab_cmp, q] using hg)
      | ne => exact lv_if_ne hx hb hd ht (fun q => by simpa [ab_cmp, q] using hg) (fun q => by simpa [ab_cmp, q] using hg)
      | lt => exact lv_if_lt hx hb hd ht (fun q => by rw [if_pos (by simpa [ab_cmp] using q)] at hg; exact hg) (fun q => by rw [if_neg (by simpa [ab_cmp] using q)] at hg; exact hg)
      | ge => exact lv_if_ge hx hb hd ht (fun q => by rw [if_pos (by simpa [ab_cmp] using q)] at hg; exact hg) (fun q => by rw [if_neg (by simpa [ab_cmp] using q)] at hg; exact hg)
      | gt => exact lv_if_gt hx hb hd ht (fun q => by rw [if_pos (by simpa [ab_cmp] using q)] at hg; exact hg) (fun q => by rw [if_neg (by simpa [ab_cmp] using q)] at hg; exact hg)
      | le => exact lv_if_le hx hb hd ht (fun q => by rw [if_pos (by simpa [ab_cmp] using q)] at hg; exact hg) (fun q => by rw [if_neg (by simpa [ab_cmp] using q)] at hg; exact hg)
    · cases hst
  | ifnull off =>
    simp only [ab_chI, decide_eq_true_eq, Bool.and_eq_true] at hch
    obtain ⟨hlen, ht⟩ := hch
    subst hlen
    simp only [ab_stp] at hst
    split at hst
    · simp only [Option.some.injEq] at hst
      subst hst
      exact lv_ifnullN hx hb hd ht (hG H locs lsA hR hS hL)
    · simp only [Option.some.injEq] at hst
      subst hst
      exact lv_ifnull hx hb hd (hG H locs lsA hR hS hL)
    · cases hst
  | ifnonnull off =>
    simp only [ab_chI, decide_eq_true_eq, Bool.and_eq_true] at hch
    obtain ⟨hlen, ht⟩ := hch
    subst hlen
    simp only [ab_stp] at hst
    split at hst
    · simp only [Option.some.injEq] at hst
      subst hst
      exact lv_ifnonnullN hx hb hd (hG H locs lsA hR hS hL)
    · simp only [Option.some.injEq] at hst
      subst hst
      exact lv_ifnonnull hx hb hd ht (hG H locs lsA hR hS hL)
    · cases hst
  | tableswitch dflt lo hi offs =>
    simp only [ab_chI, decide_eq_true_eq, Bool.and_eq_true] at hch
    obtain ⟨hd0, ho⟩ := hch
    simp only [ab_stp] at hst
    split at hst
    · rename_i x rest
      split at hst
      · rename_i hcond
        obtain ⟨rfl, hh, hsz⟩ := hcond
        simp only [Option.some.injEq] at hst
        subst hst
        have hg := hG H locs lsA hR hS hL
        dsimp only at hg
        have hlenT : (ab_tg pc offs.toList).length = offs.size := by simp [ab_tg]
        by_cases hout : x.toInt < 0 ∨ hi < x.toInt
        · rw [ab_swt_out _ _ (fun j hj hxj => by
            rw [hlenT] at hj
            rw [hxj, nI_toInt (by omega)] at hout
            omega)] at hg
          exact lv_tableOut hx hb hd hout (by omega) hg
        · have h1 : ¬ x.toInt < 0 := fun q => hout (Or.inl q)
          have h2 : ¬ hi < x.toInt := fun q => hout (Or.inr q)
          have hj : x.toInt.toNat < offs.size := by omega
          have hxe : x = nI (0 + x.toInt.toNat) := by
            apply Int32.toInt_inj.mp
            rw [nI_toInt (by omega)]
            omega
          have hoff : offs[x.toInt.toNat]? = some offs[x.toInt.toNat] := Array.getElem?_eq_getElem hj
          have htg : (ab_tg pc offs.toList)[x.toInt.toNat]? = some ((pc : Int) + offs[x.toInt.toNat]).toNat := by
            rw [ab_tg, List.getElem?_map, Array.getElem?_toList, hoff]
            rfl
          have hsw := ab_swt_at (x := x) (d := ((pc : Int) + dflt).toNat) (ab_tg pc offs.toList) 0 x.toInt.toNat (by rw [hlenT]; omega) hxe (by rw [htg]; simp)
          rw [htg] at hsw
          rw [Option.some.inj hsw] at hg
          have hpos := List.all_eq_true.mp ho offs[x.toInt.toNat] (by simp)
          simp only [decide_eq_true_eq] at hpos
          exact lv_tableIn hx hb hd h1 h2 (off := offs[x.toInt.toNat]) (by rw [Int.sub_zero]; exact hoff) (by omega) hg
      · cases hst
    · cases hst
  | arraylength =>
    simp only [ab_chI, decide_eq_true_eq] at hch
    subst hch
    obtain ⟨r, rest, rfl, hkd, rfl⟩ := ab_al_spec hst
    exact ab_al_snd hx hb hEH hR hS hkd hd (hG H locs lsA hR hS hL)
  | iaload =>
    simp only [ab_chI, decide_eq_true_eq] at hch
    subst hch
    obtain ⟨r, i, rest, rfl, hkd, hi, rfl⟩ := ab_ia_spec hst
    rcases hkd with hkd | hkd
    · obtain ⟨g1, cA, g2, g3⟩ := (hR.2 r).1 hkd
      exact W.iald hx hb g3 (g2 _ _) (fun q => by cases q) (ab_vpin hi) (arrV_read cA _ (ab_inlt hi)) rfl rfl hd (hG H locs lsA hR hS hL)
    · obtain ⟨g1, g2, g3⟩ := (hR.2 r).2.2.2.1 hkd
      obtain ⟨-, -, -, -, -, -, -, hX, hbb, hbs⟩ := hEH
      subst g1
      rw [g2] at hi
      have hg := hG H locs lsA hR hS hL
      dsimp only at hg
      rw [g3 _ (ab_inlt hi)] at hg
      exact va_sld hx hb hX (Nat.lt_of_lt_of_le hbb hbs) (Nat.not_le.mpr hbb) hS (ab_in_spec hi) hd hg
  | laload =>
    simp only [ab_chI, decide_eq_true_eq] at hch
    subst hch
    obtain ⟨r, i, rest, rfl, hkd, hi, rfl⟩ := ab_la_spec hst
    obtain ⟨g1, cA, g2, g3⟩ := (hR.2 r).2.1 hkd
    exact W.lald hx hb g3 (g2 _ _) (fun q => by cases q) (ab_vpin hi) (arrV_read cA _ (ab_inlt hi)) rfl rfl hd (hG H locs lsA hR hS hL)
  | aaload =>
    simp only [ab_chI, decide_eq_true_eq] at hch
    subst hch
    obtain ⟨r, i, rest, rfl, hkd, hi, rfl⟩ := ab_aa_spec hst
    obtain ⟨g1, cA, g2, -, g3⟩ := (hR.2 r).2.2.1 hkd
    exact W.aald hx hb g3 (g2 _ _) rfl (fun q => by cases q) (ab_vpin hi) (arrV_read cA _ (ab_inlt hi)) rfl rfl hd (hG H locs lsA hR hS hL)
  | iastore =>
    simp only [ab_chI, decide_eq_true_eq] at hch
    subst hch
    obtain ⟨r, i, x, rest, rfl, hkd, hi, rfl⟩ := ab_ias_spec hst
    exact ab_iastore hx hb hR hS hkd hi hd (fun H1 locs1 hR1 hS1 => hG H1 locs1 lsA hR1 hS1 hL)
  | lastore =>
    simp only [ab_chI, decide_eq_true_eq] at hch
    subst hch
    obtain ⟨r, i, x, rest, rfl, hkd, hi, rfl⟩ := ab_las_spec hst
    exact ab_lastore hx hb hR hS hkd hi hd (fun H1 locs1 hR1 hS1 => hG H1 locs1 lsA hR1 hS1 hL)
  | aastore =>
    simp only [ab_chI, decide_eq_true_eq] at hch
    subst hch
    obtain ⟨r, i, v, rest, rfl, hkd, hv, hi, rfl⟩ := ab_aas_spec hst
    exact ab_aastore hx hb hK hR hS hkd hv hi hd (fun H1 locs1 hR1 hS1 => hG H1 locs1 lsA hR1 hS1 hL)
  | getfield idx =>
    simp only [ab_chI, ab_fld, decide_eq_true_eq, Bool.and_eq_true] at hch
    obtain ⟨hlen, ⟨hc8, hkf⟩, hw⟩ := hch
    subst hlen
    obtain ⟨r, rest, rfl, hkd, rfl⟩ := ab_gf_spec hst
    exact ab_getfield hx hb hts hown hK hR hkd hkf (ab_ok_in hw) hd (hG H locs lsA hR hS hL)
  | putfield idx =>
    simp only [ab_chI, ab_fld, decide_eq_true_eq, Bool.and_eq_true] at hch
    obtain ⟨⟨hlen, ⟨hc8, hkf⟩, hw⟩, hfin⟩ := hch
    subst hlen
    obtain ⟨v, r, rest, h', rfl, hkd, hwf, rfl⟩ := ab_pf_spec hst
    refine ab_putfield hx hb hts hown hK hR hS hkd hkf (ab_ok_in hw) hd (fun hf => ?_) hwf (fun H1 locs1 hR1 hS1 => ?_)
    · rw [if_pos hf] at hfin
      simp only [decide_eq_true_eq] at hfin
      exact ⟨hin hfin.1, hfin.2⟩
    · have hg := hG H1 locs1 lsA hR1 hS1 hL
      obtain ⟨⟨w1, w2, w3, w4⟩, -⟩ := ab_wf_spec ((ab_CK hc8).2.2.2.2 b1 hkf) hwf
      dsimp only at hg
      rw [w2, w3] at hg
      exact hg
  | newarray t =>
    simp only [ab_chI, decide_eq_true_eq, Bool.and_eq_true] at hch
    obtain ⟨⟨hlen, hw⟩, hta⟩ := hch
    subst hlen
    obtain ⟨n, rest, rfl, hnx, hn0, hnm, rfl⟩ := ab_mka_spec hst
    have hn : ¬ n < 0 := Int32.not_lt.mpr hn0
    have hsz := hR.1 hnx
    have e1 : ab_cc (ab_new h a n.toNatClampNeg n.toNatClampNeg) = ab_cc h + 1 := rfl
    have e2 : ab_sc (ab_new h a n.toNatClampNeg n.toNatClampNeg) = ab_sc h + n.toNatClampNeg := rfl
    dsimp only at hcc hss
    rw [e1] at hcc
    rw [e2] at hss
    refine va_newaK hx hb (hts _ (ab_ok_in hw)) rfl hd rfl hn rfl (by cases t <;> first | (cases hta; done) | (simp [newarray.typeOf, componentBytes]; omega)) (by omega) (by omega) hsz fun H1 cA f1 f2 f3 f4 f5 => ?_
    have hg := hG H1 locs lsA (hR.push hnx (by rw [f2, hsz]) (fun z hz => f3 z (by omega)) ?_) ⟨by have := hS.1; omega, fun z hz1 hz2 => (f3 z (by have := hS.1; omega)).trans (hS.2.1 z hz1 hz2), hS.2.2⟩ hL
    · dsimp only at hg
      rw [e1, e2] at hg
      rw [show ab_cc h + 1 - cb = ab_cc h - cb + 1 by omega, show ab_sc h + n.toNatClampNeg - sb = ab_sc h - sb + n.toNatClampNeg by omega] at hg
      exact hg
    · have hbase : base ≤ ab_nx h := by
        obtain ⟨-, -, -, -, -, -, -, -, hbb, hbs⟩ := hEH
        have := hS.1
        omega
      cases t <;> first
        | (cases hta; done)
        | (simp only [decide_eq_true_eq] at hta
           subst hta
           refine ⟨fun _ => ⟨hbase, cA, f4, ?_⟩, fun e => ?_, fun e => ?_, fun e => ?_, fun c2 hc2 => ?_⟩
           · rw [f1]; simp [ab_new, ab_sh, ab_hi, ab_nx, newarray.typeOf, defaultValue]
           · simp [ab_new, ab_sh, ab_nx] at e
           · simp [ab_new, ab_sh, ab_nx] at e
           · simp [ab_new, ab_sh, ab_nx] at e
           · simp [ab_new, ab_sh, ab_nx] at hc2; omega)
        | (simp only [decide_eq_true_eq] at hta
           subst hta
           refine ⟨fun e => ?_, fun _ => ⟨hbase, cA, f4, ?_⟩, fun e => ?_, fun e => ?_, fun c2 hc2 => ?_⟩
           · simp [ab_new, ab_sh, ab_nx] at e
           · rw [f1]; simp [ab_new, ab_sh, ab_hl, ab_nx, newarray.typeOf, defaultValue]
           · simp [ab_new, ab_sh, ab_nx] at e
           · simp [ab_new, ab_sh, ab_nx] at e
           · simp [ab_new, ab_sh, ab_nx] at hc2; omega)
  | anewarray idx =>
    simp only [ab_chI, decide_eq_true_eq, Bool.and_eq_true] at hch
    obtain ⟨⟨hlen, hta⟩, hw⟩ := hch
    subst hlen
    obtain ⟨n, rest, rfl, hnx, hn0, hnm, rfl⟩ := ab_mka_spec hst
    have hn : ¬ n < 0 := Int32.not_lt.mpr hn0
    have hsz := hR.1 hnx
    have e1 : ab_cc (ab_new h a n.toNatClampNeg n.toNatClampNeg) = ab_cc h + 1 := rfl
    have e2 : ab_sc (ab_new h a n.toNatClampNeg n.toNatClampNeg) = ab_sc h + n.toNatClampNeg := rfl
    dsimp only at hcc hss
    rw [e1] at hcc
    rw [e2] at hss
    have hAO : va_AO (ab_CN (ab_ac a)) s := by
      obtain ⟨-, -, -, -, -, -, ⟨o1, o2, o3⟩, -⟩ := hEH
      have : a = 3 ∨ a = 4 ∨ a = 5 := by omega
      rcases this with rfl | rfl | rfl
      · exact o1
      · exact o2
      · exact o3
    refine W.anew hx hb hown (hts _ (ab_ok_in hw)) (va_AO.use hAO) rfl hd rfl hn (by omega) (by omega) (by omega) fun cA kA comp f1 f2 f3 f4 => ?_
    generalize hH1 : H.push ({ cls := cA, slots := Array.replicate n.toNatClampNeg .null, vm := .none } : Cell) = H1
    have z1 : H1.size = H.size + 1 := by rw [← hH1, Array.size_push]
    have x1 : H1[H.size]? = some (arrV cA n.toNatClampNeg (fun _ => .null)) := by rw [← hH1, Array.getElem?_push_size, ← arrV_new]
    have o1 : ∀ q : Nat, q < H.size → H1[q]? = H[q]? := fun q hq => by rw [← hH1, Array.getElem?_push, if_neg (Nat.ne_of_lt hq)]
    have hAr : ArrOfT s cA (.object (ab_CN (ab_ac a))) := fun N z => ⟨(fun k h => by cases h), kA, f2, comp, f3⟩
    have hbase : base ≤ ab_nx h := by
      obtain ⟨-, -, -, -, -, -, -, -, hbb, hbs⟩ := hEH
      have := hS.1
      omega
    have hg := hG H1 locs lsA (hR.push hnx z1 o1 ?_) ⟨by have := hS.1; omega, fun z hz1 hz2 => (o1 z (by have := hS.1; omega)).trans (hS.2.1 z hz1 hz2), hS.2.2⟩ hL
    · dsimp only at hg
      rw [e1, e2] at hg
      rw [show ab_cc h + 1 - cb = ab_cc h - cb + 1 by omega, show ab_sc h + n.toNatClampNeg - sb = ab_sc h - sb + n.toNatClampNeg by omega, ← hsz] at hg
      exact hg
    · have hsh : ab_sh (ab_new h a n.toNatClampNeg n.toNatClampNeg) (ab_nx h) = (a, n.toNatClampNeg) := by simp [ab_new, ab_sh, ab_nx]
      refine ⟨fun e => ?_, fun e => ?_, fun _ => ⟨hbase, cA, by rw [hsh]; exact hAr, by rw [hsh]; exact ⟨kA, comp, f2, f3, f4, f1⟩, ?_⟩, fun e => ?_, fun c2 hc2 => ?_⟩
      · rw [hsh] at e; dsimp only at e; omega
      · rw [hsh] at e; dsimp only at e; omega
      · rw [hsh, ← hsz, x1]
        refine congrArg some (congrArg (arrV cA n.toNatClampNeg) (funext fun j => ?_))
        simp [ab_new, ab_hr, ab_nx, hsz, va_rf]
      · rw [hsh] at e; dsimp only at e; omega
      · rw [hsh] at hc2; dsimp only at hc2; omega
  | new idx =>
    have ha : ¬ 100 ≤ a := by
      intro h100
      have : Nat.ble 100 a = true := Nat.ble_eq_true_of_le h100
      simp only [ab_isE] at hE
      rw [this] at hE
      cases hE
    simp only [ab_chI, decide_eq_true_eq, Bool.and_eq_true] at hch
    rw [if_neg ha] at hch
    simp only [decide_eq_true_eq, Bool.and_eq_true] at hch
    obtain ⟨hlen, ⟨⟨hc8, hw1⟩, hw2⟩, hw3⟩ := hch
    subst hlen
    simp only [ab_stp] at hst
    split at hst
    · rename_i hnx
      simp only [Option.some.injEq] at hst
      subst hst
      have hsz := hR.1 hnx
      obtain ⟨hcl, hin2, hty, hnm, hok⟩ := ab_CK hc8
      have hKn := hK.1 a _ hcl
      have e1 : ab_cc (ab_new h (10 + a) 0 (ab_nf a)) = ab_cc h + 1 := rfl
      have e2 : ab_sc (ab_new h (10 + a) 0 (ab_nf a)) = ab_sc h + ab_nf a := rfl
      dsimp only at hcc hss
      rw [e1] at hcc
      rw [e2] at hss
      refine W.newcK hx hb hown (hts _ (ab_ok_in hw1)) (hts _ (ab_ok_in hw2)) (hts _ (ab_ok_in hw3)) rfl hd (by omega) (by omega) hKn.2.1 hsz fun H1 kC hkC f1 f2 f3 => ?_
      have hbase : base ≤ ab_nx h := by
        obtain ⟨-, -, -, -, -, -, -, -, hbb, hbs⟩ := hEH
        have := hS.1
        omega
      have hg := hG H1 locs lsA (hR.push hnx (by rw [f2, hsz]) (fun z hz => f3 z (by omega)) ?_) ⟨by have := hS.1; omega, fun z hz1 hz2 => (f3 z (by have := hS.1; omega)).trans (hS.2.1 z hz1 hz2), hS.2.2⟩ hL
      · dsimp only at hg
        rw [e1, e2] at hg
        rw [show ab_cc h + 1 - cb = ab_cc h - cb + 1 by omega, show ab_sc h + ab_nf a - sb = ab_sc h - sb + ab_nf a by omega] at hg
        exact hg
      · have hsh : ab_sh (ab_new h (10 + a) 0 (ab_nf a)) (ab_nx h) = (10 + a, 0) := by simp [ab_new, ab_sh, ab_nx]
        refine ⟨fun e => ?_, fun e => ?_, fun e => ?_, fun e => ?_, fun c2 hc2 => ?_⟩
        · rw [hsh] at e; dsimp only at e; omega
        · rw [hsh] at e; dsimp only at e; omega
        · rw [hsh] at e; dsimp only at e; omega
        · rw [hsh] at e; dsimp only at e; omega
        · rw [hsh] at hc2
          dsimp only at hc2
          have : c2 = a := by omega
          subst this
          refine ⟨hbase, hc8, (u_born (ab_ty c2) hts hin2 hKn hkC f1 hty).to (fun j hj => ?_)⟩
          have hj := hok j hj
          have g1 : ab_hi (ab_new h (10 + c2) 0 (ab_nf c2)) (ab_nx h) j = 0 := by simp [ab_new, ab_hi, ab_nx]
          have g2 : ab_hr (ab_new h (10 + c2) 0 (ab_nf c2)) (ab_nx h) j = none := by simp [ab_new, ab_hr, ab_nx]
          have g3 : ab_hl (ab_new h (10 + c2) 0 (ab_nf c2)) (ab_nx h) j = 0 := by simp [ab_new, ab_hl, ab_nx]
          unfold ab_fv
          rw [g1, g2, g3]
          unfold ab_ftok at hj
          split at hj
          · rename_i h1 h2; rw [h1, h2]; rfl
          · rename_i h1 h2; rw [h1, h2]; rfl
          · rename_i h1 h2; rw [h1, h2]; rfl
          · rename_i h1 h2; rw [h1, h2]; rfl
          · rename_i h1 h2; rw [h1, h2]; rfl
          · cases hj
    · cases hst
  | invokespecial idx =>
    have hc4 : c1 = 4 := by
      simp only [ab_isC, Bool.not_eq_false'] at hC
      exact Nat.eq_of_beq_eq_true hC
    subst hc4
    simp only [ab_chI, decide_eq_true_eq, Bool.and_eq_true] at hch
    rw [if_pos trivial] at hch
    simp only [decide_eq_true_eq, Bool.and_eq_true] at hch
    obtain ⟨hlen, hw, hf1, hl1⟩ := hch
    subst hlen
    simp only [ab_stp] at hst
    split at hst
    · rename_i r rest
      split at hst
      · rename_i hr4
        simp only [Option.some.injEq] at hst
        subst hst
        have hcs := lv_room (m := m) (pc := pc) (ls := lsA) (rest := .ref r :: rest) (st := rest) (by have := ab_catsum rest; omega)
        exact W.objInit (g := F0 m pc lsA (.ref r :: rest)) (a := r) (rest := rest) hx hb hown (hts _ (ab_ok_in hw)) (hts _ ab_oi1) (hts _ ab_oi2) rfl (hL.1.trans hml.symm) rfl hd (Nat.le_trans hf1 hfr) (Nat.le_trans (Nat.add_le_add_right hcs 12) (Nat.le_trans hl1 hlo)) (hG H locs lsA hR hS hL)
      · cases hst
    · cases hst
  | _ => simp only [ab_stp] at hst; cases hst
end AbStep2
