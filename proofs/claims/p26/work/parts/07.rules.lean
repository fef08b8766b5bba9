/-! Rules of the machine of part 05, a kind of instruction a rule; the instances (a rule an instruction) are printed by wip/whole/gen/gen2.py. -/
section AbRules
variable {k pc len a b c d i idx n tgt : Nat} {ls st : List Value} {h : ab_Hp} {Q : ab_O → ab_Hp → Prop} {q : Nat} {x y : Int32} {z w : Int64} {v : Value} {off : Int} {cn : ClassFile.Cond}
theorem wp_aload (hc : ab_cod k pc = some (.aload i, 2, a, b, c, d)) (hv : ab_isA (ab_get ls i) = true) : wp k pc ls st h Q = wp k (pc + 2) ls (ab_get ls i :: st) h Q := wp_stp hc rfl rfl (by simp only [ab_stp, ab_ld, hv])
theorem wp_aload_n {i : Fin 4} (hc : ab_cod k pc = some (.aload_n i, 1, a, b, c, d)) (hv : ab_isA (ab_get ls (i : Nat)) = true) : wp k pc ls st h Q = wp k (pc + 1) ls (ab_get ls (i : Nat) :: st) h Q := wp_stp hc rfl rfl (by simp only [ab_stp, ab_ld, hv])
theorem wp_astore (hc : ab_cod k pc = some (.astore i, 2, a, b, c, d)) (hv : ab_isA v = true) : wp k pc ls (v :: st) h Q = wp k (pc + 2) (ab_st1 ls i v) st h Q := wp_stp hc rfl rfl (by simp only [ab_stp, ab_s1, hv])
theorem wp_astore_n {i : Fin 4} (hc : ab_cod k pc = some (.astore_n i, 1, a, b, c, d)) (hv : ab_isA v = true) : wp k pc ls (v :: st) h Q = wp k (pc + 1) (ab_st1 ls (i : Nat) v) st h Q := wp_stp hc rfl rfl (by simp only [ab_stp, ab_s1, hv])
theorem wp_irem (hc : ab_cod k pc = some (.irem, 1, a, b, c, d)) (hy : ¬ y = 0) : wp k pc ls (.int y :: .int x :: st) h Q = wp k (pc + 1) ls (.int (x - x / y * y) :: st) h Q := wp_stp hc rfl rfl (by simp only [ab_stp, if_neg hy])
theorem wp_dd {ins : Instr} {f : UInt64 → UInt64 → UInt64} {p r : UInt64} (hc : ab_cod k pc = some (ins, 1, a, b, c, d)) (hE : ab_isE (ins, 1, a, b, c, d) = false) (hC : ab_isC (ins, 1, a, b, c, d) = false) (hf : ∀ ls st h, ab_stp (ins, 1, a, b, c, d) pc ls st h = ab_dd f (pc + 1) ls st h) (hn : (f p r) &&& 0x7fffffffffffffff ≤ 0x7ff0000000000000) : wp k pc ls (.double r :: .double p :: st) h Q = wp k (pc + 1) ls (.double (f p r) :: st) h Q := wp_stp hc hE hC (by rw [hf]; simp only [ab_dd, if_pos hn])
theorem wp_dup (hc : ab_cod k pc = some (.dup, 1, a, b, c, d)) (hv : v.category = 1) : wp k pc ls (v :: st) h Q = wp k (pc + 1) ls (v :: v :: st) h Q := wp_stp hc rfl rfl (by simp only [ab_stp, if_pos hv])
theorem wp_ite {P : Prop} [Decidable P] {p1 p2 : Nat} : wp k (if P then p1 else p2) ls st h Q = if P then wp k p1 ls st h Q else wp k p2 ls st h Q := by split <;> rfl
theorem wp_icmp (hc : ab_cod k pc = some (.if_icmp cn off, 3, a, b, c, d)) : wp k pc ls (.int y :: .int x :: st) h Q = wp k (if ab_cmp cn x y = true then a else pc + 3) ls st h Q := wp_stp hc rfl rfl rfl
theorem wp_ifc (hc : ab_cod k pc = some (.ifCond cn off, 3, a, b, c, d)) : wp k pc ls (.int x :: st) h Q = wp k (if ab_cmp cn x 0 = true then a else pc + 3) ls st h Q := wp_stp hc rfl rfl rfl
theorem ab_cmpP {P : Prop} [Decidable P] {A B : Prop} : (if decide P = true then A else B) = if P then A else B := by by_cases hp : P <;> simp [hp]
theorem wp_icmpP {P : Prop} [Decidable P] (hc : ab_cod k pc = some (.if_icmp cn off, 3, a, b, c, d)) (hp : ab_cmp cn x y = decide P) : wp k pc ls (.int y :: .int x :: st) h Q = if P then wp k a ls st h Q else wp k (pc + 3) ls st h Q := by
  rw [wp_icmp hc, wp_ite, hp, ab_cmpP]
theorem wp_ifcP {P : Prop} [Decidable P] (hc : ab_cod k pc = some (.ifCond cn off, 3, a, b, c, d)) (hp : ab_cmp cn x 0 = decide P) : wp k pc ls (.int x :: st) h Q = if P then wp k a ls st h Q else wp k (pc + 3) ls st h Q := by
  rw [wp_ifc hc, wp_ite, hp, ab_cmpP]
theorem ab_rf_some (a : Nat) : va_rf (some a) = .ref a := rfl
theorem ab_rf_none : va_rf none = .null := rfl
theorem ab_isA_rf (o : Option Nat) : ab_isA (va_rf o) = true := by cases o <;> rfl
theorem ab_clr_rf (o : Option Nat) : ab_clr (va_rf o) = va_rf o := by cases o <;> rfl
theorem ab_cat_rf (o : Option Nat) : (va_rf o).category = 1 := by cases o <;> rfl
theorem wp_ifnull (hc : ab_cod k pc = some (.ifnull off, 3, a, b, c, d)) (o : Option Nat) : wp k pc ls (va_rf o :: st) h Q = if o = none then wp k a ls st h Q else wp k (pc + 3) ls st h Q := by
  cases o with
  | none => rw [if_pos rfl]; exact wp_stp hc rfl rfl rfl
  | some a => rw [if_neg (by simp)]; exact wp_stp hc rfl rfl rfl
theorem wp_ifnonnull (hc : ab_cod k pc = some (.ifnonnull off, 3, a, b, c, d)) (o : Option Nat) : wp k pc ls (va_rf o :: st) h Q = if o = none then wp k (pc + 3) ls st h Q else wp k a ls st h Q := by
  cases o with
  | none => rw [if_pos rfl]; exact wp_stp hc rfl rfl rfl
  | some a => rw [if_neg (by simp)]; exact wp_stp hc rfl rfl rfl
theorem wp_gf {r ci kf : Nat} (hc : ab_cod k pc = some (.getfield idx, 3, ci, kf, c, d)) (hk : (ab_sh h r).1 = 10 + ci) : wp k pc ls (.ref r :: st) h Q = wp k (pc + 3) ls (ab_fv h ci r kf :: st) h Q := wp_stp hc rfl rfl (by simp only [ab_stp, ab_gf, if_pos hk])
theorem wp_pf {r ci kf : Nat} {h' : ab_Hp} (hc : ab_cod k pc = some (.putfield idx, 3, ci, kf, c, d)) (hk : (ab_sh h r).1 = 10 + ci) (hw : ab_wf h ci r kf v = some h') : wp k pc ls (v :: .ref r :: st) h Q = wp k (pc + 3) ls st h' Q := wp_stp hc rfl rfl (by simp only [ab_stp, ab_pf, if_pos hk, hw])
theorem wp_al {r : Nat} (hc : ab_cod k pc = some (.arraylength, 1, a, b, c, d)) (hk : 1 ≤ (ab_sh h r).1 ∧ (ab_sh h r).1 ≤ 6) : wp k pc ls (.ref r :: st) h Q = wp k (pc + 1) ls (.int (nI (ab_sh h r).2) :: st) h Q := wp_stp hc rfl rfl (by simp only [ab_stp, ab_al, if_pos hk]; rfl)
theorem wp_ia {r : Nat} (hc : ab_cod k pc = some (.iaload, 1, a, b, c, d)) (hk : ((ab_sh h r).1 = 1 ∨ (ab_sh h r).1 = 6) ∧ ab_in x (ab_sh h r).2 = true) : wp k pc ls (.int x :: .ref r :: st) h Q = wp k (pc + 1) ls (.int (ab_hi h r x.toNatClampNeg) :: st) h Q := wp_stp hc rfl rfl (by simp only [ab_stp, ab_ia, if_pos hk])
theorem wp_la {r : Nat} (hc : ab_cod k pc = some (.laload, 1, a, b, c, d)) (hk : (ab_sh h r).1 = 2 ∧ ab_in x (ab_sh h r).2 = true) : wp k pc ls (.int x :: .ref r :: st) h Q = wp k (pc + 1) ls (.long (ab_hl h r x.toNatClampNeg) :: st) h Q := wp_stp hc rfl rfl (by simp only [ab_stp, ab_la, if_pos hk])
theorem wp_aa {r : Nat} (hc : ab_cod k pc = some (.aaload, 1, a, b, c, d)) (hk : (3 ≤ (ab_sh h r).1 ∧ (ab_sh h r).1 ≤ 5) ∧ ab_in x (ab_sh h r).2 = true) : wp k pc ls (.int x :: .ref r :: st) h Q = wp k (pc + 1) ls (va_rf (ab_hr h r x.toNatClampNeg) :: st) h Q := wp_stp hc rfl rfl (by simp only [ab_stp, ab_aa, if_pos hk])
theorem wp_ias {r : Nat} (hc : ab_cod k pc = some (.iastore, 1, a, b, c, d)) (hk : (ab_sh h r).1 = 1 ∧ ab_in x (ab_sh h r).2 = true) : wp k pc ls (.int y :: .int x :: .ref r :: st) h Q = wp k (pc + 1) ls st (ab_setI h (ab_u (ab_hi h) r x.toNatClampNeg y)) Q := wp_stp hc rfl rfl (by simp only [ab_stp, ab_ias, if_pos hk])
theorem wp_las {r : Nat} (hc : ab_cod k pc = some (.lastore, 1, a, b, c, d)) (hk : (ab_sh h r).1 = 2 ∧ ab_in x (ab_sh h r).2 = true) : wp k pc ls (.long z :: .int x :: .ref r :: st) h Q = wp k (pc + 1) ls st (ab_setL h (ab_u (ab_hl h) r x.toNatClampNeg z)) Q := wp_stp hc rfl rfl (by simp only [ab_stp, ab_las, if_pos hk])
theorem wp_aas {r p : Nat} (hc : ab_cod k pc = some (.aastore, 1, a, b, c, d)) (hk : ((3 ≤ (ab_sh h r).1 ∧ (ab_sh h r).1 ≤ 5) ∧ (ab_sh h p).1 = 10 + ab_ac (ab_sh h r).1) ∧ ab_in x (ab_sh h r).2 = true) : wp k pc ls (.ref p :: .int x :: .ref r :: st) h Q = wp k (pc + 1) ls st (ab_setR h (ab_u (ab_hr h) r x.toNatClampNeg (some p))) Q := wp_stp hc rfl rfl (by simp only [ab_stp, ab_aas, if_pos hk])
theorem wp_newa {t : ArrayType} (hc : ab_cod k pc = some (.newarray t, 2, a, b, c, d)) (hk : ab_nx h ≠ 0 ∧ 0 ≤ x ∧ x.toNatClampNeg ≤ 65536) : wp k pc ls (.int x :: st) h Q = wp k (pc + 2) ls (.ref (ab_nx h) :: st) (ab_new h a x.toNatClampNeg x.toNatClampNeg) Q := wp_stp hc rfl rfl (by simp only [ab_stp, ab_mka, if_pos hk])
theorem wp_anew (hc : ab_cod k pc = some (.anewarray idx, 3, a, b, c, d)) (hk : ab_nx h ≠ 0 ∧ 0 ≤ x ∧ x.toNatClampNeg ≤ 65536) : wp k pc ls (.int x :: st) h Q = wp k (pc + 3) ls (.ref (ab_nx h) :: st) (ab_new h a x.toNatClampNeg x.toNatClampNeg) Q := wp_stp hc rfl rfl (by simp only [ab_stp, ab_mka, if_pos hk])
theorem wp_new (hc : ab_cod k pc = some (.new idx, 3, a, b, c, d)) (hE : Nat.ble 100 a = false) (hk : ab_nx h ≠ 0) : wp k pc ls st h Q = wp k (pc + 3) ls (.ref (ab_nx h) :: st) (ab_new h (10 + a) 0 (ab_nf a)) Q := wp_stp hc hE rfl (by simp only [ab_stp, if_pos hk])
theorem wp_oinit {r : Nat} (hc : ab_cod k pc = some (.invokespecial idx, 3, a, b, 4, d)) (hl : st.length ≤ 4) : wp k pc ls (.ref r :: st) h Q = wp k (pc + 3) ls st h Q := wp_stp hc rfl rfl (by simp only [ab_stp, if_pos hl])
theorem wp_swt {dflt lo hi : Int} {offs : Array Int} (hc : ab_cod k pc = some (.tableswitch dflt lo hi offs, len, a, b, c, d)) (hl : lo = 0 ∧ hi + 1 = (offs.size : Int) ∧ offs.size < 1000) : wp k pc ls (.int x :: st) h Q = wp k (ab_swt x ((pc : Int) + dflt).toNat 0 (ab_tg pc offs.toList)) ls st h Q := wp_stp hc rfl rfl (by simp only [ab_stp, if_pos hl])
theorem wp_zret (hc : ab_cod k pc = some (.ireturn, 1, a, b, c, d)) (hr : ab_rt k = some .boolean) (hx : x = 0 ∨ x = 1) : wp k pc ls [.int x] h Q = Q (.inl (some (.int x))) h := wp_end hc rfl (by simp only [ab_out, hc, ab_outI, hr, if_pos hx])
theorem wp_iret (hc : ab_cod k pc = some (.ireturn, 1, a, b, c, d)) (hr : ab_rt k = some .int) : wp k pc ls [.int x] h Q = Q (.inl (some (.int x))) h := wp_end hc rfl (by simp only [ab_out, hc, ab_outI, hr])
theorem wp_lret (hc : ab_cod k pc = some (.lreturn, 1, a, b, c, d)) (hr : ab_rt k = some .long) : wp k pc ls [.long z] h Q = Q (.inl (some (.long z))) h := wp_end hc rfl (by simp only [ab_out, hc, if_pos hr])
theorem wp_dret {p : UInt64} (hc : ab_cod k pc = some (.dreturn, 1, a, b, c, d)) (hr : ab_rt k = some .double) : wp k pc ls [.double p] h Q = Q (.inl (some (.double p))) h := wp_end hc rfl (by simp only [ab_out, hc, if_pos hr])
theorem wp_aret {C : String} (hc : ab_cod k pc = some (.areturn, 1, a, b, c, d)) (hr : ab_rt k = some (.object C)) (hv : ab_isA v = true) : wp k pc ls [v] h Q = Q (.inl (some v)) h := wp_end hc rfl (by simp only [ab_out, hc, ab_outA, hv, hr])
theorem wp_vret (hc : ab_cod k pc = some (.return_, 1, a, b, c, d)) (hr : ab_rt k = none) : wp k pc ls [] h Q = Q (.inl none) h := wp_end hc rfl (by simp only [ab_out, hc, if_pos hr])
theorem wp_thr (hc : ab_cod k pc = some (.new idx, 3, a, b, c, d)) (hE : Nat.ble 100 a = true) : wp k pc ls [] h Q = Q (.inr (a - 100)) (ab_thr h) := wp_end hc hE (by simp only [ab_out, hc])
theorem wp_callV {j na : Nat} {as : List Value} {r : Nat} {st0 : List Value} {ent : List Value} (hc : ab_cod k pc = some (.invokevirtual idx, 3, j, na, 0, d)) (hs : st0 = (Value.ref r :: as).reverse ++ st) (hn : (Value.ref r :: as).length = na) (he : ab_ent j (Value.ref r :: as) = ent) (hx : Nat.ble (ab_exp (Value.ref r :: as)).length (ab_xl j) = true) (hl : st.length ≤ 4) (hk : (ab_sh h r).1 = 10 + ab_ci j) : wp k pc ls st0 h Q = wp j 0 ent [] h (ab_K k pc ls st Q) := by
  subst hs; subst hn; subst he
  have e1 : ((Value.ref r :: as).reverse ++ st).take (Value.ref r :: as).length = (Value.ref r :: as).reverse := by rw [← List.length_reverse, List.take_left]
  have e2 : ((Value.ref r :: as).reverse ++ st).drop (Value.ref r :: as).length = st := by rw [← List.length_reverse, List.drop_left]
  rw [wp_call hc rfl rfl ⟨⟨by simp, by rw [e2]; exact ab_rm4 hl⟩, by rw [e1, List.reverse_reverse]; simp only [ab_rcv, hx, hk, decide_true, Bool.and_self]⟩, e1, e2, List.reverse_reverse]
theorem wp_callS {j na : Nat} {as : List Value} {st0 : List Value} {ent : List Value} (hc : ab_cod k pc = some (.invokestatic idx, 3, j, na, 1, d)) (hs : st0 = as.reverse ++ st) (hn : as.length = na) (he : ab_ent j as = ent) (hx : Nat.ble (ab_exp as).length (ab_xl j) = true) (hl : st.length ≤ 4) : wp k pc ls st0 h Q = wp j 0 ent [] h (ab_K k pc ls st Q) := by
  subst hs; subst hn; subst he
  have e1 : (as.reverse ++ st).take as.length = as.reverse := by rw [← List.length_reverse, List.take_left]
  have e2 : (as.reverse ++ st).drop as.length = st := by rw [← List.length_reverse, List.drop_left]
  rw [wp_call hc rfl rfl ⟨⟨by simp, by rw [e2]; exact ab_rm4 hl⟩, by rw [e1, List.reverse_reverse]; simp only [ab_rcv, hx, Bool.and_self]⟩, e1, e2, List.reverse_reverse]
theorem wp_callSD {j na : Nat} {as : List Value} {st0 : List Value} {ent : List Value} (hc : ab_cod k pc = some (.invokestatic idx, 3, j, na, 1, d)) (hs : st0 = as.reverse ++ st) (hn : as.length = na) (he : ab_ent j as = ent) (hx : Nat.ble (ab_exp as).length (ab_xl j) = true) (hl : ab_rm st = true) : wp k pc ls st0 h Q = wp j 0 ent [] h (ab_K k pc ls st Q) := by
  subst hs; subst hn; subst he
  have e1 : (as.reverse ++ st).take as.length = as.reverse := by rw [← List.length_reverse, List.take_left]
  have e2 : (as.reverse ++ st).drop as.length = st := by rw [← List.length_reverse, List.drop_left]
  rw [wp_call hc rfl rfl ⟨⟨by simp, by rw [e2]; exact hl⟩, by rw [e1, List.reverse_reverse]; simp only [ab_rcv, hx, Bool.and_self]⟩, e1, e2, List.reverse_reverse]
theorem wp_callI {j na c : Nat} {as : List Value} {r : Nat} {st0 : List Value} {ent : List Value} (hc : ab_cod k pc = some (.invokespecial idx, 3, j, na, c, d)) (hc4 : c = 2 ∨ c = 3) (hs : st0 = (Value.ref r :: as).reverse ++ st) (hn : (Value.ref r :: as).length = na) (he : ab_ent j (Value.ref r :: as) = ent) (hx : Nat.ble (ab_exp (Value.ref r :: as)).length (ab_xl j) = true) (hl : st.length ≤ 4) : wp k pc ls st0 h Q = wp j 0 ent [] h (ab_K k pc ls st Q) := by
  subst hs; subst hn; subst he
  have e1 : ((Value.ref r :: as).reverse ++ st).take (Value.ref r :: as).length = (Value.ref r :: as).reverse := by rw [← List.length_reverse, List.take_left]
  have e2 : ((Value.ref r :: as).reverse ++ st).drop (Value.ref r :: as).length = st := by rw [← List.length_reverse, List.drop_left]
  rw [wp_call hc rfl (by rcases hc4 with rfl | rfl <;> rfl) ⟨⟨by simp, by rw [e2]; exact ab_rm4 hl⟩, by rw [e1, List.reverse_reverse]; rcases hc4 with rfl | rfl <;> simp only [ab_rcv, hx, Bool.and_self]⟩, e1, e2, List.reverse_reverse]
theorem ab_K_ret {rest : List Value} : ab_K k pc ls rest Q (.inl (some v)) h = wp k (pc + 3) ls (v :: rest) h Q := rfl
theorem ab_K_void {rest : List Value} : ab_K k pc ls rest Q (.inl none) h = wp k (pc + 3) ls rest h Q := rfl
theorem ab_K_thr {rest : List Value} {e hp lv ln : Nat} (hd : ab_hd k e = some (hp, lv, ln)) : ab_K k pc ls rest Q (.inr e) h = wp k (hp + ln) (ab_st1 ls lv ab_nov) [] h Q := by simp only [ab_K, hd]
end AbRules
