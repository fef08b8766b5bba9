/-! A method's end; what throwing and catching want of the tables. -/
theorem ab_exw1 : ∀ e, e < 3 → (lw_tbl.contains (.classLink RX6 (ab_ik e) (ab_EN e)) && goodWord (.classLink RX6 (ab_ik e) (ab_EN e))) = true := by decide +kernel
theorem ab_exw2 : ∀ e, e < 3 → (lw_tbl.contains (.initialized (ab_EN e)) && goodWord (.initialized (ab_EN e))) = true := by decide +kernel
theorem ab_exw3 : ∀ e, e < 3 → Bundle.fit (ab_EN e) = true := by decide +kernel
theorem ab_exw4 : ∀ e, e < 3 → (vx_atS RX6 (ab_ic e) (ab_EN e) ab_nms).all (fun w => ((lw_tbl.contains w && goodWord w) || (ab_xw ++ ab_xy).contains w) && vx_ot w) = true := by decide +kernel
theorem ab_exw5 : ∀ e, e < 3 → vx_ot (.classLink RX6 (ab_ik e) (ab_EN e)) = true := by decide +kernel
theorem ab_exw6 : ∀ e, e < 3 → vx_ot (.initialized (ab_EN e)) = true := by decide +kernel
theorem ab_nmf : ∀ n ∈ ab_nms, Bundle.fit n = true := by decide +kernel
theorem ab_xwt : ∀ w ∈ ab_xw ++ ab_xy, w.onTables = true := by
  intro w hw
  simp only [ab_xw, ab_xy, List.cons_append, List.nil_append, List.mem_cons, List.not_mem_nil, or_false] at hw
  rcases hw with rfl | rfl | rfl | rfl | rfl | rfl | rfl | rfl | rfl | rfl | rfl <;> rfl
theorem ab_gin {w : Jvm.Cond} (h : (lw_tbl.contains w && goodWord w) = true) : w ∈ ab_gw := by
  simp only [Bool.and_eq_true, List.contains_iff_mem] at h
  exact List.mem_filter.mpr h
def ab_Qc (D : va_G) (base b L : Nat) (xs : Nat → Int32) (o : ab_O) (h' : ab_Hp) : Array Value → State → Outcome → State → Prop := fun _ st oc t => (∃ v, o = .inl v ∧ oc = .returned v) ∧ ab_Rep D base b L xs t h' t.heap ∧ va_F (fun z => base ≤ z) st t
def ab_XC (D : va_G) (base b L : Nat) (xs : Nat → Int32) (o : ab_O) (h' : ab_Hp) : String → State → State → Prop := fun E st t => (∃ x, o = .inr x ∧ x < 3 ∧ E = ab_EN x) ∧ ab_Rep D base b L xs t h' t.heap ∧ va_F (fun z => base ≤ z) st t
theorem ab_cell.ext {D : va_G} {base b L : Nat} {xs : Nat → Int32} {U : State} {h h' : ab_Hp} {H H' : Heap} {a : Nat} (es : ab_sh h' a = ab_sh h a) (e1 : ab_hi h' a = ab_hi h a) (e2 : ab_hr h' a = ab_hr h a) (e3 : ab_hl h' a = ab_hl h a) (hq : a < H.size → H'[a]? = H[a]?) (q : ab_cell D base b L xs U h H a) : ab_cell D base b L xs U h' H' a := by
  by_cases hl : a < H.size
  · exact q.kept es e1 e2 e3 (hq hl)
  · have hn : H[a]? = none := Array.getElem?_eq_none (by omega)
    obtain ⟨c1, c2, c3, c4, c5⟩ := q
    unfold ab_cell
    rw [es, e1]
    refine ⟨fun e => ?_, fun e => ?_, fun e => ?_, c4, fun c hc => ?_⟩
    · obtain ⟨-, cA, -, g⟩ := c1 e
      rw [hn] at g; cases g
    · obtain ⟨-, cA, -, g⟩ := c2 e
      rw [hn] at g; cases g
    · obtain ⟨-, cA, -, -, g⟩ := c3 e
      rw [hn] at g; cases g
    · obtain ⟨-, -, cell, g, -⟩ := c5 c hc
      rw [hn] at g; cases g
section AbEnds
variable {p : Program} {l : Launch} {e : Env} {R : Room} {s : State} {m : MethodId} {args : Array Value} {below : List Frame} {meth : Method} {c : Code}
variable {D : va_G} {base b L : Nat} {xs : Nat → Int32} {k cb sb : Nat}
set_option maxHeartbeats 4000000 in
theorem ab_term {q : ab_C} {ri : ab_RI} {o : ab_O} {h' : ab_Hp} (hEM : ab_EM k D base b L xs p l R s m args meth c) (hc : ab_cod k q.1 = some ri) (hEE : ab_isE ri = true) (ho : ab_out k q = some (o, h')) (hcb : cb ≤ ab_cc q.2.2.2) (hsb : sb ≤ ab_sc q.2.2.2) (hcc : ab_cc h' - cb ≤ R.cells) (hss : ab_sc h' - sb ≤ R.slots) :
    ab_G D base b L xs p l e R s m args below meth c k cb sb (vx_MQ below (ab_Qc D base b L xs o h') (ab_XC D base b L xs o h') args s (ab_cc h' - cb) (ab_sc h' - sb) (fun z => base ≤ z)) q := by
  obtain ⟨hk, hx, hb, hml, hown, hts, hlocks, hrt, hin, htab, hstr, hEH, hfr, hlo⟩ := hEM
  obtain ⟨hd0, hch⟩ := ab_cod_ch hk hc
  obtain ⟨pc, ls, st, h⟩ := q
  obtain ⟨ins, len, a, b1, c1, d1⟩ := ri
  have hd := ab_dec_spec hd0
  clear hd0
  dsimp only at hd hc hcb hsb ⊢
  intro H locs lsA hR hS hL
  dsimp only at hR hL ⊢
  have hret : ∀ (v : Option Value) (t : State), t.heap = H → s.WarmedH t.vm → (∃ v', (.inl v : ab_O) = .inl v' ∧ Outcome.returned v = .returned v') ∧ ab_Rep D base b L xs t h t.heap ∧ va_F (fun z => base ≤ z) s t := fun v t ht hW => ⟨⟨v, rfl, rfl⟩, by rw [ht]; exact hR.moved hW.alike, hS.F ht⟩
  simp only [ab_out, hc] at ho
  cases ins with
  | ireturn =>
    simp only [ab_chI, decide_eq_true_eq] at hch
    subst hch
    simp only [ab_outI] at ho
    split at ho
    · rename_i v
      split at ho
      · rename_i hr
        cases ho
        exact vx_ret (W.iret hx hb (hrt.trans hr) (fun t ht hW => hret _ t ht hW) hS.2.2 hd)
      · rename_i hr
        split at ho
        · rename_i hv
          cases ho
          exact vx_ret (W.zret hx hb (hrt.trans hr) (by rcases hv with rfl | rfl <;> rfl) (fun t ht hW => hret _ t ht hW) hS.2.2 hd)
        · cases ho
      · cases ho
    · cases ho
  | lreturn =>
    simp only [ab_chI, decide_eq_true_eq] at hch
    subst hch
    dsimp only at ho
    split at ho
    · split at ho
      · rename_i hr
        cases ho
        exact vx_ret (W.lret hx hb (hrt.trans hr) (fun t ht hW => hret _ t ht hW) hS.2.2 hd)
      · cases ho
    · cases ho
  | dreturn =>
    simp only [ab_chI, decide_eq_true_eq] at hch
    subst hch
    dsimp only at ho
    split at ho
    · split at ho
      · rename_i hr
        cases ho
        exact vx_ret (W.dret hx hb (hrt.trans hr) (fun t ht hW => hret _ t ht hW) hS.2.2 hd hlocks)
      · cases ho
    · cases ho
  | areturn =>
    simp only [ab_chI, decide_eq_true_eq] at hch
    subst hch
    simp only [ab_outA] at ho
    split at ho
    · split at ho
      · rename_i C hv hr
        cases ho
        exact vx_ret (W.aret hx hb (hrt.trans hr) (Or.inl ⟨_, rfl⟩) (ab_isA_spec hv) (fun t ht hW => hret _ t ht hW) hS.2.2 hd)
      · cases ho
    · cases ho
  | return_ =>
    simp only [ab_chI, decide_eq_true_eq] at hch
    subst hch
    dsimp only at ho
    split at ho
    · split at ho
      · rename_i hr
        cases ho
        exact vx_ret (W.vret hx hb (hrt.trans hr) (fun t ht hW => hret _ t ht hW) hS.2.2 hd)
      · cases ho
    · cases ho
  | new idx =>
    dsimp only at ho
    split at ho
    · cases ho
      have ha : 100 ≤ a := Nat.le_of_ble_eq_true hEE
      simp only [ab_chI, decide_eq_true_eq, Bool.and_eq_true] at hch
      rw [if_pos ha] at hch
      simp only [ab_thrC, decide_eq_true_eq, Bool.and_eq_true] at hch
      obtain ⟨hlen, ⟨⟨⟨⟨⟨⟨⟨⟨how, ha3⟩, hik⟩, hd3⟩, hd4⟩, hd6⟩, hd9⟩, hhh⟩, hf6, hl90⟩, hstrs⟩ := hch
      subst hlen
      have hd3 := ab_dec_spec hd3
      have hd4 := ab_dec_spec hd4
      have hd6 := ab_dec_spec hd6
      have hd9 := ab_dec_spec hd9
      rw [hik] at hd
      rw [how] at hown
      have he3 : a - 100 < 3 := by omega
      have w1 := ab_exw1 _ he3
      have w2 := ab_exw2 _ he3
      have w3 := ab_exw3 _ he3
      have w4 := ab_exw4 _ he3
      have w5 := ab_exw5 _ he3
      have w6 := ab_exw6 _ he3
      obtain ⟨hK, hU, hN, hxw, hst2, hnc, hAO, hX, hbb, hbs⟩ := hEH
      obtain ⟨qs, hqs, hqe⟩ := List.any_eq_true.mp hstrs
      simp only [decide_eq_true_eq] at hqe
      obtain ⟨sa, hsa⟩ := hst2 qs hqs
      rw [hqe] at hsa
      have hat : ∀ w ∈ vx_atS RX6 (ab_ic (a - 100)) (ab_EN (a - 100)) ab_nms, w.before args s = true := by
        intro w hw
        have h9 := List.all_eq_true.mp w4 w hw
        simp only [Bool.and_eq_true, Bool.or_eq_true] at h9
        rcases h9.1 with h8 | h8
        · exact hts _ (ab_gin (by rw [Bool.and_eq_true]; exact h8))
        · have hm : w ∈ ab_xw ++ ab_xy := List.contains_iff_mem.mp h8
          exact va_Nw.use (ab_xwt w hm) (hxw w hm)
      have hgood : ∀ w ∈ Cond.classLink RX6 (ab_ik (a - 100)) (ab_EN (a - 100)) :: Cond.initialized (ab_EN (a - 100)) :: vx_atS RX6 (ab_ic (a - 100)) (ab_EN (a - 100)) ab_nms, vx_ot w = true := by
        intro w hw
        rcases List.mem_cons.mp hw with rfl | hw
        · exact w5
        · rcases List.mem_cons.mp hw with rfl | hw
          · exact w6
          · have h9 := List.all_eq_true.mp w4 w hw
            simp only [Bool.and_eq_true] at h9
            exact h9.2
      have e1 : ab_cc (ab_thr h) = ab_cc h + 1 := rfl
      have e2 : ab_sc (ab_thr h) = ab_sc h + 6 := rfl
      rw [e1] at hcc ⊢
      rw [e2] at hss ⊢
      exact vx_throwS hx hb hstr hown w3 ab_nmf (hts _ (ab_gin w1)) (hts _ (ab_gin w2)) hsa hat hgood hU hN hS (hL.1.trans hml.symm) hd hd3 hd4 hd6 hd9
        (fun x hx => by rw [htab (fun h170 => by subst h170; exact absurd how (by decide)), hhh] at hx; cases hx) (by show 2 + 3 < R.frames; omega) (by show 0 + (13 * (2 + 1) + 43) ≤ R.locals; omega) (by omega) (by omega) hlocks
        (fun t hal hz hq => ⟨⟨_, rfl, he3, rfl⟩, ⟨fun hn => absurd rfl hn, fun z => ((hR.2 z).ext rfl rfl rfl rfl (fun hz2 => hq z hz2)).moved hal⟩, ⟨Nat.le_trans hS.1 hz, fun z hz1 hz2 => by rw [hq z (Nat.lt_of_lt_of_le hz1 hS.1)]; exact hS.2.1 z hz1 hz2⟩⟩)
        hS.2.2 (by omega) (by omega)
    · cases ho
  | _ => cases ho
end AbEnds
