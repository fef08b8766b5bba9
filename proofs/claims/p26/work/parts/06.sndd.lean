/-! The JVM follows a plain step. -/
def ab_EM (k : Nat) (D : va_G) (base b L : Nat) (xs : Nat → Int32) (p : Program) (l : Launch) (R : Room) (s : State) (m : MethodId) (args : Array Value) (meth : Method) (c : Code) : Prop := k < 94 ∧ p.tables.exec = Jvm.exec ∧ c.code = ab_by k ∧ c.maxLocals = ab_xl k ∧ s.vm.findClass (ab_ow k) = some m.cls ∧ (∀ w ∈ ab_gw, w.before args s = true) ∧ meth.locks = false ∧ meth.sig.returnType = ab_rt k ∧ ((ab_mn k).name = "<init>" → meth.name = "<init>") ∧ (k ≠ 93 → c.exceptionTable.toList = tableOf (ab_hh k)) ∧ l.stackTraces = false ∧ ab_EH D base b L xs s s.heap ∧ ab_fr k ≤ R.frames ∧ ab_lo k ≤ R.locals
def ab_G (D : va_G) (base b L : Nat) (xs : Nat → Int32) (p : Program) (l : Launch) (e : Env) (R : Room) (s : State) (m : MethodId) (args : Array Value) (below : List Frame) (meth : Method) (c : Code) (k cb sb : Nat) (Q : State → Prop) (q : ab_C) : Prop :=
  ∀ (H : Heap) (locs : List Loc) (lsA : Array Slot), ab_Rep D base b L xs s q.2.2.2 H → va_S (fun z => base ≤ z) s.heap H locs → ab_RL lsA (ab_xl k) q.2.1 → W p l e R s m args below meth c H locs (ab_cc q.2.2.2 - cb) (ab_sc q.2.2.2 - sb) Q (F0 m q.1 lsA q.2.2.1)
theorem ab_catsum : ∀ (r : List Value), (r.map fun v => v.category).sum ≤ 2 * r.length := by
  intro r
  induction r with
  | nil => exact Nat.le_refl 0
  | cons v t ih =>
    have : v.category ≤ 2 := by cases v <;> simp [Value.category]
    simp only [List.map_cons, List.sum_cons, List.length_cons]
    omega
theorem ab_oi1 : Cond.instanceMethod Lib.objectInit ∈ ab_gw := ab_ok_in (i := 34) (by decide +kernel)
theorem ab_oi2 : Cond.code Lib.objectInit ⟨#[0xb1]⟩ 1 none ∈ ab_gw := ab_ok_in (i := 35) (by decide +kernel)
theorem ab_swt_out {x : Int32} {d : Nat} : ∀ (ts : List Nat) (i : Nat), (∀ j, j < ts.length → x ≠ nI (i + j)) → ab_swt x d i ts = d := by
  intro ts
  induction ts with
  | nil => intro i _; rfl
  | cons t ts ih =>
    intro i h
    have h0 : ¬ x = nI i := h 0 (by simp)
    simp only [ab_swt, if_neg h0]
    refine ih (i + 1) fun j hj => ?_
    rw [show i + 1 + j = i + (j + 1) by omega]
    exact h (j + 1) (by simp; omega)
theorem ab_swt_at {x : Int32} {d : Nat} : ∀ (ts : List Nat) (i j : Nat), i + ts.length < 2 ^ 31 → x = nI (i + j) → ts[j]? ≠ none → some (ab_swt x d i ts) = ts[j]? := by
  intro ts
  induction ts with
  | nil => intro i j _ _ h; exact absurd rfl h
  | cons t ts ih =>
    intro i j hl hx hj
    cases j with
    | zero =>
      have h0 : x = nI i := hx
      simp only [ab_swt, if_pos h0]
      rfl
    | succ j =>
      have hlt : j < ts.length := by
        rcases Nat.lt_or_ge j ts.length with q | q
        · exact q
        · exact absurd (by simp; omega) hj
      have h0 : ¬ x = nI i := by
        intro h
        have h1 := congrArg Int32.toInt (hx.symm.trans h)
        simp only [List.length_cons] at hl
        rw [nI_toInt (by omega), nI_toInt (by omega)] at h1
        omega
      simp only [ab_swt, if_neg h0]
      rw [List.getElem?_cons_succ]
      refine ih (i + 1) j (by simp only [List.length_cons] at hl; omega) (by rw [hx]; congr 1; omega) (by rw [List.getElem?_cons_succ] at hj; exact hj)
section AbStep
variable {p : Program} {l : Launch} {e : Env} {R : Room} {s : State} {m : MethodId} {args : Array Value} {below : List Frame} {meth : Method} {c : Code}
variable {D : va_G} {base b L : Nat} {xs : Nat → Int32} {k cb sb : Nat} {Q : State → Prop}
/-- a field is read -/
theorem ab_getfield {pc a ci kf idx : Nat} {h : ab_Hp} {H : Heap} {locs : List Loc} {lsA : Array Slot} {rest : List Value} {cells slots : Nat} (hx : p.tables.exec = Jvm.exec) (hb : c.code = ab_by k) (hts : ∀ w ∈ ab_gw, w.before args s = true) (hown : s.vm.findClass (ab_ow k) = some m.cls) (hK : va_K D vwCl [] s) (hR : ab_Rep D base b L xs s h H) (hk : (ab_sh h a).1 = 10 + ci) (hkf : kf < ab_nf ci) (hlink : (Cond.fieldLink (ab_ow k) idx (ab_T ci kf).1 (ab_T ci kf).2.1 (ab_T ci kf).2.2.1) ∈ ab_gw) (hd : decode (ab_by k) pc = .ok (.getfield idx, 3))
    (kk : W p l e R s m args below meth c H locs cells slots Q (F0 m (pc + 3) lsA (ab_fv h ci a kf :: rest))) : W p l e R s m args below meth c H locs cells slots Q (F0 m pc lsA (.ref a :: rest)) := by
  obtain ⟨g1, g2, g3⟩ := (hR.2 a).2.2.2.2 ci hk
  obtain ⟨hcl, hin, hty, hnm, hok⟩ := ab_CK g2
  have hP : va_P D vwCl [(a, .inr (ci, (List.range (ab_nf ci)).map (fun j => ab_fv h ci a j)))] H := by
    intro j q hq
    cases j with
    | succ j => cases hq
    | zero =>
      cases hq
      refine ⟨_, hcl, g3.to (fun j hj => ?_)⟩
      have hj' : j < ab_nf ci := hj
      simp [vp_V, hj']
  exact va_get (D := D) (ci := ci) (v := ab_fv h ci a kf) (C := ab_CN ci) (T := ab_T ci) (N := ab_nf ci) hx hb hts hin hown hK hP 0 rfl hcl kf hkf (hts _ hlink) (fun _ h9 => h9) (by simp [hkf]) hd kk
/-- a field is written -/
theorem ab_putfield {pc a ci kf idx : Nat} {v : Value} {h h' : ab_Hp} {H : Heap} {locs : List Loc} {lsA : Array Slot} {rest : List Value} {cells slots : Nat} (hx : p.tables.exec = Jvm.exec) (hb : c.code = ab_by k) (hts : ∀ w ∈ ab_gw, w.before args s = true) (hown : s.vm.findClass (ab_ow k) = some m.cls) (hK : va_K D vwCl [] s) (hR : ab_Rep D base b L xs s h H) (hS : va_S (fun z => base ≤ z) s.heap H locs) (hk : (ab_sh h a).1 = 10 + ci) (hkf : kf < ab_nf ci) (hlink : (Cond.fieldLink (ab_ow k) idx (ab_T ci kf).1 (ab_T ci kf).2.1 (ab_T ci kf).2.2.1) ∈ ab_gw) (hd : decode (ab_by k) pc = .ok (.putfield idx, 3)) (hfin : (ab_T ci kf).2.2.2 = true → meth.name = "<init>" ∧ (ab_T ci kf).1 = ab_ow k) (hw : ab_wf h ci a kf v = some h')
    (kk : ∀ (H1 : Heap) (locs1 : List Loc), ab_Rep D base b L xs s h' H1 → va_S (fun z => base ≤ z) s.heap H1 locs1 → W p l e R s m args below meth c H1 locs1 cells slots Q (F0 m (pc + 3) lsA rest)) : W p l e R s m args below meth c H locs cells slots Q (F0 m pc lsA (v :: .ref a :: rest)) := by
  obtain ⟨g1, g2, cell, q1, q2, q3, q4⟩ := (hR.2 a).2.2.2.2 ci hk
  obtain ⟨hcl, hin, hty, hnm, hok⟩ := ab_CK g2
  obtain ⟨⟨w1, w2, w3, w4⟩, w5, w6, w7, w8, w9, w10, w11⟩ := ab_wf_spec (hok kf hkf) hw
  have hap := va_apart (own := ab_ow k) hts hin (ab_ty ci) hty hnm hK hcl
  obtain ⟨hSl, hfc, kC, hkC, hkind⟩ := hK.1 ci _ hcl
  obtain ⟨cf, kf', fi, f, hi, hsl⟩ := hSl kf hkf
  have hlay := u_lays hts hin hkf
  have hst := (u_facts hfc hkC hlay hi).1
  have hlt : f.slot < cell.slots.size := by rw [hsl]; exact k2_hasslot (q4 kf hkf)
  have fin : ∀ H' : Heap, H'[a]? = some (cell.setSlot f.slot v) → H'.size = H.size → (∀ q, q ≠ a → H'[q]? = H[q]?) → W p l e R s m args below meth c H' (locs ++ [⟨a, f.slot⟩]) cells slots Q (F0 m (pc + 3) lsA rest) := by
    intro H' e1 e2 e3
    refine kk H' _ (hR.put w1 w4 w5 w6 w7 e2 e3 ?_) (hS.put e2 e3 g1)
    have hka : (ab_sh h' a).1 = 10 + ci := by rw [w4]; exact hk
    refine ⟨fun e => by omega, fun e => by omega, fun e => by omega, fun e => by omega, fun c2 hc2 => ?_⟩
    have : c2 = ci := by omega
    subst this
    rw [hsl] at e1
    refine ⟨g1, g2, _, e1, q2, q3, ?_⟩
    intro j hj
    have := t_set q4 hap hkf v j hj
    rw [this]
    unfold updV
    by_cases hjk : j = kf
    · subst hjk; simp [w8]
    · simp [hjk, w9 j hjk]
  by_cases hf : (ab_T ci kf).2.2.2 = true
  · obtain ⟨hinit, hdecl⟩ := hfin hf
    have hlay2 := hts _ (hin _ (u_in_lay hkf))
    unfold u_lay at hlay2
    rw [if_pos hf] at hlay2
    have hcf : m.cls = cf := by
      obtain ⟨_, _, c', _, _, _, -, -, hf', -, -, -, hown2, -⟩ := Cond.laysFinal_spec hlay2
      have e1 : c' = cf := by have := hi.symm.trans hf'; simp at this; exact this.1.symm
      rw [hdecl] at hown2
      rw [← e1]; exact Option.some.inj (hown.symm.trans hown2)
    have h6 := u_fits hfc hkC hkind (Or.inr hlay2) hi (hty kf hkf) w10 w11
    exact W.putFinK hx hb hown (hts _ hlink) hi hst hcf hinit (by rw [q2]; exact h6) q1 q3 hlt rfl rfl hd fin
  · have hlay2 := hts _ (hin _ (u_in_lay hkf))
    unfold u_lay at hlay2
    rw [if_neg hf] at hlay2
    have h6 := u_store hfc hkC hkind hlay2 hi (hty kf hkf) w10 w11
    exact W.putK hx hb (f := f) ⟨hown, hts _ hlink, ⟨_, _, _, hi⟩, hst⟩ (by rw [q2]; exact h6) q1 q3 hlt rfl rfl hd fin
theorem ab_vpin {i : Int32} {n : Nat} {cA : ClassId} {f : Nat → Value} (h : ab_in i n = true) : ¬ (i < 0 ∨ (arrV cA n f).slots.size ≤ i.toNatClampNeg) := by
  rw [arrV_size]
  exact ab_in_spec h
theorem ab_inlt {i : Int32} {n : Nat} (h : ab_in i n = true) : i.toNatClampNeg < n := by
  simp only [ab_in, Bool.and_eq_true, decide_eq_true_eq] at h
  exact h.2
theorem ab_iastore {pc a : Nat} {i x : Int32} {h : ab_Hp} {H : Heap} {locs : List Loc} {lsA : Array Slot} {rest : List Value} {cells slots : Nat} (hx : p.tables.exec = Jvm.exec) (hb : c.code = ab_by k) (hR : ab_Rep D base b L xs s h H) (hS : va_S (fun z => base ≤ z) s.heap H locs) (hk : (ab_sh h a).1 = 1) (hi : ab_in i (ab_sh h a).2 = true) (hd : decode (ab_by k) pc = .ok (.iastore, 1))
    (kk : ∀ (H1 : Heap) (locs1 : List Loc), ab_Rep D base b L xs s (ab_setI h (ab_u (ab_hi h) a i.toNatClampNeg x)) H1 → va_S (fun z => base ≤ z) s.heap H1 locs1 → W p l e R s m args below meth c H1 locs1 cells slots Q (F0 m (pc + 1) lsA rest)) : W p l e R s m args below meth c H locs cells slots Q (F0 m pc lsA (.int x :: .int i :: .ref a :: rest)) := by
  obtain ⟨g1, cA, g2, g3⟩ := (hR.2 a).1 hk
  refine W.iast hx hb g3 (g2 _ _) (fun q => by cases q) (ab_vpin hi) rfl rfl hd fun H1 e z oq => ?_
  refine kk H1 _ (hR.put rfl rfl (fun z hz => by funext j; simp [ab_hi, ab_setI, ab_u, hz]) (fun z _ => rfl) (fun z _ => rfl) z oq ?_) (hS.put z oq g1)
  have hk' : (ab_sh (ab_setI h (ab_u (ab_hi h) a i.toNatClampNeg x)) a).1 = 1 := hk
  refine ⟨fun _ => ⟨g1, cA, g2, ?_⟩, fun e => by omega, fun e => by omega, fun e => by omega, fun c2 hc2 => by omega⟩
  rw [e, arrV_store]
  refine congrArg some (congrArg (arrV cA (ab_sh h a).2) (funext fun j => ?_))
  by_cases hj : j = i.toNatClampNeg
  · subst hj; simp [updV, ab_hi, ab_setI, ab_u]
  · simp [updV, ab_hi, ab_setI, ab_u, hj]
theorem ab_lastore {pc a : Nat} {i : Int32} {x : Int64} {h : ab_Hp} {H : Heap} {locs : List Loc} {lsA : Array Slot} {rest : List Value} {cells slots : Nat} (hx : p.tables.exec = Jvm.exec) (hb : c.code = ab_by k) (hR : ab_Rep D base b L xs s h H) (hS : va_S (fun z => base ≤ z) s.heap H locs) (hk : (ab_sh h a).1 = 2) (hi : ab_in i (ab_sh h a).2 = true) (hd : decode (ab_by k) pc = .ok (.lastore, 1))
    (kk : ∀ (H1 : Heap) (locs1 : List Loc), ab_Rep D base b L xs s (ab_setL h (ab_u (ab_hl h) a i.toNatClampNeg x)) H1 → va_S (fun z => base ≤ z) s.heap H1 locs1 → W p l e R s m args below meth c H1 locs1 cells slots Q (F0 m (pc + 1) lsA rest)) : W p l e R s m args below meth c H locs cells slots Q (F0 m pc lsA (.long x :: .int i :: .ref a :: rest)) := by
  obtain ⟨g1, cA, g2, g3⟩ := (hR.2 a).2.1 hk
  refine W.last hx hb g3 (g2 _ _) (fun q => by cases q) (ab_vpin hi) rfl rfl hd fun H1 e z oq => ?_
  refine kk H1 _ (hR.put rfl rfl (fun z _ => rfl) (fun z _ => rfl) (fun z hz => by funext j; simp [ab_hl, ab_setL, ab_u, hz]) z oq ?_) (hS.put z oq g1)
  have hk' : (ab_sh (ab_setL h (ab_u (ab_hl h) a i.toNatClampNeg x)) a).1 = 2 := hk
  refine ⟨fun e => by omega, fun _ => ⟨g1, cA, g2, ?_⟩, fun e => by omega, fun e => by omega, fun c2 hc2 => by omega⟩
  rw [e, arrV_store]
  refine congrArg some (congrArg (arrV cA (ab_sh h a).2) (funext fun j => ?_))
  by_cases hj : j = i.toNatClampNeg
  · subst hj; simp [updV, ab_hl, ab_setL, ab_u]
  · simp [updV, ab_hl, ab_setL, ab_u, hj]
theorem ab_aastore {pc a v : Nat} {i : Int32} {h : ab_Hp} {H : Heap} {locs : List Loc} {lsA : Array Slot} {rest : List Value} {cells slots : Nat} (hx : p.tables.exec = Jvm.exec) (hb : c.code = ab_by k) (hK : va_K D vwCl [] s) (hR : ab_Rep D base b L xs s h H) (hS : va_S (fun z => base ≤ z) s.heap H locs) (hk : 3 ≤ (ab_sh h a).1 ∧ (ab_sh h a).1 ≤ 5) (hv : (ab_sh h v).1 = 10 + ab_ac (ab_sh h a).1) (hi : ab_in i (ab_sh h a).2 = true) (hd : decode (ab_by k) pc = .ok (.aastore, 1))
    (kk : ∀ (H1 : Heap) (locs1 : List Loc), ab_Rep D base b L xs s (ab_setR h (ab_u (ab_hr h) a i.toNatClampNeg (some v))) H1 → va_S (fun z => base ≤ z) s.heap H1 locs1 → W p l e R s m args below meth c H1 locs1 cells slots Q (F0 m (pc + 1) lsA rest)) : W p l e R s m args below meth c H locs cells slots Q (F0 m pc lsA (.ref v :: .int i :: .ref a :: rest)) := by
  obtain ⟨g1, cA, g2, g3, g4⟩ := (hR.2 a).2.2.1 hk
  obtain ⟨v1, v2, cellV, v3, v4, v5, -⟩ := (hR.2 v).2.2.2.2 _ hv
  obtain ⟨hcl, -⟩ := ab_CK v2
  have hcls := (hK.1 _ _ hcl).2
  have g3' := g3
  obtain ⟨kA, comp, k1, k2, k3, -⟩ := g3
  have hcomp : comp = D.1 (ab_ac (ab_sh h a).1) := Option.some.inj (k3.symm.trans hcls.1)
  subst hcomp
  obtain ⟨kC, hkC, -⟩ := hcls.2
  have hin := ab_in_spec hi
  refine W.aast hx hb g4 (fun q h => by cases h) (fun h => by cases h) k1 k2 rfl hkC ⟨fun q => hin (Or.inl q), by show _ < (arrV _ _ _).slots.size; rw [arrV_size]; exact ab_inlt hi⟩ v3 (fun q h => by rw [v5] at h; cases h) (by rw [v4]; exact hkC) (by rw [v4]; exact va_assign hcls) rfl rfl hd fun H1 e z oq => ?_
  refine kk H1 _ (hR.put rfl rfl (fun z _ => rfl) (fun z hz => by funext j; simp [ab_hr, ab_setR, ab_u, hz]) (fun z _ => rfl) z oq ?_) (hS.put z oq g1)
  have hk' : ab_sh (ab_setR h (ab_u (ab_hr h) a i.toNatClampNeg (some v))) a = ab_sh h a := rfl
  refine ⟨fun e => by rw [hk'] at e; omega, fun e => by rw [hk'] at e; omega, fun _ => ⟨g1, cA, by rw [hk']; exact g2, by rw [hk']; exact g3', ?_⟩, fun e => by rw [hk'] at e; omega, fun c2 hc2 => by rw [hk'] at hc2; omega⟩
  rw [e, arrV_store, hk']
  refine congrArg some (congrArg (arrV cA (ab_sh h a).2) (funext fun j => ?_))
  by_cases hj : j = i.toNatClampNeg
  · subst hj; simp [updV, ab_hr, ab_setR, ab_u, va_rf]
  · simp [updV, ab_hr, ab_setR, ab_u, hj]
end AbStep
