/-! A machine of numbers: heaps as functions, a method's code as a list, and what a run of it comes to. Part 06 shows that the JVM follows it. -/
abbrev ab_Hp : Type := Nat × Nat × Nat × (Nat → Nat × Nat) × (Nat → Nat → Int32) × (Nat → Nat → Option Nat) × (Nat → Nat → Int64)
def ab_nx (h : ab_Hp) : Nat := h.1
def ab_cc (h : ab_Hp) : Nat := h.2.1
def ab_sc (h : ab_Hp) : Nat := h.2.2.1
def ab_sh (h : ab_Hp) : Nat → Nat × Nat := h.2.2.2.1
def ab_hi (h : ab_Hp) : Nat → Nat → Int32 := h.2.2.2.2.1
def ab_hr (h : ab_Hp) : Nat → Nat → Option Nat := h.2.2.2.2.2.1
def ab_hl (h : ab_Hp) : Nat → Nat → Int64 := h.2.2.2.2.2.2
def ab_u {α : Type} (f : Nat → Nat → α) (a k : Nat) (x : α) : Nat → Nat → α := fun b j => if b = a ∧ j = k then x else f b j
def ab_setI (h : ab_Hp) (f : Nat → Nat → Int32) : ab_Hp := (h.1, h.2.1, h.2.2.1, h.2.2.2.1, f, h.2.2.2.2.2)
def ab_setR (h : ab_Hp) (f : Nat → Nat → Option Nat) : ab_Hp := (h.1, h.2.1, h.2.2.1, h.2.2.2.1, h.2.2.2.2.1, f, h.2.2.2.2.2.2)
def ab_setL (h : ab_Hp) (f : Nat → Nat → Int64) : ab_Hp := (h.1, h.2.1, h.2.2.1, h.2.2.2.1, h.2.2.2.2.1, h.2.2.2.2.2.1, f)
/-- a new cell at the heap's end, of a kind and length, with n places, all empty -/
def ab_new (h : ab_Hp) (kind len n : Nat) : ab_Hp := (h.1 + 1, h.2.1 + 1, h.2.2.1 + n, fun b => if b = h.1 then (kind, len) else ab_sh h b, fun b j => if b = h.1 then 0 else ab_hi h b j, fun b j => if b = h.1 then none else ab_hr h b j, fun b j => if b = h.1 then 0 else ab_hl h b j)
/-- an exception was made: where the heap ends isn't known any more -/
def ab_thr (h : ab_Hp) : ab_Hp := (0, h.2.1 + 1, h.2.2.1 + 6, h.2.2.2)
def ab_nov : Value := .float 0
def ab_isI : Value → Bool := fun v => match v with
  | .int _ => true
  | _ => false
def ab_isL : Value → Bool := fun v => match v with
  | .long _ => true
  | _ => false
def ab_isD : Value → Bool := fun v => match v with
  | .double _ => true
  | _ => false
def ab_isA : Value → Bool := fun v => match v with
  | .ref _ => true
  | .null => true
  | _ => false
def ab_clr (v : Value) : Value := match v with
  | .long _ => ab_nov
  | .double _ => ab_nov
  | w => w
def ab_get : List Value → Nat → Value
  | [], _ => ab_nov
  | v :: _, 0 => v
  | _ :: t, i + 1 => ab_get t i
/-- a store of one slot; a long or double before it is gone -/
def ab_st1 : List Value → Nat → Value → List Value
  | [], _, _ => []
  | _ :: t, 0, v => v :: t
  | w :: t, i + 1, v => (match i with
    | 0 => ab_clr w
    | _ + 1 => w) :: ab_st1 t i v
/-- a store of two slots -/
def ab_st2 : List Value → Nat → Value → List Value
  | [], _, _ => []
  | _ :: t, 0, v => v :: (match t with
    | [] => []
    | _ :: t' => ab_nov :: t')
  | w :: t, i + 1, v => (match i with
    | 0 => ab_clr w
    | _ + 1 => w) :: ab_st2 t i v
def ab_in (i : Int32) (n : Nat) : Bool := decide (0 ≤ i) && decide (i.toNatClampNeg < n)
/-- fields: 0 int, 1 reference, 2 long, 3 boolean -/
def ab_fts : List (List Nat) := [[1, 0], [1, 0], [1, 0, 0, 3, 0, 0, 0, 0, 0, 0, 0], [1, 0, 0, 0, 0, 0], [1, 1, 0, 0, 0, 0, 0], [1, 0], [1, 1, 1, 1]]
def ab_ft (c k : Nat) : Nat := (ab_fts.getD c []).getD k 0
def ab_nf (c : Nat) : Nat := (ab_fts.getD c []).length
def ab_fv (h : ab_Hp) (c a k : Nat) : Value := match ab_ft c k with
  | 0 => .int (ab_hi h a k)
  | 1 => va_rf (ab_hr h a k)
  | 2 => .long (ab_hl h a k)
  | _ => .int (ab_hi h a k)
abbrev ab_R : Type := Option (Nat × List Value × List Value × ab_Hp)
def ab_ld (p : Value → Bool) (i n : Nat) (ls st : List Value) (h : ab_Hp) : ab_R := match p (ab_get ls i) with
  | true => some (n, ls, ab_get ls i :: st, h)
  | false => none
def ab_s1 (p : Value → Bool) (i n : Nat) (ls st : List Value) (h : ab_Hp) : ab_R := match st with
  | [] => none
  | v :: r => match p v with
    | true => some (n, ab_st1 ls i v, r, h)
    | false => none
def ab_s2 (p : Value → Bool) (i n : Nat) (ls st : List Value) (h : ab_Hp) : ab_R := match st with
  | [] => none
  | v :: r => match p v with
    | true => some (n, ab_st2 ls i v, r, h)
    | false => none
def ab_ii (f : Int32 → Int32 → Int32) (n : Nat) (ls st : List Value) (h : ab_Hp) : ab_R := match st with
  | .int y :: .int x :: r => some (n, ls, .int (f x y) :: r, h)
  | _ => none
def ab_ll (f : Int64 → Int64 → Int64) (n : Nat) (ls st : List Value) (h : ab_Hp) : ab_R := match st with
  | .long y :: .long x :: r => some (n, ls, .long (f x y) :: r, h)
  | _ => none
def ab_dd (f : UInt64 → UInt64 → UInt64) (n : Nat) (ls st : List Value) (h : ab_Hp) : ab_R := match st with
  | .double y :: .double x :: r => if (f x y) &&& 0x7fffffffffffffff ≤ 0x7ff0000000000000 then some (n, ls, .double (f x y) :: r, h) else none
  | _ => none
def ab_cmp (c : ClassFile.Cond) (x y : Int32) : Bool := match c with
  | .eq => decide (x = y)
  | .ne => decide (x ≠ y)
  | .lt => decide (x < y)
  | .ge => decide (y ≤ x)
  | .gt => decide (y < x)
  | .le => decide (x ≤ y)
def ab_swt (x : Int32) (dflt : Nat) : Nat → List Nat → Nat
  | _, [] => dflt
  | i, t :: ts => if x = nI i then t else ab_swt x dflt (i + 1) ts
def ab_tg (pc : Nat) (offs : List Int) : List Nat := offs.map (fun o => ((pc : Int) + o).toNat)
def ab_gf (ci kf n : Nat) (ls st : List Value) (h : ab_Hp) : ab_R := match st with
  | .ref a :: r => if (ab_sh h a).1 = 10 + ci then some (n, ls, ab_fv h ci a kf :: r, h) else none
  | _ => none
def ab_wf (h : ab_Hp) (ci a kf : Nat) (v : Value) : Option ab_Hp := match ab_ft ci kf, v with
  | 0, .int x => some (ab_setI h (ab_u (ab_hi h) a kf x))
  | 1, .ref b => some (ab_setR h (ab_u (ab_hr h) a kf (some b)))
  | 2, .long x => some (ab_setL h (ab_u (ab_hl h) a kf x))
  | 3, .int x => if x = 0 ∨ x = 1 then some (ab_setI h (ab_u (ab_hi h) a kf x)) else none
  | _, _ => none
def ab_pf (ci kf n : Nat) (ls st : List Value) (h : ab_Hp) : ab_R := match st with
  | v :: .ref a :: r => if (ab_sh h a).1 = 10 + ci then (match ab_wf h ci a kf v with
    | some h' => some (n, ls, r, h')
    | none => none) else none
  | _ => none
def ab_al (n : Nat) (ls st : List Value) (h : ab_Hp) : ab_R := match st with
  | .ref a :: r => if 1 ≤ (ab_sh h a).1 ∧ (ab_sh h a).1 ≤ 6 then some (n, ls, .int (Int32.ofNat (ab_sh h a).2) :: r, h) else none
  | _ => none
def ab_ia (n : Nat) (ls st : List Value) (h : ab_Hp) : ab_R := match st with
  | .int i :: .ref a :: r => if ((ab_sh h a).1 = 1 ∨ (ab_sh h a).1 = 6) ∧ ab_in i (ab_sh h a).2 = true then some (n, ls, .int (ab_hi h a i.toNatClampNeg) :: r, h) else none
  | _ => none
def ab_la (n : Nat) (ls st : List Value) (h : ab_Hp) : ab_R := match st with
  | .int i :: .ref a :: r => if (ab_sh h a).1 = 2 ∧ ab_in i (ab_sh h a).2 = true then some (n, ls, .long (ab_hl h a i.toNatClampNeg) :: r, h) else none
  | _ => none
def ab_aa (n : Nat) (ls st : List Value) (h : ab_Hp) : ab_R := match st with
  | .int i :: .ref a :: r => if (3 ≤ (ab_sh h a).1 ∧ (ab_sh h a).1 ≤ 5) ∧ ab_in i (ab_sh h a).2 = true then some (n, ls, va_rf (ab_hr h a i.toNatClampNeg) :: r, h) else none
  | _ => none
def ab_ias (n : Nat) (ls st : List Value) (h : ab_Hp) : ab_R := match st with
  | .int x :: .int i :: .ref a :: r => if (ab_sh h a).1 = 1 ∧ ab_in i (ab_sh h a).2 = true then some (n, ls, r, ab_setI h (ab_u (ab_hi h) a i.toNatClampNeg x)) else none
  | _ => none
def ab_las (n : Nat) (ls st : List Value) (h : ab_Hp) : ab_R := match st with
  | .long x :: .int i :: .ref a :: r => if (ab_sh h a).1 = 2 ∧ ab_in i (ab_sh h a).2 = true then some (n, ls, r, ab_setL h (ab_u (ab_hl h) a i.toNatClampNeg x)) else none
  | _ => none
/-- the class that an array of references of a kind holds -/
def ab_ac (kd : Nat) : Nat := kd - 1
def ab_aas (n : Nat) (ls st : List Value) (h : ab_Hp) : ab_R := match st with
  | .ref b :: .int i :: .ref a :: r => if ((3 ≤ (ab_sh h a).1 ∧ (ab_sh h a).1 ≤ 5) ∧ (ab_sh h b).1 = 10 + ab_ac (ab_sh h a).1) ∧ ab_in i (ab_sh h a).2 = true then some (n, ls, r, ab_setR h (ab_u (ab_hr h) a i.toNatClampNeg (some b))) else none
  | _ => none
def ab_mka (kd n : Nat) (ls st : List Value) (h : ab_Hp) : ab_R := match st with
  | .int m :: r => if ab_nx h ≠ 0 ∧ 0 ≤ m ∧ m.toNatClampNeg ≤ 65536 then some (n, ls, .ref (ab_nx h) :: r, ab_new h kd m.toNatClampNeg m.toNatClampNeg) else none
  | _ => none
def ab_jmp (b : Bool) (t f : Nat) (ls st : List Value) (h : ab_Hp) : ab_R := some (if b = true then t else f, ls, st, h)
def ab_stp (ri : ab_RI) (pc : Nat) (ls st : List Value) (h : ab_Hp) : ab_R := match ri with
  | (ins, len, a, b, c, d) => match ins with
    | .iconst n => some (pc + 1, ls, .int (Int32.ofInt n) :: st, h)
    | .bipush n => some (pc + 2, ls, .int (Int8.ofInt n).toInt32 :: st, h)
    | .sipush n => some (pc + 3, ls, .int (Int16.ofInt n).toInt32 :: st, h)
    | .lconst n => some (pc + 1, ls, .long (Int64.ofNat (n : Nat)) :: st, h)
    | .dconst n => some (pc + 1, ls, .double (if n = 0 then FP.dconst0 else FP.dconst1) :: st, h)
    | .aconst_null => some (pc + 1, ls, .null :: st, h)
    | .ldc2_w _ => some (pc + 3, ls, (if a = 0 then .long (Int64.ofNat c) else .double (UInt64.ofNat c)) :: st, h)
    | .iload i => ab_ld ab_isI i (pc + 2) ls st h
    | .iload_n i => ab_ld ab_isI (i : Nat) (pc + 1) ls st h
    | .lload i => ab_ld ab_isL i (pc + 2) ls st h
    | .lload_n i => ab_ld ab_isL (i : Nat) (pc + 1) ls st h
    | .dload i => ab_ld ab_isD i (pc + 2) ls st h
    | .dload_n i => ab_ld ab_isD (i : Nat) (pc + 1) ls st h
    | .aload i => ab_ld ab_isA i (pc + 2) ls st h
    | .aload_n i => ab_ld ab_isA (i : Nat) (pc + 1) ls st h
    | .istore i => ab_s1 ab_isI i (pc + 2) ls st h
    | .istore_n i => ab_s1 ab_isI (i : Nat) (pc + 1) ls st h
    | .lstore i => ab_s2 ab_isL i (pc + 2) ls st h
    | .lstore_n i => ab_s2 ab_isL (i : Nat) (pc + 1) ls st h
    | .dstore i => ab_s2 ab_isD i (pc + 2) ls st h
    | .dstore_n i => ab_s2 ab_isD (i : Nat) (pc + 1) ls st h
    | .astore i => ab_s1 ab_isA i (pc + 2) ls st h
    | .astore_n i => ab_s1 ab_isA (i : Nat) (pc + 1) ls st h
    | .iinc i n => (match ab_get ls i with
      | .int x => some (pc + 3, ab_st1 ls i (.int (x + Int32.ofInt n)), st, h)
      | _ => none)
    | .iadd => ab_ii (fun x y => x + y) (pc + 1) ls st h
    | .isub => ab_ii (fun x y => x - y) (pc + 1) ls st h
    | .imul => ab_ii (fun x y => x * y) (pc + 1) ls st h
    | .iand => ab_ii (fun x y => x &&& y) (pc + 1) ls st h
    | .ior => ab_ii (fun x y => x ||| y) (pc + 1) ls st h
    | .ishl => ab_ii (fun x y => x <<< (y &&& 31)) (pc + 1) ls st h
    | .ishr => ab_ii (fun x y => x >>> (y &&& 31)) (pc + 1) ls st h
    | .ldc _ => if a = 1 then some (pc + 2, ls, .int (Int32.ofNat c) :: st, h) else none
    | .irem => (match st with
      | .int y :: .int x :: r => if y = 0 then none else some (pc + 1, ls, .int (x - x / y * y) :: r, h)
      | _ => none)
    | .i2l => (match st with
      | .int x :: r => some (pc + 1, ls, .long x.toInt64 :: r, h)
      | _ => none)
    | .i2d => (match st with
      | .int x :: r => some (pc + 1, ls, .double (FP.i2d x) :: r, h)
      | _ => none)
    | .d2l => (match st with
      | .double x :: r => some (pc + 1, ls, .long (FP.d2l x) :: r, h)
      | _ => none)
    | .ladd => ab_ll (fun x y => x + y) (pc + 1) ls st h
    | .lsub => ab_ll (fun x y => x - y) (pc + 1) ls st h
    | .lmul => ab_ll (fun x y => x * y) (pc + 1) ls st h
    | .lor => ab_ll (fun x y => x ||| y) (pc + 1) ls st h
    | .lshl => (match st with
      | .int y :: .long x :: r => some (pc + 1, ls, .long (x <<< (y.toInt64 &&& 63)) :: r, h)
      | _ => none)
    | .lcmp => (match st with
      | .long y :: .long x :: r => some (pc + 1, ls, .int (lg_cmp x y) :: r, h)
      | _ => none)
    | .ddiv => ab_dd FP.ddiv (pc + 1) ls st h
    | .dmul => ab_dd FP.dmul (pc + 1) ls st h
    | .dsub => ab_dd FP.dsub (pc + 1) ls st h
    | .dcmp op => (match st with
      | .double y :: .double x :: r => some (pc + 1, ls, .int (Op.cmpValue (FP.dcmp x y) op) :: r, h)
      | _ => none)
    | .dup => (match st with
      | v :: r => if v.category = 1 then some (pc + 1, ls, v :: v :: r, h) else none
      | _ => none)
    | .dup2 => (match st with
      | v :: w :: r => if v.category = 1 ∧ w.category = 1 then some (pc + 1, ls, v :: w :: v :: w :: r, h) else none
      | _ => none)
    | .goto _ => some (a, ls, st, h)
    | .if_icmp q _ => (match st with
      | .int y :: .int x :: r => ab_jmp (ab_cmp q x y) a (pc + 3) ls r h
      | _ => none)
    | .ifCond q _ => (match st with
      | .int x :: r => ab_jmp (ab_cmp q x 0) a (pc + 3) ls r h
      | _ => none)
    | .ifnull _ => (match st with
      | .null :: r => some (a, ls, r, h)
      | .ref _ :: r => some (pc + 3, ls, r, h)
      | _ => none)
    | .ifnonnull _ => (match st with
      | .null :: r => some (pc + 3, ls, r, h)
      | .ref _ :: r => some (a, ls, r, h)
      | _ => none)
    | .tableswitch dflt lo hi offs => (match st with
      | .int x :: r => if lo = 0 ∧ hi + 1 = (offs.size : Int) ∧ offs.size < 1000 then some (ab_swt x ((pc : Int) + dflt).toNat 0 (ab_tg pc offs.toList), ls, r, h) else none
      | _ => none)
    | .arraylength => ab_al (pc + 1) ls st h
    | .iaload => ab_ia (pc + 1) ls st h
    | .laload => ab_la (pc + 1) ls st h
    | .aaload => ab_aa (pc + 1) ls st h
    | .iastore => ab_ias (pc + 1) ls st h
    | .lastore => ab_las (pc + 1) ls st h
    | .aastore => ab_aas (pc + 1) ls st h
    | .getfield _ => ab_gf a b (pc + 3) ls st h
    | .putfield _ => ab_pf a b (pc + 3) ls st h
    | .newarray _ => ab_mka a (pc + 2) ls st h
    | .anewarray _ => ab_mka a (pc + 3) ls st h
    | .new _ => if ab_nx h ≠ 0 then some (pc + 3, ls, .ref (ab_nx h) :: st, ab_new h (10 + a) 0 (ab_nf a)) else none
    | .invokespecial _ => (match st with
      | .ref _ :: r => if r.length ≤ 4 then some (pc + 3, ls, r, h) else none
      | _ => none)
    | _ => none
/-- the method's end -/
def ab_isE (ri : ab_RI) : Bool := match ri with
  | (ins, _, a, _, _, _) => match ins with
    | .ireturn => true
    | .lreturn => true
    | .dreturn => true
    | .areturn => true
    | .return_ => true
    | .new _ => Nat.ble 100 a
    | _ => false
/-- a call -/
def ab_isC (ri : ab_RI) : Bool := match ri with
  | (ins, _, _, _, c, _) => match ins with
    | .invokevirtual _ => true
    | .invokestatic _ => true
    | .invokespecial _ => !(Nat.beq c 4)
    | _ => false
def ab_fnd (pc : Nat) : List (Nat × ab_RI) → Option ab_RI
  | [] => none
  | (q, ri) :: t => match Nat.beq q pc with
    | true => some ri
    | false => ab_fnd pc t
def ab_cod (k pc : Nat) : Option ab_RI := ab_fnd pc (ab_cd k)
abbrev ab_C : Type := Nat × List Value × List Value × ab_Hp
abbrev ab_O : Type := Option Value ⊕ Nat
def ab_outI (k : Nat) (st : List Value) (h : ab_Hp) : Option (ab_O × ab_Hp) := match st with
  | [.int v] => (match ab_rt k with
    | some .int => some (.inl (some (.int v)), h)
    | some .boolean => if v = 0 ∨ v = 1 then some (.inl (some (.int v)), h) else none
    | _ => none)
  | _ => none
def ab_outA (k : Nat) (st : List Value) (h : ab_Hp) : Option (ab_O × ab_Hp) := match st with
  | [v] => (match ab_isA v, ab_rt k with
    | true, some (.object _) => some (.inl (some v), h)
    | _, _ => none)
  | _ => none
def ab_out (k : Nat) (q : ab_C) : Option (ab_O × ab_Hp) := match q with
  | (pc, _, st, h) => match ab_cod k pc with
    | none => none
    | some (ins, _, a, _) => match ins with
      | .ireturn => ab_outI k st h
      | .lreturn => (match st with
        | [.long v] => if ab_rt k = some .long then some (.inl (some (.long v)), h) else none
        | _ => none)
      | .dreturn => (match st with
        | [.double v] => if ab_rt k = some .double then some (.inl (some (.double v)), h) else none
        | _ => none)
      | .areturn => ab_outA k st h
      | .return_ => (match st with
        | [] => if ab_rt k = none then some (.inl none, h) else none
        | _ => none)
      | .new _ => (match st with
        | [] => some (.inr (a - 100), ab_thr h)
        | _ => none)
      | _ => none
def ab_exp : List Value → List Value
  | [] => []
  | v :: t => if v.category = 2 then v :: ab_nov :: ab_exp t else v :: ab_exp t
def ab_ent (j : Nat) (as : List Value) : List Value := ab_exp as ++ List.replicate (ab_xl j - (ab_exp as).length) ab_nov
/-- what may lie below a call -/
def ab_rm (st : List Value) : Bool := Nat.ble st.length 4 || Nat.ble ((st.map fun v => v.category).sum) 8
theorem ab_rm4 {st : List Value} (h : st.length ≤ 4) : ab_rm st = true := by
  unfold ab_rm
  rw [Nat.ble_eq_true_of_le h]
  rfl
/-- the callee, and whether the receiver is of its class -/
def ab_rcv (c j : Nat) (as : List Value) (h : ab_Hp) : Bool := Nat.ble (ab_exp as).length (ab_xl j) && (match c with
  | 0 => (match as with
    | .ref r :: _ => decide ((ab_sh h r).1 = 10 + ab_ci j)
    | _ => false)
  | 1 => true
  | _ => (match as with
    | .ref _ :: _ => true
    | _ => false))
def ab_exec : Nat → Nat → Nat → List Value → List Value → ab_Hp → Option ab_C
  | 0, _, _, _, _, _ => none
  | n + 1, k, pc, ls, st, h => match ab_cod k pc with
    | none => none
    | some ri => match ab_isE ri with
      | true => some (pc, ls, st, h)
      | false => match ab_isC ri with
        | false => (match ab_stp ri pc ls st h with
          | none => none
          | some (pc', ls', st', h') => ab_exec n k pc' ls' st' h')
        | true => match ri with
          | (_, _, j, na, c, _) => if (na ≤ st.length ∧ ab_rm (st.drop na) = true) ∧ ab_rcv c j (st.take na).reverse h = true then (match ab_exec n j 0 (ab_ent j (st.take na).reverse) [] h with
            | none => none
            | some q => match ab_out j q with
              | none => none
              | some (.inl v, h') => ab_exec n k (pc + 3) ls (v.toList ++ st.drop na) h'
              | some (.inr e, h') => match ab_hd k e with
                | none => none
                | some (hp, lv, ln) => ab_exec n k (hp + ln) (ab_st1 ls lv ab_nov) [] h') else none
/-- one step of it, by the kind of its instruction -/
theorem ab_exec_E {n k pc : Nat} {ri : ab_RI} {ls st : List Value} {h : ab_Hp} (hc : ab_cod k pc = some ri) (hE : ab_isE ri = true) : ab_exec (n + 1) k pc ls st h = some (pc, ls, st, h) := by
  simp only [ab_exec, hc, hE]
theorem ab_exec_S {n k pc : Nat} {ri : ab_RI} {ls st : List Value} {h : ab_Hp} (hc : ab_cod k pc = some ri) (hE : ab_isE ri = false) (hC : ab_isC ri = false) : ab_exec (n + 1) k pc ls st h = (match ab_stp ri pc ls st h with
    | none => none
    | some (pc', ls', st', h') => ab_exec n k pc' ls' st' h') := by
  simp only [ab_exec, hc, hE, hC]
/-- how a run goes on behind a call -/
def ab_aft (n k pc : Nat) (ls rest : List Value) (r : Option (ab_O × ab_Hp)) : Option ab_C := match r with
  | none => none
  | some (.inl v, h') => ab_exec n k (pc + 3) ls (v.toList ++ rest) h'
  | some (.inr e, h') => match ab_hd k e with
    | none => none
    | some (hp, lv, ln) => ab_exec n k (hp + ln) (ab_st1 ls lv ab_nov) [] h'
theorem ab_exec_C {n k pc j na len c d : Nat} {ins : Instr} {ls st : List Value} {h : ab_Hp} (hc : ab_cod k pc = some (ins, len, j, na, c, d)) (hE : ab_isE (ins, len, j, na, c, d) = false) (hC : ab_isC (ins, len, j, na, c, d) = true) : ab_exec (n + 1) k pc ls st h = if (na ≤ st.length ∧ ab_rm (st.drop na) = true) ∧ ab_rcv c j (st.take na).reverse h = true then (match ab_exec n j 0 (ab_ent j (st.take na).reverse) [] h with
    | none => none
    | some q => ab_aft n k pc ls (st.drop na) (ab_out j q)) else none := by
  simp only [ab_exec, hc, hE, hC]
  rfl
theorem ab_mono1 : ∀ (n k pc : Nat) (ls st : List Value) (h : ab_Hp) (q : ab_C), ab_exec n k pc ls st h = some q → ab_exec (n + 1) k pc ls st h = some q := by
  intro n
  induction n with
  | zero => intro k pc ls st h q hq; cases hq
  | succ n ih =>
    intro k pc ls st h q hq
    cases hc : ab_cod k pc with
    | none => simp only [ab_exec, hc] at hq; cases hq
    | some ri =>
      cases hE : ab_isE ri with
      | true =>
        rw [ab_exec_E hc hE] at hq ⊢
        exact hq
      | false =>
        cases hC : ab_isC ri with
        | false =>
          rw [ab_exec_S hc hE hC] at hq ⊢
          cases hs : ab_stp ri pc ls st h with
          | none => rw [hs] at hq; cases hq
          | some r =>
            rw [hs] at hq
            obtain ⟨a1, a2, a3, a4⟩ := r
            exact ih _ _ _ _ _ _ hq
        | true =>
          obtain ⟨ins, len, j, na, c, d⟩ := ri
          rw [ab_exec_C hc hE hC] at hq ⊢
          split at hq
          · rename_i hcond
            rw [if_pos hcond]
            cases he : ab_exec n j 0 (ab_ent j (st.take na).reverse) [] h with
            | none => rw [he] at hq; cases hq
            | some q1 =>
              rw [he] at hq
              rw [ih _ _ _ _ _ _ he]
              dsimp only at hq ⊢
              cases ho : ab_out j q1 with
              | none => rw [ho] at hq; cases hq
              | some oh =>
                rw [ho] at hq
                obtain ⟨o, h1⟩ := oh
                cases o with
                | inl v =>
                  simp only [ab_aft] at hq
                  simp only [ab_aft, ho]
                  exact ih _ _ _ _ _ _ hq
                | inr e =>
                  simp only [ab_aft] at hq
                  simp only [ab_aft, ho]
                  cases hd : ab_hd k e with
                  | none => rw [hd] at hq; cases hq
                  | some w =>
                    rw [hd] at hq
                    obtain ⟨w1, w2, w3⟩ := w
                    exact ih _ _ _ _ _ _ hq
          · cases hq
theorem ab_mono {n m k pc : Nat} {ls st : List Value} {h : ab_Hp} {q : ab_C} (hnm : n ≤ m) (hq : ab_exec n k pc ls st h = some q) : ab_exec m k pc ls st h = some q := by
  induction hnm with
  | refl => exact hq
  | step _ ih => exact ab_mono1 _ _ _ _ _ _ _ ih
def wp (k pc : Nat) (ls st : List Value) (h : ab_Hp) (Q : ab_O → ab_Hp → Prop) : Prop := ∃ (n : Nat) (q : ab_C) (o : ab_O) (h' : ab_Hp), ab_exec n k pc ls st h = some q ∧ ab_out k q = some (o, h') ∧ Q o h'
theorem wp_mono {k pc : Nat} {ls st : List Value} {h : ab_Hp} {Q Q' : ab_O → ab_Hp → Prop} (w : wp k pc ls st h Q) (hQ : ∀ o h', Q o h' → Q' o h') : wp k pc ls st h Q' := by
  obtain ⟨n, q, o, h', e1, e2, e3⟩ := w
  exact ⟨n, q, o, h', e1, e2, hQ _ _ e3⟩
theorem wp_stp {k pc pc' : Nat} {ri : ab_RI} {ls st ls' st' : List Value} {h h' : ab_Hp} {Q : ab_O → ab_Hp → Prop} (hc : ab_cod k pc = some ri) (hE : ab_isE ri = false) (hC : ab_isC ri = false) (hs : ab_stp ri pc ls st h = some (pc', ls', st', h')) : wp k pc ls st h Q = wp k pc' ls' st' h' Q := by
  apply propext
  constructor
  · rintro ⟨n, q, o, h2, e1, e2, e3⟩
    cases n with
    | zero => cases e1
    | succ n =>
      rw [ab_exec_S hc hE hC, hs] at e1
      exact ⟨n, q, o, h2, e1, e2, e3⟩
  · rintro ⟨n, q, o, h2, e1, e2, e3⟩
    refine ⟨n + 1, q, o, h2, ?_, e2, e3⟩
    rw [ab_exec_S hc hE hC, hs]
    exact e1
theorem wp_end {k pc : Nat} {ri : ab_RI} {ls st : List Value} {h h' : ab_Hp} {o : ab_O} {Q : ab_O → ab_Hp → Prop} (hc : ab_cod k pc = some ri) (hE : ab_isE ri = true) (ho : ab_out k (pc, ls, st, h) = some (o, h')) : wp k pc ls st h Q = Q o h' := by
  apply propext
  constructor
  · rintro ⟨n, q, o2, h2, e1, e2, e3⟩
    cases n with
    | zero => cases e1
    | succ n =>
      rw [ab_exec_E hc hE] at e1
      cases e1
      rw [ho] at e2
      cases e2
      exact e3
  · intro hq
    exact ⟨1, (pc, ls, st, h), o, h', ab_exec_E hc hE, ho, hq⟩
def ab_K (k pc : Nat) (ls rest : List Value) (Q : ab_O → ab_Hp → Prop) : ab_O → ab_Hp → Prop := fun o h' => match o with
  | .inl v => wp k (pc + 3) ls (v.toList ++ rest) h' Q
  | .inr e => match ab_hd k e with
    | none => False
    | some (hp, lv, ln) => wp k (hp + ln) (ab_st1 ls lv ab_nov) [] h' Q
theorem wp_call {k pc j na len c d : Nat} {ins : Instr} {ls st : List Value} {h : ab_Hp} {Q : ab_O → ab_Hp → Prop} (hc : ab_cod k pc = some (ins, len, j, na, c, d)) (hE : ab_isE (ins, len, j, na, c, d) = false) (hC : ab_isC (ins, len, j, na, c, d) = true) (hcond : (na ≤ st.length ∧ ab_rm (st.drop na) = true) ∧ ab_rcv c j (st.take na).reverse h = true) :
    wp k pc ls st h Q = wp j 0 (ab_ent j (st.take na).reverse) [] h (ab_K k pc ls (st.drop na) Q) := by
  apply propext
  constructor
  · rintro ⟨n, q, o, h2, e1, e2, e3⟩
    cases n with
    | zero => cases e1
    | succ n =>
      rw [ab_exec_C hc hE hC, if_pos hcond] at e1
      cases he : ab_exec n j 0 (ab_ent j (st.take na).reverse) [] h with
      | none => rw [he] at e1; cases e1
      | some q1 =>
        rw [he] at e1
        dsimp only at e1
        cases ho : ab_out j q1 with
        | none => rw [ho] at e1; cases e1
        | some oh =>
          rw [ho] at e1
          obtain ⟨o1, h1⟩ := oh
          refine ⟨n, q1, o1, h1, he, ho, ?_⟩
          cases o1 with
          | inl v => exact ⟨n, q, o, h2, e1, e2, e3⟩
          | inr e =>
            simp only [ab_aft] at e1
            unfold ab_K
            dsimp only
            cases hd : ab_hd k e with
            | none => rw [hd] at e1; cases e1
            | some w =>
              rw [hd] at e1
              obtain ⟨w1, w2, w3⟩ := w
              exact ⟨n, q, o, h2, e1, e2, e3⟩
  · rintro ⟨n, q1, o1, h1, he, ho, hK⟩
    unfold ab_K at hK
    cases o1 with
    | inl v =>
      dsimp only at hK
      obtain ⟨n2, q, o, h2, e1, e2, e3⟩ := hK
      refine ⟨max n n2 + 1, q, o, h2, ?_, e2, e3⟩
      rw [ab_exec_C hc hE hC, if_pos hcond, ab_mono (Nat.le_max_left n n2) he]
      simp only [ab_aft, ho]
      exact ab_mono (Nat.le_max_right n n2) e1
    | inr e =>
      dsimp only at hK
      cases hd : ab_hd k e with
      | none => rw [hd] at hK; exact hK.elim
      | some w =>
        rw [hd] at hK
        obtain ⟨w1, w2, w3⟩ := w
        obtain ⟨n2, q, o, h2, e1, e2, e3⟩ := hK
        refine ⟨max n n2 + 1, q, o, h2, ?_, e2, e3⟩
        rw [ab_exec_C hc hE hC, if_pos hcond, ab_mono (Nat.le_max_left n n2) he]
        simp only [ab_aft, ho, hd]
        exact ab_mono (Nat.le_max_right n n2) e1
