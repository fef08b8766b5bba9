/-! What is checked of the tables of parts 03 and 04, once, by evaluation. -/
def ab_gw : List Jvm.Cond := lw_tbl.filter goodWord
def ab_ok (i : Nat) (w : Jvm.Cond) : Bool := decide (lw_tbl[i]? = some w) && goodWord w
theorem ab_ok_in {i : Nat} {w : Jvm.Cond} (h : ab_ok i w = true) : w ∈ ab_gw := by
  simp only [ab_ok, Bool.and_eq_true, decide_eq_true_eq] at h
  exact List.mem_filter.mpr ⟨List.mem_of_getElem? h.1, h.2⟩
def ab_ow (k : Nat) : String := (ab_mn k).cls
def ab_CN : Nat → String := fun c => match c with
  | 0 => RX0
  | 1 => RX1
  | 2 => RX2
  | 3 => RX3
  | 4 => RX4
  | 5 => RX5
  | 6 => RX6
  | _ => ""
def ab_T : Nat → u_T := fun c => match c with
  | 0 => TX0
  | 1 => TX1
  | 2 => TX2
  | 3 => TX3
  | 4 => TX4
  | 5 => TX5
  | 6 => TX6
  | _ => TX0
def ab_ty : Nat → (Nat → FieldType) := fun c => match c with
  | 0 => tyX0
  | 1 => tyX1
  | 2 => tyX2
  | 3 => tyX3
  | 4 => tyX4
  | 5 => tyX5
  | 6 => tyX6
  | _ => tyX0
def ab_EN : Nat → String := fun c => match c with
  | 0 => "java/lang/IndexOutOfBoundsException"
  | 1 => "java/lang/IllegalArgumentException"
  | 2 => "java/lang/IllegalStateException"
  | _ => ""
def ab_ik : Nat → Nat := fun c => match c with
  | 0 => 37
  | 1 => 44
  | 2 => 71
  | _ => 0
def ab_ic : Nat → Nat := fun c => match c with
  | 0 => 41
  | 1 => 48
  | 2 => 75
  | _ => 0
def ab_strs : List (Nat × String) := [(39, "there is no such room"), (46, "period or phase is out of range"), (66, "beats is out of range"), (73, "the room would have too many beats to lose"), (76, "same rooms, or size or crossing is out of range"), (81, "there are as many seams as can be"), (103, "value is out of range"), (109, "the queue is full, or all items were put"), (118, "ticks is out of range"), (123, "the number of the tick would be too large"), (163, "there is no saved state"), (168, "what is out of range"), (173, "place or what is out of range"), (185, "there is no such seam"), (192, "ticks or what is out of range"), (200, "there is no such item")]
/-- words that the tables alone decide, handed on one by one -/
def ab_xw : List Jvm.Cond := [.methodLinkNest "SeamBeats$State" 39 ⟨"SeamBeats$Room", "<init>", "()V"⟩ "SeamBeats", .methodLinkNest "SeamBeats$Room" 11 ⟨"SeamBeats$Line", "<init>", "()V"⟩ "SeamBeats", .methodLinkNest "SeamBeats$State" 40 ⟨"SeamBeats$Seam", "<init>", "()V"⟩ "SeamBeats", .methodLinkNest "SeamBeats$Seam" 11 ⟨"SeamBeats$Line", "<init>", "()V"⟩ "SeamBeats", .methodLinkNest "SeamBeats" 28 ⟨"SeamBeats$Text", "<init>", "()V"⟩ "SeamBeats", .castable "java/lang/IndexOutOfBoundsException" "java/lang/IndexOutOfBoundsException", .castable "java/lang/IllegalArgumentException" "java/lang/IllegalArgumentException", .castable "java/lang/IllegalStateException" "java/lang/IllegalStateException"]
def ab_hosts : List (Nat × Nat × String) := [(13, 39, "SeamBeats"), (5, 11, "SeamBeats"), (17, 40, "SeamBeats"), (5, 11, "SeamBeats"), (39, 28, "SeamBeats")]
def ab_ncs : List (String × String) := []
def ab_nms : List String := ["java/lang/RuntimeException", "java/lang/Exception"]
def ab_dec (k pc : Nat) (ins : Instr) (len : Nat) : Bool := match decode (ab_by k) pc with
  | .ok (i, n) => decide (i = ins) && decide (n = len)
  | .error _ => false
theorem ab_dec_spec {k pc len : Nat} {ins : Instr} (h : ab_dec k pc ins len = true) : decode (ab_by k) pc = .ok (ins, len) := by
  unfold ab_dec at h
  split at h
  · rename_i i n e
    simp only [Bool.and_eq_true, decide_eq_true_eq] at h
    rw [e, h.1, h.2]
  · cases h
def ab_host (a idx : Nat) : List (Nat × Nat × String) → String
  | [] => ""
  | (p, q, s) :: t => if p = a ∧ q = idx then s else ab_host a idx t
def ab_codeW (a : Nat) : Jvm.Cond := match ab_hh a with
  | [] => .code (ab_mn a) (ab_by a) (ab_xl a) (ab_rt a)
  | _ => .codeWith (ab_mn a) (ab_by a) (ab_xl a) (ab_rt a) (ab_hh a)
/-- a callee, whatever the call -/
def ab_calA (k a : Nat) (n : Nat) : Bool := decide (a < 93) && decide ((ab_wi a).1 ≠ 0) && ab_ok (ab_wi a).2.1 (.initialized (ab_mn a).cls) && decide ((ab_mn a).cls ≠ "java/lang/invoke/MethodHandle" ∧ (ab_mn a).cls ≠ "java/lang/invoke/VarHandle") && plainName (ab_mn a).cls && decide ((parseMethodDescriptor (ab_mn a).desc).map (fun d => d.parameters.length) = some n) && decide (ab_fr a + 1 ≤ ab_fr k ∧ 8 + (ab_xl a + 11) + ab_lo a ≤ ab_lo k)
def ab_calV (k idx a b d : Nat) : Bool := ab_calA k a (b - 1) && decide (1 ≤ b) && decide (ab_hh a = []) && ab_ok d (.methodLink (ab_ow k) idx (ab_mn a)) && ab_ok (ab_wi a).2.2.1 (.instanceMethod (ab_mn a)) && ab_ok (ab_wi a).2.2.2 (.selects (ab_mn a).cls (ab_mn a) (ab_mn a)) && decide (ab_ci a < 7) && decide (ab_CN (ab_ci a) = (ab_mn a).cls)
def ab_calS (k idx a b d : Nat) : Bool := ab_calA k a b && ab_ok d (.methodLink (ab_ow k) idx (ab_mn a)) && ab_ok (ab_wi a).2.2.1 (.static (ab_mn a))
def ab_calI (k idx a b c d : Nat) : Bool := ab_calA k a (b - 1) && decide (1 ≤ b) && decide (ab_hh a = []) && decide (ab_rt a = none) && decide ((ab_mn a).name = "<init>") && ab_ok (ab_wi a).2.2.1 (.instanceMethod (ab_mn a)) && (match c with
  | 2 => ab_ok d (.methodLink (ab_ow k) idx (ab_mn a))
  | 3 => decide (Cond.methodLinkNest (ab_ow k) idx (ab_mn a) (ab_host a idx ab_hosts) ∈ ab_xw)
  | _ => false)
def ab_thrC (k pc idx a b : Nat) : Bool := decide (ab_ow k = RX6) && decide (a < 103) && decide (idx = ab_ik (a - 100)) && ab_dec k (pc + 3) .dup 1 && ab_dec k (pc + 4) (.ldc b) 2 && ab_dec k (pc + 6) (.invokespecial (ab_ic (a - 100))) 3 && ab_dec k (pc + 9) .athrow 1 && decide (ab_hh k = []) && decide (6 ≤ ab_fr k ∧ 90 ≤ ab_lo k) && (ab_strs.any fun q => decide (q.1 = b))
def ab_fld (k idx a b c : Nat) : Bool := decide (a < 7) && decide (b < ab_nf a) && ab_ok c (.fieldLink (ab_ow k) idx (ab_T a b).1 (ab_T a b).2.1 (ab_T a b).2.2.1)
def ab_chI (k pc : Nat) (ri : ab_RI) : Bool := match ri with
  | (ins, len, a, b, c, d) => match ins with
    | .iconst _ => decide (len = 1)
    | .bipush _ => decide (len = 2)
    | .sipush _ => decide (len = 3)
    | .lconst _ => decide (len = 1)
    | .dconst _ => decide (len = 1)
    | .aconst_null => decide (len = 1)
    | .ldc2_w idx => decide (len = 3) && (if a = 0 then ab_ok b (.constantLong (ab_ow k) idx (Int64.ofNat c)) else ab_ok b (.constantDouble (ab_ow k) idx (UInt64.ofNat c)))
    | .ldc idx => decide (len = 2) && decide (a = 1) && ab_ok b (.constant (ab_ow k) idx (Int32.ofNat c))
    | .iload _ => decide (len = 2)
    | .iload_n _ => decide (len = 1)
    | .lload _ => decide (len = 2)
    | .lload_n _ => decide (len = 1)
    | .dload _ => decide (len = 2)
    | .dload_n _ => decide (len = 1)
    | .aload _ => decide (len = 2)
    | .aload_n _ => decide (len = 1)
    | .istore i => decide (len = 2) && decide (i < ab_xl k)
    | .istore_n i => decide (len = 1) && decide ((i : Nat) < ab_xl k)
    | .lstore i => decide (len = 2) && decide (i + 1 < ab_xl k)
    | .lstore_n i => decide (len = 1) && decide ((i : Nat) + 1 < ab_xl k)
    | .dstore i => decide (len = 2) && decide (i + 1 < ab_xl k)
    | .dstore_n i => decide (len = 1) && decide ((i : Nat) + 1 < ab_xl k)
    | .astore i => decide (len = 2) && decide (i < ab_xl k)
    | .astore_n i => decide (len = 1) && decide ((i : Nat) < ab_xl k)
    | .iinc i _ => decide (len = 3) && decide (i < ab_xl k)
    | .goto off => decide (len = 3) && decide ((pc : Int) + off = (a : Int))
    | .if_icmp _ off => decide (len = 3) && decide ((pc : Int) + off = (a : Int))
    | .ifCond _ off => decide (len = 3) && decide ((pc : Int) + off = (a : Int))
    | .ifnull off => decide (len = 3) && decide ((pc : Int) + off = (a : Int))
    | .ifnonnull off => decide (len = 3) && decide ((pc : Int) + off = (a : Int))
    | .tableswitch dflt _ _ offs => decide (0 ≤ (pc : Int) + dflt) && offs.toList.all (fun o => decide (0 ≤ (pc : Int) + o))
    | .getfield idx => decide (len = 3) && ab_fld k idx a b c
    | .putfield idx => decide (len = 3) && ab_fld k idx a b c && (if (ab_T a b).2.2.2 = true then decide ((ab_mn k).name = "<init>" ∧ (ab_T a b).1 = ab_ow k) else true)
    | .newarray t => decide (len = 2) && ab_ok b (.arrayClass (newarray.typeOf t)) && (match t with
      | .int => decide (a = 1)
      | .long => decide (a = 2)
      | _ => false)
    | .anewarray idx => decide (len = 3) && decide (3 ≤ a ∧ a ≤ 5) && ab_ok b (.classLink (ab_ow k) idx (ab_CN (ab_ac a)))
    | .new idx => decide (len = 3) && (if 100 ≤ a then ab_thrC k pc idx a b else (decide (a < 7) && ab_ok b (.classLink (ab_ow k) idx (ab_CN a)) && ab_ok c (.instantiable (ab_CN a) (ab_nf a)) && ab_ok d (.initialized (ab_CN a))))
    | .invokevirtual idx => decide (len = 3) && decide (c = 0) && ab_calV k idx a b d
    | .invokestatic idx => decide (len = 3) && decide (c = 1) && ab_calS k idx a b d
    | .invokespecial idx => decide (len = 3) && (if c = 4 then (ab_ok d (.methodLink (ab_ow k) idx Lib.objectInit) && decide (1 ≤ ab_fr k ∧ 20 ≤ ab_lo k)) else ab_calI k idx a b c d)
    | _ => decide (len = 1)
def ab_ch (k : Nat) (q : Nat × ab_RI) : Bool := ab_dec k q.1 q.2.1 q.2.2.1 && ab_chI k q.1 q.2
theorem ab_k0_0 : ab_c0_0.all (ab_ch 0) = true := by decide +kernel
theorem ab_k1_0 : ab_c1_0.all (ab_ch 1) = true := by decide +kernel
theorem ab_k2_0 : ab_c2_0.all (ab_ch 2) = true := by decide +kernel
theorem ab_k3_0 : ab_c3_0.all (ab_ch 3) = true := by decide +kernel
theorem ab_k4_0 : ab_c4_0.all (ab_ch 4) = true := by decide +kernel
theorem ab_k5_0 : ab_c5_0.all (ab_ch 5) = true := by decide +kernel
theorem ab_k6_0 : ab_c6_0.all (ab_ch 6) = true := by decide +kernel
theorem ab_k7_0 : ab_c7_0.all (ab_ch 7) = true := by decide +kernel
theorem ab_k8_0 : ab_c8_0.all (ab_ch 8) = true := by decide +kernel
theorem ab_k9_0 : ab_c9_0.all (ab_ch 9) = true := by decide +kernel
theorem ab_k10_0 : ab_c10_0.all (ab_ch 10) = true := by decide +kernel
theorem ab_k11_0 : ab_c11_0.all (ab_ch 11) = true := by decide +kernel
theorem ab_k12_0 : ab_c12_0.all (ab_ch 12) = true := by decide +kernel
theorem ab_k13_0 : ab_c13_0.all (ab_ch 13) = true := by decide +kernel
theorem ab_k14_0 : ab_c14_0.all (ab_ch 14) = true := by decide +kernel
theorem ab_k15_0 : ab_c15_0.all (ab_ch 15) = true := by decide +kernel
theorem ab_k16_0 : ab_c16_0.all (ab_ch 16) = true := by decide +kernel
theorem ab_k17_0 : ab_c17_0.all (ab_ch 17) = true := by decide +kernel
theorem ab_k18_0 : ab_c18_0.all (ab_ch 18) = true := by decide +kernel
theorem ab_k19_0 : ab_c19_0.all (ab_ch 19) = true := by decide +kernel
theorem ab_k20_0 : ab_c20_0.all (ab_ch 20) = true := by decide +kernel
theorem ab_k21_0 : ab_c21_0.all (ab_ch 21) = true := by decide +kernel
theorem ab_k22_0 : ab_c22_0.all (ab_ch 22) = true := by decide +kernel
theorem ab_k23_0 : ab_c23_0.all (ab_ch 23) = true := by decide +kernel
theorem ab_k24_0 : ab_c24_0.all (ab_ch 24) = true := by decide +kernel
