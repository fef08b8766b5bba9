/-! What is checked of the tables of parts 03 and 04, once, by evaluation. -/
def ab_gw : List Jvm.Cond := lw_tbl.filter goodWord
def ab_ok (i : Nat) (w : Jvm.Cond) : Bool := decide (lw_tbl[i]? = some w) && goodWord w
theorem ab_ok_in {i : Nat} {w : Jvm.Cond} (h : ab_ok i w = true) : w ∈ ab_gw := by
  simp only [ab_ok, Bool.and_eq_true, decide_eq_true_eq] at h
  exact List.mem_filter.mpr ⟨List.mem_of_getElem? h.1, h.2⟩
def ab_ow (k : Nat) : String := (ab_mn k).cls
def ab_CN : Nat → String := fun c => match c with
  | 0 => RX0
  | 1 => RX1
  | 2 => RX2
  | 3 => RX3
  | 4 => RX4
  | 5 => RX5
  | 6 => RX6
  | 7 => RX7
  | _ => ""
def ab_T : Nat → u_T := fun c => match c with
  | 0 => TX0
  | 1 => TX1
  | 2 => TX2
  | 3 => TX3
  | 4 => TX4
  | 5 => TX5
  | 6 => TX6
  | 7 => TX7
  | _ => TX0
def ab_ty : Nat → (Nat → FieldType) := fun c => match c with
  | 0 => tyX0
  | 1 => tyX1
  | 2 => tyX2
  | 3 => tyX3
  | 4 => tyX4
  | 5 => tyX5
  | 6 => tyX6
  | 7 => tyX7
  | _ => tyX0
def ab_EN : Nat → String := fun c => match c with
  | 0 => "java/lang/IndexOutOfBoundsException"
  | 1 => "java/lang/IllegalArgumentException"
  | 2 => "java/lang/IllegalStateException"
  | _ => ""
def ab_ik : Nat → Nat := fun c => match c with
  | 0 => 37
  | 1 => 44
  | 2 => 71
  | _ => 0
def ab_ic : Nat → Nat := fun c => match c with
  | 0 => 41
  | 1 => 48
  | 2 => 75
  | _ => 0
def ab_strs : List (Nat × String) := [(39, "there is no such room"), (46, "period or phase is out of range"), (66, "beats is out of range"), (73, "the room would have too many beats to lose"), (76, "same rooms, or size or crossing is out of range"), (81, "there are as many seams as can be"), (91, "there is no such room or seam"), (98, "the seam does not go out from the room"), (103, "value is out of range"), (109, "the queue is full, or all items were put"), (118, "ticks is out of range"), (123, "the number of the tick would be too large"), (133, "code is out of range"), (138, "the buffer is full"), (151, "the buffer is not complete items as a text"), (160, "a queue would be too long, or there would be too many items"), (163, "there is no saved state"), (168, "what is out of range"), (173, "place or what is out of range"), (185, "there is no such seam"), (192, "ticks or what is out of range"), (200, "there is no such item")]
/-- words that the tables alone decide, handed on one by one -/
def ab_xw : List Jvm.Cond := [.methodLinkNest "SeamBeats$State" 39 ⟨"SeamBeats$Room", "<init>", "()V"⟩ "SeamBeats", .methodLinkNest "SeamBeats$Room" 11 ⟨"SeamBeats$Line", "<init>", "()V"⟩ "SeamBeats", .methodLinkNest "SeamBeats$State" 40 ⟨"SeamBeats$Seam", "<init>", "()V"⟩ "SeamBeats", .methodLinkNest "SeamBeats$Seam" 11 ⟨"SeamBeats$Line", "<init>", "()V"⟩ "SeamBeats", .methodLinkNest "SeamBeats" 28 ⟨"SeamBeats$Text", "<init>", "()V"⟩ "SeamBeats", .castable "java/lang/IndexOutOfBoundsException" "java/lang/IndexOutOfBoundsException", .castable "java/lang/IllegalArgumentException" "java/lang/IllegalArgumentException", .castable "java/lang/IllegalStateException" "java/lang/IllegalStateException"]
def ab_hosts : List (Nat × Nat × String) := [(13, 39, "SeamBeats"), (5, 11, "SeamBeats"), (17, 40, "SeamBeats"), (5, 11, "SeamBeats"), (39, 28, "SeamBeats")]
def ab_ncs : List (String × String) := [("java/lang/IndexOutOfBoundsException", "java/lang/IllegalArgumentException"), ("java/lang/IndexOutOfBoundsException", "java/lang/IllegalStateException"), ("java/lang/IllegalArgumentException", "java/lang/IndexOutOfBoundsException"), ("java/lang/IllegalArgumentException", "java/lang/IllegalStateException"), ("java/lang/IllegalStateException", "java/lang/IndexOutOfBoundsException"), ("java/lang/IllegalStateException", "java/lang/IllegalArgumentException")]
def ab_nms : List String := ["java/lang/RuntimeException", "java/lang/Exception"]
def ab_dec (k pc : Nat) (ins : Instr) (len : Nat) : Bool := match decode (ab_by k) pc with
  | .ok (i, n) => decide (i = ins) && decide (n = len)
  | .error _ => false
theorem ab_dec_spec {k pc len : Nat} {ins : Instr} (h : ab_dec k pc ins len = true) : decode (ab_by k) pc = .ok (ins, len) := by
  unfold ab_dec at h
  split at h
  · rename_i i n e
    simp only [Bool.and_eq_true, decide_eq_true_eq] at h
    rw [e, h.1, h.2]
  · cases h
def ab_host (a idx : Nat) : List (Nat × Nat × String) → String
  | [] => ""
  | (p, q, s) :: t => if p = a ∧ q = idx then s else ab_host a idx t
def ab_codeW (a : Nat) : Jvm.Cond := match ab_hh a with
  | [] => .code (ab_mn a) (ab_by a) (ab_xl a) (ab_rt a)
  | _ => .codeWith (ab_mn a) (ab_by a) (ab_xl a) (ab_rt a) (ab_hh a)
/-- a callee, whatever the call -/
def ab_calA (k a : Nat) (n : Nat) : Bool := decide (a < 170) && ab_ok (ab_wi a).1 (ab_codeW a) && ab_ok (ab_wi a).2.1 (.initialized (ab_mn a).cls) && decide ((ab_mn a).cls ≠ "java/lang/invoke/MethodHandle" ∧ (ab_mn a).cls ≠ "java/lang/invoke/VarHandle") && plainName (ab_mn a).cls && decide ((parseMethodDescriptor (ab_mn a).desc).map (fun d => d.parameters.length) = some n) && decide (ab_fr a + 1 ≤ ab_fr k ∧ 8 + (ab_xl a + 11) + ab_lo a ≤ ab_lo k)
def ab_calV (k idx a b d : Nat) : Bool := ab_calA k a (b - 1) && decide (1 ≤ b) && decide (ab_hh a = []) && ab_ok d (.methodLink (ab_ow k) idx (ab_mn a)) && ab_ok (ab_wi a).2.2.1 (.instanceMethod (ab_mn a)) && ab_ok (ab_wi a).2.2.2 (.selects (ab_mn a).cls (ab_mn a) (ab_mn a)) && decide (ab_ci a < 8) && decide (ab_CN (ab_ci a) = (ab_mn a).cls)
def ab_calS (k idx a b d : Nat) : Bool := ab_calA k a b && ab_ok d (.methodLink (ab_ow k) idx (ab_mn a)) && ab_ok (ab_wi a).2.2.1 (.static (ab_mn a))
def ab_calI (k idx a b c d : Nat) : Bool := ab_calA k a (b - 1) && decide (1 ≤ b) && decide (ab_hh a = []) && decide (ab_rt a = none) && decide ((ab_mn a).name = "<init>") && ab_ok (ab_wi a).2.2.1 (.instanceMethod (ab_mn a)) && (match c with
  | 2 => ab_ok d (.methodLink (ab_ow k) idx (ab_mn a))
  | 3 => decide (Cond.methodLinkNest (ab_ow k) idx (ab_mn a) (ab_host a idx ab_hosts) ∈ ab_xw)
  | _ => false)
def ab_thrC (k pc idx a b : Nat) : Bool := decide (ab_ow k = RX6) && decide (a < 103) && decide (idx = ab_ik (a - 100)) && ab_dec k (pc + 3) .dup 1 && ab_dec k (pc + 4) (.ldc b) 2 && ab_dec k (pc + 6) (.invokespecial (ab_ic (a - 100))) 3 && ab_dec k (pc + 9) .athrow 1 && decide (ab_hh k = []) && decide (6 ≤ ab_fr k ∧ 90 ≤ ab_lo k) && (ab_strs.any fun q => decide (q.1 = b))
def ab_fld (k idx a b c : Nat) : Bool := decide (a < 8) && decide (b < ab_nf a) && ab_ok c (.fieldLink (ab_ow k) idx (ab_T a b).1 (ab_T a b).2.1 (ab_T a b).2.2.1)
def ab_chI (k pc : Nat) (ri : ab_RI) : Bool := match ri with
  | (ins, len, a, b, c, d) => match ins with
    | .iconst _ => decide (len = 1)
    | .bipush _ => decide (len = 2)
    | .sipush _ => decide (len = 3)
    | .lconst _ => decide (len = 1)
    | .dconst _ => decide (len = 1)
    | .aconst_null => decide (len = 1)
    | .ldc2_w idx => decide (len = 3) && (if a = 0 then ab_ok b (.constantLong (ab_ow k) idx (Int64.ofNat c)) else ab_ok b (.constantDouble (ab_ow k) idx (UInt64.ofNat c)))
    | .iload _ => decide (len = 2)
    | .iload_n _ => decide (len = 1)
    | .lload _ => decide (len = 2)
    | .lload_n _ => decide (len = 1)
    | .dload _ => decide (len = 2)
    | .dload_n _ => decide (len = 1)
    | .aload _ => decide (len = 2)
    | .aload_n _ => decide (len = 1)
    | .istore i => decide (len = 2) && decide (i < ab_xl k)
    | .istore_n i => decide (len = 1) && decide ((i : Nat) < ab_xl k)
    | .lstore i => decide (len = 2) && decide (i + 1 < ab_xl k)
    | .lstore_n i => decide (len = 1) && decide ((i : Nat) + 1 < ab_xl k)
    | .dstore i => decide (len = 2) && decide (i + 1 < ab_xl k)
    | .dstore_n i => decide (len = 1) && decide ((i : Nat) + 1 < ab_xl k)
    | .astore i => decide (len = 2) && decide (i < ab_xl k)
    | .astore_n i => decide (len = 1) && decide ((i : Nat) < ab_xl k)
    | .iinc i _ => decide (len = 3) && decide (i < ab_xl k)
    | .goto off => decide (len = 3) && decide ((pc : Int) + off = (a : Int))
    | .if_icmp _ off => decide (len = 3) && decide ((pc : Int) + off = (a : Int))
    | .ifCond _ off => decide (len = 3) && decide ((pc : Int) + off = (a : Int))
    | .ifnull off => decide (len = 3) && decide ((pc : Int) + off = (a : Int))
    | .ifnonnull off => decide (len = 3) && decide ((pc : Int) + off = (a : Int))
    | .tableswitch dflt _ _ offs => decide (0 ≤ (pc : Int) + dflt) && offs.toList.all (fun o => decide (0 ≤ (pc : Int) + o))
    | .getfield idx => decide (len = 3) && ab_fld k idx a b c
    | .putfield idx => decide (len = 3) && ab_fld k idx a b c && (if (ab_T a b).2.2.2 = true then decide ((ab_mn k).name = "<init>" ∧ (ab_T a b).1 = ab_ow k) else true)
    | .newarray t => decide (len = 2) && ab_ok b (.arrayClass (newarray.typeOf t)) && (match t with
      | .int => decide (a = 1)
      | .long => decide (a = 2)
      | _ => false)
    | .anewarray idx => decide (len = 3) && decide (3 ≤ a ∧ a ≤ 5) && ab_ok b (.classLink (ab_ow k) idx (ab_CN (ab_ac a)))
    | .new idx => decide (len = 3) && (if 100 ≤ a then ab_thrC k pc idx a b else (decide (a < 8) && ab_ok b (.classLink (ab_ow k) idx (ab_CN a)) && ab_ok c (.instantiable (ab_CN a) (ab_nf a)) && ab_ok d (.initialized (ab_CN a))))
    | .invokevirtual idx => decide (len = 3) && decide (c = 0) && ab_calV k idx a b d
    | .invokestatic idx => decide (len = 3) && decide (c = 1) && ab_calS k idx a b d
    | .invokespecial idx => decide (len = 3) && (if c = 4 then (ab_ok d (.methodLink (ab_ow k) idx Lib.objectInit) && decide (1 ≤ ab_fr k ∧ 20 ≤ ab_lo k)) else ab_calI k idx a b c d)
    | _ => decide (len = 1)
def ab_ch (k : Nat) (q : Nat × ab_RI) : Bool := ab_dec k q.1 q.2.1 q.2.2.1 && ab_chI k q.1 q.2
theorem ab_k0_0 : ab_c0_0.all (ab_ch 0) = true := by decide +kernel
theorem ab_k1_0 : ab_c1_0.all (ab_ch 1) = true := by decide +kernel
theorem ab_k2_0 : ab_c2_0.all (ab_ch 2) = true := by decide +kernel
theorem ab_k3_0 : ab_c3_0.all (ab_ch 3) = true := by decide +kernel
theorem ab_k4_0 : ab_c4_0.all (ab_ch 4) = true := by decide +kernel
theorem ab_k5_0 : ab_c5_0.all (ab_ch 5) = true := by decide +kernel
theorem ab_k6_0 : ab_c6_0.all (ab_ch 6) = true := by decide +kernel
theorem ab_k7_0 : ab_c7_0.all (ab_ch 7) = true := by decide +kernel
theorem ab_k8_0 : ab_c8_0.all (ab_ch 8) = true := by decide +kernel
theorem ab_k9_0 : ab_c9_0.all (ab_ch 9) = true := by decide +kernel
theorem ab_k10_0 : ab_c10_0.all (ab_ch 10) = true := by decide +kernel
theorem ab_k11_0 : ab_c11_0.all (ab_ch 11) = true := by decide +kernel
theorem ab_k12_0 : ab_c12_0.all (ab_ch 12) = true := by decide +kernel
theorem ab_k13_0 : ab_c13_0.all (ab_ch 13) = true := by decide +kernel
theorem ab_k14_0 : ab_c14_0.all (ab_ch 14) = true := by decide +kernel
theorem ab_k15_0 : ab_c15_0.all (ab_ch 15) = true := by decide +kernel
theorem ab_k16_0 : ab_c16_0.all (ab_ch 16) = true := by decide +kernel
theorem ab_k17_0 : ab_c17_0.all (ab_ch 17) = true := by decide +kernel
theorem ab_k18_0 : ab_c18_0.all (ab_ch 18) = true := by decide +kernel
theorem ab_k19_0 : ab_c19_0.all (ab_ch 19) = true := by decide +kernel
theorem ab_k20_0 : ab_c20_0.all (ab_ch 20) = true := by decide +kernel
theorem ab_k21_0 : ab_c21_0.all (ab_ch 21) = true := by decide +kernel
theorem ab_k22_0 : ab_c22_0.all (ab_ch 22) = true := by decide +kernel
theorem ab_k23_0 : ab_c23_0.all (ab_ch 23) = true := by decide +kernel
theorem ab_k24_0 : ab_c24_0.all (ab_ch 24) = true := by decide +kernel
theorem ab_k25_0 : ab_c25_0.all (ab_ch 25) = true := by decide +kernel
theorem ab_k26_0 : ab_c26_0.all (ab_ch 26) = true := by decide +kernel
theorem ab_k27_0 : ab_c27_0.all (ab_ch 27) = true := by decide +kernel
theorem ab_k28_0 : ab_c28_0.all (ab_ch 28) = true := by decide +kernel
theorem ab_k29_0 : ab_c29_0.all (ab_ch 29) = true := by decide +kernel
theorem ab_k29_1 : ab_c29_1.all (ab_ch 29) = true := by decide +kernel
theorem ab_k30_0 : ab_c30_0.all (ab_ch 30) = true := by decide +kernel
theorem ab_k31_0 : ab_c31_0.all (ab_ch 31) = true := by decide +kernel
theorem ab_k32_0 : ab_c32_0.all (ab_ch 32) = true := by decide +kernel
theorem ab_k33_0 : ab_c33_0.all (ab_ch 33) = true := by decide +kernel
theorem ab_k34_0 : ab_c34_0.all (ab_ch 34) = true := by decide +kernel
theorem ab_k35_0 : ab_c35_0.all (ab_ch 35) = true := by decide +kernel
theorem ab_k36_0 : ab_c36_0.all (ab_ch 36) = true := by decide +kernel
theorem ab_k37_0 : ab_c37_0.all (ab_ch 37) = true := by decide +kernel
theorem ab_k38_0 : ab_c38_0.all (ab_ch 38) = true := by decide +kernel
theorem ab_k38_1 : ab_c38_1.all (ab_ch 38) = true := by decide +kernel
theorem ab_k39_0 : ab_c39_0.all (ab_ch 39) = true := by decide +kernel
theorem ab_k40_0 : ab_c40_0.all (ab_ch 40) = true := by decide +kernel
theorem ab_k41_0 : ab_c41_0.all (ab_ch 41) = true := by decide +kernel
theorem ab_k42_0 : ab_c42_0.all (ab_ch 42) = true := by decide +kernel
theorem ab_k43_0 : ab_c43_0.all (ab_ch 43) = true := by decide +kernel
theorem ab_k44_0 : ab_c44_0.all (ab_ch 44) = true := by decide +kernel
theorem ab_k45_0 : ab_c45_0.all (ab_ch 45) = true := by decide +kernel
theorem ab_k46_0 : ab_c46_0.all (ab_ch 46) = true := by decide +kernel
theorem ab_k46_1 : ab_c46_1.all (ab_ch 46) = true := by decide +kernel
theorem ab_k47_0 : ab_c47_0.all (ab_ch 47) = true := by decide +kernel
theorem ab_k48_0 : ab_c48_0.all (ab_ch 48) = true := by decide +kernel
theorem ab_k49_0 : ab_c49_0.all (ab_ch 49) = true := by decide +kernel
theorem ab_k50_0 : ab_c50_0.all (ab_ch 50) = true := by decide +kernel
theorem ab_k51_0 : ab_c51_0.all (ab_ch 51) = true := by decide +kernel
theorem ab_k52_0 : ab_c52_0.all (ab_ch 52) = true := by decide +kernel
theorem ab_k53_0 : ab_c53_0.all (ab_ch 53) = true := by decide +kernel
theorem ab_k54_0 : ab_c54_0.all (ab_ch 54) = true := by decide +kernel
theorem ab_k55_0 : ab_c55_0.all (ab_ch 55) = true := by decide +kernel
theorem ab_k56_0 : ab_c56_0.all (ab_ch 56) = true := by decide +kernel
theorem ab_k57_0 : ab_c57_0.all (ab_ch 57) = true := by decide +kernel
theorem ab_k58_0 : ab_c58_0.all (ab_ch 58) = true := by decide +kernel
theorem ab_k59_0 : ab_c59_0.all (ab_ch 59) = true := by decide +kernel
theorem ab_k60_0 : ab_c60_0.all (ab_ch 60) = true := by decide +kernel
theorem ab_k61_0 : ab_c61_0.all (ab_ch 61) = true := by decide +kernel
theorem ab_k62_0 : ab_c62_0.all (ab_ch 62) = true := by decide +kernel
theorem ab_k63_0 : ab_c63_0.all (ab_ch 63) = true := by decide +kernel
theorem ab_k64_0 : ab_c64_0.all (ab_ch 64) = true := by decide +kernel
theorem ab_k65_0 : ab_c65_0.all (ab_ch 65) = true := by decide +kernel
theorem ab_k66_0 : ab_c66_0.all (ab_ch 66) = true := by decide +kernel
theorem ab_k67_0 : ab_c67_0.all (ab_ch 67) = true := by decide +kernel
theorem ab_k68_0 : ab_c68_0.all (ab_ch 68) = true := by decide +kernel
theorem ab_k69_0 : ab_c69_0.all (ab_ch 69) = true := by decide +kernel
theorem ab_k70_0 : ab_c70_0.all (ab_ch 70) = true := by decide +kernel
theorem ab_k71_0 : ab_c71_0.all (ab_ch 71) = true := by decide +kernel
theorem ab_k72_0 : ab_c72_0.all (ab_ch 72) = true := by decide +kernel
theorem ab_k72_1 : ab_c72_1.all (ab_ch 72) = true := by decide +kernel
theorem ab_k73_0 : ab_c73_0.all (ab_ch 73) = true := by decide +kernel
theorem ab_k74_0 : ab_c74_0.all (ab_ch 74) = true := by decide +kernel
theorem ab_k75_0 : ab_c75_0.all (ab_ch 75) = true := by decide +kernel
theorem ab_k75_1 : ab_c75_1.all (ab_ch 75) = true := by decide +kernel
theorem ab_k76_0 : ab_c76_0.all (ab_ch 76) = true := by decide +kernel
theorem ab_k77_0 : ab_c77_0.all (ab_ch 77) = true := by decide +kernel
theorem ab_k78_0 : ab_c78_0.all (ab_ch 78) = true := by decide +kernel
theorem ab_k79_0 : ab_c79_0.all (ab_ch 79) = true := by decide +kernel
theorem ab_k80_0 : ab_c80_0.all (ab_ch 80) = true := by decide +kernel
theorem ab_k81_0 : ab_c81_0.all (ab_ch 81) = true := by decide +kernel
theorem ab_k82_0 : ab_c82_0.all (ab_ch 82) = true := by decide +kernel
theorem ab_k83_0 : ab_c83_0.all (ab_ch 83) = true := by decide +kernel
theorem ab_k84_0 : ab_c84_0.all (ab_ch 84) = true := by decide +kernel
theorem ab_k85_0 : ab_c85_0.all (ab_ch 85) = true := by decide +kernel
theorem ab_k86_0 : ab_c86_0.all (ab_ch 86) = true := by decide +kernel
theorem ab_k87_0 : ab_c87_0.all (ab_ch 87) = true := by decide +kernel
theorem ab_k88_0 : ab_c88_0.all (ab_ch 88) = true := by decide +kernel
theorem ab_k89_0 : ab_c89_0.all (ab_ch 89) = true := by decide +kernel
theorem ab_k90_0 : ab_c90_0.all (ab_ch 90) = true := by decide +kernel
theorem ab_k91_0 : ab_c91_0.all (ab_ch 91) = true := by decide +kernel
theorem ab_k92_0 : ab_c92_0.all (ab_ch 92) = true := by decide +kernel
theorem ab_k93_0 : ab_c93_0.all (ab_ch 93) = true := by decide +kernel
theorem ab_k94_0 : ab_c94_0.all (ab_ch 94) = true := by decide +kernel
theorem ab_k95_0 : ab_c95_0.all (ab_ch 95) = true := by decide +kernel
theorem ab_k96_0 : ab_c96_0.all (ab_ch 96) = true := by decide +kernel
theorem ab_k97_0 : ab_c97_0.all (ab_ch 97) = true := by decide +kernel
theorem ab_k98_0 : ab_c98_0.all (ab_ch 98) = true := by decide +kernel
theorem ab_k99_0 : ab_c99_0.all (ab_ch 99) = true := by decide +kernel
theorem ab_k100_0 : ab_c100_0.all (ab_ch 100) = true := by decide +kernel
theorem ab_k101_0 : ab_c101_0.all (ab_ch 101) = true := by decide +kernel
theorem ab_k102_0 : ab_c102_0.all (ab_ch 102) = true := by decide +kernel
theorem ab_k102_1 : ab_c102_1.all (ab_ch 102) = true := by decide +kernel
theorem ab_k103_0 : ab_c103_0.all (ab_ch 103) = true := by decide +kernel
theorem ab_k104_0 : ab_c104_0.all (ab_ch 104) = true := by decide +kernel
theorem ab_k105_0 : ab_c105_0.all (ab_ch 105) = true := by decide +kernel
theorem ab_k106_0 : ab_c106_0.all (ab_ch 106) = true := by decide +kernel
theorem ab_k107_0 : ab_c107_0.all (ab_ch 107) = true := by decide +kernel
theorem ab_k107_1 : ab_c107_1.all (ab_ch 107) = true := by decide +kernel
theorem ab_k107_2 : ab_c107_2.all (ab_ch 107) = true := by decide +kernel
theorem ab_k108_0 : ab_c108_0.all (ab_ch 108) = true := by decide +kernel
theorem ab_k109_0 : ab_c109_0.all (ab_ch 109) = true := by decide +kernel
theorem ab_k110_0 : ab_c110_0.all (ab_ch 110) = true := by decide +kernel
theorem ab_k110_1 : ab_c110_1.all (ab_ch 110) = true := by decide +kernel
theorem ab_k111_0 : ab_c111_0.all (ab_ch 111) = true := by decide +kernel
theorem ab_k112_0 : ab_c112_0.all (ab_ch 112) = true := by decide +kernel
theorem ab_k113_0 : ab_c113_0.all (ab_ch 113) = true := by decide +kernel
theorem ab_k114_0 : ab_c114_0.all (ab_ch 114) = true := by decide +kernel
theorem ab_k115_0 : ab_c115_0.all (ab_ch 115) = true := by decide +kernel
theorem ab_k116_0 : ab_c116_0.all (ab_ch 116) = true := by decide +kernel
theorem ab_k117_0 : ab_c117_0.all (ab_ch 117) = true := by decide +kernel
theorem ab_k118_0 : ab_c118_0.all (ab_ch 118) = true := by decide +kernel
theorem ab_k118_1 : ab_c118_1.all (ab_ch 118) = true := by decide +kernel
theorem ab_k119_0 : ab_c119_0.all (ab_ch 119) = true := by decide +kernel
theorem ab_k120_0 : ab_c120_0.all (ab_ch 120) = true := by decide +kernel
theorem ab_k121_0 : ab_c121_0.all (ab_ch 121) = true := by decide +kernel
theorem ab_k122_0 : ab_c122_0.all (ab_ch 122) = true := by decide +kernel
theorem ab_k123_0 : ab_c123_0.all (ab_ch 123) = true := by decide +kernel
theorem ab_k124_0 : ab_c124_0.all (ab_ch 124) = true := by decide +kernel
theorem ab_k124_1 : ab_c124_1.all (ab_ch 124) = true := by decide +kernel
theorem ab_k125_0 : ab_c125_0.all (ab_ch 125) = true := by decide +kernel
theorem ab_k126_0 : ab_c126_0.all (ab_ch 126) = true := by decide +kernel
theorem ab_k127_0 : ab_c127_0.all (ab_ch 127) = true := by decide +kernel
theorem ab_k128_0 : ab_c128_0.all (ab_ch 128) = true := by decide +kernel
theorem ab_k129_0 : ab_c129_0.all (ab_ch 129) = true := by decide +kernel
theorem ab_k130_0 : ab_c130_0.all (ab_ch 130) = true := by decide +kernel
theorem ab_k131_0 : ab_c131_0.all (ab_ch 131) = true := by decide +kernel
theorem ab_k132_0 : ab_c132_0.all (ab_ch 132) = true := by decide +kernel
theorem ab_k133_0 : ab_c133_0.all (ab_ch 133) = true := by decide +kernel
theorem ab_k134_0 : ab_c134_0.all (ab_ch 134) = true := by decide +kernel
theorem ab_k135_0 : ab_c135_0.all (ab_ch 135) = true := by decide +kernel
theorem ab_k136_0 : ab_c136_0.all (ab_ch 136) = true := by decide +kernel
theorem ab_k136_1 : ab_c136_1.all (ab_ch 136) = true := by decide +kernel
theorem ab_k137_0 : ab_c137_0.all (ab_ch 137) = true := by decide +kernel
theorem ab_k138_0 : ab_c138_0.all (ab_ch 138) = true := by decide +kernel
theorem ab_k138_1 : ab_c138_1.all (ab_ch 138) = true := by decide +kernel
theorem ab_k139_0 : ab_c139_0.all (ab_ch 139) = true := by decide +kernel
theorem ab_k140_0 : ab_c140_0.all (ab_ch 140) = true := by decide +kernel
theorem ab_k141_0 : ab_c141_0.all (ab_ch 141) = true := by decide +kernel
theorem ab_k142_0 : ab_c142_0.all (ab_ch 142) = true := by decide +kernel
theorem ab_k143_0 : ab_c143_0.all (ab_ch 143) = true := by decide +kernel
theorem ab_k144_0 : ab_c144_0.all (ab_ch 144) = true := by decide +kernel
theorem ab_k145_0 : ab_c145_0.all (ab_ch 145) = true := by decide +kernel
theorem ab_k146_0 : ab_c146_0.all (ab_ch 146) = true := by decide +kernel
theorem ab_k147_0 : ab_c147_0.all (ab_ch 147) = true := by decide +kernel
theorem ab_k148_0 : ab_c148_0.all (ab_ch 148) = true := by decide +kernel
theorem ab_k149_0 : ab_c149_0.all (ab_ch 149) = true := by decide +kernel
theorem ab_k150_0 : ab_c150_0.all (ab_ch 150) = true := by decide +kernel
theorem ab_k151_0 : ab_c151_0.all (ab_ch 151) = true := by decide +kernel
theorem ab_k151_1 : ab_c151_1.all (ab_ch 151) = true := by decide +kernel
theorem ab_k152_0 : ab_c152_0.all (ab_ch 152) = true := by decide +kernel
theorem ab_k153_0 : ab_c153_0.all (ab_ch 153) = true := by decide +kernel
theorem ab_k154_0 : ab_c154_0.all (ab_ch 154) = true := by decide +kernel
theorem ab_k155_0 : ab_c155_0.all (ab_ch 155) = true := by decide +kernel
theorem ab_k156_0 : ab_c156_0.all (ab_ch 156) = true := by decide +kernel
theorem ab_k157_0 : ab_c157_0.all (ab_ch 157) = true := by decide +kernel
theorem ab_k158_0 : ab_c158_0.all (ab_ch 158) = true := by decide +kernel
theorem ab_k159_0 : ab_c159_0.all (ab_ch 159) = true := by decide +kernel
theorem ab_k160_0 : ab_c160_0.all (ab_ch 160) = true := by decide +kernel
theorem ab_k161_0 : ab_c161_0.all (ab_ch 161) = true := by decide +kernel
theorem ab_k162_0 : ab_c162_0.all (ab_ch 162) = true := by decide +kernel
theorem ab_k163_0 : ab_c163_0.all (ab_ch 163) = true := by decide +kernel
theorem ab_k164_0 : ab_c164_0.all (ab_ch 164) = true := by decide +kernel
theorem ab_k165_0 : ab_c165_0.all (ab_ch 165) = true := by decide +kernel
theorem ab_k166_0 : ab_c166_0.all (ab_ch 166) = true := by decide +kernel
theorem ab_k167_0 : ab_c167_0.all (ab_ch 167) = true := by decide +kernel
theorem ab_k168_0 : ab_c168_0.all (ab_ch 168) = true := by decide +kernel
theorem ab_k169_0 : ab_c169_0.all (ab_ch 169) = true := by decide +kernel
theorem ab_k170_0 : ab_c170_0.all (ab_ch 170) = true := by decide +kernel
theorem ab_k170_1 : ab_c170_1.all (ab_ch 170) = true := by decide +kernel
theorem ab_k170_2 : ab_c170_2.all (ab_ch 170) = true := by decide +kernel
theorem ab_k170_3 : ab_c170_3.all (ab_ch 170) = true := by decide +kernel
theorem ab_k170_4 : ab_c170_4.all (ab_ch 170) = true := by decide +kernel
theorem ab_k170_5 : ab_c170_5.all (ab_ch 170) = true := by decide +kernel
theorem ab_k170_6 : ab_c170_6.all (ab_ch 170) = true := by decide +kernel
theorem ab_k170_7 : ab_c170_7.all (ab_ch 170) = true := by decide +kernel
theorem ab_k170_8 : ab_c170_8.all (ab_ch 170) = true := by decide +kernel
theorem ab_k170_9 : ab_c170_9.all (ab_ch 170) = true := by decide +kernel
theorem ab_k170_10 : ab_c170_10.all (ab_ch 170) = true := by decide +kernel
theorem ab_k170_11 : ab_c170_11.all (ab_ch 170) = true := by decide +kernel
theorem ab_k170_12 : ab_c170_12.all (ab_ch 170) = true := by decide +kernel
theorem ab_k170_13 : ab_c170_13.all (ab_ch 170) = true := by decide +kernel
theorem ab_k170_14 : ab_c170_14.all (ab_ch 170) = true := by decide +kernel
theorem ab_k0 : ab_cl0.all (ab_ch 0) = true := by
  simp only [ab_cl0, List.all_append, ab_k0_0, Bool.and_self]
theorem ab_k1 : ab_cl1.all (ab_ch 1) = true := by
  simp only [ab_cl1, List.all_append, ab_k1_0, Bool.and_self]
theorem ab_k2 : ab_cl2.all (ab_ch 2) = true := by
  simp only [ab_cl2, List.all_append, ab_k2_0, Bool.and_self]
theorem ab_k3 : ab_cl3.all (ab_ch 3) = true := by
  simp only [ab_cl3, List.all_append, ab_k3_0, Bool.and_self]
theorem ab_k4 : ab_cl4.all (ab_ch 4) = true := by
  simp only [ab_cl4, List.all_append, ab_k4_0, Bool.and_self]
theorem ab_k5 : ab_cl5.all (ab_ch 5) = true := by
  simp only [ab_cl5, List.all_append, ab_k5_0, Bool.and_self]
theorem ab_k6 : ab_cl6.all (ab_ch 6) = true := by
  simp only [ab_cl6, List.all_append, ab_k6_0, Bool.and_self]
theorem ab_k7 : ab_cl7.all (ab_ch 7) = true := by
  simp only [ab_cl7, List.all_append, ab_k7_0, Bool.and_self]
theorem ab_k8 : ab_cl8.all (ab_ch 8) = true := by
  simp only [ab_cl8, List.all_append, ab_k8_0, Bool.and_self]
theorem ab_k9 : ab_cl9.all (ab_ch 9) = true := by
  simp only [ab_cl9, List.all_append, ab_k9_0, Bool.and_self]
theorem ab_k10 : ab_cl10.all (ab_ch 10) = true := by
  simp only [ab_cl10, List.all_append, ab_k10_0, Bool.and_self]
theorem ab_k11 : ab_cl11.all (ab_ch 11) = true := by
  simp only [ab_cl11, List.all_append, ab_k11_0, Bool.and_self]
theorem ab_k12 : ab_cl12.all (ab_ch 12) = true := by
  simp only [ab_cl12, List.all_append, ab_k12_0, Bool.and_self]
theorem ab_k13 : ab_cl13.all (ab_ch 13) = true := by
  simp only [ab_cl13, List.all_append, ab_k13_0, Bool.and_self]
theorem ab_k14 : ab_cl14.all (ab_ch 14) = true := by
  simp only [ab_cl14, List.all_append, ab_k14_0, Bool.and_self]
theorem ab_k15 : ab_cl15.all (ab_ch 15) = true := by
  simp only [ab_cl15, List.all_append, ab_k15_0, Bool.and_self]
theorem ab_k16 : ab_cl16.all (ab_ch 16) = true := by
  simp only [ab_cl16, List.all_append, ab_k16_0, Bool.and_self]
theorem ab_k17 : ab_cl17.all (ab_ch 17) = true := by
  simp only [ab_cl17, List.all_append, ab_k17_0, Bool.and_self]
theorem ab_k18 : ab_cl18.all (ab_ch 18) = true := by
  simp only [ab_cl18, List.all_append, ab_k18_0, Bool.and_self]
theorem ab_k19 : ab_cl19.all (ab_ch 19) = true := by
  simp only [ab_cl19, List.all_append, ab_k19_0, Bool.and_self]
theorem ab_k20 : ab_cl20.all (ab_ch 20) = true := by
  simp only [ab_cl20, List.all_append, ab_k20_0, Bool.and_self]
theorem ab_k21 : ab_cl21.all (ab_ch 21) = true := by
  simp only [ab_cl21, List.all_append, ab_k21_0, Bool.and_self]
theorem ab_k22 : ab_cl22.all (ab_ch 22) = true := by
  simp only [ab_cl22, List.all_append, ab_k22_0, Bool.and_self]
theorem ab_k23 : ab_cl23.all (ab_ch 23) = true := by
  simp only [ab_cl23, List.all_append, ab_k23_0, Bool.and_self]
theorem ab_k24 : ab_cl24.all (ab_ch 24) = true := by
  simp only [ab_cl24, List.all_append, ab_k24_0, Bool.and_self]
theorem ab_k25 : ab_cl25.all (ab_ch 25) = true := by
  simp only [ab_cl25, List.all_append, ab_k25_0, Bool.and_self]
theorem ab_k26 : ab_cl26.all (ab_ch 26) = true := by
  simp only [ab_cl26, List.all_append, ab_k26_0, Bool.and_self]
theorem ab_k27 : ab_cl27.all (ab_ch 27) = true := by
  simp only [ab_cl27, List.all_append, ab_k27_0, Bool.and_self]
theorem ab_k28 : ab_cl28.all (ab_ch 28) = true := by
  simp only [ab_cl28, List.all_append, ab_k28_0, Bool.and_self]
theorem ab_k29 : ab_cl29.all (ab_ch 29) = true := by
  simp only [ab_cl29, List.all_append, ab_k29_0, ab_k29_1, Bool.and_self]
theorem ab_k30 : ab_cl30.all (ab_ch 30) = true := by
  simp only [ab_cl30, List.all_append, ab_k30_0, Bool.and_self]
theorem ab_k31 : ab_cl31.all (ab_ch 31) = true := by
  simp only [ab_cl31, List.all_append, ab_k31_0, Bool.and_self]
theorem ab_k32 : ab_cl32.all (ab_ch 32) = true := by
  simp only [ab_cl32, List.all_append, ab_k32_0, Bool.and_self]
theorem ab_k33 : ab_cl33.all (ab_ch 33) = true := by
  simp only [ab_cl33, List.all_append, ab_k33_0, Bool.and_self]
theorem ab_k34 : ab_cl34.all (ab_ch 34) = true := by
  simp only [ab_cl34, List.all_append, ab_k34_0, Bool.and_self]
theorem ab_k35 : ab_cl35.all (ab_ch 35) = true := by
  simp only [ab_cl35, List.all_append, ab_k35_0, Bool.and_self]
theorem ab_k36 : ab_cl36.all (ab_ch 36) = true := by
  simp only [ab_cl36, List.all_append, ab_k36_0, Bool.and_self]
theorem ab_k37 : ab_cl37.all (ab_ch 37) = true := by
  simp only [ab_cl37, List.all_append, ab_k37_0, Bool.and_self]
theorem ab_k38 : ab_cl38.all (ab_ch 38) = true := by
  simp only [ab_cl38, List.all_append, ab_k38_0, ab_k38_1, Bool.and_self]
theorem ab_k39 : ab_cl39.all (ab_ch 39) = true := by
  simp only [ab_cl39, List.all_append, ab_k39_0, Bool.and_self]
theorem ab_k40 : ab_cl40.all (ab_ch 40) = true := by
  simp only [ab_cl40, List.all_append, ab_k40_0, Bool.and_self]
theorem ab_k41 : ab_cl41.all (ab_ch 41) = true := by
  simp only [ab_cl41, List.all_append, ab_k41_0, Bool.and_self]
theorem ab_k42 : ab_cl42.all (ab_ch 42) = true := by
  simp only [ab_cl42, List.all_append, ab_k42_0, Bool.and_self]
theorem ab_k43 : ab_cl43.all (ab_ch 43) = true := by
  simp only [ab_cl43, List.all_append, ab_k43_0, Bool.and_self]
theorem ab_k44 : ab_cl44.all (ab_ch 44) = true := by
  simp only [ab_cl44, List.all_append, ab_k44_0, Bool.and_self]
theorem ab_k45 : ab_cl45.all (ab_ch 45) = true := by
  simp only [ab_cl45, List.all_append, ab_k45_0, Bool.and_self]
theorem ab_k46 : ab_cl46.all (ab_ch 46) = true := by
  simp only [ab_cl46, List.all_append, ab_k46_0, ab_k46_1, Bool.and_self]
theorem ab_k47 : ab_cl47.all (ab_ch 47) = true := by
  simp only [ab_cl47, List.all_append, ab_k47_0, Bool.and_self]
theorem ab_k48 : ab_cl48.all (ab_ch 48) = true := by
  simp only [ab_cl48, List.all_append, ab_k48_0, Bool.and_self]
theorem ab_k49 : ab_cl49.all (ab_ch 49) = true := by
  simp only [ab_cl49, List.all_append, ab_k49_0, Bool.and_self]
theorem ab_k50 : ab_cl50.all (ab_ch 50) = true := by
  simp only [ab_cl50, List.all_append, ab_k50_0, Bool.and_self]
theorem ab_k51 : ab_cl51.all (ab_ch 51) = true := by
  simp only [ab_cl51, List.all_append, ab_k51_0, Bool.and_self]
theorem ab_k52 : ab_cl52.all (ab_ch 52) = true := by
  simp only [ab_cl52, List.all_append, ab_k52_0, Bool.and_self]
theorem ab_k53 : ab_cl53.all (ab_ch 53) = true := by
  simp only [ab_cl53, List.all_append, ab_k53_0, Bool.and_self]
theorem ab_k54 : ab_cl54.all (ab_ch 54) = true := by
  simp only [ab_cl54, List.all_append, ab_k54_0, Bool.and_self]
theorem ab_k55 : ab_cl55.all (ab_ch 55) = true := by
  simp only [ab_cl55, List.all_append, ab_k55_0, Bool.and_self]
theorem ab_k56 : ab_cl56.all (ab_ch 56) = true := by
  simp only [ab_cl56, List.all_append, ab_k56_0, Bool.and_self]
theorem ab_k57 : ab_cl57.all (ab_ch 57) = true := by
  simp only [ab_cl57, List.all_append, ab_k57_0, Bool.and_self]
theorem ab_k58 : ab_cl58.all (ab_ch 58) = true := by
  simp only [ab_cl58, List.all_append, ab_k58_0, Bool.and_self]
theorem ab_k59 : ab_cl59.all (ab_ch 59) = true := by
  simp only [ab_cl59, List.all_append, ab_k59_0, Bool.and_self]
theorem ab_k60 : ab_cl60.all (ab_ch 60) = true := by
  simp only [ab_cl60, List.all_append, ab_k60_0, Bool.and_self]
theorem ab_k61 : ab_cl61.all (ab_ch 61) = true := by
  simp only [ab_cl61, List.all_append, ab_k61_0, Bool.and_self]
theorem ab_k62 : ab_cl62.all (ab_ch 62) = true := by
  simp only [ab_cl62, List.all_append, ab_k62_0, Bool.and_self]
theorem ab_k63 : ab_cl63.all (ab_ch 63) = true := by
  simp only [ab_cl63, List.all_append, ab_k63_0, Bool.and_self]
theorem ab_k64 : ab_cl64.all (ab_ch 64) = true := by
  simp only [ab_cl64, List.all_append, ab_k64_0, Bool.and_self]
theorem ab_k65 : ab_cl65.all (ab_ch 65) = true := by
  simp only [ab_cl65, List.all_append, ab_k65_0, Bool.and_self]
theorem ab_k66 : ab_cl66.all (ab_ch 66) = true := by
  simp only [ab_cl66, List.all_append, ab_k66_0, Bool.and_self]
theorem ab_k67 : ab_cl67.all (ab_ch 67) = true := by
  simp only [ab_cl67, List.all_append, ab_k67_0, Bool.and_self]
theorem ab_k68 : ab_cl68.all (ab_ch 68) = true := by
  simp only [ab_cl68, List.all_append, ab_k68_0, Bool.and_self]
theorem ab_k69 : ab_cl69.all (ab_ch 69) = true := by
  simp only [ab_cl69, List.all_append, ab_k69_0, Bool.and_self]
theorem ab_k70 : ab_cl70.all (ab_ch 70) = true := by
  simp only [ab_cl70, List.all_append, ab_k70_0, Bool.and_self]
theorem ab_k71 : ab_cl71.all (ab_ch 71) = true := by
  simp only [ab_cl71, List.all_append, ab_k71_0, Bool.and_self]
theorem ab_k72 : ab_cl72.all (ab_ch 72) = true := by
  simp only [ab_cl72, List.all_append, ab_k72_0, ab_k72_1, Bool.and_self]
theorem ab_k73 : ab_cl73.all (ab_ch 73) = true := by
  simp only [ab_cl73, List.all_append, ab_k73_0, Bool.and_self]
theorem ab_k74 : ab_cl74.all (ab_ch 74) = true := by
  simp only [ab_cl74, List.all_append, ab_k74_0, Bool.and_self]
theorem ab_k75 : ab_cl75.all (ab_ch 75) = true := by
  simp only [ab_cl75, List.all_append, ab_k75_0, ab_k75_1, Bool.and_self]
theorem ab_k76 : ab_cl76.all (ab_ch 76) = true := by
  simp only [ab_cl76, List.all_append, ab_k76_0, Bool.and_self]
theorem ab_k77 : ab_cl77.all (ab_ch 77) = true := by
  simp only [ab_cl77, List.all_append, ab_k77_0, Bool.and_self]
theorem ab_k78 : ab_cl78.all (ab_ch 78) = true := by
  simp only [ab_cl78, List.all_append, ab_k78_0, Bool.and_self]
theorem ab_k79 : ab_cl79.all (ab_ch 79) = true := by
  simp only [ab_cl79, List.all_append, ab_k79_0, Bool.and_self]
theorem ab_k80 : ab_cl80.all (ab_ch 80) = true := by
  simp only [ab_cl80, List.all_append, ab_k80_0, Bool.and_self]
theorem ab_k81 : ab_cl81.all (ab_ch 81) = true := by
  simp only [ab_cl81, List.all_append, ab_k81_0, Bool.and_self]
theorem ab_k82 : ab_cl82.all (ab_ch 82) = true := by
  simp only [ab_cl82, List.all_append, ab_k82_0, Bool.and_self]
theorem ab_k83 : ab_cl83.all (ab_ch 83) = true := by
  simp only [ab_cl83, List.all_append, ab_k83_0, Bool.and_self]
theorem ab_k84 : ab_cl84.all (ab_ch 84) = true := by
  simp only [ab_cl84, List.all_append, ab_k84_0, Bool.and_self]
theorem ab_k85 : ab_cl85.all (ab_ch 85) = true := by
  simp only [ab_cl85, List.all_append, ab_k85_0, Bool.and_self]
theorem ab_k86 : ab_cl86.all (ab_ch 86) = true := by
  simp only [ab_cl86, List.all_append, ab_k86_0, Bool.and_self]
theorem ab_k87 : ab_cl87.all (ab_ch 87) = true := by
  simp only [ab_cl87, List.all_append, ab_k87_0, Bool.and_self]
theorem ab_k88 : ab_cl88.all (ab_ch 88) = true := by
  simp only [ab_cl88, List.all_append, ab_k88_0, Bool.and_self]
theorem ab_k89 : ab_cl89.all (ab_ch 89) = true := by
  simp only [ab_cl89, List.all_append, ab_k89_0, Bool.and_self]
theorem ab_k90 : ab_cl90.all (ab_ch 90) = true := by
  simp only [ab_cl90, List.all_append, ab_k90_0, Bool.and_self]
theorem ab_k91 : ab_cl91.all (ab_ch 91) = true := by
  simp only [ab_cl91, List.all_append, ab_k91_0, Bool.and_self]
theorem ab_k92 : ab_cl92.all (ab_ch 92) = true := by
  simp only [ab_cl92, List.all_append, ab_k92_0, Bool.and_self]
theorem ab_k93 : ab_cl93.all (ab_ch 93) = true := by
  simp only [ab_cl93, List.all_append, ab_k93_0, Bool.and_self]
theorem ab_k94 : ab_cl94.all (ab_ch 94) = true := by
  simp only [ab_cl94, List.all_append, ab_k94_0, Bool.and_self]
theorem ab_k95 : ab_cl95.all (ab_ch 95) = true := by
  simp only [ab_cl95, List.all_append, ab_k95_0, Bool.and_self]
theorem ab_k96 : ab_cl96.all (ab_ch 96) = true := by
  simp only [ab_cl96, List.all_append, ab_k96_0, Bool.and_self]
theorem ab_k97 : ab_cl97.all (ab_ch 97) = true := by
  simp only [ab_cl97, List.all_append, ab_k97_0, Bool.and_self]
theorem ab_k98 : ab_cl98.all (ab_ch 98) = true := by
  simp only [ab_cl98, List.all_append, ab_k98_0, Bool.and_self]
theorem ab_k99 : ab_cl99.all (ab_ch 99) = true := by
  simp only [ab_cl99, List.all_append, ab_k99_0, Bool.and_self]
theorem ab_k100 : ab_cl100.all (ab_ch 100) = true := by
  simp only [ab_cl100, List.all_append, ab_k100_0, Bool.and_self]
theorem ab_k101 : ab_cl101.all (ab_ch 101) = true := by
  simp only [ab_cl101, List.all_append, ab_k101_0, Bool.and_self]
theorem ab_k102 : ab_cl102.all (ab_ch 102) = true := by
  simp only [ab_cl102, List.all_append, ab_k102_0, ab_k102_1, Bool.and_self]
theorem ab_k103 : ab_cl103.all (ab_ch 103) = true := by
  simp only [ab_cl103, List.all_append, ab_k103_0, Bool.and_self]
theorem ab_k104 : ab_cl104.all (ab_ch 104) = true := by
  simp only [ab_cl104, List.all_append, ab_k104_0, Bool.and_self]
theorem ab_k105 : ab_cl105.all (ab_ch 105) = true := by
  simp only [ab_cl105, List.all_append, ab_k105_0, Bool.and_self]
theorem ab_k106 : ab_cl106.all (ab_ch 106) = true := by
  simp only [ab_cl106, List.all_append, ab_k106_0, Bool.and_self]
theorem ab_k107 : ab_cl107.all (ab_ch 107) = true := by
  simp only [ab_cl107, List.all_append, ab_k107_0, ab_k107_1, ab_k107_2, Bool.and_self]
theorem ab_k108 : ab_cl108.all (ab_ch 108) = true := by
  simp only [ab_cl108, List.all_append, ab_k108_0, Bool.and_self]
theorem ab_k109 : ab_cl109.all (ab_ch 109) = true := by
  simp only [ab_cl109, List.all_append, ab_k109_0, Bool.and_self]
theorem ab_k110 : ab_cl110.all (ab_ch 110) = true := by
  simp only [ab_cl110, List.all_append, ab_k110_0, ab_k110_1, Bool.and_self]
theorem ab_k111 : ab_cl111.all (ab_ch 111) = true := by
  simp only [ab_cl111, List.all_append, ab_k111_0, Bool.and_self]
theorem ab_k112 : ab_cl112.all (ab_ch 112) = true := by
  simp only [ab_cl112, List.all_append, ab_k112_0, Bool.and_self]
theorem ab_k113 : ab_cl113.all (ab_ch 113) = true := by
  simp only [ab_cl113, List.all_append, ab_k113_0, Bool.and_self]
theorem ab_k114 : ab_cl114.all (ab_ch 114) = true := by
  simp only [ab_cl114, List.all_append, ab_k114_0, Bool.and_self]
theorem ab_k115 : ab_cl115.all (ab_ch 115) = true := by
  simp only [ab_cl115, List.all_append, ab_k115_0, Bool.and_self]
theorem ab_k116 : ab_cl116.all (ab_ch 116) = true := by
  simp only [ab_cl116, List.all_append, ab_k116_0, Bool.and_self]
theorem ab_k117 : ab_cl117.all (ab_ch 117) = true := by
  simp only [ab_cl117, List.all_append, ab_k117_0, Bool.and_self]
theorem ab_k118 : ab_cl118.all (ab_ch 118) = true := by
  simp only [ab_cl118, List.all_append, ab_k118_0, ab_k118_1, Bool.and_self]
theorem ab_k119 : ab_cl119.all (ab_ch 119) = true := by
  simp only [ab_cl119, List.all_append, ab_k119_0, Bool.and_self]
theorem ab_k120 : ab_cl120.all (ab_ch 120) = true := by
  simp only [ab_cl120, List.all_append, ab_k120_0, Bool.and_self]
theorem ab_k121 : ab_cl121.all (ab_ch 121) = true := by
  simp only [ab_cl121, List.all_append, ab_k121_0, Bool.and_self]
theorem ab_k122 : ab_cl122.all (ab_ch 122) = true := by
  simp only [ab_cl122, List.all_append, ab_k122_0, Bool.and_self]
theorem ab_k123 : ab_cl123.all (ab_ch 123) = true := by
  simp only [ab_cl123, List.all_append, ab_k123_0, Bool.and_self]
theorem ab_k124 : ab_cl124.all (ab_ch 124) = true := by
  simp only [ab_cl124, List.all_append, ab_k124_0, ab_k124_1, Bool.and_self]
theorem ab_k125 : ab_cl125.all (ab_ch 125) = true := by
  simp only [ab_cl125, List.all_append, ab_k125_0, Bool.and_self]
theorem ab_k126 : ab_cl126.all (ab_ch 126) = true := by
  simp only [ab_cl126, List.all_append, ab_k126_0, Bool.and_self]
theorem ab_k127 : ab_cl127.all (ab_ch 127) = true := by
  simp only [ab_cl127, List.all_append, ab_k127_0, Bool.and_self]
theorem ab_k128 : ab_cl128.all (ab_ch 128) = true := by
  simp only [ab_cl128, List.all_append, ab_k128_0, Bool.and_self]
theorem ab_k129 : ab_cl129.all (ab_ch 129) = true := by
  simp only [ab_cl129, List.all_append, ab_k129_0, Bool.and_self]
theorem ab_k130 : ab_cl130.all (ab_ch 130) = true := by
  simp only [ab_cl130, List.all_append, ab_k130_0, Bool.and_self]
theorem ab_k131 : ab_cl131.all (ab_ch 131) = true := by
  simp only [ab_cl131, List.all_append, ab_k131_0, Bool.and_self]
theorem ab_k132 : ab_cl132.all (ab_ch 132) = true := by
  simp only [ab_cl132, List.all_append, ab_k132_0, Bool.and_self]
theorem ab_k133 : ab_cl133.all (ab_ch 133) = true := by
  simp only [ab_cl133, List.all_append, ab_k133_0, Bool.and_self]
theorem ab_k134 : ab_cl134.all (ab_ch 134) = true := by
  simp only [ab_cl134, List.all_append, ab_k134_0, Bool.and_self]
theorem ab_k135 : ab_cl135.all (ab_ch 135) = true := by
  simp only [ab_cl135, List.all_append, ab_k135_0, Bool.and_self]
theorem ab_k136 : ab_cl136.all (ab_ch 136) = true := by
  simp only [ab_cl136, List.all_append, ab_k136_0, ab_k136_1, Bool.and_self]
theorem ab_k137 : ab_cl137.all (ab_ch 137) = true := by
  simp only [ab_cl137, List.all_append, ab_k137_0, Bool.and_self]
theorem ab_k138 : ab_cl138.all (ab_ch 138) = true := by
  simp only [ab_cl138, List.all_append, ab_k138_0, ab_k138_1, Bool.and_self]
theorem ab_k139 : ab_cl139.all (ab_ch 139) = true := by
  simp only [ab_cl139, List.all_append, ab_k139_0, Bool.and_self]
theorem ab_k140 : ab_cl140.all (ab_ch 140) = true := by
  simp only [ab_cl140, List.all_append, ab_k140_0, Bool.and_self]
theorem ab_k141 : ab_cl141.all (ab_ch 141) = true := by
  simp only [ab_cl141, List.all_append, ab_k141_0, Bool.and_self]
theorem ab_k142 : ab_cl142.all (ab_ch 142) = true := by
  simp only [ab_cl142, List.all_append, ab_k142_0, Bool.and_self]
theorem ab_k143 : ab_cl143.all (ab_ch 143) = true := by
  simp only [ab_cl143, List.all_append, ab_k143_0, Bool.and_self]
theorem ab_k144 : ab_cl144.all (ab_ch 144) = true := by
  simp only [ab_cl144, List.all_append, ab_k144_0, Bool.and_self]
theorem ab_k145 : ab_cl145.all (ab_ch 145) = true := by
  simp only [ab_cl145, List.all_append, ab_k145_0, Bool.and_self]
theorem ab_k146 : ab_cl146.all (ab_ch 146) = true := by
  simp only [ab_cl146, List.all_append, ab_k146_0, Bool.and_self]
theorem ab_k147 : ab_cl147.all (ab_ch 147) = true := by
  simp only [ab_cl147, List.all_append, ab_k147_0, Bool.and_self]
theorem ab_k148 : ab_cl148.all (ab_ch 148) = true := by
  simp only [ab_cl148, List.all_append, ab_k148_0, Bool.and_self]
theorem ab_k149 : ab_cl149.all (ab_ch 149) = true := by
  simp only [ab_cl149, List.all_append, ab_k149_0, Bool.and_self]
theorem ab_k150 : ab_cl150.all (ab_ch 150) = true := by
  simp only [ab_cl150, List.all_append, ab_k150_0, Bool.and_self]
theorem ab_k151 : ab_cl151.all (ab_ch 151) = true := by
  simp only [ab_cl151, List.all_append, ab_k151_0, ab_k151_1, Bool.and_self]
theorem ab_k152 : ab_cl152.all (ab_ch 152) = true := by
  simp only [ab_cl152, List.all_append, ab_k152_0, Bool.and_self]
theorem ab_k153 : ab_cl153.all (ab_ch 153) = true := by
  simp only [ab_cl153, List.all_append, ab_k153_0, Bool.and_self]
theorem ab_k154 : ab_cl154.all (ab_ch 154) = true := by
  simp only [ab_cl154, List.all_append, ab_k154_0, Bool.and_self]
theorem ab_k155 : ab_cl155.all (ab_ch 155) = true := by
  simp only [ab_cl155, List.all_append, ab_k155_0, Bool.and_self]
theorem ab_k156 : ab_cl156.all (ab_ch 156) = true := by
  simp only [ab_cl156, List.all_append, ab_k156_0, Bool.and_self]
theorem ab_k157 : ab_cl157.all (ab_ch 157) = true := by
  simp only [ab_cl157, List.all_append, ab_k157_0, Bool.and_self]
theorem ab_k158 : ab_cl158.all (ab_ch 158) = true := by
  simp only [ab_cl158, List.all_append, ab_k158_0, Bool.and_self]
theorem ab_k159 : ab_cl159.all (ab_ch 159) = true := by
  simp only [ab_cl159, List.all_append, ab_k159_0, Bool.and_self]
theorem ab_k160 : ab_cl160.all (ab_ch 160) = true := by
  simp only [ab_cl160, List.all_append, ab_k160_0, Bool.and_self]
theorem ab_k161 : ab_cl161.all (ab_ch 161) = true := by
  simp only [ab_cl161, List.all_append, ab_k161_0, Bool.and_self]
theorem ab_k162 : ab_cl162.all (ab_ch 162) = true := by
  simp only [ab_cl162, List.all_append, ab_k162_0, Bool.and_self]
theorem ab_k163 : ab_cl163.all (ab_ch 163) = true := by
  simp only [ab_cl163, List.all_append, ab_k163_0, Bool.and_self]
theorem ab_k164 : ab_cl164.all (ab_ch 164) = true := by
  simp only [ab_cl164, List.all_append, ab_k164_0, Bool.and_self]
theorem ab_k165 : ab_cl165.all (ab_ch 165) = true := by
  simp only [ab_cl165, List.all_append, ab_k165_0, Bool.and_self]
theorem ab_k166 : ab_cl166.all (ab_ch 166) = true := by
  simp only [ab_cl166, List.all_append, ab_k166_0, Bool.and_self]
theorem ab_k167 : ab_cl167.all (ab_ch 167) = true := by
  simp only [ab_cl167, List.all_append, ab_k167_0, Bool.and_self]
theorem ab_k168 : ab_cl168.all (ab_ch 168) = true := by
  simp only [ab_cl168, List.all_append, ab_k168_0, Bool.and_self]
theorem ab_k169 : ab_cl169.all (ab_ch 169) = true := by
  simp only [ab_cl169, List.all_append, ab_k169_0, Bool.and_self]
theorem ab_k170 : ab_cl170.all (ab_ch 170) = true := by
  simp only [ab_cl170, List.all_append, ab_k170_0, ab_k170_1, ab_k170_2, ab_k170_3, ab_k170_4, ab_k170_5, ab_k170_6, ab_k170_7, ab_k170_8, ab_k170_9, ab_k170_10, ab_k170_11, ab_k170_12, ab_k170_13, ab_k170_14, Bool.and_self]
