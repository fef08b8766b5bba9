/-! What is checked of the tables of parts 03 and 04, once, by evaluation. -/
def ab_gw : List Jvm.Cond := lw_tbl.filter goodWord
def ab_ok (i : Nat) (w : Jvm.Cond) : Bool := decide (lw_tbl[i]? = some w) && goodWord w
theorem ab_ok_in {i : Nat} {w : Jvm.Cond} (h : ab_ok i w = true) : w ∈ ab_gw := by
  simp only [ab_ok, Bool.and_eq_true, decide_eq_true_eq] at h
  exact List.mem_filter.mpr ⟨List.mem_of_getElem? h.1, h.2⟩
def ab_ow (k : Nat) : String := (ab_mn k).cls
def ab_CN : Nat → String := fun c => match c with
  | 0 => RX0
  | 1 => RX1
  | 2 => RX2
  | 3 => RX3
  | 4 => RX4
  | 5 => RX5
  | 6 => RX6
  | _ => ""
def ab_T : Nat → u_T := fun c => match c with
  | 0 => TX0
  | 1 => TX1
  | 2 => TX2
  | 3 => TX3
  | 4 => TX4
  | 5 => TX5
  | 6 => TX6
  | _ => TX0
def ab_ty : Nat → (Nat → FieldType) := fun c => match c with
  | 0 => tyX0
  | 1 => tyX1
  | 2 => tyX2
  | 3 => tyX3
  | 4 => tyX4
  | 5 => tyX5
  | 6 => tyX6
  | _ => tyX0
def ab_EN : Nat → String := fun c => match c with
  | 0 => "java/lang/IndexOutOfBoundsException"
  | 1 => "java/lang/IllegalArgumentException"
  | 2 => "java/lang/IllegalStateException"
  | _ => ""
def ab_ik : Nat → Nat := fun c => match c with
  | 0 => 37
  | 1 => 44
  | 2 => 71
  | _ => 0
def ab_ic : Nat → Nat := fun c => match c with
  | 0 => 41
  | 1 => 48
  | 2 => 75
  | _ => 0
def ab_strs : List (Nat × String) := [(39, "there is no such room"), (46, "period or phase is out of range"), (66, "beats is out of range"), (73, "the room would have too many beats to lose"), (76, "same rooms, or size or crossing is out of range"), (81, "there are as many seams as can be"), (103, "value is out of range"), (109, "the queue is full, or all items were put"), (118, "ticks is out of range"), (123, "the number of the tick would be too large"), (163, "there is no saved state"), (168, "what is out of range"), (173, "place or what is out of range"), (185, "there is no such seam"), (192, "ticks or what is out of range"), (200, "there is no such item")]
/-- words that the tables alone decide, handed on one by one -/
def ab_xw : List Jvm.Cond := [.methodLinkNest "SeamBeats$State" 39 ⟨"SeamBeats$Room", "<init>", "()V"⟩ "SeamBeats", .methodLinkNest "SeamBeats$Room" 11 ⟨"SeamBeats$Line", "<init>", "()V"⟩ "SeamBeats", .methodLinkNest "SeamBeats$State" 40 ⟨"SeamBeats$Seam", "<init>", "()V"⟩ "SeamBeats", .methodLinkNest "SeamBeats$Seam" 11 ⟨"SeamBeats$Line", "<init>", "()V"⟩ "SeamBeats", .methodLinkNest "SeamBeats" 28 ⟨"SeamBeats$Text", "<init>", "()V"⟩ "SeamBeats", .castable "java/lang/IndexOutOfBoundsException" "java/lang/IndexOutOfBoundsException", .castable "java/lang/IllegalArgumentException" "java/lang/IllegalArgumentException", .castable "java/lang/IllegalStateException" "java/lang/IllegalStateException"]
def ab_hosts : List (Nat × Nat × String) := [(13, 39, "SeamBeats"), (5, 11, "SeamBeats"), (17, 40, "SeamBeats"), (5, 11, "SeamBeats"), (39, 28, "SeamBeats")]
def ab_ncs : List (String × String) := []
def ab_nms : List String := ["java/lang/RuntimeException", "java/lang/Exception"]
def ab_dec (k pc : Nat) (ins : Instr) (len : Nat) : Bool := match decode (ab_by k) pc with
  | .ok (i, n) => decide (i = ins) && decide (n = len)
  | .error _ => false
theorem ab_dec_spec {k pc len : Nat} {ins : Instr} (h : ab_dec k pc ins len = true) : decode (ab_by k) pc = .ok (ins, len) := by
  unfold ab_dec at h
  split at h
  · rename_i i n e
    simp only [Bool.and_eq_true, decide_eq_true_eq] at h
    rw [e, h.1, h.2]
  · cases h
def ab_host (a idx : Nat) : List (Nat × Nat × String) → String
  | [] => ""
  | (p, q, s) :: t => if p = a ∧ q = idx then s else ab_host a idx t
def ab_codeW (a : Nat) : Jvm.Cond := match ab_hh a with
  | [] => .code (ab_mn a) (ab_by a) (ab_xl a) (ab_rt a)
  | _ => .codeWith (ab_mn a) (ab_by a) (ab_xl a) (ab_rt a) (ab_hh a)
/-- a callee, whatever the call -/
def ab_calA (k a : Nat) (n : Nat) : Bool := decide (a < 93) && ab_ok (ab_wi a).1 (ab_codeW a) && ab_ok (ab_wi a).2.1 (.initialized (ab_mn a).cls) && decide ((ab_mn a).cls ≠ "java/lang/invoke/MethodHandle" ∧ (ab_mn a).cls ≠ "java/lang/invoke/VarHandle") && plainName (ab_mn a).cls && decide ((parseMethodDescriptor (ab_mn a).desc).map (fun d => d.parameters.length) = some n) && decide (ab_fr a + 1 ≤ ab_fr k ∧ 8 + (ab_xl a + 11) + ab_lo a ≤ ab_lo k)
def ab_calV (k idx a b d : Nat) : Bool := ab_calA k a (b - 1) && decide (1 ≤ b) && decide (ab_hh a = []) && ab_ok d (.methodLink (ab_ow k) idx (ab_mn a)) && ab_ok (ab_wi a).2.2.1 (.instanceMethod (ab_mn a)) && ab_ok (ab_wi a).2.2.2 (.selects (ab_mn a).cls (ab_mn a) (ab_mn a)) && decide (ab_ci a < 7) && decide (ab_CN (ab_ci a) = (ab_mn a).cls)
def ab_calS (k idx a b d : Nat) : Bool := ab_calA k a b && ab_ok d (.methodLink (ab_ow k) idx (ab_mn a)) && ab_ok (ab_wi a).2.2.1 (.static (ab_mn a))
def ab_calI (k idx a b c d : Nat) : Bool := ab_calA k a (b - 1) && decide (1 ≤ b) && decide (ab_hh a = []) && decide (ab_rt a = none) && decide ((ab_mn a).name = "<init>") && ab_ok (ab_wi a).2.2.1 (.instanceMethod (ab_mn a)) && (match c with
  | 2 => ab_ok d (.methodLink (ab_ow k) idx (ab_mn a))
  | 3 => decide (Cond.methodLinkNest (ab_ow k) idx (ab_mn a) (ab_host a idx ab_hosts) ∈ ab_xw)
  | _ => false)
def ab_thrC (k pc idx a b : Nat) : Bool := decide (ab_ow k = RX6) && decide (a < 103) && decide (idx = ab_ik (a - 100)) && ab_dec k (pc + 3) .dup 1 && ab_dec k (pc + 4) (.ldc b) 2 && ab_dec k (pc + 6) (.invokespecial (ab_ic (a - 100))) 3 && ab_dec k (pc + 9) .athrow 1 && decide (ab_hh k = []) && decide (6 ≤ ab_fr k ∧ 90 ≤ ab_lo k) && (ab_strs.any fun q => decide (q.1 = b))
def ab_fld (k idx a b c : Nat) : Bool := decide (a < 7) && decide (b < ab_nf a) && ab_ok c (.fieldLink (ab_ow k) idx (ab_T a b).1 (ab_T a b).2.1 (ab_T a b).2.2.1)
def ab_chI (k pc : Nat) (ri : ab_RI) : Bool := match ri with
  | (ins, len, a, b, c, d) => match ins with
    | .iconst _ => decide (len = 1)
    | .bipush _ => decide (len = 2)
    | .sipush _ => decide (len = 3)
    | .lconst _ => decide (len = 1)
    | .dconst _ => decide (len = 1)
    | .aconst_null => decide (len = 1)
    | .ldc2_w idx => decide (len = 3) && (if a = 0 then ab_ok b (.constantLong (ab_ow k) idx (Int64.ofNat c)) else ab_ok b (.constantDouble (ab_ow k) idx (UInt64.ofNat c)))
    | .ldc idx => decide (len = 2) && decide (a = 1) && ab_ok b (.constant (ab_ow k) idx (Int32.ofNat c))
    | .iload _ => decide (len = 2)
    | .iload_n _ => decide (len = 1)
    | .lload _ => decide (len = 2)
    | .lload_n _ => decide (len = 1)
    | .dload _ => decide (len = 2)
    | .dload_n _ => decide (len = 1)
    | .aload _ => decide (len = 2)
    | .aload_n _ => decide (len = 1)
    | .istore i => decide (len = 2) && decide (i < ab_xl k)
    | .istore_n i => decide (len = 1) && decide ((i : Nat) < ab_xl k)
    | .lstore i => decide (len = 2) && decide (i + 1 < ab_xl k)
    | .lstore_n i => decide (len = 1) && decide ((i : Nat) + 1 < ab_xl k)
    | .dstore i => decide (len = 2) && decide (i + 1 < ab_xl k)
    | .dstore_n i => decide (len = 1) && decide ((i : Nat) + 1 < ab_xl k)
    | .astore i => decide (len = 2) && decide (i < ab_xl k)
    | .astore_n i => decide (len = 1) && decide ((i : Nat) < ab_xl k)
    | .iinc i _ => decide (len = 3) && decide (i < ab_xl k)
    | .goto off => decide (len = 3) && decide ((pc : Int) + off = (a : Int))
    | .if_icmp _ off => decide (len = 3) && decide ((pc : Int) + off = (a : Int))
    | .ifCond _ off => decide (len = 3) && decide ((pc : Int) + off = (a : Int))
    | .ifnull off => decide (len = 3) && decide ((pc : Int) + off = (a : Int))
    | .ifnonnull off => decide (len = 3) && decide ((pc : Int) + off = (a : Int))
    | .tableswitch dflt _ _ offs => decide (0 ≤ (pc : Int) + dflt) && offs.toList.all (fun o => decide (0 ≤ (pc : Int) + o))
    | .getfield idx => decide (len = 3) && ab_fld k idx a b c
    | .putfield idx => decide (len = 3) && ab_fld k idx a b c && (if (ab_T a b).2.2.2 = true then decide ((ab_mn k).name = "<init>" ∧ (ab_T a b).1 = ab_ow k) else true)
    | .newarray t => decide (len = 2) && ab_ok b (.arrayClass (newarray.typeOf t)) && (match t with
      | .int => decide (a = 1)
      | .long => decide (a = 2)
      | _ => false)
    | .anewarray idx => decide (len = 3) && decide (3 ≤ a ∧ a ≤ 5) && ab_ok b (.classLink (ab_ow k) idx (ab_CN (ab_ac a)))
    | .new idx => decide (len = 3) && (if 100 ≤ a then ab_thrC k pc idx a b else (decide (a < 7) && ab_ok b (.classLink (ab_ow k) idx (ab_CN a)) && ab_ok c (.instantiable (ab_CN a) (ab_nf a)) && ab_ok d (.initialized (ab_CN a))))
    | .invokevirtual idx => decide (len = 3) && decide (c = 0) && ab_calV k idx a b d
    | .invokestatic idx => decide (len = 3) && decide (c = 1) && ab_calS k idx a b d
    | .invokespecial idx => decide (len = 3) && (if c = 4 then (ab_ok d (.methodLink (ab_ow k) idx Lib.objectInit) && decide (1 ≤ ab_fr k ∧ 20 ≤ ab_lo k)) else ab_calI k idx a b c d)
    | _ => decide (len = 1)
def ab_ch (k : Nat) (q : Nat × ab_RI) : Bool := ab_dec k q.1 q.2.1 q.2.2.1 && ab_chI k q.1 q.2
theorem ab_k0_0 : ab_c0_0.all (ab_ch 0) = true := by decide +kernel
theorem ab_k1_0 : ab_c1_0.all (ab_ch 1) = true := by decide +kernel
theorem ab_k2_0 : ab_c2_0.all (ab_ch 2) = true := by decide +kernel
theorem ab_k3_0 : ab_c3_0.all (ab_ch 3) = true := by decide +kernel
theorem ab_k4_0 : ab_c4_0.all (ab_ch 4) = true := by decide +kernel
theorem ab_k5_0 : ab_c5_0.all (ab_ch 5) = true := by decide +kernel
theorem ab_k6_0 : ab_c6_0.all (ab_ch 6) = true := by decide +kernel
theorem ab_k7_0 : ab_c7_0.all (ab_ch 7) = true := by decide +kernel
theorem ab_k8_0 : ab_c8_0.all (ab_ch 8) = true := by decide +kernel
theorem ab_k9_0 : ab_c9_0.all (ab_ch 9) = true := by decide +kernel
theorem ab_k10_0 : ab_c10_0.all (ab_ch 10) = true := by decide +kernel
theorem ab_k11_0 : ab_c11_0.all (ab_ch 11) = true := by decide +kernel
theorem ab_k12_0 : ab_c12_0.all (ab_ch 12) = true := by decide +kernel
theorem ab_k13_0 : ab_c13_0.all (ab_ch 13) = true := by decide +kernel
theorem ab_k14_0 : ab_c14_0.all (ab_ch 14) = true := by decide +kernel
theorem ab_k15_0 : ab_c15_0.all (ab_ch 15) = true := by decide +kernel
theorem ab_k16_0 : ab_c16_0.all (ab_ch 16) = true := by decide +kernel
theorem ab_k17_0 : ab_c17_0.all (ab_ch 17) = true := by decide +kernel
theorem ab_k18_0 : ab_c18_0.all (ab_ch 18) = true := by decide +kernel
theorem ab_k19_0 : ab_c19_0.all (ab_ch 19) = true := by decide +kernel
theorem ab_k20_0 : ab_c20_0.all (ab_ch 20) = true := by decide +kernel
theorem ab_k21_0 : ab_c21_0.all (ab_ch 21) = true := by decide +kernel
theorem ab_k22_0 : ab_c22_0.all (ab_ch 22) = true := by decide +kernel
theorem ab_k23_0 : ab_c23_0.all (ab_ch 23) = true := by decide +kernel
theorem ab_k24_0 : ab_c24_0.all (ab_ch 24) = true := by decide +kernel
theorem ab_k25_0 : ab_c25_0.all (ab_ch 25) = true := by decide +kernel
theorem ab_k26_0 : ab_c26_0.all (ab_ch 26) = true := by decide +kernel
theorem ab_k27_0 : ab_c27_0.all (ab_ch 27) = true := by decide +kernel
theorem ab_k28_0 : ab_c28_0.all (ab_ch 28) = true := by decide +kernel
theorem ab_k29_0 : ab_c29_0.all (ab_ch 29) = true := by decide +kernel
theorem ab_k29_1 : ab_c29_1.all (ab_ch 29) = true := by decide +kernel
theorem ab_k30_0 : ab_c30_0.all (ab_ch 30) = true := by decide +kernel
theorem ab_k31_0 : ab_c31_0.all (ab_ch 31) = true := by decide +kernel
theorem ab_k32_0 : ab_c32_0.all (ab_ch 32) = true := by decide +kernel
theorem ab_k33_0 : ab_c33_0.all (ab_ch 33) = true := by decide +kernel
theorem ab_k34_0 : ab_c34_0.all (ab_ch 34) = true := by decide +kernel
theorem ab_k35_0 : ab_c35_0.all (ab_ch 35) = true := by decide +kernel
theorem ab_k36_0 : ab_c36_0.all (ab_ch 36) = true := by decide +kernel
theorem ab_k37_0 : ab_c37_0.all (ab_ch 37) = true := by decide +kernel
theorem ab_k38_0 : ab_c38_0.all (ab_ch 38) = true := by decide +kernel
theorem ab_k38_1 : ab_c38_1.all (ab_ch 38) = true := by decide +kernel
theorem ab_k39_0 : ab_c39_0.all (ab_ch 39) = true := by decide +kernel
theorem ab_k40_0 : ab_c40_0.all (ab_ch 40) = true := by decide +kernel
theorem ab_k41_0 : ab_c41_0.all (ab_ch 41) = true := by decide +kernel
theorem ab_k42_0 : ab_c42_0.all (ab_ch 42) = true := by decide +kernel
theorem ab_k43_0 : ab_c43_0.all (ab_ch 43) = true := by decide +kernel
theorem ab_k44_0 : ab_c44_0.all (ab_ch 44) = true := by decide +kernel
theorem ab_k45_0 : ab_c45_0.all (ab_ch 45) = true := by decide +kernel
theorem ab_k46_0 : ab_c46_0.all (ab_ch 46) = true := by decide +kernel
theorem ab_k47_0 : ab_c47_0.all (ab_ch 47) = true := by decide +kernel
theorem ab_k48_0 : ab_c48_0.all (ab_ch 48) = true := by decide +kernel
theorem ab_k49_0 : ab_c49_0.all (ab_ch 49) = true := by decide +kernel
theorem ab_k50_0 : ab_c50_0.all (ab_ch 50) = true := by decide +kernel
theorem ab_k51_0 : ab_c51_0.all (ab_ch 51) = true := by decide +kernel
theorem ab_k52_0 : ab_c52_0.all (ab_ch 52) = true := by decide +kernel
theorem ab_k53_0 : ab_c53_0.all (ab_ch 53) = true := by decide +kernel
theorem ab_k54_0 : ab_c54_0.all (ab_ch 54) = true := by decide +kernel
theorem ab_k55_0 : ab_c55_0.all (ab_ch 55) = true := by decide +kernel
theorem ab_k56_0 : ab_c56_0.all (ab_ch 56) = true := by decide +kernel
theorem ab_k57_0 : ab_c57_0.all (ab_ch 57) = true := by decide +kernel
theorem ab_k58_0 : ab_c58_0.all (ab_ch 58) = true := by decide +kernel
theorem ab_k59_0 : ab_c59_0.all (ab_ch 59) = true := by decide +kernel
theorem ab_k60_0 : ab_c60_0.all (ab_ch 60) = true := by decide +kernel
theorem ab_k61_0 : ab_c61_0.all (ab_ch 61) = true := by decide +kernel
theorem ab_k62_0 : ab_c62_0.all (ab_ch 62) = true := by decide +kernel
theorem ab_k63_0 : ab_c63_0.all (ab_ch 63) = true := by decide +kernel
theorem ab_k64_0 : ab_c64_0.all (ab_ch 64) = true := by decide +kernel
theorem ab_k65_0 : ab_c65_0.all (ab_ch 65) = true := by decide +kernel
theorem ab_k66_0 : ab_c66_0.all (ab_ch 66) = true := by decide +kernel
theorem ab_k67_0 : ab_c67_0.all (ab_ch 67) = true := by decide +kernel
theorem ab_k68_0 : ab_c68_0.all (ab_ch 68) = true := by decide +kernel
theorem ab_k69_0 : ab_c69_0.all (ab_ch 69) = true := by decide +kernel
theorem ab_k70_0 : ab_c70_0.all (ab_ch 70) = true := by decide +kernel
theorem ab_k71_0 : ab_c71_0.all (ab_ch 71) = true := by decide +kernel
theorem ab_k72_0 : ab_c72_0.all (ab_ch 72) = true := by decide +kernel
theorem ab_k73_0 : ab_c73_0.all (ab_ch 73) = true := by decide +kernel
theorem ab_k74_0 : ab_c74_0.all (ab_ch 74) = true := by decide +kernel
theorem ab_k75_0 : ab_c75_0.all (ab_ch 75) = true := by decide +kernel
theorem ab_k76_0 : ab_c76_0.all (ab_ch 76) = true := by decide +kernel
theorem ab_k77_0 : ab_c77_0.all (ab_ch 77) = true := by decide +kernel
theorem ab_k78_0 : ab_c78_0.all (ab_ch 78) = true := by decide +kernel
theorem ab_k79_0 : ab_c79_0.all (ab_ch 79) = true := by decide +kernel
theorem ab_k80_0 : ab_c80_0.all (ab_ch 80) = true := by decide +kernel
theorem ab_k81_0 : ab_c81_0.all (ab_ch 81) = true := by decide +kernel
theorem ab_k82_0 : ab_c82_0.all (ab_ch 82) = true := by decide +kernel
theorem ab_k83_0 : ab_c83_0.all (ab_ch 83) = true := by decide +kernel
theorem ab_k84_0 : ab_c84_0.all (ab_ch 84) = true := by decide +kernel
theorem ab_k85_0 : ab_c85_0.all (ab_ch 85) = true := by decide +kernel
theorem ab_k86_0 : ab_c86_0.all (ab_ch 86) = true := by decide +kernel
theorem ab_k87_0 : ab_c87_0.all (ab_ch 87) = true := by decide +kernel
theorem ab_k87_1 : ab_c87_1.all (ab_ch 87) = true := by decide +kernel
theorem ab_k87_2 : ab_c87_2.all (ab_ch 87) = true := by decide +kernel
theorem ab_k88_0 : ab_c88_0.all (ab_ch 88) = true := by decide +kernel
theorem ab_k89_0 : ab_c89_0.all (ab_ch 89) = true := by decide +kernel
theorem ab_k89_1 : ab_c89_1.all (ab_ch 89) = true := by decide +kernel
theorem ab_k89_2 : ab_c89_2.all (ab_ch 89) = true := by decide +kernel
theorem ab_k89_3 : ab_c89_3.all (ab_ch 89) = true := by decide +kernel
theorem ab_k89_4 : ab_c89_4.all (ab_ch 89) = true := by decide +kernel
theorem ab_k90_0 : ab_c90_0.all (ab_ch 90) = true := by decide +kernel
theorem ab_k90_1 : ab_c90_1.all (ab_ch 90) = true := by decide +kernel
theorem ab_k91_0 : ab_c91_0.all (ab_ch 91) = true := by decide +kernel
theorem ab_k91_1 : ab_c91_1.all (ab_ch 91) = true := by decide +kernel
theorem ab_k91_2 : ab_c91_2.all (ab_ch 91) = true := by decide +kernel
theorem ab_k92_0 : ab_c92_0.all (ab_ch 92) = true := by decide +kernel
theorem ab_k92_1 : ab_c92_1.all (ab_ch 92) = true := by decide +kernel
theorem ab_k93_0 : ab_c93_0.all (ab_ch 93) = true := by decide +kernel
theorem ab_k93_1 : ab_c93_1.all (ab_ch 93) = true := by decide +kernel
theorem ab_k93_2 : ab_c93_2.all (ab_ch 93) = true := by decide +kernel
