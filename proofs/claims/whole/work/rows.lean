section
-- ===== PART A: goes FIRST, ahead of the names: the tables' words, and 'selects' of the private methods out of them =====
/-- a private method of a class that the tables say can be made, by its rows of tables_1 -/
def lw_okq (q : MethodName × Nat) : Prop := (q.1.cls ≠ "java/lang/invoke/MethodHandle" ∧ q.1.cls ≠ "java/lang/invoke/VarHandle") ∧ Cond.instantiable q.1.cls q.2 ∈ tables_1 ∧ Cond.privateMethod q.1 ∈ tables_1 ∧ Cond.instanceMethod q.1 ∈ tables_1
theorem lw_p0 : lw_okq (⟨"EndTeller", "refuse", "(I)Z"⟩, 9) := ⟨⟨by decide +kernel, by decide +kernel⟩, List.mem_of_getElem? (i := 16) (by decide +kernel), List.mem_of_getElem? (i := 315) (by decide +kernel), List.mem_of_getElem? (i := 316) (by decide +kernel)⟩
theorem lw_p1 : lw_okq (⟨"EndTeller", "well", "()Z"⟩, 9) := ⟨⟨by decide +kernel, by decide +kernel⟩, List.mem_of_getElem? (i := 16) (by decide +kernel), List.mem_of_getElem? (i := 326) (by decide +kernel), List.mem_of_getElem? (i := 327) (by decide +kernel)⟩
theorem lw_p2 : lw_okq (⟨"EndTeller", "placeTrouble", "(II)I"⟩, 9) := ⟨⟨by decide +kernel, by decide +kernel⟩, List.mem_of_getElem? (i := 16) (by decide +kernel), List.mem_of_getElem? (i := 334) (by decide +kernel), List.mem_of_getElem? (i := 335) (by decide +kernel)⟩
theorem lw_p3 : lw_okq (⟨"EndTeller", "refuseNumber", "(I)I"⟩, 9) := ⟨⟨by decide +kernel, by decide +kernel⟩, List.mem_of_getElem? (i := 16) (by decide +kernel), List.mem_of_getElem? (i := 359) (by decide +kernel), List.mem_of_getElem? (i := 360) (by decide +kernel)⟩
theorem lw_p4 : lw_okq (⟨"EndTeller", "addPart", "(I)I"⟩, 9) := ⟨⟨by decide +kernel, by decide +kernel⟩, List.mem_of_getElem? (i := 16) (by decide +kernel), List.mem_of_getElem? (i := 402) (by decide +kernel), List.mem_of_getElem? (i := 403) (by decide +kernel)⟩
theorem lw_p5 : lw_okq (⟨"EndTeller", "changed", "()Z"⟩, 9) := ⟨⟨by decide +kernel, by decide +kernel⟩, List.mem_of_getElem? (i := 16) (by decide +kernel), List.mem_of_getElem? (i := 429) (by decide +kernel), List.mem_of_getElem? (i := 430) (by decide +kernel)⟩
theorem lw_p6 : lw_okq (⟨"EndTeller", "chanceTrouble", "()I"⟩, 9) := ⟨⟨by decide +kernel, by decide +kernel⟩, List.mem_of_getElem? (i := 16) (by decide +kernel), List.mem_of_getElem? (i := 533) (by decide +kernel), List.mem_of_getElem? (i := 534) (by decide +kernel)⟩
theorem lw_p7 : lw_okq (⟨"EndTeller", "tell", "(JJ)Z"⟩, 9) := ⟨⟨by decide +kernel, by decide +kernel⟩, List.mem_of_getElem? (i := 16) (by decide +kernel), List.mem_of_getElem? (i := 598) (by decide +kernel), List.mem_of_getElem? (i := 599) (by decide +kernel)⟩
theorem lw_p8 : lw_okq (⟨"EndTellerModel", "no", "(I)Z"⟩, 37) := ⟨⟨by decide +kernel, by decide +kernel⟩, List.mem_of_getElem? (i := 724) (by decide +kernel), List.mem_of_getElem? (i := 850) (by decide +kernel), List.mem_of_getElem? (i := 851) (by decide +kernel)⟩
theorem lw_p9 : lw_okq (⟨"EndTellerModel", "placed", "(II)I"⟩, 37) := ⟨⟨by decide +kernel, by decide +kernel⟩, List.mem_of_getElem? (i := 724) (by decide +kernel), List.mem_of_getElem? (i := 858) (by decide +kernel), List.mem_of_getElem? (i := 859) (by decide +kernel)⟩
theorem lw_p10 : lw_okq (⟨"EndTellerModel", "trayed", "(I)I"⟩, 37) := ⟨⟨by decide +kernel, by decide +kernel⟩, List.mem_of_getElem? (i := 724) (by decide +kernel), List.mem_of_getElem? (i := 862) (by decide +kernel), List.mem_of_getElem? (i := 863) (by decide +kernel)⟩
theorem lw_p11 : lw_okq (⟨"EndTellerModel", "refuse", "(I)I"⟩, 37) := ⟨⟨by decide +kernel, by decide +kernel⟩, List.mem_of_getElem? (i := 724) (by decide +kernel), List.mem_of_getElem? (i := 885) (by decide +kernel), List.mem_of_getElem? (i := 886) (by decide +kernel)⟩
theorem lw_p12 : lw_okq (⟨"EndTellerModel", "clearMade", "()V"⟩, 37) := ⟨⟨by decide +kernel, by decide +kernel⟩, List.mem_of_getElem? (i := 724) (by decide +kernel), List.mem_of_getElem? (i := 889) (by decide +kernel), List.mem_of_getElem? (i := 890) (by decide +kernel)⟩
theorem lw_p13 : lw_okq (⟨"EndTellerModel", "adds", "(I)I"⟩, 37) := ⟨⟨by decide +kernel, by decide +kernel⟩, List.mem_of_getElem? (i := 724) (by decide +kernel), List.mem_of_getElem? (i := 895) (by decide +kernel), List.mem_of_getElem? (i := 896) (by decide +kernel)⟩
theorem lw_p14 : lw_okq (⟨"EndTellerModel", "isPart", "(I)Z"⟩, 37) := ⟨⟨by decide +kernel, by decide +kernel⟩, List.mem_of_getElem? (i := 724) (by decide +kernel), List.mem_of_getElem? (i := 910) (by decide +kernel), List.mem_of_getElem? (i := 911) (by decide +kernel)⟩
theorem lw_p15 : lw_okq (⟨"EndTellerModel", "sumOf", "(I)I"⟩, 37) := ⟨⟨by decide +kernel, by decide +kernel⟩, List.mem_of_getElem? (i := 724) (by decide +kernel), List.mem_of_getElem? (i := 914) (by decide +kernel), List.mem_of_getElem? (i := 915) (by decide +kernel)⟩
def lw_privs_1 : List (MethodName × Nat) := [(⟨"EndTeller", "refuse", "(I)Z"⟩, 9), (⟨"EndTeller", "well", "()Z"⟩, 9), (⟨"EndTeller", "placeTrouble", "(II)I"⟩, 9), (⟨"EndTeller", "refuseNumber", "(I)I"⟩, 9), (⟨"EndTeller", "addPart", "(I)I"⟩, 9), (⟨"EndTeller", "changed", "()Z"⟩, 9), (⟨"EndTeller", "chanceTrouble", "()I"⟩, 9), (⟨"EndTeller", "tell", "(JJ)Z"⟩, 9), (⟨"EndTellerModel", "no", "(I)Z"⟩, 37), (⟨"EndTellerModel", "placed", "(II)I"⟩, 37), (⟨"EndTellerModel", "trayed", "(I)I"⟩, 37), (⟨"EndTellerModel", "refuse", "(I)I"⟩, 37), (⟨"EndTellerModel", "clearMade", "()V"⟩, 37), (⟨"EndTellerModel", "adds", "(I)I"⟩, 37), (⟨"EndTellerModel", "isPart", "(I)Z"⟩, 37), (⟨"EndTellerModel", "sumOf", "(I)I"⟩, 37)]
theorem lw_r1 : ∀ q ∈ lw_privs_1, lw_okq q := List.forall_mem_cons.mpr ⟨lw_p0, List.forall_mem_cons.mpr ⟨lw_p1, List.forall_mem_cons.mpr ⟨lw_p2, List.forall_mem_cons.mpr ⟨lw_p3, List.forall_mem_cons.mpr ⟨lw_p4, List.forall_mem_cons.mpr ⟨lw_p5, List.forall_mem_cons.mpr ⟨lw_p6, List.forall_mem_cons.mpr ⟨lw_p7, List.forall_mem_cons.mpr ⟨lw_p8, List.forall_mem_cons.mpr ⟨lw_p9, List.forall_mem_cons.mpr ⟨lw_p10, List.forall_mem_cons.mpr ⟨lw_p11, List.forall_mem_cons.mpr ⟨lw_p12, List.forall_mem_cons.mpr ⟨lw_p13, List.forall_mem_cons.mpr ⟨lw_p14, List.forall_mem_cons.mpr ⟨lw_p15, fun _ h => absurd h List.not_mem_nil⟩⟩⟩⟩⟩⟩⟩⟩⟩⟩⟩⟩⟩⟩⟩⟩
theorem lw_p16 : lw_okq (⟨"EndTellerModel", "isGreat", "()Z"⟩, 37) := ⟨⟨by decide +kernel, by decide +kernel⟩, List.mem_of_getElem? (i := 724) (by decide +kernel), List.mem_of_getElem? (i := 963) (by decide +kernel), List.mem_of_getElem? (i := 964) (by decide +kernel)⟩
theorem lw_p17 : lw_okq (⟨"EndTellerModel", "tellsUpTo", "(II)Z"⟩, 37) := ⟨⟨by decide +kernel, by decide +kernel⟩, List.mem_of_getElem? (i := 724) (by decide +kernel), List.mem_of_getElem? (i := 972) (by decide +kernel), List.mem_of_getElem? (i := 973) (by decide +kernel)⟩
theorem lw_p18 : lw_okq (⟨"EndTellerModel", "sums", "(III)I"⟩, 37) := ⟨⟨by decide +kernel, by decide +kernel⟩, List.mem_of_getElem? (i := 724) (by decide +kernel), List.mem_of_getElem? (i := 976) (by decide +kernel), List.mem_of_getElem? (i := 977) (by decide +kernel)⟩
theorem lw_p19 : lw_okq (⟨"EndTellerModel", "isStuck", "()Z"⟩, 37) := ⟨⟨by decide +kernel, by decide +kernel⟩, List.mem_of_getElem? (i := 724) (by decide +kernel), List.mem_of_getElem? (i := 980) (by decide +kernel), List.mem_of_getElem? (i := 981) (by decide +kernel)⟩
theorem lw_p20 : lw_okq (⟨"EndTellerModel", "firstWay", "()V"⟩, 37) := ⟨⟨by decide +kernel, by decide +kernel⟩, List.mem_of_getElem? (i := 724) (by decide +kernel), List.mem_of_getElem? (i := 984) (by decide +kernel), List.mem_of_getElem? (i := 985) (by decide +kernel)⟩
theorem lw_p21 : lw_okq (⟨"EndTellerModel", "step", "(I)I"⟩, 37) := ⟨⟨by decide +kernel, by decide +kernel⟩, List.mem_of_getElem? (i := 724) (by decide +kernel), List.mem_of_getElem? (i := 988) (by decide +kernel), List.mem_of_getElem? (i := 989) (by decide +kernel)⟩
theorem lw_p22 : lw_okq (⟨"EndTellerModel", "areOver", "(I)Z"⟩, 37) := ⟨⟨by decide +kernel, by decide +kernel⟩, List.mem_of_getElem? (i := 724) (by decide +kernel), List.mem_of_getElem? (i := 992) (by decide +kernel), List.mem_of_getElem? (i := 993) (by decide +kernel)⟩
theorem lw_p23 : lw_okq (⟨"EndTellerModel", "isLeft", "()Z"⟩, 37) := ⟨⟨by decide +kernel, by decide +kernel⟩, List.mem_of_getElem? (i := 724) (by decide +kernel), List.mem_of_getElem? (i := 998) (by decide +kernel), List.mem_of_getElem? (i := 999) (by decide +kernel)⟩
theorem lw_p24 : lw_okq (⟨"EndTellerModel", "weightOf", "()J"⟩, 37) := ⟨⟨by decide +kernel, by decide +kernel⟩, List.mem_of_getElem? (i := 724) (by decide +kernel), List.mem_of_getElem? (i := 1002) (by decide +kernel), List.mem_of_getElem? (i := 1003) (by decide +kernel)⟩
theorem lw_p25 : lw_okq (⟨"EndTellerModel", "nextWay", "()Z"⟩, 37) := ⟨⟨by decide +kernel, by decide +kernel⟩, List.mem_of_getElem? (i := 724) (by decide +kernel), List.mem_of_getElem? (i := 1006) (by decide +kernel), List.mem_of_getElem? (i := 1007) (by decide +kernel)⟩
theorem lw_p26 : lw_okq (⟨"EndTellerModel", "tells", "(JJ)I"⟩, 37) := ⟨⟨by decide +kernel, by decide +kernel⟩, List.mem_of_getElem? (i := 724) (by decide +kernel), List.mem_of_getElem? (i := 1010) (by decide +kernel), List.mem_of_getElem? (i := 1011) (by decide +kernel)⟩
theorem lw_p27 : lw_okq (⟨"EndTellerModel", "apart", "()J"⟩, 37) := ⟨⟨by decide +kernel, by decide +kernel⟩, List.mem_of_getElem? (i := 724) (by decide +kernel), List.mem_of_getElem? (i := 1031) (by decide +kernel), List.mem_of_getElem? (i := 1032) (by decide +kernel)⟩
theorem lw_p28 : lw_okq (⟨"EndTellerModel", "known", "(I)I"⟩, 37) := ⟨⟨by decide +kernel, by decide +kernel⟩, List.mem_of_getElem? (i := 724) (by decide +kernel), List.mem_of_getElem? (i := 1040) (by decide +kernel), List.mem_of_getElem? (i := 1041) (by decide +kernel)⟩
def lw_privs_2 : List (MethodName × Nat) := [(⟨"EndTellerModel", "isGreat", "()Z"⟩, 37), (⟨"EndTellerModel", "tellsUpTo", "(II)Z"⟩, 37), (⟨"EndTellerModel", "sums", "(III)I"⟩, 37), (⟨"EndTellerModel", "isStuck", "()Z"⟩, 37), (⟨"EndTellerModel", "firstWay", "()V"⟩, 37), (⟨"EndTellerModel", "step", "(I)I"⟩, 37), (⟨"EndTellerModel", "areOver", "(I)Z"⟩, 37), (⟨"EndTellerModel", "isLeft", "()Z"⟩, 37), (⟨"EndTellerModel", "weightOf", "()J"⟩, 37), (⟨"EndTellerModel", "nextWay", "()Z"⟩, 37), (⟨"EndTellerModel", "tells", "(JJ)I"⟩, 37), (⟨"EndTellerModel", "apart", "()J"⟩, 37), (⟨"EndTellerModel", "known", "(I)I"⟩, 37)]
theorem lw_r2 : ∀ q ∈ lw_privs_2, lw_okq q := List.forall_mem_cons.mpr ⟨lw_p16, List.forall_mem_cons.mpr ⟨lw_p17, List.forall_mem_cons.mpr ⟨lw_p18, List.forall_mem_cons.mpr ⟨lw_p19, List.forall_mem_cons.mpr ⟨lw_p20, List.forall_mem_cons.mpr ⟨lw_p21, List.forall_mem_cons.mpr ⟨lw_p22, List.forall_mem_cons.mpr ⟨lw_p23, List.forall_mem_cons.mpr ⟨lw_p24, List.forall_mem_cons.mpr ⟨lw_p25, List.forall_mem_cons.mpr ⟨lw_p26, List.forall_mem_cons.mpr ⟨lw_p27, List.forall_mem_cons.mpr ⟨lw_p28, fun _ h => absurd h List.not_mem_nil⟩⟩⟩⟩⟩⟩⟩⟩⟩⟩⟩⟩⟩
def lw_privs : List (MethodName × Nat) := lw_privs_1 ++ (lw_privs_2)
def lw_tbl : List Cond := k2_sels lw_privs ++ tables_1
theorem lw_privs_ok : ∀ q ∈ lw_privs, lw_okq q := by
  show ∀ q ∈ lw_privs_1 ++ (lw_privs_2), lw_okq q
  exact List.forall_mem_append.mpr ⟨lw_r1, lw_r2⟩
end
section
/-! ===== BEGIN printed: names, fields, word lists, decode rows ===== -/
def RX0 : String := "EndTeller$Fraction"
def TX0 : u_T := fun k => match k with
  | 0 => ("EndTeller$Fraction", "above", "J", false)
  | _ => ("EndTeller$Fraction", "below", "J", false)
def tyX0 : Nat → FieldType := fun k => match k with
  | 0 => .long
  | _ => .long
abbrev wsX00 : List Cond := u_ws RX0 TX0 2
theorem nmX0 : ∀ a, a < 2 → ∀ b, b < 2 → a ≠ b → (TX0 a).2.1 ≠ (TX0 b).2.1 := by decide +kernel
theorem tyX0_ok : ∀ k, k < 2 → parseFieldDescriptor (TX0 k).2.2.1 = some (tyX0 k) := by decide +kernel
abbrev cX0_init : ByteArray := prog_2_method_1_code
def yX0_init : MethodName := ⟨RX0, "<init>", "()V"⟩
abbrev cX0_become : ByteArray := prog_2_method_2_code
def yX0_become : MethodName := ⟨RX0, "become", "(JJ)V"⟩
abbrev cX0_add : ByteArray := prog_2_method_3_code
def yX0_add : MethodName := ⟨RX0, "add", "(JJ)V"⟩
abbrev cX0_isLessThan : ByteArray := prog_2_method_4_code
def yX0_isLessThan : MethodName := ⟨RX0, "isLessThan", "(LEndTeller$Fraction;)Z"⟩
def RX1 : String := "EndTeller$Part"
def TX1 : u_T := fun k => match k with
  | 0 => ("EndTeller$Part", "days", "[I", true)
  | 1 => ("EndTeller$Part", "weights", "[I", true)
  | 2 => ("EndTeller$Part", "lateBy", "[I", true)
  | 3 => ("EndTeller$Part", "rows", "I", false)
  | 4 => ("EndTeller$Part", "allWeights", "I", false)
  | 5 => ("EndTeller$Part", "holds", "I", false)
  | 6 => ("EndTeller$Part", "needs", "I", false)
  | _ => ("EndTeller$Part", "cameOn", "I", false)
def tyX1 : Nat → FieldType := fun k => match k with
  | 0 => .array .int
  | 1 => .array .int
  | 2 => .array .int
  | 3 => .int
  | 4 => .int
  | 5 => .int
  | 6 => .int
  | _ => .int
abbrev wsX10 : List Cond := u_ws RX1 TX1 8
theorem nmX1 : ∀ a, a < 8 → ∀ b, b < 8 → a ≠ b → (TX1 a).2.1 ≠ (TX1 b).2.1 := by decide +kernel
theorem tyX1_ok : ∀ k, k < 8 → parseFieldDescriptor (TX1 k).2.2.1 = some (tyX1 k) := by decide +kernel
abbrev cX1_init : ByteArray := prog_3_method_1_code
def yX1_init : MethodName := ⟨RX1, "<init>", "()V"⟩
abbrev cX1_become : ByteArray := prog_3_method_2_code
def yX1_become : MethodName := ⟨RX1, "become", "(LEndTeller$Table;I)V"⟩
abbrev cX1_setNeed : ByteArray := prog_3_method_3_code
def yX1_setNeed : MethodName := ⟨RX1, "setNeed", "(IZ)V"⟩
def RX2 : String := "EndTeller$Stepper"
def TX2 : u_T := fun k => match k with
  | 0 => ("EndTeller$Stepper", "work", "LEndTeller$Work;", true)
  | 1 => ("EndTeller$Stepper", "picked", "[I", true)
  | 2 => ("EndTeller$Stepper", "lateness", "[I", true)
  | 3 => ("EndTeller$Stepper", "endsOn", "[I", true)
  | 4 => ("EndTeller$Stepper", "comes", "I", false)
  | 5 => ("EndTeller$Stepper", "weightOfCauses", "I", false)
  | 6 => ("EndTeller$Stepper", "begun", "I", false)
  | 7 => ("EndTeller$Stepper", "ended", "I", false)
  | _ => ("EndTeller$Stepper", "free", "I", false)
def tyX2 : Nat → FieldType := fun k => match k with
  | 0 => .object "EndTeller$Work"
  | 1 => .array .int
  | 2 => .array .int
  | 3 => .array .int
  | 4 => .int
  | 5 => .int
  | 6 => .int
  | 7 => .int
  | _ => .int
abbrev wsX20 : List Cond := u_ws RX2 TX2 9
theorem nmX2 : ∀ a, a < 9 → ∀ b, b < 9 → a ≠ b → (TX2 a).2.1 ≠ (TX2 b).2.1 := by decide +kernel
theorem tyX2_ok : ∀ k, k < 9 → parseFieldDescriptor (TX2 k).2.2.1 = some (tyX2 k) := by decide +kernel
abbrev cX2_init : ByteArray := prog_4_method_1_code
def yX2_init : MethodName := ⟨RX2, "<init>", "()V"⟩
abbrev cX2_goToFirst : ByteArray := prog_4_method_2_code
def yX2_goToFirst : MethodName := ⟨RX2, "goToFirst", "()V"⟩
abbrev cX2_goToNext : ByteArray := prog_4_method_3_code
def yX2_goToNext : MethodName := ⟨RX2, "goToNext", "()V"⟩
abbrev cX2_takeCauses : ByteArray := prog_4_method_4_code
def yX2_takeCauses : MethodName := ⟨RX2, "takeCauses", "()V"⟩
abbrev cX2_product : ByteArray := prog_4_method_5_code
def yX2_product : MethodName := ⟨RX2, "product", "()I"⟩
abbrev cX2_stepThrough : ByteArray := prog_4_method_6_code
def yX2_stepThrough : MethodName := ⟨RX2, "stepThrough", "(I)I"⟩
abbrev cX2_beginOn : ByteArray := prog_4_method_7_code
def yX2_beginOn : MethodName := ⟨RX2, "beginOn", "(II)V"⟩
abbrev cX2_endNext : ByteArray := prog_4_method_8_code
def yX2_endNext : MethodName := ⟨RX2, "endNext", "()I"⟩
abbrev cX2_agreesWithWhatCame : ByteArray := prog_4_method_9_code
def yX2_agreesWithWhatCame : MethodName := ⟨RX2, "agreesWithWhatCame", "()Z"⟩
def RX3 : String := "EndTeller$Table"
def TX3 : u_T := fun k => match k with
  | _ => ("EndTeller$Table", "weightOf", "[J", true)
def tyX3 : Nat → FieldType := fun k => match k with
  | _ => .array .long
abbrev wsX30 : List Cond := u_ws RX3 TX3 1
theorem nmX3 : ∀ a, a < 1 → ∀ b, b < 1 → a ≠ b → (TX3 a).2.1 ≠ (TX3 b).2.1 := by decide +kernel
theorem tyX3_ok : ∀ k, k < 1 → parseFieldDescriptor (TX3 k).2.2.1 = some (tyX3 k) := by decide +kernel
abbrev cX3_init : ByteArray := prog_5_method_1_code
def yX3_init : MethodName := ⟨RX3, "<init>", "()V"⟩
abbrev cX3_empty : ByteArray := prog_5_method_2_code
def yX3_empty : MethodName := ⟨RX3, "empty", "()V"⟩
abbrev cX3_add : ByteArray := prog_5_method_3_code
def yX3_add : MethodName := ⟨RX3, "add", "(IJ)V"⟩
abbrev cX3_addOnce : ByteArray := prog_5_method_4_code
def yX3_addOnce : MethodName := ⟨RX3, "addOnce", "(LEndTeller$Part;J)V"⟩
abbrev cX3_addTwice : ByteArray := prog_5_method_5_code
def yX3_addTwice : MethodName := ⟨RX3, "addTwice", "(LEndTeller$Part;J)V"⟩
abbrev cX3_makeLess : ByteArray := prog_5_method_6_code
def yX3_makeLess : MethodName := ⟨RX3, "makeLess", "()V"⟩
abbrev cX3_fits : ByteArray := prog_5_method_7_code
def yX3_fits : MethodName := ⟨RX3, "fits", "()Z"⟩
def RX4 : String := "EndTeller$Tellings"
def TX4 : u_T := fun k => match k with
  | 0 => ("EndTeller$Tellings", "many", "[I", true)
  | 1 => ("EndTeller$Tellings", "cameTrue", "[I", true)
  | 2 => ("EndTeller$Tellings", "sums", "[LEndTeller$Fraction;", true)
  | 3 => ("EndTeller$Tellings", "passed", "[Z", true)
  | _ => ("EndTeller$Tellings", "count", "I", false)
def tyX4 : Nat → FieldType := fun k => match k with
  | 0 => .array .int
  | 1 => .array .int
  | 2 => .array (.object "EndTeller$Fraction")
  | 3 => .array .boolean
  | _ => .int
abbrev wsX40 : List Cond := u_ws RX4 TX4 5
theorem nmX4 : ∀ a, a < 5 → ∀ b, b < 5 → a ≠ b → (TX4 a).2.1 ≠ (TX4 b).2.1 := by decide +kernel
theorem tyX4_ok : ∀ k, k < 5 → parseFieldDescriptor (TX4 k).2.2.1 = some (tyX4 k) := by decide +kernel
abbrev cX4_init : ByteArray := prog_6_method_1_code
def yX4_init : MethodName := ⟨RX4, "<init>", "()V"⟩
abbrev cX4_add : ByteArray := prog_6_method_2_code
def yX4_add : MethodName := ⟨RX4, "add", "(IIZ)V"⟩
def RX5 : String := "EndTeller$Tray"
def TX5 : u_T := fun k => match k with
  | 0 => ("EndTeller$Tray", "cells", "[J", true)
  | 1 => ("EndTeller$Tray", "sort", "I", false)
  | _ => ("EndTeller$Tray", "length", "I", false)
def tyX5 : Nat → FieldType := fun k => match k with
  | 0 => .array .long
  | 1 => .int
  | _ => .int
abbrev wsX50 : List Cond := u_ws RX5 TX5 3
theorem nmX5 : ∀ a, a < 3 → ∀ b, b < 3 → a ≠ b → (TX5 a).2.1 ≠ (TX5 b).2.1 := by decide +kernel
theorem tyX5_ok : ∀ k, k < 3 → parseFieldDescriptor (TX5 k).2.2.1 = some (tyX5 k) := by decide +kernel
abbrev cX5_init : ByteArray := prog_7_method_1_code
def yX5_init : MethodName := ⟨RX5, "<init>", "()V"⟩
abbrev cX5_isMissing : ByteArray := prog_7_method_2_code
def yX5_isMissing : MethodName := ⟨RX5, "isMissing", "()Z"⟩
abbrev cX5_layOut : ByteArray := prog_7_method_3_code
def yX5_layOut : MethodName := ⟨RX5, "layOut", "(II)V"⟩
abbrev cX5_has : ByteArray := prog_7_method_4_code
def yX5_has : MethodName := ⟨RX5, "has", "(I)Z"⟩
abbrev cX5_hasRun : ByteArray := prog_7_method_5_code
def yX5_hasRun : MethodName := ⟨RX5, "hasRun", "(II)Z"⟩
abbrev cX5_numberAt : ByteArray := prog_7_method_6_code
def yX5_numberAt : MethodName := ⟨RX5, "numberAt", "(I)J"⟩
abbrev cX5_put : ByteArray := prog_7_method_7_code
def yX5_put : MethodName := ⟨RX5, "put", "(IJ)V"⟩
abbrev cX5_cut : ByteArray := prog_7_method_8_code
def yX5_cut : MethodName := ⟨RX5, "cut", "(J)J"⟩
abbrev cX5_holdsRows : ByteArray := prog_7_method_9_code
def yX5_holdsRows : MethodName := ⟨RX5, "holdsRows", "(I)Z"⟩
def RX6 : String := "EndTeller$Ways"
def TX6 : u_T := fun k => match k with
  | 0 => ("EndTeller$Ways", "way", "LEndTeller$Stepper;", true)
  | 1 => ("EndTeller$Ways", "work", "LEndTeller$Work;", true)
  | 2 => ("EndTeller$Ways", "byDay", "[I", true)
  | 3 => ("EndTeller$Ways", "endOf", "[I", false)
  | 4 => ("EndTeller$Ways", "weightOf", "[I", false)
  | 5 => ("EndTeller$Ways", "stale", "Z", false)
  | 6 => ("EndTeller$Ways", "count", "I", false)
  | 7 => ("EndTeller$Ways", "lastDay", "I", false)
  | 8 => ("EndTeller$Ways", "left", "J", false)
  | _ => ("EndTeller$Ways", "gathered", "J", false)
def tyX6 : Nat → FieldType := fun k => match k with
  | 0 => .object "EndTeller$Stepper"
  | 1 => .object "EndTeller$Work"
  | 2 => .array .int
  | 3 => .array .int
  | 4 => .array .int
  | 5 => .boolean
  | 6 => .int
  | 7 => .int
  | 8 => .long
  | _ => .long
abbrev wsX60 : List Cond := u_ws RX6 TX6 10
theorem nmX6 : ∀ a, a < 10 → ∀ b, b < 10 → a ≠ b → (TX6 a).2.1 ≠ (TX6 b).2.1 := by decide +kernel
theorem tyX6_ok : ∀ k, k < 10 → parseFieldDescriptor (TX6 k).2.2.1 = some (tyX6 k) := by decide +kernel
abbrev cX6_init : ByteArray := prog_8_method_1_code
def yX6_init : MethodName := ⟨RX6, "<init>", "()V"⟩
abbrev cX6_refresh : ByteArray := prog_8_method_2_code
def yX6_refresh : MethodName := ⟨RX6, "refresh", "()V"⟩
abbrev cX6_makeRoom : ByteArray := prog_8_method_3_code
def yX6_makeRoom : MethodName := ⟨RX6, "makeRoom", "()V"⟩
abbrev cX6_isLeft : ByteArray := prog_8_method_4_code
def yX6_isLeft : MethodName := ⟨RX6, "isLeft", "(I)Z"⟩
abbrev cX6_weightEndingBy : ByteArray := prog_8_method_5_code
def yX6_weightEndingBy : MethodName := ⟨RX6, "weightEndingBy", "(I)J"⟩
abbrev cX6_sumOfEnds : ByteArray := prog_8_method_6_code
def yX6_sumOfEnds : MethodName := ⟨RX6, "sumOfEnds", "()J"⟩
abbrev cX6_weightWithPartBy : ByteArray := prog_8_method_7_code
def yX6_weightWithPartBy : MethodName := ⟨RX6, "weightWithPartBy", "(II)J"⟩
abbrev cX6_weightMovedBy : ByteArray := prog_8_method_8_code
def yX6_weightMovedBy : MethodName := ⟨RX6, "weightMovedBy", "(I)J"⟩
abbrev cX6_leastDayAtRisk : ByteArray := prog_8_method_9_code
def yX6_leastDayAtRisk : MethodName := ⟨RX6, "leastDayAtRisk", "(II)I"⟩
abbrev cX6_gatherAll : ByteArray := prog_8_method_10_code
def yX6_gatherAll : MethodName := ⟨RX6, "gatherAll", "()V"⟩
abbrev cX6_gatherRow : ByteArray := prog_8_method_11_code
def yX6_gatherRow : MethodName := ⟨RX6, "gatherRow", "(II)V"⟩
abbrev cX6_emptyDays : ByteArray := prog_8_method_12_code
def yX6_emptyDays : MethodName := ⟨RX6, "emptyDays", "()V"⟩
abbrev cX6_gather : ByteArray := prog_8_method_13_code
def yX6_gather : MethodName := ⟨RX6, "gather", "(I)V"⟩
abbrev cX6_sumApart : ByteArray := prog_8_method_14_code
def yX6_sumApart : MethodName := ⟨RX6, "sumApart", "()J"⟩
abbrev cX6_sumRest : ByteArray := prog_8_method_15_code
def yX6_sumRest : MethodName := ⟨RX6, "sumRest", "(ILEndTeller$Fraction;)Z"⟩
def RX7 : String := "EndTeller$Work"
def TX7 : u_T := fun k => match k with
  | 0 => ("EndTeller$Work", "parts", "[LEndTeller$Part;", true)
  | 1 => ("EndTeller$Work", "shares", "[I", true)
  | 2 => ("EndTeller$Work", "wholes", "[I", true)
  | 3 => ("EndTeller$Work", "count", "I", false)
  | 4 => ("EndTeller$Work", "causes", "I", false)
  | 5 => ("EndTeller$Work", "house", "I", false)
  | _ => ("EndTeller$Work", "dayItIs", "I", false)
def tyX7 : Nat → FieldType := fun k => match k with
  | 0 => .array (.object "EndTeller$Part")
  | 1 => .array .int
  | 2 => .array .int
  | 3 => .int
  | 4 => .int
  | 5 => .int
  | _ => .int
abbrev wsX70 : List Cond := u_ws RX7 TX7 7
theorem nmX7 : ∀ a, a < 7 → ∀ b, b < 7 → a ≠ b → (TX7 a).2.1 ≠ (TX7 b).2.1 := by decide +kernel
theorem tyX7_ok : ∀ k, k < 7 → parseFieldDescriptor (TX7 k).2.2.1 = some (tyX7 k) := by decide +kernel
abbrev cX7_init : ByteArray := prog_9_method_1_code
def yX7_init : MethodName := ⟨RX7, "<init>", "()V"⟩
abbrev cX7_forget : ByteArray := prog_9_method_2_code
def yX7_forget : MethodName := ⟨RX7, "forget", "()V"⟩
abbrev cX7_hasPart : ByteArray := prog_9_method_3_code
def yX7_hasPart : MethodName := ⟨RX7, "hasPart", "(I)Z"⟩
abbrev cX7_addPart : ByteArray := prog_9_method_4_code
def yX7_addPart : MethodName := ⟨RX7, "addPart", "(LEndTeller$Table;I)V"⟩
abbrev cX7_addCause : ByteArray := prog_9_method_5_code
def yX7_addCause : MethodName := ⟨RX7, "addCause", "(II)V"⟩
abbrev cX7_isStuck : ByteArray := prog_9_method_6_code
def yX7_isStuck : MethodName := ⟨RX7, "isStuck", "()Z"⟩
abbrev cX7_isGreat : ByteArray := prog_9_method_7_code
def yX7_isGreat : MethodName := ⟨RX7, "isGreat", "()Z"⟩
abbrev cX7_countWays : ByteArray := prog_9_method_8_code
def yX7_countWays : MethodName := ⟨RX7, "countWays", "()I"⟩
abbrev cX7_rowsAhead : ByteArray := prog_9_method_9_code
def yX7_rowsAhead : MethodName := ⟨RX7, "rowsAhead", "(I)I"⟩
def RX8 : String := "EndTeller"
def TX8 : u_T := fun k => match k with
  | 0 => ("EndTeller", "state", "I", false)
  | 1 => ("EndTeller", "fraction", "LEndTeller$Fraction;", true)
  | 2 => ("EndTeller", "rest", "LEndTeller$Fraction;", true)
  | 3 => ("EndTeller", "least", "LEndTeller$Fraction;", true)
  | 4 => ("EndTeller", "trays", "[LEndTeller$Tray;", true)
  | 5 => ("EndTeller", "table", "LEndTeller$Table;", true)
  | 6 => ("EndTeller", "weighed", "LEndTeller$Ways;", true)
  | 7 => ("EndTeller", "work", "LEndTeller$Work;", true)
  | _ => ("EndTeller", "tellings", "LEndTeller$Tellings;", true)
def tyX8 : Nat → FieldType := fun k => match k with
  | 0 => .int
  | 1 => .object "EndTeller$Fraction"
  | 2 => .object "EndTeller$Fraction"
  | 3 => .object "EndTeller$Fraction"
  | 4 => .array (.object "EndTeller$Tray")
  | 5 => .object "EndTeller$Table"
  | 6 => .object "EndTeller$Ways"
  | 7 => .object "EndTeller$Work"
  | _ => .object "EndTeller$Tellings"
abbrev wsX80 : List Cond := u_ws RX8 TX8 9
theorem nmX8 : ∀ a, a < 9 → ∀ b, b < 9 → a ≠ b → (TX8 a).2.1 ≠ (TX8 b).2.1 := by decide +kernel
theorem tyX8_ok : ∀ k, k < 9 → parseFieldDescriptor (TX8 k).2.2.1 = some (tyX8 k) := by decide +kernel
abbrev cX8_init : ByteArray := prog_1_method_1_code
def yX8_init : MethodName := ⟨RX8, "<init>", "()V"⟩
abbrev cX8_status : ByteArray := prog_1_method_2_code
def yX8_status : MethodName := ⟨RX8, "status", "()I"⟩
abbrev cX8_tray : ByteArray := prog_1_method_3_code
def yX8_tray : MethodName := ⟨RX8, "tray", "(III)Z"⟩
abbrev cX8_write : ByteArray := prog_1_method_4_code
def yX8_write : MethodName := ⟨RX8, "write", "(IIJ)Z"⟩
abbrev cX8_read : ByteArray := prog_1_method_5_code
def yX8_read : MethodName := ⟨RX8, "read", "(II)J"⟩
abbrev cX8_pour : ByteArray := prog_1_method_6_code
def yX8_pour : MethodName := ⟨RX8, "pour", "(IIIII)Z"⟩
abbrev cX8_part : ByteArray := prog_1_method_7_code
def yX8_part : MethodName := ⟨RX8, "part", "(III)I"⟩
abbrev cX8_fixed : ByteArray := prog_1_method_8_code
def yX8_fixed : MethodName := ⟨RX8, "fixed", "(II)I"⟩
abbrev cX8_either : ByteArray := prog_1_method_9_code
def yX8_either : MethodName := ⟨RX8, "either", "(IIIII)I"⟩
abbrev cX8_again : ByteArray := prog_1_method_10_code
def yX8_again : MethodName := ⟨RX8, "again", "(IIII)I"⟩
abbrev cX8_need : ByteArray := prog_1_method_11_code
def yX8_need : MethodName := ⟨RX8, "need", "(IIZ)Z"⟩
abbrev cX8_cause : ByteArray := prog_1_method_12_code
def yX8_cause : MethodName := ⟨RX8, "cause", "(II)I"⟩
abbrev cX8_late : ByteArray := prog_1_method_13_code
def yX8_late : MethodName := ⟨RX8, "late", "(III)Z"⟩
abbrev cX8_hands : ByteArray := prog_1_method_14_code
def yX8_hands : MethodName := ⟨RX8, "hands", "(I)Z"⟩
abbrev cX8_clear : ByteArray := prog_1_method_15_code
def yX8_clear : MethodName := ⟨RX8, "clear", "()Z"⟩
abbrev cX8_told : ByteArray := prog_1_method_16_code
def yX8_told : MethodName := ⟨RX8, "told", "(II)I"⟩
abbrev cX8_row : ByteArray := prog_1_method_17_code
def yX8_row : MethodName := ⟨RX8, "row", "(III)I"⟩
abbrev cX8_upper : ByteArray := prog_1_method_18_code
def yX8_upper : MethodName := ⟨RX8, "upper", "()J"⟩
abbrev cX8_lower : ByteArray := prog_1_method_19_code
def yX8_lower : MethodName := ⟨RX8, "lower", "()J"⟩
abbrev cX8_ways : ByteArray := prog_1_method_20_code
def yX8_ways : MethodName := ⟨RX8, "ways", "()I"⟩
abbrev cX8_ends : ByteArray := prog_1_method_21_code
def yX8_ends : MethodName := ⟨RX8, "ends", "(I)Z"⟩
abbrev cX8_done : ByteArray := prog_1_method_22_code
def yX8_done : MethodName := ⟨RX8, "done", "(II)Z"⟩
abbrev cX8_promise : ByteArray := prog_1_method_23_code
def yX8_promise : MethodName := ⟨RX8, "promise", "(II)I"⟩
abbrev cX8_mean : ByteArray := prog_1_method_24_code
def yX8_mean : MethodName := ⟨RX8, "mean", "()Z"⟩
abbrev cX8_spread : ByteArray := prog_1_method_25_code
def yX8_spread : MethodName := ⟨RX8, "spread", "()Z"⟩
abbrev cX8_sure : ByteArray := prog_1_method_26_code
def yX8_sure : MethodName := ⟨RX8, "sure", "(I)Z"⟩
abbrev cX8_surest : ByteArray := prog_1_method_27_code
def yX8_surest : MethodName := ⟨RX8, "surest", "()I"⟩
abbrev cX8_moves : ByteArray := prog_1_method_28_code
def yX8_moves : MethodName := ⟨RX8, "moves", "(I)Z"⟩
abbrev cX8_end : ByteArray := prog_1_method_29_code
def yX8_end : MethodName := ⟨RX8, "end", "(II)Z"⟩
abbrev cX8_today : ByteArray := prog_1_method_30_code
def yX8_today : MethodName := ⟨RX8, "today", "(I)Z"⟩
abbrev cX8_telling : ByteArray := prog_1_method_31_code
def yX8_telling : MethodName := ⟨RX8, "telling", "(IIZ)Z"⟩
abbrev cX8_judged : ByteArray := prog_1_method_32_code
def yX8_judged : MethodName := ⟨RX8, "judged", "(II)I"⟩
abbrev cX8_said : ByteArray := prog_1_method_33_code
def yX8_said : MethodName := ⟨RX8, "said", "(I)Z"⟩
abbrev cX8_refuse : ByteArray := prog_1_method_34_code
def yX8_refuse : MethodName := ⟨RX8, "refuse", "(I)Z"⟩
abbrev cX8_refuseNumber : ByteArray := prog_1_method_35_code
def yX8_refuseNumber : MethodName := ⟨RX8, "refuseNumber", "(I)I"⟩
abbrev cX8_well : ByteArray := prog_1_method_36_code
def yX8_well : MethodName := ⟨RX8, "well", "()Z"⟩
abbrev cX8_changed : ByteArray := prog_1_method_37_code
def yX8_changed : MethodName := ⟨RX8, "changed", "()Z"⟩
abbrev cX8_tell : ByteArray := prog_1_method_38_code
def yX8_tell : MethodName := ⟨RX8, "tell", "(JJ)Z"⟩
abbrev cX8_addPart : ByteArray := prog_1_method_39_code
def yX8_addPart : MethodName := ⟨RX8, "addPart", "(I)I"⟩
abbrev cX8_placeTrouble : ByteArray := prog_1_method_40_code
def yX8_placeTrouble : MethodName := ⟨RX8, "placeTrouble", "(II)I"⟩
abbrev cX8_chanceTrouble : ByteArray := prog_1_method_41_code
def yX8_chanceTrouble : MethodName := ⟨RX8, "chanceTrouble", "()I"⟩
abbrev cX8_isTray : ByteArray := prog_1_method_42_code
def yX8_isTray : MethodName := ⟨RX8, "isTray", "(I)Z"⟩
abbrev cX8_isStep : ByteArray := prog_1_method_43_code
def yX8_isStep : MethodName := ⟨RX8, "isStep", "(I)Z"⟩
abbrev cX8_arePartHands : ByteArray := prog_1_method_44_code
def yX8_arePartHands : MethodName := ⟨RX8, "arePartHands", "(I)Z"⟩
abbrev cX8_isCameDay : ByteArray := prog_1_method_45_code
def yX8_isCameDay : MethodName := ⟨RX8, "isCameDay", "(I)Z"⟩
abbrev cX8_commonDivisor : ByteArray := prog_1_method_46_code
def yX8_commonDivisor : MethodName := ⟨RX8, "commonDivisor", "(JJ)J"⟩
def RX9 : String := "EndTellerModel"
def TX9 : u_T := fun k => match k with
  | 0 => ("EndTellerModel", "status", "I", false)
  | 1 => ("EndTellerModel", "thrown", "I", false)
  | 2 => ("EndTellerModel", "above", "J", false)
  | 3 => ("EndTellerModel", "under", "J", false)
  | 4 => ("EndTellerModel", "traySort", "[I", true)
  | 5 => ("EndTellerModel", "trayMany", "[I", true)
  | 6 => ("EndTellerModel", "numbers", "[J", true)
  | 7 => ("EndTellerModel", "parts", "I", false)
  | 8 => ("EndTellerModel", "causes", "I", false)
  | 9 => ("EndTellerModel", "house", "I", false)
  | 10 => ("EndTellerModel", "today", "I", false)
  | 11 => ("EndTellerModel", "rows", "[I", true)
  | 12 => ("EndTellerModel", "hands", "[I", true)
  | 13 => ("EndTellerModel", "needs", "[I", true)
  | 14 => ("EndTellerModel", "came", "[I", true)
  | 15 => ("EndTellerModel", "day", "[I", true)
  | 16 => ("EndTellerModel", "weight", "[I", true)
  | 17 => ("EndTellerModel", "late", "[I", true)
  | 18 => ("EndTellerModel", "causeTop", "[I", true)
  | 19 => ("EndTellerModel", "causeLow", "[I", true)
  | 20 => ("EndTellerModel", "made", "[J", true)
  | 21 => ("EndTellerModel", "chosen", "[I", true)
  | 22 => ("EndTellerModel", "takes", "[I", true)
  | 23 => ("EndTellerModel", "ended", "[I", true)
  | 24 => ("EndTellerModel", "comes", "[Z", true)
  | 25 => ("EndTellerModel", "ends", "[J", true)
  | 26 => ("EndTellerModel", "of", "[J", true)
  | 27 => ("EndTellerModel", "tellings", "I", false)
  | 28 => ("EndTellerModel", "tellTop", "[I", true)
  | 29 => ("EndTellerModel", "tellLow", "[I", true)
  | 30 => ("EndTellerModel", "tellCame", "[Z", true)
  | 31 => ("EndTellerModel", "begun", "[Z", true)
  | 32 => ("EndTellerModel", "over", "[Z", true)
  | 33 => ("EndTellerModel", "whole", "J", false)
  | 34 => ("EndTellerModel", "leftTop", "J", false)
  | 35 => ("EndTellerModel", "leftLow", "J", false)
  | _ => ("EndTellerModel", "leftWhole", "J", false)
def tyX9 : Nat → FieldType := fun k => match k with
  | 0 => .int
  | 1 => .int
  | 2 => .long
  | 3 => .long
  | 4 => .array .int
  | 5 => .array .int
  | 6 => .array .long
  | 7 => .int
  | 8 => .int
  | 9 => .int
  | 10 => .int
  | 11 => .array .int
  | 12 => .array .int
  | 13 => .array .int
  | 14 => .array .int
  | 15 => .array .int
  | 16 => .array .int
  | 17 => .array .int
  | 18 => .array .int
  | 19 => .array .int
  | 20 => .array .long
  | 21 => .array .int
  | 22 => .array .int
  | 23 => .array .int
  | 24 => .array .boolean
  | 25 => .array .long
  | 26 => .array .long
  | 27 => .int
  | 28 => .array .int
  | 29 => .array .int
  | 30 => .array .boolean
  | 31 => .array .boolean
  | 32 => .array .boolean
  | 33 => .long
  | 34 => .long
  | 35 => .long
  | _ => .long
abbrev wsX90 : List Cond := u_ws RX9 TX9 37
theorem nmX9 : ∀ a, a < 37 → ∀ b, b < 37 → a ≠ b → (TX9 a).2.1 ≠ (TX9 b).2.1 := by decide +kernel
theorem tyX9_ok : ∀ k, k < 37 → parseFieldDescriptor (TX9 k).2.2.1 = some (tyX9 k) := by decide +kernel
abbrev cX9_init : ByteArray := prog_11_method_1_code
def yX9_init : MethodName := ⟨RX9, "<init>", "()V"⟩
abbrev cX9_status : ByteArray := prog_11_method_3_code
def yX9_status : MethodName := ⟨RX9, "status", "()I"⟩
abbrev cX9_refuse : ByteArray := prog_11_method_4_code
def yX9_refuse : MethodName := ⟨RX9, "refuse", "(I)I"⟩
abbrev cX9_no : ByteArray := prog_11_method_5_code
def yX9_no : MethodName := ⟨RX9, "no", "(I)Z"⟩
abbrev cX9_cut : ByteArray := prog_11_method_6_code
def yX9_cut : MethodName := ⟨RX9, "cut", "(IJ)J"⟩
abbrev cX9_tray : ByteArray := prog_11_method_7_code
def yX9_tray : MethodName := ⟨RX9, "tray", "(III)Z"⟩
abbrev cX9_trayed : ByteArray := prog_11_method_8_code
def yX9_trayed : MethodName := ⟨RX9, "trayed", "(I)I"⟩
abbrev cX9_placed : ByteArray := prog_11_method_9_code
def yX9_placed : MethodName := ⟨RX9, "placed", "(II)I"⟩
abbrev cX9_write : ByteArray := prog_11_method_10_code
def yX9_write : MethodName := ⟨RX9, "write", "(IIJ)Z"⟩
abbrev cX9_read : ByteArray := prog_11_method_11_code
def yX9_read : MethodName := ⟨RX9, "read", "(II)J"⟩
abbrev cX9_pour : ByteArray := prog_11_method_12_code
def yX9_pour : MethodName := ⟨RX9, "pour", "(IIIII)Z"⟩
abbrev cX9_common : ByteArray := prog_11_method_13_code
def yX9_common : MethodName := ⟨RX9, "common", "(JJ)J"⟩
abbrev cX9_clearMade : ByteArray := prog_11_method_14_code
def yX9_clearMade : MethodName := ⟨RX9, "clearMade", "()V"⟩
abbrev cX9_adds : ByteArray := prog_11_method_15_code
def yX9_adds : MethodName := ⟨RX9, "adds", "(I)I"⟩
abbrev cX9_areHands : ByteArray := prog_11_method_16_code
def yX9_areHands : MethodName := ⟨RX9, "areHands", "(I)Z"⟩
abbrev cX9_part : ByteArray := prog_11_method_17_code
def yX9_part : MethodName := ⟨RX9, "part", "(III)I"⟩
abbrev cX9_fixed : ByteArray := prog_11_method_18_code
def yX9_fixed : MethodName := ⟨RX9, "fixed", "(II)I"⟩
abbrev cX9_isPart : ByteArray := prog_11_method_19_code
def yX9_isPart : MethodName := ⟨RX9, "isPart", "(I)Z"⟩
abbrev cX9_sumOf : ByteArray := prog_11_method_20_code
def yX9_sumOf : MethodName := ⟨RX9, "sumOf", "(I)I"⟩
abbrev cX9_either : ByteArray := prog_11_method_21_code
def yX9_either : MethodName := ⟨RX9, "either", "(IIIII)I"⟩
abbrev cX9_again : ByteArray := prog_11_method_22_code
def yX9_again : MethodName := ⟨RX9, "again", "(IIII)I"⟩
abbrev cX9_need : ByteArray := prog_11_method_23_code
def yX9_need : MethodName := ⟨RX9, "need", "(IIZ)Z"⟩
abbrev cX9_cause : ByteArray := prog_11_method_24_code
def yX9_cause : MethodName := ⟨RX9, "cause", "(II)I"⟩
abbrev cX9_late : ByteArray := prog_11_method_25_code
def yX9_late : MethodName := ⟨RX9, "late", "(III)Z"⟩
abbrev cX9_hands : ByteArray := prog_11_method_26_code
def yX9_hands : MethodName := ⟨RX9, "hands", "(I)Z"⟩
abbrev cX9_clear : ByteArray := prog_11_method_27_code
def yX9_clear : MethodName := ⟨RX9, "clear", "()Z"⟩
abbrev cX9_told : ByteArray := prog_11_method_28_code
def yX9_told : MethodName := ⟨RX9, "told", "(II)I"⟩
abbrev cX9_row : ByteArray := prog_11_method_29_code
def yX9_row : MethodName := ⟨RX9, "row", "(III)I"⟩
abbrev cX9_tells : ByteArray := prog_11_method_30_code
def yX9_tells : MethodName := ⟨RX9, "tells", "(JJ)I"⟩
abbrev cX9_upper : ByteArray := prog_11_method_31_code
def yX9_upper : MethodName := ⟨RX9, "upper", "()J"⟩
abbrev cX9_lower : ByteArray := prog_11_method_32_code
def yX9_lower : MethodName := ⟨RX9, "lower", "()J"⟩
abbrev cX9_isGreat : ByteArray := prog_11_method_33_code
def yX9_isGreat : MethodName := ⟨RX9, "isGreat", "()Z"⟩
abbrev cX9_ways : ByteArray := prog_11_method_34_code
def yX9_ways : MethodName := ⟨RX9, "ways", "()I"⟩
abbrev cX9_isStuck : ByteArray := prog_11_method_35_code
def yX9_isStuck : MethodName := ⟨RX9, "isStuck", "()Z"⟩
abbrev cX9_firstWay : ByteArray := prog_11_method_36_code
def yX9_firstWay : MethodName := ⟨RX9, "firstWay", "()V"⟩
abbrev cX9_nextWay : ByteArray := prog_11_method_37_code
def yX9_nextWay : MethodName := ⟨RX9, "nextWay", "()Z"⟩
abbrev cX9_weightOf : ByteArray := prog_11_method_38_code
def yX9_weightOf : MethodName := ⟨RX9, "weightOf", "()J"⟩
abbrev cX9_step : ByteArray := prog_11_method_39_code
def yX9_step : MethodName := ⟨RX9, "step", "(I)I"⟩
abbrev cX9_areOver : ByteArray := prog_11_method_40_code
def yX9_areOver : MethodName := ⟨RX9, "areOver", "(I)Z"⟩
abbrev cX9_isLeft : ByteArray := prog_11_method_41_code
def yX9_isLeft : MethodName := ⟨RX9, "isLeft", "()Z"⟩
abbrev cX9_sums : ByteArray := prog_11_method_42_code
def yX9_sums : MethodName := ⟨RX9, "sums", "(III)I"⟩
abbrev cX9_tellsUpTo : ByteArray := prog_11_method_43_code
def yX9_tellsUpTo : MethodName := ⟨RX9, "tellsUpTo", "(II)Z"⟩
abbrev cX9_ends : ByteArray := prog_11_method_44_code
def yX9_ends : MethodName := ⟨RX9, "ends", "(I)Z"⟩
abbrev cX9_done : ByteArray := prog_11_method_45_code
def yX9_done : MethodName := ⟨RX9, "done", "(II)Z"⟩
abbrev cX9_promise : ByteArray := prog_11_method_46_code
def yX9_promise : MethodName := ⟨RX9, "promise", "(II)I"⟩
abbrev cX9_mean : ByteArray := prog_11_method_47_code
def yX9_mean : MethodName := ⟨RX9, "mean", "()Z"⟩
abbrev cX9_apart : ByteArray := prog_11_method_48_code
def yX9_apart : MethodName := ⟨RX9, "apart", "()J"⟩
abbrev cX9_spread : ByteArray := prog_11_method_49_code
def yX9_spread : MethodName := ⟨RX9, "spread", "()Z"⟩
abbrev cX9_known : ByteArray := prog_11_method_50_code
def yX9_known : MethodName := ⟨RX9, "known", "(I)I"⟩
abbrev cX9_sure : ByteArray := prog_11_method_51_code
def yX9_sure : MethodName := ⟨RX9, "sure", "(I)Z"⟩
abbrev cX9_isLess : ByteArray := prog_11_method_52_code
def yX9_isLess : MethodName := ⟨RX9, "isLess", "(JJJJ)Z"⟩
abbrev cX9_surest : ByteArray := prog_11_method_53_code
def yX9_surest : MethodName := ⟨RX9, "surest", "()I"⟩
abbrev cX9_moves : ByteArray := prog_11_method_54_code
def yX9_moves : MethodName := ⟨RX9, "moves", "(I)Z"⟩
abbrev cX9_end : ByteArray := prog_11_method_55_code
def yX9_end : MethodName := ⟨RX9, "end", "(II)Z"⟩
abbrev cX9_today : ByteArray := prog_11_method_56_code
def yX9_today : MethodName := ⟨RX9, "today", "(I)Z"⟩
abbrev cX9_stepOf : ByteArray := prog_11_method_57_code
def yX9_stepOf : MethodName := ⟨RX9, "stepOf", "(II)I"⟩
abbrev cX9_telling : ByteArray := prog_11_method_58_code
def yX9_telling : MethodName := ⟨RX9, "telling", "(IIZ)Z"⟩
abbrev cX9_judged : ByteArray := prog_11_method_59_code
def yX9_judged : MethodName := ⟨RX9, "judged", "(II)I"⟩
abbrev cX9_said : ByteArray := prog_11_method_60_code
def yX9_said : MethodName := ⟨RX9, "said", "(I)Z"⟩
def RJ6 : String := "java/lang/Integer"
def TJ6 : u_T := fun k => match k with
  | _ => ("", "", "", false)
def tyJ6 : Nat → FieldType := fun k => match k with
  | _ => .int
abbrev wsJ60 : List Cond := u_ws RJ6 TJ6 0
theorem nmJ6 : ∀ a, a < 0 → ∀ b, b < 0 → a ≠ b → (TJ6 a).2.1 ≠ (TJ6 b).2.1 := by decide +kernel
theorem tyJ6_ok : ∀ k, k < 0 → parseFieldDescriptor (TJ6 k).2.2.1 = some (tyJ6 k) := by decide +kernel
abbrev cJ6_bitCount_0f7a4 : ByteArray := prog_12_method_49_code
def yJ6_bitCount_0f7a4 : MethodName := ⟨RJ6, "bitCount", "(I)I"⟩
def RJ9 : String := "java/lang/Math"
def TJ9 : u_T := fun k => match k with
  | _ => ("", "", "", false)
def tyJ9 : Nat → FieldType := fun k => match k with
  | _ => .int
abbrev wsJ90 : List Cond := u_ws RJ9 TJ9 0
theorem nmJ9 : ∀ a, a < 0 → ∀ b, b < 0 → a ≠ b → (TJ9 a).2.1 ≠ (TJ9 b).2.1 := by decide +kernel
theorem tyJ9_ok : ∀ k, k < 0 → parseFieldDescriptor (TJ9 k).2.2.1 = some (tyJ9 k) := by decide +kernel
abbrev cJ9_max_7cf53 : ByteArray := prog_13_method_65_code
def yJ9_max_7cf53 : MethodName := ⟨RJ9, "max", "(II)I"⟩
abbrev cJ9_min_7cf53 : ByteArray := prog_13_method_69_code
def yJ9_min_7cf53 : MethodName := ⟨RJ9, "min", "(II)I"⟩
def RJ10 : String := "java/lang/System"
def TJ10 : u_T := fun k => match k with
  | _ => ("", "", "", false)
def tyJ10 : Nat → FieldType := fun k => match k with
  | _ => .int
abbrev wsJ100 : List Cond := u_ws RJ10 TJ10 0
theorem nmJ10 : ∀ a, a < 0 → ∀ b, b < 0 → a ≠ b → (TJ10 a).2.1 ≠ (TJ10 b).2.1 := by decide +kernel
theorem tyJ10_ok : ∀ k, k < 0 → parseFieldDescriptor (TJ10 k).2.2.1 = some (tyJ10 k) := by decide +kernel
def RJ7 : String := "java/util/Arrays"
def TJ7 : u_T := fun k => match k with
  | _ => ("", "", "", false)
def tyJ7 : Nat → FieldType := fun k => match k with
  | _ => .int
abbrev wsJ70 : List Cond := u_ws RJ7 TJ7 0
theorem nmJ7 : ∀ a, a < 0 → ∀ b, b < 0 → a ≠ b → (TJ7 a).2.1 ≠ (TJ7 b).2.1 := by decide +kernel
theorem tyJ7_ok : ∀ k, k < 0 → parseFieldDescriptor (TJ7 k).2.2.1 = some (tyJ7 k) := by decide +kernel
abbrev cJ7_fill_d0a16 : ByteArray := prog_15_method_101_code
def yJ7_fill_d0a16 : MethodName := ⟨RJ7, "fill", "([JJ)V"⟩
abbrev cJ7_fill_53178 : ByteArray := prog_15_method_103_code
def yJ7_fill_53178 : MethodName := ⟨RJ7, "fill", "([II)V"⟩
def RL : String := "EndTellerLaw"
abbrev cL_law : ByteArray := code
def yL_law : MethodName := ⟨RL, "law", "([I)Z"⟩
abbrev vwCl : List vw_C := [(RX0, TX0, 2), (RX1, TX1, 8), (RX2, TX2, 9), (RX3, TX3, 1), (RX4, TX4, 5), (RX5, TX5, 3), (RX6, TX6, 10), (RX7, TX7, 7), (RX8, TX8, 9), (RX9, TX9, 37)]
end
section
theorem dX0_init_0 : decode cX0_init 0 = .ok (.aload_n 0, 1) := by decide +kernel
theorem dX0_init_1 : decode cX0_init 1 = .ok (.invokespecial 1, 3) := by decide +kernel
theorem dX0_init_4 : decode cX0_init 4 = .ok (.aload_n 0, 1) := by decide +kernel
theorem dX0_init_5 : decode cX0_init 5 = .ok (.lconst 0, 1) := by decide +kernel
theorem dX0_init_6 : decode cX0_init 6 = .ok (.putfield 7, 3) := by decide +kernel
theorem dX0_init_9 : decode cX0_init 9 = .ok (.aload_n 0, 1) := by decide +kernel
theorem dX0_init_10 : decode cX0_init 10 = .ok (.lconst 1, 1) := by decide +kernel
theorem dX0_init_11 : decode cX0_init 11 = .ok (.putfield 13, 3) := by decide +kernel
theorem dX0_init_14 : decode cX0_init 14 = .ok (.return_, 1) := by decide +kernel
theorem dX0_become_0 : decode cX0_become 0 = .ok (.lload_n 1, 1) := by decide +kernel
theorem dX0_become_1 : decode cX0_become 1 = .ok (.lload_n 3, 1) := by decide +kernel
theorem dX0_become_2 : decode cX0_become 2 = .ok (.invokestatic 16, 3) := by decide +kernel
theorem dX0_become_5 : decode cX0_become 5 = .ok (.lstore 5, 2) := by decide +kernel
theorem dX0_become_7 : decode cX0_become 7 = .ok (.lload 5, 2) := by decide +kernel
theorem dX0_become_9 : decode cX0_become 9 = .ok (.lconst 0, 1) := by decide +kernel
theorem dX0_become_10 : decode cX0_become 10 = .ok (.lcmp, 1) := by decide +kernel
theorem dX0_become_11 : decode cX0_become 11 = .ok (.ifCond .le 19, 3) := by decide +kernel
theorem dX0_become_14 : decode cX0_become 14 = .ok (.aload_n 0, 1) := by decide +kernel
theorem dX0_become_15 : decode cX0_become 15 = .ok (.lload_n 1, 1) := by decide +kernel
theorem dX0_become_16 : decode cX0_become 16 = .ok (.lload 5, 2) := by decide +kernel
theorem dX0_become_18 : decode cX0_become 18 = .ok (.ldiv, 1) := by decide +kernel
theorem dX0_become_19 : decode cX0_become 19 = .ok (.putfield 7, 3) := by decide +kernel
theorem dX0_become_22 : decode cX0_become 22 = .ok (.aload_n 0, 1) := by decide +kernel
theorem dX0_become_23 : decode cX0_become 23 = .ok (.lload_n 3, 1) := by decide +kernel
theorem dX0_become_24 : decode cX0_become 24 = .ok (.lload 5, 2) := by decide +kernel
theorem dX0_become_26 : decode cX0_become 26 = .ok (.ldiv, 1) := by decide +kernel
theorem dX0_become_27 : decode cX0_become 27 = .ok (.putfield 13, 3) := by decide +kernel
theorem dX0_become_30 : decode cX0_become 30 = .ok (.return_, 1) := by decide +kernel
theorem dX0_add_0 : decode cX0_add 0 = .ok (.aload_n 0, 1) := by decide +kernel
theorem dX0_add_1 : decode cX0_add 1 = .ok (.aload_n 0, 1) := by decide +kernel
theorem dX0_add_2 : decode cX0_add 2 = .ok (.getfield 7, 3) := by decide +kernel
theorem dX0_add_5 : decode cX0_add 5 = .ok (.lload_n 3, 1) := by decide +kernel
theorem dX0_add_6 : decode cX0_add 6 = .ok (.lmul, 1) := by decide +kernel
theorem dX0_add_7 : decode cX0_add 7 = .ok (.lload_n 1, 1) := by decide +kernel
theorem dX0_add_8 : decode cX0_add 8 = .ok (.aload_n 0, 1) := by decide +kernel
theorem dX0_add_9 : decode cX0_add 9 = .ok (.getfield 13, 3) := by decide +kernel
theorem dX0_add_12 : decode cX0_add 12 = .ok (.lmul, 1) := by decide +kernel
theorem dX0_add_13 : decode cX0_add 13 = .ok (.ladd, 1) := by decide +kernel
theorem dX0_add_14 : decode cX0_add 14 = .ok (.aload_n 0, 1) := by decide +kernel
theorem dX0_add_15 : decode cX0_add 15 = .ok (.getfield 13, 3) := by decide +kernel
theorem dX0_add_18 : decode cX0_add 18 = .ok (.lload_n 3, 1) := by decide +kernel
theorem dX0_add_19 : decode cX0_add 19 = .ok (.lmul, 1) := by decide +kernel
theorem dX0_add_20 : decode cX0_add 20 = .ok (.invokevirtual 22, 3) := by decide +kernel
theorem dX0_add_23 : decode cX0_add 23 = .ok (.return_, 1) := by decide +kernel
theorem dX0_isLessThan_0 : decode cX0_isLessThan 0 = .ok (.aload_n 0, 1) := by decide +kernel
theorem dX0_isLessThan_1 : decode cX0_isLessThan 1 = .ok (.getfield 13, 3) := by decide +kernel
theorem dX0_isLessThan_4 : decode cX0_isLessThan 4 = .ok (.lconst 1, 1) := by decide +kernel
theorem dX0_isLessThan_5 : decode cX0_isLessThan 5 = .ok (.lcmp, 1) := by decide +kernel
theorem dX0_isLessThan_6 : decode cX0_isLessThan 6 = .ok (.ifCond .lt 12, 3) := by decide +kernel
theorem dX0_isLessThan_9 : decode cX0_isLessThan 9 = .ok (.aload_n 1, 1) := by decide +kernel
theorem dX0_isLessThan_10 : decode cX0_isLessThan 10 = .ok (.getfield 13, 3) := by decide +kernel
theorem dX0_isLessThan_13 : decode cX0_isLessThan 13 = .ok (.lconst 1, 1) := by decide +kernel
theorem dX0_isLessThan_14 : decode cX0_isLessThan 14 = .ok (.lcmp, 1) := by decide +kernel
theorem dX0_isLessThan_15 : decode cX0_isLessThan 15 = .ok (.ifCond .ge 5, 3) := by decide +kernel
theorem dX0_isLessThan_18 : decode cX0_isLessThan 18 = .ok (.iconst 0, 1) := by decide +kernel
theorem dX0_isLessThan_19 : decode cX0_isLessThan 19 = .ok (.ireturn, 1) := by decide +kernel
theorem dX0_isLessThan_20 : decode cX0_isLessThan 20 = .ok (.aload_n 0, 1) := by decide +kernel
theorem dX0_isLessThan_21 : decode cX0_isLessThan 21 = .ok (.getfield 7, 3) := by decide +kernel
theorem dX0_isLessThan_24 : decode cX0_isLessThan 24 = .ok (.aload_n 0, 1) := by decide +kernel
theorem dX0_isLessThan_25 : decode cX0_isLessThan 25 = .ok (.getfield 13, 3) := by decide +kernel
theorem dX0_isLessThan_28 : decode cX0_isLessThan 28 = .ok (.ldiv, 1) := by decide +kernel
theorem dX0_isLessThan_29 : decode cX0_isLessThan 29 = .ok (.lstore_n 2, 1) := by decide +kernel
theorem dX0_isLessThan_30 : decode cX0_isLessThan 30 = .ok (.aload_n 1, 1) := by decide +kernel
theorem dX0_isLessThan_31 : decode cX0_isLessThan 31 = .ok (.getfield 7, 3) := by decide +kernel
theorem dX0_isLessThan_34 : decode cX0_isLessThan 34 = .ok (.aload_n 1, 1) := by decide +kernel
theorem dX0_isLessThan_35 : decode cX0_isLessThan 35 = .ok (.getfield 13, 3) := by decide +kernel
theorem dX0_isLessThan_38 : decode cX0_isLessThan 38 = .ok (.ldiv, 1) := by decide +kernel
theorem dX0_isLessThan_39 : decode cX0_isLessThan 39 = .ok (.lstore 4, 2) := by decide +kernel
theorem dX0_isLessThan_41 : decode cX0_isLessThan 41 = .ok (.lload_n 2, 1) := by decide +kernel
theorem dX0_isLessThan_42 : decode cX0_isLessThan 42 = .ok (.lload 4, 2) := by decide +kernel
theorem dX0_isLessThan_44 : decode cX0_isLessThan 44 = .ok (.lcmp, 1) := by decide +kernel
theorem dX0_isLessThan_45 : decode cX0_isLessThan 45 = .ok (.ifCond .eq 16, 3) := by decide +kernel
theorem dX0_isLessThan_48 : decode cX0_isLessThan 48 = .ok (.lload_n 2, 1) := by decide +kernel
theorem dX0_isLessThan_49 : decode cX0_isLessThan 49 = .ok (.lload 4, 2) := by decide +kernel
theorem dX0_isLessThan_51 : decode cX0_isLessThan 51 = .ok (.lcmp, 1) := by decide +kernel
theorem dX0_isLessThan_52 : decode cX0_isLessThan 52 = .ok (.ifCond .ge 7, 3) := by decide +kernel
theorem dX0_isLessThan_55 : decode cX0_isLessThan 55 = .ok (.iconst 1, 1) := by decide +kernel
theorem dX0_isLessThan_56 : decode cX0_isLessThan 56 = .ok (.goto 4, 3) := by decide +kernel
theorem dX0_isLessThan_59 : decode cX0_isLessThan 59 = .ok (.iconst 0, 1) := by decide +kernel
theorem dX0_isLessThan_60 : decode cX0_isLessThan 60 = .ok (.ireturn, 1) := by decide +kernel
theorem dX0_isLessThan_61 : decode cX0_isLessThan 61 = .ok (.aload_n 0, 1) := by decide +kernel
theorem dX0_isLessThan_62 : decode cX0_isLessThan 62 = .ok (.getfield 7, 3) := by decide +kernel
theorem dX0_isLessThan_65 : decode cX0_isLessThan 65 = .ok (.aload_n 0, 1) := by decide +kernel
theorem dX0_isLessThan_66 : decode cX0_isLessThan 66 = .ok (.getfield 13, 3) := by decide +kernel
theorem dX0_isLessThan_69 : decode cX0_isLessThan 69 = .ok (.lrem, 1) := by decide +kernel
theorem dX0_isLessThan_70 : decode cX0_isLessThan 70 = .ok (.aload_n 1, 1) := by decide +kernel
theorem dX0_isLessThan_71 : decode cX0_isLessThan 71 = .ok (.getfield 13, 3) := by decide +kernel
theorem dX0_isLessThan_74 : decode cX0_isLessThan 74 = .ok (.lmul, 1) := by decide +kernel
theorem dX0_isLessThan_75 : decode cX0_isLessThan 75 = .ok (.aload_n 1, 1) := by decide +kernel
theorem dX0_isLessThan_76 : decode cX0_isLessThan 76 = .ok (.getfield 7, 3) := by decide +kernel
theorem dX0_isLessThan_79 : decode cX0_isLessThan 79 = .ok (.aload_n 1, 1) := by decide +kernel
theorem dX0_isLessThan_80 : decode cX0_isLessThan 80 = .ok (.getfield 13, 3) := by decide +kernel
theorem dX0_isLessThan_83 : decode cX0_isLessThan 83 = .ok (.lrem, 1) := by decide +kernel
theorem dX0_isLessThan_84 : decode cX0_isLessThan 84 = .ok (.aload_n 0, 1) := by decide +kernel
theorem dX0_isLessThan_85 : decode cX0_isLessThan 85 = .ok (.getfield 13, 3) := by decide +kernel
theorem dX0_isLessThan_88 : decode cX0_isLessThan 88 = .ok (.lmul, 1) := by decide +kernel
theorem dX0_isLessThan_89 : decode cX0_isLessThan 89 = .ok (.lcmp, 1) := by decide +kernel
theorem dX0_isLessThan_90 : decode cX0_isLessThan 90 = .ok (.ifCond .ge 7, 3) := by decide +kernel
theorem dX0_isLessThan_93 : decode cX0_isLessThan 93 = .ok (.iconst 1, 1) := by decide +kernel
theorem dX0_isLessThan_94 : decode cX0_isLessThan 94 = .ok (.goto 4, 3) := by decide +kernel
theorem dX0_isLessThan_97 : decode cX0_isLessThan 97 = .ok (.iconst 0, 1) := by decide +kernel
theorem dX0_isLessThan_98 : decode cX0_isLessThan 98 = .ok (.ireturn, 1) := by decide +kernel
theorem dX1_init_0 : decode cX1_init 0 = .ok (.aload_n 0, 1) := by decide +kernel
theorem dX1_init_1 : decode cX1_init 1 = .ok (.invokespecial 3, 3) := by decide +kernel
theorem dX1_init_4 : decode cX1_init 4 = .ok (.aload_n 0, 1) := by decide +kernel
theorem dX1_init_5 : decode cX1_init 5 = .ok (.bipush 8, 2) := by decide +kernel
theorem dX1_init_7 : decode cX1_init 7 = .ok (.newarray .int, 2) := by decide +kernel
theorem dX1_init_9 : decode cX1_init 9 = .ok (.putfield 9, 3) := by decide +kernel
theorem dX1_init_12 : decode cX1_init 12 = .ok (.aload_n 0, 1) := by decide +kernel
theorem dX1_init_13 : decode cX1_init 13 = .ok (.bipush 8, 2) := by decide +kernel
theorem dX1_init_15 : decode cX1_init 15 = .ok (.newarray .int, 2) := by decide +kernel
theorem dX1_init_17 : decode cX1_init 17 = .ok (.putfield 15, 3) := by decide +kernel
theorem dX1_init_20 : decode cX1_init 20 = .ok (.aload_n 0, 1) := by decide +kernel
theorem dX1_init_21 : decode cX1_init 21 = .ok (.iconst 4, 1) := by decide +kernel
theorem dX1_init_22 : decode cX1_init 22 = .ok (.newarray .int, 2) := by decide +kernel
theorem dX1_init_24 : decode cX1_init 24 = .ok (.putfield 18, 3) := by decide +kernel
theorem dX1_init_27 : decode cX1_init 27 = .ok (.aload_n 0, 1) := by decide +kernel
theorem dX1_init_28 : decode cX1_init 28 = .ok (.iconst 0, 1) := by decide +kernel
theorem dX1_init_29 : decode cX1_init 29 = .ok (.putfield 21, 3) := by decide +kernel
theorem dX1_init_32 : decode cX1_init 32 = .ok (.aload_n 0, 1) := by decide +kernel
theorem dX1_init_33 : decode cX1_init 33 = .ok (.iconst 0, 1) := by decide +kernel
theorem dX1_init_34 : decode cX1_init 34 = .ok (.putfield 25, 3) := by decide +kernel
theorem dX1_init_37 : decode cX1_init 37 = .ok (.aload_n 0, 1) := by decide +kernel
theorem dX1_init_38 : decode cX1_init 38 = .ok (.iconst 0, 1) := by decide +kernel
theorem dX1_init_39 : decode cX1_init 39 = .ok (.putfield 28, 3) := by decide +kernel
theorem dX1_init_42 : decode cX1_init 42 = .ok (.aload_n 0, 1) := by decide +kernel
theorem dX1_init_43 : decode cX1_init 43 = .ok (.iconst 0, 1) := by decide +kernel
theorem dX1_init_44 : decode cX1_init 44 = .ok (.putfield 31, 3) := by decide +kernel
theorem dX1_init_47 : decode cX1_init 47 = .ok (.aload_n 0, 1) := by decide +kernel
theorem dX1_init_48 : decode cX1_init 48 = .ok (.iconst (-1), 1) := by decide +kernel
theorem dX1_init_49 : decode cX1_init 49 = .ok (.putfield 34, 3) := by decide +kernel
theorem dX1_init_52 : decode cX1_init 52 = .ok (.return_, 1) := by decide +kernel
theorem dX1_become_0 : decode cX1_become 0 = .ok (.aload_n 0, 1) := by decide +kernel
theorem dX1_become_1 : decode cX1_become 1 = .ok (.iconst 0, 1) := by decide +kernel
theorem dX1_become_2 : decode cX1_become 2 = .ok (.putfield 21, 3) := by decide +kernel
theorem dX1_become_5 : decode cX1_become 5 = .ok (.aload_n 0, 1) := by decide +kernel
theorem dX1_become_6 : decode cX1_become 6 = .ok (.iconst 0, 1) := by decide +kernel
theorem dX1_become_7 : decode cX1_become 7 = .ok (.putfield 25, 3) := by decide +kernel
theorem dX1_become_10 : decode cX1_become 10 = .ok (.aload_n 0, 1) := by decide +kernel
theorem dX1_become_11 : decode cX1_become 11 = .ok (.iload_n 2, 1) := by decide +kernel
theorem dX1_become_12 : decode cX1_become 12 = .ok (.putfield 28, 3) := by decide +kernel
theorem dX1_become_15 : decode cX1_become 15 = .ok (.aload_n 0, 1) := by decide +kernel
theorem dX1_become_16 : decode cX1_become 16 = .ok (.iconst 0, 1) := by decide +kernel
theorem dX1_become_17 : decode cX1_become 17 = .ok (.putfield 31, 3) := by decide +kernel
theorem dX1_become_20 : decode cX1_become 20 = .ok (.aload_n 0, 1) := by decide +kernel
theorem dX1_become_21 : decode cX1_become 21 = .ok (.iconst (-1), 1) := by decide +kernel
theorem dX1_become_22 : decode cX1_become 22 = .ok (.putfield 34, 3) := by decide +kernel
theorem dX1_become_25 : decode cX1_become 25 = .ok (.aload_n 0, 1) := by decide +kernel
theorem dX1_become_26 : decode cX1_become 26 = .ok (.getfield 18, 3) := by decide +kernel
theorem dX1_become_29 : decode cX1_become 29 = .ok (.iconst 0, 1) := by decide +kernel
theorem dX1_become_30 : decode cX1_become 30 = .ok (.invokestatic 37, 3) := by decide +kernel
theorem dX1_become_33 : decode cX1_become 33 = .ok (.iconst 0, 1) := by decide +kernel
theorem dX1_become_34 : decode cX1_become 34 = .ok (.istore_n 3, 1) := by decide +kernel
theorem dX1_become_35 : decode cX1_become 35 = .ok (.iload_n 3, 1) := by decide +kernel
theorem dX1_become_36 : decode cX1_become 36 = .ok (.bipush 99, 2) := by decide +kernel
theorem dX1_become_38 : decode cX1_become 38 = .ok (.if_icmp .gt 83, 3) := by decide +kernel
theorem dX1_become_41 : decode cX1_become 41 = .ok (.aload_n 0, 1) := by decide +kernel
theorem dX1_become_42 : decode cX1_become 42 = .ok (.getfield 21, 3) := by decide +kernel
theorem dX1_become_45 : decode cX1_become 45 = .ok (.bipush 8, 2) := by decide +kernel
theorem dX1_become_47 : decode cX1_become 47 = .ok (.if_icmp .ge 74, 3) := by decide +kernel
theorem dX1_become_50 : decode cX1_become 50 = .ok (.aload_n 1, 1) := by decide +kernel
theorem dX1_become_51 : decode cX1_become 51 = .ok (.getfield 43, 3) := by decide +kernel
theorem dX1_become_54 : decode cX1_become 54 = .ok (.iload_n 3, 1) := by decide +kernel
theorem dX1_become_55 : decode cX1_become 55 = .ok (.laload, 1) := by decide +kernel
theorem dX1_become_56 : decode cX1_become 56 = .ok (.lconst 0, 1) := by decide +kernel
theorem dX1_become_57 : decode cX1_become 57 = .ok (.lcmp, 1) := by decide +kernel
theorem dX1_become_58 : decode cX1_become 58 = .ok (.ifCond .eq 57, 3) := by decide +kernel
theorem dX1_become_61 : decode cX1_become 61 = .ok (.aload_n 0, 1) := by decide +kernel
theorem dX1_become_62 : decode cX1_become 62 = .ok (.getfield 9, 3) := by decide +kernel
theorem dX1_become_65 : decode cX1_become 65 = .ok (.aload_n 0, 1) := by decide +kernel
theorem dX1_become_66 : decode cX1_become 66 = .ok (.getfield 21, 3) := by decide +kernel
theorem dX1_become_69 : decode cX1_become 69 = .ok (.iload_n 3, 1) := by decide +kernel
theorem dX1_become_70 : decode cX1_become 70 = .ok (.iastore, 1) := by decide +kernel
theorem dX1_become_71 : decode cX1_become 71 = .ok (.aload_n 0, 1) := by decide +kernel
theorem dX1_become_72 : decode cX1_become 72 = .ok (.getfield 15, 3) := by decide +kernel
theorem dX1_become_75 : decode cX1_become 75 = .ok (.aload_n 0, 1) := by decide +kernel
theorem dX1_become_76 : decode cX1_become 76 = .ok (.getfield 21, 3) := by decide +kernel
theorem dX1_become_79 : decode cX1_become 79 = .ok (.aload_n 1, 1) := by decide +kernel
theorem dX1_become_80 : decode cX1_become 80 = .ok (.getfield 43, 3) := by decide +kernel
theorem dX1_become_83 : decode cX1_become 83 = .ok (.iload_n 3, 1) := by decide +kernel
theorem dX1_become_84 : decode cX1_become 84 = .ok (.laload, 1) := by decide +kernel
theorem dX1_become_85 : decode cX1_become 85 = .ok (.l2i, 1) := by decide +kernel
theorem dX1_become_86 : decode cX1_become 86 = .ok (.iastore, 1) := by decide +kernel
theorem dX1_become_87 : decode cX1_become 87 = .ok (.aload_n 0, 1) := by decide +kernel
theorem dX1_become_88 : decode cX1_become 88 = .ok (.dup, 1) := by decide +kernel
theorem dX1_become_89 : decode cX1_become 89 = .ok (.getfield 25, 3) := by decide +kernel
theorem dX1_become_92 : decode cX1_become 92 = .ok (.aload_n 0, 1) := by decide +kernel
theorem dX1_become_93 : decode cX1_become 93 = .ok (.getfield 15, 3) := by decide +kernel
theorem dX1_become_96 : decode cX1_become 96 = .ok (.aload_n 0, 1) := by decide +kernel
theorem dX1_become_97 : decode cX1_become 97 = .ok (.getfield 21, 3) := by decide +kernel
theorem dX1_become_100 : decode cX1_become 100 = .ok (.iaload, 1) := by decide +kernel
theorem dX1_become_101 : decode cX1_become 101 = .ok (.iadd, 1) := by decide +kernel
theorem dX1_become_102 : decode cX1_become 102 = .ok (.putfield 25, 3) := by decide +kernel
theorem dX1_become_105 : decode cX1_become 105 = .ok (.aload_n 0, 1) := by decide +kernel
theorem dX1_become_106 : decode cX1_become 106 = .ok (.dup, 1) := by decide +kernel
theorem dX1_become_107 : decode cX1_become 107 = .ok (.getfield 21, 3) := by decide +kernel
theorem dX1_become_110 : decode cX1_become 110 = .ok (.iconst 1, 1) := by decide +kernel
theorem dX1_become_111 : decode cX1_become 111 = .ok (.iadd, 1) := by decide +kernel
theorem dX1_become_112 : decode cX1_become 112 = .ok (.putfield 21, 3) := by decide +kernel
theorem dX1_become_115 : decode cX1_become 115 = .ok (.iinc 3 1, 3) := by decide +kernel
theorem dX1_become_118 : decode cX1_become 118 = .ok (.goto (-83), 3) := by decide +kernel
theorem dX1_become_121 : decode cX1_become 121 = .ok (.return_, 1) := by decide +kernel
theorem dX1_setNeed_0 : decode cX1_setNeed 0 = .ok (.iload_n 2, 1) := by decide +kernel
theorem dX1_setNeed_1 : decode cX1_setNeed 1 = .ok (.ifCond .eq 18, 3) := by decide +kernel
theorem dX1_setNeed_4 : decode cX1_setNeed 4 = .ok (.aload_n 0, 1) := by decide +kernel
theorem dX1_setNeed_5 : decode cX1_setNeed 5 = .ok (.dup, 1) := by decide +kernel
theorem dX1_setNeed_6 : decode cX1_setNeed 6 = .ok (.getfield 31, 3) := by decide +kernel
theorem dX1_setNeed_9 : decode cX1_setNeed 9 = .ok (.iconst 1, 1) := by decide +kernel
theorem dX1_setNeed_10 : decode cX1_setNeed 10 = .ok (.iload_n 1, 1) := by decide +kernel
theorem dX1_setNeed_11 : decode cX1_setNeed 11 = .ok (.ishl, 1) := by decide +kernel
theorem dX1_setNeed_12 : decode cX1_setNeed 12 = .ok (.ior, 1) := by decide +kernel
theorem dX1_setNeed_13 : decode cX1_setNeed 13 = .ok (.putfield 31, 3) := by decide +kernel
theorem dX1_setNeed_16 : decode cX1_setNeed 16 = .ok (.goto 17, 3) := by decide +kernel
theorem dX1_setNeed_19 : decode cX1_setNeed 19 = .ok (.aload_n 0, 1) := by decide +kernel
theorem dX1_setNeed_20 : decode cX1_setNeed 20 = .ok (.dup, 1) := by decide +kernel
theorem dX1_setNeed_21 : decode cX1_setNeed 21 = .ok (.getfield 31, 3) := by decide +kernel
theorem dX1_setNeed_24 : decode cX1_setNeed 24 = .ok (.iconst 1, 1) := by decide +kernel
theorem dX1_setNeed_25 : decode cX1_setNeed 25 = .ok (.iload_n 1, 1) := by decide +kernel
theorem dX1_setNeed_26 : decode cX1_setNeed 26 = .ok (.ishl, 1) := by decide +kernel
theorem dX1_setNeed_27 : decode cX1_setNeed 27 = .ok (.iconst (-1), 1) := by decide +kernel
theorem dX1_setNeed_28 : decode cX1_setNeed 28 = .ok (.ixor, 1) := by decide +kernel
theorem dX1_setNeed_29 : decode cX1_setNeed 29 = .ok (.iand, 1) := by decide +kernel
theorem dX1_setNeed_30 : decode cX1_setNeed 30 = .ok (.putfield 31, 3) := by decide +kernel
theorem dX1_setNeed_33 : decode cX1_setNeed 33 = .ok (.return_, 1) := by decide +kernel
theorem dX2_init_0 : decode cX2_init 0 = .ok (.aload_n 0, 1) := by decide +kernel
theorem dX2_init_1 : decode cX2_init 1 = .ok (.invokespecial 3, 3) := by decide +kernel
theorem dX2_init_4 : decode cX2_init 4 = .ok (.aload_n 0, 1) := by decide +kernel
theorem dX2_init_5 : decode cX2_init 5 = .ok (.new 9, 3) := by decide +kernel
theorem dX2_init_8 : decode cX2_init 8 = .ok (.dup, 1) := by decide +kernel
theorem dX2_init_9 : decode cX2_init 9 = .ok (.invokespecial 11, 3) := by decide +kernel
theorem dX2_init_12 : decode cX2_init 12 = .ok (.putfield 12, 3) := by decide +kernel
theorem dX2_init_15 : decode cX2_init 15 = .ok (.aload_n 0, 1) := by decide +kernel
theorem dX2_init_16 : decode cX2_init 16 = .ok (.bipush 10, 2) := by decide +kernel
theorem dX2_init_18 : decode cX2_init 18 = .ok (.newarray .int, 2) := by decide +kernel
theorem dX2_init_20 : decode cX2_init 20 = .ok (.putfield 18, 3) := by decide +kernel
theorem dX2_init_23 : decode cX2_init 23 = .ok (.aload_n 0, 1) := by decide +kernel
theorem dX2_init_24 : decode cX2_init 24 = .ok (.bipush 10, 2) := by decide +kernel
theorem dX2_init_26 : decode cX2_init 26 = .ok (.newarray .int, 2) := by decide +kernel
theorem dX2_init_28 : decode cX2_init 28 = .ok (.putfield 22, 3) := by decide +kernel
theorem dX2_init_31 : decode cX2_init 31 = .ok (.aload_n 0, 1) := by decide +kernel
theorem dX2_init_32 : decode cX2_init 32 = .ok (.bipush 10, 2) := by decide +kernel
theorem dX2_init_34 : decode cX2_init 34 = .ok (.newarray .int, 2) := by decide +kernel
theorem dX2_init_36 : decode cX2_init 36 = .ok (.putfield 25, 3) := by decide +kernel
theorem dX2_init_39 : decode cX2_init 39 = .ok (.aload_n 0, 1) := by decide +kernel
theorem dX2_init_40 : decode cX2_init 40 = .ok (.iconst 0, 1) := by decide +kernel
theorem dX2_init_41 : decode cX2_init 41 = .ok (.putfield 28, 3) := by decide +kernel
theorem dX2_init_44 : decode cX2_init 44 = .ok (.aload_n 0, 1) := by decide +kernel
theorem dX2_init_45 : decode cX2_init 45 = .ok (.iconst 1, 1) := by decide +kernel
theorem dX2_init_46 : decode cX2_init 46 = .ok (.putfield 32, 3) := by decide +kernel
theorem dX2_init_49 : decode cX2_init 49 = .ok (.aload_n 0, 1) := by decide +kernel
theorem dX2_init_50 : decode cX2_init 50 = .ok (.iconst 0, 1) := by decide +kernel
theorem dX2_init_51 : decode cX2_init 51 = .ok (.putfield 35, 3) := by decide +kernel
theorem dX2_init_54 : decode cX2_init 54 = .ok (.aload_n 0, 1) := by decide +kernel
theorem dX2_init_55 : decode cX2_init 55 = .ok (.iconst 0, 1) := by decide +kernel
theorem dX2_init_56 : decode cX2_init 56 = .ok (.putfield 38, 3) := by decide +kernel
theorem dX2_init_59 : decode cX2_init 59 = .ok (.aload_n 0, 1) := by decide +kernel
theorem dX2_init_60 : decode cX2_init 60 = .ok (.iconst 0, 1) := by decide +kernel
theorem dX2_init_61 : decode cX2_init 61 = .ok (.putfield 41, 3) := by decide +kernel
theorem dX2_init_64 : decode cX2_init 64 = .ok (.return_, 1) := by decide +kernel
theorem dX2_goToFirst_0 : decode cX2_goToFirst 0 = .ok (.aload_n 0, 1) := by decide +kernel
theorem dX2_goToFirst_1 : decode cX2_goToFirst 1 = .ok (.getfield 18, 3) := by decide +kernel
theorem dX2_goToFirst_4 : decode cX2_goToFirst 4 = .ok (.iconst 0, 1) := by decide +kernel
theorem dX2_goToFirst_5 : decode cX2_goToFirst 5 = .ok (.invokestatic 44, 3) := by decide +kernel
theorem dX2_goToFirst_8 : decode cX2_goToFirst 8 = .ok (.aload_n 0, 1) := by decide +kernel
theorem dX2_goToFirst_9 : decode cX2_goToFirst 9 = .ok (.iconst 0, 1) := by decide +kernel
theorem dX2_goToFirst_10 : decode cX2_goToFirst 10 = .ok (.putfield 28, 3) := by decide +kernel
theorem dX2_goToFirst_13 : decode cX2_goToFirst 13 = .ok (.aload_n 0, 1) := by decide +kernel
theorem dX2_goToFirst_14 : decode cX2_goToFirst 14 = .ok (.invokevirtual 50, 3) := by decide +kernel
theorem dX2_goToFirst_17 : decode cX2_goToFirst 17 = .ok (.return_, 1) := by decide +kernel
theorem dX2_goToNext_0 : decode cX2_goToNext 0 = .ok (.iconst 0, 1) := by decide +kernel
theorem dX2_goToNext_1 : decode cX2_goToNext 1 = .ok (.istore_n 1, 1) := by decide +kernel
theorem dX2_goToNext_2 : decode cX2_goToNext 2 = .ok (.iload_n 1, 1) := by decide +kernel
theorem dX2_goToNext_3 : decode cX2_goToNext 3 = .ok (.aload_n 0, 1) := by decide +kernel
theorem dX2_goToNext_4 : decode cX2_goToNext 4 = .ok (.getfield 12, 3) := by decide +kernel
theorem dX2_goToNext_7 : decode cX2_goToNext 7 = .ok (.getfield 53, 3) := by decide +kernel
theorem dX2_goToNext_10 : decode cX2_goToNext 10 = .ok (.if_icmp .ge 48, 3) := by decide +kernel
theorem dX2_goToNext_13 : decode cX2_goToNext 13 = .ok (.aload_n 0, 1) := by decide +kernel
theorem dX2_goToNext_14 : decode cX2_goToNext 14 = .ok (.getfield 18, 3) := by decide +kernel
theorem dX2_goToNext_17 : decode cX2_goToNext 17 = .ok (.iload_n 1, 1) := by decide +kernel
theorem dX2_goToNext_18 : decode cX2_goToNext 18 = .ok (.dup2, 1) := by decide +kernel
theorem dX2_goToNext_19 : decode cX2_goToNext 19 = .ok (.iaload, 1) := by decide +kernel
theorem dX2_goToNext_20 : decode cX2_goToNext 20 = .ok (.iconst 1, 1) := by decide +kernel
theorem dX2_goToNext_21 : decode cX2_goToNext 21 = .ok (.iadd, 1) := by decide +kernel
theorem dX2_goToNext_22 : decode cX2_goToNext 22 = .ok (.iastore, 1) := by decide +kernel
theorem dX2_goToNext_23 : decode cX2_goToNext 23 = .ok (.aload_n 0, 1) := by decide +kernel
theorem dX2_goToNext_24 : decode cX2_goToNext 24 = .ok (.getfield 18, 3) := by decide +kernel
theorem dX2_goToNext_27 : decode cX2_goToNext 27 = .ok (.iload_n 1, 1) := by decide +kernel
theorem dX2_goToNext_28 : decode cX2_goToNext 28 = .ok (.iaload, 1) := by decide +kernel
theorem dX2_goToNext_29 : decode cX2_goToNext 29 = .ok (.aload_n 0, 1) := by decide +kernel
theorem dX2_goToNext_30 : decode cX2_goToNext 30 = .ok (.getfield 12, 3) := by decide +kernel
theorem dX2_goToNext_33 : decode cX2_goToNext 33 = .ok (.getfield 56, 3) := by decide +kernel
theorem dX2_goToNext_36 : decode cX2_goToNext 36 = .ok (.iload_n 1, 1) := by decide +kernel
theorem dX2_goToNext_37 : decode cX2_goToNext 37 = .ok (.aaload, 1) := by decide +kernel
theorem dX2_goToNext_38 : decode cX2_goToNext 38 = .ok (.getfield 60, 3) := by decide +kernel
theorem dX2_goToNext_41 : decode cX2_goToNext 41 = .ok (.if_icmp .ge 4, 3) := by decide +kernel
theorem dX2_goToNext_44 : decode cX2_goToNext 44 = .ok (.return_, 1) := by decide +kernel
theorem dX2_goToNext_45 : decode cX2_goToNext 45 = .ok (.aload_n 0, 1) := by decide +kernel
theorem dX2_goToNext_46 : decode cX2_goToNext 46 = .ok (.getfield 18, 3) := by decide +kernel
theorem dX2_goToNext_49 : decode cX2_goToNext 49 = .ok (.iload_n 1, 1) := by decide +kernel
theorem dX2_goToNext_50 : decode cX2_goToNext 50 = .ok (.iconst 0, 1) := by decide +kernel
theorem dX2_goToNext_51 : decode cX2_goToNext 51 = .ok (.iastore, 1) := by decide +kernel
theorem dX2_goToNext_52 : decode cX2_goToNext 52 = .ok (.iinc 1 1, 3) := by decide +kernel
theorem dX2_goToNext_55 : decode cX2_goToNext 55 = .ok (.goto (-53), 3) := by decide +kernel
theorem dX2_goToNext_58 : decode cX2_goToNext 58 = .ok (.aload_n 0, 1) := by decide +kernel
theorem dX2_goToNext_59 : decode cX2_goToNext 59 = .ok (.dup, 1) := by decide +kernel
theorem dX2_goToNext_60 : decode cX2_goToNext 60 = .ok (.getfield 28, 3) := by decide +kernel
theorem dX2_goToNext_63 : decode cX2_goToNext 63 = .ok (.iconst 1, 1) := by decide +kernel
theorem dX2_goToNext_64 : decode cX2_goToNext 64 = .ok (.iadd, 1) := by decide +kernel
theorem dX2_goToNext_65 : decode cX2_goToNext 65 = .ok (.putfield 28, 3) := by decide +kernel
theorem dX2_goToNext_68 : decode cX2_goToNext 68 = .ok (.aload_n 0, 1) := by decide +kernel
theorem dX2_goToNext_69 : decode cX2_goToNext 69 = .ok (.invokevirtual 50, 3) := by decide +kernel
theorem dX2_goToNext_72 : decode cX2_goToNext 72 = .ok (.return_, 1) := by decide +kernel
theorem dX2_takeCauses_0 : decode cX2_takeCauses 0 = .ok (.aload_n 0, 1) := by decide +kernel
theorem dX2_takeCauses_1 : decode cX2_takeCauses 1 = .ok (.iconst 1, 1) := by decide +kernel
theorem dX2_takeCauses_2 : decode cX2_takeCauses 2 = .ok (.putfield 32, 3) := by decide +kernel
theorem dX2_takeCauses_5 : decode cX2_takeCauses 5 = .ok (.aload_n 0, 1) := by decide +kernel
theorem dX2_takeCauses_6 : decode cX2_takeCauses 6 = .ok (.getfield 22, 3) := by decide +kernel
theorem dX2_takeCauses_9 : decode cX2_takeCauses 9 = .ok (.iconst 0, 1) := by decide +kernel
theorem dX2_takeCauses_10 : decode cX2_takeCauses 10 = .ok (.invokestatic 44, 3) := by decide +kernel
theorem dX2_takeCauses_13 : decode cX2_takeCauses 13 = .ok (.iconst 0, 1) := by decide +kernel
theorem dX2_takeCauses_14 : decode cX2_takeCauses 14 = .ok (.istore_n 1, 1) := by decide +kernel
theorem dX2_takeCauses_15 : decode cX2_takeCauses 15 = .ok (.iload_n 1, 1) := by decide +kernel
theorem dX2_takeCauses_16 : decode cX2_takeCauses 16 = .ok (.aload_n 0, 1) := by decide +kernel
theorem dX2_takeCauses_17 : decode cX2_takeCauses 17 = .ok (.getfield 12, 3) := by decide +kernel
theorem dX2_takeCauses_20 : decode cX2_takeCauses 20 = .ok (.getfield 65, 3) := by decide +kernel
theorem dX2_takeCauses_23 : decode cX2_takeCauses 23 = .ok (.if_icmp .ge 111, 3) := by decide +kernel
theorem dX2_takeCauses_26 : decode cX2_takeCauses 26 = .ok (.aload_n 0, 1) := by decide +kernel
theorem dX2_takeCauses_27 : decode cX2_takeCauses 27 = .ok (.getfield 28, 3) := by decide +kernel
theorem dX2_takeCauses_30 : decode cX2_takeCauses 30 = .ok (.iload_n 1, 1) := by decide +kernel
theorem dX2_takeCauses_31 : decode cX2_takeCauses 31 = .ok (.ishr, 1) := by decide +kernel
theorem dX2_takeCauses_32 : decode cX2_takeCauses 32 = .ok (.iconst 1, 1) := by decide +kernel
theorem dX2_takeCauses_33 : decode cX2_takeCauses 33 = .ok (.iand, 1) := by decide +kernel
theorem dX2_takeCauses_34 : decode cX2_takeCauses 34 = .ok (.ifCond .ne 34, 3) := by decide +kernel
theorem dX2_takeCauses_37 : decode cX2_takeCauses 37 = .ok (.aload_n 0, 1) := by decide +kernel
theorem dX2_takeCauses_38 : decode cX2_takeCauses 38 = .ok (.dup, 1) := by decide +kernel
theorem dX2_takeCauses_39 : decode cX2_takeCauses 39 = .ok (.getfield 32, 3) := by decide +kernel
theorem dX2_takeCauses_42 : decode cX2_takeCauses 42 = .ok (.aload_n 0, 1) := by decide +kernel
theorem dX2_takeCauses_43 : decode cX2_takeCauses 43 = .ok (.getfield 12, 3) := by decide +kernel
theorem dX2_takeCauses_46 : decode cX2_takeCauses 46 = .ok (.getfield 68, 3) := by decide +kernel
theorem dX2_takeCauses_49 : decode cX2_takeCauses 49 = .ok (.iload_n 1, 1) := by decide +kernel
theorem dX2_takeCauses_50 : decode cX2_takeCauses 50 = .ok (.iaload, 1) := by decide +kernel
theorem dX2_takeCauses_51 : decode cX2_takeCauses 51 = .ok (.aload_n 0, 1) := by decide +kernel
theorem dX2_takeCauses_52 : decode cX2_takeCauses 52 = .ok (.getfield 12, 3) := by decide +kernel
theorem dX2_takeCauses_55 : decode cX2_takeCauses 55 = .ok (.getfield 71, 3) := by decide +kernel
theorem dX2_takeCauses_58 : decode cX2_takeCauses 58 = .ok (.iload_n 1, 1) := by decide +kernel
theorem dX2_takeCauses_59 : decode cX2_takeCauses 59 = .ok (.iaload, 1) := by decide +kernel
theorem dX2_takeCauses_60 : decode cX2_takeCauses 60 = .ok (.isub, 1) := by decide +kernel
theorem dX2_takeCauses_61 : decode cX2_takeCauses 61 = .ok (.imul, 1) := by decide +kernel
theorem dX2_takeCauses_62 : decode cX2_takeCauses 62 = .ok (.putfield 32, 3) := by decide +kernel
theorem dX2_takeCauses_65 : decode cX2_takeCauses 65 = .ok (.goto 63, 3) := by decide +kernel
theorem dX2_takeCauses_68 : decode cX2_takeCauses 68 = .ok (.aload_n 0, 1) := by decide +kernel
theorem dX2_takeCauses_69 : decode cX2_takeCauses 69 = .ok (.dup, 1) := by decide +kernel
theorem dX2_takeCauses_70 : decode cX2_takeCauses 70 = .ok (.getfield 32, 3) := by decide +kernel
theorem dX2_takeCauses_73 : decode cX2_takeCauses 73 = .ok (.aload_n 0, 1) := by decide +kernel
theorem dX2_takeCauses_74 : decode cX2_takeCauses 74 = .ok (.getfield 12, 3) := by decide +kernel
theorem dX2_takeCauses_77 : decode cX2_takeCauses 77 = .ok (.getfield 71, 3) := by decide +kernel
theorem dX2_takeCauses_80 : decode cX2_takeCauses 80 = .ok (.iload_n 1, 1) := by decide +kernel
theorem dX2_takeCauses_81 : decode cX2_takeCauses 81 = .ok (.iaload, 1) := by decide +kernel
theorem dX2_takeCauses_82 : decode cX2_takeCauses 82 = .ok (.imul, 1) := by decide +kernel
theorem dX2_takeCauses_83 : decode cX2_takeCauses 83 = .ok (.putfield 32, 3) := by decide +kernel
theorem dX2_takeCauses_86 : decode cX2_takeCauses 86 = .ok (.iconst 0, 1) := by decide +kernel
theorem dX2_takeCauses_87 : decode cX2_takeCauses 87 = .ok (.istore_n 2, 1) := by decide +kernel
theorem dX2_takeCauses_88 : decode cX2_takeCauses 88 = .ok (.iload_n 2, 1) := by decide +kernel
theorem dX2_takeCauses_89 : decode cX2_takeCauses 89 = .ok (.aload_n 0, 1) := by decide +kernel
theorem dX2_takeCauses_90 : decode cX2_takeCauses 90 = .ok (.getfield 12, 3) := by decide +kernel
theorem dX2_takeCauses_93 : decode cX2_takeCauses 93 = .ok (.getfield 53, 3) := by decide +kernel
theorem dX2_takeCauses_96 : decode cX2_takeCauses 96 = .ok (.if_icmp .ge 32, 3) := by decide +kernel
theorem dX2_takeCauses_99 : decode cX2_takeCauses 99 = .ok (.aload_n 0, 1) := by decide +kernel
theorem dX2_takeCauses_100 : decode cX2_takeCauses 100 = .ok (.getfield 22, 3) := by decide +kernel
theorem dX2_takeCauses_103 : decode cX2_takeCauses 103 = .ok (.iload_n 2, 1) := by decide +kernel
theorem dX2_takeCauses_104 : decode cX2_takeCauses 104 = .ok (.dup2, 1) := by decide +kernel
theorem dX2_takeCauses_105 : decode cX2_takeCauses 105 = .ok (.iaload, 1) := by decide +kernel
theorem dX2_takeCauses_106 : decode cX2_takeCauses 106 = .ok (.aload_n 0, 1) := by decide +kernel
theorem dX2_takeCauses_107 : decode cX2_takeCauses 107 = .ok (.getfield 12, 3) := by decide +kernel
theorem dX2_takeCauses_110 : decode cX2_takeCauses 110 = .ok (.getfield 56, 3) := by decide +kernel
theorem dX2_takeCauses_113 : decode cX2_takeCauses 113 = .ok (.iload_n 2, 1) := by decide +kernel
theorem dX2_takeCauses_114 : decode cX2_takeCauses 114 = .ok (.aaload, 1) := by decide +kernel
theorem dX2_takeCauses_115 : decode cX2_takeCauses 115 = .ok (.getfield 74, 3) := by decide +kernel
theorem dX2_takeCauses_118 : decode cX2_takeCauses 118 = .ok (.iload_n 1, 1) := by decide +kernel
theorem dX2_takeCauses_119 : decode cX2_takeCauses 119 = .ok (.iaload, 1) := by decide +kernel
theorem dX2_takeCauses_120 : decode cX2_takeCauses 120 = .ok (.iadd, 1) := by decide +kernel
theorem dX2_takeCauses_121 : decode cX2_takeCauses 121 = .ok (.iastore, 1) := by decide +kernel
theorem dX2_takeCauses_122 : decode cX2_takeCauses 122 = .ok (.iinc 2 1, 3) := by decide +kernel
theorem dX2_takeCauses_125 : decode cX2_takeCauses 125 = .ok (.goto (-37), 3) := by decide +kernel
theorem dX2_takeCauses_128 : decode cX2_takeCauses 128 = .ok (.iinc 1 1, 3) := by decide +kernel
theorem dX2_takeCauses_131 : decode cX2_takeCauses 131 = .ok (.goto (-116), 3) := by decide +kernel
theorem dX2_takeCauses_134 : decode cX2_takeCauses 134 = .ok (.return_, 1) := by decide +kernel
theorem dX2_product_0 : decode cX2_product 0 = .ok (.aload_n 0, 1) := by decide +kernel
theorem dX2_product_1 : decode cX2_product 1 = .ok (.getfield 32, 3) := by decide +kernel
theorem dX2_product_4 : decode cX2_product 4 = .ok (.istore_n 1, 1) := by decide +kernel
theorem dX2_product_5 : decode cX2_product 5 = .ok (.iconst 0, 1) := by decide +kernel
theorem dX2_product_6 : decode cX2_product 6 = .ok (.istore_n 2, 1) := by decide +kernel
theorem dX2_product_7 : decode cX2_product 7 = .ok (.iload_n 2, 1) := by decide +kernel
theorem dX2_product_8 : decode cX2_product 8 = .ok (.aload_n 0, 1) := by decide +kernel
theorem dX2_product_9 : decode cX2_product 9 = .ok (.getfield 12, 3) := by decide +kernel
theorem dX2_product_12 : decode cX2_product 12 = .ok (.getfield 53, 3) := by decide +kernel
theorem dX2_product_15 : decode cX2_product 15 = .ok (.if_icmp .ge 31, 3) := by decide +kernel
theorem dX2_product_18 : decode cX2_product 18 = .ok (.iload_n 1, 1) := by decide +kernel
theorem dX2_product_19 : decode cX2_product 19 = .ok (.aload_n 0, 1) := by decide +kernel
theorem dX2_product_20 : decode cX2_product 20 = .ok (.getfield 12, 3) := by decide +kernel
theorem dX2_product_23 : decode cX2_product 23 = .ok (.getfield 56, 3) := by decide +kernel
theorem dX2_product_26 : decode cX2_product 26 = .ok (.iload_n 2, 1) := by decide +kernel
theorem dX2_product_27 : decode cX2_product 27 = .ok (.aaload, 1) := by decide +kernel
theorem dX2_product_28 : decode cX2_product 28 = .ok (.getfield 77, 3) := by decide +kernel
theorem dX2_product_31 : decode cX2_product 31 = .ok (.aload_n 0, 1) := by decide +kernel
theorem dX2_product_32 : decode cX2_product 32 = .ok (.getfield 18, 3) := by decide +kernel
theorem dX2_product_35 : decode cX2_product 35 = .ok (.iload_n 2, 1) := by decide +kernel
theorem dX2_product_36 : decode cX2_product 36 = .ok (.iaload, 1) := by decide +kernel
theorem dX2_product_37 : decode cX2_product 37 = .ok (.iaload, 1) := by decide +kernel
theorem dX2_product_38 : decode cX2_product 38 = .ok (.imul, 1) := by decide +kernel
theorem dX2_product_39 : decode cX2_product 39 = .ok (.istore_n 1, 1) := by decide +kernel
theorem dX2_product_40 : decode cX2_product 40 = .ok (.iinc 2 1, 3) := by decide +kernel
theorem dX2_product_43 : decode cX2_product 43 = .ok (.goto (-36), 3) := by decide +kernel
theorem dX2_product_46 : decode cX2_product 46 = .ok (.iload_n 1, 1) := by decide +kernel
theorem dX2_product_47 : decode cX2_product 47 = .ok (.ireturn, 1) := by decide +kernel
theorem dX2_stepThrough_0 : decode cX2_stepThrough 0 = .ok (.iconst 0, 1) := by decide +kernel
theorem dX2_stepThrough_1 : decode cX2_stepThrough 1 = .ok (.istore_n 2, 1) := by decide +kernel
theorem dX2_stepThrough_2 : decode cX2_stepThrough 2 = .ok (.aload_n 0, 1) := by decide +kernel
theorem dX2_stepThrough_3 : decode cX2_stepThrough 3 = .ok (.iconst 0, 1) := by decide +kernel
theorem dX2_stepThrough_4 : decode cX2_stepThrough 4 = .ok (.putfield 35, 3) := by decide +kernel
theorem dX2_stepThrough_7 : decode cX2_stepThrough 7 = .ok (.aload_n 0, 1) := by decide +kernel
theorem dX2_stepThrough_8 : decode cX2_stepThrough 8 = .ok (.iconst 0, 1) := by decide +kernel
theorem dX2_stepThrough_9 : decode cX2_stepThrough 9 = .ok (.putfield 38, 3) := by decide +kernel
theorem dX2_stepThrough_12 : decode cX2_stepThrough 12 = .ok (.aload_n 0, 1) := by decide +kernel
theorem dX2_stepThrough_13 : decode cX2_stepThrough 13 = .ok (.aload_n 0, 1) := by decide +kernel
theorem dX2_stepThrough_14 : decode cX2_stepThrough 14 = .ok (.getfield 12, 3) := by decide +kernel
theorem dX2_stepThrough_17 : decode cX2_stepThrough 17 = .ok (.getfield 80, 3) := by decide +kernel
theorem dX2_stepThrough_20 : decode cX2_stepThrough 20 = .ok (.putfield 41, 3) := by decide +kernel
theorem dX2_stepThrough_23 : decode cX2_stepThrough 23 = .ok (.aload_n 0, 1) := by decide +kernel
theorem dX2_stepThrough_24 : decode cX2_stepThrough 24 = .ok (.iload_n 2, 1) := by decide +kernel
theorem dX2_stepThrough_25 : decode cX2_stepThrough 25 = .ok (.iload_n 1, 1) := by decide +kernel
theorem dX2_stepThrough_26 : decode cX2_stepThrough 26 = .ok (.invokevirtual 83, 3) := by decide +kernel
theorem dX2_stepThrough_29 : decode cX2_stepThrough 29 = .ok (.iconst 0, 1) := by decide +kernel
theorem dX2_stepThrough_30 : decode cX2_stepThrough 30 = .ok (.istore_n 3, 1) := by decide +kernel
theorem dX2_stepThrough_31 : decode cX2_stepThrough 31 = .ok (.iload_n 3, 1) := by decide +kernel
theorem dX2_stepThrough_32 : decode cX2_stepThrough 32 = .ok (.bipush 10, 2) := by decide +kernel
theorem dX2_stepThrough_34 : decode cX2_stepThrough 34 = .ok (.if_icmp .ge 31, 3) := by decide +kernel
theorem dX2_stepThrough_37 : decode cX2_stepThrough 37 = .ok (.aload_n 0, 1) := by decide +kernel
theorem dX2_stepThrough_38 : decode cX2_stepThrough 38 = .ok (.getfield 35, 3) := by decide +kernel
theorem dX2_stepThrough_41 : decode cX2_stepThrough 41 = .ok (.aload_n 0, 1) := by decide +kernel
theorem dX2_stepThrough_42 : decode cX2_stepThrough 42 = .ok (.getfield 38, 3) := by decide +kernel
theorem dX2_stepThrough_45 : decode cX2_stepThrough 45 = .ok (.if_icmp .eq 20, 3) := by decide +kernel
theorem dX2_stepThrough_48 : decode cX2_stepThrough 48 = .ok (.aload_n 0, 1) := by decide +kernel
theorem dX2_stepThrough_49 : decode cX2_stepThrough 49 = .ok (.invokevirtual 87, 3) := by decide +kernel
theorem dX2_stepThrough_52 : decode cX2_stepThrough 52 = .ok (.istore_n 2, 1) := by decide +kernel
theorem dX2_stepThrough_53 : decode cX2_stepThrough 53 = .ok (.aload_n 0, 1) := by decide +kernel
theorem dX2_stepThrough_54 : decode cX2_stepThrough 54 = .ok (.iload_n 2, 1) := by decide +kernel
theorem dX2_stepThrough_55 : decode cX2_stepThrough 55 = .ok (.iload_n 1, 1) := by decide +kernel
theorem dX2_stepThrough_56 : decode cX2_stepThrough 56 = .ok (.invokevirtual 83, 3) := by decide +kernel
theorem dX2_stepThrough_59 : decode cX2_stepThrough 59 = .ok (.iinc 3 1, 3) := by decide +kernel
theorem dX2_stepThrough_62 : decode cX2_stepThrough 62 = .ok (.goto (-31), 3) := by decide +kernel
theorem dX2_stepThrough_65 : decode cX2_stepThrough 65 = .ok (.iload_n 2, 1) := by decide +kernel
theorem dX2_stepThrough_66 : decode cX2_stepThrough 66 = .ok (.ireturn, 1) := by decide +kernel
theorem dX2_beginOn_0 : decode cX2_beginOn 0 = .ok (.iconst 0, 1) := by decide +kernel
theorem dX2_beginOn_1 : decode cX2_beginOn 1 = .ok (.istore_n 3, 1) := by decide +kernel
theorem dX2_beginOn_2 : decode cX2_beginOn 2 = .ok (.iload_n 3, 1) := by decide +kernel
theorem dX2_beginOn_3 : decode cX2_beginOn 3 = .ok (.aload_n 0, 1) := by decide +kernel
theorem dX2_beginOn_4 : decode cX2_beginOn 4 = .ok (.getfield 12, 3) := by decide +kernel
theorem dX2_beginOn_7 : decode cX2_beginOn 7 = .ok (.getfield 53, 3) := by decide +kernel
theorem dX2_beginOn_10 : decode cX2_beginOn 10 = .ok (.if_icmp .ge 148, 3) := by decide +kernel
theorem dX2_beginOn_13 : decode cX2_beginOn 13 = .ok (.aload_n 0, 1) := by decide +kernel
theorem dX2_beginOn_14 : decode cX2_beginOn 14 = .ok (.getfield 12, 3) := by decide +kernel
theorem dX2_beginOn_17 : decode cX2_beginOn 17 = .ok (.getfield 56, 3) := by decide +kernel
theorem dX2_beginOn_20 : decode cX2_beginOn 20 = .ok (.iload_n 3, 1) := by decide +kernel
theorem dX2_beginOn_21 : decode cX2_beginOn 21 = .ok (.aaload, 1) := by decide +kernel
theorem dX2_beginOn_22 : decode cX2_beginOn 22 = .ok (.astore 4, 2) := by decide +kernel
theorem dX2_beginOn_24 : decode cX2_beginOn 24 = .ok (.iconst 1, 1) := by decide +kernel
theorem dX2_beginOn_25 : decode cX2_beginOn 25 = .ok (.iload_n 3, 1) := by decide +kernel
theorem dX2_beginOn_26 : decode cX2_beginOn 26 = .ok (.ishl, 1) := by decide +kernel
theorem dX2_beginOn_27 : decode cX2_beginOn 27 = .ok (.istore 5, 2) := by decide +kernel
theorem dX2_beginOn_29 : decode cX2_beginOn 29 = .ok (.aload_n 0, 1) := by decide +kernel
theorem dX2_beginOn_30 : decode cX2_beginOn 30 = .ok (.getfield 35, 3) := by decide +kernel
theorem dX2_beginOn_33 : decode cX2_beginOn 33 = .ok (.iload 5, 2) := by decide +kernel
theorem dX2_beginOn_35 : decode cX2_beginOn 35 = .ok (.iand, 1) := by decide +kernel
theorem dX2_beginOn_36 : decode cX2_beginOn 36 = .ok (.ifCond .ne 116, 3) := by decide +kernel
theorem dX2_beginOn_39 : decode cX2_beginOn 39 = .ok (.aload 4, 2) := by decide +kernel
theorem dX2_beginOn_41 : decode cX2_beginOn 41 = .ok (.getfield 91, 3) := by decide +kernel
theorem dX2_beginOn_44 : decode cX2_beginOn 44 = .ok (.aload_n 0, 1) := by decide +kernel
theorem dX2_beginOn_45 : decode cX2_beginOn 45 = .ok (.getfield 38, 3) := by decide +kernel
theorem dX2_beginOn_48 : decode cX2_beginOn 48 = .ok (.iconst (-1), 1) := by decide +kernel
theorem dX2_beginOn_49 : decode cX2_beginOn 49 = .ok (.ixor, 1) := by decide +kernel
theorem dX2_beginOn_50 : decode cX2_beginOn 50 = .ok (.iand, 1) := by decide +kernel
theorem dX2_beginOn_51 : decode cX2_beginOn 51 = .ok (.ifCond .ne 101, 3) := by decide +kernel
theorem dX2_beginOn_54 : decode cX2_beginOn 54 = .ok (.aload 4, 2) := by decide +kernel
theorem dX2_beginOn_56 : decode cX2_beginOn 56 = .ok (.getfield 94, 3) := by decide +kernel
theorem dX2_beginOn_59 : decode cX2_beginOn 59 = .ok (.aload_n 0, 1) := by decide +kernel
theorem dX2_beginOn_60 : decode cX2_beginOn 60 = .ok (.getfield 41, 3) := by decide +kernel
theorem dX2_beginOn_63 : decode cX2_beginOn 63 = .ok (.if_icmp .gt 89, 3) := by decide +kernel
theorem dX2_beginOn_66 : decode cX2_beginOn 66 = .ok (.aload 4, 2) := by decide +kernel
theorem dX2_beginOn_68 : decode cX2_beginOn 68 = .ok (.getfield 97, 3) := by decide +kernel
theorem dX2_beginOn_71 : decode cX2_beginOn 71 = .ok (.aload_n 0, 1) := by decide +kernel
theorem dX2_beginOn_72 : decode cX2_beginOn 72 = .ok (.getfield 18, 3) := by decide +kernel
theorem dX2_beginOn_75 : decode cX2_beginOn 75 = .ok (.iload_n 3, 1) := by decide +kernel
theorem dX2_beginOn_76 : decode cX2_beginOn 76 = .ok (.iaload, 1) := by decide +kernel
theorem dX2_beginOn_77 : decode cX2_beginOn 77 = .ok (.iaload, 1) := by decide +kernel
theorem dX2_beginOn_78 : decode cX2_beginOn 78 = .ok (.aload_n 0, 1) := by decide +kernel
theorem dX2_beginOn_79 : decode cX2_beginOn 79 = .ok (.getfield 22, 3) := by decide +kernel
theorem dX2_beginOn_82 : decode cX2_beginOn 82 = .ok (.iload_n 3, 1) := by decide +kernel
theorem dX2_beginOn_83 : decode cX2_beginOn 83 = .ok (.iaload, 1) := by decide +kernel
theorem dX2_beginOn_84 : decode cX2_beginOn 84 = .ok (.iadd, 1) := by decide +kernel
theorem dX2_beginOn_85 : decode cX2_beginOn 85 = .ok (.iload_n 3, 1) := by decide +kernel
theorem dX2_beginOn_86 : decode cX2_beginOn 86 = .ok (.iload_n 2, 1) := by decide +kernel
theorem dX2_beginOn_87 : decode cX2_beginOn 87 = .ok (.if_icmp .ne 7, 3) := by decide +kernel
theorem dX2_beginOn_90 : decode cX2_beginOn 90 = .ok (.iconst 1, 1) := by decide +kernel
theorem dX2_beginOn_91 : decode cX2_beginOn 91 = .ok (.goto 4, 3) := by decide +kernel
theorem dX2_beginOn_94 : decode cX2_beginOn 94 = .ok (.iconst 0, 1) := by decide +kernel
theorem dX2_beginOn_95 : decode cX2_beginOn 95 = .ok (.iadd, 1) := by decide +kernel
theorem dX2_beginOn_96 : decode cX2_beginOn 96 = .ok (.istore 6, 2) := by decide +kernel
theorem dX2_beginOn_98 : decode cX2_beginOn 98 = .ok (.aload_n 0, 1) := by decide +kernel
theorem dX2_beginOn_99 : decode cX2_beginOn 99 = .ok (.dup, 1) := by decide +kernel
theorem dX2_beginOn_100 : decode cX2_beginOn 100 = .ok (.getfield 35, 3) := by decide +kernel
theorem dX2_beginOn_103 : decode cX2_beginOn 103 = .ok (.iload 5, 2) := by decide +kernel
theorem dX2_beginOn_105 : decode cX2_beginOn 105 = .ok (.ior, 1) := by decide +kernel
theorem dX2_beginOn_106 : decode cX2_beginOn 106 = .ok (.putfield 35, 3) := by decide +kernel
theorem dX2_beginOn_109 : decode cX2_beginOn 109 = .ok (.aload_n 0, 1) := by decide +kernel
theorem dX2_beginOn_110 : decode cX2_beginOn 110 = .ok (.getfield 25, 3) := by decide +kernel
theorem dX2_beginOn_113 : decode cX2_beginOn 113 = .ok (.iload_n 3, 1) := by decide +kernel
theorem dX2_beginOn_114 : decode cX2_beginOn 114 = .ok (.iload_n 1, 1) := by decide +kernel
theorem dX2_beginOn_115 : decode cX2_beginOn 115 = .ok (.iload 6, 2) := by decide +kernel
theorem dX2_beginOn_117 : decode cX2_beginOn 117 = .ok (.iadd, 1) := by decide +kernel
theorem dX2_beginOn_118 : decode cX2_beginOn 118 = .ok (.iastore, 1) := by decide +kernel
theorem dX2_beginOn_119 : decode cX2_beginOn 119 = .ok (.iload 6, 2) := by decide +kernel
theorem dX2_beginOn_121 : decode cX2_beginOn 121 = .ok (.ifCond .ne 17, 3) := by decide +kernel
theorem dX2_beginOn_124 : decode cX2_beginOn 124 = .ok (.aload_n 0, 1) := by decide +kernel
theorem dX2_beginOn_125 : decode cX2_beginOn 125 = .ok (.dup, 1) := by decide +kernel
theorem dX2_beginOn_126 : decode cX2_beginOn 126 = .ok (.getfield 38, 3) := by decide +kernel
theorem dX2_beginOn_129 : decode cX2_beginOn 129 = .ok (.iload 5, 2) := by decide +kernel
theorem dX2_beginOn_131 : decode cX2_beginOn 131 = .ok (.ior, 1) := by decide +kernel
theorem dX2_beginOn_132 : decode cX2_beginOn 132 = .ok (.putfield 38, 3) := by decide +kernel
theorem dX2_beginOn_135 : decode cX2_beginOn 135 = .ok (.goto 17, 3) := by decide +kernel
theorem dX2_beginOn_138 : decode cX2_beginOn 138 = .ok (.aload_n 0, 1) := by decide +kernel
theorem dX2_beginOn_139 : decode cX2_beginOn 139 = .ok (.dup, 1) := by decide +kernel
theorem dX2_beginOn_140 : decode cX2_beginOn 140 = .ok (.getfield 41, 3) := by decide +kernel
theorem dX2_beginOn_143 : decode cX2_beginOn 143 = .ok (.aload 4, 2) := by decide +kernel
theorem dX2_beginOn_145 : decode cX2_beginOn 145 = .ok (.getfield 94, 3) := by decide +kernel
theorem dX2_beginOn_148 : decode cX2_beginOn 148 = .ok (.isub, 1) := by decide +kernel
theorem dX2_beginOn_149 : decode cX2_beginOn 149 = .ok (.putfield 41, 3) := by decide +kernel
theorem dX2_beginOn_152 : decode cX2_beginOn 152 = .ok (.iinc 3 1, 3) := by decide +kernel
theorem dX2_beginOn_155 : decode cX2_beginOn 155 = .ok (.goto (-153), 3) := by decide +kernel
theorem dX2_beginOn_158 : decode cX2_beginOn 158 = .ok (.return_, 1) := by decide +kernel
theorem dX2_endNext_0 : decode cX2_endNext 0 = .ok (.aload_n 0, 1) := by decide +kernel
theorem dX2_endNext_1 : decode cX2_endNext 1 = .ok (.getfield 35, 3) := by decide +kernel
theorem dX2_endNext_4 : decode cX2_endNext 4 = .ok (.aload_n 0, 1) := by decide +kernel
theorem dX2_endNext_5 : decode cX2_endNext 5 = .ok (.getfield 38, 3) := by decide +kernel
theorem dX2_endNext_8 : decode cX2_endNext 8 = .ok (.iconst (-1), 1) := by decide +kernel
theorem dX2_endNext_9 : decode cX2_endNext 9 = .ok (.ixor, 1) := by decide +kernel
theorem dX2_endNext_10 : decode cX2_endNext 10 = .ok (.iand, 1) := by decide +kernel
theorem dX2_endNext_11 : decode cX2_endNext 11 = .ok (.istore_n 1, 1) := by decide +kernel
theorem dX2_endNext_12 : decode cX2_endNext 12 = .ok (.ldc 100, 2) := by decide +kernel
theorem dX2_endNext_14 : decode cX2_endNext 14 = .ok (.istore_n 2, 1) := by decide +kernel
theorem dX2_endNext_15 : decode cX2_endNext 15 = .ok (.iconst 0, 1) := by decide +kernel
theorem dX2_endNext_16 : decode cX2_endNext 16 = .ok (.istore_n 3, 1) := by decide +kernel
theorem dX2_endNext_17 : decode cX2_endNext 17 = .ok (.iconst 0, 1) := by decide +kernel
theorem dX2_endNext_18 : decode cX2_endNext 18 = .ok (.istore 4, 2) := by decide +kernel
theorem dX2_endNext_20 : decode cX2_endNext 20 = .ok (.iconst 0, 1) := by decide +kernel
theorem dX2_endNext_21 : decode cX2_endNext 21 = .ok (.istore 5, 2) := by decide +kernel
theorem dX2_endNext_23 : decode cX2_endNext 23 = .ok (.iload 5, 2) := by decide +kernel
theorem dX2_endNext_25 : decode cX2_endNext 25 = .ok (.aload_n 0, 1) := by decide +kernel
theorem dX2_endNext_26 : decode cX2_endNext 26 = .ok (.getfield 12, 3) := by decide +kernel
theorem dX2_endNext_29 : decode cX2_endNext 29 = .ok (.getfield 53, 3) := by decide +kernel
theorem dX2_endNext_32 : decode cX2_endNext 32 = .ok (.if_icmp .ge 78, 3) := by decide +kernel
theorem dX2_endNext_35 : decode cX2_endNext 35 = .ok (.iload_n 1, 1) := by decide +kernel
theorem dX2_endNext_36 : decode cX2_endNext 36 = .ok (.iload 5, 2) := by decide +kernel
theorem dX2_endNext_38 : decode cX2_endNext 38 = .ok (.ishr, 1) := by decide +kernel
theorem dX2_endNext_39 : decode cX2_endNext 39 = .ok (.iconst 1, 1) := by decide +kernel
theorem dX2_endNext_40 : decode cX2_endNext 40 = .ok (.iand, 1) := by decide +kernel
theorem dX2_endNext_41 : decode cX2_endNext 41 = .ok (.ifCond .eq 63, 3) := by decide +kernel
theorem dX2_endNext_44 : decode cX2_endNext 44 = .ok (.aload_n 0, 1) := by decide +kernel
theorem dX2_endNext_45 : decode cX2_endNext 45 = .ok (.getfield 25, 3) := by decide +kernel
theorem dX2_endNext_48 : decode cX2_endNext 48 = .ok (.iload 5, 2) := by decide +kernel
theorem dX2_endNext_50 : decode cX2_endNext 50 = .ok (.iaload, 1) := by decide +kernel
theorem dX2_endNext_51 : decode cX2_endNext 51 = .ok (.iload_n 2, 1) := by decide +kernel
theorem dX2_endNext_52 : decode cX2_endNext 52 = .ok (.if_icmp .gt 52, 3) := by decide +kernel
theorem dX2_endNext_55 : decode cX2_endNext 55 = .ok (.aload_n 0, 1) := by decide +kernel
theorem dX2_endNext_56 : decode cX2_endNext 56 = .ok (.getfield 25, 3) := by decide +kernel
theorem dX2_endNext_59 : decode cX2_endNext 59 = .ok (.iload 5, 2) := by decide +kernel
theorem dX2_endNext_61 : decode cX2_endNext 61 = .ok (.iaload, 1) := by decide +kernel
theorem dX2_endNext_62 : decode cX2_endNext 62 = .ok (.iload_n 2, 1) := by decide +kernel
theorem dX2_endNext_63 : decode cX2_endNext 63 = .ok (.if_icmp .ge 16, 3) := by decide +kernel
theorem dX2_endNext_66 : decode cX2_endNext 66 = .ok (.aload_n 0, 1) := by decide +kernel
theorem dX2_endNext_67 : decode cX2_endNext 67 = .ok (.getfield 25, 3) := by decide +kernel
theorem dX2_endNext_70 : decode cX2_endNext 70 = .ok (.iload 5, 2) := by decide +kernel
theorem dX2_endNext_72 : decode cX2_endNext 72 = .ok (.iaload, 1) := by decide +kernel
theorem dX2_endNext_73 : decode cX2_endNext 73 = .ok (.istore_n 2, 1) := by decide +kernel
theorem dX2_endNext_74 : decode cX2_endNext 74 = .ok (.iconst 0, 1) := by decide +kernel
theorem dX2_endNext_75 : decode cX2_endNext 75 = .ok (.istore_n 3, 1) := by decide +kernel
theorem dX2_endNext_76 : decode cX2_endNext 76 = .ok (.iconst 0, 1) := by decide +kernel
theorem dX2_endNext_77 : decode cX2_endNext 77 = .ok (.istore 4, 2) := by decide +kernel
theorem dX2_endNext_79 : decode cX2_endNext 79 = .ok (.iload_n 3, 1) := by decide +kernel
theorem dX2_endNext_80 : decode cX2_endNext 80 = .ok (.iconst 1, 1) := by decide +kernel
theorem dX2_endNext_81 : decode cX2_endNext 81 = .ok (.iload 5, 2) := by decide +kernel
theorem dX2_endNext_83 : decode cX2_endNext 83 = .ok (.ishl, 1) := by decide +kernel
theorem dX2_endNext_84 : decode cX2_endNext 84 = .ok (.ior, 1) := by decide +kernel
theorem dX2_endNext_85 : decode cX2_endNext 85 = .ok (.istore_n 3, 1) := by decide +kernel
theorem dX2_endNext_86 : decode cX2_endNext 86 = .ok (.iload 4, 2) := by decide +kernel
theorem dX2_endNext_88 : decode cX2_endNext 88 = .ok (.aload_n 0, 1) := by decide +kernel
theorem dX2_endNext_89 : decode cX2_endNext 89 = .ok (.getfield 12, 3) := by decide +kernel
theorem dX2_endNext_92 : decode cX2_endNext 92 = .ok (.getfield 56, 3) := by decide +kernel
theorem dX2_endNext_95 : decode cX2_endNext 95 = .ok (.iload 5, 2) := by decide +kernel
theorem dX2_endNext_97 : decode cX2_endNext 97 = .ok (.aaload, 1) := by decide +kernel
theorem dX2_endNext_98 : decode cX2_endNext 98 = .ok (.getfield 94, 3) := by decide +kernel
theorem dX2_endNext_101 : decode cX2_endNext 101 = .ok (.iadd, 1) := by decide +kernel
theorem dX2_endNext_102 : decode cX2_endNext 102 = .ok (.istore 4, 2) := by decide +kernel
theorem dX2_endNext_104 : decode cX2_endNext 104 = .ok (.iinc 5 1, 3) := by decide +kernel
theorem dX2_endNext_107 : decode cX2_endNext 107 = .ok (.goto (-84), 3) := by decide +kernel
theorem dX2_endNext_110 : decode cX2_endNext 110 = .ok (.aload_n 0, 1) := by decide +kernel
theorem dX2_endNext_111 : decode cX2_endNext 111 = .ok (.dup, 1) := by decide +kernel
theorem dX2_endNext_112 : decode cX2_endNext 112 = .ok (.getfield 38, 3) := by decide +kernel
theorem dX2_endNext_115 : decode cX2_endNext 115 = .ok (.iload_n 3, 1) := by decide +kernel
theorem dX2_endNext_116 : decode cX2_endNext 116 = .ok (.ior, 1) := by decide +kernel
theorem dX2_endNext_117 : decode cX2_endNext 117 = .ok (.putfield 38, 3) := by decide +kernel
theorem dX2_endNext_120 : decode cX2_endNext 120 = .ok (.aload_n 0, 1) := by decide +kernel
theorem dX2_endNext_121 : decode cX2_endNext 121 = .ok (.dup, 1) := by decide +kernel
theorem dX2_endNext_122 : decode cX2_endNext 122 = .ok (.getfield 41, 3) := by decide +kernel
theorem dX2_endNext_125 : decode cX2_endNext 125 = .ok (.iload 4, 2) := by decide +kernel
theorem dX2_endNext_127 : decode cX2_endNext 127 = .ok (.iadd, 1) := by decide +kernel
theorem dX2_endNext_128 : decode cX2_endNext 128 = .ok (.putfield 41, 3) := by decide +kernel
theorem dX2_endNext_131 : decode cX2_endNext 131 = .ok (.iload_n 2, 1) := by decide +kernel
theorem dX2_endNext_132 : decode cX2_endNext 132 = .ok (.ireturn, 1) := by decide +kernel
theorem dX2_agreesWithWhatCame_0 : decode cX2_agreesWithWhatCame 0 = .ok (.iconst 0, 1) := by decide +kernel
theorem dX2_agreesWithWhatCame_1 : decode cX2_agreesWithWhatCame 1 = .ok (.istore_n 1, 1) := by decide +kernel
theorem dX2_agreesWithWhatCame_2 : decode cX2_agreesWithWhatCame 2 = .ok (.iload_n 1, 1) := by decide +kernel
theorem dX2_agreesWithWhatCame_3 : decode cX2_agreesWithWhatCame 3 = .ok (.aload_n 0, 1) := by decide +kernel
theorem dX2_agreesWithWhatCame_4 : decode cX2_agreesWithWhatCame 4 = .ok (.getfield 12, 3) := by decide +kernel
theorem dX2_agreesWithWhatCame_7 : decode cX2_agreesWithWhatCame 7 = .ok (.getfield 53, 3) := by decide +kernel
theorem dX2_agreesWithWhatCame_10 : decode cX2_agreesWithWhatCame 10 = .ok (.if_icmp .ge 68, 3) := by decide +kernel
theorem dX2_agreesWithWhatCame_13 : decode cX2_agreesWithWhatCame 13 = .ok (.aload_n 0, 1) := by decide +kernel
theorem dX2_agreesWithWhatCame_14 : decode cX2_agreesWithWhatCame 14 = .ok (.getfield 12, 3) := by decide +kernel
theorem dX2_agreesWithWhatCame_17 : decode cX2_agreesWithWhatCame 17 = .ok (.getfield 56, 3) := by decide +kernel
theorem dX2_agreesWithWhatCame_20 : decode cX2_agreesWithWhatCame 20 = .ok (.iload_n 1, 1) := by decide +kernel
theorem dX2_agreesWithWhatCame_21 : decode cX2_agreesWithWhatCame 21 = .ok (.aaload, 1) := by decide +kernel
theorem dX2_agreesWithWhatCame_22 : decode cX2_agreesWithWhatCame 22 = .ok (.getfield 101, 3) := by decide +kernel
theorem dX2_agreesWithWhatCame_25 : decode cX2_agreesWithWhatCame 25 = .ok (.istore_n 2, 1) := by decide +kernel
theorem dX2_agreesWithWhatCame_26 : decode cX2_agreesWithWhatCame 26 = .ok (.iload_n 2, 1) := by decide +kernel
theorem dX2_agreesWithWhatCame_27 : decode cX2_agreesWithWhatCame 27 = .ok (.iconst (-1), 1) := by decide +kernel
theorem dX2_agreesWithWhatCame_28 : decode cX2_agreesWithWhatCame 28 = .ok (.if_icmp .eq 15, 3) := by decide +kernel
theorem dX2_agreesWithWhatCame_31 : decode cX2_agreesWithWhatCame 31 = .ok (.aload_n 0, 1) := by decide +kernel
theorem dX2_agreesWithWhatCame_32 : decode cX2_agreesWithWhatCame 32 = .ok (.getfield 25, 3) := by decide +kernel
theorem dX2_agreesWithWhatCame_35 : decode cX2_agreesWithWhatCame 35 = .ok (.iload_n 1, 1) := by decide +kernel
theorem dX2_agreesWithWhatCame_36 : decode cX2_agreesWithWhatCame 36 = .ok (.iaload, 1) := by decide +kernel
theorem dX2_agreesWithWhatCame_37 : decode cX2_agreesWithWhatCame 37 = .ok (.iload_n 2, 1) := by decide +kernel
theorem dX2_agreesWithWhatCame_38 : decode cX2_agreesWithWhatCame 38 = .ok (.if_icmp .eq 34, 3) := by decide +kernel
theorem dX2_agreesWithWhatCame_41 : decode cX2_agreesWithWhatCame 41 = .ok (.iconst 0, 1) := by decide +kernel
theorem dX2_agreesWithWhatCame_42 : decode cX2_agreesWithWhatCame 42 = .ok (.ireturn, 1) := by decide +kernel
theorem dX2_agreesWithWhatCame_43 : decode cX2_agreesWithWhatCame 43 = .ok (.aload_n 0, 1) := by decide +kernel
theorem dX2_agreesWithWhatCame_44 : decode cX2_agreesWithWhatCame 44 = .ok (.getfield 12, 3) := by decide +kernel
theorem dX2_agreesWithWhatCame_47 : decode cX2_agreesWithWhatCame 47 = .ok (.getfield 104, 3) := by decide +kernel
theorem dX2_agreesWithWhatCame_50 : decode cX2_agreesWithWhatCame 50 = .ok (.iconst (-1), 1) := by decide +kernel
theorem dX2_agreesWithWhatCame_51 : decode cX2_agreesWithWhatCame 51 = .ok (.if_icmp .eq 21, 3) := by decide +kernel
theorem dX2_agreesWithWhatCame_54 : decode cX2_agreesWithWhatCame 54 = .ok (.aload_n 0, 1) := by decide +kernel
theorem dX2_agreesWithWhatCame_55 : decode cX2_agreesWithWhatCame 55 = .ok (.getfield 25, 3) := by decide +kernel
theorem dX2_agreesWithWhatCame_58 : decode cX2_agreesWithWhatCame 58 = .ok (.iload_n 1, 1) := by decide +kernel
theorem dX2_agreesWithWhatCame_59 : decode cX2_agreesWithWhatCame 59 = .ok (.iaload, 1) := by decide +kernel
theorem dX2_agreesWithWhatCame_60 : decode cX2_agreesWithWhatCame 60 = .ok (.aload_n 0, 1) := by decide +kernel
theorem dX2_agreesWithWhatCame_61 : decode cX2_agreesWithWhatCame 61 = .ok (.getfield 12, 3) := by decide +kernel
theorem dX2_agreesWithWhatCame_64 : decode cX2_agreesWithWhatCame 64 = .ok (.getfield 104, 3) := by decide +kernel
theorem dX2_agreesWithWhatCame_67 : decode cX2_agreesWithWhatCame 67 = .ok (.if_icmp .gt 5, 3) := by decide +kernel
theorem dX2_agreesWithWhatCame_70 : decode cX2_agreesWithWhatCame 70 = .ok (.iconst 0, 1) := by decide +kernel
theorem dX2_agreesWithWhatCame_71 : decode cX2_agreesWithWhatCame 71 = .ok (.ireturn, 1) := by decide +kernel
theorem dX2_agreesWithWhatCame_72 : decode cX2_agreesWithWhatCame 72 = .ok (.iinc 1 1, 3) := by decide +kernel
theorem dX2_agreesWithWhatCame_75 : decode cX2_agreesWithWhatCame 75 = .ok (.goto (-73), 3) := by decide +kernel
theorem dX2_agreesWithWhatCame_78 : decode cX2_agreesWithWhatCame 78 = .ok (.iconst 1, 1) := by decide +kernel
theorem dX2_agreesWithWhatCame_79 : decode cX2_agreesWithWhatCame 79 = .ok (.ireturn, 1) := by decide +kernel
theorem dX3_init_0 : decode cX3_init 0 = .ok (.aload_n 0, 1) := by decide +kernel
theorem dX3_init_1 : decode cX3_init 1 = .ok (.invokespecial 3, 3) := by decide +kernel
theorem dX3_init_4 : decode cX3_init 4 = .ok (.aload_n 0, 1) := by decide +kernel
theorem dX3_init_5 : decode cX3_init 5 = .ok (.sipush 199, 3) := by decide +kernel
theorem dX3_init_8 : decode cX3_init 8 = .ok (.newarray .long, 2) := by decide +kernel
theorem dX3_init_10 : decode cX3_init 10 = .ok (.putfield 9, 3) := by decide +kernel
theorem dX3_init_13 : decode cX3_init 13 = .ok (.return_, 1) := by decide +kernel
theorem dX3_empty_0 : decode cX3_empty 0 = .ok (.aload_n 0, 1) := by decide +kernel
theorem dX3_empty_1 : decode cX3_empty 1 = .ok (.getfield 9, 3) := by decide +kernel
theorem dX3_empty_4 : decode cX3_empty 4 = .ok (.lconst 0, 1) := by decide +kernel
theorem dX3_empty_5 : decode cX3_empty 5 = .ok (.invokestatic 15, 3) := by decide +kernel
theorem dX3_empty_8 : decode cX3_empty 8 = .ok (.return_, 1) := by decide +kernel
theorem dX3_add_0 : decode cX3_add 0 = .ok (.iload_n 1, 1) := by decide +kernel
theorem dX3_add_1 : decode cX3_add 1 = .ok (.ifCond .lt 22, 3) := by decide +kernel
theorem dX3_add_4 : decode cX3_add 4 = .ok (.iload_n 1, 1) := by decide +kernel
theorem dX3_add_5 : decode cX3_add 5 = .ok (.aload_n 0, 1) := by decide +kernel
theorem dX3_add_6 : decode cX3_add 6 = .ok (.getfield 9, 3) := by decide +kernel
theorem dX3_add_9 : decode cX3_add 9 = .ok (.arraylength, 1) := by decide +kernel
theorem dX3_add_10 : decode cX3_add 10 = .ok (.if_icmp .ge 13, 3) := by decide +kernel
theorem dX3_add_13 : decode cX3_add 13 = .ok (.aload_n 0, 1) := by decide +kernel
theorem dX3_add_14 : decode cX3_add 14 = .ok (.getfield 9, 3) := by decide +kernel
theorem dX3_add_17 : decode cX3_add 17 = .ok (.iload_n 1, 1) := by decide +kernel
theorem dX3_add_18 : decode cX3_add 18 = .ok (.dup2, 1) := by decide +kernel
theorem dX3_add_19 : decode cX3_add 19 = .ok (.laload, 1) := by decide +kernel
theorem dX3_add_20 : decode cX3_add 20 = .ok (.lload_n 2, 1) := by decide +kernel
theorem dX3_add_21 : decode cX3_add 21 = .ok (.ladd, 1) := by decide +kernel
theorem dX3_add_22 : decode cX3_add 22 = .ok (.lastore, 1) := by decide +kernel
theorem dX3_add_23 : decode cX3_add 23 = .ok (.return_, 1) := by decide +kernel
theorem dX3_addOnce_0 : decode cX3_addOnce 0 = .ok (.iconst 0, 1) := by decide +kernel
theorem dX3_addOnce_1 : decode cX3_addOnce 1 = .ok (.istore 4, 2) := by decide +kernel
theorem dX3_addOnce_3 : decode cX3_addOnce 3 = .ok (.iload 4, 2) := by decide +kernel
theorem dX3_addOnce_5 : decode cX3_addOnce 5 = .ok (.aload_n 1, 1) := by decide +kernel
theorem dX3_addOnce_6 : decode cX3_addOnce 6 = .ok (.getfield 21, 3) := by decide +kernel
theorem dX3_addOnce_9 : decode cX3_addOnce 9 = .ok (.if_icmp .ge 30, 3) := by decide +kernel
theorem dX3_addOnce_12 : decode cX3_addOnce 12 = .ok (.aload_n 0, 1) := by decide +kernel
theorem dX3_addOnce_13 : decode cX3_addOnce 13 = .ok (.aload_n 1, 1) := by decide +kernel
theorem dX3_addOnce_14 : decode cX3_addOnce 14 = .ok (.getfield 27, 3) := by decide +kernel
theorem dX3_addOnce_17 : decode cX3_addOnce 17 = .ok (.iload 4, 2) := by decide +kernel
theorem dX3_addOnce_19 : decode cX3_addOnce 19 = .ok (.iaload, 1) := by decide +kernel
theorem dX3_addOnce_20 : decode cX3_addOnce 20 = .ok (.lload_n 2, 1) := by decide +kernel
theorem dX3_addOnce_21 : decode cX3_addOnce 21 = .ok (.aload_n 1, 1) := by decide +kernel
theorem dX3_addOnce_22 : decode cX3_addOnce 22 = .ok (.getfield 31, 3) := by decide +kernel
theorem dX3_addOnce_25 : decode cX3_addOnce 25 = .ok (.iload 4, 2) := by decide +kernel
theorem dX3_addOnce_27 : decode cX3_addOnce 27 = .ok (.iaload, 1) := by decide +kernel
theorem dX3_addOnce_28 : decode cX3_addOnce 28 = .ok (.i2l, 1) := by decide +kernel
theorem dX3_addOnce_29 : decode cX3_addOnce 29 = .ok (.lmul, 1) := by decide +kernel
theorem dX3_addOnce_30 : decode cX3_addOnce 30 = .ok (.invokevirtual 34, 3) := by decide +kernel
theorem dX3_addOnce_33 : decode cX3_addOnce 33 = .ok (.iinc 4 1, 3) := by decide +kernel
theorem dX3_addOnce_36 : decode cX3_addOnce 36 = .ok (.goto (-33), 3) := by decide +kernel
theorem dX3_addOnce_39 : decode cX3_addOnce 39 = .ok (.return_, 1) := by decide +kernel
theorem dX3_addTwice_0 : decode cX3_addTwice 0 = .ok (.iconst 0, 1) := by decide +kernel
theorem dX3_addTwice_1 : decode cX3_addTwice 1 = .ok (.istore 4, 2) := by decide +kernel
theorem dX3_addTwice_3 : decode cX3_addTwice 3 = .ok (.iload 4, 2) := by decide +kernel
theorem dX3_addTwice_5 : decode cX3_addTwice 5 = .ok (.aload_n 1, 1) := by decide +kernel
theorem dX3_addTwice_6 : decode cX3_addTwice 6 = .ok (.getfield 21, 3) := by decide +kernel
theorem dX3_addTwice_9 : decode cX3_addTwice 9 = .ok (.if_icmp .ge 65, 3) := by decide +kernel
theorem dX3_addTwice_12 : decode cX3_addTwice 12 = .ok (.iconst 0, 1) := by decide +kernel
theorem dX3_addTwice_13 : decode cX3_addTwice 13 = .ok (.istore 5, 2) := by decide +kernel
theorem dX3_addTwice_15 : decode cX3_addTwice 15 = .ok (.iload 5, 2) := by decide +kernel
theorem dX3_addTwice_17 : decode cX3_addTwice 17 = .ok (.aload_n 1, 1) := by decide +kernel
theorem dX3_addTwice_18 : decode cX3_addTwice 18 = .ok (.getfield 21, 3) := by decide +kernel
theorem dX3_addTwice_21 : decode cX3_addTwice 21 = .ok (.if_icmp .ge 47, 3) := by decide +kernel
theorem dX3_addTwice_24 : decode cX3_addTwice 24 = .ok (.aload_n 0, 1) := by decide +kernel
theorem dX3_addTwice_25 : decode cX3_addTwice 25 = .ok (.aload_n 1, 1) := by decide +kernel
theorem dX3_addTwice_26 : decode cX3_addTwice 26 = .ok (.getfield 27, 3) := by decide +kernel
theorem dX3_addTwice_29 : decode cX3_addTwice 29 = .ok (.iload 4, 2) := by decide +kernel
theorem dX3_addTwice_31 : decode cX3_addTwice 31 = .ok (.iaload, 1) := by decide +kernel
theorem dX3_addTwice_32 : decode cX3_addTwice 32 = .ok (.aload_n 1, 1) := by decide +kernel
theorem dX3_addTwice_33 : decode cX3_addTwice 33 = .ok (.getfield 27, 3) := by decide +kernel
theorem dX3_addTwice_36 : decode cX3_addTwice 36 = .ok (.iload 5, 2) := by decide +kernel
theorem dX3_addTwice_38 : decode cX3_addTwice 38 = .ok (.iaload, 1) := by decide +kernel
theorem dX3_addTwice_39 : decode cX3_addTwice 39 = .ok (.iadd, 1) := by decide +kernel
theorem dX3_addTwice_40 : decode cX3_addTwice 40 = .ok (.lload_n 2, 1) := by decide +kernel
theorem dX3_addTwice_41 : decode cX3_addTwice 41 = .ok (.aload_n 1, 1) := by decide +kernel
theorem dX3_addTwice_42 : decode cX3_addTwice 42 = .ok (.getfield 31, 3) := by decide +kernel
theorem dX3_addTwice_45 : decode cX3_addTwice 45 = .ok (.iload 4, 2) := by decide +kernel
theorem dX3_addTwice_47 : decode cX3_addTwice 47 = .ok (.iaload, 1) := by decide +kernel
theorem dX3_addTwice_48 : decode cX3_addTwice 48 = .ok (.i2l, 1) := by decide +kernel
theorem dX3_addTwice_49 : decode cX3_addTwice 49 = .ok (.lmul, 1) := by decide +kernel
theorem dX3_addTwice_50 : decode cX3_addTwice 50 = .ok (.aload_n 1, 1) := by decide +kernel
theorem dX3_addTwice_51 : decode cX3_addTwice 51 = .ok (.getfield 31, 3) := by decide +kernel
theorem dX3_addTwice_54 : decode cX3_addTwice 54 = .ok (.iload 5, 2) := by decide +kernel
theorem dX3_addTwice_56 : decode cX3_addTwice 56 = .ok (.iaload, 1) := by decide +kernel
theorem dX3_addTwice_57 : decode cX3_addTwice 57 = .ok (.i2l, 1) := by decide +kernel
theorem dX3_addTwice_58 : decode cX3_addTwice 58 = .ok (.lmul, 1) := by decide +kernel
theorem dX3_addTwice_59 : decode cX3_addTwice 59 = .ok (.invokevirtual 34, 3) := by decide +kernel
theorem dX3_addTwice_62 : decode cX3_addTwice 62 = .ok (.iinc 5 1, 3) := by decide +kernel
theorem dX3_addTwice_65 : decode cX3_addTwice 65 = .ok (.goto (-50), 3) := by decide +kernel
theorem dX3_addTwice_68 : decode cX3_addTwice 68 = .ok (.iinc 4 1, 3) := by decide +kernel
theorem dX3_addTwice_71 : decode cX3_addTwice 71 = .ok (.goto (-68), 3) := by decide +kernel
theorem dX3_addTwice_74 : decode cX3_addTwice 74 = .ok (.return_, 1) := by decide +kernel
theorem dX3_makeLess_0 : decode cX3_makeLess 0 = .ok (.lconst 0, 1) := by decide +kernel
theorem dX3_makeLess_1 : decode cX3_makeLess 1 = .ok (.lstore_n 1, 1) := by decide +kernel
theorem dX3_makeLess_2 : decode cX3_makeLess 2 = .ok (.iconst 0, 1) := by decide +kernel
theorem dX3_makeLess_3 : decode cX3_makeLess 3 = .ok (.istore_n 3, 1) := by decide +kernel
theorem dX3_makeLess_4 : decode cX3_makeLess 4 = .ok (.iload_n 3, 1) := by decide +kernel
theorem dX3_makeLess_5 : decode cX3_makeLess 5 = .ok (.aload_n 0, 1) := by decide +kernel
theorem dX3_makeLess_6 : decode cX3_makeLess 6 = .ok (.getfield 9, 3) := by decide +kernel
theorem dX3_makeLess_9 : decode cX3_makeLess 9 = .ok (.arraylength, 1) := by decide +kernel
theorem dX3_makeLess_10 : decode cX3_makeLess 10 = .ok (.if_icmp .ge 20, 3) := by decide +kernel
theorem dX3_makeLess_13 : decode cX3_makeLess 13 = .ok (.lload_n 1, 1) := by decide +kernel
theorem dX3_makeLess_14 : decode cX3_makeLess 14 = .ok (.aload_n 0, 1) := by decide +kernel
theorem dX3_makeLess_15 : decode cX3_makeLess 15 = .ok (.getfield 9, 3) := by decide +kernel
theorem dX3_makeLess_18 : decode cX3_makeLess 18 = .ok (.iload_n 3, 1) := by decide +kernel
theorem dX3_makeLess_19 : decode cX3_makeLess 19 = .ok (.laload, 1) := by decide +kernel
theorem dX3_makeLess_20 : decode cX3_makeLess 20 = .ok (.invokestatic 38, 3) := by decide +kernel
theorem dX3_makeLess_23 : decode cX3_makeLess 23 = .ok (.lstore_n 1, 1) := by decide +kernel
theorem dX3_makeLess_24 : decode cX3_makeLess 24 = .ok (.iinc 3 1, 3) := by decide +kernel
theorem dX3_makeLess_27 : decode cX3_makeLess 27 = .ok (.goto (-23), 3) := by decide +kernel
theorem dX3_makeLess_30 : decode cX3_makeLess 30 = .ok (.lload_n 1, 1) := by decide +kernel
theorem dX3_makeLess_31 : decode cX3_makeLess 31 = .ok (.lconst 1, 1) := by decide +kernel
theorem dX3_makeLess_32 : decode cX3_makeLess 32 = .ok (.lcmp, 1) := by decide +kernel
theorem dX3_makeLess_33 : decode cX3_makeLess 33 = .ok (.ifCond .le 30, 3) := by decide +kernel
theorem dX3_makeLess_36 : decode cX3_makeLess 36 = .ok (.iconst 0, 1) := by decide +kernel
theorem dX3_makeLess_37 : decode cX3_makeLess 37 = .ok (.istore_n 3, 1) := by decide +kernel
theorem dX3_makeLess_38 : decode cX3_makeLess 38 = .ok (.iload_n 3, 1) := by decide +kernel
theorem dX3_makeLess_39 : decode cX3_makeLess 39 = .ok (.aload_n 0, 1) := by decide +kernel
theorem dX3_makeLess_40 : decode cX3_makeLess 40 = .ok (.getfield 9, 3) := by decide +kernel
theorem dX3_makeLess_43 : decode cX3_makeLess 43 = .ok (.arraylength, 1) := by decide +kernel
theorem dX3_makeLess_44 : decode cX3_makeLess 44 = .ok (.if_icmp .ge 19, 3) := by decide +kernel
theorem dX3_makeLess_47 : decode cX3_makeLess 47 = .ok (.aload_n 0, 1) := by decide +kernel
theorem dX3_makeLess_48 : decode cX3_makeLess 48 = .ok (.getfield 9, 3) := by decide +kernel
theorem dX3_makeLess_51 : decode cX3_makeLess 51 = .ok (.iload_n 3, 1) := by decide +kernel
theorem dX3_makeLess_52 : decode cX3_makeLess 52 = .ok (.dup2, 1) := by decide +kernel
theorem dX3_makeLess_53 : decode cX3_makeLess 53 = .ok (.laload, 1) := by decide +kernel
theorem dX3_makeLess_54 : decode cX3_makeLess 54 = .ok (.lload_n 1, 1) := by decide +kernel
theorem dX3_makeLess_55 : decode cX3_makeLess 55 = .ok (.ldiv, 1) := by decide +kernel
theorem dX3_makeLess_56 : decode cX3_makeLess 56 = .ok (.lastore, 1) := by decide +kernel
theorem dX3_makeLess_57 : decode cX3_makeLess 57 = .ok (.iinc 3 1, 3) := by decide +kernel
theorem dX3_makeLess_60 : decode cX3_makeLess 60 = .ok (.goto (-22), 3) := by decide +kernel
theorem dX3_makeLess_63 : decode cX3_makeLess 63 = .ok (.return_, 1) := by decide +kernel
theorem dX3_fits_0 : decode cX3_fits 0 = .ok (.iconst 0, 1) := by decide +kernel
theorem dX3_fits_1 : decode cX3_fits 1 = .ok (.istore_n 1, 1) := by decide +kernel
theorem dX3_fits_2 : decode cX3_fits 2 = .ok (.iconst 0, 1) := by decide +kernel
theorem dX3_fits_3 : decode cX3_fits 3 = .ok (.istore_n 2, 1) := by decide +kernel
theorem dX3_fits_4 : decode cX3_fits 4 = .ok (.iload_n 2, 1) := by decide +kernel
theorem dX3_fits_5 : decode cX3_fits 5 = .ok (.aload_n 0, 1) := by decide +kernel
theorem dX3_fits_6 : decode cX3_fits 6 = .ok (.getfield 9, 3) := by decide +kernel
theorem dX3_fits_9 : decode cX3_fits 9 = .ok (.arraylength, 1) := by decide +kernel
theorem dX3_fits_10 : decode cX3_fits 10 = .ok (.if_icmp .ge 44, 3) := by decide +kernel
theorem dX3_fits_13 : decode cX3_fits 13 = .ok (.aload_n 0, 1) := by decide +kernel
theorem dX3_fits_14 : decode cX3_fits 14 = .ok (.getfield 9, 3) := by decide +kernel
theorem dX3_fits_17 : decode cX3_fits 17 = .ok (.iload_n 2, 1) := by decide +kernel
theorem dX3_fits_18 : decode cX3_fits 18 = .ok (.laload, 1) := by decide +kernel
theorem dX3_fits_19 : decode cX3_fits 19 = .ok (.lconst 0, 1) := by decide +kernel
theorem dX3_fits_20 : decode cX3_fits 20 = .ok (.lcmp, 1) := by decide +kernel
theorem dX3_fits_21 : decode cX3_fits 21 = .ok (.ifCond .eq 27, 3) := by decide +kernel
theorem dX3_fits_24 : decode cX3_fits 24 = .ok (.iinc 1 1, 3) := by decide +kernel
theorem dX3_fits_27 : decode cX3_fits 27 = .ok (.iload_n 2, 1) := by decide +kernel
theorem dX3_fits_28 : decode cX3_fits 28 = .ok (.bipush 99, 2) := by decide +kernel
theorem dX3_fits_30 : decode cX3_fits 30 = .ok (.if_icmp .gt 16, 3) := by decide +kernel
theorem dX3_fits_33 : decode cX3_fits 33 = .ok (.aload_n 0, 1) := by decide +kernel
theorem dX3_fits_34 : decode cX3_fits 34 = .ok (.getfield 9, 3) := by decide +kernel
theorem dX3_fits_37 : decode cX3_fits 37 = .ok (.iload_n 2, 1) := by decide +kernel
theorem dX3_fits_38 : decode cX3_fits 38 = .ok (.laload, 1) := by decide +kernel
theorem dX3_fits_39 : decode cX3_fits 39 = .ok (.ldc2_w 42, 3) := by decide +kernel
theorem dX3_fits_42 : decode cX3_fits 42 = .ok (.lcmp, 1) := by decide +kernel
theorem dX3_fits_43 : decode cX3_fits 43 = .ok (.ifCond .le 5, 3) := by decide +kernel
theorem dX3_fits_46 : decode cX3_fits 46 = .ok (.iconst 0, 1) := by decide +kernel
theorem dX3_fits_47 : decode cX3_fits 47 = .ok (.ireturn, 1) := by decide +kernel
theorem dX3_fits_48 : decode cX3_fits 48 = .ok (.iinc 2 1, 3) := by decide +kernel
theorem dX3_fits_51 : decode cX3_fits 51 = .ok (.goto (-47), 3) := by decide +kernel
theorem dX3_fits_54 : decode cX3_fits 54 = .ok (.iload_n 1, 1) := by decide +kernel
theorem dX3_fits_55 : decode cX3_fits 55 = .ok (.bipush 8, 2) := by decide +kernel
theorem dX3_fits_57 : decode cX3_fits 57 = .ok (.if_icmp .gt 7, 3) := by decide +kernel
theorem dX3_fits_60 : decode cX3_fits 60 = .ok (.iconst 1, 1) := by decide +kernel
theorem dX3_fits_61 : decode cX3_fits 61 = .ok (.goto 4, 3) := by decide +kernel
theorem dX3_fits_64 : decode cX3_fits 64 = .ok (.iconst 0, 1) := by decide +kernel
theorem dX3_fits_65 : decode cX3_fits 65 = .ok (.ireturn, 1) := by decide +kernel
theorem dX4_init_0 : decode cX4_init 0 = .ok (.aload_n 0, 1) := by decide +kernel
theorem dX4_init_1 : decode cX4_init 1 = .ok (.invokespecial 3, 3) := by decide +kernel
theorem dX4_init_4 : decode cX4_init 4 = .ok (.aload_n 0, 1) := by decide +kernel
theorem dX4_init_5 : decode cX4_init 5 = .ok (.bipush 10, 2) := by decide +kernel
theorem dX4_init_7 : decode cX4_init 7 = .ok (.newarray .int, 2) := by decide +kernel
theorem dX4_init_9 : decode cX4_init 9 = .ok (.putfield 9, 3) := by decide +kernel
theorem dX4_init_12 : decode cX4_init 12 = .ok (.aload_n 0, 1) := by decide +kernel
theorem dX4_init_13 : decode cX4_init 13 = .ok (.bipush 10, 2) := by decide +kernel
theorem dX4_init_15 : decode cX4_init 15 = .ok (.newarray .int, 2) := by decide +kernel
theorem dX4_init_17 : decode cX4_init 17 = .ok (.putfield 15, 3) := by decide +kernel
theorem dX4_init_20 : decode cX4_init 20 = .ok (.aload_n 0, 1) := by decide +kernel
theorem dX4_init_21 : decode cX4_init 21 = .ok (.bipush 10, 2) := by decide +kernel
theorem dX4_init_23 : decode cX4_init 23 = .ok (.anewarray 18, 3) := by decide +kernel
theorem dX4_init_26 : decode cX4_init 26 = .ok (.putfield 20, 3) := by decide +kernel
theorem dX4_init_29 : decode cX4_init 29 = .ok (.aload_n 0, 1) := by decide +kernel
theorem dX4_init_30 : decode cX4_init 30 = .ok (.bipush 10, 2) := by decide +kernel
theorem dX4_init_32 : decode cX4_init 32 = .ok (.newarray .boolean, 2) := by decide +kernel
theorem dX4_init_34 : decode cX4_init 34 = .ok (.putfield 24, 3) := by decide +kernel
theorem dX4_init_37 : decode cX4_init 37 = .ok (.aload_n 0, 1) := by decide +kernel
theorem dX4_init_38 : decode cX4_init 38 = .ok (.iconst 0, 1) := by decide +kernel
theorem dX4_init_39 : decode cX4_init 39 = .ok (.putfield 28, 3) := by decide +kernel
theorem dX4_init_42 : decode cX4_init 42 = .ok (.iconst 0, 1) := by decide +kernel
theorem dX4_init_43 : decode cX4_init 43 = .ok (.istore_n 1, 1) := by decide +kernel
theorem dX4_init_44 : decode cX4_init 44 = .ok (.iload_n 1, 1) := by decide +kernel
theorem dX4_init_45 : decode cX4_init 45 = .ok (.bipush 10, 2) := by decide +kernel
theorem dX4_init_47 : decode cX4_init 47 = .ok (.if_icmp .ge 22, 3) := by decide +kernel
theorem dX4_init_50 : decode cX4_init 50 = .ok (.aload_n 0, 1) := by decide +kernel
theorem dX4_init_51 : decode cX4_init 51 = .ok (.getfield 20, 3) := by decide +kernel
theorem dX4_init_54 : decode cX4_init 54 = .ok (.iload_n 1, 1) := by decide +kernel
theorem dX4_init_55 : decode cX4_init 55 = .ok (.new 18, 3) := by decide +kernel
theorem dX4_init_58 : decode cX4_init 58 = .ok (.dup, 1) := by decide +kernel
theorem dX4_init_59 : decode cX4_init 59 = .ok (.invokespecial 32, 3) := by decide +kernel
theorem dX4_init_62 : decode cX4_init 62 = .ok (.aastore, 1) := by decide +kernel
theorem dX4_init_63 : decode cX4_init 63 = .ok (.iinc 1 1, 3) := by decide +kernel
theorem dX4_init_66 : decode cX4_init 66 = .ok (.goto (-22), 3) := by decide +kernel
theorem dX4_init_69 : decode cX4_init 69 = .ok (.return_, 1) := by decide +kernel
theorem dX4_add_0 : decode cX4_add 0 = .ok (.iload_n 2, 1) := by decide +kernel
theorem dX4_add_1 : decode cX4_add 1 = .ok (.iconst 1, 1) := by decide +kernel
theorem dX4_add_2 : decode cX4_add 2 = .ok (.if_icmp .lt 12, 3) := by decide +kernel
theorem dX4_add_5 : decode cX4_add 5 = .ok (.iload_n 1, 1) := by decide +kernel
theorem dX4_add_6 : decode cX4_add 6 = .ok (.ifCond .lt 8, 3) := by decide +kernel
theorem dX4_add_9 : decode cX4_add 9 = .ok (.iload_n 1, 1) := by decide +kernel
theorem dX4_add_10 : decode cX4_add 10 = .ok (.iload_n 2, 1) := by decide +kernel
theorem dX4_add_11 : decode cX4_add 11 = .ok (.if_icmp .le 4, 3) := by decide +kernel
theorem dX4_add_14 : decode cX4_add 14 = .ok (.return_, 1) := by decide +kernel
theorem dX4_add_15 : decode cX4_add 15 = .ok (.bipush 10, 2) := by decide +kernel
theorem dX4_add_17 : decode cX4_add 17 = .ok (.iload_n 1, 1) := by decide +kernel
theorem dX4_add_18 : decode cX4_add 18 = .ok (.imul, 1) := by decide +kernel
theorem dX4_add_19 : decode cX4_add 19 = .ok (.iload_n 2, 1) := by decide +kernel
theorem dX4_add_20 : decode cX4_add 20 = .ok (.idiv, 1) := by decide +kernel
theorem dX4_add_21 : decode cX4_add 21 = .ok (.bipush 9, 2) := by decide +kernel
theorem dX4_add_23 : decode cX4_add 23 = .ok (.invokestatic 33, 3) := by decide +kernel
theorem dX4_add_26 : decode cX4_add 26 = .ok (.istore 4, 2) := by decide +kernel
theorem dX4_add_28 : decode cX4_add 28 = .ok (.aload_n 0, 1) := by decide +kernel
theorem dX4_add_29 : decode cX4_add 29 = .ok (.dup, 1) := by decide +kernel
theorem dX4_add_30 : decode cX4_add 30 = .ok (.getfield 28, 3) := by decide +kernel
theorem dX4_add_33 : decode cX4_add 33 = .ok (.iconst 1, 1) := by decide +kernel
theorem dX4_add_34 : decode cX4_add 34 = .ok (.iadd, 1) := by decide +kernel
theorem dX4_add_35 : decode cX4_add 35 = .ok (.putfield 28, 3) := by decide +kernel
theorem dX4_add_38 : decode cX4_add 38 = .ok (.aload_n 0, 1) := by decide +kernel
theorem dX4_add_39 : decode cX4_add 39 = .ok (.getfield 9, 3) := by decide +kernel
theorem dX4_add_42 : decode cX4_add 42 = .ok (.iload 4, 2) := by decide +kernel
theorem dX4_add_44 : decode cX4_add 44 = .ok (.dup2, 1) := by decide +kernel
theorem dX4_add_45 : decode cX4_add 45 = .ok (.iaload, 1) := by decide +kernel
theorem dX4_add_46 : decode cX4_add 46 = .ok (.iconst 1, 1) := by decide +kernel
theorem dX4_add_47 : decode cX4_add 47 = .ok (.iadd, 1) := by decide +kernel
theorem dX4_add_48 : decode cX4_add 48 = .ok (.iastore, 1) := by decide +kernel
theorem dX4_add_49 : decode cX4_add 49 = .ok (.iload_n 3, 1) := by decide +kernel
theorem dX4_add_50 : decode cX4_add 50 = .ok (.ifCond .eq 14, 3) := by decide +kernel
theorem dX4_add_53 : decode cX4_add 53 = .ok (.aload_n 0, 1) := by decide +kernel
theorem dX4_add_54 : decode cX4_add 54 = .ok (.getfield 15, 3) := by decide +kernel
theorem dX4_add_57 : decode cX4_add 57 = .ok (.iload 4, 2) := by decide +kernel
theorem dX4_add_59 : decode cX4_add 59 = .ok (.dup2, 1) := by decide +kernel
theorem dX4_add_60 : decode cX4_add 60 = .ok (.iaload, 1) := by decide +kernel
theorem dX4_add_61 : decode cX4_add 61 = .ok (.iconst 1, 1) := by decide +kernel
theorem dX4_add_62 : decode cX4_add 62 = .ok (.iadd, 1) := by decide +kernel
theorem dX4_add_63 : decode cX4_add 63 = .ok (.iastore, 1) := by decide +kernel
theorem dX4_add_64 : decode cX4_add 64 = .ok (.aload_n 0, 1) := by decide +kernel
theorem dX4_add_65 : decode cX4_add 65 = .ok (.getfield 24, 3) := by decide +kernel
theorem dX4_add_68 : decode cX4_add 68 = .ok (.iload 4, 2) := by decide +kernel
theorem dX4_add_70 : decode cX4_add 70 = .ok (.baload, 1) := by decide +kernel
theorem dX4_add_71 : decode cX4_add 71 = .ok (.ifCond .ne 63, 3) := by decide +kernel
theorem dX4_add_74 : decode cX4_add 74 = .ok (.aload_n 0, 1) := by decide +kernel
theorem dX4_add_75 : decode cX4_add 75 = .ok (.getfield 20, 3) := by decide +kernel
theorem dX4_add_78 : decode cX4_add 78 = .ok (.iload 4, 2) := by decide +kernel
theorem dX4_add_80 : decode cX4_add 80 = .ok (.aaload, 1) := by decide +kernel
theorem dX4_add_81 : decode cX4_add 81 = .ok (.iload_n 1, 1) := by decide +kernel
theorem dX4_add_82 : decode cX4_add 82 = .ok (.i2l, 1) := by decide +kernel
theorem dX4_add_83 : decode cX4_add 83 = .ok (.iload_n 2, 1) := by decide +kernel
theorem dX4_add_84 : decode cX4_add 84 = .ok (.i2l, 1) := by decide +kernel
theorem dX4_add_85 : decode cX4_add 85 = .ok (.invokevirtual 39, 3) := by decide +kernel
theorem dX4_add_88 : decode cX4_add 88 = .ok (.aload_n 0, 1) := by decide +kernel
theorem dX4_add_89 : decode cX4_add 89 = .ok (.getfield 24, 3) := by decide +kernel
theorem dX4_add_92 : decode cX4_add 92 = .ok (.iload 4, 2) := by decide +kernel
theorem dX4_add_94 : decode cX4_add 94 = .ok (.aload_n 0, 1) := by decide +kernel
theorem dX4_add_95 : decode cX4_add 95 = .ok (.getfield 20, 3) := by decide +kernel
theorem dX4_add_98 : decode cX4_add 98 = .ok (.iload 4, 2) := by decide +kernel
theorem dX4_add_100 : decode cX4_add 100 = .ok (.aaload, 1) := by decide +kernel
theorem dX4_add_101 : decode cX4_add 101 = .ok (.getfield 43, 3) := by decide +kernel
theorem dX4_add_104 : decode cX4_add 104 = .ok (.ldc2_w 47, 3) := by decide +kernel
theorem dX4_add_107 : decode cX4_add 107 = .ok (.lcmp, 1) := by decide +kernel
theorem dX4_add_108 : decode cX4_add 108 = .ok (.ifCond .gt 20, 3) := by decide +kernel
theorem dX4_add_111 : decode cX4_add 111 = .ok (.aload_n 0, 1) := by decide +kernel
theorem dX4_add_112 : decode cX4_add 112 = .ok (.getfield 20, 3) := by decide +kernel
theorem dX4_add_115 : decode cX4_add 115 = .ok (.iload 4, 2) := by decide +kernel
theorem dX4_add_117 : decode cX4_add 117 = .ok (.aaload, 1) := by decide +kernel
theorem dX4_add_118 : decode cX4_add 118 = .ok (.getfield 49, 3) := by decide +kernel
theorem dX4_add_121 : decode cX4_add 121 = .ok (.ldc2_w 47, 3) := by decide +kernel
theorem dX4_add_124 : decode cX4_add 124 = .ok (.lcmp, 1) := by decide +kernel
theorem dX4_add_125 : decode cX4_add 125 = .ok (.ifCond .le 7, 3) := by decide +kernel
theorem dX4_add_128 : decode cX4_add 128 = .ok (.iconst 1, 1) := by decide +kernel
theorem dX4_add_129 : decode cX4_add 129 = .ok (.goto 4, 3) := by decide +kernel
theorem dX4_add_132 : decode cX4_add 132 = .ok (.iconst 0, 1) := by decide +kernel
theorem dX4_add_133 : decode cX4_add 133 = .ok (.bastore, 1) := by decide +kernel
theorem dX4_add_134 : decode cX4_add 134 = .ok (.return_, 1) := by decide +kernel
theorem dX5_init_0 : decode cX5_init 0 = .ok (.aload_n 0, 1) := by decide +kernel
theorem dX5_init_1 : decode cX5_init 1 = .ok (.invokespecial 3, 3) := by decide +kernel
theorem dX5_init_4 : decode cX5_init 4 = .ok (.aload_n 0, 1) := by decide +kernel
theorem dX5_init_5 : decode cX5_init 5 = .ok (.bipush 40, 2) := by decide +kernel
theorem dX5_init_7 : decode cX5_init 7 = .ok (.newarray .long, 2) := by decide +kernel
theorem dX5_init_9 : decode cX5_init 9 = .ok (.putfield 9, 3) := by decide +kernel
theorem dX5_init_12 : decode cX5_init 12 = .ok (.aload_n 0, 1) := by decide +kernel
theorem dX5_init_13 : decode cX5_init 13 = .ok (.iconst (-1), 1) := by decide +kernel
theorem dX5_init_14 : decode cX5_init 14 = .ok (.putfield 15, 3) := by decide +kernel
theorem dX5_init_17 : decode cX5_init 17 = .ok (.aload_n 0, 1) := by decide +kernel
theorem dX5_init_18 : decode cX5_init 18 = .ok (.iconst 0, 1) := by decide +kernel
theorem dX5_init_19 : decode cX5_init 19 = .ok (.putfield 19, 3) := by decide +kernel
theorem dX5_init_22 : decode cX5_init 22 = .ok (.return_, 1) := by decide +kernel
theorem dX5_isMissing_0 : decode cX5_isMissing 0 = .ok (.aload_n 0, 1) := by decide +kernel
theorem dX5_isMissing_1 : decode cX5_isMissing 1 = .ok (.getfield 15, 3) := by decide +kernel
theorem dX5_isMissing_4 : decode cX5_isMissing 4 = .ok (.iconst (-1), 1) := by decide +kernel
theorem dX5_isMissing_5 : decode cX5_isMissing 5 = .ok (.if_icmp .ne 7, 3) := by decide +kernel
theorem dX5_isMissing_8 : decode cX5_isMissing 8 = .ok (.iconst 1, 1) := by decide +kernel
theorem dX5_isMissing_9 : decode cX5_isMissing 9 = .ok (.goto 4, 3) := by decide +kernel
theorem dX5_isMissing_12 : decode cX5_isMissing 12 = .ok (.iconst 0, 1) := by decide +kernel
theorem dX5_isMissing_13 : decode cX5_isMissing 13 = .ok (.ireturn, 1) := by decide +kernel
theorem dX5_layOut_0 : decode cX5_layOut 0 = .ok (.aload_n 0, 1) := by decide +kernel
theorem dX5_layOut_1 : decode cX5_layOut 1 = .ok (.getfield 9, 3) := by decide +kernel
theorem dX5_layOut_4 : decode cX5_layOut 4 = .ok (.lconst 0, 1) := by decide +kernel
theorem dX5_layOut_5 : decode cX5_layOut 5 = .ok (.invokestatic 22, 3) := by decide +kernel
theorem dX5_layOut_8 : decode cX5_layOut 8 = .ok (.aload_n 0, 1) := by decide +kernel
theorem dX5_layOut_9 : decode cX5_layOut 9 = .ok (.iload_n 1, 1) := by decide +kernel
theorem dX5_layOut_10 : decode cX5_layOut 10 = .ok (.putfield 15, 3) := by decide +kernel
theorem dX5_layOut_13 : decode cX5_layOut 13 = .ok (.aload_n 0, 1) := by decide +kernel
theorem dX5_layOut_14 : decode cX5_layOut 14 = .ok (.iload_n 2, 1) := by decide +kernel
theorem dX5_layOut_15 : decode cX5_layOut 15 = .ok (.putfield 19, 3) := by decide +kernel
theorem dX5_layOut_18 : decode cX5_layOut 18 = .ok (.return_, 1) := by decide +kernel
theorem dX5_has_0 : decode cX5_has 0 = .ok (.iload_n 1, 1) := by decide +kernel
theorem dX5_has_1 : decode cX5_has 1 = .ok (.ifCond .lt 15, 3) := by decide +kernel
theorem dX5_has_4 : decode cX5_has 4 = .ok (.iload_n 1, 1) := by decide +kernel
theorem dX5_has_5 : decode cX5_has 5 = .ok (.aload_n 0, 1) := by decide +kernel
theorem dX5_has_6 : decode cX5_has 6 = .ok (.getfield 19, 3) := by decide +kernel
theorem dX5_has_9 : decode cX5_has 9 = .ok (.if_icmp .ge 7, 3) := by decide +kernel
theorem dX5_has_12 : decode cX5_has 12 = .ok (.iconst 1, 1) := by decide +kernel
theorem dX5_has_13 : decode cX5_has 13 = .ok (.goto 4, 3) := by decide +kernel
theorem dX5_has_16 : decode cX5_has 16 = .ok (.iconst 0, 1) := by decide +kernel
theorem dX5_has_17 : decode cX5_has 17 = .ok (.ireturn, 1) := by decide +kernel
theorem dX5_hasRun_0 : decode cX5_hasRun 0 = .ok (.iload_n 1, 1) := by decide +kernel
theorem dX5_hasRun_1 : decode cX5_hasRun 1 = .ok (.ifCond .lt 21, 3) := by decide +kernel
theorem dX5_hasRun_4 : decode cX5_hasRun 4 = .ok (.iload_n 2, 1) := by decide +kernel
theorem dX5_hasRun_5 : decode cX5_hasRun 5 = .ok (.ifCond .lt 17, 3) := by decide +kernel
theorem dX5_hasRun_8 : decode cX5_hasRun 8 = .ok (.iload_n 1, 1) := by decide +kernel
theorem dX5_hasRun_9 : decode cX5_hasRun 9 = .ok (.aload_n 0, 1) := by decide +kernel
theorem dX5_hasRun_10 : decode cX5_hasRun 10 = .ok (.getfield 19, 3) := by decide +kernel
theorem dX5_hasRun_13 : decode cX5_hasRun 13 = .ok (.iload_n 2, 1) := by decide +kernel
theorem dX5_hasRun_14 : decode cX5_hasRun 14 = .ok (.isub, 1) := by decide +kernel
theorem dX5_hasRun_15 : decode cX5_hasRun 15 = .ok (.if_icmp .gt 7, 3) := by decide +kernel
theorem dX5_hasRun_18 : decode cX5_hasRun 18 = .ok (.iconst 1, 1) := by decide +kernel
theorem dX5_hasRun_19 : decode cX5_hasRun 19 = .ok (.goto 4, 3) := by decide +kernel
theorem dX5_hasRun_22 : decode cX5_hasRun 22 = .ok (.iconst 0, 1) := by decide +kernel
theorem dX5_hasRun_23 : decode cX5_hasRun 23 = .ok (.ireturn, 1) := by decide +kernel
theorem dX5_numberAt_0 : decode cX5_numberAt 0 = .ok (.aload_n 0, 1) := by decide +kernel
theorem dX5_numberAt_1 : decode cX5_numberAt 1 = .ok (.iload_n 1, 1) := by decide +kernel
theorem dX5_numberAt_2 : decode cX5_numberAt 2 = .ok (.invokevirtual 28, 3) := by decide +kernel
theorem dX5_numberAt_5 : decode cX5_numberAt 5 = .ok (.ifCond .eq 12, 3) := by decide +kernel
theorem dX5_numberAt_8 : decode cX5_numberAt 8 = .ok (.aload_n 0, 1) := by decide +kernel
theorem dX5_numberAt_9 : decode cX5_numberAt 9 = .ok (.getfield 9, 3) := by decide +kernel
theorem dX5_numberAt_12 : decode cX5_numberAt 12 = .ok (.iload_n 1, 1) := by decide +kernel
theorem dX5_numberAt_13 : decode cX5_numberAt 13 = .ok (.laload, 1) := by decide +kernel
theorem dX5_numberAt_14 : decode cX5_numberAt 14 = .ok (.goto 4, 3) := by decide +kernel
theorem dX5_numberAt_17 : decode cX5_numberAt 17 = .ok (.lconst 0, 1) := by decide +kernel
theorem dX5_numberAt_18 : decode cX5_numberAt 18 = .ok (.lreturn, 1) := by decide +kernel
theorem dX5_put_0 : decode cX5_put 0 = .ok (.aload_n 0, 1) := by decide +kernel
theorem dX5_put_1 : decode cX5_put 1 = .ok (.iload_n 1, 1) := by decide +kernel
theorem dX5_put_2 : decode cX5_put 2 = .ok (.invokevirtual 28, 3) := by decide +kernel
theorem dX5_put_5 : decode cX5_put 5 = .ok (.ifCond .eq 14, 3) := by decide +kernel
theorem dX5_put_8 : decode cX5_put 8 = .ok (.aload_n 0, 1) := by decide +kernel
theorem dX5_put_9 : decode cX5_put 9 = .ok (.getfield 9, 3) := by decide +kernel
theorem dX5_put_12 : decode cX5_put 12 = .ok (.iload_n 1, 1) := by decide +kernel
theorem dX5_put_13 : decode cX5_put 13 = .ok (.aload_n 0, 1) := by decide +kernel
theorem dX5_put_14 : decode cX5_put 14 = .ok (.lload_n 2, 1) := by decide +kernel
theorem dX5_put_15 : decode cX5_put 15 = .ok (.invokevirtual 32, 3) := by decide +kernel
theorem dX5_put_18 : decode cX5_put 18 = .ok (.lastore, 1) := by decide +kernel
theorem dX5_put_19 : decode cX5_put 19 = .ok (.return_, 1) := by decide +kernel
theorem dX5_cut_0 : decode cX5_cut 0 = .ok (.aload_n 0, 1) := by decide +kernel
theorem dX5_cut_1 : decode cX5_cut 1 = .ok (.getfield 15, 3) := by decide +kernel
theorem dX5_cut_4 : decode cX5_cut 4 = .ok (.tableswitch 42 0 2 #[28, 33, 38], 28) := by decide +kernel
theorem dX5_cut_32 : decode cX5_cut 32 = .ok (.lload_n 1, 1) := by decide +kernel
theorem dX5_cut_33 : decode cX5_cut 33 = .ok (.l2i, 1) := by decide +kernel
theorem dX5_cut_34 : decode cX5_cut 34 = .ok (.i2b, 1) := by decide +kernel
theorem dX5_cut_35 : decode cX5_cut 35 = .ok (.i2l, 1) := by decide +kernel
theorem dX5_cut_36 : decode cX5_cut 36 = .ok (.lreturn, 1) := by decide +kernel
theorem dX5_cut_37 : decode cX5_cut 37 = .ok (.lload_n 1, 1) := by decide +kernel
theorem dX5_cut_38 : decode cX5_cut 38 = .ok (.l2i, 1) := by decide +kernel
theorem dX5_cut_39 : decode cX5_cut 39 = .ok (.i2s, 1) := by decide +kernel
theorem dX5_cut_40 : decode cX5_cut 40 = .ok (.i2l, 1) := by decide +kernel
theorem dX5_cut_41 : decode cX5_cut 41 = .ok (.lreturn, 1) := by decide +kernel
theorem dX5_cut_42 : decode cX5_cut 42 = .ok (.lload_n 1, 1) := by decide +kernel
theorem dX5_cut_43 : decode cX5_cut 43 = .ok (.l2i, 1) := by decide +kernel
theorem dX5_cut_44 : decode cX5_cut 44 = .ok (.i2l, 1) := by decide +kernel
theorem dX5_cut_45 : decode cX5_cut 45 = .ok (.lreturn, 1) := by decide +kernel
theorem dX5_cut_46 : decode cX5_cut 46 = .ok (.lload_n 1, 1) := by decide +kernel
theorem dX5_cut_47 : decode cX5_cut 47 = .ok (.lreturn, 1) := by decide +kernel
theorem dX5_holdsRows_0 : decode cX5_holdsRows 0 = .ok (.ldc2_w 36, 3) := by decide +kernel
theorem dX5_holdsRows_3 : decode cX5_holdsRows 3 = .ok (.lstore_n 2, 1) := by decide +kernel
theorem dX5_holdsRows_4 : decode cX5_holdsRows 4 = .ok (.iconst 0, 1) := by decide +kernel
theorem dX5_holdsRows_5 : decode cX5_holdsRows 5 = .ok (.istore 4, 2) := by decide +kernel
theorem dX5_holdsRows_7 : decode cX5_holdsRows 7 = .ok (.iload 4, 2) := by decide +kernel
theorem dX5_holdsRows_9 : decode cX5_holdsRows 9 = .ok (.iload_n 1, 1) := by decide +kernel
theorem dX5_holdsRows_10 : decode cX5_holdsRows 10 = .ok (.if_icmp .ge 68, 3) := by decide +kernel
theorem dX5_holdsRows_13 : decode cX5_holdsRows 13 = .ok (.aload_n 0, 1) := by decide +kernel
theorem dX5_holdsRows_14 : decode cX5_holdsRows 14 = .ok (.iconst 2, 1) := by decide +kernel
theorem dX5_holdsRows_15 : decode cX5_holdsRows 15 = .ok (.iload 4, 2) := by decide +kernel
theorem dX5_holdsRows_17 : decode cX5_holdsRows 17 = .ok (.imul, 1) := by decide +kernel
theorem dX5_holdsRows_18 : decode cX5_holdsRows 18 = .ok (.invokevirtual 38, 3) := by decide +kernel
theorem dX5_holdsRows_21 : decode cX5_holdsRows 21 = .ok (.lstore 5, 2) := by decide +kernel
theorem dX5_holdsRows_23 : decode cX5_holdsRows 23 = .ok (.aload_n 0, 1) := by decide +kernel
theorem dX5_holdsRows_24 : decode cX5_holdsRows 24 = .ok (.iconst 2, 1) := by decide +kernel
theorem dX5_holdsRows_25 : decode cX5_holdsRows 25 = .ok (.iload 4, 2) := by decide +kernel
theorem dX5_holdsRows_27 : decode cX5_holdsRows 27 = .ok (.imul, 1) := by decide +kernel
theorem dX5_holdsRows_28 : decode cX5_holdsRows 28 = .ok (.iconst 1, 1) := by decide +kernel
theorem dX5_holdsRows_29 : decode cX5_holdsRows 29 = .ok (.iadd, 1) := by decide +kernel
theorem dX5_holdsRows_30 : decode cX5_holdsRows 30 = .ok (.invokevirtual 38, 3) := by decide +kernel
theorem dX5_holdsRows_33 : decode cX5_holdsRows 33 = .ok (.lstore 7, 2) := by decide +kernel
theorem dX5_holdsRows_35 : decode cX5_holdsRows 35 = .ok (.lload 5, 2) := by decide +kernel
theorem dX5_holdsRows_37 : decode cX5_holdsRows 37 = .ok (.lload_n 2, 1) := by decide +kernel
theorem dX5_holdsRows_38 : decode cX5_holdsRows 38 = .ok (.lcmp, 1) := by decide +kernel
theorem dX5_holdsRows_39 : decode cX5_holdsRows 39 = .ok (.ifCond .le 28, 3) := by decide +kernel
theorem dX5_holdsRows_42 : decode cX5_holdsRows 42 = .ok (.lload 5, 2) := by decide +kernel
theorem dX5_holdsRows_44 : decode cX5_holdsRows 44 = .ok (.ldc2_w 42, 3) := by decide +kernel
theorem dX5_holdsRows_47 : decode cX5_holdsRows 47 = .ok (.lcmp, 1) := by decide +kernel
theorem dX5_holdsRows_48 : decode cX5_holdsRows 48 = .ok (.ifCond .gt 19, 3) := by decide +kernel
theorem dX5_holdsRows_51 : decode cX5_holdsRows 51 = .ok (.lload 7, 2) := by decide +kernel
theorem dX5_holdsRows_53 : decode cX5_holdsRows 53 = .ok (.lconst 1, 1) := by decide +kernel
theorem dX5_holdsRows_54 : decode cX5_holdsRows 54 = .ok (.lcmp, 1) := by decide +kernel
theorem dX5_holdsRows_55 : decode cX5_holdsRows 55 = .ok (.ifCond .lt 12, 3) := by decide +kernel
theorem dX5_holdsRows_58 : decode cX5_holdsRows 58 = .ok (.lload 7, 2) := by decide +kernel
theorem dX5_holdsRows_60 : decode cX5_holdsRows 60 = .ok (.ldc2_w 44, 3) := by decide +kernel
theorem dX5_holdsRows_63 : decode cX5_holdsRows 63 = .ok (.lcmp, 1) := by decide +kernel
theorem dX5_holdsRows_64 : decode cX5_holdsRows 64 = .ok (.ifCond .le 5, 3) := by decide +kernel
theorem dX5_holdsRows_67 : decode cX5_holdsRows 67 = .ok (.iconst 0, 1) := by decide +kernel
theorem dX5_holdsRows_68 : decode cX5_holdsRows 68 = .ok (.ireturn, 1) := by decide +kernel
theorem dX5_holdsRows_69 : decode cX5_holdsRows 69 = .ok (.lload 5, 2) := by decide +kernel
theorem dX5_holdsRows_71 : decode cX5_holdsRows 71 = .ok (.lstore_n 2, 1) := by decide +kernel
theorem dX5_holdsRows_72 : decode cX5_holdsRows 72 = .ok (.iinc 4 1, 3) := by decide +kernel
theorem dX5_holdsRows_75 : decode cX5_holdsRows 75 = .ok (.goto (-68), 3) := by decide +kernel
theorem dX5_holdsRows_78 : decode cX5_holdsRows 78 = .ok (.iconst 1, 1) := by decide +kernel
theorem dX5_holdsRows_79 : decode cX5_holdsRows 79 = .ok (.ireturn, 1) := by decide +kernel
theorem dX6_init_0 : decode cX6_init 0 = .ok (.aload_n 0, 1) := by decide +kernel
theorem dX6_init_1 : decode cX6_init 1 = .ok (.invokespecial 3, 3) := by decide +kernel
theorem dX6_init_4 : decode cX6_init 4 = .ok (.aload_n 0, 1) := by decide +kernel
theorem dX6_init_5 : decode cX6_init 5 = .ok (.new 9, 3) := by decide +kernel
theorem dX6_init_8 : decode cX6_init 8 = .ok (.dup, 1) := by decide +kernel
theorem dX6_init_9 : decode cX6_init 9 = .ok (.invokespecial 11, 3) := by decide +kernel
theorem dX6_init_12 : decode cX6_init 12 = .ok (.putfield 12, 3) := by decide +kernel
theorem dX6_init_15 : decode cX6_init 15 = .ok (.aload_n 0, 1) := by decide +kernel
theorem dX6_init_16 : decode cX6_init 16 = .ok (.aload_n 0, 1) := by decide +kernel
theorem dX6_init_17 : decode cX6_init 17 = .ok (.getfield 12, 3) := by decide +kernel
theorem dX6_init_20 : decode cX6_init 20 = .ok (.getfield 18, 3) := by decide +kernel
theorem dX6_init_23 : decode cX6_init 23 = .ok (.putfield 22, 3) := by decide +kernel
theorem dX6_init_26 : decode cX6_init 26 = .ok (.aload_n 0, 1) := by decide +kernel
theorem dX6_init_27 : decode cX6_init 27 = .ok (.sipush 4951, 3) := by decide +kernel
theorem dX6_init_30 : decode cX6_init 30 = .ok (.newarray .int, 2) := by decide +kernel
theorem dX6_init_32 : decode cX6_init 32 = .ok (.putfield 23, 3) := by decide +kernel
theorem dX6_init_35 : decode cX6_init 35 = .ok (.aload_n 0, 1) := by decide +kernel
theorem dX6_init_36 : decode cX6_init 36 = .ok (.iconst 0, 1) := by decide +kernel
theorem dX6_init_37 : decode cX6_init 37 = .ok (.newarray .int, 2) := by decide +kernel
theorem dX6_init_39 : decode cX6_init 39 = .ok (.putfield 27, 3) := by decide +kernel
theorem dX6_init_42 : decode cX6_init 42 = .ok (.aload_n 0, 1) := by decide +kernel
theorem dX6_init_43 : decode cX6_init 43 = .ok (.iconst 0, 1) := by decide +kernel
theorem dX6_init_44 : decode cX6_init 44 = .ok (.newarray .int, 2) := by decide +kernel
theorem dX6_init_46 : decode cX6_init 46 = .ok (.putfield 30, 3) := by decide +kernel
theorem dX6_init_49 : decode cX6_init 49 = .ok (.aload_n 0, 1) := by decide +kernel
theorem dX6_init_50 : decode cX6_init 50 = .ok (.iconst 1, 1) := by decide +kernel
theorem dX6_init_51 : decode cX6_init 51 = .ok (.putfield 33, 3) := by decide +kernel
theorem dX6_init_54 : decode cX6_init 54 = .ok (.aload_n 0, 1) := by decide +kernel
theorem dX6_init_55 : decode cX6_init 55 = .ok (.iconst 0, 1) := by decide +kernel
theorem dX6_init_56 : decode cX6_init 56 = .ok (.putfield 37, 3) := by decide +kernel
theorem dX6_init_59 : decode cX6_init 59 = .ok (.aload_n 0, 1) := by decide +kernel
theorem dX6_init_60 : decode cX6_init 60 = .ok (.iconst 0, 1) := by decide +kernel
theorem dX6_init_61 : decode cX6_init 61 = .ok (.putfield 41, 3) := by decide +kernel
theorem dX6_init_64 : decode cX6_init 64 = .ok (.aload_n 0, 1) := by decide +kernel
theorem dX6_init_65 : decode cX6_init 65 = .ok (.lconst 0, 1) := by decide +kernel
theorem dX6_init_66 : decode cX6_init 66 = .ok (.putfield 44, 3) := by decide +kernel
theorem dX6_init_69 : decode cX6_init 69 = .ok (.aload_n 0, 1) := by decide +kernel
theorem dX6_init_70 : decode cX6_init 70 = .ok (.lconst 0, 1) := by decide +kernel
theorem dX6_init_71 : decode cX6_init 71 = .ok (.putfield 48, 3) := by decide +kernel
theorem dX6_init_74 : decode cX6_init 74 = .ok (.return_, 1) := by decide +kernel
theorem dX6_refresh_0 : decode cX6_refresh 0 = .ok (.aload_n 0, 1) := by decide +kernel
theorem dX6_refresh_1 : decode cX6_refresh 1 = .ok (.getfield 33, 3) := by decide +kernel
theorem dX6_refresh_4 : decode cX6_refresh 4 = .ok (.ifCond .ne 4, 3) := by decide +kernel
theorem dX6_refresh_7 : decode cX6_refresh 7 = .ok (.return_, 1) := by decide +kernel
theorem dX6_refresh_8 : decode cX6_refresh 8 = .ok (.aload_n 0, 1) := by decide +kernel
theorem dX6_refresh_9 : decode cX6_refresh 9 = .ok (.aload_n 0, 1) := by decide +kernel
theorem dX6_refresh_10 : decode cX6_refresh 10 = .ok (.getfield 22, 3) := by decide +kernel
theorem dX6_refresh_13 : decode cX6_refresh 13 = .ok (.invokevirtual 51, 3) := by decide +kernel
theorem dX6_refresh_16 : decode cX6_refresh 16 = .ok (.putfield 37, 3) := by decide +kernel
theorem dX6_refresh_19 : decode cX6_refresh 19 = .ok (.aload_n 0, 1) := by decide +kernel
theorem dX6_refresh_20 : decode cX6_refresh 20 = .ok (.invokevirtual 57, 3) := by decide +kernel
theorem dX6_refresh_23 : decode cX6_refresh 23 = .ok (.aload_n 0, 1) := by decide +kernel
theorem dX6_refresh_24 : decode cX6_refresh 24 = .ok (.lconst 0, 1) := by decide +kernel
theorem dX6_refresh_25 : decode cX6_refresh 25 = .ok (.putfield 44, 3) := by decide +kernel
theorem dX6_refresh_28 : decode cX6_refresh 28 = .ok (.aload_n 0, 1) := by decide +kernel
theorem dX6_refresh_29 : decode cX6_refresh 29 = .ok (.iconst 0, 1) := by decide +kernel
theorem dX6_refresh_30 : decode cX6_refresh 30 = .ok (.putfield 41, 3) := by decide +kernel
theorem dX6_refresh_33 : decode cX6_refresh 33 = .ok (.aload_n 0, 1) := by decide +kernel
theorem dX6_refresh_34 : decode cX6_refresh 34 = .ok (.getfield 12, 3) := by decide +kernel
theorem dX6_refresh_37 : decode cX6_refresh 37 = .ok (.invokevirtual 60, 3) := by decide +kernel
theorem dX6_refresh_40 : decode cX6_refresh 40 = .ok (.iconst 0, 1) := by decide +kernel
theorem dX6_refresh_41 : decode cX6_refresh 41 = .ok (.istore_n 1, 1) := by decide +kernel
theorem dX6_refresh_42 : decode cX6_refresh 42 = .ok (.iload_n 1, 1) := by decide +kernel
theorem dX6_refresh_43 : decode cX6_refresh 43 = .ok (.aload_n 0, 1) := by decide +kernel
theorem dX6_refresh_44 : decode cX6_refresh 44 = .ok (.getfield 37, 3) := by decide +kernel
theorem dX6_refresh_47 : decode cX6_refresh 47 = .ok (.if_icmp .ge 93, 3) := by decide +kernel
theorem dX6_refresh_50 : decode cX6_refresh 50 = .ok (.aload_n 0, 1) := by decide +kernel
theorem dX6_refresh_51 : decode cX6_refresh 51 = .ok (.getfield 12, 3) := by decide +kernel
theorem dX6_refresh_54 : decode cX6_refresh 54 = .ok (.iconst (-1), 1) := by decide +kernel
theorem dX6_refresh_55 : decode cX6_refresh 55 = .ok (.invokevirtual 63, 3) := by decide +kernel
theorem dX6_refresh_58 : decode cX6_refresh 58 = .ok (.istore_n 2, 1) := by decide +kernel
theorem dX6_refresh_59 : decode cX6_refresh 59 = .ok (.aload_n 0, 1) := by decide +kernel
theorem dX6_refresh_60 : decode cX6_refresh 60 = .ok (.getfield 12, 3) := by decide +kernel
theorem dX6_refresh_63 : decode cX6_refresh 63 = .ok (.invokevirtual 67, 3) := by decide +kernel
theorem dX6_refresh_66 : decode cX6_refresh 66 = .ok (.istore_n 3, 1) := by decide +kernel
theorem dX6_refresh_67 : decode cX6_refresh 67 = .ok (.aload_n 0, 1) := by decide +kernel
theorem dX6_refresh_68 : decode cX6_refresh 68 = .ok (.getfield 12, 3) := by decide +kernel
theorem dX6_refresh_71 : decode cX6_refresh 71 = .ok (.invokevirtual 70, 3) := by decide +kernel
theorem dX6_refresh_74 : decode cX6_refresh 74 = .ok (.istore 4, 2) := by decide +kernel
theorem dX6_refresh_76 : decode cX6_refresh 76 = .ok (.aload_n 0, 1) := by decide +kernel
theorem dX6_refresh_77 : decode cX6_refresh 77 = .ok (.getfield 30, 3) := by decide +kernel
theorem dX6_refresh_80 : decode cX6_refresh 80 = .ok (.iload_n 1, 1) := by decide +kernel
theorem dX6_refresh_81 : decode cX6_refresh 81 = .ok (.iload_n 3, 1) := by decide +kernel
theorem dX6_refresh_82 : decode cX6_refresh 82 = .ok (.iastore, 1) := by decide +kernel
theorem dX6_refresh_83 : decode cX6_refresh 83 = .ok (.aload_n 0, 1) := by decide +kernel
theorem dX6_refresh_84 : decode cX6_refresh 84 = .ok (.getfield 27, 3) := by decide +kernel
theorem dX6_refresh_87 : decode cX6_refresh 87 = .ok (.iload_n 1, 1) := by decide +kernel
theorem dX6_refresh_88 : decode cX6_refresh 88 = .ok (.iload 4, 2) := by decide +kernel
theorem dX6_refresh_90 : decode cX6_refresh 90 = .ok (.ifCond .eq 7, 3) := by decide +kernel
theorem dX6_refresh_93 : decode cX6_refresh 93 = .ok (.iload_n 2, 1) := by decide +kernel
theorem dX6_refresh_94 : decode cX6_refresh 94 = .ok (.goto 4, 3) := by decide +kernel
theorem dX6_refresh_97 : decode cX6_refresh 97 = .ok (.iconst (-1), 1) := by decide +kernel
theorem dX6_refresh_98 : decode cX6_refresh 98 = .ok (.iastore, 1) := by decide +kernel
theorem dX6_refresh_99 : decode cX6_refresh 99 = .ok (.iload 4, 2) := by decide +kernel
theorem dX6_refresh_101 : decode cX6_refresh 101 = .ok (.ifCond .eq 26, 3) := by decide +kernel
theorem dX6_refresh_104 : decode cX6_refresh 104 = .ok (.aload_n 0, 1) := by decide +kernel
theorem dX6_refresh_105 : decode cX6_refresh 105 = .ok (.dup, 1) := by decide +kernel
theorem dX6_refresh_106 : decode cX6_refresh 106 = .ok (.getfield 44, 3) := by decide +kernel
theorem dX6_refresh_109 : decode cX6_refresh 109 = .ok (.iload_n 3, 1) := by decide +kernel
theorem dX6_refresh_110 : decode cX6_refresh 110 = .ok (.i2l, 1) := by decide +kernel
theorem dX6_refresh_111 : decode cX6_refresh 111 = .ok (.ladd, 1) := by decide +kernel
theorem dX6_refresh_112 : decode cX6_refresh 112 = .ok (.putfield 44, 3) := by decide +kernel
theorem dX6_refresh_115 : decode cX6_refresh 115 = .ok (.aload_n 0, 1) := by decide +kernel
theorem dX6_refresh_116 : decode cX6_refresh 116 = .ok (.aload_n 0, 1) := by decide +kernel
theorem dX6_refresh_117 : decode cX6_refresh 117 = .ok (.getfield 41, 3) := by decide +kernel
theorem dX6_refresh_120 : decode cX6_refresh 120 = .ok (.iload_n 2, 1) := by decide +kernel
theorem dX6_refresh_121 : decode cX6_refresh 121 = .ok (.invokestatic 74, 3) := by decide +kernel
theorem dX6_refresh_124 : decode cX6_refresh 124 = .ok (.putfield 41, 3) := by decide +kernel
theorem dX6_refresh_127 : decode cX6_refresh 127 = .ok (.aload_n 0, 1) := by decide +kernel
theorem dX6_refresh_128 : decode cX6_refresh 128 = .ok (.getfield 12, 3) := by decide +kernel
theorem dX6_refresh_131 : decode cX6_refresh 131 = .ok (.invokevirtual 80, 3) := by decide +kernel
theorem dX6_refresh_134 : decode cX6_refresh 134 = .ok (.iinc 1 1, 3) := by decide +kernel
theorem dX6_refresh_137 : decode cX6_refresh 137 = .ok (.goto (-95), 3) := by decide +kernel
theorem dX6_refresh_140 : decode cX6_refresh 140 = .ok (.aload_n 0, 1) := by decide +kernel
theorem dX6_refresh_141 : decode cX6_refresh 141 = .ok (.iconst 0, 1) := by decide +kernel
theorem dX6_refresh_142 : decode cX6_refresh 142 = .ok (.putfield 33, 3) := by decide +kernel
theorem dX6_refresh_145 : decode cX6_refresh 145 = .ok (.return_, 1) := by decide +kernel
theorem dX6_makeRoom_0 : decode cX6_makeRoom 0 = .ok (.aload_n 0, 1) := by decide +kernel
theorem dX6_makeRoom_1 : decode cX6_makeRoom 1 = .ok (.getfield 27, 3) := by decide +kernel
theorem dX6_makeRoom_4 : decode cX6_makeRoom 4 = .ok (.arraylength, 1) := by decide +kernel
theorem dX6_makeRoom_5 : decode cX6_makeRoom 5 = .ok (.aload_n 0, 1) := by decide +kernel
theorem dX6_makeRoom_6 : decode cX6_makeRoom 6 = .ok (.getfield 37, 3) := by decide +kernel
theorem dX6_makeRoom_9 : decode cX6_makeRoom 9 = .ok (.if_icmp .ge 38, 3) := by decide +kernel
theorem dX6_makeRoom_12 : decode cX6_makeRoom 12 = .ok (.aload_n 0, 1) := by decide +kernel
theorem dX6_makeRoom_13 : decode cX6_makeRoom 13 = .ok (.getfield 37, 3) := by decide +kernel
theorem dX6_makeRoom_16 : decode cX6_makeRoom 16 = .ok (.iconst 2, 1) := by decide +kernel
theorem dX6_makeRoom_17 : decode cX6_makeRoom 17 = .ok (.aload_n 0, 1) := by decide +kernel
theorem dX6_makeRoom_18 : decode cX6_makeRoom 18 = .ok (.getfield 27, 3) := by decide +kernel
theorem dX6_makeRoom_21 : decode cX6_makeRoom 21 = .ok (.arraylength, 1) := by decide +kernel
theorem dX6_makeRoom_22 : decode cX6_makeRoom 22 = .ok (.imul, 1) := by decide +kernel
theorem dX6_makeRoom_23 : decode cX6_makeRoom 23 = .ok (.sipush 20000, 3) := by decide +kernel
theorem dX6_makeRoom_26 : decode cX6_makeRoom 26 = .ok (.invokestatic 83, 3) := by decide +kernel
theorem dX6_makeRoom_29 : decode cX6_makeRoom 29 = .ok (.invokestatic 74, 3) := by decide +kernel
theorem dX6_makeRoom_32 : decode cX6_makeRoom 32 = .ok (.istore_n 1, 1) := by decide +kernel
theorem dX6_makeRoom_33 : decode cX6_makeRoom 33 = .ok (.aload_n 0, 1) := by decide +kernel
theorem dX6_makeRoom_34 : decode cX6_makeRoom 34 = .ok (.iload_n 1, 1) := by decide +kernel
theorem dX6_makeRoom_35 : decode cX6_makeRoom 35 = .ok (.newarray .int, 2) := by decide +kernel
theorem dX6_makeRoom_37 : decode cX6_makeRoom 37 = .ok (.putfield 27, 3) := by decide +kernel
theorem dX6_makeRoom_40 : decode cX6_makeRoom 40 = .ok (.aload_n 0, 1) := by decide +kernel
theorem dX6_makeRoom_41 : decode cX6_makeRoom 41 = .ok (.iload_n 1, 1) := by decide +kernel
theorem dX6_makeRoom_42 : decode cX6_makeRoom 42 = .ok (.newarray .int, 2) := by decide +kernel
theorem dX6_makeRoom_44 : decode cX6_makeRoom 44 = .ok (.putfield 30, 3) := by decide +kernel
theorem dX6_makeRoom_47 : decode cX6_makeRoom 47 = .ok (.return_, 1) := by decide +kernel
theorem dX6_isLeft_0 : decode cX6_isLeft 0 = .ok (.aload_n 0, 1) := by decide +kernel
theorem dX6_isLeft_1 : decode cX6_isLeft 1 = .ok (.getfield 27, 3) := by decide +kernel
theorem dX6_isLeft_4 : decode cX6_isLeft 4 = .ok (.iload_n 1, 1) := by decide +kernel
theorem dX6_isLeft_5 : decode cX6_isLeft 5 = .ok (.iaload, 1) := by decide +kernel
theorem dX6_isLeft_6 : decode cX6_isLeft 6 = .ok (.iconst (-1), 1) := by decide +kernel
theorem dX6_isLeft_7 : decode cX6_isLeft 7 = .ok (.if_icmp .eq 7, 3) := by decide +kernel
theorem dX6_isLeft_10 : decode cX6_isLeft 10 = .ok (.iconst 1, 1) := by decide +kernel
theorem dX6_isLeft_11 : decode cX6_isLeft 11 = .ok (.goto 4, 3) := by decide +kernel
theorem dX6_isLeft_14 : decode cX6_isLeft 14 = .ok (.iconst 0, 1) := by decide +kernel
theorem dX6_isLeft_15 : decode cX6_isLeft 15 = .ok (.ireturn, 1) := by decide +kernel
theorem dX6_weightEndingBy_0 : decode cX6_weightEndingBy 0 = .ok (.lconst 0, 1) := by decide +kernel
theorem dX6_weightEndingBy_1 : decode cX6_weightEndingBy 1 = .ok (.lstore_n 2, 1) := by decide +kernel
theorem dX6_weightEndingBy_2 : decode cX6_weightEndingBy 2 = .ok (.iconst 0, 1) := by decide +kernel
theorem dX6_weightEndingBy_3 : decode cX6_weightEndingBy 3 = .ok (.istore 4, 2) := by decide +kernel
theorem dX6_weightEndingBy_5 : decode cX6_weightEndingBy 5 = .ok (.iload 4, 2) := by decide +kernel
theorem dX6_weightEndingBy_7 : decode cX6_weightEndingBy 7 = .ok (.aload_n 0, 1) := by decide +kernel
theorem dX6_weightEndingBy_8 : decode cX6_weightEndingBy 8 = .ok (.getfield 37, 3) := by decide +kernel
theorem dX6_weightEndingBy_11 : decode cX6_weightEndingBy 11 = .ok (.if_icmp .ge 40, 3) := by decide +kernel
theorem dX6_weightEndingBy_14 : decode cX6_weightEndingBy 14 = .ok (.aload_n 0, 1) := by decide +kernel
theorem dX6_weightEndingBy_15 : decode cX6_weightEndingBy 15 = .ok (.iload 4, 2) := by decide +kernel
theorem dX6_weightEndingBy_17 : decode cX6_weightEndingBy 17 = .ok (.invokevirtual 86, 3) := by decide +kernel
theorem dX6_weightEndingBy_20 : decode cX6_weightEndingBy 20 = .ok (.ifCond .eq 25, 3) := by decide +kernel
theorem dX6_weightEndingBy_23 : decode cX6_weightEndingBy 23 = .ok (.aload_n 0, 1) := by decide +kernel
theorem dX6_weightEndingBy_24 : decode cX6_weightEndingBy 24 = .ok (.getfield 27, 3) := by decide +kernel
theorem dX6_weightEndingBy_27 : decode cX6_weightEndingBy 27 = .ok (.iload 4, 2) := by decide +kernel
theorem dX6_weightEndingBy_29 : decode cX6_weightEndingBy 29 = .ok (.iaload, 1) := by decide +kernel
theorem dX6_weightEndingBy_30 : decode cX6_weightEndingBy 30 = .ok (.iload_n 1, 1) := by decide +kernel
theorem dX6_weightEndingBy_31 : decode cX6_weightEndingBy 31 = .ok (.if_icmp .gt 14, 3) := by decide +kernel
theorem dX6_weightEndingBy_34 : decode cX6_weightEndingBy 34 = .ok (.lload_n 2, 1) := by decide +kernel
theorem dX6_weightEndingBy_35 : decode cX6_weightEndingBy 35 = .ok (.aload_n 0, 1) := by decide +kernel
theorem dX6_weightEndingBy_36 : decode cX6_weightEndingBy 36 = .ok (.getfield 30, 3) := by decide +kernel
theorem dX6_weightEndingBy_39 : decode cX6_weightEndingBy 39 = .ok (.iload 4, 2) := by decide +kernel
theorem dX6_weightEndingBy_41 : decode cX6_weightEndingBy 41 = .ok (.iaload, 1) := by decide +kernel
theorem dX6_weightEndingBy_42 : decode cX6_weightEndingBy 42 = .ok (.i2l, 1) := by decide +kernel
theorem dX6_weightEndingBy_43 : decode cX6_weightEndingBy 43 = .ok (.ladd, 1) := by decide +kernel
theorem dX6_weightEndingBy_44 : decode cX6_weightEndingBy 44 = .ok (.lstore_n 2, 1) := by decide +kernel
theorem dX6_weightEndingBy_45 : decode cX6_weightEndingBy 45 = .ok (.iinc 4 1, 3) := by decide +kernel
theorem dX6_weightEndingBy_48 : decode cX6_weightEndingBy 48 = .ok (.goto (-43), 3) := by decide +kernel
theorem dX6_weightEndingBy_51 : decode cX6_weightEndingBy 51 = .ok (.lload_n 2, 1) := by decide +kernel
theorem dX6_weightEndingBy_52 : decode cX6_weightEndingBy 52 = .ok (.lreturn, 1) := by decide +kernel
theorem dX6_sumOfEnds_0 : decode cX6_sumOfEnds 0 = .ok (.lconst 0, 1) := by decide +kernel
theorem dX6_sumOfEnds_1 : decode cX6_sumOfEnds 1 = .ok (.lstore_n 1, 1) := by decide +kernel
theorem dX6_sumOfEnds_2 : decode cX6_sumOfEnds 2 = .ok (.iconst 0, 1) := by decide +kernel
theorem dX6_sumOfEnds_3 : decode cX6_sumOfEnds 3 = .ok (.istore_n 3, 1) := by decide +kernel
theorem dX6_sumOfEnds_4 : decode cX6_sumOfEnds 4 = .ok (.iload_n 3, 1) := by decide +kernel
theorem dX6_sumOfEnds_5 : decode cX6_sumOfEnds 5 = .ok (.aload_n 0, 1) := by decide +kernel
theorem dX6_sumOfEnds_6 : decode cX6_sumOfEnds 6 = .ok (.getfield 37, 3) := by decide +kernel
theorem dX6_sumOfEnds_9 : decode cX6_sumOfEnds 9 = .ok (.if_icmp .ge 35, 3) := by decide +kernel
theorem dX6_sumOfEnds_12 : decode cX6_sumOfEnds 12 = .ok (.aload_n 0, 1) := by decide +kernel
theorem dX6_sumOfEnds_13 : decode cX6_sumOfEnds 13 = .ok (.iload_n 3, 1) := by decide +kernel
theorem dX6_sumOfEnds_14 : decode cX6_sumOfEnds 14 = .ok (.invokevirtual 86, 3) := by decide +kernel
theorem dX6_sumOfEnds_17 : decode cX6_sumOfEnds 17 = .ok (.ifCond .eq 21, 3) := by decide +kernel
theorem dX6_sumOfEnds_20 : decode cX6_sumOfEnds 20 = .ok (.lload_n 1, 1) := by decide +kernel
theorem dX6_sumOfEnds_21 : decode cX6_sumOfEnds 21 = .ok (.aload_n 0, 1) := by decide +kernel
theorem dX6_sumOfEnds_22 : decode cX6_sumOfEnds 22 = .ok (.getfield 30, 3) := by decide +kernel
theorem dX6_sumOfEnds_25 : decode cX6_sumOfEnds 25 = .ok (.iload_n 3, 1) := by decide +kernel
theorem dX6_sumOfEnds_26 : decode cX6_sumOfEnds 26 = .ok (.iaload, 1) := by decide +kernel
theorem dX6_sumOfEnds_27 : decode cX6_sumOfEnds 27 = .ok (.i2l, 1) := by decide +kernel
theorem dX6_sumOfEnds_28 : decode cX6_sumOfEnds 28 = .ok (.aload_n 0, 1) := by decide +kernel
theorem dX6_sumOfEnds_29 : decode cX6_sumOfEnds 29 = .ok (.getfield 27, 3) := by decide +kernel
theorem dX6_sumOfEnds_32 : decode cX6_sumOfEnds 32 = .ok (.iload_n 3, 1) := by decide +kernel
theorem dX6_sumOfEnds_33 : decode cX6_sumOfEnds 33 = .ok (.iaload, 1) := by decide +kernel
theorem dX6_sumOfEnds_34 : decode cX6_sumOfEnds 34 = .ok (.i2l, 1) := by decide +kernel
theorem dX6_sumOfEnds_35 : decode cX6_sumOfEnds 35 = .ok (.lmul, 1) := by decide +kernel
theorem dX6_sumOfEnds_36 : decode cX6_sumOfEnds 36 = .ok (.ladd, 1) := by decide +kernel
theorem dX6_sumOfEnds_37 : decode cX6_sumOfEnds 37 = .ok (.lstore_n 1, 1) := by decide +kernel
theorem dX6_sumOfEnds_38 : decode cX6_sumOfEnds 38 = .ok (.iinc 3 1, 3) := by decide +kernel
theorem dX6_sumOfEnds_41 : decode cX6_sumOfEnds 41 = .ok (.goto (-37), 3) := by decide +kernel
theorem dX6_sumOfEnds_44 : decode cX6_sumOfEnds 44 = .ok (.lload_n 1, 1) := by decide +kernel
theorem dX6_sumOfEnds_45 : decode cX6_sumOfEnds 45 = .ok (.lreturn, 1) := by decide +kernel
theorem dX6_weightWithPartBy_0 : decode cX6_weightWithPartBy 0 = .ok (.lconst 0, 1) := by decide +kernel
theorem dX6_weightWithPartBy_1 : decode cX6_weightWithPartBy 1 = .ok (.lstore_n 3, 1) := by decide +kernel
theorem dX6_weightWithPartBy_2 : decode cX6_weightWithPartBy 2 = .ok (.aload_n 0, 1) := by decide +kernel
theorem dX6_weightWithPartBy_3 : decode cX6_weightWithPartBy 3 = .ok (.getfield 12, 3) := by decide +kernel
theorem dX6_weightWithPartBy_6 : decode cX6_weightWithPartBy 6 = .ok (.invokevirtual 60, 3) := by decide +kernel
theorem dX6_weightWithPartBy_9 : decode cX6_weightWithPartBy 9 = .ok (.iconst 0, 1) := by decide +kernel
theorem dX6_weightWithPartBy_10 : decode cX6_weightWithPartBy 10 = .ok (.istore 5, 2) := by decide +kernel
theorem dX6_weightWithPartBy_12 : decode cX6_weightWithPartBy 12 = .ok (.iload 5, 2) := by decide +kernel
theorem dX6_weightWithPartBy_14 : decode cX6_weightWithPartBy 14 = .ok (.aload_n 0, 1) := by decide +kernel
theorem dX6_weightWithPartBy_15 : decode cX6_weightWithPartBy 15 = .ok (.getfield 37, 3) := by decide +kernel
theorem dX6_weightWithPartBy_18 : decode cX6_weightWithPartBy 18 = .ok (.if_icmp .ge 58, 3) := by decide +kernel
theorem dX6_weightWithPartBy_21 : decode cX6_weightWithPartBy 21 = .ok (.aload_n 0, 1) := by decide +kernel
theorem dX6_weightWithPartBy_22 : decode cX6_weightWithPartBy 22 = .ok (.iload 5, 2) := by decide +kernel
theorem dX6_weightWithPartBy_24 : decode cX6_weightWithPartBy 24 = .ok (.invokevirtual 86, 3) := by decide +kernel
theorem dX6_weightWithPartBy_27 : decode cX6_weightWithPartBy 27 = .ok (.ifCond .eq 36, 3) := by decide +kernel
theorem dX6_weightWithPartBy_30 : decode cX6_weightWithPartBy 30 = .ok (.aload_n 0, 1) := by decide +kernel
theorem dX6_weightWithPartBy_31 : decode cX6_weightWithPartBy 31 = .ok (.getfield 12, 3) := by decide +kernel
theorem dX6_weightWithPartBy_34 : decode cX6_weightWithPartBy 34 = .ok (.iconst (-1), 1) := by decide +kernel
theorem dX6_weightWithPartBy_35 : decode cX6_weightWithPartBy 35 = .ok (.invokevirtual 63, 3) := by decide +kernel
theorem dX6_weightWithPartBy_38 : decode cX6_weightWithPartBy 38 = .ok (.pop, 1) := by decide +kernel
theorem dX6_weightWithPartBy_39 : decode cX6_weightWithPartBy 39 = .ok (.aload_n 0, 1) := by decide +kernel
theorem dX6_weightWithPartBy_40 : decode cX6_weightWithPartBy 40 = .ok (.getfield 12, 3) := by decide +kernel
theorem dX6_weightWithPartBy_43 : decode cX6_weightWithPartBy 43 = .ok (.getfield 90, 3) := by decide +kernel
theorem dX6_weightWithPartBy_46 : decode cX6_weightWithPartBy 46 = .ok (.iload_n 1, 1) := by decide +kernel
theorem dX6_weightWithPartBy_47 : decode cX6_weightWithPartBy 47 = .ok (.iaload, 1) := by decide +kernel
theorem dX6_weightWithPartBy_48 : decode cX6_weightWithPartBy 48 = .ok (.iload_n 2, 1) := by decide +kernel
theorem dX6_weightWithPartBy_49 : decode cX6_weightWithPartBy 49 = .ok (.if_icmp .gt 14, 3) := by decide +kernel
theorem dX6_weightWithPartBy_52 : decode cX6_weightWithPartBy 52 = .ok (.lload_n 3, 1) := by decide +kernel
theorem dX6_weightWithPartBy_53 : decode cX6_weightWithPartBy 53 = .ok (.aload_n 0, 1) := by decide +kernel
theorem dX6_weightWithPartBy_54 : decode cX6_weightWithPartBy 54 = .ok (.getfield 30, 3) := by decide +kernel
theorem dX6_weightWithPartBy_57 : decode cX6_weightWithPartBy 57 = .ok (.iload 5, 2) := by decide +kernel
theorem dX6_weightWithPartBy_59 : decode cX6_weightWithPartBy 59 = .ok (.iaload, 1) := by decide +kernel
theorem dX6_weightWithPartBy_60 : decode cX6_weightWithPartBy 60 = .ok (.i2l, 1) := by decide +kernel
theorem dX6_weightWithPartBy_61 : decode cX6_weightWithPartBy 61 = .ok (.ladd, 1) := by decide +kernel
theorem dX6_weightWithPartBy_62 : decode cX6_weightWithPartBy 62 = .ok (.lstore_n 3, 1) := by decide +kernel
theorem dX6_weightWithPartBy_63 : decode cX6_weightWithPartBy 63 = .ok (.aload_n 0, 1) := by decide +kernel
theorem dX6_weightWithPartBy_64 : decode cX6_weightWithPartBy 64 = .ok (.getfield 12, 3) := by decide +kernel
theorem dX6_weightWithPartBy_67 : decode cX6_weightWithPartBy 67 = .ok (.invokevirtual 80, 3) := by decide +kernel
theorem dX6_weightWithPartBy_70 : decode cX6_weightWithPartBy 70 = .ok (.iinc 5 1, 3) := by decide +kernel
theorem dX6_weightWithPartBy_73 : decode cX6_weightWithPartBy 73 = .ok (.goto (-61), 3) := by decide +kernel
theorem dX6_weightWithPartBy_76 : decode cX6_weightWithPartBy 76 = .ok (.lload_n 3, 1) := by decide +kernel
theorem dX6_weightWithPartBy_77 : decode cX6_weightWithPartBy 77 = .ok (.lreturn, 1) := by decide +kernel
theorem dX6_weightMovedBy_0 : decode cX6_weightMovedBy 0 = .ok (.lconst 0, 1) := by decide +kernel
theorem dX6_weightMovedBy_1 : decode cX6_weightMovedBy 1 = .ok (.lstore_n 2, 1) := by decide +kernel
theorem dX6_weightMovedBy_2 : decode cX6_weightMovedBy 2 = .ok (.aload_n 0, 1) := by decide +kernel
theorem dX6_weightMovedBy_3 : decode cX6_weightMovedBy 3 = .ok (.getfield 12, 3) := by decide +kernel
theorem dX6_weightMovedBy_6 : decode cX6_weightMovedBy 6 = .ok (.invokevirtual 60, 3) := by decide +kernel
theorem dX6_weightMovedBy_9 : decode cX6_weightMovedBy 9 = .ok (.iconst 0, 1) := by decide +kernel
theorem dX6_weightMovedBy_10 : decode cX6_weightMovedBy 10 = .ok (.istore 4, 2) := by decide +kernel
theorem dX6_weightMovedBy_12 : decode cX6_weightMovedBy 12 = .ok (.iload 4, 2) := by decide +kernel
theorem dX6_weightMovedBy_14 : decode cX6_weightMovedBy 14 = .ok (.aload_n 0, 1) := by decide +kernel
theorem dX6_weightMovedBy_15 : decode cX6_weightMovedBy 15 = .ok (.getfield 37, 3) := by decide +kernel
theorem dX6_weightMovedBy_18 : decode cX6_weightMovedBy 18 = .ok (.if_icmp .ge 54, 3) := by decide +kernel
theorem dX6_weightMovedBy_21 : decode cX6_weightMovedBy 21 = .ok (.aload_n 0, 1) := by decide +kernel
theorem dX6_weightMovedBy_22 : decode cX6_weightMovedBy 22 = .ok (.iload 4, 2) := by decide +kernel
theorem dX6_weightMovedBy_24 : decode cX6_weightMovedBy 24 = .ok (.invokevirtual 86, 3) := by decide +kernel
theorem dX6_weightMovedBy_27 : decode cX6_weightMovedBy 27 = .ok (.ifCond .eq 32, 3) := by decide +kernel
theorem dX6_weightMovedBy_30 : decode cX6_weightMovedBy 30 = .ok (.aload_n 0, 1) := by decide +kernel
theorem dX6_weightMovedBy_31 : decode cX6_weightMovedBy 31 = .ok (.getfield 12, 3) := by decide +kernel
theorem dX6_weightMovedBy_34 : decode cX6_weightMovedBy 34 = .ok (.iload_n 1, 1) := by decide +kernel
theorem dX6_weightMovedBy_35 : decode cX6_weightMovedBy 35 = .ok (.invokevirtual 63, 3) := by decide +kernel
theorem dX6_weightMovedBy_38 : decode cX6_weightMovedBy 38 = .ok (.aload_n 0, 1) := by decide +kernel
theorem dX6_weightMovedBy_39 : decode cX6_weightMovedBy 39 = .ok (.getfield 27, 3) := by decide +kernel
theorem dX6_weightMovedBy_42 : decode cX6_weightMovedBy 42 = .ok (.iload 4, 2) := by decide +kernel
theorem dX6_weightMovedBy_44 : decode cX6_weightMovedBy 44 = .ok (.iaload, 1) := by decide +kernel
theorem dX6_weightMovedBy_45 : decode cX6_weightMovedBy 45 = .ok (.if_icmp .le 14, 3) := by decide +kernel
theorem dX6_weightMovedBy_48 : decode cX6_weightMovedBy 48 = .ok (.lload_n 2, 1) := by decide +kernel
theorem dX6_weightMovedBy_49 : decode cX6_weightMovedBy 49 = .ok (.aload_n 0, 1) := by decide +kernel
theorem dX6_weightMovedBy_50 : decode cX6_weightMovedBy 50 = .ok (.getfield 30, 3) := by decide +kernel
theorem dX6_weightMovedBy_53 : decode cX6_weightMovedBy 53 = .ok (.iload 4, 2) := by decide +kernel
theorem dX6_weightMovedBy_55 : decode cX6_weightMovedBy 55 = .ok (.iaload, 1) := by decide +kernel
theorem dX6_weightMovedBy_56 : decode cX6_weightMovedBy 56 = .ok (.i2l, 1) := by decide +kernel
theorem dX6_weightMovedBy_57 : decode cX6_weightMovedBy 57 = .ok (.ladd, 1) := by decide +kernel
theorem dX6_weightMovedBy_58 : decode cX6_weightMovedBy 58 = .ok (.lstore_n 2, 1) := by decide +kernel
theorem dX6_weightMovedBy_59 : decode cX6_weightMovedBy 59 = .ok (.aload_n 0, 1) := by decide +kernel
theorem dX6_weightMovedBy_60 : decode cX6_weightMovedBy 60 = .ok (.getfield 12, 3) := by decide +kernel
theorem dX6_weightMovedBy_63 : decode cX6_weightMovedBy 63 = .ok (.invokevirtual 80, 3) := by decide +kernel
theorem dX6_weightMovedBy_66 : decode cX6_weightMovedBy 66 = .ok (.iinc 4 1, 3) := by decide +kernel
theorem dX6_weightMovedBy_69 : decode cX6_weightMovedBy 69 = .ok (.goto (-57), 3) := by decide +kernel
theorem dX6_weightMovedBy_72 : decode cX6_weightMovedBy 72 = .ok (.lload_n 2, 1) := by decide +kernel
theorem dX6_weightMovedBy_73 : decode cX6_weightMovedBy 73 = .ok (.lreturn, 1) := by decide +kernel
theorem dX6_leastDayAtRisk_0 : decode cX6_leastDayAtRisk 0 = .ok (.aload_n 0, 1) := by decide +kernel
theorem dX6_leastDayAtRisk_1 : decode cX6_leastDayAtRisk 1 = .ok (.invokevirtual 93, 3) := by decide +kernel
theorem dX6_leastDayAtRisk_4 : decode cX6_leastDayAtRisk 4 = .ok (.aload_n 0, 1) := by decide +kernel
theorem dX6_leastDayAtRisk_5 : decode cX6_leastDayAtRisk 5 = .ok (.getfield 44, 3) := by decide +kernel
theorem dX6_leastDayAtRisk_8 : decode cX6_leastDayAtRisk 8 = .ok (.lstore_n 3, 1) := by decide +kernel
theorem dX6_leastDayAtRisk_9 : decode cX6_leastDayAtRisk 9 = .ok (.iconst 0, 1) := by decide +kernel
theorem dX6_leastDayAtRisk_10 : decode cX6_leastDayAtRisk 10 = .ok (.istore 5, 2) := by decide +kernel
theorem dX6_leastDayAtRisk_12 : decode cX6_leastDayAtRisk 12 = .ok (.iload 5, 2) := by decide +kernel
theorem dX6_leastDayAtRisk_14 : decode cX6_leastDayAtRisk 14 = .ok (.aload_n 0, 1) := by decide +kernel
theorem dX6_leastDayAtRisk_15 : decode cX6_leastDayAtRisk 15 = .ok (.getfield 41, 3) := by decide +kernel
theorem dX6_leastDayAtRisk_18 : decode cX6_leastDayAtRisk 18 = .ok (.if_icmp .ge 38, 3) := by decide +kernel
theorem dX6_leastDayAtRisk_21 : decode cX6_leastDayAtRisk 21 = .ok (.lload_n 3, 1) := by decide +kernel
theorem dX6_leastDayAtRisk_22 : decode cX6_leastDayAtRisk 22 = .ok (.aload_n 0, 1) := by decide +kernel
theorem dX6_leastDayAtRisk_23 : decode cX6_leastDayAtRisk 23 = .ok (.getfield 23, 3) := by decide +kernel
theorem dX6_leastDayAtRisk_26 : decode cX6_leastDayAtRisk 26 = .ok (.iload 5, 2) := by decide +kernel
theorem dX6_leastDayAtRisk_28 : decode cX6_leastDayAtRisk 28 = .ok (.iaload, 1) := by decide +kernel
theorem dX6_leastDayAtRisk_29 : decode cX6_leastDayAtRisk 29 = .ok (.i2l, 1) := by decide +kernel
theorem dX6_leastDayAtRisk_30 : decode cX6_leastDayAtRisk 30 = .ok (.lsub, 1) := by decide +kernel
theorem dX6_leastDayAtRisk_31 : decode cX6_leastDayAtRisk 31 = .ok (.lstore_n 3, 1) := by decide +kernel
theorem dX6_leastDayAtRisk_32 : decode cX6_leastDayAtRisk 32 = .ok (.lload_n 3, 1) := by decide +kernel
theorem dX6_leastDayAtRisk_33 : decode cX6_leastDayAtRisk 33 = .ok (.iload_n 2, 1) := by decide +kernel
theorem dX6_leastDayAtRisk_34 : decode cX6_leastDayAtRisk 34 = .ok (.i2l, 1) := by decide +kernel
theorem dX6_leastDayAtRisk_35 : decode cX6_leastDayAtRisk 35 = .ok (.lmul, 1) := by decide +kernel
theorem dX6_leastDayAtRisk_36 : decode cX6_leastDayAtRisk 36 = .ok (.iload_n 1, 1) := by decide +kernel
theorem dX6_leastDayAtRisk_37 : decode cX6_leastDayAtRisk 37 = .ok (.i2l, 1) := by decide +kernel
theorem dX6_leastDayAtRisk_38 : decode cX6_leastDayAtRisk 38 = .ok (.aload_n 0, 1) := by decide +kernel
theorem dX6_leastDayAtRisk_39 : decode cX6_leastDayAtRisk 39 = .ok (.getfield 44, 3) := by decide +kernel
theorem dX6_leastDayAtRisk_42 : decode cX6_leastDayAtRisk 42 = .ok (.lmul, 1) := by decide +kernel
theorem dX6_leastDayAtRisk_43 : decode cX6_leastDayAtRisk 43 = .ok (.lcmp, 1) := by decide +kernel
theorem dX6_leastDayAtRisk_44 : decode cX6_leastDayAtRisk 44 = .ok (.ifCond .gt 6, 3) := by decide +kernel
theorem dX6_leastDayAtRisk_47 : decode cX6_leastDayAtRisk 47 = .ok (.iload 5, 2) := by decide +kernel
theorem dX6_leastDayAtRisk_49 : decode cX6_leastDayAtRisk 49 = .ok (.ireturn, 1) := by decide +kernel
theorem dX6_leastDayAtRisk_50 : decode cX6_leastDayAtRisk 50 = .ok (.iinc 5 1, 3) := by decide +kernel
theorem dX6_leastDayAtRisk_53 : decode cX6_leastDayAtRisk 53 = .ok (.goto (-41), 3) := by decide +kernel
theorem dX6_leastDayAtRisk_56 : decode cX6_leastDayAtRisk 56 = .ok (.aload_n 0, 1) := by decide +kernel
theorem dX6_leastDayAtRisk_57 : decode cX6_leastDayAtRisk 57 = .ok (.getfield 41, 3) := by decide +kernel
theorem dX6_leastDayAtRisk_60 : decode cX6_leastDayAtRisk 60 = .ok (.ireturn, 1) := by decide +kernel
theorem dX6_gatherAll_0 : decode cX6_gatherAll 0 = .ok (.aload_n 0, 1) := by decide +kernel
theorem dX6_gatherAll_1 : decode cX6_gatherAll 1 = .ok (.invokevirtual 96, 3) := by decide +kernel
theorem dX6_gatherAll_4 : decode cX6_gatherAll 4 = .ok (.iconst 0, 1) := by decide +kernel
theorem dX6_gatherAll_5 : decode cX6_gatherAll 5 = .ok (.istore_n 1, 1) := by decide +kernel
theorem dX6_gatherAll_6 : decode cX6_gatherAll 6 = .ok (.iload_n 1, 1) := by decide +kernel
theorem dX6_gatherAll_7 : decode cX6_gatherAll 7 = .ok (.aload_n 0, 1) := by decide +kernel
theorem dX6_gatherAll_8 : decode cX6_gatherAll 8 = .ok (.getfield 37, 3) := by decide +kernel
theorem dX6_gatherAll_11 : decode cX6_gatherAll 11 = .ok (.if_icmp .ge 14, 3) := by decide +kernel
theorem dX6_gatherAll_14 : decode cX6_gatherAll 14 = .ok (.aload_n 0, 1) := by decide +kernel
theorem dX6_gatherAll_15 : decode cX6_gatherAll 15 = .ok (.iload_n 1, 1) := by decide +kernel
theorem dX6_gatherAll_16 : decode cX6_gatherAll 16 = .ok (.invokevirtual 99, 3) := by decide +kernel
theorem dX6_gatherAll_19 : decode cX6_gatherAll 19 = .ok (.iinc 1 1, 3) := by decide +kernel
theorem dX6_gatherAll_22 : decode cX6_gatherAll 22 = .ok (.goto (-16), 3) := by decide +kernel
theorem dX6_gatherAll_25 : decode cX6_gatherAll 25 = .ok (.return_, 1) := by decide +kernel
theorem dX6_gatherRow_0 : decode cX6_gatherRow 0 = .ok (.aload_n 0, 1) := by decide +kernel
theorem dX6_gatherRow_1 : decode cX6_gatherRow 1 = .ok (.invokevirtual 96, 3) := by decide +kernel
theorem dX6_gatherRow_4 : decode cX6_gatherRow 4 = .ok (.aload_n 0, 1) := by decide +kernel
theorem dX6_gatherRow_5 : decode cX6_gatherRow 5 = .ok (.getfield 22, 3) := by decide +kernel
theorem dX6_gatherRow_8 : decode cX6_gatherRow 8 = .ok (.iload_n 1, 1) := by decide +kernel
theorem dX6_gatherRow_9 : decode cX6_gatherRow 9 = .ok (.invokevirtual 103, 3) := by decide +kernel
theorem dX6_gatherRow_12 : decode cX6_gatherRow 12 = .ok (.istore_n 3, 1) := by decide +kernel
theorem dX6_gatherRow_13 : decode cX6_gatherRow 13 = .ok (.iload_n 3, 1) := by decide +kernel
theorem dX6_gatherRow_14 : decode cX6_gatherRow 14 = .ok (.aload_n 0, 1) := by decide +kernel
theorem dX6_gatherRow_15 : decode cX6_gatherRow 15 = .ok (.getfield 22, 3) := by decide +kernel
theorem dX6_gatherRow_18 : decode cX6_gatherRow 18 = .ok (.getfield 106, 3) := by decide +kernel
theorem dX6_gatherRow_21 : decode cX6_gatherRow 21 = .ok (.iload_n 1, 1) := by decide +kernel
theorem dX6_gatherRow_22 : decode cX6_gatherRow 22 = .ok (.aaload, 1) := by decide +kernel
theorem dX6_gatherRow_23 : decode cX6_gatherRow 23 = .ok (.getfield 110, 3) := by decide +kernel
theorem dX6_gatherRow_26 : decode cX6_gatherRow 26 = .ok (.imul, 1) := by decide +kernel
theorem dX6_gatherRow_27 : decode cX6_gatherRow 27 = .ok (.istore 4, 2) := by decide +kernel
theorem dX6_gatherRow_29 : decode cX6_gatherRow 29 = .ok (.iload 4, 2) := by decide +kernel
theorem dX6_gatherRow_31 : decode cX6_gatherRow 31 = .ok (.iconst 1, 1) := by decide +kernel
theorem dX6_gatherRow_32 : decode cX6_gatherRow 32 = .ok (.if_icmp .ge 4, 3) := by decide +kernel
theorem dX6_gatherRow_35 : decode cX6_gatherRow 35 = .ok (.return_, 1) := by decide +kernel
theorem dX6_gatherRow_36 : decode cX6_gatherRow 36 = .ok (.iload_n 2, 1) := by decide +kernel
theorem dX6_gatherRow_37 : decode cX6_gatherRow 37 = .ok (.iload_n 3, 1) := by decide +kernel
theorem dX6_gatherRow_38 : decode cX6_gatherRow 38 = .ok (.imul, 1) := by decide +kernel
theorem dX6_gatherRow_39 : decode cX6_gatherRow 39 = .ok (.istore 5, 2) := by decide +kernel
theorem dX6_gatherRow_41 : decode cX6_gatherRow 41 = .ok (.iload 5, 2) := by decide +kernel
theorem dX6_gatherRow_43 : decode cX6_gatherRow 43 = .ok (.aload_n 0, 1) := by decide +kernel
theorem dX6_gatherRow_44 : decode cX6_gatherRow 44 = .ok (.getfield 37, 3) := by decide +kernel
theorem dX6_gatherRow_47 : decode cX6_gatherRow 47 = .ok (.if_icmp .ge 47, 3) := by decide +kernel
theorem dX6_gatherRow_50 : decode cX6_gatherRow 50 = .ok (.iload 5, 2) := by decide +kernel
theorem dX6_gatherRow_52 : decode cX6_gatherRow 52 = .ok (.istore 6, 2) := by decide +kernel
theorem dX6_gatherRow_54 : decode cX6_gatherRow 54 = .ok (.iload 6, 2) := by decide +kernel
theorem dX6_gatherRow_56 : decode cX6_gatherRow 56 = .ok (.iload 5, 2) := by decide +kernel
theorem dX6_gatherRow_58 : decode cX6_gatherRow 58 = .ok (.iload_n 3, 1) := by decide +kernel
theorem dX6_gatherRow_59 : decode cX6_gatherRow 59 = .ok (.iadd, 1) := by decide +kernel
theorem dX6_gatherRow_60 : decode cX6_gatherRow 60 = .ok (.if_icmp .ge 24, 3) := by decide +kernel
theorem dX6_gatherRow_63 : decode cX6_gatherRow 63 = .ok (.iload 6, 2) := by decide +kernel
theorem dX6_gatherRow_65 : decode cX6_gatherRow 65 = .ok (.aload_n 0, 1) := by decide +kernel
theorem dX6_gatherRow_66 : decode cX6_gatherRow 66 = .ok (.getfield 37, 3) := by decide +kernel
theorem dX6_gatherRow_69 : decode cX6_gatherRow 69 = .ok (.if_icmp .ge 15, 3) := by decide +kernel
theorem dX6_gatherRow_72 : decode cX6_gatherRow 72 = .ok (.aload_n 0, 1) := by decide +kernel
theorem dX6_gatherRow_73 : decode cX6_gatherRow 73 = .ok (.iload 6, 2) := by decide +kernel
theorem dX6_gatherRow_75 : decode cX6_gatherRow 75 = .ok (.invokevirtual 99, 3) := by decide +kernel
theorem dX6_gatherRow_78 : decode cX6_gatherRow 78 = .ok (.iinc 6 1, 3) := by decide +kernel
theorem dX6_gatherRow_81 : decode cX6_gatherRow 81 = .ok (.goto (-27), 3) := by decide +kernel
theorem dX6_gatherRow_84 : decode cX6_gatherRow 84 = .ok (.iload 5, 2) := by decide +kernel
theorem dX6_gatherRow_86 : decode cX6_gatherRow 86 = .ok (.iload 4, 2) := by decide +kernel
theorem dX6_gatherRow_88 : decode cX6_gatherRow 88 = .ok (.iadd, 1) := by decide +kernel
theorem dX6_gatherRow_89 : decode cX6_gatherRow 89 = .ok (.istore 5, 2) := by decide +kernel
theorem dX6_gatherRow_91 : decode cX6_gatherRow 91 = .ok (.goto (-50), 3) := by decide +kernel
theorem dX6_gatherRow_94 : decode cX6_gatherRow 94 = .ok (.return_, 1) := by decide +kernel
theorem dX6_emptyDays_0 : decode cX6_emptyDays 0 = .ok (.aload_n 0, 1) := by decide +kernel
theorem dX6_emptyDays_1 : decode cX6_emptyDays 1 = .ok (.lconst 0, 1) := by decide +kernel
theorem dX6_emptyDays_2 : decode cX6_emptyDays 2 = .ok (.putfield 48, 3) := by decide +kernel
theorem dX6_emptyDays_5 : decode cX6_emptyDays 5 = .ok (.iconst 0, 1) := by decide +kernel
theorem dX6_emptyDays_6 : decode cX6_emptyDays 6 = .ok (.istore_n 1, 1) := by decide +kernel
theorem dX6_emptyDays_7 : decode cX6_emptyDays 7 = .ok (.iload_n 1, 1) := by decide +kernel
theorem dX6_emptyDays_8 : decode cX6_emptyDays 8 = .ok (.aload_n 0, 1) := by decide +kernel
theorem dX6_emptyDays_9 : decode cX6_emptyDays 9 = .ok (.getfield 41, 3) := by decide +kernel
theorem dX6_emptyDays_12 : decode cX6_emptyDays 12 = .ok (.if_icmp .gt 23, 3) := by decide +kernel
theorem dX6_emptyDays_15 : decode cX6_emptyDays 15 = .ok (.iload_n 1, 1) := by decide +kernel
theorem dX6_emptyDays_16 : decode cX6_emptyDays 16 = .ok (.sipush 4950, 3) := by decide +kernel
theorem dX6_emptyDays_19 : decode cX6_emptyDays 19 = .ok (.if_icmp .gt 16, 3) := by decide +kernel
theorem dX6_emptyDays_22 : decode cX6_emptyDays 22 = .ok (.aload_n 0, 1) := by decide +kernel
theorem dX6_emptyDays_23 : decode cX6_emptyDays 23 = .ok (.getfield 23, 3) := by decide +kernel
theorem dX6_emptyDays_26 : decode cX6_emptyDays 26 = .ok (.iload_n 1, 1) := by decide +kernel
theorem dX6_emptyDays_27 : decode cX6_emptyDays 27 = .ok (.iconst 0, 1) := by decide +kernel
theorem dX6_emptyDays_28 : decode cX6_emptyDays 28 = .ok (.iastore, 1) := by decide +kernel
theorem dX6_emptyDays_29 : decode cX6_emptyDays 29 = .ok (.iinc 1 1, 3) := by decide +kernel
theorem dX6_emptyDays_32 : decode cX6_emptyDays 32 = .ok (.goto (-25), 3) := by decide +kernel
theorem dX6_emptyDays_35 : decode cX6_emptyDays 35 = .ok (.return_, 1) := by decide +kernel
theorem dX6_gather_0 : decode cX6_gather 0 = .ok (.aload_n 0, 1) := by decide +kernel
theorem dX6_gather_1 : decode cX6_gather 1 = .ok (.getfield 27, 3) := by decide +kernel
theorem dX6_gather_4 : decode cX6_gather 4 = .ok (.iload_n 1, 1) := by decide +kernel
theorem dX6_gather_5 : decode cX6_gather 5 = .ok (.iaload, 1) := by decide +kernel
theorem dX6_gather_6 : decode cX6_gather 6 = .ok (.istore_n 2, 1) := by decide +kernel
theorem dX6_gather_7 : decode cX6_gather 7 = .ok (.iload_n 2, 1) := by decide +kernel
theorem dX6_gather_8 : decode cX6_gather 8 = .ok (.ifCond .lt 41, 3) := by decide +kernel
theorem dX6_gather_11 : decode cX6_gather 11 = .ok (.iload_n 2, 1) := by decide +kernel
theorem dX6_gather_12 : decode cX6_gather 12 = .ok (.sipush 4950, 3) := by decide +kernel
theorem dX6_gather_15 : decode cX6_gather 15 = .ok (.if_icmp .gt 34, 3) := by decide +kernel
theorem dX6_gather_18 : decode cX6_gather 18 = .ok (.aload_n 0, 1) := by decide +kernel
theorem dX6_gather_19 : decode cX6_gather 19 = .ok (.getfield 23, 3) := by decide +kernel
theorem dX6_gather_22 : decode cX6_gather 22 = .ok (.iload_n 2, 1) := by decide +kernel
theorem dX6_gather_23 : decode cX6_gather 23 = .ok (.dup2, 1) := by decide +kernel
theorem dX6_gather_24 : decode cX6_gather 24 = .ok (.iaload, 1) := by decide +kernel
theorem dX6_gather_25 : decode cX6_gather 25 = .ok (.aload_n 0, 1) := by decide +kernel
theorem dX6_gather_26 : decode cX6_gather 26 = .ok (.getfield 30, 3) := by decide +kernel
theorem dX6_gather_29 : decode cX6_gather 29 = .ok (.iload_n 1, 1) := by decide +kernel
theorem dX6_gather_30 : decode cX6_gather 30 = .ok (.iaload, 1) := by decide +kernel
theorem dX6_gather_31 : decode cX6_gather 31 = .ok (.iadd, 1) := by decide +kernel
theorem dX6_gather_32 : decode cX6_gather 32 = .ok (.iastore, 1) := by decide +kernel
theorem dX6_gather_33 : decode cX6_gather 33 = .ok (.aload_n 0, 1) := by decide +kernel
theorem dX6_gather_34 : decode cX6_gather 34 = .ok (.dup, 1) := by decide +kernel
theorem dX6_gather_35 : decode cX6_gather 35 = .ok (.getfield 48, 3) := by decide +kernel
theorem dX6_gather_38 : decode cX6_gather 38 = .ok (.aload_n 0, 1) := by decide +kernel
theorem dX6_gather_39 : decode cX6_gather 39 = .ok (.getfield 30, 3) := by decide +kernel
theorem dX6_gather_42 : decode cX6_gather 42 = .ok (.iload_n 1, 1) := by decide +kernel
theorem dX6_gather_43 : decode cX6_gather 43 = .ok (.iaload, 1) := by decide +kernel
theorem dX6_gather_44 : decode cX6_gather 44 = .ok (.i2l, 1) := by decide +kernel
theorem dX6_gather_45 : decode cX6_gather 45 = .ok (.ladd, 1) := by decide +kernel
theorem dX6_gather_46 : decode cX6_gather 46 = .ok (.putfield 48, 3) := by decide +kernel
theorem dX6_gather_49 : decode cX6_gather 49 = .ok (.return_, 1) := by decide +kernel
theorem dX6_sumApart_0 : decode cX6_sumApart 0 = .ok (.lconst 0, 1) := by decide +kernel
theorem dX6_sumApart_1 : decode cX6_sumApart 1 = .ok (.lstore_n 1, 1) := by decide +kernel
theorem dX6_sumApart_2 : decode cX6_sumApart 2 = .ok (.lconst 0, 1) := by decide +kernel
theorem dX6_sumApart_3 : decode cX6_sumApart 3 = .ok (.lstore_n 3, 1) := by decide +kernel
theorem dX6_sumApart_4 : decode cX6_sumApart 4 = .ok (.iconst 0, 1) := by decide +kernel
theorem dX6_sumApart_5 : decode cX6_sumApart 5 = .ok (.istore 5, 2) := by decide +kernel
theorem dX6_sumApart_7 : decode cX6_sumApart 7 = .ok (.iload 5, 2) := by decide +kernel
theorem dX6_sumApart_9 : decode cX6_sumApart 9 = .ok (.aload_n 0, 1) := by decide +kernel
theorem dX6_sumApart_10 : decode cX6_sumApart 10 = .ok (.getfield 41, 3) := by decide +kernel
theorem dX6_sumApart_13 : decode cX6_sumApart 13 = .ok (.if_icmp .ge 31, 3) := by decide +kernel
theorem dX6_sumApart_16 : decode cX6_sumApart 16 = .ok (.lload_n 1, 1) := by decide +kernel
theorem dX6_sumApart_17 : decode cX6_sumApart 17 = .ok (.aload_n 0, 1) := by decide +kernel
theorem dX6_sumApart_18 : decode cX6_sumApart 18 = .ok (.getfield 23, 3) := by decide +kernel
theorem dX6_sumApart_21 : decode cX6_sumApart 21 = .ok (.iload 5, 2) := by decide +kernel
theorem dX6_sumApart_23 : decode cX6_sumApart 23 = .ok (.iaload, 1) := by decide +kernel
theorem dX6_sumApart_24 : decode cX6_sumApart 24 = .ok (.i2l, 1) := by decide +kernel
theorem dX6_sumApart_25 : decode cX6_sumApart 25 = .ok (.ladd, 1) := by decide +kernel
theorem dX6_sumApart_26 : decode cX6_sumApart 26 = .ok (.lstore_n 1, 1) := by decide +kernel
theorem dX6_sumApart_27 : decode cX6_sumApart 27 = .ok (.lload_n 3, 1) := by decide +kernel
theorem dX6_sumApart_28 : decode cX6_sumApart 28 = .ok (.lload_n 1, 1) := by decide +kernel
theorem dX6_sumApart_29 : decode cX6_sumApart 29 = .ok (.aload_n 0, 1) := by decide +kernel
theorem dX6_sumApart_30 : decode cX6_sumApart 30 = .ok (.getfield 48, 3) := by decide +kernel
theorem dX6_sumApart_33 : decode cX6_sumApart 33 = .ok (.lload_n 1, 1) := by decide +kernel
theorem dX6_sumApart_34 : decode cX6_sumApart 34 = .ok (.lsub, 1) := by decide +kernel
theorem dX6_sumApart_35 : decode cX6_sumApart 35 = .ok (.lmul, 1) := by decide +kernel
theorem dX6_sumApart_36 : decode cX6_sumApart 36 = .ok (.ladd, 1) := by decide +kernel
theorem dX6_sumApart_37 : decode cX6_sumApart 37 = .ok (.lstore_n 3, 1) := by decide +kernel
theorem dX6_sumApart_38 : decode cX6_sumApart 38 = .ok (.iinc 5 1, 3) := by decide +kernel
theorem dX6_sumApart_41 : decode cX6_sumApart 41 = .ok (.goto (-34), 3) := by decide +kernel
theorem dX6_sumApart_44 : decode cX6_sumApart 44 = .ok (.ldc2_w 115, 3) := by decide +kernel
theorem dX6_sumApart_47 : decode cX6_sumApart 47 = .ok (.lload_n 3, 1) := by decide +kernel
theorem dX6_sumApart_48 : decode cX6_sumApart 48 = .ok (.lmul, 1) := by decide +kernel
theorem dX6_sumApart_49 : decode cX6_sumApart 49 = .ok (.lreturn, 1) := by decide +kernel
theorem dX6_sumRest_0 : decode cX6_sumRest 0 = .ok (.aload_n 2, 1) := by decide +kernel
theorem dX6_sumRest_1 : decode cX6_sumRest 1 = .ok (.lconst 0, 1) := by decide +kernel
theorem dX6_sumRest_2 : decode cX6_sumRest 2 = .ok (.lconst 1, 1) := by decide +kernel
theorem dX6_sumRest_3 : decode cX6_sumRest 3 = .ok (.invokevirtual 117, 3) := by decide +kernel
theorem dX6_sumRest_6 : decode cX6_sumRest 6 = .ok (.iconst 0, 1) := by decide +kernel
theorem dX6_sumRest_7 : decode cX6_sumRest 7 = .ok (.istore_n 3, 1) := by decide +kernel
theorem dX6_sumRest_8 : decode cX6_sumRest 8 = .ok (.iload_n 3, 1) := by decide +kernel
theorem dX6_sumRest_9 : decode cX6_sumRest 9 = .ok (.aload_n 0, 1) := by decide +kernel
theorem dX6_sumRest_10 : decode cX6_sumRest 10 = .ok (.getfield 22, 3) := by decide +kernel
theorem dX6_sumRest_13 : decode cX6_sumRest 13 = .ok (.getfield 106, 3) := by decide +kernel
theorem dX6_sumRest_16 : decode cX6_sumRest 16 = .ok (.iload_n 1, 1) := by decide +kernel
theorem dX6_sumRest_17 : decode cX6_sumRest 17 = .ok (.aaload, 1) := by decide +kernel
theorem dX6_sumRest_18 : decode cX6_sumRest 18 = .ok (.getfield 110, 3) := by decide +kernel
theorem dX6_sumRest_21 : decode cX6_sumRest 21 = .ok (.if_icmp .ge 49, 3) := by decide +kernel
theorem dX6_sumRest_24 : decode cX6_sumRest 24 = .ok (.aload_n 0, 1) := by decide +kernel
theorem dX6_sumRest_25 : decode cX6_sumRest 25 = .ok (.iload_n 1, 1) := by decide +kernel
theorem dX6_sumRest_26 : decode cX6_sumRest 26 = .ok (.iload_n 3, 1) := by decide +kernel
theorem dX6_sumRest_27 : decode cX6_sumRest 27 = .ok (.invokevirtual 123, 3) := by decide +kernel
theorem dX6_sumRest_30 : decode cX6_sumRest 30 = .ok (.aload_n 0, 1) := by decide +kernel
theorem dX6_sumRest_31 : decode cX6_sumRest 31 = .ok (.getfield 48, 3) := by decide +kernel
theorem dX6_sumRest_34 : decode cX6_sumRest 34 = .ok (.lconst 0, 1) := by decide +kernel
theorem dX6_sumRest_35 : decode cX6_sumRest 35 = .ok (.lcmp, 1) := by decide +kernel
theorem dX6_sumRest_36 : decode cX6_sumRest 36 = .ok (.ifCond .le 28, 3) := by decide +kernel
theorem dX6_sumRest_39 : decode cX6_sumRest 39 = .ok (.aload_n 2, 1) := by decide +kernel
theorem dX6_sumRest_40 : decode cX6_sumRest 40 = .ok (.aload_n 0, 1) := by decide +kernel
theorem dX6_sumRest_41 : decode cX6_sumRest 41 = .ok (.invokevirtual 127, 3) := by decide +kernel
theorem dX6_sumRest_44 : decode cX6_sumRest 44 = .ok (.aload_n 0, 1) := by decide +kernel
theorem dX6_sumRest_45 : decode cX6_sumRest 45 = .ok (.getfield 48, 3) := by decide +kernel
theorem dX6_sumRest_48 : decode cX6_sumRest 48 = .ok (.invokevirtual 131, 3) := by decide +kernel
theorem dX6_sumRest_51 : decode cX6_sumRest 51 = .ok (.aload_n 2, 1) := by decide +kernel
theorem dX6_sumRest_52 : decode cX6_sumRest 52 = .ok (.getfield 134, 3) := by decide +kernel
theorem dX6_sumRest_55 : decode cX6_sumRest 55 = .ok (.ldc2_w 137, 3) := by decide +kernel
theorem dX6_sumRest_58 : decode cX6_sumRest 58 = .ok (.lcmp, 1) := by decide +kernel
theorem dX6_sumRest_59 : decode cX6_sumRest 59 = .ok (.ifCond .le 5, 3) := by decide +kernel
theorem dX6_sumRest_62 : decode cX6_sumRest 62 = .ok (.iconst 0, 1) := by decide +kernel
theorem dX6_sumRest_63 : decode cX6_sumRest 63 = .ok (.ireturn, 1) := by decide +kernel
theorem dX6_sumRest_64 : decode cX6_sumRest 64 = .ok (.iinc 3 1, 3) := by decide +kernel
theorem dX6_sumRest_67 : decode cX6_sumRest 67 = .ok (.goto (-59), 3) := by decide +kernel
theorem dX6_sumRest_70 : decode cX6_sumRest 70 = .ok (.iconst 1, 1) := by decide +kernel
theorem dX6_sumRest_71 : decode cX6_sumRest 71 = .ok (.ireturn, 1) := by decide +kernel
theorem dX7_init_0 : decode cX7_init 0 = .ok (.aload_n 0, 1) := by decide +kernel
theorem dX7_init_1 : decode cX7_init 1 = .ok (.invokespecial 3, 3) := by decide +kernel
theorem dX7_init_4 : decode cX7_init 4 = .ok (.aload_n 0, 1) := by decide +kernel
theorem dX7_init_5 : decode cX7_init 5 = .ok (.bipush 10, 2) := by decide +kernel
theorem dX7_init_7 : decode cX7_init 7 = .ok (.anewarray 9, 3) := by decide +kernel
theorem dX7_init_10 : decode cX7_init 10 = .ok (.putfield 11, 3) := by decide +kernel
theorem dX7_init_13 : decode cX7_init 13 = .ok (.aload_n 0, 1) := by decide +kernel
theorem dX7_init_14 : decode cX7_init 14 = .ok (.iconst 4, 1) := by decide +kernel
theorem dX7_init_15 : decode cX7_init 15 = .ok (.newarray .int, 2) := by decide +kernel
theorem dX7_init_17 : decode cX7_init 17 = .ok (.putfield 17, 3) := by decide +kernel
theorem dX7_init_20 : decode cX7_init 20 = .ok (.aload_n 0, 1) := by decide +kernel
theorem dX7_init_21 : decode cX7_init 21 = .ok (.iconst 4, 1) := by decide +kernel
theorem dX7_init_22 : decode cX7_init 22 = .ok (.newarray .int, 2) := by decide +kernel
theorem dX7_init_24 : decode cX7_init 24 = .ok (.putfield 21, 3) := by decide +kernel
theorem dX7_init_27 : decode cX7_init 27 = .ok (.aload_n 0, 1) := by decide +kernel
theorem dX7_init_28 : decode cX7_init 28 = .ok (.iconst 0, 1) := by decide +kernel
theorem dX7_init_29 : decode cX7_init 29 = .ok (.putfield 24, 3) := by decide +kernel
theorem dX7_init_32 : decode cX7_init 32 = .ok (.aload_n 0, 1) := by decide +kernel
theorem dX7_init_33 : decode cX7_init 33 = .ok (.iconst 0, 1) := by decide +kernel
theorem dX7_init_34 : decode cX7_init 34 = .ok (.putfield 28, 3) := by decide +kernel
theorem dX7_init_37 : decode cX7_init 37 = .ok (.aload_n 0, 1) := by decide +kernel
theorem dX7_init_38 : decode cX7_init 38 = .ok (.bipush 30, 2) := by decide +kernel
theorem dX7_init_40 : decode cX7_init 40 = .ok (.putfield 31, 3) := by decide +kernel
theorem dX7_init_43 : decode cX7_init 43 = .ok (.aload_n 0, 1) := by decide +kernel
theorem dX7_init_44 : decode cX7_init 44 = .ok (.iconst (-1), 1) := by decide +kernel
theorem dX7_init_45 : decode cX7_init 45 = .ok (.putfield 34, 3) := by decide +kernel
theorem dX7_init_48 : decode cX7_init 48 = .ok (.iconst 0, 1) := by decide +kernel
theorem dX7_init_49 : decode cX7_init 49 = .ok (.istore_n 1, 1) := by decide +kernel
theorem dX7_init_50 : decode cX7_init 50 = .ok (.iload_n 1, 1) := by decide +kernel
theorem dX7_init_51 : decode cX7_init 51 = .ok (.bipush 10, 2) := by decide +kernel
theorem dX7_init_53 : decode cX7_init 53 = .ok (.if_icmp .ge 22, 3) := by decide +kernel
theorem dX7_init_56 : decode cX7_init 56 = .ok (.aload_n 0, 1) := by decide +kernel
theorem dX7_init_57 : decode cX7_init 57 = .ok (.getfield 11, 3) := by decide +kernel
theorem dX7_init_60 : decode cX7_init 60 = .ok (.iload_n 1, 1) := by decide +kernel
theorem dX7_init_61 : decode cX7_init 61 = .ok (.new 9, 3) := by decide +kernel
theorem dX7_init_64 : decode cX7_init 64 = .ok (.dup, 1) := by decide +kernel
theorem dX7_init_65 : decode cX7_init 65 = .ok (.invokespecial 37, 3) := by decide +kernel
theorem dX7_init_68 : decode cX7_init 68 = .ok (.aastore, 1) := by decide +kernel
theorem dX7_init_69 : decode cX7_init 69 = .ok (.iinc 1 1, 3) := by decide +kernel
theorem dX7_init_72 : decode cX7_init 72 = .ok (.goto (-22), 3) := by decide +kernel
theorem dX7_init_75 : decode cX7_init 75 = .ok (.return_, 1) := by decide +kernel
theorem dX7_forget_0 : decode cX7_forget 0 = .ok (.aload_n 0, 1) := by decide +kernel
theorem dX7_forget_1 : decode cX7_forget 1 = .ok (.iconst 0, 1) := by decide +kernel
theorem dX7_forget_2 : decode cX7_forget 2 = .ok (.putfield 24, 3) := by decide +kernel
theorem dX7_forget_5 : decode cX7_forget 5 = .ok (.aload_n 0, 1) := by decide +kernel
theorem dX7_forget_6 : decode cX7_forget 6 = .ok (.iconst 0, 1) := by decide +kernel
theorem dX7_forget_7 : decode cX7_forget 7 = .ok (.putfield 28, 3) := by decide +kernel
theorem dX7_forget_10 : decode cX7_forget 10 = .ok (.aload_n 0, 1) := by decide +kernel
theorem dX7_forget_11 : decode cX7_forget 11 = .ok (.bipush 30, 2) := by decide +kernel
theorem dX7_forget_13 : decode cX7_forget 13 = .ok (.putfield 31, 3) := by decide +kernel
theorem dX7_forget_16 : decode cX7_forget 16 = .ok (.aload_n 0, 1) := by decide +kernel
theorem dX7_forget_17 : decode cX7_forget 17 = .ok (.iconst (-1), 1) := by decide +kernel
theorem dX7_forget_18 : decode cX7_forget 18 = .ok (.putfield 34, 3) := by decide +kernel
theorem dX7_forget_21 : decode cX7_forget 21 = .ok (.return_, 1) := by decide +kernel
theorem dX7_hasPart_0 : decode cX7_hasPart 0 = .ok (.iload_n 1, 1) := by decide +kernel
theorem dX7_hasPart_1 : decode cX7_hasPart 1 = .ok (.ifCond .lt 15, 3) := by decide +kernel
theorem dX7_hasPart_4 : decode cX7_hasPart 4 = .ok (.iload_n 1, 1) := by decide +kernel
theorem dX7_hasPart_5 : decode cX7_hasPart 5 = .ok (.aload_n 0, 1) := by decide +kernel
theorem dX7_hasPart_6 : decode cX7_hasPart 6 = .ok (.getfield 24, 3) := by decide +kernel
theorem dX7_hasPart_9 : decode cX7_hasPart 9 = .ok (.if_icmp .ge 7, 3) := by decide +kernel
theorem dX7_hasPart_12 : decode cX7_hasPart 12 = .ok (.iconst 1, 1) := by decide +kernel
theorem dX7_hasPart_13 : decode cX7_hasPart 13 = .ok (.goto 4, 3) := by decide +kernel
theorem dX7_hasPart_16 : decode cX7_hasPart 16 = .ok (.iconst 0, 1) := by decide +kernel
theorem dX7_hasPart_17 : decode cX7_hasPart 17 = .ok (.ireturn, 1) := by decide +kernel
theorem dX7_addPart_0 : decode cX7_addPart 0 = .ok (.aload_n 0, 1) := by decide +kernel
theorem dX7_addPart_1 : decode cX7_addPart 1 = .ok (.getfield 24, 3) := by decide +kernel
theorem dX7_addPart_4 : decode cX7_addPart 4 = .ok (.bipush 10, 2) := by decide +kernel
theorem dX7_addPart_6 : decode cX7_addPart 6 = .ok (.if_icmp .ge 27, 3) := by decide +kernel
theorem dX7_addPart_9 : decode cX7_addPart 9 = .ok (.aload_n 0, 1) := by decide +kernel
theorem dX7_addPart_10 : decode cX7_addPart 10 = .ok (.getfield 11, 3) := by decide +kernel
theorem dX7_addPart_13 : decode cX7_addPart 13 = .ok (.aload_n 0, 1) := by decide +kernel
theorem dX7_addPart_14 : decode cX7_addPart 14 = .ok (.getfield 24, 3) := by decide +kernel
theorem dX7_addPart_17 : decode cX7_addPart 17 = .ok (.aaload, 1) := by decide +kernel
theorem dX7_addPart_18 : decode cX7_addPart 18 = .ok (.aload_n 1, 1) := by decide +kernel
theorem dX7_addPart_19 : decode cX7_addPart 19 = .ok (.iload_n 2, 1) := by decide +kernel
theorem dX7_addPart_20 : decode cX7_addPart 20 = .ok (.invokevirtual 38, 3) := by decide +kernel
theorem dX7_addPart_23 : decode cX7_addPart 23 = .ok (.aload_n 0, 1) := by decide +kernel
theorem dX7_addPart_24 : decode cX7_addPart 24 = .ok (.dup, 1) := by decide +kernel
theorem dX7_addPart_25 : decode cX7_addPart 25 = .ok (.getfield 24, 3) := by decide +kernel
theorem dX7_addPart_28 : decode cX7_addPart 28 = .ok (.iconst 1, 1) := by decide +kernel
theorem dX7_addPart_29 : decode cX7_addPart 29 = .ok (.iadd, 1) := by decide +kernel
theorem dX7_addPart_30 : decode cX7_addPart 30 = .ok (.putfield 24, 3) := by decide +kernel
theorem dX7_addPart_33 : decode cX7_addPart 33 = .ok (.return_, 1) := by decide +kernel
theorem dX7_addCause_0 : decode cX7_addCause 0 = .ok (.aload_n 0, 1) := by decide +kernel
theorem dX7_addCause_1 : decode cX7_addCause 1 = .ok (.getfield 28, 3) := by decide +kernel
theorem dX7_addCause_4 : decode cX7_addCause 4 = .ok (.iconst 4, 1) := by decide +kernel
theorem dX7_addCause_5 : decode cX7_addCause 5 = .ok (.if_icmp .ge 33, 3) := by decide +kernel
theorem dX7_addCause_8 : decode cX7_addCause 8 = .ok (.aload_n 0, 1) := by decide +kernel
theorem dX7_addCause_9 : decode cX7_addCause 9 = .ok (.getfield 17, 3) := by decide +kernel
theorem dX7_addCause_12 : decode cX7_addCause 12 = .ok (.aload_n 0, 1) := by decide +kernel
theorem dX7_addCause_13 : decode cX7_addCause 13 = .ok (.getfield 28, 3) := by decide +kernel
theorem dX7_addCause_16 : decode cX7_addCause 16 = .ok (.iload_n 1, 1) := by decide +kernel
theorem dX7_addCause_17 : decode cX7_addCause 17 = .ok (.iastore, 1) := by decide +kernel
theorem dX7_addCause_18 : decode cX7_addCause 18 = .ok (.aload_n 0, 1) := by decide +kernel
theorem dX7_addCause_19 : decode cX7_addCause 19 = .ok (.getfield 21, 3) := by decide +kernel
theorem dX7_addCause_22 : decode cX7_addCause 22 = .ok (.aload_n 0, 1) := by decide +kernel
theorem dX7_addCause_23 : decode cX7_addCause 23 = .ok (.getfield 28, 3) := by decide +kernel
theorem dX7_addCause_26 : decode cX7_addCause 26 = .ok (.iload_n 2, 1) := by decide +kernel
theorem dX7_addCause_27 : decode cX7_addCause 27 = .ok (.iastore, 1) := by decide +kernel
theorem dX7_addCause_28 : decode cX7_addCause 28 = .ok (.aload_n 0, 1) := by decide +kernel
theorem dX7_addCause_29 : decode cX7_addCause 29 = .ok (.dup, 1) := by decide +kernel
theorem dX7_addCause_30 : decode cX7_addCause 30 = .ok (.getfield 28, 3) := by decide +kernel
theorem dX7_addCause_33 : decode cX7_addCause 33 = .ok (.iconst 1, 1) := by decide +kernel
theorem dX7_addCause_34 : decode cX7_addCause 34 = .ok (.iadd, 1) := by decide +kernel
theorem dX7_addCause_35 : decode cX7_addCause 35 = .ok (.putfield 28, 3) := by decide +kernel
theorem dX7_addCause_38 : decode cX7_addCause 38 = .ok (.return_, 1) := by decide +kernel
theorem dX7_isStuck_0 : decode cX7_isStuck 0 = .ok (.iconst 0, 1) := by decide +kernel
theorem dX7_isStuck_1 : decode cX7_isStuck 1 = .ok (.istore_n 1, 1) := by decide +kernel
theorem dX7_isStuck_2 : decode cX7_isStuck 2 = .ok (.iload_n 1, 1) := by decide +kernel
theorem dX7_isStuck_3 : decode cX7_isStuck 3 = .ok (.aload_n 0, 1) := by decide +kernel
theorem dX7_isStuck_4 : decode cX7_isStuck 4 = .ok (.getfield 24, 3) := by decide +kernel
theorem dX7_isStuck_7 : decode cX7_isStuck 7 = .ok (.if_icmp .ge 27, 3) := by decide +kernel
theorem dX7_isStuck_10 : decode cX7_isStuck 10 = .ok (.aload_n 0, 1) := by decide +kernel
theorem dX7_isStuck_11 : decode cX7_isStuck 11 = .ok (.getfield 11, 3) := by decide +kernel
theorem dX7_isStuck_14 : decode cX7_isStuck 14 = .ok (.iload_n 1, 1) := by decide +kernel
theorem dX7_isStuck_15 : decode cX7_isStuck 15 = .ok (.aaload, 1) := by decide +kernel
theorem dX7_isStuck_16 : decode cX7_isStuck 16 = .ok (.getfield 42, 3) := by decide +kernel
theorem dX7_isStuck_19 : decode cX7_isStuck 19 = .ok (.aload_n 0, 1) := by decide +kernel
theorem dX7_isStuck_20 : decode cX7_isStuck 20 = .ok (.getfield 31, 3) := by decide +kernel
theorem dX7_isStuck_23 : decode cX7_isStuck 23 = .ok (.if_icmp .le 5, 3) := by decide +kernel
theorem dX7_isStuck_26 : decode cX7_isStuck 26 = .ok (.iconst 1, 1) := by decide +kernel
theorem dX7_isStuck_27 : decode cX7_isStuck 27 = .ok (.ireturn, 1) := by decide +kernel
theorem dX7_isStuck_28 : decode cX7_isStuck 28 = .ok (.iinc 1 1, 3) := by decide +kernel
theorem dX7_isStuck_31 : decode cX7_isStuck 31 = .ok (.goto (-29), 3) := by decide +kernel
theorem dX7_isStuck_34 : decode cX7_isStuck 34 = .ok (.iconst 0, 1) := by decide +kernel
theorem dX7_isStuck_35 : decode cX7_isStuck 35 = .ok (.ireturn, 1) := by decide +kernel
theorem dX7_isGreat_0 : decode cX7_isGreat 0 = .ok (.lconst 1, 1) := by decide +kernel
theorem dX7_isGreat_1 : decode cX7_isGreat 1 = .ok (.lstore_n 1, 1) := by decide +kernel
theorem dX7_isGreat_2 : decode cX7_isGreat 2 = .ok (.iconst 0, 1) := by decide +kernel
theorem dX7_isGreat_3 : decode cX7_isGreat 3 = .ok (.istore_n 3, 1) := by decide +kernel
theorem dX7_isGreat_4 : decode cX7_isGreat 4 = .ok (.iload_n 3, 1) := by decide +kernel
theorem dX7_isGreat_5 : decode cX7_isGreat 5 = .ok (.aload_n 0, 1) := by decide +kernel
theorem dX7_isGreat_6 : decode cX7_isGreat 6 = .ok (.getfield 24, 3) := by decide +kernel
theorem dX7_isGreat_9 : decode cX7_isGreat 9 = .ok (.if_icmp .ge 32, 3) := by decide +kernel
theorem dX7_isGreat_12 : decode cX7_isGreat 12 = .ok (.lload_n 1, 1) := by decide +kernel
theorem dX7_isGreat_13 : decode cX7_isGreat 13 = .ok (.aload_n 0, 1) := by decide +kernel
theorem dX7_isGreat_14 : decode cX7_isGreat 14 = .ok (.getfield 11, 3) := by decide +kernel
theorem dX7_isGreat_17 : decode cX7_isGreat 17 = .ok (.iload_n 3, 1) := by decide +kernel
theorem dX7_isGreat_18 : decode cX7_isGreat 18 = .ok (.aaload, 1) := by decide +kernel
theorem dX7_isGreat_19 : decode cX7_isGreat 19 = .ok (.getfield 45, 3) := by decide +kernel
theorem dX7_isGreat_22 : decode cX7_isGreat 22 = .ok (.i2l, 1) := by decide +kernel
theorem dX7_isGreat_23 : decode cX7_isGreat 23 = .ok (.lmul, 1) := by decide +kernel
theorem dX7_isGreat_24 : decode cX7_isGreat 24 = .ok (.lstore_n 1, 1) := by decide +kernel
theorem dX7_isGreat_25 : decode cX7_isGreat 25 = .ok (.lload_n 1, 1) := by decide +kernel
theorem dX7_isGreat_26 : decode cX7_isGreat 26 = .ok (.ldc2_w 48, 3) := by decide +kernel
theorem dX7_isGreat_29 : decode cX7_isGreat 29 = .ok (.lcmp, 1) := by decide +kernel
theorem dX7_isGreat_30 : decode cX7_isGreat 30 = .ok (.ifCond .le 5, 3) := by decide +kernel
theorem dX7_isGreat_33 : decode cX7_isGreat 33 = .ok (.iconst 1, 1) := by decide +kernel
theorem dX7_isGreat_34 : decode cX7_isGreat 34 = .ok (.ireturn, 1) := by decide +kernel
theorem dX7_isGreat_35 : decode cX7_isGreat 35 = .ok (.iinc 3 1, 3) := by decide +kernel
theorem dX7_isGreat_38 : decode cX7_isGreat 38 = .ok (.goto (-34), 3) := by decide +kernel
theorem dX7_isGreat_41 : decode cX7_isGreat 41 = .ok (.iconst 0, 1) := by decide +kernel
theorem dX7_isGreat_42 : decode cX7_isGreat 42 = .ok (.istore_n 3, 1) := by decide +kernel
theorem dX7_isGreat_43 : decode cX7_isGreat 43 = .ok (.iload_n 3, 1) := by decide +kernel
theorem dX7_isGreat_44 : decode cX7_isGreat 44 = .ok (.aload_n 0, 1) := by decide +kernel
theorem dX7_isGreat_45 : decode cX7_isGreat 45 = .ok (.getfield 28, 3) := by decide +kernel
theorem dX7_isGreat_48 : decode cX7_isGreat 48 = .ok (.if_icmp .ge 19, 3) := by decide +kernel
theorem dX7_isGreat_51 : decode cX7_isGreat 51 = .ok (.lload_n 1, 1) := by decide +kernel
theorem dX7_isGreat_52 : decode cX7_isGreat 52 = .ok (.aload_n 0, 1) := by decide +kernel
theorem dX7_isGreat_53 : decode cX7_isGreat 53 = .ok (.getfield 21, 3) := by decide +kernel
theorem dX7_isGreat_56 : decode cX7_isGreat 56 = .ok (.iload_n 3, 1) := by decide +kernel
theorem dX7_isGreat_57 : decode cX7_isGreat 57 = .ok (.iaload, 1) := by decide +kernel
theorem dX7_isGreat_58 : decode cX7_isGreat 58 = .ok (.i2l, 1) := by decide +kernel
theorem dX7_isGreat_59 : decode cX7_isGreat 59 = .ok (.lmul, 1) := by decide +kernel
theorem dX7_isGreat_60 : decode cX7_isGreat 60 = .ok (.lstore_n 1, 1) := by decide +kernel
theorem dX7_isGreat_61 : decode cX7_isGreat 61 = .ok (.iinc 3 1, 3) := by decide +kernel
theorem dX7_isGreat_64 : decode cX7_isGreat 64 = .ok (.goto (-21), 3) := by decide +kernel
theorem dX7_isGreat_67 : decode cX7_isGreat 67 = .ok (.lload_n 1, 1) := by decide +kernel
theorem dX7_isGreat_68 : decode cX7_isGreat 68 = .ok (.ldc2_w 48, 3) := by decide +kernel
theorem dX7_isGreat_71 : decode cX7_isGreat 71 = .ok (.lcmp, 1) := by decide +kernel
theorem dX7_isGreat_72 : decode cX7_isGreat 72 = .ok (.ifCond .le 7, 3) := by decide +kernel
theorem dX7_isGreat_75 : decode cX7_isGreat 75 = .ok (.iconst 1, 1) := by decide +kernel
theorem dX7_isGreat_76 : decode cX7_isGreat 76 = .ok (.goto 4, 3) := by decide +kernel
theorem dX7_isGreat_79 : decode cX7_isGreat 79 = .ok (.iconst 0, 1) := by decide +kernel
theorem dX7_isGreat_80 : decode cX7_isGreat 80 = .ok (.ireturn, 1) := by decide +kernel
theorem dX7_countWays_0 : decode cX7_countWays 0 = .ok (.aload_n 0, 1) := by decide +kernel
theorem dX7_countWays_1 : decode cX7_countWays 1 = .ok (.aload_n 0, 1) := by decide +kernel
theorem dX7_countWays_2 : decode cX7_countWays 2 = .ok (.getfield 24, 3) := by decide +kernel
theorem dX7_countWays_5 : decode cX7_countWays 5 = .ok (.invokevirtual 50, 3) := by decide +kernel
theorem dX7_countWays_8 : decode cX7_countWays 8 = .ok (.aload_n 0, 1) := by decide +kernel
theorem dX7_countWays_9 : decode cX7_countWays 9 = .ok (.getfield 28, 3) := by decide +kernel
theorem dX7_countWays_12 : decode cX7_countWays 12 = .ok (.ishl, 1) := by decide +kernel
theorem dX7_countWays_13 : decode cX7_countWays 13 = .ok (.ireturn, 1) := by decide +kernel
theorem dX7_rowsAhead_0 : decode cX7_rowsAhead 0 = .ok (.iconst 1, 1) := by decide +kernel
theorem dX7_rowsAhead_1 : decode cX7_rowsAhead 1 = .ok (.istore_n 2, 1) := by decide +kernel
theorem dX7_rowsAhead_2 : decode cX7_rowsAhead 2 = .ok (.iconst 0, 1) := by decide +kernel
theorem dX7_rowsAhead_3 : decode cX7_rowsAhead 3 = .ok (.istore_n 3, 1) := by decide +kernel
theorem dX7_rowsAhead_4 : decode cX7_rowsAhead 4 = .ok (.iload_n 3, 1) := by decide +kernel
theorem dX7_rowsAhead_5 : decode cX7_rowsAhead 5 = .ok (.iload_n 1, 1) := by decide +kernel
theorem dX7_rowsAhead_6 : decode cX7_rowsAhead 6 = .ok (.if_icmp .ge 29, 3) := by decide +kernel
theorem dX7_rowsAhead_9 : decode cX7_rowsAhead 9 = .ok (.iload_n 3, 1) := by decide +kernel
theorem dX7_rowsAhead_10 : decode cX7_rowsAhead 10 = .ok (.aload_n 0, 1) := by decide +kernel
theorem dX7_rowsAhead_11 : decode cX7_rowsAhead 11 = .ok (.getfield 24, 3) := by decide +kernel
theorem dX7_rowsAhead_14 : decode cX7_rowsAhead 14 = .ok (.if_icmp .ge 21, 3) := by decide +kernel
theorem dX7_rowsAhead_17 : decode cX7_rowsAhead 17 = .ok (.iload_n 2, 1) := by decide +kernel
theorem dX7_rowsAhead_18 : decode cX7_rowsAhead 18 = .ok (.aload_n 0, 1) := by decide +kernel
theorem dX7_rowsAhead_19 : decode cX7_rowsAhead 19 = .ok (.getfield 11, 3) := by decide +kernel
theorem dX7_rowsAhead_22 : decode cX7_rowsAhead 22 = .ok (.iload_n 3, 1) := by decide +kernel
theorem dX7_rowsAhead_23 : decode cX7_rowsAhead 23 = .ok (.aaload, 1) := by decide +kernel
theorem dX7_rowsAhead_24 : decode cX7_rowsAhead 24 = .ok (.getfield 54, 3) := by decide +kernel
theorem dX7_rowsAhead_27 : decode cX7_rowsAhead 27 = .ok (.imul, 1) := by decide +kernel
theorem dX7_rowsAhead_28 : decode cX7_rowsAhead 28 = .ok (.istore_n 2, 1) := by decide +kernel
theorem dX7_rowsAhead_29 : decode cX7_rowsAhead 29 = .ok (.iinc 3 1, 3) := by decide +kernel
theorem dX7_rowsAhead_32 : decode cX7_rowsAhead 32 = .ok (.goto (-28), 3) := by decide +kernel
theorem dX7_rowsAhead_35 : decode cX7_rowsAhead 35 = .ok (.iload_n 2, 1) := by decide +kernel
theorem dX7_rowsAhead_36 : decode cX7_rowsAhead 36 = .ok (.ireturn, 1) := by decide +kernel
theorem dJ6_bitCount_0f7a4_0 : decode cJ6_bitCount_0f7a4 0 = .ok (.iload_n 0, 1) := by decide +kernel
theorem dJ6_bitCount_0f7a4_1 : decode cJ6_bitCount_0f7a4 1 = .ok (.iload_n 0, 1) := by decide +kernel
theorem dJ6_bitCount_0f7a4_2 : decode cJ6_bitCount_0f7a4 2 = .ok (.iconst 1, 1) := by decide +kernel
theorem dJ6_bitCount_0f7a4_3 : decode cJ6_bitCount_0f7a4 3 = .ok (.iushr, 1) := by decide +kernel
theorem dJ6_bitCount_0f7a4_4 : decode cJ6_bitCount_0f7a4 4 = .ok (.ldc_w 265, 3) := by decide +kernel
theorem dJ6_bitCount_0f7a4_7 : decode cJ6_bitCount_0f7a4 7 = .ok (.iand, 1) := by decide +kernel
theorem dJ6_bitCount_0f7a4_8 : decode cJ6_bitCount_0f7a4 8 = .ok (.isub, 1) := by decide +kernel
theorem dJ6_bitCount_0f7a4_9 : decode cJ6_bitCount_0f7a4 9 = .ok (.istore_n 0, 1) := by decide +kernel
theorem dJ6_bitCount_0f7a4_10 : decode cJ6_bitCount_0f7a4 10 = .ok (.iload_n 0, 1) := by decide +kernel
theorem dJ6_bitCount_0f7a4_11 : decode cJ6_bitCount_0f7a4 11 = .ok (.ldc_w 266, 3) := by decide +kernel
theorem dJ6_bitCount_0f7a4_14 : decode cJ6_bitCount_0f7a4 14 = .ok (.iand, 1) := by decide +kernel
theorem dJ6_bitCount_0f7a4_15 : decode cJ6_bitCount_0f7a4 15 = .ok (.iload_n 0, 1) := by decide +kernel
theorem dJ6_bitCount_0f7a4_16 : decode cJ6_bitCount_0f7a4 16 = .ok (.iconst 2, 1) := by decide +kernel
theorem dJ6_bitCount_0f7a4_17 : decode cJ6_bitCount_0f7a4 17 = .ok (.iushr, 1) := by decide +kernel
theorem dJ6_bitCount_0f7a4_18 : decode cJ6_bitCount_0f7a4 18 = .ok (.ldc_w 266, 3) := by decide +kernel
theorem dJ6_bitCount_0f7a4_21 : decode cJ6_bitCount_0f7a4 21 = .ok (.iand, 1) := by decide +kernel
theorem dJ6_bitCount_0f7a4_22 : decode cJ6_bitCount_0f7a4 22 = .ok (.iadd, 1) := by decide +kernel
theorem dJ6_bitCount_0f7a4_23 : decode cJ6_bitCount_0f7a4 23 = .ok (.istore_n 0, 1) := by decide +kernel
theorem dJ6_bitCount_0f7a4_24 : decode cJ6_bitCount_0f7a4 24 = .ok (.iload_n 0, 1) := by decide +kernel
theorem dJ6_bitCount_0f7a4_25 : decode cJ6_bitCount_0f7a4 25 = .ok (.iload_n 0, 1) := by decide +kernel
theorem dJ6_bitCount_0f7a4_26 : decode cJ6_bitCount_0f7a4 26 = .ok (.iconst 4, 1) := by decide +kernel
theorem dJ6_bitCount_0f7a4_27 : decode cJ6_bitCount_0f7a4 27 = .ok (.iushr, 1) := by decide +kernel
theorem dJ6_bitCount_0f7a4_28 : decode cJ6_bitCount_0f7a4 28 = .ok (.iadd, 1) := by decide +kernel
theorem dJ6_bitCount_0f7a4_29 : decode cJ6_bitCount_0f7a4 29 = .ok (.ldc_w 267, 3) := by decide +kernel
theorem dJ6_bitCount_0f7a4_32 : decode cJ6_bitCount_0f7a4 32 = .ok (.iand, 1) := by decide +kernel
theorem dJ6_bitCount_0f7a4_33 : decode cJ6_bitCount_0f7a4 33 = .ok (.istore_n 0, 1) := by decide +kernel
theorem dJ6_bitCount_0f7a4_34 : decode cJ6_bitCount_0f7a4 34 = .ok (.iload_n 0, 1) := by decide +kernel
theorem dJ6_bitCount_0f7a4_35 : decode cJ6_bitCount_0f7a4 35 = .ok (.iload_n 0, 1) := by decide +kernel
theorem dJ6_bitCount_0f7a4_36 : decode cJ6_bitCount_0f7a4 36 = .ok (.bipush 8, 2) := by decide +kernel
theorem dJ6_bitCount_0f7a4_38 : decode cJ6_bitCount_0f7a4 38 = .ok (.iushr, 1) := by decide +kernel
theorem dJ6_bitCount_0f7a4_39 : decode cJ6_bitCount_0f7a4 39 = .ok (.iadd, 1) := by decide +kernel
theorem dJ6_bitCount_0f7a4_40 : decode cJ6_bitCount_0f7a4 40 = .ok (.istore_n 0, 1) := by decide +kernel
theorem dJ6_bitCount_0f7a4_41 : decode cJ6_bitCount_0f7a4 41 = .ok (.iload_n 0, 1) := by decide +kernel
theorem dJ6_bitCount_0f7a4_42 : decode cJ6_bitCount_0f7a4 42 = .ok (.iload_n 0, 1) := by decide +kernel
theorem dJ6_bitCount_0f7a4_43 : decode cJ6_bitCount_0f7a4 43 = .ok (.bipush 16, 2) := by decide +kernel
theorem dJ6_bitCount_0f7a4_45 : decode cJ6_bitCount_0f7a4 45 = .ok (.iushr, 1) := by decide +kernel
theorem dJ6_bitCount_0f7a4_46 : decode cJ6_bitCount_0f7a4 46 = .ok (.iadd, 1) := by decide +kernel
theorem dJ6_bitCount_0f7a4_47 : decode cJ6_bitCount_0f7a4 47 = .ok (.istore_n 0, 1) := by decide +kernel
theorem dJ6_bitCount_0f7a4_48 : decode cJ6_bitCount_0f7a4 48 = .ok (.iload_n 0, 1) := by decide +kernel
theorem dJ6_bitCount_0f7a4_49 : decode cJ6_bitCount_0f7a4 49 = .ok (.bipush 63, 2) := by decide +kernel
theorem dJ6_bitCount_0f7a4_51 : decode cJ6_bitCount_0f7a4 51 = .ok (.iand, 1) := by decide +kernel
theorem dJ6_bitCount_0f7a4_52 : decode cJ6_bitCount_0f7a4 52 = .ok (.ireturn, 1) := by decide +kernel
theorem dJ9_max_7cf53_0 : decode cJ9_max_7cf53 0 = .ok (.iload_n 0, 1) := by decide +kernel
theorem dJ9_max_7cf53_1 : decode cJ9_max_7cf53 1 = .ok (.iload_n 1, 1) := by decide +kernel
theorem dJ9_max_7cf53_2 : decode cJ9_max_7cf53 2 = .ok (.if_icmp .lt 7, 3) := by decide +kernel
theorem dJ9_max_7cf53_5 : decode cJ9_max_7cf53 5 = .ok (.iload_n 0, 1) := by decide +kernel
theorem dJ9_max_7cf53_6 : decode cJ9_max_7cf53 6 = .ok (.goto 4, 3) := by decide +kernel
theorem dJ9_max_7cf53_9 : decode cJ9_max_7cf53 9 = .ok (.iload_n 1, 1) := by decide +kernel
theorem dJ9_max_7cf53_10 : decode cJ9_max_7cf53 10 = .ok (.ireturn, 1) := by decide +kernel
theorem dJ9_min_7cf53_0 : decode cJ9_min_7cf53 0 = .ok (.iload_n 0, 1) := by decide +kernel
theorem dJ9_min_7cf53_1 : decode cJ9_min_7cf53 1 = .ok (.iload_n 1, 1) := by decide +kernel
theorem dJ9_min_7cf53_2 : decode cJ9_min_7cf53 2 = .ok (.if_icmp .gt 7, 3) := by decide +kernel
theorem dJ9_min_7cf53_5 : decode cJ9_min_7cf53 5 = .ok (.iload_n 0, 1) := by decide +kernel
theorem dJ9_min_7cf53_6 : decode cJ9_min_7cf53 6 = .ok (.goto 4, 3) := by decide +kernel
theorem dJ9_min_7cf53_9 : decode cJ9_min_7cf53 9 = .ok (.iload_n 1, 1) := by decide +kernel
theorem dJ9_min_7cf53_10 : decode cJ9_min_7cf53 10 = .ok (.ireturn, 1) := by decide +kernel
theorem dJ7_fill_d0a16_0 : decode cJ7_fill_d0a16 0 = .ok (.iconst 0, 1) := by decide +kernel
theorem dJ7_fill_d0a16_1 : decode cJ7_fill_d0a16 1 = .ok (.istore_n 3, 1) := by decide +kernel
theorem dJ7_fill_d0a16_2 : decode cJ7_fill_d0a16 2 = .ok (.aload_n 0, 1) := by decide +kernel
theorem dJ7_fill_d0a16_3 : decode cJ7_fill_d0a16 3 = .ok (.arraylength, 1) := by decide +kernel
theorem dJ7_fill_d0a16_4 : decode cJ7_fill_d0a16 4 = .ok (.istore 4, 2) := by decide +kernel
theorem dJ7_fill_d0a16_6 : decode cJ7_fill_d0a16 6 = .ok (.iload_n 3, 1) := by decide +kernel
theorem dJ7_fill_d0a16_7 : decode cJ7_fill_d0a16 7 = .ok (.iload 4, 2) := by decide +kernel
theorem dJ7_fill_d0a16_9 : decode cJ7_fill_d0a16 9 = .ok (.if_icmp .ge 13, 3) := by decide +kernel
theorem dJ7_fill_d0a16_12 : decode cJ7_fill_d0a16 12 = .ok (.aload_n 0, 1) := by decide +kernel
theorem dJ7_fill_d0a16_13 : decode cJ7_fill_d0a16 13 = .ok (.iload_n 3, 1) := by decide +kernel
theorem dJ7_fill_d0a16_14 : decode cJ7_fill_d0a16 14 = .ok (.lload_n 1, 1) := by decide +kernel
theorem dJ7_fill_d0a16_15 : decode cJ7_fill_d0a16 15 = .ok (.lastore, 1) := by decide +kernel
theorem dJ7_fill_d0a16_16 : decode cJ7_fill_d0a16 16 = .ok (.iinc 3 1, 3) := by decide +kernel
theorem dJ7_fill_d0a16_19 : decode cJ7_fill_d0a16 19 = .ok (.goto (-13), 3) := by decide +kernel
theorem dJ7_fill_d0a16_22 : decode cJ7_fill_d0a16 22 = .ok (.return_, 1) := by decide +kernel
theorem dJ7_fill_53178_0 : decode cJ7_fill_53178 0 = .ok (.iconst 0, 1) := by decide +kernel
theorem dJ7_fill_53178_1 : decode cJ7_fill_53178 1 = .ok (.istore_n 2, 1) := by decide +kernel
theorem dJ7_fill_53178_2 : decode cJ7_fill_53178 2 = .ok (.aload_n 0, 1) := by decide +kernel
theorem dJ7_fill_53178_3 : decode cJ7_fill_53178 3 = .ok (.arraylength, 1) := by decide +kernel
theorem dJ7_fill_53178_4 : decode cJ7_fill_53178 4 = .ok (.istore_n 3, 1) := by decide +kernel
theorem dJ7_fill_53178_5 : decode cJ7_fill_53178 5 = .ok (.iload_n 2, 1) := by decide +kernel
theorem dJ7_fill_53178_6 : decode cJ7_fill_53178 6 = .ok (.iload_n 3, 1) := by decide +kernel
theorem dJ7_fill_53178_7 : decode cJ7_fill_53178 7 = .ok (.if_icmp .ge 13, 3) := by decide +kernel
theorem dJ7_fill_53178_10 : decode cJ7_fill_53178 10 = .ok (.aload_n 0, 1) := by decide +kernel
theorem dJ7_fill_53178_11 : decode cJ7_fill_53178 11 = .ok (.iload_n 2, 1) := by decide +kernel
theorem dJ7_fill_53178_12 : decode cJ7_fill_53178 12 = .ok (.iload_n 1, 1) := by decide +kernel
theorem dJ7_fill_53178_13 : decode cJ7_fill_53178 13 = .ok (.iastore, 1) := by decide +kernel
theorem dJ7_fill_53178_14 : decode cJ7_fill_53178 14 = .ok (.iinc 2 1, 3) := by decide +kernel
theorem dJ7_fill_53178_17 : decode cJ7_fill_53178 17 = .ok (.goto (-12), 3) := by decide +kernel
theorem dJ7_fill_53178_20 : decode cJ7_fill_53178 20 = .ok (.return_, 1) := by decide +kernel
end
section
theorem dX8_init_0 : decode cX8_init 0 = .ok (.aload_n 0, 1) := by decide +kernel
theorem dX8_init_1 : decode cX8_init 1 = .ok (.invokespecial 3, 3) := by decide +kernel
theorem dX8_init_4 : decode cX8_init 4 = .ok (.aload_n 0, 1) := by decide +kernel
theorem dX8_init_5 : decode cX8_init 5 = .ok (.iconst 0, 1) := by decide +kernel
theorem dX8_init_6 : decode cX8_init 6 = .ok (.putfield 9, 3) := by decide +kernel
theorem dX8_init_9 : decode cX8_init 9 = .ok (.aload_n 0, 1) := by decide +kernel
theorem dX8_init_10 : decode cX8_init 10 = .ok (.new 13, 3) := by decide +kernel
theorem dX8_init_13 : decode cX8_init 13 = .ok (.dup, 1) := by decide +kernel
theorem dX8_init_14 : decode cX8_init 14 = .ok (.invokespecial 15, 3) := by decide +kernel
theorem dX8_init_17 : decode cX8_init 17 = .ok (.putfield 16, 3) := by decide +kernel
theorem dX8_init_20 : decode cX8_init 20 = .ok (.aload_n 0, 1) := by decide +kernel
theorem dX8_init_21 : decode cX8_init 21 = .ok (.new 13, 3) := by decide +kernel
theorem dX8_init_24 : decode cX8_init 24 = .ok (.dup, 1) := by decide +kernel
theorem dX8_init_25 : decode cX8_init 25 = .ok (.invokespecial 15, 3) := by decide +kernel
theorem dX8_init_28 : decode cX8_init 28 = .ok (.putfield 20, 3) := by decide +kernel
theorem dX8_init_31 : decode cX8_init 31 = .ok (.aload_n 0, 1) := by decide +kernel
theorem dX8_init_32 : decode cX8_init 32 = .ok (.new 13, 3) := by decide +kernel
theorem dX8_init_35 : decode cX8_init 35 = .ok (.dup, 1) := by decide +kernel
theorem dX8_init_36 : decode cX8_init 36 = .ok (.invokespecial 15, 3) := by decide +kernel
theorem dX8_init_39 : decode cX8_init 39 = .ok (.putfield 23, 3) := by decide +kernel
theorem dX8_init_42 : decode cX8_init 42 = .ok (.aload_n 0, 1) := by decide +kernel
theorem dX8_init_43 : decode cX8_init 43 = .ok (.iconst 4, 1) := by decide +kernel
theorem dX8_init_44 : decode cX8_init 44 = .ok (.anewarray 26, 3) := by decide +kernel
theorem dX8_init_47 : decode cX8_init 47 = .ok (.putfield 28, 3) := by decide +kernel
theorem dX8_init_50 : decode cX8_init 50 = .ok (.aload_n 0, 1) := by decide +kernel
theorem dX8_init_51 : decode cX8_init 51 = .ok (.new 32, 3) := by decide +kernel
theorem dX8_init_54 : decode cX8_init 54 = .ok (.dup, 1) := by decide +kernel
theorem dX8_init_55 : decode cX8_init 55 = .ok (.invokespecial 34, 3) := by decide +kernel
theorem dX8_init_58 : decode cX8_init 58 = .ok (.putfield 35, 3) := by decide +kernel
theorem dX8_init_61 : decode cX8_init 61 = .ok (.aload_n 0, 1) := by decide +kernel
theorem dX8_init_62 : decode cX8_init 62 = .ok (.new 39, 3) := by decide +kernel
theorem dX8_init_65 : decode cX8_init 65 = .ok (.dup, 1) := by decide +kernel
theorem dX8_init_66 : decode cX8_init 66 = .ok (.invokespecial 41, 3) := by decide +kernel
theorem dX8_init_69 : decode cX8_init 69 = .ok (.putfield 42, 3) := by decide +kernel
theorem dX8_init_72 : decode cX8_init 72 = .ok (.aload_n 0, 1) := by decide +kernel
theorem dX8_init_73 : decode cX8_init 73 = .ok (.aload_n 0, 1) := by decide +kernel
theorem dX8_init_74 : decode cX8_init 74 = .ok (.getfield 42, 3) := by decide +kernel
theorem dX8_init_77 : decode cX8_init 77 = .ok (.getfield 46, 3) := by decide +kernel
theorem dX8_init_80 : decode cX8_init 80 = .ok (.putfield 50, 3) := by decide +kernel
theorem dX8_init_83 : decode cX8_init 83 = .ok (.aload_n 0, 1) := by decide +kernel
theorem dX8_init_84 : decode cX8_init 84 = .ok (.new 51, 3) := by decide +kernel
theorem dX8_init_87 : decode cX8_init 87 = .ok (.dup, 1) := by decide +kernel
theorem dX8_init_88 : decode cX8_init 88 = .ok (.invokespecial 53, 3) := by decide +kernel
theorem dX8_init_91 : decode cX8_init 91 = .ok (.putfield 54, 3) := by decide +kernel
theorem dX8_init_94 : decode cX8_init 94 = .ok (.iconst 0, 1) := by decide +kernel
theorem dX8_init_95 : decode cX8_init 95 = .ok (.istore_n 1, 1) := by decide +kernel
theorem dX8_init_96 : decode cX8_init 96 = .ok (.iload_n 1, 1) := by decide +kernel
theorem dX8_init_97 : decode cX8_init 97 = .ok (.iconst 4, 1) := by decide +kernel
theorem dX8_init_98 : decode cX8_init 98 = .ok (.if_icmp .ge 22, 3) := by decide +kernel
theorem dX8_init_101 : decode cX8_init 101 = .ok (.aload_n 0, 1) := by decide +kernel
theorem dX8_init_102 : decode cX8_init 102 = .ok (.getfield 28, 3) := by decide +kernel
theorem dX8_init_105 : decode cX8_init 105 = .ok (.iload_n 1, 1) := by decide +kernel
theorem dX8_init_106 : decode cX8_init 106 = .ok (.new 26, 3) := by decide +kernel
theorem dX8_init_109 : decode cX8_init 109 = .ok (.dup, 1) := by decide +kernel
theorem dX8_init_110 : decode cX8_init 110 = .ok (.invokespecial 58, 3) := by decide +kernel
theorem dX8_init_113 : decode cX8_init 113 = .ok (.aastore, 1) := by decide +kernel
theorem dX8_init_114 : decode cX8_init 114 = .ok (.iinc 1 1, 3) := by decide +kernel
theorem dX8_init_117 : decode cX8_init 117 = .ok (.goto (-21), 3) := by decide +kernel
theorem dX8_init_120 : decode cX8_init 120 = .ok (.return_, 1) := by decide +kernel
theorem dX8_status_0 : decode cX8_status 0 = .ok (.aload_n 0, 1) := by decide +kernel
theorem dX8_status_1 : decode cX8_status 1 = .ok (.getfield 9, 3) := by decide +kernel
theorem dX8_status_4 : decode cX8_status 4 = .ok (.ireturn, 1) := by decide +kernel
theorem dX8_tray_0 : decode cX8_tray 0 = .ok (.iload_n 1, 1) := by decide +kernel
theorem dX8_tray_1 : decode cX8_tray 1 = .ok (.invokestatic 59, 3) := by decide +kernel
theorem dX8_tray_4 : decode cX8_tray 4 = .ok (.ifCond .eq 12, 3) := by decide +kernel
theorem dX8_tray_7 : decode cX8_tray 7 = .ok (.iload_n 2, 1) := by decide +kernel
theorem dX8_tray_8 : decode cX8_tray 8 = .ok (.ifCond .lt 8, 3) := by decide +kernel
theorem dX8_tray_11 : decode cX8_tray 11 = .ok (.iload_n 2, 1) := by decide +kernel
theorem dX8_tray_12 : decode cX8_tray 12 = .ok (.iconst 4, 1) := by decide +kernel
theorem dX8_tray_13 : decode cX8_tray 13 = .ok (.if_icmp .lt 9, 3) := by decide +kernel
theorem dX8_tray_16 : decode cX8_tray 16 = .ok (.aload_n 0, 1) := by decide +kernel
theorem dX8_tray_17 : decode cX8_tray 17 = .ok (.iconst 1, 1) := by decide +kernel
theorem dX8_tray_18 : decode cX8_tray 18 = .ok (.invokevirtual 63, 3) := by decide +kernel
theorem dX8_tray_21 : decode cX8_tray 21 = .ok (.ireturn, 1) := by decide +kernel
theorem dX8_tray_22 : decode cX8_tray 22 = .ok (.iload_n 3, 1) := by decide +kernel
theorem dX8_tray_23 : decode cX8_tray 23 = .ok (.bipush 40, 2) := by decide +kernel
theorem dX8_tray_25 : decode cX8_tray 25 = .ok (.if_icmp .le 9, 3) := by decide +kernel
theorem dX8_tray_28 : decode cX8_tray 28 = .ok (.aload_n 0, 1) := by decide +kernel
theorem dX8_tray_29 : decode cX8_tray 29 = .ok (.iconst 5, 1) := by decide +kernel
theorem dX8_tray_30 : decode cX8_tray 30 = .ok (.invokevirtual 63, 3) := by decide +kernel
theorem dX8_tray_33 : decode cX8_tray 33 = .ok (.ireturn, 1) := by decide +kernel
theorem dX8_tray_34 : decode cX8_tray 34 = .ok (.iload_n 3, 1) := by decide +kernel
theorem dX8_tray_35 : decode cX8_tray 35 = .ok (.ifCond .ge 10, 3) := by decide +kernel
theorem dX8_tray_38 : decode cX8_tray 38 = .ok (.aload_n 0, 1) := by decide +kernel
theorem dX8_tray_39 : decode cX8_tray 39 = .ok (.bipush 6, 2) := by decide +kernel
theorem dX8_tray_41 : decode cX8_tray 41 = .ok (.invokevirtual 63, 3) := by decide +kernel
theorem dX8_tray_44 : decode cX8_tray 44 = .ok (.ireturn, 1) := by decide +kernel
theorem dX8_tray_45 : decode cX8_tray 45 = .ok (.aload_n 0, 1) := by decide +kernel
theorem dX8_tray_46 : decode cX8_tray 46 = .ok (.getfield 28, 3) := by decide +kernel
theorem dX8_tray_49 : decode cX8_tray 49 = .ok (.iload_n 1, 1) := by decide +kernel
theorem dX8_tray_50 : decode cX8_tray 50 = .ok (.aaload, 1) := by decide +kernel
theorem dX8_tray_51 : decode cX8_tray 51 = .ok (.iload_n 2, 1) := by decide +kernel
theorem dX8_tray_52 : decode cX8_tray 52 = .ok (.iload_n 3, 1) := by decide +kernel
theorem dX8_tray_53 : decode cX8_tray 53 = .ok (.invokevirtual 66, 3) := by decide +kernel
theorem dX8_tray_56 : decode cX8_tray 56 = .ok (.aload_n 0, 1) := by decide +kernel
theorem dX8_tray_57 : decode cX8_tray 57 = .ok (.invokevirtual 70, 3) := by decide +kernel
theorem dX8_tray_60 : decode cX8_tray 60 = .ok (.ireturn, 1) := by decide +kernel
theorem dX8_write_0 : decode cX8_write 0 = .ok (.aload_n 0, 1) := by decide +kernel
theorem dX8_write_1 : decode cX8_write 1 = .ok (.iload_n 1, 1) := by decide +kernel
theorem dX8_write_2 : decode cX8_write 2 = .ok (.iload_n 2, 1) := by decide +kernel
theorem dX8_write_3 : decode cX8_write 3 = .ok (.invokevirtual 74, 3) := by decide +kernel
theorem dX8_write_6 : decode cX8_write 6 = .ok (.istore 5, 2) := by decide +kernel
theorem dX8_write_8 : decode cX8_write 8 = .ok (.iload 5, 2) := by decide +kernel
theorem dX8_write_10 : decode cX8_write 10 = .ok (.ifCond .eq 10, 3) := by decide +kernel
theorem dX8_write_13 : decode cX8_write 13 = .ok (.aload_n 0, 1) := by decide +kernel
theorem dX8_write_14 : decode cX8_write 14 = .ok (.iload 5, 2) := by decide +kernel
theorem dX8_write_16 : decode cX8_write 16 = .ok (.invokevirtual 63, 3) := by decide +kernel
theorem dX8_write_19 : decode cX8_write 19 = .ok (.ireturn, 1) := by decide +kernel
theorem dX8_write_20 : decode cX8_write 20 = .ok (.aload_n 0, 1) := by decide +kernel
theorem dX8_write_21 : decode cX8_write 21 = .ok (.getfield 28, 3) := by decide +kernel
theorem dX8_write_24 : decode cX8_write 24 = .ok (.iload_n 1, 1) := by decide +kernel
theorem dX8_write_25 : decode cX8_write 25 = .ok (.aaload, 1) := by decide +kernel
theorem dX8_write_26 : decode cX8_write 26 = .ok (.iload_n 2, 1) := by decide +kernel
theorem dX8_write_27 : decode cX8_write 27 = .ok (.lload_n 3, 1) := by decide +kernel
theorem dX8_write_28 : decode cX8_write 28 = .ok (.invokevirtual 78, 3) := by decide +kernel
theorem dX8_write_31 : decode cX8_write 31 = .ok (.aload_n 0, 1) := by decide +kernel
theorem dX8_write_32 : decode cX8_write 32 = .ok (.invokevirtual 70, 3) := by decide +kernel
theorem dX8_write_35 : decode cX8_write 35 = .ok (.ireturn, 1) := by decide +kernel
theorem dX8_read_0 : decode cX8_read 0 = .ok (.aload_n 0, 1) := by decide +kernel
theorem dX8_read_1 : decode cX8_read 1 = .ok (.iload_n 1, 1) := by decide +kernel
theorem dX8_read_2 : decode cX8_read 2 = .ok (.iload_n 2, 1) := by decide +kernel
theorem dX8_read_3 : decode cX8_read 3 = .ok (.invokevirtual 74, 3) := by decide +kernel
theorem dX8_read_6 : decode cX8_read 6 = .ok (.istore_n 3, 1) := by decide +kernel
theorem dX8_read_7 : decode cX8_read 7 = .ok (.iload_n 3, 1) := by decide +kernel
theorem dX8_read_8 : decode cX8_read 8 = .ok (.ifCond .eq 10, 3) := by decide +kernel
theorem dX8_read_11 : decode cX8_read 11 = .ok (.aload_n 0, 1) := by decide +kernel
theorem dX8_read_12 : decode cX8_read 12 = .ok (.iload_n 3, 1) := by decide +kernel
theorem dX8_read_13 : decode cX8_read 13 = .ok (.invokevirtual 82, 3) := by decide +kernel
theorem dX8_read_16 : decode cX8_read 16 = .ok (.i2l, 1) := by decide +kernel
theorem dX8_read_17 : decode cX8_read 17 = .ok (.lreturn, 1) := by decide +kernel
theorem dX8_read_18 : decode cX8_read 18 = .ok (.aload_n 0, 1) := by decide +kernel
theorem dX8_read_19 : decode cX8_read 19 = .ok (.iconst 0, 1) := by decide +kernel
theorem dX8_read_20 : decode cX8_read 20 = .ok (.putfield 9, 3) := by decide +kernel
theorem dX8_read_23 : decode cX8_read 23 = .ok (.aload_n 0, 1) := by decide +kernel
theorem dX8_read_24 : decode cX8_read 24 = .ok (.getfield 28, 3) := by decide +kernel
theorem dX8_read_27 : decode cX8_read 27 = .ok (.iload_n 1, 1) := by decide +kernel
theorem dX8_read_28 : decode cX8_read 28 = .ok (.aaload, 1) := by decide +kernel
theorem dX8_read_29 : decode cX8_read 29 = .ok (.iload_n 2, 1) := by decide +kernel
theorem dX8_read_30 : decode cX8_read 30 = .ok (.invokevirtual 86, 3) := by decide +kernel
theorem dX8_read_33 : decode cX8_read 33 = .ok (.lreturn, 1) := by decide +kernel
theorem dX8_pour_0 : decode cX8_pour 0 = .ok (.iload_n 1, 1) := by decide +kernel
theorem dX8_pour_1 : decode cX8_pour 1 = .ok (.invokestatic 59, 3) := by decide +kernel
theorem dX8_pour_4 : decode cX8_pour 4 = .ok (.ifCond .eq 10, 3) := by decide +kernel
theorem dX8_pour_7 : decode cX8_pour 7 = .ok (.iload_n 3, 1) := by decide +kernel
theorem dX8_pour_8 : decode cX8_pour 8 = .ok (.invokestatic 59, 3) := by decide +kernel
theorem dX8_pour_11 : decode cX8_pour 11 = .ok (.ifCond .ne 9, 3) := by decide +kernel
theorem dX8_pour_14 : decode cX8_pour 14 = .ok (.aload_n 0, 1) := by decide +kernel
theorem dX8_pour_15 : decode cX8_pour 15 = .ok (.iconst 1, 1) := by decide +kernel
theorem dX8_pour_16 : decode cX8_pour 16 = .ok (.invokevirtual 63, 3) := by decide +kernel
theorem dX8_pour_19 : decode cX8_pour 19 = .ok (.ireturn, 1) := by decide +kernel
theorem dX8_pour_20 : decode cX8_pour 20 = .ok (.aload_n 0, 1) := by decide +kernel
theorem dX8_pour_21 : decode cX8_pour 21 = .ok (.getfield 28, 3) := by decide +kernel
theorem dX8_pour_24 : decode cX8_pour 24 = .ok (.iload_n 1, 1) := by decide +kernel
theorem dX8_pour_25 : decode cX8_pour 25 = .ok (.aaload, 1) := by decide +kernel
theorem dX8_pour_26 : decode cX8_pour 26 = .ok (.astore 6, 2) := by decide +kernel
theorem dX8_pour_28 : decode cX8_pour 28 = .ok (.aload_n 0, 1) := by decide +kernel
theorem dX8_pour_29 : decode cX8_pour 29 = .ok (.getfield 28, 3) := by decide +kernel
theorem dX8_pour_32 : decode cX8_pour 32 = .ok (.iload_n 3, 1) := by decide +kernel
theorem dX8_pour_33 : decode cX8_pour 33 = .ok (.aaload, 1) := by decide +kernel
theorem dX8_pour_34 : decode cX8_pour 34 = .ok (.astore 7, 2) := by decide +kernel
theorem dX8_pour_36 : decode cX8_pour 36 = .ok (.aload 6, 2) := by decide +kernel
theorem dX8_pour_38 : decode cX8_pour 38 = .ok (.invokevirtual 90, 3) := by decide +kernel
theorem dX8_pour_41 : decode cX8_pour 41 = .ok (.ifCond .ne 11, 3) := by decide +kernel
theorem dX8_pour_44 : decode cX8_pour 44 = .ok (.aload 7, 2) := by decide +kernel
theorem dX8_pour_46 : decode cX8_pour 46 = .ok (.invokevirtual 90, 3) := by decide +kernel
theorem dX8_pour_49 : decode cX8_pour 49 = .ok (.ifCond .eq 9, 3) := by decide +kernel
theorem dX8_pour_52 : decode cX8_pour 52 = .ok (.aload_n 0, 1) := by decide +kernel
theorem dX8_pour_53 : decode cX8_pour 53 = .ok (.iconst 3, 1) := by decide +kernel
theorem dX8_pour_54 : decode cX8_pour 54 = .ok (.invokevirtual 63, 3) := by decide +kernel
theorem dX8_pour_57 : decode cX8_pour 57 = .ok (.ireturn, 1) := by decide +kernel
theorem dX8_pour_58 : decode cX8_pour 58 = .ok (.aload 6, 2) := by decide +kernel
theorem dX8_pour_60 : decode cX8_pour 60 = .ok (.getfield 93, 3) := by decide +kernel
theorem dX8_pour_63 : decode cX8_pour 63 = .ok (.aload 7, 2) := by decide +kernel
theorem dX8_pour_65 : decode cX8_pour 65 = .ok (.getfield 93, 3) := by decide +kernel
theorem dX8_pour_68 : decode cX8_pour 68 = .ok (.if_icmp .eq 10, 3) := by decide +kernel
theorem dX8_pour_71 : decode cX8_pour 71 = .ok (.aload_n 0, 1) := by decide +kernel
theorem dX8_pour_72 : decode cX8_pour 72 = .ok (.bipush 11, 2) := by decide +kernel
theorem dX8_pour_74 : decode cX8_pour 74 = .ok (.invokevirtual 63, 3) := by decide +kernel
theorem dX8_pour_77 : decode cX8_pour 77 = .ok (.ireturn, 1) := by decide +kernel
theorem dX8_pour_78 : decode cX8_pour 78 = .ok (.iload 5, 2) := by decide +kernel
theorem dX8_pour_80 : decode cX8_pour 80 = .ok (.ifCond .ge 10, 3) := by decide +kernel
theorem dX8_pour_83 : decode cX8_pour 83 = .ok (.aload_n 0, 1) := by decide +kernel
theorem dX8_pour_84 : decode cX8_pour 84 = .ok (.bipush 6, 2) := by decide +kernel
theorem dX8_pour_86 : decode cX8_pour 86 = .ok (.invokevirtual 63, 3) := by decide +kernel
theorem dX8_pour_89 : decode cX8_pour 89 = .ok (.ireturn, 1) := by decide +kernel
theorem dX8_pour_90 : decode cX8_pour 90 = .ok (.aload 6, 2) := by decide +kernel
theorem dX8_pour_92 : decode cX8_pour 92 = .ok (.iload_n 2, 1) := by decide +kernel
theorem dX8_pour_93 : decode cX8_pour 93 = .ok (.iload 5, 2) := by decide +kernel
theorem dX8_pour_95 : decode cX8_pour 95 = .ok (.invokevirtual 96, 3) := by decide +kernel
theorem dX8_pour_98 : decode cX8_pour 98 = .ok (.ifCond .eq 15, 3) := by decide +kernel
theorem dX8_pour_101 : decode cX8_pour 101 = .ok (.aload 7, 2) := by decide +kernel
theorem dX8_pour_103 : decode cX8_pour 103 = .ok (.iload 4, 2) := by decide +kernel
theorem dX8_pour_105 : decode cX8_pour 105 = .ok (.iload 5, 2) := by decide +kernel
theorem dX8_pour_107 : decode cX8_pour 107 = .ok (.invokevirtual 96, 3) := by decide +kernel
theorem dX8_pour_110 : decode cX8_pour 110 = .ok (.ifCond .ne 9, 3) := by decide +kernel
theorem dX8_pour_113 : decode cX8_pour 113 = .ok (.aload_n 0, 1) := by decide +kernel
theorem dX8_pour_114 : decode cX8_pour 114 = .ok (.iconst 4, 1) := by decide +kernel
theorem dX8_pour_115 : decode cX8_pour 115 = .ok (.invokevirtual 63, 3) := by decide +kernel
theorem dX8_pour_118 : decode cX8_pour 118 = .ok (.ireturn, 1) := by decide +kernel
theorem dX8_pour_119 : decode cX8_pour 119 = .ok (.aload 6, 2) := by decide +kernel
theorem dX8_pour_121 : decode cX8_pour 121 = .ok (.getfield 100, 3) := by decide +kernel
theorem dX8_pour_124 : decode cX8_pour 124 = .ok (.iload_n 2, 1) := by decide +kernel
theorem dX8_pour_125 : decode cX8_pour 125 = .ok (.aload 7, 2) := by decide +kernel
theorem dX8_pour_127 : decode cX8_pour 127 = .ok (.getfield 100, 3) := by decide +kernel
theorem dX8_pour_130 : decode cX8_pour 130 = .ok (.iload 4, 2) := by decide +kernel
theorem dX8_pour_132 : decode cX8_pour 132 = .ok (.iload 5, 2) := by decide +kernel
theorem dX8_pour_134 : decode cX8_pour 134 = .ok (.invokestatic 104, 3) := by decide +kernel
theorem dX8_pour_137 : decode cX8_pour 137 = .ok (.aload_n 0, 1) := by decide +kernel
theorem dX8_pour_138 : decode cX8_pour 138 = .ok (.invokevirtual 70, 3) := by decide +kernel
theorem dX8_pour_141 : decode cX8_pour 141 = .ok (.ireturn, 1) := by decide +kernel
theorem dX8_part_0 : decode cX8_part 0 = .ok (.iload_n 1, 1) := by decide +kernel
theorem dX8_part_1 : decode cX8_part 1 = .ok (.invokestatic 59, 3) := by decide +kernel
theorem dX8_part_4 : decode cX8_part 4 = .ok (.ifCond .ne 9, 3) := by decide +kernel
theorem dX8_part_7 : decode cX8_part 7 = .ok (.aload_n 0, 1) := by decide +kernel
theorem dX8_part_8 : decode cX8_part 8 = .ok (.iconst 1, 1) := by decide +kernel
theorem dX8_part_9 : decode cX8_part 9 = .ok (.invokevirtual 82, 3) := by decide +kernel
theorem dX8_part_12 : decode cX8_part 12 = .ok (.ireturn, 1) := by decide +kernel
theorem dX8_part_13 : decode cX8_part 13 = .ok (.aload_n 0, 1) := by decide +kernel
theorem dX8_part_14 : decode cX8_part 14 = .ok (.getfield 28, 3) := by decide +kernel
theorem dX8_part_17 : decode cX8_part 17 = .ok (.iload_n 1, 1) := by decide +kernel
theorem dX8_part_18 : decode cX8_part 18 = .ok (.aaload, 1) := by decide +kernel
theorem dX8_part_19 : decode cX8_part 19 = .ok (.astore 4, 2) := by decide +kernel
theorem dX8_part_21 : decode cX8_part 21 = .ok (.aload 4, 2) := by decide +kernel
theorem dX8_part_23 : decode cX8_part 23 = .ok (.invokevirtual 90, 3) := by decide +kernel
theorem dX8_part_26 : decode cX8_part 26 = .ok (.ifCond .eq 9, 3) := by decide +kernel
theorem dX8_part_29 : decode cX8_part 29 = .ok (.aload_n 0, 1) := by decide +kernel
theorem dX8_part_30 : decode cX8_part 30 = .ok (.iconst 3, 1) := by decide +kernel
theorem dX8_part_31 : decode cX8_part 31 = .ok (.invokevirtual 82, 3) := by decide +kernel
theorem dX8_part_34 : decode cX8_part 34 = .ok (.ireturn, 1) := by decide +kernel
theorem dX8_part_35 : decode cX8_part 35 = .ok (.iload_n 2, 1) := by decide +kernel
theorem dX8_part_36 : decode cX8_part 36 = .ok (.iconst 1, 1) := by decide +kernel
theorem dX8_part_37 : decode cX8_part 37 = .ok (.if_icmp .lt 16, 3) := by decide +kernel
theorem dX8_part_40 : decode cX8_part 40 = .ok (.iload_n 2, 1) := by decide +kernel
theorem dX8_part_41 : decode cX8_part 41 = .ok (.bipush 8, 2) := by decide +kernel
theorem dX8_part_43 : decode cX8_part 43 = .ok (.if_icmp .gt 10, 3) := by decide +kernel
theorem dX8_part_46 : decode cX8_part 46 = .ok (.iload_n 3, 1) := by decide +kernel
theorem dX8_part_47 : decode cX8_part 47 = .ok (.invokestatic 110, 3) := by decide +kernel
theorem dX8_part_50 : decode cX8_part 50 = .ok (.ifCond .ne 9, 3) := by decide +kernel
theorem dX8_part_53 : decode cX8_part 53 = .ok (.aload_n 0, 1) := by decide +kernel
theorem dX8_part_54 : decode cX8_part 54 = .ok (.iconst 5, 1) := by decide +kernel
theorem dX8_part_55 : decode cX8_part 55 = .ok (.invokevirtual 82, 3) := by decide +kernel
theorem dX8_part_58 : decode cX8_part 58 = .ok (.ireturn, 1) := by decide +kernel
theorem dX8_part_59 : decode cX8_part 59 = .ok (.aload 4, 2) := by decide +kernel
theorem dX8_part_61 : decode cX8_part 61 = .ok (.iconst 0, 1) := by decide +kernel
theorem dX8_part_62 : decode cX8_part 62 = .ok (.iconst 2, 1) := by decide +kernel
theorem dX8_part_63 : decode cX8_part 63 = .ok (.iload_n 2, 1) := by decide +kernel
theorem dX8_part_64 : decode cX8_part 64 = .ok (.imul, 1) := by decide +kernel
theorem dX8_part_65 : decode cX8_part 65 = .ok (.invokevirtual 96, 3) := by decide +kernel
theorem dX8_part_68 : decode cX8_part 68 = .ok (.ifCond .ne 9, 3) := by decide +kernel
theorem dX8_part_71 : decode cX8_part 71 = .ok (.aload_n 0, 1) := by decide +kernel
theorem dX8_part_72 : decode cX8_part 72 = .ok (.iconst 4, 1) := by decide +kernel
theorem dX8_part_73 : decode cX8_part 73 = .ok (.invokevirtual 82, 3) := by decide +kernel
theorem dX8_part_76 : decode cX8_part 76 = .ok (.ireturn, 1) := by decide +kernel
theorem dX8_part_77 : decode cX8_part 77 = .ok (.aload 4, 2) := by decide +kernel
theorem dX8_part_79 : decode cX8_part 79 = .ok (.iload_n 2, 1) := by decide +kernel
theorem dX8_part_80 : decode cX8_part 80 = .ok (.invokevirtual 113, 3) := by decide +kernel
theorem dX8_part_83 : decode cX8_part 83 = .ok (.ifCond .ne 9, 3) := by decide +kernel
theorem dX8_part_86 : decode cX8_part 86 = .ok (.aload_n 0, 1) := by decide +kernel
theorem dX8_part_87 : decode cX8_part 87 = .ok (.iconst 5, 1) := by decide +kernel
theorem dX8_part_88 : decode cX8_part 88 = .ok (.invokevirtual 82, 3) := by decide +kernel
theorem dX8_part_91 : decode cX8_part 91 = .ok (.ireturn, 1) := by decide +kernel
theorem dX8_part_92 : decode cX8_part 92 = .ok (.aload_n 0, 1) := by decide +kernel
theorem dX8_part_93 : decode cX8_part 93 = .ok (.getfield 35, 3) := by decide +kernel
theorem dX8_part_96 : decode cX8_part 96 = .ok (.invokevirtual 116, 3) := by decide +kernel
theorem dX8_part_99 : decode cX8_part 99 = .ok (.iconst 0, 1) := by decide +kernel
theorem dX8_part_100 : decode cX8_part 100 = .ok (.istore 5, 2) := by decide +kernel
theorem dX8_part_102 : decode cX8_part 102 = .ok (.iload 5, 2) := by decide +kernel
theorem dX8_part_104 : decode cX8_part 104 = .ok (.iload_n 2, 1) := by decide +kernel
theorem dX8_part_105 : decode cX8_part 105 = .ok (.if_icmp .ge 37, 3) := by decide +kernel
theorem dX8_part_108 : decode cX8_part 108 = .ok (.aload_n 0, 1) := by decide +kernel
theorem dX8_part_109 : decode cX8_part 109 = .ok (.getfield 35, 3) := by decide +kernel
theorem dX8_part_112 : decode cX8_part 112 = .ok (.aload 4, 2) := by decide +kernel
theorem dX8_part_114 : decode cX8_part 114 = .ok (.iconst 2, 1) := by decide +kernel
theorem dX8_part_115 : decode cX8_part 115 = .ok (.iload 5, 2) := by decide +kernel
theorem dX8_part_117 : decode cX8_part 117 = .ok (.imul, 1) := by decide +kernel
theorem dX8_part_118 : decode cX8_part 118 = .ok (.invokevirtual 86, 3) := by decide +kernel
theorem dX8_part_121 : decode cX8_part 121 = .ok (.l2i, 1) := by decide +kernel
theorem dX8_part_122 : decode cX8_part 122 = .ok (.aload 4, 2) := by decide +kernel
theorem dX8_part_124 : decode cX8_part 124 = .ok (.iconst 2, 1) := by decide +kernel
theorem dX8_part_125 : decode cX8_part 125 = .ok (.iload 5, 2) := by decide +kernel
theorem dX8_part_127 : decode cX8_part 127 = .ok (.imul, 1) := by decide +kernel
theorem dX8_part_128 : decode cX8_part 128 = .ok (.iconst 1, 1) := by decide +kernel
theorem dX8_part_129 : decode cX8_part 129 = .ok (.iadd, 1) := by decide +kernel
theorem dX8_part_130 : decode cX8_part 130 = .ok (.invokevirtual 86, 3) := by decide +kernel
theorem dX8_part_133 : decode cX8_part 133 = .ok (.invokevirtual 119, 3) := by decide +kernel
theorem dX8_part_136 : decode cX8_part 136 = .ok (.iinc 5 1, 3) := by decide +kernel
theorem dX8_part_139 : decode cX8_part 139 = .ok (.goto (-37), 3) := by decide +kernel
theorem dX8_part_142 : decode cX8_part 142 = .ok (.aload_n 0, 1) := by decide +kernel
theorem dX8_part_143 : decode cX8_part 143 = .ok (.iload_n 3, 1) := by decide +kernel
theorem dX8_part_144 : decode cX8_part 144 = .ok (.invokevirtual 122, 3) := by decide +kernel
theorem dX8_part_147 : decode cX8_part 147 = .ok (.ireturn, 1) := by decide +kernel
theorem dX8_fixed_0 : decode cX8_fixed 0 = .ok (.iload_n 1, 1) := by decide +kernel
theorem dX8_fixed_1 : decode cX8_fixed 1 = .ok (.ifCond .lt 16, 3) := by decide +kernel
theorem dX8_fixed_4 : decode cX8_fixed 4 = .ok (.iload_n 1, 1) := by decide +kernel
theorem dX8_fixed_5 : decode cX8_fixed 5 = .ok (.bipush 99, 2) := by decide +kernel
theorem dX8_fixed_7 : decode cX8_fixed 7 = .ok (.if_icmp .gt 10, 3) := by decide +kernel
theorem dX8_fixed_10 : decode cX8_fixed 10 = .ok (.iload_n 2, 1) := by decide +kernel
theorem dX8_fixed_11 : decode cX8_fixed 11 = .ok (.invokestatic 110, 3) := by decide +kernel
theorem dX8_fixed_14 : decode cX8_fixed 14 = .ok (.ifCond .ne 9, 3) := by decide +kernel
theorem dX8_fixed_17 : decode cX8_fixed 17 = .ok (.aload_n 0, 1) := by decide +kernel
theorem dX8_fixed_18 : decode cX8_fixed 18 = .ok (.iconst 5, 1) := by decide +kernel
theorem dX8_fixed_19 : decode cX8_fixed 19 = .ok (.invokevirtual 82, 3) := by decide +kernel
theorem dX8_fixed_22 : decode cX8_fixed 22 = .ok (.ireturn, 1) := by decide +kernel
theorem dX8_fixed_23 : decode cX8_fixed 23 = .ok (.aload_n 0, 1) := by decide +kernel
theorem dX8_fixed_24 : decode cX8_fixed 24 = .ok (.getfield 35, 3) := by decide +kernel
theorem dX8_fixed_27 : decode cX8_fixed 27 = .ok (.invokevirtual 116, 3) := by decide +kernel
theorem dX8_fixed_30 : decode cX8_fixed 30 = .ok (.aload_n 0, 1) := by decide +kernel
theorem dX8_fixed_31 : decode cX8_fixed 31 = .ok (.getfield 35, 3) := by decide +kernel
theorem dX8_fixed_34 : decode cX8_fixed 34 = .ok (.iload_n 1, 1) := by decide +kernel
theorem dX8_fixed_35 : decode cX8_fixed 35 = .ok (.lconst 1, 1) := by decide +kernel
theorem dX8_fixed_36 : decode cX8_fixed 36 = .ok (.invokevirtual 119, 3) := by decide +kernel
theorem dX8_fixed_39 : decode cX8_fixed 39 = .ok (.aload_n 0, 1) := by decide +kernel
theorem dX8_fixed_40 : decode cX8_fixed 40 = .ok (.iload_n 2, 1) := by decide +kernel
theorem dX8_fixed_41 : decode cX8_fixed 41 = .ok (.invokevirtual 122, 3) := by decide +kernel
theorem dX8_fixed_44 : decode cX8_fixed 44 = .ok (.ireturn, 1) := by decide +kernel
theorem dX8_either_0 : decode cX8_either 0 = .ok (.aload_n 0, 1) := by decide +kernel
theorem dX8_either_1 : decode cX8_either 1 = .ok (.getfield 50, 3) := by decide +kernel
theorem dX8_either_4 : decode cX8_either 4 = .ok (.iload_n 1, 1) := by decide +kernel
theorem dX8_either_5 : decode cX8_either 5 = .ok (.invokevirtual 125, 3) := by decide +kernel
theorem dX8_either_8 : decode cX8_either 8 = .ok (.ifCond .eq 14, 3) := by decide +kernel
theorem dX8_either_11 : decode cX8_either 11 = .ok (.aload_n 0, 1) := by decide +kernel
theorem dX8_either_12 : decode cX8_either 12 = .ok (.getfield 50, 3) := by decide +kernel
theorem dX8_either_15 : decode cX8_either 15 = .ok (.iload_n 2, 1) := by decide +kernel
theorem dX8_either_16 : decode cX8_either 16 = .ok (.invokevirtual 125, 3) := by decide +kernel
theorem dX8_either_19 : decode cX8_either 19 = .ok (.ifCond .ne 9, 3) := by decide +kernel
theorem dX8_either_22 : decode cX8_either 22 = .ok (.aload_n 0, 1) := by decide +kernel
theorem dX8_either_23 : decode cX8_either 23 = .ok (.iconst 2, 1) := by decide +kernel
theorem dX8_either_24 : decode cX8_either 24 = .ok (.invokevirtual 82, 3) := by decide +kernel
theorem dX8_either_27 : decode cX8_either 27 = .ok (.ireturn, 1) := by decide +kernel
theorem dX8_either_28 : decode cX8_either 28 = .ok (.iload_n 3, 1) := by decide +kernel
theorem dX8_either_29 : decode cX8_either 29 = .ok (.iconst 1, 1) := by decide +kernel
theorem dX8_either_30 : decode cX8_either 30 = .ok (.if_icmp .lt 30, 3) := by decide +kernel
theorem dX8_either_33 : decode cX8_either 33 = .ok (.iload_n 3, 1) := by decide +kernel
theorem dX8_either_34 : decode cX8_either 34 = .ok (.bipush 99, 2) := by decide +kernel
theorem dX8_either_36 : decode cX8_either 36 = .ok (.if_icmp .gt 24, 3) := by decide +kernel
theorem dX8_either_39 : decode cX8_either 39 = .ok (.iload 4, 2) := by decide +kernel
theorem dX8_either_41 : decode cX8_either 41 = .ok (.iconst 1, 1) := by decide +kernel
theorem dX8_either_42 : decode cX8_either 42 = .ok (.if_icmp .lt 18, 3) := by decide +kernel
theorem dX8_either_45 : decode cX8_either 45 = .ok (.iload 4, 2) := by decide +kernel
theorem dX8_either_47 : decode cX8_either 47 = .ok (.bipush 99, 2) := by decide +kernel
theorem dX8_either_49 : decode cX8_either 49 = .ok (.if_icmp .gt 11, 3) := by decide +kernel
theorem dX8_either_52 : decode cX8_either 52 = .ok (.iload 5, 2) := by decide +kernel
theorem dX8_either_54 : decode cX8_either 54 = .ok (.invokestatic 110, 3) := by decide +kernel
theorem dX8_either_57 : decode cX8_either 57 = .ok (.ifCond .ne 9, 3) := by decide +kernel
theorem dX8_either_60 : decode cX8_either 60 = .ok (.aload_n 0, 1) := by decide +kernel
theorem dX8_either_61 : decode cX8_either 61 = .ok (.iconst 5, 1) := by decide +kernel
theorem dX8_either_62 : decode cX8_either 62 = .ok (.invokevirtual 82, 3) := by decide +kernel
theorem dX8_either_65 : decode cX8_either 65 = .ok (.ireturn, 1) := by decide +kernel
theorem dX8_either_66 : decode cX8_either 66 = .ok (.aload_n 0, 1) := by decide +kernel
theorem dX8_either_67 : decode cX8_either 67 = .ok (.getfield 50, 3) := by decide +kernel
theorem dX8_either_70 : decode cX8_either 70 = .ok (.getfield 130, 3) := by decide +kernel
theorem dX8_either_73 : decode cX8_either 73 = .ok (.iload_n 1, 1) := by decide +kernel
theorem dX8_either_74 : decode cX8_either 74 = .ok (.aaload, 1) := by decide +kernel
theorem dX8_either_75 : decode cX8_either 75 = .ok (.astore 6, 2) := by decide +kernel
theorem dX8_either_77 : decode cX8_either 77 = .ok (.aload_n 0, 1) := by decide +kernel
theorem dX8_either_78 : decode cX8_either 78 = .ok (.getfield 50, 3) := by decide +kernel
theorem dX8_either_81 : decode cX8_either 81 = .ok (.getfield 130, 3) := by decide +kernel
theorem dX8_either_84 : decode cX8_either 84 = .ok (.iload_n 2, 1) := by decide +kernel
theorem dX8_either_85 : decode cX8_either 85 = .ok (.aaload, 1) := by decide +kernel
theorem dX8_either_86 : decode cX8_either 86 = .ok (.astore 7, 2) := by decide +kernel
theorem dX8_either_88 : decode cX8_either 88 = .ok (.aload_n 0, 1) := by decide +kernel
theorem dX8_either_89 : decode cX8_either 89 = .ok (.getfield 35, 3) := by decide +kernel
theorem dX8_either_92 : decode cX8_either 92 = .ok (.invokevirtual 116, 3) := by decide +kernel
theorem dX8_either_95 : decode cX8_either 95 = .ok (.aload_n 0, 1) := by decide +kernel
theorem dX8_either_96 : decode cX8_either 96 = .ok (.getfield 35, 3) := by decide +kernel
theorem dX8_either_99 : decode cX8_either 99 = .ok (.aload 6, 2) := by decide +kernel
theorem dX8_either_101 : decode cX8_either 101 = .ok (.iload_n 3, 1) := by decide +kernel
theorem dX8_either_102 : decode cX8_either 102 = .ok (.i2l, 1) := by decide +kernel
theorem dX8_either_103 : decode cX8_either 103 = .ok (.aload 7, 2) := by decide +kernel
theorem dX8_either_105 : decode cX8_either 105 = .ok (.getfield 134, 3) := by decide +kernel
theorem dX8_either_108 : decode cX8_either 108 = .ok (.i2l, 1) := by decide +kernel
theorem dX8_either_109 : decode cX8_either 109 = .ok (.lmul, 1) := by decide +kernel
theorem dX8_either_110 : decode cX8_either 110 = .ok (.invokevirtual 139, 3) := by decide +kernel
theorem dX8_either_113 : decode cX8_either 113 = .ok (.aload_n 0, 1) := by decide +kernel
theorem dX8_either_114 : decode cX8_either 114 = .ok (.getfield 35, 3) := by decide +kernel
theorem dX8_either_117 : decode cX8_either 117 = .ok (.aload 7, 2) := by decide +kernel
theorem dX8_either_119 : decode cX8_either 119 = .ok (.iload 4, 2) := by decide +kernel
theorem dX8_either_121 : decode cX8_either 121 = .ok (.i2l, 1) := by decide +kernel
theorem dX8_either_122 : decode cX8_either 122 = .ok (.aload 6, 2) := by decide +kernel
theorem dX8_either_124 : decode cX8_either 124 = .ok (.getfield 134, 3) := by decide +kernel
theorem dX8_either_127 : decode cX8_either 127 = .ok (.i2l, 1) := by decide +kernel
theorem dX8_either_128 : decode cX8_either 128 = .ok (.lmul, 1) := by decide +kernel
theorem dX8_either_129 : decode cX8_either 129 = .ok (.invokevirtual 139, 3) := by decide +kernel
theorem dX8_either_132 : decode cX8_either 132 = .ok (.aload_n 0, 1) := by decide +kernel
theorem dX8_either_133 : decode cX8_either 133 = .ok (.iload 5, 2) := by decide +kernel
theorem dX8_either_135 : decode cX8_either 135 = .ok (.invokevirtual 122, 3) := by decide +kernel
theorem dX8_either_138 : decode cX8_either 138 = .ok (.ireturn, 1) := by decide +kernel
theorem dX8_again_0 : decode cX8_again 0 = .ok (.aload_n 0, 1) := by decide +kernel
theorem dX8_again_1 : decode cX8_again 1 = .ok (.getfield 50, 3) := by decide +kernel
theorem dX8_again_4 : decode cX8_again 4 = .ok (.iload_n 1, 1) := by decide +kernel
theorem dX8_again_5 : decode cX8_again 5 = .ok (.invokevirtual 125, 3) := by decide +kernel
theorem dX8_again_8 : decode cX8_again 8 = .ok (.ifCond .ne 9, 3) := by decide +kernel
theorem dX8_again_11 : decode cX8_again 11 = .ok (.aload_n 0, 1) := by decide +kernel
theorem dX8_again_12 : decode cX8_again 12 = .ok (.iconst 2, 1) := by decide +kernel
theorem dX8_again_13 : decode cX8_again 13 = .ok (.invokevirtual 82, 3) := by decide +kernel
theorem dX8_again_16 : decode cX8_again 16 = .ok (.ireturn, 1) := by decide +kernel
theorem dX8_again_17 : decode cX8_again 17 = .ok (.iload_n 2, 1) := by decide +kernel
theorem dX8_again_18 : decode cX8_again 18 = .ok (.iconst 1, 1) := by decide +kernel
theorem dX8_again_19 : decode cX8_again 19 = .ok (.if_icmp .lt 22, 3) := by decide +kernel
theorem dX8_again_22 : decode cX8_again 22 = .ok (.iload_n 2, 1) := by decide +kernel
theorem dX8_again_23 : decode cX8_again 23 = .ok (.iload_n 3, 1) := by decide +kernel
theorem dX8_again_24 : decode cX8_again 24 = .ok (.if_icmp .ge 17, 3) := by decide +kernel
theorem dX8_again_27 : decode cX8_again 27 = .ok (.iload_n 3, 1) := by decide +kernel
theorem dX8_again_28 : decode cX8_again 28 = .ok (.bipush 99, 2) := by decide +kernel
theorem dX8_again_30 : decode cX8_again 30 = .ok (.if_icmp .gt 11, 3) := by decide +kernel
theorem dX8_again_33 : decode cX8_again 33 = .ok (.iload 4, 2) := by decide +kernel
theorem dX8_again_35 : decode cX8_again 35 = .ok (.invokestatic 110, 3) := by decide +kernel
theorem dX8_again_38 : decode cX8_again 38 = .ok (.ifCond .ne 9, 3) := by decide +kernel
theorem dX8_again_41 : decode cX8_again 41 = .ok (.aload_n 0, 1) := by decide +kernel
theorem dX8_again_42 : decode cX8_again 42 = .ok (.iconst 5, 1) := by decide +kernel
theorem dX8_again_43 : decode cX8_again 43 = .ok (.invokevirtual 82, 3) := by decide +kernel
theorem dX8_again_46 : decode cX8_again 46 = .ok (.ireturn, 1) := by decide +kernel
theorem dX8_again_47 : decode cX8_again 47 = .ok (.aload_n 0, 1) := by decide +kernel
theorem dX8_again_48 : decode cX8_again 48 = .ok (.getfield 50, 3) := by decide +kernel
theorem dX8_again_51 : decode cX8_again 51 = .ok (.getfield 130, 3) := by decide +kernel
theorem dX8_again_54 : decode cX8_again 54 = .ok (.iload_n 1, 1) := by decide +kernel
theorem dX8_again_55 : decode cX8_again 55 = .ok (.aaload, 1) := by decide +kernel
theorem dX8_again_56 : decode cX8_again 56 = .ok (.astore 5, 2) := by decide +kernel
theorem dX8_again_58 : decode cX8_again 58 = .ok (.aload_n 0, 1) := by decide +kernel
theorem dX8_again_59 : decode cX8_again 59 = .ok (.getfield 35, 3) := by decide +kernel
theorem dX8_again_62 : decode cX8_again 62 = .ok (.invokevirtual 116, 3) := by decide +kernel
theorem dX8_again_65 : decode cX8_again 65 = .ok (.aload_n 0, 1) := by decide +kernel
theorem dX8_again_66 : decode cX8_again 66 = .ok (.getfield 35, 3) := by decide +kernel
theorem dX8_again_69 : decode cX8_again 69 = .ok (.aload 5, 2) := by decide +kernel
theorem dX8_again_71 : decode cX8_again 71 = .ok (.iload_n 3, 1) := by decide +kernel
theorem dX8_again_72 : decode cX8_again 72 = .ok (.iload_n 2, 1) := by decide +kernel
theorem dX8_again_73 : decode cX8_again 73 = .ok (.isub, 1) := by decide +kernel
theorem dX8_again_74 : decode cX8_again 74 = .ok (.i2l, 1) := by decide +kernel
theorem dX8_again_75 : decode cX8_again 75 = .ok (.aload 5, 2) := by decide +kernel
theorem dX8_again_77 : decode cX8_again 77 = .ok (.getfield 134, 3) := by decide +kernel
theorem dX8_again_80 : decode cX8_again 80 = .ok (.i2l, 1) := by decide +kernel
theorem dX8_again_81 : decode cX8_again 81 = .ok (.lmul, 1) := by decide +kernel
theorem dX8_again_82 : decode cX8_again 82 = .ok (.invokevirtual 139, 3) := by decide +kernel
theorem dX8_again_85 : decode cX8_again 85 = .ok (.aload_n 0, 1) := by decide +kernel
theorem dX8_again_86 : decode cX8_again 86 = .ok (.getfield 35, 3) := by decide +kernel
theorem dX8_again_89 : decode cX8_again 89 = .ok (.aload 5, 2) := by decide +kernel
theorem dX8_again_91 : decode cX8_again 91 = .ok (.iload_n 2, 1) := by decide +kernel
theorem dX8_again_92 : decode cX8_again 92 = .ok (.i2l, 1) := by decide +kernel
theorem dX8_again_93 : decode cX8_again 93 = .ok (.invokevirtual 143, 3) := by decide +kernel
theorem dX8_again_96 : decode cX8_again 96 = .ok (.aload_n 0, 1) := by decide +kernel
theorem dX8_again_97 : decode cX8_again 97 = .ok (.iload 4, 2) := by decide +kernel
theorem dX8_again_99 : decode cX8_again 99 = .ok (.invokevirtual 122, 3) := by decide +kernel
theorem dX8_again_102 : decode cX8_again 102 = .ok (.ireturn, 1) := by decide +kernel
theorem dX8_need_0 : decode cX8_need 0 = .ok (.aload_n 0, 1) := by decide +kernel
theorem dX8_need_1 : decode cX8_need 1 = .ok (.getfield 50, 3) := by decide +kernel
theorem dX8_need_4 : decode cX8_need 4 = .ok (.iload_n 1, 1) := by decide +kernel
theorem dX8_need_5 : decode cX8_need 5 = .ok (.invokevirtual 125, 3) := by decide +kernel
theorem dX8_need_8 : decode cX8_need 8 = .ok (.ifCond .eq 14, 3) := by decide +kernel
theorem dX8_need_11 : decode cX8_need 11 = .ok (.aload_n 0, 1) := by decide +kernel
theorem dX8_need_12 : decode cX8_need 12 = .ok (.getfield 50, 3) := by decide +kernel
theorem dX8_need_15 : decode cX8_need 15 = .ok (.iload_n 2, 1) := by decide +kernel
theorem dX8_need_16 : decode cX8_need 16 = .ok (.invokevirtual 125, 3) := by decide +kernel
theorem dX8_need_19 : decode cX8_need 19 = .ok (.ifCond .ne 9, 3) := by decide +kernel
theorem dX8_need_22 : decode cX8_need 22 = .ok (.aload_n 0, 1) := by decide +kernel
theorem dX8_need_23 : decode cX8_need 23 = .ok (.iconst 2, 1) := by decide +kernel
theorem dX8_need_24 : decode cX8_need 24 = .ok (.invokevirtual 63, 3) := by decide +kernel
theorem dX8_need_27 : decode cX8_need 27 = .ok (.ireturn, 1) := by decide +kernel
theorem dX8_need_28 : decode cX8_need 28 = .ok (.iload_n 2, 1) := by decide +kernel
theorem dX8_need_29 : decode cX8_need 29 = .ok (.iload_n 1, 1) := by decide +kernel
theorem dX8_need_30 : decode cX8_need 30 = .ok (.if_icmp .lt 9, 3) := by decide +kernel
theorem dX8_need_33 : decode cX8_need 33 = .ok (.aload_n 0, 1) := by decide +kernel
theorem dX8_need_34 : decode cX8_need 34 = .ok (.iconst 5, 1) := by decide +kernel
theorem dX8_need_35 : decode cX8_need 35 = .ok (.invokevirtual 63, 3) := by decide +kernel
theorem dX8_need_38 : decode cX8_need 38 = .ok (.ireturn, 1) := by decide +kernel
theorem dX8_need_39 : decode cX8_need 39 = .ok (.aload_n 0, 1) := by decide +kernel
theorem dX8_need_40 : decode cX8_need 40 = .ok (.getfield 50, 3) := by decide +kernel
theorem dX8_need_43 : decode cX8_need 43 = .ok (.getfield 130, 3) := by decide +kernel
theorem dX8_need_46 : decode cX8_need 46 = .ok (.iload_n 1, 1) := by decide +kernel
theorem dX8_need_47 : decode cX8_need 47 = .ok (.aaload, 1) := by decide +kernel
theorem dX8_need_48 : decode cX8_need 48 = .ok (.iload_n 2, 1) := by decide +kernel
theorem dX8_need_49 : decode cX8_need 49 = .ok (.iload_n 3, 1) := by decide +kernel
theorem dX8_need_50 : decode cX8_need 50 = .ok (.invokevirtual 146, 3) := by decide +kernel
theorem dX8_need_53 : decode cX8_need 53 = .ok (.aload_n 0, 1) := by decide +kernel
theorem dX8_need_54 : decode cX8_need 54 = .ok (.invokevirtual 150, 3) := by decide +kernel
theorem dX8_need_57 : decode cX8_need 57 = .ok (.ireturn, 1) := by decide +kernel
theorem dX8_cause_0 : decode cX8_cause 0 = .ok (.iload_n 1, 1) := by decide +kernel
theorem dX8_cause_1 : decode cX8_cause 1 = .ok (.iconst 1, 1) := by decide +kernel
theorem dX8_cause_2 : decode cX8_cause 2 = .ok (.if_icmp .lt 14, 3) := by decide +kernel
theorem dX8_cause_5 : decode cX8_cause 5 = .ok (.iload_n 1, 1) := by decide +kernel
theorem dX8_cause_6 : decode cX8_cause 6 = .ok (.iload_n 2, 1) := by decide +kernel
theorem dX8_cause_7 : decode cX8_cause 7 = .ok (.if_icmp .ge 9, 3) := by decide +kernel
theorem dX8_cause_10 : decode cX8_cause 10 = .ok (.iload_n 2, 1) := by decide +kernel
theorem dX8_cause_11 : decode cX8_cause 11 = .ok (.bipush 12, 2) := by decide +kernel
theorem dX8_cause_13 : decode cX8_cause 13 = .ok (.if_icmp .le 9, 3) := by decide +kernel
theorem dX8_cause_16 : decode cX8_cause 16 = .ok (.aload_n 0, 1) := by decide +kernel
theorem dX8_cause_17 : decode cX8_cause 17 = .ok (.iconst 5, 1) := by decide +kernel
theorem dX8_cause_18 : decode cX8_cause 18 = .ok (.invokevirtual 82, 3) := by decide +kernel
theorem dX8_cause_21 : decode cX8_cause 21 = .ok (.ireturn, 1) := by decide +kernel
theorem dX8_cause_22 : decode cX8_cause 22 = .ok (.aload_n 0, 1) := by decide +kernel
theorem dX8_cause_23 : decode cX8_cause 23 = .ok (.getfield 50, 3) := by decide +kernel
theorem dX8_cause_26 : decode cX8_cause 26 = .ok (.getfield 153, 3) := by decide +kernel
theorem dX8_cause_29 : decode cX8_cause 29 = .ok (.iconst 4, 1) := by decide +kernel
theorem dX8_cause_30 : decode cX8_cause 30 = .ok (.if_icmp .lt 10, 3) := by decide +kernel
theorem dX8_cause_33 : decode cX8_cause 33 = .ok (.aload_n 0, 1) := by decide +kernel
theorem dX8_cause_34 : decode cX8_cause 34 = .ok (.bipush 7, 2) := by decide +kernel
theorem dX8_cause_36 : decode cX8_cause 36 = .ok (.invokevirtual 82, 3) := by decide +kernel
theorem dX8_cause_39 : decode cX8_cause 39 = .ok (.ireturn, 1) := by decide +kernel
theorem dX8_cause_40 : decode cX8_cause 40 = .ok (.aload_n 0, 1) := by decide +kernel
theorem dX8_cause_41 : decode cX8_cause 41 = .ok (.getfield 50, 3) := by decide +kernel
theorem dX8_cause_44 : decode cX8_cause 44 = .ok (.iload_n 1, 1) := by decide +kernel
theorem dX8_cause_45 : decode cX8_cause 45 = .ok (.iload_n 2, 1) := by decide +kernel
theorem dX8_cause_46 : decode cX8_cause 46 = .ok (.invokevirtual 156, 3) := by decide +kernel
theorem dX8_cause_49 : decode cX8_cause 49 = .ok (.aload_n 0, 1) := by decide +kernel
theorem dX8_cause_50 : decode cX8_cause 50 = .ok (.invokevirtual 150, 3) := by decide +kernel
theorem dX8_cause_53 : decode cX8_cause 53 = .ok (.pop, 1) := by decide +kernel
theorem dX8_cause_54 : decode cX8_cause 54 = .ok (.aload_n 0, 1) := by decide +kernel
theorem dX8_cause_55 : decode cX8_cause 55 = .ok (.getfield 50, 3) := by decide +kernel
theorem dX8_cause_58 : decode cX8_cause 58 = .ok (.getfield 153, 3) := by decide +kernel
theorem dX8_cause_61 : decode cX8_cause 61 = .ok (.iconst 1, 1) := by decide +kernel
theorem dX8_cause_62 : decode cX8_cause 62 = .ok (.isub, 1) := by decide +kernel
theorem dX8_cause_63 : decode cX8_cause 63 = .ok (.ireturn, 1) := by decide +kernel
theorem dX8_late_0 : decode cX8_late 0 = .ok (.aload_n 0, 1) := by decide +kernel
theorem dX8_late_1 : decode cX8_late 1 = .ok (.getfield 50, 3) := by decide +kernel
theorem dX8_late_4 : decode cX8_late 4 = .ok (.iload_n 1, 1) := by decide +kernel
theorem dX8_late_5 : decode cX8_late 5 = .ok (.invokevirtual 125, 3) := by decide +kernel
theorem dX8_late_8 : decode cX8_late 8 = .ok (.ifCond .eq 18, 3) := by decide +kernel
theorem dX8_late_11 : decode cX8_late 11 = .ok (.iload_n 2, 1) := by decide +kernel
theorem dX8_late_12 : decode cX8_late 12 = .ok (.ifCond .lt 14, 3) := by decide +kernel
theorem dX8_late_15 : decode cX8_late 15 = .ok (.iload_n 2, 1) := by decide +kernel
theorem dX8_late_16 : decode cX8_late 16 = .ok (.aload_n 0, 1) := by decide +kernel
theorem dX8_late_17 : decode cX8_late 17 = .ok (.getfield 50, 3) := by decide +kernel
theorem dX8_late_20 : decode cX8_late 20 = .ok (.getfield 153, 3) := by decide +kernel
theorem dX8_late_23 : decode cX8_late 23 = .ok (.if_icmp .lt 9, 3) := by decide +kernel
theorem dX8_late_26 : decode cX8_late 26 = .ok (.aload_n 0, 1) := by decide +kernel
theorem dX8_late_27 : decode cX8_late 27 = .ok (.iconst 2, 1) := by decide +kernel
theorem dX8_late_28 : decode cX8_late 28 = .ok (.invokevirtual 63, 3) := by decide +kernel
theorem dX8_late_31 : decode cX8_late 31 = .ok (.ireturn, 1) := by decide +kernel
theorem dX8_late_32 : decode cX8_late 32 = .ok (.iload_n 3, 1) := by decide +kernel
theorem dX8_late_33 : decode cX8_late 33 = .ok (.ifCond .lt 9, 3) := by decide +kernel
theorem dX8_late_36 : decode cX8_late 36 = .ok (.iload_n 3, 1) := by decide +kernel
theorem dX8_late_37 : decode cX8_late 37 = .ok (.bipush 99, 2) := by decide +kernel
theorem dX8_late_39 : decode cX8_late 39 = .ok (.if_icmp .le 9, 3) := by decide +kernel
theorem dX8_late_42 : decode cX8_late 42 = .ok (.aload_n 0, 1) := by decide +kernel
theorem dX8_late_43 : decode cX8_late 43 = .ok (.iconst 5, 1) := by decide +kernel
theorem dX8_late_44 : decode cX8_late 44 = .ok (.invokevirtual 63, 3) := by decide +kernel
theorem dX8_late_47 : decode cX8_late 47 = .ok (.ireturn, 1) := by decide +kernel
theorem dX8_late_48 : decode cX8_late 48 = .ok (.aload_n 0, 1) := by decide +kernel
theorem dX8_late_49 : decode cX8_late 49 = .ok (.getfield 50, 3) := by decide +kernel
theorem dX8_late_52 : decode cX8_late 52 = .ok (.getfield 130, 3) := by decide +kernel
theorem dX8_late_55 : decode cX8_late 55 = .ok (.iload_n 1, 1) := by decide +kernel
theorem dX8_late_56 : decode cX8_late 56 = .ok (.aaload, 1) := by decide +kernel
theorem dX8_late_57 : decode cX8_late 57 = .ok (.getfield 159, 3) := by decide +kernel
theorem dX8_late_60 : decode cX8_late 60 = .ok (.iload_n 2, 1) := by decide +kernel
theorem dX8_late_61 : decode cX8_late 61 = .ok (.iload_n 3, 1) := by decide +kernel
theorem dX8_late_62 : decode cX8_late 62 = .ok (.iastore, 1) := by decide +kernel
theorem dX8_late_63 : decode cX8_late 63 = .ok (.aload_n 0, 1) := by decide +kernel
theorem dX8_late_64 : decode cX8_late 64 = .ok (.invokevirtual 150, 3) := by decide +kernel
theorem dX8_late_67 : decode cX8_late 67 = .ok (.ireturn, 1) := by decide +kernel
theorem dX8_hands_0 : decode cX8_hands 0 = .ok (.iload_n 1, 1) := by decide +kernel
theorem dX8_hands_1 : decode cX8_hands 1 = .ok (.iconst 1, 1) := by decide +kernel
theorem dX8_hands_2 : decode cX8_hands 2 = .ok (.if_icmp .lt 9, 3) := by decide +kernel
theorem dX8_hands_5 : decode cX8_hands 5 = .ok (.iload_n 1, 1) := by decide +kernel
theorem dX8_hands_6 : decode cX8_hands 6 = .ok (.bipush 30, 2) := by decide +kernel
theorem dX8_hands_8 : decode cX8_hands 8 = .ok (.if_icmp .le 9, 3) := by decide +kernel
theorem dX8_hands_11 : decode cX8_hands 11 = .ok (.aload_n 0, 1) := by decide +kernel
theorem dX8_hands_12 : decode cX8_hands 12 = .ok (.iconst 5, 1) := by decide +kernel
theorem dX8_hands_13 : decode cX8_hands 13 = .ok (.invokevirtual 63, 3) := by decide +kernel
theorem dX8_hands_16 : decode cX8_hands 16 = .ok (.ireturn, 1) := by decide +kernel
theorem dX8_hands_17 : decode cX8_hands 17 = .ok (.aload_n 0, 1) := by decide +kernel
theorem dX8_hands_18 : decode cX8_hands 18 = .ok (.getfield 50, 3) := by decide +kernel
theorem dX8_hands_21 : decode cX8_hands 21 = .ok (.iload_n 1, 1) := by decide +kernel
theorem dX8_hands_22 : decode cX8_hands 22 = .ok (.putfield 163, 3) := by decide +kernel
theorem dX8_hands_25 : decode cX8_hands 25 = .ok (.aload_n 0, 1) := by decide +kernel
theorem dX8_hands_26 : decode cX8_hands 26 = .ok (.invokevirtual 150, 3) := by decide +kernel
theorem dX8_hands_29 : decode cX8_hands 29 = .ok (.ireturn, 1) := by decide +kernel
theorem dX8_clear_0 : decode cX8_clear 0 = .ok (.aload_n 0, 1) := by decide +kernel
theorem dX8_clear_1 : decode cX8_clear 1 = .ok (.getfield 50, 3) := by decide +kernel
theorem dX8_clear_4 : decode cX8_clear 4 = .ok (.invokevirtual 166, 3) := by decide +kernel
theorem dX8_clear_7 : decode cX8_clear 7 = .ok (.aload_n 0, 1) := by decide +kernel
theorem dX8_clear_8 : decode cX8_clear 8 = .ok (.invokevirtual 150, 3) := by decide +kernel
theorem dX8_clear_11 : decode cX8_clear 11 = .ok (.ireturn, 1) := by decide +kernel
theorem dX8_told_0 : decode cX8_told 0 = .ok (.aload_n 0, 1) := by decide +kernel
theorem dX8_told_1 : decode cX8_told 1 = .ok (.getfield 50, 3) := by decide +kernel
theorem dX8_told_4 : decode cX8_told 4 = .ok (.iload_n 1, 1) := by decide +kernel
theorem dX8_told_5 : decode cX8_told 5 = .ok (.invokevirtual 125, 3) := by decide +kernel
theorem dX8_told_8 : decode cX8_told 8 = .ok (.ifCond .ne 9, 3) := by decide +kernel
theorem dX8_told_11 : decode cX8_told 11 = .ok (.aload_n 0, 1) := by decide +kernel
theorem dX8_told_12 : decode cX8_told 12 = .ok (.iconst 2, 1) := by decide +kernel
theorem dX8_told_13 : decode cX8_told 13 = .ok (.invokevirtual 82, 3) := by decide +kernel
theorem dX8_told_16 : decode cX8_told 16 = .ok (.ireturn, 1) := by decide +kernel
theorem dX8_told_17 : decode cX8_told 17 = .ok (.iload_n 2, 1) := by decide +kernel
theorem dX8_told_18 : decode cX8_told 18 = .ok (.ifCond .lt 8, 3) := by decide +kernel
theorem dX8_told_21 : decode cX8_told 21 = .ok (.iload_n 2, 1) := by decide +kernel
theorem dX8_told_22 : decode cX8_told 22 = .ok (.iconst 4, 1) := by decide +kernel
theorem dX8_told_23 : decode cX8_told 23 = .ok (.if_icmp .le 9, 3) := by decide +kernel
theorem dX8_told_26 : decode cX8_told 26 = .ok (.aload_n 0, 1) := by decide +kernel
theorem dX8_told_27 : decode cX8_told 27 = .ok (.iconst 5, 1) := by decide +kernel
theorem dX8_told_28 : decode cX8_told 28 = .ok (.invokevirtual 82, 3) := by decide +kernel
theorem dX8_told_31 : decode cX8_told 31 = .ok (.ireturn, 1) := by decide +kernel
theorem dX8_told_32 : decode cX8_told 32 = .ok (.aload_n 0, 1) := by decide +kernel
theorem dX8_told_33 : decode cX8_told 33 = .ok (.iconst 0, 1) := by decide +kernel
theorem dX8_told_34 : decode cX8_told 34 = .ok (.putfield 9, 3) := by decide +kernel
theorem dX8_told_37 : decode cX8_told 37 = .ok (.aload_n 0, 1) := by decide +kernel
theorem dX8_told_38 : decode cX8_told 38 = .ok (.getfield 50, 3) := by decide +kernel
theorem dX8_told_41 : decode cX8_told 41 = .ok (.getfield 130, 3) := by decide +kernel
theorem dX8_told_44 : decode cX8_told 44 = .ok (.iload_n 1, 1) := by decide +kernel
theorem dX8_told_45 : decode cX8_told 45 = .ok (.aaload, 1) := by decide +kernel
theorem dX8_told_46 : decode cX8_told 46 = .ok (.astore_n 3, 1) := by decide +kernel
theorem dX8_told_47 : decode cX8_told 47 = .ok (.iload_n 2, 1) := by decide +kernel
theorem dX8_told_48 : decode cX8_told 48 = .ok (.tableswitch 55 0 3 #[32, 37, 42, 47], 32) := by decide +kernel
theorem dX8_told_80 : decode cX8_told 80 = .ok (.aload_n 3, 1) := by decide +kernel
theorem dX8_told_81 : decode cX8_told 81 = .ok (.getfield 169, 3) := by decide +kernel
theorem dX8_told_84 : decode cX8_told 84 = .ok (.ireturn, 1) := by decide +kernel
theorem dX8_told_85 : decode cX8_told 85 = .ok (.aload_n 3, 1) := by decide +kernel
theorem dX8_told_86 : decode cX8_told 86 = .ok (.getfield 134, 3) := by decide +kernel
theorem dX8_told_89 : decode cX8_told 89 = .ok (.ireturn, 1) := by decide +kernel
theorem dX8_told_90 : decode cX8_told 90 = .ok (.aload_n 3, 1) := by decide +kernel
theorem dX8_told_91 : decode cX8_told 91 = .ok (.getfield 172, 3) := by decide +kernel
theorem dX8_told_94 : decode cX8_told 94 = .ok (.ireturn, 1) := by decide +kernel
theorem dX8_told_95 : decode cX8_told 95 = .ok (.aload_n 3, 1) := by decide +kernel
theorem dX8_told_96 : decode cX8_told 96 = .ok (.getfield 175, 3) := by decide +kernel
theorem dX8_told_99 : decode cX8_told 99 = .ok (.invokestatic 178, 3) := by decide +kernel
theorem dX8_told_102 : decode cX8_told 102 = .ok (.ireturn, 1) := by decide +kernel
theorem dX8_told_103 : decode cX8_told 103 = .ok (.aload_n 3, 1) := by decide +kernel
theorem dX8_told_104 : decode cX8_told 104 = .ok (.getfield 183, 3) := by decide +kernel
theorem dX8_told_107 : decode cX8_told 107 = .ok (.ireturn, 1) := by decide +kernel
theorem dX8_row_0 : decode cX8_row 0 = .ok (.aload_n 0, 1) := by decide +kernel
theorem dX8_row_1 : decode cX8_row 1 = .ok (.getfield 50, 3) := by decide +kernel
theorem dX8_row_4 : decode cX8_row 4 = .ok (.iload_n 1, 1) := by decide +kernel
theorem dX8_row_5 : decode cX8_row 5 = .ok (.invokevirtual 125, 3) := by decide +kernel
theorem dX8_row_8 : decode cX8_row 8 = .ok (.ifCond .eq 23, 3) := by decide +kernel
theorem dX8_row_11 : decode cX8_row 11 = .ok (.iload_n 2, 1) := by decide +kernel
theorem dX8_row_12 : decode cX8_row 12 = .ok (.ifCond .lt 19, 3) := by decide +kernel
theorem dX8_row_15 : decode cX8_row 15 = .ok (.iload_n 2, 1) := by decide +kernel
theorem dX8_row_16 : decode cX8_row 16 = .ok (.aload_n 0, 1) := by decide +kernel
theorem dX8_row_17 : decode cX8_row 17 = .ok (.getfield 50, 3) := by decide +kernel
theorem dX8_row_20 : decode cX8_row 20 = .ok (.getfield 130, 3) := by decide +kernel
theorem dX8_row_23 : decode cX8_row 23 = .ok (.iload_n 1, 1) := by decide +kernel
theorem dX8_row_24 : decode cX8_row 24 = .ok (.aaload, 1) := by decide +kernel
theorem dX8_row_25 : decode cX8_row 25 = .ok (.getfield 169, 3) := by decide +kernel
theorem dX8_row_28 : decode cX8_row 28 = .ok (.if_icmp .lt 9, 3) := by decide +kernel
theorem dX8_row_31 : decode cX8_row 31 = .ok (.aload_n 0, 1) := by decide +kernel
theorem dX8_row_32 : decode cX8_row 32 = .ok (.iconst 2, 1) := by decide +kernel
theorem dX8_row_33 : decode cX8_row 33 = .ok (.invokevirtual 82, 3) := by decide +kernel
theorem dX8_row_36 : decode cX8_row 36 = .ok (.ireturn, 1) := by decide +kernel
theorem dX8_row_37 : decode cX8_row 37 = .ok (.iload_n 3, 1) := by decide +kernel
theorem dX8_row_38 : decode cX8_row 38 = .ok (.ifCond .lt 8, 3) := by decide +kernel
theorem dX8_row_41 : decode cX8_row 41 = .ok (.iload_n 3, 1) := by decide +kernel
theorem dX8_row_42 : decode cX8_row 42 = .ok (.iconst 1, 1) := by decide +kernel
theorem dX8_row_43 : decode cX8_row 43 = .ok (.if_icmp .le 9, 3) := by decide +kernel
theorem dX8_row_46 : decode cX8_row 46 = .ok (.aload_n 0, 1) := by decide +kernel
theorem dX8_row_47 : decode cX8_row 47 = .ok (.iconst 5, 1) := by decide +kernel
theorem dX8_row_48 : decode cX8_row 48 = .ok (.invokevirtual 82, 3) := by decide +kernel
theorem dX8_row_51 : decode cX8_row 51 = .ok (.ireturn, 1) := by decide +kernel
theorem dX8_row_52 : decode cX8_row 52 = .ok (.aload_n 0, 1) := by decide +kernel
theorem dX8_row_53 : decode cX8_row 53 = .ok (.iconst 0, 1) := by decide +kernel
theorem dX8_row_54 : decode cX8_row 54 = .ok (.putfield 9, 3) := by decide +kernel
theorem dX8_row_57 : decode cX8_row 57 = .ok (.aload_n 0, 1) := by decide +kernel
theorem dX8_row_58 : decode cX8_row 58 = .ok (.getfield 50, 3) := by decide +kernel
theorem dX8_row_61 : decode cX8_row 61 = .ok (.getfield 130, 3) := by decide +kernel
theorem dX8_row_64 : decode cX8_row 64 = .ok (.iload_n 1, 1) := by decide +kernel
theorem dX8_row_65 : decode cX8_row 65 = .ok (.aaload, 1) := by decide +kernel
theorem dX8_row_66 : decode cX8_row 66 = .ok (.astore 4, 2) := by decide +kernel
theorem dX8_row_68 : decode cX8_row 68 = .ok (.iload_n 3, 1) := by decide +kernel
theorem dX8_row_69 : decode cX8_row 69 = .ok (.ifCond .ne 13, 3) := by decide +kernel
theorem dX8_row_72 : decode cX8_row 72 = .ok (.aload 4, 2) := by decide +kernel
theorem dX8_row_74 : decode cX8_row 74 = .ok (.getfield 186, 3) := by decide +kernel
theorem dX8_row_77 : decode cX8_row 77 = .ok (.iload_n 2, 1) := by decide +kernel
theorem dX8_row_78 : decode cX8_row 78 = .ok (.iaload, 1) := by decide +kernel
theorem dX8_row_79 : decode cX8_row 79 = .ok (.goto 10, 3) := by decide +kernel
theorem dX8_row_82 : decode cX8_row 82 = .ok (.aload 4, 2) := by decide +kernel
theorem dX8_row_84 : decode cX8_row 84 = .ok (.getfield 189, 3) := by decide +kernel
theorem dX8_row_87 : decode cX8_row 87 = .ok (.iload_n 2, 1) := by decide +kernel
theorem dX8_row_88 : decode cX8_row 88 = .ok (.iaload, 1) := by decide +kernel
theorem dX8_row_89 : decode cX8_row 89 = .ok (.ireturn, 1) := by decide +kernel
theorem dX8_upper_0 : decode cX8_upper 0 = .ok (.aload_n 0, 1) := by decide +kernel
theorem dX8_upper_1 : decode cX8_upper 1 = .ok (.getfield 16, 3) := by decide +kernel
theorem dX8_upper_4 : decode cX8_upper 4 = .ok (.getfield 192, 3) := by decide +kernel
theorem dX8_upper_7 : decode cX8_upper 7 = .ok (.lreturn, 1) := by decide +kernel
theorem dX8_lower_0 : decode cX8_lower 0 = .ok (.aload_n 0, 1) := by decide +kernel
theorem dX8_lower_1 : decode cX8_lower 1 = .ok (.getfield 16, 3) := by decide +kernel
theorem dX8_lower_4 : decode cX8_lower 4 = .ok (.getfield 196, 3) := by decide +kernel
theorem dX8_lower_7 : decode cX8_lower 7 = .ok (.lreturn, 1) := by decide +kernel
theorem dX8_ways_0 : decode cX8_ways 0 = .ok (.aload_n 0, 1) := by decide +kernel
theorem dX8_ways_1 : decode cX8_ways 1 = .ok (.getfield 50, 3) := by decide +kernel
theorem dX8_ways_4 : decode cX8_ways 4 = .ok (.invokevirtual 199, 3) := by decide +kernel
theorem dX8_ways_7 : decode cX8_ways 7 = .ok (.ifCond .eq 10, 3) := by decide +kernel
theorem dX8_ways_10 : decode cX8_ways 10 = .ok (.aload_n 0, 1) := by decide +kernel
theorem dX8_ways_11 : decode cX8_ways 11 = .ok (.bipush 9, 2) := by decide +kernel
theorem dX8_ways_13 : decode cX8_ways 13 = .ok (.invokevirtual 82, 3) := by decide +kernel
theorem dX8_ways_16 : decode cX8_ways 16 = .ok (.ireturn, 1) := by decide +kernel
theorem dX8_ways_17 : decode cX8_ways 17 = .ok (.aload_n 0, 1) := by decide +kernel
theorem dX8_ways_18 : decode cX8_ways 18 = .ok (.iconst 0, 1) := by decide +kernel
theorem dX8_ways_19 : decode cX8_ways 19 = .ok (.putfield 9, 3) := by decide +kernel
theorem dX8_ways_22 : decode cX8_ways 22 = .ok (.aload_n 0, 1) := by decide +kernel
theorem dX8_ways_23 : decode cX8_ways 23 = .ok (.getfield 50, 3) := by decide +kernel
theorem dX8_ways_26 : decode cX8_ways 26 = .ok (.invokevirtual 202, 3) := by decide +kernel
theorem dX8_ways_29 : decode cX8_ways 29 = .ok (.ireturn, 1) := by decide +kernel
theorem dX8_ends_0 : decode cX8_ends 0 = .ok (.iload_n 1, 1) := by decide +kernel
theorem dX8_ends_1 : decode cX8_ends 1 = .ok (.ifCond .ge 7, 3) := by decide +kernel
theorem dX8_ends_4 : decode cX8_ends 4 = .ok (.iconst 5, 1) := by decide +kernel
theorem dX8_ends_5 : decode cX8_ends 5 = .ok (.goto 7, 3) := by decide +kernel
theorem dX8_ends_8 : decode cX8_ends 8 = .ok (.aload_n 0, 1) := by decide +kernel
theorem dX8_ends_9 : decode cX8_ends 9 = .ok (.invokevirtual 206, 3) := by decide +kernel
theorem dX8_ends_12 : decode cX8_ends 12 = .ok (.istore_n 2, 1) := by decide +kernel
theorem dX8_ends_13 : decode cX8_ends 13 = .ok (.iload_n 2, 1) := by decide +kernel
theorem dX8_ends_14 : decode cX8_ends 14 = .ok (.ifCond .eq 9, 3) := by decide +kernel
theorem dX8_ends_17 : decode cX8_ends 17 = .ok (.aload_n 0, 1) := by decide +kernel
theorem dX8_ends_18 : decode cX8_ends 18 = .ok (.iload_n 2, 1) := by decide +kernel
theorem dX8_ends_19 : decode cX8_ends 19 = .ok (.invokevirtual 63, 3) := by decide +kernel
theorem dX8_ends_22 : decode cX8_ends 22 = .ok (.ireturn, 1) := by decide +kernel
theorem dX8_ends_23 : decode cX8_ends 23 = .ok (.aload_n 0, 1) := by decide +kernel
theorem dX8_ends_24 : decode cX8_ends 24 = .ok (.aload_n 0, 1) := by decide +kernel
theorem dX8_ends_25 : decode cX8_ends 25 = .ok (.getfield 42, 3) := by decide +kernel
theorem dX8_ends_28 : decode cX8_ends 28 = .ok (.iload_n 1, 1) := by decide +kernel
theorem dX8_ends_29 : decode cX8_ends 29 = .ok (.invokevirtual 209, 3) := by decide +kernel
theorem dX8_ends_32 : decode cX8_ends 32 = .ok (.aload_n 0, 1) := by decide +kernel
theorem dX8_ends_33 : decode cX8_ends 33 = .ok (.getfield 42, 3) := by decide +kernel
theorem dX8_ends_36 : decode cX8_ends 36 = .ok (.getfield 212, 3) := by decide +kernel
theorem dX8_ends_39 : decode cX8_ends 39 = .ok (.invokevirtual 215, 3) := by decide +kernel
theorem dX8_ends_42 : decode cX8_ends 42 = .ok (.ireturn, 1) := by decide +kernel
theorem dX8_done_0 : decode cX8_done 0 = .ok (.aload_n 0, 1) := by decide +kernel
theorem dX8_done_1 : decode cX8_done 1 = .ok (.getfield 50, 3) := by decide +kernel
theorem dX8_done_4 : decode cX8_done 4 = .ok (.iload_n 1, 1) := by decide +kernel
theorem dX8_done_5 : decode cX8_done 5 = .ok (.invokevirtual 125, 3) := by decide +kernel
theorem dX8_done_8 : decode cX8_done 8 = .ok (.ifCond .ne 9, 3) := by decide +kernel
theorem dX8_done_11 : decode cX8_done 11 = .ok (.aload_n 0, 1) := by decide +kernel
theorem dX8_done_12 : decode cX8_done 12 = .ok (.iconst 2, 1) := by decide +kernel
theorem dX8_done_13 : decode cX8_done 13 = .ok (.invokevirtual 63, 3) := by decide +kernel
theorem dX8_done_16 : decode cX8_done 16 = .ok (.ireturn, 1) := by decide +kernel
theorem dX8_done_17 : decode cX8_done 17 = .ok (.iload_n 2, 1) := by decide +kernel
theorem dX8_done_18 : decode cX8_done 18 = .ok (.ifCond .ge 7, 3) := by decide +kernel
theorem dX8_done_21 : decode cX8_done 21 = .ok (.iconst 5, 1) := by decide +kernel
theorem dX8_done_22 : decode cX8_done 22 = .ok (.goto 7, 3) := by decide +kernel
theorem dX8_done_25 : decode cX8_done 25 = .ok (.aload_n 0, 1) := by decide +kernel
theorem dX8_done_26 : decode cX8_done 26 = .ok (.invokevirtual 206, 3) := by decide +kernel
theorem dX8_done_29 : decode cX8_done 29 = .ok (.istore_n 3, 1) := by decide +kernel
theorem dX8_done_30 : decode cX8_done 30 = .ok (.iload_n 3, 1) := by decide +kernel
theorem dX8_done_31 : decode cX8_done 31 = .ok (.ifCond .eq 9, 3) := by decide +kernel
theorem dX8_done_34 : decode cX8_done 34 = .ok (.aload_n 0, 1) := by decide +kernel
theorem dX8_done_35 : decode cX8_done 35 = .ok (.iload_n 3, 1) := by decide +kernel
theorem dX8_done_36 : decode cX8_done 36 = .ok (.invokevirtual 63, 3) := by decide +kernel
theorem dX8_done_39 : decode cX8_done 39 = .ok (.ireturn, 1) := by decide +kernel
theorem dX8_done_40 : decode cX8_done 40 = .ok (.aload_n 0, 1) := by decide +kernel
theorem dX8_done_41 : decode cX8_done 41 = .ok (.aload_n 0, 1) := by decide +kernel
theorem dX8_done_42 : decode cX8_done 42 = .ok (.getfield 42, 3) := by decide +kernel
theorem dX8_done_45 : decode cX8_done 45 = .ok (.iload_n 1, 1) := by decide +kernel
theorem dX8_done_46 : decode cX8_done 46 = .ok (.iload_n 2, 1) := by decide +kernel
theorem dX8_done_47 : decode cX8_done 47 = .ok (.invokevirtual 219, 3) := by decide +kernel
theorem dX8_done_50 : decode cX8_done 50 = .ok (.aload_n 0, 1) := by decide +kernel
theorem dX8_done_51 : decode cX8_done 51 = .ok (.getfield 42, 3) := by decide +kernel
theorem dX8_done_54 : decode cX8_done 54 = .ok (.getfield 212, 3) := by decide +kernel
theorem dX8_done_57 : decode cX8_done 57 = .ok (.invokevirtual 215, 3) := by decide +kernel
theorem dX8_done_60 : decode cX8_done 60 = .ok (.ireturn, 1) := by decide +kernel
theorem dX8_promise_0 : decode cX8_promise 0 = .ok (.iload_n 1, 1) := by decide +kernel
theorem dX8_promise_1 : decode cX8_promise 1 = .ok (.ifCond .lt 23, 3) := by decide +kernel
theorem dX8_promise_4 : decode cX8_promise 4 = .ok (.iload_n 1, 1) := by decide +kernel
theorem dX8_promise_5 : decode cX8_promise 5 = .ok (.iload_n 2, 1) := by decide +kernel
theorem dX8_promise_6 : decode cX8_promise 6 = .ok (.if_icmp .gt 18, 3) := by decide +kernel
theorem dX8_promise_9 : decode cX8_promise 9 = .ok (.iload_n 2, 1) := by decide +kernel
theorem dX8_promise_10 : decode cX8_promise 10 = .ok (.iconst 1, 1) := by decide +kernel
theorem dX8_promise_11 : decode cX8_promise 11 = .ok (.if_icmp .lt 13, 3) := by decide +kernel
theorem dX8_promise_14 : decode cX8_promise 14 = .ok (.iload_n 2, 1) := by decide +kernel
theorem dX8_promise_15 : decode cX8_promise 15 = .ok (.ldc 223, 2) := by decide +kernel
theorem dX8_promise_17 : decode cX8_promise 17 = .ok (.if_icmp .gt 7, 3) := by decide +kernel
theorem dX8_promise_20 : decode cX8_promise 20 = .ok (.iconst 1, 1) := by decide +kernel
theorem dX8_promise_21 : decode cX8_promise 21 = .ok (.goto 4, 3) := by decide +kernel
theorem dX8_promise_24 : decode cX8_promise 24 = .ok (.iconst 0, 1) := by decide +kernel
theorem dX8_promise_25 : decode cX8_promise 25 = .ok (.istore_n 3, 1) := by decide +kernel
theorem dX8_promise_26 : decode cX8_promise 26 = .ok (.iload_n 3, 1) := by decide +kernel
theorem dX8_promise_27 : decode cX8_promise 27 = .ok (.ifCond .eq 10, 3) := by decide +kernel
theorem dX8_promise_30 : decode cX8_promise 30 = .ok (.aload_n 0, 1) := by decide +kernel
theorem dX8_promise_31 : decode cX8_promise 31 = .ok (.invokevirtual 206, 3) := by decide +kernel
theorem dX8_promise_34 : decode cX8_promise 34 = .ok (.goto 4, 3) := by decide +kernel
theorem dX8_promise_37 : decode cX8_promise 37 = .ok (.iconst 5, 1) := by decide +kernel
theorem dX8_promise_38 : decode cX8_promise 38 = .ok (.istore 4, 2) := by decide +kernel
theorem dX8_promise_40 : decode cX8_promise 40 = .ok (.iload 4, 2) := by decide +kernel
theorem dX8_promise_42 : decode cX8_promise 42 = .ok (.ifCond .eq 10, 3) := by decide +kernel
theorem dX8_promise_45 : decode cX8_promise 45 = .ok (.aload_n 0, 1) := by decide +kernel
theorem dX8_promise_46 : decode cX8_promise 46 = .ok (.iload 4, 2) := by decide +kernel
theorem dX8_promise_48 : decode cX8_promise 48 = .ok (.invokevirtual 82, 3) := by decide +kernel
theorem dX8_promise_51 : decode cX8_promise 51 = .ok (.ireturn, 1) := by decide +kernel
theorem dX8_promise_52 : decode cX8_promise 52 = .ok (.aload_n 0, 1) := by decide +kernel
theorem dX8_promise_53 : decode cX8_promise 53 = .ok (.iconst 0, 1) := by decide +kernel
theorem dX8_promise_54 : decode cX8_promise 54 = .ok (.putfield 9, 3) := by decide +kernel
theorem dX8_promise_57 : decode cX8_promise 57 = .ok (.aload_n 0, 1) := by decide +kernel
theorem dX8_promise_58 : decode cX8_promise 58 = .ok (.getfield 42, 3) := by decide +kernel
theorem dX8_promise_61 : decode cX8_promise 61 = .ok (.iload_n 1, 1) := by decide +kernel
theorem dX8_promise_62 : decode cX8_promise 62 = .ok (.iload_n 2, 1) := by decide +kernel
theorem dX8_promise_63 : decode cX8_promise 63 = .ok (.invokevirtual 224, 3) := by decide +kernel
theorem dX8_promise_66 : decode cX8_promise 66 = .ok (.ireturn, 1) := by decide +kernel
theorem dX8_mean_0 : decode cX8_mean 0 = .ok (.aload_n 0, 1) := by decide +kernel
theorem dX8_mean_1 : decode cX8_mean 1 = .ok (.invokevirtual 206, 3) := by decide +kernel
theorem dX8_mean_4 : decode cX8_mean 4 = .ok (.istore_n 1, 1) := by decide +kernel
theorem dX8_mean_5 : decode cX8_mean 5 = .ok (.iload_n 1, 1) := by decide +kernel
theorem dX8_mean_6 : decode cX8_mean 6 = .ok (.ifCond .eq 9, 3) := by decide +kernel
theorem dX8_mean_9 : decode cX8_mean 9 = .ok (.aload_n 0, 1) := by decide +kernel
theorem dX8_mean_10 : decode cX8_mean 10 = .ok (.iload_n 1, 1) := by decide +kernel
theorem dX8_mean_11 : decode cX8_mean 11 = .ok (.invokevirtual 63, 3) := by decide +kernel
theorem dX8_mean_14 : decode cX8_mean 14 = .ok (.ireturn, 1) := by decide +kernel
theorem dX8_mean_15 : decode cX8_mean 15 = .ok (.aload_n 0, 1) := by decide +kernel
theorem dX8_mean_16 : decode cX8_mean 16 = .ok (.aload_n 0, 1) := by decide +kernel
theorem dX8_mean_17 : decode cX8_mean 17 = .ok (.getfield 42, 3) := by decide +kernel
theorem dX8_mean_20 : decode cX8_mean 20 = .ok (.invokevirtual 227, 3) := by decide +kernel
theorem dX8_mean_23 : decode cX8_mean 23 = .ok (.aload_n 0, 1) := by decide +kernel
theorem dX8_mean_24 : decode cX8_mean 24 = .ok (.getfield 42, 3) := by decide +kernel
theorem dX8_mean_27 : decode cX8_mean 27 = .ok (.getfield 212, 3) := by decide +kernel
theorem dX8_mean_30 : decode cX8_mean 30 = .ok (.invokevirtual 215, 3) := by decide +kernel
theorem dX8_mean_33 : decode cX8_mean 33 = .ok (.ireturn, 1) := by decide +kernel
theorem dX8_spread_0 : decode cX8_spread 0 = .ok (.aload_n 0, 1) := by decide +kernel
theorem dX8_spread_1 : decode cX8_spread 1 = .ok (.invokevirtual 206, 3) := by decide +kernel
theorem dX8_spread_4 : decode cX8_spread 4 = .ok (.istore_n 1, 1) := by decide +kernel
theorem dX8_spread_5 : decode cX8_spread 5 = .ok (.iload_n 1, 1) := by decide +kernel
theorem dX8_spread_6 : decode cX8_spread 6 = .ok (.ifCond .eq 9, 3) := by decide +kernel
theorem dX8_spread_9 : decode cX8_spread 9 = .ok (.aload_n 0, 1) := by decide +kernel
theorem dX8_spread_10 : decode cX8_spread 10 = .ok (.iload_n 1, 1) := by decide +kernel
theorem dX8_spread_11 : decode cX8_spread 11 = .ok (.invokevirtual 63, 3) := by decide +kernel
theorem dX8_spread_14 : decode cX8_spread 14 = .ok (.ireturn, 1) := by decide +kernel
theorem dX8_spread_15 : decode cX8_spread 15 = .ok (.aload_n 0, 1) := by decide +kernel
theorem dX8_spread_16 : decode cX8_spread 16 = .ok (.getfield 42, 3) := by decide +kernel
theorem dX8_spread_19 : decode cX8_spread 19 = .ok (.invokevirtual 231, 3) := by decide +kernel
theorem dX8_spread_22 : decode cX8_spread 22 = .ok (.aload_n 0, 1) := by decide +kernel
theorem dX8_spread_23 : decode cX8_spread 23 = .ok (.aload_n 0, 1) := by decide +kernel
theorem dX8_spread_24 : decode cX8_spread 24 = .ok (.getfield 42, 3) := by decide +kernel
theorem dX8_spread_27 : decode cX8_spread 27 = .ok (.invokevirtual 234, 3) := by decide +kernel
theorem dX8_spread_30 : decode cX8_spread 30 = .ok (.aload_n 0, 1) := by decide +kernel
theorem dX8_spread_31 : decode cX8_spread 31 = .ok (.getfield 42, 3) := by decide +kernel
theorem dX8_spread_34 : decode cX8_spread 34 = .ok (.getfield 212, 3) := by decide +kernel
theorem dX8_spread_37 : decode cX8_spread 37 = .ok (.aload_n 0, 1) := by decide +kernel
theorem dX8_spread_38 : decode cX8_spread 38 = .ok (.getfield 42, 3) := by decide +kernel
theorem dX8_spread_41 : decode cX8_spread 41 = .ok (.getfield 212, 3) := by decide +kernel
theorem dX8_spread_44 : decode cX8_spread 44 = .ok (.lmul, 1) := by decide +kernel
theorem dX8_spread_45 : decode cX8_spread 45 = .ok (.invokevirtual 215, 3) := by decide +kernel
theorem dX8_spread_48 : decode cX8_spread 48 = .ok (.ireturn, 1) := by decide +kernel
theorem dX8_sure_0 : decode cX8_sure 0 = .ok (.aload_n 0, 1) := by decide +kernel
theorem dX8_sure_1 : decode cX8_sure 1 = .ok (.getfield 50, 3) := by decide +kernel
theorem dX8_sure_4 : decode cX8_sure 4 = .ok (.iload_n 1, 1) := by decide +kernel
theorem dX8_sure_5 : decode cX8_sure 5 = .ok (.invokevirtual 125, 3) := by decide +kernel
theorem dX8_sure_8 : decode cX8_sure 8 = .ok (.ifCond .eq 10, 3) := by decide +kernel
theorem dX8_sure_11 : decode cX8_sure 11 = .ok (.aload_n 0, 1) := by decide +kernel
theorem dX8_sure_12 : decode cX8_sure 12 = .ok (.invokevirtual 206, 3) := by decide +kernel
theorem dX8_sure_15 : decode cX8_sure 15 = .ok (.goto 4, 3) := by decide +kernel
theorem dX8_sure_18 : decode cX8_sure 18 = .ok (.iconst 2, 1) := by decide +kernel
theorem dX8_sure_19 : decode cX8_sure 19 = .ok (.istore_n 2, 1) := by decide +kernel
theorem dX8_sure_20 : decode cX8_sure 20 = .ok (.iload_n 2, 1) := by decide +kernel
theorem dX8_sure_21 : decode cX8_sure 21 = .ok (.ifCond .eq 9, 3) := by decide +kernel
theorem dX8_sure_24 : decode cX8_sure 24 = .ok (.aload_n 0, 1) := by decide +kernel
theorem dX8_sure_25 : decode cX8_sure 25 = .ok (.iload_n 2, 1) := by decide +kernel
theorem dX8_sure_26 : decode cX8_sure 26 = .ok (.invokevirtual 63, 3) := by decide +kernel
theorem dX8_sure_29 : decode cX8_sure 29 = .ok (.ireturn, 1) := by decide +kernel
theorem dX8_sure_30 : decode cX8_sure 30 = .ok (.aload_n 0, 1) := by decide +kernel
theorem dX8_sure_31 : decode cX8_sure 31 = .ok (.getfield 42, 3) := by decide +kernel
theorem dX8_sure_34 : decode cX8_sure 34 = .ok (.iload_n 1, 1) := by decide +kernel
theorem dX8_sure_35 : decode cX8_sure 35 = .ok (.aload_n 0, 1) := by decide +kernel
theorem dX8_sure_36 : decode cX8_sure 36 = .ok (.getfield 20, 3) := by decide +kernel
theorem dX8_sure_39 : decode cX8_sure 39 = .ok (.invokevirtual 237, 3) := by decide +kernel
theorem dX8_sure_42 : decode cX8_sure 42 = .ok (.ifCond .ne 10, 3) := by decide +kernel
theorem dX8_sure_45 : decode cX8_sure 45 = .ok (.aload_n 0, 1) := by decide +kernel
theorem dX8_sure_46 : decode cX8_sure 46 = .ok (.bipush 9, 2) := by decide +kernel
theorem dX8_sure_48 : decode cX8_sure 48 = .ok (.invokevirtual 63, 3) := by decide +kernel
theorem dX8_sure_51 : decode cX8_sure 51 = .ok (.ireturn, 1) := by decide +kernel
theorem dX8_sure_52 : decode cX8_sure 52 = .ok (.aload_n 0, 1) := by decide +kernel
theorem dX8_sure_53 : decode cX8_sure 53 = .ok (.aload_n 0, 1) := by decide +kernel
theorem dX8_sure_54 : decode cX8_sure 54 = .ok (.getfield 20, 3) := by decide +kernel
theorem dX8_sure_57 : decode cX8_sure 57 = .ok (.getfield 192, 3) := by decide +kernel
theorem dX8_sure_60 : decode cX8_sure 60 = .ok (.aload_n 0, 1) := by decide +kernel
theorem dX8_sure_61 : decode cX8_sure 61 = .ok (.getfield 20, 3) := by decide +kernel
theorem dX8_sure_64 : decode cX8_sure 64 = .ok (.getfield 196, 3) := by decide +kernel
theorem dX8_sure_67 : decode cX8_sure 67 = .ok (.aload_n 0, 1) := by decide +kernel
theorem dX8_sure_68 : decode cX8_sure 68 = .ok (.getfield 42, 3) := by decide +kernel
theorem dX8_sure_71 : decode cX8_sure 71 = .ok (.getfield 212, 3) := by decide +kernel
theorem dX8_sure_74 : decode cX8_sure 74 = .ok (.lmul, 1) := by decide +kernel
theorem dX8_sure_75 : decode cX8_sure 75 = .ok (.invokevirtual 215, 3) := by decide +kernel
theorem dX8_sure_78 : decode cX8_sure 78 = .ok (.ireturn, 1) := by decide +kernel
theorem dX8_surest_0 : decode cX8_surest 0 = .ok (.aload_n 0, 1) := by decide +kernel
theorem dX8_surest_1 : decode cX8_surest 1 = .ok (.getfield 50, 3) := by decide +kernel
theorem dX8_surest_4 : decode cX8_surest 4 = .ok (.getfield 241, 3) := by decide +kernel
theorem dX8_surest_7 : decode cX8_surest 7 = .ok (.ifCond .le 10, 3) := by decide +kernel
theorem dX8_surest_10 : decode cX8_surest 10 = .ok (.aload_n 0, 1) := by decide +kernel
theorem dX8_surest_11 : decode cX8_surest 11 = .ok (.invokevirtual 206, 3) := by decide +kernel
theorem dX8_surest_14 : decode cX8_surest 14 = .ok (.goto 4, 3) := by decide +kernel
theorem dX8_surest_17 : decode cX8_surest 17 = .ok (.iconst 2, 1) := by decide +kernel
theorem dX8_surest_18 : decode cX8_surest 18 = .ok (.istore_n 1, 1) := by decide +kernel
theorem dX8_surest_19 : decode cX8_surest 19 = .ok (.iload_n 1, 1) := by decide +kernel
theorem dX8_surest_20 : decode cX8_surest 20 = .ok (.ifCond .eq 9, 3) := by decide +kernel
theorem dX8_surest_23 : decode cX8_surest 23 = .ok (.aload_n 0, 1) := by decide +kernel
theorem dX8_surest_24 : decode cX8_surest 24 = .ok (.iload_n 1, 1) := by decide +kernel
theorem dX8_surest_25 : decode cX8_surest 25 = .ok (.invokevirtual 82, 3) := by decide +kernel
theorem dX8_surest_28 : decode cX8_surest 28 = .ok (.ireturn, 1) := by decide +kernel
theorem dX8_surest_29 : decode cX8_surest 29 = .ok (.iconst (-1), 1) := by decide +kernel
theorem dX8_surest_30 : decode cX8_surest 30 = .ok (.istore_n 2, 1) := by decide +kernel
theorem dX8_surest_31 : decode cX8_surest 31 = .ok (.iconst 0, 1) := by decide +kernel
theorem dX8_surest_32 : decode cX8_surest 32 = .ok (.istore_n 3, 1) := by decide +kernel
theorem dX8_surest_33 : decode cX8_surest 33 = .ok (.iload_n 3, 1) := by decide +kernel
theorem dX8_surest_34 : decode cX8_surest 34 = .ok (.aload_n 0, 1) := by decide +kernel
theorem dX8_surest_35 : decode cX8_surest 35 = .ok (.getfield 50, 3) := by decide +kernel
theorem dX8_surest_38 : decode cX8_surest 38 = .ok (.getfield 241, 3) := by decide +kernel
theorem dX8_surest_41 : decode cX8_surest 41 = .ok (.if_icmp .ge 73, 3) := by decide +kernel
theorem dX8_surest_44 : decode cX8_surest 44 = .ok (.aload_n 0, 1) := by decide +kernel
theorem dX8_surest_45 : decode cX8_surest 45 = .ok (.getfield 42, 3) := by decide +kernel
theorem dX8_surest_48 : decode cX8_surest 48 = .ok (.iload_n 3, 1) := by decide +kernel
theorem dX8_surest_49 : decode cX8_surest 49 = .ok (.aload_n 0, 1) := by decide +kernel
theorem dX8_surest_50 : decode cX8_surest 50 = .ok (.getfield 20, 3) := by decide +kernel
theorem dX8_surest_53 : decode cX8_surest 53 = .ok (.invokevirtual 237, 3) := by decide +kernel
theorem dX8_surest_56 : decode cX8_surest 56 = .ok (.ifCond .ne 10, 3) := by decide +kernel
theorem dX8_surest_59 : decode cX8_surest 59 = .ok (.aload_n 0, 1) := by decide +kernel
theorem dX8_surest_60 : decode cX8_surest 60 = .ok (.bipush 9, 2) := by decide +kernel
theorem dX8_surest_62 : decode cX8_surest 62 = .ok (.invokevirtual 82, 3) := by decide +kernel
theorem dX8_surest_65 : decode cX8_surest 65 = .ok (.ireturn, 1) := by decide +kernel
theorem dX8_surest_66 : decode cX8_surest 66 = .ok (.iload_n 2, 1) := by decide +kernel
theorem dX8_surest_67 : decode cX8_surest 67 = .ok (.iconst (-1), 1) := by decide +kernel
theorem dX8_surest_68 : decode cX8_surest 68 = .ok (.if_icmp .eq 17, 3) := by decide +kernel
theorem dX8_surest_71 : decode cX8_surest 71 = .ok (.aload_n 0, 1) := by decide +kernel
theorem dX8_surest_72 : decode cX8_surest 72 = .ok (.getfield 20, 3) := by decide +kernel
theorem dX8_surest_75 : decode cX8_surest 75 = .ok (.aload_n 0, 1) := by decide +kernel
theorem dX8_surest_76 : decode cX8_surest 76 = .ok (.getfield 23, 3) := by decide +kernel
theorem dX8_surest_79 : decode cX8_surest 79 = .ok (.invokevirtual 244, 3) := by decide +kernel
theorem dX8_surest_82 : decode cX8_surest 82 = .ok (.ifCond .eq 26, 3) := by decide +kernel
theorem dX8_surest_85 : decode cX8_surest 85 = .ok (.iload_n 3, 1) := by decide +kernel
theorem dX8_surest_86 : decode cX8_surest 86 = .ok (.istore_n 2, 1) := by decide +kernel
theorem dX8_surest_87 : decode cX8_surest 87 = .ok (.aload_n 0, 1) := by decide +kernel
theorem dX8_surest_88 : decode cX8_surest 88 = .ok (.getfield 23, 3) := by decide +kernel
theorem dX8_surest_91 : decode cX8_surest 91 = .ok (.aload_n 0, 1) := by decide +kernel
theorem dX8_surest_92 : decode cX8_surest 92 = .ok (.getfield 20, 3) := by decide +kernel
theorem dX8_surest_95 : decode cX8_surest 95 = .ok (.getfield 192, 3) := by decide +kernel
theorem dX8_surest_98 : decode cX8_surest 98 = .ok (.aload_n 0, 1) := by decide +kernel
theorem dX8_surest_99 : decode cX8_surest 99 = .ok (.getfield 20, 3) := by decide +kernel
theorem dX8_surest_102 : decode cX8_surest 102 = .ok (.getfield 196, 3) := by decide +kernel
theorem dX8_surest_105 : decode cX8_surest 105 = .ok (.invokevirtual 248, 3) := by decide +kernel
theorem dX8_surest_108 : decode cX8_surest 108 = .ok (.iinc 3 1, 3) := by decide +kernel
theorem dX8_surest_111 : decode cX8_surest 111 = .ok (.goto (-78), 3) := by decide +kernel
theorem dX8_surest_114 : decode cX8_surest 114 = .ok (.aload_n 0, 1) := by decide +kernel
theorem dX8_surest_115 : decode cX8_surest 115 = .ok (.iconst 0, 1) := by decide +kernel
theorem dX8_surest_116 : decode cX8_surest 116 = .ok (.putfield 9, 3) := by decide +kernel
theorem dX8_surest_119 : decode cX8_surest 119 = .ok (.iload_n 2, 1) := by decide +kernel
theorem dX8_surest_120 : decode cX8_surest 120 = .ok (.ireturn, 1) := by decide +kernel
theorem dX8_moves_0 : decode cX8_moves 0 = .ok (.aload_n 0, 1) := by decide +kernel
theorem dX8_moves_1 : decode cX8_moves 1 = .ok (.getfield 50, 3) := by decide +kernel
theorem dX8_moves_4 : decode cX8_moves 4 = .ok (.iload_n 1, 1) := by decide +kernel
theorem dX8_moves_5 : decode cX8_moves 5 = .ok (.invokevirtual 125, 3) := by decide +kernel
theorem dX8_moves_8 : decode cX8_moves 8 = .ok (.ifCond .eq 10, 3) := by decide +kernel
theorem dX8_moves_11 : decode cX8_moves 11 = .ok (.aload_n 0, 1) := by decide +kernel
theorem dX8_moves_12 : decode cX8_moves 12 = .ok (.invokevirtual 206, 3) := by decide +kernel
theorem dX8_moves_15 : decode cX8_moves 15 = .ok (.goto 4, 3) := by decide +kernel
theorem dX8_moves_18 : decode cX8_moves 18 = .ok (.iconst 2, 1) := by decide +kernel
theorem dX8_moves_19 : decode cX8_moves 19 = .ok (.istore_n 2, 1) := by decide +kernel
theorem dX8_moves_20 : decode cX8_moves 20 = .ok (.iload_n 2, 1) := by decide +kernel
theorem dX8_moves_21 : decode cX8_moves 21 = .ok (.ifCond .eq 9, 3) := by decide +kernel
theorem dX8_moves_24 : decode cX8_moves 24 = .ok (.aload_n 0, 1) := by decide +kernel
theorem dX8_moves_25 : decode cX8_moves 25 = .ok (.iload_n 2, 1) := by decide +kernel
theorem dX8_moves_26 : decode cX8_moves 26 = .ok (.invokevirtual 63, 3) := by decide +kernel
theorem dX8_moves_29 : decode cX8_moves 29 = .ok (.ireturn, 1) := by decide +kernel
theorem dX8_moves_30 : decode cX8_moves 30 = .ok (.aload_n 0, 1) := by decide +kernel
theorem dX8_moves_31 : decode cX8_moves 31 = .ok (.aload_n 0, 1) := by decide +kernel
theorem dX8_moves_32 : decode cX8_moves 32 = .ok (.getfield 42, 3) := by decide +kernel
theorem dX8_moves_35 : decode cX8_moves 35 = .ok (.iload_n 1, 1) := by decide +kernel
theorem dX8_moves_36 : decode cX8_moves 36 = .ok (.invokevirtual 252, 3) := by decide +kernel
theorem dX8_moves_39 : decode cX8_moves 39 = .ok (.aload_n 0, 1) := by decide +kernel
theorem dX8_moves_40 : decode cX8_moves 40 = .ok (.getfield 42, 3) := by decide +kernel
theorem dX8_moves_43 : decode cX8_moves 43 = .ok (.getfield 212, 3) := by decide +kernel
theorem dX8_moves_46 : decode cX8_moves 46 = .ok (.invokevirtual 215, 3) := by decide +kernel
theorem dX8_moves_49 : decode cX8_moves 49 = .ok (.ireturn, 1) := by decide +kernel
theorem dX8_end_0 : decode cX8_end 0 = .ok (.aload_n 0, 1) := by decide +kernel
theorem dX8_end_1 : decode cX8_end 1 = .ok (.getfield 50, 3) := by decide +kernel
theorem dX8_end_4 : decode cX8_end 4 = .ok (.iload_n 1, 1) := by decide +kernel
theorem dX8_end_5 : decode cX8_end 5 = .ok (.invokevirtual 125, 3) := by decide +kernel
theorem dX8_end_8 : decode cX8_end 8 = .ok (.ifCond .ne 9, 3) := by decide +kernel
theorem dX8_end_11 : decode cX8_end 11 = .ok (.aload_n 0, 1) := by decide +kernel
theorem dX8_end_12 : decode cX8_end 12 = .ok (.iconst 2, 1) := by decide +kernel
theorem dX8_end_13 : decode cX8_end 13 = .ok (.invokevirtual 63, 3) := by decide +kernel
theorem dX8_end_16 : decode cX8_end 16 = .ok (.ireturn, 1) := by decide +kernel
theorem dX8_end_17 : decode cX8_end 17 = .ok (.iload_n 2, 1) := by decide +kernel
theorem dX8_end_18 : decode cX8_end 18 = .ok (.invokestatic 255, 3) := by decide +kernel
theorem dX8_end_21 : decode cX8_end 21 = .ok (.ifCond .ne 9, 3) := by decide +kernel
theorem dX8_end_24 : decode cX8_end 24 = .ok (.aload_n 0, 1) := by decide +kernel
theorem dX8_end_25 : decode cX8_end 25 = .ok (.iconst 5, 1) := by decide +kernel
theorem dX8_end_26 : decode cX8_end 26 = .ok (.invokevirtual 63, 3) := by decide +kernel
theorem dX8_end_29 : decode cX8_end 29 = .ok (.ireturn, 1) := by decide +kernel
theorem dX8_end_30 : decode cX8_end 30 = .ok (.aload_n 0, 1) := by decide +kernel
theorem dX8_end_31 : decode cX8_end 31 = .ok (.getfield 50, 3) := by decide +kernel
theorem dX8_end_34 : decode cX8_end 34 = .ok (.getfield 130, 3) := by decide +kernel
theorem dX8_end_37 : decode cX8_end 37 = .ok (.iload_n 1, 1) := by decide +kernel
theorem dX8_end_38 : decode cX8_end 38 = .ok (.aaload, 1) := by decide +kernel
theorem dX8_end_39 : decode cX8_end 39 = .ok (.iload_n 2, 1) := by decide +kernel
theorem dX8_end_40 : decode cX8_end 40 = .ok (.putfield 183, 3) := by decide +kernel
theorem dX8_end_43 : decode cX8_end 43 = .ok (.aload_n 0, 1) := by decide +kernel
theorem dX8_end_44 : decode cX8_end 44 = .ok (.invokevirtual 150, 3) := by decide +kernel
theorem dX8_end_47 : decode cX8_end 47 = .ok (.ireturn, 1) := by decide +kernel
theorem dX8_today_0 : decode cX8_today 0 = .ok (.iload_n 1, 1) := by decide +kernel
theorem dX8_today_1 : decode cX8_today 1 = .ok (.invokestatic 255, 3) := by decide +kernel
theorem dX8_today_4 : decode cX8_today 4 = .ok (.ifCond .ne 9, 3) := by decide +kernel
theorem dX8_today_7 : decode cX8_today 7 = .ok (.aload_n 0, 1) := by decide +kernel
theorem dX8_today_8 : decode cX8_today 8 = .ok (.iconst 5, 1) := by decide +kernel
theorem dX8_today_9 : decode cX8_today 9 = .ok (.invokevirtual 63, 3) := by decide +kernel
theorem dX8_today_12 : decode cX8_today 12 = .ok (.ireturn, 1) := by decide +kernel
theorem dX8_today_13 : decode cX8_today 13 = .ok (.aload_n 0, 1) := by decide +kernel
theorem dX8_today_14 : decode cX8_today 14 = .ok (.getfield 50, 3) := by decide +kernel
theorem dX8_today_17 : decode cX8_today 17 = .ok (.iload_n 1, 1) := by decide +kernel
theorem dX8_today_18 : decode cX8_today 18 = .ok (.putfield 258, 3) := by decide +kernel
theorem dX8_today_21 : decode cX8_today 21 = .ok (.aload_n 0, 1) := by decide +kernel
theorem dX8_today_22 : decode cX8_today 22 = .ok (.invokevirtual 150, 3) := by decide +kernel
theorem dX8_today_25 : decode cX8_today 25 = .ok (.ireturn, 1) := by decide +kernel
theorem dX8_telling_0 : decode cX8_telling 0 = .ok (.iload_n 1, 1) := by decide +kernel
theorem dX8_telling_1 : decode cX8_telling 1 = .ok (.ifCond .lt 20, 3) := by decide +kernel
theorem dX8_telling_4 : decode cX8_telling 4 = .ok (.iload_n 1, 1) := by decide +kernel
theorem dX8_telling_5 : decode cX8_telling 5 = .ok (.iload_n 2, 1) := by decide +kernel
theorem dX8_telling_6 : decode cX8_telling 6 = .ok (.if_icmp .gt 15, 3) := by decide +kernel
theorem dX8_telling_9 : decode cX8_telling 9 = .ok (.iload_n 2, 1) := by decide +kernel
theorem dX8_telling_10 : decode cX8_telling 10 = .ok (.iconst 1, 1) := by decide +kernel
theorem dX8_telling_11 : decode cX8_telling 11 = .ok (.if_icmp .lt 10, 3) := by decide +kernel
theorem dX8_telling_14 : decode cX8_telling 14 = .ok (.iload_n 2, 1) := by decide +kernel
theorem dX8_telling_15 : decode cX8_telling 15 = .ok (.sipush 1000, 3) := by decide +kernel
theorem dX8_telling_18 : decode cX8_telling 18 = .ok (.if_icmp .le 9, 3) := by decide +kernel
theorem dX8_telling_21 : decode cX8_telling 21 = .ok (.aload_n 0, 1) := by decide +kernel
theorem dX8_telling_22 : decode cX8_telling 22 = .ok (.iconst 5, 1) := by decide +kernel
theorem dX8_telling_23 : decode cX8_telling 23 = .ok (.invokevirtual 63, 3) := by decide +kernel
theorem dX8_telling_26 : decode cX8_telling 26 = .ok (.ireturn, 1) := by decide +kernel
theorem dX8_telling_27 : decode cX8_telling 27 = .ok (.aload_n 0, 1) := by decide +kernel
theorem dX8_telling_28 : decode cX8_telling 28 = .ok (.getfield 54, 3) := by decide +kernel
theorem dX8_telling_31 : decode cX8_telling 31 = .ok (.getfield 261, 3) := by decide +kernel
theorem dX8_telling_34 : decode cX8_telling 34 = .ok (.sipush 1000, 3) := by decide +kernel
theorem dX8_telling_37 : decode cX8_telling 37 = .ok (.if_icmp .lt 10, 3) := by decide +kernel
theorem dX8_telling_40 : decode cX8_telling 40 = .ok (.aload_n 0, 1) := by decide +kernel
theorem dX8_telling_41 : decode cX8_telling 41 = .ok (.bipush 7, 2) := by decide +kernel
theorem dX8_telling_43 : decode cX8_telling 43 = .ok (.invokevirtual 63, 3) := by decide +kernel
theorem dX8_telling_46 : decode cX8_telling 46 = .ok (.ireturn, 1) := by decide +kernel
theorem dX8_telling_47 : decode cX8_telling 47 = .ok (.aload_n 0, 1) := by decide +kernel
theorem dX8_telling_48 : decode cX8_telling 48 = .ok (.getfield 54, 3) := by decide +kernel
theorem dX8_telling_51 : decode cX8_telling 51 = .ok (.iload_n 1, 1) := by decide +kernel
theorem dX8_telling_52 : decode cX8_telling 52 = .ok (.iload_n 2, 1) := by decide +kernel
theorem dX8_telling_53 : decode cX8_telling 53 = .ok (.iload_n 3, 1) := by decide +kernel
theorem dX8_telling_54 : decode cX8_telling 54 = .ok (.invokevirtual 262, 3) := by decide +kernel
theorem dX8_telling_57 : decode cX8_telling 57 = .ok (.aload_n 0, 1) := by decide +kernel
theorem dX8_telling_58 : decode cX8_telling 58 = .ok (.invokevirtual 70, 3) := by decide +kernel
theorem dX8_telling_61 : decode cX8_telling 61 = .ok (.ireturn, 1) := by decide +kernel
theorem dX8_judged_0 : decode cX8_judged 0 = .ok (.iload_n 1, 1) := by decide +kernel
theorem dX8_judged_1 : decode cX8_judged 1 = .ok (.invokestatic 265, 3) := by decide +kernel
theorem dX8_judged_4 : decode cX8_judged 4 = .ok (.ifCond .ne 9, 3) := by decide +kernel
theorem dX8_judged_7 : decode cX8_judged 7 = .ok (.aload_n 0, 1) := by decide +kernel
theorem dX8_judged_8 : decode cX8_judged 8 = .ok (.iconst 2, 1) := by decide +kernel
theorem dX8_judged_9 : decode cX8_judged 9 = .ok (.invokevirtual 82, 3) := by decide +kernel
theorem dX8_judged_12 : decode cX8_judged 12 = .ok (.ireturn, 1) := by decide +kernel
theorem dX8_judged_13 : decode cX8_judged 13 = .ok (.iload_n 2, 1) := by decide +kernel
theorem dX8_judged_14 : decode cX8_judged 14 = .ok (.ifCond .lt 8, 3) := by decide +kernel
theorem dX8_judged_17 : decode cX8_judged 17 = .ok (.iload_n 2, 1) := by decide +kernel
theorem dX8_judged_18 : decode cX8_judged 18 = .ok (.iconst 1, 1) := by decide +kernel
theorem dX8_judged_19 : decode cX8_judged 19 = .ok (.if_icmp .le 9, 3) := by decide +kernel
theorem dX8_judged_22 : decode cX8_judged 22 = .ok (.aload_n 0, 1) := by decide +kernel
theorem dX8_judged_23 : decode cX8_judged 23 = .ok (.iconst 5, 1) := by decide +kernel
theorem dX8_judged_24 : decode cX8_judged 24 = .ok (.invokevirtual 82, 3) := by decide +kernel
theorem dX8_judged_27 : decode cX8_judged 27 = .ok (.ireturn, 1) := by decide +kernel
theorem dX8_judged_28 : decode cX8_judged 28 = .ok (.aload_n 0, 1) := by decide +kernel
theorem dX8_judged_29 : decode cX8_judged 29 = .ok (.iconst 0, 1) := by decide +kernel
theorem dX8_judged_30 : decode cX8_judged 30 = .ok (.putfield 9, 3) := by decide +kernel
theorem dX8_judged_33 : decode cX8_judged 33 = .ok (.iload_n 2, 1) := by decide +kernel
theorem dX8_judged_34 : decode cX8_judged 34 = .ok (.ifCond .ne 15, 3) := by decide +kernel
theorem dX8_judged_37 : decode cX8_judged 37 = .ok (.aload_n 0, 1) := by decide +kernel
theorem dX8_judged_38 : decode cX8_judged 38 = .ok (.getfield 54, 3) := by decide +kernel
theorem dX8_judged_41 : decode cX8_judged 41 = .ok (.getfield 268, 3) := by decide +kernel
theorem dX8_judged_44 : decode cX8_judged 44 = .ok (.iload_n 1, 1) := by decide +kernel
theorem dX8_judged_45 : decode cX8_judged 45 = .ok (.iaload, 1) := by decide +kernel
theorem dX8_judged_46 : decode cX8_judged 46 = .ok (.goto 12, 3) := by decide +kernel
theorem dX8_judged_49 : decode cX8_judged 49 = .ok (.aload_n 0, 1) := by decide +kernel
theorem dX8_judged_50 : decode cX8_judged 50 = .ok (.getfield 54, 3) := by decide +kernel
theorem dX8_judged_53 : decode cX8_judged 53 = .ok (.getfield 271, 3) := by decide +kernel
theorem dX8_judged_56 : decode cX8_judged 56 = .ok (.iload_n 1, 1) := by decide +kernel
theorem dX8_judged_57 : decode cX8_judged 57 = .ok (.iaload, 1) := by decide +kernel
theorem dX8_judged_58 : decode cX8_judged 58 = .ok (.ireturn, 1) := by decide +kernel
theorem dX8_said_0 : decode cX8_said 0 = .ok (.iload_n 1, 1) := by decide +kernel
theorem dX8_said_1 : decode cX8_said 1 = .ok (.invokestatic 265, 3) := by decide +kernel
theorem dX8_said_4 : decode cX8_said 4 = .ok (.ifCond .ne 9, 3) := by decide +kernel
theorem dX8_said_7 : decode cX8_said 7 = .ok (.aload_n 0, 1) := by decide +kernel
theorem dX8_said_8 : decode cX8_said 8 = .ok (.iconst 2, 1) := by decide +kernel
theorem dX8_said_9 : decode cX8_said 9 = .ok (.invokevirtual 63, 3) := by decide +kernel
theorem dX8_said_12 : decode cX8_said 12 = .ok (.ireturn, 1) := by decide +kernel
theorem dX8_said_13 : decode cX8_said 13 = .ok (.aload_n 0, 1) := by decide +kernel
theorem dX8_said_14 : decode cX8_said 14 = .ok (.getfield 54, 3) := by decide +kernel
theorem dX8_said_17 : decode cX8_said 17 = .ok (.getfield 268, 3) := by decide +kernel
theorem dX8_said_20 : decode cX8_said 20 = .ok (.iload_n 1, 1) := by decide +kernel
theorem dX8_said_21 : decode cX8_said 21 = .ok (.iaload, 1) := by decide +kernel
theorem dX8_said_22 : decode cX8_said 22 = .ok (.istore_n 2, 1) := by decide +kernel
theorem dX8_said_23 : decode cX8_said 23 = .ok (.iload_n 2, 1) := by decide +kernel
theorem dX8_said_24 : decode cX8_said 24 = .ok (.ifCond .ne 9, 3) := by decide +kernel
theorem dX8_said_27 : decode cX8_said 27 = .ok (.aload_n 0, 1) := by decide +kernel
theorem dX8_said_28 : decode cX8_said 28 = .ok (.iconst 5, 1) := by decide +kernel
theorem dX8_said_29 : decode cX8_said 29 = .ok (.invokevirtual 63, 3) := by decide +kernel
theorem dX8_said_32 : decode cX8_said 32 = .ok (.ireturn, 1) := by decide +kernel
theorem dX8_said_33 : decode cX8_said 33 = .ok (.aload_n 0, 1) := by decide +kernel
theorem dX8_said_34 : decode cX8_said 34 = .ok (.getfield 54, 3) := by decide +kernel
theorem dX8_said_37 : decode cX8_said 37 = .ok (.getfield 274, 3) := by decide +kernel
theorem dX8_said_40 : decode cX8_said 40 = .ok (.iload_n 1, 1) := by decide +kernel
theorem dX8_said_41 : decode cX8_said 41 = .ok (.baload, 1) := by decide +kernel
theorem dX8_said_42 : decode cX8_said 42 = .ok (.ifCond .eq 10, 3) := by decide +kernel
theorem dX8_said_45 : decode cX8_said 45 = .ok (.aload_n 0, 1) := by decide +kernel
theorem dX8_said_46 : decode cX8_said 46 = .ok (.bipush 9, 2) := by decide +kernel
theorem dX8_said_48 : decode cX8_said 48 = .ok (.invokevirtual 63, 3) := by decide +kernel
theorem dX8_said_51 : decode cX8_said 51 = .ok (.ireturn, 1) := by decide +kernel
theorem dX8_said_52 : decode cX8_said 52 = .ok (.aload_n 0, 1) := by decide +kernel
theorem dX8_said_53 : decode cX8_said 53 = .ok (.getfield 54, 3) := by decide +kernel
theorem dX8_said_56 : decode cX8_said 56 = .ok (.getfield 278, 3) := by decide +kernel
theorem dX8_said_59 : decode cX8_said 59 = .ok (.iload_n 1, 1) := by decide +kernel
theorem dX8_said_60 : decode cX8_said 60 = .ok (.aaload, 1) := by decide +kernel
theorem dX8_said_61 : decode cX8_said 61 = .ok (.astore_n 3, 1) := by decide +kernel
theorem dX8_said_62 : decode cX8_said 62 = .ok (.aload_n 0, 1) := by decide +kernel
theorem dX8_said_63 : decode cX8_said 63 = .ok (.aload_n 3, 1) := by decide +kernel
theorem dX8_said_64 : decode cX8_said 64 = .ok (.getfield 192, 3) := by decide +kernel
theorem dX8_said_67 : decode cX8_said 67 = .ok (.aload_n 3, 1) := by decide +kernel
theorem dX8_said_68 : decode cX8_said 68 = .ok (.getfield 196, 3) := by decide +kernel
theorem dX8_said_71 : decode cX8_said 71 = .ok (.iload_n 2, 1) := by decide +kernel
theorem dX8_said_72 : decode cX8_said 72 = .ok (.i2l, 1) := by decide +kernel
theorem dX8_said_73 : decode cX8_said 73 = .ok (.lmul, 1) := by decide +kernel
theorem dX8_said_74 : decode cX8_said 74 = .ok (.invokevirtual 215, 3) := by decide +kernel
theorem dX8_said_77 : decode cX8_said 77 = .ok (.ireturn, 1) := by decide +kernel
theorem dX8_refuse_0 : decode cX8_refuse 0 = .ok (.aload_n 0, 1) := by decide +kernel
theorem dX8_refuse_1 : decode cX8_refuse 1 = .ok (.iload_n 1, 1) := by decide +kernel
theorem dX8_refuse_2 : decode cX8_refuse 2 = .ok (.putfield 9, 3) := by decide +kernel
theorem dX8_refuse_5 : decode cX8_refuse 5 = .ok (.iconst 0, 1) := by decide +kernel
theorem dX8_refuse_6 : decode cX8_refuse 6 = .ok (.ireturn, 1) := by decide +kernel
theorem dX8_refuseNumber_0 : decode cX8_refuseNumber 0 = .ok (.aload_n 0, 1) := by decide +kernel
theorem dX8_refuseNumber_1 : decode cX8_refuseNumber 1 = .ok (.iload_n 1, 1) := by decide +kernel
theorem dX8_refuseNumber_2 : decode cX8_refuseNumber 2 = .ok (.putfield 9, 3) := by decide +kernel
theorem dX8_refuseNumber_5 : decode cX8_refuseNumber 5 = .ok (.iconst (-1), 1) := by decide +kernel
theorem dX8_refuseNumber_6 : decode cX8_refuseNumber 6 = .ok (.ireturn, 1) := by decide +kernel
theorem dX8_well_0 : decode cX8_well 0 = .ok (.aload_n 0, 1) := by decide +kernel
theorem dX8_well_1 : decode cX8_well 1 = .ok (.iconst 0, 1) := by decide +kernel
theorem dX8_well_2 : decode cX8_well 2 = .ok (.putfield 9, 3) := by decide +kernel
theorem dX8_well_5 : decode cX8_well 5 = .ok (.iconst 1, 1) := by decide +kernel
theorem dX8_well_6 : decode cX8_well 6 = .ok (.ireturn, 1) := by decide +kernel
theorem dX8_changed_0 : decode cX8_changed 0 = .ok (.aload_n 0, 1) := by decide +kernel
theorem dX8_changed_1 : decode cX8_changed 1 = .ok (.getfield 42, 3) := by decide +kernel
theorem dX8_changed_4 : decode cX8_changed 4 = .ok (.iconst 1, 1) := by decide +kernel
theorem dX8_changed_5 : decode cX8_changed 5 = .ok (.putfield 282, 3) := by decide +kernel
theorem dX8_changed_8 : decode cX8_changed 8 = .ok (.aload_n 0, 1) := by decide +kernel
theorem dX8_changed_9 : decode cX8_changed 9 = .ok (.invokevirtual 70, 3) := by decide +kernel
theorem dX8_changed_12 : decode cX8_changed 12 = .ok (.ireturn, 1) := by decide +kernel
theorem dX8_tell_0 : decode cX8_tell 0 = .ok (.aload_n 0, 1) := by decide +kernel
theorem dX8_tell_1 : decode cX8_tell 1 = .ok (.getfield 16, 3) := by decide +kernel
theorem dX8_tell_4 : decode cX8_tell 4 = .ok (.lload_n 1, 1) := by decide +kernel
theorem dX8_tell_5 : decode cX8_tell 5 = .ok (.lload_n 3, 1) := by decide +kernel
theorem dX8_tell_6 : decode cX8_tell 6 = .ok (.invokevirtual 248, 3) := by decide +kernel
theorem dX8_tell_9 : decode cX8_tell 9 = .ok (.aload_n 0, 1) := by decide +kernel
theorem dX8_tell_10 : decode cX8_tell 10 = .ok (.invokevirtual 70, 3) := by decide +kernel
theorem dX8_tell_13 : decode cX8_tell 13 = .ok (.ireturn, 1) := by decide +kernel
theorem dX8_addPart_0 : decode cX8_addPart 0 = .ok (.aload_n 0, 1) := by decide +kernel
theorem dX8_addPart_1 : decode cX8_addPart 1 = .ok (.getfield 35, 3) := by decide +kernel
theorem dX8_addPart_4 : decode cX8_addPart 4 = .ok (.invokevirtual 286, 3) := by decide +kernel
theorem dX8_addPart_7 : decode cX8_addPart 7 = .ok (.aload_n 0, 1) := by decide +kernel
theorem dX8_addPart_8 : decode cX8_addPart 8 = .ok (.getfield 50, 3) := by decide +kernel
theorem dX8_addPart_11 : decode cX8_addPart 11 = .ok (.getfield 241, 3) := by decide +kernel
theorem dX8_addPart_14 : decode cX8_addPart 14 = .ok (.bipush 10, 2) := by decide +kernel
theorem dX8_addPart_16 : decode cX8_addPart 16 = .ok (.if_icmp .ge 13, 3) := by decide +kernel
theorem dX8_addPart_19 : decode cX8_addPart 19 = .ok (.aload_n 0, 1) := by decide +kernel
theorem dX8_addPart_20 : decode cX8_addPart 20 = .ok (.getfield 35, 3) := by decide +kernel
theorem dX8_addPart_23 : decode cX8_addPart 23 = .ok (.invokevirtual 289, 3) := by decide +kernel
theorem dX8_addPart_26 : decode cX8_addPart 26 = .ok (.ifCond .ne 10, 3) := by decide +kernel
theorem dX8_addPart_29 : decode cX8_addPart 29 = .ok (.aload_n 0, 1) := by decide +kernel
theorem dX8_addPart_30 : decode cX8_addPart 30 = .ok (.bipush 7, 2) := by decide +kernel
theorem dX8_addPart_32 : decode cX8_addPart 32 = .ok (.invokevirtual 82, 3) := by decide +kernel
theorem dX8_addPart_35 : decode cX8_addPart 35 = .ok (.ireturn, 1) := by decide +kernel
theorem dX8_addPart_36 : decode cX8_addPart 36 = .ok (.aload_n 0, 1) := by decide +kernel
theorem dX8_addPart_37 : decode cX8_addPart 37 = .ok (.getfield 50, 3) := by decide +kernel
theorem dX8_addPart_40 : decode cX8_addPart 40 = .ok (.aload_n 0, 1) := by decide +kernel
theorem dX8_addPart_41 : decode cX8_addPart 41 = .ok (.getfield 35, 3) := by decide +kernel
theorem dX8_addPart_44 : decode cX8_addPart 44 = .ok (.iload_n 1, 1) := by decide +kernel
theorem dX8_addPart_45 : decode cX8_addPart 45 = .ok (.invokevirtual 292, 3) := by decide +kernel
theorem dX8_addPart_48 : decode cX8_addPart 48 = .ok (.aload_n 0, 1) := by decide +kernel
theorem dX8_addPart_49 : decode cX8_addPart 49 = .ok (.invokevirtual 150, 3) := by decide +kernel
theorem dX8_addPart_52 : decode cX8_addPart 52 = .ok (.pop, 1) := by decide +kernel
theorem dX8_addPart_53 : decode cX8_addPart 53 = .ok (.aload_n 0, 1) := by decide +kernel
theorem dX8_addPart_54 : decode cX8_addPart 54 = .ok (.getfield 50, 3) := by decide +kernel
theorem dX8_addPart_57 : decode cX8_addPart 57 = .ok (.getfield 241, 3) := by decide +kernel
theorem dX8_addPart_60 : decode cX8_addPart 60 = .ok (.iconst 1, 1) := by decide +kernel
theorem dX8_addPart_61 : decode cX8_addPart 61 = .ok (.isub, 1) := by decide +kernel
theorem dX8_addPart_62 : decode cX8_addPart 62 = .ok (.ireturn, 1) := by decide +kernel
theorem dX8_placeTrouble_0 : decode cX8_placeTrouble 0 = .ok (.iload_n 1, 1) := by decide +kernel
theorem dX8_placeTrouble_1 : decode cX8_placeTrouble 1 = .ok (.invokestatic 59, 3) := by decide +kernel
theorem dX8_placeTrouble_4 : decode cX8_placeTrouble 4 = .ok (.ifCond .ne 5, 3) := by decide +kernel
theorem dX8_placeTrouble_7 : decode cX8_placeTrouble 7 = .ok (.iconst 1, 1) := by decide +kernel
theorem dX8_placeTrouble_8 : decode cX8_placeTrouble 8 = .ok (.ireturn, 1) := by decide +kernel
theorem dX8_placeTrouble_9 : decode cX8_placeTrouble 9 = .ok (.aload_n 0, 1) := by decide +kernel
theorem dX8_placeTrouble_10 : decode cX8_placeTrouble 10 = .ok (.getfield 28, 3) := by decide +kernel
theorem dX8_placeTrouble_13 : decode cX8_placeTrouble 13 = .ok (.iload_n 1, 1) := by decide +kernel
theorem dX8_placeTrouble_14 : decode cX8_placeTrouble 14 = .ok (.aaload, 1) := by decide +kernel
theorem dX8_placeTrouble_15 : decode cX8_placeTrouble 15 = .ok (.invokevirtual 90, 3) := by decide +kernel
theorem dX8_placeTrouble_18 : decode cX8_placeTrouble 18 = .ok (.ifCond .eq 5, 3) := by decide +kernel
theorem dX8_placeTrouble_21 : decode cX8_placeTrouble 21 = .ok (.iconst 3, 1) := by decide +kernel
theorem dX8_placeTrouble_22 : decode cX8_placeTrouble 22 = .ok (.ireturn, 1) := by decide +kernel
theorem dX8_placeTrouble_23 : decode cX8_placeTrouble 23 = .ok (.aload_n 0, 1) := by decide +kernel
theorem dX8_placeTrouble_24 : decode cX8_placeTrouble 24 = .ok (.getfield 28, 3) := by decide +kernel
theorem dX8_placeTrouble_27 : decode cX8_placeTrouble 27 = .ok (.iload_n 1, 1) := by decide +kernel
theorem dX8_placeTrouble_28 : decode cX8_placeTrouble 28 = .ok (.aaload, 1) := by decide +kernel
theorem dX8_placeTrouble_29 : decode cX8_placeTrouble 29 = .ok (.iload_n 2, 1) := by decide +kernel
theorem dX8_placeTrouble_30 : decode cX8_placeTrouble 30 = .ok (.invokevirtual 295, 3) := by decide +kernel
theorem dX8_placeTrouble_33 : decode cX8_placeTrouble 33 = .ok (.ifCond .eq 7, 3) := by decide +kernel
theorem dX8_placeTrouble_36 : decode cX8_placeTrouble 36 = .ok (.iconst 0, 1) := by decide +kernel
theorem dX8_placeTrouble_37 : decode cX8_placeTrouble 37 = .ok (.goto 4, 3) := by decide +kernel
theorem dX8_placeTrouble_40 : decode cX8_placeTrouble 40 = .ok (.iconst 4, 1) := by decide +kernel
theorem dX8_placeTrouble_41 : decode cX8_placeTrouble 41 = .ok (.ireturn, 1) := by decide +kernel
theorem dX8_chanceTrouble_0 : decode cX8_chanceTrouble 0 = .ok (.aload_n 0, 1) := by decide +kernel
theorem dX8_chanceTrouble_1 : decode cX8_chanceTrouble 1 = .ok (.getfield 50, 3) := by decide +kernel
theorem dX8_chanceTrouble_4 : decode cX8_chanceTrouble 4 = .ok (.invokevirtual 298, 3) := by decide +kernel
theorem dX8_chanceTrouble_7 : decode cX8_chanceTrouble 7 = .ok (.ifCond .eq 6, 3) := by decide +kernel
theorem dX8_chanceTrouble_10 : decode cX8_chanceTrouble 10 = .ok (.bipush 8, 2) := by decide +kernel
theorem dX8_chanceTrouble_12 : decode cX8_chanceTrouble 12 = .ok (.ireturn, 1) := by decide +kernel
theorem dX8_chanceTrouble_13 : decode cX8_chanceTrouble 13 = .ok (.aload_n 0, 1) := by decide +kernel
theorem dX8_chanceTrouble_14 : decode cX8_chanceTrouble 14 = .ok (.getfield 50, 3) := by decide +kernel
theorem dX8_chanceTrouble_17 : decode cX8_chanceTrouble 17 = .ok (.invokevirtual 199, 3) := by decide +kernel
theorem dX8_chanceTrouble_20 : decode cX8_chanceTrouble 20 = .ok (.ifCond .eq 6, 3) := by decide +kernel
theorem dX8_chanceTrouble_23 : decode cX8_chanceTrouble 23 = .ok (.bipush 9, 2) := by decide +kernel
theorem dX8_chanceTrouble_25 : decode cX8_chanceTrouble 25 = .ok (.ireturn, 1) := by decide +kernel
theorem dX8_chanceTrouble_26 : decode cX8_chanceTrouble 26 = .ok (.aload_n 0, 1) := by decide +kernel
theorem dX8_chanceTrouble_27 : decode cX8_chanceTrouble 27 = .ok (.getfield 42, 3) := by decide +kernel
theorem dX8_chanceTrouble_30 : decode cX8_chanceTrouble 30 = .ok (.invokevirtual 301, 3) := by decide +kernel
theorem dX8_chanceTrouble_33 : decode cX8_chanceTrouble 33 = .ok (.aload_n 0, 1) := by decide +kernel
theorem dX8_chanceTrouble_34 : decode cX8_chanceTrouble 34 = .ok (.getfield 42, 3) := by decide +kernel
theorem dX8_chanceTrouble_37 : decode cX8_chanceTrouble 37 = .ok (.getfield 212, 3) := by decide +kernel
theorem dX8_chanceTrouble_40 : decode cX8_chanceTrouble 40 = .ok (.lconst 0, 1) := by decide +kernel
theorem dX8_chanceTrouble_41 : decode cX8_chanceTrouble 41 = .ok (.lcmp, 1) := by decide +kernel
theorem dX8_chanceTrouble_42 : decode cX8_chanceTrouble 42 = .ok (.ifCond .le 7, 3) := by decide +kernel
theorem dX8_chanceTrouble_45 : decode cX8_chanceTrouble 45 = .ok (.iconst 0, 1) := by decide +kernel
theorem dX8_chanceTrouble_46 : decode cX8_chanceTrouble 46 = .ok (.goto 5, 3) := by decide +kernel
theorem dX8_chanceTrouble_49 : decode cX8_chanceTrouble 49 = .ok (.bipush 10, 2) := by decide +kernel
theorem dX8_chanceTrouble_51 : decode cX8_chanceTrouble 51 = .ok (.ireturn, 1) := by decide +kernel
theorem dX8_isTray_0 : decode cX8_isTray 0 = .ok (.iload_n 0, 1) := by decide +kernel
theorem dX8_isTray_1 : decode cX8_isTray 1 = .ok (.ifCond .lt 12, 3) := by decide +kernel
theorem dX8_isTray_4 : decode cX8_isTray 4 = .ok (.iload_n 0, 1) := by decide +kernel
theorem dX8_isTray_5 : decode cX8_isTray 5 = .ok (.iconst 4, 1) := by decide +kernel
theorem dX8_isTray_6 : decode cX8_isTray 6 = .ok (.if_icmp .ge 7, 3) := by decide +kernel
theorem dX8_isTray_9 : decode cX8_isTray 9 = .ok (.iconst 1, 1) := by decide +kernel
theorem dX8_isTray_10 : decode cX8_isTray 10 = .ok (.goto 4, 3) := by decide +kernel
theorem dX8_isTray_13 : decode cX8_isTray 13 = .ok (.iconst 0, 1) := by decide +kernel
theorem dX8_isTray_14 : decode cX8_isTray 14 = .ok (.ireturn, 1) := by decide +kernel
theorem dX8_isStep_0 : decode cX8_isStep 0 = .ok (.iload_n 0, 1) := by decide +kernel
theorem dX8_isStep_1 : decode cX8_isStep 1 = .ok (.ifCond .lt 13, 3) := by decide +kernel
theorem dX8_isStep_4 : decode cX8_isStep 4 = .ok (.iload_n 0, 1) := by decide +kernel
theorem dX8_isStep_5 : decode cX8_isStep 5 = .ok (.bipush 10, 2) := by decide +kernel
theorem dX8_isStep_7 : decode cX8_isStep 7 = .ok (.if_icmp .ge 7, 3) := by decide +kernel
theorem dX8_isStep_10 : decode cX8_isStep 10 = .ok (.iconst 1, 1) := by decide +kernel
theorem dX8_isStep_11 : decode cX8_isStep 11 = .ok (.goto 4, 3) := by decide +kernel
theorem dX8_isStep_14 : decode cX8_isStep 14 = .ok (.iconst 0, 1) := by decide +kernel
theorem dX8_isStep_15 : decode cX8_isStep 15 = .ok (.ireturn, 1) := by decide +kernel
theorem dX8_arePartHands_0 : decode cX8_arePartHands 0 = .ok (.iload_n 0, 1) := by decide +kernel
theorem dX8_arePartHands_1 : decode cX8_arePartHands 1 = .ok (.ifCond .lt 13, 3) := by decide +kernel
theorem dX8_arePartHands_4 : decode cX8_arePartHands 4 = .ok (.iload_n 0, 1) := by decide +kernel
theorem dX8_arePartHands_5 : decode cX8_arePartHands 5 = .ok (.bipush 9, 2) := by decide +kernel
theorem dX8_arePartHands_7 : decode cX8_arePartHands 7 = .ok (.if_icmp .gt 7, 3) := by decide +kernel
theorem dX8_arePartHands_10 : decode cX8_arePartHands 10 = .ok (.iconst 1, 1) := by decide +kernel
theorem dX8_arePartHands_11 : decode cX8_arePartHands 11 = .ok (.goto 4, 3) := by decide +kernel
theorem dX8_arePartHands_14 : decode cX8_arePartHands 14 = .ok (.iconst 0, 1) := by decide +kernel
theorem dX8_arePartHands_15 : decode cX8_arePartHands 15 = .ok (.ireturn, 1) := by decide +kernel
theorem dX8_isCameDay_0 : decode cX8_isCameDay 0 = .ok (.iload_n 0, 1) := by decide +kernel
theorem dX8_isCameDay_1 : decode cX8_isCameDay 1 = .ok (.iconst (-1), 1) := by decide +kernel
theorem dX8_isCameDay_2 : decode cX8_isCameDay 2 = .ok (.if_icmp .eq 14, 3) := by decide +kernel
theorem dX8_isCameDay_5 : decode cX8_isCameDay 5 = .ok (.iload_n 0, 1) := by decide +kernel
theorem dX8_isCameDay_6 : decode cX8_isCameDay 6 = .ok (.ifCond .lt 14, 3) := by decide +kernel
theorem dX8_isCameDay_9 : decode cX8_isCameDay 9 = .ok (.iload_n 0, 1) := by decide +kernel
theorem dX8_isCameDay_10 : decode cX8_isCameDay 10 = .ok (.sipush 9999, 3) := by decide +kernel
theorem dX8_isCameDay_13 : decode cX8_isCameDay 13 = .ok (.if_icmp .gt 7, 3) := by decide +kernel
theorem dX8_isCameDay_16 : decode cX8_isCameDay 16 = .ok (.iconst 1, 1) := by decide +kernel
theorem dX8_isCameDay_17 : decode cX8_isCameDay 17 = .ok (.goto 4, 3) := by decide +kernel
theorem dX8_isCameDay_20 : decode cX8_isCameDay 20 = .ok (.iconst 0, 1) := by decide +kernel
theorem dX8_isCameDay_21 : decode cX8_isCameDay 21 = .ok (.ireturn, 1) := by decide +kernel
theorem dX8_commonDivisor_0 : decode cX8_commonDivisor 0 = .ok (.lload_n 0, 1) := by decide +kernel
theorem dX8_commonDivisor_1 : decode cX8_commonDivisor 1 = .ok (.lstore 4, 2) := by decide +kernel
theorem dX8_commonDivisor_3 : decode cX8_commonDivisor 3 = .ok (.lload_n 2, 1) := by decide +kernel
theorem dX8_commonDivisor_4 : decode cX8_commonDivisor 4 = .ok (.lstore 6, 2) := by decide +kernel
theorem dX8_commonDivisor_6 : decode cX8_commonDivisor 6 = .ok (.iconst 0, 1) := by decide +kernel
theorem dX8_commonDivisor_7 : decode cX8_commonDivisor 7 = .ok (.istore 8, 2) := by decide +kernel
theorem dX8_commonDivisor_9 : decode cX8_commonDivisor 9 = .ok (.iload 8, 2) := by decide +kernel
theorem dX8_commonDivisor_11 : decode cX8_commonDivisor 11 = .ok (.sipush 200, 3) := by decide +kernel
theorem dX8_commonDivisor_14 : decode cX8_commonDivisor 14 = .ok (.if_icmp .ge 31, 3) := by decide +kernel
theorem dX8_commonDivisor_17 : decode cX8_commonDivisor 17 = .ok (.lload 6, 2) := by decide +kernel
theorem dX8_commonDivisor_19 : decode cX8_commonDivisor 19 = .ok (.lconst 0, 1) := by decide +kernel
theorem dX8_commonDivisor_20 : decode cX8_commonDivisor 20 = .ok (.lcmp, 1) := by decide +kernel
theorem dX8_commonDivisor_21 : decode cX8_commonDivisor 21 = .ok (.ifCond .eq 24, 3) := by decide +kernel
theorem dX8_commonDivisor_24 : decode cX8_commonDivisor 24 = .ok (.lload 4, 2) := by decide +kernel
theorem dX8_commonDivisor_26 : decode cX8_commonDivisor 26 = .ok (.lload 6, 2) := by decide +kernel
theorem dX8_commonDivisor_28 : decode cX8_commonDivisor 28 = .ok (.lrem, 1) := by decide +kernel
theorem dX8_commonDivisor_29 : decode cX8_commonDivisor 29 = .ok (.lstore 9, 2) := by decide +kernel
theorem dX8_commonDivisor_31 : decode cX8_commonDivisor 31 = .ok (.lload 6, 2) := by decide +kernel
theorem dX8_commonDivisor_33 : decode cX8_commonDivisor 33 = .ok (.lstore 4, 2) := by decide +kernel
theorem dX8_commonDivisor_35 : decode cX8_commonDivisor 35 = .ok (.lload 9, 2) := by decide +kernel
theorem dX8_commonDivisor_37 : decode cX8_commonDivisor 37 = .ok (.lstore 6, 2) := by decide +kernel
theorem dX8_commonDivisor_39 : decode cX8_commonDivisor 39 = .ok (.iinc 8 1, 3) := by decide +kernel
theorem dX8_commonDivisor_42 : decode cX8_commonDivisor 42 = .ok (.goto (-33), 3) := by decide +kernel
theorem dX8_commonDivisor_45 : decode cX8_commonDivisor 45 = .ok (.lload 4, 2) := by decide +kernel
theorem dX8_commonDivisor_47 : decode cX8_commonDivisor 47 = .ok (.lreturn, 1) := by decide +kernel
end
section
theorem dX9_init_0 : decode cX9_init 0 = .ok (.aload_n 0, 1) := by decide +kernel
theorem dX9_init_1 : decode cX9_init 1 = .ok (.invokespecial 1, 3) := by decide +kernel
theorem dX9_init_4 : decode cX9_init 4 = .ok (.aload_n 0, 1) := by decide +kernel
theorem dX9_init_5 : decode cX9_init 5 = .ok (.lconst 1, 1) := by decide +kernel
theorem dX9_init_6 : decode cX9_init 6 = .ok (.putfield 7, 3) := by decide +kernel
theorem dX9_init_9 : decode cX9_init 9 = .ok (.aload_n 0, 1) := by decide +kernel
theorem dX9_init_10 : decode cX9_init 10 = .ok (.iconst 4, 1) := by decide +kernel
theorem dX9_init_11 : decode cX9_init 11 = .ok (.newarray .int, 2) := by decide +kernel
theorem dX9_init_13 : decode cX9_init 13 = .ok (.putfield 13, 3) := by decide +kernel
theorem dX9_init_16 : decode cX9_init 16 = .ok (.aload_n 0, 1) := by decide +kernel
theorem dX9_init_17 : decode cX9_init 17 = .ok (.iconst 4, 1) := by decide +kernel
theorem dX9_init_18 : decode cX9_init 18 = .ok (.newarray .int, 2) := by decide +kernel
theorem dX9_init_20 : decode cX9_init 20 = .ok (.putfield 17, 3) := by decide +kernel
theorem dX9_init_23 : decode cX9_init 23 = .ok (.aload_n 0, 1) := by decide +kernel
theorem dX9_init_24 : decode cX9_init 24 = .ok (.sipush 160, 3) := by decide +kernel
theorem dX9_init_27 : decode cX9_init 27 = .ok (.newarray .long, 2) := by decide +kernel
theorem dX9_init_29 : decode cX9_init 29 = .ok (.putfield 20, 3) := by decide +kernel
theorem dX9_init_32 : decode cX9_init 32 = .ok (.aload_n 0, 1) := by decide +kernel
theorem dX9_init_33 : decode cX9_init 33 = .ok (.bipush 30, 2) := by decide +kernel
theorem dX9_init_35 : decode cX9_init 35 = .ok (.putfield 24, 3) := by decide +kernel
theorem dX9_init_38 : decode cX9_init 38 = .ok (.aload_n 0, 1) := by decide +kernel
theorem dX9_init_39 : decode cX9_init 39 = .ok (.iconst (-1), 1) := by decide +kernel
theorem dX9_init_40 : decode cX9_init 40 = .ok (.putfield 28, 3) := by decide +kernel
theorem dX9_init_43 : decode cX9_init 43 = .ok (.aload_n 0, 1) := by decide +kernel
theorem dX9_init_44 : decode cX9_init 44 = .ok (.bipush 10, 2) := by decide +kernel
theorem dX9_init_46 : decode cX9_init 46 = .ok (.newarray .int, 2) := by decide +kernel
theorem dX9_init_48 : decode cX9_init 48 = .ok (.putfield 31, 3) := by decide +kernel
theorem dX9_init_51 : decode cX9_init 51 = .ok (.aload_n 0, 1) := by decide +kernel
theorem dX9_init_52 : decode cX9_init 52 = .ok (.bipush 10, 2) := by decide +kernel
theorem dX9_init_54 : decode cX9_init 54 = .ok (.newarray .int, 2) := by decide +kernel
theorem dX9_init_56 : decode cX9_init 56 = .ok (.putfield 34, 3) := by decide +kernel
theorem dX9_init_59 : decode cX9_init 59 = .ok (.aload_n 0, 1) := by decide +kernel
theorem dX9_init_60 : decode cX9_init 60 = .ok (.bipush 10, 2) := by decide +kernel
theorem dX9_init_62 : decode cX9_init 62 = .ok (.newarray .int, 2) := by decide +kernel
theorem dX9_init_64 : decode cX9_init 64 = .ok (.putfield 37, 3) := by decide +kernel
theorem dX9_init_67 : decode cX9_init 67 = .ok (.aload_n 0, 1) := by decide +kernel
theorem dX9_init_68 : decode cX9_init 68 = .ok (.bipush 10, 2) := by decide +kernel
theorem dX9_init_70 : decode cX9_init 70 = .ok (.newarray .int, 2) := by decide +kernel
theorem dX9_init_72 : decode cX9_init 72 = .ok (.putfield 40, 3) := by decide +kernel
theorem dX9_init_75 : decode cX9_init 75 = .ok (.aload_n 0, 1) := by decide +kernel
theorem dX9_init_76 : decode cX9_init 76 = .ok (.bipush 80, 2) := by decide +kernel
theorem dX9_init_78 : decode cX9_init 78 = .ok (.newarray .int, 2) := by decide +kernel
theorem dX9_init_80 : decode cX9_init 80 = .ok (.putfield 43, 3) := by decide +kernel
theorem dX9_init_83 : decode cX9_init 83 = .ok (.aload_n 0, 1) := by decide +kernel
theorem dX9_init_84 : decode cX9_init 84 = .ok (.bipush 80, 2) := by decide +kernel
theorem dX9_init_86 : decode cX9_init 86 = .ok (.newarray .int, 2) := by decide +kernel
theorem dX9_init_88 : decode cX9_init 88 = .ok (.putfield 46, 3) := by decide +kernel
theorem dX9_init_91 : decode cX9_init 91 = .ok (.aload_n 0, 1) := by decide +kernel
theorem dX9_init_92 : decode cX9_init 92 = .ok (.bipush 40, 2) := by decide +kernel
theorem dX9_init_94 : decode cX9_init 94 = .ok (.newarray .int, 2) := by decide +kernel
theorem dX9_init_96 : decode cX9_init 96 = .ok (.putfield 49, 3) := by decide +kernel
theorem dX9_init_99 : decode cX9_init 99 = .ok (.aload_n 0, 1) := by decide +kernel
theorem dX9_init_100 : decode cX9_init 100 = .ok (.iconst 4, 1) := by decide +kernel
theorem dX9_init_101 : decode cX9_init 101 = .ok (.newarray .int, 2) := by decide +kernel
theorem dX9_init_103 : decode cX9_init 103 = .ok (.putfield 52, 3) := by decide +kernel
theorem dX9_init_106 : decode cX9_init 106 = .ok (.aload_n 0, 1) := by decide +kernel
theorem dX9_init_107 : decode cX9_init 107 = .ok (.iconst 4, 1) := by decide +kernel
theorem dX9_init_108 : decode cX9_init 108 = .ok (.newarray .int, 2) := by decide +kernel
theorem dX9_init_110 : decode cX9_init 110 = .ok (.putfield 55, 3) := by decide +kernel
theorem dX9_init_113 : decode cX9_init 113 = .ok (.aload_n 0, 1) := by decide +kernel
theorem dX9_init_114 : decode cX9_init 114 = .ok (.sipush 300, 3) := by decide +kernel
theorem dX9_init_117 : decode cX9_init 117 = .ok (.newarray .long, 2) := by decide +kernel
theorem dX9_init_119 : decode cX9_init 119 = .ok (.putfield 58, 3) := by decide +kernel
theorem dX9_init_122 : decode cX9_init 122 = .ok (.aload_n 0, 1) := by decide +kernel
theorem dX9_init_123 : decode cX9_init 123 = .ok (.bipush 10, 2) := by decide +kernel
theorem dX9_init_125 : decode cX9_init 125 = .ok (.newarray .int, 2) := by decide +kernel
theorem dX9_init_127 : decode cX9_init 127 = .ok (.putfield 61, 3) := by decide +kernel
theorem dX9_init_130 : decode cX9_init 130 = .ok (.aload_n 0, 1) := by decide +kernel
theorem dX9_init_131 : decode cX9_init 131 = .ok (.bipush 10, 2) := by decide +kernel
theorem dX9_init_133 : decode cX9_init 133 = .ok (.newarray .int, 2) := by decide +kernel
theorem dX9_init_135 : decode cX9_init 135 = .ok (.putfield 64, 3) := by decide +kernel
theorem dX9_init_138 : decode cX9_init 138 = .ok (.aload_n 0, 1) := by decide +kernel
theorem dX9_init_139 : decode cX9_init 139 = .ok (.bipush 10, 2) := by decide +kernel
theorem dX9_init_141 : decode cX9_init 141 = .ok (.newarray .int, 2) := by decide +kernel
theorem dX9_init_143 : decode cX9_init 143 = .ok (.putfield 67, 3) := by decide +kernel
theorem dX9_init_146 : decode cX9_init 146 = .ok (.aload_n 0, 1) := by decide +kernel
theorem dX9_init_147 : decode cX9_init 147 = .ok (.iconst 4, 1) := by decide +kernel
theorem dX9_init_148 : decode cX9_init 148 = .ok (.newarray .boolean, 2) := by decide +kernel
theorem dX9_init_150 : decode cX9_init 150 = .ok (.putfield 70, 3) := by decide +kernel
theorem dX9_init_153 : decode cX9_init 153 = .ok (.aload_n 0, 1) := by decide +kernel
theorem dX9_init_154 : decode cX9_init 154 = .ok (.sipush 6000, 3) := by decide +kernel
theorem dX9_init_157 : decode cX9_init 157 = .ok (.newarray .long, 2) := by decide +kernel
theorem dX9_init_159 : decode cX9_init 159 = .ok (.putfield 74, 3) := by decide +kernel
theorem dX9_init_162 : decode cX9_init 162 = .ok (.aload_n 0, 1) := by decide +kernel
theorem dX9_init_163 : decode cX9_init 163 = .ok (.sipush 6000, 3) := by decide +kernel
theorem dX9_init_166 : decode cX9_init 166 = .ok (.newarray .long, 2) := by decide +kernel
theorem dX9_init_168 : decode cX9_init 168 = .ok (.putfield 77, 3) := by decide +kernel
theorem dX9_init_171 : decode cX9_init 171 = .ok (.aload_n 0, 1) := by decide +kernel
theorem dX9_init_172 : decode cX9_init 172 = .ok (.sipush 1000, 3) := by decide +kernel
theorem dX9_init_175 : decode cX9_init 175 = .ok (.newarray .int, 2) := by decide +kernel
theorem dX9_init_177 : decode cX9_init 177 = .ok (.putfield 80, 3) := by decide +kernel
theorem dX9_init_180 : decode cX9_init 180 = .ok (.aload_n 0, 1) := by decide +kernel
theorem dX9_init_181 : decode cX9_init 181 = .ok (.sipush 1000, 3) := by decide +kernel
theorem dX9_init_184 : decode cX9_init 184 = .ok (.newarray .int, 2) := by decide +kernel
theorem dX9_init_186 : decode cX9_init 186 = .ok (.putfield 83, 3) := by decide +kernel
theorem dX9_init_189 : decode cX9_init 189 = .ok (.aload_n 0, 1) := by decide +kernel
theorem dX9_init_190 : decode cX9_init 190 = .ok (.sipush 1000, 3) := by decide +kernel
theorem dX9_init_193 : decode cX9_init 193 = .ok (.newarray .boolean, 2) := by decide +kernel
theorem dX9_init_195 : decode cX9_init 195 = .ok (.putfield 86, 3) := by decide +kernel
theorem dX9_init_198 : decode cX9_init 198 = .ok (.aload_n 0, 1) := by decide +kernel
theorem dX9_init_199 : decode cX9_init 199 = .ok (.bipush 10, 2) := by decide +kernel
theorem dX9_init_201 : decode cX9_init 201 = .ok (.newarray .boolean, 2) := by decide +kernel
theorem dX9_init_203 : decode cX9_init 203 = .ok (.putfield 89, 3) := by decide +kernel
theorem dX9_init_206 : decode cX9_init 206 = .ok (.aload_n 0, 1) := by decide +kernel
theorem dX9_init_207 : decode cX9_init 207 = .ok (.bipush 10, 2) := by decide +kernel
theorem dX9_init_209 : decode cX9_init 209 = .ok (.newarray .boolean, 2) := by decide +kernel
theorem dX9_init_211 : decode cX9_init 211 = .ok (.putfield 92, 3) := by decide +kernel
theorem dX9_init_214 : decode cX9_init 214 = .ok (.iconst 0, 1) := by decide +kernel
theorem dX9_init_215 : decode cX9_init 215 = .ok (.istore_n 1, 1) := by decide +kernel
theorem dX9_init_216 : decode cX9_init 216 = .ok (.iload_n 1, 1) := by decide +kernel
theorem dX9_init_217 : decode cX9_init 217 = .ok (.iconst 4, 1) := by decide +kernel
theorem dX9_init_218 : decode cX9_init 218 = .ok (.if_icmp .ge 16, 3) := by decide +kernel
theorem dX9_init_221 : decode cX9_init 221 = .ok (.aload_n 0, 1) := by decide +kernel
theorem dX9_init_222 : decode cX9_init 222 = .ok (.getfield 17, 3) := by decide +kernel
theorem dX9_init_225 : decode cX9_init 225 = .ok (.iload_n 1, 1) := by decide +kernel
theorem dX9_init_226 : decode cX9_init 226 = .ok (.iconst (-1), 1) := by decide +kernel
theorem dX9_init_227 : decode cX9_init 227 = .ok (.iastore, 1) := by decide +kernel
theorem dX9_init_228 : decode cX9_init 228 = .ok (.iinc 1 1, 3) := by decide +kernel
theorem dX9_init_231 : decode cX9_init 231 = .ok (.goto (-15), 3) := by decide +kernel
theorem dX9_init_234 : decode cX9_init 234 = .ok (.return_, 1) := by decide +kernel
theorem dX9_status_0 : decode cX9_status 0 = .ok (.aload_n 0, 1) := by decide +kernel
theorem dX9_status_1 : decode cX9_status 1 = .ok (.iconst 0, 1) := by decide +kernel
theorem dX9_status_2 : decode cX9_status 2 = .ok (.putfield 95, 3) := by decide +kernel
theorem dX9_status_5 : decode cX9_status 5 = .ok (.aload_n 0, 1) := by decide +kernel
theorem dX9_status_6 : decode cX9_status 6 = .ok (.getfield 98, 3) := by decide +kernel
theorem dX9_status_9 : decode cX9_status 9 = .ok (.ireturn, 1) := by decide +kernel
theorem dX9_refuse_0 : decode cX9_refuse 0 = .ok (.aload_n 0, 1) := by decide +kernel
theorem dX9_refuse_1 : decode cX9_refuse 1 = .ok (.iload_n 1, 1) := by decide +kernel
theorem dX9_refuse_2 : decode cX9_refuse 2 = .ok (.putfield 98, 3) := by decide +kernel
theorem dX9_refuse_5 : decode cX9_refuse 5 = .ok (.iconst (-1), 1) := by decide +kernel
theorem dX9_refuse_6 : decode cX9_refuse 6 = .ok (.ireturn, 1) := by decide +kernel
theorem dX9_no_0 : decode cX9_no 0 = .ok (.aload_n 0, 1) := by decide +kernel
theorem dX9_no_1 : decode cX9_no 1 = .ok (.iload_n 1, 1) := by decide +kernel
theorem dX9_no_2 : decode cX9_no 2 = .ok (.putfield 98, 3) := by decide +kernel
theorem dX9_no_5 : decode cX9_no 5 = .ok (.iconst 0, 1) := by decide +kernel
theorem dX9_no_6 : decode cX9_no 6 = .ok (.ireturn, 1) := by decide +kernel
theorem dX9_cut_0 : decode cX9_cut 0 = .ok (.iload_n 0, 1) := by decide +kernel
theorem dX9_cut_1 : decode cX9_cut 1 = .ok (.ifCond .ne 10, 3) := by decide +kernel
theorem dX9_cut_4 : decode cX9_cut 4 = .ok (.lload_n 1, 1) := by decide +kernel
theorem dX9_cut_5 : decode cX9_cut 5 = .ok (.l2i, 1) := by decide +kernel
theorem dX9_cut_6 : decode cX9_cut 6 = .ok (.i2b, 1) := by decide +kernel
theorem dX9_cut_7 : decode cX9_cut 7 = .ok (.i2l, 1) := by decide +kernel
theorem dX9_cut_8 : decode cX9_cut 8 = .ok (.goto 27, 3) := by decide +kernel
theorem dX9_cut_11 : decode cX9_cut 11 = .ok (.iload_n 0, 1) := by decide +kernel
theorem dX9_cut_12 : decode cX9_cut 12 = .ok (.iconst 1, 1) := by decide +kernel
theorem dX9_cut_13 : decode cX9_cut 13 = .ok (.if_icmp .ne 10, 3) := by decide +kernel
theorem dX9_cut_16 : decode cX9_cut 16 = .ok (.lload_n 1, 1) := by decide +kernel
theorem dX9_cut_17 : decode cX9_cut 17 = .ok (.l2i, 1) := by decide +kernel
theorem dX9_cut_18 : decode cX9_cut 18 = .ok (.i2s, 1) := by decide +kernel
theorem dX9_cut_19 : decode cX9_cut 19 = .ok (.i2l, 1) := by decide +kernel
theorem dX9_cut_20 : decode cX9_cut 20 = .ok (.goto 15, 3) := by decide +kernel
theorem dX9_cut_23 : decode cX9_cut 23 = .ok (.iload_n 0, 1) := by decide +kernel
theorem dX9_cut_24 : decode cX9_cut 24 = .ok (.iconst 2, 1) := by decide +kernel
theorem dX9_cut_25 : decode cX9_cut 25 = .ok (.if_icmp .ne 9, 3) := by decide +kernel
theorem dX9_cut_28 : decode cX9_cut 28 = .ok (.lload_n 1, 1) := by decide +kernel
theorem dX9_cut_29 : decode cX9_cut 29 = .ok (.l2i, 1) := by decide +kernel
theorem dX9_cut_30 : decode cX9_cut 30 = .ok (.i2l, 1) := by decide +kernel
theorem dX9_cut_31 : decode cX9_cut 31 = .ok (.goto 4, 3) := by decide +kernel
theorem dX9_cut_34 : decode cX9_cut 34 = .ok (.lload_n 1, 1) := by decide +kernel
theorem dX9_cut_35 : decode cX9_cut 35 = .ok (.lreturn, 1) := by decide +kernel
theorem dX9_tray_0 : decode cX9_tray 0 = .ok (.aload_n 0, 1) := by decide +kernel
theorem dX9_tray_1 : decode cX9_tray 1 = .ok (.iconst 0, 1) := by decide +kernel
theorem dX9_tray_2 : decode cX9_tray 2 = .ok (.putfield 95, 3) := by decide +kernel
theorem dX9_tray_5 : decode cX9_tray 5 = .ok (.aload_n 0, 1) := by decide +kernel
theorem dX9_tray_6 : decode cX9_tray 6 = .ok (.iconst 0, 1) := by decide +kernel
theorem dX9_tray_7 : decode cX9_tray 7 = .ok (.putfield 98, 3) := by decide +kernel
theorem dX9_tray_10 : decode cX9_tray 10 = .ok (.iload_n 1, 1) := by decide +kernel
theorem dX9_tray_11 : decode cX9_tray 11 = .ok (.ifCond .lt 17, 3) := by decide +kernel
theorem dX9_tray_14 : decode cX9_tray 14 = .ok (.iload_n 1, 1) := by decide +kernel
theorem dX9_tray_15 : decode cX9_tray 15 = .ok (.iconst 4, 1) := by decide +kernel
theorem dX9_tray_16 : decode cX9_tray 16 = .ok (.if_icmp .ge 12, 3) := by decide +kernel
theorem dX9_tray_19 : decode cX9_tray 19 = .ok (.iload_n 2, 1) := by decide +kernel
theorem dX9_tray_20 : decode cX9_tray 20 = .ok (.ifCond .lt 8, 3) := by decide +kernel
theorem dX9_tray_23 : decode cX9_tray 23 = .ok (.iload_n 2, 1) := by decide +kernel
theorem dX9_tray_24 : decode cX9_tray 24 = .ok (.iconst 3, 1) := by decide +kernel
theorem dX9_tray_25 : decode cX9_tray 25 = .ok (.if_icmp .le 9, 3) := by decide +kernel
theorem dX9_tray_28 : decode cX9_tray 28 = .ok (.aload_n 0, 1) := by decide +kernel
theorem dX9_tray_29 : decode cX9_tray 29 = .ok (.iconst 1, 1) := by decide +kernel
theorem dX9_tray_30 : decode cX9_tray 30 = .ok (.invokevirtual 101, 3) := by decide +kernel
theorem dX9_tray_33 : decode cX9_tray 33 = .ok (.ireturn, 1) := by decide +kernel
theorem dX9_tray_34 : decode cX9_tray 34 = .ok (.iload_n 3, 1) := by decide +kernel
theorem dX9_tray_35 : decode cX9_tray 35 = .ok (.bipush 40, 2) := by decide +kernel
theorem dX9_tray_37 : decode cX9_tray 37 = .ok (.if_icmp .le 9, 3) := by decide +kernel
theorem dX9_tray_40 : decode cX9_tray 40 = .ok (.aload_n 0, 1) := by decide +kernel
theorem dX9_tray_41 : decode cX9_tray 41 = .ok (.iconst 5, 1) := by decide +kernel
theorem dX9_tray_42 : decode cX9_tray 42 = .ok (.invokevirtual 101, 3) := by decide +kernel
theorem dX9_tray_45 : decode cX9_tray 45 = .ok (.ireturn, 1) := by decide +kernel
theorem dX9_tray_46 : decode cX9_tray 46 = .ok (.iload_n 3, 1) := by decide +kernel
theorem dX9_tray_47 : decode cX9_tray 47 = .ok (.ifCond .ge 10, 3) := by decide +kernel
theorem dX9_tray_50 : decode cX9_tray 50 = .ok (.aload_n 0, 1) := by decide +kernel
theorem dX9_tray_51 : decode cX9_tray 51 = .ok (.bipush 6, 2) := by decide +kernel
theorem dX9_tray_53 : decode cX9_tray 53 = .ok (.invokevirtual 101, 3) := by decide +kernel
theorem dX9_tray_56 : decode cX9_tray 56 = .ok (.ireturn, 1) := by decide +kernel
theorem dX9_tray_57 : decode cX9_tray 57 = .ok (.aload_n 0, 1) := by decide +kernel
theorem dX9_tray_58 : decode cX9_tray 58 = .ok (.getfield 13, 3) := by decide +kernel
theorem dX9_tray_61 : decode cX9_tray 61 = .ok (.iload_n 1, 1) := by decide +kernel
theorem dX9_tray_62 : decode cX9_tray 62 = .ok (.iload_n 2, 1) := by decide +kernel
theorem dX9_tray_63 : decode cX9_tray 63 = .ok (.iastore, 1) := by decide +kernel
theorem dX9_tray_64 : decode cX9_tray 64 = .ok (.aload_n 0, 1) := by decide +kernel
theorem dX9_tray_65 : decode cX9_tray 65 = .ok (.getfield 17, 3) := by decide +kernel
theorem dX9_tray_68 : decode cX9_tray 68 = .ok (.iload_n 1, 1) := by decide +kernel
theorem dX9_tray_69 : decode cX9_tray 69 = .ok (.iload_n 3, 1) := by decide +kernel
theorem dX9_tray_70 : decode cX9_tray 70 = .ok (.iastore, 1) := by decide +kernel
theorem dX9_tray_71 : decode cX9_tray 71 = .ok (.iconst 0, 1) := by decide +kernel
theorem dX9_tray_72 : decode cX9_tray 72 = .ok (.istore 4, 2) := by decide +kernel
theorem dX9_tray_74 : decode cX9_tray 74 = .ok (.iload 4, 2) := by decide +kernel
theorem dX9_tray_76 : decode cX9_tray 76 = .ok (.iload_n 3, 1) := by decide +kernel
theorem dX9_tray_77 : decode cX9_tray 77 = .ok (.if_icmp .ge 22, 3) := by decide +kernel
theorem dX9_tray_80 : decode cX9_tray 80 = .ok (.aload_n 0, 1) := by decide +kernel
theorem dX9_tray_81 : decode cX9_tray 81 = .ok (.getfield 20, 3) := by decide +kernel
theorem dX9_tray_84 : decode cX9_tray 84 = .ok (.bipush 40, 2) := by decide +kernel
theorem dX9_tray_86 : decode cX9_tray 86 = .ok (.iload_n 1, 1) := by decide +kernel
theorem dX9_tray_87 : decode cX9_tray 87 = .ok (.imul, 1) := by decide +kernel
theorem dX9_tray_88 : decode cX9_tray 88 = .ok (.iload 4, 2) := by decide +kernel
theorem dX9_tray_90 : decode cX9_tray 90 = .ok (.iadd, 1) := by decide +kernel
theorem dX9_tray_91 : decode cX9_tray 91 = .ok (.lconst 0, 1) := by decide +kernel
theorem dX9_tray_92 : decode cX9_tray 92 = .ok (.lastore, 1) := by decide +kernel
theorem dX9_tray_93 : decode cX9_tray 93 = .ok (.iinc 4 1, 3) := by decide +kernel
theorem dX9_tray_96 : decode cX9_tray 96 = .ok (.goto (-22), 3) := by decide +kernel
theorem dX9_tray_99 : decode cX9_tray 99 = .ok (.iconst 1, 1) := by decide +kernel
theorem dX9_tray_100 : decode cX9_tray 100 = .ok (.ireturn, 1) := by decide +kernel
theorem dX9_trayed_0 : decode cX9_trayed 0 = .ok (.iload_n 1, 1) := by decide +kernel
theorem dX9_trayed_1 : decode cX9_trayed 1 = .ok (.ifCond .lt 8, 3) := by decide +kernel
theorem dX9_trayed_4 : decode cX9_trayed 4 = .ok (.iload_n 1, 1) := by decide +kernel
theorem dX9_trayed_5 : decode cX9_trayed 5 = .ok (.iconst 4, 1) := by decide +kernel
theorem dX9_trayed_6 : decode cX9_trayed 6 = .ok (.if_icmp .lt 7, 3) := by decide +kernel
theorem dX9_trayed_9 : decode cX9_trayed 9 = .ok (.iconst 1, 1) := by decide +kernel
theorem dX9_trayed_10 : decode cX9_trayed 10 = .ok (.goto 17, 3) := by decide +kernel
theorem dX9_trayed_13 : decode cX9_trayed 13 = .ok (.aload_n 0, 1) := by decide +kernel
theorem dX9_trayed_14 : decode cX9_trayed 14 = .ok (.getfield 17, 3) := by decide +kernel
theorem dX9_trayed_17 : decode cX9_trayed 17 = .ok (.iload_n 1, 1) := by decide +kernel
theorem dX9_trayed_18 : decode cX9_trayed 18 = .ok (.iaload, 1) := by decide +kernel
theorem dX9_trayed_19 : decode cX9_trayed 19 = .ok (.ifCond .ge 7, 3) := by decide +kernel
theorem dX9_trayed_22 : decode cX9_trayed 22 = .ok (.iconst 3, 1) := by decide +kernel
theorem dX9_trayed_23 : decode cX9_trayed 23 = .ok (.goto 4, 3) := by decide +kernel
theorem dX9_trayed_26 : decode cX9_trayed 26 = .ok (.iconst 0, 1) := by decide +kernel
theorem dX9_trayed_27 : decode cX9_trayed 27 = .ok (.ireturn, 1) := by decide +kernel
theorem dX9_placed_0 : decode cX9_placed 0 = .ok (.aload_n 0, 1) := by decide +kernel
theorem dX9_placed_1 : decode cX9_placed 1 = .ok (.iload_n 1, 1) := by decide +kernel
theorem dX9_placed_2 : decode cX9_placed 2 = .ok (.invokevirtual 105, 3) := by decide +kernel
theorem dX9_placed_5 : decode cX9_placed 5 = .ok (.istore_n 3, 1) := by decide +kernel
theorem dX9_placed_6 : decode cX9_placed 6 = .ok (.iload_n 3, 1) := by decide +kernel
theorem dX9_placed_7 : decode cX9_placed 7 = .ok (.ifCond .le 7, 3) := by decide +kernel
theorem dX9_placed_10 : decode cX9_placed 10 = .ok (.iload_n 3, 1) := by decide +kernel
theorem dX9_placed_11 : decode cX9_placed 11 = .ok (.goto 22, 3) := by decide +kernel
theorem dX9_placed_14 : decode cX9_placed 14 = .ok (.iload_n 2, 1) := by decide +kernel
theorem dX9_placed_15 : decode cX9_placed 15 = .ok (.ifCond .lt 13, 3) := by decide +kernel
theorem dX9_placed_18 : decode cX9_placed 18 = .ok (.iload_n 2, 1) := by decide +kernel
theorem dX9_placed_19 : decode cX9_placed 19 = .ok (.aload_n 0, 1) := by decide +kernel
theorem dX9_placed_20 : decode cX9_placed 20 = .ok (.getfield 17, 3) := by decide +kernel
theorem dX9_placed_23 : decode cX9_placed 23 = .ok (.iload_n 1, 1) := by decide +kernel
theorem dX9_placed_24 : decode cX9_placed 24 = .ok (.iaload, 1) := by decide +kernel
theorem dX9_placed_25 : decode cX9_placed 25 = .ok (.if_icmp .lt 7, 3) := by decide +kernel
theorem dX9_placed_28 : decode cX9_placed 28 = .ok (.iconst 4, 1) := by decide +kernel
theorem dX9_placed_29 : decode cX9_placed 29 = .ok (.goto 4, 3) := by decide +kernel
theorem dX9_placed_32 : decode cX9_placed 32 = .ok (.iconst 0, 1) := by decide +kernel
theorem dX9_placed_33 : decode cX9_placed 33 = .ok (.ireturn, 1) := by decide +kernel
theorem dX9_write_0 : decode cX9_write 0 = .ok (.aload_n 0, 1) := by decide +kernel
theorem dX9_write_1 : decode cX9_write 1 = .ok (.iconst 0, 1) := by decide +kernel
theorem dX9_write_2 : decode cX9_write 2 = .ok (.putfield 95, 3) := by decide +kernel
theorem dX9_write_5 : decode cX9_write 5 = .ok (.aload_n 0, 1) := by decide +kernel
theorem dX9_write_6 : decode cX9_write 6 = .ok (.aload_n 0, 1) := by decide +kernel
theorem dX9_write_7 : decode cX9_write 7 = .ok (.iload_n 1, 1) := by decide +kernel
theorem dX9_write_8 : decode cX9_write 8 = .ok (.iload_n 2, 1) := by decide +kernel
theorem dX9_write_9 : decode cX9_write 9 = .ok (.invokevirtual 109, 3) := by decide +kernel
theorem dX9_write_12 : decode cX9_write 12 = .ok (.putfield 98, 3) := by decide +kernel
theorem dX9_write_15 : decode cX9_write 15 = .ok (.aload_n 0, 1) := by decide +kernel
theorem dX9_write_16 : decode cX9_write 16 = .ok (.getfield 98, 3) := by decide +kernel
theorem dX9_write_19 : decode cX9_write 19 = .ok (.ifCond .le 5, 3) := by decide +kernel
theorem dX9_write_22 : decode cX9_write 22 = .ok (.iconst 0, 1) := by decide +kernel
theorem dX9_write_23 : decode cX9_write 23 = .ok (.ireturn, 1) := by decide +kernel
theorem dX9_write_24 : decode cX9_write 24 = .ok (.aload_n 0, 1) := by decide +kernel
theorem dX9_write_25 : decode cX9_write 25 = .ok (.getfield 20, 3) := by decide +kernel
theorem dX9_write_28 : decode cX9_write 28 = .ok (.bipush 40, 2) := by decide +kernel
theorem dX9_write_30 : decode cX9_write 30 = .ok (.iload_n 1, 1) := by decide +kernel
theorem dX9_write_31 : decode cX9_write 31 = .ok (.imul, 1) := by decide +kernel
theorem dX9_write_32 : decode cX9_write 32 = .ok (.iload_n 2, 1) := by decide +kernel
theorem dX9_write_33 : decode cX9_write 33 = .ok (.iadd, 1) := by decide +kernel
theorem dX9_write_34 : decode cX9_write 34 = .ok (.aload_n 0, 1) := by decide +kernel
theorem dX9_write_35 : decode cX9_write 35 = .ok (.getfield 13, 3) := by decide +kernel
theorem dX9_write_38 : decode cX9_write 38 = .ok (.iload_n 1, 1) := by decide +kernel
theorem dX9_write_39 : decode cX9_write 39 = .ok (.iaload, 1) := by decide +kernel
theorem dX9_write_40 : decode cX9_write 40 = .ok (.lload_n 3, 1) := by decide +kernel
theorem dX9_write_41 : decode cX9_write 41 = .ok (.invokestatic 113, 3) := by decide +kernel
theorem dX9_write_44 : decode cX9_write 44 = .ok (.lastore, 1) := by decide +kernel
theorem dX9_write_45 : decode cX9_write 45 = .ok (.iconst 1, 1) := by decide +kernel
theorem dX9_write_46 : decode cX9_write 46 = .ok (.ireturn, 1) := by decide +kernel
theorem dX9_read_0 : decode cX9_read 0 = .ok (.aload_n 0, 1) := by decide +kernel
theorem dX9_read_1 : decode cX9_read 1 = .ok (.iconst 0, 1) := by decide +kernel
theorem dX9_read_2 : decode cX9_read 2 = .ok (.putfield 95, 3) := by decide +kernel
theorem dX9_read_5 : decode cX9_read 5 = .ok (.aload_n 0, 1) := by decide +kernel
theorem dX9_read_6 : decode cX9_read 6 = .ok (.aload_n 0, 1) := by decide +kernel
theorem dX9_read_7 : decode cX9_read 7 = .ok (.iload_n 1, 1) := by decide +kernel
theorem dX9_read_8 : decode cX9_read 8 = .ok (.iload_n 2, 1) := by decide +kernel
theorem dX9_read_9 : decode cX9_read 9 = .ok (.invokevirtual 109, 3) := by decide +kernel
theorem dX9_read_12 : decode cX9_read 12 = .ok (.putfield 98, 3) := by decide +kernel
theorem dX9_read_15 : decode cX9_read 15 = .ok (.aload_n 0, 1) := by decide +kernel
theorem dX9_read_16 : decode cX9_read 16 = .ok (.getfield 98, 3) := by decide +kernel
theorem dX9_read_19 : decode cX9_read 19 = .ok (.ifCond .le 9, 3) := by decide +kernel
theorem dX9_read_22 : decode cX9_read 22 = .ok (.ldc2_w 117, 3) := by decide +kernel
theorem dX9_read_25 : decode cX9_read 25 = .ok (.goto 14, 3) := by decide +kernel
theorem dX9_read_28 : decode cX9_read 28 = .ok (.aload_n 0, 1) := by decide +kernel
theorem dX9_read_29 : decode cX9_read 29 = .ok (.getfield 20, 3) := by decide +kernel
theorem dX9_read_32 : decode cX9_read 32 = .ok (.bipush 40, 2) := by decide +kernel
theorem dX9_read_34 : decode cX9_read 34 = .ok (.iload_n 1, 1) := by decide +kernel
theorem dX9_read_35 : decode cX9_read 35 = .ok (.imul, 1) := by decide +kernel
theorem dX9_read_36 : decode cX9_read 36 = .ok (.iload_n 2, 1) := by decide +kernel
theorem dX9_read_37 : decode cX9_read 37 = .ok (.iadd, 1) := by decide +kernel
theorem dX9_read_38 : decode cX9_read 38 = .ok (.laload, 1) := by decide +kernel
theorem dX9_read_39 : decode cX9_read 39 = .ok (.lreturn, 1) := by decide +kernel
theorem dX9_pour_0 : decode cX9_pour 0 = .ok (.aload_n 0, 1) := by decide +kernel
theorem dX9_pour_1 : decode cX9_pour 1 = .ok (.iconst 0, 1) := by decide +kernel
theorem dX9_pour_2 : decode cX9_pour 2 = .ok (.putfield 95, 3) := by decide +kernel
theorem dX9_pour_5 : decode cX9_pour 5 = .ok (.aload_n 0, 1) := by decide +kernel
theorem dX9_pour_6 : decode cX9_pour 6 = .ok (.iconst 0, 1) := by decide +kernel
theorem dX9_pour_7 : decode cX9_pour 7 = .ok (.putfield 98, 3) := by decide +kernel
theorem dX9_pour_10 : decode cX9_pour 10 = .ok (.iload_n 1, 1) := by decide +kernel
theorem dX9_pour_11 : decode cX9_pour 11 = .ok (.ifCond .lt 17, 3) := by decide +kernel
theorem dX9_pour_14 : decode cX9_pour 14 = .ok (.iload_n 1, 1) := by decide +kernel
theorem dX9_pour_15 : decode cX9_pour 15 = .ok (.iconst 4, 1) := by decide +kernel
theorem dX9_pour_16 : decode cX9_pour 16 = .ok (.if_icmp .ge 12, 3) := by decide +kernel
theorem dX9_pour_19 : decode cX9_pour 19 = .ok (.iload_n 3, 1) := by decide +kernel
theorem dX9_pour_20 : decode cX9_pour 20 = .ok (.ifCond .lt 8, 3) := by decide +kernel
theorem dX9_pour_23 : decode cX9_pour 23 = .ok (.iload_n 3, 1) := by decide +kernel
theorem dX9_pour_24 : decode cX9_pour 24 = .ok (.iconst 4, 1) := by decide +kernel
theorem dX9_pour_25 : decode cX9_pour 25 = .ok (.if_icmp .lt 9, 3) := by decide +kernel
theorem dX9_pour_28 : decode cX9_pour 28 = .ok (.aload_n 0, 1) := by decide +kernel
theorem dX9_pour_29 : decode cX9_pour 29 = .ok (.iconst 1, 1) := by decide +kernel
theorem dX9_pour_30 : decode cX9_pour 30 = .ok (.invokevirtual 101, 3) := by decide +kernel
theorem dX9_pour_33 : decode cX9_pour 33 = .ok (.ireturn, 1) := by decide +kernel
theorem dX9_pour_34 : decode cX9_pour 34 = .ok (.aload_n 0, 1) := by decide +kernel
theorem dX9_pour_35 : decode cX9_pour 35 = .ok (.getfield 17, 3) := by decide +kernel
theorem dX9_pour_38 : decode cX9_pour 38 = .ok (.iload_n 1, 1) := by decide +kernel
theorem dX9_pour_39 : decode cX9_pour 39 = .ok (.iaload, 1) := by decide +kernel
theorem dX9_pour_40 : decode cX9_pour 40 = .ok (.ifCond .lt 12, 3) := by decide +kernel
theorem dX9_pour_43 : decode cX9_pour 43 = .ok (.aload_n 0, 1) := by decide +kernel
theorem dX9_pour_44 : decode cX9_pour 44 = .ok (.getfield 17, 3) := by decide +kernel
theorem dX9_pour_47 : decode cX9_pour 47 = .ok (.iload_n 3, 1) := by decide +kernel
theorem dX9_pour_48 : decode cX9_pour 48 = .ok (.iaload, 1) := by decide +kernel
theorem dX9_pour_49 : decode cX9_pour 49 = .ok (.ifCond .ge 9, 3) := by decide +kernel
theorem dX9_pour_52 : decode cX9_pour 52 = .ok (.aload_n 0, 1) := by decide +kernel
theorem dX9_pour_53 : decode cX9_pour 53 = .ok (.iconst 3, 1) := by decide +kernel
theorem dX9_pour_54 : decode cX9_pour 54 = .ok (.invokevirtual 101, 3) := by decide +kernel
theorem dX9_pour_57 : decode cX9_pour 57 = .ok (.ireturn, 1) := by decide +kernel
theorem dX9_pour_58 : decode cX9_pour 58 = .ok (.aload_n 0, 1) := by decide +kernel
theorem dX9_pour_59 : decode cX9_pour 59 = .ok (.getfield 13, 3) := by decide +kernel
theorem dX9_pour_62 : decode cX9_pour 62 = .ok (.iload_n 1, 1) := by decide +kernel
theorem dX9_pour_63 : decode cX9_pour 63 = .ok (.iaload, 1) := by decide +kernel
theorem dX9_pour_64 : decode cX9_pour 64 = .ok (.aload_n 0, 1) := by decide +kernel
theorem dX9_pour_65 : decode cX9_pour 65 = .ok (.getfield 13, 3) := by decide +kernel
theorem dX9_pour_68 : decode cX9_pour 68 = .ok (.iload_n 3, 1) := by decide +kernel
theorem dX9_pour_69 : decode cX9_pour 69 = .ok (.iaload, 1) := by decide +kernel
theorem dX9_pour_70 : decode cX9_pour 70 = .ok (.if_icmp .eq 10, 3) := by decide +kernel
theorem dX9_pour_73 : decode cX9_pour 73 = .ok (.aload_n 0, 1) := by decide +kernel
theorem dX9_pour_74 : decode cX9_pour 74 = .ok (.bipush 11, 2) := by decide +kernel
theorem dX9_pour_76 : decode cX9_pour 76 = .ok (.invokevirtual 101, 3) := by decide +kernel
theorem dX9_pour_79 : decode cX9_pour 79 = .ok (.ireturn, 1) := by decide +kernel
theorem dX9_pour_80 : decode cX9_pour 80 = .ok (.iload 5, 2) := by decide +kernel
theorem dX9_pour_82 : decode cX9_pour 82 = .ok (.ifCond .ge 10, 3) := by decide +kernel
theorem dX9_pour_85 : decode cX9_pour 85 = .ok (.aload_n 0, 1) := by decide +kernel
theorem dX9_pour_86 : decode cX9_pour 86 = .ok (.bipush 6, 2) := by decide +kernel
theorem dX9_pour_88 : decode cX9_pour 88 = .ok (.invokevirtual 101, 3) := by decide +kernel
theorem dX9_pour_91 : decode cX9_pour 91 = .ok (.ireturn, 1) := by decide +kernel
theorem dX9_pour_92 : decode cX9_pour 92 = .ok (.iload_n 2, 1) := by decide +kernel
theorem dX9_pour_93 : decode cX9_pour 93 = .ok (.ifCond .lt 43, 3) := by decide +kernel
theorem dX9_pour_96 : decode cX9_pour 96 = .ok (.iload 4, 2) := by decide +kernel
theorem dX9_pour_98 : decode cX9_pour 98 = .ok (.ifCond .lt 38, 3) := by decide +kernel
theorem dX9_pour_101 : decode cX9_pour 101 = .ok (.iload_n 2, 1) := by decide +kernel
theorem dX9_pour_102 : decode cX9_pour 102 = .ok (.i2l, 1) := by decide +kernel
theorem dX9_pour_103 : decode cX9_pour 103 = .ok (.iload 5, 2) := by decide +kernel
theorem dX9_pour_105 : decode cX9_pour 105 = .ok (.i2l, 1) := by decide +kernel
theorem dX9_pour_106 : decode cX9_pour 106 = .ok (.ladd, 1) := by decide +kernel
theorem dX9_pour_107 : decode cX9_pour 107 = .ok (.aload_n 0, 1) := by decide +kernel
theorem dX9_pour_108 : decode cX9_pour 108 = .ok (.getfield 17, 3) := by decide +kernel
theorem dX9_pour_111 : decode cX9_pour 111 = .ok (.iload_n 1, 1) := by decide +kernel
theorem dX9_pour_112 : decode cX9_pour 112 = .ok (.iaload, 1) := by decide +kernel
theorem dX9_pour_113 : decode cX9_pour 113 = .ok (.i2l, 1) := by decide +kernel
theorem dX9_pour_114 : decode cX9_pour 114 = .ok (.lcmp, 1) := by decide +kernel
theorem dX9_pour_115 : decode cX9_pour 115 = .ok (.ifCond .gt 21, 3) := by decide +kernel
theorem dX9_pour_118 : decode cX9_pour 118 = .ok (.iload 4, 2) := by decide +kernel
theorem dX9_pour_120 : decode cX9_pour 120 = .ok (.i2l, 1) := by decide +kernel
theorem dX9_pour_121 : decode cX9_pour 121 = .ok (.iload 5, 2) := by decide +kernel
theorem dX9_pour_123 : decode cX9_pour 123 = .ok (.i2l, 1) := by decide +kernel
theorem dX9_pour_124 : decode cX9_pour 124 = .ok (.ladd, 1) := by decide +kernel
theorem dX9_pour_125 : decode cX9_pour 125 = .ok (.aload_n 0, 1) := by decide +kernel
theorem dX9_pour_126 : decode cX9_pour 126 = .ok (.getfield 17, 3) := by decide +kernel
theorem dX9_pour_129 : decode cX9_pour 129 = .ok (.iload_n 3, 1) := by decide +kernel
theorem dX9_pour_130 : decode cX9_pour 130 = .ok (.iaload, 1) := by decide +kernel
theorem dX9_pour_131 : decode cX9_pour 131 = .ok (.i2l, 1) := by decide +kernel
theorem dX9_pour_132 : decode cX9_pour 132 = .ok (.lcmp, 1) := by decide +kernel
theorem dX9_pour_133 : decode cX9_pour 133 = .ok (.ifCond .le 9, 3) := by decide +kernel
theorem dX9_pour_136 : decode cX9_pour 136 = .ok (.aload_n 0, 1) := by decide +kernel
theorem dX9_pour_137 : decode cX9_pour 137 = .ok (.iconst 4, 1) := by decide +kernel
theorem dX9_pour_138 : decode cX9_pour 138 = .ok (.invokevirtual 101, 3) := by decide +kernel
theorem dX9_pour_141 : decode cX9_pour 141 = .ok (.ireturn, 1) := by decide +kernel
theorem dX9_pour_142 : decode cX9_pour 142 = .ok (.iload_n 2, 1) := by decide +kernel
theorem dX9_pour_143 : decode cX9_pour 143 = .ok (.iload 4, 2) := by decide +kernel
theorem dX9_pour_145 : decode cX9_pour 145 = .ok (.if_icmp .ge 7, 3) := by decide +kernel
theorem dX9_pour_148 : decode cX9_pour 148 = .ok (.iconst 1, 1) := by decide +kernel
theorem dX9_pour_149 : decode cX9_pour 149 = .ok (.goto 4, 3) := by decide +kernel
theorem dX9_pour_152 : decode cX9_pour 152 = .ok (.iconst 0, 1) := by decide +kernel
theorem dX9_pour_153 : decode cX9_pour 153 = .ok (.istore 6, 2) := by decide +kernel
theorem dX9_pour_155 : decode cX9_pour 155 = .ok (.iconst 0, 1) := by decide +kernel
theorem dX9_pour_156 : decode cX9_pour 156 = .ok (.istore 7, 2) := by decide +kernel
theorem dX9_pour_158 : decode cX9_pour 158 = .ok (.iload 7, 2) := by decide +kernel
theorem dX9_pour_160 : decode cX9_pour 160 = .ok (.iload 5, 2) := by decide +kernel
theorem dX9_pour_162 : decode cX9_pour 162 = .ok (.if_icmp .ge 57, 3) := by decide +kernel
theorem dX9_pour_165 : decode cX9_pour 165 = .ok (.iload 6, 2) := by decide +kernel
theorem dX9_pour_167 : decode cX9_pour 167 = .ok (.ifCond .eq 13, 3) := by decide +kernel
theorem dX9_pour_170 : decode cX9_pour 170 = .ok (.iload 5, 2) := by decide +kernel
theorem dX9_pour_172 : decode cX9_pour 172 = .ok (.iconst 1, 1) := by decide +kernel
theorem dX9_pour_173 : decode cX9_pour 173 = .ok (.isub, 1) := by decide +kernel
theorem dX9_pour_174 : decode cX9_pour 174 = .ok (.iload 7, 2) := by decide +kernel
theorem dX9_pour_176 : decode cX9_pour 176 = .ok (.isub, 1) := by decide +kernel
theorem dX9_pour_177 : decode cX9_pour 177 = .ok (.goto 5, 3) := by decide +kernel
theorem dX9_pour_180 : decode cX9_pour 180 = .ok (.iload 7, 2) := by decide +kernel
theorem dX9_pour_182 : decode cX9_pour 182 = .ok (.istore 8, 2) := by decide +kernel
theorem dX9_pour_184 : decode cX9_pour 184 = .ok (.aload_n 0, 1) := by decide +kernel
theorem dX9_pour_185 : decode cX9_pour 185 = .ok (.getfield 20, 3) := by decide +kernel
theorem dX9_pour_188 : decode cX9_pour 188 = .ok (.bipush 40, 2) := by decide +kernel
theorem dX9_pour_190 : decode cX9_pour 190 = .ok (.iload_n 3, 1) := by decide +kernel
theorem dX9_pour_191 : decode cX9_pour 191 = .ok (.imul, 1) := by decide +kernel
theorem dX9_pour_192 : decode cX9_pour 192 = .ok (.iload 4, 2) := by decide +kernel
theorem dX9_pour_194 : decode cX9_pour 194 = .ok (.iadd, 1) := by decide +kernel
theorem dX9_pour_195 : decode cX9_pour 195 = .ok (.iload 8, 2) := by decide +kernel
theorem dX9_pour_197 : decode cX9_pour 197 = .ok (.iadd, 1) := by decide +kernel
theorem dX9_pour_198 : decode cX9_pour 198 = .ok (.aload_n 0, 1) := by decide +kernel
theorem dX9_pour_199 : decode cX9_pour 199 = .ok (.getfield 20, 3) := by decide +kernel
theorem dX9_pour_202 : decode cX9_pour 202 = .ok (.bipush 40, 2) := by decide +kernel
theorem dX9_pour_204 : decode cX9_pour 204 = .ok (.iload_n 1, 1) := by decide +kernel
theorem dX9_pour_205 : decode cX9_pour 205 = .ok (.imul, 1) := by decide +kernel
theorem dX9_pour_206 : decode cX9_pour 206 = .ok (.iload_n 2, 1) := by decide +kernel
theorem dX9_pour_207 : decode cX9_pour 207 = .ok (.iadd, 1) := by decide +kernel
theorem dX9_pour_208 : decode cX9_pour 208 = .ok (.iload 8, 2) := by decide +kernel
theorem dX9_pour_210 : decode cX9_pour 210 = .ok (.iadd, 1) := by decide +kernel
theorem dX9_pour_211 : decode cX9_pour 211 = .ok (.laload, 1) := by decide +kernel
theorem dX9_pour_212 : decode cX9_pour 212 = .ok (.lastore, 1) := by decide +kernel
theorem dX9_pour_213 : decode cX9_pour 213 = .ok (.iinc 7 1, 3) := by decide +kernel
theorem dX9_pour_216 : decode cX9_pour 216 = .ok (.goto (-58), 3) := by decide +kernel
theorem dX9_pour_219 : decode cX9_pour 219 = .ok (.iconst 1, 1) := by decide +kernel
theorem dX9_pour_220 : decode cX9_pour 220 = .ok (.ireturn, 1) := by decide +kernel
theorem dX9_common_0 : decode cX9_common 0 = .ok (.lload_n 0, 1) := by decide +kernel
theorem dX9_common_1 : decode cX9_common 1 = .ok (.lstore 4, 2) := by decide +kernel
theorem dX9_common_3 : decode cX9_common 3 = .ok (.lload_n 2, 1) := by decide +kernel
theorem dX9_common_4 : decode cX9_common 4 = .ok (.lstore 6, 2) := by decide +kernel
theorem dX9_common_6 : decode cX9_common 6 = .ok (.lload 6, 2) := by decide +kernel
theorem dX9_common_8 : decode cX9_common 8 = .ok (.lconst 0, 1) := by decide +kernel
theorem dX9_common_9 : decode cX9_common 9 = .ok (.lcmp, 1) := by decide +kernel
theorem dX9_common_10 : decode cX9_common 10 = .ok (.ifCond .eq 21, 3) := by decide +kernel
theorem dX9_common_13 : decode cX9_common 13 = .ok (.lload 4, 2) := by decide +kernel
theorem dX9_common_15 : decode cX9_common 15 = .ok (.lload 6, 2) := by decide +kernel
theorem dX9_common_17 : decode cX9_common 17 = .ok (.lrem, 1) := by decide +kernel
theorem dX9_common_18 : decode cX9_common 18 = .ok (.lstore 8, 2) := by decide +kernel
theorem dX9_common_20 : decode cX9_common 20 = .ok (.lload 6, 2) := by decide +kernel
theorem dX9_common_22 : decode cX9_common 22 = .ok (.lstore 4, 2) := by decide +kernel
theorem dX9_common_24 : decode cX9_common 24 = .ok (.lload 8, 2) := by decide +kernel
theorem dX9_common_26 : decode cX9_common 26 = .ok (.lstore 6, 2) := by decide +kernel
theorem dX9_common_28 : decode cX9_common 28 = .ok (.goto (-22), 3) := by decide +kernel
theorem dX9_common_31 : decode cX9_common 31 = .ok (.lload 4, 2) := by decide +kernel
theorem dX9_common_33 : decode cX9_common 33 = .ok (.lreturn, 1) := by decide +kernel
theorem dX9_clearMade_0 : decode cX9_clearMade 0 = .ok (.iconst 0, 1) := by decide +kernel
theorem dX9_clearMade_1 : decode cX9_clearMade 1 = .ok (.istore_n 1, 1) := by decide +kernel
theorem dX9_clearMade_2 : decode cX9_clearMade 2 = .ok (.iload_n 1, 1) := by decide +kernel
theorem dX9_clearMade_3 : decode cX9_clearMade 3 = .ok (.sipush 300, 3) := by decide +kernel
theorem dX9_clearMade_6 : decode cX9_clearMade 6 = .ok (.if_icmp .ge 16, 3) := by decide +kernel
theorem dX9_clearMade_9 : decode cX9_clearMade 9 = .ok (.aload_n 0, 1) := by decide +kernel
theorem dX9_clearMade_10 : decode cX9_clearMade 10 = .ok (.getfield 58, 3) := by decide +kernel
theorem dX9_clearMade_13 : decode cX9_clearMade 13 = .ok (.iload_n 1, 1) := by decide +kernel
theorem dX9_clearMade_14 : decode cX9_clearMade 14 = .ok (.lconst 0, 1) := by decide +kernel
theorem dX9_clearMade_15 : decode cX9_clearMade 15 = .ok (.lastore, 1) := by decide +kernel
theorem dX9_clearMade_16 : decode cX9_clearMade 16 = .ok (.iinc 1 1, 3) := by decide +kernel
theorem dX9_clearMade_19 : decode cX9_clearMade 19 = .ok (.goto (-17), 3) := by decide +kernel
theorem dX9_clearMade_22 : decode cX9_clearMade 22 = .ok (.return_, 1) := by decide +kernel
theorem dX9_adds_0 : decode cX9_adds 0 = .ok (.aload_n 0, 1) := by decide +kernel
theorem dX9_adds_1 : decode cX9_adds 1 = .ok (.getfield 119, 3) := by decide +kernel
theorem dX9_adds_4 : decode cX9_adds 4 = .ok (.bipush 10, 2) := by decide +kernel
theorem dX9_adds_6 : decode cX9_adds 6 = .ok (.if_icmp .ne 10, 3) := by decide +kernel
theorem dX9_adds_9 : decode cX9_adds 9 = .ok (.aload_n 0, 1) := by decide +kernel
theorem dX9_adds_10 : decode cX9_adds 10 = .ok (.bipush 7, 2) := by decide +kernel
theorem dX9_adds_12 : decode cX9_adds 12 = .ok (.invokevirtual 122, 3) := by decide +kernel
theorem dX9_adds_15 : decode cX9_adds 15 = .ok (.ireturn, 1) := by decide +kernel
theorem dX9_adds_16 : decode cX9_adds 16 = .ok (.lconst 0, 1) := by decide +kernel
theorem dX9_adds_17 : decode cX9_adds 17 = .ok (.lstore_n 2, 1) := by decide +kernel
theorem dX9_adds_18 : decode cX9_adds 18 = .ok (.iconst 0, 1) := by decide +kernel
theorem dX9_adds_19 : decode cX9_adds 19 = .ok (.istore 4, 2) := by decide +kernel
theorem dX9_adds_21 : decode cX9_adds 21 = .ok (.iconst 0, 1) := by decide +kernel
theorem dX9_adds_22 : decode cX9_adds 22 = .ok (.istore 5, 2) := by decide +kernel
theorem dX9_adds_24 : decode cX9_adds 24 = .ok (.iload 5, 2) := by decide +kernel
theorem dX9_adds_26 : decode cX9_adds 26 = .ok (.sipush 300, 3) := by decide +kernel
theorem dX9_adds_29 : decode cX9_adds 29 = .ok (.if_icmp .ge 43, 3) := by decide +kernel
theorem dX9_adds_32 : decode cX9_adds 32 = .ok (.aload_n 0, 1) := by decide +kernel
theorem dX9_adds_33 : decode cX9_adds 33 = .ok (.getfield 58, 3) := by decide +kernel
theorem dX9_adds_36 : decode cX9_adds 36 = .ok (.iload 5, 2) := by decide +kernel
theorem dX9_adds_38 : decode cX9_adds 38 = .ok (.laload, 1) := by decide +kernel
theorem dX9_adds_39 : decode cX9_adds 39 = .ok (.lload_n 2, 1) := by decide +kernel
theorem dX9_adds_40 : decode cX9_adds 40 = .ok (.invokestatic 125, 3) := by decide +kernel
theorem dX9_adds_43 : decode cX9_adds 43 = .ok (.lstore_n 2, 1) := by decide +kernel
theorem dX9_adds_44 : decode cX9_adds 44 = .ok (.iload 4, 2) := by decide +kernel
theorem dX9_adds_46 : decode cX9_adds 46 = .ok (.aload_n 0, 1) := by decide +kernel
theorem dX9_adds_47 : decode cX9_adds 47 = .ok (.getfield 58, 3) := by decide +kernel
theorem dX9_adds_50 : decode cX9_adds 50 = .ok (.iload 5, 2) := by decide +kernel
theorem dX9_adds_52 : decode cX9_adds 52 = .ok (.laload, 1) := by decide +kernel
theorem dX9_adds_53 : decode cX9_adds 53 = .ok (.lconst 0, 1) := by decide +kernel
theorem dX9_adds_54 : decode cX9_adds 54 = .ok (.lcmp, 1) := by decide +kernel
theorem dX9_adds_55 : decode cX9_adds 55 = .ok (.ifCond .le 7, 3) := by decide +kernel
theorem dX9_adds_58 : decode cX9_adds 58 = .ok (.iconst 1, 1) := by decide +kernel
theorem dX9_adds_59 : decode cX9_adds 59 = .ok (.goto 4, 3) := by decide +kernel
theorem dX9_adds_62 : decode cX9_adds 62 = .ok (.iconst 0, 1) := by decide +kernel
theorem dX9_adds_63 : decode cX9_adds 63 = .ok (.iadd, 1) := by decide +kernel
theorem dX9_adds_64 : decode cX9_adds 64 = .ok (.istore 4, 2) := by decide +kernel
theorem dX9_adds_66 : decode cX9_adds 66 = .ok (.iinc 5 1, 3) := by decide +kernel
theorem dX9_adds_69 : decode cX9_adds 69 = .ok (.goto (-45), 3) := by decide +kernel
theorem dX9_adds_72 : decode cX9_adds 72 = .ok (.iload 4, 2) := by decide +kernel
theorem dX9_adds_74 : decode cX9_adds 74 = .ok (.bipush 8, 2) := by decide +kernel
theorem dX9_adds_76 : decode cX9_adds 76 = .ok (.if_icmp .le 10, 3) := by decide +kernel
theorem dX9_adds_79 : decode cX9_adds 79 = .ok (.aload_n 0, 1) := by decide +kernel
theorem dX9_adds_80 : decode cX9_adds 80 = .ok (.bipush 7, 2) := by decide +kernel
theorem dX9_adds_82 : decode cX9_adds 82 = .ok (.invokevirtual 122, 3) := by decide +kernel
theorem dX9_adds_85 : decode cX9_adds 85 = .ok (.ireturn, 1) := by decide +kernel
theorem dX9_adds_86 : decode cX9_adds 86 = .ok (.iconst 0, 1) := by decide +kernel
theorem dX9_adds_87 : decode cX9_adds 87 = .ok (.istore 5, 2) := by decide +kernel
theorem dX9_adds_89 : decode cX9_adds 89 = .ok (.iload 5, 2) := by decide +kernel
theorem dX9_adds_91 : decode cX9_adds 91 = .ok (.sipush 300, 3) := by decide +kernel
theorem dX9_adds_94 : decode cX9_adds 94 = .ok (.if_icmp .ge 51, 3) := by decide +kernel
theorem dX9_adds_97 : decode cX9_adds 97 = .ok (.aload_n 0, 1) := by decide +kernel
theorem dX9_adds_98 : decode cX9_adds 98 = .ok (.getfield 58, 3) := by decide +kernel
theorem dX9_adds_101 : decode cX9_adds 101 = .ok (.iload 5, 2) := by decide +kernel
theorem dX9_adds_103 : decode cX9_adds 103 = .ok (.laload, 1) := by decide +kernel
theorem dX9_adds_104 : decode cX9_adds 104 = .ok (.lconst 0, 1) := by decide +kernel
theorem dX9_adds_105 : decode cX9_adds 105 = .ok (.lcmp, 1) := by decide +kernel
theorem dX9_adds_106 : decode cX9_adds 106 = .ok (.ifCond .le 33, 3) := by decide +kernel
theorem dX9_adds_109 : decode cX9_adds 109 = .ok (.iload 5, 2) := by decide +kernel
theorem dX9_adds_111 : decode cX9_adds 111 = .ok (.bipush 99, 2) := by decide +kernel
theorem dX9_adds_113 : decode cX9_adds 113 = .ok (.if_icmp .gt 19, 3) := by decide +kernel
theorem dX9_adds_116 : decode cX9_adds 116 = .ok (.aload_n 0, 1) := by decide +kernel
theorem dX9_adds_117 : decode cX9_adds 117 = .ok (.getfield 58, 3) := by decide +kernel
theorem dX9_adds_120 : decode cX9_adds 120 = .ok (.iload 5, 2) := by decide +kernel
theorem dX9_adds_122 : decode cX9_adds 122 = .ok (.laload, 1) := by decide +kernel
theorem dX9_adds_123 : decode cX9_adds 123 = .ok (.lload_n 2, 1) := by decide +kernel
theorem dX9_adds_124 : decode cX9_adds 124 = .ok (.ldiv, 1) := by decide +kernel
theorem dX9_adds_125 : decode cX9_adds 125 = .ok (.ldc2_w 129, 3) := by decide +kernel
theorem dX9_adds_128 : decode cX9_adds 128 = .ok (.lcmp, 1) := by decide +kernel
theorem dX9_adds_129 : decode cX9_adds 129 = .ok (.ifCond .le 10, 3) := by decide +kernel
theorem dX9_adds_132 : decode cX9_adds 132 = .ok (.aload_n 0, 1) := by decide +kernel
theorem dX9_adds_133 : decode cX9_adds 133 = .ok (.bipush 7, 2) := by decide +kernel
theorem dX9_adds_135 : decode cX9_adds 135 = .ok (.invokevirtual 122, 3) := by decide +kernel
theorem dX9_adds_138 : decode cX9_adds 138 = .ok (.ireturn, 1) := by decide +kernel
theorem dX9_adds_139 : decode cX9_adds 139 = .ok (.iinc 5 1, 3) := by decide +kernel
theorem dX9_adds_142 : decode cX9_adds 142 = .ok (.goto (-53), 3) := by decide +kernel
theorem dX9_adds_145 : decode cX9_adds 145 = .ok (.bipush 8, 2) := by decide +kernel
theorem dX9_adds_147 : decode cX9_adds 147 = .ok (.aload_n 0, 1) := by decide +kernel
theorem dX9_adds_148 : decode cX9_adds 148 = .ok (.getfield 119, 3) := by decide +kernel
theorem dX9_adds_151 : decode cX9_adds 151 = .ok (.imul, 1) := by decide +kernel
theorem dX9_adds_152 : decode cX9_adds 152 = .ok (.istore 5, 2) := by decide +kernel
theorem dX9_adds_154 : decode cX9_adds 154 = .ok (.iconst 0, 1) := by decide +kernel
theorem dX9_adds_155 : decode cX9_adds 155 = .ok (.istore 6, 2) := by decide +kernel
theorem dX9_adds_157 : decode cX9_adds 157 = .ok (.iload 6, 2) := by decide +kernel
theorem dX9_adds_159 : decode cX9_adds 159 = .ok (.sipush 300, 3) := by decide +kernel
theorem dX9_adds_162 : decode cX9_adds 162 = .ok (.if_icmp .ge 53, 3) := by decide +kernel
theorem dX9_adds_165 : decode cX9_adds 165 = .ok (.aload_n 0, 1) := by decide +kernel
theorem dX9_adds_166 : decode cX9_adds 166 = .ok (.getfield 58, 3) := by decide +kernel
theorem dX9_adds_169 : decode cX9_adds 169 = .ok (.iload 6, 2) := by decide +kernel
theorem dX9_adds_171 : decode cX9_adds 171 = .ok (.laload, 1) := by decide +kernel
theorem dX9_adds_172 : decode cX9_adds 172 = .ok (.lconst 0, 1) := by decide +kernel
theorem dX9_adds_173 : decode cX9_adds 173 = .ok (.lcmp, 1) := by decide +kernel
theorem dX9_adds_174 : decode cX9_adds 174 = .ok (.ifCond .ne 6, 3) := by decide +kernel
theorem dX9_adds_177 : decode cX9_adds 177 = .ok (.goto 32, 3) := by decide +kernel
theorem dX9_adds_180 : decode cX9_adds 180 = .ok (.aload_n 0, 1) := by decide +kernel
theorem dX9_adds_181 : decode cX9_adds 181 = .ok (.getfield 43, 3) := by decide +kernel
theorem dX9_adds_184 : decode cX9_adds 184 = .ok (.iload 5, 2) := by decide +kernel
theorem dX9_adds_186 : decode cX9_adds 186 = .ok (.iload 6, 2) := by decide +kernel
theorem dX9_adds_188 : decode cX9_adds 188 = .ok (.iastore, 1) := by decide +kernel
theorem dX9_adds_189 : decode cX9_adds 189 = .ok (.aload_n 0, 1) := by decide +kernel
theorem dX9_adds_190 : decode cX9_adds 190 = .ok (.getfield 46, 3) := by decide +kernel
theorem dX9_adds_193 : decode cX9_adds 193 = .ok (.iload 5, 2) := by decide +kernel
theorem dX9_adds_195 : decode cX9_adds 195 = .ok (.aload_n 0, 1) := by decide +kernel
theorem dX9_adds_196 : decode cX9_adds 196 = .ok (.getfield 58, 3) := by decide +kernel
theorem dX9_adds_199 : decode cX9_adds 199 = .ok (.iload 6, 2) := by decide +kernel
theorem dX9_adds_201 : decode cX9_adds 201 = .ok (.laload, 1) := by decide +kernel
theorem dX9_adds_202 : decode cX9_adds 202 = .ok (.lload_n 2, 1) := by decide +kernel
theorem dX9_adds_203 : decode cX9_adds 203 = .ok (.ldiv, 1) := by decide +kernel
theorem dX9_adds_204 : decode cX9_adds 204 = .ok (.l2i, 1) := by decide +kernel
theorem dX9_adds_205 : decode cX9_adds 205 = .ok (.iastore, 1) := by decide +kernel
theorem dX9_adds_206 : decode cX9_adds 206 = .ok (.iinc 5 1, 3) := by decide +kernel
theorem dX9_adds_209 : decode cX9_adds 209 = .ok (.iinc 6 1, 3) := by decide +kernel
theorem dX9_adds_212 : decode cX9_adds 212 = .ok (.goto (-55), 3) := by decide +kernel
theorem dX9_adds_215 : decode cX9_adds 215 = .ok (.aload_n 0, 1) := by decide +kernel
theorem dX9_adds_216 : decode cX9_adds 216 = .ok (.getfield 31, 3) := by decide +kernel
theorem dX9_adds_219 : decode cX9_adds 219 = .ok (.aload_n 0, 1) := by decide +kernel
theorem dX9_adds_220 : decode cX9_adds 220 = .ok (.getfield 119, 3) := by decide +kernel
theorem dX9_adds_223 : decode cX9_adds 223 = .ok (.iload 4, 2) := by decide +kernel
theorem dX9_adds_225 : decode cX9_adds 225 = .ok (.iastore, 1) := by decide +kernel
theorem dX9_adds_226 : decode cX9_adds 226 = .ok (.aload_n 0, 1) := by decide +kernel
theorem dX9_adds_227 : decode cX9_adds 227 = .ok (.getfield 34, 3) := by decide +kernel
theorem dX9_adds_230 : decode cX9_adds 230 = .ok (.aload_n 0, 1) := by decide +kernel
theorem dX9_adds_231 : decode cX9_adds 231 = .ok (.getfield 119, 3) := by decide +kernel
theorem dX9_adds_234 : decode cX9_adds 234 = .ok (.iload_n 1, 1) := by decide +kernel
theorem dX9_adds_235 : decode cX9_adds 235 = .ok (.iastore, 1) := by decide +kernel
theorem dX9_adds_236 : decode cX9_adds 236 = .ok (.aload_n 0, 1) := by decide +kernel
theorem dX9_adds_237 : decode cX9_adds 237 = .ok (.getfield 37, 3) := by decide +kernel
theorem dX9_adds_240 : decode cX9_adds 240 = .ok (.aload_n 0, 1) := by decide +kernel
theorem dX9_adds_241 : decode cX9_adds 241 = .ok (.getfield 119, 3) := by decide +kernel
theorem dX9_adds_244 : decode cX9_adds 244 = .ok (.iconst 0, 1) := by decide +kernel
theorem dX9_adds_245 : decode cX9_adds 245 = .ok (.iastore, 1) := by decide +kernel
theorem dX9_adds_246 : decode cX9_adds 246 = .ok (.aload_n 0, 1) := by decide +kernel
theorem dX9_adds_247 : decode cX9_adds 247 = .ok (.getfield 40, 3) := by decide +kernel
theorem dX9_adds_250 : decode cX9_adds 250 = .ok (.aload_n 0, 1) := by decide +kernel
theorem dX9_adds_251 : decode cX9_adds 251 = .ok (.getfield 119, 3) := by decide +kernel
theorem dX9_adds_254 : decode cX9_adds 254 = .ok (.iconst (-1), 1) := by decide +kernel
theorem dX9_adds_255 : decode cX9_adds 255 = .ok (.iastore, 1) := by decide +kernel
theorem dX9_adds_256 : decode cX9_adds 256 = .ok (.iconst 0, 1) := by decide +kernel
theorem dX9_adds_257 : decode cX9_adds 257 = .ok (.istore 6, 2) := by decide +kernel
theorem dX9_adds_259 : decode cX9_adds 259 = .ok (.iload 6, 2) := by decide +kernel
theorem dX9_adds_261 : decode cX9_adds 261 = .ok (.iconst 4, 1) := by decide +kernel
theorem dX9_adds_262 : decode cX9_adds 262 = .ok (.if_icmp .ge 24, 3) := by decide +kernel
theorem dX9_adds_265 : decode cX9_adds 265 = .ok (.aload_n 0, 1) := by decide +kernel
theorem dX9_adds_266 : decode cX9_adds 266 = .ok (.getfield 49, 3) := by decide +kernel
theorem dX9_adds_269 : decode cX9_adds 269 = .ok (.iconst 4, 1) := by decide +kernel
theorem dX9_adds_270 : decode cX9_adds 270 = .ok (.aload_n 0, 1) := by decide +kernel
theorem dX9_adds_271 : decode cX9_adds 271 = .ok (.getfield 119, 3) := by decide +kernel
theorem dX9_adds_274 : decode cX9_adds 274 = .ok (.imul, 1) := by decide +kernel
theorem dX9_adds_275 : decode cX9_adds 275 = .ok (.iload 6, 2) := by decide +kernel
theorem dX9_adds_277 : decode cX9_adds 277 = .ok (.iadd, 1) := by decide +kernel
theorem dX9_adds_278 : decode cX9_adds 278 = .ok (.iconst 0, 1) := by decide +kernel
theorem dX9_adds_279 : decode cX9_adds 279 = .ok (.iastore, 1) := by decide +kernel
theorem dX9_adds_280 : decode cX9_adds 280 = .ok (.iinc 6 1, 3) := by decide +kernel
theorem dX9_adds_283 : decode cX9_adds 283 = .ok (.goto (-24), 3) := by decide +kernel
theorem dX9_adds_286 : decode cX9_adds 286 = .ok (.aload_n 0, 1) := by decide +kernel
theorem dX9_adds_287 : decode cX9_adds 287 = .ok (.dup, 1) := by decide +kernel
theorem dX9_adds_288 : decode cX9_adds 288 = .ok (.getfield 119, 3) := by decide +kernel
theorem dX9_adds_291 : decode cX9_adds 291 = .ok (.iconst 1, 1) := by decide +kernel
theorem dX9_adds_292 : decode cX9_adds 292 = .ok (.iadd, 1) := by decide +kernel
theorem dX9_adds_293 : decode cX9_adds 293 = .ok (.putfield 119, 3) := by decide +kernel
theorem dX9_adds_296 : decode cX9_adds 296 = .ok (.aload_n 0, 1) := by decide +kernel
theorem dX9_adds_297 : decode cX9_adds 297 = .ok (.getfield 119, 3) := by decide +kernel
theorem dX9_adds_300 : decode cX9_adds 300 = .ok (.iconst 1, 1) := by decide +kernel
theorem dX9_adds_301 : decode cX9_adds 301 = .ok (.isub, 1) := by decide +kernel
theorem dX9_adds_302 : decode cX9_adds 302 = .ok (.ireturn, 1) := by decide +kernel
theorem dX9_areHands_0 : decode cX9_areHands 0 = .ok (.iload_n 0, 1) := by decide +kernel
theorem dX9_areHands_1 : decode cX9_areHands 1 = .ok (.ifCond .lt 13, 3) := by decide +kernel
theorem dX9_areHands_4 : decode cX9_areHands 4 = .ok (.iload_n 0, 1) := by decide +kernel
theorem dX9_areHands_5 : decode cX9_areHands 5 = .ok (.bipush 9, 2) := by decide +kernel
theorem dX9_areHands_7 : decode cX9_areHands 7 = .ok (.if_icmp .gt 7, 3) := by decide +kernel
theorem dX9_areHands_10 : decode cX9_areHands 10 = .ok (.iconst 1, 1) := by decide +kernel
theorem dX9_areHands_11 : decode cX9_areHands 11 = .ok (.goto 4, 3) := by decide +kernel
theorem dX9_areHands_14 : decode cX9_areHands 14 = .ok (.iconst 0, 1) := by decide +kernel
theorem dX9_areHands_15 : decode cX9_areHands 15 = .ok (.ireturn, 1) := by decide +kernel
theorem dX9_part_0 : decode cX9_part 0 = .ok (.aload_n 0, 1) := by decide +kernel
theorem dX9_part_1 : decode cX9_part 1 = .ok (.iconst 0, 1) := by decide +kernel
theorem dX9_part_2 : decode cX9_part 2 = .ok (.putfield 95, 3) := by decide +kernel
theorem dX9_part_5 : decode cX9_part 5 = .ok (.aload_n 0, 1) := by decide +kernel
theorem dX9_part_6 : decode cX9_part 6 = .ok (.aload_n 0, 1) := by decide +kernel
theorem dX9_part_7 : decode cX9_part 7 = .ok (.iload_n 1, 1) := by decide +kernel
theorem dX9_part_8 : decode cX9_part 8 = .ok (.invokevirtual 105, 3) := by decide +kernel
theorem dX9_part_11 : decode cX9_part 11 = .ok (.putfield 98, 3) := by decide +kernel
theorem dX9_part_14 : decode cX9_part 14 = .ok (.aload_n 0, 1) := by decide +kernel
theorem dX9_part_15 : decode cX9_part 15 = .ok (.getfield 98, 3) := by decide +kernel
theorem dX9_part_18 : decode cX9_part 18 = .ok (.ifCond .le 5, 3) := by decide +kernel
theorem dX9_part_21 : decode cX9_part 21 = .ok (.iconst (-1), 1) := by decide +kernel
theorem dX9_part_22 : decode cX9_part 22 = .ok (.ireturn, 1) := by decide +kernel
theorem dX9_part_23 : decode cX9_part 23 = .ok (.iload_n 2, 1) := by decide +kernel
theorem dX9_part_24 : decode cX9_part 24 = .ok (.iconst 1, 1) := by decide +kernel
theorem dX9_part_25 : decode cX9_part 25 = .ok (.if_icmp .lt 16, 3) := by decide +kernel
theorem dX9_part_28 : decode cX9_part 28 = .ok (.iload_n 2, 1) := by decide +kernel
theorem dX9_part_29 : decode cX9_part 29 = .ok (.bipush 8, 2) := by decide +kernel
theorem dX9_part_31 : decode cX9_part 31 = .ok (.if_icmp .gt 10, 3) := by decide +kernel
theorem dX9_part_34 : decode cX9_part 34 = .ok (.iload_n 3, 1) := by decide +kernel
theorem dX9_part_35 : decode cX9_part 35 = .ok (.invokestatic 131, 3) := by decide +kernel
theorem dX9_part_38 : decode cX9_part 38 = .ok (.ifCond .ne 9, 3) := by decide +kernel
theorem dX9_part_41 : decode cX9_part 41 = .ok (.aload_n 0, 1) := by decide +kernel
theorem dX9_part_42 : decode cX9_part 42 = .ok (.iconst 5, 1) := by decide +kernel
theorem dX9_part_43 : decode cX9_part 43 = .ok (.invokevirtual 122, 3) := by decide +kernel
theorem dX9_part_46 : decode cX9_part 46 = .ok (.ireturn, 1) := by decide +kernel
theorem dX9_part_47 : decode cX9_part 47 = .ok (.iconst 2, 1) := by decide +kernel
theorem dX9_part_48 : decode cX9_part 48 = .ok (.iload_n 2, 1) := by decide +kernel
theorem dX9_part_49 : decode cX9_part 49 = .ok (.imul, 1) := by decide +kernel
theorem dX9_part_50 : decode cX9_part 50 = .ok (.aload_n 0, 1) := by decide +kernel
theorem dX9_part_51 : decode cX9_part 51 = .ok (.getfield 17, 3) := by decide +kernel
theorem dX9_part_54 : decode cX9_part 54 = .ok (.iload_n 1, 1) := by decide +kernel
theorem dX9_part_55 : decode cX9_part 55 = .ok (.iaload, 1) := by decide +kernel
theorem dX9_part_56 : decode cX9_part 56 = .ok (.if_icmp .le 9, 3) := by decide +kernel
theorem dX9_part_59 : decode cX9_part 59 = .ok (.aload_n 0, 1) := by decide +kernel
theorem dX9_part_60 : decode cX9_part 60 = .ok (.iconst 4, 1) := by decide +kernel
theorem dX9_part_61 : decode cX9_part 61 = .ok (.invokevirtual 122, 3) := by decide +kernel
theorem dX9_part_64 : decode cX9_part 64 = .ok (.ireturn, 1) := by decide +kernel
theorem dX9_part_65 : decode cX9_part 65 = .ok (.aload_n 0, 1) := by decide +kernel
theorem dX9_part_66 : decode cX9_part 66 = .ok (.invokevirtual 134, 3) := by decide +kernel
theorem dX9_part_69 : decode cX9_part 69 = .ok (.ldc2_w 117, 3) := by decide +kernel
theorem dX9_part_72 : decode cX9_part 72 = .ok (.lstore 4, 2) := by decide +kernel
theorem dX9_part_74 : decode cX9_part 74 = .ok (.iconst 0, 1) := by decide +kernel
theorem dX9_part_75 : decode cX9_part 75 = .ok (.istore 6, 2) := by decide +kernel
theorem dX9_part_77 : decode cX9_part 77 = .ok (.iload 6, 2) := by decide +kernel
theorem dX9_part_79 : decode cX9_part 79 = .ok (.iload_n 2, 1) := by decide +kernel
theorem dX9_part_80 : decode cX9_part 80 = .ok (.if_icmp .ge 96, 3) := by decide +kernel
theorem dX9_part_83 : decode cX9_part 83 = .ok (.aload_n 0, 1) := by decide +kernel
theorem dX9_part_84 : decode cX9_part 84 = .ok (.getfield 20, 3) := by decide +kernel
theorem dX9_part_87 : decode cX9_part 87 = .ok (.bipush 40, 2) := by decide +kernel
theorem dX9_part_89 : decode cX9_part 89 = .ok (.iload_n 1, 1) := by decide +kernel
theorem dX9_part_90 : decode cX9_part 90 = .ok (.imul, 1) := by decide +kernel
theorem dX9_part_91 : decode cX9_part 91 = .ok (.iconst 2, 1) := by decide +kernel
theorem dX9_part_92 : decode cX9_part 92 = .ok (.iload 6, 2) := by decide +kernel
theorem dX9_part_94 : decode cX9_part 94 = .ok (.imul, 1) := by decide +kernel
theorem dX9_part_95 : decode cX9_part 95 = .ok (.iadd, 1) := by decide +kernel
theorem dX9_part_96 : decode cX9_part 96 = .ok (.laload, 1) := by decide +kernel
theorem dX9_part_97 : decode cX9_part 97 = .ok (.lstore 7, 2) := by decide +kernel
theorem dX9_part_99 : decode cX9_part 99 = .ok (.aload_n 0, 1) := by decide +kernel
theorem dX9_part_100 : decode cX9_part 100 = .ok (.getfield 20, 3) := by decide +kernel
theorem dX9_part_103 : decode cX9_part 103 = .ok (.bipush 40, 2) := by decide +kernel
theorem dX9_part_105 : decode cX9_part 105 = .ok (.iload_n 1, 1) := by decide +kernel
theorem dX9_part_106 : decode cX9_part 106 = .ok (.imul, 1) := by decide +kernel
theorem dX9_part_107 : decode cX9_part 107 = .ok (.iconst 2, 1) := by decide +kernel
theorem dX9_part_108 : decode cX9_part 108 = .ok (.iload 6, 2) := by decide +kernel
theorem dX9_part_110 : decode cX9_part 110 = .ok (.imul, 1) := by decide +kernel
theorem dX9_part_111 : decode cX9_part 111 = .ok (.iadd, 1) := by decide +kernel
theorem dX9_part_112 : decode cX9_part 112 = .ok (.iconst 1, 1) := by decide +kernel
theorem dX9_part_113 : decode cX9_part 113 = .ok (.iadd, 1) := by decide +kernel
theorem dX9_part_114 : decode cX9_part 114 = .ok (.laload, 1) := by decide +kernel
theorem dX9_part_115 : decode cX9_part 115 = .ok (.lstore 9, 2) := by decide +kernel
theorem dX9_part_117 : decode cX9_part 117 = .ok (.lload 7, 2) := by decide +kernel
theorem dX9_part_119 : decode cX9_part 119 = .ok (.lload 4, 2) := by decide +kernel
theorem dX9_part_121 : decode cX9_part 121 = .ok (.lcmp, 1) := by decide +kernel
theorem dX9_part_122 : decode cX9_part 122 = .ok (.ifCond .le 28, 3) := by decide +kernel
theorem dX9_part_125 : decode cX9_part 125 = .ok (.lload 7, 2) := by decide +kernel
theorem dX9_part_127 : decode cX9_part 127 = .ok (.ldc2_w 137, 3) := by decide +kernel
theorem dX9_part_130 : decode cX9_part 130 = .ok (.lcmp, 1) := by decide +kernel
theorem dX9_part_131 : decode cX9_part 131 = .ok (.ifCond .gt 19, 3) := by decide +kernel
theorem dX9_part_134 : decode cX9_part 134 = .ok (.lload 9, 2) := by decide +kernel
theorem dX9_part_136 : decode cX9_part 136 = .ok (.lconst 1, 1) := by decide +kernel
theorem dX9_part_137 : decode cX9_part 137 = .ok (.lcmp, 1) := by decide +kernel
theorem dX9_part_138 : decode cX9_part 138 = .ok (.ifCond .lt 12, 3) := by decide +kernel
theorem dX9_part_141 : decode cX9_part 141 = .ok (.lload 9, 2) := by decide +kernel
theorem dX9_part_143 : decode cX9_part 143 = .ok (.ldc2_w 129, 3) := by decide +kernel
theorem dX9_part_146 : decode cX9_part 146 = .ok (.lcmp, 1) := by decide +kernel
theorem dX9_part_147 : decode cX9_part 147 = .ok (.ifCond .le 9, 3) := by decide +kernel
theorem dX9_part_150 : decode cX9_part 150 = .ok (.aload_n 0, 1) := by decide +kernel
theorem dX9_part_151 : decode cX9_part 151 = .ok (.iconst 5, 1) := by decide +kernel
theorem dX9_part_152 : decode cX9_part 152 = .ok (.invokevirtual 122, 3) := by decide +kernel
theorem dX9_part_155 : decode cX9_part 155 = .ok (.ireturn, 1) := by decide +kernel
theorem dX9_part_156 : decode cX9_part 156 = .ok (.aload_n 0, 1) := by decide +kernel
theorem dX9_part_157 : decode cX9_part 157 = .ok (.getfield 58, 3) := by decide +kernel
theorem dX9_part_160 : decode cX9_part 160 = .ok (.lload 7, 2) := by decide +kernel
theorem dX9_part_162 : decode cX9_part 162 = .ok (.l2i, 1) := by decide +kernel
theorem dX9_part_163 : decode cX9_part 163 = .ok (.lload 9, 2) := by decide +kernel
theorem dX9_part_165 : decode cX9_part 165 = .ok (.lastore, 1) := by decide +kernel
theorem dX9_part_166 : decode cX9_part 166 = .ok (.lload 7, 2) := by decide +kernel
theorem dX9_part_168 : decode cX9_part 168 = .ok (.lstore 4, 2) := by decide +kernel
theorem dX9_part_170 : decode cX9_part 170 = .ok (.iinc 6 1, 3) := by decide +kernel
theorem dX9_part_173 : decode cX9_part 173 = .ok (.goto (-96), 3) := by decide +kernel
theorem dX9_part_176 : decode cX9_part 176 = .ok (.aload_n 0, 1) := by decide +kernel
theorem dX9_part_177 : decode cX9_part 177 = .ok (.iload_n 3, 1) := by decide +kernel
theorem dX9_part_178 : decode cX9_part 178 = .ok (.invokevirtual 139, 3) := by decide +kernel
theorem dX9_part_181 : decode cX9_part 181 = .ok (.ireturn, 1) := by decide +kernel
theorem dX9_fixed_0 : decode cX9_fixed 0 = .ok (.aload_n 0, 1) := by decide +kernel
theorem dX9_fixed_1 : decode cX9_fixed 1 = .ok (.iconst 0, 1) := by decide +kernel
theorem dX9_fixed_2 : decode cX9_fixed 2 = .ok (.putfield 95, 3) := by decide +kernel
theorem dX9_fixed_5 : decode cX9_fixed 5 = .ok (.aload_n 0, 1) := by decide +kernel
theorem dX9_fixed_6 : decode cX9_fixed 6 = .ok (.iconst 0, 1) := by decide +kernel
theorem dX9_fixed_7 : decode cX9_fixed 7 = .ok (.putfield 98, 3) := by decide +kernel
theorem dX9_fixed_10 : decode cX9_fixed 10 = .ok (.iload_n 1, 1) := by decide +kernel
theorem dX9_fixed_11 : decode cX9_fixed 11 = .ok (.ifCond .lt 16, 3) := by decide +kernel
theorem dX9_fixed_14 : decode cX9_fixed 14 = .ok (.iload_n 1, 1) := by decide +kernel
theorem dX9_fixed_15 : decode cX9_fixed 15 = .ok (.bipush 99, 2) := by decide +kernel
theorem dX9_fixed_17 : decode cX9_fixed 17 = .ok (.if_icmp .gt 10, 3) := by decide +kernel
theorem dX9_fixed_20 : decode cX9_fixed 20 = .ok (.iload_n 2, 1) := by decide +kernel
theorem dX9_fixed_21 : decode cX9_fixed 21 = .ok (.invokestatic 131, 3) := by decide +kernel
theorem dX9_fixed_24 : decode cX9_fixed 24 = .ok (.ifCond .ne 9, 3) := by decide +kernel
theorem dX9_fixed_27 : decode cX9_fixed 27 = .ok (.aload_n 0, 1) := by decide +kernel
theorem dX9_fixed_28 : decode cX9_fixed 28 = .ok (.iconst 5, 1) := by decide +kernel
theorem dX9_fixed_29 : decode cX9_fixed 29 = .ok (.invokevirtual 122, 3) := by decide +kernel
theorem dX9_fixed_32 : decode cX9_fixed 32 = .ok (.ireturn, 1) := by decide +kernel
theorem dX9_fixed_33 : decode cX9_fixed 33 = .ok (.aload_n 0, 1) := by decide +kernel
theorem dX9_fixed_34 : decode cX9_fixed 34 = .ok (.invokevirtual 134, 3) := by decide +kernel
theorem dX9_fixed_37 : decode cX9_fixed 37 = .ok (.aload_n 0, 1) := by decide +kernel
theorem dX9_fixed_38 : decode cX9_fixed 38 = .ok (.getfield 58, 3) := by decide +kernel
theorem dX9_fixed_41 : decode cX9_fixed 41 = .ok (.iload_n 1, 1) := by decide +kernel
theorem dX9_fixed_42 : decode cX9_fixed 42 = .ok (.lconst 1, 1) := by decide +kernel
theorem dX9_fixed_43 : decode cX9_fixed 43 = .ok (.lastore, 1) := by decide +kernel
theorem dX9_fixed_44 : decode cX9_fixed 44 = .ok (.aload_n 0, 1) := by decide +kernel
theorem dX9_fixed_45 : decode cX9_fixed 45 = .ok (.iload_n 2, 1) := by decide +kernel
theorem dX9_fixed_46 : decode cX9_fixed 46 = .ok (.invokevirtual 139, 3) := by decide +kernel
theorem dX9_fixed_49 : decode cX9_fixed 49 = .ok (.ireturn, 1) := by decide +kernel
theorem dX9_isPart_0 : decode cX9_isPart 0 = .ok (.iload_n 1, 1) := by decide +kernel
theorem dX9_isPart_1 : decode cX9_isPart 1 = .ok (.ifCond .lt 15, 3) := by decide +kernel
theorem dX9_isPart_4 : decode cX9_isPart 4 = .ok (.iload_n 1, 1) := by decide +kernel
theorem dX9_isPart_5 : decode cX9_isPart 5 = .ok (.aload_n 0, 1) := by decide +kernel
theorem dX9_isPart_6 : decode cX9_isPart 6 = .ok (.getfield 119, 3) := by decide +kernel
theorem dX9_isPart_9 : decode cX9_isPart 9 = .ok (.if_icmp .ge 7, 3) := by decide +kernel
theorem dX9_isPart_12 : decode cX9_isPart 12 = .ok (.iconst 1, 1) := by decide +kernel
theorem dX9_isPart_13 : decode cX9_isPart 13 = .ok (.goto 4, 3) := by decide +kernel
theorem dX9_isPart_16 : decode cX9_isPart 16 = .ok (.iconst 0, 1) := by decide +kernel
theorem dX9_isPart_17 : decode cX9_isPart 17 = .ok (.ireturn, 1) := by decide +kernel
theorem dX9_sumOf_0 : decode cX9_sumOf 0 = .ok (.iconst 0, 1) := by decide +kernel
theorem dX9_sumOf_1 : decode cX9_sumOf 1 = .ok (.istore_n 2, 1) := by decide +kernel
theorem dX9_sumOf_2 : decode cX9_sumOf 2 = .ok (.iconst 0, 1) := by decide +kernel
theorem dX9_sumOf_3 : decode cX9_sumOf 3 = .ok (.istore_n 3, 1) := by decide +kernel
theorem dX9_sumOf_4 : decode cX9_sumOf 4 = .ok (.iload_n 3, 1) := by decide +kernel
theorem dX9_sumOf_5 : decode cX9_sumOf 5 = .ok (.aload_n 0, 1) := by decide +kernel
theorem dX9_sumOf_6 : decode cX9_sumOf 6 = .ok (.getfield 31, 3) := by decide +kernel
theorem dX9_sumOf_9 : decode cX9_sumOf 9 = .ok (.iload_n 1, 1) := by decide +kernel
theorem dX9_sumOf_10 : decode cX9_sumOf 10 = .ok (.iaload, 1) := by decide +kernel
theorem dX9_sumOf_11 : decode cX9_sumOf 11 = .ok (.if_icmp .ge 23, 3) := by decide +kernel
theorem dX9_sumOf_14 : decode cX9_sumOf 14 = .ok (.iload_n 2, 1) := by decide +kernel
theorem dX9_sumOf_15 : decode cX9_sumOf 15 = .ok (.aload_n 0, 1) := by decide +kernel
theorem dX9_sumOf_16 : decode cX9_sumOf 16 = .ok (.getfield 46, 3) := by decide +kernel
theorem dX9_sumOf_19 : decode cX9_sumOf 19 = .ok (.bipush 8, 2) := by decide +kernel
theorem dX9_sumOf_21 : decode cX9_sumOf 21 = .ok (.iload_n 1, 1) := by decide +kernel
theorem dX9_sumOf_22 : decode cX9_sumOf 22 = .ok (.imul, 1) := by decide +kernel
theorem dX9_sumOf_23 : decode cX9_sumOf 23 = .ok (.iload_n 3, 1) := by decide +kernel
theorem dX9_sumOf_24 : decode cX9_sumOf 24 = .ok (.iadd, 1) := by decide +kernel
theorem dX9_sumOf_25 : decode cX9_sumOf 25 = .ok (.iaload, 1) := by decide +kernel
theorem dX9_sumOf_26 : decode cX9_sumOf 26 = .ok (.iadd, 1) := by decide +kernel
theorem dX9_sumOf_27 : decode cX9_sumOf 27 = .ok (.istore_n 2, 1) := by decide +kernel
theorem dX9_sumOf_28 : decode cX9_sumOf 28 = .ok (.iinc 3 1, 3) := by decide +kernel
theorem dX9_sumOf_31 : decode cX9_sumOf 31 = .ok (.goto (-27), 3) := by decide +kernel
theorem dX9_sumOf_34 : decode cX9_sumOf 34 = .ok (.iload_n 2, 1) := by decide +kernel
theorem dX9_sumOf_35 : decode cX9_sumOf 35 = .ok (.ireturn, 1) := by decide +kernel
theorem dX9_either_0 : decode cX9_either 0 = .ok (.aload_n 0, 1) := by decide +kernel
theorem dX9_either_1 : decode cX9_either 1 = .ok (.iconst 0, 1) := by decide +kernel
theorem dX9_either_2 : decode cX9_either 2 = .ok (.putfield 95, 3) := by decide +kernel
theorem dX9_either_5 : decode cX9_either 5 = .ok (.aload_n 0, 1) := by decide +kernel
theorem dX9_either_6 : decode cX9_either 6 = .ok (.iconst 0, 1) := by decide +kernel
theorem dX9_either_7 : decode cX9_either 7 = .ok (.putfield 98, 3) := by decide +kernel
theorem dX9_either_10 : decode cX9_either 10 = .ok (.aload_n 0, 1) := by decide +kernel
theorem dX9_either_11 : decode cX9_either 11 = .ok (.iload_n 1, 1) := by decide +kernel
theorem dX9_either_12 : decode cX9_either 12 = .ok (.invokevirtual 142, 3) := by decide +kernel
theorem dX9_either_15 : decode cX9_either 15 = .ok (.ifCond .eq 11, 3) := by decide +kernel
theorem dX9_either_18 : decode cX9_either 18 = .ok (.aload_n 0, 1) := by decide +kernel
theorem dX9_either_19 : decode cX9_either 19 = .ok (.iload_n 2, 1) := by decide +kernel
theorem dX9_either_20 : decode cX9_either 20 = .ok (.invokevirtual 142, 3) := by decide +kernel
theorem dX9_either_23 : decode cX9_either 23 = .ok (.ifCond .ne 9, 3) := by decide +kernel
theorem dX9_either_26 : decode cX9_either 26 = .ok (.aload_n 0, 1) := by decide +kernel
theorem dX9_either_27 : decode cX9_either 27 = .ok (.iconst 2, 1) := by decide +kernel
theorem dX9_either_28 : decode cX9_either 28 = .ok (.invokevirtual 122, 3) := by decide +kernel
theorem dX9_either_31 : decode cX9_either 31 = .ok (.ireturn, 1) := by decide +kernel
theorem dX9_either_32 : decode cX9_either 32 = .ok (.iload_n 3, 1) := by decide +kernel
theorem dX9_either_33 : decode cX9_either 33 = .ok (.iconst 1, 1) := by decide +kernel
theorem dX9_either_34 : decode cX9_either 34 = .ok (.if_icmp .lt 30, 3) := by decide +kernel
theorem dX9_either_37 : decode cX9_either 37 = .ok (.iload_n 3, 1) := by decide +kernel
theorem dX9_either_38 : decode cX9_either 38 = .ok (.bipush 99, 2) := by decide +kernel
theorem dX9_either_40 : decode cX9_either 40 = .ok (.if_icmp .gt 24, 3) := by decide +kernel
theorem dX9_either_43 : decode cX9_either 43 = .ok (.iload 4, 2) := by decide +kernel
theorem dX9_either_45 : decode cX9_either 45 = .ok (.iconst 1, 1) := by decide +kernel
theorem dX9_either_46 : decode cX9_either 46 = .ok (.if_icmp .lt 18, 3) := by decide +kernel
theorem dX9_either_49 : decode cX9_either 49 = .ok (.iload 4, 2) := by decide +kernel
theorem dX9_either_51 : decode cX9_either 51 = .ok (.bipush 99, 2) := by decide +kernel
theorem dX9_either_53 : decode cX9_either 53 = .ok (.if_icmp .gt 11, 3) := by decide +kernel
theorem dX9_either_56 : decode cX9_either 56 = .ok (.iload 5, 2) := by decide +kernel
theorem dX9_either_58 : decode cX9_either 58 = .ok (.invokestatic 131, 3) := by decide +kernel
theorem dX9_either_61 : decode cX9_either 61 = .ok (.ifCond .ne 9, 3) := by decide +kernel
theorem dX9_either_64 : decode cX9_either 64 = .ok (.aload_n 0, 1) := by decide +kernel
theorem dX9_either_65 : decode cX9_either 65 = .ok (.iconst 5, 1) := by decide +kernel
theorem dX9_either_66 : decode cX9_either 66 = .ok (.invokevirtual 122, 3) := by decide +kernel
theorem dX9_either_69 : decode cX9_either 69 = .ok (.ireturn, 1) := by decide +kernel
theorem dX9_either_70 : decode cX9_either 70 = .ok (.aload_n 0, 1) := by decide +kernel
theorem dX9_either_71 : decode cX9_either 71 = .ok (.invokevirtual 134, 3) := by decide +kernel
theorem dX9_either_74 : decode cX9_either 74 = .ok (.iconst 0, 1) := by decide +kernel
theorem dX9_either_75 : decode cX9_either 75 = .ok (.istore 6, 2) := by decide +kernel
theorem dX9_either_77 : decode cX9_either 77 = .ok (.iload 6, 2) := by decide +kernel
theorem dX9_either_79 : decode cX9_either 79 = .ok (.aload_n 0, 1) := by decide +kernel
theorem dX9_either_80 : decode cX9_either 80 = .ok (.getfield 31, 3) := by decide +kernel
theorem dX9_either_83 : decode cX9_either 83 = .ok (.iload_n 1, 1) := by decide +kernel
theorem dX9_either_84 : decode cX9_either 84 = .ok (.iaload, 1) := by decide +kernel
theorem dX9_either_85 : decode cX9_either 85 = .ok (.if_icmp .ge 52, 3) := by decide +kernel
theorem dX9_either_88 : decode cX9_either 88 = .ok (.aload_n 0, 1) := by decide +kernel
theorem dX9_either_89 : decode cX9_either 89 = .ok (.getfield 58, 3) := by decide +kernel
theorem dX9_either_92 : decode cX9_either 92 = .ok (.aload_n 0, 1) := by decide +kernel
theorem dX9_either_93 : decode cX9_either 93 = .ok (.getfield 43, 3) := by decide +kernel
theorem dX9_either_96 : decode cX9_either 96 = .ok (.bipush 8, 2) := by decide +kernel
theorem dX9_either_98 : decode cX9_either 98 = .ok (.iload_n 1, 1) := by decide +kernel
theorem dX9_either_99 : decode cX9_either 99 = .ok (.imul, 1) := by decide +kernel
theorem dX9_either_100 : decode cX9_either 100 = .ok (.iload 6, 2) := by decide +kernel
theorem dX9_either_102 : decode cX9_either 102 = .ok (.iadd, 1) := by decide +kernel
theorem dX9_either_103 : decode cX9_either 103 = .ok (.iaload, 1) := by decide +kernel
theorem dX9_either_104 : decode cX9_either 104 = .ok (.dup2, 1) := by decide +kernel
theorem dX9_either_105 : decode cX9_either 105 = .ok (.laload, 1) := by decide +kernel
theorem dX9_either_106 : decode cX9_either 106 = .ok (.iload_n 3, 1) := by decide +kernel
theorem dX9_either_107 : decode cX9_either 107 = .ok (.i2l, 1) := by decide +kernel
theorem dX9_either_108 : decode cX9_either 108 = .ok (.aload_n 0, 1) := by decide +kernel
theorem dX9_either_109 : decode cX9_either 109 = .ok (.getfield 46, 3) := by decide +kernel
theorem dX9_either_112 : decode cX9_either 112 = .ok (.bipush 8, 2) := by decide +kernel
theorem dX9_either_114 : decode cX9_either 114 = .ok (.iload_n 1, 1) := by decide +kernel
theorem dX9_either_115 : decode cX9_either 115 = .ok (.imul, 1) := by decide +kernel
theorem dX9_either_116 : decode cX9_either 116 = .ok (.iload 6, 2) := by decide +kernel
theorem dX9_either_118 : decode cX9_either 118 = .ok (.iadd, 1) := by decide +kernel
theorem dX9_either_119 : decode cX9_either 119 = .ok (.iaload, 1) := by decide +kernel
theorem dX9_either_120 : decode cX9_either 120 = .ok (.i2l, 1) := by decide +kernel
theorem dX9_either_121 : decode cX9_either 121 = .ok (.lmul, 1) := by decide +kernel
theorem dX9_either_122 : decode cX9_either 122 = .ok (.aload_n 0, 1) := by decide +kernel
theorem dX9_either_123 : decode cX9_either 123 = .ok (.iload_n 2, 1) := by decide +kernel
theorem dX9_either_124 : decode cX9_either 124 = .ok (.invokevirtual 145, 3) := by decide +kernel
theorem dX9_either_127 : decode cX9_either 127 = .ok (.i2l, 1) := by decide +kernel
theorem dX9_either_128 : decode cX9_either 128 = .ok (.lmul, 1) := by decide +kernel
theorem dX9_either_129 : decode cX9_either 129 = .ok (.ladd, 1) := by decide +kernel
theorem dX9_either_130 : decode cX9_either 130 = .ok (.lastore, 1) := by decide +kernel
theorem dX9_either_131 : decode cX9_either 131 = .ok (.iinc 6 1, 3) := by decide +kernel
theorem dX9_either_134 : decode cX9_either 134 = .ok (.goto (-57), 3) := by decide +kernel
theorem dX9_either_137 : decode cX9_either 137 = .ok (.iconst 0, 1) := by decide +kernel
theorem dX9_either_138 : decode cX9_either 138 = .ok (.istore 6, 2) := by decide +kernel
theorem dX9_either_140 : decode cX9_either 140 = .ok (.iload 6, 2) := by decide +kernel
theorem dX9_either_142 : decode cX9_either 142 = .ok (.aload_n 0, 1) := by decide +kernel
theorem dX9_either_143 : decode cX9_either 143 = .ok (.getfield 31, 3) := by decide +kernel
theorem dX9_either_146 : decode cX9_either 146 = .ok (.iload_n 2, 1) := by decide +kernel
theorem dX9_either_147 : decode cX9_either 147 = .ok (.iaload, 1) := by decide +kernel
theorem dX9_either_148 : decode cX9_either 148 = .ok (.if_icmp .ge 53, 3) := by decide +kernel
theorem dX9_either_151 : decode cX9_either 151 = .ok (.aload_n 0, 1) := by decide +kernel
theorem dX9_either_152 : decode cX9_either 152 = .ok (.getfield 58, 3) := by decide +kernel
theorem dX9_either_155 : decode cX9_either 155 = .ok (.aload_n 0, 1) := by decide +kernel
theorem dX9_either_156 : decode cX9_either 156 = .ok (.getfield 43, 3) := by decide +kernel
theorem dX9_either_159 : decode cX9_either 159 = .ok (.bipush 8, 2) := by decide +kernel
theorem dX9_either_161 : decode cX9_either 161 = .ok (.iload_n 2, 1) := by decide +kernel
theorem dX9_either_162 : decode cX9_either 162 = .ok (.imul, 1) := by decide +kernel
theorem dX9_either_163 : decode cX9_either 163 = .ok (.iload 6, 2) := by decide +kernel
theorem dX9_either_165 : decode cX9_either 165 = .ok (.iadd, 1) := by decide +kernel
theorem dX9_either_166 : decode cX9_either 166 = .ok (.iaload, 1) := by decide +kernel
theorem dX9_either_167 : decode cX9_either 167 = .ok (.dup2, 1) := by decide +kernel
theorem dX9_either_168 : decode cX9_either 168 = .ok (.laload, 1) := by decide +kernel
theorem dX9_either_169 : decode cX9_either 169 = .ok (.iload 4, 2) := by decide +kernel
theorem dX9_either_171 : decode cX9_either 171 = .ok (.i2l, 1) := by decide +kernel
theorem dX9_either_172 : decode cX9_either 172 = .ok (.aload_n 0, 1) := by decide +kernel
theorem dX9_either_173 : decode cX9_either 173 = .ok (.getfield 46, 3) := by decide +kernel
theorem dX9_either_176 : decode cX9_either 176 = .ok (.bipush 8, 2) := by decide +kernel
theorem dX9_either_178 : decode cX9_either 178 = .ok (.iload_n 2, 1) := by decide +kernel
theorem dX9_either_179 : decode cX9_either 179 = .ok (.imul, 1) := by decide +kernel
theorem dX9_either_180 : decode cX9_either 180 = .ok (.iload 6, 2) := by decide +kernel
theorem dX9_either_182 : decode cX9_either 182 = .ok (.iadd, 1) := by decide +kernel
theorem dX9_either_183 : decode cX9_either 183 = .ok (.iaload, 1) := by decide +kernel
theorem dX9_either_184 : decode cX9_either 184 = .ok (.i2l, 1) := by decide +kernel
theorem dX9_either_185 : decode cX9_either 185 = .ok (.lmul, 1) := by decide +kernel
theorem dX9_either_186 : decode cX9_either 186 = .ok (.aload_n 0, 1) := by decide +kernel
theorem dX9_either_187 : decode cX9_either 187 = .ok (.iload_n 1, 1) := by decide +kernel
theorem dX9_either_188 : decode cX9_either 188 = .ok (.invokevirtual 145, 3) := by decide +kernel
theorem dX9_either_191 : decode cX9_either 191 = .ok (.i2l, 1) := by decide +kernel
theorem dX9_either_192 : decode cX9_either 192 = .ok (.lmul, 1) := by decide +kernel
theorem dX9_either_193 : decode cX9_either 193 = .ok (.ladd, 1) := by decide +kernel
theorem dX9_either_194 : decode cX9_either 194 = .ok (.lastore, 1) := by decide +kernel
theorem dX9_either_195 : decode cX9_either 195 = .ok (.iinc 6 1, 3) := by decide +kernel
theorem dX9_either_198 : decode cX9_either 198 = .ok (.goto (-58), 3) := by decide +kernel
theorem dX9_either_201 : decode cX9_either 201 = .ok (.aload_n 0, 1) := by decide +kernel
theorem dX9_either_202 : decode cX9_either 202 = .ok (.iload 5, 2) := by decide +kernel
theorem dX9_either_204 : decode cX9_either 204 = .ok (.invokevirtual 139, 3) := by decide +kernel
theorem dX9_either_207 : decode cX9_either 207 = .ok (.ireturn, 1) := by decide +kernel
theorem dX9_again_0 : decode cX9_again 0 = .ok (.aload_n 0, 1) := by decide +kernel
theorem dX9_again_1 : decode cX9_again 1 = .ok (.iconst 0, 1) := by decide +kernel
theorem dX9_again_2 : decode cX9_again 2 = .ok (.putfield 95, 3) := by decide +kernel
theorem dX9_again_5 : decode cX9_again 5 = .ok (.aload_n 0, 1) := by decide +kernel
theorem dX9_again_6 : decode cX9_again 6 = .ok (.iconst 0, 1) := by decide +kernel
theorem dX9_again_7 : decode cX9_again 7 = .ok (.putfield 98, 3) := by decide +kernel
theorem dX9_again_10 : decode cX9_again 10 = .ok (.aload_n 0, 1) := by decide +kernel
theorem dX9_again_11 : decode cX9_again 11 = .ok (.iload_n 1, 1) := by decide +kernel
theorem dX9_again_12 : decode cX9_again 12 = .ok (.invokevirtual 142, 3) := by decide +kernel
theorem dX9_again_15 : decode cX9_again 15 = .ok (.ifCond .ne 9, 3) := by decide +kernel
theorem dX9_again_18 : decode cX9_again 18 = .ok (.aload_n 0, 1) := by decide +kernel
theorem dX9_again_19 : decode cX9_again 19 = .ok (.iconst 2, 1) := by decide +kernel
theorem dX9_again_20 : decode cX9_again 20 = .ok (.invokevirtual 122, 3) := by decide +kernel
theorem dX9_again_23 : decode cX9_again 23 = .ok (.ireturn, 1) := by decide +kernel
theorem dX9_again_24 : decode cX9_again 24 = .ok (.iload_n 3, 1) := by decide +kernel
theorem dX9_again_25 : decode cX9_again 25 = .ok (.iconst 2, 1) := by decide +kernel
theorem dX9_again_26 : decode cX9_again 26 = .ok (.if_icmp .lt 27, 3) := by decide +kernel
theorem dX9_again_29 : decode cX9_again 29 = .ok (.iload_n 3, 1) := by decide +kernel
theorem dX9_again_30 : decode cX9_again 30 = .ok (.bipush 99, 2) := by decide +kernel
theorem dX9_again_32 : decode cX9_again 32 = .ok (.if_icmp .gt 21, 3) := by decide +kernel
theorem dX9_again_35 : decode cX9_again 35 = .ok (.iload_n 2, 1) := by decide +kernel
theorem dX9_again_36 : decode cX9_again 36 = .ok (.iconst 1, 1) := by decide +kernel
theorem dX9_again_37 : decode cX9_again 37 = .ok (.if_icmp .lt 16, 3) := by decide +kernel
theorem dX9_again_40 : decode cX9_again 40 = .ok (.iload_n 2, 1) := by decide +kernel
theorem dX9_again_41 : decode cX9_again 41 = .ok (.iload_n 3, 1) := by decide +kernel
theorem dX9_again_42 : decode cX9_again 42 = .ok (.if_icmp .ge 11, 3) := by decide +kernel
theorem dX9_again_45 : decode cX9_again 45 = .ok (.iload 4, 2) := by decide +kernel
theorem dX9_again_47 : decode cX9_again 47 = .ok (.invokestatic 131, 3) := by decide +kernel
theorem dX9_again_50 : decode cX9_again 50 = .ok (.ifCond .ne 9, 3) := by decide +kernel
theorem dX9_again_53 : decode cX9_again 53 = .ok (.aload_n 0, 1) := by decide +kernel
theorem dX9_again_54 : decode cX9_again 54 = .ok (.iconst 5, 1) := by decide +kernel
theorem dX9_again_55 : decode cX9_again 55 = .ok (.invokevirtual 122, 3) := by decide +kernel
theorem dX9_again_58 : decode cX9_again 58 = .ok (.ireturn, 1) := by decide +kernel
theorem dX9_again_59 : decode cX9_again 59 = .ok (.aload_n 0, 1) := by decide +kernel
theorem dX9_again_60 : decode cX9_again 60 = .ok (.invokevirtual 134, 3) := by decide +kernel
theorem dX9_again_63 : decode cX9_again 63 = .ok (.iconst 0, 1) := by decide +kernel
theorem dX9_again_64 : decode cX9_again 64 = .ok (.istore 5, 2) := by decide +kernel
theorem dX9_again_66 : decode cX9_again 66 = .ok (.iload 5, 2) := by decide +kernel
theorem dX9_again_68 : decode cX9_again 68 = .ok (.aload_n 0, 1) := by decide +kernel
theorem dX9_again_69 : decode cX9_again 69 = .ok (.getfield 31, 3) := by decide +kernel
theorem dX9_again_72 : decode cX9_again 72 = .ok (.iload_n 1, 1) := by decide +kernel
theorem dX9_again_73 : decode cX9_again 73 = .ok (.iaload, 1) := by decide +kernel
theorem dX9_again_74 : decode cX9_again 74 = .ok (.if_icmp .ge 126, 3) := by decide +kernel
theorem dX9_again_77 : decode cX9_again 77 = .ok (.bipush 8, 2) := by decide +kernel
theorem dX9_again_79 : decode cX9_again 79 = .ok (.iload_n 1, 1) := by decide +kernel
theorem dX9_again_80 : decode cX9_again 80 = .ok (.imul, 1) := by decide +kernel
theorem dX9_again_81 : decode cX9_again 81 = .ok (.iload 5, 2) := by decide +kernel
theorem dX9_again_83 : decode cX9_again 83 = .ok (.iadd, 1) := by decide +kernel
theorem dX9_again_84 : decode cX9_again 84 = .ok (.istore 6, 2) := by decide +kernel
theorem dX9_again_86 : decode cX9_again 86 = .ok (.aload_n 0, 1) := by decide +kernel
theorem dX9_again_87 : decode cX9_again 87 = .ok (.getfield 58, 3) := by decide +kernel
theorem dX9_again_90 : decode cX9_again 90 = .ok (.aload_n 0, 1) := by decide +kernel
theorem dX9_again_91 : decode cX9_again 91 = .ok (.getfield 43, 3) := by decide +kernel
theorem dX9_again_94 : decode cX9_again 94 = .ok (.iload 6, 2) := by decide +kernel
theorem dX9_again_96 : decode cX9_again 96 = .ok (.iaload, 1) := by decide +kernel
theorem dX9_again_97 : decode cX9_again 97 = .ok (.dup2, 1) := by decide +kernel
theorem dX9_again_98 : decode cX9_again 98 = .ok (.laload, 1) := by decide +kernel
theorem dX9_again_99 : decode cX9_again 99 = .ok (.iload_n 3, 1) := by decide +kernel
theorem dX9_again_100 : decode cX9_again 100 = .ok (.iload_n 2, 1) := by decide +kernel
theorem dX9_again_101 : decode cX9_again 101 = .ok (.isub, 1) := by decide +kernel
theorem dX9_again_102 : decode cX9_again 102 = .ok (.i2l, 1) := by decide +kernel
theorem dX9_again_103 : decode cX9_again 103 = .ok (.aload_n 0, 1) := by decide +kernel
theorem dX9_again_104 : decode cX9_again 104 = .ok (.getfield 46, 3) := by decide +kernel
theorem dX9_again_107 : decode cX9_again 107 = .ok (.iload 6, 2) := by decide +kernel
theorem dX9_again_109 : decode cX9_again 109 = .ok (.iaload, 1) := by decide +kernel
theorem dX9_again_110 : decode cX9_again 110 = .ok (.i2l, 1) := by decide +kernel
theorem dX9_again_111 : decode cX9_again 111 = .ok (.lmul, 1) := by decide +kernel
theorem dX9_again_112 : decode cX9_again 112 = .ok (.aload_n 0, 1) := by decide +kernel
theorem dX9_again_113 : decode cX9_again 113 = .ok (.iload_n 1, 1) := by decide +kernel
theorem dX9_again_114 : decode cX9_again 114 = .ok (.invokevirtual 145, 3) := by decide +kernel
theorem dX9_again_117 : decode cX9_again 117 = .ok (.i2l, 1) := by decide +kernel
theorem dX9_again_118 : decode cX9_again 118 = .ok (.lmul, 1) := by decide +kernel
theorem dX9_again_119 : decode cX9_again 119 = .ok (.ladd, 1) := by decide +kernel
theorem dX9_again_120 : decode cX9_again 120 = .ok (.lastore, 1) := by decide +kernel
theorem dX9_again_121 : decode cX9_again 121 = .ok (.iconst 0, 1) := by decide +kernel
theorem dX9_again_122 : decode cX9_again 122 = .ok (.istore 7, 2) := by decide +kernel
theorem dX9_again_124 : decode cX9_again 124 = .ok (.iload 7, 2) := by decide +kernel
theorem dX9_again_126 : decode cX9_again 126 = .ok (.aload_n 0, 1) := by decide +kernel
theorem dX9_again_127 : decode cX9_again 127 = .ok (.getfield 31, 3) := by decide +kernel
theorem dX9_again_130 : decode cX9_again 130 = .ok (.iload_n 1, 1) := by decide +kernel
theorem dX9_again_131 : decode cX9_again 131 = .ok (.iaload, 1) := by decide +kernel
theorem dX9_again_132 : decode cX9_again 132 = .ok (.if_icmp .ge 62, 3) := by decide +kernel
theorem dX9_again_135 : decode cX9_again 135 = .ok (.aload_n 0, 1) := by decide +kernel
theorem dX9_again_136 : decode cX9_again 136 = .ok (.getfield 58, 3) := by decide +kernel
theorem dX9_again_139 : decode cX9_again 139 = .ok (.aload_n 0, 1) := by decide +kernel
theorem dX9_again_140 : decode cX9_again 140 = .ok (.getfield 43, 3) := by decide +kernel
theorem dX9_again_143 : decode cX9_again 143 = .ok (.iload 6, 2) := by decide +kernel
theorem dX9_again_145 : decode cX9_again 145 = .ok (.iaload, 1) := by decide +kernel
theorem dX9_again_146 : decode cX9_again 146 = .ok (.aload_n 0, 1) := by decide +kernel
theorem dX9_again_147 : decode cX9_again 147 = .ok (.getfield 43, 3) := by decide +kernel
theorem dX9_again_150 : decode cX9_again 150 = .ok (.bipush 8, 2) := by decide +kernel
theorem dX9_again_152 : decode cX9_again 152 = .ok (.iload_n 1, 1) := by decide +kernel
theorem dX9_again_153 : decode cX9_again 153 = .ok (.imul, 1) := by decide +kernel
theorem dX9_again_154 : decode cX9_again 154 = .ok (.iload 7, 2) := by decide +kernel
theorem dX9_again_156 : decode cX9_again 156 = .ok (.iadd, 1) := by decide +kernel
theorem dX9_again_157 : decode cX9_again 157 = .ok (.iaload, 1) := by decide +kernel
theorem dX9_again_158 : decode cX9_again 158 = .ok (.iadd, 1) := by decide +kernel
theorem dX9_again_159 : decode cX9_again 159 = .ok (.dup2, 1) := by decide +kernel
theorem dX9_again_160 : decode cX9_again 160 = .ok (.laload, 1) := by decide +kernel
theorem dX9_again_161 : decode cX9_again 161 = .ok (.iload_n 2, 1) := by decide +kernel
theorem dX9_again_162 : decode cX9_again 162 = .ok (.i2l, 1) := by decide +kernel
theorem dX9_again_163 : decode cX9_again 163 = .ok (.aload_n 0, 1) := by decide +kernel
theorem dX9_again_164 : decode cX9_again 164 = .ok (.getfield 46, 3) := by decide +kernel
theorem dX9_again_167 : decode cX9_again 167 = .ok (.iload 6, 2) := by decide +kernel
theorem dX9_again_169 : decode cX9_again 169 = .ok (.iaload, 1) := by decide +kernel
theorem dX9_again_170 : decode cX9_again 170 = .ok (.i2l, 1) := by decide +kernel
theorem dX9_again_171 : decode cX9_again 171 = .ok (.lmul, 1) := by decide +kernel
theorem dX9_again_172 : decode cX9_again 172 = .ok (.aload_n 0, 1) := by decide +kernel
theorem dX9_again_173 : decode cX9_again 173 = .ok (.getfield 46, 3) := by decide +kernel
theorem dX9_again_176 : decode cX9_again 176 = .ok (.bipush 8, 2) := by decide +kernel
theorem dX9_again_178 : decode cX9_again 178 = .ok (.iload_n 1, 1) := by decide +kernel
theorem dX9_again_179 : decode cX9_again 179 = .ok (.imul, 1) := by decide +kernel
theorem dX9_again_180 : decode cX9_again 180 = .ok (.iload 7, 2) := by decide +kernel
theorem dX9_again_182 : decode cX9_again 182 = .ok (.iadd, 1) := by decide +kernel
theorem dX9_again_183 : decode cX9_again 183 = .ok (.iaload, 1) := by decide +kernel
theorem dX9_again_184 : decode cX9_again 184 = .ok (.i2l, 1) := by decide +kernel
theorem dX9_again_185 : decode cX9_again 185 = .ok (.lmul, 1) := by decide +kernel
theorem dX9_again_186 : decode cX9_again 186 = .ok (.ladd, 1) := by decide +kernel
theorem dX9_again_187 : decode cX9_again 187 = .ok (.lastore, 1) := by decide +kernel
theorem dX9_again_188 : decode cX9_again 188 = .ok (.iinc 7 1, 3) := by decide +kernel
theorem dX9_again_191 : decode cX9_again 191 = .ok (.goto (-67), 3) := by decide +kernel
theorem dX9_again_194 : decode cX9_again 194 = .ok (.iinc 5 1, 3) := by decide +kernel
theorem dX9_again_197 : decode cX9_again 197 = .ok (.goto (-131), 3) := by decide +kernel
theorem dX9_again_200 : decode cX9_again 200 = .ok (.aload_n 0, 1) := by decide +kernel
theorem dX9_again_201 : decode cX9_again 201 = .ok (.iload 4, 2) := by decide +kernel
theorem dX9_again_203 : decode cX9_again 203 = .ok (.invokevirtual 139, 3) := by decide +kernel
theorem dX9_again_206 : decode cX9_again 206 = .ok (.ireturn, 1) := by decide +kernel
theorem dX9_need_0 : decode cX9_need 0 = .ok (.aload_n 0, 1) := by decide +kernel
theorem dX9_need_1 : decode cX9_need 1 = .ok (.iconst 0, 1) := by decide +kernel
theorem dX9_need_2 : decode cX9_need 2 = .ok (.putfield 95, 3) := by decide +kernel
theorem dX9_need_5 : decode cX9_need 5 = .ok (.aload_n 0, 1) := by decide +kernel
theorem dX9_need_6 : decode cX9_need 6 = .ok (.iconst 0, 1) := by decide +kernel
theorem dX9_need_7 : decode cX9_need 7 = .ok (.putfield 98, 3) := by decide +kernel
theorem dX9_need_10 : decode cX9_need 10 = .ok (.aload_n 0, 1) := by decide +kernel
theorem dX9_need_11 : decode cX9_need 11 = .ok (.iload_n 1, 1) := by decide +kernel
theorem dX9_need_12 : decode cX9_need 12 = .ok (.invokevirtual 142, 3) := by decide +kernel
theorem dX9_need_15 : decode cX9_need 15 = .ok (.ifCond .eq 11, 3) := by decide +kernel
theorem dX9_need_18 : decode cX9_need 18 = .ok (.aload_n 0, 1) := by decide +kernel
theorem dX9_need_19 : decode cX9_need 19 = .ok (.iload_n 2, 1) := by decide +kernel
theorem dX9_need_20 : decode cX9_need 20 = .ok (.invokevirtual 142, 3) := by decide +kernel
theorem dX9_need_23 : decode cX9_need 23 = .ok (.ifCond .ne 9, 3) := by decide +kernel
theorem dX9_need_26 : decode cX9_need 26 = .ok (.aload_n 0, 1) := by decide +kernel
theorem dX9_need_27 : decode cX9_need 27 = .ok (.iconst 2, 1) := by decide +kernel
theorem dX9_need_28 : decode cX9_need 28 = .ok (.invokevirtual 101, 3) := by decide +kernel
theorem dX9_need_31 : decode cX9_need 31 = .ok (.ireturn, 1) := by decide +kernel
theorem dX9_need_32 : decode cX9_need 32 = .ok (.iload_n 2, 1) := by decide +kernel
theorem dX9_need_33 : decode cX9_need 33 = .ok (.iload_n 1, 1) := by decide +kernel
theorem dX9_need_34 : decode cX9_need 34 = .ok (.if_icmp .lt 9, 3) := by decide +kernel
theorem dX9_need_37 : decode cX9_need 37 = .ok (.aload_n 0, 1) := by decide +kernel
theorem dX9_need_38 : decode cX9_need 38 = .ok (.iconst 5, 1) := by decide +kernel
theorem dX9_need_39 : decode cX9_need 39 = .ok (.invokevirtual 101, 3) := by decide +kernel
theorem dX9_need_42 : decode cX9_need 42 = .ok (.ireturn, 1) := by decide +kernel
theorem dX9_need_43 : decode cX9_need 43 = .ok (.aload_n 0, 1) := by decide +kernel
theorem dX9_need_44 : decode cX9_need 44 = .ok (.getfield 37, 3) := by decide +kernel
theorem dX9_need_47 : decode cX9_need 47 = .ok (.iload_n 1, 1) := by decide +kernel
theorem dX9_need_48 : decode cX9_need 48 = .ok (.iload_n 3, 1) := by decide +kernel
theorem dX9_need_49 : decode cX9_need 49 = .ok (.ifCond .eq 16, 3) := by decide +kernel
theorem dX9_need_52 : decode cX9_need 52 = .ok (.aload_n 0, 1) := by decide +kernel
theorem dX9_need_53 : decode cX9_need 53 = .ok (.getfield 37, 3) := by decide +kernel
theorem dX9_need_56 : decode cX9_need 56 = .ok (.iload_n 1, 1) := by decide +kernel
theorem dX9_need_57 : decode cX9_need 57 = .ok (.iaload, 1) := by decide +kernel
theorem dX9_need_58 : decode cX9_need 58 = .ok (.iconst 1, 1) := by decide +kernel
theorem dX9_need_59 : decode cX9_need 59 = .ok (.iload_n 2, 1) := by decide +kernel
theorem dX9_need_60 : decode cX9_need 60 = .ok (.ishl, 1) := by decide +kernel
theorem dX9_need_61 : decode cX9_need 61 = .ok (.ior, 1) := by decide +kernel
theorem dX9_need_62 : decode cX9_need 62 = .ok (.goto 15, 3) := by decide +kernel
theorem dX9_need_65 : decode cX9_need 65 = .ok (.aload_n 0, 1) := by decide +kernel
theorem dX9_need_66 : decode cX9_need 66 = .ok (.getfield 37, 3) := by decide +kernel
theorem dX9_need_69 : decode cX9_need 69 = .ok (.iload_n 1, 1) := by decide +kernel
theorem dX9_need_70 : decode cX9_need 70 = .ok (.iaload, 1) := by decide +kernel
theorem dX9_need_71 : decode cX9_need 71 = .ok (.iconst 1, 1) := by decide +kernel
theorem dX9_need_72 : decode cX9_need 72 = .ok (.iload_n 2, 1) := by decide +kernel
theorem dX9_need_73 : decode cX9_need 73 = .ok (.ishl, 1) := by decide +kernel
theorem dX9_need_74 : decode cX9_need 74 = .ok (.iconst (-1), 1) := by decide +kernel
theorem dX9_need_75 : decode cX9_need 75 = .ok (.ixor, 1) := by decide +kernel
theorem dX9_need_76 : decode cX9_need 76 = .ok (.iand, 1) := by decide +kernel
theorem dX9_need_77 : decode cX9_need 77 = .ok (.iastore, 1) := by decide +kernel
theorem dX9_need_78 : decode cX9_need 78 = .ok (.iconst 1, 1) := by decide +kernel
theorem dX9_need_79 : decode cX9_need 79 = .ok (.ireturn, 1) := by decide +kernel
theorem dX9_cause_0 : decode cX9_cause 0 = .ok (.aload_n 0, 1) := by decide +kernel
theorem dX9_cause_1 : decode cX9_cause 1 = .ok (.iconst 0, 1) := by decide +kernel
theorem dX9_cause_2 : decode cX9_cause 2 = .ok (.putfield 95, 3) := by decide +kernel
theorem dX9_cause_5 : decode cX9_cause 5 = .ok (.aload_n 0, 1) := by decide +kernel
theorem dX9_cause_6 : decode cX9_cause 6 = .ok (.iconst 0, 1) := by decide +kernel
theorem dX9_cause_7 : decode cX9_cause 7 = .ok (.putfield 98, 3) := by decide +kernel
theorem dX9_cause_10 : decode cX9_cause 10 = .ok (.iload_n 2, 1) := by decide +kernel
theorem dX9_cause_11 : decode cX9_cause 11 = .ok (.iconst 2, 1) := by decide +kernel
theorem dX9_cause_12 : decode cX9_cause 12 = .ok (.if_icmp .lt 19, 3) := by decide +kernel
theorem dX9_cause_15 : decode cX9_cause 15 = .ok (.iload_n 2, 1) := by decide +kernel
theorem dX9_cause_16 : decode cX9_cause 16 = .ok (.bipush 12, 2) := by decide +kernel
theorem dX9_cause_18 : decode cX9_cause 18 = .ok (.if_icmp .gt 13, 3) := by decide +kernel
theorem dX9_cause_21 : decode cX9_cause 21 = .ok (.iload_n 1, 1) := by decide +kernel
theorem dX9_cause_22 : decode cX9_cause 22 = .ok (.iconst 1, 1) := by decide +kernel
theorem dX9_cause_23 : decode cX9_cause 23 = .ok (.if_icmp .lt 8, 3) := by decide +kernel
theorem dX9_cause_26 : decode cX9_cause 26 = .ok (.iload_n 1, 1) := by decide +kernel
theorem dX9_cause_27 : decode cX9_cause 27 = .ok (.iload_n 2, 1) := by decide +kernel
theorem dX9_cause_28 : decode cX9_cause 28 = .ok (.if_icmp .lt 9, 3) := by decide +kernel
theorem dX9_cause_31 : decode cX9_cause 31 = .ok (.aload_n 0, 1) := by decide +kernel
theorem dX9_cause_32 : decode cX9_cause 32 = .ok (.iconst 5, 1) := by decide +kernel
theorem dX9_cause_33 : decode cX9_cause 33 = .ok (.invokevirtual 122, 3) := by decide +kernel
theorem dX9_cause_36 : decode cX9_cause 36 = .ok (.ireturn, 1) := by decide +kernel
theorem dX9_cause_37 : decode cX9_cause 37 = .ok (.aload_n 0, 1) := by decide +kernel
theorem dX9_cause_38 : decode cX9_cause 38 = .ok (.getfield 148, 3) := by decide +kernel
theorem dX9_cause_41 : decode cX9_cause 41 = .ok (.iconst 4, 1) := by decide +kernel
theorem dX9_cause_42 : decode cX9_cause 42 = .ok (.if_icmp .ne 10, 3) := by decide +kernel
theorem dX9_cause_45 : decode cX9_cause 45 = .ok (.aload_n 0, 1) := by decide +kernel
theorem dX9_cause_46 : decode cX9_cause 46 = .ok (.bipush 7, 2) := by decide +kernel
theorem dX9_cause_48 : decode cX9_cause 48 = .ok (.invokevirtual 122, 3) := by decide +kernel
theorem dX9_cause_51 : decode cX9_cause 51 = .ok (.ireturn, 1) := by decide +kernel
theorem dX9_cause_52 : decode cX9_cause 52 = .ok (.aload_n 0, 1) := by decide +kernel
theorem dX9_cause_53 : decode cX9_cause 53 = .ok (.getfield 52, 3) := by decide +kernel
theorem dX9_cause_56 : decode cX9_cause 56 = .ok (.aload_n 0, 1) := by decide +kernel
theorem dX9_cause_57 : decode cX9_cause 57 = .ok (.getfield 148, 3) := by decide +kernel
theorem dX9_cause_60 : decode cX9_cause 60 = .ok (.iload_n 1, 1) := by decide +kernel
theorem dX9_cause_61 : decode cX9_cause 61 = .ok (.iastore, 1) := by decide +kernel
theorem dX9_cause_62 : decode cX9_cause 62 = .ok (.aload_n 0, 1) := by decide +kernel
theorem dX9_cause_63 : decode cX9_cause 63 = .ok (.getfield 55, 3) := by decide +kernel
theorem dX9_cause_66 : decode cX9_cause 66 = .ok (.aload_n 0, 1) := by decide +kernel
theorem dX9_cause_67 : decode cX9_cause 67 = .ok (.getfield 148, 3) := by decide +kernel
theorem dX9_cause_70 : decode cX9_cause 70 = .ok (.iload_n 2, 1) := by decide +kernel
theorem dX9_cause_71 : decode cX9_cause 71 = .ok (.iastore, 1) := by decide +kernel
theorem dX9_cause_72 : decode cX9_cause 72 = .ok (.aload_n 0, 1) := by decide +kernel
theorem dX9_cause_73 : decode cX9_cause 73 = .ok (.dup, 1) := by decide +kernel
theorem dX9_cause_74 : decode cX9_cause 74 = .ok (.getfield 148, 3) := by decide +kernel
theorem dX9_cause_77 : decode cX9_cause 77 = .ok (.iconst 1, 1) := by decide +kernel
theorem dX9_cause_78 : decode cX9_cause 78 = .ok (.iadd, 1) := by decide +kernel
theorem dX9_cause_79 : decode cX9_cause 79 = .ok (.putfield 148, 3) := by decide +kernel
theorem dX9_cause_82 : decode cX9_cause 82 = .ok (.aload_n 0, 1) := by decide +kernel
theorem dX9_cause_83 : decode cX9_cause 83 = .ok (.getfield 148, 3) := by decide +kernel
theorem dX9_cause_86 : decode cX9_cause 86 = .ok (.iconst 1, 1) := by decide +kernel
theorem dX9_cause_87 : decode cX9_cause 87 = .ok (.isub, 1) := by decide +kernel
theorem dX9_cause_88 : decode cX9_cause 88 = .ok (.ireturn, 1) := by decide +kernel
theorem dX9_late_0 : decode cX9_late 0 = .ok (.aload_n 0, 1) := by decide +kernel
theorem dX9_late_1 : decode cX9_late 1 = .ok (.iconst 0, 1) := by decide +kernel
theorem dX9_late_2 : decode cX9_late 2 = .ok (.putfield 95, 3) := by decide +kernel
theorem dX9_late_5 : decode cX9_late 5 = .ok (.aload_n 0, 1) := by decide +kernel
theorem dX9_late_6 : decode cX9_late 6 = .ok (.iconst 0, 1) := by decide +kernel
theorem dX9_late_7 : decode cX9_late 7 = .ok (.putfield 98, 3) := by decide +kernel
theorem dX9_late_10 : decode cX9_late 10 = .ok (.aload_n 0, 1) := by decide +kernel
theorem dX9_late_11 : decode cX9_late 11 = .ok (.iload_n 1, 1) := by decide +kernel
theorem dX9_late_12 : decode cX9_late 12 = .ok (.invokevirtual 142, 3) := by decide +kernel
theorem dX9_late_15 : decode cX9_late 15 = .ok (.ifCond .eq 15, 3) := by decide +kernel
theorem dX9_late_18 : decode cX9_late 18 = .ok (.iload_n 2, 1) := by decide +kernel
theorem dX9_late_19 : decode cX9_late 19 = .ok (.ifCond .lt 11, 3) := by decide +kernel
theorem dX9_late_22 : decode cX9_late 22 = .ok (.iload_n 2, 1) := by decide +kernel
theorem dX9_late_23 : decode cX9_late 23 = .ok (.aload_n 0, 1) := by decide +kernel
theorem dX9_late_24 : decode cX9_late 24 = .ok (.getfield 148, 3) := by decide +kernel
theorem dX9_late_27 : decode cX9_late 27 = .ok (.if_icmp .lt 9, 3) := by decide +kernel
theorem dX9_late_30 : decode cX9_late 30 = .ok (.aload_n 0, 1) := by decide +kernel
theorem dX9_late_31 : decode cX9_late 31 = .ok (.iconst 2, 1) := by decide +kernel
theorem dX9_late_32 : decode cX9_late 32 = .ok (.invokevirtual 101, 3) := by decide +kernel
theorem dX9_late_35 : decode cX9_late 35 = .ok (.ireturn, 1) := by decide +kernel
theorem dX9_late_36 : decode cX9_late 36 = .ok (.iload_n 3, 1) := by decide +kernel
theorem dX9_late_37 : decode cX9_late 37 = .ok (.ifCond .lt 9, 3) := by decide +kernel
theorem dX9_late_40 : decode cX9_late 40 = .ok (.iload_n 3, 1) := by decide +kernel
theorem dX9_late_41 : decode cX9_late 41 = .ok (.bipush 99, 2) := by decide +kernel
theorem dX9_late_43 : decode cX9_late 43 = .ok (.if_icmp .le 9, 3) := by decide +kernel
theorem dX9_late_46 : decode cX9_late 46 = .ok (.aload_n 0, 1) := by decide +kernel
theorem dX9_late_47 : decode cX9_late 47 = .ok (.iconst 5, 1) := by decide +kernel
theorem dX9_late_48 : decode cX9_late 48 = .ok (.invokevirtual 101, 3) := by decide +kernel
theorem dX9_late_51 : decode cX9_late 51 = .ok (.ireturn, 1) := by decide +kernel
theorem dX9_late_52 : decode cX9_late 52 = .ok (.aload_n 0, 1) := by decide +kernel
theorem dX9_late_53 : decode cX9_late 53 = .ok (.getfield 49, 3) := by decide +kernel
theorem dX9_late_56 : decode cX9_late 56 = .ok (.iconst 4, 1) := by decide +kernel
theorem dX9_late_57 : decode cX9_late 57 = .ok (.iload_n 1, 1) := by decide +kernel
theorem dX9_late_58 : decode cX9_late 58 = .ok (.imul, 1) := by decide +kernel
theorem dX9_late_59 : decode cX9_late 59 = .ok (.iload_n 2, 1) := by decide +kernel
theorem dX9_late_60 : decode cX9_late 60 = .ok (.iadd, 1) := by decide +kernel
theorem dX9_late_61 : decode cX9_late 61 = .ok (.iload_n 3, 1) := by decide +kernel
theorem dX9_late_62 : decode cX9_late 62 = .ok (.iastore, 1) := by decide +kernel
theorem dX9_late_63 : decode cX9_late 63 = .ok (.iconst 1, 1) := by decide +kernel
theorem dX9_late_64 : decode cX9_late 64 = .ok (.ireturn, 1) := by decide +kernel
theorem dX9_hands_0 : decode cX9_hands 0 = .ok (.aload_n 0, 1) := by decide +kernel
theorem dX9_hands_1 : decode cX9_hands 1 = .ok (.iconst 0, 1) := by decide +kernel
theorem dX9_hands_2 : decode cX9_hands 2 = .ok (.putfield 95, 3) := by decide +kernel
theorem dX9_hands_5 : decode cX9_hands 5 = .ok (.aload_n 0, 1) := by decide +kernel
theorem dX9_hands_6 : decode cX9_hands 6 = .ok (.iconst 0, 1) := by decide +kernel
theorem dX9_hands_7 : decode cX9_hands 7 = .ok (.putfield 98, 3) := by decide +kernel
theorem dX9_hands_10 : decode cX9_hands 10 = .ok (.iload_n 1, 1) := by decide +kernel
theorem dX9_hands_11 : decode cX9_hands 11 = .ok (.iconst 1, 1) := by decide +kernel
theorem dX9_hands_12 : decode cX9_hands 12 = .ok (.if_icmp .lt 9, 3) := by decide +kernel
theorem dX9_hands_15 : decode cX9_hands 15 = .ok (.iload_n 1, 1) := by decide +kernel
theorem dX9_hands_16 : decode cX9_hands 16 = .ok (.bipush 30, 2) := by decide +kernel
theorem dX9_hands_18 : decode cX9_hands 18 = .ok (.if_icmp .le 9, 3) := by decide +kernel
theorem dX9_hands_21 : decode cX9_hands 21 = .ok (.aload_n 0, 1) := by decide +kernel
theorem dX9_hands_22 : decode cX9_hands 22 = .ok (.iconst 5, 1) := by decide +kernel
theorem dX9_hands_23 : decode cX9_hands 23 = .ok (.invokevirtual 101, 3) := by decide +kernel
theorem dX9_hands_26 : decode cX9_hands 26 = .ok (.ireturn, 1) := by decide +kernel
theorem dX9_hands_27 : decode cX9_hands 27 = .ok (.aload_n 0, 1) := by decide +kernel
theorem dX9_hands_28 : decode cX9_hands 28 = .ok (.iload_n 1, 1) := by decide +kernel
theorem dX9_hands_29 : decode cX9_hands 29 = .ok (.putfield 24, 3) := by decide +kernel
theorem dX9_hands_32 : decode cX9_hands 32 = .ok (.iconst 1, 1) := by decide +kernel
theorem dX9_hands_33 : decode cX9_hands 33 = .ok (.ireturn, 1) := by decide +kernel
theorem dX9_clear_0 : decode cX9_clear 0 = .ok (.aload_n 0, 1) := by decide +kernel
theorem dX9_clear_1 : decode cX9_clear 1 = .ok (.iconst 0, 1) := by decide +kernel
theorem dX9_clear_2 : decode cX9_clear 2 = .ok (.putfield 95, 3) := by decide +kernel
theorem dX9_clear_5 : decode cX9_clear 5 = .ok (.aload_n 0, 1) := by decide +kernel
theorem dX9_clear_6 : decode cX9_clear 6 = .ok (.iconst 0, 1) := by decide +kernel
theorem dX9_clear_7 : decode cX9_clear 7 = .ok (.putfield 98, 3) := by decide +kernel
theorem dX9_clear_10 : decode cX9_clear 10 = .ok (.aload_n 0, 1) := by decide +kernel
theorem dX9_clear_11 : decode cX9_clear 11 = .ok (.iconst 0, 1) := by decide +kernel
theorem dX9_clear_12 : decode cX9_clear 12 = .ok (.putfield 119, 3) := by decide +kernel
theorem dX9_clear_15 : decode cX9_clear 15 = .ok (.aload_n 0, 1) := by decide +kernel
theorem dX9_clear_16 : decode cX9_clear 16 = .ok (.iconst 0, 1) := by decide +kernel
theorem dX9_clear_17 : decode cX9_clear 17 = .ok (.putfield 148, 3) := by decide +kernel
theorem dX9_clear_20 : decode cX9_clear 20 = .ok (.aload_n 0, 1) := by decide +kernel
theorem dX9_clear_21 : decode cX9_clear 21 = .ok (.bipush 30, 2) := by decide +kernel
theorem dX9_clear_23 : decode cX9_clear 23 = .ok (.putfield 24, 3) := by decide +kernel
theorem dX9_clear_26 : decode cX9_clear 26 = .ok (.aload_n 0, 1) := by decide +kernel
theorem dX9_clear_27 : decode cX9_clear 27 = .ok (.iconst (-1), 1) := by decide +kernel
theorem dX9_clear_28 : decode cX9_clear 28 = .ok (.putfield 28, 3) := by decide +kernel
theorem dX9_clear_31 : decode cX9_clear 31 = .ok (.iconst 1, 1) := by decide +kernel
theorem dX9_clear_32 : decode cX9_clear 32 = .ok (.ireturn, 1) := by decide +kernel
theorem dX9_told_0 : decode cX9_told 0 = .ok (.aload_n 0, 1) := by decide +kernel
theorem dX9_told_1 : decode cX9_told 1 = .ok (.iconst 0, 1) := by decide +kernel
theorem dX9_told_2 : decode cX9_told 2 = .ok (.putfield 95, 3) := by decide +kernel
theorem dX9_told_5 : decode cX9_told 5 = .ok (.aload_n 0, 1) := by decide +kernel
theorem dX9_told_6 : decode cX9_told 6 = .ok (.iconst 0, 1) := by decide +kernel
theorem dX9_told_7 : decode cX9_told 7 = .ok (.putfield 98, 3) := by decide +kernel
theorem dX9_told_10 : decode cX9_told 10 = .ok (.aload_n 0, 1) := by decide +kernel
theorem dX9_told_11 : decode cX9_told 11 = .ok (.iload_n 1, 1) := by decide +kernel
theorem dX9_told_12 : decode cX9_told 12 = .ok (.invokevirtual 142, 3) := by decide +kernel
theorem dX9_told_15 : decode cX9_told 15 = .ok (.ifCond .ne 9, 3) := by decide +kernel
theorem dX9_told_18 : decode cX9_told 18 = .ok (.aload_n 0, 1) := by decide +kernel
theorem dX9_told_19 : decode cX9_told 19 = .ok (.iconst 2, 1) := by decide +kernel
theorem dX9_told_20 : decode cX9_told 20 = .ok (.invokevirtual 122, 3) := by decide +kernel
theorem dX9_told_23 : decode cX9_told 23 = .ok (.ireturn, 1) := by decide +kernel
theorem dX9_told_24 : decode cX9_told 24 = .ok (.iload_n 2, 1) := by decide +kernel
theorem dX9_told_25 : decode cX9_told 25 = .ok (.tableswitch 72 0 4 #[35, 42, 48, 55, 65], 35) := by decide +kernel
theorem dX9_told_60 : decode cX9_told 60 = .ok (.aload_n 0, 1) := by decide +kernel
theorem dX9_told_61 : decode cX9_told 61 = .ok (.getfield 31, 3) := by decide +kernel
theorem dX9_told_64 : decode cX9_told 64 = .ok (.iload_n 1, 1) := by decide +kernel
theorem dX9_told_65 : decode cX9_told 65 = .ok (.iaload, 1) := by decide +kernel
theorem dX9_told_66 : decode cX9_told 66 = .ok (.ireturn, 1) := by decide +kernel
theorem dX9_told_67 : decode cX9_told 67 = .ok (.aload_n 0, 1) := by decide +kernel
theorem dX9_told_68 : decode cX9_told 68 = .ok (.iload_n 1, 1) := by decide +kernel
theorem dX9_told_69 : decode cX9_told 69 = .ok (.invokevirtual 145, 3) := by decide +kernel
theorem dX9_told_72 : decode cX9_told 72 = .ok (.ireturn, 1) := by decide +kernel
theorem dX9_told_73 : decode cX9_told 73 = .ok (.aload_n 0, 1) := by decide +kernel
theorem dX9_told_74 : decode cX9_told 74 = .ok (.getfield 34, 3) := by decide +kernel
theorem dX9_told_77 : decode cX9_told 77 = .ok (.iload_n 1, 1) := by decide +kernel
theorem dX9_told_78 : decode cX9_told 78 = .ok (.iaload, 1) := by decide +kernel
theorem dX9_told_79 : decode cX9_told 79 = .ok (.ireturn, 1) := by decide +kernel
theorem dX9_told_80 : decode cX9_told 80 = .ok (.aload_n 0, 1) := by decide +kernel
theorem dX9_told_81 : decode cX9_told 81 = .ok (.getfield 37, 3) := by decide +kernel
theorem dX9_told_84 : decode cX9_told 84 = .ok (.iload_n 1, 1) := by decide +kernel
theorem dX9_told_85 : decode cX9_told 85 = .ok (.iaload, 1) := by decide +kernel
theorem dX9_told_86 : decode cX9_told 86 = .ok (.invokestatic 151, 3) := by decide +kernel
theorem dX9_told_89 : decode cX9_told 89 = .ok (.ireturn, 1) := by decide +kernel
theorem dX9_told_90 : decode cX9_told 90 = .ok (.aload_n 0, 1) := by decide +kernel
theorem dX9_told_91 : decode cX9_told 91 = .ok (.getfield 40, 3) := by decide +kernel
theorem dX9_told_94 : decode cX9_told 94 = .ok (.iload_n 1, 1) := by decide +kernel
theorem dX9_told_95 : decode cX9_told 95 = .ok (.iaload, 1) := by decide +kernel
theorem dX9_told_96 : decode cX9_told 96 = .ok (.ireturn, 1) := by decide +kernel
theorem dX9_told_97 : decode cX9_told 97 = .ok (.aload_n 0, 1) := by decide +kernel
theorem dX9_told_98 : decode cX9_told 98 = .ok (.iconst 5, 1) := by decide +kernel
theorem dX9_told_99 : decode cX9_told 99 = .ok (.invokevirtual 122, 3) := by decide +kernel
theorem dX9_told_102 : decode cX9_told 102 = .ok (.ireturn, 1) := by decide +kernel
theorem dX9_row_0 : decode cX9_row 0 = .ok (.aload_n 0, 1) := by decide +kernel
theorem dX9_row_1 : decode cX9_row 1 = .ok (.iconst 0, 1) := by decide +kernel
theorem dX9_row_2 : decode cX9_row 2 = .ok (.putfield 95, 3) := by decide +kernel
theorem dX9_row_5 : decode cX9_row 5 = .ok (.aload_n 0, 1) := by decide +kernel
theorem dX9_row_6 : decode cX9_row 6 = .ok (.iconst 0, 1) := by decide +kernel
theorem dX9_row_7 : decode cX9_row 7 = .ok (.putfield 98, 3) := by decide +kernel
theorem dX9_row_10 : decode cX9_row 10 = .ok (.aload_n 0, 1) := by decide +kernel
theorem dX9_row_11 : decode cX9_row 11 = .ok (.iload_n 1, 1) := by decide +kernel
theorem dX9_row_12 : decode cX9_row 12 = .ok (.invokevirtual 142, 3) := by decide +kernel
theorem dX9_row_15 : decode cX9_row 15 = .ok (.ifCond .eq 17, 3) := by decide +kernel
theorem dX9_row_18 : decode cX9_row 18 = .ok (.iload_n 2, 1) := by decide +kernel
theorem dX9_row_19 : decode cX9_row 19 = .ok (.ifCond .lt 13, 3) := by decide +kernel
theorem dX9_row_22 : decode cX9_row 22 = .ok (.iload_n 2, 1) := by decide +kernel
theorem dX9_row_23 : decode cX9_row 23 = .ok (.aload_n 0, 1) := by decide +kernel
theorem dX9_row_24 : decode cX9_row 24 = .ok (.getfield 31, 3) := by decide +kernel
theorem dX9_row_27 : decode cX9_row 27 = .ok (.iload_n 1, 1) := by decide +kernel
theorem dX9_row_28 : decode cX9_row 28 = .ok (.iaload, 1) := by decide +kernel
theorem dX9_row_29 : decode cX9_row 29 = .ok (.if_icmp .lt 9, 3) := by decide +kernel
theorem dX9_row_32 : decode cX9_row 32 = .ok (.aload_n 0, 1) := by decide +kernel
theorem dX9_row_33 : decode cX9_row 33 = .ok (.iconst 2, 1) := by decide +kernel
theorem dX9_row_34 : decode cX9_row 34 = .ok (.invokevirtual 122, 3) := by decide +kernel
theorem dX9_row_37 : decode cX9_row 37 = .ok (.ireturn, 1) := by decide +kernel
theorem dX9_row_38 : decode cX9_row 38 = .ok (.iload_n 3, 1) := by decide +kernel
theorem dX9_row_39 : decode cX9_row 39 = .ok (.ifCond .lt 8, 3) := by decide +kernel
theorem dX9_row_42 : decode cX9_row 42 = .ok (.iload_n 3, 1) := by decide +kernel
theorem dX9_row_43 : decode cX9_row 43 = .ok (.iconst 1, 1) := by decide +kernel
theorem dX9_row_44 : decode cX9_row 44 = .ok (.if_icmp .le 9, 3) := by decide +kernel
theorem dX9_row_47 : decode cX9_row 47 = .ok (.aload_n 0, 1) := by decide +kernel
theorem dX9_row_48 : decode cX9_row 48 = .ok (.iconst 5, 1) := by decide +kernel
theorem dX9_row_49 : decode cX9_row 49 = .ok (.invokevirtual 122, 3) := by decide +kernel
theorem dX9_row_52 : decode cX9_row 52 = .ok (.ireturn, 1) := by decide +kernel
theorem dX9_row_53 : decode cX9_row 53 = .ok (.iload_n 3, 1) := by decide +kernel
theorem dX9_row_54 : decode cX9_row 54 = .ok (.ifCond .ne 17, 3) := by decide +kernel
theorem dX9_row_57 : decode cX9_row 57 = .ok (.aload_n 0, 1) := by decide +kernel
theorem dX9_row_58 : decode cX9_row 58 = .ok (.getfield 43, 3) := by decide +kernel
theorem dX9_row_61 : decode cX9_row 61 = .ok (.bipush 8, 2) := by decide +kernel
theorem dX9_row_63 : decode cX9_row 63 = .ok (.iload_n 1, 1) := by decide +kernel
theorem dX9_row_64 : decode cX9_row 64 = .ok (.imul, 1) := by decide +kernel
theorem dX9_row_65 : decode cX9_row 65 = .ok (.iload_n 2, 1) := by decide +kernel
theorem dX9_row_66 : decode cX9_row 66 = .ok (.iadd, 1) := by decide +kernel
theorem dX9_row_67 : decode cX9_row 67 = .ok (.iaload, 1) := by decide +kernel
theorem dX9_row_68 : decode cX9_row 68 = .ok (.goto 14, 3) := by decide +kernel
theorem dX9_row_71 : decode cX9_row 71 = .ok (.aload_n 0, 1) := by decide +kernel
theorem dX9_row_72 : decode cX9_row 72 = .ok (.getfield 46, 3) := by decide +kernel
theorem dX9_row_75 : decode cX9_row 75 = .ok (.bipush 8, 2) := by decide +kernel
theorem dX9_row_77 : decode cX9_row 77 = .ok (.iload_n 1, 1) := by decide +kernel
theorem dX9_row_78 : decode cX9_row 78 = .ok (.imul, 1) := by decide +kernel
theorem dX9_row_79 : decode cX9_row 79 = .ok (.iload_n 2, 1) := by decide +kernel
theorem dX9_row_80 : decode cX9_row 80 = .ok (.iadd, 1) := by decide +kernel
theorem dX9_row_81 : decode cX9_row 81 = .ok (.iaload, 1) := by decide +kernel
theorem dX9_row_82 : decode cX9_row 82 = .ok (.ireturn, 1) := by decide +kernel
theorem dX9_tells_0 : decode cX9_tells 0 = .ok (.lload_n 1, 1) := by decide +kernel
theorem dX9_tells_1 : decode cX9_tells 1 = .ok (.lload_n 3, 1) := by decide +kernel
theorem dX9_tells_2 : decode cX9_tells 2 = .ok (.invokestatic 125, 3) := by decide +kernel
theorem dX9_tells_5 : decode cX9_tells 5 = .ok (.lstore 5, 2) := by decide +kernel
theorem dX9_tells_7 : decode cX9_tells 7 = .ok (.aload_n 0, 1) := by decide +kernel
theorem dX9_tells_8 : decode cX9_tells 8 = .ok (.lload_n 1, 1) := by decide +kernel
theorem dX9_tells_9 : decode cX9_tells 9 = .ok (.lload 5, 2) := by decide +kernel
theorem dX9_tells_11 : decode cX9_tells 11 = .ok (.ldiv, 1) := by decide +kernel
theorem dX9_tells_12 : decode cX9_tells 12 = .ok (.putfield 156, 3) := by decide +kernel
theorem dX9_tells_15 : decode cX9_tells 15 = .ok (.aload_n 0, 1) := by decide +kernel
theorem dX9_tells_16 : decode cX9_tells 16 = .ok (.lload_n 3, 1) := by decide +kernel
theorem dX9_tells_17 : decode cX9_tells 17 = .ok (.lload 5, 2) := by decide +kernel
theorem dX9_tells_19 : decode cX9_tells 19 = .ok (.ldiv, 1) := by decide +kernel
theorem dX9_tells_20 : decode cX9_tells 20 = .ok (.putfield 7, 3) := by decide +kernel
theorem dX9_tells_23 : decode cX9_tells 23 = .ok (.iconst 0, 1) := by decide +kernel
theorem dX9_tells_24 : decode cX9_tells 24 = .ok (.ireturn, 1) := by decide +kernel
theorem dX9_upper_0 : decode cX9_upper 0 = .ok (.aload_n 0, 1) := by decide +kernel
theorem dX9_upper_1 : decode cX9_upper 1 = .ok (.iconst 0, 1) := by decide +kernel
theorem dX9_upper_2 : decode cX9_upper 2 = .ok (.putfield 95, 3) := by decide +kernel
theorem dX9_upper_5 : decode cX9_upper 5 = .ok (.aload_n 0, 1) := by decide +kernel
theorem dX9_upper_6 : decode cX9_upper 6 = .ok (.getfield 156, 3) := by decide +kernel
theorem dX9_upper_9 : decode cX9_upper 9 = .ok (.lreturn, 1) := by decide +kernel
theorem dX9_lower_0 : decode cX9_lower 0 = .ok (.aload_n 0, 1) := by decide +kernel
theorem dX9_lower_1 : decode cX9_lower 1 = .ok (.iconst 0, 1) := by decide +kernel
theorem dX9_lower_2 : decode cX9_lower 2 = .ok (.putfield 95, 3) := by decide +kernel
theorem dX9_lower_5 : decode cX9_lower 5 = .ok (.aload_n 0, 1) := by decide +kernel
theorem dX9_lower_6 : decode cX9_lower 6 = .ok (.getfield 7, 3) := by decide +kernel
theorem dX9_lower_9 : decode cX9_lower 9 = .ok (.lreturn, 1) := by decide +kernel
theorem dX9_isGreat_0 : decode cX9_isGreat 0 = .ok (.lconst 1, 1) := by decide +kernel
theorem dX9_isGreat_1 : decode cX9_isGreat 1 = .ok (.lstore_n 1, 1) := by decide +kernel
theorem dX9_isGreat_2 : decode cX9_isGreat 2 = .ok (.iconst 0, 1) := by decide +kernel
theorem dX9_isGreat_3 : decode cX9_isGreat 3 = .ok (.istore_n 3, 1) := by decide +kernel
theorem dX9_isGreat_4 : decode cX9_isGreat 4 = .ok (.iload_n 3, 1) := by decide +kernel
theorem dX9_isGreat_5 : decode cX9_isGreat 5 = .ok (.aload_n 0, 1) := by decide +kernel
theorem dX9_isGreat_6 : decode cX9_isGreat 6 = .ok (.getfield 119, 3) := by decide +kernel
theorem dX9_isGreat_9 : decode cX9_isGreat 9 = .ok (.if_icmp .ge 28, 3) := by decide +kernel
theorem dX9_isGreat_12 : decode cX9_isGreat 12 = .ok (.lload_n 1, 1) := by decide +kernel
theorem dX9_isGreat_13 : decode cX9_isGreat 13 = .ok (.aload_n 0, 1) := by decide +kernel
theorem dX9_isGreat_14 : decode cX9_isGreat 14 = .ok (.iload_n 3, 1) := by decide +kernel
theorem dX9_isGreat_15 : decode cX9_isGreat 15 = .ok (.invokevirtual 145, 3) := by decide +kernel
theorem dX9_isGreat_18 : decode cX9_isGreat 18 = .ok (.i2l, 1) := by decide +kernel
theorem dX9_isGreat_19 : decode cX9_isGreat 19 = .ok (.lmul, 1) := by decide +kernel
theorem dX9_isGreat_20 : decode cX9_isGreat 20 = .ok (.lstore_n 1, 1) := by decide +kernel
theorem dX9_isGreat_21 : decode cX9_isGreat 21 = .ok (.lload_n 1, 1) := by decide +kernel
theorem dX9_isGreat_22 : decode cX9_isGreat 22 = .ok (.ldc2_w 159, 3) := by decide +kernel
theorem dX9_isGreat_25 : decode cX9_isGreat 25 = .ok (.lcmp, 1) := by decide +kernel
theorem dX9_isGreat_26 : decode cX9_isGreat 26 = .ok (.ifCond .le 5, 3) := by decide +kernel
theorem dX9_isGreat_29 : decode cX9_isGreat 29 = .ok (.iconst 1, 1) := by decide +kernel
theorem dX9_isGreat_30 : decode cX9_isGreat 30 = .ok (.ireturn, 1) := by decide +kernel
theorem dX9_isGreat_31 : decode cX9_isGreat 31 = .ok (.iinc 3 1, 3) := by decide +kernel
theorem dX9_isGreat_34 : decode cX9_isGreat 34 = .ok (.goto (-30), 3) := by decide +kernel
theorem dX9_isGreat_37 : decode cX9_isGreat 37 = .ok (.iconst 0, 1) := by decide +kernel
theorem dX9_isGreat_38 : decode cX9_isGreat 38 = .ok (.istore_n 3, 1) := by decide +kernel
theorem dX9_isGreat_39 : decode cX9_isGreat 39 = .ok (.iload_n 3, 1) := by decide +kernel
theorem dX9_isGreat_40 : decode cX9_isGreat 40 = .ok (.aload_n 0, 1) := by decide +kernel
theorem dX9_isGreat_41 : decode cX9_isGreat 41 = .ok (.getfield 148, 3) := by decide +kernel
theorem dX9_isGreat_44 : decode cX9_isGreat 44 = .ok (.if_icmp .ge 29, 3) := by decide +kernel
theorem dX9_isGreat_47 : decode cX9_isGreat 47 = .ok (.lload_n 1, 1) := by decide +kernel
theorem dX9_isGreat_48 : decode cX9_isGreat 48 = .ok (.aload_n 0, 1) := by decide +kernel
theorem dX9_isGreat_49 : decode cX9_isGreat 49 = .ok (.getfield 55, 3) := by decide +kernel
theorem dX9_isGreat_52 : decode cX9_isGreat 52 = .ok (.iload_n 3, 1) := by decide +kernel
theorem dX9_isGreat_53 : decode cX9_isGreat 53 = .ok (.iaload, 1) := by decide +kernel
theorem dX9_isGreat_54 : decode cX9_isGreat 54 = .ok (.i2l, 1) := by decide +kernel
theorem dX9_isGreat_55 : decode cX9_isGreat 55 = .ok (.lmul, 1) := by decide +kernel
theorem dX9_isGreat_56 : decode cX9_isGreat 56 = .ok (.lstore_n 1, 1) := by decide +kernel
theorem dX9_isGreat_57 : decode cX9_isGreat 57 = .ok (.lload_n 1, 1) := by decide +kernel
theorem dX9_isGreat_58 : decode cX9_isGreat 58 = .ok (.ldc2_w 159, 3) := by decide +kernel
theorem dX9_isGreat_61 : decode cX9_isGreat 61 = .ok (.lcmp, 1) := by decide +kernel
theorem dX9_isGreat_62 : decode cX9_isGreat 62 = .ok (.ifCond .le 5, 3) := by decide +kernel
theorem dX9_isGreat_65 : decode cX9_isGreat 65 = .ok (.iconst 1, 1) := by decide +kernel
theorem dX9_isGreat_66 : decode cX9_isGreat 66 = .ok (.ireturn, 1) := by decide +kernel
theorem dX9_isGreat_67 : decode cX9_isGreat 67 = .ok (.iinc 3 1, 3) := by decide +kernel
theorem dX9_isGreat_70 : decode cX9_isGreat 70 = .ok (.goto (-31), 3) := by decide +kernel
theorem dX9_isGreat_73 : decode cX9_isGreat 73 = .ok (.iconst 0, 1) := by decide +kernel
theorem dX9_isGreat_74 : decode cX9_isGreat 74 = .ok (.ireturn, 1) := by decide +kernel
theorem dX9_ways_0 : decode cX9_ways 0 = .ok (.aload_n 0, 1) := by decide +kernel
theorem dX9_ways_1 : decode cX9_ways 1 = .ok (.iconst 0, 1) := by decide +kernel
theorem dX9_ways_2 : decode cX9_ways 2 = .ok (.putfield 95, 3) := by decide +kernel
theorem dX9_ways_5 : decode cX9_ways 5 = .ok (.aload_n 0, 1) := by decide +kernel
theorem dX9_ways_6 : decode cX9_ways 6 = .ok (.iconst 0, 1) := by decide +kernel
theorem dX9_ways_7 : decode cX9_ways 7 = .ok (.putfield 98, 3) := by decide +kernel
theorem dX9_ways_10 : decode cX9_ways 10 = .ok (.aload_n 0, 1) := by decide +kernel
theorem dX9_ways_11 : decode cX9_ways 11 = .ok (.invokevirtual 161, 3) := by decide +kernel
theorem dX9_ways_14 : decode cX9_ways 14 = .ok (.ifCond .eq 10, 3) := by decide +kernel
theorem dX9_ways_17 : decode cX9_ways 17 = .ok (.aload_n 0, 1) := by decide +kernel
theorem dX9_ways_18 : decode cX9_ways 18 = .ok (.bipush 9, 2) := by decide +kernel
theorem dX9_ways_20 : decode cX9_ways 20 = .ok (.invokevirtual 122, 3) := by decide +kernel
theorem dX9_ways_23 : decode cX9_ways 23 = .ok (.ireturn, 1) := by decide +kernel
theorem dX9_ways_24 : decode cX9_ways 24 = .ok (.iconst 1, 1) := by decide +kernel
end
section
theorem dX9_ways_25 : decode cX9_ways 25 = .ok (.istore_n 1, 1) := by decide +kernel
theorem dX9_ways_26 : decode cX9_ways 26 = .ok (.iconst 0, 1) := by decide +kernel
theorem dX9_ways_27 : decode cX9_ways 27 = .ok (.istore_n 2, 1) := by decide +kernel
theorem dX9_ways_28 : decode cX9_ways 28 = .ok (.iload_n 2, 1) := by decide +kernel
theorem dX9_ways_29 : decode cX9_ways 29 = .ok (.aload_n 0, 1) := by decide +kernel
theorem dX9_ways_30 : decode cX9_ways 30 = .ok (.getfield 119, 3) := by decide +kernel
theorem dX9_ways_33 : decode cX9_ways 33 = .ok (.if_icmp .ge 18, 3) := by decide +kernel
theorem dX9_ways_36 : decode cX9_ways 36 = .ok (.iload_n 1, 1) := by decide +kernel
theorem dX9_ways_37 : decode cX9_ways 37 = .ok (.aload_n 0, 1) := by decide +kernel
theorem dX9_ways_38 : decode cX9_ways 38 = .ok (.getfield 31, 3) := by decide +kernel
theorem dX9_ways_41 : decode cX9_ways 41 = .ok (.iload_n 2, 1) := by decide +kernel
theorem dX9_ways_42 : decode cX9_ways 42 = .ok (.iaload, 1) := by decide +kernel
theorem dX9_ways_43 : decode cX9_ways 43 = .ok (.imul, 1) := by decide +kernel
theorem dX9_ways_44 : decode cX9_ways 44 = .ok (.istore_n 1, 1) := by decide +kernel
theorem dX9_ways_45 : decode cX9_ways 45 = .ok (.iinc 2 1, 3) := by decide +kernel
theorem dX9_ways_48 : decode cX9_ways 48 = .ok (.goto (-20), 3) := by decide +kernel
theorem dX9_ways_51 : decode cX9_ways 51 = .ok (.iload_n 1, 1) := by decide +kernel
theorem dX9_ways_52 : decode cX9_ways 52 = .ok (.aload_n 0, 1) := by decide +kernel
theorem dX9_ways_53 : decode cX9_ways 53 = .ok (.getfield 148, 3) := by decide +kernel
theorem dX9_ways_56 : decode cX9_ways 56 = .ok (.ishl, 1) := by decide +kernel
theorem dX9_ways_57 : decode cX9_ways 57 = .ok (.ireturn, 1) := by decide +kernel
theorem dX9_isStuck_0 : decode cX9_isStuck 0 = .ok (.iconst 0, 1) := by decide +kernel
theorem dX9_isStuck_1 : decode cX9_isStuck 1 = .ok (.istore_n 1, 1) := by decide +kernel
theorem dX9_isStuck_2 : decode cX9_isStuck 2 = .ok (.iload_n 1, 1) := by decide +kernel
theorem dX9_isStuck_3 : decode cX9_isStuck 3 = .ok (.aload_n 0, 1) := by decide +kernel
theorem dX9_isStuck_4 : decode cX9_isStuck 4 = .ok (.getfield 119, 3) := by decide +kernel
theorem dX9_isStuck_7 : decode cX9_isStuck 7 = .ok (.if_icmp .ge 24, 3) := by decide +kernel
theorem dX9_isStuck_10 : decode cX9_isStuck 10 = .ok (.aload_n 0, 1) := by decide +kernel
theorem dX9_isStuck_11 : decode cX9_isStuck 11 = .ok (.getfield 34, 3) := by decide +kernel
theorem dX9_isStuck_14 : decode cX9_isStuck 14 = .ok (.iload_n 1, 1) := by decide +kernel
theorem dX9_isStuck_15 : decode cX9_isStuck 15 = .ok (.iaload, 1) := by decide +kernel
theorem dX9_isStuck_16 : decode cX9_isStuck 16 = .ok (.aload_n 0, 1) := by decide +kernel
theorem dX9_isStuck_17 : decode cX9_isStuck 17 = .ok (.getfield 24, 3) := by decide +kernel
theorem dX9_isStuck_20 : decode cX9_isStuck 20 = .ok (.if_icmp .le 5, 3) := by decide +kernel
theorem dX9_isStuck_23 : decode cX9_isStuck 23 = .ok (.iconst 1, 1) := by decide +kernel
theorem dX9_isStuck_24 : decode cX9_isStuck 24 = .ok (.ireturn, 1) := by decide +kernel
theorem dX9_isStuck_25 : decode cX9_isStuck 25 = .ok (.iinc 1 1, 3) := by decide +kernel
theorem dX9_isStuck_28 : decode cX9_isStuck 28 = .ok (.goto (-26), 3) := by decide +kernel
theorem dX9_isStuck_31 : decode cX9_isStuck 31 = .ok (.iconst 0, 1) := by decide +kernel
theorem dX9_isStuck_32 : decode cX9_isStuck 32 = .ok (.ireturn, 1) := by decide +kernel
theorem dX9_firstWay_0 : decode cX9_firstWay 0 = .ok (.iconst 0, 1) := by decide +kernel
theorem dX9_firstWay_1 : decode cX9_firstWay 1 = .ok (.istore_n 1, 1) := by decide +kernel
theorem dX9_firstWay_2 : decode cX9_firstWay 2 = .ok (.iload_n 1, 1) := by decide +kernel
theorem dX9_firstWay_3 : decode cX9_firstWay 3 = .ok (.aload_n 0, 1) := by decide +kernel
theorem dX9_firstWay_4 : decode cX9_firstWay 4 = .ok (.getfield 119, 3) := by decide +kernel
theorem dX9_firstWay_7 : decode cX9_firstWay 7 = .ok (.if_icmp .ge 16, 3) := by decide +kernel
theorem dX9_firstWay_10 : decode cX9_firstWay 10 = .ok (.aload_n 0, 1) := by decide +kernel
theorem dX9_firstWay_11 : decode cX9_firstWay 11 = .ok (.getfield 61, 3) := by decide +kernel
theorem dX9_firstWay_14 : decode cX9_firstWay 14 = .ok (.iload_n 1, 1) := by decide +kernel
theorem dX9_firstWay_15 : decode cX9_firstWay 15 = .ok (.iconst 0, 1) := by decide +kernel
theorem dX9_firstWay_16 : decode cX9_firstWay 16 = .ok (.iastore, 1) := by decide +kernel
theorem dX9_firstWay_17 : decode cX9_firstWay 17 = .ok (.iinc 1 1, 3) := by decide +kernel
theorem dX9_firstWay_20 : decode cX9_firstWay 20 = .ok (.goto (-18), 3) := by decide +kernel
theorem dX9_firstWay_23 : decode cX9_firstWay 23 = .ok (.iconst 0, 1) := by decide +kernel
theorem dX9_firstWay_24 : decode cX9_firstWay 24 = .ok (.istore_n 1, 1) := by decide +kernel
theorem dX9_firstWay_25 : decode cX9_firstWay 25 = .ok (.iload_n 1, 1) := by decide +kernel
theorem dX9_firstWay_26 : decode cX9_firstWay 26 = .ok (.aload_n 0, 1) := by decide +kernel
theorem dX9_firstWay_27 : decode cX9_firstWay 27 = .ok (.getfield 148, 3) := by decide +kernel
theorem dX9_firstWay_30 : decode cX9_firstWay 30 = .ok (.if_icmp .ge 16, 3) := by decide +kernel
theorem dX9_firstWay_33 : decode cX9_firstWay 33 = .ok (.aload_n 0, 1) := by decide +kernel
theorem dX9_firstWay_34 : decode cX9_firstWay 34 = .ok (.getfield 70, 3) := by decide +kernel
theorem dX9_firstWay_37 : decode cX9_firstWay 37 = .ok (.iload_n 1, 1) := by decide +kernel
theorem dX9_firstWay_38 : decode cX9_firstWay 38 = .ok (.iconst 0, 1) := by decide +kernel
theorem dX9_firstWay_39 : decode cX9_firstWay 39 = .ok (.bastore, 1) := by decide +kernel
theorem dX9_firstWay_40 : decode cX9_firstWay 40 = .ok (.iinc 1 1, 3) := by decide +kernel
theorem dX9_firstWay_43 : decode cX9_firstWay 43 = .ok (.goto (-18), 3) := by decide +kernel
theorem dX9_firstWay_46 : decode cX9_firstWay 46 = .ok (.return_, 1) := by decide +kernel
theorem dX9_nextWay_0 : decode cX9_nextWay 0 = .ok (.iconst 0, 1) := by decide +kernel
theorem dX9_nextWay_1 : decode cX9_nextWay 1 = .ok (.istore_n 1, 1) := by decide +kernel
theorem dX9_nextWay_2 : decode cX9_nextWay 2 = .ok (.iload_n 1, 1) := by decide +kernel
theorem dX9_nextWay_3 : decode cX9_nextWay 3 = .ok (.aload_n 0, 1) := by decide +kernel
theorem dX9_nextWay_4 : decode cX9_nextWay 4 = .ok (.getfield 119, 3) := by decide +kernel
theorem dX9_nextWay_7 : decode cX9_nextWay 7 = .ok (.if_icmp .ge 43, 3) := by decide +kernel
theorem dX9_nextWay_10 : decode cX9_nextWay 10 = .ok (.aload_n 0, 1) := by decide +kernel
theorem dX9_nextWay_11 : decode cX9_nextWay 11 = .ok (.getfield 61, 3) := by decide +kernel
theorem dX9_nextWay_14 : decode cX9_nextWay 14 = .ok (.iload_n 1, 1) := by decide +kernel
theorem dX9_nextWay_15 : decode cX9_nextWay 15 = .ok (.dup2, 1) := by decide +kernel
theorem dX9_nextWay_16 : decode cX9_nextWay 16 = .ok (.iaload, 1) := by decide +kernel
theorem dX9_nextWay_17 : decode cX9_nextWay 17 = .ok (.iconst 1, 1) := by decide +kernel
theorem dX9_nextWay_18 : decode cX9_nextWay 18 = .ok (.iadd, 1) := by decide +kernel
theorem dX9_nextWay_19 : decode cX9_nextWay 19 = .ok (.iastore, 1) := by decide +kernel
theorem dX9_nextWay_20 : decode cX9_nextWay 20 = .ok (.aload_n 0, 1) := by decide +kernel
theorem dX9_nextWay_21 : decode cX9_nextWay 21 = .ok (.getfield 61, 3) := by decide +kernel
theorem dX9_nextWay_24 : decode cX9_nextWay 24 = .ok (.iload_n 1, 1) := by decide +kernel
theorem dX9_nextWay_25 : decode cX9_nextWay 25 = .ok (.iaload, 1) := by decide +kernel
theorem dX9_nextWay_26 : decode cX9_nextWay 26 = .ok (.aload_n 0, 1) := by decide +kernel
theorem dX9_nextWay_27 : decode cX9_nextWay 27 = .ok (.getfield 31, 3) := by decide +kernel
theorem dX9_nextWay_30 : decode cX9_nextWay 30 = .ok (.iload_n 1, 1) := by decide +kernel
theorem dX9_nextWay_31 : decode cX9_nextWay 31 = .ok (.iaload, 1) := by decide +kernel
theorem dX9_nextWay_32 : decode cX9_nextWay 32 = .ok (.if_icmp .ge 5, 3) := by decide +kernel
theorem dX9_nextWay_35 : decode cX9_nextWay 35 = .ok (.iconst 1, 1) := by decide +kernel
theorem dX9_nextWay_36 : decode cX9_nextWay 36 = .ok (.ireturn, 1) := by decide +kernel
theorem dX9_nextWay_37 : decode cX9_nextWay 37 = .ok (.aload_n 0, 1) := by decide +kernel
theorem dX9_nextWay_38 : decode cX9_nextWay 38 = .ok (.getfield 61, 3) := by decide +kernel
theorem dX9_nextWay_41 : decode cX9_nextWay 41 = .ok (.iload_n 1, 1) := by decide +kernel
theorem dX9_nextWay_42 : decode cX9_nextWay 42 = .ok (.iconst 0, 1) := by decide +kernel
theorem dX9_nextWay_43 : decode cX9_nextWay 43 = .ok (.iastore, 1) := by decide +kernel
theorem dX9_nextWay_44 : decode cX9_nextWay 44 = .ok (.iinc 1 1, 3) := by decide +kernel
theorem dX9_nextWay_47 : decode cX9_nextWay 47 = .ok (.goto (-45), 3) := by decide +kernel
theorem dX9_nextWay_50 : decode cX9_nextWay 50 = .ok (.iconst 0, 1) := by decide +kernel
theorem dX9_nextWay_51 : decode cX9_nextWay 51 = .ok (.istore_n 1, 1) := by decide +kernel
theorem dX9_nextWay_52 : decode cX9_nextWay 52 = .ok (.iload_n 1, 1) := by decide +kernel
theorem dX9_nextWay_53 : decode cX9_nextWay 53 = .ok (.aload_n 0, 1) := by decide +kernel
theorem dX9_nextWay_54 : decode cX9_nextWay 54 = .ok (.getfield 148, 3) := by decide +kernel
theorem dX9_nextWay_57 : decode cX9_nextWay 57 = .ok (.if_icmp .ge 40, 3) := by decide +kernel
theorem dX9_nextWay_60 : decode cX9_nextWay 60 = .ok (.aload_n 0, 1) := by decide +kernel
theorem dX9_nextWay_61 : decode cX9_nextWay 61 = .ok (.getfield 70, 3) := by decide +kernel
theorem dX9_nextWay_64 : decode cX9_nextWay 64 = .ok (.iload_n 1, 1) := by decide +kernel
theorem dX9_nextWay_65 : decode cX9_nextWay 65 = .ok (.aload_n 0, 1) := by decide +kernel
theorem dX9_nextWay_66 : decode cX9_nextWay 66 = .ok (.getfield 70, 3) := by decide +kernel
theorem dX9_nextWay_69 : decode cX9_nextWay 69 = .ok (.iload_n 1, 1) := by decide +kernel
theorem dX9_nextWay_70 : decode cX9_nextWay 70 = .ok (.baload, 1) := by decide +kernel
theorem dX9_nextWay_71 : decode cX9_nextWay 71 = .ok (.ifCond .ne 7, 3) := by decide +kernel
theorem dX9_nextWay_74 : decode cX9_nextWay 74 = .ok (.iconst 1, 1) := by decide +kernel
theorem dX9_nextWay_75 : decode cX9_nextWay 75 = .ok (.goto 4, 3) := by decide +kernel
theorem dX9_nextWay_78 : decode cX9_nextWay 78 = .ok (.iconst 0, 1) := by decide +kernel
theorem dX9_nextWay_79 : decode cX9_nextWay 79 = .ok (.bastore, 1) := by decide +kernel
theorem dX9_nextWay_80 : decode cX9_nextWay 80 = .ok (.aload_n 0, 1) := by decide +kernel
theorem dX9_nextWay_81 : decode cX9_nextWay 81 = .ok (.getfield 70, 3) := by decide +kernel
theorem dX9_nextWay_84 : decode cX9_nextWay 84 = .ok (.iload_n 1, 1) := by decide +kernel
theorem dX9_nextWay_85 : decode cX9_nextWay 85 = .ok (.baload, 1) := by decide +kernel
theorem dX9_nextWay_86 : decode cX9_nextWay 86 = .ok (.ifCond .eq 5, 3) := by decide +kernel
theorem dX9_nextWay_89 : decode cX9_nextWay 89 = .ok (.iconst 1, 1) := by decide +kernel
theorem dX9_nextWay_90 : decode cX9_nextWay 90 = .ok (.ireturn, 1) := by decide +kernel
theorem dX9_nextWay_91 : decode cX9_nextWay 91 = .ok (.iinc 1 1, 3) := by decide +kernel
theorem dX9_nextWay_94 : decode cX9_nextWay 94 = .ok (.goto (-42), 3) := by decide +kernel
theorem dX9_nextWay_97 : decode cX9_nextWay 97 = .ok (.iconst 0, 1) := by decide +kernel
theorem dX9_nextWay_98 : decode cX9_nextWay 98 = .ok (.ireturn, 1) := by decide +kernel
theorem dX9_weightOf_0 : decode cX9_weightOf 0 = .ok (.lconst 1, 1) := by decide +kernel
theorem dX9_weightOf_1 : decode cX9_weightOf 1 = .ok (.lstore_n 1, 1) := by decide +kernel
theorem dX9_weightOf_2 : decode cX9_weightOf 2 = .ok (.iconst 0, 1) := by decide +kernel
theorem dX9_weightOf_3 : decode cX9_weightOf 3 = .ok (.istore_n 3, 1) := by decide +kernel
theorem dX9_weightOf_4 : decode cX9_weightOf 4 = .ok (.iload_n 3, 1) := by decide +kernel
theorem dX9_weightOf_5 : decode cX9_weightOf 5 = .ok (.aload_n 0, 1) := by decide +kernel
theorem dX9_weightOf_6 : decode cX9_weightOf 6 = .ok (.getfield 119, 3) := by decide +kernel
theorem dX9_weightOf_9 : decode cX9_weightOf 9 = .ok (.if_icmp .ge 29, 3) := by decide +kernel
theorem dX9_weightOf_12 : decode cX9_weightOf 12 = .ok (.lload_n 1, 1) := by decide +kernel
theorem dX9_weightOf_13 : decode cX9_weightOf 13 = .ok (.aload_n 0, 1) := by decide +kernel
theorem dX9_weightOf_14 : decode cX9_weightOf 14 = .ok (.getfield 46, 3) := by decide +kernel
theorem dX9_weightOf_17 : decode cX9_weightOf 17 = .ok (.bipush 8, 2) := by decide +kernel
theorem dX9_weightOf_19 : decode cX9_weightOf 19 = .ok (.iload_n 3, 1) := by decide +kernel
theorem dX9_weightOf_20 : decode cX9_weightOf 20 = .ok (.imul, 1) := by decide +kernel
theorem dX9_weightOf_21 : decode cX9_weightOf 21 = .ok (.aload_n 0, 1) := by decide +kernel
theorem dX9_weightOf_22 : decode cX9_weightOf 22 = .ok (.getfield 61, 3) := by decide +kernel
theorem dX9_weightOf_25 : decode cX9_weightOf 25 = .ok (.iload_n 3, 1) := by decide +kernel
theorem dX9_weightOf_26 : decode cX9_weightOf 26 = .ok (.iaload, 1) := by decide +kernel
theorem dX9_weightOf_27 : decode cX9_weightOf 27 = .ok (.iadd, 1) := by decide +kernel
theorem dX9_weightOf_28 : decode cX9_weightOf 28 = .ok (.iaload, 1) := by decide +kernel
theorem dX9_weightOf_29 : decode cX9_weightOf 29 = .ok (.i2l, 1) := by decide +kernel
theorem dX9_weightOf_30 : decode cX9_weightOf 30 = .ok (.lmul, 1) := by decide +kernel
theorem dX9_weightOf_31 : decode cX9_weightOf 31 = .ok (.lstore_n 1, 1) := by decide +kernel
theorem dX9_weightOf_32 : decode cX9_weightOf 32 = .ok (.iinc 3 1, 3) := by decide +kernel
theorem dX9_weightOf_35 : decode cX9_weightOf 35 = .ok (.goto (-31), 3) := by decide +kernel
theorem dX9_weightOf_38 : decode cX9_weightOf 38 = .ok (.iconst 0, 1) := by decide +kernel
theorem dX9_weightOf_39 : decode cX9_weightOf 39 = .ok (.istore_n 3, 1) := by decide +kernel
theorem dX9_weightOf_40 : decode cX9_weightOf 40 = .ok (.iload_n 3, 1) := by decide +kernel
theorem dX9_weightOf_41 : decode cX9_weightOf 41 = .ok (.aload_n 0, 1) := by decide +kernel
theorem dX9_weightOf_42 : decode cX9_weightOf 42 = .ok (.getfield 148, 3) := by decide +kernel
theorem dX9_weightOf_45 : decode cX9_weightOf 45 = .ok (.if_icmp .ge 45, 3) := by decide +kernel
theorem dX9_weightOf_48 : decode cX9_weightOf 48 = .ok (.lload_n 1, 1) := by decide +kernel
theorem dX9_weightOf_49 : decode cX9_weightOf 49 = .ok (.aload_n 0, 1) := by decide +kernel
theorem dX9_weightOf_50 : decode cX9_weightOf 50 = .ok (.getfield 70, 3) := by decide +kernel
theorem dX9_weightOf_53 : decode cX9_weightOf 53 = .ok (.iload_n 3, 1) := by decide +kernel
theorem dX9_weightOf_54 : decode cX9_weightOf 54 = .ok (.baload, 1) := by decide +kernel
theorem dX9_weightOf_55 : decode cX9_weightOf 55 = .ok (.ifCond .eq 13, 3) := by decide +kernel
theorem dX9_weightOf_58 : decode cX9_weightOf 58 = .ok (.aload_n 0, 1) := by decide +kernel
theorem dX9_weightOf_59 : decode cX9_weightOf 59 = .ok (.getfield 52, 3) := by decide +kernel
theorem dX9_weightOf_62 : decode cX9_weightOf 62 = .ok (.iload_n 3, 1) := by decide +kernel
theorem dX9_weightOf_63 : decode cX9_weightOf 63 = .ok (.iaload, 1) := by decide +kernel
theorem dX9_weightOf_64 : decode cX9_weightOf 64 = .ok (.i2l, 1) := by decide +kernel
theorem dX9_weightOf_65 : decode cX9_weightOf 65 = .ok (.goto 17, 3) := by decide +kernel
theorem dX9_weightOf_68 : decode cX9_weightOf 68 = .ok (.aload_n 0, 1) := by decide +kernel
theorem dX9_weightOf_69 : decode cX9_weightOf 69 = .ok (.getfield 55, 3) := by decide +kernel
theorem dX9_weightOf_72 : decode cX9_weightOf 72 = .ok (.iload_n 3, 1) := by decide +kernel
theorem dX9_weightOf_73 : decode cX9_weightOf 73 = .ok (.iaload, 1) := by decide +kernel
theorem dX9_weightOf_74 : decode cX9_weightOf 74 = .ok (.aload_n 0, 1) := by decide +kernel
theorem dX9_weightOf_75 : decode cX9_weightOf 75 = .ok (.getfield 52, 3) := by decide +kernel
theorem dX9_weightOf_78 : decode cX9_weightOf 78 = .ok (.iload_n 3, 1) := by decide +kernel
theorem dX9_weightOf_79 : decode cX9_weightOf 79 = .ok (.iaload, 1) := by decide +kernel
theorem dX9_weightOf_80 : decode cX9_weightOf 80 = .ok (.isub, 1) := by decide +kernel
theorem dX9_weightOf_81 : decode cX9_weightOf 81 = .ok (.i2l, 1) := by decide +kernel
theorem dX9_weightOf_82 : decode cX9_weightOf 82 = .ok (.lmul, 1) := by decide +kernel
theorem dX9_weightOf_83 : decode cX9_weightOf 83 = .ok (.lstore_n 1, 1) := by decide +kernel
theorem dX9_weightOf_84 : decode cX9_weightOf 84 = .ok (.iinc 3 1, 3) := by decide +kernel
theorem dX9_weightOf_87 : decode cX9_weightOf 87 = .ok (.goto (-47), 3) := by decide +kernel
theorem dX9_weightOf_90 : decode cX9_weightOf 90 = .ok (.lload_n 1, 1) := by decide +kernel
theorem dX9_weightOf_91 : decode cX9_weightOf 91 = .ok (.lreturn, 1) := by decide +kernel
theorem dX9_step_0 : decode cX9_step 0 = .ok (.iconst 0, 1) := by decide +kernel
theorem dX9_step_1 : decode cX9_step 1 = .ok (.istore_n 2, 1) := by decide +kernel
theorem dX9_step_2 : decode cX9_step 2 = .ok (.iload_n 2, 1) := by decide +kernel
theorem dX9_step_3 : decode cX9_step 3 = .ok (.aload_n 0, 1) := by decide +kernel
theorem dX9_step_4 : decode cX9_step 4 = .ok (.getfield 119, 3) := by decide +kernel
theorem dX9_step_7 : decode cX9_step 7 = .ok (.if_icmp .ge 104, 3) := by decide +kernel
theorem dX9_step_10 : decode cX9_step 10 = .ok (.aload_n 0, 1) := by decide +kernel
theorem dX9_step_11 : decode cX9_step 11 = .ok (.getfield 64, 3) := by decide +kernel
theorem dX9_step_14 : decode cX9_step 14 = .ok (.iload_n 2, 1) := by decide +kernel
theorem dX9_step_15 : decode cX9_step 15 = .ok (.aload_n 0, 1) := by decide +kernel
theorem dX9_step_16 : decode cX9_step 16 = .ok (.getfield 43, 3) := by decide +kernel
theorem dX9_step_19 : decode cX9_step 19 = .ok (.bipush 8, 2) := by decide +kernel
theorem dX9_step_21 : decode cX9_step 21 = .ok (.iload_n 2, 1) := by decide +kernel
theorem dX9_step_22 : decode cX9_step 22 = .ok (.imul, 1) := by decide +kernel
theorem dX9_step_23 : decode cX9_step 23 = .ok (.aload_n 0, 1) := by decide +kernel
theorem dX9_step_24 : decode cX9_step 24 = .ok (.getfield 61, 3) := by decide +kernel
theorem dX9_step_27 : decode cX9_step 27 = .ok (.iload_n 2, 1) := by decide +kernel
theorem dX9_step_28 : decode cX9_step 28 = .ok (.iaload, 1) := by decide +kernel
theorem dX9_step_29 : decode cX9_step 29 = .ok (.iadd, 1) := by decide +kernel
theorem dX9_step_30 : decode cX9_step 30 = .ok (.iaload, 1) := by decide +kernel
theorem dX9_step_31 : decode cX9_step 31 = .ok (.iload_n 2, 1) := by decide +kernel
theorem dX9_step_32 : decode cX9_step 32 = .ok (.iload_n 1, 1) := by decide +kernel
theorem dX9_step_33 : decode cX9_step 33 = .ok (.if_icmp .ne 7, 3) := by decide +kernel
theorem dX9_step_36 : decode cX9_step 36 = .ok (.iconst 1, 1) := by decide +kernel
theorem dX9_step_37 : decode cX9_step 37 = .ok (.goto 4, 3) := by decide +kernel
theorem dX9_step_40 : decode cX9_step 40 = .ok (.iconst 0, 1) := by decide +kernel
theorem dX9_step_41 : decode cX9_step 41 = .ok (.iadd, 1) := by decide +kernel
theorem dX9_step_42 : decode cX9_step 42 = .ok (.iastore, 1) := by decide +kernel
theorem dX9_step_43 : decode cX9_step 43 = .ok (.iconst 0, 1) := by decide +kernel
theorem dX9_step_44 : decode cX9_step 44 = .ok (.istore_n 3, 1) := by decide +kernel
theorem dX9_step_45 : decode cX9_step 45 = .ok (.iload_n 3, 1) := by decide +kernel
theorem dX9_step_46 : decode cX9_step 46 = .ok (.aload_n 0, 1) := by decide +kernel
theorem dX9_step_47 : decode cX9_step 47 = .ok (.getfield 148, 3) := by decide +kernel
theorem dX9_step_50 : decode cX9_step 50 = .ok (.if_icmp .ge 41, 3) := by decide +kernel
theorem dX9_step_53 : decode cX9_step 53 = .ok (.aload_n 0, 1) := by decide +kernel
theorem dX9_step_54 : decode cX9_step 54 = .ok (.getfield 64, 3) := by decide +kernel
theorem dX9_step_57 : decode cX9_step 57 = .ok (.iload_n 2, 1) := by decide +kernel
theorem dX9_step_58 : decode cX9_step 58 = .ok (.dup2, 1) := by decide +kernel
theorem dX9_step_59 : decode cX9_step 59 = .ok (.iaload, 1) := by decide +kernel
theorem dX9_step_60 : decode cX9_step 60 = .ok (.aload_n 0, 1) := by decide +kernel
theorem dX9_step_61 : decode cX9_step 61 = .ok (.getfield 70, 3) := by decide +kernel
theorem dX9_step_64 : decode cX9_step 64 = .ok (.iload_n 3, 1) := by decide +kernel
theorem dX9_step_65 : decode cX9_step 65 = .ok (.baload, 1) := by decide +kernel
theorem dX9_step_66 : decode cX9_step 66 = .ok (.ifCond .eq 16, 3) := by decide +kernel
theorem dX9_step_69 : decode cX9_step 69 = .ok (.aload_n 0, 1) := by decide +kernel
theorem dX9_step_70 : decode cX9_step 70 = .ok (.getfield 49, 3) := by decide +kernel
theorem dX9_step_73 : decode cX9_step 73 = .ok (.iconst 4, 1) := by decide +kernel
theorem dX9_step_74 : decode cX9_step 74 = .ok (.iload_n 2, 1) := by decide +kernel
theorem dX9_step_75 : decode cX9_step 75 = .ok (.imul, 1) := by decide +kernel
theorem dX9_step_76 : decode cX9_step 76 = .ok (.iload_n 3, 1) := by decide +kernel
theorem dX9_step_77 : decode cX9_step 77 = .ok (.iadd, 1) := by decide +kernel
theorem dX9_step_78 : decode cX9_step 78 = .ok (.iaload, 1) := by decide +kernel
theorem dX9_step_79 : decode cX9_step 79 = .ok (.goto 4, 3) := by decide +kernel
theorem dX9_step_82 : decode cX9_step 82 = .ok (.iconst 0, 1) := by decide +kernel
theorem dX9_step_83 : decode cX9_step 83 = .ok (.iadd, 1) := by decide +kernel
theorem dX9_step_84 : decode cX9_step 84 = .ok (.iastore, 1) := by decide +kernel
theorem dX9_step_85 : decode cX9_step 85 = .ok (.iinc 3 1, 3) := by decide +kernel
theorem dX9_step_88 : decode cX9_step 88 = .ok (.goto (-43), 3) := by decide +kernel
theorem dX9_step_91 : decode cX9_step 91 = .ok (.aload_n 0, 1) := by decide +kernel
theorem dX9_step_92 : decode cX9_step 92 = .ok (.getfield 89, 3) := by decide +kernel
theorem dX9_step_95 : decode cX9_step 95 = .ok (.iload_n 2, 1) := by decide +kernel
theorem dX9_step_96 : decode cX9_step 96 = .ok (.iconst 0, 1) := by decide +kernel
theorem dX9_step_97 : decode cX9_step 97 = .ok (.bastore, 1) := by decide +kernel
theorem dX9_step_98 : decode cX9_step 98 = .ok (.aload_n 0, 1) := by decide +kernel
theorem dX9_step_99 : decode cX9_step 99 = .ok (.getfield 92, 3) := by decide +kernel
theorem dX9_step_102 : decode cX9_step 102 = .ok (.iload_n 2, 1) := by decide +kernel
theorem dX9_step_103 : decode cX9_step 103 = .ok (.iconst 0, 1) := by decide +kernel
theorem dX9_step_104 : decode cX9_step 104 = .ok (.bastore, 1) := by decide +kernel
theorem dX9_step_105 : decode cX9_step 105 = .ok (.iinc 2 1, 3) := by decide +kernel
theorem dX9_step_108 : decode cX9_step 108 = .ok (.goto (-106), 3) := by decide +kernel
theorem dX9_step_111 : decode cX9_step 111 = .ok (.aload_n 0, 1) := by decide +kernel
theorem dX9_step_112 : decode cX9_step 112 = .ok (.getfield 24, 3) := by decide +kernel
theorem dX9_step_115 : decode cX9_step 115 = .ok (.istore_n 2, 1) := by decide +kernel
theorem dX9_step_116 : decode cX9_step 116 = .ok (.aload_n 0, 1) := by decide +kernel
theorem dX9_step_117 : decode cX9_step 117 = .ok (.getfield 119, 3) := by decide +kernel
theorem dX9_step_120 : decode cX9_step 120 = .ok (.istore_n 3, 1) := by decide +kernel
theorem dX9_step_121 : decode cX9_step 121 = .ok (.iconst 0, 1) := by decide +kernel
theorem dX9_step_122 : decode cX9_step 122 = .ok (.istore 4, 2) := by decide +kernel
theorem dX9_step_124 : decode cX9_step 124 = .ok (.iconst 0, 1) := by decide +kernel
theorem dX9_step_125 : decode cX9_step 125 = .ok (.istore 5, 2) := by decide +kernel
theorem dX9_step_127 : decode cX9_step 127 = .ok (.iload_n 3, 1) := by decide +kernel
theorem dX9_step_128 : decode cX9_step 128 = .ok (.ifCond .le 278, 3) := by decide +kernel
theorem dX9_step_131 : decode cX9_step 131 = .ok (.iconst 0, 1) := by decide +kernel
theorem dX9_step_132 : decode cX9_step 132 = .ok (.istore 6, 2) := by decide +kernel
theorem dX9_step_134 : decode cX9_step 134 = .ok (.iload 6, 2) := by decide +kernel
theorem dX9_step_136 : decode cX9_step 136 = .ok (.aload_n 0, 1) := by decide +kernel
theorem dX9_step_137 : decode cX9_step 137 = .ok (.getfield 119, 3) := by decide +kernel
theorem dX9_step_140 : decode cX9_step 140 = .ok (.if_icmp .ge 69, 3) := by decide +kernel
theorem dX9_step_143 : decode cX9_step 143 = .ok (.aload_n 0, 1) := by decide +kernel
theorem dX9_step_144 : decode cX9_step 144 = .ok (.getfield 89, 3) := by decide +kernel
theorem dX9_step_147 : decode cX9_step 147 = .ok (.iload 6, 2) := by decide +kernel
theorem dX9_step_149 : decode cX9_step 149 = .ok (.baload, 1) := by decide +kernel
theorem dX9_step_150 : decode cX9_step 150 = .ok (.ifCond .eq 53, 3) := by decide +kernel
theorem dX9_step_153 : decode cX9_step 153 = .ok (.aload_n 0, 1) := by decide +kernel
theorem dX9_step_154 : decode cX9_step 154 = .ok (.getfield 92, 3) := by decide +kernel
theorem dX9_step_157 : decode cX9_step 157 = .ok (.iload 6, 2) := by decide +kernel
theorem dX9_step_159 : decode cX9_step 159 = .ok (.baload, 1) := by decide +kernel
theorem dX9_step_160 : decode cX9_step 160 = .ok (.ifCond .ne 43, 3) := by decide +kernel
theorem dX9_step_163 : decode cX9_step 163 = .ok (.aload_n 0, 1) := by decide +kernel
theorem dX9_step_164 : decode cX9_step 164 = .ok (.getfield 67, 3) := by decide +kernel
theorem dX9_step_167 : decode cX9_step 167 = .ok (.iload 6, 2) := by decide +kernel
theorem dX9_step_169 : decode cX9_step 169 = .ok (.iaload, 1) := by decide +kernel
theorem dX9_step_170 : decode cX9_step 170 = .ok (.iload 4, 2) := by decide +kernel
theorem dX9_step_172 : decode cX9_step 172 = .ok (.if_icmp .eq 6, 3) := by decide +kernel
theorem dX9_step_175 : decode cX9_step 175 = .ok (.goto 28, 3) := by decide +kernel
theorem dX9_step_178 : decode cX9_step 178 = .ok (.aload_n 0, 1) := by decide +kernel
theorem dX9_step_179 : decode cX9_step 179 = .ok (.getfield 92, 3) := by decide +kernel
theorem dX9_step_182 : decode cX9_step 182 = .ok (.iload 6, 2) := by decide +kernel
theorem dX9_step_184 : decode cX9_step 184 = .ok (.iconst 1, 1) := by decide +kernel
theorem dX9_step_185 : decode cX9_step 185 = .ok (.bastore, 1) := by decide +kernel
theorem dX9_step_186 : decode cX9_step 186 = .ok (.iload_n 2, 1) := by decide +kernel
theorem dX9_step_187 : decode cX9_step 187 = .ok (.aload_n 0, 1) := by decide +kernel
theorem dX9_step_188 : decode cX9_step 188 = .ok (.getfield 34, 3) := by decide +kernel
theorem dX9_step_191 : decode cX9_step 191 = .ok (.iload 6, 2) := by decide +kernel
theorem dX9_step_193 : decode cX9_step 193 = .ok (.iaload, 1) := by decide +kernel
theorem dX9_step_194 : decode cX9_step 194 = .ok (.iadd, 1) := by decide +kernel
theorem dX9_step_195 : decode cX9_step 195 = .ok (.istore_n 2, 1) := by decide +kernel
theorem dX9_step_196 : decode cX9_step 196 = .ok (.iinc 3 (-1), 3) := by decide +kernel
theorem dX9_step_199 : decode cX9_step 199 = .ok (.iload 4, 2) := by decide +kernel
theorem dX9_step_201 : decode cX9_step 201 = .ok (.istore 5, 2) := by decide +kernel
theorem dX9_step_203 : decode cX9_step 203 = .ok (.iinc 6 1, 3) := by decide +kernel
theorem dX9_step_206 : decode cX9_step 206 = .ok (.goto (-72), 3) := by decide +kernel
theorem dX9_step_209 : decode cX9_step 209 = .ok (.iconst 0, 1) := by decide +kernel
theorem dX9_step_210 : decode cX9_step 210 = .ok (.istore 6, 2) := by decide +kernel
theorem dX9_step_212 : decode cX9_step 212 = .ok (.iload 6, 2) := by decide +kernel
theorem dX9_step_214 : decode cX9_step 214 = .ok (.aload_n 0, 1) := by decide +kernel
theorem dX9_step_215 : decode cX9_step 215 = .ok (.getfield 119, 3) := by decide +kernel
theorem dX9_step_218 : decode cX9_step 218 = .ok (.if_icmp .ge 116, 3) := by decide +kernel
theorem dX9_step_221 : decode cX9_step 221 = .ok (.aload_n 0, 1) := by decide +kernel
theorem dX9_step_222 : decode cX9_step 222 = .ok (.getfield 89, 3) := by decide +kernel
theorem dX9_step_225 : decode cX9_step 225 = .ok (.iload 6, 2) := by decide +kernel
theorem dX9_step_227 : decode cX9_step 227 = .ok (.baload, 1) := by decide +kernel
theorem dX9_step_228 : decode cX9_step 228 = .ok (.ifCond .ne 28, 3) := by decide +kernel
theorem dX9_step_231 : decode cX9_step 231 = .ok (.aload_n 0, 1) := by decide +kernel
theorem dX9_step_232 : decode cX9_step 232 = .ok (.getfield 34, 3) := by decide +kernel
theorem dX9_step_235 : decode cX9_step 235 = .ok (.iload 6, 2) := by decide +kernel
theorem dX9_step_237 : decode cX9_step 237 = .ok (.iaload, 1) := by decide +kernel
theorem dX9_step_238 : decode cX9_step 238 = .ok (.iload_n 2, 1) := by decide +kernel
theorem dX9_step_239 : decode cX9_step 239 = .ok (.if_icmp .gt 17, 3) := by decide +kernel
theorem dX9_step_242 : decode cX9_step 242 = .ok (.aload_n 0, 1) := by decide +kernel
theorem dX9_step_243 : decode cX9_step 243 = .ok (.aload_n 0, 1) := by decide +kernel
theorem dX9_step_244 : decode cX9_step 244 = .ok (.getfield 37, 3) := by decide +kernel
theorem dX9_step_247 : decode cX9_step 247 = .ok (.iload 6, 2) := by decide +kernel
theorem dX9_step_249 : decode cX9_step 249 = .ok (.iaload, 1) := by decide +kernel
theorem dX9_step_250 : decode cX9_step 250 = .ok (.invokevirtual 165, 3) := by decide +kernel
theorem dX9_step_253 : decode cX9_step 253 = .ok (.ifCond .ne 9, 3) := by decide +kernel
theorem dX9_step_256 : decode cX9_step 256 = .ok (.iinc 6 1, 3) := by decide +kernel
theorem dX9_step_259 : decode cX9_step 259 = .ok (.goto (-47), 3) := by decide +kernel
theorem dX9_step_262 : decode cX9_step 262 = .ok (.aload_n 0, 1) := by decide +kernel
theorem dX9_step_263 : decode cX9_step 263 = .ok (.getfield 89, 3) := by decide +kernel
theorem dX9_step_266 : decode cX9_step 266 = .ok (.iload 6, 2) := by decide +kernel
theorem dX9_step_268 : decode cX9_step 268 = .ok (.iconst 1, 1) := by decide +kernel
theorem dX9_step_269 : decode cX9_step 269 = .ok (.bastore, 1) := by decide +kernel
theorem dX9_step_270 : decode cX9_step 270 = .ok (.aload_n 0, 1) := by decide +kernel
theorem dX9_step_271 : decode cX9_step 271 = .ok (.getfield 67, 3) := by decide +kernel
theorem dX9_step_274 : decode cX9_step 274 = .ok (.iload 6, 2) := by decide +kernel
theorem dX9_step_276 : decode cX9_step 276 = .ok (.iload 4, 2) := by decide +kernel
theorem dX9_step_278 : decode cX9_step 278 = .ok (.aload_n 0, 1) := by decide +kernel
theorem dX9_step_279 : decode cX9_step 279 = .ok (.getfield 64, 3) := by decide +kernel
theorem dX9_step_282 : decode cX9_step 282 = .ok (.iload 6, 2) := by decide +kernel
theorem dX9_step_284 : decode cX9_step 284 = .ok (.iaload, 1) := by decide +kernel
theorem dX9_step_285 : decode cX9_step 285 = .ok (.iadd, 1) := by decide +kernel
theorem dX9_step_286 : decode cX9_step 286 = .ok (.iastore, 1) := by decide +kernel
theorem dX9_step_287 : decode cX9_step 287 = .ok (.aload_n 0, 1) := by decide +kernel
theorem dX9_step_288 : decode cX9_step 288 = .ok (.getfield 64, 3) := by decide +kernel
theorem dX9_step_291 : decode cX9_step 291 = .ok (.iload 6, 2) := by decide +kernel
theorem dX9_step_293 : decode cX9_step 293 = .ok (.iaload, 1) := by decide +kernel
theorem dX9_step_294 : decode cX9_step 294 = .ok (.ifCond .le 19, 3) := by decide +kernel
theorem dX9_step_297 : decode cX9_step 297 = .ok (.iload_n 2, 1) := by decide +kernel
theorem dX9_step_298 : decode cX9_step 298 = .ok (.aload_n 0, 1) := by decide +kernel
theorem dX9_step_299 : decode cX9_step 299 = .ok (.getfield 34, 3) := by decide +kernel
theorem dX9_step_302 : decode cX9_step 302 = .ok (.iload 6, 2) := by decide +kernel
theorem dX9_step_304 : decode cX9_step 304 = .ok (.iaload, 1) := by decide +kernel
theorem dX9_step_305 : decode cX9_step 305 = .ok (.isub, 1) := by decide +kernel
theorem dX9_step_306 : decode cX9_step 306 = .ok (.istore_n 2, 1) := by decide +kernel
theorem dX9_step_307 : decode cX9_step 307 = .ok (.iinc 6 1, 3) := by decide +kernel
theorem dX9_step_310 : decode cX9_step 310 = .ok (.goto (-98), 3) := by decide +kernel
theorem dX9_step_313 : decode cX9_step 313 = .ok (.aload_n 0, 1) := by decide +kernel
theorem dX9_step_314 : decode cX9_step 314 = .ok (.getfield 92, 3) := by decide +kernel
theorem dX9_step_317 : decode cX9_step 317 = .ok (.iload 6, 2) := by decide +kernel
theorem dX9_step_319 : decode cX9_step 319 = .ok (.iconst 1, 1) := by decide +kernel
theorem dX9_step_320 : decode cX9_step 320 = .ok (.bastore, 1) := by decide +kernel
theorem dX9_step_321 : decode cX9_step 321 = .ok (.iinc 3 (-1), 3) := by decide +kernel
theorem dX9_step_324 : decode cX9_step 324 = .ok (.iload 4, 2) := by decide +kernel
theorem dX9_step_326 : decode cX9_step 326 = .ok (.istore 5, 2) := by decide +kernel
theorem dX9_step_328 : decode cX9_step 328 = .ok (.iconst 0, 1) := by decide +kernel
theorem dX9_step_329 : decode cX9_step 329 = .ok (.istore 6, 2) := by decide +kernel
theorem dX9_step_331 : decode cX9_step 331 = .ok (.goto (-119), 3) := by decide +kernel
theorem dX9_step_334 : decode cX9_step 334 = .ok (.ldc 168, 2) := by decide +kernel
theorem dX9_step_336 : decode cX9_step 336 = .ok (.istore 7, 2) := by decide +kernel
theorem dX9_step_338 : decode cX9_step 338 = .ok (.iconst 0, 1) := by decide +kernel
theorem dX9_step_339 : decode cX9_step 339 = .ok (.istore 8, 2) := by decide +kernel
theorem dX9_step_341 : decode cX9_step 341 = .ok (.iload 8, 2) := by decide +kernel
theorem dX9_step_343 : decode cX9_step 343 = .ok (.aload_n 0, 1) := by decide +kernel
theorem dX9_step_344 : decode cX9_step 344 = .ok (.getfield 119, 3) := by decide +kernel
theorem dX9_step_347 : decode cX9_step 347 = .ok (.if_icmp .ge 43, 3) := by decide +kernel
theorem dX9_step_350 : decode cX9_step 350 = .ok (.aload_n 0, 1) := by decide +kernel
theorem dX9_step_351 : decode cX9_step 351 = .ok (.getfield 89, 3) := by decide +kernel
theorem dX9_step_354 : decode cX9_step 354 = .ok (.iload 8, 2) := by decide +kernel
theorem dX9_step_356 : decode cX9_step 356 = .ok (.baload, 1) := by decide +kernel
theorem dX9_step_357 : decode cX9_step 357 = .ok (.ifCond .eq 27, 3) := by decide +kernel
theorem dX9_step_360 : decode cX9_step 360 = .ok (.aload_n 0, 1) := by decide +kernel
theorem dX9_step_361 : decode cX9_step 361 = .ok (.getfield 92, 3) := by decide +kernel
theorem dX9_step_364 : decode cX9_step 364 = .ok (.iload 8, 2) := by decide +kernel
theorem dX9_step_366 : decode cX9_step 366 = .ok (.baload, 1) := by decide +kernel
theorem dX9_step_367 : decode cX9_step 367 = .ok (.ifCond .ne 17, 3) := by decide +kernel
theorem dX9_step_370 : decode cX9_step 370 = .ok (.iload 7, 2) := by decide +kernel
theorem dX9_step_372 : decode cX9_step 372 = .ok (.aload_n 0, 1) := by decide +kernel
theorem dX9_step_373 : decode cX9_step 373 = .ok (.getfield 67, 3) := by decide +kernel
theorem dX9_step_376 : decode cX9_step 376 = .ok (.iload 8, 2) := by decide +kernel
theorem dX9_step_378 : decode cX9_step 378 = .ok (.iaload, 1) := by decide +kernel
theorem dX9_step_379 : decode cX9_step 379 = .ok (.invokestatic 169, 3) := by decide +kernel
theorem dX9_step_382 : decode cX9_step 382 = .ok (.istore 7, 2) := by decide +kernel
theorem dX9_step_384 : decode cX9_step 384 = .ok (.iinc 8 1, 3) := by decide +kernel
theorem dX9_step_387 : decode cX9_step 387 = .ok (.goto (-46), 3) := by decide +kernel
theorem dX9_step_390 : decode cX9_step 390 = .ok (.iload_n 3, 1) := by decide +kernel
theorem dX9_step_391 : decode cX9_step 391 = .ok (.ifCond .le 8, 3) := by decide +kernel
theorem dX9_step_394 : decode cX9_step 394 = .ok (.iload 7, 2) := by decide +kernel
theorem dX9_step_396 : decode cX9_step 396 = .ok (.goto 5, 3) := by decide +kernel
theorem dX9_step_399 : decode cX9_step 399 = .ok (.iload 4, 2) := by decide +kernel
theorem dX9_step_401 : decode cX9_step 401 = .ok (.istore 4, 2) := by decide +kernel
theorem dX9_step_403 : decode cX9_step 403 = .ok (.goto (-276), 3) := by decide +kernel
theorem dX9_step_406 : decode cX9_step 406 = .ok (.iload 5, 2) := by decide +kernel
theorem dX9_step_408 : decode cX9_step 408 = .ok (.ireturn, 1) := by decide +kernel
theorem dX9_areOver_0 : decode cX9_areOver 0 = .ok (.iconst 0, 1) := by decide +kernel
theorem dX9_areOver_1 : decode cX9_areOver 1 = .ok (.istore_n 2, 1) := by decide +kernel
theorem dX9_areOver_2 : decode cX9_areOver 2 = .ok (.iload_n 2, 1) := by decide +kernel
theorem dX9_areOver_3 : decode cX9_areOver 3 = .ok (.aload_n 0, 1) := by decide +kernel
theorem dX9_areOver_4 : decode cX9_areOver 4 = .ok (.getfield 119, 3) := by decide +kernel
theorem dX9_areOver_7 : decode cX9_areOver 7 = .ok (.if_icmp .ge 29, 3) := by decide +kernel
theorem dX9_areOver_10 : decode cX9_areOver 10 = .ok (.iload_n 1, 1) := by decide +kernel
theorem dX9_areOver_11 : decode cX9_areOver 11 = .ok (.iload_n 2, 1) := by decide +kernel
theorem dX9_areOver_12 : decode cX9_areOver 12 = .ok (.ishr, 1) := by decide +kernel
theorem dX9_areOver_13 : decode cX9_areOver 13 = .ok (.iconst 1, 1) := by decide +kernel
theorem dX9_areOver_14 : decode cX9_areOver 14 = .ok (.iand, 1) := by decide +kernel
theorem dX9_areOver_15 : decode cX9_areOver 15 = .ok (.iconst 1, 1) := by decide +kernel
theorem dX9_areOver_16 : decode cX9_areOver 16 = .ok (.if_icmp .ne 14, 3) := by decide +kernel
theorem dX9_areOver_19 : decode cX9_areOver 19 = .ok (.aload_n 0, 1) := by decide +kernel
theorem dX9_areOver_20 : decode cX9_areOver 20 = .ok (.getfield 92, 3) := by decide +kernel
theorem dX9_areOver_23 : decode cX9_areOver 23 = .ok (.iload_n 2, 1) := by decide +kernel
theorem dX9_areOver_24 : decode cX9_areOver 24 = .ok (.baload, 1) := by decide +kernel
theorem dX9_areOver_25 : decode cX9_areOver 25 = .ok (.ifCond .ne 5, 3) := by decide +kernel
theorem dX9_areOver_28 : decode cX9_areOver 28 = .ok (.iconst 0, 1) := by decide +kernel
theorem dX9_areOver_29 : decode cX9_areOver 29 = .ok (.ireturn, 1) := by decide +kernel
theorem dX9_areOver_30 : decode cX9_areOver 30 = .ok (.iinc 2 1, 3) := by decide +kernel
theorem dX9_areOver_33 : decode cX9_areOver 33 = .ok (.goto (-31), 3) := by decide +kernel
theorem dX9_areOver_36 : decode cX9_areOver 36 = .ok (.iconst 1, 1) := by decide +kernel
theorem dX9_areOver_37 : decode cX9_areOver 37 = .ok (.ireturn, 1) := by decide +kernel
theorem dX9_isLeft_0 : decode cX9_isLeft 0 = .ok (.iconst 0, 1) := by decide +kernel
theorem dX9_isLeft_1 : decode cX9_isLeft 1 = .ok (.istore_n 1, 1) := by decide +kernel
theorem dX9_isLeft_2 : decode cX9_isLeft 2 = .ok (.iload_n 1, 1) := by decide +kernel
theorem dX9_isLeft_3 : decode cX9_isLeft 3 = .ok (.aload_n 0, 1) := by decide +kernel
theorem dX9_isLeft_4 : decode cX9_isLeft 4 = .ok (.getfield 119, 3) := by decide +kernel
theorem dX9_isLeft_7 : decode cX9_isLeft 7 = .ok (.if_icmp .ge 58, 3) := by decide +kernel
theorem dX9_isLeft_10 : decode cX9_isLeft 10 = .ok (.aload_n 0, 1) := by decide +kernel
theorem dX9_isLeft_11 : decode cX9_isLeft 11 = .ok (.getfield 40, 3) := by decide +kernel
theorem dX9_isLeft_14 : decode cX9_isLeft 14 = .ok (.iload_n 1, 1) := by decide +kernel
theorem dX9_isLeft_15 : decode cX9_isLeft 15 = .ok (.iaload, 1) := by decide +kernel
theorem dX9_isLeft_16 : decode cX9_isLeft 16 = .ok (.ifCond .lt 21, 3) := by decide +kernel
theorem dX9_isLeft_19 : decode cX9_isLeft 19 = .ok (.aload_n 0, 1) := by decide +kernel
theorem dX9_isLeft_20 : decode cX9_isLeft 20 = .ok (.getfield 67, 3) := by decide +kernel
theorem dX9_isLeft_23 : decode cX9_isLeft 23 = .ok (.iload_n 1, 1) := by decide +kernel
theorem dX9_isLeft_24 : decode cX9_isLeft 24 = .ok (.iaload, 1) := by decide +kernel
theorem dX9_isLeft_25 : decode cX9_isLeft 25 = .ok (.aload_n 0, 1) := by decide +kernel
theorem dX9_isLeft_26 : decode cX9_isLeft 26 = .ok (.getfield 40, 3) := by decide +kernel
theorem dX9_isLeft_29 : decode cX9_isLeft 29 = .ok (.iload_n 1, 1) := by decide +kernel
theorem dX9_isLeft_30 : decode cX9_isLeft 30 = .ok (.iaload, 1) := by decide +kernel
theorem dX9_isLeft_31 : decode cX9_isLeft 31 = .ok (.if_icmp .eq 28, 3) := by decide +kernel
theorem dX9_isLeft_34 : decode cX9_isLeft 34 = .ok (.goto 23, 3) := by decide +kernel
theorem dX9_isLeft_37 : decode cX9_isLeft 37 = .ok (.aload_n 0, 1) := by decide +kernel
theorem dX9_isLeft_38 : decode cX9_isLeft 38 = .ok (.getfield 28, 3) := by decide +kernel
theorem dX9_isLeft_41 : decode cX9_isLeft 41 = .ok (.ifCond .lt 18, 3) := by decide +kernel
theorem dX9_isLeft_44 : decode cX9_isLeft 44 = .ok (.aload_n 0, 1) := by decide +kernel
theorem dX9_isLeft_45 : decode cX9_isLeft 45 = .ok (.getfield 67, 3) := by decide +kernel
theorem dX9_isLeft_48 : decode cX9_isLeft 48 = .ok (.iload_n 1, 1) := by decide +kernel
theorem dX9_isLeft_49 : decode cX9_isLeft 49 = .ok (.iaload, 1) := by decide +kernel
theorem dX9_isLeft_50 : decode cX9_isLeft 50 = .ok (.aload_n 0, 1) := by decide +kernel
theorem dX9_isLeft_51 : decode cX9_isLeft 51 = .ok (.getfield 28, 3) := by decide +kernel
theorem dX9_isLeft_54 : decode cX9_isLeft 54 = .ok (.if_icmp .gt 5, 3) := by decide +kernel
theorem dX9_isLeft_57 : decode cX9_isLeft 57 = .ok (.iconst 0, 1) := by decide +kernel
theorem dX9_isLeft_58 : decode cX9_isLeft 58 = .ok (.ireturn, 1) := by decide +kernel
theorem dX9_isLeft_59 : decode cX9_isLeft 59 = .ok (.iinc 1 1, 3) := by decide +kernel
theorem dX9_isLeft_62 : decode cX9_isLeft 62 = .ok (.goto (-60), 3) := by decide +kernel
theorem dX9_isLeft_65 : decode cX9_isLeft 65 = .ok (.iconst 1, 1) := by decide +kernel
theorem dX9_isLeft_66 : decode cX9_isLeft 66 = .ok (.ireturn, 1) := by decide +kernel
theorem dX9_sums_0 : decode cX9_sums 0 = .ok (.aload_n 0, 1) := by decide +kernel
theorem dX9_sums_1 : decode cX9_sums 1 = .ok (.invokevirtual 174, 3) := by decide +kernel
theorem dX9_sums_4 : decode cX9_sums 4 = .ok (.ifCond .eq 6, 3) := by decide +kernel
theorem dX9_sums_7 : decode cX9_sums 7 = .ok (.bipush 8, 2) := by decide +kernel
theorem dX9_sums_9 : decode cX9_sums 9 = .ok (.ireturn, 1) := by decide +kernel
theorem dX9_sums_10 : decode cX9_sums 10 = .ok (.aload_n 0, 1) := by decide +kernel
theorem dX9_sums_11 : decode cX9_sums 11 = .ok (.invokevirtual 161, 3) := by decide +kernel
theorem dX9_sums_14 : decode cX9_sums 14 = .ok (.ifCond .eq 6, 3) := by decide +kernel
theorem dX9_sums_17 : decode cX9_sums 17 = .ok (.bipush 9, 2) := by decide +kernel
theorem dX9_sums_19 : decode cX9_sums 19 = .ok (.ireturn, 1) := by decide +kernel
theorem dX9_sums_20 : decode cX9_sums 20 = .ok (.iconst 0, 1) := by decide +kernel
theorem dX9_sums_21 : decode cX9_sums 21 = .ok (.istore 4, 2) := by decide +kernel
theorem dX9_sums_23 : decode cX9_sums 23 = .ok (.iload 4, 2) := by decide +kernel
theorem dX9_sums_25 : decode cX9_sums 25 = .ok (.sipush 6000, 3) := by decide +kernel
theorem dX9_sums_28 : decode cX9_sums 28 = .ok (.if_icmp .ge 17, 3) := by decide +kernel
theorem dX9_sums_31 : decode cX9_sums 31 = .ok (.aload_n 0, 1) := by decide +kernel
theorem dX9_sums_32 : decode cX9_sums 32 = .ok (.getfield 74, 3) := by decide +kernel
theorem dX9_sums_35 : decode cX9_sums 35 = .ok (.iload 4, 2) := by decide +kernel
theorem dX9_sums_37 : decode cX9_sums 37 = .ok (.lconst 0, 1) := by decide +kernel
theorem dX9_sums_38 : decode cX9_sums 38 = .ok (.lastore, 1) := by decide +kernel
theorem dX9_sums_39 : decode cX9_sums 39 = .ok (.iinc 4 1, 3) := by decide +kernel
theorem dX9_sums_42 : decode cX9_sums 42 = .ok (.goto (-19), 3) := by decide +kernel
theorem dX9_sums_45 : decode cX9_sums 45 = .ok (.aload_n 0, 1) := by decide +kernel
theorem dX9_sums_46 : decode cX9_sums 46 = .ok (.lconst 0, 1) := by decide +kernel
theorem dX9_sums_47 : decode cX9_sums 47 = .ok (.putfield 177, 3) := by decide +kernel
theorem dX9_sums_50 : decode cX9_sums 50 = .ok (.lconst 0, 1) := by decide +kernel
theorem dX9_sums_51 : decode cX9_sums 51 = .ok (.lstore 4, 2) := by decide +kernel
theorem dX9_sums_53 : decode cX9_sums 53 = .ok (.aload_n 0, 1) := by decide +kernel
theorem dX9_sums_54 : decode cX9_sums 54 = .ok (.invokevirtual 180, 3) := by decide +kernel
theorem dX9_sums_57 : decode cX9_sums 57 = .ok (.iconst 1, 1) := by decide +kernel
theorem dX9_sums_58 : decode cX9_sums 58 = .ok (.istore 6, 2) := by decide +kernel
theorem dX9_sums_60 : decode cX9_sums 60 = .ok (.iload 6, 2) := by decide +kernel
theorem dX9_sums_62 : decode cX9_sums 62 = .ok (.ifCond .eq 89, 3) := by decide +kernel
theorem dX9_sums_65 : decode cX9_sums 65 = .ok (.aload_n 0, 1) := by decide +kernel
theorem dX9_sums_66 : decode cX9_sums 66 = .ok (.iconst (-1), 1) := by decide +kernel
theorem dX9_sums_67 : decode cX9_sums 67 = .ok (.invokevirtual 183, 3) := by decide +kernel
theorem dX9_sums_70 : decode cX9_sums 70 = .ok (.istore 7, 2) := by decide +kernel
theorem dX9_sums_72 : decode cX9_sums 72 = .ok (.aload_n 0, 1) := by decide +kernel
theorem dX9_sums_73 : decode cX9_sums 73 = .ok (.invokevirtual 186, 3) := by decide +kernel
theorem dX9_sums_76 : decode cX9_sums 76 = .ok (.ifCond .eq 66, 3) := by decide +kernel
theorem dX9_sums_79 : decode cX9_sums 79 = .ok (.aload_n 0, 1) := by decide +kernel
theorem dX9_sums_80 : decode cX9_sums 80 = .ok (.invokevirtual 189, 3) := by decide +kernel
theorem dX9_sums_83 : decode cX9_sums 83 = .ok (.lstore 8, 2) := by decide +kernel
theorem dX9_sums_85 : decode cX9_sums 85 = .ok (.lload 4, 2) := by decide +kernel
theorem dX9_sums_87 : decode cX9_sums 87 = .ok (.lload 8, 2) := by decide +kernel
theorem dX9_sums_89 : decode cX9_sums 89 = .ok (.ladd, 1) := by decide +kernel
theorem dX9_sums_90 : decode cX9_sums 90 = .ok (.lstore 4, 2) := by decide +kernel
theorem dX9_sums_92 : decode cX9_sums 92 = .ok (.iload_n 2, 1) := by decide +kernel
theorem dX9_sums_93 : decode cX9_sums 93 = .ok (.ifCond .lt 13, 3) := by decide +kernel
theorem dX9_sums_96 : decode cX9_sums 96 = .ok (.aload_n 0, 1) := by decide +kernel
theorem dX9_sums_97 : decode cX9_sums 97 = .ok (.getfield 61, 3) := by decide +kernel
theorem dX9_sums_100 : decode cX9_sums 100 = .ok (.iload_n 2, 1) := by decide +kernel
theorem dX9_sums_101 : decode cX9_sums 101 = .ok (.iaload, 1) := by decide +kernel
theorem dX9_sums_102 : decode cX9_sums 102 = .ok (.iload_n 3, 1) := by decide +kernel
theorem dX9_sums_103 : decode cX9_sums 103 = .ok (.if_icmp .ne 39, 3) := by decide +kernel
theorem dX9_sums_106 : decode cX9_sums 106 = .ok (.aload_n 0, 1) := by decide +kernel
theorem dX9_sums_107 : decode cX9_sums 107 = .ok (.getfield 74, 3) := by decide +kernel
theorem dX9_sums_110 : decode cX9_sums 110 = .ok (.iload_n 1, 1) := by decide +kernel
theorem dX9_sums_111 : decode cX9_sums 111 = .ok (.ifCond .ge 8, 3) := by decide +kernel
theorem dX9_sums_114 : decode cX9_sums 114 = .ok (.iload 7, 2) := by decide +kernel
theorem dX9_sums_116 : decode cX9_sums 116 = .ok (.goto 9, 3) := by decide +kernel
theorem dX9_sums_119 : decode cX9_sums 119 = .ok (.aload_n 0, 1) := by decide +kernel
theorem dX9_sums_120 : decode cX9_sums 120 = .ok (.getfield 67, 3) := by decide +kernel
theorem dX9_sums_123 : decode cX9_sums 123 = .ok (.iload_n 1, 1) := by decide +kernel
theorem dX9_sums_124 : decode cX9_sums 124 = .ok (.iaload, 1) := by decide +kernel
theorem dX9_sums_125 : decode cX9_sums 125 = .ok (.dup2, 1) := by decide +kernel
theorem dX9_sums_126 : decode cX9_sums 126 = .ok (.laload, 1) := by decide +kernel
theorem dX9_sums_127 : decode cX9_sums 127 = .ok (.lload 8, 2) := by decide +kernel
theorem dX9_sums_129 : decode cX9_sums 129 = .ok (.ladd, 1) := by decide +kernel
theorem dX9_sums_130 : decode cX9_sums 130 = .ok (.lastore, 1) := by decide +kernel
theorem dX9_sums_131 : decode cX9_sums 131 = .ok (.aload_n 0, 1) := by decide +kernel
theorem dX9_sums_132 : decode cX9_sums 132 = .ok (.dup, 1) := by decide +kernel
theorem dX9_sums_133 : decode cX9_sums 133 = .ok (.getfield 177, 3) := by decide +kernel
theorem dX9_sums_136 : decode cX9_sums 136 = .ok (.lload 8, 2) := by decide +kernel
theorem dX9_sums_138 : decode cX9_sums 138 = .ok (.ladd, 1) := by decide +kernel
theorem dX9_sums_139 : decode cX9_sums 139 = .ok (.putfield 177, 3) := by decide +kernel
theorem dX9_sums_142 : decode cX9_sums 142 = .ok (.aload_n 0, 1) := by decide +kernel
theorem dX9_sums_143 : decode cX9_sums 143 = .ok (.invokevirtual 193, 3) := by decide +kernel
theorem dX9_sums_146 : decode cX9_sums 146 = .ok (.istore 6, 2) := by decide +kernel
theorem dX9_sums_148 : decode cX9_sums 148 = .ok (.goto (-88), 3) := by decide +kernel
theorem dX9_sums_151 : decode cX9_sums 151 = .ok (.lload 4, 2) := by decide +kernel
theorem dX9_sums_153 : decode cX9_sums 153 = .ok (.lconst 0, 1) := by decide +kernel
theorem dX9_sums_154 : decode cX9_sums 154 = .ok (.lcmp, 1) := by decide +kernel
theorem dX9_sums_155 : decode cX9_sums 155 = .ok (.ifCond .ne 8, 3) := by decide +kernel
theorem dX9_sums_158 : decode cX9_sums 158 = .ok (.bipush 10, 2) := by decide +kernel
theorem dX9_sums_160 : decode cX9_sums 160 = .ok (.goto 4, 3) := by decide +kernel
theorem dX9_sums_163 : decode cX9_sums 163 = .ok (.iconst 0, 1) := by decide +kernel
theorem dX9_sums_164 : decode cX9_sums 164 = .ok (.ireturn, 1) := by decide +kernel
theorem dX9_tellsUpTo_0 : decode cX9_tellsUpTo 0 = .ok (.aload_n 0, 1) := by decide +kernel
theorem dX9_tellsUpTo_1 : decode cX9_tellsUpTo 1 = .ok (.iload_n 1, 1) := by decide +kernel
theorem dX9_tellsUpTo_2 : decode cX9_tellsUpTo 2 = .ok (.iconst (-1), 1) := by decide +kernel
theorem dX9_tellsUpTo_3 : decode cX9_tellsUpTo 3 = .ok (.iconst 0, 1) := by decide +kernel
theorem dX9_tellsUpTo_4 : decode cX9_tellsUpTo 4 = .ok (.invokevirtual 196, 3) := by decide +kernel
theorem dX9_tellsUpTo_7 : decode cX9_tellsUpTo 7 = .ok (.istore_n 3, 1) := by decide +kernel
theorem dX9_tellsUpTo_8 : decode cX9_tellsUpTo 8 = .ok (.iload_n 3, 1) := by decide +kernel
theorem dX9_tellsUpTo_9 : decode cX9_tellsUpTo 9 = .ok (.ifCond .le 9, 3) := by decide +kernel
theorem dX9_tellsUpTo_12 : decode cX9_tellsUpTo 12 = .ok (.aload_n 0, 1) := by decide +kernel
theorem dX9_tellsUpTo_13 : decode cX9_tellsUpTo 13 = .ok (.iload_n 3, 1) := by decide +kernel
theorem dX9_tellsUpTo_14 : decode cX9_tellsUpTo 14 = .ok (.invokevirtual 101, 3) := by decide +kernel
theorem dX9_tellsUpTo_17 : decode cX9_tellsUpTo 17 = .ok (.ireturn, 1) := by decide +kernel
theorem dX9_tellsUpTo_18 : decode cX9_tellsUpTo 18 = .ok (.lconst 0, 1) := by decide +kernel
theorem dX9_tellsUpTo_19 : decode cX9_tellsUpTo 19 = .ok (.lstore 4, 2) := by decide +kernel
theorem dX9_tellsUpTo_21 : decode cX9_tellsUpTo 21 = .ok (.iconst 0, 1) := by decide +kernel
theorem dX9_tellsUpTo_22 : decode cX9_tellsUpTo 22 = .ok (.istore 6, 2) := by decide +kernel
theorem dX9_tellsUpTo_24 : decode cX9_tellsUpTo 24 = .ok (.iload 6, 2) := by decide +kernel
theorem dX9_tellsUpTo_26 : decode cX9_tellsUpTo 26 = .ok (.sipush 6000, 3) := by decide +kernel
theorem dX9_tellsUpTo_29 : decode cX9_tellsUpTo 29 = .ok (.if_icmp .ge 27, 3) := by decide +kernel
theorem dX9_tellsUpTo_32 : decode cX9_tellsUpTo 32 = .ok (.iload 6, 2) := by decide +kernel
theorem dX9_tellsUpTo_34 : decode cX9_tellsUpTo 34 = .ok (.iload_n 2, 1) := by decide +kernel
theorem dX9_tellsUpTo_35 : decode cX9_tellsUpTo 35 = .ok (.if_icmp .gt 21, 3) := by decide +kernel
theorem dX9_tellsUpTo_38 : decode cX9_tellsUpTo 38 = .ok (.lload 4, 2) := by decide +kernel
theorem dX9_tellsUpTo_40 : decode cX9_tellsUpTo 40 = .ok (.aload_n 0, 1) := by decide +kernel
theorem dX9_tellsUpTo_41 : decode cX9_tellsUpTo 41 = .ok (.getfield 74, 3) := by decide +kernel
theorem dX9_tellsUpTo_44 : decode cX9_tellsUpTo 44 = .ok (.iload 6, 2) := by decide +kernel
theorem dX9_tellsUpTo_46 : decode cX9_tellsUpTo 46 = .ok (.laload, 1) := by decide +kernel
theorem dX9_tellsUpTo_47 : decode cX9_tellsUpTo 47 = .ok (.ladd, 1) := by decide +kernel
theorem dX9_tellsUpTo_48 : decode cX9_tellsUpTo 48 = .ok (.lstore 4, 2) := by decide +kernel
theorem dX9_tellsUpTo_50 : decode cX9_tellsUpTo 50 = .ok (.iinc 6 1, 3) := by decide +kernel
theorem dX9_tellsUpTo_53 : decode cX9_tellsUpTo 53 = .ok (.goto (-29), 3) := by decide +kernel
theorem dX9_tellsUpTo_56 : decode cX9_tellsUpTo 56 = .ok (.aload_n 0, 1) := by decide +kernel
theorem dX9_tellsUpTo_57 : decode cX9_tellsUpTo 57 = .ok (.lload 4, 2) := by decide +kernel
theorem dX9_tellsUpTo_59 : decode cX9_tellsUpTo 59 = .ok (.aload_n 0, 1) := by decide +kernel
theorem dX9_tellsUpTo_60 : decode cX9_tellsUpTo 60 = .ok (.getfield 177, 3) := by decide +kernel
theorem dX9_tellsUpTo_63 : decode cX9_tellsUpTo 63 = .ok (.invokevirtual 200, 3) := by decide +kernel
theorem dX9_tellsUpTo_66 : decode cX9_tellsUpTo 66 = .ok (.pop, 1) := by decide +kernel
theorem dX9_tellsUpTo_67 : decode cX9_tellsUpTo 67 = .ok (.iconst 1, 1) := by decide +kernel
theorem dX9_tellsUpTo_68 : decode cX9_tellsUpTo 68 = .ok (.ireturn, 1) := by decide +kernel
theorem dX9_ends_0 : decode cX9_ends 0 = .ok (.aload_n 0, 1) := by decide +kernel
theorem dX9_ends_1 : decode cX9_ends 1 = .ok (.iconst 0, 1) := by decide +kernel
theorem dX9_ends_2 : decode cX9_ends 2 = .ok (.putfield 95, 3) := by decide +kernel
theorem dX9_ends_5 : decode cX9_ends 5 = .ok (.aload_n 0, 1) := by decide +kernel
theorem dX9_ends_6 : decode cX9_ends 6 = .ok (.iconst 0, 1) := by decide +kernel
theorem dX9_ends_7 : decode cX9_ends 7 = .ok (.putfield 98, 3) := by decide +kernel
theorem dX9_ends_10 : decode cX9_ends 10 = .ok (.iload_n 1, 1) := by decide +kernel
theorem dX9_ends_11 : decode cX9_ends 11 = .ok (.ifCond .ge 11, 3) := by decide +kernel
theorem dX9_ends_14 : decode cX9_ends 14 = .ok (.aload_n 0, 1) := by decide +kernel
theorem dX9_ends_15 : decode cX9_ends 15 = .ok (.iconst 5, 1) := by decide +kernel
theorem dX9_ends_16 : decode cX9_ends 16 = .ok (.invokevirtual 101, 3) := by decide +kernel
theorem dX9_ends_19 : decode cX9_ends 19 = .ok (.goto 9, 3) := by decide +kernel
theorem dX9_ends_22 : decode cX9_ends 22 = .ok (.aload_n 0, 1) := by decide +kernel
theorem dX9_ends_23 : decode cX9_ends 23 = .ok (.iconst (-1), 1) := by decide +kernel
theorem dX9_ends_24 : decode cX9_ends 24 = .ok (.iload_n 1, 1) := by decide +kernel
theorem dX9_ends_25 : decode cX9_ends 25 = .ok (.invokevirtual 204, 3) := by decide +kernel
theorem dX9_ends_28 : decode cX9_ends 28 = .ok (.ireturn, 1) := by decide +kernel
theorem dX9_done_0 : decode cX9_done 0 = .ok (.aload_n 0, 1) := by decide +kernel
theorem dX9_done_1 : decode cX9_done 1 = .ok (.iconst 0, 1) := by decide +kernel
theorem dX9_done_2 : decode cX9_done 2 = .ok (.putfield 95, 3) := by decide +kernel
theorem dX9_done_5 : decode cX9_done 5 = .ok (.aload_n 0, 1) := by decide +kernel
theorem dX9_done_6 : decode cX9_done 6 = .ok (.iconst 0, 1) := by decide +kernel
theorem dX9_done_7 : decode cX9_done 7 = .ok (.putfield 98, 3) := by decide +kernel
theorem dX9_done_10 : decode cX9_done 10 = .ok (.aload_n 0, 1) := by decide +kernel
theorem dX9_done_11 : decode cX9_done 11 = .ok (.iload_n 1, 1) := by decide +kernel
theorem dX9_done_12 : decode cX9_done 12 = .ok (.invokevirtual 142, 3) := by decide +kernel
theorem dX9_done_15 : decode cX9_done 15 = .ok (.ifCond .ne 9, 3) := by decide +kernel
theorem dX9_done_18 : decode cX9_done 18 = .ok (.aload_n 0, 1) := by decide +kernel
theorem dX9_done_19 : decode cX9_done 19 = .ok (.iconst 2, 1) := by decide +kernel
theorem dX9_done_20 : decode cX9_done 20 = .ok (.invokevirtual 101, 3) := by decide +kernel
theorem dX9_done_23 : decode cX9_done 23 = .ok (.ireturn, 1) := by decide +kernel
theorem dX9_done_24 : decode cX9_done 24 = .ok (.iload_n 2, 1) := by decide +kernel
theorem dX9_done_25 : decode cX9_done 25 = .ok (.ifCond .ge 11, 3) := by decide +kernel
theorem dX9_done_28 : decode cX9_done 28 = .ok (.aload_n 0, 1) := by decide +kernel
theorem dX9_done_29 : decode cX9_done 29 = .ok (.iconst 5, 1) := by decide +kernel
theorem dX9_done_30 : decode cX9_done 30 = .ok (.invokevirtual 101, 3) := by decide +kernel
theorem dX9_done_33 : decode cX9_done 33 = .ok (.goto 9, 3) := by decide +kernel
theorem dX9_done_36 : decode cX9_done 36 = .ok (.aload_n 0, 1) := by decide +kernel
theorem dX9_done_37 : decode cX9_done 37 = .ok (.iload_n 1, 1) := by decide +kernel
theorem dX9_done_38 : decode cX9_done 38 = .ok (.iload_n 2, 1) := by decide +kernel
theorem dX9_done_39 : decode cX9_done 39 = .ok (.invokevirtual 204, 3) := by decide +kernel
theorem dX9_done_42 : decode cX9_done 42 = .ok (.ireturn, 1) := by decide +kernel
theorem dX9_promise_0 : decode cX9_promise 0 = .ok (.aload_n 0, 1) := by decide +kernel
theorem dX9_promise_1 : decode cX9_promise 1 = .ok (.iconst 0, 1) := by decide +kernel
theorem dX9_promise_2 : decode cX9_promise 2 = .ok (.putfield 95, 3) := by decide +kernel
theorem dX9_promise_5 : decode cX9_promise 5 = .ok (.aload_n 0, 1) := by decide +kernel
theorem dX9_promise_6 : decode cX9_promise 6 = .ok (.iconst 0, 1) := by decide +kernel
theorem dX9_promise_7 : decode cX9_promise 7 = .ok (.putfield 98, 3) := by decide +kernel
theorem dX9_promise_10 : decode cX9_promise 10 = .ok (.iload_n 2, 1) := by decide +kernel
theorem dX9_promise_11 : decode cX9_promise 11 = .ok (.iconst 1, 1) := by decide +kernel
theorem dX9_promise_12 : decode cX9_promise 12 = .ok (.if_icmp .lt 18, 3) := by decide +kernel
theorem dX9_promise_15 : decode cX9_promise 15 = .ok (.iload_n 2, 1) := by decide +kernel
theorem dX9_promise_16 : decode cX9_promise 16 = .ok (.ldc 208, 2) := by decide +kernel
theorem dX9_promise_18 : decode cX9_promise 18 = .ok (.if_icmp .gt 12, 3) := by decide +kernel
theorem dX9_promise_21 : decode cX9_promise 21 = .ok (.iload_n 1, 1) := by decide +kernel
theorem dX9_promise_22 : decode cX9_promise 22 = .ok (.ifCond .lt 8, 3) := by decide +kernel
theorem dX9_promise_25 : decode cX9_promise 25 = .ok (.iload_n 1, 1) := by decide +kernel
theorem dX9_promise_26 : decode cX9_promise 26 = .ok (.iload_n 2, 1) := by decide +kernel
theorem dX9_promise_27 : decode cX9_promise 27 = .ok (.if_icmp .le 9, 3) := by decide +kernel
theorem dX9_promise_30 : decode cX9_promise 30 = .ok (.aload_n 0, 1) := by decide +kernel
theorem dX9_promise_31 : decode cX9_promise 31 = .ok (.iconst 5, 1) := by decide +kernel
theorem dX9_promise_32 : decode cX9_promise 32 = .ok (.invokevirtual 122, 3) := by decide +kernel
theorem dX9_promise_35 : decode cX9_promise 35 = .ok (.ireturn, 1) := by decide +kernel
theorem dX9_promise_36 : decode cX9_promise 36 = .ok (.aload_n 0, 1) := by decide +kernel
theorem dX9_promise_37 : decode cX9_promise 37 = .ok (.iconst (-1), 1) := by decide +kernel
theorem dX9_promise_38 : decode cX9_promise 38 = .ok (.iconst (-1), 1) := by decide +kernel
theorem dX9_promise_39 : decode cX9_promise 39 = .ok (.iconst 0, 1) := by decide +kernel
theorem dX9_promise_40 : decode cX9_promise 40 = .ok (.invokevirtual 196, 3) := by decide +kernel
theorem dX9_promise_43 : decode cX9_promise 43 = .ok (.istore_n 3, 1) := by decide +kernel
theorem dX9_promise_44 : decode cX9_promise 44 = .ok (.iload_n 3, 1) := by decide +kernel
theorem dX9_promise_45 : decode cX9_promise 45 = .ok (.ifCond .le 9, 3) := by decide +kernel
theorem dX9_promise_48 : decode cX9_promise 48 = .ok (.aload_n 0, 1) := by decide +kernel
theorem dX9_promise_49 : decode cX9_promise 49 = .ok (.iload_n 3, 1) := by decide +kernel
theorem dX9_promise_50 : decode cX9_promise 50 = .ok (.invokevirtual 122, 3) := by decide +kernel
theorem dX9_promise_53 : decode cX9_promise 53 = .ok (.ireturn, 1) := by decide +kernel
theorem dX9_promise_54 : decode cX9_promise 54 = .ok (.aload_n 0, 1) := by decide +kernel
theorem dX9_promise_55 : decode cX9_promise 55 = .ok (.getfield 177, 3) := by decide +kernel
theorem dX9_promise_58 : decode cX9_promise 58 = .ok (.lstore 4, 2) := by decide +kernel
theorem dX9_promise_60 : decode cX9_promise 60 = .ok (.iconst 0, 1) := by decide +kernel
theorem dX9_promise_61 : decode cX9_promise 61 = .ok (.istore 6, 2) := by decide +kernel
theorem dX9_promise_63 : decode cX9_promise 63 = .ok (.iload 6, 2) := by decide +kernel
theorem dX9_promise_65 : decode cX9_promise 65 = .ok (.sipush 6000, 3) := by decide +kernel
theorem dX9_promise_68 : decode cX9_promise 68 = .ok (.if_icmp .ge 40, 3) := by decide +kernel
theorem dX9_promise_71 : decode cX9_promise 71 = .ok (.lload 4, 2) := by decide +kernel
theorem dX9_promise_73 : decode cX9_promise 73 = .ok (.aload_n 0, 1) := by decide +kernel
theorem dX9_promise_74 : decode cX9_promise 74 = .ok (.getfield 74, 3) := by decide +kernel
theorem dX9_promise_77 : decode cX9_promise 77 = .ok (.iload 6, 2) := by decide +kernel
theorem dX9_promise_79 : decode cX9_promise 79 = .ok (.laload, 1) := by decide +kernel
theorem dX9_promise_80 : decode cX9_promise 80 = .ok (.lsub, 1) := by decide +kernel
theorem dX9_promise_81 : decode cX9_promise 81 = .ok (.lstore 4, 2) := by decide +kernel
theorem dX9_promise_83 : decode cX9_promise 83 = .ok (.lload 4, 2) := by decide +kernel
theorem dX9_promise_85 : decode cX9_promise 85 = .ok (.iload_n 2, 1) := by decide +kernel
theorem dX9_promise_86 : decode cX9_promise 86 = .ok (.i2l, 1) := by decide +kernel
theorem dX9_promise_87 : decode cX9_promise 87 = .ok (.lmul, 1) := by decide +kernel
theorem dX9_promise_88 : decode cX9_promise 88 = .ok (.iload_n 1, 1) := by decide +kernel
theorem dX9_promise_89 : decode cX9_promise 89 = .ok (.i2l, 1) := by decide +kernel
theorem dX9_promise_90 : decode cX9_promise 90 = .ok (.aload_n 0, 1) := by decide +kernel
theorem dX9_promise_91 : decode cX9_promise 91 = .ok (.getfield 177, 3) := by decide +kernel
theorem dX9_promise_94 : decode cX9_promise 94 = .ok (.lmul, 1) := by decide +kernel
theorem dX9_promise_95 : decode cX9_promise 95 = .ok (.lcmp, 1) := by decide +kernel
theorem dX9_promise_96 : decode cX9_promise 96 = .ok (.ifCond .gt 6, 3) := by decide +kernel
theorem dX9_promise_99 : decode cX9_promise 99 = .ok (.iload 6, 2) := by decide +kernel
theorem dX9_promise_101 : decode cX9_promise 101 = .ok (.ireturn, 1) := by decide +kernel
theorem dX9_promise_102 : decode cX9_promise 102 = .ok (.iinc 6 1, 3) := by decide +kernel
theorem dX9_promise_105 : decode cX9_promise 105 = .ok (.goto (-42), 3) := by decide +kernel
theorem dX9_promise_108 : decode cX9_promise 108 = .ok (.iconst (-1), 1) := by decide +kernel
theorem dX9_promise_109 : decode cX9_promise 109 = .ok (.ireturn, 1) := by decide +kernel
theorem dX9_mean_0 : decode cX9_mean 0 = .ok (.aload_n 0, 1) := by decide +kernel
theorem dX9_mean_1 : decode cX9_mean 1 = .ok (.iconst 0, 1) := by decide +kernel
theorem dX9_mean_2 : decode cX9_mean 2 = .ok (.putfield 95, 3) := by decide +kernel
theorem dX9_mean_5 : decode cX9_mean 5 = .ok (.aload_n 0, 1) := by decide +kernel
theorem dX9_mean_6 : decode cX9_mean 6 = .ok (.iconst 0, 1) := by decide +kernel
theorem dX9_mean_7 : decode cX9_mean 7 = .ok (.putfield 98, 3) := by decide +kernel
theorem dX9_mean_10 : decode cX9_mean 10 = .ok (.aload_n 0, 1) := by decide +kernel
theorem dX9_mean_11 : decode cX9_mean 11 = .ok (.iconst (-1), 1) := by decide +kernel
theorem dX9_mean_12 : decode cX9_mean 12 = .ok (.iconst (-1), 1) := by decide +kernel
theorem dX9_mean_13 : decode cX9_mean 13 = .ok (.iconst 0, 1) := by decide +kernel
theorem dX9_mean_14 : decode cX9_mean 14 = .ok (.invokevirtual 196, 3) := by decide +kernel
theorem dX9_mean_17 : decode cX9_mean 17 = .ok (.istore_n 1, 1) := by decide +kernel
theorem dX9_mean_18 : decode cX9_mean 18 = .ok (.iload_n 1, 1) := by decide +kernel
theorem dX9_mean_19 : decode cX9_mean 19 = .ok (.ifCond .le 9, 3) := by decide +kernel
theorem dX9_mean_22 : decode cX9_mean 22 = .ok (.aload_n 0, 1) := by decide +kernel
theorem dX9_mean_23 : decode cX9_mean 23 = .ok (.iload_n 1, 1) := by decide +kernel
theorem dX9_mean_24 : decode cX9_mean 24 = .ok (.invokevirtual 101, 3) := by decide +kernel
theorem dX9_mean_27 : decode cX9_mean 27 = .ok (.ireturn, 1) := by decide +kernel
theorem dX9_mean_28 : decode cX9_mean 28 = .ok (.lconst 0, 1) := by decide +kernel
theorem dX9_mean_29 : decode cX9_mean 29 = .ok (.lstore_n 2, 1) := by decide +kernel
theorem dX9_mean_30 : decode cX9_mean 30 = .ok (.iconst 0, 1) := by decide +kernel
theorem dX9_mean_31 : decode cX9_mean 31 = .ok (.istore 4, 2) := by decide +kernel
theorem dX9_mean_33 : decode cX9_mean 33 = .ok (.iload 4, 2) := by decide +kernel
theorem dX9_mean_35 : decode cX9_mean 35 = .ok (.sipush 6000, 3) := by decide +kernel
theorem dX9_mean_38 : decode cX9_mean 38 = .ok (.if_icmp .ge 23, 3) := by decide +kernel
theorem dX9_mean_41 : decode cX9_mean 41 = .ok (.lload_n 2, 1) := by decide +kernel
theorem dX9_mean_42 : decode cX9_mean 42 = .ok (.iload 4, 2) := by decide +kernel
theorem dX9_mean_44 : decode cX9_mean 44 = .ok (.i2l, 1) := by decide +kernel
theorem dX9_mean_45 : decode cX9_mean 45 = .ok (.aload_n 0, 1) := by decide +kernel
theorem dX9_mean_46 : decode cX9_mean 46 = .ok (.getfield 74, 3) := by decide +kernel
theorem dX9_mean_49 : decode cX9_mean 49 = .ok (.iload 4, 2) := by decide +kernel
theorem dX9_mean_51 : decode cX9_mean 51 = .ok (.laload, 1) := by decide +kernel
theorem dX9_mean_52 : decode cX9_mean 52 = .ok (.lmul, 1) := by decide +kernel
theorem dX9_mean_53 : decode cX9_mean 53 = .ok (.ladd, 1) := by decide +kernel
theorem dX9_mean_54 : decode cX9_mean 54 = .ok (.lstore_n 2, 1) := by decide +kernel
theorem dX9_mean_55 : decode cX9_mean 55 = .ok (.iinc 4 1, 3) := by decide +kernel
theorem dX9_mean_58 : decode cX9_mean 58 = .ok (.goto (-25), 3) := by decide +kernel
theorem dX9_mean_61 : decode cX9_mean 61 = .ok (.aload_n 0, 1) := by decide +kernel
theorem dX9_mean_62 : decode cX9_mean 62 = .ok (.lload_n 2, 1) := by decide +kernel
theorem dX9_mean_63 : decode cX9_mean 63 = .ok (.aload_n 0, 1) := by decide +kernel
theorem dX9_mean_64 : decode cX9_mean 64 = .ok (.getfield 177, 3) := by decide +kernel
theorem dX9_mean_67 : decode cX9_mean 67 = .ok (.invokevirtual 200, 3) := by decide +kernel
theorem dX9_mean_70 : decode cX9_mean 70 = .ok (.pop, 1) := by decide +kernel
theorem dX9_mean_71 : decode cX9_mean 71 = .ok (.iconst 1, 1) := by decide +kernel
theorem dX9_mean_72 : decode cX9_mean 72 = .ok (.ireturn, 1) := by decide +kernel
theorem dX9_apart_0 : decode cX9_apart 0 = .ok (.lconst 0, 1) := by decide +kernel
theorem dX9_apart_1 : decode cX9_apart 1 = .ok (.lstore_n 1, 1) := by decide +kernel
theorem dX9_apart_2 : decode cX9_apart 2 = .ok (.lconst 0, 1) := by decide +kernel
theorem dX9_apart_3 : decode cX9_apart 3 = .ok (.lstore_n 3, 1) := by decide +kernel
theorem dX9_apart_4 : decode cX9_apart 4 = .ok (.iconst 0, 1) := by decide +kernel
theorem dX9_apart_5 : decode cX9_apart 5 = .ok (.istore 5, 2) := by decide +kernel
theorem dX9_apart_7 : decode cX9_apart 7 = .ok (.iload 5, 2) := by decide +kernel
theorem dX9_apart_9 : decode cX9_apart 9 = .ok (.sipush 6000, 3) := by decide +kernel
theorem dX9_apart_12 : decode cX9_apart 12 = .ok (.if_icmp .ge 34, 3) := by decide +kernel
theorem dX9_apart_15 : decode cX9_apart 15 = .ok (.lload_n 3, 1) := by decide +kernel
theorem dX9_apart_16 : decode cX9_apart 16 = .ok (.aload_n 0, 1) := by decide +kernel
theorem dX9_apart_17 : decode cX9_apart 17 = .ok (.getfield 74, 3) := by decide +kernel
theorem dX9_apart_20 : decode cX9_apart 20 = .ok (.iload 5, 2) := by decide +kernel
theorem dX9_apart_22 : decode cX9_apart 22 = .ok (.laload, 1) := by decide +kernel
theorem dX9_apart_23 : decode cX9_apart 23 = .ok (.ladd, 1) := by decide +kernel
theorem dX9_apart_24 : decode cX9_apart 24 = .ok (.lstore_n 3, 1) := by decide +kernel
theorem dX9_apart_25 : decode cX9_apart 25 = .ok (.lload_n 1, 1) := by decide +kernel
theorem dX9_apart_26 : decode cX9_apart 26 = .ok (.ldc2_w 209, 3) := by decide +kernel
theorem dX9_apart_29 : decode cX9_apart 29 = .ok (.lload_n 3, 1) := by decide +kernel
theorem dX9_apart_30 : decode cX9_apart 30 = .ok (.lmul, 1) := by decide +kernel
theorem dX9_apart_31 : decode cX9_apart 31 = .ok (.aload_n 0, 1) := by decide +kernel
theorem dX9_apart_32 : decode cX9_apart 32 = .ok (.getfield 177, 3) := by decide +kernel
theorem dX9_apart_35 : decode cX9_apart 35 = .ok (.lload_n 3, 1) := by decide +kernel
theorem dX9_apart_36 : decode cX9_apart 36 = .ok (.lsub, 1) := by decide +kernel
theorem dX9_apart_37 : decode cX9_apart 37 = .ok (.lmul, 1) := by decide +kernel
theorem dX9_apart_38 : decode cX9_apart 38 = .ok (.ladd, 1) := by decide +kernel
theorem dX9_apart_39 : decode cX9_apart 39 = .ok (.lstore_n 1, 1) := by decide +kernel
theorem dX9_apart_40 : decode cX9_apart 40 = .ok (.iinc 5 1, 3) := by decide +kernel
theorem dX9_apart_43 : decode cX9_apart 43 = .ok (.goto (-36), 3) := by decide +kernel
theorem dX9_apart_46 : decode cX9_apart 46 = .ok (.lload_n 1, 1) := by decide +kernel
theorem dX9_apart_47 : decode cX9_apart 47 = .ok (.lreturn, 1) := by decide +kernel
theorem dX9_spread_0 : decode cX9_spread 0 = .ok (.aload_n 0, 1) := by decide +kernel
theorem dX9_spread_1 : decode cX9_spread 1 = .ok (.iconst 0, 1) := by decide +kernel
theorem dX9_spread_2 : decode cX9_spread 2 = .ok (.putfield 95, 3) := by decide +kernel
theorem dX9_spread_5 : decode cX9_spread 5 = .ok (.aload_n 0, 1) := by decide +kernel
theorem dX9_spread_6 : decode cX9_spread 6 = .ok (.iconst 0, 1) := by decide +kernel
theorem dX9_spread_7 : decode cX9_spread 7 = .ok (.putfield 98, 3) := by decide +kernel
theorem dX9_spread_10 : decode cX9_spread 10 = .ok (.aload_n 0, 1) := by decide +kernel
theorem dX9_spread_11 : decode cX9_spread 11 = .ok (.iconst (-1), 1) := by decide +kernel
theorem dX9_spread_12 : decode cX9_spread 12 = .ok (.iconst (-1), 1) := by decide +kernel
theorem dX9_spread_13 : decode cX9_spread 13 = .ok (.iconst 0, 1) := by decide +kernel
theorem dX9_spread_14 : decode cX9_spread 14 = .ok (.invokevirtual 196, 3) := by decide +kernel
theorem dX9_spread_17 : decode cX9_spread 17 = .ok (.istore_n 1, 1) := by decide +kernel
theorem dX9_spread_18 : decode cX9_spread 18 = .ok (.iload_n 1, 1) := by decide +kernel
theorem dX9_spread_19 : decode cX9_spread 19 = .ok (.ifCond .le 9, 3) := by decide +kernel
theorem dX9_spread_22 : decode cX9_spread 22 = .ok (.aload_n 0, 1) := by decide +kernel
theorem dX9_spread_23 : decode cX9_spread 23 = .ok (.iload_n 1, 1) := by decide +kernel
theorem dX9_spread_24 : decode cX9_spread 24 = .ok (.invokevirtual 101, 3) := by decide +kernel
theorem dX9_spread_27 : decode cX9_spread 27 = .ok (.ireturn, 1) := by decide +kernel
theorem dX9_spread_28 : decode cX9_spread 28 = .ok (.aload_n 0, 1) := by decide +kernel
theorem dX9_spread_29 : decode cX9_spread 29 = .ok (.aload_n 0, 1) := by decide +kernel
theorem dX9_spread_30 : decode cX9_spread 30 = .ok (.invokevirtual 211, 3) := by decide +kernel
theorem dX9_spread_33 : decode cX9_spread 33 = .ok (.aload_n 0, 1) := by decide +kernel
theorem dX9_spread_34 : decode cX9_spread 34 = .ok (.getfield 177, 3) := by decide +kernel
theorem dX9_spread_37 : decode cX9_spread 37 = .ok (.aload_n 0, 1) := by decide +kernel
theorem dX9_spread_38 : decode cX9_spread 38 = .ok (.getfield 177, 3) := by decide +kernel
theorem dX9_spread_41 : decode cX9_spread 41 = .ok (.lmul, 1) := by decide +kernel
theorem dX9_spread_42 : decode cX9_spread 42 = .ok (.invokevirtual 200, 3) := by decide +kernel
theorem dX9_spread_45 : decode cX9_spread 45 = .ok (.pop, 1) := by decide +kernel
theorem dX9_spread_46 : decode cX9_spread 46 = .ok (.iconst 1, 1) := by decide +kernel
theorem dX9_spread_47 : decode cX9_spread 47 = .ok (.ireturn, 1) := by decide +kernel
theorem dX9_known_0 : decode cX9_known 0 = .ok (.aload_n 0, 1) := by decide +kernel
theorem dX9_known_1 : decode cX9_known 1 = .ok (.lconst 0, 1) := by decide +kernel
theorem dX9_known_2 : decode cX9_known 2 = .ok (.putfield 214, 3) := by decide +kernel
theorem dX9_known_5 : decode cX9_known 5 = .ok (.aload_n 0, 1) := by decide +kernel
theorem dX9_known_6 : decode cX9_known 6 = .ok (.lconst 1, 1) := by decide +kernel
theorem dX9_known_7 : decode cX9_known 7 = .ok (.putfield 217, 3) := by decide +kernel
theorem dX9_known_10 : decode cX9_known 10 = .ok (.aload_n 0, 1) := by decide +kernel
theorem dX9_known_11 : decode cX9_known 11 = .ok (.lconst 0, 1) := by decide +kernel
theorem dX9_known_12 : decode cX9_known 12 = .ok (.putfield 220, 3) := by decide +kernel
theorem dX9_known_15 : decode cX9_known 15 = .ok (.iconst 0, 1) := by decide +kernel
theorem dX9_known_16 : decode cX9_known 16 = .ok (.istore_n 2, 1) := by decide +kernel
theorem dX9_known_17 : decode cX9_known 17 = .ok (.iload_n 2, 1) := by decide +kernel
theorem dX9_known_18 : decode cX9_known 18 = .ok (.aload_n 0, 1) := by decide +kernel
theorem dX9_known_19 : decode cX9_known 19 = .ok (.getfield 31, 3) := by decide +kernel
theorem dX9_known_22 : decode cX9_known 22 = .ok (.iload_n 1, 1) := by decide +kernel
theorem dX9_known_23 : decode cX9_known 23 = .ok (.iaload, 1) := by decide +kernel
theorem dX9_known_24 : decode cX9_known 24 = .ok (.if_icmp .ge 121, 3) := by decide +kernel
theorem dX9_known_27 : decode cX9_known 27 = .ok (.aload_n 0, 1) := by decide +kernel
theorem dX9_known_28 : decode cX9_known 28 = .ok (.iconst (-1), 1) := by decide +kernel
theorem dX9_known_29 : decode cX9_known 29 = .ok (.iload_n 1, 1) := by decide +kernel
theorem dX9_known_30 : decode cX9_known 30 = .ok (.iload_n 2, 1) := by decide +kernel
theorem dX9_known_31 : decode cX9_known 31 = .ok (.invokevirtual 196, 3) := by decide +kernel
theorem dX9_known_34 : decode cX9_known 34 = .ok (.istore_n 3, 1) := by decide +kernel
theorem dX9_known_35 : decode cX9_known 35 = .ok (.iload_n 3, 1) := by decide +kernel
theorem dX9_known_36 : decode cX9_known 36 = .ok (.ifCond .le 5, 3) := by decide +kernel
theorem dX9_known_39 : decode cX9_known 39 = .ok (.iload_n 3, 1) := by decide +kernel
theorem dX9_known_40 : decode cX9_known 40 = .ok (.ireturn, 1) := by decide +kernel
theorem dX9_known_41 : decode cX9_known 41 = .ok (.aload_n 0, 1) := by decide +kernel
theorem dX9_known_42 : decode cX9_known 42 = .ok (.dup, 1) := by decide +kernel
theorem dX9_known_43 : decode cX9_known 43 = .ok (.getfield 220, 3) := by decide +kernel
theorem dX9_known_46 : decode cX9_known 46 = .ok (.aload_n 0, 1) := by decide +kernel
theorem dX9_known_47 : decode cX9_known 47 = .ok (.getfield 177, 3) := by decide +kernel
theorem dX9_known_50 : decode cX9_known 50 = .ok (.ladd, 1) := by decide +kernel
theorem dX9_known_51 : decode cX9_known 51 = .ok (.putfield 220, 3) := by decide +kernel
theorem dX9_known_54 : decode cX9_known 54 = .ok (.aload_n 0, 1) := by decide +kernel
theorem dX9_known_55 : decode cX9_known 55 = .ok (.getfield 177, 3) := by decide +kernel
theorem dX9_known_58 : decode cX9_known 58 = .ok (.lconst 0, 1) := by decide +kernel
theorem dX9_known_59 : decode cX9_known 59 = .ok (.lcmp, 1) := by decide +kernel
theorem dX9_known_60 : decode cX9_known 60 = .ok (.ifCond .ne 6, 3) := by decide +kernel
theorem dX9_known_63 : decode cX9_known 63 = .ok (.goto 76, 3) := by decide +kernel
theorem dX9_known_66 : decode cX9_known 66 = .ok (.aload_n 0, 1) := by decide +kernel
theorem dX9_known_67 : decode cX9_known 67 = .ok (.getfield 214, 3) := by decide +kernel
theorem dX9_known_70 : decode cX9_known 70 = .ok (.aload_n 0, 1) := by decide +kernel
theorem dX9_known_71 : decode cX9_known 71 = .ok (.getfield 177, 3) := by decide +kernel
theorem dX9_known_74 : decode cX9_known 74 = .ok (.lmul, 1) := by decide +kernel
theorem dX9_known_75 : decode cX9_known 75 = .ok (.aload_n 0, 1) := by decide +kernel
theorem dX9_known_76 : decode cX9_known 76 = .ok (.invokevirtual 211, 3) := by decide +kernel
theorem dX9_known_79 : decode cX9_known 79 = .ok (.aload_n 0, 1) := by decide +kernel
theorem dX9_known_80 : decode cX9_known 80 = .ok (.getfield 217, 3) := by decide +kernel
theorem dX9_known_83 : decode cX9_known 83 = .ok (.lmul, 1) := by decide +kernel
theorem dX9_known_84 : decode cX9_known 84 = .ok (.ladd, 1) := by decide +kernel
theorem dX9_known_85 : decode cX9_known 85 = .ok (.lstore 4, 2) := by decide +kernel
theorem dX9_known_87 : decode cX9_known 87 = .ok (.aload_n 0, 1) := by decide +kernel
theorem dX9_known_88 : decode cX9_known 88 = .ok (.getfield 217, 3) := by decide +kernel
theorem dX9_known_91 : decode cX9_known 91 = .ok (.aload_n 0, 1) := by decide +kernel
theorem dX9_known_92 : decode cX9_known 92 = .ok (.getfield 177, 3) := by decide +kernel
theorem dX9_known_95 : decode cX9_known 95 = .ok (.lmul, 1) := by decide +kernel
theorem dX9_known_96 : decode cX9_known 96 = .ok (.lstore 6, 2) := by decide +kernel
theorem dX9_known_98 : decode cX9_known 98 = .ok (.lload 4, 2) := by decide +kernel
theorem dX9_known_100 : decode cX9_known 100 = .ok (.lload 6, 2) := by decide +kernel
theorem dX9_known_102 : decode cX9_known 102 = .ok (.invokestatic 125, 3) := by decide +kernel
theorem dX9_known_105 : decode cX9_known 105 = .ok (.lstore 8, 2) := by decide +kernel
theorem dX9_known_107 : decode cX9_known 107 = .ok (.aload_n 0, 1) := by decide +kernel
theorem dX9_known_108 : decode cX9_known 108 = .ok (.lload 4, 2) := by decide +kernel
theorem dX9_known_110 : decode cX9_known 110 = .ok (.lload 8, 2) := by decide +kernel
theorem dX9_known_112 : decode cX9_known 112 = .ok (.ldiv, 1) := by decide +kernel
theorem dX9_known_113 : decode cX9_known 113 = .ok (.putfield 214, 3) := by decide +kernel
theorem dX9_known_116 : decode cX9_known 116 = .ok (.aload_n 0, 1) := by decide +kernel
theorem dX9_known_117 : decode cX9_known 117 = .ok (.lload 6, 2) := by decide +kernel
theorem dX9_known_119 : decode cX9_known 119 = .ok (.lload 8, 2) := by decide +kernel
theorem dX9_known_121 : decode cX9_known 121 = .ok (.ldiv, 1) := by decide +kernel
theorem dX9_known_122 : decode cX9_known 122 = .ok (.putfield 217, 3) := by decide +kernel
theorem dX9_known_125 : decode cX9_known 125 = .ok (.aload_n 0, 1) := by decide +kernel
theorem dX9_known_126 : decode cX9_known 126 = .ok (.getfield 217, 3) := by decide +kernel
theorem dX9_known_129 : decode cX9_known 129 = .ok (.ldc2_w 223, 3) := by decide +kernel
theorem dX9_known_132 : decode cX9_known 132 = .ok (.lcmp, 1) := by decide +kernel
theorem dX9_known_133 : decode cX9_known 133 = .ok (.ifCond .le 6, 3) := by decide +kernel
theorem dX9_known_136 : decode cX9_known 136 = .ok (.bipush 9, 2) := by decide +kernel
theorem dX9_known_138 : decode cX9_known 138 = .ok (.ireturn, 1) := by decide +kernel
theorem dX9_known_139 : decode cX9_known 139 = .ok (.iinc 2 1, 3) := by decide +kernel
theorem dX9_known_142 : decode cX9_known 142 = .ok (.goto (-125), 3) := by decide +kernel
theorem dX9_known_145 : decode cX9_known 145 = .ok (.iconst 0, 1) := by decide +kernel
theorem dX9_known_146 : decode cX9_known 146 = .ok (.ireturn, 1) := by decide +kernel
theorem dX9_sure_0 : decode cX9_sure 0 = .ok (.aload_n 0, 1) := by decide +kernel
theorem dX9_sure_1 : decode cX9_sure 1 = .ok (.iconst 0, 1) := by decide +kernel
theorem dX9_sure_2 : decode cX9_sure 2 = .ok (.putfield 95, 3) := by decide +kernel
theorem dX9_sure_5 : decode cX9_sure 5 = .ok (.aload_n 0, 1) := by decide +kernel
theorem dX9_sure_6 : decode cX9_sure 6 = .ok (.iconst 0, 1) := by decide +kernel
theorem dX9_sure_7 : decode cX9_sure 7 = .ok (.putfield 98, 3) := by decide +kernel
theorem dX9_sure_10 : decode cX9_sure 10 = .ok (.aload_n 0, 1) := by decide +kernel
theorem dX9_sure_11 : decode cX9_sure 11 = .ok (.iload_n 1, 1) := by decide +kernel
theorem dX9_sure_12 : decode cX9_sure 12 = .ok (.invokevirtual 142, 3) := by decide +kernel
theorem dX9_sure_15 : decode cX9_sure 15 = .ok (.ifCond .ne 9, 3) := by decide +kernel
theorem dX9_sure_18 : decode cX9_sure 18 = .ok (.aload_n 0, 1) := by decide +kernel
theorem dX9_sure_19 : decode cX9_sure 19 = .ok (.iconst 2, 1) := by decide +kernel
theorem dX9_sure_20 : decode cX9_sure 20 = .ok (.invokevirtual 101, 3) := by decide +kernel
theorem dX9_sure_23 : decode cX9_sure 23 = .ok (.ireturn, 1) := by decide +kernel
theorem dX9_sure_24 : decode cX9_sure 24 = .ok (.aload_n 0, 1) := by decide +kernel
theorem dX9_sure_25 : decode cX9_sure 25 = .ok (.iload_n 1, 1) := by decide +kernel
theorem dX9_sure_26 : decode cX9_sure 26 = .ok (.invokevirtual 225, 3) := by decide +kernel
theorem dX9_sure_29 : decode cX9_sure 29 = .ok (.istore_n 2, 1) := by decide +kernel
theorem dX9_sure_30 : decode cX9_sure 30 = .ok (.iload_n 2, 1) := by decide +kernel
theorem dX9_sure_31 : decode cX9_sure 31 = .ok (.ifCond .le 9, 3) := by decide +kernel
theorem dX9_sure_34 : decode cX9_sure 34 = .ok (.aload_n 0, 1) := by decide +kernel
theorem dX9_sure_35 : decode cX9_sure 35 = .ok (.iload_n 2, 1) := by decide +kernel
theorem dX9_sure_36 : decode cX9_sure 36 = .ok (.invokevirtual 101, 3) := by decide +kernel
theorem dX9_sure_39 : decode cX9_sure 39 = .ok (.ireturn, 1) := by decide +kernel
theorem dX9_sure_40 : decode cX9_sure 40 = .ok (.aload_n 0, 1) := by decide +kernel
theorem dX9_sure_41 : decode cX9_sure 41 = .ok (.aload_n 0, 1) := by decide +kernel
theorem dX9_sure_42 : decode cX9_sure 42 = .ok (.getfield 214, 3) := by decide +kernel
theorem dX9_sure_45 : decode cX9_sure 45 = .ok (.aload_n 0, 1) := by decide +kernel
theorem dX9_sure_46 : decode cX9_sure 46 = .ok (.getfield 217, 3) := by decide +kernel
theorem dX9_sure_49 : decode cX9_sure 49 = .ok (.aload_n 0, 1) := by decide +kernel
theorem dX9_sure_50 : decode cX9_sure 50 = .ok (.getfield 220, 3) := by decide +kernel
theorem dX9_sure_53 : decode cX9_sure 53 = .ok (.lmul, 1) := by decide +kernel
theorem dX9_sure_54 : decode cX9_sure 54 = .ok (.invokevirtual 200, 3) := by decide +kernel
theorem dX9_sure_57 : decode cX9_sure 57 = .ok (.pop, 1) := by decide +kernel
theorem dX9_sure_58 : decode cX9_sure 58 = .ok (.iconst 1, 1) := by decide +kernel
theorem dX9_sure_59 : decode cX9_sure 59 = .ok (.ireturn, 1) := by decide +kernel
theorem dX9_isLess_0 : decode cX9_isLess 0 = .ok (.lload_n 0, 1) := by decide +kernel
theorem dX9_isLess_1 : decode cX9_isLess 1 = .ok (.lstore 8, 2) := by decide +kernel
theorem dX9_isLess_3 : decode cX9_isLess 3 = .ok (.lload_n 2, 1) := by decide +kernel
theorem dX9_isLess_4 : decode cX9_isLess 4 = .ok (.lstore 10, 2) := by decide +kernel
theorem dX9_isLess_6 : decode cX9_isLess 6 = .ok (.lload 4, 2) := by decide +kernel
theorem dX9_isLess_8 : decode cX9_isLess 8 = .ok (.lstore 12, 2) := by decide +kernel
theorem dX9_isLess_10 : decode cX9_isLess 10 = .ok (.lload 6, 2) := by decide +kernel
theorem dX9_isLess_12 : decode cX9_isLess 12 = .ok (.lstore 14, 2) := by decide +kernel
theorem dX9_isLess_14 : decode cX9_isLess 14 = .ok (.iconst 0, 1) := by decide +kernel
theorem dX9_isLess_15 : decode cX9_isLess 15 = .ok (.istore 16, 2) := by decide +kernel
theorem dX9_isLess_17 : decode cX9_isLess 17 = .ok (.lload 10, 2) := by decide +kernel
theorem dX9_isLess_19 : decode cX9_isLess 19 = .ok (.lconst 0, 1) := by decide +kernel
theorem dX9_isLess_20 : decode cX9_isLess 20 = .ok (.lcmp, 1) := by decide +kernel
theorem dX9_isLess_21 : decode cX9_isLess 21 = .ok (.ifCond .eq 69, 3) := by decide +kernel
theorem dX9_isLess_24 : decode cX9_isLess 24 = .ok (.lload 14, 2) := by decide +kernel
theorem dX9_isLess_26 : decode cX9_isLess 26 = .ok (.lconst 0, 1) := by decide +kernel
theorem dX9_isLess_27 : decode cX9_isLess 27 = .ok (.lcmp, 1) := by decide +kernel
theorem dX9_isLess_28 : decode cX9_isLess 28 = .ok (.ifCond .eq 62, 3) := by decide +kernel
theorem dX9_isLess_31 : decode cX9_isLess 31 = .ok (.lload 8, 2) := by decide +kernel
theorem dX9_isLess_33 : decode cX9_isLess 33 = .ok (.lload 10, 2) := by decide +kernel
theorem dX9_isLess_35 : decode cX9_isLess 35 = .ok (.ldiv, 1) := by decide +kernel
theorem dX9_isLess_36 : decode cX9_isLess 36 = .ok (.lload 12, 2) := by decide +kernel
theorem dX9_isLess_38 : decode cX9_isLess 38 = .ok (.lload 14, 2) := by decide +kernel
theorem dX9_isLess_40 : decode cX9_isLess 40 = .ok (.ldiv, 1) := by decide +kernel
theorem dX9_isLess_41 : decode cX9_isLess 41 = .ok (.lcmp, 1) := by decide +kernel
theorem dX9_isLess_42 : decode cX9_isLess 42 = .ok (.ifCond .ne 48, 3) := by decide +kernel
theorem dX9_isLess_45 : decode cX9_isLess 45 = .ok (.lload 8, 2) := by decide +kernel
theorem dX9_isLess_47 : decode cX9_isLess 47 = .ok (.lload 10, 2) := by decide +kernel
theorem dX9_isLess_49 : decode cX9_isLess 49 = .ok (.lrem, 1) := by decide +kernel
theorem dX9_isLess_50 : decode cX9_isLess 50 = .ok (.lstore 17, 2) := by decide +kernel
theorem dX9_isLess_52 : decode cX9_isLess 52 = .ok (.lload 12, 2) := by decide +kernel
theorem dX9_isLess_54 : decode cX9_isLess 54 = .ok (.lload 14, 2) := by decide +kernel
theorem dX9_isLess_56 : decode cX9_isLess 56 = .ok (.lrem, 1) := by decide +kernel
theorem dX9_isLess_57 : decode cX9_isLess 57 = .ok (.lstore 19, 2) := by decide +kernel
theorem dX9_isLess_59 : decode cX9_isLess 59 = .ok (.lload 10, 2) := by decide +kernel
theorem dX9_isLess_61 : decode cX9_isLess 61 = .ok (.lstore 8, 2) := by decide +kernel
theorem dX9_isLess_63 : decode cX9_isLess 63 = .ok (.lload 17, 2) := by decide +kernel
theorem dX9_isLess_65 : decode cX9_isLess 65 = .ok (.lstore 10, 2) := by decide +kernel
theorem dX9_isLess_67 : decode cX9_isLess 67 = .ok (.lload 14, 2) := by decide +kernel
theorem dX9_isLess_69 : decode cX9_isLess 69 = .ok (.lstore 12, 2) := by decide +kernel
theorem dX9_isLess_71 : decode cX9_isLess 71 = .ok (.lload 19, 2) := by decide +kernel
theorem dX9_isLess_73 : decode cX9_isLess 73 = .ok (.lstore 14, 2) := by decide +kernel
theorem dX9_isLess_75 : decode cX9_isLess 75 = .ok (.iload 16, 2) := by decide +kernel
theorem dX9_isLess_77 : decode cX9_isLess 77 = .ok (.ifCond .ne 7, 3) := by decide +kernel
theorem dX9_isLess_80 : decode cX9_isLess 80 = .ok (.iconst 1, 1) := by decide +kernel
theorem dX9_isLess_81 : decode cX9_isLess 81 = .ok (.goto 4, 3) := by decide +kernel
theorem dX9_isLess_84 : decode cX9_isLess 84 = .ok (.iconst 0, 1) := by decide +kernel
theorem dX9_isLess_85 : decode cX9_isLess 85 = .ok (.istore 16, 2) := by decide +kernel
theorem dX9_isLess_87 : decode cX9_isLess 87 = .ok (.goto (-70), 3) := by decide +kernel
theorem dX9_isLess_90 : decode cX9_isLess 90 = .ok (.lload 10, 2) := by decide +kernel
theorem dX9_isLess_92 : decode cX9_isLess 92 = .ok (.lconst 0, 1) := by decide +kernel
theorem dX9_isLess_93 : decode cX9_isLess 93 = .ok (.lcmp, 1) := by decide +kernel
theorem dX9_isLess_94 : decode cX9_isLess 94 = .ok (.ifCond .ne 12, 3) := by decide +kernel
theorem dX9_isLess_97 : decode cX9_isLess 97 = .ok (.lload 14, 2) := by decide +kernel
theorem dX9_isLess_99 : decode cX9_isLess 99 = .ok (.lconst 0, 1) := by decide +kernel
theorem dX9_isLess_100 : decode cX9_isLess 100 = .ok (.lcmp, 1) := by decide +kernel
theorem dX9_isLess_101 : decode cX9_isLess 101 = .ok (.ifCond .ne 5, 3) := by decide +kernel
theorem dX9_isLess_104 : decode cX9_isLess 104 = .ok (.iconst 0, 1) := by decide +kernel
theorem dX9_isLess_105 : decode cX9_isLess 105 = .ok (.ireturn, 1) := by decide +kernel
theorem dX9_isLess_106 : decode cX9_isLess 106 = .ok (.lload 10, 2) := by decide +kernel
theorem dX9_isLess_108 : decode cX9_isLess 108 = .ok (.lconst 0, 1) := by decide +kernel
theorem dX9_isLess_109 : decode cX9_isLess 109 = .ok (.lcmp, 1) := by decide +kernel
theorem dX9_isLess_110 : decode cX9_isLess 110 = .ok (.ifCond .eq 28, 3) := by decide +kernel
theorem dX9_isLess_113 : decode cX9_isLess 113 = .ok (.lload 14, 2) := by decide +kernel
theorem dX9_isLess_115 : decode cX9_isLess 115 = .ok (.lconst 0, 1) := by decide +kernel
theorem dX9_isLess_116 : decode cX9_isLess 116 = .ok (.lcmp, 1) := by decide +kernel
theorem dX9_isLess_117 : decode cX9_isLess 117 = .ok (.ifCond .eq 17, 3) := by decide +kernel
theorem dX9_isLess_120 : decode cX9_isLess 120 = .ok (.lload 8, 2) := by decide +kernel
theorem dX9_isLess_122 : decode cX9_isLess 122 = .ok (.lload 10, 2) := by decide +kernel
theorem dX9_isLess_124 : decode cX9_isLess 124 = .ok (.ldiv, 1) := by decide +kernel
theorem dX9_isLess_125 : decode cX9_isLess 125 = .ok (.lload 12, 2) := by decide +kernel
theorem dX9_isLess_127 : decode cX9_isLess 127 = .ok (.lload 14, 2) := by decide +kernel
theorem dX9_isLess_129 : decode cX9_isLess 129 = .ok (.ldiv, 1) := by decide +kernel
theorem dX9_isLess_130 : decode cX9_isLess 130 = .ok (.lcmp, 1) := by decide +kernel
theorem dX9_isLess_131 : decode cX9_isLess 131 = .ok (.ifCond .ge 7, 3) := by decide +kernel
theorem dX9_isLess_134 : decode cX9_isLess 134 = .ok (.iconst 1, 1) := by decide +kernel
theorem dX9_isLess_135 : decode cX9_isLess 135 = .ok (.goto 4, 3) := by decide +kernel
theorem dX9_isLess_138 : decode cX9_isLess 138 = .ok (.iconst 0, 1) := by decide +kernel
theorem dX9_isLess_139 : decode cX9_isLess 139 = .ok (.istore 17, 2) := by decide +kernel
theorem dX9_isLess_141 : decode cX9_isLess 141 = .ok (.iload 16, 2) := by decide +kernel
theorem dX9_isLess_143 : decode cX9_isLess 143 = .ok (.iload 17, 2) := by decide +kernel
theorem dX9_isLess_145 : decode cX9_isLess 145 = .ok (.if_icmp .eq 7, 3) := by decide +kernel
theorem dX9_isLess_148 : decode cX9_isLess 148 = .ok (.iconst 1, 1) := by decide +kernel
theorem dX9_isLess_149 : decode cX9_isLess 149 = .ok (.goto 4, 3) := by decide +kernel
theorem dX9_isLess_152 : decode cX9_isLess 152 = .ok (.iconst 0, 1) := by decide +kernel
theorem dX9_isLess_153 : decode cX9_isLess 153 = .ok (.ireturn, 1) := by decide +kernel
theorem dX9_surest_0 : decode cX9_surest 0 = .ok (.aload_n 0, 1) := by decide +kernel
theorem dX9_surest_1 : decode cX9_surest 1 = .ok (.iconst 0, 1) := by decide +kernel
theorem dX9_surest_2 : decode cX9_surest 2 = .ok (.putfield 95, 3) := by decide +kernel
theorem dX9_surest_5 : decode cX9_surest 5 = .ok (.aload_n 0, 1) := by decide +kernel
theorem dX9_surest_6 : decode cX9_surest 6 = .ok (.iconst 0, 1) := by decide +kernel
theorem dX9_surest_7 : decode cX9_surest 7 = .ok (.putfield 98, 3) := by decide +kernel
theorem dX9_surest_10 : decode cX9_surest 10 = .ok (.aload_n 0, 1) := by decide +kernel
theorem dX9_surest_11 : decode cX9_surest 11 = .ok (.getfield 119, 3) := by decide +kernel
theorem dX9_surest_14 : decode cX9_surest 14 = .ok (.ifCond .ne 9, 3) := by decide +kernel
theorem dX9_surest_17 : decode cX9_surest 17 = .ok (.aload_n 0, 1) := by decide +kernel
theorem dX9_surest_18 : decode cX9_surest 18 = .ok (.iconst 2, 1) := by decide +kernel
theorem dX9_surest_19 : decode cX9_surest 19 = .ok (.invokevirtual 122, 3) := by decide +kernel
theorem dX9_surest_22 : decode cX9_surest 22 = .ok (.ireturn, 1) := by decide +kernel
theorem dX9_surest_23 : decode cX9_surest 23 = .ok (.iconst (-1), 1) := by decide +kernel
theorem dX9_surest_24 : decode cX9_surest 24 = .ok (.istore_n 1, 1) := by decide +kernel
theorem dX9_surest_25 : decode cX9_surest 25 = .ok (.lconst 0, 1) := by decide +kernel
theorem dX9_surest_26 : decode cX9_surest 26 = .ok (.lstore_n 2, 1) := by decide +kernel
theorem dX9_surest_27 : decode cX9_surest 27 = .ok (.lconst 1, 1) := by decide +kernel
theorem dX9_surest_28 : decode cX9_surest 28 = .ok (.lstore 4, 2) := by decide +kernel
theorem dX9_surest_30 : decode cX9_surest 30 = .ok (.iconst 0, 1) := by decide +kernel
theorem dX9_surest_31 : decode cX9_surest 31 = .ok (.istore 6, 2) := by decide +kernel
theorem dX9_surest_33 : decode cX9_surest 33 = .ok (.iload 6, 2) := by decide +kernel
theorem dX9_surest_35 : decode cX9_surest 35 = .ok (.aload_n 0, 1) := by decide +kernel
theorem dX9_surest_36 : decode cX9_surest 36 = .ok (.getfield 119, 3) := by decide +kernel
theorem dX9_surest_39 : decode cX9_surest 39 = .ok (.if_icmp .ge 67, 3) := by decide +kernel
theorem dX9_surest_42 : decode cX9_surest 42 = .ok (.aload_n 0, 1) := by decide +kernel
theorem dX9_surest_43 : decode cX9_surest 43 = .ok (.iload 6, 2) := by decide +kernel
theorem dX9_surest_45 : decode cX9_surest 45 = .ok (.invokevirtual 225, 3) := by decide +kernel
theorem dX9_surest_48 : decode cX9_surest 48 = .ok (.istore 7, 2) := by decide +kernel
theorem dX9_surest_50 : decode cX9_surest 50 = .ok (.iload 7, 2) := by decide +kernel
theorem dX9_surest_52 : decode cX9_surest 52 = .ok (.ifCond .le 10, 3) := by decide +kernel
theorem dX9_surest_55 : decode cX9_surest 55 = .ok (.aload_n 0, 1) := by decide +kernel
theorem dX9_surest_56 : decode cX9_surest 56 = .ok (.iload 7, 2) := by decide +kernel
theorem dX9_surest_58 : decode cX9_surest 58 = .ok (.invokevirtual 122, 3) := by decide +kernel
theorem dX9_surest_61 : decode cX9_surest 61 = .ok (.ireturn, 1) := by decide +kernel
theorem dX9_surest_62 : decode cX9_surest 62 = .ok (.iload_n 1, 1) := by decide +kernel
theorem dX9_surest_63 : decode cX9_surest 63 = .ok (.ifCond .lt 23, 3) := by decide +kernel
theorem dX9_surest_66 : decode cX9_surest 66 = .ok (.aload_n 0, 1) := by decide +kernel
theorem dX9_surest_67 : decode cX9_surest 67 = .ok (.getfield 214, 3) := by decide +kernel
theorem dX9_surest_70 : decode cX9_surest 70 = .ok (.aload_n 0, 1) := by decide +kernel
theorem dX9_surest_71 : decode cX9_surest 71 = .ok (.getfield 217, 3) := by decide +kernel
theorem dX9_surest_74 : decode cX9_surest 74 = .ok (.lload_n 2, 1) := by decide +kernel
theorem dX9_surest_75 : decode cX9_surest 75 = .ok (.lload 4, 2) := by decide +kernel
theorem dX9_surest_77 : decode cX9_surest 77 = .ok (.invokestatic 228, 3) := by decide +kernel
theorem dX9_surest_80 : decode cX9_surest 80 = .ok (.ifCond .ne 6, 3) := by decide +kernel
theorem dX9_surest_83 : decode cX9_surest 83 = .ok (.goto 17, 3) := by decide +kernel
theorem dX9_surest_86 : decode cX9_surest 86 = .ok (.iload 6, 2) := by decide +kernel
theorem dX9_surest_88 : decode cX9_surest 88 = .ok (.istore_n 1, 1) := by decide +kernel
theorem dX9_surest_89 : decode cX9_surest 89 = .ok (.aload_n 0, 1) := by decide +kernel
theorem dX9_surest_90 : decode cX9_surest 90 = .ok (.getfield 214, 3) := by decide +kernel
theorem dX9_surest_93 : decode cX9_surest 93 = .ok (.lstore_n 2, 1) := by decide +kernel
theorem dX9_surest_94 : decode cX9_surest 94 = .ok (.aload_n 0, 1) := by decide +kernel
theorem dX9_surest_95 : decode cX9_surest 95 = .ok (.getfield 217, 3) := by decide +kernel
theorem dX9_surest_98 : decode cX9_surest 98 = .ok (.lstore 4, 2) := by decide +kernel
theorem dX9_surest_100 : decode cX9_surest 100 = .ok (.iinc 6 1, 3) := by decide +kernel
theorem dX9_surest_103 : decode cX9_surest 103 = .ok (.goto (-70), 3) := by decide +kernel
theorem dX9_surest_106 : decode cX9_surest 106 = .ok (.iload_n 1, 1) := by decide +kernel
theorem dX9_surest_107 : decode cX9_surest 107 = .ok (.ireturn, 1) := by decide +kernel
theorem dX9_moves_0 : decode cX9_moves 0 = .ok (.aload_n 0, 1) := by decide +kernel
theorem dX9_moves_1 : decode cX9_moves 1 = .ok (.iconst 0, 1) := by decide +kernel
theorem dX9_moves_2 : decode cX9_moves 2 = .ok (.putfield 95, 3) := by decide +kernel
theorem dX9_moves_5 : decode cX9_moves 5 = .ok (.aload_n 0, 1) := by decide +kernel
theorem dX9_moves_6 : decode cX9_moves 6 = .ok (.iconst 0, 1) := by decide +kernel
theorem dX9_moves_7 : decode cX9_moves 7 = .ok (.putfield 98, 3) := by decide +kernel
theorem dX9_moves_10 : decode cX9_moves 10 = .ok (.aload_n 0, 1) := by decide +kernel
theorem dX9_moves_11 : decode cX9_moves 11 = .ok (.iload_n 1, 1) := by decide +kernel
theorem dX9_moves_12 : decode cX9_moves 12 = .ok (.invokevirtual 142, 3) := by decide +kernel
theorem dX9_moves_15 : decode cX9_moves 15 = .ok (.ifCond .ne 9, 3) := by decide +kernel
theorem dX9_moves_18 : decode cX9_moves 18 = .ok (.aload_n 0, 1) := by decide +kernel
theorem dX9_moves_19 : decode cX9_moves 19 = .ok (.iconst 2, 1) := by decide +kernel
theorem dX9_moves_20 : decode cX9_moves 20 = .ok (.invokevirtual 101, 3) := by decide +kernel
theorem dX9_moves_23 : decode cX9_moves 23 = .ok (.ireturn, 1) := by decide +kernel
theorem dX9_moves_24 : decode cX9_moves 24 = .ok (.aload_n 0, 1) := by decide +kernel
theorem dX9_moves_25 : decode cX9_moves 25 = .ok (.invokevirtual 174, 3) := by decide +kernel
theorem dX9_moves_28 : decode cX9_moves 28 = .ok (.ifCond .eq 10, 3) := by decide +kernel
theorem dX9_moves_31 : decode cX9_moves 31 = .ok (.aload_n 0, 1) := by decide +kernel
theorem dX9_moves_32 : decode cX9_moves 32 = .ok (.bipush 8, 2) := by decide +kernel
theorem dX9_moves_34 : decode cX9_moves 34 = .ok (.invokevirtual 101, 3) := by decide +kernel
theorem dX9_moves_37 : decode cX9_moves 37 = .ok (.ireturn, 1) := by decide +kernel
theorem dX9_moves_38 : decode cX9_moves 38 = .ok (.aload_n 0, 1) := by decide +kernel
theorem dX9_moves_39 : decode cX9_moves 39 = .ok (.invokevirtual 161, 3) := by decide +kernel
theorem dX9_moves_42 : decode cX9_moves 42 = .ok (.ifCond .eq 10, 3) := by decide +kernel
theorem dX9_moves_45 : decode cX9_moves 45 = .ok (.aload_n 0, 1) := by decide +kernel
theorem dX9_moves_46 : decode cX9_moves 46 = .ok (.bipush 9, 2) := by decide +kernel
theorem dX9_moves_48 : decode cX9_moves 48 = .ok (.invokevirtual 101, 3) := by decide +kernel
theorem dX9_moves_51 : decode cX9_moves 51 = .ok (.ireturn, 1) := by decide +kernel
theorem dX9_moves_52 : decode cX9_moves 52 = .ok (.lconst 0, 1) := by decide +kernel
theorem dX9_moves_53 : decode cX9_moves 53 = .ok (.lstore_n 2, 1) := by decide +kernel
theorem dX9_moves_54 : decode cX9_moves 54 = .ok (.lconst 0, 1) := by decide +kernel
theorem dX9_moves_55 : decode cX9_moves 55 = .ok (.lstore 4, 2) := by decide +kernel
theorem dX9_moves_57 : decode cX9_moves 57 = .ok (.aload_n 0, 1) := by decide +kernel
theorem dX9_moves_58 : decode cX9_moves 58 = .ok (.invokevirtual 180, 3) := by decide +kernel
theorem dX9_moves_61 : decode cX9_moves 61 = .ok (.iconst 1, 1) := by decide +kernel
theorem dX9_moves_62 : decode cX9_moves 62 = .ok (.istore 6, 2) := by decide +kernel
theorem dX9_moves_64 : decode cX9_moves 64 = .ok (.iload 6, 2) := by decide +kernel
theorem dX9_moves_66 : decode cX9_moves 66 = .ok (.ifCond .eq 54, 3) := by decide +kernel
theorem dX9_moves_69 : decode cX9_moves 69 = .ok (.aload_n 0, 1) := by decide +kernel
theorem dX9_moves_70 : decode cX9_moves 70 = .ok (.iconst (-1), 1) := by decide +kernel
theorem dX9_moves_71 : decode cX9_moves 71 = .ok (.invokevirtual 183, 3) := by decide +kernel
theorem dX9_moves_74 : decode cX9_moves 74 = .ok (.istore 7, 2) := by decide +kernel
theorem dX9_moves_76 : decode cX9_moves 76 = .ok (.aload_n 0, 1) := by decide +kernel
theorem dX9_moves_77 : decode cX9_moves 77 = .ok (.invokevirtual 186, 3) := by decide +kernel
theorem dX9_moves_80 : decode cX9_moves 80 = .ok (.ifCond .eq 31, 3) := by decide +kernel
theorem dX9_moves_83 : decode cX9_moves 83 = .ok (.aload_n 0, 1) := by decide +kernel
theorem dX9_moves_84 : decode cX9_moves 84 = .ok (.invokevirtual 189, 3) := by decide +kernel
theorem dX9_moves_87 : decode cX9_moves 87 = .ok (.lstore 8, 2) := by decide +kernel
theorem dX9_moves_89 : decode cX9_moves 89 = .ok (.lload_n 2, 1) := by decide +kernel
theorem dX9_moves_90 : decode cX9_moves 90 = .ok (.lload 8, 2) := by decide +kernel
theorem dX9_moves_92 : decode cX9_moves 92 = .ok (.ladd, 1) := by decide +kernel
theorem dX9_moves_93 : decode cX9_moves 93 = .ok (.lstore_n 2, 1) := by decide +kernel
theorem dX9_moves_94 : decode cX9_moves 94 = .ok (.aload_n 0, 1) := by decide +kernel
theorem dX9_moves_95 : decode cX9_moves 95 = .ok (.iload_n 1, 1) := by decide +kernel
theorem dX9_moves_96 : decode cX9_moves 96 = .ok (.invokevirtual 183, 3) := by decide +kernel
theorem dX9_moves_99 : decode cX9_moves 99 = .ok (.iload 7, 2) := by decide +kernel
theorem dX9_moves_101 : decode cX9_moves 101 = .ok (.if_icmp .le 10, 3) := by decide +kernel
theorem dX9_moves_104 : decode cX9_moves 104 = .ok (.lload 4, 2) := by decide +kernel
theorem dX9_moves_106 : decode cX9_moves 106 = .ok (.lload 8, 2) := by decide +kernel
theorem dX9_moves_108 : decode cX9_moves 108 = .ok (.ladd, 1) := by decide +kernel
theorem dX9_moves_109 : decode cX9_moves 109 = .ok (.lstore 4, 2) := by decide +kernel
theorem dX9_moves_111 : decode cX9_moves 111 = .ok (.aload_n 0, 1) := by decide +kernel
theorem dX9_moves_112 : decode cX9_moves 112 = .ok (.invokevirtual 193, 3) := by decide +kernel
theorem dX9_moves_115 : decode cX9_moves 115 = .ok (.istore 6, 2) := by decide +kernel
theorem dX9_moves_117 : decode cX9_moves 117 = .ok (.goto (-53), 3) := by decide +kernel
theorem dX9_moves_120 : decode cX9_moves 120 = .ok (.lload_n 2, 1) := by decide +kernel
theorem dX9_moves_121 : decode cX9_moves 121 = .ok (.lconst 0, 1) := by decide +kernel
theorem dX9_moves_122 : decode cX9_moves 122 = .ok (.lcmp, 1) := by decide +kernel
theorem dX9_moves_123 : decode cX9_moves 123 = .ok (.ifCond .ne 10, 3) := by decide +kernel
theorem dX9_moves_126 : decode cX9_moves 126 = .ok (.aload_n 0, 1) := by decide +kernel
theorem dX9_moves_127 : decode cX9_moves 127 = .ok (.bipush 10, 2) := by decide +kernel
theorem dX9_moves_129 : decode cX9_moves 129 = .ok (.invokevirtual 101, 3) := by decide +kernel
theorem dX9_moves_132 : decode cX9_moves 132 = .ok (.ireturn, 1) := by decide +kernel
theorem dX9_moves_133 : decode cX9_moves 133 = .ok (.aload_n 0, 1) := by decide +kernel
theorem dX9_moves_134 : decode cX9_moves 134 = .ok (.lload 4, 2) := by decide +kernel
theorem dX9_moves_136 : decode cX9_moves 136 = .ok (.lload_n 2, 1) := by decide +kernel
theorem dX9_moves_137 : decode cX9_moves 137 = .ok (.invokevirtual 200, 3) := by decide +kernel
theorem dX9_moves_140 : decode cX9_moves 140 = .ok (.pop, 1) := by decide +kernel
theorem dX9_moves_141 : decode cX9_moves 141 = .ok (.iconst 1, 1) := by decide +kernel
theorem dX9_moves_142 : decode cX9_moves 142 = .ok (.ireturn, 1) := by decide +kernel
theorem dX9_end_0 : decode cX9_end 0 = .ok (.aload_n 0, 1) := by decide +kernel
theorem dX9_end_1 : decode cX9_end 1 = .ok (.iconst 0, 1) := by decide +kernel
theorem dX9_end_2 : decode cX9_end 2 = .ok (.putfield 95, 3) := by decide +kernel
theorem dX9_end_5 : decode cX9_end 5 = .ok (.aload_n 0, 1) := by decide +kernel
theorem dX9_end_6 : decode cX9_end 6 = .ok (.iconst 0, 1) := by decide +kernel
theorem dX9_end_7 : decode cX9_end 7 = .ok (.putfield 98, 3) := by decide +kernel
theorem dX9_end_10 : decode cX9_end 10 = .ok (.aload_n 0, 1) := by decide +kernel
theorem dX9_end_11 : decode cX9_end 11 = .ok (.iload_n 1, 1) := by decide +kernel
theorem dX9_end_12 : decode cX9_end 12 = .ok (.invokevirtual 142, 3) := by decide +kernel
theorem dX9_end_15 : decode cX9_end 15 = .ok (.ifCond .ne 9, 3) := by decide +kernel
theorem dX9_end_18 : decode cX9_end 18 = .ok (.aload_n 0, 1) := by decide +kernel
theorem dX9_end_19 : decode cX9_end 19 = .ok (.iconst 2, 1) := by decide +kernel
theorem dX9_end_20 : decode cX9_end 20 = .ok (.invokevirtual 101, 3) := by decide +kernel
theorem dX9_end_23 : decode cX9_end 23 = .ok (.ireturn, 1) := by decide +kernel
theorem dX9_end_24 : decode cX9_end 24 = .ok (.iload_n 2, 1) := by decide +kernel
theorem dX9_end_25 : decode cX9_end 25 = .ok (.iconst (-1), 1) := by decide +kernel
theorem dX9_end_26 : decode cX9_end 26 = .ok (.if_icmp .lt 10, 3) := by decide +kernel
theorem dX9_end_29 : decode cX9_end 29 = .ok (.iload_n 2, 1) := by decide +kernel
theorem dX9_end_30 : decode cX9_end 30 = .ok (.sipush 9999, 3) := by decide +kernel
theorem dX9_end_33 : decode cX9_end 33 = .ok (.if_icmp .le 9, 3) := by decide +kernel
theorem dX9_end_36 : decode cX9_end 36 = .ok (.aload_n 0, 1) := by decide +kernel
theorem dX9_end_37 : decode cX9_end 37 = .ok (.iconst 5, 1) := by decide +kernel
theorem dX9_end_38 : decode cX9_end 38 = .ok (.invokevirtual 101, 3) := by decide +kernel
theorem dX9_end_41 : decode cX9_end 41 = .ok (.ireturn, 1) := by decide +kernel
theorem dX9_end_42 : decode cX9_end 42 = .ok (.aload_n 0, 1) := by decide +kernel
theorem dX9_end_43 : decode cX9_end 43 = .ok (.getfield 40, 3) := by decide +kernel
theorem dX9_end_46 : decode cX9_end 46 = .ok (.iload_n 1, 1) := by decide +kernel
theorem dX9_end_47 : decode cX9_end 47 = .ok (.iload_n 2, 1) := by decide +kernel
theorem dX9_end_48 : decode cX9_end 48 = .ok (.iastore, 1) := by decide +kernel
theorem dX9_end_49 : decode cX9_end 49 = .ok (.iconst 1, 1) := by decide +kernel
theorem dX9_end_50 : decode cX9_end 50 = .ok (.ireturn, 1) := by decide +kernel
theorem dX9_today_0 : decode cX9_today 0 = .ok (.aload_n 0, 1) := by decide +kernel
theorem dX9_today_1 : decode cX9_today 1 = .ok (.iconst 0, 1) := by decide +kernel
theorem dX9_today_2 : decode cX9_today 2 = .ok (.putfield 95, 3) := by decide +kernel
theorem dX9_today_5 : decode cX9_today 5 = .ok (.aload_n 0, 1) := by decide +kernel
theorem dX9_today_6 : decode cX9_today 6 = .ok (.iconst 0, 1) := by decide +kernel
theorem dX9_today_7 : decode cX9_today 7 = .ok (.putfield 98, 3) := by decide +kernel
theorem dX9_today_10 : decode cX9_today 10 = .ok (.iload_n 1, 1) := by decide +kernel
theorem dX9_today_11 : decode cX9_today 11 = .ok (.iconst (-1), 1) := by decide +kernel
theorem dX9_today_12 : decode cX9_today 12 = .ok (.if_icmp .lt 10, 3) := by decide +kernel
theorem dX9_today_15 : decode cX9_today 15 = .ok (.iload_n 1, 1) := by decide +kernel
theorem dX9_today_16 : decode cX9_today 16 = .ok (.sipush 9999, 3) := by decide +kernel
theorem dX9_today_19 : decode cX9_today 19 = .ok (.if_icmp .le 9, 3) := by decide +kernel
theorem dX9_today_22 : decode cX9_today 22 = .ok (.aload_n 0, 1) := by decide +kernel
theorem dX9_today_23 : decode cX9_today 23 = .ok (.iconst 5, 1) := by decide +kernel
theorem dX9_today_24 : decode cX9_today 24 = .ok (.invokevirtual 101, 3) := by decide +kernel
theorem dX9_today_27 : decode cX9_today 27 = .ok (.ireturn, 1) := by decide +kernel
theorem dX9_today_28 : decode cX9_today 28 = .ok (.aload_n 0, 1) := by decide +kernel
theorem dX9_today_29 : decode cX9_today 29 = .ok (.iload_n 1, 1) := by decide +kernel
theorem dX9_today_30 : decode cX9_today 30 = .ok (.putfield 28, 3) := by decide +kernel
theorem dX9_today_33 : decode cX9_today 33 = .ok (.iconst 1, 1) := by decide +kernel
theorem dX9_today_34 : decode cX9_today 34 = .ok (.ireturn, 1) := by decide +kernel
theorem dX9_stepOf_0 : decode cX9_stepOf 0 = .ok (.iload_n 0, 1) := by decide +kernel
theorem dX9_stepOf_1 : decode cX9_stepOf 1 = .ok (.iload_n 1, 1) := by decide +kernel
theorem dX9_stepOf_2 : decode cX9_stepOf 2 = .ok (.if_icmp .ne 8, 3) := by decide +kernel
theorem dX9_stepOf_5 : decode cX9_stepOf 5 = .ok (.bipush 9, 2) := by decide +kernel
theorem dX9_stepOf_7 : decode cX9_stepOf 7 = .ok (.goto 9, 3) := by decide +kernel
theorem dX9_stepOf_10 : decode cX9_stepOf 10 = .ok (.bipush 10, 2) := by decide +kernel
theorem dX9_stepOf_12 : decode cX9_stepOf 12 = .ok (.iload_n 0, 1) := by decide +kernel
theorem dX9_stepOf_13 : decode cX9_stepOf 13 = .ok (.imul, 1) := by decide +kernel
theorem dX9_stepOf_14 : decode cX9_stepOf 14 = .ok (.iload_n 1, 1) := by decide +kernel
theorem dX9_stepOf_15 : decode cX9_stepOf 15 = .ok (.idiv, 1) := by decide +kernel
theorem dX9_stepOf_16 : decode cX9_stepOf 16 = .ok (.ireturn, 1) := by decide +kernel
theorem dX9_telling_0 : decode cX9_telling 0 = .ok (.aload_n 0, 1) := by decide +kernel
theorem dX9_telling_1 : decode cX9_telling 1 = .ok (.iconst 0, 1) := by decide +kernel
theorem dX9_telling_2 : decode cX9_telling 2 = .ok (.putfield 95, 3) := by decide +kernel
theorem dX9_telling_5 : decode cX9_telling 5 = .ok (.aload_n 0, 1) := by decide +kernel
theorem dX9_telling_6 : decode cX9_telling 6 = .ok (.iconst 0, 1) := by decide +kernel
theorem dX9_telling_7 : decode cX9_telling 7 = .ok (.putfield 98, 3) := by decide +kernel
theorem dX9_telling_10 : decode cX9_telling 10 = .ok (.iload_n 2, 1) := by decide +kernel
theorem dX9_telling_11 : decode cX9_telling 11 = .ok (.iconst 1, 1) := by decide +kernel
theorem dX9_telling_12 : decode cX9_telling 12 = .ok (.if_icmp .lt 19, 3) := by decide +kernel
theorem dX9_telling_15 : decode cX9_telling 15 = .ok (.iload_n 2, 1) := by decide +kernel
theorem dX9_telling_16 : decode cX9_telling 16 = .ok (.sipush 1000, 3) := by decide +kernel
theorem dX9_telling_19 : decode cX9_telling 19 = .ok (.if_icmp .gt 12, 3) := by decide +kernel
theorem dX9_telling_22 : decode cX9_telling 22 = .ok (.iload_n 1, 1) := by decide +kernel
theorem dX9_telling_23 : decode cX9_telling 23 = .ok (.ifCond .lt 8, 3) := by decide +kernel
theorem dX9_telling_26 : decode cX9_telling 26 = .ok (.iload_n 1, 1) := by decide +kernel
theorem dX9_telling_27 : decode cX9_telling 27 = .ok (.iload_n 2, 1) := by decide +kernel
theorem dX9_telling_28 : decode cX9_telling 28 = .ok (.if_icmp .le 9, 3) := by decide +kernel
theorem dX9_telling_31 : decode cX9_telling 31 = .ok (.aload_n 0, 1) := by decide +kernel
theorem dX9_telling_32 : decode cX9_telling 32 = .ok (.iconst 5, 1) := by decide +kernel
theorem dX9_telling_33 : decode cX9_telling 33 = .ok (.invokevirtual 101, 3) := by decide +kernel
theorem dX9_telling_36 : decode cX9_telling 36 = .ok (.ireturn, 1) := by decide +kernel
theorem dX9_telling_37 : decode cX9_telling 37 = .ok (.aload_n 0, 1) := by decide +kernel
theorem dX9_telling_38 : decode cX9_telling 38 = .ok (.getfield 232, 3) := by decide +kernel
theorem dX9_telling_41 : decode cX9_telling 41 = .ok (.sipush 1000, 3) := by decide +kernel
theorem dX9_telling_44 : decode cX9_telling 44 = .ok (.if_icmp .ne 10, 3) := by decide +kernel
theorem dX9_telling_47 : decode cX9_telling 47 = .ok (.aload_n 0, 1) := by decide +kernel
theorem dX9_telling_48 : decode cX9_telling 48 = .ok (.bipush 7, 2) := by decide +kernel
theorem dX9_telling_50 : decode cX9_telling 50 = .ok (.invokevirtual 101, 3) := by decide +kernel
theorem dX9_telling_53 : decode cX9_telling 53 = .ok (.ireturn, 1) := by decide +kernel
theorem dX9_telling_54 : decode cX9_telling 54 = .ok (.aload_n 0, 1) := by decide +kernel
theorem dX9_telling_55 : decode cX9_telling 55 = .ok (.getfield 80, 3) := by decide +kernel
theorem dX9_telling_58 : decode cX9_telling 58 = .ok (.aload_n 0, 1) := by decide +kernel
theorem dX9_telling_59 : decode cX9_telling 59 = .ok (.getfield 232, 3) := by decide +kernel
theorem dX9_telling_62 : decode cX9_telling 62 = .ok (.iload_n 1, 1) := by decide +kernel
theorem dX9_telling_63 : decode cX9_telling 63 = .ok (.iastore, 1) := by decide +kernel
theorem dX9_telling_64 : decode cX9_telling 64 = .ok (.aload_n 0, 1) := by decide +kernel
theorem dX9_telling_65 : decode cX9_telling 65 = .ok (.getfield 83, 3) := by decide +kernel
theorem dX9_telling_68 : decode cX9_telling 68 = .ok (.aload_n 0, 1) := by decide +kernel
theorem dX9_telling_69 : decode cX9_telling 69 = .ok (.getfield 232, 3) := by decide +kernel
theorem dX9_telling_72 : decode cX9_telling 72 = .ok (.iload_n 2, 1) := by decide +kernel
theorem dX9_telling_73 : decode cX9_telling 73 = .ok (.iastore, 1) := by decide +kernel
theorem dX9_telling_74 : decode cX9_telling 74 = .ok (.aload_n 0, 1) := by decide +kernel
theorem dX9_telling_75 : decode cX9_telling 75 = .ok (.getfield 86, 3) := by decide +kernel
theorem dX9_telling_78 : decode cX9_telling 78 = .ok (.aload_n 0, 1) := by decide +kernel
theorem dX9_telling_79 : decode cX9_telling 79 = .ok (.getfield 232, 3) := by decide +kernel
theorem dX9_telling_82 : decode cX9_telling 82 = .ok (.iload_n 3, 1) := by decide +kernel
theorem dX9_telling_83 : decode cX9_telling 83 = .ok (.bastore, 1) := by decide +kernel
theorem dX9_telling_84 : decode cX9_telling 84 = .ok (.aload_n 0, 1) := by decide +kernel
theorem dX9_telling_85 : decode cX9_telling 85 = .ok (.dup, 1) := by decide +kernel
theorem dX9_telling_86 : decode cX9_telling 86 = .ok (.getfield 232, 3) := by decide +kernel
theorem dX9_telling_89 : decode cX9_telling 89 = .ok (.iconst 1, 1) := by decide +kernel
theorem dX9_telling_90 : decode cX9_telling 90 = .ok (.iadd, 1) := by decide +kernel
theorem dX9_telling_91 : decode cX9_telling 91 = .ok (.putfield 232, 3) := by decide +kernel
theorem dX9_telling_94 : decode cX9_telling 94 = .ok (.iconst 1, 1) := by decide +kernel
theorem dX9_telling_95 : decode cX9_telling 95 = .ok (.ireturn, 1) := by decide +kernel
theorem dX9_judged_0 : decode cX9_judged 0 = .ok (.aload_n 0, 1) := by decide +kernel
theorem dX9_judged_1 : decode cX9_judged 1 = .ok (.iconst 0, 1) := by decide +kernel
theorem dX9_judged_2 : decode cX9_judged 2 = .ok (.putfield 95, 3) := by decide +kernel
theorem dX9_judged_5 : decode cX9_judged 5 = .ok (.aload_n 0, 1) := by decide +kernel
theorem dX9_judged_6 : decode cX9_judged 6 = .ok (.iconst 0, 1) := by decide +kernel
theorem dX9_judged_7 : decode cX9_judged 7 = .ok (.putfield 98, 3) := by decide +kernel
theorem dX9_judged_10 : decode cX9_judged 10 = .ok (.iload_n 1, 1) := by decide +kernel
theorem dX9_judged_11 : decode cX9_judged 11 = .ok (.ifCond .lt 9, 3) := by decide +kernel
theorem dX9_judged_14 : decode cX9_judged 14 = .ok (.iload_n 1, 1) := by decide +kernel
theorem dX9_judged_15 : decode cX9_judged 15 = .ok (.bipush 10, 2) := by decide +kernel
theorem dX9_judged_17 : decode cX9_judged 17 = .ok (.if_icmp .lt 9, 3) := by decide +kernel
theorem dX9_judged_20 : decode cX9_judged 20 = .ok (.aload_n 0, 1) := by decide +kernel
theorem dX9_judged_21 : decode cX9_judged 21 = .ok (.iconst 2, 1) := by decide +kernel
theorem dX9_judged_22 : decode cX9_judged 22 = .ok (.invokevirtual 122, 3) := by decide +kernel
theorem dX9_judged_25 : decode cX9_judged 25 = .ok (.ireturn, 1) := by decide +kernel
theorem dX9_judged_26 : decode cX9_judged 26 = .ok (.iload_n 2, 1) := by decide +kernel
theorem dX9_judged_27 : decode cX9_judged 27 = .ok (.ifCond .lt 8, 3) := by decide +kernel
theorem dX9_judged_30 : decode cX9_judged 30 = .ok (.iload_n 2, 1) := by decide +kernel
theorem dX9_judged_31 : decode cX9_judged 31 = .ok (.iconst 1, 1) := by decide +kernel
theorem dX9_judged_32 : decode cX9_judged 32 = .ok (.if_icmp .le 9, 3) := by decide +kernel
theorem dX9_judged_35 : decode cX9_judged 35 = .ok (.aload_n 0, 1) := by decide +kernel
theorem dX9_judged_36 : decode cX9_judged 36 = .ok (.iconst 5, 1) := by decide +kernel
theorem dX9_judged_37 : decode cX9_judged 37 = .ok (.invokevirtual 122, 3) := by decide +kernel
theorem dX9_judged_40 : decode cX9_judged 40 = .ok (.ireturn, 1) := by decide +kernel
theorem dX9_judged_41 : decode cX9_judged 41 = .ok (.iconst 0, 1) := by decide +kernel
theorem dX9_judged_42 : decode cX9_judged 42 = .ok (.istore_n 3, 1) := by decide +kernel
theorem dX9_judged_43 : decode cX9_judged 43 = .ok (.iconst 0, 1) := by decide +kernel
theorem dX9_judged_44 : decode cX9_judged 44 = .ok (.istore 4, 2) := by decide +kernel
theorem dX9_judged_46 : decode cX9_judged 46 = .ok (.iload 4, 2) := by decide +kernel
theorem dX9_judged_48 : decode cX9_judged 48 = .ok (.aload_n 0, 1) := by decide +kernel
theorem dX9_judged_49 : decode cX9_judged 49 = .ok (.getfield 232, 3) := by decide +kernel
theorem dX9_judged_52 : decode cX9_judged 52 = .ok (.if_icmp .ge 52, 3) := by decide +kernel
theorem dX9_judged_55 : decode cX9_judged 55 = .ok (.iload_n 3, 1) := by decide +kernel
theorem dX9_judged_56 : decode cX9_judged 56 = .ok (.aload_n 0, 1) := by decide +kernel
theorem dX9_judged_57 : decode cX9_judged 57 = .ok (.getfield 80, 3) := by decide +kernel
theorem dX9_judged_60 : decode cX9_judged 60 = .ok (.iload 4, 2) := by decide +kernel
theorem dX9_judged_62 : decode cX9_judged 62 = .ok (.iaload, 1) := by decide +kernel
theorem dX9_judged_63 : decode cX9_judged 63 = .ok (.aload_n 0, 1) := by decide +kernel
theorem dX9_judged_64 : decode cX9_judged 64 = .ok (.getfield 83, 3) := by decide +kernel
theorem dX9_judged_67 : decode cX9_judged 67 = .ok (.iload 4, 2) := by decide +kernel
theorem dX9_judged_69 : decode cX9_judged 69 = .ok (.iaload, 1) := by decide +kernel
theorem dX9_judged_70 : decode cX9_judged 70 = .ok (.invokestatic 235, 3) := by decide +kernel
theorem dX9_judged_73 : decode cX9_judged 73 = .ok (.iload_n 1, 1) := by decide +kernel
theorem dX9_judged_74 : decode cX9_judged 74 = .ok (.if_icmp .ne 21, 3) := by decide +kernel
theorem dX9_judged_77 : decode cX9_judged 77 = .ok (.iload_n 2, 1) := by decide +kernel
theorem dX9_judged_78 : decode cX9_judged 78 = .ok (.ifCond .eq 13, 3) := by decide +kernel
theorem dX9_judged_81 : decode cX9_judged 81 = .ok (.aload_n 0, 1) := by decide +kernel
theorem dX9_judged_82 : decode cX9_judged 82 = .ok (.getfield 86, 3) := by decide +kernel
theorem dX9_judged_85 : decode cX9_judged 85 = .ok (.iload 4, 2) := by decide +kernel
theorem dX9_judged_87 : decode cX9_judged 87 = .ok (.baload, 1) := by decide +kernel
theorem dX9_judged_88 : decode cX9_judged 88 = .ok (.ifCond .eq 7, 3) := by decide +kernel
theorem dX9_judged_91 : decode cX9_judged 91 = .ok (.iconst 1, 1) := by decide +kernel
theorem dX9_judged_92 : decode cX9_judged 92 = .ok (.goto 4, 3) := by decide +kernel
theorem dX9_judged_95 : decode cX9_judged 95 = .ok (.iconst 0, 1) := by decide +kernel
theorem dX9_judged_96 : decode cX9_judged 96 = .ok (.iadd, 1) := by decide +kernel
theorem dX9_judged_97 : decode cX9_judged 97 = .ok (.istore_n 3, 1) := by decide +kernel
theorem dX9_judged_98 : decode cX9_judged 98 = .ok (.iinc 4 1, 3) := by decide +kernel
theorem dX9_judged_101 : decode cX9_judged 101 = .ok (.goto (-55), 3) := by decide +kernel
theorem dX9_judged_104 : decode cX9_judged 104 = .ok (.iload_n 3, 1) := by decide +kernel
theorem dX9_judged_105 : decode cX9_judged 105 = .ok (.ireturn, 1) := by decide +kernel
theorem dX9_said_0 : decode cX9_said 0 = .ok (.aload_n 0, 1) := by decide +kernel
theorem dX9_said_1 : decode cX9_said 1 = .ok (.iconst 0, 1) := by decide +kernel
theorem dX9_said_2 : decode cX9_said 2 = .ok (.putfield 95, 3) := by decide +kernel
theorem dX9_said_5 : decode cX9_said 5 = .ok (.aload_n 0, 1) := by decide +kernel
theorem dX9_said_6 : decode cX9_said 6 = .ok (.iconst 0, 1) := by decide +kernel
theorem dX9_said_7 : decode cX9_said 7 = .ok (.putfield 98, 3) := by decide +kernel
theorem dX9_said_10 : decode cX9_said 10 = .ok (.iload_n 1, 1) := by decide +kernel
theorem dX9_said_11 : decode cX9_said 11 = .ok (.ifCond .lt 9, 3) := by decide +kernel
theorem dX9_said_14 : decode cX9_said 14 = .ok (.iload_n 1, 1) := by decide +kernel
theorem dX9_said_15 : decode cX9_said 15 = .ok (.bipush 10, 2) := by decide +kernel
theorem dX9_said_17 : decode cX9_said 17 = .ok (.if_icmp .lt 9, 3) := by decide +kernel
theorem dX9_said_20 : decode cX9_said 20 = .ok (.aload_n 0, 1) := by decide +kernel
theorem dX9_said_21 : decode cX9_said 21 = .ok (.iconst 2, 1) := by decide +kernel
theorem dX9_said_22 : decode cX9_said 22 = .ok (.invokevirtual 101, 3) := by decide +kernel
theorem dX9_said_25 : decode cX9_said 25 = .ok (.ireturn, 1) := by decide +kernel
theorem dX9_said_26 : decode cX9_said 26 = .ok (.lconst 0, 1) := by decide +kernel
theorem dX9_said_27 : decode cX9_said 27 = .ok (.lstore_n 2, 1) := by decide +kernel
theorem dX9_said_28 : decode cX9_said 28 = .ok (.lconst 1, 1) := by decide +kernel
theorem dX9_said_29 : decode cX9_said 29 = .ok (.lstore 4, 2) := by decide +kernel
theorem dX9_said_31 : decode cX9_said 31 = .ok (.iconst 0, 1) := by decide +kernel
theorem dX9_said_32 : decode cX9_said 32 = .ok (.istore 6, 2) := by decide +kernel
theorem dX9_said_34 : decode cX9_said 34 = .ok (.iconst 0, 1) := by decide +kernel
theorem dX9_said_35 : decode cX9_said 35 = .ok (.istore 7, 2) := by decide +kernel
theorem dX9_said_37 : decode cX9_said 37 = .ok (.iload 7, 2) := by decide +kernel
theorem dX9_said_39 : decode cX9_said 39 = .ok (.aload_n 0, 1) := by decide +kernel
theorem dX9_said_40 : decode cX9_said 40 = .ok (.getfield 232, 3) := by decide +kernel
theorem dX9_said_43 : decode cX9_said 43 = .ok (.if_icmp .ge 119, 3) := by decide +kernel
theorem dX9_said_46 : decode cX9_said 46 = .ok (.aload_n 0, 1) := by decide +kernel
theorem dX9_said_47 : decode cX9_said 47 = .ok (.getfield 80, 3) := by decide +kernel
theorem dX9_said_50 : decode cX9_said 50 = .ok (.iload 7, 2) := by decide +kernel
theorem dX9_said_52 : decode cX9_said 52 = .ok (.iaload, 1) := by decide +kernel
theorem dX9_said_53 : decode cX9_said 53 = .ok (.aload_n 0, 1) := by decide +kernel
theorem dX9_said_54 : decode cX9_said 54 = .ok (.getfield 83, 3) := by decide +kernel
theorem dX9_said_57 : decode cX9_said 57 = .ok (.iload 7, 2) := by decide +kernel
theorem dX9_said_59 : decode cX9_said 59 = .ok (.iaload, 1) := by decide +kernel
theorem dX9_said_60 : decode cX9_said 60 = .ok (.invokestatic 235, 3) := by decide +kernel
theorem dX9_said_63 : decode cX9_said 63 = .ok (.iload_n 1, 1) := by decide +kernel
theorem dX9_said_64 : decode cX9_said 64 = .ok (.if_icmp .eq 6, 3) := by decide +kernel
theorem dX9_said_67 : decode cX9_said 67 = .ok (.goto 89, 3) := by decide +kernel
theorem dX9_said_70 : decode cX9_said 70 = .ok (.lload_n 2, 1) := by decide +kernel
theorem dX9_said_71 : decode cX9_said 71 = .ok (.aload_n 0, 1) := by decide +kernel
theorem dX9_said_72 : decode cX9_said 72 = .ok (.getfield 83, 3) := by decide +kernel
theorem dX9_said_75 : decode cX9_said 75 = .ok (.iload 7, 2) := by decide +kernel
theorem dX9_said_77 : decode cX9_said 77 = .ok (.iaload, 1) := by decide +kernel
theorem dX9_said_78 : decode cX9_said 78 = .ok (.i2l, 1) := by decide +kernel
theorem dX9_said_79 : decode cX9_said 79 = .ok (.lmul, 1) := by decide +kernel
theorem dX9_said_80 : decode cX9_said 80 = .ok (.aload_n 0, 1) := by decide +kernel
theorem dX9_said_81 : decode cX9_said 81 = .ok (.getfield 80, 3) := by decide +kernel
theorem dX9_said_84 : decode cX9_said 84 = .ok (.iload 7, 2) := by decide +kernel
theorem dX9_said_86 : decode cX9_said 86 = .ok (.iaload, 1) := by decide +kernel
theorem dX9_said_87 : decode cX9_said 87 = .ok (.i2l, 1) := by decide +kernel
theorem dX9_said_88 : decode cX9_said 88 = .ok (.lload 4, 2) := by decide +kernel
theorem dX9_said_90 : decode cX9_said 90 = .ok (.lmul, 1) := by decide +kernel
theorem dX9_said_91 : decode cX9_said 91 = .ok (.ladd, 1) := by decide +kernel
theorem dX9_said_92 : decode cX9_said 92 = .ok (.lstore 8, 2) := by decide +kernel
theorem dX9_said_94 : decode cX9_said 94 = .ok (.lload 4, 2) := by decide +kernel
theorem dX9_said_96 : decode cX9_said 96 = .ok (.aload_n 0, 1) := by decide +kernel
theorem dX9_said_97 : decode cX9_said 97 = .ok (.getfield 83, 3) := by decide +kernel
theorem dX9_said_100 : decode cX9_said 100 = .ok (.iload 7, 2) := by decide +kernel
theorem dX9_said_102 : decode cX9_said 102 = .ok (.iaload, 1) := by decide +kernel
theorem dX9_said_103 : decode cX9_said 103 = .ok (.i2l, 1) := by decide +kernel
theorem dX9_said_104 : decode cX9_said 104 = .ok (.lmul, 1) := by decide +kernel
theorem dX9_said_105 : decode cX9_said 105 = .ok (.lstore 10, 2) := by decide +kernel
theorem dX9_said_107 : decode cX9_said 107 = .ok (.lload 8, 2) := by decide +kernel
theorem dX9_said_109 : decode cX9_said 109 = .ok (.lload 10, 2) := by decide +kernel
theorem dX9_said_111 : decode cX9_said 111 = .ok (.invokestatic 125, 3) := by decide +kernel
theorem dX9_said_114 : decode cX9_said 114 = .ok (.lstore 12, 2) := by decide +kernel
theorem dX9_said_116 : decode cX9_said 116 = .ok (.lload 8, 2) := by decide +kernel
theorem dX9_said_118 : decode cX9_said 118 = .ok (.lload 12, 2) := by decide +kernel
theorem dX9_said_120 : decode cX9_said 120 = .ok (.ldiv, 1) := by decide +kernel
theorem dX9_said_121 : decode cX9_said 121 = .ok (.lstore_n 2, 1) := by decide +kernel
theorem dX9_said_122 : decode cX9_said 122 = .ok (.lload 10, 2) := by decide +kernel
theorem dX9_said_124 : decode cX9_said 124 = .ok (.lload 12, 2) := by decide +kernel
theorem dX9_said_126 : decode cX9_said 126 = .ok (.ldiv, 1) := by decide +kernel
theorem dX9_said_127 : decode cX9_said 127 = .ok (.lstore 4, 2) := by decide +kernel
theorem dX9_said_129 : decode cX9_said 129 = .ok (.iinc 6 1, 3) := by decide +kernel
theorem dX9_said_132 : decode cX9_said 132 = .ok (.lload_n 2, 1) := by decide +kernel
theorem dX9_said_133 : decode cX9_said 133 = .ok (.ldc2_w 238, 3) := by decide +kernel
theorem dX9_said_136 : decode cX9_said 136 = .ok (.lcmp, 1) := by decide +kernel
theorem dX9_said_137 : decode cX9_said 137 = .ok (.ifCond .gt 12, 3) := by decide +kernel
theorem dX9_said_140 : decode cX9_said 140 = .ok (.lload 4, 2) := by decide +kernel
theorem dX9_said_142 : decode cX9_said 142 = .ok (.ldc2_w 238, 3) := by decide +kernel
theorem dX9_said_145 : decode cX9_said 145 = .ok (.lcmp, 1) := by decide +kernel
theorem dX9_said_146 : decode cX9_said 146 = .ok (.ifCond .le 10, 3) := by decide +kernel
theorem dX9_said_149 : decode cX9_said 149 = .ok (.aload_n 0, 1) := by decide +kernel
theorem dX9_said_150 : decode cX9_said 150 = .ok (.bipush 9, 2) := by decide +kernel
theorem dX9_said_152 : decode cX9_said 152 = .ok (.invokevirtual 101, 3) := by decide +kernel
theorem dX9_said_155 : decode cX9_said 155 = .ok (.ireturn, 1) := by decide +kernel
theorem dX9_said_156 : decode cX9_said 156 = .ok (.iinc 7 1, 3) := by decide +kernel
theorem dX9_said_159 : decode cX9_said 159 = .ok (.goto (-122), 3) := by decide +kernel
theorem dX9_said_162 : decode cX9_said 162 = .ok (.iload 6, 2) := by decide +kernel
theorem dX9_said_164 : decode cX9_said 164 = .ok (.ifCond .ne 9, 3) := by decide +kernel
theorem dX9_said_167 : decode cX9_said 167 = .ok (.aload_n 0, 1) := by decide +kernel
theorem dX9_said_168 : decode cX9_said 168 = .ok (.iconst 5, 1) := by decide +kernel
theorem dX9_said_169 : decode cX9_said 169 = .ok (.invokevirtual 101, 3) := by decide +kernel
theorem dX9_said_172 : decode cX9_said 172 = .ok (.ireturn, 1) := by decide +kernel
theorem dX9_said_173 : decode cX9_said 173 = .ok (.aload_n 0, 1) := by decide +kernel
theorem dX9_said_174 : decode cX9_said 174 = .ok (.lload_n 2, 1) := by decide +kernel
theorem dX9_said_175 : decode cX9_said 175 = .ok (.lload 4, 2) := by decide +kernel
theorem dX9_said_177 : decode cX9_said 177 = .ok (.iload 6, 2) := by decide +kernel
theorem dX9_said_179 : decode cX9_said 179 = .ok (.i2l, 1) := by decide +kernel
theorem dX9_said_180 : decode cX9_said 180 = .ok (.lmul, 1) := by decide +kernel
theorem dX9_said_181 : decode cX9_said 181 = .ok (.invokevirtual 200, 3) := by decide +kernel
theorem dX9_said_184 : decode cX9_said 184 = .ok (.pop, 1) := by decide +kernel
theorem dX9_said_185 : decode cX9_said 185 = .ok (.iconst 1, 1) := by decide +kernel
theorem dX9_said_186 : decode cX9_said 186 = .ok (.ireturn, 1) := by decide +kernel
end
section
/-! CORE: the memory of whole numbers, the worlds that it spells, the judgement GG and the contracts Ctr -/
abbrev Mem : Type := Nat → Nat → Nat → Int
abbrev Adr : Type := Nat → Nat → Nat
def w32 (x : Int) : Int := (Int32.ofInt x).toInt
def w64 (x : Int) : Int := (Int64.ofInt x).toInt
theorem w32_id {x : Int} (h1 : -2147483648 ≤ x) (h2 : x ≤ 2147483647) : w32 x = x := Int32.toInt_ofInt_of_le h1 (by omega)
theorem w64_id {x : Int} (h1 : -9223372036854775808 ≤ x) (h2 : x ≤ 9223372036854775807) : w64 x = x := Int64.toInt_ofInt_of_le h1 (by omega)
theorem of_w32 (x : Int) : Int32.ofInt (w32 x) = Int32.ofInt x := Int32.ofInt_toInt _
theorem of_w64 (x : Int) : Int64.ofInt (w64 x) = Int64.ofInt x := Int64.ofInt_toInt _
theorem w32_le (x : Int) : w32 x ≤ 2147483647 := by have := Int32.toInt_lt (Int32.ofInt x); unfold w32; omega
theorem w32_ge (x : Int) : -2147483648 ≤ w32 x := Int32.le_toInt (Int32.ofInt x)
theorem w64_le (x : Int) : w64 x ≤ 9223372036854775807 := by have := Int64.toInt_lt (Int64.ofInt x); unfold w64; omega
theorem w64_ge (x : Int) : -9223372036854775808 ≤ w64 x := Int64.le_toInt (Int64.ofInt x)
theorem w32_w32 (x : Int) : w32 (w32 x) = w32 x := w32_id (w32_ge x) (w32_le x)
theorem w64_w64 (x : Int) : w64 (w64 x) = w64 x := w64_id (w64_ge x) (w64_le x)
theorem w64_w32 (x : Int) : w64 (w32 x) = w32 x := w64_id (by have := w32_ge x; omega) (by have := w32_le x; omega)
def vi (x : Int) : Value := .int (Int32.ofInt x)
def vl (x : Int) : Value := .long (Int64.ofInt x)
abbrev vr (α : Adr) (t i : Nat) : Value := .ref (α t i)
/-- an index of an array -/
def ix (x : Int) : Nat := (w32 x).toNat
abbrev inb (x : Int) (n : Nat) : Prop := 0 ≤ w32 x ∧ w32 x < n
theorem inb_vp {x : Int} {n : Nat} (h : inb x n) : vp_in (Int32.ofInt x) n := vp_in_iff.mpr h
theorem ix_cl (x : Int) : (Int32.ofInt x).toNatClampNeg = ix x := rfl
theorem inb_ix {x : Int} {n : Nat} (h : inb x n) : ix x < n := by have h1 := h.1; have h2 := h.2; unfold ix; omega
/-- what a step of the pure programs is made of -/
def gd {β : Type} (c : Prop) [Decidable c] (k : Option β) : Option β := if c then k else none
def bn {β : Type} (o : Option (Int × Mem)) (k : Int → Mem → Option β) : Option β := match o with
  | none => none
  | some (r, μ) => k r μ
def jn {β γ : Type} (j : β) (b : β → γ) : γ := b j
def FU : Nat := 1000000
theorem gd_some {β : Type} {c : Prop} [Decidable c] {k : Option β} {x : β} (h : gd c k = some x) : c ∧ k = some x := by
  unfold gd at h
  split at h
  · exact ⟨by assumption, h⟩
  · cases h
theorem bn_some {β : Type} {o : Option (Int × Mem)} {k : Int → Mem → Option β} {x : β} (h : bn o k = some x) : ∃ r μ, o = some (r, μ) ∧ k r μ = some x := by
  cases o with
  | none => cases h
  | some q => exact ⟨q.1, q.2, rfl, h⟩
theorem gd_t {β : Type} {c : Prop} [Decidable c] (k : Option β) (h : c) : gd c k = k := if_pos h
theorem bn_t {β : Type} {o : Option (Int × Mem)} {r : Int} {μ : Mem} (k : Int → Mem → Option β) (h : o = some (r, μ)) : bn o k = k r μ := by rw [h]; rfl
/-- one number of one cell -/
def up (f : Nat → Int) (k : Nat) (v : Int) : Nat → Int := fun j => if j = k then v else f j
def st (μ : Mem) (t i k : Nat) (v : Int) : Mem := fun t' i' => if t' = t ∧ i' = i then up (μ t i) k v else μ t' i'
theorem st_at (μ : Mem) (t i k : Nat) (v : Int) : st μ t i k v t i = up (μ t i) k v := if_pos ⟨rfl, rfl⟩
theorem st_ne (μ : Mem) {t i k : Nat} {v : Int} {t' i' : Nat} (h : ¬ (t' = t ∧ i' = i)) : st μ t i k v t' i' = μ t' i' := if_neg h
theorem st_eq (μ : Mem) (t i k : Nat) (v : Int) : st μ t i k v t i k = v := by rw [st_at]; exact if_pos rfl
theorem st_nt (μ : Mem) {t i k : Nat} {v : Int} {t' i' k' : Nat} (h : t' ≠ t) : st μ t i k v t' i' k' = μ t' i' k' := by rw [st_ne μ (fun q => h q.1)]
theorem st_ni (μ : Mem) {t i k : Nat} {v : Int} {t' i' k' : Nat} (h : i' ≠ i) : st μ t i k v t' i' k' = μ t' i' k' := by rw [st_ne μ (fun q => h q.2)]
theorem st_nk (μ : Mem) {t i k : Nat} {v : Int} {t' i' k' : Nat} (h : k' ≠ k) : st μ t i k v t' i' k' = μ t' i' k' := by
  unfold st
  split
  · next q => obtain ⟨rfl, rfl⟩ := q; exact if_neg h
  · rfl
end
section
/-! SHAPE (by program): what cell each label is -/
def ec (Y : Nat → ClassId) (α : Adr) (n : Nat) (t i : Nat) (f : Nat → Int) : va_E := match t with
  | 0 => .inr (8, [vi (f 0), vr α 1 0, vr α 1 1, vr α 1 2, vr α 2 0, vr α 5 0, vr α 7 0, vr α 15 0, vr α 23 0])
  | 1 => .inr (0, [vl (f 0), vl (f 1)])
  | 2 => .inl (Y 5, 4, .inr (.inr (.inr (.inr (fun k => if k < 4 then some (α 3 k) else none)))))
  | 3 => .inr (5, [vr α 4 i, vi (f 1), vi (f 2)])
  | 4 => .inl (Y 1, 40, .inr (.inl (fun j => Int64.ofInt (f j))))
  | 5 => .inr (3, [vr α 6 0])
  | 6 => .inl (Y 1, 199, .inr (.inl (fun j => Int64.ofInt (f j))))
  | 7 => .inr (6, [vr α 11 0, vr α 15 0, vr α 8 0, vr α 9 0, vr α 10 0, vi (f 5), vi (f 6), vi (f 7), vl (f 8), vl (f 9)])
  | 8 => .inl (Y 0, 4951, .inl (fun j => Int32.ofInt (f j)))
  | 9 => .inl (Y 0, n, .inl (fun j => Int32.ofInt (f j)))
  | 10 => .inl (Y 0, n, .inl (fun j => Int32.ofInt (f j)))
  | 11 => .inr (2, [vr α 15 0, vr α 12 0, vr α 13 0, vr α 14 0, vi (f 4), vi (f 5), vi (f 6), vi (f 7), vi (f 8)])
  | 12 => .inl (Y 0, 10, .inl (fun j => Int32.ofInt (f j)))
  | 13 => .inl (Y 0, 10, .inl (fun j => Int32.ofInt (f j)))
  | 14 => .inl (Y 0, 10, .inl (fun j => Int32.ofInt (f j)))
  | 15 => .inr (7, [vr α 16 0, vr α 21 0, vr α 22 0, vi (f 3), vi (f 4), vi (f 5), vi (f 6)])
  | 16 => .inl (Y 4, 10, .inr (.inr (.inr (.inr (fun k => if k < 10 then some (α 17 k) else none)))))
  | 17 => .inr (1, [vr α 18 i, vr α 19 i, vr α 20 i, vi (f 3), vi (f 4), vi (f 5), vi (f 6), vi (f 7)])
  | 18 => .inl (Y 0, 8, .inl (fun j => Int32.ofInt (f j)))
  | 19 => .inl (Y 0, 8, .inl (fun j => Int32.ofInt (f j)))
  | 20 => .inl (Y 0, 4, .inl (fun j => Int32.ofInt (f j)))
  | 21 => .inl (Y 0, 4, .inl (fun j => Int32.ofInt (f j)))
  | 22 => .inl (Y 0, 4, .inl (fun j => Int32.ofInt (f j)))
  | 23 => .inr (4, [vr α 24 0, vr α 25 0, vr α 26 0, vr α 27 0, vi (f 4)])
  | 24 => .inl (Y 0, 10, .inl (fun j => Int32.ofInt (f j)))
  | 25 => .inl (Y 0, 10, .inl (fun j => Int32.ofInt (f j)))
  | 26 => .inl (Y 3, 10, .inr (.inr (.inr (.inr (fun k => if k < 10 then some (α 1 (k + 3)) else none)))))
  | 27 => .inl (Y 2, 10, .inl (fun j => Int32.ofInt (f j)))
  | 30 => .inr (9, [vi (f 0), vi (f 1), vl (f 2), vl (f 3), vr α 31 0, vr α 32 0, vr α 33 0, vi (f 7), vi (f 8), vi (f 9), vi (f 10), vr α 34 0, vr α 35 0, vr α 36 0, vr α 37 0, vr α 38 0, vr α 39 0, vr α 40 0, vr α 41 0, vr α 42 0, vr α 43 0, vr α 44 0, vr α 45 0, vr α 46 0, vr α 47 0, vr α 48 0, vr α 49 0, vi (f 27), vr α 50 0, vr α 51 0, vr α 52 0, vr α 53 0, vr α 54 0, vl (f 33), vl (f 34), vl (f 35), vl (f 36)])
  | 31 => .inl (Y 0, 4, .inl (fun j => Int32.ofInt (f j)))
  | 32 => .inl (Y 0, 4, .inl (fun j => Int32.ofInt (f j)))
  | 33 => .inl (Y 1, 160, .inr (.inl (fun j => Int64.ofInt (f j))))
  | 34 => .inl (Y 0, 10, .inl (fun j => Int32.ofInt (f j)))
  | 35 => .inl (Y 0, 10, .inl (fun j => Int32.ofInt (f j)))
  | 36 => .inl (Y 0, 10, .inl (fun j => Int32.ofInt (f j)))
  | 37 => .inl (Y 0, 10, .inl (fun j => Int32.ofInt (f j)))
  | 38 => .inl (Y 0, 80, .inl (fun j => Int32.ofInt (f j)))
  | 39 => .inl (Y 0, 80, .inl (fun j => Int32.ofInt (f j)))
  | 40 => .inl (Y 0, 40, .inl (fun j => Int32.ofInt (f j)))
  | 41 => .inl (Y 0, 4, .inl (fun j => Int32.ofInt (f j)))
  | 42 => .inl (Y 0, 4, .inl (fun j => Int32.ofInt (f j)))
  | 43 => .inl (Y 1, 300, .inr (.inl (fun j => Int64.ofInt (f j))))
  | 44 => .inl (Y 0, 10, .inl (fun j => Int32.ofInt (f j)))
  | 45 => .inl (Y 0, 10, .inl (fun j => Int32.ofInt (f j)))
  | 46 => .inl (Y 0, 10, .inl (fun j => Int32.ofInt (f j)))
  | 47 => .inl (Y 2, 4, .inl (fun j => Int32.ofInt (f j)))
  | 48 => .inl (Y 1, 6000, .inr (.inl (fun j => Int64.ofInt (f j))))
  | 49 => .inl (Y 1, 6000, .inr (.inl (fun j => Int64.ofInt (f j))))
  | 50 => .inl (Y 0, 1000, .inl (fun j => Int32.ofInt (f j)))
  | 51 => .inl (Y 0, 1000, .inl (fun j => Int32.ofInt (f j)))
  | 52 => .inl (Y 2, 1000, .inl (fun j => Int32.ofInt (f j)))
  | 53 => .inl (Y 2, 10, .inl (fun j => Int32.ofInt (f j)))
  | 54 => .inl (Y 2, 10, .inl (fun j => Int32.ofInt (f j)))
  | _ => .inr (0, [])
theorem ec_0 (Y : Nat → ClassId) (α : Adr) (n i : Nat) (f : Nat → Int) : ec Y α n 0 i f = .inr (8, [vi (f 0), vr α 1 0, vr α 1 1, vr α 1 2, vr α 2 0, vr α 5 0, vr α 7 0, vr α 15 0, vr α 23 0]) := rfl
theorem ec_1 (Y : Nat → ClassId) (α : Adr) (n i : Nat) (f : Nat → Int) : ec Y α n 1 i f = .inr (0, [vl (f 0), vl (f 1)]) := rfl
theorem ec_2 (Y : Nat → ClassId) (α : Adr) (n i : Nat) (f : Nat → Int) : ec Y α n 2 i f = .inl (Y 5, 4, .inr (.inr (.inr (.inr (fun k => if k < 4 then some (α 3 k) else none))))) := rfl
theorem ec_3 (Y : Nat → ClassId) (α : Adr) (n i : Nat) (f : Nat → Int) : ec Y α n 3 i f = .inr (5, [vr α 4 i, vi (f 1), vi (f 2)]) := rfl
theorem ec_4 (Y : Nat → ClassId) (α : Adr) (n i : Nat) (f : Nat → Int) : ec Y α n 4 i f = .inl (Y 1, 40, .inr (.inl (fun j => Int64.ofInt (f j)))) := rfl
theorem ec_5 (Y : Nat → ClassId) (α : Adr) (n i : Nat) (f : Nat → Int) : ec Y α n 5 i f = .inr (3, [vr α 6 0]) := rfl
theorem ec_6 (Y : Nat → ClassId) (α : Adr) (n i : Nat) (f : Nat → Int) : ec Y α n 6 i f = .inl (Y 1, 199, .inr (.inl (fun j => Int64.ofInt (f j)))) := rfl
theorem ec_7 (Y : Nat → ClassId) (α : Adr) (n i : Nat) (f : Nat → Int) : ec Y α n 7 i f = .inr (6, [vr α 11 0, vr α 15 0, vr α 8 0, vr α 9 0, vr α 10 0, vi (f 5), vi (f 6), vi (f 7), vl (f 8), vl (f 9)]) := rfl
theorem ec_8 (Y : Nat → ClassId) (α : Adr) (n i : Nat) (f : Nat → Int) : ec Y α n 8 i f = .inl (Y 0, 4951, .inl (fun j => Int32.ofInt (f j))) := rfl
theorem ec_9 (Y : Nat → ClassId) (α : Adr) (n i : Nat) (f : Nat → Int) : ec Y α n 9 i f = .inl (Y 0, n, .inl (fun j => Int32.ofInt (f j))) := rfl
theorem ec_10 (Y : Nat → ClassId) (α : Adr) (n i : Nat) (f : Nat → Int) : ec Y α n 10 i f = .inl (Y 0, n, .inl (fun j => Int32.ofInt (f j))) := rfl
theorem ec_11 (Y : Nat → ClassId) (α : Adr) (n i : Nat) (f : Nat → Int) : ec Y α n 11 i f = .inr (2, [vr α 15 0, vr α 12 0, vr α 13 0, vr α 14 0, vi (f 4), vi (f 5), vi (f 6), vi (f 7), vi (f 8)]) := rfl
theorem ec_12 (Y : Nat → ClassId) (α : Adr) (n i : Nat) (f : Nat → Int) : ec Y α n 12 i f = .inl (Y 0, 10, .inl (fun j => Int32.ofInt (f j))) := rfl
theorem ec_13 (Y : Nat → ClassId) (α : Adr) (n i : Nat) (f : Nat → Int) : ec Y α n 13 i f = .inl (Y 0, 10, .inl (fun j => Int32.ofInt (f j))) := rfl
theorem ec_14 (Y : Nat → ClassId) (α : Adr) (n i : Nat) (f : Nat → Int) : ec Y α n 14 i f = .inl (Y 0, 10, .inl (fun j => Int32.ofInt (f j))) := rfl
theorem ec_15 (Y : Nat → ClassId) (α : Adr) (n i : Nat) (f : Nat → Int) : ec Y α n 15 i f = .inr (7, [vr α 16 0, vr α 21 0, vr α 22 0, vi (f 3), vi (f 4), vi (f 5), vi (f 6)]) := rfl
theorem ec_16 (Y : Nat → ClassId) (α : Adr) (n i : Nat) (f : Nat → Int) : ec Y α n 16 i f = .inl (Y 4, 10, .inr (.inr (.inr (.inr (fun k => if k < 10 then some (α 17 k) else none))))) := rfl
theorem ec_17 (Y : Nat → ClassId) (α : Adr) (n i : Nat) (f : Nat → Int) : ec Y α n 17 i f = .inr (1, [vr α 18 i, vr α 19 i, vr α 20 i, vi (f 3), vi (f 4), vi (f 5), vi (f 6), vi (f 7)]) := rfl
theorem ec_18 (Y : Nat → ClassId) (α : Adr) (n i : Nat) (f : Nat → Int) : ec Y α n 18 i f = .inl (Y 0, 8, .inl (fun j => Int32.ofInt (f j))) := rfl
theorem ec_19 (Y : Nat → ClassId) (α : Adr) (n i : Nat) (f : Nat → Int) : ec Y α n 19 i f = .inl (Y 0, 8, .inl (fun j => Int32.ofInt (f j))) := rfl
theorem ec_20 (Y : Nat → ClassId) (α : Adr) (n i : Nat) (f : Nat → Int) : ec Y α n 20 i f = .inl (Y 0, 4, .inl (fun j => Int32.ofInt (f j))) := rfl
theorem ec_21 (Y : Nat → ClassId) (α : Adr) (n i : Nat) (f : Nat → Int) : ec Y α n 21 i f = .inl (Y 0, 4, .inl (fun j => Int32.ofInt (f j))) := rfl
theorem ec_22 (Y : Nat → ClassId) (α : Adr) (n i : Nat) (f : Nat → Int) : ec Y α n 22 i f = .inl (Y 0, 4, .inl (fun j => Int32.ofInt (f j))) := rfl
theorem ec_23 (Y : Nat → ClassId) (α : Adr) (n i : Nat) (f : Nat → Int) : ec Y α n 23 i f = .inr (4, [vr α 24 0, vr α 25 0, vr α 26 0, vr α 27 0, vi (f 4)]) := rfl
theorem ec_24 (Y : Nat → ClassId) (α : Adr) (n i : Nat) (f : Nat → Int) : ec Y α n 24 i f = .inl (Y 0, 10, .inl (fun j => Int32.ofInt (f j))) := rfl
theorem ec_25 (Y : Nat → ClassId) (α : Adr) (n i : Nat) (f : Nat → Int) : ec Y α n 25 i f = .inl (Y 0, 10, .inl (fun j => Int32.ofInt (f j))) := rfl
theorem ec_26 (Y : Nat → ClassId) (α : Adr) (n i : Nat) (f : Nat → Int) : ec Y α n 26 i f = .inl (Y 3, 10, .inr (.inr (.inr (.inr (fun k => if k < 10 then some (α 1 (k + 3)) else none))))) := rfl
theorem ec_27 (Y : Nat → ClassId) (α : Adr) (n i : Nat) (f : Nat → Int) : ec Y α n 27 i f = .inl (Y 2, 10, .inl (fun j => Int32.ofInt (f j))) := rfl
theorem ec_30 (Y : Nat → ClassId) (α : Adr) (n i : Nat) (f : Nat → Int) : ec Y α n 30 i f = .inr (9, [vi (f 0), vi (f 1), vl (f 2), vl (f 3), vr α 31 0, vr α 32 0, vr α 33 0, vi (f 7), vi (f 8), vi (f 9), vi (f 10), vr α 34 0, vr α 35 0, vr α 36 0, vr α 37 0, vr α 38 0, vr α 39 0, vr α 40 0, vr α 41 0, vr α 42 0, vr α 43 0, vr α 44 0, vr α 45 0, vr α 46 0, vr α 47 0, vr α 48 0, vr α 49 0, vi (f 27), vr α 50 0, vr α 51 0, vr α 52 0, vr α 53 0, vr α 54 0, vl (f 33), vl (f 34), vl (f 35), vl (f 36)]) := rfl
theorem ec_31 (Y : Nat → ClassId) (α : Adr) (n i : Nat) (f : Nat → Int) : ec Y α n 31 i f = .inl (Y 0, 4, .inl (fun j => Int32.ofInt (f j))) := rfl
theorem ec_32 (Y : Nat → ClassId) (α : Adr) (n i : Nat) (f : Nat → Int) : ec Y α n 32 i f = .inl (Y 0, 4, .inl (fun j => Int32.ofInt (f j))) := rfl
theorem ec_33 (Y : Nat → ClassId) (α : Adr) (n i : Nat) (f : Nat → Int) : ec Y α n 33 i f = .inl (Y 1, 160, .inr (.inl (fun j => Int64.ofInt (f j)))) := rfl
theorem ec_34 (Y : Nat → ClassId) (α : Adr) (n i : Nat) (f : Nat → Int) : ec Y α n 34 i f = .inl (Y 0, 10, .inl (fun j => Int32.ofInt (f j))) := rfl
theorem ec_35 (Y : Nat → ClassId) (α : Adr) (n i : Nat) (f : Nat → Int) : ec Y α n 35 i f = .inl (Y 0, 10, .inl (fun j => Int32.ofInt (f j))) := rfl
theorem ec_36 (Y : Nat → ClassId) (α : Adr) (n i : Nat) (f : Nat → Int) : ec Y α n 36 i f = .inl (Y 0, 10, .inl (fun j => Int32.ofInt (f j))) := rfl
theorem ec_37 (Y : Nat → ClassId) (α : Adr) (n i : Nat) (f : Nat → Int) : ec Y α n 37 i f = .inl (Y 0, 10, .inl (fun j => Int32.ofInt (f j))) := rfl
theorem ec_38 (Y : Nat → ClassId) (α : Adr) (n i : Nat) (f : Nat → Int) : ec Y α n 38 i f = .inl (Y 0, 80, .inl (fun j => Int32.ofInt (f j))) := rfl
theorem ec_39 (Y : Nat → ClassId) (α : Adr) (n i : Nat) (f : Nat → Int) : ec Y α n 39 i f = .inl (Y 0, 80, .inl (fun j => Int32.ofInt (f j))) := rfl
theorem ec_40 (Y : Nat → ClassId) (α : Adr) (n i : Nat) (f : Nat → Int) : ec Y α n 40 i f = .inl (Y 0, 40, .inl (fun j => Int32.ofInt (f j))) := rfl
theorem ec_41 (Y : Nat → ClassId) (α : Adr) (n i : Nat) (f : Nat → Int) : ec Y α n 41 i f = .inl (Y 0, 4, .inl (fun j => Int32.ofInt (f j))) := rfl
theorem ec_42 (Y : Nat → ClassId) (α : Adr) (n i : Nat) (f : Nat → Int) : ec Y α n 42 i f = .inl (Y 0, 4, .inl (fun j => Int32.ofInt (f j))) := rfl
theorem ec_43 (Y : Nat → ClassId) (α : Adr) (n i : Nat) (f : Nat → Int) : ec Y α n 43 i f = .inl (Y 1, 300, .inr (.inl (fun j => Int64.ofInt (f j)))) := rfl
theorem ec_44 (Y : Nat → ClassId) (α : Adr) (n i : Nat) (f : Nat → Int) : ec Y α n 44 i f = .inl (Y 0, 10, .inl (fun j => Int32.ofInt (f j))) := rfl
theorem ec_45 (Y : Nat → ClassId) (α : Adr) (n i : Nat) (f : Nat → Int) : ec Y α n 45 i f = .inl (Y 0, 10, .inl (fun j => Int32.ofInt (f j))) := rfl
theorem ec_46 (Y : Nat → ClassId) (α : Adr) (n i : Nat) (f : Nat → Int) : ec Y α n 46 i f = .inl (Y 0, 10, .inl (fun j => Int32.ofInt (f j))) := rfl
theorem ec_47 (Y : Nat → ClassId) (α : Adr) (n i : Nat) (f : Nat → Int) : ec Y α n 47 i f = .inl (Y 2, 4, .inl (fun j => Int32.ofInt (f j))) := rfl
theorem ec_48 (Y : Nat → ClassId) (α : Adr) (n i : Nat) (f : Nat → Int) : ec Y α n 48 i f = .inl (Y 1, 6000, .inr (.inl (fun j => Int64.ofInt (f j)))) := rfl
theorem ec_49 (Y : Nat → ClassId) (α : Adr) (n i : Nat) (f : Nat → Int) : ec Y α n 49 i f = .inl (Y 1, 6000, .inr (.inl (fun j => Int64.ofInt (f j)))) := rfl
theorem ec_50 (Y : Nat → ClassId) (α : Adr) (n i : Nat) (f : Nat → Int) : ec Y α n 50 i f = .inl (Y 0, 1000, .inl (fun j => Int32.ofInt (f j))) := rfl
theorem ec_51 (Y : Nat → ClassId) (α : Adr) (n i : Nat) (f : Nat → Int) : ec Y α n 51 i f = .inl (Y 0, 1000, .inl (fun j => Int32.ofInt (f j))) := rfl
theorem ec_52 (Y : Nat → ClassId) (α : Adr) (n i : Nat) (f : Nat → Int) : ec Y α n 52 i f = .inl (Y 2, 1000, .inl (fun j => Int32.ofInt (f j))) := rfl
theorem ec_53 (Y : Nat → ClassId) (α : Adr) (n i : Nat) (f : Nat → Int) : ec Y α n 53 i f = .inl (Y 2, 10, .inl (fun j => Int32.ofInt (f j))) := rfl
theorem ec_54 (Y : Nat → ClassId) (α : Adr) (n i : Nat) (f : Nat → Int) : ec Y α n 54 i f = .inl (Y 2, 10, .inl (fun j => Int32.ofInt (f j))) := rfl
def cnt (t : Nat) : Nat := match t with
  | 1 => 13
  | 3 => 4
  | 4 => 4
  | 17 => 10
  | 18 => 10
  | 19 => 10
  | 20 => 10
  | _ => 1
def LBx : List (Nat × Nat) := (List.range 28).flatMap fun t => (List.range (cnt t)).map fun i => (t, i)
def LBm : List (Nat × Nat) := (List.range 25).map fun k => (k + 30, 0)
theorem LBx_nd : LBx.Nodup := by decide +kernel
theorem LBm_nd : LBm.Nodup := by decide +kernel
theorem mem_LBx {t i : Nat} (ht : t < 28) (hi : i < cnt t) : (t, i) ∈ LBx := List.mem_flatMap.mpr ⟨t, List.mem_range.mpr ht, List.mem_map.mpr ⟨i, List.mem_range.mpr hi, rfl⟩⟩
theorem mem_LBm {t : Nat} (h1 : 30 ≤ t) (h2 : t < 55) : (t, 0) ∈ LBm := List.mem_map.mpr ⟨t - 30, List.mem_range.mpr (by omega), by rw [Nat.sub_add_cancel h1]⟩
theorem in_0 : (0, 0) ∈ LBx := mem_LBx (by decide) (by decide)
theorem in_1 {i : Nat} (h : i < 13) : (1, i) ∈ LBx := mem_LBx (by decide) h
theorem in_2 : (2, 0) ∈ LBx := mem_LBx (by decide) (by decide)
theorem in_3 {i : Nat} (h : i < 4) : (3, i) ∈ LBx := mem_LBx (by decide) h
theorem in_4 {i : Nat} (h : i < 4) : (4, i) ∈ LBx := mem_LBx (by decide) h
theorem in_5 : (5, 0) ∈ LBx := mem_LBx (by decide) (by decide)
theorem in_6 : (6, 0) ∈ LBx := mem_LBx (by decide) (by decide)
theorem in_7 : (7, 0) ∈ LBx := mem_LBx (by decide) (by decide)
theorem in_8 : (8, 0) ∈ LBx := mem_LBx (by decide) (by decide)
theorem in_9 : (9, 0) ∈ LBx := mem_LBx (by decide) (by decide)
theorem in_10 : (10, 0) ∈ LBx := mem_LBx (by decide) (by decide)
theorem in_11 : (11, 0) ∈ LBx := mem_LBx (by decide) (by decide)
theorem in_12 : (12, 0) ∈ LBx := mem_LBx (by decide) (by decide)
theorem in_13 : (13, 0) ∈ LBx := mem_LBx (by decide) (by decide)
theorem in_14 : (14, 0) ∈ LBx := mem_LBx (by decide) (by decide)
theorem in_15 : (15, 0) ∈ LBx := mem_LBx (by decide) (by decide)
theorem in_16 : (16, 0) ∈ LBx := mem_LBx (by decide) (by decide)
theorem in_17 {i : Nat} (h : i < 10) : (17, i) ∈ LBx := mem_LBx (by decide) h
theorem in_18 {i : Nat} (h : i < 10) : (18, i) ∈ LBx := mem_LBx (by decide) h
theorem in_19 {i : Nat} (h : i < 10) : (19, i) ∈ LBx := mem_LBx (by decide) h
theorem in_20 {i : Nat} (h : i < 10) : (20, i) ∈ LBx := mem_LBx (by decide) h
theorem in_21 : (21, 0) ∈ LBx := mem_LBx (by decide) (by decide)
theorem in_22 : (22, 0) ∈ LBx := mem_LBx (by decide) (by decide)
theorem in_23 : (23, 0) ∈ LBx := mem_LBx (by decide) (by decide)
theorem in_24 : (24, 0) ∈ LBx := mem_LBx (by decide) (by decide)
theorem in_25 : (25, 0) ∈ LBx := mem_LBx (by decide) (by decide)
theorem in_26 : (26, 0) ∈ LBx := mem_LBx (by decide) (by decide)
theorem in_27 : (27, 0) ∈ LBx := mem_LBx (by decide) (by decide)
theorem in_30 : (30, 0) ∈ LBm := mem_LBm (by decide) (by decide)
theorem in_31 : (31, 0) ∈ LBm := mem_LBm (by decide) (by decide)
theorem in_32 : (32, 0) ∈ LBm := mem_LBm (by decide) (by decide)
theorem in_33 : (33, 0) ∈ LBm := mem_LBm (by decide) (by decide)
theorem in_34 : (34, 0) ∈ LBm := mem_LBm (by decide) (by decide)
theorem in_35 : (35, 0) ∈ LBm := mem_LBm (by decide) (by decide)
theorem in_36 : (36, 0) ∈ LBm := mem_LBm (by decide) (by decide)
theorem in_37 : (37, 0) ∈ LBm := mem_LBm (by decide) (by decide)
theorem in_38 : (38, 0) ∈ LBm := mem_LBm (by decide) (by decide)
theorem in_39 : (39, 0) ∈ LBm := mem_LBm (by decide) (by decide)
theorem in_40 : (40, 0) ∈ LBm := mem_LBm (by decide) (by decide)
theorem in_41 : (41, 0) ∈ LBm := mem_LBm (by decide) (by decide)
theorem in_42 : (42, 0) ∈ LBm := mem_LBm (by decide) (by decide)
theorem in_43 : (43, 0) ∈ LBm := mem_LBm (by decide) (by decide)
theorem in_44 : (44, 0) ∈ LBm := mem_LBm (by decide) (by decide)
theorem in_45 : (45, 0) ∈ LBm := mem_LBm (by decide) (by decide)
theorem in_46 : (46, 0) ∈ LBm := mem_LBm (by decide) (by decide)
theorem in_47 : (47, 0) ∈ LBm := mem_LBm (by decide) (by decide)
theorem in_48 : (48, 0) ∈ LBm := mem_LBm (by decide) (by decide)
theorem in_49 : (49, 0) ∈ LBm := mem_LBm (by decide) (by decide)
theorem in_50 : (50, 0) ∈ LBm := mem_LBm (by decide) (by decide)
theorem in_51 : (51, 0) ∈ LBm := mem_LBm (by decide) (by decide)
theorem in_52 : (52, 0) ∈ LBm := mem_LBm (by decide) (by decide)
theorem in_53 : (53, 0) ∈ LBm := mem_LBm (by decide) (by decide)
theorem in_54 : (54, 0) ∈ LBm := mem_LBm (by decide) (by decide)
end
section
/-! ROWS: the judgement GG, the contracts Ctr, a row an instruction -/
def TB : List Cond := lw_tbl.filter goodWord
theorem TB_of {w : Cond} (h : w ∈ lw_tbl) (g : goodWord w = true) : w ∈ TB := List.mem_filter.mpr ⟨h, g⟩
theorem TB_good : ∀ w ∈ TB, goodWord w = true := fun w h => (List.mem_filter.mp h).2
theorem mt_0 {w : Cond} (h : w ∈ k2_sels lw_privs) (g : goodWord w = true) : w ∈ TB := TB_of (List.mem_append_left _ h) g
theorem mt_1 {w : Cond} (h : w ∈ tables_1_1) (g : goodWord w = true) : w ∈ TB := TB_of (List.mem_append_right _ (List.mem_append_left _ h)) g
theorem mt_2 {w : Cond} (h : w ∈ tables_1_2) (g : goodWord w = true) : w ∈ TB := TB_of (List.mem_append_right _ (List.mem_append_right _ (List.mem_append_left _ h))) g
theorem mt_3 {w : Cond} (h : w ∈ tables_1_3) (g : goodWord w = true) : w ∈ TB := TB_of (List.mem_append_right _ (List.mem_append_right _ (List.mem_append_right _ (List.mem_append_left _ h)))) g
theorem mt_4 {w : Cond} (h : w ∈ tables_1_4) (g : goodWord w = true) : w ∈ TB := TB_of (List.mem_append_right _ (List.mem_append_right _ (List.mem_append_right _ (List.mem_append_right _ (List.mem_append_left _ h))))) g
theorem mt_5 {w : Cond} (h : w ∈ tables_1_5) (g : goodWord w = true) : w ∈ TB := TB_of (List.mem_append_right _ (List.mem_append_right _ (List.mem_append_right _ (List.mem_append_right _ (List.mem_append_right _ h))))) g
def tyl (Y : Nat → ClassId) : List (ClassId × FieldType) := [(Y 0, .int), (Y 1, .long), (Y 2, .boolean), (Y 3, .object RX0), (Y 4, .object RX1), (Y 5, .object RX5)]
def NwOk (U : State) : Prop := va_Nw (.methodLinkNest RX3 38 yX8_commonDivisor RX8) U ∧ va_Nw (.methodLinkNest RX0 16 yX8_commonDivisor RX8) U
theorem NwOk.warm {s U : State} (hW : s.WarmedH U.vm) (h : NwOk s) : NwOk U := ⟨h.1.warmM hW, h.2.warmM hW⟩
theorem NwOk.same {s U : State} (hv : s.vm = U.vm) (h : NwOk s) : NwOk U := ⟨h.1.same rfl hv, h.2.same rfl hv⟩
def wl (Y : Nat → ClassId) (LB : List (Nat × Nat)) (α : Adr) (μ : Mem) : va_W := LB.map fun q => (α q.1 q.2, ec Y α (μ 28 0 0).toNat q.1 q.2 (μ q.1 q.2))
theorem wl_at {Y : Nat → ClassId} {LB : List (Nat × Nat)} {α : Adr} {μ : Mem} {t i : Nat} (h : (t, i) ∈ LB) : ∃ q0 : Nat, (wl Y LB α μ)[q0]? = some (α t i, ec Y α (μ 28 0 0).toNat t i (μ t i)) ∧ LB[q0]? = some (t, i) := by
  obtain ⟨q0, hq⟩ := List.getElem?_of_mem h
  exact ⟨q0, by simp [wl, hq], hq⟩
theorem wl_st {Y : Nat → ClassId} {LB : List (Nat × Nat)} {α : Adr} {μ : Mem} {t i k q0 : Nat} {x : Int} (hnd : LB.Nodup) (ht : t ≠ 28) (hq : LB[q0]? = some (t, i)) : (wl Y LB α μ).set q0 (α t i, ec Y α (μ 28 0 0).toNat t i (up (μ t i) k x)) = wl Y LB α (st μ t i k x) := by
  have h28 : (st μ t i k x) 28 0 0 = μ 28 0 0 := st_nt μ (Ne.symm ht)
  apply List.ext_getElem?
  intro j
  rw [List.getElem?_set]
  by_cases hj : q0 = j
  · subst hj
    have hlt : q0 < LB.length := (List.getElem?_eq_some_iff.mp hq).1
    simp only [wl, List.getElem?_map, hq, h28, List.length_map, hlt, if_true, Option.map_some, st_at]
  · rw [if_neg hj]
    simp only [wl, List.getElem?_map, h28]
    cases hc : LB[j]? with
    | none => rfl
    | some q =>
      have hne : ¬ (q.1 = t ∧ q.2 = i) := by
        rintro ⟨h1, h2⟩
        have hqq : q = (t, i) := by cases q; simp_all
        rw [hqq] at hc
        exact hj ((List.getElem?_inj (List.getElem?_eq_some_iff.mp hq).1 hnd).mp (hq.trans hc.symm))
      simp only [Option.map_some, st_ne μ hne]
def Ar (LB : List (Nat × Nat)) (α : Adr) (sz : Nat) : Nat → Prop := fun q => (∃ w ∈ LB, q = α w.1 w.2) ∨ sz ≤ q
theorem Ar_sub {Y : Nat → ClassId} {LB : List (Nat × Nat)} {α : Adr} {μ : Mem} {A : Nat → Prop} {n k : Nat} (hD : va_D A (wl Y LB α μ)) (hA : ∀ q, n ≤ q → A q) (hn : n ≤ k) : ∀ q, Ar LB α k q → A q := by
  rintro q (⟨w, hw, rfl⟩ | h)
  · obtain ⟨q0, h1, -⟩ := wl_at (Y := Y) (α := α) (μ := μ) (t := w.1) (i := w.2) hw
    exact hD.2 q0 _ h1
  · exact hA q (Nat.le_trans hn h)
theorem Ar_self {Y : Nat → ClassId} {LB : List (Nat × Nat)} {α : Adr} {μ : Mem} {A : Nat → Prop} {k : Nat} (hD : va_D A (wl Y LB α μ)) : va_D (Ar LB α k) (wl Y LB α μ) := by
  refine ⟨hD.1, fun j q hj => Or.inl ?_⟩
  simp only [wl, List.getElem?_map] at hj
  cases hc : LB[j]? with
  | none => rw [hc] at hj; cases hj
  | some w => rw [hc] at hj; cases hj; exact ⟨w, List.mem_of_getElem? hc, rfl⟩
/-- what holds all through a method's body -/
def CX (p : Program) (s : State) (m : MethodId) (args : Array Value) (meth : Method) (c : Code) (cc : ByteArray) (nL : Nat) (own : String) (ret : Option FieldType) (D : va_G) (Y : Nat → ClassId) (LB : List (Nat × Nat)) (A : Nat → Prop) : Prop :=
  p.tables.exec = Jvm.exec ∧ c.code = cc ∧ c.maxLocals = nL ∧ s.vm.findClass own = some m.cls ∧ (∀ w ∈ TB, w.before args s = true) ∧ va_K D vwCl (tyl Y) s ∧ (∀ q, s.heap.size ≤ q → A q) ∧ meth.sig.returnType = ret ∧ meth.locks = false ∧ NwOk s ∧ LB.Nodup
def GG (D : va_G) (Y : Nat → ClassId) (LB : List (Nat × Nat)) (A : Nat → Prop) (p : Program) (l : Launch) (e : Env) (R : Room) (s : State) (m : MethodId) (args : Array Value) (below : List Frame) (meth : Method) (c : Code) (nL : Nat) (Q : State → Prop) (α : Adr) (cells slots : Nat) (lo : List (Nat × Value)) (sk : List Value) (μ : Mem) (pc : Nat) : Prop :=
  ∀ (H : Heap) (locs : List Loc) (ls : Array Slot), va_P D vwCl (wl Y LB α μ) H → va_D A (wl Y LB α μ) → va_S A s.heap H locs → lv_has ls nL lo → W p l e R s m args below meth c H locs cells slots Q (F0 m pc ls sk)
/-- a field's link, with all that the rows ask of it -/
def FL (own : String) (idx ci k : Nat) (ty : FieldType) (fin : Bool) : Prop := ∃ (Cn : String) (T : u_T) (N : Nat) (ty0 : Nat → FieldType), vwCl[ci]? = some (Cn, T, N) ∧ k < N ∧ Cond.fieldLink own idx Cn (T k).2.1 (T k).2.2.1 ∈ TB ∧ (∀ w ∈ u_ws Cn T N, w ∈ TB) ∧ (T k).1 = Cn ∧ parseFieldDescriptor (T k).2.2.1 = some ty ∧ (∀ k, k < N → parseFieldDescriptor (T k).2.2.1 = some (ty0 k)) ∧ (∀ a, a < N → ∀ b, b < N → a ≠ b → (T a).2.1 ≠ (T b).2.1) ∧ (T k).2.2.2 = fin
theorem i_add (x y : Int) : Int32.ofInt (x + y) = Int32.ofInt x + Int32.ofInt y := Int32.ofInt_add x y
theorem i_sub (x y : Int) : Int32.ofInt (x - y) = Int32.ofInt x - Int32.ofInt y := Int32.ofInt_sub x y
theorem i_mul (x y : Int) : Int32.ofInt (x * y) = Int32.ofInt x * Int32.ofInt y := Int32.ofInt_mul x y
theorem l_add (x y : Int) : Int64.ofInt (x + y) = Int64.ofInt x + Int64.ofInt y := Int64.ofInt_add x y
theorem l_sub (x y : Int) : Int64.ofInt (x - y) = Int64.ofInt x - Int64.ofInt y := Int64.ofInt_sub x y
theorem l_mul (x y : Int) : Int64.ofInt (x * y) = Int64.ofInt x * Int64.ofInt y := Int64.ofInt_mul x y
theorem i_eq {x y : Int} : Int32.ofInt x = Int32.ofInt y ↔ w32 x = w32 y := Int32.toInt_inj.symm
theorem i_lt {x y : Int} : Int32.ofInt x < Int32.ofInt y ↔ w32 x < w32 y := Int32.lt_iff_toInt_lt
theorem i_le {x y : Int} : Int32.ofInt x ≤ Int32.ofInt y ↔ w32 x ≤ w32 y := Int32.le_iff_toInt_le
theorem l_eq {x y : Int} : Int64.ofInt x = Int64.ofInt y ↔ w64 x = w64 y := Int64.toInt_inj.symm
theorem l_lt {x y : Int} : Int64.ofInt x < Int64.ofInt y ↔ w64 x < w64 y := Int64.lt_iff_toInt_lt
theorem l_le {x y : Int} : Int64.ofInt x ≤ Int64.ofInt y ↔ w64 x ≤ w64 y := Int64.le_iff_toInt_le
theorem i_0 (x : Int) : Int32.ofInt x = 0 ↔ w32 x = 0 := i_eq (y := 0)
theorem i_lt0 (x : Int) : Int32.ofInt x < 0 ↔ w32 x < 0 := i_lt (y := 0)
theorem i_ge0 (x : Int) : 0 ≤ Int32.ofInt x ↔ 0 ≤ w32 x := i_le (x := 0)
theorem i_gt0 (x : Int) : 0 < Int32.ofInt x ↔ 0 < w32 x := i_lt (x := 0)
theorem i_le0 (x : Int) : Int32.ofInt x ≤ 0 ↔ w32 x ≤ 0 := i_le (y := 0)
theorem l_0 (x : Int) : Int64.ofInt x = 0 ↔ w64 x = 0 := l_eq (y := 0)
theorem i_div (x y : Int) : Int32.ofInt (Int.tdiv (w32 x) (w32 y)) = Int32.ofInt x / Int32.ofInt y := by
  apply Int32.toInt_inj.mp
  rw [Int32.toInt_div, Int32.toInt_ofInt]
  rfl
theorem l_div (x y : Int) : Int64.ofInt (Int.tdiv (w64 x) (w64 y)) = Int64.ofInt x / Int64.ofInt y := by
  apply Int64.toInt_inj.mp
  rw [Int64.toInt_div, Int64.toInt_ofInt]
  rfl
theorem i_rem (x y : Int) : Int32.ofInt (Int.tmod (w32 x) (w32 y)) = Int32.ofInt x - Int32.ofInt x / Int32.ofInt y * Int32.ofInt y := by
  rw [← i_div, ← of_w32 x, ← of_w32 y]
  rw [← i_mul, ← i_sub, Int.tmod_def, Int.mul_comm]
theorem l_rem (x y : Int) : Int64.ofInt (Int.tmod (w64 x) (w64 y)) = Int64.ofInt x - Int64.ofInt x / Int64.ofInt y * Int64.ofInt y := by
  rw [← l_div, ← of_w64 x, ← of_w64 y]
  rw [← l_mul, ← l_sub, Int.tmod_def, Int.mul_comm]
theorem i_2l (x : Int) : (Int32.ofInt x).toInt64 = Int64.ofInt (w32 x) := by
  apply Int64.toInt_inj.mp
  rw [Int32.toInt_toInt64]
  exact (w64_w32 x).symm
theorem l_2i (x : Int) : (Int64.ofInt x).toInt32 = Int32.ofInt x := by
  apply Int32.toInt_inj.mp
  rw [Int64.toInt_toInt32, Int64.toInt_ofInt, Int32.toInt_ofInt]
  exact Int.bmod_bmod_of_dvd (by decide)
def ian (x y : Int) : Int := (Int32.ofInt x &&& Int32.ofInt y).toInt
def ior (x y : Int) : Int := (Int32.ofInt x ||| Int32.ofInt y).toInt
def ixo (x y : Int) : Int := (Int32.ofInt x ^^^ Int32.ofInt y).toInt
def ishl (x y : Int) : Int := (Int32.ofInt x <<< (Int32.ofInt y &&& 31)).toInt
def ishr (x y : Int) : Int := (Int32.ofInt x >>> (Int32.ofInt y &&& 31)).toInt
def iush (x y : Int) : Int := ((Int32.ofInt x).toUInt32 >>> ((Int32.ofInt y).toUInt32 &&& Int32.toUInt32 31)).toInt32.toInt
def i8 (x : Int) : Int := (Int32.ofInt x).toInt8.toInt
def i16 (x : Int) : Int := (Int32.ofInt x).toInt16.toInt
abbrev bb (x : Int) : Prop := x = 0 ∨ x = 1
theorem bb_nar {x : Int} (h : bb x) : narrow .boolean (vi x) = vi x := by
  rcases h with rfl | rfl <;> rfl
theorem bz_nar {x : Int} (h : bb x) : vp_nar .boolean (Int32.ofInt x) = Int32.ofInt x := by
  rcases h with rfl | rfl <;> rfl
theorem i_8 (x : Int) : (Int32.ofInt x).toInt8.toInt32 = Int32.ofInt (i8 x) := by
  apply Int32.toInt_inj.mp
  rw [Int8.toInt_toInt32]
  have h1 := Int8.toInt_lt (Int32.ofInt x).toInt8
  have h2 := Int8.le_toInt (Int32.ofInt x).toInt8
  exact (w32_id (x := (Int32.ofInt x).toInt8.toInt) (by omega) (by omega)).symm
theorem i_16 (x : Int) : (Int32.ofInt x).toInt16.toInt32 = Int32.ofInt (i16 x) := by
  apply Int32.toInt_inj.mp
  rw [Int16.toInt_toInt32]
  have h1 := Int16.toInt_lt (Int32.ofInt x).toInt16
  have h2 := Int16.le_toInt (Int32.ofInt x).toInt16
  exact (w32_id (x := (Int32.ofInt x).toInt16.toInt) (by omega) (by omega)).symm
theorem lc_eq (x y : Int64) : lg_cmp x y = 0 ↔ x = y := by
  unfold lg_cmp
  simp only [gt_iff_lt, Int64.lt_iff_toInt_lt, ← Int64.toInt_inj]
  split
  · constructor
    · intro h; cases h
    · intro h; omega
  · split
    · next h => exact ⟨fun _ => h, fun _ => rfl⟩
    · next h => exact ⟨fun q => (by cases q), fun q => absurd q h⟩
theorem lc_lt (x y : Int64) : lg_cmp x y < 0 ↔ x < y := by
  unfold lg_cmp
  simp only [gt_iff_lt, Int64.lt_iff_toInt_lt, ← Int64.toInt_inj]
  split
  · exact ⟨fun q => absurd q (by decide), fun q => by omega⟩
  · split
    · exact ⟨fun q => absurd q (by decide), fun q => by omega⟩
    · exact ⟨fun _ => by omega, fun _ => by decide⟩
theorem lc_gt (x y : Int64) : 0 < lg_cmp x y ↔ y < x := by
  unfold lg_cmp
  simp only [gt_iff_lt, Int64.lt_iff_toInt_lt, ← Int64.toInt_inj]
  split
  · next h => exact ⟨fun _ => h, fun _ => by decide⟩
  · split
    · exact ⟨fun q => absurd q (by decide), fun q => by omega⟩
    · exact ⟨fun q => absurd q (by decide), fun q => by omega⟩
theorem lc_ge (x y : Int64) : 0 ≤ lg_cmp x y ↔ y ≤ x := lg_cmp_ge x y
theorem lc_le (x y : Int64) : lg_cmp x y ≤ 0 ↔ x ≤ y := by
  unfold lg_cmp
  simp only [gt_iff_lt, Int64.lt_iff_toInt_lt, Int64.le_iff_toInt_le, ← Int64.toInt_inj]
  split
  · exact ⟨fun q => absurd q (by decide), fun q => by omega⟩
  · split
    · exact ⟨fun _ => by omega, fun _ => by decide⟩
    · exact ⟨fun _ => by omega, fun _ => by decide⟩
section ROWS
variable {p : Program} {l : Launch} {e : Env} {R : Room} {s : State} {m : MethodId} {args : Array Value} {below : List Frame} {meth : Method} {c : Code} {Q : State → Prop}
variable {D : va_G} {Y : Nat → ClassId} {LB : List (Nat × Nat)} {A : Nat → Prop} {cc : ByteArray} {nL : Nat} {own : String} {ret : Option FieldType} {α : Adr} {cells slots : Nat} {lo lo' : List (Nat × Value)} {sk : List Value} {μ : Mem} {pc : Nat}
theorem CX.hx (h : CX p s m args meth c cc nL own ret D Y LB A) : p.tables.exec = Jvm.exec := h.1
theorem CX.hb (h : CX p s m args meth c cc nL own ret D Y LB A) : c.code = cc := h.2.1
theorem CX.hml (h : CX p s m args meth c cc nL own ret D Y LB A) : c.maxLocals = nL := h.2.2.1
theorem CX.hown (h : CX p s m args meth c cc nL own ret D Y LB A) : s.vm.findClass own = some m.cls := h.2.2.2.1
theorem CX.hts (h : CX p s m args meth c cc nL own ret D Y LB A) : ∀ w ∈ TB, w.before args s = true := h.2.2.2.2.1
theorem CX.hK (h : CX p s m args meth c cc nL own ret D Y LB A) : va_K D vwCl (tyl Y) s := h.2.2.2.2.2.1
theorem CX.hA (h : CX p s m args meth c cc nL own ret D Y LB A) : ∀ q, s.heap.size ≤ q → A q := h.2.2.2.2.2.2.1
theorem CX.hr (h : CX p s m args meth c cc nL own ret D Y LB A) : meth.sig.returnType = ret := h.2.2.2.2.2.2.2.1
theorem CX.hlk (h : CX p s m args meth c cc nL own ret D Y LB A) : meth.locks = false := h.2.2.2.2.2.2.2.2.1
theorem CX.hnw (h : CX p s m args meth c cc nL own ret D Y LB A) : NwOk s := h.2.2.2.2.2.2.2.2.2.1
theorem CX.hnd (h : CX p s m args meth c cc nL own ret D Y LB A) : LB.Nodup := h.2.2.2.2.2.2.2.2.2.2
theorem g_iconst (C : CX p s m args meth c cc nL own ret D Y LB A) {n : Int} (hd : decode cc pc = .ok (.iconst n, 1)) (k : GG D Y LB A p l e R s m args below meth c nL Q α cells slots lo (vi n :: sk) μ (pc + 1)) : GG D Y LB A p l e R s m args below meth c nL Q α cells slots lo sk μ pc := fun H locs ls hP hD hS hl => lv_iconst C.hx C.hb hd rfl (k H locs ls hP hD hS hl)
theorem g_bipush (C : CX p s m args meth c cc nL own ret D Y LB A) {n : Int} (hv : (Int8.ofInt n).toInt32 = Int32.ofInt n) (hd : decode cc pc = .ok (.bipush n, 2)) (k : GG D Y LB A p l e R s m args below meth c nL Q α cells slots lo (vi n :: sk) μ (pc + 2)) : GG D Y LB A p l e R s m args below meth c nL Q α cells slots lo sk μ pc := fun H locs ls hP hD hS hl => lv_bipush C.hx C.hb hd hv (k H locs ls hP hD hS hl)
theorem g_sipush (C : CX p s m args meth c cc nL own ret D Y LB A) {n : Int} (hv : (Int16.ofInt n).toInt32 = Int32.ofInt n) (hd : decode cc pc = .ok (.sipush n, 3)) (k : GG D Y LB A p l e R s m args below meth c nL Q α cells slots lo (vi n :: sk) μ (pc + 3)) : GG D Y LB A p l e R s m args below meth c nL Q α cells slots lo sk μ pc := fun H locs ls hP hD hS hl => lv_sipush C.hx C.hb hd hv (k H locs ls hP hD hS hl)
theorem g_lconst (C : CX p s m args meth c cc nL own ret D Y LB A) {n : Fin 2} {x : Int} (hv : Int64.ofNat (n : Nat) = Int64.ofInt x) (hd : decode cc pc = .ok (.lconst n, 1)) (k : GG D Y LB A p l e R s m args below meth c nL Q α cells slots lo (vl x :: sk) μ (pc + 1)) : GG D Y LB A p l e R s m args below meth c nL Q α cells slots lo sk μ pc := fun H locs ls hP hD hS hl => lv_lconst C.hx C.hb hd hv (k H locs ls hP hD hS hl)
theorem g_ldc (C : CX p s m args meth c cc nL own ret D Y LB A) {idx : Nat} {x : Int} (hw : Cond.constant own idx (Int32.ofInt x) ∈ TB) (hd : decode cc pc = .ok (.ldc idx, 2)) (k : GG D Y LB A p l e R s m args below meth c nL Q α cells slots lo (vi x :: sk) μ (pc + 2)) : GG D Y LB A p l e R s m args below meth c nL Q α cells slots lo sk μ pc := fun H locs ls hP hD hS hl => lv_ldc C.hx C.hb C.hown (C.hts _ hw) hd (k H locs ls hP hD hS hl)
theorem g_ldcw (C : CX p s m args meth c cc nL own ret D Y LB A) {idx : Nat} {x : Int} (hw : Cond.constant own idx (Int32.ofInt x) ∈ TB) (hd : decode cc pc = .ok (.ldc_w idx, 3)) (k : GG D Y LB A p l e R s m args below meth c nL Q α cells slots lo (vi x :: sk) μ (pc + 3)) : GG D Y LB A p l e R s m args below meth c nL Q α cells slots lo sk μ pc := fun H locs ls hP hD hS hl => lv_ldcw C.hx C.hb C.hown (C.hts _ hw) hd (k H locs ls hP hD hS hl)
theorem g_ldc2 (C : CX p s m args meth c cc nL own ret D Y LB A) {idx : Nat} {x : Int} (hw : Cond.constantLong own idx (Int64.ofInt x) ∈ TB) (hd : decode cc pc = .ok (.ldc2_w idx, 3)) (k : GG D Y LB A p l e R s m args below meth c nL Q α cells slots lo (vl x :: sk) μ (pc + 3)) : GG D Y LB A p l e R s m args below meth c nL Q α cells slots lo sk μ pc := fun H locs ls hP hD hS hl => lv_ldc2 C.hx C.hb C.hown (C.hts _ hw) hd (k H locs ls hP hD hS hl)
theorem g_ild_n (C : CX p s m args meth c cc nL own ret D Y LB A) {kf : Fin 4} {i : Nat} {x : Int} (j : Nat) (hi : (kf : Nat) = i) (hj : lo[j]? = some (i, vi x)) (hd : decode cc pc = .ok (.iload_n kf, 1)) (k : GG D Y LB A p l e R s m args below meth c nL Q α cells slots lo (vi x :: sk) μ (pc + 1)) : GG D Y LB A p l e R s m args below meth c nL Q α cells slots lo sk μ pc := fun H locs ls hP hD hS hl => lv_iload_n C.hx C.hb hd hi (lv_at hl j hj) (k H locs ls hP hD hS hl)
theorem g_ild (C : CX p s m args meth c cc nL own ret D Y LB A) {i : Nat} {x : Int} (j : Nat) (hj : lo[j]? = some (i, vi x)) (hd : decode cc pc = .ok (.iload i, 2)) (k : GG D Y LB A p l e R s m args below meth c nL Q α cells slots lo (vi x :: sk) μ (pc + 2)) : GG D Y LB A p l e R s m args below meth c nL Q α cells slots lo sk μ pc := fun H locs ls hP hD hS hl => lv_iload C.hx C.hb hd (lv_at hl j hj) (k H locs ls hP hD hS hl)
theorem g_lld_n (C : CX p s m args meth c cc nL own ret D Y LB A) {kf : Fin 4} {i : Nat} {x : Int} (j : Nat) (hi : (kf : Nat) = i) (hj : lo[j]? = some (i, vl x)) (hd : decode cc pc = .ok (.lload_n kf, 1)) (k : GG D Y LB A p l e R s m args below meth c nL Q α cells slots lo (vl x :: sk) μ (pc + 1)) : GG D Y LB A p l e R s m args below meth c nL Q α cells slots lo sk μ pc := fun H locs ls hP hD hS hl => lv_lload_n C.hx C.hb hd hi (lv_at hl j hj) (k H locs ls hP hD hS hl)
theorem g_lld (C : CX p s m args meth c cc nL own ret D Y LB A) {i : Nat} {x : Int} (j : Nat) (hj : lo[j]? = some (i, vl x)) (hd : decode cc pc = .ok (.lload i, 2)) (k : GG D Y LB A p l e R s m args below meth c nL Q α cells slots lo (vl x :: sk) μ (pc + 2)) : GG D Y LB A p l e R s m args below meth c nL Q α cells slots lo sk μ pc := fun H locs ls hP hD hS hl => lv_lload C.hx C.hb hd (lv_at hl j hj) (k H locs ls hP hD hS hl)
theorem g_ald_n (C : CX p s m args meth c cc nL own ret D Y LB A) {kf : Fin 4} {i x : Nat} (j : Nat) (hi : (kf : Nat) = i) (hj : lo[j]? = some (i, .ref x)) (hd : decode cc pc = .ok (.aload_n kf, 1)) (k : GG D Y LB A p l e R s m args below meth c nL Q α cells slots lo (.ref x :: sk) μ (pc + 1)) : GG D Y LB A p l e R s m args below meth c nL Q α cells slots lo sk μ pc := fun H locs ls hP hD hS hl => lv_aload_n C.hx C.hb hd hi (lv_at hl j hj) (k H locs ls hP hD hS hl)
theorem g_ald (C : CX p s m args meth c cc nL own ret D Y LB A) {i x : Nat} (j : Nat) (hj : lo[j]? = some (i, .ref x)) (hd : decode cc pc = .ok (.aload i, 2)) (k : GG D Y LB A p l e R s m args below meth c nL Q α cells slots lo (.ref x :: sk) μ (pc + 2)) : GG D Y LB A p l e R s m args below meth c nL Q α cells slots lo sk μ pc := fun H locs ls hP hD hS hl => lv_aload C.hx C.hb hd (lv_at hl j hj) (k H locs ls hP hD hS hl)
theorem g_ist_n (C : CX p s m args meth c cc nL own ret D Y LB A) {kf : Fin 4} {i : Nat} {x : Int} (hi : (kf : Nat) = i) (hn : i < nL) (hlo : (i, vi x) :: lo.filter (fun q => !(q.1 == i) && !(q.1 + 1 == i && q.2.category == 2)) = lo') (hd : decode cc pc = .ok (.istore_n kf, 1)) (k : GG D Y LB A p l e R s m args below meth c nL Q α cells slots lo' sk μ (pc + 1)) : GG D Y LB A p l e R s m args below meth c nL Q α cells slots lo (vi x :: sk) μ pc := fun H locs ls hP hD hS hl => lv_istore_n C.hx C.hb hd hi hl hn hlo (fun ls hl => k H locs ls hP hD hS hl)
theorem g_ist (C : CX p s m args meth c cc nL own ret D Y LB A) {i : Nat} {x : Int} (hn : i < nL) (hlo : (i, vi x) :: lo.filter (fun q => !(q.1 == i) && !(q.1 + 1 == i && q.2.category == 2)) = lo') (hd : decode cc pc = .ok (.istore i, 2)) (k : GG D Y LB A p l e R s m args below meth c nL Q α cells slots lo' sk μ (pc + 2)) : GG D Y LB A p l e R s m args below meth c nL Q α cells slots lo (vi x :: sk) μ pc := fun H locs ls hP hD hS hl => lv_istore C.hx C.hb hd hl hn hlo (fun ls hl => k H locs ls hP hD hS hl)
theorem g_lst_n (C : CX p s m args meth c cc nL own ret D Y LB A) {kf : Fin 4} {i : Nat} {x : Int} (hi : (kf : Nat) = i) (hn : i + 1 < nL) (hlo : (i, vl x) :: lo.filter (fun q => !(q.1 == i) && (!(q.1 == i + 1) && !(q.1 + 1 == i && q.2.category == 2))) = lo') (hd : decode cc pc = .ok (.lstore_n kf, 1)) (k : GG D Y LB A p l e R s m args below meth c nL Q α cells slots lo' sk μ (pc + 1)) : GG D Y LB A p l e R s m args below meth c nL Q α cells slots lo (vl x :: sk) μ pc := fun H locs ls hP hD hS hl => lv_lstore_n C.hx C.hb hd hi hl hn hlo (fun ls hl => k H locs ls hP hD hS hl)
theorem g_lst (C : CX p s m args meth c cc nL own ret D Y LB A) {i : Nat} {x : Int} (hn : i + 1 < nL) (hlo : (i, vl x) :: lo.filter (fun q => !(q.1 == i) && (!(q.1 == i + 1) && !(q.1 + 1 == i && q.2.category == 2))) = lo') (hd : decode cc pc = .ok (.lstore i, 2)) (k : GG D Y LB A p l e R s m args below meth c nL Q α cells slots lo' sk μ (pc + 2)) : GG D Y LB A p l e R s m args below meth c nL Q α cells slots lo (vl x :: sk) μ pc := fun H locs ls hP hD hS hl => lv_lstore C.hx C.hb hd hl hn hlo (fun ls hl => k H locs ls hP hD hS hl)
theorem g_ast_n (C : CX p s m args meth c cc nL own ret D Y LB A) {kf : Fin 4} {i : Nat} {x : Nat} (hi : (kf : Nat) = i) (hn : i < nL) (hlo : (i, Value.ref x) :: lo.filter (fun q => !(q.1 == i) && !(q.1 + 1 == i && q.2.category == 2)) = lo') (hd : decode cc pc = .ok (.astore_n kf, 1)) (k : GG D Y LB A p l e R s m args below meth c nL Q α cells slots lo' sk μ (pc + 1)) : GG D Y LB A p l e R s m args below meth c nL Q α cells slots lo (Value.ref x :: sk) μ pc := fun H locs ls hP hD hS hl => lv_astore_n C.hx C.hb hd hi hl hn hlo (fun ls hl => k H locs ls hP hD hS hl)
theorem g_ast (C : CX p s m args meth c cc nL own ret D Y LB A) {i : Nat} {x : Nat} (hn : i < nL) (hlo : (i, Value.ref x) :: lo.filter (fun q => !(q.1 == i) && !(q.1 + 1 == i && q.2.category == 2)) = lo') (hd : decode cc pc = .ok (.astore i, 2)) (k : GG D Y LB A p l e R s m args below meth c nL Q α cells slots lo' sk μ (pc + 2)) : GG D Y LB A p l e R s m args below meth c nL Q α cells slots lo (Value.ref x :: sk) μ pc := fun H locs ls hP hD hS hl => lv_astore C.hx C.hb hd hl hn hlo (fun ls hl => k H locs ls hP hD hS hl)
theorem g_iinc (C : CX p s m args meth c cc nL own ret D Y LB A) {i : Nat} {n x : Int} (j : Nat) (hj : lo[j]? = some (i, vi x)) (hn : i < nL) (hlo : (i, vi (x + n)) :: lo.filter (fun q => !(q.1 == i) && !(q.1 + 1 == i && q.2.category == 2)) = lo') (hd : decode cc pc = .ok (.iinc i n, 3)) (k : GG D Y LB A p l e R s m args below meth c nL Q α cells slots lo' sk μ (pc + 3)) : GG D Y LB A p l e R s m args below meth c nL Q α cells slots lo sk μ pc := fun H locs ls hP hD hS hl => lv_iinc (v := Int32.ofInt (x + n)) C.hx C.hb hd hl hj (i_add x n).symm hn hlo (fun ls hl => k H locs ls hP hD hS hl)
theorem g_iadd (C : CX p s m args meth c cc nL own ret D Y LB A) {x y : Int}  (hd : decode cc pc = .ok (.iadd, 1)) (k : GG D Y LB A p l e R s m args below meth c nL Q α cells slots lo (vi (x + y) :: sk) μ (pc + 1)) : GG D Y LB A p l e R s m args below meth c nL Q α cells slots lo (vi y :: vi x :: sk) μ pc := fun H locs ls hP hD hS hl => lv_iadd C.hx C.hb hd  (by rw [← i_add]; exact k H locs ls hP hD hS hl)
theorem g_isub (C : CX p s m args meth c cc nL own ret D Y LB A) {x y : Int}  (hd : decode cc pc = .ok (.isub, 1)) (k : GG D Y LB A p l e R s m args below meth c nL Q α cells slots lo (vi (x - y) :: sk) μ (pc + 1)) : GG D Y LB A p l e R s m args below meth c nL Q α cells slots lo (vi y :: vi x :: sk) μ pc := fun H locs ls hP hD hS hl => lv_isub C.hx C.hb hd  (by rw [← i_sub]; exact k H locs ls hP hD hS hl)
theorem g_imul (C : CX p s m args meth c cc nL own ret D Y LB A) {x y : Int}  (hd : decode cc pc = .ok (.imul, 1)) (k : GG D Y LB A p l e R s m args below meth c nL Q α cells slots lo (vi (x * y) :: sk) μ (pc + 1)) : GG D Y LB A p l e R s m args below meth c nL Q α cells slots lo (vi y :: vi x :: sk) μ pc := fun H locs ls hP hD hS hl => lv_imul C.hx C.hb hd  (by rw [← i_mul]; exact k H locs ls hP hD hS hl)
theorem g_ladd (C : CX p s m args meth c cc nL own ret D Y LB A) {x y : Int}  (hd : decode cc pc = .ok (.ladd, 1)) (k : GG D Y LB A p l e R s m args below meth c nL Q α cells slots lo (vl (x + y) :: sk) μ (pc + 1)) : GG D Y LB A p l e R s m args below meth c nL Q α cells slots lo (vl y :: vl x :: sk) μ pc := fun H locs ls hP hD hS hl => lv_ladd C.hx C.hb hd  (by rw [← l_add]; exact k H locs ls hP hD hS hl)
theorem g_lsub (C : CX p s m args meth c cc nL own ret D Y LB A) {x y : Int}  (hd : decode cc pc = .ok (.lsub, 1)) (k : GG D Y LB A p l e R s m args below meth c nL Q α cells slots lo (vl (x - y) :: sk) μ (pc + 1)) : GG D Y LB A p l e R s m args below meth c nL Q α cells slots lo (vl y :: vl x :: sk) μ pc := fun H locs ls hP hD hS hl => lv_lsub C.hx C.hb hd  (by rw [← l_sub]; exact k H locs ls hP hD hS hl)
theorem g_lmul (C : CX p s m args meth c cc nL own ret D Y LB A) {x y : Int}  (hd : decode cc pc = .ok (.lmul, 1)) (k : GG D Y LB A p l e R s m args below meth c nL Q α cells slots lo (vl (x * y) :: sk) μ (pc + 1)) : GG D Y LB A p l e R s m args below meth c nL Q α cells slots lo (vl y :: vl x :: sk) μ pc := fun H locs ls hP hD hS hl => lv_lmul C.hx C.hb hd  (by rw [← l_mul]; exact k H locs ls hP hD hS hl)
theorem g_idiv (C : CX p s m args meth c cc nL own ret D Y LB A) {x y : Int} (h0 : ¬ w32 y = 0) (hd : decode cc pc = .ok (.idiv, 1)) (k : GG D Y LB A p l e R s m args below meth c nL Q α cells slots lo (vi (Int.tdiv (w32 x) (w32 y)) :: sk) μ (pc + 1)) : GG D Y LB A p l e R s m args below meth c nL Q α cells slots lo (vi y :: vi x :: sk) μ pc := fun H locs ls hP hD hS hl => lv_idiv C.hx C.hb hd (fun q => h0 ((i_0 y).mp q)) (by rw [← i_div]; exact k H locs ls hP hD hS hl)
theorem g_ldiv (C : CX p s m args meth c cc nL own ret D Y LB A) {x y : Int} (h0 : ¬ w64 y = 0) (hd : decode cc pc = .ok (.ldiv, 1)) (k : GG D Y LB A p l e R s m args below meth c nL Q α cells slots lo (vl (Int.tdiv (w64 x) (w64 y)) :: sk) μ (pc + 1)) : GG D Y LB A p l e R s m args below meth c nL Q α cells slots lo (vl y :: vl x :: sk) μ pc := fun H locs ls hP hD hS hl => lv_ldiv C.hx C.hb hd (fun q => h0 ((l_0 y).mp q)) (by rw [← l_div]; exact k H locs ls hP hD hS hl)
theorem g_irem (C : CX p s m args meth c cc nL own ret D Y LB A) {x y : Int} (h0 : ¬ w32 y = 0) (hd : decode cc pc = .ok (.irem, 1)) (k : GG D Y LB A p l e R s m args below meth c nL Q α cells slots lo (vi (Int.tmod (w32 x) (w32 y)) :: sk) μ (pc + 1)) : GG D Y LB A p l e R s m args below meth c nL Q α cells slots lo (vi y :: vi x :: sk) μ pc := fun H locs ls hP hD hS hl => lv_irem C.hx C.hb hd (fun q => h0 ((i_0 y).mp q)) (by rw [← i_rem]; exact k H locs ls hP hD hS hl)
theorem g_lrem (C : CX p s m args meth c cc nL own ret D Y LB A) {x y : Int} (h0 : ¬ w64 y = 0) (hd : decode cc pc = .ok (.lrem, 1)) (k : GG D Y LB A p l e R s m args below meth c nL Q α cells slots lo (vl (Int.tmod (w64 x) (w64 y)) :: sk) μ (pc + 1)) : GG D Y LB A p l e R s m args below meth c nL Q α cells slots lo (vl y :: vl x :: sk) μ pc := fun H locs ls hP hD hS hl => lv_lrem C.hx C.hb hd (fun q => h0 ((l_0 y).mp q)) (by rw [← l_rem]; exact k H locs ls hP hD hS hl)
theorem g_iand (C : CX p s m args meth c cc nL own ret D Y LB A) {x y : Int} (hd : decode cc pc = .ok (.iand, 1)) (k : GG D Y LB A p l e R s m args below meth c nL Q α cells slots lo (vi (ian x y) :: sk) μ (pc + 1)) : GG D Y LB A p l e R s m args below meth c nL Q α cells slots lo (vi y :: vi x :: sk) μ pc := fun H locs ls hP hD hS hl => lv_iand C.hx C.hb hd (by have k2 := k H locs ls hP hD hS hl; unfold vi ian at k2; rw [Int32.ofInt_toInt] at k2; exact k2)
theorem g_ior (C : CX p s m args meth c cc nL own ret D Y LB A) {x y : Int} (hd : decode cc pc = .ok (.ior, 1)) (k : GG D Y LB A p l e R s m args below meth c nL Q α cells slots lo (vi (ior x y) :: sk) μ (pc + 1)) : GG D Y LB A p l e R s m args below meth c nL Q α cells slots lo (vi y :: vi x :: sk) μ pc := fun H locs ls hP hD hS hl => lv_ior C.hx C.hb hd (by have k2 := k H locs ls hP hD hS hl; unfold vi ior at k2; rw [Int32.ofInt_toInt] at k2; exact k2)
theorem g_ixor (C : CX p s m args meth c cc nL own ret D Y LB A) {x y : Int} (hd : decode cc pc = .ok (.ixor, 1)) (k : GG D Y LB A p l e R s m args below meth c nL Q α cells slots lo (vi (ixo x y) :: sk) μ (pc + 1)) : GG D Y LB A p l e R s m args below meth c nL Q α cells slots lo (vi y :: vi x :: sk) μ pc := fun H locs ls hP hD hS hl => lv_ixor C.hx C.hb hd (by have k2 := k H locs ls hP hD hS hl; unfold vi ixo at k2; rw [Int32.ofInt_toInt] at k2; exact k2)
theorem g_ishl (C : CX p s m args meth c cc nL own ret D Y LB A) {x y : Int} (hd : decode cc pc = .ok (.ishl, 1)) (k : GG D Y LB A p l e R s m args below meth c nL Q α cells slots lo (vi (ishl x y) :: sk) μ (pc + 1)) : GG D Y LB A p l e R s m args below meth c nL Q α cells slots lo (vi y :: vi x :: sk) μ pc := fun H locs ls hP hD hS hl => lv_ishl C.hx C.hb hd (by have k2 := k H locs ls hP hD hS hl; unfold vi ishl at k2; rw [Int32.ofInt_toInt] at k2; exact k2)
theorem g_ishr (C : CX p s m args meth c cc nL own ret D Y LB A) {x y : Int} (hd : decode cc pc = .ok (.ishr, 1)) (k : GG D Y LB A p l e R s m args below meth c nL Q α cells slots lo (vi (ishr x y) :: sk) μ (pc + 1)) : GG D Y LB A p l e R s m args below meth c nL Q α cells slots lo (vi y :: vi x :: sk) μ pc := fun H locs ls hP hD hS hl => lv_ishr C.hx C.hb hd (by have k2 := k H locs ls hP hD hS hl; unfold vi ishr at k2; rw [Int32.ofInt_toInt] at k2; exact k2)
theorem g_iushr (C : CX p s m args meth c cc nL own ret D Y LB A) {x y : Int} (hd : decode cc pc = .ok (.iushr, 1)) (k : GG D Y LB A p l e R s m args below meth c nL Q α cells slots lo (vi (iush x y) :: sk) μ (pc + 1)) : GG D Y LB A p l e R s m args below meth c nL Q α cells slots lo (vi y :: vi x :: sk) μ pc := fun H locs ls hP hD hS hl => lv_iushr (v := Int32.ofInt (iush x y)) C.hx C.hb hd (Int32.ofInt_toInt _).symm (k H locs ls hP hD hS hl)
theorem g_i2l (C : CX p s m args meth c cc nL own ret D Y LB A) {x : Int} (hd : decode cc pc = .ok (.i2l, 1)) (k : GG D Y LB A p l e R s m args below meth c nL Q α cells slots lo (vl (w32 x) :: sk) μ (pc + 1)) : GG D Y LB A p l e R s m args below meth c nL Q α cells slots lo (vi x :: sk) μ pc := fun H locs ls hP hD hS hl => lv_i2l C.hx C.hb hd (i_2l x) (k H locs ls hP hD hS hl)
theorem g_l2i (C : CX p s m args meth c cc nL own ret D Y LB A) {x : Int} (hd : decode cc pc = .ok (.l2i, 1)) (k : GG D Y LB A p l e R s m args below meth c nL Q α cells slots lo (vi x :: sk) μ (pc + 1)) : GG D Y LB A p l e R s m args below meth c nL Q α cells slots lo (vl x :: sk) μ pc := fun H locs ls hP hD hS hl => lv_l2i C.hx C.hb hd (l_2i x) (k H locs ls hP hD hS hl)
theorem g_i2b (C : CX p s m args meth c cc nL own ret D Y LB A) {x : Int} (hd : decode cc pc = .ok (.i2b, 1)) (k : GG D Y LB A p l e R s m args below meth c nL Q α cells slots lo (vi (i8 x) :: sk) μ (pc + 1)) : GG D Y LB A p l e R s m args below meth c nL Q α cells slots lo (vi x :: sk) μ pc := fun H locs ls hP hD hS hl => lv_i2b (v := Int32.ofInt (i8 x)) C.hx C.hb hd (i_8 x) (k H locs ls hP hD hS hl)
theorem g_i2s (C : CX p s m args meth c cc nL own ret D Y LB A) {x : Int} (hd : decode cc pc = .ok (.i2s, 1)) (k : GG D Y LB A p l e R s m args below meth c nL Q α cells slots lo (vi (i16 x) :: sk) μ (pc + 1)) : GG D Y LB A p l e R s m args below meth c nL Q α cells slots lo (vi x :: sk) μ pc := fun H locs ls hP hD hS hl => lv_i2s (v := Int32.ofInt (i16 x)) C.hx C.hb hd (i_16 x) (k H locs ls hP hD hS hl)
theorem g_dup (C : CX p s m args meth c cc nL own ret D Y LB A) {v : Value} (hv : v.category = 1) (hd : decode cc pc = .ok (.dup, 1)) (k : GG D Y LB A p l e R s m args below meth c nL Q α cells slots lo (v :: v :: sk) μ (pc + 1)) : GG D Y LB A p l e R s m args below meth c nL Q α cells slots lo (v :: sk) μ pc := fun H locs ls hP hD hS hl => lv_dup C.hx C.hb hd hv (k H locs ls hP hD hS hl)
theorem g_pop (C : CX p s m args meth c cc nL own ret D Y LB A) {v : Value} (hv : v.category = 1) (hd : decode cc pc = .ok (.pop, 1)) (k : GG D Y LB A p l e R s m args below meth c nL Q α cells slots lo sk μ (pc + 1)) : GG D Y LB A p l e R s m args below meth c nL Q α cells slots lo (v :: sk) μ pc := fun H locs ls hP hD hS hl => lv_pop C.hx C.hb hd hv (k H locs ls hP hD hS hl)
theorem g_dup2 (C : CX p s m args meth c cc nL own ret D Y LB A) {v w : Value} (hv : v.category = 1) (hw : w.category = 1) (hd : decode cc pc = .ok (.dup2, 1)) (k : GG D Y LB A p l e R s m args below meth c nL Q α cells slots lo (v :: w :: v :: w :: sk) μ (pc + 1)) : GG D Y LB A p l e R s m args below meth c nL Q α cells slots lo (v :: w :: sk) μ pc := fun H locs ls hP hD hS hl => lv_dup2_11 C.hx C.hb hd hv hw (k H locs ls hP hD hS hl)
theorem g_dupx1 (C : CX p s m args meth c cc nL own ret D Y LB A) {v w : Value} (hv : v.category = 1) (hw : w.category = 1) (hd : decode cc pc = .ok (.dup_x1, 1)) (k : GG D Y LB A p l e R s m args below meth c nL Q α cells slots lo (v :: w :: v :: sk) μ (pc + 1)) : GG D Y LB A p l e R s m args below meth c nL Q α cells slots lo (v :: w :: sk) μ pc := fun H locs ls hP hD hS hl => lv_dup_x1 C.hx C.hb hd hv hw (k H locs ls hP hD hS hl)
theorem g_if_eq (C : CX p s m args meth c cc nL own ret D Y LB A) {x : Int} {off : Int} (tgt : Nat) (ht : (pc : Int) + off = (tgt : Int)) (hd : decode cc pc = .ok (.ifCond .eq off, 3)) (kt : w32 x = 0 → GG D Y LB A p l e R s m args below meth c nL Q α cells slots lo sk μ tgt) (kf : ¬ w32 x = 0 → GG D Y LB A p l e R s m args below meth c nL Q α cells slots lo sk μ (pc + 3)) : GG D Y LB A p l e R s m args below meth c nL Q α cells slots lo (vi x :: sk) μ pc := fun H locs ls hP hD hS hl => lv_if_eq C.hx C.hb hd ht (fun q => kt ((i_0 x).mp q) H locs ls hP hD hS hl) (fun q => kf (fun z => q ((i_0 x).mpr z)) H locs ls hP hD hS hl)
theorem g_if_lt (C : CX p s m args meth c cc nL own ret D Y LB A) {x : Int} {off : Int} (tgt : Nat) (ht : (pc : Int) + off = (tgt : Int)) (hd : decode cc pc = .ok (.ifCond .lt off, 3)) (kt : w32 x < 0 → GG D Y LB A p l e R s m args below meth c nL Q α cells slots lo sk μ tgt) (kf : ¬ w32 x < 0 → GG D Y LB A p l e R s m args below meth c nL Q α cells slots lo sk μ (pc + 3)) : GG D Y LB A p l e R s m args below meth c nL Q α cells slots lo (vi x :: sk) μ pc := fun H locs ls hP hD hS hl => lv_if_lt C.hx C.hb hd ht (fun q => kt ((i_lt0 x).mp q) H locs ls hP hD hS hl) (fun q => kf (fun z => q ((i_lt0 x).mpr z)) H locs ls hP hD hS hl)
theorem g_if_ge (C : CX p s m args meth c cc nL own ret D Y LB A) {x : Int} {off : Int} (tgt : Nat) (ht : (pc : Int) + off = (tgt : Int)) (hd : decode cc pc = .ok (.ifCond .ge off, 3)) (kt : 0 ≤ w32 x → GG D Y LB A p l e R s m args below meth c nL Q α cells slots lo sk μ tgt) (kf : ¬ 0 ≤ w32 x → GG D Y LB A p l e R s m args below meth c nL Q α cells slots lo sk μ (pc + 3)) : GG D Y LB A p l e R s m args below meth c nL Q α cells slots lo (vi x :: sk) μ pc := fun H locs ls hP hD hS hl => lv_if_ge C.hx C.hb hd ht (fun q => kt ((i_ge0 x).mp q) H locs ls hP hD hS hl) (fun q => kf (fun z => q ((i_ge0 x).mpr z)) H locs ls hP hD hS hl)
theorem g_if_gt (C : CX p s m args meth c cc nL own ret D Y LB A) {x : Int} {off : Int} (tgt : Nat) (ht : (pc : Int) + off = (tgt : Int)) (hd : decode cc pc = .ok (.ifCond .gt off, 3)) (kt : 0 < w32 x → GG D Y LB A p l e R s m args below meth c nL Q α cells slots lo sk μ tgt) (kf : ¬ 0 < w32 x → GG D Y LB A p l e R s m args below meth c nL Q α cells slots lo sk μ (pc + 3)) : GG D Y LB A p l e R s m args below meth c nL Q α cells slots lo (vi x :: sk) μ pc := fun H locs ls hP hD hS hl => lv_if_gt C.hx C.hb hd ht (fun q => kt ((i_gt0 x).mp q) H locs ls hP hD hS hl) (fun q => kf (fun z => q ((i_gt0 x).mpr z)) H locs ls hP hD hS hl)
theorem g_if_le (C : CX p s m args meth c cc nL own ret D Y LB A) {x : Int} {off : Int} (tgt : Nat) (ht : (pc : Int) + off = (tgt : Int)) (hd : decode cc pc = .ok (.ifCond .le off, 3)) (kt : w32 x ≤ 0 → GG D Y LB A p l e R s m args below meth c nL Q α cells slots lo sk μ tgt) (kf : ¬ w32 x ≤ 0 → GG D Y LB A p l e R s m args below meth c nL Q α cells slots lo sk μ (pc + 3)) : GG D Y LB A p l e R s m args below meth c nL Q α cells slots lo (vi x :: sk) μ pc := fun H locs ls hP hD hS hl => lv_if_le C.hx C.hb hd ht (fun q => kt ((i_le0 x).mp q) H locs ls hP hD hS hl) (fun q => kf (fun z => q ((i_le0 x).mpr z)) H locs ls hP hD hS hl)
theorem g_if_ne (C : CX p s m args meth c cc nL own ret D Y LB A) {x : Int} {off : Int} (tgt : Nat) (ht : (pc : Int) + off = (tgt : Int)) (hd : decode cc pc = .ok (.ifCond .ne off, 3)) (kf : w32 x = 0 → GG D Y LB A p l e R s m args below meth c nL Q α cells slots lo sk μ (pc + 3)) (kt : ¬ w32 x = 0 → GG D Y LB A p l e R s m args below meth c nL Q α cells slots lo sk μ tgt) : GG D Y LB A p l e R s m args below meth c nL Q α cells slots lo (vi x :: sk) μ pc := fun H locs ls hP hD hS hl => lv_if_ne C.hx C.hb hd ht (fun q => kt (fun z => q ((i_0 x).mpr z)) H locs ls hP hD hS hl) (fun q => kf ((i_0 x).mp q) H locs ls hP hD hS hl)
theorem g_ic_eq (C : CX p s m args meth c cc nL own ret D Y LB A) {x y : Int} {off : Int} (tgt : Nat) (ht : (pc : Int) + off = (tgt : Int)) (hd : decode cc pc = .ok (.if_icmp .eq off, 3)) (kt : w32 x = w32 y → GG D Y LB A p l e R s m args below meth c nL Q α cells slots lo sk μ tgt) (kf : ¬ w32 x = w32 y → GG D Y LB A p l e R s m args below meth c nL Q α cells slots lo sk μ (pc + 3)) : GG D Y LB A p l e R s m args below meth c nL Q α cells slots lo (vi y :: vi x :: sk) μ pc := fun H locs ls hP hD hS hl => lv_icmp_eq C.hx C.hb hd ht (fun q => kt ((i_eq (x := x) (y := y)).mp q) H locs ls hP hD hS hl) (fun q => kf (fun z => q ((i_eq (x := x) (y := y)).mpr z)) H locs ls hP hD hS hl)
theorem g_ic_lt (C : CX p s m args meth c cc nL own ret D Y LB A) {x y : Int} {off : Int} (tgt : Nat) (ht : (pc : Int) + off = (tgt : Int)) (hd : decode cc pc = .ok (.if_icmp .lt off, 3)) (kt : w32 x < w32 y → GG D Y LB A p l e R s m args below meth c nL Q α cells slots lo sk μ tgt) (kf : ¬ w32 x < w32 y → GG D Y LB A p l e R s m args below meth c nL Q α cells slots lo sk μ (pc + 3)) : GG D Y LB A p l e R s m args below meth c nL Q α cells slots lo (vi y :: vi x :: sk) μ pc := fun H locs ls hP hD hS hl => lv_icmp_lt C.hx C.hb hd ht (fun q => kt ((i_lt (x := x) (y := y)).mp q) H locs ls hP hD hS hl) (fun q => kf (fun z => q ((i_lt (x := x) (y := y)).mpr z)) H locs ls hP hD hS hl)
theorem g_ic_ge (C : CX p s m args meth c cc nL own ret D Y LB A) {x y : Int} {off : Int} (tgt : Nat) (ht : (pc : Int) + off = (tgt : Int)) (hd : decode cc pc = .ok (.if_icmp .ge off, 3)) (kt : w32 y ≤ w32 x → GG D Y LB A p l e R s m args below meth c nL Q α cells slots lo sk μ tgt) (kf : ¬ w32 y ≤ w32 x → GG D Y LB A p l e R s m args below meth c nL Q α cells slots lo sk μ (pc + 3)) : GG D Y LB A p l e R s m args below meth c nL Q α cells slots lo (vi y :: vi x :: sk) μ pc := fun H locs ls hP hD hS hl => lv_icmp_ge C.hx C.hb hd ht (fun q => kt ((i_le (x := y) (y := x)).mp q) H locs ls hP hD hS hl) (fun q => kf (fun z => q ((i_le (x := y) (y := x)).mpr z)) H locs ls hP hD hS hl)
theorem g_ic_gt (C : CX p s m args meth c cc nL own ret D Y LB A) {x y : Int} {off : Int} (tgt : Nat) (ht : (pc : Int) + off = (tgt : Int)) (hd : decode cc pc = .ok (.if_icmp .gt off, 3)) (kt : w32 y < w32 x → GG D Y LB A p l e R s m args below meth c nL Q α cells slots lo sk μ tgt) (kf : ¬ w32 y < w32 x → GG D Y LB A p l e R s m args below meth c nL Q α cells slots lo sk μ (pc + 3)) : GG D Y LB A p l e R s m args below meth c nL Q α cells slots lo (vi y :: vi x :: sk) μ pc := fun H locs ls hP hD hS hl => lv_icmp_gt C.hx C.hb hd ht (fun q => kt ((i_lt (x := y) (y := x)).mp q) H locs ls hP hD hS hl) (fun q => kf (fun z => q ((i_lt (x := y) (y := x)).mpr z)) H locs ls hP hD hS hl)
theorem g_ic_le (C : CX p s m args meth c cc nL own ret D Y LB A) {x y : Int} {off : Int} (tgt : Nat) (ht : (pc : Int) + off = (tgt : Int)) (hd : decode cc pc = .ok (.if_icmp .le off, 3)) (kt : w32 x ≤ w32 y → GG D Y LB A p l e R s m args below meth c nL Q α cells slots lo sk μ tgt) (kf : ¬ w32 x ≤ w32 y → GG D Y LB A p l e R s m args below meth c nL Q α cells slots lo sk μ (pc + 3)) : GG D Y LB A p l e R s m args below meth c nL Q α cells slots lo (vi y :: vi x :: sk) μ pc := fun H locs ls hP hD hS hl => lv_icmp_le C.hx C.hb hd ht (fun q => kt ((i_le (x := x) (y := y)).mp q) H locs ls hP hD hS hl) (fun q => kf (fun z => q ((i_le (x := x) (y := y)).mpr z)) H locs ls hP hD hS hl)
theorem g_ic_ne (C : CX p s m args meth c cc nL own ret D Y LB A) {x y : Int} {off : Int} (tgt : Nat) (ht : (pc : Int) + off = (tgt : Int)) (hd : decode cc pc = .ok (.if_icmp .ne off, 3)) (kf : w32 x = w32 y → GG D Y LB A p l e R s m args below meth c nL Q α cells slots lo sk μ (pc + 3)) (kt : ¬ w32 x = w32 y → GG D Y LB A p l e R s m args below meth c nL Q α cells slots lo sk μ tgt) : GG D Y LB A p l e R s m args below meth c nL Q α cells slots lo (vi y :: vi x :: sk) μ pc := fun H locs ls hP hD hS hl => lv_icmp_ne C.hx C.hb hd ht (fun q => kt (fun z => q (i_eq.mpr z)) H locs ls hP hD hS hl) (fun q => kf (i_eq.mp q) H locs ls hP hD hS hl)
theorem g_goto (C : CX p s m args meth c cc nL own ret D Y LB A) {off : Int} (tgt : Nat) (ht : (pc : Int) + off = (tgt : Int)) (hd : decode cc pc = .ok (.goto off, 3)) (k : GG D Y LB A p l e R s m args below meth c nL Q α cells slots lo sk μ tgt) : GG D Y LB A p l e R s m args below meth c nL Q α cells slots lo sk μ pc := fun H locs ls hP hD hS hl => lv_goto C.hx C.hb hd ht (k H locs ls hP hD hS hl)
theorem g_lc_eq (C : CX p s m args meth c cc nL own ret D Y LB A) {x y : Int} {off : Int} (tgt : Nat) (ht : ((pc + 1 : Nat) : Int) + off = (tgt : Int)) (hd : decode cc pc = .ok (.lcmp, 1)) (hd2 : decode cc (pc + 1) = .ok (.ifCond .eq off, 3)) (kt : w64 x = w64 y → GG D Y LB A p l e R s m args below meth c nL Q α cells slots lo sk μ tgt) (kf : ¬ w64 x = w64 y → GG D Y LB A p l e R s m args below meth c nL Q α cells slots lo sk μ (pc + 4)) : GG D Y LB A p l e R s m args below meth c nL Q α cells slots lo (vl y :: vl x :: sk) μ pc := fun H locs ls hP hD hS hl => W.lcmp C.hx C.hb hd (lv_if_eq C.hx C.hb hd2 ht (fun q => kt ((l_eq (x := x) (y := y)).mp ((lc_eq _ _).mp q)) H locs ls hP hD hS hl) (fun q => kf (fun z => q ((lc_eq _ _).mpr ((l_eq (x := x) (y := y)).mpr z))) H locs ls hP hD hS hl))
theorem g_lc_lt (C : CX p s m args meth c cc nL own ret D Y LB A) {x y : Int} {off : Int} (tgt : Nat) (ht : ((pc + 1 : Nat) : Int) + off = (tgt : Int)) (hd : decode cc pc = .ok (.lcmp, 1)) (hd2 : decode cc (pc + 1) = .ok (.ifCond .lt off, 3)) (kt : w64 x < w64 y → GG D Y LB A p l e R s m args below meth c nL Q α cells slots lo sk μ tgt) (kf : ¬ w64 x < w64 y → GG D Y LB A p l e R s m args below meth c nL Q α cells slots lo sk μ (pc + 4)) : GG D Y LB A p l e R s m args below meth c nL Q α cells slots lo (vl y :: vl x :: sk) μ pc := fun H locs ls hP hD hS hl => W.lcmp C.hx C.hb hd (lv_if_lt C.hx C.hb hd2 ht (fun q => kt ((l_lt (x := x) (y := y)).mp ((lc_lt _ _).mp q)) H locs ls hP hD hS hl) (fun q => kf (fun z => q ((lc_lt _ _).mpr ((l_lt (x := x) (y := y)).mpr z))) H locs ls hP hD hS hl))
theorem g_lc_ge (C : CX p s m args meth c cc nL own ret D Y LB A) {x y : Int} {off : Int} (tgt : Nat) (ht : ((pc + 1 : Nat) : Int) + off = (tgt : Int)) (hd : decode cc pc = .ok (.lcmp, 1)) (hd2 : decode cc (pc + 1) = .ok (.ifCond .ge off, 3)) (kt : w64 y ≤ w64 x → GG D Y LB A p l e R s m args below meth c nL Q α cells slots lo sk μ tgt) (kf : ¬ w64 y ≤ w64 x → GG D Y LB A p l e R s m args below meth c nL Q α cells slots lo sk μ (pc + 4)) : GG D Y LB A p l e R s m args below meth c nL Q α cells slots lo (vl y :: vl x :: sk) μ pc := fun H locs ls hP hD hS hl => W.lcmp C.hx C.hb hd (lv_if_ge C.hx C.hb hd2 ht (fun q => kt ((l_le (x := y) (y := x)).mp ((lc_ge _ _).mp q)) H locs ls hP hD hS hl) (fun q => kf (fun z => q ((lc_ge _ _).mpr ((l_le (x := y) (y := x)).mpr z))) H locs ls hP hD hS hl))
theorem g_lc_gt (C : CX p s m args meth c cc nL own ret D Y LB A) {x y : Int} {off : Int} (tgt : Nat) (ht : ((pc + 1 : Nat) : Int) + off = (tgt : Int)) (hd : decode cc pc = .ok (.lcmp, 1)) (hd2 : decode cc (pc + 1) = .ok (.ifCond .gt off, 3)) (kt : w64 y < w64 x → GG D Y LB A p l e R s m args below meth c nL Q α cells slots lo sk μ tgt) (kf : ¬ w64 y < w64 x → GG D Y LB A p l e R s m args below meth c nL Q α cells slots lo sk μ (pc + 4)) : GG D Y LB A p l e R s m args below meth c nL Q α cells slots lo (vl y :: vl x :: sk) μ pc := fun H locs ls hP hD hS hl => W.lcmp C.hx C.hb hd (lv_if_gt C.hx C.hb hd2 ht (fun q => kt ((l_lt (x := y) (y := x)).mp ((lc_gt _ _).mp q)) H locs ls hP hD hS hl) (fun q => kf (fun z => q ((lc_gt _ _).mpr ((l_lt (x := y) (y := x)).mpr z))) H locs ls hP hD hS hl))
theorem g_lc_le (C : CX p s m args meth c cc nL own ret D Y LB A) {x y : Int} {off : Int} (tgt : Nat) (ht : ((pc + 1 : Nat) : Int) + off = (tgt : Int)) (hd : decode cc pc = .ok (.lcmp, 1)) (hd2 : decode cc (pc + 1) = .ok (.ifCond .le off, 3)) (kt : w64 x ≤ w64 y → GG D Y LB A p l e R s m args below meth c nL Q α cells slots lo sk μ tgt) (kf : ¬ w64 x ≤ w64 y → GG D Y LB A p l e R s m args below meth c nL Q α cells slots lo sk μ (pc + 4)) : GG D Y LB A p l e R s m args below meth c nL Q α cells slots lo (vl y :: vl x :: sk) μ pc := fun H locs ls hP hD hS hl => W.lcmp C.hx C.hb hd (lv_if_le C.hx C.hb hd2 ht (fun q => kt ((l_le (x := x) (y := y)).mp ((lc_le _ _).mp q)) H locs ls hP hD hS hl) (fun q => kf (fun z => q ((lc_le _ _).mpr ((l_le (x := x) (y := y)).mpr z))) H locs ls hP hD hS hl))
theorem g_lc_ne (C : CX p s m args meth c cc nL own ret D Y LB A) {x y : Int} {off : Int} (tgt : Nat) (ht : ((pc + 1 : Nat) : Int) + off = (tgt : Int)) (hd : decode cc pc = .ok (.lcmp, 1)) (hd2 : decode cc (pc + 1) = .ok (.ifCond .ne off, 3)) (kf : w64 x = w64 y → GG D Y LB A p l e R s m args below meth c nL Q α cells slots lo sk μ (pc + 4)) (kt : ¬ w64 x = w64 y → GG D Y LB A p l e R s m args below meth c nL Q α cells slots lo sk μ tgt) : GG D Y LB A p l e R s m args below meth c nL Q α cells slots lo (vl y :: vl x :: sk) μ pc := fun H locs ls hP hD hS hl => W.lcmp C.hx C.hb hd (lv_if_ne C.hx C.hb hd2 ht (fun q => kt (fun z => q ((lc_eq _ _).mpr (l_eq.mpr z))) H locs ls hP hD hS hl) (fun q => kf (l_eq.mp ((lc_eq _ _).mp q)) H locs ls hP hD hS hl))
end ROWS
end
section
/-! ROWS over the heap: fields, arrays, calls, ends -/
section HROWS
variable {p : Program} {l : Launch} {e : Env} {R : Room} {s : State} {m : MethodId} {args : Array Value} {below : List Frame} {meth : Method} {c : Code} {Q : State → Prop}
variable {D : va_G} {Y : Nat → ClassId} {LB : List (Nat × Nat)} {A : Nat → Prop} {cc : ByteArray} {nL : Nat} {own : String} {ret : Option FieldType} {α : Adr} {cells slots : Nat} {lo lo' : List (Nat × Value)} {sk : List Value} {μ : Mem} {pc : Nat}
theorem g_get (C : CX p s m args meth c cc nL own ret D Y LB A) {idx ci k t i : Nat} {ty : FieldType} {fin : Bool} {fs : List Value} {v : Value} (hd : decode cc pc = .ok (.getfield idx, 3)) (hf : FL own idx ci k ty fin) (hin : (t, i) ∈ LB) (he : ec Y α (μ 28 0 0).toNat t i (μ t i) = .inr (ci, fs)) (hv : fs[k]? = some v) (kk : GG D Y LB A p l e R s m args below meth c nL Q α cells slots lo (v :: sk) μ (pc + 3)) : GG D Y LB A p l e R s m args below meth c nL Q α cells slots lo (.ref (α t i) :: sk) μ pc := by
  intro H locs ls hP hD hS hl
  obtain ⟨Cn, T, N, ty0, h1, h2, h3, h4, h5, -⟩ := hf
  obtain ⟨q0, hq, -⟩ := wl_at (Y := Y) (α := α) (μ := μ) hin
  rw [he] at hq
  exact va_get (D := D) C.hx C.hb C.hts h4 C.hown C.hK hP q0 hq h1 k h2 (C.hts _ h3) (fun _ h => by rw [h5] at h; exact h) hv hd (kk H locs ls hP hD hS hl)
theorem g_put (C : CX p s m args meth c cc nL own ret D Y LB A) {idx ci k t i : Nat} {ty : FieldType} {fs : List Value} {v : Value} {x : Int} (hnr : narrow ty v = v) (hft : fits ty v = true) (hd : decode cc pc = .ok (.putfield idx, 3)) (hf : FL own idx ci k ty false) (hin : (t, i) ∈ LB) (he : ec Y α (μ 28 0 0).toNat t i (μ t i) = .inr (ci, fs)) (hk : k < fs.length) (hs : ec Y α (μ 28 0 0).toNat t i (up (μ t i) k x) = .inr (ci, fs.set k v)) (ht : t ≠ 28) (kk : GG D Y LB A p l e R s m args below meth c nL Q α cells slots lo sk (st μ t i k x) (pc + 3)) : GG D Y LB A p l e R s m args below meth c nL Q α cells slots lo (v :: .ref (α t i) :: sk) μ pc := by
  intro H locs ls hP hD hS hl
  obtain ⟨Cn, T, N, ty0, h1, h2, h3, h4, h5, h6, h7, h8, h9⟩ := hf
  obtain ⟨q0, hq, hL⟩ := wl_at (Y := Y) (α := α) (μ := μ) hin
  rw [he] at hq
  refine va_put (D := D) C.hx C.hb C.hts h4 ty0 h7 h8 C.hown C.hK hP hD hS q0 hq h1 k h2 (C.hts _ h3) (fun _ h => by rw [h5] at h; exact h) h9 h6 hnr hft hk hd (fun H1 locs1 hP1 hD1 hS1 => ?_)
  rw [← hs, wl_st C.hnd ht hL] at hP1 hD1
  exact kk H1 locs1 ls hP1 hD1 hS1 hl
theorem g_puti (C : CX p s m args meth c cc nL own ret D Y LB A) {idx ci k t i : Nat} {fs : List Value} {x : Int} (hd : decode cc pc = .ok (.putfield idx, 3)) (hf : FL own idx ci k .int false) (hin : (t, i) ∈ LB) (he : ec Y α (μ 28 0 0).toNat t i (μ t i) = .inr (ci, fs)) (hk : k < fs.length) (hs : ec Y α (μ 28 0 0).toNat t i (up (μ t i) k x) = .inr (ci, fs.set k (vi x))) (ht : t ≠ 28) (kk : GG D Y LB A p l e R s m args below meth c nL Q α cells slots lo sk (st μ t i k x) (pc + 3)) : GG D Y LB A p l e R s m args below meth c nL Q α cells slots lo (vi x :: .ref (α t i) :: sk) μ pc := g_put C rfl rfl hd hf hin he hk hs ht kk
theorem g_putl (C : CX p s m args meth c cc nL own ret D Y LB A) {idx ci k t i : Nat} {fs : List Value} {x : Int} (hd : decode cc pc = .ok (.putfield idx, 3)) (hf : FL own idx ci k .long false) (hin : (t, i) ∈ LB) (he : ec Y α (μ 28 0 0).toNat t i (μ t i) = .inr (ci, fs)) (hk : k < fs.length) (hs : ec Y α (μ 28 0 0).toNat t i (up (μ t i) k x) = .inr (ci, fs.set k (vl x))) (ht : t ≠ 28) (kk : GG D Y LB A p l e R s m args below meth c nL Q α cells slots lo sk (st μ t i k x) (pc + 3)) : GG D Y LB A p l e R s m args below meth c nL Q α cells slots lo (vl x :: .ref (α t i) :: sk) μ pc := g_put C rfl rfl hd hf hin he hk hs ht kk
theorem g_putz (C : CX p s m args meth c cc nL own ret D Y LB A) {idx ci k t i : Nat} {fs : List Value} {x : Int} (hx : bb x) (hd : decode cc pc = .ok (.putfield idx, 3)) (hf : FL own idx ci k .boolean false) (hin : (t, i) ∈ LB) (he : ec Y α (μ 28 0 0).toNat t i (μ t i) = .inr (ci, fs)) (hk : k < fs.length) (hs : ec Y α (μ 28 0 0).toNat t i (up (μ t i) k x) = .inr (ci, fs.set k (vi x))) (ht : t ≠ 28) (kk : GG D Y LB A p l e R s m args below meth c nL Q α cells slots lo sk (st μ t i k x) (pc + 3)) : GG D Y LB A p l e R s m args below meth c nL Q α cells slots lo (vi x :: .ref (α t i) :: sk) μ pc := g_put C (bb_nar hx) (by rcases hx with rfl | rfl <;> rfl) hd hf hin he hk hs ht kk
def va_E_mki (Y : Nat → ClassId) (n : Nat) (f : Nat → Int) (k : Nat) (v : Int) : va_E := .inl (Y 0, n, .inl (upd (fun j => Int32.ofInt (f j)) k (Int32.ofInt v)))
def va_E_mkz (Y : Nat → ClassId) (n : Nat) (f : Nat → Int) (k : Nat) (v : Int) : va_E := .inl (Y 2, n, .inl (upd (fun j => Int32.ofInt (f j)) k (Int32.ofInt v)))
def va_E_mkl (Y : Nat → ClassId) (n : Nat) (f : Nat → Int) (k : Nat) (v : Int) : va_E := .inl (Y 1, n, .inr (.inl (vp_updL (fun j => Int64.ofInt (f j)) k (Int64.ofInt v))))
theorem g_iald (C : CX p s m args meth c cc nL own ret D Y LB A) {t i n : Nat} {x : Int} (hd : decode cc pc = .ok (.iaload, 1)) (hin : (t, i) ∈ LB) (he : ∀ f : Nat → Int, ec Y α (μ 28 0 0).toNat t i f = .inl (Y 0, n, .inl (fun j => Int32.ofInt (f j)))) (hb : inb x n) (kk : GG D Y LB A p l e R s m args below meth c nL Q α cells slots lo (vi (μ t i (ix x)) :: sk) μ (pc + 1)) : GG D Y LB A p l e R s m args below meth c nL Q α cells slots lo (vi x :: .ref (α t i) :: sk) μ pc := by
  intro H locs ls hP hD hS hl
  obtain ⟨q0, hq, -⟩ := wl_at (Y := Y) (α := α) (μ := μ) hin
  rw [he] at hq
  exact va_iald C.hx C.hb C.hK hP q0 0 hq rfl (inb_vp hb) hd (kk H locs ls hP hD hS hl)
theorem g_lald (C : CX p s m args meth c cc nL own ret D Y LB A) {t i n : Nat} {x : Int} (hd : decode cc pc = .ok (.laload, 1)) (hin : (t, i) ∈ LB) (he : ∀ f : Nat → Int, ec Y α (μ 28 0 0).toNat t i f = .inl (Y 1, n, .inr (.inl (fun j => Int64.ofInt (f j))))) (hb : inb x n) (kk : GG D Y LB A p l e R s m args below meth c nL Q α cells slots lo (vl (μ t i (ix x)) :: sk) μ (pc + 1)) : GG D Y LB A p l e R s m args below meth c nL Q α cells slots lo (vi x :: .ref (α t i) :: sk) μ pc := by
  intro H locs ls hP hD hS hl
  obtain ⟨q0, hq, -⟩ := wl_at (Y := Y) (α := α) (μ := μ) hin
  rw [he] at hq
  exact va_lald C.hx C.hb C.hK hP q0 1 hq rfl (inb_vp hb) hd (kk H locs ls hP hD hS hl)
theorem g_zald (C : CX p s m args meth c cc nL own ret D Y LB A) {t i n : Nat} {x : Int} (hd : decode cc pc = .ok (.baload, 1)) (hin : (t, i) ∈ LB) (he : ∀ f : Nat → Int, ec Y α (μ 28 0 0).toNat t i f = .inl (Y 2, n, .inl (fun j => Int32.ofInt (f j)))) (hb : inb x n) (kk : GG D Y LB A p l e R s m args below meth c nL Q α cells slots lo (vi (μ t i (ix x)) :: sk) μ (pc + 1)) : GG D Y LB A p l e R s m args below meth c nL Q α cells slots lo (vi x :: .ref (α t i) :: sk) μ pc := by
  intro H locs ls hP hD hS hl
  obtain ⟨q0, hq, -⟩ := wl_at (Y := Y) (α := α) (μ := μ) hin
  rw [he] at hq
  exact va_zald C.hx C.hb C.hK hP q0 2 hq rfl (inb_vp hb) hd (kk H locs ls hP hD hS hl)
theorem g_iast (C : CX p s m args meth c cc nL own ret D Y LB A) {t i n : Nat} {x v : Int} (hd : decode cc pc = .ok (.iastore, 1)) (hin : (t, i) ∈ LB) (he : ∀ f : Nat → Int, ec Y α (μ 28 0 0).toNat t i f = .inl (Y 0, n, .inl (fun j => Int32.ofInt (f j)))) (ht : t ≠ 28) (hb : inb x n) (kk : GG D Y LB A p l e R s m args below meth c nL Q α cells slots lo sk (st μ t i (ix x) v) (pc + 1)) : GG D Y LB A p l e R s m args below meth c nL Q α cells slots lo (vi v :: vi x :: .ref (α t i) :: sk) μ pc := by
  intro H locs ls hP hD hS hl
  obtain ⟨q0, hq, hL⟩ := wl_at (Y := Y) (α := α) (μ := μ) hin
  have hq' := hq
  rw [he] at hq
  refine va_iast C.hx C.hb C.hK hP hD hS q0 0 hq rfl (inb_vp hb) hd (fun H1 locs1 hP1 hD1 hS1 => ?_)
  have hu : (va_E_mki Y n (μ t i) (ix x) v) = ec Y α (μ 28 0 0).toNat t i (up (μ t i) (ix x) v) := by
    rw [he, va_E_mki]
    congr 4
    funext j
    by_cases hj : j = ix x <;> simp [upd, up, hj]
  have hP1 : va_P D vwCl ((wl Y LB α μ).set q0 (α t i, va_E_mki Y n (μ t i) (ix x) v)) H1 := hP1
  have hD1 : va_D A ((wl Y LB α μ).set q0 (α t i, va_E_mki Y n (μ t i) (ix x) v)) := hD1
  rw [hu, wl_st C.hnd ht hL] at hP1 hD1
  exact kk H1 locs1 ls hP1 hD1 hS1 hl
theorem g_last (C : CX p s m args meth c cc nL own ret D Y LB A) {t i n : Nat} {x v : Int} (hd : decode cc pc = .ok (.lastore, 1)) (hin : (t, i) ∈ LB) (he : ∀ f : Nat → Int, ec Y α (μ 28 0 0).toNat t i f = .inl (Y 1, n, .inr (.inl (fun j => Int64.ofInt (f j))))) (ht : t ≠ 28) (hb : inb x n) (kk : GG D Y LB A p l e R s m args below meth c nL Q α cells slots lo sk (st μ t i (ix x) v) (pc + 1)) : GG D Y LB A p l e R s m args below meth c nL Q α cells slots lo (vl v :: vi x :: .ref (α t i) :: sk) μ pc := by
  intro H locs ls hP hD hS hl
  obtain ⟨q0, hq, hL⟩ := wl_at (Y := Y) (α := α) (μ := μ) hin
  have hq' := hq
  rw [he] at hq
  refine va_last C.hx C.hb C.hK hP hD hS q0 1 hq rfl (inb_vp hb) hd (fun H1 locs1 hP1 hD1 hS1 => ?_)
  have hu : (va_E_mkl Y n (μ t i) (ix x) v) = ec Y α (μ 28 0 0).toNat t i (up (μ t i) (ix x) v) := by
    rw [he, va_E_mkl]
    congr 5
    funext j
    by_cases hj : j = ix x <;> simp [vp_updL, up, hj]
  have hP1 : va_P D vwCl ((wl Y LB α μ).set q0 (α t i, va_E_mkl Y n (μ t i) (ix x) v)) H1 := hP1
  have hD1 : va_D A ((wl Y LB α μ).set q0 (α t i, va_E_mkl Y n (μ t i) (ix x) v)) := hD1
  rw [hu, wl_st C.hnd ht hL] at hP1 hD1
  exact kk H1 locs1 ls hP1 hD1 hS1 hl
theorem g_zast (C : CX p s m args meth c cc nL own ret D Y LB A) {t i n : Nat} {x v : Int} (hz : bb v) (hd : decode cc pc = .ok (.bastore, 1)) (hin : (t, i) ∈ LB) (he : ∀ f : Nat → Int, ec Y α (μ 28 0 0).toNat t i f = .inl (Y 2, n, .inl (fun j => Int32.ofInt (f j)))) (ht : t ≠ 28) (hb : inb x n) (kk : GG D Y LB A p l e R s m args below meth c nL Q α cells slots lo sk (st μ t i (ix x) v) (pc + 1)) : GG D Y LB A p l e R s m args below meth c nL Q α cells slots lo (vi v :: vi x :: .ref (α t i) :: sk) μ pc := by
  intro H locs ls hP hD hS hl
  obtain ⟨q0, hq, hL⟩ := wl_at (Y := Y) (α := α) (μ := μ) hin
  have hq' := hq
  rw [he] at hq
  refine va_zast C.hx C.hb C.hK hP hD hS q0 2 hq rfl (inb_vp hb) hd (fun H1 locs1 hP1 hD1 hS1 => ?_)
  rw [bz_nar hz] at hP1 hD1
  have hu : (va_E_mkz Y n (μ t i) (ix x) v) = ec Y α (μ 28 0 0).toNat t i (up (μ t i) (ix x) v) := by
    rw [he, va_E_mkz]
    congr 4
    funext j
    by_cases hj : j = ix x <;> simp [upd, up, hj]
  have hP1 : va_P D vwCl ((wl Y LB α μ).set q0 (α t i, va_E_mkz Y n (μ t i) (ix x) v)) H1 := hP1
  have hD1 : va_D A ((wl Y LB α μ).set q0 (α t i, va_E_mkz Y n (μ t i) (ix x) v)) := hD1
  rw [hu, wl_st C.hnd ht hL] at hP1 hD1
  exact kk H1 locs1 ls hP1 hD1 hS1 hl
theorem g_alen (C : CX p s m args meth c cc nL own ret D Y LB A) {t i n y : Nat} {q : (Nat → Int) → ((Nat → Int32) ⊕ (Nat → Int64) ⊕ (Nat → UInt32) ⊕ (Nat → UInt64) ⊕ (Nat → Option Nat))} {ty : FieldType} (hd : decode cc pc = .ok (.arraylength, 1)) (hin : (t, i) ∈ LB) (he : ∀ f : Nat → Int, ec Y α (μ 28 0 0).toNat t i f = .inl (Y y, n, q f)) (hy : (tyl Y)[y]? = some (Y y, ty)) (kk : GG D Y LB A p l e R s m args below meth c nL Q α cells slots lo (vi (n : Int) :: sk) μ (pc + 1)) : GG D Y LB A p l e R s m args below meth c nL Q α cells slots lo (.ref (α t i) :: sk) μ pc := by
  intro H locs ls hP hD hS hl
  obtain ⟨q0, hq, -⟩ := wl_at (Y := Y) (α := α) (μ := μ) hin
  rw [he] at hq
  exact va_alen (v := Int32.ofInt (n : Int)) C.hx C.hb C.hK hP q0 y hq hy (Int32.ofInt_eq_ofNat (n := n)).symm hd (kk H locs ls hP hD hS hl)
theorem g_aald (C : CX p s m args meth c cc nL own ret D Y LB A) {t i n y t2 : Nat} {g : Nat → Nat} {Cn : String} {x : Int} (hd : decode cc pc = .ok (.aaload, 1)) (hin : (t, i) ∈ LB) (he : ∀ f : Nat → Int, ec Y α (μ 28 0 0).toNat t i f = .inl (Y y, n, .inr (.inr (.inr (.inr (fun k => if k < n then some (α t2 (g k)) else none)))))) (hy : (tyl Y)[y]? = some (Y y, .object Cn)) (hb : inb x n) (kk : GG D Y LB A p l e R s m args below meth c nL Q α cells slots lo (.ref (α t2 (g (ix x))) :: sk) μ (pc + 1)) : GG D Y LB A p l e R s m args below meth c nL Q α cells slots lo (vi x :: .ref (α t i) :: sk) μ pc := by
  intro H locs ls hP hD hS hl
  obtain ⟨q0, hq, -⟩ := wl_at (Y := Y) (α := α) (μ := μ) hin
  rw [he] at hq
  refine va_aldq C.hx C.hb C.hK hP q0 y hq hy (inb_vp hb) hd ?_
  rw [ix_cl, if_pos (inb_ix hb)]
  exact kk H locs ls hP hD hS hl
theorem i_max (x y : Int) : (if Int32.ofInt x < Int32.ofInt y then Int32.ofInt y else Int32.ofInt x) = Int32.ofInt (if w32 x < w32 y then y else x) := by
  by_cases h : w32 x < w32 y
  · rw [if_pos h, if_pos (i_lt.mpr h)]
  · rw [if_neg h, if_neg (fun q => h (i_lt.mp q))]
theorem g_max (C : CX p s m args meth c cc nL own ret D Y LB A) {idx : Nat} {x y : Int} (h1 : Cond.methodLink own idx Lib.Math.max.name ∈ TB) (h2 : Cond.static Lib.Math.max.name ∈ TB) (h3 : Cond.initialized "java/lang/Math" ∈ TB) (h4 : Cond.code Lib.Math.max.name Lib.Math.max.code 2 (some .int) ∈ TB) (hfr : 1 ≤ R.frames) (hlc : (sk.map fun v => v.category).sum + 13 ≤ R.locals) (hc : cells ≤ R.cells) (hs : slots ≤ R.slots) (hd : decode cc pc = .ok (.invokestatic idx, 3)) (kk : GG D Y LB A p l e R s m args below meth c nL Q α cells slots lo (vi (if w32 x < w32 y then y else x) :: sk) μ (pc + 3)) : GG D Y LB A p l e R s m args below meth c nL Q α cells slots lo (vi y :: vi x :: sk) μ pc := by
  intro H locs ls hP hD hS hl
  refine va_mmax C.hx C.hb (C.hml.trans hl.1.symm) C.hown (C.hts _ h1) (C.hts _ h2) (C.hts _ h3) (C.hts _ h4) hfr hlc hc hs hd ?_
  have hk := kk H locs ls hP hD hS hl
  unfold vi at hk
  by_cases h : w32 x < w32 y
  · rw [if_pos h] at hk
    rw [if_pos (i_lt.mpr h)]
    exact hk
  · rw [if_neg h] at hk
    rw [if_neg (fun q => h (i_lt.mp q))]
    exact hk
theorem g_min (C : CX p s m args meth c cc nL own ret D Y LB A) {idx : Nat} {x y : Int} (h1 : Cond.methodLink own idx Lib.Math.min.name ∈ TB) (h2 : Cond.static Lib.Math.min.name ∈ TB) (h3 : Cond.initialized "java/lang/Math" ∈ TB) (h4 : Cond.code Lib.Math.min.name Lib.Math.min.code 2 (some .int) ∈ TB) (hfr : 1 ≤ R.frames) (hlc : (sk.map fun v => v.category).sum + 13 ≤ R.locals) (hc : cells ≤ R.cells) (hs : slots ≤ R.slots) (hd : decode cc pc = .ok (.invokestatic idx, 3)) (kk : GG D Y LB A p l e R s m args below meth c nL Q α cells slots lo (vi (if w32 y < w32 x then y else x) :: sk) μ (pc + 3)) : GG D Y LB A p l e R s m args below meth c nL Q α cells slots lo (vi y :: vi x :: sk) μ pc := by
  intro H locs ls hP hD hS hl
  refine va_mmin C.hx C.hb (C.hml.trans hl.1.symm) C.hown (C.hts _ h1) (C.hts _ h2) (C.hts _ h3) (C.hts _ h4) hfr hlc hc hs hd ?_
  have hk := kk H locs ls hP hD hS hl
  unfold vi at hk
  by_cases h : w32 y < w32 x
  · rw [if_pos h] at hk
    rw [if_pos (i_lt.mpr h)]
    exact hk
  · rw [if_neg h] at hk
    rw [if_neg (fun q => h (i_lt.mp q))]
    exact hk
/-- a contract: where it starts, where it ends -/
def Pcx (D : va_G) (Y : Nat → ClassId) (LB : List (Nat × Nat)) (as : List Value) (α : Adr) (μ : Mem) (sz : Nat) : Array Value → State → Prop := va_Pc as (fun U => U.heap.size = sz ∧ va_P D vwCl (wl Y LB α μ) U.heap ∧ va_K D vwCl (tyl Y) U ∧ va_D (fun _ => True) (wl Y LB α μ) ∧ NwOk U)
def Qcx (D : va_G) (Y : Nat → ClassId) (LB : List (Nat × Nat)) (α : Adr) (sz : Nat) (r : Option Value) (ok : Adr → Prop) (μ' : Mem) : Array Value → State → Outcome → State → Prop := fun _ st oc t => (oc = .returned r ∧ ∃ α', ok α' ∧ va_P D vwCl (wl Y LB α' μ') t.heap ∧ va_D (Ar LB α sz) (wl Y LB α' μ')) ∧ va_F (Ar LB α sz) st t
def Ctr (l : Launch) (D : va_G) (Y : Nat → ClassId) (LB : List (Nat × Nat)) (y : MethodName) (cc : ByteArray) (nL : Nat) (ret : Option FieldType) (fr lc mc ms : Nat) (as : List Value) (α : Adr) (μ : Mem) (r : Option Value) (ok : Adr → Prop) (μ' : Mem) : Prop :=
  ∀ sz, Met l y (.code y cc nL ret :: TB) { frames := fr, cells := mc, slots := ms, locals := lc } (Pcx D Y LB as α μ sz) (Qcx D Y LB α sz r ok μ') mc ms (Ar LB α sz)
theorem Ctr_of {y : MethodName} {fr lc mc ms : Nat} {as : List Value} {r : Option Value} {ok : Adr → Prop} {μ' : Mem} (hy : plainName y.cls = true) (hown : y.cls = own) (hlo : lv_args 0 as = lo) (hlen : (lg_sl as).length ≤ nL) (hnd : LB.Nodup)
    (body : ∀ (p : Program) (e : Env) (s : State) (m : MethodId) (below : List Frame) (meth : Method) (c : Code) (sz : Nat), CX p s m as.toArray meth c cc nL own ret D Y LB (Ar LB α sz) → GG D Y LB (Ar LB α sz) p l e { frames := fr, cells := mc, slots := ms, locals := lc } s m as.toArray below meth c nL (MQ below (Qcx D Y LB α sz r ok μ') as.toArray s mc ms (Ar LB α sz)) α 0 0 lo [] μ 0) : Ctr l D Y LB y cc nL ret fr lc mc ms as α μ r ok μ' := by
  intro sz
  refine Met.ofW (cc := cc) (maxL := nL) (ret := ret) hy rfl ?_
  intro p e s m args below meth c s₁ B hml hv
  obtain ⟨rfl, hsz, hP, hK, hD0, hN⟩ := hv
  subst hown
  subst hsz
  have hts := atoms_spec (ws := .code y cc nL ret :: TB) B.pre
  have C : CX p s m as.toArray meth c cc nL y.cls ret D Y LB (Ar LB α s.heap.size) := ⟨B.exec, B.bytes, hml, findClass_of_methodNamed B.named, fun w h => hts w (List.mem_cons_of_mem _ h), hK, fun q h => Or.inr h, B.returns, B.notSynchronized, hN, hnd⟩
  have hl := lv_entry as (n := nL) hlen
  rw [lg_entry_eq]
  rw [hlo] at hl
  exact body p e s m below meth c s.heap.size C s.heap [] _ hP (Ar_self hD0) va_S.rf hl
theorem Pcx_blind {as : List Value} {sz : Nat} : FrameBlind (Pcx D Y LB as α μ sz) := by
  intro a U g mk q
  obtain ⟨q0, q1, qP, qK, qD, qN⟩ := q
  exact ⟨q0, q1, qP, va_K.moved (u := U) (U := U.calling g mk a) (Vm.Alike.refl U.vm) qK, qD, qN.same rfl⟩
theorem Pcx_at (C : CX p s m args meth c cc nL own ret D Y LB A) {as : List Value} {H : Heap} (hP : va_P D vwCl (wl Y LB α μ) H) (hD : va_D A (wl Y LB α μ)) : ∀ U : State, U.heap = H → s.WarmedH U.vm → Pcx D Y LB as α μ H.size as.toArray U := fun U hU hW => ⟨rfl, by rw [hU], by rw [hU]; exact hP, va_K.moved hW.alike C.hK, hD.weaken (fun _ _ _ _ => trivial), C.hnw.warm hW⟩
theorem goodTB {y : MethodName} {cc' : ByteArray} {nL' : Nat} {ret' : Option FieldType} (h : Cond.code y cc' nL' ret' ∈ TB) : GoodIn TB (.code y cc' nL' ret' :: TB) := by
  intro w hw
  rcases List.mem_cons.mp hw with rfl | hw
  · exact ⟨h, good_of_word (TB_good _ h)⟩
  · exact ⟨hw, good_of_word (TB_good _ hw)⟩
theorem callx {H : Heap} {locs : List Loc} {ls : Array Slot} {st0 rest : List Value} {mc ms : Nat} {r : Option Value} {ok : Adr → Prop} {μ' : Mem} {a : Array Value} (hA : ∀ q, Ar LB α H.size q → A q)
    (hr : va_Run p l e R s m args below meth c H locs cells slots mc ms (F0 m pc ls st0) rest (Qcx D Y LB α H.size r ok μ' a) (Ar LB α H.size)) (hS : va_S A s.heap H locs)
    (kk : ∀ (α' : Adr) (H1 : Heap) (locs1 : List Loc), ok α' → va_P D vwCl (wl Y LB α' μ') H1 → va_D A (wl Y LB α' μ') → va_S A s.heap H1 locs1 → W p l e R s m args below meth c H1 locs1 (cells + mc) (slots + ms) Q (F0 m (pc + 3) ls (r.toList ++ rest))) : W p l e R s m args below meth c H locs cells slots Q (F0 m pc ls st0) := by
  intro T hT X
  obtain ⟨v, st₀, t, T', L, h0, X', hL, e1, e2, ⟨⟨hv, α', hok, hP1, hD1⟩, hz, hk⟩, st⟩ := hr T hT X
  cases hv
  rw [h0] at hz hk
  obtain ⟨t2, a1, b1⟩ := kk α' T'.heap (locs ++ L) hok (by rw [e1]; exact hP1) (hD1.weaken (fun _ _ _ h => hA _ h))
    ⟨Nat.le_trans hS.1 (by rw [e1]; exact hz), fun q h1 h2 => by rw [e1, hk q (Nat.lt_of_lt_of_le h1 hS.1) (fun z => h2 (hA q z))]; exact hS.2.1 q h1 h2, fun q hq => by
      rcases List.mem_append.mp hq with h | h
      · exact hS.2.2 q h
      · exact hA _ (hL q h)⟩ T' rfl X'
  exact ⟨t2, st t2 a1, b1⟩
/-- a call's words: by an object, static, static of a nest mate -/
def CWd (y : MethodName) (cc' : ByteArray) (nL' : Nat) (ret' : Option FieldType) (n : Nat) : Prop := Cond.initialized y.cls ∈ TB ∧ Cond.code y cc' nL' ret' ∈ TB ∧ (y.cls ≠ "java/lang/invoke/MethodHandle" ∧ y.cls ≠ "java/lang/invoke/VarHandle" ∧ (parseMethodDescriptor y.desc).map (fun d => d.parameters.length) = some n)
theorem cwB (C : CX p s m args meth c cc nL own ret D Y LB A) {idx n fr lc mc ms nL' : Nat} {y : MethodName} {cc' : ByteArray} {ret' : Option FieldType} (h : CWd y cc' nL' ret' n) (hl : Cond.methodLink own idx y ∈ TB) (hR : fr + 1 ≤ R.frames ∧ 8 + (nL' + 11) + lc ≤ R.locals) : CallB R s args own idx y cc' nL' ret' (.code y cc' nL' ret' :: TB) { frames := fr, cells := mc, slots := ms, locals := lc } mc ms n :=
  callB_of n C.hts (goodTB h.2.1) rfl rfl rfl (C.hts _ h.1) (C.hts _ hl) h.2.2 hR

theorem g_callV (C : CX p s m args meth c cc nL own ret D Y LB A) {idx n fr lc mc ms nL' : Nat} {y : MethodName} {cc' : ByteArray} {ret' : Option FieldType} {As rest : List Value} {r : Option Value} {ok : Adr → Prop} {μ1 : Mem} {t i ci : Nat} {q : vw_C} {fs : List Value} (hd : decode cc pc = .ok (.invokevirtual idx, 3)) (hw : CWd y cc' nL' ret' n) (hl1 : Cond.methodLink own idx y ∈ TB) (hl2 : Cond.instanceMethod y ∈ TB) (hl3 : Cond.selects y.cls y y ∈ TB) (hin : (t, i) ∈ LB) (he : ec Y α (μ 28 0 0).toNat t i (μ t i) = .inr (ci, fs)) (hc : vwCl[ci]? = some q) (hq : q.1 = y.cls) (hM : Ctr l D Y LB y cc' nL' ret' fr lc mc ms (.ref (α t i) :: As) α μ r ok μ1) (hn : As.length = n) (hsk : sk = As.reverse ++ .ref (α t i) :: rest) (hcat : (rest.map fun v => v.category).sum ≤ 8) (hR : fr + 1 ≤ R.frames ∧ 8 + (nL' + 11) + lc ≤ R.locals) (hf : cells + mc ≤ R.cells ∧ slots + ms ≤ R.slots) (kk : ∀ α', ok α' → GG D Y LB A p l e R s m args below meth c nL Q α' (cells + mc) (slots + ms) lo (r.toList ++ rest) μ1 (pc + 3)) : GG D Y LB A p l e R s m args below meth c nL Q α cells slots lo sk μ pc := by
  intro H locs ls hP hD hS hl
  subst hsk
  have hA := Ar_sub (k := H.size) hD C.hA hS.1
  obtain ⟨q0, hq0, -⟩ := wl_at (Y := Y) (α := α) (μ := μ) hin
  rw [he] at hq0
  refine callx hA (va_runV (n := n) (C := y.cls) (As := As) (rest := rest) ⟨C.hx, C.hb, C.hml, C.hown, C.hts⟩ (hM H.size) ⟨cwB C hw hl1 hR, C.hts _ hl2, C.hts _ hl3⟩ ⟨Pcx_blind, by rw [← hq]; exact va_recv C.hK hP hc hq0, Pcx_at C hP hD⟩ rfl hn hl.1 rfl (lv_room hcat) hd hf) hS (fun α' H1 locs1 hok hP1 hD1 hS1 => kk α' hok H1 locs1 ls hP1 hD1 hS1 hl)
theorem g_callS (C : CX p s m args meth c cc nL own ret D Y LB A) {idx n fr lc mc ms nL' : Nat} {y : MethodName} {cc' : ByteArray} {ret' : Option FieldType} {As rest : List Value} {r : Option Value} {ok : Adr → Prop} {μ1 : Mem} (hd : decode cc pc = .ok (.invokestatic idx, 3)) (hw : CWd y cc' nL' ret' n) (hl1 : Cond.methodLink own idx y ∈ TB) (hl2 : Cond.static y ∈ TB) (hM : Ctr l D Y LB y cc' nL' ret' fr lc mc ms As α μ r ok μ1) (hn : As.length = n) (hsk : sk = As.reverse ++ rest) (hcat : (rest.map fun v => v.category).sum ≤ 8) (hR : fr + 1 ≤ R.frames ∧ 8 + (nL' + 11) + lc ≤ R.locals) (hf : cells + mc ≤ R.cells ∧ slots + ms ≤ R.slots) (kk : ∀ α', ok α' → GG D Y LB A p l e R s m args below meth c nL Q α' (cells + mc) (slots + ms) lo (r.toList ++ rest) μ1 (pc + 3)) : GG D Y LB A p l e R s m args below meth c nL Q α cells slots lo sk μ pc := by
  intro H locs ls hP hD hS hl
  subst hsk
  have hA := Ar_sub (k := H.size) hD C.hA hS.1
  refine callx hA (va_runS (n := n) (As := As) (rest := rest) ⟨C.hx, C.hb, C.hml, C.hown, C.hts⟩ (hM H.size) ⟨cwB C hw hl1 hR, C.hts _ hl2⟩ ⟨Pcx_blind, Pcx_at C hP hD⟩ rfl hn hl.1 rfl (lv_room hcat) hd hf) hS (fun α' H1 locs1 hok hP1 hD1 hS1 => kk α' hok H1 locs1 ls hP1 hD1 hS1 hl)
theorem g_callN (C : CX p s m args meth c cc nL own ret D Y LB A) {idx n fr lc mc ms nL' : Nat} {y : MethodName} {cc' : ByteArray} {ret' : Option FieldType} {As rest : List Value} {r : Option Value} {ok : Adr → Prop} {μ1 : Mem} {host : String} (hd : decode cc pc = .ok (.invokestatic idx, 3)) (hw : CWd y cc' nL' ret' n) (hl1 : va_Nw (.methodLinkNest own idx y host) s) (hl2 : Cond.static y ∈ TB) (hM : Ctr l D Y LB y cc' nL' ret' fr lc mc ms As α μ r ok μ1) (hn : As.length = n) (hsk : sk = As.reverse ++ rest) (hcat : (rest.map fun v => v.category).sum ≤ 8) (hR : fr + 1 ≤ R.frames ∧ 8 + (nL' + 11) + lc ≤ R.locals) (hf : cells + mc ≤ R.cells ∧ slots + ms ≤ R.slots) (kk : ∀ α', ok α' → GG D Y LB A p l e R s m args below meth c nL Q α' (cells + mc) (slots + ms) lo (r.toList ++ rest) μ1 (pc + 3)) : GG D Y LB A p l e R s m args below meth c nL Q α cells slots lo sk μ pc := by
  intro H locs ls hP hD hS hl
  subst hsk
  have hA := Ar_sub (k := H.size) hD C.hA hS.1
  refine callx hA (va_runSN (n := n) (As := As) (rest := rest) ⟨C.hx, C.hb, C.hml, C.hown, C.hts⟩ (hM H.size) ⟨va_cnB n C.hts (goodTB hw.2.1) rfl rfl rfl hl1 (C.hts _ hw.1) hw.2.2 hR, C.hts _ hl2, trivial⟩ ⟨Pcx_blind, Pcx_at C hP hD⟩ rfl hn hl.1 rfl (lv_room hcat) hd hf) hS (fun α' H1 locs1 hok hP1 hD1 hS1 => kk α' hok H1 locs1 ls hP1 hD1 hS1 hl)
theorem g_iret {α0 : Adr} {sz : Nat} {ok : Adr → Prop} {μ' : Mem} {x r : Int} (C : CX p s m args meth c cc nL own (some .int) D Y LB (Ar LB α0 sz)) (hok : ok α) (hd : decode cc pc = .ok (.ireturn, 1)) (hf : some (x, μ) = some (r, μ')) : GG D Y LB (Ar LB α0 sz) p l e R s m args below meth c nL (MQ below (Qcx D Y LB α0 sz (some (vi r)) ok μ') args s cells slots (Ar LB α0 sz)) α cells slots lo [vi x] μ pc := by
  cases hf
  intro H locs ls hP hD hS hl
  exact W.iret C.hx C.hb C.hr (fun t ht hW => ⟨⟨rfl, α, hok, by rw [ht]; exact hP, hD⟩, hS.F ht⟩) hS.2.2 hd C.hlk
theorem g_lret {α0 : Adr} {sz : Nat} {ok : Adr → Prop} {μ' : Mem} {x r : Int} (C : CX p s m args meth c cc nL own (some .long) D Y LB (Ar LB α0 sz)) (hok : ok α) (hd : decode cc pc = .ok (.lreturn, 1)) (hf : some (x, μ) = some (r, μ')) : GG D Y LB (Ar LB α0 sz) p l e R s m args below meth c nL (MQ below (Qcx D Y LB α0 sz (some (vl r)) ok μ') args s cells slots (Ar LB α0 sz)) α cells slots lo [vl x] μ pc := by
  cases hf
  intro H locs ls hP hD hS hl
  exact W.lret C.hx C.hb C.hr (fun t ht hW => ⟨⟨rfl, α, hok, by rw [ht]; exact hP, hD⟩, hS.F ht⟩) hS.2.2 hd C.hlk
theorem g_zret {α0 : Adr} {sz : Nat} {ok : Adr → Prop} {μ' : Mem} {x r : Int} (C : CX p s m args meth c cc nL own (some .boolean) D Y LB (Ar LB α0 sz)) (hok : ok α) (hz : bb x) (hd : decode cc pc = .ok (.ireturn, 1)) (hf : some (x, μ) = some (r, μ')) : GG D Y LB (Ar LB α0 sz) p l e R s m args below meth c nL (MQ below (Qcx D Y LB α0 sz (some (vi r)) ok μ') args s cells slots (Ar LB α0 sz)) α cells slots lo [vi x] μ pc := by
  cases hf
  intro H locs ls hP hD hS hl
  exact W.zret C.hx C.hb C.hr (bb_nar hz) (fun t ht hW => ⟨⟨rfl, α, hok, by rw [ht]; exact hP, hD⟩, hS.F ht⟩) hS.2.2 hd C.hlk
theorem g_vret {α0 : Adr} {sz : Nat} {ok : Adr → Prop} {μ' : Mem} {r : Int} (C : CX p s m args meth c cc nL own none D Y LB (Ar LB α0 sz)) (hok : ok α) (hd : decode cc pc = .ok (.return_, 1)) (hf : some ((0 : Int), μ) = some (r, μ')) : GG D Y LB (Ar LB α0 sz) p l e R s m args below meth c nL (MQ below (Qcx D Y LB α0 sz none ok μ') args s cells slots (Ar LB α0 sz)) α cells slots lo [] μ pc := by
  cases hf
  intro H locs ls hP hD hS hl
  exact W.vret C.hx C.hb C.hr (fun t ht hW => ⟨⟨rfl, α, hok, by rw [ht]; exact hP, hD⟩, hS.F ht⟩) hS.2.2 hd C.hlk
theorem g_sub (C : CX p s m args meth c cc nL own ret D Y LB A) (ks : List Nat) (hl' : lv_pick lo ks = lo') (kk : GG D Y LB A p l e R s m args below meth c nL Q α cells slots lo' sk μ pc) : GG D Y LB A p l e R s m args below meth c nL Q α cells slots lo sk μ pc := fun H locs ls hP hD hS hl => kk H locs ls hP hD hS (lv_sub hl ks hl')
theorem g_tabIn (C : CX p s m args meth c cc nL own ret D Y LB A) {dflt lw hi : Int} {offs : Array Int} {len : Nat} {x off : Int} (tgt : Nat) (hd : decode cc pc = .ok (.tableswitch dflt lw hi offs, len)) (h1 : ¬ w32 x < lw) (h2 : ¬ hi < w32 x) (ho : offs[(w32 x - lw).toNat]? = some off) (ht : (pc : Int) + off = (tgt : Int)) (kk : GG D Y LB A p l e R s m args below meth c nL Q α cells slots lo sk μ tgt) : GG D Y LB A p l e R s m args below meth c nL Q α cells slots lo (vi x :: sk) μ pc := fun H locs ls hP hD hS hl => lv_tableIn C.hx C.hb hd h1 h2 ho ht (kk H locs ls hP hD hS hl)
theorem g_tabOut (C : CX p s m args meth c cc nL own ret D Y LB A) {dflt lw hi : Int} {offs : Array Int} {len : Nat} {x : Int} (tgt : Nat) (hd : decode cc pc = .ok (.tableswitch dflt lw hi offs, len)) (h : w32 x < lw ∨ hi < w32 x) (ht : (pc : Int) + dflt = (tgt : Int)) (kk : GG D Y LB A p l e R s m args below meth c nL Q α cells slots lo sk μ tgt) : GG D Y LB A p l e R s m args below meth c nL Q α cells slots lo (vi x :: sk) μ pc := fun H locs ls hP hD hS hl => lv_tableOut C.hx C.hb hd h ht (kk H locs ls hP hD hS hl)
end HROWS
end
