/-! WORDS of the constructors and of the law (by program) -/
theorem m_1_21 : (Jvm.Cond.instanceMethod ({ cls := "java/lang/Object", name := "<init>", desc := "()V" } : Jvm.MethodName)) ∈ TB := mt_1 (List.mem_of_getElem? (i := 21) rfl) rfl
theorem m_1_22 : (Jvm.Cond.code ({ cls := "java/lang/Object", name := "<init>", desc := "()V" } : Jvm.MethodName) object_method_1_code (1 : Nat) (Option.none : Option Jvm.ClassFile.FieldType)) ∈ TB := mt_1 (List.mem_of_getElem? (i := 22) rfl) rfl
theorem m_1_27 : (Jvm.Cond.code ({ cls := "EndTeller$Fraction", name := "<init>", desc := "()V" } : Jvm.MethodName) prog_2_method_1_code (1 : Nat) (Option.none : Option Jvm.ClassFile.FieldType)) ∈ TB := mt_1 (List.mem_of_getElem? (i := 27) rfl) rfl
theorem cw_X0_init : CWd yX0_init cX0_init 1 none 0 := ⟨m_1_2, m_1_27, by decide +kernel⟩
theorem m_1_26 : (Jvm.Cond.instanceMethod ({ cls := "EndTeller$Fraction", name := "<init>", desc := "()V" } : Jvm.MethodName)) ∈ TB := mt_1 (List.mem_of_getElem? (i := 26) rfl) rfl
theorem m_1_28 : (Jvm.Cond.methodLink "EndTeller$Fraction" (1 : Nat) ({ cls := "java/lang/Object", name := "<init>", desc := "()V" } : Jvm.MethodName)) ∈ TB := mt_1 (List.mem_of_getElem? (i := 28) rfl) rfl
theorem m_1_78 : (Jvm.Cond.code ({ cls := "EndTeller$Part", name := "<init>", desc := "()V" } : Jvm.MethodName) prog_3_method_1_code (1 : Nat) (Option.none : Option Jvm.ClassFile.FieldType)) ∈ TB := mt_1 (List.mem_of_getElem? (i := 78) rfl) rfl
theorem cw_X1_init : CWd yX1_init cX1_init 1 none 0 := ⟨m_1_7, m_1_78, by decide +kernel⟩
theorem m_1_77 : (Jvm.Cond.instanceMethod ({ cls := "EndTeller$Part", name := "<init>", desc := "()V" } : Jvm.MethodName)) ∈ TB := mt_1 (List.mem_of_getElem? (i := 77) rfl) rfl
theorem m_1_79 : (Jvm.Cond.methodLink "EndTeller$Part" (3 : Nat) ({ cls := "java/lang/Object", name := "<init>", desc := "()V" } : Jvm.MethodName)) ∈ TB := mt_1 (List.mem_of_getElem? (i := 79) rfl) rfl
theorem m_1_65 : (Jvm.Cond.code ({ cls := "EndTeller$Stepper", name := "<init>", desc := "()V" } : Jvm.MethodName) prog_4_method_1_code (1 : Nat) (Option.none : Option Jvm.ClassFile.FieldType)) ∈ TB := mt_1 (List.mem_of_getElem? (i := 65) rfl) rfl
theorem cw_X2_init : CWd yX2_init cX2_init 1 none 0 := ⟨m_1_5, m_1_65, by decide +kernel⟩
theorem m_1_64 : (Jvm.Cond.instanceMethod ({ cls := "EndTeller$Stepper", name := "<init>", desc := "()V" } : Jvm.MethodName)) ∈ TB := mt_1 (List.mem_of_getElem? (i := 64) rfl) rfl
theorem m_1_66 : (Jvm.Cond.methodLink "EndTeller$Stepper" (3 : Nat) ({ cls := "java/lang/Object", name := "<init>", desc := "()V" } : Jvm.MethodName)) ∈ TB := mt_1 (List.mem_of_getElem? (i := 66) rfl) rfl
theorem m_1_67 : (Jvm.Cond.classLink "EndTeller$Stepper" (9 : Nat) "EndTeller$Work") ∈ TB := mt_1 (List.mem_of_getElem? (i := 67) rfl) rfl
theorem m_1_68 : (Jvm.Cond.instantiable "EndTeller$Work" (7 : Nat)) ∈ TB := mt_1 (List.mem_of_getElem? (i := 68) rfl) rfl
theorem m_1_69 : (Jvm.Cond.methodLink "EndTeller$Stepper" (11 : Nat) ({ cls := "EndTeller$Work", name := "<init>", desc := "()V" } : Jvm.MethodName)) ∈ TB := mt_1 (List.mem_of_getElem? (i := 69) rfl) rfl
theorem m_1_47 : (Jvm.Cond.code ({ cls := "EndTeller$Table", name := "<init>", desc := "()V" } : Jvm.MethodName) prog_5_method_1_code (1 : Nat) (Option.none : Option Jvm.ClassFile.FieldType)) ∈ TB := mt_1 (List.mem_of_getElem? (i := 47) rfl) rfl
theorem cw_X3_init : CWd yX3_init cX3_init 1 none 0 := ⟨m_1_3, m_1_47, by decide +kernel⟩
theorem m_1_46 : (Jvm.Cond.instanceMethod ({ cls := "EndTeller$Table", name := "<init>", desc := "()V" } : Jvm.MethodName)) ∈ TB := mt_1 (List.mem_of_getElem? (i := 46) rfl) rfl
theorem m_1_48 : (Jvm.Cond.methodLink "EndTeller$Table" (3 : Nat) ({ cls := "java/lang/Object", name := "<init>", desc := "()V" } : Jvm.MethodName)) ∈ TB := mt_1 (List.mem_of_getElem? (i := 48) rfl) rfl
theorem m_1_231 : (Jvm.Cond.code ({ cls := "EndTeller$Tellings", name := "<init>", desc := "()V" } : Jvm.MethodName) prog_6_method_1_code (2 : Nat) (Option.none : Option Jvm.ClassFile.FieldType)) ∈ TB := mt_1 (List.mem_of_getElem? (i := 231) rfl) rfl
theorem cw_X4_init : CWd yX4_init cX4_init 2 none 0 := ⟨m_1_8, m_1_231, by decide +kernel⟩
theorem m_1_230 : (Jvm.Cond.instanceMethod ({ cls := "EndTeller$Tellings", name := "<init>", desc := "()V" } : Jvm.MethodName)) ∈ TB := mt_1 (List.mem_of_getElem? (i := 230) rfl) rfl
theorem m_1_232 : (Jvm.Cond.methodLink "EndTeller$Tellings" (3 : Nat) ({ cls := "java/lang/Object", name := "<init>", desc := "()V" } : Jvm.MethodName)) ∈ TB := mt_1 (List.mem_of_getElem? (i := 232) rfl) rfl
theorem m_1_233 : (Jvm.Cond.classLink "EndTeller$Tellings" (18 : Nat) "EndTeller$Fraction") ∈ TB := mt_1 (List.mem_of_getElem? (i := 233) rfl) rfl
theorem m_1_24 : (Jvm.Cond.instantiable "EndTeller$Fraction" (2 : Nat)) ∈ TB := mt_1 (List.mem_of_getElem? (i := 24) rfl) rfl
theorem m_2_21 : (Jvm.Cond.code ({ cls := "EndTeller$Tray", name := "<init>", desc := "()V" } : Jvm.MethodName) prog_7_method_1_code (1 : Nat) (Option.none : Option Jvm.ClassFile.FieldType)) ∈ TB := mt_2 (List.mem_of_getElem? (i := 21) rfl) rfl
theorem cw_X5_init : CWd yX5_init cX5_init 1 none 0 := ⟨m_1_9, m_2_21, by decide +kernel⟩
theorem m_2_20 : (Jvm.Cond.instanceMethod ({ cls := "EndTeller$Tray", name := "<init>", desc := "()V" } : Jvm.MethodName)) ∈ TB := mt_2 (List.mem_of_getElem? (i := 20) rfl) rfl
theorem m_2_22 : (Jvm.Cond.methodLink "EndTeller$Tray" (3 : Nat) ({ cls := "java/lang/Object", name := "<init>", desc := "()V" } : Jvm.MethodName)) ∈ TB := mt_2 (List.mem_of_getElem? (i := 22) rfl) rfl
theorem m_1_59 : (Jvm.Cond.code ({ cls := "EndTeller$Ways", name := "<init>", desc := "()V" } : Jvm.MethodName) prog_8_method_1_code (1 : Nat) (Option.none : Option Jvm.ClassFile.FieldType)) ∈ TB := mt_1 (List.mem_of_getElem? (i := 59) rfl) rfl
theorem cw_X6_init : CWd yX6_init cX6_init 1 none 0 := ⟨m_1_4, m_1_59, by decide +kernel⟩
theorem m_1_58 : (Jvm.Cond.instanceMethod ({ cls := "EndTeller$Ways", name := "<init>", desc := "()V" } : Jvm.MethodName)) ∈ TB := mt_1 (List.mem_of_getElem? (i := 58) rfl) rfl
theorem m_1_60 : (Jvm.Cond.methodLink "EndTeller$Ways" (3 : Nat) ({ cls := "java/lang/Object", name := "<init>", desc := "()V" } : Jvm.MethodName)) ∈ TB := mt_1 (List.mem_of_getElem? (i := 60) rfl) rfl
theorem m_1_61 : (Jvm.Cond.classLink "EndTeller$Ways" (9 : Nat) "EndTeller$Stepper") ∈ TB := mt_1 (List.mem_of_getElem? (i := 61) rfl) rfl
theorem m_1_62 : (Jvm.Cond.instantiable "EndTeller$Stepper" (9 : Nat)) ∈ TB := mt_1 (List.mem_of_getElem? (i := 62) rfl) rfl
theorem m_1_164 : (Jvm.Cond.fieldLink "EndTeller$Ways" (18 : Nat) "EndTeller$Stepper" "work" "LEndTeller$Work;") ∈ TB := mt_1 (List.mem_of_getElem? (i := 164) rfl) rfl
theorem fl_X6_18 : FL RX6 18 2 0 (.object "EndTeller$Work") true := ⟨RX2, TX2, 9, tyX2, rfl, by decide, m_1_164, uw_2, rfl, tyX2_ok 0 (by decide), tyX2_ok, nmX2, rfl⟩
theorem m_1_71 : (Jvm.Cond.code ({ cls := "EndTeller$Work", name := "<init>", desc := "()V" } : Jvm.MethodName) prog_9_method_1_code (2 : Nat) (Option.none : Option Jvm.ClassFile.FieldType)) ∈ TB := mt_1 (List.mem_of_getElem? (i := 71) rfl) rfl
theorem cw_X7_init : CWd yX7_init cX7_init 2 none 0 := ⟨m_1_6, m_1_71, by decide +kernel⟩
theorem m_1_70 : (Jvm.Cond.instanceMethod ({ cls := "EndTeller$Work", name := "<init>", desc := "()V" } : Jvm.MethodName)) ∈ TB := mt_1 (List.mem_of_getElem? (i := 70) rfl) rfl
theorem m_1_72 : (Jvm.Cond.methodLink "EndTeller$Work" (3 : Nat) ({ cls := "java/lang/Object", name := "<init>", desc := "()V" } : Jvm.MethodName)) ∈ TB := mt_1 (List.mem_of_getElem? (i := 72) rfl) rfl
theorem m_1_73 : (Jvm.Cond.classLink "EndTeller$Work" (9 : Nat) "EndTeller$Part") ∈ TB := mt_1 (List.mem_of_getElem? (i := 73) rfl) rfl
theorem m_1_75 : (Jvm.Cond.instantiable "EndTeller$Part" (8 : Nat)) ∈ TB := mt_1 (List.mem_of_getElem? (i := 75) rfl) rfl
theorem m_1_19 : (Jvm.Cond.code ({ cls := "EndTeller", name := "<init>", desc := "()V" } : Jvm.MethodName) prog_1_method_1_code (2 : Nat) (Option.none : Option Jvm.ClassFile.FieldType)) ∈ TB := mt_1 (List.mem_of_getElem? (i := 19) rfl) rfl
theorem cw_X8_init : CWd yX8_init cX8_init 2 none 0 := ⟨m_1_1, m_1_19, by decide +kernel⟩
theorem m_1_18 : (Jvm.Cond.instanceMethod ({ cls := "EndTeller", name := "<init>", desc := "()V" } : Jvm.MethodName)) ∈ TB := mt_1 (List.mem_of_getElem? (i := 18) rfl) rfl
theorem m_1_20 : (Jvm.Cond.methodLink "EndTeller" (3 : Nat) ({ cls := "java/lang/Object", name := "<init>", desc := "()V" } : Jvm.MethodName)) ∈ TB := mt_1 (List.mem_of_getElem? (i := 20) rfl) rfl
theorem m_1_23 : (Jvm.Cond.classLink "EndTeller" (13 : Nat) "EndTeller$Fraction") ∈ TB := mt_1 (List.mem_of_getElem? (i := 23) rfl) rfl
theorem m_1_41 : (Jvm.Cond.classLink "EndTeller" (26 : Nat) "EndTeller$Tray") ∈ TB := mt_1 (List.mem_of_getElem? (i := 41) rfl) rfl
theorem m_1_43 : (Jvm.Cond.classLink "EndTeller" (32 : Nat) "EndTeller$Table") ∈ TB := mt_1 (List.mem_of_getElem? (i := 43) rfl) rfl
theorem m_1_44 : (Jvm.Cond.instantiable "EndTeller$Table" (1 : Nat)) ∈ TB := mt_1 (List.mem_of_getElem? (i := 44) rfl) rfl
theorem m_1_55 : (Jvm.Cond.classLink "EndTeller" (39 : Nat) "EndTeller$Ways") ∈ TB := mt_1 (List.mem_of_getElem? (i := 55) rfl) rfl
theorem m_1_56 : (Jvm.Cond.instantiable "EndTeller$Ways" (10 : Nat)) ∈ TB := mt_1 (List.mem_of_getElem? (i := 56) rfl) rfl
theorem m_1_195 : (Jvm.Cond.fieldLink "EndTeller" (46 : Nat) "EndTeller$Ways" "work" "LEndTeller$Work;") ∈ TB := mt_1 (List.mem_of_getElem? (i := 195) rfl) rfl
theorem fl_X8_46 : FL RX8 46 6 1 (.object "EndTeller$Work") true := ⟨RX6, TX6, 10, tyX6, rfl, by decide, m_1_195, uw_6, rfl, tyX6_ok 1 (by decide), tyX6_ok, nmX6, rfl⟩
theorem m_1_227 : (Jvm.Cond.classLink "EndTeller" (51 : Nat) "EndTeller$Tellings") ∈ TB := mt_1 (List.mem_of_getElem? (i := 227) rfl) rfl
theorem m_1_228 : (Jvm.Cond.instantiable "EndTeller$Tellings" (5 : Nat)) ∈ TB := mt_1 (List.mem_of_getElem? (i := 228) rfl) rfl
theorem m_1_229 : (Jvm.Cond.methodLink "EndTeller" (53 : Nat) ({ cls := "EndTeller$Tellings", name := "<init>", desc := "()V" } : Jvm.MethodName)) ∈ TB := mt_1 (List.mem_of_getElem? (i := 229) rfl) rfl
theorem m_2_18 : (Jvm.Cond.instantiable "EndTeller$Tray" (3 : Nat)) ∈ TB := mt_2 (List.mem_of_getElem? (i := 18) rfl) rfl
theorem m_4_7 : (Jvm.Cond.code ({ cls := "EndTellerModel", name := "<init>", desc := "()V" } : Jvm.MethodName) prog_11_method_1_code (2 : Nat) (Option.none : Option Jvm.ClassFile.FieldType)) ∈ TB := mt_4 (List.mem_of_getElem? (i := 7) rfl) rfl
theorem cw_X9_init : CWd yX9_init cX9_init 2 none 0 := ⟨m_1_10, m_4_7, by decide +kernel⟩
theorem m_4_6 : (Jvm.Cond.instanceMethod ({ cls := "EndTellerModel", name := "<init>", desc := "()V" } : Jvm.MethodName)) ∈ TB := mt_4 (List.mem_of_getElem? (i := 6) rfl) rfl
theorem m_4_8 : (Jvm.Cond.methodLink "EndTellerModel" (1 : Nat) ({ cls := "java/lang/Object", name := "<init>", desc := "()V" } : Jvm.MethodName)) ∈ TB := mt_4 (List.mem_of_getElem? (i := 8) rfl) rfl
theorem m_4_35 : (Jvm.Cond.fieldLink "EndTellerModel" (77 : Nat) "EndTellerModel" "of" "[J") ∈ TB := mt_4 (List.mem_of_getElem? (i := 35) rfl) rfl
theorem fl_X9_77 : FL RX9 77 9 26 (.array (.long)) true := ⟨RX9, TX9, 37, tyX9, rfl, by decide, m_4_35, uw_9, rfl, tyX9_ok 26 (by decide), tyX9_ok, nmX9, rfl⟩
theorem m_1_54 : (Jvm.Cond.arrayClass Jvm.ClassFile.FieldType.long) ∈ TB := mt_1 (List.mem_of_getElem? (i := 54) rfl) rfl
theorem m_2_17 : (Jvm.Cond.arrayClass Jvm.ClassFile.FieldType.boolean) ∈ TB := mt_2 (List.mem_of_getElem? (i := 17) rfl) rfl
theorem m_1_15 : (Jvm.Cond.classLink "EndTellerLaw" (7 : Nat) "EndTeller") ∈ TB := mt_1 (List.mem_of_getElem? (i := 15) rfl) rfl
theorem m_1_16 : (Jvm.Cond.instantiable "EndTeller" (9 : Nat)) ∈ TB := mt_1 (List.mem_of_getElem? (i := 16) rfl) rfl
theorem m_1_17 : (Jvm.Cond.methodLink "EndTellerLaw" (9 : Nat) ({ cls := "EndTeller", name := "<init>", desc := "()V" } : Jvm.MethodName)) ∈ TB := mt_1 (List.mem_of_getElem? (i := 17) rfl) rfl
theorem m_4_3 : (Jvm.Cond.classLink "EndTellerLaw" (10 : Nat) "EndTellerModel") ∈ TB := mt_4 (List.mem_of_getElem? (i := 3) rfl) rfl
theorem m_4_4 : (Jvm.Cond.instantiable "EndTellerModel" (37 : Nat)) ∈ TB := mt_4 (List.mem_of_getElem? (i := 4) rfl) rfl
theorem m_4_5 : (Jvm.Cond.methodLink "EndTellerLaw" (12 : Nat) ({ cls := "EndTellerModel", name := "<init>", desc := "()V" } : Jvm.MethodName)) ∈ TB := mt_4 (List.mem_of_getElem? (i := 5) rfl) rfl
theorem m_2_63 : (Jvm.Cond.methodLink "EndTellerLaw" (13 : Nat) ({ cls := "EndTeller", name := "status", desc := "()I" } : Jvm.MethodName)) ∈ TB := mt_2 (List.mem_of_getElem? (i := 63) rfl) rfl
theorem m_2_64 : (Jvm.Cond.instanceMethod ({ cls := "EndTeller", name := "status", desc := "()I" } : Jvm.MethodName)) ∈ TB := mt_2 (List.mem_of_getElem? (i := 64) rfl) rfl
theorem m_2_66 : (Jvm.Cond.code ({ cls := "EndTeller", name := "status", desc := "()I" } : Jvm.MethodName) prog_1_method_2_code (1 : Nat) (Option.some Jvm.ClassFile.FieldType.int)) ∈ TB := mt_2 (List.mem_of_getElem? (i := 66) rfl) rfl
theorem cw_X8_status : CWd yX8_status cX8_status 1 (some .int) 0 := ⟨m_1_1, m_2_66, by decide +kernel⟩
theorem m_2_65 : (Jvm.Cond.selects "EndTeller" ({ cls := "EndTeller", name := "status", desc := "()I" } : Jvm.MethodName) ({ cls := "EndTeller", name := "status", desc := "()I" } : Jvm.MethodName)) ∈ TB := mt_2 (List.mem_of_getElem? (i := 65) rfl) rfl
theorem m_4_121 : (Jvm.Cond.methodLink "EndTellerLaw" (17 : Nat) ({ cls := "EndTellerModel", name := "status", desc := "()I" } : Jvm.MethodName)) ∈ TB := mt_4 (List.mem_of_getElem? (i := 121) rfl) rfl
theorem m_4_122 : (Jvm.Cond.instanceMethod ({ cls := "EndTellerModel", name := "status", desc := "()I" } : Jvm.MethodName)) ∈ TB := mt_4 (List.mem_of_getElem? (i := 122) rfl) rfl
theorem m_4_124 : (Jvm.Cond.code ({ cls := "EndTellerModel", name := "status", desc := "()I" } : Jvm.MethodName) prog_11_method_3_code (1 : Nat) (Option.some Jvm.ClassFile.FieldType.int)) ∈ TB := mt_4 (List.mem_of_getElem? (i := 124) rfl) rfl
theorem cw_X9_status : CWd yX9_status cX9_status 1 (some .int) 0 := ⟨m_1_10, m_4_124, by decide +kernel⟩
theorem m_4_123 : (Jvm.Cond.selects "EndTellerModel" ({ cls := "EndTellerModel", name := "status", desc := "()I" } : Jvm.MethodName) ({ cls := "EndTellerModel", name := "status", desc := "()I" } : Jvm.MethodName)) ∈ TB := mt_4 (List.mem_of_getElem? (i := 123) rfl) rfl
theorem m_2_67 : (Jvm.Cond.methodLink "EndTellerLaw" (18 : Nat) ({ cls := "EndTeller", name := "tray", desc := "(III)Z" } : Jvm.MethodName)) ∈ TB := mt_2 (List.mem_of_getElem? (i := 67) rfl) rfl
theorem m_2_68 : (Jvm.Cond.instanceMethod ({ cls := "EndTeller", name := "tray", desc := "(III)Z" } : Jvm.MethodName)) ∈ TB := mt_2 (List.mem_of_getElem? (i := 68) rfl) rfl
theorem m_2_70 : (Jvm.Cond.code ({ cls := "EndTeller", name := "tray", desc := "(III)Z" } : Jvm.MethodName) prog_1_method_3_code (4 : Nat) (Option.some Jvm.ClassFile.FieldType.boolean)) ∈ TB := mt_2 (List.mem_of_getElem? (i := 70) rfl) rfl
theorem cw_X8_tray : CWd yX8_tray cX8_tray 4 (some .boolean) 3 := ⟨m_1_1, m_2_70, by decide +kernel⟩
theorem m_2_69 : (Jvm.Cond.selects "EndTeller" ({ cls := "EndTeller", name := "tray", desc := "(III)Z" } : Jvm.MethodName) ({ cls := "EndTeller", name := "tray", desc := "(III)Z" } : Jvm.MethodName)) ∈ TB := mt_2 (List.mem_of_getElem? (i := 69) rfl) rfl
theorem m_4_125 : (Jvm.Cond.methodLink "EndTellerLaw" (22 : Nat) ({ cls := "EndTellerModel", name := "tray", desc := "(III)Z" } : Jvm.MethodName)) ∈ TB := mt_4 (List.mem_of_getElem? (i := 125) rfl) rfl
theorem m_4_126 : (Jvm.Cond.instanceMethod ({ cls := "EndTellerModel", name := "tray", desc := "(III)Z" } : Jvm.MethodName)) ∈ TB := mt_4 (List.mem_of_getElem? (i := 126) rfl) rfl
theorem m_4_128 : (Jvm.Cond.code ({ cls := "EndTellerModel", name := "tray", desc := "(III)Z" } : Jvm.MethodName) prog_11_method_7_code (5 : Nat) (Option.some Jvm.ClassFile.FieldType.boolean)) ∈ TB := mt_4 (List.mem_of_getElem? (i := 128) rfl) rfl
theorem cw_X9_tray : CWd yX9_tray cX9_tray 5 (some .boolean) 3 := ⟨m_1_10, m_4_128, by decide +kernel⟩
theorem m_4_127 : (Jvm.Cond.selects "EndTellerModel" ({ cls := "EndTellerModel", name := "tray", desc := "(III)Z" } : Jvm.MethodName) ({ cls := "EndTellerModel", name := "tray", desc := "(III)Z" } : Jvm.MethodName)) ∈ TB := mt_4 (List.mem_of_getElem? (i := 127) rfl) rfl
theorem m_5_119 : (Jvm.Cond.constantLong "EndTellerLaw" (23 : Nat) (4294967295 : Int64)) ∈ TB := mt_5 (List.mem_of_getElem? (i := 119) rfl) rfl
theorem m_2_89 : (Jvm.Cond.methodLink "EndTellerLaw" (25 : Nat) ({ cls := "EndTeller", name := "write", desc := "(IIJ)Z" } : Jvm.MethodName)) ∈ TB := mt_2 (List.mem_of_getElem? (i := 89) rfl) rfl
theorem m_2_90 : (Jvm.Cond.instanceMethod ({ cls := "EndTeller", name := "write", desc := "(IIJ)Z" } : Jvm.MethodName)) ∈ TB := mt_2 (List.mem_of_getElem? (i := 90) rfl) rfl
theorem m_2_92 : (Jvm.Cond.code ({ cls := "EndTeller", name := "write", desc := "(IIJ)Z" } : Jvm.MethodName) prog_1_method_4_code (6 : Nat) (Option.some Jvm.ClassFile.FieldType.boolean)) ∈ TB := mt_2 (List.mem_of_getElem? (i := 92) rfl) rfl
theorem cw_X8_write : CWd yX8_write cX8_write 6 (some .boolean) 3 := ⟨m_1_1, m_2_92, by decide +kernel⟩
theorem m_2_91 : (Jvm.Cond.selects "EndTeller" ({ cls := "EndTeller", name := "write", desc := "(IIJ)Z" } : Jvm.MethodName) ({ cls := "EndTeller", name := "write", desc := "(IIJ)Z" } : Jvm.MethodName)) ∈ TB := mt_2 (List.mem_of_getElem? (i := 91) rfl) rfl
theorem m_4_133 : (Jvm.Cond.methodLink "EndTellerLaw" (29 : Nat) ({ cls := "EndTellerModel", name := "write", desc := "(IIJ)Z" } : Jvm.MethodName)) ∈ TB := mt_4 (List.mem_of_getElem? (i := 133) rfl) rfl
theorem m_4_134 : (Jvm.Cond.instanceMethod ({ cls := "EndTellerModel", name := "write", desc := "(IIJ)Z" } : Jvm.MethodName)) ∈ TB := mt_4 (List.mem_of_getElem? (i := 134) rfl) rfl
theorem m_4_136 : (Jvm.Cond.code ({ cls := "EndTellerModel", name := "write", desc := "(IIJ)Z" } : Jvm.MethodName) prog_11_method_10_code (5 : Nat) (Option.some Jvm.ClassFile.FieldType.boolean)) ∈ TB := mt_4 (List.mem_of_getElem? (i := 136) rfl) rfl
theorem cw_X9_write : CWd yX9_write cX9_write 5 (some .boolean) 3 := ⟨m_1_10, m_4_136, by decide +kernel⟩
theorem m_4_135 : (Jvm.Cond.selects "EndTellerModel" ({ cls := "EndTellerModel", name := "write", desc := "(IIJ)Z" } : Jvm.MethodName) ({ cls := "EndTellerModel", name := "write", desc := "(IIJ)Z" } : Jvm.MethodName)) ∈ TB := mt_4 (List.mem_of_getElem? (i := 135) rfl) rfl
theorem m_2_114 : (Jvm.Cond.methodLink "EndTellerLaw" (30 : Nat) ({ cls := "EndTeller", name := "read", desc := "(II)J" } : Jvm.MethodName)) ∈ TB := mt_2 (List.mem_of_getElem? (i := 114) rfl) rfl
theorem m_2_115 : (Jvm.Cond.instanceMethod ({ cls := "EndTeller", name := "read", desc := "(II)J" } : Jvm.MethodName)) ∈ TB := mt_2 (List.mem_of_getElem? (i := 115) rfl) rfl
theorem m_2_117 : (Jvm.Cond.code ({ cls := "EndTeller", name := "read", desc := "(II)J" } : Jvm.MethodName) prog_1_method_5_code (4 : Nat) (Option.some Jvm.ClassFile.FieldType.long)) ∈ TB := mt_2 (List.mem_of_getElem? (i := 117) rfl) rfl
theorem cw_X8_read : CWd yX8_read cX8_read 4 (some .long) 2 := ⟨m_1_1, m_2_117, by decide +kernel⟩
theorem m_2_116 : (Jvm.Cond.selects "EndTeller" ({ cls := "EndTeller", name := "read", desc := "(II)J" } : Jvm.MethodName) ({ cls := "EndTeller", name := "read", desc := "(II)J" } : Jvm.MethodName)) ∈ TB := mt_2 (List.mem_of_getElem? (i := 116) rfl) rfl
theorem m_4_148 : (Jvm.Cond.methodLink "EndTellerLaw" (34 : Nat) ({ cls := "EndTellerModel", name := "read", desc := "(II)J" } : Jvm.MethodName)) ∈ TB := mt_4 (List.mem_of_getElem? (i := 148) rfl) rfl
theorem m_4_149 : (Jvm.Cond.instanceMethod ({ cls := "EndTellerModel", name := "read", desc := "(II)J" } : Jvm.MethodName)) ∈ TB := mt_4 (List.mem_of_getElem? (i := 149) rfl) rfl
theorem m_4_151 : (Jvm.Cond.code ({ cls := "EndTellerModel", name := "read", desc := "(II)J" } : Jvm.MethodName) prog_11_method_11_code (3 : Nat) (Option.some Jvm.ClassFile.FieldType.long)) ∈ TB := mt_4 (List.mem_of_getElem? (i := 151) rfl) rfl
theorem cw_X9_read : CWd yX9_read cX9_read 3 (some .long) 2 := ⟨m_1_10, m_4_151, by decide +kernel⟩
theorem m_4_150 : (Jvm.Cond.selects "EndTellerModel" ({ cls := "EndTellerModel", name := "read", desc := "(II)J" } : Jvm.MethodName) ({ cls := "EndTellerModel", name := "read", desc := "(II)J" } : Jvm.MethodName)) ∈ TB := mt_4 (List.mem_of_getElem? (i := 150) rfl) rfl
theorem m_2_126 : (Jvm.Cond.methodLink "EndTellerLaw" (35 : Nat) ({ cls := "EndTeller", name := "pour", desc := "(IIIII)Z" } : Jvm.MethodName)) ∈ TB := mt_2 (List.mem_of_getElem? (i := 126) rfl) rfl
theorem m_2_127 : (Jvm.Cond.instanceMethod ({ cls := "EndTeller", name := "pour", desc := "(IIIII)Z" } : Jvm.MethodName)) ∈ TB := mt_2 (List.mem_of_getElem? (i := 127) rfl) rfl
theorem m_2_129 : (Jvm.Cond.code ({ cls := "EndTeller", name := "pour", desc := "(IIIII)Z" } : Jvm.MethodName) prog_1_method_6_code (8 : Nat) (Option.some Jvm.ClassFile.FieldType.boolean)) ∈ TB := mt_2 (List.mem_of_getElem? (i := 129) rfl) rfl
theorem cw_X8_pour : CWd yX8_pour cX8_pour 8 (some .boolean) 5 := ⟨m_1_1, m_2_129, by decide +kernel⟩
theorem m_2_128 : (Jvm.Cond.selects "EndTeller" ({ cls := "EndTeller", name := "pour", desc := "(IIIII)Z" } : Jvm.MethodName) ({ cls := "EndTeller", name := "pour", desc := "(IIIII)Z" } : Jvm.MethodName)) ∈ TB := mt_2 (List.mem_of_getElem? (i := 128) rfl) rfl
theorem m_4_153 : (Jvm.Cond.methodLink "EndTellerLaw" (39 : Nat) ({ cls := "EndTellerModel", name := "pour", desc := "(IIIII)Z" } : Jvm.MethodName)) ∈ TB := mt_4 (List.mem_of_getElem? (i := 153) rfl) rfl
theorem m_4_154 : (Jvm.Cond.instanceMethod ({ cls := "EndTellerModel", name := "pour", desc := "(IIIII)Z" } : Jvm.MethodName)) ∈ TB := mt_4 (List.mem_of_getElem? (i := 154) rfl) rfl
theorem m_4_156 : (Jvm.Cond.code ({ cls := "EndTellerModel", name := "pour", desc := "(IIIII)Z" } : Jvm.MethodName) prog_11_method_12_code (9 : Nat) (Option.some Jvm.ClassFile.FieldType.boolean)) ∈ TB := mt_4 (List.mem_of_getElem? (i := 156) rfl) rfl
theorem cw_X9_pour : CWd yX9_pour cX9_pour 9 (some .boolean) 5 := ⟨m_1_10, m_4_156, by decide +kernel⟩
theorem m_4_155 : (Jvm.Cond.selects "EndTellerModel" ({ cls := "EndTellerModel", name := "pour", desc := "(IIIII)Z" } : Jvm.MethodName) ({ cls := "EndTellerModel", name := "pour", desc := "(IIIII)Z" } : Jvm.MethodName)) ∈ TB := mt_4 (List.mem_of_getElem? (i := 155) rfl) rfl
theorem m_2_137 : (Jvm.Cond.methodLink "EndTellerLaw" (40 : Nat) ({ cls := "EndTeller", name := "part", desc := "(III)I" } : Jvm.MethodName)) ∈ TB := mt_2 (List.mem_of_getElem? (i := 137) rfl) rfl
theorem m_2_138 : (Jvm.Cond.instanceMethod ({ cls := "EndTeller", name := "part", desc := "(III)I" } : Jvm.MethodName)) ∈ TB := mt_2 (List.mem_of_getElem? (i := 138) rfl) rfl
theorem m_2_140 : (Jvm.Cond.code ({ cls := "EndTeller", name := "part", desc := "(III)I" } : Jvm.MethodName) prog_1_method_7_code (6 : Nat) (Option.some Jvm.ClassFile.FieldType.int)) ∈ TB := mt_2 (List.mem_of_getElem? (i := 140) rfl) rfl
theorem cw_X8_part : CWd yX8_part cX8_part 6 (some .int) 3 := ⟨m_1_1, m_2_140, by decide +kernel⟩
theorem m_2_139 : (Jvm.Cond.selects "EndTeller" ({ cls := "EndTeller", name := "part", desc := "(III)I" } : Jvm.MethodName) ({ cls := "EndTeller", name := "part", desc := "(III)I" } : Jvm.MethodName)) ∈ TB := mt_2 (List.mem_of_getElem? (i := 139) rfl) rfl
theorem m_4_157 : (Jvm.Cond.methodLink "EndTellerLaw" (44 : Nat) ({ cls := "EndTellerModel", name := "part", desc := "(III)I" } : Jvm.MethodName)) ∈ TB := mt_4 (List.mem_of_getElem? (i := 157) rfl) rfl
theorem m_4_158 : (Jvm.Cond.instanceMethod ({ cls := "EndTellerModel", name := "part", desc := "(III)I" } : Jvm.MethodName)) ∈ TB := mt_4 (List.mem_of_getElem? (i := 158) rfl) rfl
theorem m_4_160 : (Jvm.Cond.code ({ cls := "EndTellerModel", name := "part", desc := "(III)I" } : Jvm.MethodName) prog_11_method_17_code (11 : Nat) (Option.some Jvm.ClassFile.FieldType.int)) ∈ TB := mt_4 (List.mem_of_getElem? (i := 160) rfl) rfl
theorem cw_X9_part : CWd yX9_part cX9_part 11 (some .int) 3 := ⟨m_1_10, m_4_160, by decide +kernel⟩
theorem m_4_159 : (Jvm.Cond.selects "EndTellerModel" ({ cls := "EndTellerModel", name := "part", desc := "(III)I" } : Jvm.MethodName) ({ cls := "EndTellerModel", name := "part", desc := "(III)I" } : Jvm.MethodName)) ∈ TB := mt_4 (List.mem_of_getElem? (i := 159) rfl) rfl
theorem m_2_192 : (Jvm.Cond.methodLink "EndTellerLaw" (45 : Nat) ({ cls := "EndTeller", name := "fixed", desc := "(II)I" } : Jvm.MethodName)) ∈ TB := mt_2 (List.mem_of_getElem? (i := 192) rfl) rfl
theorem m_2_193 : (Jvm.Cond.instanceMethod ({ cls := "EndTeller", name := "fixed", desc := "(II)I" } : Jvm.MethodName)) ∈ TB := mt_2 (List.mem_of_getElem? (i := 193) rfl) rfl
theorem m_2_195 : (Jvm.Cond.code ({ cls := "EndTeller", name := "fixed", desc := "(II)I" } : Jvm.MethodName) prog_1_method_8_code (3 : Nat) (Option.some Jvm.ClassFile.FieldType.int)) ∈ TB := mt_2 (List.mem_of_getElem? (i := 195) rfl) rfl
theorem cw_X8_fixed : CWd yX8_fixed cX8_fixed 3 (some .int) 2 := ⟨m_1_1, m_2_195, by decide +kernel⟩
theorem m_2_194 : (Jvm.Cond.selects "EndTeller" ({ cls := "EndTeller", name := "fixed", desc := "(II)I" } : Jvm.MethodName) ({ cls := "EndTeller", name := "fixed", desc := "(II)I" } : Jvm.MethodName)) ∈ TB := mt_2 (List.mem_of_getElem? (i := 194) rfl) rfl
theorem m_4_181 : (Jvm.Cond.methodLink "EndTellerLaw" (49 : Nat) ({ cls := "EndTellerModel", name := "fixed", desc := "(II)I" } : Jvm.MethodName)) ∈ TB := mt_4 (List.mem_of_getElem? (i := 181) rfl) rfl
theorem m_4_182 : (Jvm.Cond.instanceMethod ({ cls := "EndTellerModel", name := "fixed", desc := "(II)I" } : Jvm.MethodName)) ∈ TB := mt_4 (List.mem_of_getElem? (i := 182) rfl) rfl
theorem m_4_184 : (Jvm.Cond.code ({ cls := "EndTellerModel", name := "fixed", desc := "(II)I" } : Jvm.MethodName) prog_11_method_18_code (3 : Nat) (Option.some Jvm.ClassFile.FieldType.int)) ∈ TB := mt_4 (List.mem_of_getElem? (i := 184) rfl) rfl
theorem cw_X9_fixed : CWd yX9_fixed cX9_fixed 3 (some .int) 2 := ⟨m_1_10, m_4_184, by decide +kernel⟩
theorem m_4_183 : (Jvm.Cond.selects "EndTellerModel" ({ cls := "EndTellerModel", name := "fixed", desc := "(II)I" } : Jvm.MethodName) ({ cls := "EndTellerModel", name := "fixed", desc := "(II)I" } : Jvm.MethodName)) ∈ TB := mt_4 (List.mem_of_getElem? (i := 183) rfl) rfl
theorem m_2_196 : (Jvm.Cond.methodLink "EndTellerLaw" (50 : Nat) ({ cls := "EndTeller", name := "either", desc := "(IIIII)I" } : Jvm.MethodName)) ∈ TB := mt_2 (List.mem_of_getElem? (i := 196) rfl) rfl
theorem m_2_197 : (Jvm.Cond.instanceMethod ({ cls := "EndTeller", name := "either", desc := "(IIIII)I" } : Jvm.MethodName)) ∈ TB := mt_2 (List.mem_of_getElem? (i := 197) rfl) rfl
theorem m_2_199 : (Jvm.Cond.code ({ cls := "EndTeller", name := "either", desc := "(IIIII)I" } : Jvm.MethodName) prog_1_method_9_code (8 : Nat) (Option.some Jvm.ClassFile.FieldType.int)) ∈ TB := mt_2 (List.mem_of_getElem? (i := 199) rfl) rfl
theorem cw_X8_either : CWd yX8_either cX8_either 8 (some .int) 5 := ⟨m_1_1, m_2_199, by decide +kernel⟩
theorem m_2_198 : (Jvm.Cond.selects "EndTeller" ({ cls := "EndTeller", name := "either", desc := "(IIIII)I" } : Jvm.MethodName) ({ cls := "EndTeller", name := "either", desc := "(IIIII)I" } : Jvm.MethodName)) ∈ TB := mt_2 (List.mem_of_getElem? (i := 198) rfl) rfl
theorem m_4_185 : (Jvm.Cond.methodLink "EndTellerLaw" (54 : Nat) ({ cls := "EndTellerModel", name := "either", desc := "(IIIII)I" } : Jvm.MethodName)) ∈ TB := mt_4 (List.mem_of_getElem? (i := 185) rfl) rfl
theorem m_4_186 : (Jvm.Cond.instanceMethod ({ cls := "EndTellerModel", name := "either", desc := "(IIIII)I" } : Jvm.MethodName)) ∈ TB := mt_4 (List.mem_of_getElem? (i := 186) rfl) rfl
theorem m_4_188 : (Jvm.Cond.code ({ cls := "EndTellerModel", name := "either", desc := "(IIIII)I" } : Jvm.MethodName) prog_11_method_21_code (7 : Nat) (Option.some Jvm.ClassFile.FieldType.int)) ∈ TB := mt_4 (List.mem_of_getElem? (i := 188) rfl) rfl
theorem cw_X9_either : CWd yX9_either cX9_either 7 (some .int) 5 := ⟨m_1_10, m_4_188, by decide +kernel⟩
theorem m_4_187 : (Jvm.Cond.selects "EndTellerModel" ({ cls := "EndTellerModel", name := "either", desc := "(IIIII)I" } : Jvm.MethodName) ({ cls := "EndTellerModel", name := "either", desc := "(IIIII)I" } : Jvm.MethodName)) ∈ TB := mt_4 (List.mem_of_getElem? (i := 187) rfl) rfl
theorem m_2_209 : (Jvm.Cond.methodLink "EndTellerLaw" (55 : Nat) ({ cls := "EndTeller", name := "again", desc := "(IIII)I" } : Jvm.MethodName)) ∈ TB := mt_2 (List.mem_of_getElem? (i := 209) rfl) rfl
theorem m_2_210 : (Jvm.Cond.instanceMethod ({ cls := "EndTeller", name := "again", desc := "(IIII)I" } : Jvm.MethodName)) ∈ TB := mt_2 (List.mem_of_getElem? (i := 210) rfl) rfl
theorem m_2_212 : (Jvm.Cond.code ({ cls := "EndTeller", name := "again", desc := "(IIII)I" } : Jvm.MethodName) prog_1_method_10_code (6 : Nat) (Option.some Jvm.ClassFile.FieldType.int)) ∈ TB := mt_2 (List.mem_of_getElem? (i := 212) rfl) rfl
theorem cw_X8_again : CWd yX8_again cX8_again 6 (some .int) 4 := ⟨m_1_1, m_2_212, by decide +kernel⟩
theorem m_2_211 : (Jvm.Cond.selects "EndTeller" ({ cls := "EndTeller", name := "again", desc := "(IIII)I" } : Jvm.MethodName) ({ cls := "EndTeller", name := "again", desc := "(IIII)I" } : Jvm.MethodName)) ∈ TB := mt_2 (List.mem_of_getElem? (i := 211) rfl) rfl
theorem m_4_197 : (Jvm.Cond.methodLink "EndTellerLaw" (59 : Nat) ({ cls := "EndTellerModel", name := "again", desc := "(IIII)I" } : Jvm.MethodName)) ∈ TB := mt_4 (List.mem_of_getElem? (i := 197) rfl) rfl
theorem m_4_198 : (Jvm.Cond.instanceMethod ({ cls := "EndTellerModel", name := "again", desc := "(IIII)I" } : Jvm.MethodName)) ∈ TB := mt_4 (List.mem_of_getElem? (i := 198) rfl) rfl
theorem m_4_200 : (Jvm.Cond.code ({ cls := "EndTellerModel", name := "again", desc := "(IIII)I" } : Jvm.MethodName) prog_11_method_22_code (8 : Nat) (Option.some Jvm.ClassFile.FieldType.int)) ∈ TB := mt_4 (List.mem_of_getElem? (i := 200) rfl) rfl
theorem cw_X9_again : CWd yX9_again cX9_again 8 (some .int) 4 := ⟨m_1_10, m_4_200, by decide +kernel⟩
theorem m_4_199 : (Jvm.Cond.selects "EndTellerModel" ({ cls := "EndTellerModel", name := "again", desc := "(IIII)I" } : Jvm.MethodName) ({ cls := "EndTellerModel", name := "again", desc := "(IIII)I" } : Jvm.MethodName)) ∈ TB := mt_4 (List.mem_of_getElem? (i := 199) rfl) rfl
theorem m_2_217 : (Jvm.Cond.methodLink "EndTellerLaw" (60 : Nat) ({ cls := "EndTeller", name := "need", desc := "(IIZ)Z" } : Jvm.MethodName)) ∈ TB := mt_2 (List.mem_of_getElem? (i := 217) rfl) rfl
theorem m_2_218 : (Jvm.Cond.instanceMethod ({ cls := "EndTeller", name := "need", desc := "(IIZ)Z" } : Jvm.MethodName)) ∈ TB := mt_2 (List.mem_of_getElem? (i := 218) rfl) rfl
theorem m_2_220 : (Jvm.Cond.code ({ cls := "EndTeller", name := "need", desc := "(IIZ)Z" } : Jvm.MethodName) prog_1_method_11_code (4 : Nat) (Option.some Jvm.ClassFile.FieldType.boolean)) ∈ TB := mt_2 (List.mem_of_getElem? (i := 220) rfl) rfl
theorem cw_X8_need : CWd yX8_need cX8_need 4 (some .boolean) 3 := ⟨m_1_1, m_2_220, by decide +kernel⟩
theorem m_2_219 : (Jvm.Cond.selects "EndTeller" ({ cls := "EndTeller", name := "need", desc := "(IIZ)Z" } : Jvm.MethodName) ({ cls := "EndTeller", name := "need", desc := "(IIZ)Z" } : Jvm.MethodName)) ∈ TB := mt_2 (List.mem_of_getElem? (i := 219) rfl) rfl
theorem m_4_201 : (Jvm.Cond.methodLink "EndTellerLaw" (64 : Nat) ({ cls := "EndTellerModel", name := "need", desc := "(IIZ)Z" } : Jvm.MethodName)) ∈ TB := mt_4 (List.mem_of_getElem? (i := 201) rfl) rfl
theorem m_4_202 : (Jvm.Cond.instanceMethod ({ cls := "EndTellerModel", name := "need", desc := "(IIZ)Z" } : Jvm.MethodName)) ∈ TB := mt_4 (List.mem_of_getElem? (i := 202) rfl) rfl
theorem m_4_204 : (Jvm.Cond.code ({ cls := "EndTellerModel", name := "need", desc := "(IIZ)Z" } : Jvm.MethodName) prog_11_method_23_code (4 : Nat) (Option.some Jvm.ClassFile.FieldType.boolean)) ∈ TB := mt_4 (List.mem_of_getElem? (i := 204) rfl) rfl
theorem cw_X9_need : CWd yX9_need cX9_need 4 (some .boolean) 3 := ⟨m_1_10, m_4_204, by decide +kernel⟩
theorem m_4_203 : (Jvm.Cond.selects "EndTellerModel" ({ cls := "EndTellerModel", name := "need", desc := "(IIZ)Z" } : Jvm.MethodName) ({ cls := "EndTellerModel", name := "need", desc := "(IIZ)Z" } : Jvm.MethodName)) ∈ TB := mt_4 (List.mem_of_getElem? (i := 203) rfl) rfl
theorem m_2_225 : (Jvm.Cond.methodLink "EndTellerLaw" (65 : Nat) ({ cls := "EndTeller", name := "cause", desc := "(II)I" } : Jvm.MethodName)) ∈ TB := mt_2 (List.mem_of_getElem? (i := 225) rfl) rfl
theorem m_2_226 : (Jvm.Cond.instanceMethod ({ cls := "EndTeller", name := "cause", desc := "(II)I" } : Jvm.MethodName)) ∈ TB := mt_2 (List.mem_of_getElem? (i := 226) rfl) rfl
theorem m_2_228 : (Jvm.Cond.code ({ cls := "EndTeller", name := "cause", desc := "(II)I" } : Jvm.MethodName) prog_1_method_12_code (3 : Nat) (Option.some Jvm.ClassFile.FieldType.int)) ∈ TB := mt_2 (List.mem_of_getElem? (i := 228) rfl) rfl
theorem cw_X8_cause : CWd yX8_cause cX8_cause 3 (some .int) 2 := ⟨m_1_1, m_2_228, by decide +kernel⟩
theorem m_2_227 : (Jvm.Cond.selects "EndTeller" ({ cls := "EndTeller", name := "cause", desc := "(II)I" } : Jvm.MethodName) ({ cls := "EndTeller", name := "cause", desc := "(II)I" } : Jvm.MethodName)) ∈ TB := mt_2 (List.mem_of_getElem? (i := 227) rfl) rfl
theorem m_4_205 : (Jvm.Cond.methodLink "EndTellerLaw" (68 : Nat) ({ cls := "EndTellerModel", name := "cause", desc := "(II)I" } : Jvm.MethodName)) ∈ TB := mt_4 (List.mem_of_getElem? (i := 205) rfl) rfl
theorem m_4_206 : (Jvm.Cond.instanceMethod ({ cls := "EndTellerModel", name := "cause", desc := "(II)I" } : Jvm.MethodName)) ∈ TB := mt_4 (List.mem_of_getElem? (i := 206) rfl) rfl
theorem m_4_208 : (Jvm.Cond.code ({ cls := "EndTellerModel", name := "cause", desc := "(II)I" } : Jvm.MethodName) prog_11_method_24_code (3 : Nat) (Option.some Jvm.ClassFile.FieldType.int)) ∈ TB := mt_4 (List.mem_of_getElem? (i := 208) rfl) rfl
theorem cw_X9_cause : CWd yX9_cause cX9_cause 3 (some .int) 2 := ⟨m_1_10, m_4_208, by decide +kernel⟩
theorem m_4_207 : (Jvm.Cond.selects "EndTellerModel" ({ cls := "EndTellerModel", name := "cause", desc := "(II)I" } : Jvm.MethodName) ({ cls := "EndTellerModel", name := "cause", desc := "(II)I" } : Jvm.MethodName)) ∈ TB := mt_4 (List.mem_of_getElem? (i := 207) rfl) rfl
theorem m_2_233 : (Jvm.Cond.methodLink "EndTellerLaw" (69 : Nat) ({ cls := "EndTeller", name := "late", desc := "(III)Z" } : Jvm.MethodName)) ∈ TB := mt_2 (List.mem_of_getElem? (i := 233) rfl) rfl
theorem m_2_234 : (Jvm.Cond.instanceMethod ({ cls := "EndTeller", name := "late", desc := "(III)Z" } : Jvm.MethodName)) ∈ TB := mt_2 (List.mem_of_getElem? (i := 234) rfl) rfl
theorem m_2_236 : (Jvm.Cond.code ({ cls := "EndTeller", name := "late", desc := "(III)Z" } : Jvm.MethodName) prog_1_method_13_code (4 : Nat) (Option.some Jvm.ClassFile.FieldType.boolean)) ∈ TB := mt_2 (List.mem_of_getElem? (i := 236) rfl) rfl
theorem cw_X8_late : CWd yX8_late cX8_late 4 (some .boolean) 3 := ⟨m_1_1, m_2_236, by decide +kernel⟩
theorem m_2_235 : (Jvm.Cond.selects "EndTeller" ({ cls := "EndTeller", name := "late", desc := "(III)Z" } : Jvm.MethodName) ({ cls := "EndTeller", name := "late", desc := "(III)Z" } : Jvm.MethodName)) ∈ TB := mt_2 (List.mem_of_getElem? (i := 235) rfl) rfl
theorem m_4_209 : (Jvm.Cond.methodLink "EndTellerLaw" (72 : Nat) ({ cls := "EndTellerModel", name := "late", desc := "(III)Z" } : Jvm.MethodName)) ∈ TB := mt_4 (List.mem_of_getElem? (i := 209) rfl) rfl
theorem m_4_210 : (Jvm.Cond.instanceMethod ({ cls := "EndTellerModel", name := "late", desc := "(III)Z" } : Jvm.MethodName)) ∈ TB := mt_4 (List.mem_of_getElem? (i := 210) rfl) rfl
theorem m_4_212 : (Jvm.Cond.code ({ cls := "EndTellerModel", name := "late", desc := "(III)Z" } : Jvm.MethodName) prog_11_method_25_code (4 : Nat) (Option.some Jvm.ClassFile.FieldType.boolean)) ∈ TB := mt_4 (List.mem_of_getElem? (i := 212) rfl) rfl
theorem cw_X9_late : CWd yX9_late cX9_late 4 (some .boolean) 3 := ⟨m_1_10, m_4_212, by decide +kernel⟩
theorem m_4_211 : (Jvm.Cond.selects "EndTellerModel" ({ cls := "EndTellerModel", name := "late", desc := "(III)Z" } : Jvm.MethodName) ({ cls := "EndTellerModel", name := "late", desc := "(III)Z" } : Jvm.MethodName)) ∈ TB := mt_4 (List.mem_of_getElem? (i := 211) rfl) rfl
theorem m_2_237 : (Jvm.Cond.methodLink "EndTellerLaw" (73 : Nat) ({ cls := "EndTeller", name := "hands", desc := "(I)Z" } : Jvm.MethodName)) ∈ TB := mt_2 (List.mem_of_getElem? (i := 237) rfl) rfl
theorem m_2_238 : (Jvm.Cond.instanceMethod ({ cls := "EndTeller", name := "hands", desc := "(I)Z" } : Jvm.MethodName)) ∈ TB := mt_2 (List.mem_of_getElem? (i := 238) rfl) rfl
theorem m_3_0 : (Jvm.Cond.code ({ cls := "EndTeller", name := "hands", desc := "(I)Z" } : Jvm.MethodName) prog_1_method_14_code (2 : Nat) (Option.some Jvm.ClassFile.FieldType.boolean)) ∈ TB := mt_3 (List.mem_of_getElem? (i := 0) rfl) rfl
theorem cw_X8_hands : CWd yX8_hands cX8_hands 2 (some .boolean) 1 := ⟨m_1_1, m_3_0, by decide +kernel⟩
theorem m_2_239 : (Jvm.Cond.selects "EndTeller" ({ cls := "EndTeller", name := "hands", desc := "(I)Z" } : Jvm.MethodName) ({ cls := "EndTeller", name := "hands", desc := "(I)Z" } : Jvm.MethodName)) ∈ TB := mt_2 (List.mem_of_getElem? (i := 239) rfl) rfl
theorem m_4_213 : (Jvm.Cond.methodLink "EndTellerLaw" (77 : Nat) ({ cls := "EndTellerModel", name := "hands", desc := "(I)Z" } : Jvm.MethodName)) ∈ TB := mt_4 (List.mem_of_getElem? (i := 213) rfl) rfl
theorem m_4_214 : (Jvm.Cond.instanceMethod ({ cls := "EndTellerModel", name := "hands", desc := "(I)Z" } : Jvm.MethodName)) ∈ TB := mt_4 (List.mem_of_getElem? (i := 214) rfl) rfl
theorem m_4_216 : (Jvm.Cond.code ({ cls := "EndTellerModel", name := "hands", desc := "(I)Z" } : Jvm.MethodName) prog_11_method_26_code (2 : Nat) (Option.some Jvm.ClassFile.FieldType.boolean)) ∈ TB := mt_4 (List.mem_of_getElem? (i := 216) rfl) rfl
theorem cw_X9_hands : CWd yX9_hands cX9_hands 2 (some .boolean) 1 := ⟨m_1_10, m_4_216, by decide +kernel⟩
theorem m_4_215 : (Jvm.Cond.selects "EndTellerModel" ({ cls := "EndTellerModel", name := "hands", desc := "(I)Z" } : Jvm.MethodName) ({ cls := "EndTellerModel", name := "hands", desc := "(I)Z" } : Jvm.MethodName)) ∈ TB := mt_4 (List.mem_of_getElem? (i := 215) rfl) rfl
theorem m_3_1 : (Jvm.Cond.methodLink "EndTellerLaw" (78 : Nat) ({ cls := "EndTeller", name := "clear", desc := "()Z" } : Jvm.MethodName)) ∈ TB := mt_3 (List.mem_of_getElem? (i := 1) rfl) rfl
theorem m_3_2 : (Jvm.Cond.instanceMethod ({ cls := "EndTeller", name := "clear", desc := "()Z" } : Jvm.MethodName)) ∈ TB := mt_3 (List.mem_of_getElem? (i := 2) rfl) rfl
theorem m_3_4 : (Jvm.Cond.code ({ cls := "EndTeller", name := "clear", desc := "()Z" } : Jvm.MethodName) prog_1_method_15_code (1 : Nat) (Option.some Jvm.ClassFile.FieldType.boolean)) ∈ TB := mt_3 (List.mem_of_getElem? (i := 4) rfl) rfl
theorem cw_X8_clear : CWd yX8_clear cX8_clear 1 (some .boolean) 0 := ⟨m_1_1, m_3_4, by decide +kernel⟩
theorem m_3_3 : (Jvm.Cond.selects "EndTeller" ({ cls := "EndTeller", name := "clear", desc := "()Z" } : Jvm.MethodName) ({ cls := "EndTeller", name := "clear", desc := "()Z" } : Jvm.MethodName)) ∈ TB := mt_3 (List.mem_of_getElem? (i := 3) rfl) rfl
theorem m_4_217 : (Jvm.Cond.methodLink "EndTellerLaw" (82 : Nat) ({ cls := "EndTellerModel", name := "clear", desc := "()Z" } : Jvm.MethodName)) ∈ TB := mt_4 (List.mem_of_getElem? (i := 217) rfl) rfl
theorem m_4_218 : (Jvm.Cond.instanceMethod ({ cls := "EndTellerModel", name := "clear", desc := "()Z" } : Jvm.MethodName)) ∈ TB := mt_4 (List.mem_of_getElem? (i := 218) rfl) rfl
theorem m_4_220 : (Jvm.Cond.code ({ cls := "EndTellerModel", name := "clear", desc := "()Z" } : Jvm.MethodName) prog_11_method_27_code (1 : Nat) (Option.some Jvm.ClassFile.FieldType.boolean)) ∈ TB := mt_4 (List.mem_of_getElem? (i := 220) rfl) rfl
theorem cw_X9_clear : CWd yX9_clear cX9_clear 1 (some .boolean) 0 := ⟨m_1_10, m_4_220, by decide +kernel⟩
theorem m_4_219 : (Jvm.Cond.selects "EndTellerModel" ({ cls := "EndTellerModel", name := "clear", desc := "()Z" } : Jvm.MethodName) ({ cls := "EndTellerModel", name := "clear", desc := "()Z" } : Jvm.MethodName)) ∈ TB := mt_4 (List.mem_of_getElem? (i := 219) rfl) rfl
theorem m_3_9 : (Jvm.Cond.methodLink "EndTellerLaw" (83 : Nat) ({ cls := "EndTeller", name := "told", desc := "(II)I" } : Jvm.MethodName)) ∈ TB := mt_3 (List.mem_of_getElem? (i := 9) rfl) rfl
theorem m_3_10 : (Jvm.Cond.instanceMethod ({ cls := "EndTeller", name := "told", desc := "(II)I" } : Jvm.MethodName)) ∈ TB := mt_3 (List.mem_of_getElem? (i := 10) rfl) rfl
theorem m_3_12 : (Jvm.Cond.code ({ cls := "EndTeller", name := "told", desc := "(II)I" } : Jvm.MethodName) prog_1_method_16_code (4 : Nat) (Option.some Jvm.ClassFile.FieldType.int)) ∈ TB := mt_3 (List.mem_of_getElem? (i := 12) rfl) rfl
theorem cw_X8_told : CWd yX8_told cX8_told 4 (some .int) 2 := ⟨m_1_1, m_3_12, by decide +kernel⟩
theorem m_3_11 : (Jvm.Cond.selects "EndTeller" ({ cls := "EndTeller", name := "told", desc := "(II)I" } : Jvm.MethodName) ({ cls := "EndTeller", name := "told", desc := "(II)I" } : Jvm.MethodName)) ∈ TB := mt_3 (List.mem_of_getElem? (i := 11) rfl) rfl
theorem m_4_221 : (Jvm.Cond.methodLink "EndTellerLaw" (86 : Nat) ({ cls := "EndTellerModel", name := "told", desc := "(II)I" } : Jvm.MethodName)) ∈ TB := mt_4 (List.mem_of_getElem? (i := 221) rfl) rfl
theorem m_4_222 : (Jvm.Cond.instanceMethod ({ cls := "EndTellerModel", name := "told", desc := "(II)I" } : Jvm.MethodName)) ∈ TB := mt_4 (List.mem_of_getElem? (i := 222) rfl) rfl
theorem m_4_224 : (Jvm.Cond.code ({ cls := "EndTellerModel", name := "told", desc := "(II)I" } : Jvm.MethodName) prog_11_method_28_code (3 : Nat) (Option.some Jvm.ClassFile.FieldType.int)) ∈ TB := mt_4 (List.mem_of_getElem? (i := 224) rfl) rfl
theorem cw_X9_told : CWd yX9_told cX9_told 3 (some .int) 2 := ⟨m_1_10, m_4_224, by decide +kernel⟩
theorem m_4_223 : (Jvm.Cond.selects "EndTellerModel" ({ cls := "EndTellerModel", name := "told", desc := "(II)I" } : Jvm.MethodName) ({ cls := "EndTellerModel", name := "told", desc := "(II)I" } : Jvm.MethodName)) ∈ TB := mt_4 (List.mem_of_getElem? (i := 223) rfl) rfl
theorem m_3_19 : (Jvm.Cond.methodLink "EndTellerLaw" (87 : Nat) ({ cls := "EndTeller", name := "row", desc := "(III)I" } : Jvm.MethodName)) ∈ TB := mt_3 (List.mem_of_getElem? (i := 19) rfl) rfl
theorem m_3_20 : (Jvm.Cond.instanceMethod ({ cls := "EndTeller", name := "row", desc := "(III)I" } : Jvm.MethodName)) ∈ TB := mt_3 (List.mem_of_getElem? (i := 20) rfl) rfl
theorem m_3_22 : (Jvm.Cond.code ({ cls := "EndTeller", name := "row", desc := "(III)I" } : Jvm.MethodName) prog_1_method_17_code (5 : Nat) (Option.some Jvm.ClassFile.FieldType.int)) ∈ TB := mt_3 (List.mem_of_getElem? (i := 22) rfl) rfl
theorem cw_X8_row : CWd yX8_row cX8_row 5 (some .int) 3 := ⟨m_1_1, m_3_22, by decide +kernel⟩
theorem m_3_21 : (Jvm.Cond.selects "EndTeller" ({ cls := "EndTeller", name := "row", desc := "(III)I" } : Jvm.MethodName) ({ cls := "EndTeller", name := "row", desc := "(III)I" } : Jvm.MethodName)) ∈ TB := mt_3 (List.mem_of_getElem? (i := 21) rfl) rfl
theorem m_4_226 : (Jvm.Cond.methodLink "EndTellerLaw" (90 : Nat) ({ cls := "EndTellerModel", name := "row", desc := "(III)I" } : Jvm.MethodName)) ∈ TB := mt_4 (List.mem_of_getElem? (i := 226) rfl) rfl
theorem m_4_227 : (Jvm.Cond.instanceMethod ({ cls := "EndTellerModel", name := "row", desc := "(III)I" } : Jvm.MethodName)) ∈ TB := mt_4 (List.mem_of_getElem? (i := 227) rfl) rfl
theorem m_4_229 : (Jvm.Cond.code ({ cls := "EndTellerModel", name := "row", desc := "(III)I" } : Jvm.MethodName) prog_11_method_29_code (4 : Nat) (Option.some Jvm.ClassFile.FieldType.int)) ∈ TB := mt_4 (List.mem_of_getElem? (i := 229) rfl) rfl
theorem cw_X9_row : CWd yX9_row cX9_row 4 (some .int) 3 := ⟨m_1_10, m_4_229, by decide +kernel⟩
theorem m_4_228 : (Jvm.Cond.selects "EndTellerModel" ({ cls := "EndTellerModel", name := "row", desc := "(III)I" } : Jvm.MethodName) ({ cls := "EndTellerModel", name := "row", desc := "(III)I" } : Jvm.MethodName)) ∈ TB := mt_4 (List.mem_of_getElem? (i := 228) rfl) rfl
theorem m_3_23 : (Jvm.Cond.methodLink "EndTellerLaw" (91 : Nat) ({ cls := "EndTeller", name := "upper", desc := "()J" } : Jvm.MethodName)) ∈ TB := mt_3 (List.mem_of_getElem? (i := 23) rfl) rfl
theorem m_3_24 : (Jvm.Cond.instanceMethod ({ cls := "EndTeller", name := "upper", desc := "()J" } : Jvm.MethodName)) ∈ TB := mt_3 (List.mem_of_getElem? (i := 24) rfl) rfl
theorem m_3_26 : (Jvm.Cond.code ({ cls := "EndTeller", name := "upper", desc := "()J" } : Jvm.MethodName) prog_1_method_18_code (1 : Nat) (Option.some Jvm.ClassFile.FieldType.long)) ∈ TB := mt_3 (List.mem_of_getElem? (i := 26) rfl) rfl
theorem cw_X8_upper : CWd yX8_upper cX8_upper 1 (some .long) 0 := ⟨m_1_1, m_3_26, by decide +kernel⟩
theorem m_3_25 : (Jvm.Cond.selects "EndTeller" ({ cls := "EndTeller", name := "upper", desc := "()J" } : Jvm.MethodName) ({ cls := "EndTeller", name := "upper", desc := "()J" } : Jvm.MethodName)) ∈ TB := mt_3 (List.mem_of_getElem? (i := 25) rfl) rfl
theorem m_4_230 : (Jvm.Cond.methodLink "EndTellerLaw" (95 : Nat) ({ cls := "EndTellerModel", name := "upper", desc := "()J" } : Jvm.MethodName)) ∈ TB := mt_4 (List.mem_of_getElem? (i := 230) rfl) rfl
theorem m_4_231 : (Jvm.Cond.instanceMethod ({ cls := "EndTellerModel", name := "upper", desc := "()J" } : Jvm.MethodName)) ∈ TB := mt_4 (List.mem_of_getElem? (i := 231) rfl) rfl
theorem m_4_233 : (Jvm.Cond.code ({ cls := "EndTellerModel", name := "upper", desc := "()J" } : Jvm.MethodName) prog_11_method_31_code (1 : Nat) (Option.some Jvm.ClassFile.FieldType.long)) ∈ TB := mt_4 (List.mem_of_getElem? (i := 233) rfl) rfl
theorem cw_X9_upper : CWd yX9_upper cX9_upper 1 (some .long) 0 := ⟨m_1_10, m_4_233, by decide +kernel⟩
theorem m_4_232 : (Jvm.Cond.selects "EndTellerModel" ({ cls := "EndTellerModel", name := "upper", desc := "()J" } : Jvm.MethodName) ({ cls := "EndTellerModel", name := "upper", desc := "()J" } : Jvm.MethodName)) ∈ TB := mt_4 (List.mem_of_getElem? (i := 232) rfl) rfl
theorem m_3_27 : (Jvm.Cond.methodLink "EndTellerLaw" (96 : Nat) ({ cls := "EndTeller", name := "lower", desc := "()J" } : Jvm.MethodName)) ∈ TB := mt_3 (List.mem_of_getElem? (i := 27) rfl) rfl
theorem m_3_28 : (Jvm.Cond.instanceMethod ({ cls := "EndTeller", name := "lower", desc := "()J" } : Jvm.MethodName)) ∈ TB := mt_3 (List.mem_of_getElem? (i := 28) rfl) rfl
theorem m_3_30 : (Jvm.Cond.code ({ cls := "EndTeller", name := "lower", desc := "()J" } : Jvm.MethodName) prog_1_method_19_code (1 : Nat) (Option.some Jvm.ClassFile.FieldType.long)) ∈ TB := mt_3 (List.mem_of_getElem? (i := 30) rfl) rfl
theorem cw_X8_lower : CWd yX8_lower cX8_lower 1 (some .long) 0 := ⟨m_1_1, m_3_30, by decide +kernel⟩
theorem m_3_29 : (Jvm.Cond.selects "EndTeller" ({ cls := "EndTeller", name := "lower", desc := "()J" } : Jvm.MethodName) ({ cls := "EndTeller", name := "lower", desc := "()J" } : Jvm.MethodName)) ∈ TB := mt_3 (List.mem_of_getElem? (i := 29) rfl) rfl
theorem m_4_234 : (Jvm.Cond.methodLink "EndTellerLaw" (99 : Nat) ({ cls := "EndTellerModel", name := "lower", desc := "()J" } : Jvm.MethodName)) ∈ TB := mt_4 (List.mem_of_getElem? (i := 234) rfl) rfl
theorem m_4_235 : (Jvm.Cond.instanceMethod ({ cls := "EndTellerModel", name := "lower", desc := "()J" } : Jvm.MethodName)) ∈ TB := mt_4 (List.mem_of_getElem? (i := 235) rfl) rfl
theorem m_4_237 : (Jvm.Cond.code ({ cls := "EndTellerModel", name := "lower", desc := "()J" } : Jvm.MethodName) prog_11_method_32_code (1 : Nat) (Option.some Jvm.ClassFile.FieldType.long)) ∈ TB := mt_4 (List.mem_of_getElem? (i := 237) rfl) rfl
theorem cw_X9_lower : CWd yX9_lower cX9_lower 1 (some .long) 0 := ⟨m_1_10, m_4_237, by decide +kernel⟩
theorem m_4_236 : (Jvm.Cond.selects "EndTellerModel" ({ cls := "EndTellerModel", name := "lower", desc := "()J" } : Jvm.MethodName) ({ cls := "EndTellerModel", name := "lower", desc := "()J" } : Jvm.MethodName)) ∈ TB := mt_4 (List.mem_of_getElem? (i := 236) rfl) rfl
theorem m_3_31 : (Jvm.Cond.methodLink "EndTellerLaw" (100 : Nat) ({ cls := "EndTeller", name := "ways", desc := "()I" } : Jvm.MethodName)) ∈ TB := mt_3 (List.mem_of_getElem? (i := 31) rfl) rfl
theorem m_3_32 : (Jvm.Cond.instanceMethod ({ cls := "EndTeller", name := "ways", desc := "()I" } : Jvm.MethodName)) ∈ TB := mt_3 (List.mem_of_getElem? (i := 32) rfl) rfl
theorem m_3_34 : (Jvm.Cond.code ({ cls := "EndTeller", name := "ways", desc := "()I" } : Jvm.MethodName) prog_1_method_20_code (1 : Nat) (Option.some Jvm.ClassFile.FieldType.int)) ∈ TB := mt_3 (List.mem_of_getElem? (i := 34) rfl) rfl
theorem cw_X8_ways : CWd yX8_ways cX8_ways 1 (some .int) 0 := ⟨m_1_1, m_3_34, by decide +kernel⟩
theorem m_3_33 : (Jvm.Cond.selects "EndTeller" ({ cls := "EndTeller", name := "ways", desc := "()I" } : Jvm.MethodName) ({ cls := "EndTeller", name := "ways", desc := "()I" } : Jvm.MethodName)) ∈ TB := mt_3 (List.mem_of_getElem? (i := 33) rfl) rfl
theorem m_4_238 : (Jvm.Cond.methodLink "EndTellerLaw" (103 : Nat) ({ cls := "EndTellerModel", name := "ways", desc := "()I" } : Jvm.MethodName)) ∈ TB := mt_4 (List.mem_of_getElem? (i := 238) rfl) rfl
theorem m_4_239 : (Jvm.Cond.instanceMethod ({ cls := "EndTellerModel", name := "ways", desc := "()I" } : Jvm.MethodName)) ∈ TB := mt_4 (List.mem_of_getElem? (i := 239) rfl) rfl
theorem m_5_1 : (Jvm.Cond.code ({ cls := "EndTellerModel", name := "ways", desc := "()I" } : Jvm.MethodName) prog_11_method_34_code (3 : Nat) (Option.some Jvm.ClassFile.FieldType.int)) ∈ TB := mt_5 (List.mem_of_getElem? (i := 1) rfl) rfl
theorem cw_X9_ways : CWd yX9_ways cX9_ways 3 (some .int) 0 := ⟨m_1_10, m_5_1, by decide +kernel⟩
theorem m_5_0 : (Jvm.Cond.selects "EndTellerModel" ({ cls := "EndTellerModel", name := "ways", desc := "()I" } : Jvm.MethodName) ({ cls := "EndTellerModel", name := "ways", desc := "()I" } : Jvm.MethodName)) ∈ TB := mt_5 (List.mem_of_getElem? (i := 0) rfl) rfl
theorem m_3_48 : (Jvm.Cond.methodLink "EndTellerLaw" (104 : Nat) ({ cls := "EndTeller", name := "ends", desc := "(I)Z" } : Jvm.MethodName)) ∈ TB := mt_3 (List.mem_of_getElem? (i := 48) rfl) rfl
theorem m_3_49 : (Jvm.Cond.instanceMethod ({ cls := "EndTeller", name := "ends", desc := "(I)Z" } : Jvm.MethodName)) ∈ TB := mt_3 (List.mem_of_getElem? (i := 49) rfl) rfl
theorem m_3_51 : (Jvm.Cond.code ({ cls := "EndTeller", name := "ends", desc := "(I)Z" } : Jvm.MethodName) prog_1_method_21_code (3 : Nat) (Option.some Jvm.ClassFile.FieldType.boolean)) ∈ TB := mt_3 (List.mem_of_getElem? (i := 51) rfl) rfl
theorem cw_X8_ends : CWd yX8_ends cX8_ends 3 (some .boolean) 1 := ⟨m_1_1, m_3_51, by decide +kernel⟩
theorem m_3_50 : (Jvm.Cond.selects "EndTeller" ({ cls := "EndTeller", name := "ends", desc := "(I)Z" } : Jvm.MethodName) ({ cls := "EndTeller", name := "ends", desc := "(I)Z" } : Jvm.MethodName)) ∈ TB := mt_3 (List.mem_of_getElem? (i := 50) rfl) rfl
theorem m_5_7 : (Jvm.Cond.methodLink "EndTellerLaw" (107 : Nat) ({ cls := "EndTellerModel", name := "ends", desc := "(I)Z" } : Jvm.MethodName)) ∈ TB := mt_5 (List.mem_of_getElem? (i := 7) rfl) rfl
theorem m_5_8 : (Jvm.Cond.instanceMethod ({ cls := "EndTellerModel", name := "ends", desc := "(I)Z" } : Jvm.MethodName)) ∈ TB := mt_5 (List.mem_of_getElem? (i := 8) rfl) rfl
theorem m_5_10 : (Jvm.Cond.code ({ cls := "EndTellerModel", name := "ends", desc := "(I)Z" } : Jvm.MethodName) prog_11_method_44_code (2 : Nat) (Option.some Jvm.ClassFile.FieldType.boolean)) ∈ TB := mt_5 (List.mem_of_getElem? (i := 10) rfl) rfl
theorem cw_X9_ends : CWd yX9_ends cX9_ends 2 (some .boolean) 1 := ⟨m_1_10, m_5_10, by decide +kernel⟩
theorem m_5_9 : (Jvm.Cond.selects "EndTellerModel" ({ cls := "EndTellerModel", name := "ends", desc := "(I)Z" } : Jvm.MethodName) ({ cls := "EndTellerModel", name := "ends", desc := "(I)Z" } : Jvm.MethodName)) ∈ TB := mt_5 (List.mem_of_getElem? (i := 9) rfl) rfl
theorem m_3_126 : (Jvm.Cond.methodLink "EndTellerLaw" (108 : Nat) ({ cls := "EndTeller", name := "done", desc := "(II)Z" } : Jvm.MethodName)) ∈ TB := mt_3 (List.mem_of_getElem? (i := 126) rfl) rfl
theorem m_3_127 : (Jvm.Cond.instanceMethod ({ cls := "EndTeller", name := "done", desc := "(II)Z" } : Jvm.MethodName)) ∈ TB := mt_3 (List.mem_of_getElem? (i := 127) rfl) rfl
theorem m_3_129 : (Jvm.Cond.code ({ cls := "EndTeller", name := "done", desc := "(II)Z" } : Jvm.MethodName) prog_1_method_22_code (4 : Nat) (Option.some Jvm.ClassFile.FieldType.boolean)) ∈ TB := mt_3 (List.mem_of_getElem? (i := 129) rfl) rfl
theorem cw_X8_done : CWd yX8_done cX8_done 4 (some .boolean) 2 := ⟨m_1_1, m_3_129, by decide +kernel⟩
theorem m_3_128 : (Jvm.Cond.selects "EndTeller" ({ cls := "EndTeller", name := "done", desc := "(II)Z" } : Jvm.MethodName) ({ cls := "EndTeller", name := "done", desc := "(II)Z" } : Jvm.MethodName)) ∈ TB := mt_3 (List.mem_of_getElem? (i := 128) rfl) rfl
theorem m_5_53 : (Jvm.Cond.methodLink "EndTellerLaw" (112 : Nat) ({ cls := "EndTellerModel", name := "done", desc := "(II)Z" } : Jvm.MethodName)) ∈ TB := mt_5 (List.mem_of_getElem? (i := 53) rfl) rfl
theorem m_5_54 : (Jvm.Cond.instanceMethod ({ cls := "EndTellerModel", name := "done", desc := "(II)Z" } : Jvm.MethodName)) ∈ TB := mt_5 (List.mem_of_getElem? (i := 54) rfl) rfl
theorem m_5_56 : (Jvm.Cond.code ({ cls := "EndTellerModel", name := "done", desc := "(II)Z" } : Jvm.MethodName) prog_11_method_45_code (3 : Nat) (Option.some Jvm.ClassFile.FieldType.boolean)) ∈ TB := mt_5 (List.mem_of_getElem? (i := 56) rfl) rfl
theorem cw_X9_done : CWd yX9_done cX9_done 3 (some .boolean) 2 := ⟨m_1_10, m_5_56, by decide +kernel⟩
theorem m_5_55 : (Jvm.Cond.selects "EndTellerModel" ({ cls := "EndTellerModel", name := "done", desc := "(II)Z" } : Jvm.MethodName) ({ cls := "EndTellerModel", name := "done", desc := "(II)Z" } : Jvm.MethodName)) ∈ TB := mt_5 (List.mem_of_getElem? (i := 55) rfl) rfl
theorem m_3_134 : (Jvm.Cond.methodLink "EndTellerLaw" (113 : Nat) ({ cls := "EndTeller", name := "promise", desc := "(II)I" } : Jvm.MethodName)) ∈ TB := mt_3 (List.mem_of_getElem? (i := 134) rfl) rfl
theorem m_3_135 : (Jvm.Cond.instanceMethod ({ cls := "EndTeller", name := "promise", desc := "(II)I" } : Jvm.MethodName)) ∈ TB := mt_3 (List.mem_of_getElem? (i := 135) rfl) rfl
theorem m_3_137 : (Jvm.Cond.code ({ cls := "EndTeller", name := "promise", desc := "(II)I" } : Jvm.MethodName) prog_1_method_23_code (5 : Nat) (Option.some Jvm.ClassFile.FieldType.int)) ∈ TB := mt_3 (List.mem_of_getElem? (i := 137) rfl) rfl
theorem cw_X8_promise : CWd yX8_promise cX8_promise 5 (some .int) 2 := ⟨m_1_1, m_3_137, by decide +kernel⟩
theorem m_3_136 : (Jvm.Cond.selects "EndTeller" ({ cls := "EndTeller", name := "promise", desc := "(II)I" } : Jvm.MethodName) ({ cls := "EndTeller", name := "promise", desc := "(II)I" } : Jvm.MethodName)) ∈ TB := mt_3 (List.mem_of_getElem? (i := 136) rfl) rfl
theorem m_5_57 : (Jvm.Cond.methodLink "EndTellerLaw" (116 : Nat) ({ cls := "EndTellerModel", name := "promise", desc := "(II)I" } : Jvm.MethodName)) ∈ TB := mt_5 (List.mem_of_getElem? (i := 57) rfl) rfl
theorem m_5_58 : (Jvm.Cond.instanceMethod ({ cls := "EndTellerModel", name := "promise", desc := "(II)I" } : Jvm.MethodName)) ∈ TB := mt_5 (List.mem_of_getElem? (i := 58) rfl) rfl
theorem m_5_60 : (Jvm.Cond.code ({ cls := "EndTellerModel", name := "promise", desc := "(II)I" } : Jvm.MethodName) prog_11_method_46_code (7 : Nat) (Option.some Jvm.ClassFile.FieldType.int)) ∈ TB := mt_5 (List.mem_of_getElem? (i := 60) rfl) rfl
theorem cw_X9_promise : CWd yX9_promise cX9_promise 7 (some .int) 2 := ⟨m_1_10, m_5_60, by decide +kernel⟩
theorem m_5_59 : (Jvm.Cond.selects "EndTellerModel" ({ cls := "EndTellerModel", name := "promise", desc := "(II)I" } : Jvm.MethodName) ({ cls := "EndTellerModel", name := "promise", desc := "(II)I" } : Jvm.MethodName)) ∈ TB := mt_5 (List.mem_of_getElem? (i := 59) rfl) rfl
theorem m_3_155 : (Jvm.Cond.methodLink "EndTellerLaw" (117 : Nat) ({ cls := "EndTeller", name := "mean", desc := "()Z" } : Jvm.MethodName)) ∈ TB := mt_3 (List.mem_of_getElem? (i := 155) rfl) rfl
theorem m_3_156 : (Jvm.Cond.instanceMethod ({ cls := "EndTeller", name := "mean", desc := "()Z" } : Jvm.MethodName)) ∈ TB := mt_3 (List.mem_of_getElem? (i := 156) rfl) rfl
theorem m_3_158 : (Jvm.Cond.code ({ cls := "EndTeller", name := "mean", desc := "()Z" } : Jvm.MethodName) prog_1_method_24_code (2 : Nat) (Option.some Jvm.ClassFile.FieldType.boolean)) ∈ TB := mt_3 (List.mem_of_getElem? (i := 158) rfl) rfl
theorem cw_X8_mean : CWd yX8_mean cX8_mean 2 (some .boolean) 0 := ⟨m_1_1, m_3_158, by decide +kernel⟩
theorem m_3_157 : (Jvm.Cond.selects "EndTeller" ({ cls := "EndTeller", name := "mean", desc := "()Z" } : Jvm.MethodName) ({ cls := "EndTeller", name := "mean", desc := "()Z" } : Jvm.MethodName)) ∈ TB := mt_3 (List.mem_of_getElem? (i := 157) rfl) rfl
theorem m_5_62 : (Jvm.Cond.methodLink "EndTellerLaw" (120 : Nat) ({ cls := "EndTellerModel", name := "mean", desc := "()Z" } : Jvm.MethodName)) ∈ TB := mt_5 (List.mem_of_getElem? (i := 62) rfl) rfl
theorem m_5_63 : (Jvm.Cond.instanceMethod ({ cls := "EndTellerModel", name := "mean", desc := "()Z" } : Jvm.MethodName)) ∈ TB := mt_5 (List.mem_of_getElem? (i := 63) rfl) rfl
theorem m_5_65 : (Jvm.Cond.code ({ cls := "EndTellerModel", name := "mean", desc := "()Z" } : Jvm.MethodName) prog_11_method_47_code (5 : Nat) (Option.some Jvm.ClassFile.FieldType.boolean)) ∈ TB := mt_5 (List.mem_of_getElem? (i := 65) rfl) rfl
theorem cw_X9_mean : CWd yX9_mean cX9_mean 5 (some .boolean) 0 := ⟨m_1_10, m_5_65, by decide +kernel⟩
theorem m_5_64 : (Jvm.Cond.selects "EndTellerModel" ({ cls := "EndTellerModel", name := "mean", desc := "()Z" } : Jvm.MethodName) ({ cls := "EndTellerModel", name := "mean", desc := "()Z" } : Jvm.MethodName)) ∈ TB := mt_5 (List.mem_of_getElem? (i := 64) rfl) rfl
theorem m_3_163 : (Jvm.Cond.methodLink "EndTellerLaw" (121 : Nat) ({ cls := "EndTeller", name := "spread", desc := "()Z" } : Jvm.MethodName)) ∈ TB := mt_3 (List.mem_of_getElem? (i := 163) rfl) rfl
theorem m_3_164 : (Jvm.Cond.instanceMethod ({ cls := "EndTeller", name := "spread", desc := "()Z" } : Jvm.MethodName)) ∈ TB := mt_3 (List.mem_of_getElem? (i := 164) rfl) rfl
theorem m_3_166 : (Jvm.Cond.code ({ cls := "EndTeller", name := "spread", desc := "()Z" } : Jvm.MethodName) prog_1_method_25_code (2 : Nat) (Option.some Jvm.ClassFile.FieldType.boolean)) ∈ TB := mt_3 (List.mem_of_getElem? (i := 166) rfl) rfl
theorem cw_X8_spread : CWd yX8_spread cX8_spread 2 (some .boolean) 0 := ⟨m_1_1, m_3_166, by decide +kernel⟩
theorem m_3_165 : (Jvm.Cond.selects "EndTeller" ({ cls := "EndTeller", name := "spread", desc := "()Z" } : Jvm.MethodName) ({ cls := "EndTeller", name := "spread", desc := "()Z" } : Jvm.MethodName)) ∈ TB := mt_3 (List.mem_of_getElem? (i := 165) rfl) rfl
theorem m_5_66 : (Jvm.Cond.methodLink "EndTellerLaw" (124 : Nat) ({ cls := "EndTellerModel", name := "spread", desc := "()Z" } : Jvm.MethodName)) ∈ TB := mt_5 (List.mem_of_getElem? (i := 66) rfl) rfl
theorem m_5_67 : (Jvm.Cond.instanceMethod ({ cls := "EndTellerModel", name := "spread", desc := "()Z" } : Jvm.MethodName)) ∈ TB := mt_5 (List.mem_of_getElem? (i := 67) rfl) rfl
theorem m_5_69 : (Jvm.Cond.code ({ cls := "EndTellerModel", name := "spread", desc := "()Z" } : Jvm.MethodName) prog_11_method_49_code (2 : Nat) (Option.some Jvm.ClassFile.FieldType.boolean)) ∈ TB := mt_5 (List.mem_of_getElem? (i := 69) rfl) rfl
theorem cw_X9_spread : CWd yX9_spread cX9_spread 2 (some .boolean) 0 := ⟨m_1_10, m_5_69, by decide +kernel⟩
theorem m_5_68 : (Jvm.Cond.selects "EndTellerModel" ({ cls := "EndTellerModel", name := "spread", desc := "()Z" } : Jvm.MethodName) ({ cls := "EndTellerModel", name := "spread", desc := "()Z" } : Jvm.MethodName)) ∈ TB := mt_5 (List.mem_of_getElem? (i := 68) rfl) rfl
theorem m_3_173 : (Jvm.Cond.methodLink "EndTellerLaw" (125 : Nat) ({ cls := "EndTeller", name := "sure", desc := "(I)Z" } : Jvm.MethodName)) ∈ TB := mt_3 (List.mem_of_getElem? (i := 173) rfl) rfl
theorem m_3_174 : (Jvm.Cond.instanceMethod ({ cls := "EndTeller", name := "sure", desc := "(I)Z" } : Jvm.MethodName)) ∈ TB := mt_3 (List.mem_of_getElem? (i := 174) rfl) rfl
theorem m_3_176 : (Jvm.Cond.code ({ cls := "EndTeller", name := "sure", desc := "(I)Z" } : Jvm.MethodName) prog_1_method_26_code (3 : Nat) (Option.some Jvm.ClassFile.FieldType.boolean)) ∈ TB := mt_3 (List.mem_of_getElem? (i := 176) rfl) rfl
theorem cw_X8_sure : CWd yX8_sure cX8_sure 3 (some .boolean) 1 := ⟨m_1_1, m_3_176, by decide +kernel⟩
theorem m_3_175 : (Jvm.Cond.selects "EndTeller" ({ cls := "EndTeller", name := "sure", desc := "(I)Z" } : Jvm.MethodName) ({ cls := "EndTeller", name := "sure", desc := "(I)Z" } : Jvm.MethodName)) ∈ TB := mt_3 (List.mem_of_getElem? (i := 175) rfl) rfl
theorem m_5_75 : (Jvm.Cond.methodLink "EndTellerLaw" (128 : Nat) ({ cls := "EndTellerModel", name := "sure", desc := "(I)Z" } : Jvm.MethodName)) ∈ TB := mt_5 (List.mem_of_getElem? (i := 75) rfl) rfl
theorem m_5_76 : (Jvm.Cond.instanceMethod ({ cls := "EndTellerModel", name := "sure", desc := "(I)Z" } : Jvm.MethodName)) ∈ TB := mt_5 (List.mem_of_getElem? (i := 76) rfl) rfl
theorem m_5_78 : (Jvm.Cond.code ({ cls := "EndTellerModel", name := "sure", desc := "(I)Z" } : Jvm.MethodName) prog_11_method_51_code (3 : Nat) (Option.some Jvm.ClassFile.FieldType.boolean)) ∈ TB := mt_5 (List.mem_of_getElem? (i := 78) rfl) rfl
theorem cw_X9_sure : CWd yX9_sure cX9_sure 3 (some .boolean) 1 := ⟨m_1_10, m_5_78, by decide +kernel⟩
theorem m_5_77 : (Jvm.Cond.selects "EndTellerModel" ({ cls := "EndTellerModel", name := "sure", desc := "(I)Z" } : Jvm.MethodName) ({ cls := "EndTellerModel", name := "sure", desc := "(I)Z" } : Jvm.MethodName)) ∈ TB := mt_5 (List.mem_of_getElem? (i := 77) rfl) rfl
theorem m_3_194 : (Jvm.Cond.methodLink "EndTellerLaw" (129 : Nat) ({ cls := "EndTeller", name := "surest", desc := "()I" } : Jvm.MethodName)) ∈ TB := mt_3 (List.mem_of_getElem? (i := 194) rfl) rfl
theorem m_3_195 : (Jvm.Cond.instanceMethod ({ cls := "EndTeller", name := "surest", desc := "()I" } : Jvm.MethodName)) ∈ TB := mt_3 (List.mem_of_getElem? (i := 195) rfl) rfl
theorem m_3_197 : (Jvm.Cond.code ({ cls := "EndTeller", name := "surest", desc := "()I" } : Jvm.MethodName) prog_1_method_27_code (4 : Nat) (Option.some Jvm.ClassFile.FieldType.int)) ∈ TB := mt_3 (List.mem_of_getElem? (i := 197) rfl) rfl
theorem cw_X8_surest : CWd yX8_surest cX8_surest 4 (some .int) 0 := ⟨m_1_1, m_3_197, by decide +kernel⟩
theorem m_3_196 : (Jvm.Cond.selects "EndTeller" ({ cls := "EndTeller", name := "surest", desc := "()I" } : Jvm.MethodName) ({ cls := "EndTeller", name := "surest", desc := "()I" } : Jvm.MethodName)) ∈ TB := mt_3 (List.mem_of_getElem? (i := 196) rfl) rfl
theorem m_5_84 : (Jvm.Cond.methodLink "EndTellerLaw" (132 : Nat) ({ cls := "EndTellerModel", name := "surest", desc := "()I" } : Jvm.MethodName)) ∈ TB := mt_5 (List.mem_of_getElem? (i := 84) rfl) rfl
theorem m_5_85 : (Jvm.Cond.instanceMethod ({ cls := "EndTellerModel", name := "surest", desc := "()I" } : Jvm.MethodName)) ∈ TB := mt_5 (List.mem_of_getElem? (i := 85) rfl) rfl
theorem m_5_87 : (Jvm.Cond.code ({ cls := "EndTellerModel", name := "surest", desc := "()I" } : Jvm.MethodName) prog_11_method_53_code (8 : Nat) (Option.some Jvm.ClassFile.FieldType.int)) ∈ TB := mt_5 (List.mem_of_getElem? (i := 87) rfl) rfl
theorem cw_X9_surest : CWd yX9_surest cX9_surest 8 (some .int) 0 := ⟨m_1_10, m_5_87, by decide +kernel⟩
theorem m_5_86 : (Jvm.Cond.selects "EndTellerModel" ({ cls := "EndTellerModel", name := "surest", desc := "()I" } : Jvm.MethodName) ({ cls := "EndTellerModel", name := "surest", desc := "()I" } : Jvm.MethodName)) ∈ TB := mt_5 (List.mem_of_getElem? (i := 86) rfl) rfl
theorem m_3_202 : (Jvm.Cond.methodLink "EndTellerLaw" (133 : Nat) ({ cls := "EndTeller", name := "moves", desc := "(I)Z" } : Jvm.MethodName)) ∈ TB := mt_3 (List.mem_of_getElem? (i := 202) rfl) rfl
theorem m_3_203 : (Jvm.Cond.instanceMethod ({ cls := "EndTeller", name := "moves", desc := "(I)Z" } : Jvm.MethodName)) ∈ TB := mt_3 (List.mem_of_getElem? (i := 203) rfl) rfl
theorem m_3_205 : (Jvm.Cond.code ({ cls := "EndTeller", name := "moves", desc := "(I)Z" } : Jvm.MethodName) prog_1_method_28_code (3 : Nat) (Option.some Jvm.ClassFile.FieldType.boolean)) ∈ TB := mt_3 (List.mem_of_getElem? (i := 205) rfl) rfl
theorem cw_X8_moves : CWd yX8_moves cX8_moves 3 (some .boolean) 1 := ⟨m_1_1, m_3_205, by decide +kernel⟩
theorem m_3_204 : (Jvm.Cond.selects "EndTeller" ({ cls := "EndTeller", name := "moves", desc := "(I)Z" } : Jvm.MethodName) ({ cls := "EndTeller", name := "moves", desc := "(I)Z" } : Jvm.MethodName)) ∈ TB := mt_3 (List.mem_of_getElem? (i := 204) rfl) rfl
theorem m_5_91 : (Jvm.Cond.methodLink "EndTellerLaw" (136 : Nat) ({ cls := "EndTellerModel", name := "moves", desc := "(I)Z" } : Jvm.MethodName)) ∈ TB := mt_5 (List.mem_of_getElem? (i := 91) rfl) rfl
theorem m_5_92 : (Jvm.Cond.instanceMethod ({ cls := "EndTellerModel", name := "moves", desc := "(I)Z" } : Jvm.MethodName)) ∈ TB := mt_5 (List.mem_of_getElem? (i := 92) rfl) rfl
theorem m_5_94 : (Jvm.Cond.code ({ cls := "EndTellerModel", name := "moves", desc := "(I)Z" } : Jvm.MethodName) prog_11_method_54_code (10 : Nat) (Option.some Jvm.ClassFile.FieldType.boolean)) ∈ TB := mt_5 (List.mem_of_getElem? (i := 94) rfl) rfl
theorem cw_X9_moves : CWd yX9_moves cX9_moves 10 (some .boolean) 1 := ⟨m_1_10, m_5_94, by decide +kernel⟩
theorem m_5_93 : (Jvm.Cond.selects "EndTellerModel" ({ cls := "EndTellerModel", name := "moves", desc := "(I)Z" } : Jvm.MethodName) ({ cls := "EndTellerModel", name := "moves", desc := "(I)Z" } : Jvm.MethodName)) ∈ TB := mt_5 (List.mem_of_getElem? (i := 93) rfl) rfl
theorem m_3_210 : (Jvm.Cond.methodLink "EndTellerLaw" (137 : Nat) ({ cls := "EndTeller", name := "end", desc := "(II)Z" } : Jvm.MethodName)) ∈ TB := mt_3 (List.mem_of_getElem? (i := 210) rfl) rfl
theorem m_3_211 : (Jvm.Cond.instanceMethod ({ cls := "EndTeller", name := "end", desc := "(II)Z" } : Jvm.MethodName)) ∈ TB := mt_3 (List.mem_of_getElem? (i := 211) rfl) rfl
theorem m_3_213 : (Jvm.Cond.code ({ cls := "EndTeller", name := "end", desc := "(II)Z" } : Jvm.MethodName) prog_1_method_29_code (3 : Nat) (Option.some Jvm.ClassFile.FieldType.boolean)) ∈ TB := mt_3 (List.mem_of_getElem? (i := 213) rfl) rfl
theorem cw_X8_end : CWd yX8_end cX8_end 3 (some .boolean) 2 := ⟨m_1_1, m_3_213, by decide +kernel⟩
theorem m_3_212 : (Jvm.Cond.selects "EndTeller" ({ cls := "EndTeller", name := "end", desc := "(II)Z" } : Jvm.MethodName) ({ cls := "EndTeller", name := "end", desc := "(II)Z" } : Jvm.MethodName)) ∈ TB := mt_3 (List.mem_of_getElem? (i := 212) rfl) rfl
theorem m_5_95 : (Jvm.Cond.methodLink "EndTellerLaw" (140 : Nat) ({ cls := "EndTellerModel", name := "end", desc := "(II)Z" } : Jvm.MethodName)) ∈ TB := mt_5 (List.mem_of_getElem? (i := 95) rfl) rfl
theorem m_5_96 : (Jvm.Cond.instanceMethod ({ cls := "EndTellerModel", name := "end", desc := "(II)Z" } : Jvm.MethodName)) ∈ TB := mt_5 (List.mem_of_getElem? (i := 96) rfl) rfl
theorem m_5_98 : (Jvm.Cond.code ({ cls := "EndTellerModel", name := "end", desc := "(II)Z" } : Jvm.MethodName) prog_11_method_55_code (3 : Nat) (Option.some Jvm.ClassFile.FieldType.boolean)) ∈ TB := mt_5 (List.mem_of_getElem? (i := 98) rfl) rfl
theorem cw_X9_end : CWd yX9_end cX9_end 3 (some .boolean) 2 := ⟨m_1_10, m_5_98, by decide +kernel⟩
theorem m_5_97 : (Jvm.Cond.selects "EndTellerModel" ({ cls := "EndTellerModel", name := "end", desc := "(II)Z" } : Jvm.MethodName) ({ cls := "EndTellerModel", name := "end", desc := "(II)Z" } : Jvm.MethodName)) ∈ TB := mt_5 (List.mem_of_getElem? (i := 97) rfl) rfl
theorem m_3_217 : (Jvm.Cond.methodLink "EndTellerLaw" (141 : Nat) ({ cls := "EndTeller", name := "today", desc := "(I)Z" } : Jvm.MethodName)) ∈ TB := mt_3 (List.mem_of_getElem? (i := 217) rfl) rfl
theorem m_3_218 : (Jvm.Cond.instanceMethod ({ cls := "EndTeller", name := "today", desc := "(I)Z" } : Jvm.MethodName)) ∈ TB := mt_3 (List.mem_of_getElem? (i := 218) rfl) rfl
theorem m_3_220 : (Jvm.Cond.code ({ cls := "EndTeller", name := "today", desc := "(I)Z" } : Jvm.MethodName) prog_1_method_30_code (2 : Nat) (Option.some Jvm.ClassFile.FieldType.boolean)) ∈ TB := mt_3 (List.mem_of_getElem? (i := 220) rfl) rfl
theorem cw_X8_today : CWd yX8_today cX8_today 2 (some .boolean) 1 := ⟨m_1_1, m_3_220, by decide +kernel⟩
theorem m_3_219 : (Jvm.Cond.selects "EndTeller" ({ cls := "EndTeller", name := "today", desc := "(I)Z" } : Jvm.MethodName) ({ cls := "EndTeller", name := "today", desc := "(I)Z" } : Jvm.MethodName)) ∈ TB := mt_3 (List.mem_of_getElem? (i := 219) rfl) rfl
theorem m_5_99 : (Jvm.Cond.methodLink "EndTellerLaw" (144 : Nat) ({ cls := "EndTellerModel", name := "today", desc := "(I)Z" } : Jvm.MethodName)) ∈ TB := mt_5 (List.mem_of_getElem? (i := 99) rfl) rfl
theorem m_5_100 : (Jvm.Cond.instanceMethod ({ cls := "EndTellerModel", name := "today", desc := "(I)Z" } : Jvm.MethodName)) ∈ TB := mt_5 (List.mem_of_getElem? (i := 100) rfl) rfl
theorem m_5_102 : (Jvm.Cond.code ({ cls := "EndTellerModel", name := "today", desc := "(I)Z" } : Jvm.MethodName) prog_11_method_56_code (2 : Nat) (Option.some Jvm.ClassFile.FieldType.boolean)) ∈ TB := mt_5 (List.mem_of_getElem? (i := 102) rfl) rfl
theorem cw_X9_today : CWd yX9_today cX9_today 2 (some .boolean) 1 := ⟨m_1_10, m_5_102, by decide +kernel⟩
theorem m_5_101 : (Jvm.Cond.selects "EndTellerModel" ({ cls := "EndTellerModel", name := "today", desc := "(I)Z" } : Jvm.MethodName) ({ cls := "EndTellerModel", name := "today", desc := "(I)Z" } : Jvm.MethodName)) ∈ TB := mt_5 (List.mem_of_getElem? (i := 101) rfl) rfl
theorem m_3_221 : (Jvm.Cond.methodLink "EndTellerLaw" (145 : Nat) ({ cls := "EndTeller", name := "telling", desc := "(IIZ)Z" } : Jvm.MethodName)) ∈ TB := mt_3 (List.mem_of_getElem? (i := 221) rfl) rfl
theorem m_3_222 : (Jvm.Cond.instanceMethod ({ cls := "EndTeller", name := "telling", desc := "(IIZ)Z" } : Jvm.MethodName)) ∈ TB := mt_3 (List.mem_of_getElem? (i := 222) rfl) rfl
theorem m_3_224 : (Jvm.Cond.code ({ cls := "EndTeller", name := "telling", desc := "(IIZ)Z" } : Jvm.MethodName) prog_1_method_31_code (4 : Nat) (Option.some Jvm.ClassFile.FieldType.boolean)) ∈ TB := mt_3 (List.mem_of_getElem? (i := 224) rfl) rfl
theorem cw_X8_telling : CWd yX8_telling cX8_telling 4 (some .boolean) 3 := ⟨m_1_1, m_3_224, by decide +kernel⟩
theorem m_3_223 : (Jvm.Cond.selects "EndTeller" ({ cls := "EndTeller", name := "telling", desc := "(IIZ)Z" } : Jvm.MethodName) ({ cls := "EndTeller", name := "telling", desc := "(IIZ)Z" } : Jvm.MethodName)) ∈ TB := mt_3 (List.mem_of_getElem? (i := 223) rfl) rfl
theorem m_5_103 : (Jvm.Cond.methodLink "EndTellerLaw" (148 : Nat) ({ cls := "EndTellerModel", name := "telling", desc := "(IIZ)Z" } : Jvm.MethodName)) ∈ TB := mt_5 (List.mem_of_getElem? (i := 103) rfl) rfl
theorem m_5_104 : (Jvm.Cond.instanceMethod ({ cls := "EndTellerModel", name := "telling", desc := "(IIZ)Z" } : Jvm.MethodName)) ∈ TB := mt_5 (List.mem_of_getElem? (i := 104) rfl) rfl
theorem m_5_106 : (Jvm.Cond.code ({ cls := "EndTellerModel", name := "telling", desc := "(IIZ)Z" } : Jvm.MethodName) prog_11_method_58_code (4 : Nat) (Option.some Jvm.ClassFile.FieldType.boolean)) ∈ TB := mt_5 (List.mem_of_getElem? (i := 106) rfl) rfl
theorem cw_X9_telling : CWd yX9_telling cX9_telling 4 (some .boolean) 3 := ⟨m_1_10, m_5_106, by decide +kernel⟩
theorem m_5_105 : (Jvm.Cond.selects "EndTellerModel" ({ cls := "EndTellerModel", name := "telling", desc := "(IIZ)Z" } : Jvm.MethodName) ({ cls := "EndTellerModel", name := "telling", desc := "(IIZ)Z" } : Jvm.MethodName)) ∈ TB := mt_5 (List.mem_of_getElem? (i := 105) rfl) rfl
theorem m_3_232 : (Jvm.Cond.methodLink "EndTellerLaw" (149 : Nat) ({ cls := "EndTeller", name := "judged", desc := "(II)I" } : Jvm.MethodName)) ∈ TB := mt_3 (List.mem_of_getElem? (i := 232) rfl) rfl
theorem m_3_233 : (Jvm.Cond.instanceMethod ({ cls := "EndTeller", name := "judged", desc := "(II)I" } : Jvm.MethodName)) ∈ TB := mt_3 (List.mem_of_getElem? (i := 233) rfl) rfl
theorem m_3_235 : (Jvm.Cond.code ({ cls := "EndTeller", name := "judged", desc := "(II)I" } : Jvm.MethodName) prog_1_method_32_code (3 : Nat) (Option.some Jvm.ClassFile.FieldType.int)) ∈ TB := mt_3 (List.mem_of_getElem? (i := 235) rfl) rfl
theorem cw_X8_judged : CWd yX8_judged cX8_judged 3 (some .int) 2 := ⟨m_1_1, m_3_235, by decide +kernel⟩
theorem m_3_234 : (Jvm.Cond.selects "EndTeller" ({ cls := "EndTeller", name := "judged", desc := "(II)I" } : Jvm.MethodName) ({ cls := "EndTeller", name := "judged", desc := "(II)I" } : Jvm.MethodName)) ∈ TB := mt_3 (List.mem_of_getElem? (i := 234) rfl) rfl
theorem m_5_107 : (Jvm.Cond.methodLink "EndTellerLaw" (152 : Nat) ({ cls := "EndTellerModel", name := "judged", desc := "(II)I" } : Jvm.MethodName)) ∈ TB := mt_5 (List.mem_of_getElem? (i := 107) rfl) rfl
theorem m_5_108 : (Jvm.Cond.instanceMethod ({ cls := "EndTellerModel", name := "judged", desc := "(II)I" } : Jvm.MethodName)) ∈ TB := mt_5 (List.mem_of_getElem? (i := 108) rfl) rfl
theorem m_5_110 : (Jvm.Cond.code ({ cls := "EndTellerModel", name := "judged", desc := "(II)I" } : Jvm.MethodName) prog_11_method_59_code (5 : Nat) (Option.some Jvm.ClassFile.FieldType.int)) ∈ TB := mt_5 (List.mem_of_getElem? (i := 110) rfl) rfl
theorem cw_X9_judged : CWd yX9_judged cX9_judged 5 (some .int) 2 := ⟨m_1_10, m_5_110, by decide +kernel⟩
theorem m_5_109 : (Jvm.Cond.selects "EndTellerModel" ({ cls := "EndTellerModel", name := "judged", desc := "(II)I" } : Jvm.MethodName) ({ cls := "EndTellerModel", name := "judged", desc := "(II)I" } : Jvm.MethodName)) ∈ TB := mt_5 (List.mem_of_getElem? (i := 109) rfl) rfl
theorem m_3_239 : (Jvm.Cond.methodLink "EndTellerLaw" (153 : Nat) ({ cls := "EndTeller", name := "said", desc := "(I)Z" } : Jvm.MethodName)) ∈ TB := mt_3 (List.mem_of_getElem? (i := 239) rfl) rfl
theorem m_4_0 : (Jvm.Cond.instanceMethod ({ cls := "EndTeller", name := "said", desc := "(I)Z" } : Jvm.MethodName)) ∈ TB := mt_4 (List.mem_of_getElem? (i := 0) rfl) rfl
theorem m_4_2 : (Jvm.Cond.code ({ cls := "EndTeller", name := "said", desc := "(I)Z" } : Jvm.MethodName) prog_1_method_33_code (4 : Nat) (Option.some Jvm.ClassFile.FieldType.boolean)) ∈ TB := mt_4 (List.mem_of_getElem? (i := 2) rfl) rfl
theorem cw_X8_said : CWd yX8_said cX8_said 4 (some .boolean) 1 := ⟨m_1_1, m_4_2, by decide +kernel⟩
theorem m_4_1 : (Jvm.Cond.selects "EndTeller" ({ cls := "EndTeller", name := "said", desc := "(I)Z" } : Jvm.MethodName) ({ cls := "EndTeller", name := "said", desc := "(I)Z" } : Jvm.MethodName)) ∈ TB := mt_4 (List.mem_of_getElem? (i := 1) rfl) rfl
theorem m_5_114 : (Jvm.Cond.methodLink "EndTellerLaw" (156 : Nat) ({ cls := "EndTellerModel", name := "said", desc := "(I)Z" } : Jvm.MethodName)) ∈ TB := mt_5 (List.mem_of_getElem? (i := 114) rfl) rfl
theorem m_5_115 : (Jvm.Cond.instanceMethod ({ cls := "EndTellerModel", name := "said", desc := "(I)Z" } : Jvm.MethodName)) ∈ TB := mt_5 (List.mem_of_getElem? (i := 115) rfl) rfl
theorem m_5_117 : (Jvm.Cond.code ({ cls := "EndTellerModel", name := "said", desc := "(I)Z" } : Jvm.MethodName) prog_11_method_60_code (14 : Nat) (Option.some Jvm.ClassFile.FieldType.boolean)) ∈ TB := mt_5 (List.mem_of_getElem? (i := 117) rfl) rfl
theorem cw_X9_said : CWd yX9_said cX9_said 14 (some .boolean) 1 := ⟨m_1_10, m_5_117, by decide +kernel⟩
theorem m_5_116 : (Jvm.Cond.selects "EndTellerModel" ({ cls := "EndTellerModel", name := "said", desc := "(I)Z" } : Jvm.MethodName) ({ cls := "EndTellerModel", name := "said", desc := "(I)Z" } : Jvm.MethodName)) ∈ TB := mt_5 (List.mem_of_getElem? (i := 116) rfl) rfl
