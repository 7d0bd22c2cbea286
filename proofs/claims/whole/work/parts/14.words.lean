/-! WORDS (by program) -/
theorem m_0_0 : (Jvm.Cond.selects "EndTeller" ({ cls := "EndTeller", name := "refuse", desc := "(I)Z" } : Jvm.MethodName) ({ cls := "EndTeller", name := "refuse", desc := "(I)Z" } : Jvm.MethodName)) ∈ TB := mt_0 (List.mem_of_getElem? (i := 0) rfl) rfl
theorem m_0_1 : (Jvm.Cond.selects "EndTeller" ({ cls := "EndTeller", name := "well", desc := "()Z" } : Jvm.MethodName) ({ cls := "EndTeller", name := "well", desc := "()Z" } : Jvm.MethodName)) ∈ TB := mt_0 (List.mem_of_getElem? (i := 1) rfl) rfl
theorem m_0_2 : (Jvm.Cond.selects "EndTeller" ({ cls := "EndTeller", name := "placeTrouble", desc := "(II)I" } : Jvm.MethodName) ({ cls := "EndTeller", name := "placeTrouble", desc := "(II)I" } : Jvm.MethodName)) ∈ TB := mt_0 (List.mem_of_getElem? (i := 2) rfl) rfl
theorem m_0_3 : (Jvm.Cond.selects "EndTeller" ({ cls := "EndTeller", name := "refuseNumber", desc := "(I)I" } : Jvm.MethodName) ({ cls := "EndTeller", name := "refuseNumber", desc := "(I)I" } : Jvm.MethodName)) ∈ TB := mt_0 (List.mem_of_getElem? (i := 3) rfl) rfl
theorem m_0_4 : (Jvm.Cond.selects "EndTeller" ({ cls := "EndTeller", name := "addPart", desc := "(I)I" } : Jvm.MethodName) ({ cls := "EndTeller", name := "addPart", desc := "(I)I" } : Jvm.MethodName)) ∈ TB := mt_0 (List.mem_of_getElem? (i := 4) rfl) rfl
theorem m_0_5 : (Jvm.Cond.selects "EndTeller" ({ cls := "EndTeller", name := "changed", desc := "()Z" } : Jvm.MethodName) ({ cls := "EndTeller", name := "changed", desc := "()Z" } : Jvm.MethodName)) ∈ TB := mt_0 (List.mem_of_getElem? (i := 5) rfl) rfl
theorem m_0_6 : (Jvm.Cond.selects "EndTeller" ({ cls := "EndTeller", name := "chanceTrouble", desc := "()I" } : Jvm.MethodName) ({ cls := "EndTeller", name := "chanceTrouble", desc := "()I" } : Jvm.MethodName)) ∈ TB := mt_0 (List.mem_of_getElem? (i := 6) rfl) rfl
theorem m_0_7 : (Jvm.Cond.selects "EndTeller" ({ cls := "EndTeller", name := "tell", desc := "(JJ)Z" } : Jvm.MethodName) ({ cls := "EndTeller", name := "tell", desc := "(JJ)Z" } : Jvm.MethodName)) ∈ TB := mt_0 (List.mem_of_getElem? (i := 7) rfl) rfl
theorem m_0_8 : (Jvm.Cond.selects "EndTellerModel" ({ cls := "EndTellerModel", name := "no", desc := "(I)Z" } : Jvm.MethodName) ({ cls := "EndTellerModel", name := "no", desc := "(I)Z" } : Jvm.MethodName)) ∈ TB := mt_0 (List.mem_of_getElem? (i := 8) rfl) rfl
theorem m_0_9 : (Jvm.Cond.selects "EndTellerModel" ({ cls := "EndTellerModel", name := "placed", desc := "(II)I" } : Jvm.MethodName) ({ cls := "EndTellerModel", name := "placed", desc := "(II)I" } : Jvm.MethodName)) ∈ TB := mt_0 (List.mem_of_getElem? (i := 9) rfl) rfl
theorem m_0_10 : (Jvm.Cond.selects "EndTellerModel" ({ cls := "EndTellerModel", name := "trayed", desc := "(I)I" } : Jvm.MethodName) ({ cls := "EndTellerModel", name := "trayed", desc := "(I)I" } : Jvm.MethodName)) ∈ TB := mt_0 (List.mem_of_getElem? (i := 10) rfl) rfl
theorem m_0_11 : (Jvm.Cond.selects "EndTellerModel" ({ cls := "EndTellerModel", name := "refuse", desc := "(I)I" } : Jvm.MethodName) ({ cls := "EndTellerModel", name := "refuse", desc := "(I)I" } : Jvm.MethodName)) ∈ TB := mt_0 (List.mem_of_getElem? (i := 11) rfl) rfl
theorem m_0_12 : (Jvm.Cond.selects "EndTellerModel" ({ cls := "EndTellerModel", name := "clearMade", desc := "()V" } : Jvm.MethodName) ({ cls := "EndTellerModel", name := "clearMade", desc := "()V" } : Jvm.MethodName)) ∈ TB := mt_0 (List.mem_of_getElem? (i := 12) rfl) rfl
theorem m_0_13 : (Jvm.Cond.selects "EndTellerModel" ({ cls := "EndTellerModel", name := "adds", desc := "(I)I" } : Jvm.MethodName) ({ cls := "EndTellerModel", name := "adds", desc := "(I)I" } : Jvm.MethodName)) ∈ TB := mt_0 (List.mem_of_getElem? (i := 13) rfl) rfl
theorem m_0_14 : (Jvm.Cond.selects "EndTellerModel" ({ cls := "EndTellerModel", name := "isPart", desc := "(I)Z" } : Jvm.MethodName) ({ cls := "EndTellerModel", name := "isPart", desc := "(I)Z" } : Jvm.MethodName)) ∈ TB := mt_0 (List.mem_of_getElem? (i := 14) rfl) rfl
theorem m_0_15 : (Jvm.Cond.selects "EndTellerModel" ({ cls := "EndTellerModel", name := "sumOf", desc := "(I)I" } : Jvm.MethodName) ({ cls := "EndTellerModel", name := "sumOf", desc := "(I)I" } : Jvm.MethodName)) ∈ TB := mt_0 (List.mem_of_getElem? (i := 15) rfl) rfl
theorem m_0_16 : (Jvm.Cond.selects "EndTellerModel" ({ cls := "EndTellerModel", name := "isGreat", desc := "()Z" } : Jvm.MethodName) ({ cls := "EndTellerModel", name := "isGreat", desc := "()Z" } : Jvm.MethodName)) ∈ TB := mt_0 (List.mem_of_getElem? (i := 16) rfl) rfl
theorem m_0_17 : (Jvm.Cond.selects "EndTellerModel" ({ cls := "EndTellerModel", name := "tellsUpTo", desc := "(II)Z" } : Jvm.MethodName) ({ cls := "EndTellerModel", name := "tellsUpTo", desc := "(II)Z" } : Jvm.MethodName)) ∈ TB := mt_0 (List.mem_of_getElem? (i := 17) rfl) rfl
theorem m_0_18 : (Jvm.Cond.selects "EndTellerModel" ({ cls := "EndTellerModel", name := "sums", desc := "(III)I" } : Jvm.MethodName) ({ cls := "EndTellerModel", name := "sums", desc := "(III)I" } : Jvm.MethodName)) ∈ TB := mt_0 (List.mem_of_getElem? (i := 18) rfl) rfl
theorem m_0_19 : (Jvm.Cond.selects "EndTellerModel" ({ cls := "EndTellerModel", name := "isStuck", desc := "()Z" } : Jvm.MethodName) ({ cls := "EndTellerModel", name := "isStuck", desc := "()Z" } : Jvm.MethodName)) ∈ TB := mt_0 (List.mem_of_getElem? (i := 19) rfl) rfl
theorem m_0_20 : (Jvm.Cond.selects "EndTellerModel" ({ cls := "EndTellerModel", name := "firstWay", desc := "()V" } : Jvm.MethodName) ({ cls := "EndTellerModel", name := "firstWay", desc := "()V" } : Jvm.MethodName)) ∈ TB := mt_0 (List.mem_of_getElem? (i := 20) rfl) rfl
theorem m_0_21 : (Jvm.Cond.selects "EndTellerModel" ({ cls := "EndTellerModel", name := "step", desc := "(I)I" } : Jvm.MethodName) ({ cls := "EndTellerModel", name := "step", desc := "(I)I" } : Jvm.MethodName)) ∈ TB := mt_0 (List.mem_of_getElem? (i := 21) rfl) rfl
theorem m_0_22 : (Jvm.Cond.selects "EndTellerModel" ({ cls := "EndTellerModel", name := "areOver", desc := "(I)Z" } : Jvm.MethodName) ({ cls := "EndTellerModel", name := "areOver", desc := "(I)Z" } : Jvm.MethodName)) ∈ TB := mt_0 (List.mem_of_getElem? (i := 22) rfl) rfl
theorem m_0_23 : (Jvm.Cond.selects "EndTellerModel" ({ cls := "EndTellerModel", name := "isLeft", desc := "()Z" } : Jvm.MethodName) ({ cls := "EndTellerModel", name := "isLeft", desc := "()Z" } : Jvm.MethodName)) ∈ TB := mt_0 (List.mem_of_getElem? (i := 23) rfl) rfl
theorem m_0_24 : (Jvm.Cond.selects "EndTellerModel" ({ cls := "EndTellerModel", name := "weightOf", desc := "()J" } : Jvm.MethodName) ({ cls := "EndTellerModel", name := "weightOf", desc := "()J" } : Jvm.MethodName)) ∈ TB := mt_0 (List.mem_of_getElem? (i := 24) rfl) rfl
theorem m_0_25 : (Jvm.Cond.selects "EndTellerModel" ({ cls := "EndTellerModel", name := "nextWay", desc := "()Z" } : Jvm.MethodName) ({ cls := "EndTellerModel", name := "nextWay", desc := "()Z" } : Jvm.MethodName)) ∈ TB := mt_0 (List.mem_of_getElem? (i := 25) rfl) rfl
theorem m_0_26 : (Jvm.Cond.selects "EndTellerModel" ({ cls := "EndTellerModel", name := "tells", desc := "(JJ)I" } : Jvm.MethodName) ({ cls := "EndTellerModel", name := "tells", desc := "(JJ)I" } : Jvm.MethodName)) ∈ TB := mt_0 (List.mem_of_getElem? (i := 26) rfl) rfl
theorem m_0_27 : (Jvm.Cond.selects "EndTellerModel" ({ cls := "EndTellerModel", name := "apart", desc := "()J" } : Jvm.MethodName) ({ cls := "EndTellerModel", name := "apart", desc := "()J" } : Jvm.MethodName)) ∈ TB := mt_0 (List.mem_of_getElem? (i := 27) rfl) rfl
theorem m_0_28 : (Jvm.Cond.selects "EndTellerModel" ({ cls := "EndTellerModel", name := "known", desc := "(I)I" } : Jvm.MethodName) ({ cls := "EndTellerModel", name := "known", desc := "(I)I" } : Jvm.MethodName)) ∈ TB := mt_0 (List.mem_of_getElem? (i := 28) rfl) rfl
theorem m_1_12 : (Jvm.Cond.initialized "java/lang/System") ∈ TB := mt_1 (List.mem_of_getElem? (i := 12) rfl) rfl
theorem m_1_14 : (Jvm.Cond.initialized "java/lang/Math") ∈ TB := mt_1 (List.mem_of_getElem? (i := 14) rfl) rfl
theorem m_1_127 : (Jvm.Cond.arrayClass Jvm.ClassFile.FieldType.int) ∈ TB := mt_1 (List.mem_of_getElem? (i := 127) rfl) rfl
theorem m_2_71 : (Jvm.Cond.methodLink "EndTeller" (59 : Nat) ({ cls := "EndTeller", name := "isTray", desc := "(I)Z" } : Jvm.MethodName)) ∈ TB := mt_2 (List.mem_of_getElem? (i := 71) rfl) rfl
theorem m_2_72 : (Jvm.Cond.static ({ cls := "EndTeller", name := "isTray", desc := "(I)Z" } : Jvm.MethodName)) ∈ TB := mt_2 (List.mem_of_getElem? (i := 72) rfl) rfl
theorem m_2_74 : (Jvm.Cond.methodLink "EndTeller" (63 : Nat) ({ cls := "EndTeller", name := "refuse", desc := "(I)Z" } : Jvm.MethodName)) ∈ TB := mt_2 (List.mem_of_getElem? (i := 74) rfl) rfl
theorem m_2_76 : (Jvm.Cond.instanceMethod ({ cls := "EndTeller", name := "refuse", desc := "(I)Z" } : Jvm.MethodName)) ∈ TB := mt_2 (List.mem_of_getElem? (i := 76) rfl) rfl
theorem m_2_78 : (Jvm.Cond.methodLink "EndTeller" (66 : Nat) ({ cls := "EndTeller$Tray", name := "layOut", desc := "(II)V" } : Jvm.MethodName)) ∈ TB := mt_2 (List.mem_of_getElem? (i := 78) rfl) rfl
theorem m_2_79 : (Jvm.Cond.instanceMethod ({ cls := "EndTeller$Tray", name := "layOut", desc := "(II)V" } : Jvm.MethodName)) ∈ TB := mt_2 (List.mem_of_getElem? (i := 79) rfl) rfl
theorem m_2_80 : (Jvm.Cond.selects "EndTeller$Tray" ({ cls := "EndTeller$Tray", name := "layOut", desc := "(II)V" } : Jvm.MethodName) ({ cls := "EndTeller$Tray", name := "layOut", desc := "(II)V" } : Jvm.MethodName)) ∈ TB := mt_2 (List.mem_of_getElem? (i := 80) rfl) rfl
theorem m_2_82 : (Jvm.Cond.methodLink "EndTeller$Tray" (22 : Nat) ({ cls := "java/util/Arrays", name := "fill", desc := "([JJ)V" } : Jvm.MethodName)) ∈ TB := mt_2 (List.mem_of_getElem? (i := 82) rfl) rfl
theorem m_2_83 : (Jvm.Cond.static ({ cls := "java/util/Arrays", name := "fill", desc := "([JJ)V" } : Jvm.MethodName)) ∈ TB := mt_2 (List.mem_of_getElem? (i := 83) rfl) rfl
theorem m_2_85 : (Jvm.Cond.methodLink "EndTeller" (70 : Nat) ({ cls := "EndTeller", name := "well", desc := "()Z" } : Jvm.MethodName)) ∈ TB := mt_2 (List.mem_of_getElem? (i := 85) rfl) rfl
theorem m_2_87 : (Jvm.Cond.instanceMethod ({ cls := "EndTeller", name := "well", desc := "()Z" } : Jvm.MethodName)) ∈ TB := mt_2 (List.mem_of_getElem? (i := 87) rfl) rfl
theorem m_2_93 : (Jvm.Cond.methodLink "EndTeller" (74 : Nat) ({ cls := "EndTeller", name := "placeTrouble", desc := "(II)I" } : Jvm.MethodName)) ∈ TB := mt_2 (List.mem_of_getElem? (i := 93) rfl) rfl
theorem m_2_95 : (Jvm.Cond.instanceMethod ({ cls := "EndTeller", name := "placeTrouble", desc := "(II)I" } : Jvm.MethodName)) ∈ TB := mt_2 (List.mem_of_getElem? (i := 95) rfl) rfl
theorem m_2_97 : (Jvm.Cond.methodLink "EndTeller" (90 : Nat) ({ cls := "EndTeller$Tray", name := "isMissing", desc := "()Z" } : Jvm.MethodName)) ∈ TB := mt_2 (List.mem_of_getElem? (i := 97) rfl) rfl
theorem m_2_98 : (Jvm.Cond.instanceMethod ({ cls := "EndTeller$Tray", name := "isMissing", desc := "()Z" } : Jvm.MethodName)) ∈ TB := mt_2 (List.mem_of_getElem? (i := 98) rfl) rfl
theorem m_2_99 : (Jvm.Cond.selects "EndTeller$Tray" ({ cls := "EndTeller$Tray", name := "isMissing", desc := "()Z" } : Jvm.MethodName) ({ cls := "EndTeller$Tray", name := "isMissing", desc := "()Z" } : Jvm.MethodName)) ∈ TB := mt_2 (List.mem_of_getElem? (i := 99) rfl) rfl
theorem m_2_101 : (Jvm.Cond.methodLink "EndTeller" (295 : Nat) ({ cls := "EndTeller$Tray", name := "has", desc := "(I)Z" } : Jvm.MethodName)) ∈ TB := mt_2 (List.mem_of_getElem? (i := 101) rfl) rfl
theorem m_2_102 : (Jvm.Cond.instanceMethod ({ cls := "EndTeller$Tray", name := "has", desc := "(I)Z" } : Jvm.MethodName)) ∈ TB := mt_2 (List.mem_of_getElem? (i := 102) rfl) rfl
theorem m_2_103 : (Jvm.Cond.selects "EndTeller$Tray" ({ cls := "EndTeller$Tray", name := "has", desc := "(I)Z" } : Jvm.MethodName) ({ cls := "EndTeller$Tray", name := "has", desc := "(I)Z" } : Jvm.MethodName)) ∈ TB := mt_2 (List.mem_of_getElem? (i := 103) rfl) rfl
theorem m_2_105 : (Jvm.Cond.methodLink "EndTeller" (78 : Nat) ({ cls := "EndTeller$Tray", name := "put", desc := "(IJ)V" } : Jvm.MethodName)) ∈ TB := mt_2 (List.mem_of_getElem? (i := 105) rfl) rfl
theorem m_2_106 : (Jvm.Cond.instanceMethod ({ cls := "EndTeller$Tray", name := "put", desc := "(IJ)V" } : Jvm.MethodName)) ∈ TB := mt_2 (List.mem_of_getElem? (i := 106) rfl) rfl
theorem m_2_107 : (Jvm.Cond.selects "EndTeller$Tray" ({ cls := "EndTeller$Tray", name := "put", desc := "(IJ)V" } : Jvm.MethodName) ({ cls := "EndTeller$Tray", name := "put", desc := "(IJ)V" } : Jvm.MethodName)) ∈ TB := mt_2 (List.mem_of_getElem? (i := 107) rfl) rfl
theorem m_2_109 : (Jvm.Cond.methodLink "EndTeller$Tray" (28 : Nat) ({ cls := "EndTeller$Tray", name := "has", desc := "(I)Z" } : Jvm.MethodName)) ∈ TB := mt_2 (List.mem_of_getElem? (i := 109) rfl) rfl
theorem m_2_110 : (Jvm.Cond.methodLink "EndTeller$Tray" (32 : Nat) ({ cls := "EndTeller$Tray", name := "cut", desc := "(J)J" } : Jvm.MethodName)) ∈ TB := mt_2 (List.mem_of_getElem? (i := 110) rfl) rfl
theorem m_2_111 : (Jvm.Cond.instanceMethod ({ cls := "EndTeller$Tray", name := "cut", desc := "(J)J" } : Jvm.MethodName)) ∈ TB := mt_2 (List.mem_of_getElem? (i := 111) rfl) rfl
theorem m_2_112 : (Jvm.Cond.selects "EndTeller$Tray" ({ cls := "EndTeller$Tray", name := "cut", desc := "(J)J" } : Jvm.MethodName) ({ cls := "EndTeller$Tray", name := "cut", desc := "(J)J" } : Jvm.MethodName)) ∈ TB := mt_2 (List.mem_of_getElem? (i := 112) rfl) rfl
theorem m_2_118 : (Jvm.Cond.methodLink "EndTeller" (82 : Nat) ({ cls := "EndTeller", name := "refuseNumber", desc := "(I)I" } : Jvm.MethodName)) ∈ TB := mt_2 (List.mem_of_getElem? (i := 118) rfl) rfl
theorem m_2_120 : (Jvm.Cond.instanceMethod ({ cls := "EndTeller", name := "refuseNumber", desc := "(I)I" } : Jvm.MethodName)) ∈ TB := mt_2 (List.mem_of_getElem? (i := 120) rfl) rfl
theorem m_2_122 : (Jvm.Cond.methodLink "EndTeller" (86 : Nat) ({ cls := "EndTeller$Tray", name := "numberAt", desc := "(I)J" } : Jvm.MethodName)) ∈ TB := mt_2 (List.mem_of_getElem? (i := 122) rfl) rfl
theorem m_2_123 : (Jvm.Cond.instanceMethod ({ cls := "EndTeller$Tray", name := "numberAt", desc := "(I)J" } : Jvm.MethodName)) ∈ TB := mt_2 (List.mem_of_getElem? (i := 123) rfl) rfl
theorem m_2_124 : (Jvm.Cond.selects "EndTeller$Tray" ({ cls := "EndTeller$Tray", name := "numberAt", desc := "(I)J" } : Jvm.MethodName) ({ cls := "EndTeller$Tray", name := "numberAt", desc := "(I)J" } : Jvm.MethodName)) ∈ TB := mt_2 (List.mem_of_getElem? (i := 124) rfl) rfl
theorem m_2_130 : (Jvm.Cond.methodLink "EndTeller" (96 : Nat) ({ cls := "EndTeller$Tray", name := "hasRun", desc := "(II)Z" } : Jvm.MethodName)) ∈ TB := mt_2 (List.mem_of_getElem? (i := 130) rfl) rfl
theorem m_2_131 : (Jvm.Cond.instanceMethod ({ cls := "EndTeller$Tray", name := "hasRun", desc := "(II)Z" } : Jvm.MethodName)) ∈ TB := mt_2 (List.mem_of_getElem? (i := 131) rfl) rfl
theorem m_2_132 : (Jvm.Cond.selects "EndTeller$Tray" ({ cls := "EndTeller$Tray", name := "hasRun", desc := "(II)Z" } : Jvm.MethodName) ({ cls := "EndTeller$Tray", name := "hasRun", desc := "(II)Z" } : Jvm.MethodName)) ∈ TB := mt_2 (List.mem_of_getElem? (i := 132) rfl) rfl
theorem m_2_134 : (Jvm.Cond.methodLink "EndTeller" (104 : Nat) ({ cls := "java/lang/System", name := "arraycopy", desc := "(Ljava/lang/Object;ILjava/lang/Object;II)V" } : Jvm.MethodName)) ∈ TB := mt_2 (List.mem_of_getElem? (i := 134) rfl) rfl
theorem m_2_135 : (Jvm.Cond.static ({ cls := "java/lang/System", name := "arraycopy", desc := "(Ljava/lang/Object;ILjava/lang/Object;II)V" } : Jvm.MethodName)) ∈ TB := mt_2 (List.mem_of_getElem? (i := 135) rfl) rfl
theorem m_2_136 : (Jvm.Cond.native ({ cls := "java/lang/System", name := "arraycopy", desc := "(Ljava/lang/Object;ILjava/lang/Object;II)V" } : Jvm.MethodName)) ∈ TB := mt_2 (List.mem_of_getElem? (i := 136) rfl) rfl
theorem m_2_141 : (Jvm.Cond.methodLink "EndTeller" (110 : Nat) ({ cls := "EndTeller", name := "arePartHands", desc := "(I)Z" } : Jvm.MethodName)) ∈ TB := mt_2 (List.mem_of_getElem? (i := 141) rfl) rfl
theorem m_2_142 : (Jvm.Cond.static ({ cls := "EndTeller", name := "arePartHands", desc := "(I)Z" } : Jvm.MethodName)) ∈ TB := mt_2 (List.mem_of_getElem? (i := 142) rfl) rfl
theorem m_2_144 : (Jvm.Cond.methodLink "EndTeller" (113 : Nat) ({ cls := "EndTeller$Tray", name := "holdsRows", desc := "(I)Z" } : Jvm.MethodName)) ∈ TB := mt_2 (List.mem_of_getElem? (i := 144) rfl) rfl
theorem m_2_145 : (Jvm.Cond.instanceMethod ({ cls := "EndTeller$Tray", name := "holdsRows", desc := "(I)Z" } : Jvm.MethodName)) ∈ TB := mt_2 (List.mem_of_getElem? (i := 145) rfl) rfl
theorem m_2_146 : (Jvm.Cond.selects "EndTeller$Tray" ({ cls := "EndTeller$Tray", name := "holdsRows", desc := "(I)Z" } : Jvm.MethodName) ({ cls := "EndTeller$Tray", name := "holdsRows", desc := "(I)Z" } : Jvm.MethodName)) ∈ TB := mt_2 (List.mem_of_getElem? (i := 146) rfl) rfl
theorem m_2_148 : (Jvm.Cond.constantLong "EndTeller$Tray" (36 : Nat) (-1 : Int64)) ∈ TB := mt_2 (List.mem_of_getElem? (i := 148) rfl) rfl
theorem m_2_149 : (Jvm.Cond.methodLink "EndTeller$Tray" (38 : Nat) ({ cls := "EndTeller$Tray", name := "numberAt", desc := "(I)J" } : Jvm.MethodName)) ∈ TB := mt_2 (List.mem_of_getElem? (i := 149) rfl) rfl
theorem m_2_150 : (Jvm.Cond.constantLong "EndTeller$Tray" (42 : Nat) (99 : Int64)) ∈ TB := mt_2 (List.mem_of_getElem? (i := 150) rfl) rfl
theorem m_2_151 : (Jvm.Cond.constantLong "EndTeller$Tray" (44 : Nat) (1000 : Int64)) ∈ TB := mt_2 (List.mem_of_getElem? (i := 151) rfl) rfl
theorem m_2_152 : (Jvm.Cond.methodLink "EndTeller" (116 : Nat) ({ cls := "EndTeller$Table", name := "empty", desc := "()V" } : Jvm.MethodName)) ∈ TB := mt_2 (List.mem_of_getElem? (i := 152) rfl) rfl
theorem m_2_153 : (Jvm.Cond.instanceMethod ({ cls := "EndTeller$Table", name := "empty", desc := "()V" } : Jvm.MethodName)) ∈ TB := mt_2 (List.mem_of_getElem? (i := 153) rfl) rfl
theorem m_2_154 : (Jvm.Cond.selects "EndTeller$Table" ({ cls := "EndTeller$Table", name := "empty", desc := "()V" } : Jvm.MethodName) ({ cls := "EndTeller$Table", name := "empty", desc := "()V" } : Jvm.MethodName)) ∈ TB := mt_2 (List.mem_of_getElem? (i := 154) rfl) rfl
theorem m_2_156 : (Jvm.Cond.methodLink "EndTeller$Table" (15 : Nat) ({ cls := "java/util/Arrays", name := "fill", desc := "([JJ)V" } : Jvm.MethodName)) ∈ TB := mt_2 (List.mem_of_getElem? (i := 156) rfl) rfl
theorem m_2_157 : (Jvm.Cond.methodLink "EndTeller" (119 : Nat) ({ cls := "EndTeller$Table", name := "add", desc := "(IJ)V" } : Jvm.MethodName)) ∈ TB := mt_2 (List.mem_of_getElem? (i := 157) rfl) rfl
theorem m_2_158 : (Jvm.Cond.instanceMethod ({ cls := "EndTeller$Table", name := "add", desc := "(IJ)V" } : Jvm.MethodName)) ∈ TB := mt_2 (List.mem_of_getElem? (i := 158) rfl) rfl
theorem m_2_159 : (Jvm.Cond.selects "EndTeller$Table" ({ cls := "EndTeller$Table", name := "add", desc := "(IJ)V" } : Jvm.MethodName) ({ cls := "EndTeller$Table", name := "add", desc := "(IJ)V" } : Jvm.MethodName)) ∈ TB := mt_2 (List.mem_of_getElem? (i := 159) rfl) rfl
theorem m_2_161 : (Jvm.Cond.methodLink "EndTeller" (122 : Nat) ({ cls := "EndTeller", name := "addPart", desc := "(I)I" } : Jvm.MethodName)) ∈ TB := mt_2 (List.mem_of_getElem? (i := 161) rfl) rfl
theorem m_2_163 : (Jvm.Cond.instanceMethod ({ cls := "EndTeller", name := "addPart", desc := "(I)I" } : Jvm.MethodName)) ∈ TB := mt_2 (List.mem_of_getElem? (i := 163) rfl) rfl
theorem m_2_165 : (Jvm.Cond.methodLink "EndTeller" (286 : Nat) ({ cls := "EndTeller$Table", name := "makeLess", desc := "()V" } : Jvm.MethodName)) ∈ TB := mt_2 (List.mem_of_getElem? (i := 165) rfl) rfl
theorem m_2_166 : (Jvm.Cond.instanceMethod ({ cls := "EndTeller$Table", name := "makeLess", desc := "()V" } : Jvm.MethodName)) ∈ TB := mt_2 (List.mem_of_getElem? (i := 166) rfl) rfl
theorem m_2_167 : (Jvm.Cond.selects "EndTeller$Table" ({ cls := "EndTeller$Table", name := "makeLess", desc := "()V" } : Jvm.MethodName) ({ cls := "EndTeller$Table", name := "makeLess", desc := "()V" } : Jvm.MethodName)) ∈ TB := mt_2 (List.mem_of_getElem? (i := 167) rfl) rfl
theorem m_2_170 : (Jvm.Cond.static ({ cls := "EndTeller", name := "commonDivisor", desc := "(JJ)J" } : Jvm.MethodName)) ∈ TB := mt_2 (List.mem_of_getElem? (i := 170) rfl) rfl
theorem m_2_172 : (Jvm.Cond.methodLink "EndTeller" (289 : Nat) ({ cls := "EndTeller$Table", name := "fits", desc := "()Z" } : Jvm.MethodName)) ∈ TB := mt_2 (List.mem_of_getElem? (i := 172) rfl) rfl
theorem m_2_173 : (Jvm.Cond.instanceMethod ({ cls := "EndTeller$Table", name := "fits", desc := "()Z" } : Jvm.MethodName)) ∈ TB := mt_2 (List.mem_of_getElem? (i := 173) rfl) rfl
theorem m_2_174 : (Jvm.Cond.selects "EndTeller$Table" ({ cls := "EndTeller$Table", name := "fits", desc := "()Z" } : Jvm.MethodName) ({ cls := "EndTeller$Table", name := "fits", desc := "()Z" } : Jvm.MethodName)) ∈ TB := mt_2 (List.mem_of_getElem? (i := 174) rfl) rfl
theorem m_2_176 : (Jvm.Cond.constantLong "EndTeller$Table" (42 : Nat) (1000 : Int64)) ∈ TB := mt_2 (List.mem_of_getElem? (i := 176) rfl) rfl
theorem m_2_177 : (Jvm.Cond.methodLink "EndTeller" (292 : Nat) ({ cls := "EndTeller$Work", name := "addPart", desc := "(LEndTeller$Table;I)V" } : Jvm.MethodName)) ∈ TB := mt_2 (List.mem_of_getElem? (i := 177) rfl) rfl
theorem m_2_178 : (Jvm.Cond.instanceMethod ({ cls := "EndTeller$Work", name := "addPart", desc := "(LEndTeller$Table;I)V" } : Jvm.MethodName)) ∈ TB := mt_2 (List.mem_of_getElem? (i := 178) rfl) rfl
theorem m_2_179 : (Jvm.Cond.selects "EndTeller$Work" ({ cls := "EndTeller$Work", name := "addPart", desc := "(LEndTeller$Table;I)V" } : Jvm.MethodName) ({ cls := "EndTeller$Work", name := "addPart", desc := "(LEndTeller$Table;I)V" } : Jvm.MethodName)) ∈ TB := mt_2 (List.mem_of_getElem? (i := 179) rfl) rfl
theorem m_2_181 : (Jvm.Cond.methodLink "EndTeller$Work" (38 : Nat) ({ cls := "EndTeller$Part", name := "become", desc := "(LEndTeller$Table;I)V" } : Jvm.MethodName)) ∈ TB := mt_2 (List.mem_of_getElem? (i := 181) rfl) rfl
theorem m_2_182 : (Jvm.Cond.instanceMethod ({ cls := "EndTeller$Part", name := "become", desc := "(LEndTeller$Table;I)V" } : Jvm.MethodName)) ∈ TB := mt_2 (List.mem_of_getElem? (i := 182) rfl) rfl
theorem m_2_183 : (Jvm.Cond.selects "EndTeller$Part" ({ cls := "EndTeller$Part", name := "become", desc := "(LEndTeller$Table;I)V" } : Jvm.MethodName) ({ cls := "EndTeller$Part", name := "become", desc := "(LEndTeller$Table;I)V" } : Jvm.MethodName)) ∈ TB := mt_2 (List.mem_of_getElem? (i := 183) rfl) rfl
theorem m_2_185 : (Jvm.Cond.methodLink "EndTeller$Part" (37 : Nat) ({ cls := "java/util/Arrays", name := "fill", desc := "([II)V" } : Jvm.MethodName)) ∈ TB := mt_2 (List.mem_of_getElem? (i := 185) rfl) rfl
theorem m_2_186 : (Jvm.Cond.static ({ cls := "java/util/Arrays", name := "fill", desc := "([II)V" } : Jvm.MethodName)) ∈ TB := mt_2 (List.mem_of_getElem? (i := 186) rfl) rfl
theorem m_2_188 : (Jvm.Cond.methodLink "EndTeller" (150 : Nat) ({ cls := "EndTeller", name := "changed", desc := "()Z" } : Jvm.MethodName)) ∈ TB := mt_2 (List.mem_of_getElem? (i := 188) rfl) rfl
theorem m_2_190 : (Jvm.Cond.instanceMethod ({ cls := "EndTeller", name := "changed", desc := "()Z" } : Jvm.MethodName)) ∈ TB := mt_2 (List.mem_of_getElem? (i := 190) rfl) rfl
theorem m_2_200 : (Jvm.Cond.methodLink "EndTeller" (125 : Nat) ({ cls := "EndTeller$Work", name := "hasPart", desc := "(I)Z" } : Jvm.MethodName)) ∈ TB := mt_2 (List.mem_of_getElem? (i := 200) rfl) rfl
theorem m_2_201 : (Jvm.Cond.instanceMethod ({ cls := "EndTeller$Work", name := "hasPart", desc := "(I)Z" } : Jvm.MethodName)) ∈ TB := mt_2 (List.mem_of_getElem? (i := 201) rfl) rfl
theorem m_2_202 : (Jvm.Cond.selects "EndTeller$Work" ({ cls := "EndTeller$Work", name := "hasPart", desc := "(I)Z" } : Jvm.MethodName) ({ cls := "EndTeller$Work", name := "hasPart", desc := "(I)Z" } : Jvm.MethodName)) ∈ TB := mt_2 (List.mem_of_getElem? (i := 202) rfl) rfl
theorem m_2_204 : (Jvm.Cond.methodLink "EndTeller" (139 : Nat) ({ cls := "EndTeller$Table", name := "addOnce", desc := "(LEndTeller$Part;J)V" } : Jvm.MethodName)) ∈ TB := mt_2 (List.mem_of_getElem? (i := 204) rfl) rfl
theorem m_2_205 : (Jvm.Cond.instanceMethod ({ cls := "EndTeller$Table", name := "addOnce", desc := "(LEndTeller$Part;J)V" } : Jvm.MethodName)) ∈ TB := mt_2 (List.mem_of_getElem? (i := 205) rfl) rfl
theorem m_2_206 : (Jvm.Cond.selects "EndTeller$Table" ({ cls := "EndTeller$Table", name := "addOnce", desc := "(LEndTeller$Part;J)V" } : Jvm.MethodName) ({ cls := "EndTeller$Table", name := "addOnce", desc := "(LEndTeller$Part;J)V" } : Jvm.MethodName)) ∈ TB := mt_2 (List.mem_of_getElem? (i := 206) rfl) rfl
theorem m_2_208 : (Jvm.Cond.methodLink "EndTeller$Table" (34 : Nat) ({ cls := "EndTeller$Table", name := "add", desc := "(IJ)V" } : Jvm.MethodName)) ∈ TB := mt_2 (List.mem_of_getElem? (i := 208) rfl) rfl
theorem m_2_213 : (Jvm.Cond.methodLink "EndTeller" (143 : Nat) ({ cls := "EndTeller$Table", name := "addTwice", desc := "(LEndTeller$Part;J)V" } : Jvm.MethodName)) ∈ TB := mt_2 (List.mem_of_getElem? (i := 213) rfl) rfl
theorem m_2_214 : (Jvm.Cond.instanceMethod ({ cls := "EndTeller$Table", name := "addTwice", desc := "(LEndTeller$Part;J)V" } : Jvm.MethodName)) ∈ TB := mt_2 (List.mem_of_getElem? (i := 214) rfl) rfl
theorem m_2_215 : (Jvm.Cond.selects "EndTeller$Table" ({ cls := "EndTeller$Table", name := "addTwice", desc := "(LEndTeller$Part;J)V" } : Jvm.MethodName) ({ cls := "EndTeller$Table", name := "addTwice", desc := "(LEndTeller$Part;J)V" } : Jvm.MethodName)) ∈ TB := mt_2 (List.mem_of_getElem? (i := 215) rfl) rfl
theorem m_2_221 : (Jvm.Cond.methodLink "EndTeller" (146 : Nat) ({ cls := "EndTeller$Part", name := "setNeed", desc := "(IZ)V" } : Jvm.MethodName)) ∈ TB := mt_2 (List.mem_of_getElem? (i := 221) rfl) rfl
theorem m_2_222 : (Jvm.Cond.instanceMethod ({ cls := "EndTeller$Part", name := "setNeed", desc := "(IZ)V" } : Jvm.MethodName)) ∈ TB := mt_2 (List.mem_of_getElem? (i := 222) rfl) rfl
theorem m_2_223 : (Jvm.Cond.selects "EndTeller$Part" ({ cls := "EndTeller$Part", name := "setNeed", desc := "(IZ)V" } : Jvm.MethodName) ({ cls := "EndTeller$Part", name := "setNeed", desc := "(IZ)V" } : Jvm.MethodName)) ∈ TB := mt_2 (List.mem_of_getElem? (i := 223) rfl) rfl
theorem m_2_229 : (Jvm.Cond.methodLink "EndTeller" (156 : Nat) ({ cls := "EndTeller$Work", name := "addCause", desc := "(II)V" } : Jvm.MethodName)) ∈ TB := mt_2 (List.mem_of_getElem? (i := 229) rfl) rfl
theorem m_2_230 : (Jvm.Cond.instanceMethod ({ cls := "EndTeller$Work", name := "addCause", desc := "(II)V" } : Jvm.MethodName)) ∈ TB := mt_2 (List.mem_of_getElem? (i := 230) rfl) rfl
theorem m_2_231 : (Jvm.Cond.selects "EndTeller$Work" ({ cls := "EndTeller$Work", name := "addCause", desc := "(II)V" } : Jvm.MethodName) ({ cls := "EndTeller$Work", name := "addCause", desc := "(II)V" } : Jvm.MethodName)) ∈ TB := mt_2 (List.mem_of_getElem? (i := 231) rfl) rfl
theorem m_3_5 : (Jvm.Cond.methodLink "EndTeller" (166 : Nat) ({ cls := "EndTeller$Work", name := "forget", desc := "()V" } : Jvm.MethodName)) ∈ TB := mt_3 (List.mem_of_getElem? (i := 5) rfl) rfl
theorem m_3_6 : (Jvm.Cond.instanceMethod ({ cls := "EndTeller$Work", name := "forget", desc := "()V" } : Jvm.MethodName)) ∈ TB := mt_3 (List.mem_of_getElem? (i := 6) rfl) rfl
theorem m_3_7 : (Jvm.Cond.selects "EndTeller$Work" ({ cls := "EndTeller$Work", name := "forget", desc := "()V" } : Jvm.MethodName) ({ cls := "EndTeller$Work", name := "forget", desc := "()V" } : Jvm.MethodName)) ∈ TB := mt_3 (List.mem_of_getElem? (i := 7) rfl) rfl
theorem m_3_13 : (Jvm.Cond.methodLink "EndTeller" (178 : Nat) ({ cls := "java/lang/Integer", name := "bitCount", desc := "(I)I" } : Jvm.MethodName)) ∈ TB := mt_3 (List.mem_of_getElem? (i := 13) rfl) rfl
theorem m_3_14 : (Jvm.Cond.static ({ cls := "java/lang/Integer", name := "bitCount", desc := "(I)I" } : Jvm.MethodName)) ∈ TB := mt_3 (List.mem_of_getElem? (i := 14) rfl) rfl
theorem m_3_16 : (Jvm.Cond.constant "java/lang/Integer" (265 : Nat) (1431655765 : Int32)) ∈ TB := mt_3 (List.mem_of_getElem? (i := 16) rfl) rfl
theorem m_3_17 : (Jvm.Cond.constant "java/lang/Integer" (266 : Nat) (858993459 : Int32)) ∈ TB := mt_3 (List.mem_of_getElem? (i := 17) rfl) rfl
theorem m_3_18 : (Jvm.Cond.constant "java/lang/Integer" (267 : Nat) (252645135 : Int32)) ∈ TB := mt_3 (List.mem_of_getElem? (i := 18) rfl) rfl
theorem m_3_35 : (Jvm.Cond.methodLink "EndTeller" (199 : Nat) ({ cls := "EndTeller$Work", name := "isGreat", desc := "()Z" } : Jvm.MethodName)) ∈ TB := mt_3 (List.mem_of_getElem? (i := 35) rfl) rfl
theorem m_3_36 : (Jvm.Cond.instanceMethod ({ cls := "EndTeller$Work", name := "isGreat", desc := "()Z" } : Jvm.MethodName)) ∈ TB := mt_3 (List.mem_of_getElem? (i := 36) rfl) rfl
theorem m_3_37 : (Jvm.Cond.selects "EndTeller$Work" ({ cls := "EndTeller$Work", name := "isGreat", desc := "()Z" } : Jvm.MethodName) ({ cls := "EndTeller$Work", name := "isGreat", desc := "()Z" } : Jvm.MethodName)) ∈ TB := mt_3 (List.mem_of_getElem? (i := 37) rfl) rfl
theorem m_3_39 : (Jvm.Cond.constantLong "EndTeller$Work" (48 : Nat) (20000 : Int64)) ∈ TB := mt_3 (List.mem_of_getElem? (i := 39) rfl) rfl
theorem m_3_40 : (Jvm.Cond.methodLink "EndTeller" (202 : Nat) ({ cls := "EndTeller$Work", name := "countWays", desc := "()I" } : Jvm.MethodName)) ∈ TB := mt_3 (List.mem_of_getElem? (i := 40) rfl) rfl
theorem m_3_41 : (Jvm.Cond.instanceMethod ({ cls := "EndTeller$Work", name := "countWays", desc := "()I" } : Jvm.MethodName)) ∈ TB := mt_3 (List.mem_of_getElem? (i := 41) rfl) rfl
theorem m_3_42 : (Jvm.Cond.selects "EndTeller$Work" ({ cls := "EndTeller$Work", name := "countWays", desc := "()I" } : Jvm.MethodName) ({ cls := "EndTeller$Work", name := "countWays", desc := "()I" } : Jvm.MethodName)) ∈ TB := mt_3 (List.mem_of_getElem? (i := 42) rfl) rfl
theorem m_3_44 : (Jvm.Cond.methodLink "EndTeller$Work" (50 : Nat) ({ cls := "EndTeller$Work", name := "rowsAhead", desc := "(I)I" } : Jvm.MethodName)) ∈ TB := mt_3 (List.mem_of_getElem? (i := 44) rfl) rfl
theorem m_3_45 : (Jvm.Cond.instanceMethod ({ cls := "EndTeller$Work", name := "rowsAhead", desc := "(I)I" } : Jvm.MethodName)) ∈ TB := mt_3 (List.mem_of_getElem? (i := 45) rfl) rfl
theorem m_3_46 : (Jvm.Cond.selects "EndTeller$Work" ({ cls := "EndTeller$Work", name := "rowsAhead", desc := "(I)I" } : Jvm.MethodName) ({ cls := "EndTeller$Work", name := "rowsAhead", desc := "(I)I" } : Jvm.MethodName)) ∈ TB := mt_3 (List.mem_of_getElem? (i := 46) rfl) rfl
theorem m_3_52 : (Jvm.Cond.methodLink "EndTeller" (206 : Nat) ({ cls := "EndTeller", name := "chanceTrouble", desc := "()I" } : Jvm.MethodName)) ∈ TB := mt_3 (List.mem_of_getElem? (i := 52) rfl) rfl
theorem m_3_54 : (Jvm.Cond.instanceMethod ({ cls := "EndTeller", name := "chanceTrouble", desc := "()I" } : Jvm.MethodName)) ∈ TB := mt_3 (List.mem_of_getElem? (i := 54) rfl) rfl
theorem m_3_56 : (Jvm.Cond.methodLink "EndTeller" (298 : Nat) ({ cls := "EndTeller$Work", name := "isStuck", desc := "()Z" } : Jvm.MethodName)) ∈ TB := mt_3 (List.mem_of_getElem? (i := 56) rfl) rfl
theorem m_3_57 : (Jvm.Cond.instanceMethod ({ cls := "EndTeller$Work", name := "isStuck", desc := "()Z" } : Jvm.MethodName)) ∈ TB := mt_3 (List.mem_of_getElem? (i := 57) rfl) rfl
theorem m_3_58 : (Jvm.Cond.selects "EndTeller$Work" ({ cls := "EndTeller$Work", name := "isStuck", desc := "()Z" } : Jvm.MethodName) ({ cls := "EndTeller$Work", name := "isStuck", desc := "()Z" } : Jvm.MethodName)) ∈ TB := mt_3 (List.mem_of_getElem? (i := 58) rfl) rfl
theorem m_3_60 : (Jvm.Cond.methodLink "EndTeller" (301 : Nat) ({ cls := "EndTeller$Ways", name := "refresh", desc := "()V" } : Jvm.MethodName)) ∈ TB := mt_3 (List.mem_of_getElem? (i := 60) rfl) rfl
theorem m_3_61 : (Jvm.Cond.instanceMethod ({ cls := "EndTeller$Ways", name := "refresh", desc := "()V" } : Jvm.MethodName)) ∈ TB := mt_3 (List.mem_of_getElem? (i := 61) rfl) rfl
theorem m_3_62 : (Jvm.Cond.selects "EndTeller$Ways" ({ cls := "EndTeller$Ways", name := "refresh", desc := "()V" } : Jvm.MethodName) ({ cls := "EndTeller$Ways", name := "refresh", desc := "()V" } : Jvm.MethodName)) ∈ TB := mt_3 (List.mem_of_getElem? (i := 62) rfl) rfl
theorem m_3_64 : (Jvm.Cond.methodLink "EndTeller$Ways" (51 : Nat) ({ cls := "EndTeller$Work", name := "countWays", desc := "()I" } : Jvm.MethodName)) ∈ TB := mt_3 (List.mem_of_getElem? (i := 64) rfl) rfl
theorem m_3_65 : (Jvm.Cond.methodLink "EndTeller$Ways" (57 : Nat) ({ cls := "EndTeller$Ways", name := "makeRoom", desc := "()V" } : Jvm.MethodName)) ∈ TB := mt_3 (List.mem_of_getElem? (i := 65) rfl) rfl
theorem m_3_66 : (Jvm.Cond.instanceMethod ({ cls := "EndTeller$Ways", name := "makeRoom", desc := "()V" } : Jvm.MethodName)) ∈ TB := mt_3 (List.mem_of_getElem? (i := 66) rfl) rfl
theorem m_3_67 : (Jvm.Cond.selects "EndTeller$Ways" ({ cls := "EndTeller$Ways", name := "makeRoom", desc := "()V" } : Jvm.MethodName) ({ cls := "EndTeller$Ways", name := "makeRoom", desc := "()V" } : Jvm.MethodName)) ∈ TB := mt_3 (List.mem_of_getElem? (i := 67) rfl) rfl
theorem m_3_69 : (Jvm.Cond.methodLink "EndTeller$Ways" (83 : Nat) ({ cls := "java/lang/Math", name := "min", desc := "(II)I" } : Jvm.MethodName)) ∈ TB := mt_3 (List.mem_of_getElem? (i := 69) rfl) rfl
theorem m_3_70 : (Jvm.Cond.static ({ cls := "java/lang/Math", name := "min", desc := "(II)I" } : Jvm.MethodName)) ∈ TB := mt_3 (List.mem_of_getElem? (i := 70) rfl) rfl
theorem m_3_71 : (Jvm.Cond.code ({ cls := "java/lang/Math", name := "min", desc := "(II)I" } : Jvm.MethodName) prog_13_method_69_code (2 : Nat) (Option.some Jvm.ClassFile.FieldType.int)) ∈ TB := mt_3 (List.mem_of_getElem? (i := 71) rfl) rfl
theorem m_3_72 : (Jvm.Cond.methodLink "EndTeller$Ways" (74 : Nat) ({ cls := "java/lang/Math", name := "max", desc := "(II)I" } : Jvm.MethodName)) ∈ TB := mt_3 (List.mem_of_getElem? (i := 72) rfl) rfl
theorem m_3_73 : (Jvm.Cond.static ({ cls := "java/lang/Math", name := "max", desc := "(II)I" } : Jvm.MethodName)) ∈ TB := mt_3 (List.mem_of_getElem? (i := 73) rfl) rfl
theorem m_3_74 : (Jvm.Cond.code ({ cls := "java/lang/Math", name := "max", desc := "(II)I" } : Jvm.MethodName) prog_13_method_65_code (2 : Nat) (Option.some Jvm.ClassFile.FieldType.int)) ∈ TB := mt_3 (List.mem_of_getElem? (i := 74) rfl) rfl
theorem m_3_75 : (Jvm.Cond.methodLink "EndTeller$Ways" (60 : Nat) ({ cls := "EndTeller$Stepper", name := "goToFirst", desc := "()V" } : Jvm.MethodName)) ∈ TB := mt_3 (List.mem_of_getElem? (i := 75) rfl) rfl
theorem m_3_76 : (Jvm.Cond.instanceMethod ({ cls := "EndTeller$Stepper", name := "goToFirst", desc := "()V" } : Jvm.MethodName)) ∈ TB := mt_3 (List.mem_of_getElem? (i := 76) rfl) rfl
theorem m_3_77 : (Jvm.Cond.selects "EndTeller$Stepper" ({ cls := "EndTeller$Stepper", name := "goToFirst", desc := "()V" } : Jvm.MethodName) ({ cls := "EndTeller$Stepper", name := "goToFirst", desc := "()V" } : Jvm.MethodName)) ∈ TB := mt_3 (List.mem_of_getElem? (i := 77) rfl) rfl
theorem m_3_79 : (Jvm.Cond.methodLink "EndTeller$Stepper" (44 : Nat) ({ cls := "java/util/Arrays", name := "fill", desc := "([II)V" } : Jvm.MethodName)) ∈ TB := mt_3 (List.mem_of_getElem? (i := 79) rfl) rfl
theorem m_3_80 : (Jvm.Cond.methodLink "EndTeller$Stepper" (50 : Nat) ({ cls := "EndTeller$Stepper", name := "takeCauses", desc := "()V" } : Jvm.MethodName)) ∈ TB := mt_3 (List.mem_of_getElem? (i := 80) rfl) rfl
theorem m_3_81 : (Jvm.Cond.instanceMethod ({ cls := "EndTeller$Stepper", name := "takeCauses", desc := "()V" } : Jvm.MethodName)) ∈ TB := mt_3 (List.mem_of_getElem? (i := 81) rfl) rfl
theorem m_3_82 : (Jvm.Cond.selects "EndTeller$Stepper" ({ cls := "EndTeller$Stepper", name := "takeCauses", desc := "()V" } : Jvm.MethodName) ({ cls := "EndTeller$Stepper", name := "takeCauses", desc := "()V" } : Jvm.MethodName)) ∈ TB := mt_3 (List.mem_of_getElem? (i := 82) rfl) rfl
theorem m_3_84 : (Jvm.Cond.methodLink "EndTeller$Ways" (63 : Nat) ({ cls := "EndTeller$Stepper", name := "stepThrough", desc := "(I)I" } : Jvm.MethodName)) ∈ TB := mt_3 (List.mem_of_getElem? (i := 84) rfl) rfl
theorem m_3_85 : (Jvm.Cond.instanceMethod ({ cls := "EndTeller$Stepper", name := "stepThrough", desc := "(I)I" } : Jvm.MethodName)) ∈ TB := mt_3 (List.mem_of_getElem? (i := 85) rfl) rfl
theorem m_3_86 : (Jvm.Cond.selects "EndTeller$Stepper" ({ cls := "EndTeller$Stepper", name := "stepThrough", desc := "(I)I" } : Jvm.MethodName) ({ cls := "EndTeller$Stepper", name := "stepThrough", desc := "(I)I" } : Jvm.MethodName)) ∈ TB := mt_3 (List.mem_of_getElem? (i := 86) rfl) rfl
theorem m_3_88 : (Jvm.Cond.methodLink "EndTeller$Stepper" (83 : Nat) ({ cls := "EndTeller$Stepper", name := "beginOn", desc := "(II)V" } : Jvm.MethodName)) ∈ TB := mt_3 (List.mem_of_getElem? (i := 88) rfl) rfl
theorem m_3_89 : (Jvm.Cond.instanceMethod ({ cls := "EndTeller$Stepper", name := "beginOn", desc := "(II)V" } : Jvm.MethodName)) ∈ TB := mt_3 (List.mem_of_getElem? (i := 89) rfl) rfl
theorem m_3_90 : (Jvm.Cond.selects "EndTeller$Stepper" ({ cls := "EndTeller$Stepper", name := "beginOn", desc := "(II)V" } : Jvm.MethodName) ({ cls := "EndTeller$Stepper", name := "beginOn", desc := "(II)V" } : Jvm.MethodName)) ∈ TB := mt_3 (List.mem_of_getElem? (i := 90) rfl) rfl
theorem m_3_92 : (Jvm.Cond.methodLink "EndTeller$Stepper" (87 : Nat) ({ cls := "EndTeller$Stepper", name := "endNext", desc := "()I" } : Jvm.MethodName)) ∈ TB := mt_3 (List.mem_of_getElem? (i := 92) rfl) rfl
theorem m_3_93 : (Jvm.Cond.instanceMethod ({ cls := "EndTeller$Stepper", name := "endNext", desc := "()I" } : Jvm.MethodName)) ∈ TB := mt_3 (List.mem_of_getElem? (i := 93) rfl) rfl
theorem m_3_94 : (Jvm.Cond.selects "EndTeller$Stepper" ({ cls := "EndTeller$Stepper", name := "endNext", desc := "()I" } : Jvm.MethodName) ({ cls := "EndTeller$Stepper", name := "endNext", desc := "()I" } : Jvm.MethodName)) ∈ TB := mt_3 (List.mem_of_getElem? (i := 94) rfl) rfl
theorem m_3_96 : (Jvm.Cond.constant "EndTeller$Stepper" (100 : Nat) (1000000 : Int32)) ∈ TB := mt_3 (List.mem_of_getElem? (i := 96) rfl) rfl
theorem m_3_97 : (Jvm.Cond.methodLink "EndTeller$Ways" (67 : Nat) ({ cls := "EndTeller$Stepper", name := "product", desc := "()I" } : Jvm.MethodName)) ∈ TB := mt_3 (List.mem_of_getElem? (i := 97) rfl) rfl
theorem m_3_98 : (Jvm.Cond.instanceMethod ({ cls := "EndTeller$Stepper", name := "product", desc := "()I" } : Jvm.MethodName)) ∈ TB := mt_3 (List.mem_of_getElem? (i := 98) rfl) rfl
theorem m_3_99 : (Jvm.Cond.selects "EndTeller$Stepper" ({ cls := "EndTeller$Stepper", name := "product", desc := "()I" } : Jvm.MethodName) ({ cls := "EndTeller$Stepper", name := "product", desc := "()I" } : Jvm.MethodName)) ∈ TB := mt_3 (List.mem_of_getElem? (i := 99) rfl) rfl
theorem m_3_101 : (Jvm.Cond.methodLink "EndTeller$Ways" (70 : Nat) ({ cls := "EndTeller$Stepper", name := "agreesWithWhatCame", desc := "()Z" } : Jvm.MethodName)) ∈ TB := mt_3 (List.mem_of_getElem? (i := 101) rfl) rfl
theorem m_3_102 : (Jvm.Cond.instanceMethod ({ cls := "EndTeller$Stepper", name := "agreesWithWhatCame", desc := "()Z" } : Jvm.MethodName)) ∈ TB := mt_3 (List.mem_of_getElem? (i := 102) rfl) rfl
theorem m_3_103 : (Jvm.Cond.selects "EndTeller$Stepper" ({ cls := "EndTeller$Stepper", name := "agreesWithWhatCame", desc := "()Z" } : Jvm.MethodName) ({ cls := "EndTeller$Stepper", name := "agreesWithWhatCame", desc := "()Z" } : Jvm.MethodName)) ∈ TB := mt_3 (List.mem_of_getElem? (i := 103) rfl) rfl
theorem m_3_105 : (Jvm.Cond.methodLink "EndTeller$Ways" (80 : Nat) ({ cls := "EndTeller$Stepper", name := "goToNext", desc := "()V" } : Jvm.MethodName)) ∈ TB := mt_3 (List.mem_of_getElem? (i := 105) rfl) rfl
theorem m_3_106 : (Jvm.Cond.instanceMethod ({ cls := "EndTeller$Stepper", name := "goToNext", desc := "()V" } : Jvm.MethodName)) ∈ TB := mt_3 (List.mem_of_getElem? (i := 106) rfl) rfl
theorem m_3_107 : (Jvm.Cond.selects "EndTeller$Stepper" ({ cls := "EndTeller$Stepper", name := "goToNext", desc := "()V" } : Jvm.MethodName) ({ cls := "EndTeller$Stepper", name := "goToNext", desc := "()V" } : Jvm.MethodName)) ∈ TB := mt_3 (List.mem_of_getElem? (i := 107) rfl) rfl
theorem m_3_109 : (Jvm.Cond.methodLink "EndTeller" (209 : Nat) ({ cls := "EndTeller$Ways", name := "weightEndingBy", desc := "(I)J" } : Jvm.MethodName)) ∈ TB := mt_3 (List.mem_of_getElem? (i := 109) rfl) rfl
theorem m_3_110 : (Jvm.Cond.instanceMethod ({ cls := "EndTeller$Ways", name := "weightEndingBy", desc := "(I)J" } : Jvm.MethodName)) ∈ TB := mt_3 (List.mem_of_getElem? (i := 110) rfl) rfl
theorem m_3_111 : (Jvm.Cond.selects "EndTeller$Ways" ({ cls := "EndTeller$Ways", name := "weightEndingBy", desc := "(I)J" } : Jvm.MethodName) ({ cls := "EndTeller$Ways", name := "weightEndingBy", desc := "(I)J" } : Jvm.MethodName)) ∈ TB := mt_3 (List.mem_of_getElem? (i := 111) rfl) rfl
theorem m_3_113 : (Jvm.Cond.methodLink "EndTeller$Ways" (86 : Nat) ({ cls := "EndTeller$Ways", name := "isLeft", desc := "(I)Z" } : Jvm.MethodName)) ∈ TB := mt_3 (List.mem_of_getElem? (i := 113) rfl) rfl
theorem m_3_114 : (Jvm.Cond.instanceMethod ({ cls := "EndTeller$Ways", name := "isLeft", desc := "(I)Z" } : Jvm.MethodName)) ∈ TB := mt_3 (List.mem_of_getElem? (i := 114) rfl) rfl
theorem m_3_115 : (Jvm.Cond.selects "EndTeller$Ways" ({ cls := "EndTeller$Ways", name := "isLeft", desc := "(I)Z" } : Jvm.MethodName) ({ cls := "EndTeller$Ways", name := "isLeft", desc := "(I)Z" } : Jvm.MethodName)) ∈ TB := mt_3 (List.mem_of_getElem? (i := 115) rfl) rfl
theorem m_3_117 : (Jvm.Cond.methodLink "EndTeller" (215 : Nat) ({ cls := "EndTeller", name := "tell", desc := "(JJ)Z" } : Jvm.MethodName)) ∈ TB := mt_3 (List.mem_of_getElem? (i := 117) rfl) rfl
theorem m_3_119 : (Jvm.Cond.instanceMethod ({ cls := "EndTeller", name := "tell", desc := "(JJ)Z" } : Jvm.MethodName)) ∈ TB := mt_3 (List.mem_of_getElem? (i := 119) rfl) rfl
theorem m_3_121 : (Jvm.Cond.methodLink "EndTeller" (248 : Nat) ({ cls := "EndTeller$Fraction", name := "become", desc := "(JJ)V" } : Jvm.MethodName)) ∈ TB := mt_3 (List.mem_of_getElem? (i := 121) rfl) rfl
theorem m_3_122 : (Jvm.Cond.instanceMethod ({ cls := "EndTeller$Fraction", name := "become", desc := "(JJ)V" } : Jvm.MethodName)) ∈ TB := mt_3 (List.mem_of_getElem? (i := 122) rfl) rfl
theorem m_3_123 : (Jvm.Cond.selects "EndTeller$Fraction" ({ cls := "EndTeller$Fraction", name := "become", desc := "(JJ)V" } : Jvm.MethodName) ({ cls := "EndTeller$Fraction", name := "become", desc := "(JJ)V" } : Jvm.MethodName)) ∈ TB := mt_3 (List.mem_of_getElem? (i := 123) rfl) rfl
theorem m_3_130 : (Jvm.Cond.methodLink "EndTeller" (219 : Nat) ({ cls := "EndTeller$Ways", name := "weightWithPartBy", desc := "(II)J" } : Jvm.MethodName)) ∈ TB := mt_3 (List.mem_of_getElem? (i := 130) rfl) rfl
theorem m_3_131 : (Jvm.Cond.instanceMethod ({ cls := "EndTeller$Ways", name := "weightWithPartBy", desc := "(II)J" } : Jvm.MethodName)) ∈ TB := mt_3 (List.mem_of_getElem? (i := 131) rfl) rfl
theorem m_3_132 : (Jvm.Cond.selects "EndTeller$Ways" ({ cls := "EndTeller$Ways", name := "weightWithPartBy", desc := "(II)J" } : Jvm.MethodName) ({ cls := "EndTeller$Ways", name := "weightWithPartBy", desc := "(II)J" } : Jvm.MethodName)) ∈ TB := mt_3 (List.mem_of_getElem? (i := 132) rfl) rfl
theorem m_3_138 : (Jvm.Cond.constant "EndTeller" (223 : Nat) (1000000 : Int32)) ∈ TB := mt_3 (List.mem_of_getElem? (i := 138) rfl) rfl
theorem m_3_139 : (Jvm.Cond.methodLink "EndTeller" (224 : Nat) ({ cls := "EndTeller$Ways", name := "leastDayAtRisk", desc := "(II)I" } : Jvm.MethodName)) ∈ TB := mt_3 (List.mem_of_getElem? (i := 139) rfl) rfl
theorem m_3_140 : (Jvm.Cond.instanceMethod ({ cls := "EndTeller$Ways", name := "leastDayAtRisk", desc := "(II)I" } : Jvm.MethodName)) ∈ TB := mt_3 (List.mem_of_getElem? (i := 140) rfl) rfl
theorem m_3_141 : (Jvm.Cond.selects "EndTeller$Ways" ({ cls := "EndTeller$Ways", name := "leastDayAtRisk", desc := "(II)I" } : Jvm.MethodName) ({ cls := "EndTeller$Ways", name := "leastDayAtRisk", desc := "(II)I" } : Jvm.MethodName)) ∈ TB := mt_3 (List.mem_of_getElem? (i := 141) rfl) rfl
theorem m_3_143 : (Jvm.Cond.methodLink "EndTeller$Ways" (93 : Nat) ({ cls := "EndTeller$Ways", name := "gatherAll", desc := "()V" } : Jvm.MethodName)) ∈ TB := mt_3 (List.mem_of_getElem? (i := 143) rfl) rfl
theorem m_3_144 : (Jvm.Cond.instanceMethod ({ cls := "EndTeller$Ways", name := "gatherAll", desc := "()V" } : Jvm.MethodName)) ∈ TB := mt_3 (List.mem_of_getElem? (i := 144) rfl) rfl
theorem m_3_145 : (Jvm.Cond.selects "EndTeller$Ways" ({ cls := "EndTeller$Ways", name := "gatherAll", desc := "()V" } : Jvm.MethodName) ({ cls := "EndTeller$Ways", name := "gatherAll", desc := "()V" } : Jvm.MethodName)) ∈ TB := mt_3 (List.mem_of_getElem? (i := 145) rfl) rfl
theorem m_3_147 : (Jvm.Cond.methodLink "EndTeller$Ways" (96 : Nat) ({ cls := "EndTeller$Ways", name := "emptyDays", desc := "()V" } : Jvm.MethodName)) ∈ TB := mt_3 (List.mem_of_getElem? (i := 147) rfl) rfl
theorem m_3_148 : (Jvm.Cond.instanceMethod ({ cls := "EndTeller$Ways", name := "emptyDays", desc := "()V" } : Jvm.MethodName)) ∈ TB := mt_3 (List.mem_of_getElem? (i := 148) rfl) rfl
theorem m_3_149 : (Jvm.Cond.selects "EndTeller$Ways" ({ cls := "EndTeller$Ways", name := "emptyDays", desc := "()V" } : Jvm.MethodName) ({ cls := "EndTeller$Ways", name := "emptyDays", desc := "()V" } : Jvm.MethodName)) ∈ TB := mt_3 (List.mem_of_getElem? (i := 149) rfl) rfl
theorem m_3_151 : (Jvm.Cond.methodLink "EndTeller$Ways" (99 : Nat) ({ cls := "EndTeller$Ways", name := "gather", desc := "(I)V" } : Jvm.MethodName)) ∈ TB := mt_3 (List.mem_of_getElem? (i := 151) rfl) rfl
theorem m_3_152 : (Jvm.Cond.instanceMethod ({ cls := "EndTeller$Ways", name := "gather", desc := "(I)V" } : Jvm.MethodName)) ∈ TB := mt_3 (List.mem_of_getElem? (i := 152) rfl) rfl
theorem m_3_153 : (Jvm.Cond.selects "EndTeller$Ways" ({ cls := "EndTeller$Ways", name := "gather", desc := "(I)V" } : Jvm.MethodName) ({ cls := "EndTeller$Ways", name := "gather", desc := "(I)V" } : Jvm.MethodName)) ∈ TB := mt_3 (List.mem_of_getElem? (i := 153) rfl) rfl
theorem m_3_159 : (Jvm.Cond.methodLink "EndTeller" (227 : Nat) ({ cls := "EndTeller$Ways", name := "sumOfEnds", desc := "()J" } : Jvm.MethodName)) ∈ TB := mt_3 (List.mem_of_getElem? (i := 159) rfl) rfl
theorem m_3_160 : (Jvm.Cond.instanceMethod ({ cls := "EndTeller$Ways", name := "sumOfEnds", desc := "()J" } : Jvm.MethodName)) ∈ TB := mt_3 (List.mem_of_getElem? (i := 160) rfl) rfl
theorem m_3_161 : (Jvm.Cond.selects "EndTeller$Ways" ({ cls := "EndTeller$Ways", name := "sumOfEnds", desc := "()J" } : Jvm.MethodName) ({ cls := "EndTeller$Ways", name := "sumOfEnds", desc := "()J" } : Jvm.MethodName)) ∈ TB := mt_3 (List.mem_of_getElem? (i := 161) rfl) rfl
theorem m_3_167 : (Jvm.Cond.methodLink "EndTeller" (231 : Nat) ({ cls := "EndTeller$Ways", name := "gatherAll", desc := "()V" } : Jvm.MethodName)) ∈ TB := mt_3 (List.mem_of_getElem? (i := 167) rfl) rfl
theorem m_3_168 : (Jvm.Cond.methodLink "EndTeller" (234 : Nat) ({ cls := "EndTeller$Ways", name := "sumApart", desc := "()J" } : Jvm.MethodName)) ∈ TB := mt_3 (List.mem_of_getElem? (i := 168) rfl) rfl
theorem m_3_169 : (Jvm.Cond.instanceMethod ({ cls := "EndTeller$Ways", name := "sumApart", desc := "()J" } : Jvm.MethodName)) ∈ TB := mt_3 (List.mem_of_getElem? (i := 169) rfl) rfl
theorem m_3_170 : (Jvm.Cond.selects "EndTeller$Ways" ({ cls := "EndTeller$Ways", name := "sumApart", desc := "()J" } : Jvm.MethodName) ({ cls := "EndTeller$Ways", name := "sumApart", desc := "()J" } : Jvm.MethodName)) ∈ TB := mt_3 (List.mem_of_getElem? (i := 170) rfl) rfl
theorem m_3_172 : (Jvm.Cond.constantLong "EndTeller$Ways" (115 : Nat) (2 : Int64)) ∈ TB := mt_3 (List.mem_of_getElem? (i := 172) rfl) rfl
theorem m_3_177 : (Jvm.Cond.methodLink "EndTeller" (237 : Nat) ({ cls := "EndTeller$Ways", name := "sumRest", desc := "(ILEndTeller$Fraction;)Z" } : Jvm.MethodName)) ∈ TB := mt_3 (List.mem_of_getElem? (i := 177) rfl) rfl
theorem m_3_178 : (Jvm.Cond.instanceMethod ({ cls := "EndTeller$Ways", name := "sumRest", desc := "(ILEndTeller$Fraction;)Z" } : Jvm.MethodName)) ∈ TB := mt_3 (List.mem_of_getElem? (i := 178) rfl) rfl
theorem m_3_179 : (Jvm.Cond.selects "EndTeller$Ways" ({ cls := "EndTeller$Ways", name := "sumRest", desc := "(ILEndTeller$Fraction;)Z" } : Jvm.MethodName) ({ cls := "EndTeller$Ways", name := "sumRest", desc := "(ILEndTeller$Fraction;)Z" } : Jvm.MethodName)) ∈ TB := mt_3 (List.mem_of_getElem? (i := 179) rfl) rfl
theorem m_3_181 : (Jvm.Cond.methodLink "EndTeller$Ways" (117 : Nat) ({ cls := "EndTeller$Fraction", name := "become", desc := "(JJ)V" } : Jvm.MethodName)) ∈ TB := mt_3 (List.mem_of_getElem? (i := 181) rfl) rfl
theorem m_3_182 : (Jvm.Cond.methodLink "EndTeller$Ways" (123 : Nat) ({ cls := "EndTeller$Ways", name := "gatherRow", desc := "(II)V" } : Jvm.MethodName)) ∈ TB := mt_3 (List.mem_of_getElem? (i := 182) rfl) rfl
theorem m_3_183 : (Jvm.Cond.instanceMethod ({ cls := "EndTeller$Ways", name := "gatherRow", desc := "(II)V" } : Jvm.MethodName)) ∈ TB := mt_3 (List.mem_of_getElem? (i := 183) rfl) rfl
theorem m_3_184 : (Jvm.Cond.selects "EndTeller$Ways" ({ cls := "EndTeller$Ways", name := "gatherRow", desc := "(II)V" } : Jvm.MethodName) ({ cls := "EndTeller$Ways", name := "gatherRow", desc := "(II)V" } : Jvm.MethodName)) ∈ TB := mt_3 (List.mem_of_getElem? (i := 184) rfl) rfl
theorem m_3_186 : (Jvm.Cond.methodLink "EndTeller$Ways" (103 : Nat) ({ cls := "EndTeller$Work", name := "rowsAhead", desc := "(I)I" } : Jvm.MethodName)) ∈ TB := mt_3 (List.mem_of_getElem? (i := 186) rfl) rfl
theorem m_3_187 : (Jvm.Cond.methodLink "EndTeller$Ways" (127 : Nat) ({ cls := "EndTeller$Ways", name := "sumApart", desc := "()J" } : Jvm.MethodName)) ∈ TB := mt_3 (List.mem_of_getElem? (i := 187) rfl) rfl
theorem m_3_188 : (Jvm.Cond.methodLink "EndTeller$Ways" (131 : Nat) ({ cls := "EndTeller$Fraction", name := "add", desc := "(JJ)V" } : Jvm.MethodName)) ∈ TB := mt_3 (List.mem_of_getElem? (i := 188) rfl) rfl
theorem m_3_189 : (Jvm.Cond.instanceMethod ({ cls := "EndTeller$Fraction", name := "add", desc := "(JJ)V" } : Jvm.MethodName)) ∈ TB := mt_3 (List.mem_of_getElem? (i := 189) rfl) rfl
theorem m_3_190 : (Jvm.Cond.selects "EndTeller$Fraction" ({ cls := "EndTeller$Fraction", name := "add", desc := "(JJ)V" } : Jvm.MethodName) ({ cls := "EndTeller$Fraction", name := "add", desc := "(JJ)V" } : Jvm.MethodName)) ∈ TB := mt_3 (List.mem_of_getElem? (i := 190) rfl) rfl
theorem m_3_192 : (Jvm.Cond.methodLink "EndTeller$Fraction" (22 : Nat) ({ cls := "EndTeller$Fraction", name := "become", desc := "(JJ)V" } : Jvm.MethodName)) ∈ TB := mt_3 (List.mem_of_getElem? (i := 192) rfl) rfl
theorem m_3_193 : (Jvm.Cond.constantLong "EndTeller$Ways" (137 : Nat) (1000000 : Int64)) ∈ TB := mt_3 (List.mem_of_getElem? (i := 193) rfl) rfl
theorem m_3_198 : (Jvm.Cond.methodLink "EndTeller" (244 : Nat) ({ cls := "EndTeller$Fraction", name := "isLessThan", desc := "(LEndTeller$Fraction;)Z" } : Jvm.MethodName)) ∈ TB := mt_3 (List.mem_of_getElem? (i := 198) rfl) rfl
theorem m_3_199 : (Jvm.Cond.instanceMethod ({ cls := "EndTeller$Fraction", name := "isLessThan", desc := "(LEndTeller$Fraction;)Z" } : Jvm.MethodName)) ∈ TB := mt_3 (List.mem_of_getElem? (i := 199) rfl) rfl
theorem m_3_200 : (Jvm.Cond.selects "EndTeller$Fraction" ({ cls := "EndTeller$Fraction", name := "isLessThan", desc := "(LEndTeller$Fraction;)Z" } : Jvm.MethodName) ({ cls := "EndTeller$Fraction", name := "isLessThan", desc := "(LEndTeller$Fraction;)Z" } : Jvm.MethodName)) ∈ TB := mt_3 (List.mem_of_getElem? (i := 200) rfl) rfl
theorem m_3_206 : (Jvm.Cond.methodLink "EndTeller" (252 : Nat) ({ cls := "EndTeller$Ways", name := "weightMovedBy", desc := "(I)J" } : Jvm.MethodName)) ∈ TB := mt_3 (List.mem_of_getElem? (i := 206) rfl) rfl
theorem m_3_207 : (Jvm.Cond.instanceMethod ({ cls := "EndTeller$Ways", name := "weightMovedBy", desc := "(I)J" } : Jvm.MethodName)) ∈ TB := mt_3 (List.mem_of_getElem? (i := 207) rfl) rfl
theorem m_3_208 : (Jvm.Cond.selects "EndTeller$Ways" ({ cls := "EndTeller$Ways", name := "weightMovedBy", desc := "(I)J" } : Jvm.MethodName) ({ cls := "EndTeller$Ways", name := "weightMovedBy", desc := "(I)J" } : Jvm.MethodName)) ∈ TB := mt_3 (List.mem_of_getElem? (i := 208) rfl) rfl
theorem m_3_214 : (Jvm.Cond.methodLink "EndTeller" (255 : Nat) ({ cls := "EndTeller", name := "isCameDay", desc := "(I)Z" } : Jvm.MethodName)) ∈ TB := mt_3 (List.mem_of_getElem? (i := 214) rfl) rfl
theorem m_3_215 : (Jvm.Cond.static ({ cls := "EndTeller", name := "isCameDay", desc := "(I)Z" } : Jvm.MethodName)) ∈ TB := mt_3 (List.mem_of_getElem? (i := 215) rfl) rfl
theorem m_3_225 : (Jvm.Cond.methodLink "EndTeller" (262 : Nat) ({ cls := "EndTeller$Tellings", name := "add", desc := "(IIZ)V" } : Jvm.MethodName)) ∈ TB := mt_3 (List.mem_of_getElem? (i := 225) rfl) rfl
theorem m_3_226 : (Jvm.Cond.instanceMethod ({ cls := "EndTeller$Tellings", name := "add", desc := "(IIZ)V" } : Jvm.MethodName)) ∈ TB := mt_3 (List.mem_of_getElem? (i := 226) rfl) rfl
theorem m_3_227 : (Jvm.Cond.selects "EndTeller$Tellings" ({ cls := "EndTeller$Tellings", name := "add", desc := "(IIZ)V" } : Jvm.MethodName) ({ cls := "EndTeller$Tellings", name := "add", desc := "(IIZ)V" } : Jvm.MethodName)) ∈ TB := mt_3 (List.mem_of_getElem? (i := 227) rfl) rfl
theorem m_3_229 : (Jvm.Cond.methodLink "EndTeller$Tellings" (33 : Nat) ({ cls := "java/lang/Math", name := "min", desc := "(II)I" } : Jvm.MethodName)) ∈ TB := mt_3 (List.mem_of_getElem? (i := 229) rfl) rfl
theorem m_3_230 : (Jvm.Cond.methodLink "EndTeller$Tellings" (39 : Nat) ({ cls := "EndTeller$Fraction", name := "add", desc := "(JJ)V" } : Jvm.MethodName)) ∈ TB := mt_3 (List.mem_of_getElem? (i := 230) rfl) rfl
theorem m_3_231 : (Jvm.Cond.constantLong "EndTeller$Tellings" (47 : Nat) (1099511627776 : Int64)) ∈ TB := mt_3 (List.mem_of_getElem? (i := 231) rfl) rfl
theorem m_3_236 : (Jvm.Cond.methodLink "EndTeller" (265 : Nat) ({ cls := "EndTeller", name := "isStep", desc := "(I)Z" } : Jvm.MethodName)) ∈ TB := mt_3 (List.mem_of_getElem? (i := 236) rfl) rfl
theorem m_3_237 : (Jvm.Cond.static ({ cls := "EndTeller", name := "isStep", desc := "(I)Z" } : Jvm.MethodName)) ∈ TB := mt_3 (List.mem_of_getElem? (i := 237) rfl) rfl
theorem m_4_129 : (Jvm.Cond.methodLink "EndTellerModel" (101 : Nat) ({ cls := "EndTellerModel", name := "no", desc := "(I)Z" } : Jvm.MethodName)) ∈ TB := mt_4 (List.mem_of_getElem? (i := 129) rfl) rfl
theorem m_4_131 : (Jvm.Cond.instanceMethod ({ cls := "EndTellerModel", name := "no", desc := "(I)Z" } : Jvm.MethodName)) ∈ TB := mt_4 (List.mem_of_getElem? (i := 131) rfl) rfl
theorem m_4_137 : (Jvm.Cond.methodLink "EndTellerModel" (109 : Nat) ({ cls := "EndTellerModel", name := "placed", desc := "(II)I" } : Jvm.MethodName)) ∈ TB := mt_4 (List.mem_of_getElem? (i := 137) rfl) rfl
theorem m_4_139 : (Jvm.Cond.instanceMethod ({ cls := "EndTellerModel", name := "placed", desc := "(II)I" } : Jvm.MethodName)) ∈ TB := mt_4 (List.mem_of_getElem? (i := 139) rfl) rfl
theorem m_4_141 : (Jvm.Cond.methodLink "EndTellerModel" (105 : Nat) ({ cls := "EndTellerModel", name := "trayed", desc := "(I)I" } : Jvm.MethodName)) ∈ TB := mt_4 (List.mem_of_getElem? (i := 141) rfl) rfl
theorem m_4_143 : (Jvm.Cond.instanceMethod ({ cls := "EndTellerModel", name := "trayed", desc := "(I)I" } : Jvm.MethodName)) ∈ TB := mt_4 (List.mem_of_getElem? (i := 143) rfl) rfl
theorem m_4_145 : (Jvm.Cond.methodLink "EndTellerModel" (113 : Nat) ({ cls := "EndTellerModel", name := "cut", desc := "(IJ)J" } : Jvm.MethodName)) ∈ TB := mt_4 (List.mem_of_getElem? (i := 145) rfl) rfl
theorem m_4_146 : (Jvm.Cond.static ({ cls := "EndTellerModel", name := "cut", desc := "(IJ)J" } : Jvm.MethodName)) ∈ TB := mt_4 (List.mem_of_getElem? (i := 146) rfl) rfl
theorem m_4_152 : (Jvm.Cond.constantLong "EndTellerModel" (117 : Nat) (-1 : Int64)) ∈ TB := mt_4 (List.mem_of_getElem? (i := 152) rfl) rfl
theorem m_4_161 : (Jvm.Cond.methodLink "EndTellerModel" (131 : Nat) ({ cls := "EndTellerModel", name := "areHands", desc := "(I)Z" } : Jvm.MethodName)) ∈ TB := mt_4 (List.mem_of_getElem? (i := 161) rfl) rfl
theorem m_4_162 : (Jvm.Cond.static ({ cls := "EndTellerModel", name := "areHands", desc := "(I)Z" } : Jvm.MethodName)) ∈ TB := mt_4 (List.mem_of_getElem? (i := 162) rfl) rfl
theorem m_4_164 : (Jvm.Cond.methodLink "EndTellerModel" (122 : Nat) ({ cls := "EndTellerModel", name := "refuse", desc := "(I)I" } : Jvm.MethodName)) ∈ TB := mt_4 (List.mem_of_getElem? (i := 164) rfl) rfl
theorem m_4_166 : (Jvm.Cond.instanceMethod ({ cls := "EndTellerModel", name := "refuse", desc := "(I)I" } : Jvm.MethodName)) ∈ TB := mt_4 (List.mem_of_getElem? (i := 166) rfl) rfl
theorem m_4_168 : (Jvm.Cond.methodLink "EndTellerModel" (134 : Nat) ({ cls := "EndTellerModel", name := "clearMade", desc := "()V" } : Jvm.MethodName)) ∈ TB := mt_4 (List.mem_of_getElem? (i := 168) rfl) rfl
theorem m_4_170 : (Jvm.Cond.instanceMethod ({ cls := "EndTellerModel", name := "clearMade", desc := "()V" } : Jvm.MethodName)) ∈ TB := mt_4 (List.mem_of_getElem? (i := 170) rfl) rfl
theorem m_4_172 : (Jvm.Cond.constantLong "EndTellerModel" (137 : Nat) (99 : Int64)) ∈ TB := mt_4 (List.mem_of_getElem? (i := 172) rfl) rfl
theorem m_4_173 : (Jvm.Cond.constantLong "EndTellerModel" (129 : Nat) (1000 : Int64)) ∈ TB := mt_4 (List.mem_of_getElem? (i := 173) rfl) rfl
theorem m_4_174 : (Jvm.Cond.methodLink "EndTellerModel" (139 : Nat) ({ cls := "EndTellerModel", name := "adds", desc := "(I)I" } : Jvm.MethodName)) ∈ TB := mt_4 (List.mem_of_getElem? (i := 174) rfl) rfl
theorem m_4_176 : (Jvm.Cond.instanceMethod ({ cls := "EndTellerModel", name := "adds", desc := "(I)I" } : Jvm.MethodName)) ∈ TB := mt_4 (List.mem_of_getElem? (i := 176) rfl) rfl
theorem m_4_178 : (Jvm.Cond.methodLink "EndTellerModel" (125 : Nat) ({ cls := "EndTellerModel", name := "common", desc := "(JJ)J" } : Jvm.MethodName)) ∈ TB := mt_4 (List.mem_of_getElem? (i := 178) rfl) rfl
theorem m_4_179 : (Jvm.Cond.static ({ cls := "EndTellerModel", name := "common", desc := "(JJ)J" } : Jvm.MethodName)) ∈ TB := mt_4 (List.mem_of_getElem? (i := 179) rfl) rfl
theorem m_4_189 : (Jvm.Cond.methodLink "EndTellerModel" (142 : Nat) ({ cls := "EndTellerModel", name := "isPart", desc := "(I)Z" } : Jvm.MethodName)) ∈ TB := mt_4 (List.mem_of_getElem? (i := 189) rfl) rfl
theorem m_4_191 : (Jvm.Cond.instanceMethod ({ cls := "EndTellerModel", name := "isPart", desc := "(I)Z" } : Jvm.MethodName)) ∈ TB := mt_4 (List.mem_of_getElem? (i := 191) rfl) rfl
theorem m_4_193 : (Jvm.Cond.methodLink "EndTellerModel" (145 : Nat) ({ cls := "EndTellerModel", name := "sumOf", desc := "(I)I" } : Jvm.MethodName)) ∈ TB := mt_4 (List.mem_of_getElem? (i := 193) rfl) rfl
theorem m_4_195 : (Jvm.Cond.instanceMethod ({ cls := "EndTellerModel", name := "sumOf", desc := "(I)I" } : Jvm.MethodName)) ∈ TB := mt_4 (List.mem_of_getElem? (i := 195) rfl) rfl
theorem m_4_225 : (Jvm.Cond.methodLink "EndTellerModel" (151 : Nat) ({ cls := "java/lang/Integer", name := "bitCount", desc := "(I)I" } : Jvm.MethodName)) ∈ TB := mt_4 (List.mem_of_getElem? (i := 225) rfl) rfl
theorem m_5_2 : (Jvm.Cond.methodLink "EndTellerModel" (161 : Nat) ({ cls := "EndTellerModel", name := "isGreat", desc := "()Z" } : Jvm.MethodName)) ∈ TB := mt_5 (List.mem_of_getElem? (i := 2) rfl) rfl
theorem m_5_4 : (Jvm.Cond.instanceMethod ({ cls := "EndTellerModel", name := "isGreat", desc := "()Z" } : Jvm.MethodName)) ∈ TB := mt_5 (List.mem_of_getElem? (i := 4) rfl) rfl
theorem m_5_6 : (Jvm.Cond.constantLong "EndTellerModel" (159 : Nat) (20000 : Int64)) ∈ TB := mt_5 (List.mem_of_getElem? (i := 6) rfl) rfl
theorem m_5_11 : (Jvm.Cond.methodLink "EndTellerModel" (204 : Nat) ({ cls := "EndTellerModel", name := "tellsUpTo", desc := "(II)Z" } : Jvm.MethodName)) ∈ TB := mt_5 (List.mem_of_getElem? (i := 11) rfl) rfl
theorem m_5_13 : (Jvm.Cond.instanceMethod ({ cls := "EndTellerModel", name := "tellsUpTo", desc := "(II)Z" } : Jvm.MethodName)) ∈ TB := mt_5 (List.mem_of_getElem? (i := 13) rfl) rfl
theorem m_5_15 : (Jvm.Cond.methodLink "EndTellerModel" (196 : Nat) ({ cls := "EndTellerModel", name := "sums", desc := "(III)I" } : Jvm.MethodName)) ∈ TB := mt_5 (List.mem_of_getElem? (i := 15) rfl) rfl
theorem m_5_17 : (Jvm.Cond.instanceMethod ({ cls := "EndTellerModel", name := "sums", desc := "(III)I" } : Jvm.MethodName)) ∈ TB := mt_5 (List.mem_of_getElem? (i := 17) rfl) rfl
theorem m_5_19 : (Jvm.Cond.methodLink "EndTellerModel" (174 : Nat) ({ cls := "EndTellerModel", name := "isStuck", desc := "()Z" } : Jvm.MethodName)) ∈ TB := mt_5 (List.mem_of_getElem? (i := 19) rfl) rfl
theorem m_5_21 : (Jvm.Cond.instanceMethod ({ cls := "EndTellerModel", name := "isStuck", desc := "()Z" } : Jvm.MethodName)) ∈ TB := mt_5 (List.mem_of_getElem? (i := 21) rfl) rfl
theorem m_5_23 : (Jvm.Cond.methodLink "EndTellerModel" (180 : Nat) ({ cls := "EndTellerModel", name := "firstWay", desc := "()V" } : Jvm.MethodName)) ∈ TB := mt_5 (List.mem_of_getElem? (i := 23) rfl) rfl
theorem m_5_25 : (Jvm.Cond.instanceMethod ({ cls := "EndTellerModel", name := "firstWay", desc := "()V" } : Jvm.MethodName)) ∈ TB := mt_5 (List.mem_of_getElem? (i := 25) rfl) rfl
theorem m_5_27 : (Jvm.Cond.methodLink "EndTellerModel" (183 : Nat) ({ cls := "EndTellerModel", name := "step", desc := "(I)I" } : Jvm.MethodName)) ∈ TB := mt_5 (List.mem_of_getElem? (i := 27) rfl) rfl
theorem m_5_29 : (Jvm.Cond.instanceMethod ({ cls := "EndTellerModel", name := "step", desc := "(I)I" } : Jvm.MethodName)) ∈ TB := mt_5 (List.mem_of_getElem? (i := 29) rfl) rfl
theorem m_5_31 : (Jvm.Cond.methodLink "EndTellerModel" (165 : Nat) ({ cls := "EndTellerModel", name := "areOver", desc := "(I)Z" } : Jvm.MethodName)) ∈ TB := mt_5 (List.mem_of_getElem? (i := 31) rfl) rfl
theorem m_5_33 : (Jvm.Cond.instanceMethod ({ cls := "EndTellerModel", name := "areOver", desc := "(I)Z" } : Jvm.MethodName)) ∈ TB := mt_5 (List.mem_of_getElem? (i := 33) rfl) rfl
theorem m_5_35 : (Jvm.Cond.constant "EndTellerModel" (168 : Nat) (2147483647 : Int32)) ∈ TB := mt_5 (List.mem_of_getElem? (i := 35) rfl) rfl
theorem m_5_36 : (Jvm.Cond.methodLink "EndTellerModel" (169 : Nat) ({ cls := "java/lang/Math", name := "min", desc := "(II)I" } : Jvm.MethodName)) ∈ TB := mt_5 (List.mem_of_getElem? (i := 36) rfl) rfl
theorem m_5_37 : (Jvm.Cond.methodLink "EndTellerModel" (186 : Nat) ({ cls := "EndTellerModel", name := "isLeft", desc := "()Z" } : Jvm.MethodName)) ∈ TB := mt_5 (List.mem_of_getElem? (i := 37) rfl) rfl
theorem m_5_39 : (Jvm.Cond.instanceMethod ({ cls := "EndTellerModel", name := "isLeft", desc := "()Z" } : Jvm.MethodName)) ∈ TB := mt_5 (List.mem_of_getElem? (i := 39) rfl) rfl
theorem m_5_41 : (Jvm.Cond.methodLink "EndTellerModel" (189 : Nat) ({ cls := "EndTellerModel", name := "weightOf", desc := "()J" } : Jvm.MethodName)) ∈ TB := mt_5 (List.mem_of_getElem? (i := 41) rfl) rfl
theorem m_5_43 : (Jvm.Cond.instanceMethod ({ cls := "EndTellerModel", name := "weightOf", desc := "()J" } : Jvm.MethodName)) ∈ TB := mt_5 (List.mem_of_getElem? (i := 43) rfl) rfl
theorem m_5_45 : (Jvm.Cond.methodLink "EndTellerModel" (193 : Nat) ({ cls := "EndTellerModel", name := "nextWay", desc := "()Z" } : Jvm.MethodName)) ∈ TB := mt_5 (List.mem_of_getElem? (i := 45) rfl) rfl
theorem m_5_47 : (Jvm.Cond.instanceMethod ({ cls := "EndTellerModel", name := "nextWay", desc := "()Z" } : Jvm.MethodName)) ∈ TB := mt_5 (List.mem_of_getElem? (i := 47) rfl) rfl
theorem m_5_49 : (Jvm.Cond.methodLink "EndTellerModel" (200 : Nat) ({ cls := "EndTellerModel", name := "tells", desc := "(JJ)I" } : Jvm.MethodName)) ∈ TB := mt_5 (List.mem_of_getElem? (i := 49) rfl) rfl
theorem m_5_51 : (Jvm.Cond.instanceMethod ({ cls := "EndTellerModel", name := "tells", desc := "(JJ)I" } : Jvm.MethodName)) ∈ TB := mt_5 (List.mem_of_getElem? (i := 51) rfl) rfl
theorem m_5_61 : (Jvm.Cond.constant "EndTellerModel" (208 : Nat) (1000000 : Int32)) ∈ TB := mt_5 (List.mem_of_getElem? (i := 61) rfl) rfl
theorem m_5_70 : (Jvm.Cond.methodLink "EndTellerModel" (211 : Nat) ({ cls := "EndTellerModel", name := "apart", desc := "()J" } : Jvm.MethodName)) ∈ TB := mt_5 (List.mem_of_getElem? (i := 70) rfl) rfl
theorem m_5_72 : (Jvm.Cond.instanceMethod ({ cls := "EndTellerModel", name := "apart", desc := "()J" } : Jvm.MethodName)) ∈ TB := mt_5 (List.mem_of_getElem? (i := 72) rfl) rfl
theorem m_5_74 : (Jvm.Cond.constantLong "EndTellerModel" (209 : Nat) (2 : Int64)) ∈ TB := mt_5 (List.mem_of_getElem? (i := 74) rfl) rfl
theorem m_5_79 : (Jvm.Cond.methodLink "EndTellerModel" (225 : Nat) ({ cls := "EndTellerModel", name := "known", desc := "(I)I" } : Jvm.MethodName)) ∈ TB := mt_5 (List.mem_of_getElem? (i := 79) rfl) rfl
theorem m_5_81 : (Jvm.Cond.instanceMethod ({ cls := "EndTellerModel", name := "known", desc := "(I)I" } : Jvm.MethodName)) ∈ TB := mt_5 (List.mem_of_getElem? (i := 81) rfl) rfl
theorem m_5_83 : (Jvm.Cond.constantLong "EndTellerModel" (223 : Nat) (1000000 : Int64)) ∈ TB := mt_5 (List.mem_of_getElem? (i := 83) rfl) rfl
theorem m_5_88 : (Jvm.Cond.methodLink "EndTellerModel" (228 : Nat) ({ cls := "EndTellerModel", name := "isLess", desc := "(JJJJ)Z" } : Jvm.MethodName)) ∈ TB := mt_5 (List.mem_of_getElem? (i := 88) rfl) rfl
theorem m_5_89 : (Jvm.Cond.static ({ cls := "EndTellerModel", name := "isLess", desc := "(JJJJ)Z" } : Jvm.MethodName)) ∈ TB := mt_5 (List.mem_of_getElem? (i := 89) rfl) rfl
theorem m_5_111 : (Jvm.Cond.methodLink "EndTellerModel" (235 : Nat) ({ cls := "EndTellerModel", name := "stepOf", desc := "(II)I" } : Jvm.MethodName)) ∈ TB := mt_5 (List.mem_of_getElem? (i := 111) rfl) rfl
theorem m_5_112 : (Jvm.Cond.static ({ cls := "EndTellerModel", name := "stepOf", desc := "(II)I" } : Jvm.MethodName)) ∈ TB := mt_5 (List.mem_of_getElem? (i := 112) rfl) rfl
theorem m_5_118 : (Jvm.Cond.constantLong "EndTellerModel" (238 : Nat) (1099511627776 : Int64)) ∈ TB := mt_5 (List.mem_of_getElem? (i := 118) rfl) rfl
theorem m_1_36 : (Jvm.Cond.lays "EndTeller$Fraction" "EndTeller$Fraction" "above" "J") ∈ TB := mt_1 (List.mem_of_getElem? (i := 36) rfl) rfl
theorem m_1_38 : (Jvm.Cond.lays "EndTeller$Fraction" "EndTeller$Fraction" "below" "J") ∈ TB := mt_1 (List.mem_of_getElem? (i := 38) rfl) rfl
theorem m_1_110 : (Jvm.Cond.laysFinal "EndTeller$Part" "EndTeller$Part" "days" "[I") ∈ TB := mt_1 (List.mem_of_getElem? (i := 110) rfl) rfl
theorem m_1_112 : (Jvm.Cond.laysFinal "EndTeller$Part" "EndTeller$Part" "weights" "[I") ∈ TB := mt_1 (List.mem_of_getElem? (i := 112) rfl) rfl
theorem m_1_114 : (Jvm.Cond.laysFinal "EndTeller$Part" "EndTeller$Part" "lateBy" "[I") ∈ TB := mt_1 (List.mem_of_getElem? (i := 114) rfl) rfl
theorem m_1_116 : (Jvm.Cond.lays "EndTeller$Part" "EndTeller$Part" "rows" "I") ∈ TB := mt_1 (List.mem_of_getElem? (i := 116) rfl) rfl
theorem m_1_118 : (Jvm.Cond.lays "EndTeller$Part" "EndTeller$Part" "allWeights" "I") ∈ TB := mt_1 (List.mem_of_getElem? (i := 118) rfl) rfl
theorem m_1_120 : (Jvm.Cond.lays "EndTeller$Part" "EndTeller$Part" "holds" "I") ∈ TB := mt_1 (List.mem_of_getElem? (i := 120) rfl) rfl
theorem m_1_122 : (Jvm.Cond.lays "EndTeller$Part" "EndTeller$Part" "needs" "I") ∈ TB := mt_1 (List.mem_of_getElem? (i := 122) rfl) rfl
theorem m_1_124 : (Jvm.Cond.lays "EndTeller$Part" "EndTeller$Part" "cameOn" "I") ∈ TB := mt_1 (List.mem_of_getElem? (i := 124) rfl) rfl
theorem m_1_174 : (Jvm.Cond.laysFinal "EndTeller$Stepper" "EndTeller$Stepper" "work" "LEndTeller$Work;") ∈ TB := mt_1 (List.mem_of_getElem? (i := 174) rfl) rfl
theorem m_1_176 : (Jvm.Cond.laysFinal "EndTeller$Stepper" "EndTeller$Stepper" "picked" "[I") ∈ TB := mt_1 (List.mem_of_getElem? (i := 176) rfl) rfl
theorem m_1_178 : (Jvm.Cond.laysFinal "EndTeller$Stepper" "EndTeller$Stepper" "lateness" "[I") ∈ TB := mt_1 (List.mem_of_getElem? (i := 178) rfl) rfl
theorem m_1_180 : (Jvm.Cond.laysFinal "EndTeller$Stepper" "EndTeller$Stepper" "endsOn" "[I") ∈ TB := mt_1 (List.mem_of_getElem? (i := 180) rfl) rfl
theorem m_1_182 : (Jvm.Cond.lays "EndTeller$Stepper" "EndTeller$Stepper" "comes" "I") ∈ TB := mt_1 (List.mem_of_getElem? (i := 182) rfl) rfl
theorem m_1_184 : (Jvm.Cond.lays "EndTeller$Stepper" "EndTeller$Stepper" "weightOfCauses" "I") ∈ TB := mt_1 (List.mem_of_getElem? (i := 184) rfl) rfl
theorem m_1_186 : (Jvm.Cond.lays "EndTeller$Stepper" "EndTeller$Stepper" "begun" "I") ∈ TB := mt_1 (List.mem_of_getElem? (i := 186) rfl) rfl
theorem m_1_188 : (Jvm.Cond.lays "EndTeller$Stepper" "EndTeller$Stepper" "ended" "I") ∈ TB := mt_1 (List.mem_of_getElem? (i := 188) rfl) rfl
theorem m_1_190 : (Jvm.Cond.lays "EndTeller$Stepper" "EndTeller$Stepper" "free" "I") ∈ TB := mt_1 (List.mem_of_getElem? (i := 190) rfl) rfl
theorem m_1_51 : (Jvm.Cond.laysFinal "EndTeller$Table" "EndTeller$Table" "weightOf" "[J") ∈ TB := mt_1 (List.mem_of_getElem? (i := 51) rfl) rfl
theorem m_2_6 : (Jvm.Cond.laysFinal "EndTeller$Tellings" "EndTeller$Tellings" "many" "[I") ∈ TB := mt_2 (List.mem_of_getElem? (i := 6) rfl) rfl
theorem m_2_8 : (Jvm.Cond.laysFinal "EndTeller$Tellings" "EndTeller$Tellings" "cameTrue" "[I") ∈ TB := mt_2 (List.mem_of_getElem? (i := 8) rfl) rfl
theorem m_2_10 : (Jvm.Cond.laysFinal "EndTeller$Tellings" "EndTeller$Tellings" "sums" "[LEndTeller$Fraction;") ∈ TB := mt_2 (List.mem_of_getElem? (i := 10) rfl) rfl
theorem m_2_12 : (Jvm.Cond.laysFinal "EndTeller$Tellings" "EndTeller$Tellings" "passed" "[Z") ∈ TB := mt_2 (List.mem_of_getElem? (i := 12) rfl) rfl
theorem m_2_14 : (Jvm.Cond.lays "EndTeller$Tellings" "EndTeller$Tellings" "count" "I") ∈ TB := mt_2 (List.mem_of_getElem? (i := 14) rfl) rfl
theorem m_2_28 : (Jvm.Cond.laysFinal "EndTeller$Tray" "EndTeller$Tray" "cells" "[J") ∈ TB := mt_2 (List.mem_of_getElem? (i := 28) rfl) rfl
theorem m_2_30 : (Jvm.Cond.lays "EndTeller$Tray" "EndTeller$Tray" "sort" "I") ∈ TB := mt_2 (List.mem_of_getElem? (i := 30) rfl) rfl
theorem m_2_32 : (Jvm.Cond.lays "EndTeller$Tray" "EndTeller$Tray" "length" "I") ∈ TB := mt_2 (List.mem_of_getElem? (i := 32) rfl) rfl
theorem m_1_206 : (Jvm.Cond.laysFinal "EndTeller$Ways" "EndTeller$Ways" "way" "LEndTeller$Stepper;") ∈ TB := mt_1 (List.mem_of_getElem? (i := 206) rfl) rfl
theorem m_1_208 : (Jvm.Cond.laysFinal "EndTeller$Ways" "EndTeller$Ways" "work" "LEndTeller$Work;") ∈ TB := mt_1 (List.mem_of_getElem? (i := 208) rfl) rfl
theorem m_1_210 : (Jvm.Cond.laysFinal "EndTeller$Ways" "EndTeller$Ways" "byDay" "[I") ∈ TB := mt_1 (List.mem_of_getElem? (i := 210) rfl) rfl
theorem m_1_212 : (Jvm.Cond.lays "EndTeller$Ways" "EndTeller$Ways" "endOf" "[I") ∈ TB := mt_1 (List.mem_of_getElem? (i := 212) rfl) rfl
theorem m_1_214 : (Jvm.Cond.lays "EndTeller$Ways" "EndTeller$Ways" "weightOf" "[I") ∈ TB := mt_1 (List.mem_of_getElem? (i := 214) rfl) rfl
theorem m_1_216 : (Jvm.Cond.lays "EndTeller$Ways" "EndTeller$Ways" "stale" "Z") ∈ TB := mt_1 (List.mem_of_getElem? (i := 216) rfl) rfl
theorem m_1_218 : (Jvm.Cond.lays "EndTeller$Ways" "EndTeller$Ways" "count" "I") ∈ TB := mt_1 (List.mem_of_getElem? (i := 218) rfl) rfl
theorem m_1_220 : (Jvm.Cond.lays "EndTeller$Ways" "EndTeller$Ways" "lastDay" "I") ∈ TB := mt_1 (List.mem_of_getElem? (i := 220) rfl) rfl
theorem m_1_222 : (Jvm.Cond.lays "EndTeller$Ways" "EndTeller$Ways" "left" "J") ∈ TB := mt_1 (List.mem_of_getElem? (i := 222) rfl) rfl
theorem m_1_224 : (Jvm.Cond.lays "EndTeller$Ways" "EndTeller$Ways" "gathered" "J") ∈ TB := mt_1 (List.mem_of_getElem? (i := 224) rfl) rfl
theorem m_1_148 : (Jvm.Cond.laysFinal "EndTeller$Work" "EndTeller$Work" "parts" "[LEndTeller$Part;") ∈ TB := mt_1 (List.mem_of_getElem? (i := 148) rfl) rfl
theorem m_1_150 : (Jvm.Cond.laysFinal "EndTeller$Work" "EndTeller$Work" "shares" "[I") ∈ TB := mt_1 (List.mem_of_getElem? (i := 150) rfl) rfl
theorem m_1_152 : (Jvm.Cond.laysFinal "EndTeller$Work" "EndTeller$Work" "wholes" "[I") ∈ TB := mt_1 (List.mem_of_getElem? (i := 152) rfl) rfl
theorem m_1_154 : (Jvm.Cond.lays "EndTeller$Work" "EndTeller$Work" "count" "I") ∈ TB := mt_1 (List.mem_of_getElem? (i := 154) rfl) rfl
theorem m_1_156 : (Jvm.Cond.lays "EndTeller$Work" "EndTeller$Work" "causes" "I") ∈ TB := mt_1 (List.mem_of_getElem? (i := 156) rfl) rfl
theorem m_1_158 : (Jvm.Cond.lays "EndTeller$Work" "EndTeller$Work" "house" "I") ∈ TB := mt_1 (List.mem_of_getElem? (i := 158) rfl) rfl
theorem m_1_160 : (Jvm.Cond.lays "EndTeller$Work" "EndTeller$Work" "dayItIs" "I") ∈ TB := mt_1 (List.mem_of_getElem? (i := 160) rfl) rfl
theorem m_2_44 : (Jvm.Cond.lays "EndTeller" "EndTeller" "state" "I") ∈ TB := mt_2 (List.mem_of_getElem? (i := 44) rfl) rfl
theorem m_2_46 : (Jvm.Cond.laysFinal "EndTeller" "EndTeller" "fraction" "LEndTeller$Fraction;") ∈ TB := mt_2 (List.mem_of_getElem? (i := 46) rfl) rfl
theorem m_2_48 : (Jvm.Cond.laysFinal "EndTeller" "EndTeller" "rest" "LEndTeller$Fraction;") ∈ TB := mt_2 (List.mem_of_getElem? (i := 48) rfl) rfl
theorem m_2_50 : (Jvm.Cond.laysFinal "EndTeller" "EndTeller" "least" "LEndTeller$Fraction;") ∈ TB := mt_2 (List.mem_of_getElem? (i := 50) rfl) rfl
theorem m_2_52 : (Jvm.Cond.laysFinal "EndTeller" "EndTeller" "trays" "[LEndTeller$Tray;") ∈ TB := mt_2 (List.mem_of_getElem? (i := 52) rfl) rfl
theorem m_2_54 : (Jvm.Cond.laysFinal "EndTeller" "EndTeller" "table" "LEndTeller$Table;") ∈ TB := mt_2 (List.mem_of_getElem? (i := 54) rfl) rfl
theorem m_2_56 : (Jvm.Cond.laysFinal "EndTeller" "EndTeller" "weighed" "LEndTeller$Ways;") ∈ TB := mt_2 (List.mem_of_getElem? (i := 56) rfl) rfl
theorem m_2_58 : (Jvm.Cond.laysFinal "EndTeller" "EndTeller" "work" "LEndTeller$Work;") ∈ TB := mt_2 (List.mem_of_getElem? (i := 58) rfl) rfl
theorem m_2_60 : (Jvm.Cond.laysFinal "EndTeller" "EndTeller" "tellings" "LEndTeller$Tellings;") ∈ TB := mt_2 (List.mem_of_getElem? (i := 60) rfl) rfl
theorem m_4_46 : (Jvm.Cond.lays "EndTellerModel" "EndTellerModel" "status" "I") ∈ TB := mt_4 (List.mem_of_getElem? (i := 46) rfl) rfl
theorem m_4_48 : (Jvm.Cond.lays "EndTellerModel" "EndTellerModel" "thrown" "I") ∈ TB := mt_4 (List.mem_of_getElem? (i := 48) rfl) rfl
theorem m_4_50 : (Jvm.Cond.lays "EndTellerModel" "EndTellerModel" "above" "J") ∈ TB := mt_4 (List.mem_of_getElem? (i := 50) rfl) rfl
theorem m_4_52 : (Jvm.Cond.lays "EndTellerModel" "EndTellerModel" "under" "J") ∈ TB := mt_4 (List.mem_of_getElem? (i := 52) rfl) rfl
theorem m_4_54 : (Jvm.Cond.laysFinal "EndTellerModel" "EndTellerModel" "traySort" "[I") ∈ TB := mt_4 (List.mem_of_getElem? (i := 54) rfl) rfl
theorem m_4_56 : (Jvm.Cond.laysFinal "EndTellerModel" "EndTellerModel" "trayMany" "[I") ∈ TB := mt_4 (List.mem_of_getElem? (i := 56) rfl) rfl
theorem m_4_58 : (Jvm.Cond.laysFinal "EndTellerModel" "EndTellerModel" "numbers" "[J") ∈ TB := mt_4 (List.mem_of_getElem? (i := 58) rfl) rfl
theorem m_4_60 : (Jvm.Cond.lays "EndTellerModel" "EndTellerModel" "parts" "I") ∈ TB := mt_4 (List.mem_of_getElem? (i := 60) rfl) rfl
theorem m_4_62 : (Jvm.Cond.lays "EndTellerModel" "EndTellerModel" "causes" "I") ∈ TB := mt_4 (List.mem_of_getElem? (i := 62) rfl) rfl
theorem m_4_64 : (Jvm.Cond.lays "EndTellerModel" "EndTellerModel" "house" "I") ∈ TB := mt_4 (List.mem_of_getElem? (i := 64) rfl) rfl
theorem m_4_66 : (Jvm.Cond.lays "EndTellerModel" "EndTellerModel" "today" "I") ∈ TB := mt_4 (List.mem_of_getElem? (i := 66) rfl) rfl
theorem m_4_68 : (Jvm.Cond.laysFinal "EndTellerModel" "EndTellerModel" "rows" "[I") ∈ TB := mt_4 (List.mem_of_getElem? (i := 68) rfl) rfl
theorem m_4_70 : (Jvm.Cond.laysFinal "EndTellerModel" "EndTellerModel" "hands" "[I") ∈ TB := mt_4 (List.mem_of_getElem? (i := 70) rfl) rfl
theorem m_4_72 : (Jvm.Cond.laysFinal "EndTellerModel" "EndTellerModel" "needs" "[I") ∈ TB := mt_4 (List.mem_of_getElem? (i := 72) rfl) rfl
theorem m_4_74 : (Jvm.Cond.laysFinal "EndTellerModel" "EndTellerModel" "came" "[I") ∈ TB := mt_4 (List.mem_of_getElem? (i := 74) rfl) rfl
theorem m_4_76 : (Jvm.Cond.laysFinal "EndTellerModel" "EndTellerModel" "day" "[I") ∈ TB := mt_4 (List.mem_of_getElem? (i := 76) rfl) rfl
theorem m_4_78 : (Jvm.Cond.laysFinal "EndTellerModel" "EndTellerModel" "weight" "[I") ∈ TB := mt_4 (List.mem_of_getElem? (i := 78) rfl) rfl
theorem m_4_80 : (Jvm.Cond.laysFinal "EndTellerModel" "EndTellerModel" "late" "[I") ∈ TB := mt_4 (List.mem_of_getElem? (i := 80) rfl) rfl
theorem m_4_82 : (Jvm.Cond.laysFinal "EndTellerModel" "EndTellerModel" "causeTop" "[I") ∈ TB := mt_4 (List.mem_of_getElem? (i := 82) rfl) rfl
theorem m_4_84 : (Jvm.Cond.laysFinal "EndTellerModel" "EndTellerModel" "causeLow" "[I") ∈ TB := mt_4 (List.mem_of_getElem? (i := 84) rfl) rfl
theorem m_4_86 : (Jvm.Cond.laysFinal "EndTellerModel" "EndTellerModel" "made" "[J") ∈ TB := mt_4 (List.mem_of_getElem? (i := 86) rfl) rfl
theorem m_4_88 : (Jvm.Cond.laysFinal "EndTellerModel" "EndTellerModel" "chosen" "[I") ∈ TB := mt_4 (List.mem_of_getElem? (i := 88) rfl) rfl
theorem m_4_90 : (Jvm.Cond.laysFinal "EndTellerModel" "EndTellerModel" "takes" "[I") ∈ TB := mt_4 (List.mem_of_getElem? (i := 90) rfl) rfl
theorem m_4_92 : (Jvm.Cond.laysFinal "EndTellerModel" "EndTellerModel" "ended" "[I") ∈ TB := mt_4 (List.mem_of_getElem? (i := 92) rfl) rfl
theorem m_4_94 : (Jvm.Cond.laysFinal "EndTellerModel" "EndTellerModel" "comes" "[Z") ∈ TB := mt_4 (List.mem_of_getElem? (i := 94) rfl) rfl
theorem m_4_96 : (Jvm.Cond.laysFinal "EndTellerModel" "EndTellerModel" "ends" "[J") ∈ TB := mt_4 (List.mem_of_getElem? (i := 96) rfl) rfl
theorem m_4_98 : (Jvm.Cond.laysFinal "EndTellerModel" "EndTellerModel" "of" "[J") ∈ TB := mt_4 (List.mem_of_getElem? (i := 98) rfl) rfl
theorem m_4_100 : (Jvm.Cond.lays "EndTellerModel" "EndTellerModel" "tellings" "I") ∈ TB := mt_4 (List.mem_of_getElem? (i := 100) rfl) rfl
theorem m_4_102 : (Jvm.Cond.laysFinal "EndTellerModel" "EndTellerModel" "tellTop" "[I") ∈ TB := mt_4 (List.mem_of_getElem? (i := 102) rfl) rfl
theorem m_4_104 : (Jvm.Cond.laysFinal "EndTellerModel" "EndTellerModel" "tellLow" "[I") ∈ TB := mt_4 (List.mem_of_getElem? (i := 104) rfl) rfl
theorem m_4_106 : (Jvm.Cond.laysFinal "EndTellerModel" "EndTellerModel" "tellCame" "[Z") ∈ TB := mt_4 (List.mem_of_getElem? (i := 106) rfl) rfl
theorem m_4_108 : (Jvm.Cond.laysFinal "EndTellerModel" "EndTellerModel" "begun" "[Z") ∈ TB := mt_4 (List.mem_of_getElem? (i := 108) rfl) rfl
theorem m_4_110 : (Jvm.Cond.laysFinal "EndTellerModel" "EndTellerModel" "over" "[Z") ∈ TB := mt_4 (List.mem_of_getElem? (i := 110) rfl) rfl
theorem m_4_112 : (Jvm.Cond.lays "EndTellerModel" "EndTellerModel" "whole" "J") ∈ TB := mt_4 (List.mem_of_getElem? (i := 112) rfl) rfl
theorem m_4_114 : (Jvm.Cond.lays "EndTellerModel" "EndTellerModel" "leftTop" "J") ∈ TB := mt_4 (List.mem_of_getElem? (i := 114) rfl) rfl
theorem m_4_116 : (Jvm.Cond.lays "EndTellerModel" "EndTellerModel" "leftLow" "J") ∈ TB := mt_4 (List.mem_of_getElem? (i := 116) rfl) rfl
theorem m_4_118 : (Jvm.Cond.lays "EndTellerModel" "EndTellerModel" "leftWhole" "J") ∈ TB := mt_4 (List.mem_of_getElem? (i := 118) rfl) rfl
theorem m_2_35 : (Jvm.Cond.fieldLink "EndTeller" (9 : Nat) "EndTeller" "state" "I") ∈ TB := mt_2 (List.mem_of_getElem? (i := 35) rfl) rfl
theorem m_2_36 : (Jvm.Cond.fieldLink "EndTeller" (16 : Nat) "EndTeller" "fraction" "LEndTeller$Fraction;") ∈ TB := mt_2 (List.mem_of_getElem? (i := 36) rfl) rfl
theorem m_2_37 : (Jvm.Cond.fieldLink "EndTeller" (20 : Nat) "EndTeller" "rest" "LEndTeller$Fraction;") ∈ TB := mt_2 (List.mem_of_getElem? (i := 37) rfl) rfl
theorem m_2_38 : (Jvm.Cond.fieldLink "EndTeller" (23 : Nat) "EndTeller" "least" "LEndTeller$Fraction;") ∈ TB := mt_2 (List.mem_of_getElem? (i := 38) rfl) rfl
theorem m_2_39 : (Jvm.Cond.fieldLink "EndTeller" (28 : Nat) "EndTeller" "trays" "[LEndTeller$Tray;") ∈ TB := mt_2 (List.mem_of_getElem? (i := 39) rfl) rfl
theorem m_2_40 : (Jvm.Cond.fieldLink "EndTeller" (35 : Nat) "EndTeller" "table" "LEndTeller$Table;") ∈ TB := mt_2 (List.mem_of_getElem? (i := 40) rfl) rfl
theorem m_2_41 : (Jvm.Cond.fieldLink "EndTeller" (42 : Nat) "EndTeller" "weighed" "LEndTeller$Ways;") ∈ TB := mt_2 (List.mem_of_getElem? (i := 41) rfl) rfl
theorem m_2_42 : (Jvm.Cond.fieldLink "EndTeller" (50 : Nat) "EndTeller" "work" "LEndTeller$Work;") ∈ TB := mt_2 (List.mem_of_getElem? (i := 42) rfl) rfl
theorem m_2_43 : (Jvm.Cond.fieldLink "EndTeller" (54 : Nat) "EndTeller" "tellings" "LEndTeller$Tellings;") ∈ TB := mt_2 (List.mem_of_getElem? (i := 43) rfl) rfl
theorem m_2_26 : (Jvm.Cond.fieldLink "EndTeller" (93 : Nat) "EndTeller$Tray" "sort" "I") ∈ TB := mt_2 (List.mem_of_getElem? (i := 26) rfl) rfl
theorem m_2_24 : (Jvm.Cond.fieldLink "EndTeller" (100 : Nat) "EndTeller$Tray" "cells" "[J") ∈ TB := mt_2 (List.mem_of_getElem? (i := 24) rfl) rfl
theorem m_1_130 : (Jvm.Cond.fieldLink "EndTeller" (130 : Nat) "EndTeller$Work" "parts" "[LEndTeller$Part;") ∈ TB := mt_1 (List.mem_of_getElem? (i := 130) rfl) rfl
theorem m_1_99 : (Jvm.Cond.fieldLink "EndTeller" (134 : Nat) "EndTeller$Part" "allWeights" "I") ∈ TB := mt_1 (List.mem_of_getElem? (i := 99) rfl) rfl
theorem m_1_141 : (Jvm.Cond.fieldLink "EndTeller" (153 : Nat) "EndTeller$Work" "causes" "I") ∈ TB := mt_1 (List.mem_of_getElem? (i := 141) rfl) rfl
theorem m_1_90 : (Jvm.Cond.fieldLink "EndTeller" (159 : Nat) "EndTeller$Part" "lateBy" "[I") ∈ TB := mt_1 (List.mem_of_getElem? (i := 90) rfl) rfl
theorem m_1_144 : (Jvm.Cond.fieldLink "EndTeller" (163 : Nat) "EndTeller$Work" "house" "I") ∈ TB := mt_1 (List.mem_of_getElem? (i := 144) rfl) rfl
theorem m_1_96 : (Jvm.Cond.fieldLink "EndTeller" (169 : Nat) "EndTeller$Part" "rows" "I") ∈ TB := mt_1 (List.mem_of_getElem? (i := 96) rfl) rfl
theorem m_1_103 : (Jvm.Cond.fieldLink "EndTeller" (172 : Nat) "EndTeller$Part" "holds" "I") ∈ TB := mt_1 (List.mem_of_getElem? (i := 103) rfl) rfl
theorem m_1_106 : (Jvm.Cond.fieldLink "EndTeller" (175 : Nat) "EndTeller$Part" "needs" "I") ∈ TB := mt_1 (List.mem_of_getElem? (i := 106) rfl) rfl
theorem m_1_109 : (Jvm.Cond.fieldLink "EndTeller" (183 : Nat) "EndTeller$Part" "cameOn" "I") ∈ TB := mt_1 (List.mem_of_getElem? (i := 109) rfl) rfl
theorem m_1_83 : (Jvm.Cond.fieldLink "EndTeller" (186 : Nat) "EndTeller$Part" "days" "[I") ∈ TB := mt_1 (List.mem_of_getElem? (i := 83) rfl) rfl
theorem m_1_87 : (Jvm.Cond.fieldLink "EndTeller" (189 : Nat) "EndTeller$Part" "weights" "[I") ∈ TB := mt_1 (List.mem_of_getElem? (i := 87) rfl) rfl
theorem m_1_31 : (Jvm.Cond.fieldLink "EndTeller" (192 : Nat) "EndTeller$Fraction" "above" "J") ∈ TB := mt_1 (List.mem_of_getElem? (i := 31) rfl) rfl
theorem m_1_35 : (Jvm.Cond.fieldLink "EndTeller" (196 : Nat) "EndTeller$Fraction" "below" "J") ∈ TB := mt_1 (List.mem_of_getElem? (i := 35) rfl) rfl
theorem m_1_204 : (Jvm.Cond.fieldLink "EndTeller" (212 : Nat) "EndTeller$Ways" "left" "J") ∈ TB := mt_1 (List.mem_of_getElem? (i := 204) rfl) rfl
theorem m_1_138 : (Jvm.Cond.fieldLink "EndTeller" (241 : Nat) "EndTeller$Work" "count" "I") ∈ TB := mt_1 (List.mem_of_getElem? (i := 138) rfl) rfl
theorem m_1_147 : (Jvm.Cond.fieldLink "EndTeller" (258 : Nat) "EndTeller$Work" "dayItIs" "I") ∈ TB := mt_1 (List.mem_of_getElem? (i := 147) rfl) rfl
theorem m_2_5 : (Jvm.Cond.fieldLink "EndTeller" (261 : Nat) "EndTeller$Tellings" "count" "I") ∈ TB := mt_2 (List.mem_of_getElem? (i := 5) rfl) rfl
theorem m_1_237 : (Jvm.Cond.fieldLink "EndTeller" (268 : Nat) "EndTeller$Tellings" "many" "[I") ∈ TB := mt_1 (List.mem_of_getElem? (i := 237) rfl) rfl
theorem m_1_239 : (Jvm.Cond.fieldLink "EndTeller" (271 : Nat) "EndTeller$Tellings" "cameTrue" "[I") ∈ TB := mt_1 (List.mem_of_getElem? (i := 239) rfl) rfl
theorem m_2_3 : (Jvm.Cond.fieldLink "EndTeller" (274 : Nat) "EndTeller$Tellings" "passed" "[Z") ∈ TB := mt_2 (List.mem_of_getElem? (i := 3) rfl) rfl
theorem m_2_1 : (Jvm.Cond.fieldLink "EndTeller" (278 : Nat) "EndTeller$Tellings" "sums" "[LEndTeller$Fraction;") ∈ TB := mt_2 (List.mem_of_getElem? (i := 1) rfl) rfl
theorem m_1_200 : (Jvm.Cond.fieldLink "EndTeller" (282 : Nat) "EndTeller$Ways" "stale" "Z") ∈ TB := mt_1 (List.mem_of_getElem? (i := 200) rfl) rfl
theorem m_1_29 : (Jvm.Cond.fieldLink "EndTeller$Fraction" (7 : Nat) "EndTeller$Fraction" "above" "J") ∈ TB := mt_1 (List.mem_of_getElem? (i := 29) rfl) rfl
theorem m_1_32 : (Jvm.Cond.fieldLink "EndTeller$Fraction" (13 : Nat) "EndTeller$Fraction" "below" "J") ∈ TB := mt_1 (List.mem_of_getElem? (i := 32) rfl) rfl
theorem m_1_80 : (Jvm.Cond.fieldLink "EndTeller$Part" (9 : Nat) "EndTeller$Part" "days" "[I") ∈ TB := mt_1 (List.mem_of_getElem? (i := 80) rfl) rfl
theorem m_1_84 : (Jvm.Cond.fieldLink "EndTeller$Part" (15 : Nat) "EndTeller$Part" "weights" "[I") ∈ TB := mt_1 (List.mem_of_getElem? (i := 84) rfl) rfl
theorem m_1_88 : (Jvm.Cond.fieldLink "EndTeller$Part" (18 : Nat) "EndTeller$Part" "lateBy" "[I") ∈ TB := mt_1 (List.mem_of_getElem? (i := 88) rfl) rfl
theorem m_1_91 : (Jvm.Cond.fieldLink "EndTeller$Part" (21 : Nat) "EndTeller$Part" "rows" "I") ∈ TB := mt_1 (List.mem_of_getElem? (i := 91) rfl) rfl
theorem m_1_97 : (Jvm.Cond.fieldLink "EndTeller$Part" (25 : Nat) "EndTeller$Part" "allWeights" "I") ∈ TB := mt_1 (List.mem_of_getElem? (i := 97) rfl) rfl
theorem m_1_100 : (Jvm.Cond.fieldLink "EndTeller$Part" (28 : Nat) "EndTeller$Part" "holds" "I") ∈ TB := mt_1 (List.mem_of_getElem? (i := 100) rfl) rfl
theorem m_1_104 : (Jvm.Cond.fieldLink "EndTeller$Part" (31 : Nat) "EndTeller$Part" "needs" "I") ∈ TB := mt_1 (List.mem_of_getElem? (i := 104) rfl) rfl
theorem m_1_107 : (Jvm.Cond.fieldLink "EndTeller$Part" (34 : Nat) "EndTeller$Part" "cameOn" "I") ∈ TB := mt_1 (List.mem_of_getElem? (i := 107) rfl) rfl
theorem m_1_50 : (Jvm.Cond.fieldLink "EndTeller$Part" (43 : Nat) "EndTeller$Table" "weightOf" "[J") ∈ TB := mt_1 (List.mem_of_getElem? (i := 50) rfl) rfl
theorem m_1_163 : (Jvm.Cond.fieldLink "EndTeller$Stepper" (12 : Nat) "EndTeller$Stepper" "work" "LEndTeller$Work;") ∈ TB := mt_1 (List.mem_of_getElem? (i := 163) rfl) rfl
theorem m_1_165 : (Jvm.Cond.fieldLink "EndTeller$Stepper" (18 : Nat) "EndTeller$Stepper" "picked" "[I") ∈ TB := mt_1 (List.mem_of_getElem? (i := 165) rfl) rfl
theorem m_1_166 : (Jvm.Cond.fieldLink "EndTeller$Stepper" (22 : Nat) "EndTeller$Stepper" "lateness" "[I") ∈ TB := mt_1 (List.mem_of_getElem? (i := 166) rfl) rfl
theorem m_1_167 : (Jvm.Cond.fieldLink "EndTeller$Stepper" (25 : Nat) "EndTeller$Stepper" "endsOn" "[I") ∈ TB := mt_1 (List.mem_of_getElem? (i := 167) rfl) rfl
theorem m_1_169 : (Jvm.Cond.fieldLink "EndTeller$Stepper" (28 : Nat) "EndTeller$Stepper" "comes" "I") ∈ TB := mt_1 (List.mem_of_getElem? (i := 169) rfl) rfl
theorem m_1_170 : (Jvm.Cond.fieldLink "EndTeller$Stepper" (32 : Nat) "EndTeller$Stepper" "weightOfCauses" "I") ∈ TB := mt_1 (List.mem_of_getElem? (i := 170) rfl) rfl
theorem m_1_171 : (Jvm.Cond.fieldLink "EndTeller$Stepper" (35 : Nat) "EndTeller$Stepper" "begun" "I") ∈ TB := mt_1 (List.mem_of_getElem? (i := 171) rfl) rfl
theorem m_1_172 : (Jvm.Cond.fieldLink "EndTeller$Stepper" (38 : Nat) "EndTeller$Stepper" "ended" "I") ∈ TB := mt_1 (List.mem_of_getElem? (i := 172) rfl) rfl
theorem m_1_173 : (Jvm.Cond.fieldLink "EndTeller$Stepper" (41 : Nat) "EndTeller$Stepper" "free" "I") ∈ TB := mt_1 (List.mem_of_getElem? (i := 173) rfl) rfl
theorem m_1_137 : (Jvm.Cond.fieldLink "EndTeller$Stepper" (53 : Nat) "EndTeller$Work" "count" "I") ∈ TB := mt_1 (List.mem_of_getElem? (i := 137) rfl) rfl
theorem m_1_129 : (Jvm.Cond.fieldLink "EndTeller$Stepper" (56 : Nat) "EndTeller$Work" "parts" "[LEndTeller$Part;") ∈ TB := mt_1 (List.mem_of_getElem? (i := 129) rfl) rfl
theorem m_1_92 : (Jvm.Cond.fieldLink "EndTeller$Stepper" (60 : Nat) "EndTeller$Part" "rows" "I") ∈ TB := mt_1 (List.mem_of_getElem? (i := 92) rfl) rfl
theorem m_1_140 : (Jvm.Cond.fieldLink "EndTeller$Stepper" (65 : Nat) "EndTeller$Work" "causes" "I") ∈ TB := mt_1 (List.mem_of_getElem? (i := 140) rfl) rfl
theorem m_1_135 : (Jvm.Cond.fieldLink "EndTeller$Stepper" (68 : Nat) "EndTeller$Work" "wholes" "[I") ∈ TB := mt_1 (List.mem_of_getElem? (i := 135) rfl) rfl
theorem m_1_133 : (Jvm.Cond.fieldLink "EndTeller$Stepper" (71 : Nat) "EndTeller$Work" "shares" "[I") ∈ TB := mt_1 (List.mem_of_getElem? (i := 133) rfl) rfl
theorem m_1_89 : (Jvm.Cond.fieldLink "EndTeller$Stepper" (74 : Nat) "EndTeller$Part" "lateBy" "[I") ∈ TB := mt_1 (List.mem_of_getElem? (i := 89) rfl) rfl
theorem m_1_86 : (Jvm.Cond.fieldLink "EndTeller$Stepper" (77 : Nat) "EndTeller$Part" "weights" "[I") ∈ TB := mt_1 (List.mem_of_getElem? (i := 86) rfl) rfl
theorem m_1_143 : (Jvm.Cond.fieldLink "EndTeller$Stepper" (80 : Nat) "EndTeller$Work" "house" "I") ∈ TB := mt_1 (List.mem_of_getElem? (i := 143) rfl) rfl
theorem m_1_105 : (Jvm.Cond.fieldLink "EndTeller$Stepper" (91 : Nat) "EndTeller$Part" "needs" "I") ∈ TB := mt_1 (List.mem_of_getElem? (i := 105) rfl) rfl
theorem m_1_102 : (Jvm.Cond.fieldLink "EndTeller$Stepper" (94 : Nat) "EndTeller$Part" "holds" "I") ∈ TB := mt_1 (List.mem_of_getElem? (i := 102) rfl) rfl
theorem m_1_82 : (Jvm.Cond.fieldLink "EndTeller$Stepper" (97 : Nat) "EndTeller$Part" "days" "[I") ∈ TB := mt_1 (List.mem_of_getElem? (i := 82) rfl) rfl
theorem m_1_108 : (Jvm.Cond.fieldLink "EndTeller$Stepper" (101 : Nat) "EndTeller$Part" "cameOn" "I") ∈ TB := mt_1 (List.mem_of_getElem? (i := 108) rfl) rfl
theorem m_1_146 : (Jvm.Cond.fieldLink "EndTeller$Stepper" (104 : Nat) "EndTeller$Work" "dayItIs" "I") ∈ TB := mt_1 (List.mem_of_getElem? (i := 146) rfl) rfl
theorem m_1_49 : (Jvm.Cond.fieldLink "EndTeller$Table" (9 : Nat) "EndTeller$Table" "weightOf" "[J") ∈ TB := mt_1 (List.mem_of_getElem? (i := 49) rfl) rfl
theorem m_1_93 : (Jvm.Cond.fieldLink "EndTeller$Table" (21 : Nat) "EndTeller$Part" "rows" "I") ∈ TB := mt_1 (List.mem_of_getElem? (i := 93) rfl) rfl
theorem m_1_81 : (Jvm.Cond.fieldLink "EndTeller$Table" (27 : Nat) "EndTeller$Part" "days" "[I") ∈ TB := mt_1 (List.mem_of_getElem? (i := 81) rfl) rfl
theorem m_1_85 : (Jvm.Cond.fieldLink "EndTeller$Table" (31 : Nat) "EndTeller$Part" "weights" "[I") ∈ TB := mt_1 (List.mem_of_getElem? (i := 85) rfl) rfl
theorem m_1_236 : (Jvm.Cond.fieldLink "EndTeller$Tellings" (9 : Nat) "EndTeller$Tellings" "many" "[I") ∈ TB := mt_1 (List.mem_of_getElem? (i := 236) rfl) rfl
theorem m_1_238 : (Jvm.Cond.fieldLink "EndTeller$Tellings" (15 : Nat) "EndTeller$Tellings" "cameTrue" "[I") ∈ TB := mt_1 (List.mem_of_getElem? (i := 238) rfl) rfl
theorem m_2_0 : (Jvm.Cond.fieldLink "EndTeller$Tellings" (20 : Nat) "EndTeller$Tellings" "sums" "[LEndTeller$Fraction;") ∈ TB := mt_2 (List.mem_of_getElem? (i := 0) rfl) rfl
theorem m_2_2 : (Jvm.Cond.fieldLink "EndTeller$Tellings" (24 : Nat) "EndTeller$Tellings" "passed" "[Z") ∈ TB := mt_2 (List.mem_of_getElem? (i := 2) rfl) rfl
theorem m_2_4 : (Jvm.Cond.fieldLink "EndTeller$Tellings" (28 : Nat) "EndTeller$Tellings" "count" "I") ∈ TB := mt_2 (List.mem_of_getElem? (i := 4) rfl) rfl
theorem m_1_30 : (Jvm.Cond.fieldLink "EndTeller$Tellings" (43 : Nat) "EndTeller$Fraction" "above" "J") ∈ TB := mt_1 (List.mem_of_getElem? (i := 30) rfl) rfl
theorem m_1_33 : (Jvm.Cond.fieldLink "EndTeller$Tellings" (49 : Nat) "EndTeller$Fraction" "below" "J") ∈ TB := mt_1 (List.mem_of_getElem? (i := 33) rfl) rfl
theorem m_2_23 : (Jvm.Cond.fieldLink "EndTeller$Tray" (9 : Nat) "EndTeller$Tray" "cells" "[J") ∈ TB := mt_2 (List.mem_of_getElem? (i := 23) rfl) rfl
theorem m_2_25 : (Jvm.Cond.fieldLink "EndTeller$Tray" (15 : Nat) "EndTeller$Tray" "sort" "I") ∈ TB := mt_2 (List.mem_of_getElem? (i := 25) rfl) rfl
theorem m_2_27 : (Jvm.Cond.fieldLink "EndTeller$Tray" (19 : Nat) "EndTeller$Tray" "length" "I") ∈ TB := mt_2 (List.mem_of_getElem? (i := 27) rfl) rfl
theorem m_1_193 : (Jvm.Cond.fieldLink "EndTeller$Ways" (12 : Nat) "EndTeller$Ways" "way" "LEndTeller$Stepper;") ∈ TB := mt_1 (List.mem_of_getElem? (i := 193) rfl) rfl
theorem m_1_194 : (Jvm.Cond.fieldLink "EndTeller$Ways" (22 : Nat) "EndTeller$Ways" "work" "LEndTeller$Work;") ∈ TB := mt_1 (List.mem_of_getElem? (i := 194) rfl) rfl
theorem m_1_196 : (Jvm.Cond.fieldLink "EndTeller$Ways" (23 : Nat) "EndTeller$Ways" "byDay" "[I") ∈ TB := mt_1 (List.mem_of_getElem? (i := 196) rfl) rfl
theorem m_1_197 : (Jvm.Cond.fieldLink "EndTeller$Ways" (27 : Nat) "EndTeller$Ways" "endOf" "[I") ∈ TB := mt_1 (List.mem_of_getElem? (i := 197) rfl) rfl
theorem m_1_198 : (Jvm.Cond.fieldLink "EndTeller$Ways" (30 : Nat) "EndTeller$Ways" "weightOf" "[I") ∈ TB := mt_1 (List.mem_of_getElem? (i := 198) rfl) rfl
theorem m_1_199 : (Jvm.Cond.fieldLink "EndTeller$Ways" (33 : Nat) "EndTeller$Ways" "stale" "Z") ∈ TB := mt_1 (List.mem_of_getElem? (i := 199) rfl) rfl
theorem m_1_201 : (Jvm.Cond.fieldLink "EndTeller$Ways" (37 : Nat) "EndTeller$Ways" "count" "I") ∈ TB := mt_1 (List.mem_of_getElem? (i := 201) rfl) rfl
theorem m_1_202 : (Jvm.Cond.fieldLink "EndTeller$Ways" (41 : Nat) "EndTeller$Ways" "lastDay" "I") ∈ TB := mt_1 (List.mem_of_getElem? (i := 202) rfl) rfl
theorem m_1_203 : (Jvm.Cond.fieldLink "EndTeller$Ways" (44 : Nat) "EndTeller$Ways" "left" "J") ∈ TB := mt_1 (List.mem_of_getElem? (i := 203) rfl) rfl
theorem m_1_205 : (Jvm.Cond.fieldLink "EndTeller$Ways" (48 : Nat) "EndTeller$Ways" "gathered" "J") ∈ TB := mt_1 (List.mem_of_getElem? (i := 205) rfl) rfl
theorem m_1_168 : (Jvm.Cond.fieldLink "EndTeller$Ways" (90 : Nat) "EndTeller$Stepper" "endsOn" "[I") ∈ TB := mt_1 (List.mem_of_getElem? (i := 168) rfl) rfl
theorem m_1_131 : (Jvm.Cond.fieldLink "EndTeller$Ways" (106 : Nat) "EndTeller$Work" "parts" "[LEndTeller$Part;") ∈ TB := mt_1 (List.mem_of_getElem? (i := 131) rfl) rfl
theorem m_1_95 : (Jvm.Cond.fieldLink "EndTeller$Ways" (110 : Nat) "EndTeller$Part" "rows" "I") ∈ TB := mt_1 (List.mem_of_getElem? (i := 95) rfl) rfl
theorem m_1_34 : (Jvm.Cond.fieldLink "EndTeller$Ways" (134 : Nat) "EndTeller$Fraction" "below" "J") ∈ TB := mt_1 (List.mem_of_getElem? (i := 34) rfl) rfl
theorem m_1_128 : (Jvm.Cond.fieldLink "EndTeller$Work" (11 : Nat) "EndTeller$Work" "parts" "[LEndTeller$Part;") ∈ TB := mt_1 (List.mem_of_getElem? (i := 128) rfl) rfl
theorem m_1_132 : (Jvm.Cond.fieldLink "EndTeller$Work" (17 : Nat) "EndTeller$Work" "shares" "[I") ∈ TB := mt_1 (List.mem_of_getElem? (i := 132) rfl) rfl
theorem m_1_134 : (Jvm.Cond.fieldLink "EndTeller$Work" (21 : Nat) "EndTeller$Work" "wholes" "[I") ∈ TB := mt_1 (List.mem_of_getElem? (i := 134) rfl) rfl
theorem m_1_136 : (Jvm.Cond.fieldLink "EndTeller$Work" (24 : Nat) "EndTeller$Work" "count" "I") ∈ TB := mt_1 (List.mem_of_getElem? (i := 136) rfl) rfl
theorem m_1_139 : (Jvm.Cond.fieldLink "EndTeller$Work" (28 : Nat) "EndTeller$Work" "causes" "I") ∈ TB := mt_1 (List.mem_of_getElem? (i := 139) rfl) rfl
theorem m_1_142 : (Jvm.Cond.fieldLink "EndTeller$Work" (31 : Nat) "EndTeller$Work" "house" "I") ∈ TB := mt_1 (List.mem_of_getElem? (i := 142) rfl) rfl
theorem m_1_145 : (Jvm.Cond.fieldLink "EndTeller$Work" (34 : Nat) "EndTeller$Work" "dayItIs" "I") ∈ TB := mt_1 (List.mem_of_getElem? (i := 145) rfl) rfl
theorem m_1_101 : (Jvm.Cond.fieldLink "EndTeller$Work" (42 : Nat) "EndTeller$Part" "holds" "I") ∈ TB := mt_1 (List.mem_of_getElem? (i := 101) rfl) rfl
theorem m_1_98 : (Jvm.Cond.fieldLink "EndTeller$Work" (45 : Nat) "EndTeller$Part" "allWeights" "I") ∈ TB := mt_1 (List.mem_of_getElem? (i := 98) rfl) rfl
theorem m_1_94 : (Jvm.Cond.fieldLink "EndTeller$Work" (54 : Nat) "EndTeller$Part" "rows" "I") ∈ TB := mt_1 (List.mem_of_getElem? (i := 94) rfl) rfl
theorem m_4_12 : (Jvm.Cond.fieldLink "EndTellerModel" (7 : Nat) "EndTellerModel" "under" "J") ∈ TB := mt_4 (List.mem_of_getElem? (i := 12) rfl) rfl
theorem m_4_13 : (Jvm.Cond.fieldLink "EndTellerModel" (13 : Nat) "EndTellerModel" "traySort" "[I") ∈ TB := mt_4 (List.mem_of_getElem? (i := 13) rfl) rfl
theorem m_4_14 : (Jvm.Cond.fieldLink "EndTellerModel" (17 : Nat) "EndTellerModel" "trayMany" "[I") ∈ TB := mt_4 (List.mem_of_getElem? (i := 14) rfl) rfl
theorem m_4_15 : (Jvm.Cond.fieldLink "EndTellerModel" (20 : Nat) "EndTellerModel" "numbers" "[J") ∈ TB := mt_4 (List.mem_of_getElem? (i := 15) rfl) rfl
theorem m_4_18 : (Jvm.Cond.fieldLink "EndTellerModel" (24 : Nat) "EndTellerModel" "house" "I") ∈ TB := mt_4 (List.mem_of_getElem? (i := 18) rfl) rfl
theorem m_4_19 : (Jvm.Cond.fieldLink "EndTellerModel" (28 : Nat) "EndTellerModel" "today" "I") ∈ TB := mt_4 (List.mem_of_getElem? (i := 19) rfl) rfl
theorem m_4_20 : (Jvm.Cond.fieldLink "EndTellerModel" (31 : Nat) "EndTellerModel" "rows" "[I") ∈ TB := mt_4 (List.mem_of_getElem? (i := 20) rfl) rfl
theorem m_4_21 : (Jvm.Cond.fieldLink "EndTellerModel" (34 : Nat) "EndTellerModel" "hands" "[I") ∈ TB := mt_4 (List.mem_of_getElem? (i := 21) rfl) rfl
theorem m_4_22 : (Jvm.Cond.fieldLink "EndTellerModel" (37 : Nat) "EndTellerModel" "needs" "[I") ∈ TB := mt_4 (List.mem_of_getElem? (i := 22) rfl) rfl
theorem m_4_23 : (Jvm.Cond.fieldLink "EndTellerModel" (40 : Nat) "EndTellerModel" "came" "[I") ∈ TB := mt_4 (List.mem_of_getElem? (i := 23) rfl) rfl
theorem m_4_24 : (Jvm.Cond.fieldLink "EndTellerModel" (43 : Nat) "EndTellerModel" "day" "[I") ∈ TB := mt_4 (List.mem_of_getElem? (i := 24) rfl) rfl
theorem m_4_25 : (Jvm.Cond.fieldLink "EndTellerModel" (46 : Nat) "EndTellerModel" "weight" "[I") ∈ TB := mt_4 (List.mem_of_getElem? (i := 25) rfl) rfl
theorem m_4_26 : (Jvm.Cond.fieldLink "EndTellerModel" (49 : Nat) "EndTellerModel" "late" "[I") ∈ TB := mt_4 (List.mem_of_getElem? (i := 26) rfl) rfl
theorem m_4_27 : (Jvm.Cond.fieldLink "EndTellerModel" (52 : Nat) "EndTellerModel" "causeTop" "[I") ∈ TB := mt_4 (List.mem_of_getElem? (i := 27) rfl) rfl
theorem m_4_28 : (Jvm.Cond.fieldLink "EndTellerModel" (55 : Nat) "EndTellerModel" "causeLow" "[I") ∈ TB := mt_4 (List.mem_of_getElem? (i := 28) rfl) rfl
theorem m_4_29 : (Jvm.Cond.fieldLink "EndTellerModel" (58 : Nat) "EndTellerModel" "made" "[J") ∈ TB := mt_4 (List.mem_of_getElem? (i := 29) rfl) rfl
theorem m_4_30 : (Jvm.Cond.fieldLink "EndTellerModel" (61 : Nat) "EndTellerModel" "chosen" "[I") ∈ TB := mt_4 (List.mem_of_getElem? (i := 30) rfl) rfl
theorem m_4_31 : (Jvm.Cond.fieldLink "EndTellerModel" (64 : Nat) "EndTellerModel" "takes" "[I") ∈ TB := mt_4 (List.mem_of_getElem? (i := 31) rfl) rfl
theorem m_4_32 : (Jvm.Cond.fieldLink "EndTellerModel" (67 : Nat) "EndTellerModel" "ended" "[I") ∈ TB := mt_4 (List.mem_of_getElem? (i := 32) rfl) rfl
theorem m_4_33 : (Jvm.Cond.fieldLink "EndTellerModel" (70 : Nat) "EndTellerModel" "comes" "[Z") ∈ TB := mt_4 (List.mem_of_getElem? (i := 33) rfl) rfl
theorem m_4_34 : (Jvm.Cond.fieldLink "EndTellerModel" (74 : Nat) "EndTellerModel" "ends" "[J") ∈ TB := mt_4 (List.mem_of_getElem? (i := 34) rfl) rfl
theorem m_4_37 : (Jvm.Cond.fieldLink "EndTellerModel" (80 : Nat) "EndTellerModel" "tellTop" "[I") ∈ TB := mt_4 (List.mem_of_getElem? (i := 37) rfl) rfl
theorem m_4_38 : (Jvm.Cond.fieldLink "EndTellerModel" (83 : Nat) "EndTellerModel" "tellLow" "[I") ∈ TB := mt_4 (List.mem_of_getElem? (i := 38) rfl) rfl
theorem m_4_39 : (Jvm.Cond.fieldLink "EndTellerModel" (86 : Nat) "EndTellerModel" "tellCame" "[Z") ∈ TB := mt_4 (List.mem_of_getElem? (i := 39) rfl) rfl
theorem m_4_40 : (Jvm.Cond.fieldLink "EndTellerModel" (89 : Nat) "EndTellerModel" "begun" "[Z") ∈ TB := mt_4 (List.mem_of_getElem? (i := 40) rfl) rfl
theorem m_4_41 : (Jvm.Cond.fieldLink "EndTellerModel" (92 : Nat) "EndTellerModel" "over" "[Z") ∈ TB := mt_4 (List.mem_of_getElem? (i := 41) rfl) rfl
theorem m_4_10 : (Jvm.Cond.fieldLink "EndTellerModel" (95 : Nat) "EndTellerModel" "thrown" "I") ∈ TB := mt_4 (List.mem_of_getElem? (i := 10) rfl) rfl
theorem m_4_9 : (Jvm.Cond.fieldLink "EndTellerModel" (98 : Nat) "EndTellerModel" "status" "I") ∈ TB := mt_4 (List.mem_of_getElem? (i := 9) rfl) rfl
theorem m_4_16 : (Jvm.Cond.fieldLink "EndTellerModel" (119 : Nat) "EndTellerModel" "parts" "I") ∈ TB := mt_4 (List.mem_of_getElem? (i := 16) rfl) rfl
theorem m_4_17 : (Jvm.Cond.fieldLink "EndTellerModel" (148 : Nat) "EndTellerModel" "causes" "I") ∈ TB := mt_4 (List.mem_of_getElem? (i := 17) rfl) rfl
theorem m_4_11 : (Jvm.Cond.fieldLink "EndTellerModel" (156 : Nat) "EndTellerModel" "above" "J") ∈ TB := mt_4 (List.mem_of_getElem? (i := 11) rfl) rfl
theorem m_4_42 : (Jvm.Cond.fieldLink "EndTellerModel" (177 : Nat) "EndTellerModel" "whole" "J") ∈ TB := mt_4 (List.mem_of_getElem? (i := 42) rfl) rfl
theorem m_4_43 : (Jvm.Cond.fieldLink "EndTellerModel" (214 : Nat) "EndTellerModel" "leftTop" "J") ∈ TB := mt_4 (List.mem_of_getElem? (i := 43) rfl) rfl
theorem m_4_44 : (Jvm.Cond.fieldLink "EndTellerModel" (217 : Nat) "EndTellerModel" "leftLow" "J") ∈ TB := mt_4 (List.mem_of_getElem? (i := 44) rfl) rfl
theorem m_4_45 : (Jvm.Cond.fieldLink "EndTellerModel" (220 : Nat) "EndTellerModel" "leftWhole" "J") ∈ TB := mt_4 (List.mem_of_getElem? (i := 45) rfl) rfl
theorem m_4_36 : (Jvm.Cond.fieldLink "EndTellerModel" (232 : Nat) "EndTellerModel" "tellings" "I") ∈ TB := mt_4 (List.mem_of_getElem? (i := 36) rfl) rfl
theorem m_1_13 : (Jvm.Cond.initialized "java/lang/Integer") ∈ TB := mt_1 (List.mem_of_getElem? (i := 13) rfl) rfl
theorem m_3_15 : (Jvm.Cond.code ({ cls := "java/lang/Integer", name := "bitCount", desc := "(I)I" } : Jvm.MethodName) prog_12_method_49_code (1 : Nat) (Option.some Jvm.ClassFile.FieldType.int)) ∈ TB := mt_3 (List.mem_of_getElem? (i := 15) rfl) rfl
theorem m_1_11 : (Jvm.Cond.initialized "java/util/Arrays") ∈ TB := mt_1 (List.mem_of_getElem? (i := 11) rfl) rfl
theorem m_2_187 : (Jvm.Cond.code ({ cls := "java/util/Arrays", name := "fill", desc := "([II)V" } : Jvm.MethodName) prog_15_method_103_code (4 : Nat) (Option.none : Option Jvm.ClassFile.FieldType)) ∈ TB := mt_2 (List.mem_of_getElem? (i := 187) rfl) rfl
theorem m_2_84 : (Jvm.Cond.code ({ cls := "java/util/Arrays", name := "fill", desc := "([JJ)V" } : Jvm.MethodName) prog_15_method_101_code (5 : Nat) (Option.none : Option Jvm.ClassFile.FieldType)) ∈ TB := mt_2 (List.mem_of_getElem? (i := 84) rfl) rfl
theorem m_1_2 : (Jvm.Cond.initialized "EndTeller$Fraction") ∈ TB := mt_1 (List.mem_of_getElem? (i := 2) rfl) rfl
theorem m_3_191 : (Jvm.Cond.code ({ cls := "EndTeller$Fraction", name := "add", desc := "(JJ)V" } : Jvm.MethodName) prog_2_method_3_code (5 : Nat) (Option.none : Option Jvm.ClassFile.FieldType)) ∈ TB := mt_3 (List.mem_of_getElem? (i := 191) rfl) rfl
theorem m_3_124 : (Jvm.Cond.code ({ cls := "EndTeller$Fraction", name := "become", desc := "(JJ)V" } : Jvm.MethodName) prog_2_method_2_code (7 : Nat) (Option.none : Option Jvm.ClassFile.FieldType)) ∈ TB := mt_3 (List.mem_of_getElem? (i := 124) rfl) rfl
theorem m_3_201 : (Jvm.Cond.code ({ cls := "EndTeller$Fraction", name := "isLessThan", desc := "(LEndTeller$Fraction;)Z" } : Jvm.MethodName) prog_2_method_4_code (6 : Nat) (Option.some Jvm.ClassFile.FieldType.boolean)) ∈ TB := mt_3 (List.mem_of_getElem? (i := 201) rfl) rfl
theorem m_1_7 : (Jvm.Cond.initialized "EndTeller$Part") ∈ TB := mt_1 (List.mem_of_getElem? (i := 7) rfl) rfl
theorem m_2_184 : (Jvm.Cond.code ({ cls := "EndTeller$Part", name := "become", desc := "(LEndTeller$Table;I)V" } : Jvm.MethodName) prog_3_method_2_code (4 : Nat) (Option.none : Option Jvm.ClassFile.FieldType)) ∈ TB := mt_2 (List.mem_of_getElem? (i := 184) rfl) rfl
theorem m_2_224 : (Jvm.Cond.code ({ cls := "EndTeller$Part", name := "setNeed", desc := "(IZ)V" } : Jvm.MethodName) prog_3_method_3_code (3 : Nat) (Option.none : Option Jvm.ClassFile.FieldType)) ∈ TB := mt_2 (List.mem_of_getElem? (i := 224) rfl) rfl
theorem m_1_5 : (Jvm.Cond.initialized "EndTeller$Stepper") ∈ TB := mt_1 (List.mem_of_getElem? (i := 5) rfl) rfl
theorem m_3_104 : (Jvm.Cond.code ({ cls := "EndTeller$Stepper", name := "agreesWithWhatCame", desc := "()Z" } : Jvm.MethodName) prog_4_method_9_code (3 : Nat) (Option.some Jvm.ClassFile.FieldType.boolean)) ∈ TB := mt_3 (List.mem_of_getElem? (i := 104) rfl) rfl
theorem m_3_91 : (Jvm.Cond.code ({ cls := "EndTeller$Stepper", name := "beginOn", desc := "(II)V" } : Jvm.MethodName) prog_4_method_7_code (7 : Nat) (Option.none : Option Jvm.ClassFile.FieldType)) ∈ TB := mt_3 (List.mem_of_getElem? (i := 91) rfl) rfl
theorem m_3_95 : (Jvm.Cond.code ({ cls := "EndTeller$Stepper", name := "endNext", desc := "()I" } : Jvm.MethodName) prog_4_method_8_code (6 : Nat) (Option.some Jvm.ClassFile.FieldType.int)) ∈ TB := mt_3 (List.mem_of_getElem? (i := 95) rfl) rfl
theorem m_3_78 : (Jvm.Cond.code ({ cls := "EndTeller$Stepper", name := "goToFirst", desc := "()V" } : Jvm.MethodName) prog_4_method_2_code (1 : Nat) (Option.none : Option Jvm.ClassFile.FieldType)) ∈ TB := mt_3 (List.mem_of_getElem? (i := 78) rfl) rfl
theorem m_3_108 : (Jvm.Cond.code ({ cls := "EndTeller$Stepper", name := "goToNext", desc := "()V" } : Jvm.MethodName) prog_4_method_3_code (2 : Nat) (Option.none : Option Jvm.ClassFile.FieldType)) ∈ TB := mt_3 (List.mem_of_getElem? (i := 108) rfl) rfl
theorem m_3_100 : (Jvm.Cond.code ({ cls := "EndTeller$Stepper", name := "product", desc := "()I" } : Jvm.MethodName) prog_4_method_5_code (3 : Nat) (Option.some Jvm.ClassFile.FieldType.int)) ∈ TB := mt_3 (List.mem_of_getElem? (i := 100) rfl) rfl
theorem m_3_87 : (Jvm.Cond.code ({ cls := "EndTeller$Stepper", name := "stepThrough", desc := "(I)I" } : Jvm.MethodName) prog_4_method_6_code (4 : Nat) (Option.some Jvm.ClassFile.FieldType.int)) ∈ TB := mt_3 (List.mem_of_getElem? (i := 87) rfl) rfl
theorem m_3_83 : (Jvm.Cond.code ({ cls := "EndTeller$Stepper", name := "takeCauses", desc := "()V" } : Jvm.MethodName) prog_4_method_4_code (3 : Nat) (Option.none : Option Jvm.ClassFile.FieldType)) ∈ TB := mt_3 (List.mem_of_getElem? (i := 83) rfl) rfl
theorem m_1_3 : (Jvm.Cond.initialized "EndTeller$Table") ∈ TB := mt_1 (List.mem_of_getElem? (i := 3) rfl) rfl
theorem m_2_160 : (Jvm.Cond.code ({ cls := "EndTeller$Table", name := "add", desc := "(IJ)V" } : Jvm.MethodName) prog_5_method_3_code (4 : Nat) (Option.none : Option Jvm.ClassFile.FieldType)) ∈ TB := mt_2 (List.mem_of_getElem? (i := 160) rfl) rfl
theorem m_2_207 : (Jvm.Cond.code ({ cls := "EndTeller$Table", name := "addOnce", desc := "(LEndTeller$Part;J)V" } : Jvm.MethodName) prog_5_method_4_code (5 : Nat) (Option.none : Option Jvm.ClassFile.FieldType)) ∈ TB := mt_2 (List.mem_of_getElem? (i := 207) rfl) rfl
theorem m_2_216 : (Jvm.Cond.code ({ cls := "EndTeller$Table", name := "addTwice", desc := "(LEndTeller$Part;J)V" } : Jvm.MethodName) prog_5_method_5_code (6 : Nat) (Option.none : Option Jvm.ClassFile.FieldType)) ∈ TB := mt_2 (List.mem_of_getElem? (i := 216) rfl) rfl
theorem m_2_155 : (Jvm.Cond.code ({ cls := "EndTeller$Table", name := "empty", desc := "()V" } : Jvm.MethodName) prog_5_method_2_code (1 : Nat) (Option.none : Option Jvm.ClassFile.FieldType)) ∈ TB := mt_2 (List.mem_of_getElem? (i := 155) rfl) rfl
theorem m_2_175 : (Jvm.Cond.code ({ cls := "EndTeller$Table", name := "fits", desc := "()Z" } : Jvm.MethodName) prog_5_method_7_code (3 : Nat) (Option.some Jvm.ClassFile.FieldType.boolean)) ∈ TB := mt_2 (List.mem_of_getElem? (i := 175) rfl) rfl
theorem m_2_168 : (Jvm.Cond.code ({ cls := "EndTeller$Table", name := "makeLess", desc := "()V" } : Jvm.MethodName) prog_5_method_6_code (4 : Nat) (Option.none : Option Jvm.ClassFile.FieldType)) ∈ TB := mt_2 (List.mem_of_getElem? (i := 168) rfl) rfl
theorem m_1_8 : (Jvm.Cond.initialized "EndTeller$Tellings") ∈ TB := mt_1 (List.mem_of_getElem? (i := 8) rfl) rfl
theorem m_3_228 : (Jvm.Cond.code ({ cls := "EndTeller$Tellings", name := "add", desc := "(IIZ)V" } : Jvm.MethodName) prog_6_method_2_code (5 : Nat) (Option.none : Option Jvm.ClassFile.FieldType)) ∈ TB := mt_3 (List.mem_of_getElem? (i := 228) rfl) rfl
theorem m_1_9 : (Jvm.Cond.initialized "EndTeller$Tray") ∈ TB := mt_1 (List.mem_of_getElem? (i := 9) rfl) rfl
theorem m_2_113 : (Jvm.Cond.code ({ cls := "EndTeller$Tray", name := "cut", desc := "(J)J" } : Jvm.MethodName) prog_7_method_8_code (3 : Nat) (Option.some Jvm.ClassFile.FieldType.long)) ∈ TB := mt_2 (List.mem_of_getElem? (i := 113) rfl) rfl
theorem m_2_104 : (Jvm.Cond.code ({ cls := "EndTeller$Tray", name := "has", desc := "(I)Z" } : Jvm.MethodName) prog_7_method_4_code (2 : Nat) (Option.some Jvm.ClassFile.FieldType.boolean)) ∈ TB := mt_2 (List.mem_of_getElem? (i := 104) rfl) rfl
theorem m_2_133 : (Jvm.Cond.code ({ cls := "EndTeller$Tray", name := "hasRun", desc := "(II)Z" } : Jvm.MethodName) prog_7_method_5_code (3 : Nat) (Option.some Jvm.ClassFile.FieldType.boolean)) ∈ TB := mt_2 (List.mem_of_getElem? (i := 133) rfl) rfl
theorem m_2_147 : (Jvm.Cond.code ({ cls := "EndTeller$Tray", name := "holdsRows", desc := "(I)Z" } : Jvm.MethodName) prog_7_method_9_code (9 : Nat) (Option.some Jvm.ClassFile.FieldType.boolean)) ∈ TB := mt_2 (List.mem_of_getElem? (i := 147) rfl) rfl
theorem m_2_100 : (Jvm.Cond.code ({ cls := "EndTeller$Tray", name := "isMissing", desc := "()Z" } : Jvm.MethodName) prog_7_method_2_code (1 : Nat) (Option.some Jvm.ClassFile.FieldType.boolean)) ∈ TB := mt_2 (List.mem_of_getElem? (i := 100) rfl) rfl
theorem m_2_81 : (Jvm.Cond.code ({ cls := "EndTeller$Tray", name := "layOut", desc := "(II)V" } : Jvm.MethodName) prog_7_method_3_code (3 : Nat) (Option.none : Option Jvm.ClassFile.FieldType)) ∈ TB := mt_2 (List.mem_of_getElem? (i := 81) rfl) rfl
theorem m_2_125 : (Jvm.Cond.code ({ cls := "EndTeller$Tray", name := "numberAt", desc := "(I)J" } : Jvm.MethodName) prog_7_method_6_code (2 : Nat) (Option.some Jvm.ClassFile.FieldType.long)) ∈ TB := mt_2 (List.mem_of_getElem? (i := 125) rfl) rfl
theorem m_2_108 : (Jvm.Cond.code ({ cls := "EndTeller$Tray", name := "put", desc := "(IJ)V" } : Jvm.MethodName) prog_7_method_7_code (4 : Nat) (Option.none : Option Jvm.ClassFile.FieldType)) ∈ TB := mt_2 (List.mem_of_getElem? (i := 108) rfl) rfl
theorem m_1_4 : (Jvm.Cond.initialized "EndTeller$Ways") ∈ TB := mt_1 (List.mem_of_getElem? (i := 4) rfl) rfl
theorem m_3_150 : (Jvm.Cond.code ({ cls := "EndTeller$Ways", name := "emptyDays", desc := "()V" } : Jvm.MethodName) prog_8_method_12_code (2 : Nat) (Option.none : Option Jvm.ClassFile.FieldType)) ∈ TB := mt_3 (List.mem_of_getElem? (i := 150) rfl) rfl
theorem m_3_154 : (Jvm.Cond.code ({ cls := "EndTeller$Ways", name := "gather", desc := "(I)V" } : Jvm.MethodName) prog_8_method_13_code (3 : Nat) (Option.none : Option Jvm.ClassFile.FieldType)) ∈ TB := mt_3 (List.mem_of_getElem? (i := 154) rfl) rfl
theorem m_3_146 : (Jvm.Cond.code ({ cls := "EndTeller$Ways", name := "gatherAll", desc := "()V" } : Jvm.MethodName) prog_8_method_10_code (2 : Nat) (Option.none : Option Jvm.ClassFile.FieldType)) ∈ TB := mt_3 (List.mem_of_getElem? (i := 146) rfl) rfl
theorem m_3_185 : (Jvm.Cond.code ({ cls := "EndTeller$Ways", name := "gatherRow", desc := "(II)V" } : Jvm.MethodName) prog_8_method_11_code (7 : Nat) (Option.none : Option Jvm.ClassFile.FieldType)) ∈ TB := mt_3 (List.mem_of_getElem? (i := 185) rfl) rfl
theorem m_3_116 : (Jvm.Cond.code ({ cls := "EndTeller$Ways", name := "isLeft", desc := "(I)Z" } : Jvm.MethodName) prog_8_method_4_code (2 : Nat) (Option.some Jvm.ClassFile.FieldType.boolean)) ∈ TB := mt_3 (List.mem_of_getElem? (i := 116) rfl) rfl
theorem m_3_142 : (Jvm.Cond.code ({ cls := "EndTeller$Ways", name := "leastDayAtRisk", desc := "(II)I" } : Jvm.MethodName) prog_8_method_9_code (6 : Nat) (Option.some Jvm.ClassFile.FieldType.int)) ∈ TB := mt_3 (List.mem_of_getElem? (i := 142) rfl) rfl
theorem m_3_68 : (Jvm.Cond.code ({ cls := "EndTeller$Ways", name := "makeRoom", desc := "()V" } : Jvm.MethodName) prog_8_method_3_code (2 : Nat) (Option.none : Option Jvm.ClassFile.FieldType)) ∈ TB := mt_3 (List.mem_of_getElem? (i := 68) rfl) rfl
theorem m_3_63 : (Jvm.Cond.code ({ cls := "EndTeller$Ways", name := "refresh", desc := "()V" } : Jvm.MethodName) prog_8_method_2_code (5 : Nat) (Option.none : Option Jvm.ClassFile.FieldType)) ∈ TB := mt_3 (List.mem_of_getElem? (i := 63) rfl) rfl
theorem m_3_171 : (Jvm.Cond.code ({ cls := "EndTeller$Ways", name := "sumApart", desc := "()J" } : Jvm.MethodName) prog_8_method_14_code (6 : Nat) (Option.some Jvm.ClassFile.FieldType.long)) ∈ TB := mt_3 (List.mem_of_getElem? (i := 171) rfl) rfl
theorem m_3_162 : (Jvm.Cond.code ({ cls := "EndTeller$Ways", name := "sumOfEnds", desc := "()J" } : Jvm.MethodName) prog_8_method_6_code (4 : Nat) (Option.some Jvm.ClassFile.FieldType.long)) ∈ TB := mt_3 (List.mem_of_getElem? (i := 162) rfl) rfl
theorem m_3_180 : (Jvm.Cond.code ({ cls := "EndTeller$Ways", name := "sumRest", desc := "(ILEndTeller$Fraction;)Z" } : Jvm.MethodName) prog_8_method_15_code (4 : Nat) (Option.some Jvm.ClassFile.FieldType.boolean)) ∈ TB := mt_3 (List.mem_of_getElem? (i := 180) rfl) rfl
theorem m_3_112 : (Jvm.Cond.code ({ cls := "EndTeller$Ways", name := "weightEndingBy", desc := "(I)J" } : Jvm.MethodName) prog_8_method_5_code (5 : Nat) (Option.some Jvm.ClassFile.FieldType.long)) ∈ TB := mt_3 (List.mem_of_getElem? (i := 112) rfl) rfl
theorem m_3_209 : (Jvm.Cond.code ({ cls := "EndTeller$Ways", name := "weightMovedBy", desc := "(I)J" } : Jvm.MethodName) prog_8_method_8_code (5 : Nat) (Option.some Jvm.ClassFile.FieldType.long)) ∈ TB := mt_3 (List.mem_of_getElem? (i := 209) rfl) rfl
theorem m_3_133 : (Jvm.Cond.code ({ cls := "EndTeller$Ways", name := "weightWithPartBy", desc := "(II)J" } : Jvm.MethodName) prog_8_method_7_code (6 : Nat) (Option.some Jvm.ClassFile.FieldType.long)) ∈ TB := mt_3 (List.mem_of_getElem? (i := 133) rfl) rfl
theorem m_1_6 : (Jvm.Cond.initialized "EndTeller$Work") ∈ TB := mt_1 (List.mem_of_getElem? (i := 6) rfl) rfl
theorem m_2_232 : (Jvm.Cond.code ({ cls := "EndTeller$Work", name := "addCause", desc := "(II)V" } : Jvm.MethodName) prog_9_method_5_code (3 : Nat) (Option.none : Option Jvm.ClassFile.FieldType)) ∈ TB := mt_2 (List.mem_of_getElem? (i := 232) rfl) rfl
theorem m_2_180 : (Jvm.Cond.code ({ cls := "EndTeller$Work", name := "addPart", desc := "(LEndTeller$Table;I)V" } : Jvm.MethodName) prog_9_method_4_code (3 : Nat) (Option.none : Option Jvm.ClassFile.FieldType)) ∈ TB := mt_2 (List.mem_of_getElem? (i := 180) rfl) rfl
theorem m_3_43 : (Jvm.Cond.code ({ cls := "EndTeller$Work", name := "countWays", desc := "()I" } : Jvm.MethodName) prog_9_method_8_code (1 : Nat) (Option.some Jvm.ClassFile.FieldType.int)) ∈ TB := mt_3 (List.mem_of_getElem? (i := 43) rfl) rfl
theorem m_3_8 : (Jvm.Cond.code ({ cls := "EndTeller$Work", name := "forget", desc := "()V" } : Jvm.MethodName) prog_9_method_2_code (1 : Nat) (Option.none : Option Jvm.ClassFile.FieldType)) ∈ TB := mt_3 (List.mem_of_getElem? (i := 8) rfl) rfl
theorem m_2_203 : (Jvm.Cond.code ({ cls := "EndTeller$Work", name := "hasPart", desc := "(I)Z" } : Jvm.MethodName) prog_9_method_3_code (2 : Nat) (Option.some Jvm.ClassFile.FieldType.boolean)) ∈ TB := mt_2 (List.mem_of_getElem? (i := 203) rfl) rfl
theorem m_3_38 : (Jvm.Cond.code ({ cls := "EndTeller$Work", name := "isGreat", desc := "()Z" } : Jvm.MethodName) prog_9_method_7_code (4 : Nat) (Option.some Jvm.ClassFile.FieldType.boolean)) ∈ TB := mt_3 (List.mem_of_getElem? (i := 38) rfl) rfl
theorem m_3_59 : (Jvm.Cond.code ({ cls := "EndTeller$Work", name := "isStuck", desc := "()Z" } : Jvm.MethodName) prog_9_method_6_code (2 : Nat) (Option.some Jvm.ClassFile.FieldType.boolean)) ∈ TB := mt_3 (List.mem_of_getElem? (i := 59) rfl) rfl
theorem m_3_47 : (Jvm.Cond.code ({ cls := "EndTeller$Work", name := "rowsAhead", desc := "(I)I" } : Jvm.MethodName) prog_9_method_9_code (4 : Nat) (Option.some Jvm.ClassFile.FieldType.int)) ∈ TB := mt_3 (List.mem_of_getElem? (i := 47) rfl) rfl
theorem m_1_1 : (Jvm.Cond.initialized "EndTeller") ∈ TB := mt_1 (List.mem_of_getElem? (i := 1) rfl) rfl
theorem m_2_164 : (Jvm.Cond.code ({ cls := "EndTeller", name := "addPart", desc := "(I)I" } : Jvm.MethodName) prog_1_method_39_code (2 : Nat) (Option.some Jvm.ClassFile.FieldType.int)) ∈ TB := mt_2 (List.mem_of_getElem? (i := 164) rfl) rfl
theorem m_2_143 : (Jvm.Cond.code ({ cls := "EndTeller", name := "arePartHands", desc := "(I)Z" } : Jvm.MethodName) prog_1_method_44_code (1 : Nat) (Option.some Jvm.ClassFile.FieldType.boolean)) ∈ TB := mt_2 (List.mem_of_getElem? (i := 143) rfl) rfl
theorem m_3_55 : (Jvm.Cond.code ({ cls := "EndTeller", name := "chanceTrouble", desc := "()I" } : Jvm.MethodName) prog_1_method_41_code (1 : Nat) (Option.some Jvm.ClassFile.FieldType.int)) ∈ TB := mt_3 (List.mem_of_getElem? (i := 55) rfl) rfl
theorem m_2_191 : (Jvm.Cond.code ({ cls := "EndTeller", name := "changed", desc := "()Z" } : Jvm.MethodName) prog_1_method_37_code (1 : Nat) (Option.some Jvm.ClassFile.FieldType.boolean)) ∈ TB := mt_2 (List.mem_of_getElem? (i := 191) rfl) rfl
theorem m_2_171 : (Jvm.Cond.code ({ cls := "EndTeller", name := "commonDivisor", desc := "(JJ)J" } : Jvm.MethodName) prog_1_method_46_code (11 : Nat) (Option.some Jvm.ClassFile.FieldType.long)) ∈ TB := mt_2 (List.mem_of_getElem? (i := 171) rfl) rfl
theorem m_3_216 : (Jvm.Cond.code ({ cls := "EndTeller", name := "isCameDay", desc := "(I)Z" } : Jvm.MethodName) prog_1_method_45_code (1 : Nat) (Option.some Jvm.ClassFile.FieldType.boolean)) ∈ TB := mt_3 (List.mem_of_getElem? (i := 216) rfl) rfl
theorem m_3_238 : (Jvm.Cond.code ({ cls := "EndTeller", name := "isStep", desc := "(I)Z" } : Jvm.MethodName) prog_1_method_43_code (1 : Nat) (Option.some Jvm.ClassFile.FieldType.boolean)) ∈ TB := mt_3 (List.mem_of_getElem? (i := 238) rfl) rfl
theorem m_2_73 : (Jvm.Cond.code ({ cls := "EndTeller", name := "isTray", desc := "(I)Z" } : Jvm.MethodName) prog_1_method_42_code (1 : Nat) (Option.some Jvm.ClassFile.FieldType.boolean)) ∈ TB := mt_2 (List.mem_of_getElem? (i := 73) rfl) rfl
theorem m_2_96 : (Jvm.Cond.code ({ cls := "EndTeller", name := "placeTrouble", desc := "(II)I" } : Jvm.MethodName) prog_1_method_40_code (3 : Nat) (Option.some Jvm.ClassFile.FieldType.int)) ∈ TB := mt_2 (List.mem_of_getElem? (i := 96) rfl) rfl
theorem m_2_77 : (Jvm.Cond.code ({ cls := "EndTeller", name := "refuse", desc := "(I)Z" } : Jvm.MethodName) prog_1_method_34_code (2 : Nat) (Option.some Jvm.ClassFile.FieldType.boolean)) ∈ TB := mt_2 (List.mem_of_getElem? (i := 77) rfl) rfl
theorem m_2_121 : (Jvm.Cond.code ({ cls := "EndTeller", name := "refuseNumber", desc := "(I)I" } : Jvm.MethodName) prog_1_method_35_code (2 : Nat) (Option.some Jvm.ClassFile.FieldType.int)) ∈ TB := mt_2 (List.mem_of_getElem? (i := 121) rfl) rfl
theorem m_3_120 : (Jvm.Cond.code ({ cls := "EndTeller", name := "tell", desc := "(JJ)Z" } : Jvm.MethodName) prog_1_method_38_code (5 : Nat) (Option.some Jvm.ClassFile.FieldType.boolean)) ∈ TB := mt_3 (List.mem_of_getElem? (i := 120) rfl) rfl
theorem m_2_88 : (Jvm.Cond.code ({ cls := "EndTeller", name := "well", desc := "()Z" } : Jvm.MethodName) prog_1_method_36_code (1 : Nat) (Option.some Jvm.ClassFile.FieldType.boolean)) ∈ TB := mt_2 (List.mem_of_getElem? (i := 88) rfl) rfl
theorem m_1_10 : (Jvm.Cond.initialized "EndTellerModel") ∈ TB := mt_1 (List.mem_of_getElem? (i := 10) rfl) rfl
theorem m_4_177 : (Jvm.Cond.code ({ cls := "EndTellerModel", name := "adds", desc := "(I)I" } : Jvm.MethodName) prog_11_method_15_code (7 : Nat) (Option.some Jvm.ClassFile.FieldType.int)) ∈ TB := mt_4 (List.mem_of_getElem? (i := 177) rfl) rfl
theorem m_5_73 : (Jvm.Cond.code ({ cls := "EndTellerModel", name := "apart", desc := "()J" } : Jvm.MethodName) prog_11_method_48_code (6 : Nat) (Option.some Jvm.ClassFile.FieldType.long)) ∈ TB := mt_5 (List.mem_of_getElem? (i := 73) rfl) rfl
theorem m_4_163 : (Jvm.Cond.code ({ cls := "EndTellerModel", name := "areHands", desc := "(I)Z" } : Jvm.MethodName) prog_11_method_16_code (1 : Nat) (Option.some Jvm.ClassFile.FieldType.boolean)) ∈ TB := mt_4 (List.mem_of_getElem? (i := 163) rfl) rfl
theorem m_5_34 : (Jvm.Cond.code ({ cls := "EndTellerModel", name := "areOver", desc := "(I)Z" } : Jvm.MethodName) prog_11_method_40_code (3 : Nat) (Option.some Jvm.ClassFile.FieldType.boolean)) ∈ TB := mt_5 (List.mem_of_getElem? (i := 34) rfl) rfl
theorem m_4_171 : (Jvm.Cond.code ({ cls := "EndTellerModel", name := "clearMade", desc := "()V" } : Jvm.MethodName) prog_11_method_14_code (2 : Nat) (Option.none : Option Jvm.ClassFile.FieldType)) ∈ TB := mt_4 (List.mem_of_getElem? (i := 171) rfl) rfl
theorem m_4_180 : (Jvm.Cond.code ({ cls := "EndTellerModel", name := "common", desc := "(JJ)J" } : Jvm.MethodName) prog_11_method_13_code (10 : Nat) (Option.some Jvm.ClassFile.FieldType.long)) ∈ TB := mt_4 (List.mem_of_getElem? (i := 180) rfl) rfl
theorem m_4_147 : (Jvm.Cond.code ({ cls := "EndTellerModel", name := "cut", desc := "(IJ)J" } : Jvm.MethodName) prog_11_method_6_code (3 : Nat) (Option.some Jvm.ClassFile.FieldType.long)) ∈ TB := mt_4 (List.mem_of_getElem? (i := 147) rfl) rfl
theorem m_5_26 : (Jvm.Cond.code ({ cls := "EndTellerModel", name := "firstWay", desc := "()V" } : Jvm.MethodName) prog_11_method_36_code (2 : Nat) (Option.none : Option Jvm.ClassFile.FieldType)) ∈ TB := mt_5 (List.mem_of_getElem? (i := 26) rfl) rfl
theorem m_5_5 : (Jvm.Cond.code ({ cls := "EndTellerModel", name := "isGreat", desc := "()Z" } : Jvm.MethodName) prog_11_method_33_code (4 : Nat) (Option.some Jvm.ClassFile.FieldType.boolean)) ∈ TB := mt_5 (List.mem_of_getElem? (i := 5) rfl) rfl
theorem m_5_40 : (Jvm.Cond.code ({ cls := "EndTellerModel", name := "isLeft", desc := "()Z" } : Jvm.MethodName) prog_11_method_41_code (2 : Nat) (Option.some Jvm.ClassFile.FieldType.boolean)) ∈ TB := mt_5 (List.mem_of_getElem? (i := 40) rfl) rfl
theorem m_5_90 : (Jvm.Cond.code ({ cls := "EndTellerModel", name := "isLess", desc := "(JJJJ)Z" } : Jvm.MethodName) prog_11_method_52_code (21 : Nat) (Option.some Jvm.ClassFile.FieldType.boolean)) ∈ TB := mt_5 (List.mem_of_getElem? (i := 90) rfl) rfl
theorem m_4_192 : (Jvm.Cond.code ({ cls := "EndTellerModel", name := "isPart", desc := "(I)Z" } : Jvm.MethodName) prog_11_method_19_code (2 : Nat) (Option.some Jvm.ClassFile.FieldType.boolean)) ∈ TB := mt_4 (List.mem_of_getElem? (i := 192) rfl) rfl
theorem m_5_22 : (Jvm.Cond.code ({ cls := "EndTellerModel", name := "isStuck", desc := "()Z" } : Jvm.MethodName) prog_11_method_35_code (2 : Nat) (Option.some Jvm.ClassFile.FieldType.boolean)) ∈ TB := mt_5 (List.mem_of_getElem? (i := 22) rfl) rfl
theorem m_5_82 : (Jvm.Cond.code ({ cls := "EndTellerModel", name := "known", desc := "(I)I" } : Jvm.MethodName) prog_11_method_50_code (10 : Nat) (Option.some Jvm.ClassFile.FieldType.int)) ∈ TB := mt_5 (List.mem_of_getElem? (i := 82) rfl) rfl
theorem m_5_48 : (Jvm.Cond.code ({ cls := "EndTellerModel", name := "nextWay", desc := "()Z" } : Jvm.MethodName) prog_11_method_37_code (2 : Nat) (Option.some Jvm.ClassFile.FieldType.boolean)) ∈ TB := mt_5 (List.mem_of_getElem? (i := 48) rfl) rfl
theorem m_4_132 : (Jvm.Cond.code ({ cls := "EndTellerModel", name := "no", desc := "(I)Z" } : Jvm.MethodName) prog_11_method_5_code (2 : Nat) (Option.some Jvm.ClassFile.FieldType.boolean)) ∈ TB := mt_4 (List.mem_of_getElem? (i := 132) rfl) rfl
theorem m_4_140 : (Jvm.Cond.code ({ cls := "EndTellerModel", name := "placed", desc := "(II)I" } : Jvm.MethodName) prog_11_method_9_code (4 : Nat) (Option.some Jvm.ClassFile.FieldType.int)) ∈ TB := mt_4 (List.mem_of_getElem? (i := 140) rfl) rfl
theorem m_4_167 : (Jvm.Cond.code ({ cls := "EndTellerModel", name := "refuse", desc := "(I)I" } : Jvm.MethodName) prog_11_method_4_code (2 : Nat) (Option.some Jvm.ClassFile.FieldType.int)) ∈ TB := mt_4 (List.mem_of_getElem? (i := 167) rfl) rfl
theorem m_5_30 : (Jvm.Cond.code ({ cls := "EndTellerModel", name := "step", desc := "(I)I" } : Jvm.MethodName) prog_11_method_39_code (9 : Nat) (Option.some Jvm.ClassFile.FieldType.int)) ∈ TB := mt_5 (List.mem_of_getElem? (i := 30) rfl) rfl
theorem m_5_113 : (Jvm.Cond.code ({ cls := "EndTellerModel", name := "stepOf", desc := "(II)I" } : Jvm.MethodName) prog_11_method_57_code (2 : Nat) (Option.some Jvm.ClassFile.FieldType.int)) ∈ TB := mt_5 (List.mem_of_getElem? (i := 113) rfl) rfl
theorem m_4_196 : (Jvm.Cond.code ({ cls := "EndTellerModel", name := "sumOf", desc := "(I)I" } : Jvm.MethodName) prog_11_method_20_code (4 : Nat) (Option.some Jvm.ClassFile.FieldType.int)) ∈ TB := mt_4 (List.mem_of_getElem? (i := 196) rfl) rfl
theorem m_5_18 : (Jvm.Cond.code ({ cls := "EndTellerModel", name := "sums", desc := "(III)I" } : Jvm.MethodName) prog_11_method_42_code (10 : Nat) (Option.some Jvm.ClassFile.FieldType.int)) ∈ TB := mt_5 (List.mem_of_getElem? (i := 18) rfl) rfl
theorem m_5_52 : (Jvm.Cond.code ({ cls := "EndTellerModel", name := "tells", desc := "(JJ)I" } : Jvm.MethodName) prog_11_method_30_code (7 : Nat) (Option.some Jvm.ClassFile.FieldType.int)) ∈ TB := mt_5 (List.mem_of_getElem? (i := 52) rfl) rfl
theorem m_5_14 : (Jvm.Cond.code ({ cls := "EndTellerModel", name := "tellsUpTo", desc := "(II)Z" } : Jvm.MethodName) prog_11_method_43_code (7 : Nat) (Option.some Jvm.ClassFile.FieldType.boolean)) ∈ TB := mt_5 (List.mem_of_getElem? (i := 14) rfl) rfl
theorem m_4_144 : (Jvm.Cond.code ({ cls := "EndTellerModel", name := "trayed", desc := "(I)I" } : Jvm.MethodName) prog_11_method_8_code (2 : Nat) (Option.some Jvm.ClassFile.FieldType.int)) ∈ TB := mt_4 (List.mem_of_getElem? (i := 144) rfl) rfl
theorem m_5_44 : (Jvm.Cond.code ({ cls := "EndTellerModel", name := "weightOf", desc := "()J" } : Jvm.MethodName) prog_11_method_38_code (4 : Nat) (Option.some Jvm.ClassFile.FieldType.long)) ∈ TB := mt_5 (List.mem_of_getElem? (i := 44) rfl) rfl
theorem uw_0 : ∀ w ∈ u_ws RX0 TX0 2, w ∈ TB := by
  intro w hw
  obtain ⟨k, hk, rfl⟩ := List.mem_map.mp hw
  have hk := List.mem_range.mp hk
  match k, hk with
  | 0, _ => exact m_1_36
  | 1, _ => exact m_1_38
  | k + 2, h => exact absurd h (by omega)
theorem uw_1 : ∀ w ∈ u_ws RX1 TX1 8, w ∈ TB := by
  intro w hw
  obtain ⟨k, hk, rfl⟩ := List.mem_map.mp hw
  have hk := List.mem_range.mp hk
  match k, hk with
  | 0, _ => exact m_1_110
  | 1, _ => exact m_1_112
  | 2, _ => exact m_1_114
  | 3, _ => exact m_1_116
  | 4, _ => exact m_1_118
  | 5, _ => exact m_1_120
  | 6, _ => exact m_1_122
  | 7, _ => exact m_1_124
  | k + 8, h => exact absurd h (by omega)
theorem uw_2 : ∀ w ∈ u_ws RX2 TX2 9, w ∈ TB := by
  intro w hw
  obtain ⟨k, hk, rfl⟩ := List.mem_map.mp hw
  have hk := List.mem_range.mp hk
  match k, hk with
  | 0, _ => exact m_1_174
  | 1, _ => exact m_1_176
  | 2, _ => exact m_1_178
  | 3, _ => exact m_1_180
  | 4, _ => exact m_1_182
  | 5, _ => exact m_1_184
  | 6, _ => exact m_1_186
  | 7, _ => exact m_1_188
  | 8, _ => exact m_1_190
  | k + 9, h => exact absurd h (by omega)
theorem uw_3 : ∀ w ∈ u_ws RX3 TX3 1, w ∈ TB := by
  intro w hw
  obtain ⟨k, hk, rfl⟩ := List.mem_map.mp hw
  have hk := List.mem_range.mp hk
  match k, hk with
  | 0, _ => exact m_1_51
  | k + 1, h => exact absurd h (by omega)
theorem uw_4 : ∀ w ∈ u_ws RX4 TX4 5, w ∈ TB := by
  intro w hw
  obtain ⟨k, hk, rfl⟩ := List.mem_map.mp hw
  have hk := List.mem_range.mp hk
  match k, hk with
  | 0, _ => exact m_2_6
  | 1, _ => exact m_2_8
  | 2, _ => exact m_2_10
  | 3, _ => exact m_2_12
  | 4, _ => exact m_2_14
  | k + 5, h => exact absurd h (by omega)
theorem uw_5 : ∀ w ∈ u_ws RX5 TX5 3, w ∈ TB := by
  intro w hw
  obtain ⟨k, hk, rfl⟩ := List.mem_map.mp hw
  have hk := List.mem_range.mp hk
  match k, hk with
  | 0, _ => exact m_2_28
  | 1, _ => exact m_2_30
  | 2, _ => exact m_2_32
  | k + 3, h => exact absurd h (by omega)
theorem uw_6 : ∀ w ∈ u_ws RX6 TX6 10, w ∈ TB := by
  intro w hw
  obtain ⟨k, hk, rfl⟩ := List.mem_map.mp hw
  have hk := List.mem_range.mp hk
  match k, hk with
  | 0, _ => exact m_1_206
  | 1, _ => exact m_1_208
  | 2, _ => exact m_1_210
  | 3, _ => exact m_1_212
  | 4, _ => exact m_1_214
  | 5, _ => exact m_1_216
  | 6, _ => exact m_1_218
  | 7, _ => exact m_1_220
  | 8, _ => exact m_1_222
  | 9, _ => exact m_1_224
  | k + 10, h => exact absurd h (by omega)
theorem uw_7 : ∀ w ∈ u_ws RX7 TX7 7, w ∈ TB := by
  intro w hw
  obtain ⟨k, hk, rfl⟩ := List.mem_map.mp hw
  have hk := List.mem_range.mp hk
  match k, hk with
  | 0, _ => exact m_1_148
  | 1, _ => exact m_1_150
  | 2, _ => exact m_1_152
  | 3, _ => exact m_1_154
  | 4, _ => exact m_1_156
  | 5, _ => exact m_1_158
  | 6, _ => exact m_1_160
  | k + 7, h => exact absurd h (by omega)
theorem uw_8 : ∀ w ∈ u_ws RX8 TX8 9, w ∈ TB := by
  intro w hw
  obtain ⟨k, hk, rfl⟩ := List.mem_map.mp hw
  have hk := List.mem_range.mp hk
  match k, hk with
  | 0, _ => exact m_2_44
  | 1, _ => exact m_2_46
  | 2, _ => exact m_2_48
  | 3, _ => exact m_2_50
  | 4, _ => exact m_2_52
  | 5, _ => exact m_2_54
  | 6, _ => exact m_2_56
  | 7, _ => exact m_2_58
  | 8, _ => exact m_2_60
  | k + 9, h => exact absurd h (by omega)
theorem uw_9 : ∀ w ∈ u_ws RX9 TX9 37, w ∈ TB := by
  intro w hw
  obtain ⟨k, hk, rfl⟩ := List.mem_map.mp hw
  have hk := List.mem_range.mp hk
  match k, hk with
  | 0, _ => exact m_4_46
  | 1, _ => exact m_4_48
  | 2, _ => exact m_4_50
  | 3, _ => exact m_4_52
  | 4, _ => exact m_4_54
  | 5, _ => exact m_4_56
  | 6, _ => exact m_4_58
  | 7, _ => exact m_4_60
  | 8, _ => exact m_4_62
  | 9, _ => exact m_4_64
  | 10, _ => exact m_4_66
  | 11, _ => exact m_4_68
  | 12, _ => exact m_4_70
  | 13, _ => exact m_4_72
  | 14, _ => exact m_4_74
  | 15, _ => exact m_4_76
  | 16, _ => exact m_4_78
  | 17, _ => exact m_4_80
  | 18, _ => exact m_4_82
  | 19, _ => exact m_4_84
  | 20, _ => exact m_4_86
  | 21, _ => exact m_4_88
  | 22, _ => exact m_4_90
  | 23, _ => exact m_4_92
  | 24, _ => exact m_4_94
  | 25, _ => exact m_4_96
  | 26, _ => exact m_4_98
  | 27, _ => exact m_4_100
  | 28, _ => exact m_4_102
  | 29, _ => exact m_4_104
  | 30, _ => exact m_4_106
  | 31, _ => exact m_4_108
  | 32, _ => exact m_4_110
  | 33, _ => exact m_4_112
  | 34, _ => exact m_4_114
  | 35, _ => exact m_4_116
  | 36, _ => exact m_4_118
  | k + 37, h => exact absurd h (by omega)
theorem fl_X8_9 : FL RX8 9 8 0 .int false := ⟨RX8, TX8, 9, tyX8, rfl, by decide, m_2_35, uw_8, rfl, tyX8_ok 0 (by decide), tyX8_ok, nmX8, rfl⟩
theorem fl_X8_16 : FL RX8 16 8 1 (.object "EndTeller$Fraction") true := ⟨RX8, TX8, 9, tyX8, rfl, by decide, m_2_36, uw_8, rfl, tyX8_ok 1 (by decide), tyX8_ok, nmX8, rfl⟩
theorem fl_X8_20 : FL RX8 20 8 2 (.object "EndTeller$Fraction") true := ⟨RX8, TX8, 9, tyX8, rfl, by decide, m_2_37, uw_8, rfl, tyX8_ok 2 (by decide), tyX8_ok, nmX8, rfl⟩
theorem fl_X8_23 : FL RX8 23 8 3 (.object "EndTeller$Fraction") true := ⟨RX8, TX8, 9, tyX8, rfl, by decide, m_2_38, uw_8, rfl, tyX8_ok 3 (by decide), tyX8_ok, nmX8, rfl⟩
theorem fl_X8_28 : FL RX8 28 8 4 (.array (.object "EndTeller$Tray")) true := ⟨RX8, TX8, 9, tyX8, rfl, by decide, m_2_39, uw_8, rfl, tyX8_ok 4 (by decide), tyX8_ok, nmX8, rfl⟩
theorem fl_X8_35 : FL RX8 35 8 5 (.object "EndTeller$Table") true := ⟨RX8, TX8, 9, tyX8, rfl, by decide, m_2_40, uw_8, rfl, tyX8_ok 5 (by decide), tyX8_ok, nmX8, rfl⟩
theorem fl_X8_42 : FL RX8 42 8 6 (.object "EndTeller$Ways") true := ⟨RX8, TX8, 9, tyX8, rfl, by decide, m_2_41, uw_8, rfl, tyX8_ok 6 (by decide), tyX8_ok, nmX8, rfl⟩
theorem fl_X8_50 : FL RX8 50 8 7 (.object "EndTeller$Work") true := ⟨RX8, TX8, 9, tyX8, rfl, by decide, m_2_42, uw_8, rfl, tyX8_ok 7 (by decide), tyX8_ok, nmX8, rfl⟩
theorem fl_X8_54 : FL RX8 54 8 8 (.object "EndTeller$Tellings") true := ⟨RX8, TX8, 9, tyX8, rfl, by decide, m_2_43, uw_8, rfl, tyX8_ok 8 (by decide), tyX8_ok, nmX8, rfl⟩
theorem fl_X8_93 : FL RX8 93 5 1 .int false := ⟨RX5, TX5, 3, tyX5, rfl, by decide, m_2_26, uw_5, rfl, tyX5_ok 1 (by decide), tyX5_ok, nmX5, rfl⟩
theorem fl_X8_100 : FL RX8 100 5 0 (.array (.long)) true := ⟨RX5, TX5, 3, tyX5, rfl, by decide, m_2_24, uw_5, rfl, tyX5_ok 0 (by decide), tyX5_ok, nmX5, rfl⟩
theorem fl_X8_130 : FL RX8 130 7 0 (.array (.object "EndTeller$Part")) true := ⟨RX7, TX7, 7, tyX7, rfl, by decide, m_1_130, uw_7, rfl, tyX7_ok 0 (by decide), tyX7_ok, nmX7, rfl⟩
theorem fl_X8_134 : FL RX8 134 1 4 .int false := ⟨RX1, TX1, 8, tyX1, rfl, by decide, m_1_99, uw_1, rfl, tyX1_ok 4 (by decide), tyX1_ok, nmX1, rfl⟩
theorem fl_X8_153 : FL RX8 153 7 4 .int false := ⟨RX7, TX7, 7, tyX7, rfl, by decide, m_1_141, uw_7, rfl, tyX7_ok 4 (by decide), tyX7_ok, nmX7, rfl⟩
theorem fl_X8_159 : FL RX8 159 1 2 (.array (.int)) true := ⟨RX1, TX1, 8, tyX1, rfl, by decide, m_1_90, uw_1, rfl, tyX1_ok 2 (by decide), tyX1_ok, nmX1, rfl⟩
theorem fl_X8_163 : FL RX8 163 7 5 .int false := ⟨RX7, TX7, 7, tyX7, rfl, by decide, m_1_144, uw_7, rfl, tyX7_ok 5 (by decide), tyX7_ok, nmX7, rfl⟩
theorem fl_X8_169 : FL RX8 169 1 3 .int false := ⟨RX1, TX1, 8, tyX1, rfl, by decide, m_1_96, uw_1, rfl, tyX1_ok 3 (by decide), tyX1_ok, nmX1, rfl⟩
theorem fl_X8_172 : FL RX8 172 1 5 .int false := ⟨RX1, TX1, 8, tyX1, rfl, by decide, m_1_103, uw_1, rfl, tyX1_ok 5 (by decide), tyX1_ok, nmX1, rfl⟩
theorem fl_X8_175 : FL RX8 175 1 6 .int false := ⟨RX1, TX1, 8, tyX1, rfl, by decide, m_1_106, uw_1, rfl, tyX1_ok 6 (by decide), tyX1_ok, nmX1, rfl⟩
theorem fl_X8_183 : FL RX8 183 1 7 .int false := ⟨RX1, TX1, 8, tyX1, rfl, by decide, m_1_109, uw_1, rfl, tyX1_ok 7 (by decide), tyX1_ok, nmX1, rfl⟩
theorem fl_X8_186 : FL RX8 186 1 0 (.array (.int)) true := ⟨RX1, TX1, 8, tyX1, rfl, by decide, m_1_83, uw_1, rfl, tyX1_ok 0 (by decide), tyX1_ok, nmX1, rfl⟩
theorem fl_X8_189 : FL RX8 189 1 1 (.array (.int)) true := ⟨RX1, TX1, 8, tyX1, rfl, by decide, m_1_87, uw_1, rfl, tyX1_ok 1 (by decide), tyX1_ok, nmX1, rfl⟩
theorem fl_X8_192 : FL RX8 192 0 0 .long false := ⟨RX0, TX0, 2, tyX0, rfl, by decide, m_1_31, uw_0, rfl, tyX0_ok 0 (by decide), tyX0_ok, nmX0, rfl⟩
theorem fl_X8_196 : FL RX8 196 0 1 .long false := ⟨RX0, TX0, 2, tyX0, rfl, by decide, m_1_35, uw_0, rfl, tyX0_ok 1 (by decide), tyX0_ok, nmX0, rfl⟩
theorem fl_X8_212 : FL RX8 212 6 8 .long false := ⟨RX6, TX6, 10, tyX6, rfl, by decide, m_1_204, uw_6, rfl, tyX6_ok 8 (by decide), tyX6_ok, nmX6, rfl⟩
theorem fl_X8_241 : FL RX8 241 7 3 .int false := ⟨RX7, TX7, 7, tyX7, rfl, by decide, m_1_138, uw_7, rfl, tyX7_ok 3 (by decide), tyX7_ok, nmX7, rfl⟩
theorem fl_X8_258 : FL RX8 258 7 6 .int false := ⟨RX7, TX7, 7, tyX7, rfl, by decide, m_1_147, uw_7, rfl, tyX7_ok 6 (by decide), tyX7_ok, nmX7, rfl⟩
theorem fl_X8_261 : FL RX8 261 4 4 .int false := ⟨RX4, TX4, 5, tyX4, rfl, by decide, m_2_5, uw_4, rfl, tyX4_ok 4 (by decide), tyX4_ok, nmX4, rfl⟩
theorem fl_X8_268 : FL RX8 268 4 0 (.array (.int)) true := ⟨RX4, TX4, 5, tyX4, rfl, by decide, m_1_237, uw_4, rfl, tyX4_ok 0 (by decide), tyX4_ok, nmX4, rfl⟩
theorem fl_X8_271 : FL RX8 271 4 1 (.array (.int)) true := ⟨RX4, TX4, 5, tyX4, rfl, by decide, m_1_239, uw_4, rfl, tyX4_ok 1 (by decide), tyX4_ok, nmX4, rfl⟩
theorem fl_X8_274 : FL RX8 274 4 3 (.array (.boolean)) true := ⟨RX4, TX4, 5, tyX4, rfl, by decide, m_2_3, uw_4, rfl, tyX4_ok 3 (by decide), tyX4_ok, nmX4, rfl⟩
theorem fl_X8_278 : FL RX8 278 4 2 (.array (.object "EndTeller$Fraction")) true := ⟨RX4, TX4, 5, tyX4, rfl, by decide, m_2_1, uw_4, rfl, tyX4_ok 2 (by decide), tyX4_ok, nmX4, rfl⟩
theorem fl_X8_282 : FL RX8 282 6 5 .boolean false := ⟨RX6, TX6, 10, tyX6, rfl, by decide, m_1_200, uw_6, rfl, tyX6_ok 5 (by decide), tyX6_ok, nmX6, rfl⟩
theorem fl_X0_7 : FL RX0 7 0 0 .long false := ⟨RX0, TX0, 2, tyX0, rfl, by decide, m_1_29, uw_0, rfl, tyX0_ok 0 (by decide), tyX0_ok, nmX0, rfl⟩
theorem fl_X0_13 : FL RX0 13 0 1 .long false := ⟨RX0, TX0, 2, tyX0, rfl, by decide, m_1_32, uw_0, rfl, tyX0_ok 1 (by decide), tyX0_ok, nmX0, rfl⟩
theorem fl_X1_9 : FL RX1 9 1 0 (.array (.int)) true := ⟨RX1, TX1, 8, tyX1, rfl, by decide, m_1_80, uw_1, rfl, tyX1_ok 0 (by decide), tyX1_ok, nmX1, rfl⟩
theorem fl_X1_15 : FL RX1 15 1 1 (.array (.int)) true := ⟨RX1, TX1, 8, tyX1, rfl, by decide, m_1_84, uw_1, rfl, tyX1_ok 1 (by decide), tyX1_ok, nmX1, rfl⟩
theorem fl_X1_18 : FL RX1 18 1 2 (.array (.int)) true := ⟨RX1, TX1, 8, tyX1, rfl, by decide, m_1_88, uw_1, rfl, tyX1_ok 2 (by decide), tyX1_ok, nmX1, rfl⟩
theorem fl_X1_21 : FL RX1 21 1 3 .int false := ⟨RX1, TX1, 8, tyX1, rfl, by decide, m_1_91, uw_1, rfl, tyX1_ok 3 (by decide), tyX1_ok, nmX1, rfl⟩
theorem fl_X1_25 : FL RX1 25 1 4 .int false := ⟨RX1, TX1, 8, tyX1, rfl, by decide, m_1_97, uw_1, rfl, tyX1_ok 4 (by decide), tyX1_ok, nmX1, rfl⟩
theorem fl_X1_28 : FL RX1 28 1 5 .int false := ⟨RX1, TX1, 8, tyX1, rfl, by decide, m_1_100, uw_1, rfl, tyX1_ok 5 (by decide), tyX1_ok, nmX1, rfl⟩
theorem fl_X1_31 : FL RX1 31 1 6 .int false := ⟨RX1, TX1, 8, tyX1, rfl, by decide, m_1_104, uw_1, rfl, tyX1_ok 6 (by decide), tyX1_ok, nmX1, rfl⟩
theorem fl_X1_34 : FL RX1 34 1 7 .int false := ⟨RX1, TX1, 8, tyX1, rfl, by decide, m_1_107, uw_1, rfl, tyX1_ok 7 (by decide), tyX1_ok, nmX1, rfl⟩
theorem fl_X1_43 : FL RX1 43 3 0 (.array (.long)) true := ⟨RX3, TX3, 1, tyX3, rfl, by decide, m_1_50, uw_3, rfl, tyX3_ok 0 (by decide), tyX3_ok, nmX3, rfl⟩
theorem fl_X2_12 : FL RX2 12 2 0 (.object "EndTeller$Work") true := ⟨RX2, TX2, 9, tyX2, rfl, by decide, m_1_163, uw_2, rfl, tyX2_ok 0 (by decide), tyX2_ok, nmX2, rfl⟩
theorem fl_X2_18 : FL RX2 18 2 1 (.array (.int)) true := ⟨RX2, TX2, 9, tyX2, rfl, by decide, m_1_165, uw_2, rfl, tyX2_ok 1 (by decide), tyX2_ok, nmX2, rfl⟩
theorem fl_X2_22 : FL RX2 22 2 2 (.array (.int)) true := ⟨RX2, TX2, 9, tyX2, rfl, by decide, m_1_166, uw_2, rfl, tyX2_ok 2 (by decide), tyX2_ok, nmX2, rfl⟩
theorem fl_X2_25 : FL RX2 25 2 3 (.array (.int)) true := ⟨RX2, TX2, 9, tyX2, rfl, by decide, m_1_167, uw_2, rfl, tyX2_ok 3 (by decide), tyX2_ok, nmX2, rfl⟩
theorem fl_X2_28 : FL RX2 28 2 4 .int false := ⟨RX2, TX2, 9, tyX2, rfl, by decide, m_1_169, uw_2, rfl, tyX2_ok 4 (by decide), tyX2_ok, nmX2, rfl⟩
theorem fl_X2_32 : FL RX2 32 2 5 .int false := ⟨RX2, TX2, 9, tyX2, rfl, by decide, m_1_170, uw_2, rfl, tyX2_ok 5 (by decide), tyX2_ok, nmX2, rfl⟩
theorem fl_X2_35 : FL RX2 35 2 6 .int false := ⟨RX2, TX2, 9, tyX2, rfl, by decide, m_1_171, uw_2, rfl, tyX2_ok 6 (by decide), tyX2_ok, nmX2, rfl⟩
theorem fl_X2_38 : FL RX2 38 2 7 .int false := ⟨RX2, TX2, 9, tyX2, rfl, by decide, m_1_172, uw_2, rfl, tyX2_ok 7 (by decide), tyX2_ok, nmX2, rfl⟩
theorem fl_X2_41 : FL RX2 41 2 8 .int false := ⟨RX2, TX2, 9, tyX2, rfl, by decide, m_1_173, uw_2, rfl, tyX2_ok 8 (by decide), tyX2_ok, nmX2, rfl⟩
theorem fl_X2_53 : FL RX2 53 7 3 .int false := ⟨RX7, TX7, 7, tyX7, rfl, by decide, m_1_137, uw_7, rfl, tyX7_ok 3 (by decide), tyX7_ok, nmX7, rfl⟩
theorem fl_X2_56 : FL RX2 56 7 0 (.array (.object "EndTeller$Part")) true := ⟨RX7, TX7, 7, tyX7, rfl, by decide, m_1_129, uw_7, rfl, tyX7_ok 0 (by decide), tyX7_ok, nmX7, rfl⟩
theorem fl_X2_60 : FL RX2 60 1 3 .int false := ⟨RX1, TX1, 8, tyX1, rfl, by decide, m_1_92, uw_1, rfl, tyX1_ok 3 (by decide), tyX1_ok, nmX1, rfl⟩
theorem fl_X2_65 : FL RX2 65 7 4 .int false := ⟨RX7, TX7, 7, tyX7, rfl, by decide, m_1_140, uw_7, rfl, tyX7_ok 4 (by decide), tyX7_ok, nmX7, rfl⟩
theorem fl_X2_68 : FL RX2 68 7 2 (.array (.int)) true := ⟨RX7, TX7, 7, tyX7, rfl, by decide, m_1_135, uw_7, rfl, tyX7_ok 2 (by decide), tyX7_ok, nmX7, rfl⟩
theorem fl_X2_71 : FL RX2 71 7 1 (.array (.int)) true := ⟨RX7, TX7, 7, tyX7, rfl, by decide, m_1_133, uw_7, rfl, tyX7_ok 1 (by decide), tyX7_ok, nmX7, rfl⟩
theorem fl_X2_74 : FL RX2 74 1 2 (.array (.int)) true := ⟨RX1, TX1, 8, tyX1, rfl, by decide, m_1_89, uw_1, rfl, tyX1_ok 2 (by decide), tyX1_ok, nmX1, rfl⟩
theorem fl_X2_77 : FL RX2 77 1 1 (.array (.int)) true := ⟨RX1, TX1, 8, tyX1, rfl, by decide, m_1_86, uw_1, rfl, tyX1_ok 1 (by decide), tyX1_ok, nmX1, rfl⟩
theorem fl_X2_80 : FL RX2 80 7 5 .int false := ⟨RX7, TX7, 7, tyX7, rfl, by decide, m_1_143, uw_7, rfl, tyX7_ok 5 (by decide), tyX7_ok, nmX7, rfl⟩
theorem fl_X2_91 : FL RX2 91 1 6 .int false := ⟨RX1, TX1, 8, tyX1, rfl, by decide, m_1_105, uw_1, rfl, tyX1_ok 6 (by decide), tyX1_ok, nmX1, rfl⟩
theorem fl_X2_94 : FL RX2 94 1 5 .int false := ⟨RX1, TX1, 8, tyX1, rfl, by decide, m_1_102, uw_1, rfl, tyX1_ok 5 (by decide), tyX1_ok, nmX1, rfl⟩
theorem fl_X2_97 : FL RX2 97 1 0 (.array (.int)) true := ⟨RX1, TX1, 8, tyX1, rfl, by decide, m_1_82, uw_1, rfl, tyX1_ok 0 (by decide), tyX1_ok, nmX1, rfl⟩
theorem fl_X2_101 : FL RX2 101 1 7 .int false := ⟨RX1, TX1, 8, tyX1, rfl, by decide, m_1_108, uw_1, rfl, tyX1_ok 7 (by decide), tyX1_ok, nmX1, rfl⟩
theorem fl_X2_104 : FL RX2 104 7 6 .int false := ⟨RX7, TX7, 7, tyX7, rfl, by decide, m_1_146, uw_7, rfl, tyX7_ok 6 (by decide), tyX7_ok, nmX7, rfl⟩
theorem fl_X3_9 : FL RX3 9 3 0 (.array (.long)) true := ⟨RX3, TX3, 1, tyX3, rfl, by decide, m_1_49, uw_3, rfl, tyX3_ok 0 (by decide), tyX3_ok, nmX3, rfl⟩
theorem fl_X3_21 : FL RX3 21 1 3 .int false := ⟨RX1, TX1, 8, tyX1, rfl, by decide, m_1_93, uw_1, rfl, tyX1_ok 3 (by decide), tyX1_ok, nmX1, rfl⟩
theorem fl_X3_27 : FL RX3 27 1 0 (.array (.int)) true := ⟨RX1, TX1, 8, tyX1, rfl, by decide, m_1_81, uw_1, rfl, tyX1_ok 0 (by decide), tyX1_ok, nmX1, rfl⟩
theorem fl_X3_31 : FL RX3 31 1 1 (.array (.int)) true := ⟨RX1, TX1, 8, tyX1, rfl, by decide, m_1_85, uw_1, rfl, tyX1_ok 1 (by decide), tyX1_ok, nmX1, rfl⟩
theorem fl_X4_9 : FL RX4 9 4 0 (.array (.int)) true := ⟨RX4, TX4, 5, tyX4, rfl, by decide, m_1_236, uw_4, rfl, tyX4_ok 0 (by decide), tyX4_ok, nmX4, rfl⟩
theorem fl_X4_15 : FL RX4 15 4 1 (.array (.int)) true := ⟨RX4, TX4, 5, tyX4, rfl, by decide, m_1_238, uw_4, rfl, tyX4_ok 1 (by decide), tyX4_ok, nmX4, rfl⟩
theorem fl_X4_20 : FL RX4 20 4 2 (.array (.object "EndTeller$Fraction")) true := ⟨RX4, TX4, 5, tyX4, rfl, by decide, m_2_0, uw_4, rfl, tyX4_ok 2 (by decide), tyX4_ok, nmX4, rfl⟩
theorem fl_X4_24 : FL RX4 24 4 3 (.array (.boolean)) true := ⟨RX4, TX4, 5, tyX4, rfl, by decide, m_2_2, uw_4, rfl, tyX4_ok 3 (by decide), tyX4_ok, nmX4, rfl⟩
theorem fl_X4_28 : FL RX4 28 4 4 .int false := ⟨RX4, TX4, 5, tyX4, rfl, by decide, m_2_4, uw_4, rfl, tyX4_ok 4 (by decide), tyX4_ok, nmX4, rfl⟩
theorem fl_X4_43 : FL RX4 43 0 0 .long false := ⟨RX0, TX0, 2, tyX0, rfl, by decide, m_1_30, uw_0, rfl, tyX0_ok 0 (by decide), tyX0_ok, nmX0, rfl⟩
theorem fl_X4_49 : FL RX4 49 0 1 .long false := ⟨RX0, TX0, 2, tyX0, rfl, by decide, m_1_33, uw_0, rfl, tyX0_ok 1 (by decide), tyX0_ok, nmX0, rfl⟩
theorem fl_X5_9 : FL RX5 9 5 0 (.array (.long)) true := ⟨RX5, TX5, 3, tyX5, rfl, by decide, m_2_23, uw_5, rfl, tyX5_ok 0 (by decide), tyX5_ok, nmX5, rfl⟩
theorem fl_X5_15 : FL RX5 15 5 1 .int false := ⟨RX5, TX5, 3, tyX5, rfl, by decide, m_2_25, uw_5, rfl, tyX5_ok 1 (by decide), tyX5_ok, nmX5, rfl⟩
theorem fl_X5_19 : FL RX5 19 5 2 .int false := ⟨RX5, TX5, 3, tyX5, rfl, by decide, m_2_27, uw_5, rfl, tyX5_ok 2 (by decide), tyX5_ok, nmX5, rfl⟩
theorem fl_X6_12 : FL RX6 12 6 0 (.object "EndTeller$Stepper") true := ⟨RX6, TX6, 10, tyX6, rfl, by decide, m_1_193, uw_6, rfl, tyX6_ok 0 (by decide), tyX6_ok, nmX6, rfl⟩
theorem fl_X6_22 : FL RX6 22 6 1 (.object "EndTeller$Work") true := ⟨RX6, TX6, 10, tyX6, rfl, by decide, m_1_194, uw_6, rfl, tyX6_ok 1 (by decide), tyX6_ok, nmX6, rfl⟩
theorem fl_X6_23 : FL RX6 23 6 2 (.array (.int)) true := ⟨RX6, TX6, 10, tyX6, rfl, by decide, m_1_196, uw_6, rfl, tyX6_ok 2 (by decide), tyX6_ok, nmX6, rfl⟩
theorem fl_X6_27 : FL RX6 27 6 3 (.array (.int)) false := ⟨RX6, TX6, 10, tyX6, rfl, by decide, m_1_197, uw_6, rfl, tyX6_ok 3 (by decide), tyX6_ok, nmX6, rfl⟩
theorem fl_X6_30 : FL RX6 30 6 4 (.array (.int)) false := ⟨RX6, TX6, 10, tyX6, rfl, by decide, m_1_198, uw_6, rfl, tyX6_ok 4 (by decide), tyX6_ok, nmX6, rfl⟩
theorem fl_X6_33 : FL RX6 33 6 5 .boolean false := ⟨RX6, TX6, 10, tyX6, rfl, by decide, m_1_199, uw_6, rfl, tyX6_ok 5 (by decide), tyX6_ok, nmX6, rfl⟩
theorem fl_X6_37 : FL RX6 37 6 6 .int false := ⟨RX6, TX6, 10, tyX6, rfl, by decide, m_1_201, uw_6, rfl, tyX6_ok 6 (by decide), tyX6_ok, nmX6, rfl⟩
theorem fl_X6_41 : FL RX6 41 6 7 .int false := ⟨RX6, TX6, 10, tyX6, rfl, by decide, m_1_202, uw_6, rfl, tyX6_ok 7 (by decide), tyX6_ok, nmX6, rfl⟩
theorem fl_X6_44 : FL RX6 44 6 8 .long false := ⟨RX6, TX6, 10, tyX6, rfl, by decide, m_1_203, uw_6, rfl, tyX6_ok 8 (by decide), tyX6_ok, nmX6, rfl⟩
theorem fl_X6_48 : FL RX6 48 6 9 .long false := ⟨RX6, TX6, 10, tyX6, rfl, by decide, m_1_205, uw_6, rfl, tyX6_ok 9 (by decide), tyX6_ok, nmX6, rfl⟩
theorem fl_X6_90 : FL RX6 90 2 3 (.array (.int)) true := ⟨RX2, TX2, 9, tyX2, rfl, by decide, m_1_168, uw_2, rfl, tyX2_ok 3 (by decide), tyX2_ok, nmX2, rfl⟩
theorem fl_X6_106 : FL RX6 106 7 0 (.array (.object "EndTeller$Part")) true := ⟨RX7, TX7, 7, tyX7, rfl, by decide, m_1_131, uw_7, rfl, tyX7_ok 0 (by decide), tyX7_ok, nmX7, rfl⟩
theorem fl_X6_110 : FL RX6 110 1 3 .int false := ⟨RX1, TX1, 8, tyX1, rfl, by decide, m_1_95, uw_1, rfl, tyX1_ok 3 (by decide), tyX1_ok, nmX1, rfl⟩
theorem fl_X6_134 : FL RX6 134 0 1 .long false := ⟨RX0, TX0, 2, tyX0, rfl, by decide, m_1_34, uw_0, rfl, tyX0_ok 1 (by decide), tyX0_ok, nmX0, rfl⟩
theorem fl_X7_11 : FL RX7 11 7 0 (.array (.object "EndTeller$Part")) true := ⟨RX7, TX7, 7, tyX7, rfl, by decide, m_1_128, uw_7, rfl, tyX7_ok 0 (by decide), tyX7_ok, nmX7, rfl⟩
theorem fl_X7_17 : FL RX7 17 7 1 (.array (.int)) true := ⟨RX7, TX7, 7, tyX7, rfl, by decide, m_1_132, uw_7, rfl, tyX7_ok 1 (by decide), tyX7_ok, nmX7, rfl⟩
theorem fl_X7_21 : FL RX7 21 7 2 (.array (.int)) true := ⟨RX7, TX7, 7, tyX7, rfl, by decide, m_1_134, uw_7, rfl, tyX7_ok 2 (by decide), tyX7_ok, nmX7, rfl⟩
theorem fl_X7_24 : FL RX7 24 7 3 .int false := ⟨RX7, TX7, 7, tyX7, rfl, by decide, m_1_136, uw_7, rfl, tyX7_ok 3 (by decide), tyX7_ok, nmX7, rfl⟩
theorem fl_X7_28 : FL RX7 28 7 4 .int false := ⟨RX7, TX7, 7, tyX7, rfl, by decide, m_1_139, uw_7, rfl, tyX7_ok 4 (by decide), tyX7_ok, nmX7, rfl⟩
theorem fl_X7_31 : FL RX7 31 7 5 .int false := ⟨RX7, TX7, 7, tyX7, rfl, by decide, m_1_142, uw_7, rfl, tyX7_ok 5 (by decide), tyX7_ok, nmX7, rfl⟩
theorem fl_X7_34 : FL RX7 34 7 6 .int false := ⟨RX7, TX7, 7, tyX7, rfl, by decide, m_1_145, uw_7, rfl, tyX7_ok 6 (by decide), tyX7_ok, nmX7, rfl⟩
theorem fl_X7_42 : FL RX7 42 1 5 .int false := ⟨RX1, TX1, 8, tyX1, rfl, by decide, m_1_101, uw_1, rfl, tyX1_ok 5 (by decide), tyX1_ok, nmX1, rfl⟩
theorem fl_X7_45 : FL RX7 45 1 4 .int false := ⟨RX1, TX1, 8, tyX1, rfl, by decide, m_1_98, uw_1, rfl, tyX1_ok 4 (by decide), tyX1_ok, nmX1, rfl⟩
theorem fl_X7_54 : FL RX7 54 1 3 .int false := ⟨RX1, TX1, 8, tyX1, rfl, by decide, m_1_94, uw_1, rfl, tyX1_ok 3 (by decide), tyX1_ok, nmX1, rfl⟩
theorem fl_X9_7 : FL RX9 7 9 3 .long false := ⟨RX9, TX9, 37, tyX9, rfl, by decide, m_4_12, uw_9, rfl, tyX9_ok 3 (by decide), tyX9_ok, nmX9, rfl⟩
theorem fl_X9_13 : FL RX9 13 9 4 (.array (.int)) true := ⟨RX9, TX9, 37, tyX9, rfl, by decide, m_4_13, uw_9, rfl, tyX9_ok 4 (by decide), tyX9_ok, nmX9, rfl⟩
theorem fl_X9_17 : FL RX9 17 9 5 (.array (.int)) true := ⟨RX9, TX9, 37, tyX9, rfl, by decide, m_4_14, uw_9, rfl, tyX9_ok 5 (by decide), tyX9_ok, nmX9, rfl⟩
theorem fl_X9_20 : FL RX9 20 9 6 (.array (.long)) true := ⟨RX9, TX9, 37, tyX9, rfl, by decide, m_4_15, uw_9, rfl, tyX9_ok 6 (by decide), tyX9_ok, nmX9, rfl⟩
theorem fl_X9_24 : FL RX9 24 9 9 .int false := ⟨RX9, TX9, 37, tyX9, rfl, by decide, m_4_18, uw_9, rfl, tyX9_ok 9 (by decide), tyX9_ok, nmX9, rfl⟩
theorem fl_X9_28 : FL RX9 28 9 10 .int false := ⟨RX9, TX9, 37, tyX9, rfl, by decide, m_4_19, uw_9, rfl, tyX9_ok 10 (by decide), tyX9_ok, nmX9, rfl⟩
theorem fl_X9_31 : FL RX9 31 9 11 (.array (.int)) true := ⟨RX9, TX9, 37, tyX9, rfl, by decide, m_4_20, uw_9, rfl, tyX9_ok 11 (by decide), tyX9_ok, nmX9, rfl⟩
theorem fl_X9_34 : FL RX9 34 9 12 (.array (.int)) true := ⟨RX9, TX9, 37, tyX9, rfl, by decide, m_4_21, uw_9, rfl, tyX9_ok 12 (by decide), tyX9_ok, nmX9, rfl⟩
theorem fl_X9_37 : FL RX9 37 9 13 (.array (.int)) true := ⟨RX9, TX9, 37, tyX9, rfl, by decide, m_4_22, uw_9, rfl, tyX9_ok 13 (by decide), tyX9_ok, nmX9, rfl⟩
theorem fl_X9_40 : FL RX9 40 9 14 (.array (.int)) true := ⟨RX9, TX9, 37, tyX9, rfl, by decide, m_4_23, uw_9, rfl, tyX9_ok 14 (by decide), tyX9_ok, nmX9, rfl⟩
theorem fl_X9_43 : FL RX9 43 9 15 (.array (.int)) true := ⟨RX9, TX9, 37, tyX9, rfl, by decide, m_4_24, uw_9, rfl, tyX9_ok 15 (by decide), tyX9_ok, nmX9, rfl⟩
theorem fl_X9_46 : FL RX9 46 9 16 (.array (.int)) true := ⟨RX9, TX9, 37, tyX9, rfl, by decide, m_4_25, uw_9, rfl, tyX9_ok 16 (by decide), tyX9_ok, nmX9, rfl⟩
theorem fl_X9_49 : FL RX9 49 9 17 (.array (.int)) true := ⟨RX9, TX9, 37, tyX9, rfl, by decide, m_4_26, uw_9, rfl, tyX9_ok 17 (by decide), tyX9_ok, nmX9, rfl⟩
theorem fl_X9_52 : FL RX9 52 9 18 (.array (.int)) true := ⟨RX9, TX9, 37, tyX9, rfl, by decide, m_4_27, uw_9, rfl, tyX9_ok 18 (by decide), tyX9_ok, nmX9, rfl⟩
theorem fl_X9_55 : FL RX9 55 9 19 (.array (.int)) true := ⟨RX9, TX9, 37, tyX9, rfl, by decide, m_4_28, uw_9, rfl, tyX9_ok 19 (by decide), tyX9_ok, nmX9, rfl⟩
theorem fl_X9_58 : FL RX9 58 9 20 (.array (.long)) true := ⟨RX9, TX9, 37, tyX9, rfl, by decide, m_4_29, uw_9, rfl, tyX9_ok 20 (by decide), tyX9_ok, nmX9, rfl⟩
theorem fl_X9_61 : FL RX9 61 9 21 (.array (.int)) true := ⟨RX9, TX9, 37, tyX9, rfl, by decide, m_4_30, uw_9, rfl, tyX9_ok 21 (by decide), tyX9_ok, nmX9, rfl⟩
theorem fl_X9_64 : FL RX9 64 9 22 (.array (.int)) true := ⟨RX9, TX9, 37, tyX9, rfl, by decide, m_4_31, uw_9, rfl, tyX9_ok 22 (by decide), tyX9_ok, nmX9, rfl⟩
theorem fl_X9_67 : FL RX9 67 9 23 (.array (.int)) true := ⟨RX9, TX9, 37, tyX9, rfl, by decide, m_4_32, uw_9, rfl, tyX9_ok 23 (by decide), tyX9_ok, nmX9, rfl⟩
theorem fl_X9_70 : FL RX9 70 9 24 (.array (.boolean)) true := ⟨RX9, TX9, 37, tyX9, rfl, by decide, m_4_33, uw_9, rfl, tyX9_ok 24 (by decide), tyX9_ok, nmX9, rfl⟩
theorem fl_X9_74 : FL RX9 74 9 25 (.array (.long)) true := ⟨RX9, TX9, 37, tyX9, rfl, by decide, m_4_34, uw_9, rfl, tyX9_ok 25 (by decide), tyX9_ok, nmX9, rfl⟩
theorem fl_X9_80 : FL RX9 80 9 28 (.array (.int)) true := ⟨RX9, TX9, 37, tyX9, rfl, by decide, m_4_37, uw_9, rfl, tyX9_ok 28 (by decide), tyX9_ok, nmX9, rfl⟩
theorem fl_X9_83 : FL RX9 83 9 29 (.array (.int)) true := ⟨RX9, TX9, 37, tyX9, rfl, by decide, m_4_38, uw_9, rfl, tyX9_ok 29 (by decide), tyX9_ok, nmX9, rfl⟩
theorem fl_X9_86 : FL RX9 86 9 30 (.array (.boolean)) true := ⟨RX9, TX9, 37, tyX9, rfl, by decide, m_4_39, uw_9, rfl, tyX9_ok 30 (by decide), tyX9_ok, nmX9, rfl⟩
theorem fl_X9_89 : FL RX9 89 9 31 (.array (.boolean)) true := ⟨RX9, TX9, 37, tyX9, rfl, by decide, m_4_40, uw_9, rfl, tyX9_ok 31 (by decide), tyX9_ok, nmX9, rfl⟩
theorem fl_X9_92 : FL RX9 92 9 32 (.array (.boolean)) true := ⟨RX9, TX9, 37, tyX9, rfl, by decide, m_4_41, uw_9, rfl, tyX9_ok 32 (by decide), tyX9_ok, nmX9, rfl⟩
theorem fl_X9_95 : FL RX9 95 9 1 .int false := ⟨RX9, TX9, 37, tyX9, rfl, by decide, m_4_10, uw_9, rfl, tyX9_ok 1 (by decide), tyX9_ok, nmX9, rfl⟩
theorem fl_X9_98 : FL RX9 98 9 0 .int false := ⟨RX9, TX9, 37, tyX9, rfl, by decide, m_4_9, uw_9, rfl, tyX9_ok 0 (by decide), tyX9_ok, nmX9, rfl⟩
theorem fl_X9_119 : FL RX9 119 9 7 .int false := ⟨RX9, TX9, 37, tyX9, rfl, by decide, m_4_16, uw_9, rfl, tyX9_ok 7 (by decide), tyX9_ok, nmX9, rfl⟩
theorem fl_X9_148 : FL RX9 148 9 8 .int false := ⟨RX9, TX9, 37, tyX9, rfl, by decide, m_4_17, uw_9, rfl, tyX9_ok 8 (by decide), tyX9_ok, nmX9, rfl⟩
theorem fl_X9_156 : FL RX9 156 9 2 .long false := ⟨RX9, TX9, 37, tyX9, rfl, by decide, m_4_11, uw_9, rfl, tyX9_ok 2 (by decide), tyX9_ok, nmX9, rfl⟩
theorem fl_X9_177 : FL RX9 177 9 33 .long false := ⟨RX9, TX9, 37, tyX9, rfl, by decide, m_4_42, uw_9, rfl, tyX9_ok 33 (by decide), tyX9_ok, nmX9, rfl⟩
theorem fl_X9_214 : FL RX9 214 9 34 .long false := ⟨RX9, TX9, 37, tyX9, rfl, by decide, m_4_43, uw_9, rfl, tyX9_ok 34 (by decide), tyX9_ok, nmX9, rfl⟩
theorem fl_X9_217 : FL RX9 217 9 35 .long false := ⟨RX9, TX9, 37, tyX9, rfl, by decide, m_4_44, uw_9, rfl, tyX9_ok 35 (by decide), tyX9_ok, nmX9, rfl⟩
theorem fl_X9_220 : FL RX9 220 9 36 .long false := ⟨RX9, TX9, 37, tyX9, rfl, by decide, m_4_45, uw_9, rfl, tyX9_ok 36 (by decide), tyX9_ok, nmX9, rfl⟩
theorem fl_X9_232 : FL RX9 232 9 27 .int false := ⟨RX9, TX9, 37, tyX9, rfl, by decide, m_4_36, uw_9, rfl, tyX9_ok 27 (by decide), tyX9_ok, nmX9, rfl⟩
theorem cw_J6_bitCount_0f7a4 : CWd yJ6_bitCount_0f7a4 cJ6_bitCount_0f7a4 1 (some .int) 1 := ⟨m_1_13, m_3_15, by decide +kernel⟩
theorem cw_J7_fill_53178 : CWd yJ7_fill_53178 cJ7_fill_53178 4 none 2 := ⟨m_1_11, m_2_187, by decide +kernel⟩
theorem cw_J7_fill_d0a16 : CWd yJ7_fill_d0a16 cJ7_fill_d0a16 5 none 2 := ⟨m_1_11, m_2_84, by decide +kernel⟩
theorem cw_X0_add : CWd yX0_add cX0_add 5 none 2 := ⟨m_1_2, m_3_191, by decide +kernel⟩
theorem cw_X0_become : CWd yX0_become cX0_become 7 none 2 := ⟨m_1_2, m_3_124, by decide +kernel⟩
theorem cw_X0_isLessThan : CWd yX0_isLessThan cX0_isLessThan 6 (some .boolean) 1 := ⟨m_1_2, m_3_201, by decide +kernel⟩
theorem cw_X1_become : CWd yX1_become cX1_become 4 none 2 := ⟨m_1_7, m_2_184, by decide +kernel⟩
theorem cw_X1_setNeed : CWd yX1_setNeed cX1_setNeed 3 none 2 := ⟨m_1_7, m_2_224, by decide +kernel⟩
theorem cw_X2_agreesWithWhatCame : CWd yX2_agreesWithWhatCame cX2_agreesWithWhatCame 3 (some .boolean) 0 := ⟨m_1_5, m_3_104, by decide +kernel⟩
theorem cw_X2_beginOn : CWd yX2_beginOn cX2_beginOn 7 none 2 := ⟨m_1_5, m_3_91, by decide +kernel⟩
theorem cw_X2_endNext : CWd yX2_endNext cX2_endNext 6 (some .int) 0 := ⟨m_1_5, m_3_95, by decide +kernel⟩
theorem cw_X2_goToFirst : CWd yX2_goToFirst cX2_goToFirst 1 none 0 := ⟨m_1_5, m_3_78, by decide +kernel⟩
theorem cw_X2_goToNext : CWd yX2_goToNext cX2_goToNext 2 none 0 := ⟨m_1_5, m_3_108, by decide +kernel⟩
theorem cw_X2_product : CWd yX2_product cX2_product 3 (some .int) 0 := ⟨m_1_5, m_3_100, by decide +kernel⟩
theorem cw_X2_stepThrough : CWd yX2_stepThrough cX2_stepThrough 4 (some .int) 1 := ⟨m_1_5, m_3_87, by decide +kernel⟩
theorem cw_X2_takeCauses : CWd yX2_takeCauses cX2_takeCauses 3 none 0 := ⟨m_1_5, m_3_83, by decide +kernel⟩
theorem cw_X3_add : CWd yX3_add cX3_add 4 none 2 := ⟨m_1_3, m_2_160, by decide +kernel⟩
theorem cw_X3_addOnce : CWd yX3_addOnce cX3_addOnce 5 none 2 := ⟨m_1_3, m_2_207, by decide +kernel⟩
theorem cw_X3_addTwice : CWd yX3_addTwice cX3_addTwice 6 none 2 := ⟨m_1_3, m_2_216, by decide +kernel⟩
theorem cw_X3_empty : CWd yX3_empty cX3_empty 1 none 0 := ⟨m_1_3, m_2_155, by decide +kernel⟩
theorem cw_X3_fits : CWd yX3_fits cX3_fits 3 (some .boolean) 0 := ⟨m_1_3, m_2_175, by decide +kernel⟩
theorem cw_X3_makeLess : CWd yX3_makeLess cX3_makeLess 4 none 0 := ⟨m_1_3, m_2_168, by decide +kernel⟩
theorem cw_X4_add : CWd yX4_add cX4_add 5 none 3 := ⟨m_1_8, m_3_228, by decide +kernel⟩
theorem cw_X5_cut : CWd yX5_cut cX5_cut 3 (some .long) 1 := ⟨m_1_9, m_2_113, by decide +kernel⟩
theorem cw_X5_has : CWd yX5_has cX5_has 2 (some .boolean) 1 := ⟨m_1_9, m_2_104, by decide +kernel⟩
theorem cw_X5_hasRun : CWd yX5_hasRun cX5_hasRun 3 (some .boolean) 2 := ⟨m_1_9, m_2_133, by decide +kernel⟩
theorem cw_X5_holdsRows : CWd yX5_holdsRows cX5_holdsRows 9 (some .boolean) 1 := ⟨m_1_9, m_2_147, by decide +kernel⟩
theorem cw_X5_isMissing : CWd yX5_isMissing cX5_isMissing 1 (some .boolean) 0 := ⟨m_1_9, m_2_100, by decide +kernel⟩
theorem cw_X5_layOut : CWd yX5_layOut cX5_layOut 3 none 2 := ⟨m_1_9, m_2_81, by decide +kernel⟩
theorem cw_X5_numberAt : CWd yX5_numberAt cX5_numberAt 2 (some .long) 1 := ⟨m_1_9, m_2_125, by decide +kernel⟩
theorem cw_X5_put : CWd yX5_put cX5_put 4 none 2 := ⟨m_1_9, m_2_108, by decide +kernel⟩
theorem cw_X6_emptyDays : CWd yX6_emptyDays cX6_emptyDays 2 none 0 := ⟨m_1_4, m_3_150, by decide +kernel⟩
theorem cw_X6_gather : CWd yX6_gather cX6_gather 3 none 1 := ⟨m_1_4, m_3_154, by decide +kernel⟩
theorem cw_X6_gatherAll : CWd yX6_gatherAll cX6_gatherAll 2 none 0 := ⟨m_1_4, m_3_146, by decide +kernel⟩
theorem cw_X6_gatherRow : CWd yX6_gatherRow cX6_gatherRow 7 none 2 := ⟨m_1_4, m_3_185, by decide +kernel⟩
theorem cw_X6_isLeft : CWd yX6_isLeft cX6_isLeft 2 (some .boolean) 1 := ⟨m_1_4, m_3_116, by decide +kernel⟩
theorem cw_X6_leastDayAtRisk : CWd yX6_leastDayAtRisk cX6_leastDayAtRisk 6 (some .int) 2 := ⟨m_1_4, m_3_142, by decide +kernel⟩
theorem cw_X6_makeRoom : CWd yX6_makeRoom cX6_makeRoom 2 none 0 := ⟨m_1_4, m_3_68, by decide +kernel⟩
theorem cw_X6_refresh : CWd yX6_refresh cX6_refresh 5 none 0 := ⟨m_1_4, m_3_63, by decide +kernel⟩
theorem cw_X6_sumApart : CWd yX6_sumApart cX6_sumApart 6 (some .long) 0 := ⟨m_1_4, m_3_171, by decide +kernel⟩
theorem cw_X6_sumOfEnds : CWd yX6_sumOfEnds cX6_sumOfEnds 4 (some .long) 0 := ⟨m_1_4, m_3_162, by decide +kernel⟩
theorem cw_X6_sumRest : CWd yX6_sumRest cX6_sumRest 4 (some .boolean) 2 := ⟨m_1_4, m_3_180, by decide +kernel⟩
theorem cw_X6_weightEndingBy : CWd yX6_weightEndingBy cX6_weightEndingBy 5 (some .long) 1 := ⟨m_1_4, m_3_112, by decide +kernel⟩
theorem cw_X6_weightMovedBy : CWd yX6_weightMovedBy cX6_weightMovedBy 5 (some .long) 1 := ⟨m_1_4, m_3_209, by decide +kernel⟩
theorem cw_X6_weightWithPartBy : CWd yX6_weightWithPartBy cX6_weightWithPartBy 6 (some .long) 2 := ⟨m_1_4, m_3_133, by decide +kernel⟩
theorem cw_X7_addCause : CWd yX7_addCause cX7_addCause 3 none 2 := ⟨m_1_6, m_2_232, by decide +kernel⟩
theorem cw_X7_addPart : CWd yX7_addPart cX7_addPart 3 none 2 := ⟨m_1_6, m_2_180, by decide +kernel⟩
theorem cw_X7_countWays : CWd yX7_countWays cX7_countWays 1 (some .int) 0 := ⟨m_1_6, m_3_43, by decide +kernel⟩
theorem cw_X7_forget : CWd yX7_forget cX7_forget 1 none 0 := ⟨m_1_6, m_3_8, by decide +kernel⟩
theorem cw_X7_hasPart : CWd yX7_hasPart cX7_hasPart 2 (some .boolean) 1 := ⟨m_1_6, m_2_203, by decide +kernel⟩
theorem cw_X7_isGreat : CWd yX7_isGreat cX7_isGreat 4 (some .boolean) 0 := ⟨m_1_6, m_3_38, by decide +kernel⟩
theorem cw_X7_isStuck : CWd yX7_isStuck cX7_isStuck 2 (some .boolean) 0 := ⟨m_1_6, m_3_59, by decide +kernel⟩
theorem cw_X7_rowsAhead : CWd yX7_rowsAhead cX7_rowsAhead 4 (some .int) 1 := ⟨m_1_6, m_3_47, by decide +kernel⟩
theorem cw_X8_addPart : CWd yX8_addPart cX8_addPart 2 (some .int) 1 := ⟨m_1_1, m_2_164, by decide +kernel⟩
theorem cw_X8_arePartHands : CWd yX8_arePartHands cX8_arePartHands 1 (some .boolean) 1 := ⟨m_1_1, m_2_143, by decide +kernel⟩
theorem cw_X8_chanceTrouble : CWd yX8_chanceTrouble cX8_chanceTrouble 1 (some .int) 0 := ⟨m_1_1, m_3_55, by decide +kernel⟩
theorem cw_X8_changed : CWd yX8_changed cX8_changed 1 (some .boolean) 0 := ⟨m_1_1, m_2_191, by decide +kernel⟩
theorem cw_X8_commonDivisor : CWd yX8_commonDivisor cX8_commonDivisor 11 (some .long) 2 := ⟨m_1_1, m_2_171, by decide +kernel⟩
theorem cw_X8_isCameDay : CWd yX8_isCameDay cX8_isCameDay 1 (some .boolean) 1 := ⟨m_1_1, m_3_216, by decide +kernel⟩
theorem cw_X8_isStep : CWd yX8_isStep cX8_isStep 1 (some .boolean) 1 := ⟨m_1_1, m_3_238, by decide +kernel⟩
theorem cw_X8_isTray : CWd yX8_isTray cX8_isTray 1 (some .boolean) 1 := ⟨m_1_1, m_2_73, by decide +kernel⟩
theorem cw_X8_placeTrouble : CWd yX8_placeTrouble cX8_placeTrouble 3 (some .int) 2 := ⟨m_1_1, m_2_96, by decide +kernel⟩
theorem cw_X8_refuse : CWd yX8_refuse cX8_refuse 2 (some .boolean) 1 := ⟨m_1_1, m_2_77, by decide +kernel⟩
theorem cw_X8_refuseNumber : CWd yX8_refuseNumber cX8_refuseNumber 2 (some .int) 1 := ⟨m_1_1, m_2_121, by decide +kernel⟩
theorem cw_X8_tell : CWd yX8_tell cX8_tell 5 (some .boolean) 2 := ⟨m_1_1, m_3_120, by decide +kernel⟩
theorem cw_X8_well : CWd yX8_well cX8_well 1 (some .boolean) 0 := ⟨m_1_1, m_2_88, by decide +kernel⟩
theorem cw_X9_adds : CWd yX9_adds cX9_adds 7 (some .int) 1 := ⟨m_1_10, m_4_177, by decide +kernel⟩
theorem cw_X9_apart : CWd yX9_apart cX9_apart 6 (some .long) 0 := ⟨m_1_10, m_5_73, by decide +kernel⟩
theorem cw_X9_areHands : CWd yX9_areHands cX9_areHands 1 (some .boolean) 1 := ⟨m_1_10, m_4_163, by decide +kernel⟩
theorem cw_X9_areOver : CWd yX9_areOver cX9_areOver 3 (some .boolean) 1 := ⟨m_1_10, m_5_34, by decide +kernel⟩
theorem cw_X9_clearMade : CWd yX9_clearMade cX9_clearMade 2 none 0 := ⟨m_1_10, m_4_171, by decide +kernel⟩
theorem cw_X9_common : CWd yX9_common cX9_common 10 (some .long) 2 := ⟨m_1_10, m_4_180, by decide +kernel⟩
theorem cw_X9_cut : CWd yX9_cut cX9_cut 3 (some .long) 2 := ⟨m_1_10, m_4_147, by decide +kernel⟩
theorem cw_X9_firstWay : CWd yX9_firstWay cX9_firstWay 2 none 0 := ⟨m_1_10, m_5_26, by decide +kernel⟩
theorem cw_X9_isGreat : CWd yX9_isGreat cX9_isGreat 4 (some .boolean) 0 := ⟨m_1_10, m_5_5, by decide +kernel⟩
theorem cw_X9_isLeft : CWd yX9_isLeft cX9_isLeft 2 (some .boolean) 0 := ⟨m_1_10, m_5_40, by decide +kernel⟩
theorem cw_X9_isLess : CWd yX9_isLess cX9_isLess 21 (some .boolean) 4 := ⟨m_1_10, m_5_90, by decide +kernel⟩
theorem cw_X9_isPart : CWd yX9_isPart cX9_isPart 2 (some .boolean) 1 := ⟨m_1_10, m_4_192, by decide +kernel⟩
theorem cw_X9_isStuck : CWd yX9_isStuck cX9_isStuck 2 (some .boolean) 0 := ⟨m_1_10, m_5_22, by decide +kernel⟩
theorem cw_X9_known : CWd yX9_known cX9_known 10 (some .int) 1 := ⟨m_1_10, m_5_82, by decide +kernel⟩
theorem cw_X9_nextWay : CWd yX9_nextWay cX9_nextWay 2 (some .boolean) 0 := ⟨m_1_10, m_5_48, by decide +kernel⟩
theorem cw_X9_no : CWd yX9_no cX9_no 2 (some .boolean) 1 := ⟨m_1_10, m_4_132, by decide +kernel⟩
theorem cw_X9_placed : CWd yX9_placed cX9_placed 4 (some .int) 2 := ⟨m_1_10, m_4_140, by decide +kernel⟩
theorem cw_X9_refuse : CWd yX9_refuse cX9_refuse 2 (some .int) 1 := ⟨m_1_10, m_4_167, by decide +kernel⟩
theorem cw_X9_step : CWd yX9_step cX9_step 9 (some .int) 1 := ⟨m_1_10, m_5_30, by decide +kernel⟩
theorem cw_X9_stepOf : CWd yX9_stepOf cX9_stepOf 2 (some .int) 2 := ⟨m_1_10, m_5_113, by decide +kernel⟩
theorem cw_X9_sumOf : CWd yX9_sumOf cX9_sumOf 4 (some .int) 1 := ⟨m_1_10, m_4_196, by decide +kernel⟩
theorem cw_X9_sums : CWd yX9_sums cX9_sums 10 (some .int) 3 := ⟨m_1_10, m_5_18, by decide +kernel⟩
theorem cw_X9_tells : CWd yX9_tells cX9_tells 7 (some .int) 2 := ⟨m_1_10, m_5_52, by decide +kernel⟩
theorem cw_X9_tellsUpTo : CWd yX9_tellsUpTo cX9_tellsUpTo 7 (some .boolean) 2 := ⟨m_1_10, m_5_14, by decide +kernel⟩
theorem cw_X9_trayed : CWd yX9_trayed cX9_trayed 2 (some .int) 1 := ⟨m_1_10, m_4_144, by decide +kernel⟩
theorem cw_X9_weightOf : CWd yX9_weightOf cX9_weightOf 4 (some .long) 0 := ⟨m_1_10, m_5_44, by decide +kernel⟩
theorem pn_J6 : plainName RJ6 = true := by decide +kernel
theorem pn_J7 : plainName RJ7 = true := by decide +kernel
theorem pn_X0 : plainName RX0 = true := by decide +kernel
theorem pn_X1 : plainName RX1 = true := by decide +kernel
theorem pn_X2 : plainName RX2 = true := by decide +kernel
theorem pn_X3 : plainName RX3 = true := by decide +kernel
theorem pn_X4 : plainName RX4 = true := by decide +kernel
theorem pn_X5 : plainName RX5 = true := by decide +kernel
theorem pn_X6 : plainName RX6 = true := by decide +kernel
theorem pn_X7 : plainName RX7 = true := by decide +kernel
theorem pn_X8 : plainName RX8 = true := by decide +kernel
theorem pn_X9 : plainName RX9 = true := by decide +kernel
