theorem k_1_4 : Cond.initialized "TransputerNet$Memory" ∈ xG := xG_t1 (List.mem_of_getElem? (i := 4) (by decide +kernel)) (by decide +kernel)
theorem k_1_5 : Cond.initialized "TransputerNet$Registers" ∈ xG := xG_t1 (List.mem_of_getElem? (i := 5) (by decide +kernel)) (by decide +kernel)
theorem k_1_6 : Cond.initialized "TransputerNet$Queue" ∈ xG := xG_t1 (List.mem_of_getElem? (i := 6) (by decide +kernel)) (by decide +kernel)
theorem k_1_7 : Cond.initialized "TransputerNet$Timers" ∈ xG := xG_t1 (List.mem_of_getElem? (i := 7) (by decide +kernel)) (by decide +kernel)
theorem k_1_9 : Cond.initialized "TransputerNet$End" ∈ xG := xG_t1 (List.mem_of_getElem? (i := 9) (by decide +kernel)) (by decide +kernel)
theorem k_1_40 : Cond.methodLink "TransputerNet$Core" 3 Lib.objectInit ∈ xG := xG_t1 (List.mem_of_getElem? (i := 40) (by decide +kernel)) (by decide +kernel)
theorem k_1_41 : Cond.classLink "TransputerNet$Core" (9 : Nat) "TransputerNet$Memory" ∈ xG := xG_t1 (List.mem_of_getElem? (i := 41) (by decide +kernel)) (by decide +kernel)
theorem k_1_42 : Cond.instantiable "TransputerNet$Memory" (2 : Nat) ∈ xG := xG_t1 (List.mem_of_getElem? (i := 42) (by decide +kernel)) (by decide +kernel)
theorem k_1_46 : Cond.methodLink "TransputerNet$Memory" 3 Lib.objectInit ∈ xG := xG_t1 (List.mem_of_getElem? (i := 46) (by decide +kernel)) (by decide +kernel)
theorem k_1_55 : Cond.arrayClass FieldType.long ∈ xG := xG_t1 (List.mem_of_getElem? (i := 55) (by decide +kernel)) (by decide +kernel)
theorem k_1_56 : Cond.classLink "TransputerNet$Core" (18 : Nat) "TransputerNet$Registers" ∈ xG := xG_t1 (List.mem_of_getElem? (i := 56) (by decide +kernel)) (by decide +kernel)
theorem k_1_57 : Cond.instantiable "TransputerNet$Registers" (8 : Nat) ∈ xG := xG_t1 (List.mem_of_getElem? (i := 57) (by decide +kernel)) (by decide +kernel)
theorem k_1_61 : Cond.methodLink "TransputerNet$Registers" 3 Lib.objectInit ∈ xG := xG_t1 (List.mem_of_getElem? (i := 61) (by decide +kernel)) (by decide +kernel)
theorem k_1_106 : Cond.classLink "TransputerNet$Core" (28 : Nat) "TransputerNet$Queue" ∈ xG := xG_t1 (List.mem_of_getElem? (i := 106) (by decide +kernel)) (by decide +kernel)
theorem k_1_107 : Cond.instantiable "TransputerNet$Queue" (2 : Nat) ∈ xG := xG_t1 (List.mem_of_getElem? (i := 107) (by decide +kernel)) (by decide +kernel)
theorem k_1_111 : Cond.methodLink "TransputerNet$Queue" 3 Lib.objectInit ∈ xG := xG_t1 (List.mem_of_getElem? (i := 111) (by decide +kernel)) (by decide +kernel)
theorem k_1_116 : Cond.fieldLink "TransputerNet$Queue" 16 (TX8 1).1 (TX8 1).2.1 (TX8 1).2.2.1 ∈ xG := xG_t1 (List.mem_of_getElem? (i := 116) (by decide +kernel)) (by decide +kernel)
theorem k_1_124 : Cond.classLink "TransputerNet$Core" (38 : Nat) "TransputerNet$Timers" ∈ xG := xG_t1 (List.mem_of_getElem? (i := 124) (by decide +kernel)) (by decide +kernel)
theorem k_1_125 : Cond.instantiable "TransputerNet$Timers" (5 : Nat) ∈ xG := xG_t1 (List.mem_of_getElem? (i := 125) (by decide +kernel)) (by decide +kernel)
theorem k_1_129 : Cond.methodLink "TransputerNet$Timers" 3 Lib.objectInit ∈ xG := xG_t1 (List.mem_of_getElem? (i := 129) (by decide +kernel)) (by decide +kernel)
theorem k_1_147 : Cond.arrayClass FieldType.int ∈ xG := xG_t1 (List.mem_of_getElem? (i := 147) (by decide +kernel)) (by decide +kernel)
theorem k_1_213 : Cond.methodLink "TransputerNet$Link" 3 Lib.objectInit ∈ xG := xG_t1 (List.mem_of_getElem? (i := 213) (by decide +kernel)) (by decide +kernel)
theorem k_1_214 : Cond.classLink "TransputerNet$Link" (9 : Nat) "TransputerNet$End" ∈ xG := xG_t1 (List.mem_of_getElem? (i := 214) (by decide +kernel)) (by decide +kernel)
theorem k_1_215 : Cond.instantiable "TransputerNet$End" (10 : Nat) ∈ xG := xG_t1 (List.mem_of_getElem? (i := 215) (by decide +kernel)) (by decide +kernel)
theorem k_1_219 : Cond.methodLink "TransputerNet$End" 3 Lib.objectInit ∈ xG := xG_t1 (List.mem_of_getElem? (i := 219) (by decide +kernel)) (by decide +kernel)
theorem k_2_71 : Cond.methodLink "TransputerNet$Channels" 3 Lib.objectInit ∈ xG := xG_t2 (List.mem_of_getElem? (i := 71) (by decide +kernel)) (by decide +kernel)
theorem k_2_88 : Cond.methodLink "TransputerNet$Processor" 3 Lib.objectInit ∈ xG := xG_t2 (List.mem_of_getElem? (i := 88) (by decide +kernel)) (by decide +kernel)
theorem k_2_105 : Cond.methodLink "TransputerNet$Node" 3 Lib.objectInit ∈ xG := xG_t2 (List.mem_of_getElem? (i := 105) (by decide +kernel)) (by decide +kernel)
theorem k_2_110 : Cond.fieldLink "TransputerNet$Node" 30 (TX6 2).1 (TX6 2).2.1 (TX6 2).2.2.1 ∈ xG := xG_t2 (List.mem_of_getElem? (i := 110) (by decide +kernel)) (by decide +kernel)
theorem k_2_143 : Cond.methodLink "TransputerNet$Host" 3 Lib.objectInit ∈ xG := xG_t2 (List.mem_of_getElem? (i := 143) (by decide +kernel)) (by decide +kernel)
theorem k_2_144 : Cond.classLink "TransputerNet$Host" (9 : Nat) "TransputerNet$End" ∈ xG := xG_t2 (List.mem_of_getElem? (i := 144) (by decide +kernel)) (by decide +kernel)
theorem k_2_146 : Cond.classLink "TransputerNet$Host" (18 : Nat) "TransputerNet$Memory" ∈ xG := xG_t2 (List.mem_of_getElem? (i := 146) (by decide +kernel)) (by decide +kernel)
theorem km_1 : ("TransputerNet$Core", 11, yX5_init, "TransputerNet") ∈ cNm := List.mem_of_getElem? (i := 1) rfl
theorem km_2 : ("TransputerNet$Core", 20, yX9_init, "TransputerNet") ∈ cNm := List.mem_of_getElem? (i := 2) rfl
theorem km_3 : ("TransputerNet$Core", 30, yX8_init, "TransputerNet") ∈ cNm := List.mem_of_getElem? (i := 3) rfl
theorem km_4 : ("TransputerNet$Core", 40, yX10_init, "TransputerNet") ∈ cNm := List.mem_of_getElem? (i := 4) rfl
theorem km_5 : ("TransputerNet$Link", 11, yX2_init, "TransputerNet") ∈ cNm := List.mem_of_getElem? (i := 5) rfl
theorem kn_30 : ("TransputerNet$Channels", 15, (TX1 1).1, (TX1 1).2.1, (TX1 1).2.2.1, "TransputerNet") ∈ cNf := List.mem_of_getElem? (i := 30) rfl
theorem kn_25 : ("TransputerNet$Channels", 22, (TX1 0).1, (TX1 0).2.1, (TX1 0).2.2.1, "TransputerNet") ∈ cNf := List.mem_of_getElem? (i := 25) rfl
theorem kn_31 : ("TransputerNet$Processor", 15, (TX1 1).1, (TX1 1).2.1, (TX1 1).2.2.1, "TransputerNet") ∈ cNf := List.mem_of_getElem? (i := 31) rfl
theorem kn_26 : ("TransputerNet$Processor", 22, (TX1 0).1, (TX1 0).2.1, (TX1 0).2.2.1, "TransputerNet") ∈ cNf := List.mem_of_getElem? (i := 26) rfl
theorem km_7 : ("TransputerNet$Host", 11, yX2_init, "TransputerNet") ∈ cNm := List.mem_of_getElem? (i := 7) rfl
theorem km_8 : ("TransputerNet$Host", 20, yX5_init, "TransputerNet") ∈ cNm := List.mem_of_getElem? (i := 8) rfl
theorem k_objM : Cond.instanceMethod Lib.objectInit ∈ xG := xG_t1 (List.mem_of_getElem? (i := 22) (by decide +kernel)) (by decide +kernel)
theorem k_objC : Cond.code Lib.objectInit ⟨#[0xb1]⟩ 1 none ∈ xG := xG_t1 (List.mem_of_getElem? (i := 23) (by decide +kernel)) (by decide +kernel)
theorem kd_X5 : ∀ j, j < 2 → defaultValue (tyX5 j) = vp_V [.null, .int 0] j := by decide +kernel
theorem kd_X9 : ∀ j, j < 8 → defaultValue (tyX9 j) = vp_V [.int 0, .int 0, .int 0, .int 0, .int 0, .int 0, .int 0, .int 0] j := by decide +kernel
theorem kd_X8 : ∀ j, j < 2 → defaultValue (tyX8 j) = vp_V [.int 0, .int 0] j := by decide +kernel
theorem kd_X10 : ∀ j, j < 5 → defaultValue (tyX10 j) = vp_V [.null, .null, .int 0, .int 0, .int 0] j := by decide +kernel
theorem kd_X2 : ∀ j, j < 10 → defaultValue (tyX2 j) = vp_V [.null, .int 0, .int 0, .int 0, .int 0, .int 0, .int 0, .int 0, .int 0, .int 0] j := by decide +kernel
set_option maxRecDepth 20000 in
theorem uk_X5_init : kMi xG yX5_init cX5_init 1 0 := ⟨(xG_t1 (List.mem_of_getElem? (i := 44) (by decide +kernel)) (by decide +kernel)), (xG_t1 (List.mem_of_getElem? (i := 4) (by decide +kernel)) (by decide +kernel)), (xG_t1 (List.mem_of_getElem? (i := 45) rfl) rfl), rfl, by decide +kernel⟩
set_option maxRecDepth 20000 in
theorem uk_X9_init : kMi xG yX9_init cX9_init 1 0 := ⟨(xG_t1 (List.mem_of_getElem? (i := 59) (by decide +kernel)) (by decide +kernel)), (xG_t1 (List.mem_of_getElem? (i := 5) (by decide +kernel)) (by decide +kernel)), (xG_t1 (List.mem_of_getElem? (i := 60) rfl) rfl), rfl, by decide +kernel⟩
set_option maxRecDepth 20000 in
theorem uk_X8_init : kMi xG yX8_init cX8_init 1 0 := ⟨(xG_t1 (List.mem_of_getElem? (i := 109) (by decide +kernel)) (by decide +kernel)), (xG_t1 (List.mem_of_getElem? (i := 6) (by decide +kernel)) (by decide +kernel)), (xG_t1 (List.mem_of_getElem? (i := 110) rfl) rfl), rfl, by decide +kernel⟩
set_option maxRecDepth 20000 in
theorem uk_X10_init : kMi xG yX10_init cX10_init 1 0 := ⟨(xG_t1 (List.mem_of_getElem? (i := 127) (by decide +kernel)) (by decide +kernel)), (xG_t1 (List.mem_of_getElem? (i := 7) (by decide +kernel)) (by decide +kernel)), (xG_t1 (List.mem_of_getElem? (i := 128) rfl) rfl), rfl, by decide +kernel⟩
set_option maxRecDepth 20000 in
theorem uk_X2_init : kMi xG yX2_init cX2_init 1 0 := ⟨(xG_t1 (List.mem_of_getElem? (i := 217) (by decide +kernel)) (by decide +kernel)), (xG_t1 (List.mem_of_getElem? (i := 9) (by decide +kernel)) (by decide +kernel)), (xG_t1 (List.mem_of_getElem? (i := 218) rfl) rfl), rfl, by decide +kernel⟩
