theorem k_1_47 : Cond.fieldLink "TransputerNet$Memory" 9 (TX5 0).1 (TX5 0).2.1 (TX5 0).2.2.1 ∈ xG := xG_t1 (List.mem_of_getElem? (i := 47) (by decide +kernel)) (by decide +kernel)
theorem k_1_48 : Cond.fieldLink "TransputerNet$Memory" 17 (TX5 1).1 (TX5 1).2.1 (TX5 1).2.2.1 ∈ xG := xG_t1 (List.mem_of_getElem? (i := 48) (by decide +kernel)) (by decide +kernel)
theorem k_1_62 : Cond.fieldLink "TransputerNet$Registers" 21 (TX9 0).1 (TX9 0).2.1 (TX9 0).2.2.1 ∈ xG := xG_t1 (List.mem_of_getElem? (i := 62) (by decide +kernel)) (by decide +kernel)
theorem k_1_66 : Cond.fieldLink "TransputerNet$Registers" 15 (TX9 1).1 (TX9 1).2.1 (TX9 1).2.2.1 ∈ xG := xG_t1 (List.mem_of_getElem? (i := 66) (by decide +kernel)) (by decide +kernel)
theorem k_1_70 : Cond.fieldLink "TransputerNet$Registers" 18 (TX9 2).1 (TX9 2).2.1 (TX9 2).2.2.1 ∈ xG := xG_t1 (List.mem_of_getElem? (i := 70) (by decide +kernel)) (by decide +kernel)
theorem k_1_75 : Cond.fieldLink "TransputerNet$Registers" 32 (TX9 3).1 (TX9 3).2.1 (TX9 3).2.2.1 ∈ xG := xG_t1 (List.mem_of_getElem? (i := 75) (by decide +kernel)) (by decide +kernel)
theorem k_1_78 : Cond.fieldLink "TransputerNet$Registers" 25 (TX9 4).1 (TX9 4).2.1 (TX9 4).2.2.1 ∈ xG := xG_t1 (List.mem_of_getElem? (i := 78) (by decide +kernel)) (by decide +kernel)
theorem k_1_82 : Cond.fieldLink "TransputerNet$Registers" 29 (TX9 5).1 (TX9 5).2.1 (TX9 5).2.2.1 ∈ xG := xG_t1 (List.mem_of_getElem? (i := 82) (by decide +kernel)) (by decide +kernel)
theorem k_1_83 : Cond.fieldLink "TransputerNet$Registers" 9 (TX9 6).1 (TX9 6).2.1 (TX9 6).2.2.1 ∈ xG := xG_t1 (List.mem_of_getElem? (i := 83) (by decide +kernel)) (by decide +kernel)
theorem k_1_87 : Cond.fieldLink "TransputerNet$Registers" 35 (TX9 7).1 (TX9 7).2.1 (TX9 7).2.2.1 ∈ xG := xG_t1 (List.mem_of_getElem? (i := 87) (by decide +kernel)) (by decide +kernel)
theorem k_1_112 : Cond.constant "TransputerNet$Queue" (9 : Nat) (32768 : Int32) ∈ xG := xG_t1 (List.mem_of_getElem? (i := 112) (by decide +kernel)) (by decide +kernel)
theorem k_1_113 : Cond.fieldLink "TransputerNet$Queue" 10 (TX8 0).1 (TX8 0).2.1 (TX8 0).2.2.1 ∈ xG := xG_t1 (List.mem_of_getElem? (i := 113) (by decide +kernel)) (by decide +kernel)
theorem k_1_130 : Cond.fieldLink "TransputerNet$Timers" 9 (TX10 0).1 (TX10 0).2.1 (TX10 0).2.2.1 ∈ xG := xG_t1 (List.mem_of_getElem? (i := 130) (by decide +kernel)) (by decide +kernel)
theorem k_1_131 : Cond.fieldLink "TransputerNet$Timers" 15 (TX10 1).1 (TX10 1).2.1 (TX10 1).2.2.1 ∈ xG := xG_t1 (List.mem_of_getElem? (i := 131) (by decide +kernel)) (by decide +kernel)
theorem k_1_132 : Cond.fieldLink "TransputerNet$Timers" 26 (TX10 2).1 (TX10 2).2.1 (TX10 2).2.2.1 ∈ xG := xG_t1 (List.mem_of_getElem? (i := 132) (by decide +kernel)) (by decide +kernel)
theorem k_1_134 : Cond.fieldLink "TransputerNet$Timers" 18 (TX10 3).1 (TX10 3).2.1 (TX10 3).2.2.1 ∈ xG := xG_t1 (List.mem_of_getElem? (i := 134) (by decide +kernel)) (by decide +kernel)
theorem k_1_135 : Cond.fieldLink "TransputerNet$Timers" 22 (TX10 4).1 (TX10 4).2.1 (TX10 4).2.2.1 ∈ xG := xG_t1 (List.mem_of_getElem? (i := 135) (by decide +kernel)) (by decide +kernel)
theorem k_1_148 : Cond.fieldLink "TransputerNet$Core" 12 (TX1 0).1 (TX1 0).2.1 (TX1 0).2.2.1 ∈ xG := xG_t1 (List.mem_of_getElem? (i := 148) (by decide +kernel)) (by decide +kernel)
theorem k_1_156 : Cond.fieldLink "TransputerNet$Core" 21 (TX1 1).1 (TX1 1).2.1 (TX1 1).2.2.1 ∈ xG := xG_t1 (List.mem_of_getElem? (i := 156) (by decide +kernel)) (by decide +kernel)
theorem k_1_158 : Cond.fieldLink "TransputerNet$Core" 25 (TX1 2).1 (TX1 2).2.1 (TX1 2).2.2.1 ∈ xG := xG_t1 (List.mem_of_getElem? (i := 158) (by decide +kernel)) (by decide +kernel)
theorem k_1_159 : Cond.fieldLink "TransputerNet$Core" 31 (TX1 3).1 (TX1 3).2.1 (TX1 3).2.2.1 ∈ xG := xG_t1 (List.mem_of_getElem? (i := 159) (by decide +kernel)) (by decide +kernel)
theorem k_1_161 : Cond.fieldLink "TransputerNet$Core" 35 (TX1 4).1 (TX1 4).2.1 (TX1 4).2.2.1 ∈ xG := xG_t1 (List.mem_of_getElem? (i := 161) (by decide +kernel)) (by decide +kernel)
theorem k_1_163 : Cond.fieldLink "TransputerNet$Core" 41 (TX1 5).1 (TX1 5).2.1 (TX1 5).2.2.1 ∈ xG := xG_t1 (List.mem_of_getElem? (i := 163) (by decide +kernel)) (by decide +kernel)
theorem k_1_166 : Cond.fieldLink "TransputerNet$Core" 152 (TX1 6).1 (TX1 6).2.1 (TX1 6).2.2.1 ∈ xG := xG_t1 (List.mem_of_getElem? (i := 166) (by decide +kernel)) (by decide +kernel)
theorem k_1_169 : Cond.fieldLink "TransputerNet$Core" 107 (TX1 8).1 (TX1 8).2.1 (TX1 8).2.2.1 ∈ xG := xG_t1 (List.mem_of_getElem? (i := 169) (by decide +kernel)) (by decide +kernel)
theorem k_1_171 : Cond.fieldLink "TransputerNet$Core" 120 (TX1 9).1 (TX1 9).2.1 (TX1 9).2.2.1 ∈ xG := xG_t1 (List.mem_of_getElem? (i := 171) (by decide +kernel)) (by decide +kernel)
theorem k_1_173 : Cond.fieldLink "TransputerNet$Core" 158 (TX1 10).1 (TX1 10).2.1 (TX1 10).2.2.1 ∈ xG := xG_t1 (List.mem_of_getElem? (i := 173) (by decide +kernel)) (by decide +kernel)
theorem k_1_197 : Cond.constant "TransputerNet" (147 : Nat) (32768 : Int32) ∈ xG := xG_t1 (List.mem_of_getElem? (i := 197) (by decide +kernel)) (by decide +kernel)
theorem k_1_203 : Cond.constant "TransputerNet$Memory" (21 : Nat) (65534 : Int32) ∈ xG := xG_t1 (List.mem_of_getElem? (i := 203) (by decide +kernel)) (by decide +kernel)
theorem k_1_204 : Cond.constant "TransputerNet$Memory" (16 : Nat) (32768 : Int32) ∈ xG := xG_t1 (List.mem_of_getElem? (i := 204) (by decide +kernel)) (by decide +kernel)
theorem k_1_205 : Cond.constantLong "TransputerNet$Memory" (26 : Nat) (65535 : Int64) ∈ xG := xG_t1 (List.mem_of_getElem? (i := 205) (by decide +kernel)) (by decide +kernel)
theorem k_1_206 : Cond.constantLong "TransputerNet$Memory" (24 : Nat) (-1 : Int64) ∈ xG := xG_t1 (List.mem_of_getElem? (i := 206) (by decide +kernel)) (by decide +kernel)
theorem k_1_220 : Cond.fieldLink "TransputerNet$End" 15 (TX2 0).1 (TX2 0).2.1 (TX2 0).2.2.1 ∈ xG := xG_t1 (List.mem_of_getElem? (i := 220) (by decide +kernel)) (by decide +kernel)
theorem k_1_221 : Cond.fieldLink "TransputerNet$End" 9 (TX2 1).1 (TX2 1).2.1 (TX2 1).2.2.1 ∈ xG := xG_t1 (List.mem_of_getElem? (i := 221) (by decide +kernel)) (by decide +kernel)
theorem k_1_223 : Cond.fieldLink "TransputerNet$End" 29 (TX2 2).1 (TX2 2).2.1 (TX2 2).2.2.1 ∈ xG := xG_t1 (List.mem_of_getElem? (i := 223) (by decide +kernel)) (by decide +kernel)
theorem k_1_224 : Cond.fieldLink "TransputerNet$End" 19 (TX2 3).1 (TX2 3).2.1 (TX2 3).2.2.1 ∈ xG := xG_t1 (List.mem_of_getElem? (i := 224) (by decide +kernel)) (by decide +kernel)
theorem k_1_225 : Cond.fieldLink "TransputerNet$End" 35 (TX2 4).1 (TX2 4).2.1 (TX2 4).2.2.1 ∈ xG := xG_t1 (List.mem_of_getElem? (i := 225) (by decide +kernel)) (by decide +kernel)
theorem k_1_227 : Cond.fieldLink "TransputerNet$End" 32 (TX2 5).1 (TX2 5).2.1 (TX2 5).2.2.1 ∈ xG := xG_t1 (List.mem_of_getElem? (i := 227) (by decide +kernel)) (by decide +kernel)
theorem k_1_228 : Cond.fieldLink "TransputerNet$End" 22 (TX2 6).1 (TX2 6).2.1 (TX2 6).2.2.1 ∈ xG := xG_t1 (List.mem_of_getElem? (i := 228) (by decide +kernel)) (by decide +kernel)
theorem k_1_232 : Cond.fieldLink "TransputerNet$End" 25 (TX2 7).1 (TX2 7).2.1 (TX2 7).2.2.1 ∈ xG := xG_t1 (List.mem_of_getElem? (i := 232) (by decide +kernel)) (by decide +kernel)
theorem k_1_234 : Cond.fieldLink "TransputerNet$End" 38 (TX2 8).1 (TX2 8).2.1 (TX2 8).2.2.1 ∈ xG := xG_t1 (List.mem_of_getElem? (i := 234) (by decide +kernel)) (by decide +kernel)
theorem k_1_236 : Cond.fieldLink "TransputerNet$End" 41 (TX2 9).1 (TX2 9).2.1 (TX2 9).2.2.1 ∈ xG := xG_t1 (List.mem_of_getElem? (i := 236) (by decide +kernel)) (by decide +kernel)
theorem k_2_18 : Cond.fieldLink "TransputerNet$Link" 34 (TX4 0).1 (TX4 0).2.1 (TX4 0).2.2.1 ∈ xG := xG_t2 (List.mem_of_getElem? (i := 18) (by decide +kernel)) (by decide +kernel)
theorem k_2_19 : Cond.fieldLink "TransputerNet$Link" 12 (TX4 1).1 (TX4 1).2.1 (TX4 1).2.2.1 ∈ xG := xG_t2 (List.mem_of_getElem? (i := 19) (by decide +kernel)) (by decide +kernel)
theorem k_2_22 : Cond.fieldLink "TransputerNet$Link" 18 (TX4 2).1 (TX4 2).2.1 (TX4 2).2.2.1 ∈ xG := xG_t2 (List.mem_of_getElem? (i := 22) (by decide +kernel)) (by decide +kernel)
theorem k_2_24 : Cond.fieldLink "TransputerNet$Link" 38 (TX4 3).1 (TX4 3).2.1 (TX4 3).2.2.1 ∈ xG := xG_t2 (List.mem_of_getElem? (i := 24) (by decide +kernel)) (by decide +kernel)
theorem k_2_26 : Cond.fieldLink "TransputerNet$Link" 51 (TX4 4).1 (TX4 4).2.1 (TX4 4).2.2.1 ∈ xG := xG_t2 (List.mem_of_getElem? (i := 26) (by decide +kernel)) (by decide +kernel)
theorem k_2_27 : Cond.fieldLink "TransputerNet$Link" 22 (TX4 5).1 (TX4 5).2.1 (TX4 5).2.2.1 ∈ xG := xG_t2 (List.mem_of_getElem? (i := 27) (by decide +kernel)) (by decide +kernel)
theorem k_2_28 : Cond.fieldLink "TransputerNet$Link" 77 (TX4 6).1 (TX4 6).2.1 (TX4 6).2.2.1 ∈ xG := xG_t2 (List.mem_of_getElem? (i := 28) (by decide +kernel)) (by decide +kernel)
theorem k_2_29 : Cond.fieldLink "TransputerNet$Link" 25 (TX4 7).1 (TX4 7).2.1 (TX4 7).2.2.1 ∈ xG := xG_t2 (List.mem_of_getElem? (i := 29) (by decide +kernel)) (by decide +kernel)
theorem k_2_31 : Cond.fieldLink "TransputerNet$Link" 107 (TX4 8).1 (TX4 8).2.1 (TX4 8).2.2.1 ∈ xG := xG_t2 (List.mem_of_getElem? (i := 31) (by decide +kernel)) (by decide +kernel)
theorem k_2_32 : Cond.fieldLink "TransputerNet$Link" 97 (TX4 9).1 (TX4 9).2.1 (TX4 9).2.2.1 ∈ xG := xG_t2 (List.mem_of_getElem? (i := 32) (by decide +kernel)) (by decide +kernel)
theorem k_2_33 : Cond.fieldLink "TransputerNet$Link" 28 (TX4 10).1 (TX4 10).2.1 (TX4 10).2.2.1 ∈ xG := xG_t2 (List.mem_of_getElem? (i := 33) (by decide +kernel)) (by decide +kernel)
theorem k_2_36 : Cond.fieldLink "TransputerNet$Link" 31 (TX4 11).1 (TX4 11).2.1 (TX4 11).2.2.1 ∈ xG := xG_t2 (List.mem_of_getElem? (i := 36) (by decide +kernel)) (by decide +kernel)
theorem k_2_72 : Cond.fieldLink "TransputerNet$Channels" 9 (TX0 0).1 (TX0 0).2.1 (TX0 0).2.2.1 ∈ xG := xG_t2 (List.mem_of_getElem? (i := 72) (by decide +kernel)) (by decide +kernel)
theorem k_2_73 : Cond.fieldLink "TransputerNet$Channels" 21 (TX0 1).1 (TX0 1).2.1 (TX0 1).2.2.1 ∈ xG := xG_t2 (List.mem_of_getElem? (i := 73) (by decide +kernel)) (by decide +kernel)
theorem k_2_74 : Cond.fieldLink "TransputerNet$Channels" 26 (TX0 2).1 (TX0 2).2.1 (TX0 2).2.2.1 ∈ xG := xG_t2 (List.mem_of_getElem? (i := 74) (by decide +kernel)) (by decide +kernel)
theorem k_2_75 : Cond.fieldLink "TransputerNet$Channels" 27 (TX0 3).1 (TX0 3).2.1 (TX0 3).2.2.1 ∈ xG := xG_t2 (List.mem_of_getElem? (i := 75) (by decide +kernel)) (by decide +kernel)
theorem k_2_89 : Cond.fieldLink "TransputerNet$Processor" 9 (TX7 0).1 (TX7 0).2.1 (TX7 0).2.2.1 ∈ xG := xG_t2 (List.mem_of_getElem? (i := 89) (by decide +kernel)) (by decide +kernel)
theorem k_2_90 : Cond.fieldLink "TransputerNet$Processor" 21 (TX7 1).1 (TX7 1).2.1 (TX7 1).2.2.1 ∈ xG := xG_t2 (List.mem_of_getElem? (i := 90) (by decide +kernel)) (by decide +kernel)
theorem k_2_91 : Cond.fieldLink "TransputerNet$Processor" 26 (TX7 2).1 (TX7 2).2.1 (TX7 2).2.2.1 ∈ xG := xG_t2 (List.mem_of_getElem? (i := 91) (by decide +kernel)) (by decide +kernel)
theorem k_2_92 : Cond.fieldLink "TransputerNet$Processor" 27 (TX7 3).1 (TX7 3).2.1 (TX7 3).2.2.1 ∈ xG := xG_t2 (List.mem_of_getElem? (i := 92) (by decide +kernel)) (by decide +kernel)
theorem k_2_106 : Cond.fieldLink "TransputerNet$Node" 22 (TX6 0).1 (TX6 0).2.1 (TX6 0).2.2.1 ∈ xG := xG_t2 (List.mem_of_getElem? (i := 106) (by decide +kernel)) (by decide +kernel)
theorem k_2_108 : Cond.fieldLink "TransputerNet$Node" 26 (TX6 1).1 (TX6 1).2.1 (TX6 1).2.2.1 ∈ xG := xG_t2 (List.mem_of_getElem? (i := 108) (by decide +kernel)) (by decide +kernel)
theorem k_2_112 : Cond.fieldLink "TransputerNet$Node" 9 (TX6 3).1 (TX6 3).2.1 (TX6 3).2.2.1 ∈ xG := xG_t2 (List.mem_of_getElem? (i := 112) (by decide +kernel)) (by decide +kernel)
theorem k_2_114 : Cond.fieldLink "TransputerNet$Node" 15 (TX6 4).1 (TX6 4).2.1 (TX6 4).2.2.1 ∈ xG := xG_t2 (List.mem_of_getElem? (i := 114) (by decide +kernel)) (by decide +kernel)
theorem k_2_115 : Cond.fieldLink "TransputerNet$Node" 19 (TX6 5).1 (TX6 5).2.1 (TX6 5).2.2.1 ∈ xG := xG_t2 (List.mem_of_getElem? (i := 115) (by decide +kernel)) (by decide +kernel)
theorem k_2_116 : Cond.fieldLink "TransputerNet$Node" 106 (TX6 6).1 (TX6 6).2.1 (TX6 6).2.2.1 ∈ xG := xG_t2 (List.mem_of_getElem? (i := 116) (by decide +kernel)) (by decide +kernel)
theorem k_2_117 : Cond.fieldLink "TransputerNet$Node" 109 (TX6 7).1 (TX6 7).2.1 (TX6 7).2.2.1 ∈ xG := xG_t2 (List.mem_of_getElem? (i := 117) (by decide +kernel)) (by decide +kernel)
theorem k_2_118 : Cond.fieldLink "TransputerNet$Node" 76 (TX6 8).1 (TX6 8).2.1 (TX6 8).2.2.1 ∈ xG := xG_t2 (List.mem_of_getElem? (i := 118) (by decide +kernel)) (by decide +kernel)
theorem k_2_148 : Cond.fieldLink "TransputerNet$Host" 12 (TX3 0).1 (TX3 0).2.1 (TX3 0).2.2.1 ∈ xG := xG_t2 (List.mem_of_getElem? (i := 148) (by decide +kernel)) (by decide +kernel)
theorem k_2_150 : Cond.fieldLink "TransputerNet$Host" 21 (TX3 1).1 (TX3 1).2.1 (TX3 1).2.2.1 ∈ xG := xG_t2 (List.mem_of_getElem? (i := 150) (by decide +kernel)) (by decide +kernel)
theorem k_2_151 : Cond.fieldLink "TransputerNet$Host" 33 (TX3 2).1 (TX3 2).2.1 (TX3 2).2.2.1 ∈ xG := xG_t2 (List.mem_of_getElem? (i := 151) (by decide +kernel)) (by decide +kernel)
theorem k_2_152 : Cond.fieldLink "TransputerNet$Host" 28 (TX3 3).1 (TX3 3).2.1 (TX3 3).2.2.1 ∈ xG := xG_t2 (List.mem_of_getElem? (i := 152) (by decide +kernel)) (by decide +kernel)
theorem k_2_153 : Cond.fieldLink "TransputerNet$Host" 25 (TX3 4).1 (TX3 4).2.1 (TX3 4).2.2.1 ∈ xG := xG_t2 (List.mem_of_getElem? (i := 153) (by decide +kernel)) (by decide +kernel)
theorem k_2_154 : Cond.fieldLink "TransputerNet$Host" 40 (TX3 5).1 (TX3 5).2.1 (TX3 5).2.2.1 ∈ xG := xG_t2 (List.mem_of_getElem? (i := 154) (by decide +kernel)) (by decide +kernel)
theorem k_2_168 : Cond.fieldLink "TransputerNet" 24 (TX11 0).1 (TX11 0).2.1 (TX11 0).2.2.1 ∈ xG := xG_t2 (List.mem_of_getElem? (i := 168) (by decide +kernel)) (by decide +kernel)
theorem k_2_169 : Cond.fieldLink "TransputerNet" 31 (TX11 1).1 (TX11 1).2.1 (TX11 1).2.2.1 ∈ xG := xG_t2 (List.mem_of_getElem? (i := 169) (by decide +kernel)) (by decide +kernel)
theorem k_2_170 : Cond.fieldLink "TransputerNet" 95 (TX11 2).1 (TX11 2).2.1 (TX11 2).2.2.1 ∈ xG := xG_t2 (List.mem_of_getElem? (i := 170) (by decide +kernel)) (by decide +kernel)
theorem k_2_182 : Cond.methodLink "TransputerNet" (35 : Nat) ({ cls := "TransputerNet", name := "endAt", desc := "(II)LTransputerNet$End;" } : MethodName) ∈ xG := xG_t2 (List.mem_of_getElem? (i := 182) (by decide +kernel)) (by decide +kernel)
theorem k_2_186 : Cond.methodLink "TransputerNet" (134 : Nat) ({ cls := "TransputerNet", name := "linkAt", desc := "(II)LTransputerNet$Link;" } : MethodName) ∈ xG := xG_t2 (List.mem_of_getElem? (i := 186) (by decide +kernel)) (by decide +kernel)
theorem k_2_190 : Cond.methodLink "TransputerNet" (61 : Nat) ({ cls := "TransputerNet", name := "nodeAt", desc := "(I)LTransputerNet$Node;" } : MethodName) ∈ xG := xG_t2 (List.mem_of_getElem? (i := 190) (by decide +kernel)) (by decide +kernel)
theorem k_2_194 : Cond.methodLink "TransputerNet" (43 : Nat) ({ cls := "TransputerNet$End", name := "isWired", desc := "()Z" } : MethodName) ∈ xG := xG_t2 (List.mem_of_getElem? (i := 194) (by decide +kernel)) (by decide +kernel)
theorem k_2_198 : Cond.methodLink "TransputerNet" (49 : Nat) ({ cls := "TransputerNet$End", name := "join", desc := "(LTransputerNet$End;I)V" } : MethodName) ∈ xG := xG_t2 (List.mem_of_getElem? (i := 198) (by decide +kernel)) (by decide +kernel)
theorem k_2_206 : Cond.methodLink "TransputerNet" (53 : Nat) ({ cls := "TransputerNet$Host", name := "hasRoomFor", desc := "(I)Z" } : MethodName) ∈ xG := xG_t2 (List.mem_of_getElem? (i := 206) (by decide +kernel)) (by decide +kernel)
theorem k_2_210 : Cond.methodLink "TransputerNet" (57 : Nat) ({ cls := "TransputerNet$Host", name := "append", desc := "(I)V" } : MethodName) ∈ xG := xG_t2 (List.mem_of_getElem? (i := 210) (by decide +kernel)) (by decide +kernel)
theorem k_2_214 : Cond.constant "TransputerNet$Host" (32 : Nat) (32768 : Int32) ∈ xG := xG_t2 (List.mem_of_getElem? (i := 214) (by decide +kernel)) (by decide +kernel)
theorem k_2_215 : Cond.methodLink "TransputerNet$Host" (36 : Nat) ({ cls := "TransputerNet$Memory", name := "setByte", desc := "(II)V" } : MethodName) ∈ xG := xG_t2 (List.mem_of_getElem? (i := 215) (by decide +kernel)) (by decide +kernel)
theorem k_2_219 : Cond.constant "TransputerNet$Memory" (15 : Nat) (65535 : Int32) ∈ xG := xG_t2 (List.mem_of_getElem? (i := 219) (by decide +kernel)) (by decide +kernel)
theorem k_2_220 : Cond.constantLong "TransputerNet$Memory" (22 : Nat) (255 : Int64) ∈ xG := xG_t2 (List.mem_of_getElem? (i := 220) (by decide +kernel)) (by decide +kernel)
theorem k_2_225 : Cond.methodLink "TransputerNet" (65 : Nat) ({ cls := "TransputerNet", name := "isInMemory", desc := "(I)Z" } : MethodName) ∈ xG := xG_t2 (List.mem_of_getElem? (i := 225) (by decide +kernel)) (by decide +kernel)
theorem k_2_228 : Cond.constant "TransputerNet" (167 : Nat) (36864 : Int32) ∈ xG := xG_t2 (List.mem_of_getElem? (i := 228) (by decide +kernel)) (by decide +kernel)
theorem k_2_229 : Cond.constant "TransputerNet" (68 : Nat) (36856 : Int32) ∈ xG := xG_t2 (List.mem_of_getElem? (i := 229) (by decide +kernel)) (by decide +kernel)
theorem k_2_230 : Cond.methodLink "TransputerNet" (79 : Nat) ({ cls := "TransputerNet$Memory", name := "setByte", desc := "(II)V" } : MethodName) ∈ xG := xG_t2 (List.mem_of_getElem? (i := 230) (by decide +kernel)) (by decide +kernel)
theorem k_2_235 : Cond.methodLink "TransputerNet" (85 : Nat) ({ cls := "TransputerNet", name := "isWord", desc := "(I)Z" } : MethodName) ∈ xG := xG_t2 (List.mem_of_getElem? (i := 235) (by decide +kernel)) (by decide +kernel)
theorem k_2_238 : Cond.constant "TransputerNet" (166 : Nat) (65535 : Int32) ∈ xG := xG_t2 (List.mem_of_getElem? (i := 238) (by decide +kernel)) (by decide +kernel)
theorem k_2_239 : Cond.methodLink "TransputerNet" (88 : Nat) ({ cls := "TransputerNet$Node", name := "isStartable", desc := "()Z" } : MethodName) ∈ xG := xG_t2 (List.mem_of_getElem? (i := 239) (by decide +kernel)) (by decide +kernel)
theorem k_3_3 : Cond.methodLink "TransputerNet" (91 : Nat) ({ cls := "TransputerNet$Node", name := "launch", desc := "(III)V" } : MethodName) ∈ xG := xG_t3 (List.mem_of_getElem? (i := 3) (by decide +kernel)) (by decide +kernel)
theorem k_3_7 : Cond.methodLink "TransputerNet$Node" (40 : Nat) ({ cls := "TransputerNet$Registers", name := "begin", desc := "(III)V" } : MethodName) ∈ xG := xG_t3 (List.mem_of_getElem? (i := 7) (by decide +kernel)) (by decide +kernel)
theorem k_3_11 : Cond.constant "TransputerNet$Registers" (28 : Nat) (65534 : Int32) ∈ xG := xG_t3 (List.mem_of_getElem? (i := 11) (by decide +kernel)) (by decide +kernel)
theorem k_3_12 : Cond.methodLink "TransputerNet$Node" (46 : Nat) ({ cls := "TransputerNet$Registers", name := "setStack", desc := "(III)V" } : MethodName) ∈ xG := xG_t3 (List.mem_of_getElem? (i := 12) (by decide +kernel)) (by decide +kernel)
theorem k_3_20 : Cond.methodLink "TransputerNet" (99 : Nat) ({ cls := "TransputerNet", name := "passBits", desc := "()V" } : MethodName) ∈ xG := xG_t3 (List.mem_of_getElem? (i := 20) (by decide +kernel)) (by decide +kernel)
theorem k_3_24 : Cond.methodLink "TransputerNet" (176 : Nat) ({ cls := "TransputerNet$Link", name := "putBit", desc := "()V" } : MethodName) ∈ xG := xG_t3 (List.mem_of_getElem? (i := 24) (by decide +kernel)) (by decide +kernel)
theorem k_3_28 : Cond.methodLink "TransputerNet$Link" (41 : Nat) ({ cls := "TransputerNet$End", name := "mayBeginData", desc := "()Z" } : MethodName) ∈ xG := xG_t3 (List.mem_of_getElem? (i := 28) (by decide +kernel)) (by decide +kernel)
theorem k_3_32 : Cond.methodLink "TransputerNet$Link" (54 : Nat) ({ cls := "TransputerNet$Memory", name := "byteAt", desc := "(I)I" } : MethodName) ∈ xG := xG_t3 (List.mem_of_getElem? (i := 32) (by decide +kernel)) (by decide +kernel)
theorem k_3_36 : Cond.methodLink "TransputerNet$Link" (60 : Nat) ({ cls := "TransputerNet$End", name := "beginData", desc := "(I)V" } : MethodName) ∈ xG := xG_t3 (List.mem_of_getElem? (i := 36) (by decide +kernel)) (by decide +kernel)
theorem k_3_40 : Cond.methodLink "TransputerNet$Link" (64 : Nat) ({ cls := "TransputerNet$End", name := "putNextBit", desc := "()V" } : MethodName) ∈ xG := xG_t3 (List.mem_of_getElem? (i := 40) (by decide +kernel)) (by decide +kernel)
theorem k_3_44 : Cond.methodLink "TransputerNet" (179 : Nat) ({ cls := "TransputerNet$Host", name := "putBit", desc := "()V" } : MethodName) ∈ xG := xG_t3 (List.mem_of_getElem? (i := 44) (by decide +kernel)) (by decide +kernel)
theorem k_3_48 : Cond.methodLink "TransputerNet$Host" (47 : Nat) ({ cls := "TransputerNet$End", name := "mayBeginData", desc := "()Z" } : MethodName) ∈ xG := xG_t3 (List.mem_of_getElem? (i := 48) (by decide +kernel)) (by decide +kernel)
theorem k_3_49 : Cond.methodLink "TransputerNet$Host" (43 : Nat) ({ cls := "TransputerNet$Memory", name := "byteAt", desc := "(I)I" } : MethodName) ∈ xG := xG_t3 (List.mem_of_getElem? (i := 49) (by decide +kernel)) (by decide +kernel)
theorem k_3_50 : Cond.methodLink "TransputerNet$Host" (51 : Nat) ({ cls := "TransputerNet$End", name := "beginData", desc := "(I)V" } : MethodName) ∈ xG := xG_t3 (List.mem_of_getElem? (i := 50) (by decide +kernel)) (by decide +kernel)
theorem k_3_51 : Cond.methodLink "TransputerNet$Host" (55 : Nat) ({ cls := "TransputerNet$End", name := "putNextBit", desc := "()V" } : MethodName) ∈ xG := xG_t3 (List.mem_of_getElem? (i := 51) (by decide +kernel)) (by decide +kernel)
theorem k_3_52 : Cond.methodLink "TransputerNet" (180 : Nat) ({ cls := "TransputerNet$Link", name := "takeBit", desc := "()V" } : MethodName) ∈ xG := xG_t3 (List.mem_of_getElem? (i := 52) (by decide +kernel)) (by decide +kernel)
theorem k_3_56 : Cond.methodLink "TransputerNet$Link" (67 : Nat) ({ cls := "TransputerNet$End", name := "readNextBit", desc := "()I" } : MethodName) ∈ xG := xG_t3 (List.mem_of_getElem? (i := 56) (by decide +kernel)) (by decide +kernel)
theorem k_3_60 : Cond.methodLink "TransputerNet$End" (44 : Nat) ({ cls := "TransputerNet$End", name := "endOfAcknowledgement", desc := "()I" } : MethodName) ∈ xG := xG_t3 (List.mem_of_getElem? (i := 60) (by decide +kernel)) (by decide +kernel)
theorem k_3_64 : Cond.methodLink "TransputerNet$Link" (71 : Nat) ({ cls := "TransputerNet$Link", name := "acknowledge", desc := "()V" } : MethodName) ∈ xG := xG_t3 (List.mem_of_getElem? (i := 64) (by decide +kernel)) (by decide +kernel)
theorem k_3_68 : Cond.methodLink "TransputerNet$Link" (81 : Nat) ({ cls := "TransputerNet$Link", name := "finishSending", desc := "()V" } : MethodName) ∈ xG := xG_t3 (List.mem_of_getElem? (i := 68) (by decide +kernel)) (by decide +kernel)
theorem k_3_72 : Cond.methodLink "TransputerNet$Link" (84 : Nat) ({ cls := "TransputerNet$Core", name := "makeReady", desc := "(I)V" } : MethodName) ∈ xG := xG_t3 (List.mem_of_getElem? (i := 72) (by decide +kernel)) (by decide +kernel)
theorem k_3_76 : Cond.constant "TransputerNet$Core" (63 : Nat) (65534 : Int32) ∈ xG := xG_t3 (List.mem_of_getElem? (i := 76) (by decide +kernel)) (by decide +kernel)
theorem k_3_77 : Cond.methodLink "TransputerNet$Core" (64 : Nat) ({ cls := "TransputerNet$Queue", name := "isEmpty", desc := "()Z" } : MethodName) ∈ xG := xG_t3 (List.mem_of_getElem? (i := 77) (by decide +kernel)) (by decide +kernel)
theorem k_3_81 : Cond.methodLink "TransputerNet$Core" (59 : Nat) ({ cls := "TransputerNet$Memory", name := "setWord", desc := "(II)V" } : MethodName) ∈ xG := xG_t3 (List.mem_of_getElem? (i := 81) (by decide +kernel)) (by decide +kernel)
theorem k_3_82 : Cond.methodLink "TransputerNet$Link" (74 : Nat) ({ cls := "TransputerNet$Link", name := "accept", desc := "(I)V" } : MethodName) ∈ xG := xG_t3 (List.mem_of_getElem? (i := 82) (by decide +kernel)) (by decide +kernel)
theorem k_3_86 : Cond.methodLink "TransputerNet$Link" (87 : Nat) ({ cls := "TransputerNet$Link", name := "keep", desc := "(I)V" } : MethodName) ∈ xG := xG_t3 (List.mem_of_getElem? (i := 86) (by decide +kernel)) (by decide +kernel)
theorem k_3_90 : Cond.methodLink "TransputerNet$Link" (93 : Nat) ({ cls := "TransputerNet$Core", name := "alert", desc := "(I)Z" } : MethodName) ∈ xG := xG_t3 (List.mem_of_getElem? (i := 90) (by decide +kernel)) (by decide +kernel)
theorem k_3_94 : Cond.methodLink "TransputerNet$Core" (56 : Nat) ({ cls := "TransputerNet$Memory", name := "wordAt", desc := "(I)I" } : MethodName) ∈ xG := xG_t3 (List.mem_of_getElem? (i := 94) (by decide +kernel)) (by decide +kernel)
theorem k_3_98 : Cond.constant "TransputerNet$Core" (123 : Nat) (32771 : Int32) ∈ xG := xG_t3 (List.mem_of_getElem? (i := 98) (by decide +kernel)) (by decide +kernel)
theorem k_3_99 : Cond.constant "TransputerNet$Core" (124 : Nat) (32769 : Int32) ∈ xG := xG_t3 (List.mem_of_getElem? (i := 99) (by decide +kernel)) (by decide +kernel)
theorem k_3_100 : Cond.constant "TransputerNet$Core" (125 : Nat) (32770 : Int32) ∈ xG := xG_t3 (List.mem_of_getElem? (i := 100) (by decide +kernel)) (by decide +kernel)
theorem k_3_101 : Cond.methodLink "TransputerNet$Core" (126 : Nat) ({ cls := "TransputerNet$Timers", name := "drop", desc := "(I)V" } : MethodName) ∈ xG := xG_t3 (List.mem_of_getElem? (i := 101) (by decide +kernel)) (by decide +kernel)
theorem k_3_105 : Cond.methodLink "TransputerNet$Timers" (29 : Nat) ({ cls := "TransputerNet$Timers", name := "keep", desc := "(II)V" } : MethodName) ∈ xG := xG_t3 (List.mem_of_getElem? (i := 105) (by decide +kernel)) (by decide +kernel)
theorem k_3_109 : Cond.methodLink "TransputerNet$Core" (87 : Nat) ({ cls := "TransputerNet$Core", name := "makeReady", desc := "(I)V" } : MethodName) ∈ xG := xG_t3 (List.mem_of_getElem? (i := 109) (by decide +kernel)) (by decide +kernel)
theorem k_3_110 : Cond.methodLink "TransputerNet$Link" (90 : Nat) ({ cls := "TransputerNet$Link", name := "deliver", desc := "(I)V" } : MethodName) ∈ xG := xG_t3 (List.mem_of_getElem? (i := 110) (by decide +kernel)) (by decide +kernel)
theorem k_3_114 : Cond.methodLink "TransputerNet$Link" (100 : Nat) ({ cls := "TransputerNet$Memory", name := "setByte", desc := "(II)V" } : MethodName) ∈ xG := xG_t3 (List.mem_of_getElem? (i := 114) (by decide +kernel)) (by decide +kernel)
theorem k_3_115 : Cond.methodLink "TransputerNet" (183 : Nat) ({ cls := "TransputerNet$Host", name := "takeBit", desc := "()V" } : MethodName) ∈ xG := xG_t3 (List.mem_of_getElem? (i := 115) (by decide +kernel)) (by decide +kernel)
theorem k_3_119 : Cond.methodLink "TransputerNet$Host" (58 : Nat) ({ cls := "TransputerNet$End", name := "readNextBit", desc := "()I" } : MethodName) ∈ xG := xG_t3 (List.mem_of_getElem? (i := 119) (by decide +kernel)) (by decide +kernel)
theorem k_3_120 : Cond.methodLink "TransputerNet$Host" (62 : Nat) ({ cls := "TransputerNet$Host", name := "dropFirst", desc := "()V" } : MethodName) ∈ xG := xG_t3 (List.mem_of_getElem? (i := 120) (by decide +kernel)) (by decide +kernel)
theorem k_3_124 : Cond.methodLink "TransputerNet$Host" (65 : Nat) ({ cls := "TransputerNet$Host", name := "keep", desc := "(I)V" } : MethodName) ∈ xG := xG_t3 (List.mem_of_getElem? (i := 124) (by decide +kernel)) (by decide +kernel)
theorem k_3_128 : Cond.methodLink "TransputerNet" (102 : Nat) ({ cls := "TransputerNet$Node", name := "takeBootByte", desc := "()V" } : MethodName) ∈ xG := xG_t3 (List.mem_of_getElem? (i := 128) (by decide +kernel)) (by decide +kernel)
theorem k_3_132 : Cond.methodLink "TransputerNet$Node" (69 : Nat) ({ cls := "TransputerNet$Node", name := "leaveWhenAnswered", desc := "()V" } : MethodName) ∈ xG := xG_t3 (List.mem_of_getElem? (i := 132) (by decide +kernel)) (by decide +kernel)
theorem k_3_136 : Cond.methodLink "TransputerNet$Node" (103 : Nat) ({ cls := "TransputerNet$Node", name := "leaveLink", desc := "()V" } : MethodName) ∈ xG := xG_t3 (List.mem_of_getElem? (i := 136) (by decide +kernel)) (by decide +kernel)
theorem k_3_140 : Cond.methodLink "TransputerNet$Node" (72 : Nat) ({ cls := "TransputerNet$Node", name := "firstLinkWithByte", desc := "()I" } : MethodName) ∈ xG := xG_t3 (List.mem_of_getElem? (i := 140) (by decide +kernel)) (by decide +kernel)
theorem k_3_144 : Cond.methodLink "TransputerNet$Node" (93 : Nat) ({ cls := "TransputerNet$Link", name := "releaseKept", desc := "()I" } : MethodName) ∈ xG := xG_t3 (List.mem_of_getElem? (i := 144) (by decide +kernel)) (by decide +kernel)
theorem k_3_148 : Cond.methodLink "TransputerNet$Node" (96 : Nat) ({ cls := "TransputerNet$Node", name := "obey", desc := "(LTransputerNet$Link;I)V" } : MethodName) ∈ xG := xG_t3 (List.mem_of_getElem? (i := 148) (by decide +kernel)) (by decide +kernel)
theorem k_3_152 : Cond.constant "TransputerNet$Node" (116 : Nat) (32804 : Int32) ∈ xG := xG_t3 (List.mem_of_getElem? (i := 152) (by decide +kernel)) (by decide +kernel)
theorem k_3_153 : Cond.methodLink "TransputerNet$Node" (117 : Nat) ({ cls := "TransputerNet$Memory", name := "setByte", desc := "(II)V" } : MethodName) ∈ xG := xG_t3 (List.mem_of_getElem? (i := 153) (by decide +kernel)) (by decide +kernel)
theorem k_3_154 : Cond.constant "TransputerNet$Node" (123 : Nat) (65535 : Int32) ∈ xG := xG_t3 (List.mem_of_getElem? (i := 154) (by decide +kernel)) (by decide +kernel)
theorem k_3_155 : Cond.methodLink "TransputerNet$Node" (124 : Nat) ({ cls := "TransputerNet$Memory", name := "setWord", desc := "(II)V" } : MethodName) ∈ xG := xG_t3 (List.mem_of_getElem? (i := 155) (by decide +kernel)) (by decide +kernel)
theorem k_3_156 : Cond.methodLink "TransputerNet$Node" (127 : Nat) ({ cls := "TransputerNet$Memory", name := "wordAt", desc := "(I)I" } : MethodName) ∈ xG := xG_t3 (List.mem_of_getElem? (i := 156) (by decide +kernel)) (by decide +kernel)
theorem k_3_157 : Cond.methodLink "TransputerNet$Node" (131 : Nat) ({ cls := "TransputerNet$Link", name := "sendWord", desc := "(I)V" } : MethodName) ∈ xG := xG_t3 (List.mem_of_getElem? (i := 157) (by decide +kernel)) (by decide +kernel)
theorem k_3_161 : Cond.methodLink "TransputerNet$Node" (134 : Nat) ({ cls := "TransputerNet$Node", name := "launch", desc := "(III)V" } : MethodName) ∈ xG := xG_t3 (List.mem_of_getElem? (i := 161) (by decide +kernel)) (by decide +kernel)
theorem k_3_162 : Cond.constant "TransputerNet$Node" (137 : Nat) (32768 : Int32) ∈ xG := xG_t3 (List.mem_of_getElem? (i := 162) (by decide +kernel)) (by decide +kernel)
theorem k_3_163 : Cond.constant "TransputerNet$Node" (138 : Nat) (32769 : Int32) ∈ xG := xG_t3 (List.mem_of_getElem? (i := 163) (by decide +kernel)) (by decide +kernel)
theorem k_3_164 : Cond.constant "TransputerNet$Node" (139 : Nat) (32776 : Int32) ∈ xG := xG_t3 (List.mem_of_getElem? (i := 164) (by decide +kernel)) (by decide +kernel)
theorem k_3_165 : Cond.methodLink "TransputerNet" (105 : Nat) ({ cls := "TransputerNet$Node", name := "changeClocks", desc := "(I)V" } : MethodName) ∈ xG := xG_t3 (List.mem_of_getElem? (i := 165) (by decide +kernel)) (by decide +kernel)
theorem k_3_169 : Cond.methodLink "TransputerNet$Node" (49 : Nat) ({ cls := "TransputerNet$Core", name := "strikeClock", desc := "(I)V" } : MethodName) ∈ xG := xG_t3 (List.mem_of_getElem? (i := 169) (by decide +kernel)) (by decide +kernel)
theorem k_3_173 : Cond.methodLink "TransputerNet$Core" (133 : Nat) ({ cls := "TransputerNet$Timers", name := "advance", desc := "(I)V" } : MethodName) ∈ xG := xG_t3 (List.mem_of_getElem? (i := 173) (by decide +kernel)) (by decide +kernel)
theorem k_3_177 : Cond.constant "TransputerNet$Timers" (25 : Nat) (65535 : Int32) ∈ xG := xG_t3 (List.mem_of_getElem? (i := 177) (by decide +kernel)) (by decide +kernel)
theorem k_3_178 : Cond.methodLink "TransputerNet$Core" (136 : Nat) ({ cls := "TransputerNet$Timers", name := "release", desc := "(ILTransputerNet$Core;)V" } : MethodName) ∈ xG := xG_t3 (List.mem_of_getElem? (i := 178) (by decide +kernel)) (by decide +kernel)
theorem k_3_182 : Cond.methodLink "TransputerNet$Timers" (33 : Nat) ({ cls := "TransputerNet$Timers", name := "clockOf", desc := "(I)I" } : MethodName) ∈ xG := xG_t3 (List.mem_of_getElem? (i := 182) (by decide +kernel)) (by decide +kernel)
theorem k_3_189 : Cond.methodLink "TransputerNet" (168 : Nat) ({ cls := "TransputerNet", name := "signed", desc := "(I)I" } : MethodName) ∈ xG := xG_t3 (List.mem_of_getElem? (i := 189) (by decide +kernel)) (by decide +kernel)
theorem k_3_192 : Cond.methodLink "TransputerNet$Timers" (41 : Nat) ({ cls := "TransputerNet$Core", name := "wakeAtTime", desc := "(II)V" } : MethodName) ∈ xG := xG_t3 (List.mem_of_getElem? (i := 192) (by decide +kernel)) (by decide +kernel)
theorem k_3_196 : Cond.methodLink "TransputerNet$Node" (53 : Nat) ({ cls := "TransputerNet$Core", name := "stopIfBeyond", desc := "()V" } : MethodName) ∈ xG := xG_t3 (List.mem_of_getElem? (i := 196) (by decide +kernel)) (by decide +kernel)
theorem k_3_200 : Cond.methodLink "TransputerNet$Core" (114 : Nat) ({ cls := "TransputerNet$Core", name := "stopWith", desc := "(I)V" } : MethodName) ∈ xG := xG_t3 (List.mem_of_getElem? (i := 200) (by decide +kernel)) (by decide +kernel)
theorem k_3_204 : Cond.methodLink "TransputerNet" (108 : Nat) ({ cls := "TransputerNet$Node", name := "prepareTurn", desc := "()Z" } : MethodName) ∈ xG := xG_t3 (List.mem_of_getElem? (i := 204) (by decide +kernel)) (by decide +kernel)
theorem k_3_208 : Cond.methodLink "TransputerNet$Node" (62 : Nat) ({ cls := "TransputerNet$Core", name := "chooseNext", desc := "()V" } : MethodName) ∈ xG := xG_t3 (List.mem_of_getElem? (i := 208) (by decide +kernel)) (by decide +kernel)
theorem k_3_212 : Cond.methodLink "TransputerNet$Core" (91 : Nat) ({ cls := "TransputerNet$Registers", name := "copyFrom", desc := "(LTransputerNet$Registers;)V" } : MethodName) ∈ xG := xG_t3 (List.mem_of_getElem? (i := 212) (by decide +kernel)) (by decide +kernel)
theorem k_3_216 : Cond.methodLink "TransputerNet$Registers" (38 : Nat) ({ cls := "TransputerNet$Registers", name := "setStack", desc := "(III)V" } : MethodName) ∈ xG := xG_t3 (List.mem_of_getElem? (i := 216) (by decide +kernel)) (by decide +kernel)
theorem k_3_217 : Cond.methodLink "TransputerNet$Core" (95 : Nat) ({ cls := "TransputerNet$Core", name := "hasProcess", desc := "()Z" } : MethodName) ∈ xG := xG_t3 (List.mem_of_getElem? (i := 217) (by decide +kernel)) (by decide +kernel)
theorem k_3_221 : Cond.methodLink "TransputerNet$Core" (98 : Nat) ({ cls := "TransputerNet$Core", name := "resumeFirst", desc := "(LTransputerNet$Queue;I)V" } : MethodName) ∈ xG := xG_t3 (List.mem_of_getElem? (i := 221) (by decide +kernel)) (by decide +kernel)
theorem k_3_225 : Cond.constant "TransputerNet$Core" (102 : Nat) (32768 : Int32) ∈ xG := xG_t3 (List.mem_of_getElem? (i := 225) (by decide +kernel)) (by decide +kernel)
theorem k_3_226 : Cond.methodLink "TransputerNet$Core" (103 : Nat) ({ cls := "TransputerNet$Registers", name := "begin", desc := "(III)V" } : MethodName) ∈ xG := xG_t3 (List.mem_of_getElem? (i := 226) (by decide +kernel)) (by decide +kernel)
theorem k_3_227 : Cond.methodLink "TransputerNet$Node" (65 : Nat) ({ cls := "TransputerNet$Core", name := "hasProcess", desc := "()Z" } : MethodName) ∈ xG := xG_t3 (List.mem_of_getElem? (i := 227) (by decide +kernel)) (by decide +kernel)
theorem k_3_228 : Cond.methodLink "TransputerNet" (115 : Nat) ({ cls := "TransputerNet$Processor", name := "execute", desc := "()V" } : MethodName) ∈ xG := xG_t3 (List.mem_of_getElem? (i := 228) (by decide +kernel)) (by decide +kernel)
theorem k_3_232 : Cond.methodLink "TransputerNet$Processor" (41 : Nat) ({ cls := "TransputerNet$Memory", name := "byteAt", desc := "(I)I" } : MethodName) ∈ xG := xG_t3 (List.mem_of_getElem? (i := 232) (by decide +kernel)) (by decide +kernel)
theorem k_3_233 : Cond.methodLink "TransputerNet$Processor" (47 : Nat) ({ cls := "TransputerNet$Registers", name := "jump", desc := "(I)V" } : MethodName) ∈ xG := xG_t3 (List.mem_of_getElem? (i := 233) (by decide +kernel)) (by decide +kernel)
theorem k_3_237 : Cond.constant "TransputerNet$Registers" (24 : Nat) (65535 : Int32) ∈ xG := xG_t3 (List.mem_of_getElem? (i := 237) (by decide +kernel)) (by decide +kernel)
theorem k_3_238 : Cond.methodLink "TransputerNet$Processor" (63 : Nat) ({ cls := "TransputerNet$Processor", name := "doLowFunction", desc := "(I)V" } : MethodName) ∈ xG := xG_t3 (List.mem_of_getElem? (i := 238) (by decide +kernel)) (by decide +kernel)
theorem k_4_2 : Cond.methodLink "TransputerNet$Processor" (82 : Nat) ({ cls := "TransputerNet$Core", name := "yieldIfSliced", desc := "()V" } : MethodName) ∈ xG := xG_t4 (List.mem_of_getElem? (i := 2) (by decide +kernel)) (by decide +kernel)
theorem k_4_6 : Cond.methodLink "TransputerNet$Core" (80 : Nat) ({ cls := "TransputerNet$Core", name := "own", desc := "()I" } : MethodName) ∈ xG := xG_t4 (List.mem_of_getElem? (i := 6) (by decide +kernel)) (by decide +kernel)
theorem k_4_10 : Cond.methodLink "TransputerNet$Core" (84 : Nat) ({ cls := "TransputerNet$Core", name := "leaveWaiting", desc := "()V" } : MethodName) ∈ xG := xG_t4 (List.mem_of_getElem? (i := 10) (by decide +kernel)) (by decide +kernel)
theorem k_4_14 : Cond.methodLink "TransputerNet$Processor" (88 : Nat) ({ cls := "TransputerNet$Registers", name := "push", desc := "(I)V" } : MethodName) ∈ xG := xG_t4 (List.mem_of_getElem? (i := 14) (by decide +kernel)) (by decide +kernel)
theorem k_4_18 : Cond.constant "TransputerNet$Processor" (91 : Nat) (65535 : Int32) ∈ xG := xG_t4 (List.mem_of_getElem? (i := 18) (by decide +kernel)) (by decide +kernel)
theorem k_4_19 : Cond.methodLink "TransputerNet$Processor" (95 : Nat) ({ cls := "TransputerNet$Memory", name := "wordAt", desc := "(I)I" } : MethodName) ∈ xG := xG_t4 (List.mem_of_getElem? (i := 19) (by decide +kernel)) (by decide +kernel)
theorem k_4_20 : Cond.methodLink "TransputerNet$Processor" (98 : Nat) ({ cls := "TransputerNet$Core", name := "local", desc := "(I)I" } : MethodName) ∈ xG := xG_t4 (List.mem_of_getElem? (i := 20) (by decide +kernel)) (by decide +kernel)
theorem k_4_24 : Cond.methodLink "TransputerNet$Processor" (66 : Nat) ({ cls := "TransputerNet$Processor", name := "doHighFunction", desc := "(I)V" } : MethodName) ∈ xG := xG_t4 (List.mem_of_getElem? (i := 24) (by decide +kernel)) (by decide +kernel)
theorem k_4_29 : Cond.methodLink "TransputerNet$Processor" (104 : Nat) ({ cls := "TransputerNet$Processor", name := "checked", desc := "(I)I" } : MethodName) ∈ xG := xG_t4 (List.mem_of_getElem? (i := 29) (by decide +kernel)) (by decide +kernel)
theorem k_4_33 : Cond.methodLink "TransputerNet$Processor" (107 : Nat) ({ cls := "TransputerNet$Processor", name := "call", desc := "(I)V" } : MethodName) ∈ xG := xG_t4 (List.mem_of_getElem? (i := 33) (by decide +kernel)) (by decide +kernel)
theorem k_4_37 : Cond.methodLink "TransputerNet$Processor" (113 : Nat) ({ cls := "TransputerNet$Registers", name := "setWorkspace", desc := "(I)V" } : MethodName) ∈ xG := xG_t4 (List.mem_of_getElem? (i := 37) (by decide +kernel)) (by decide +kernel)
theorem k_4_41 : Cond.methodLink "TransputerNet$Processor" (116 : Nat) ({ cls := "TransputerNet$Core", name := "setLocal", desc := "(II)V" } : MethodName) ∈ xG := xG_t4 (List.mem_of_getElem? (i := 41) (by decide +kernel)) (by decide +kernel)
theorem k_4_45 : Cond.methodLink "TransputerNet$Processor" (110 : Nat) ({ cls := "TransputerNet$Registers", name := "pop", desc := "()V" } : MethodName) ∈ xG := xG_t4 (List.mem_of_getElem? (i := 45) (by decide +kernel)) (by decide +kernel)
theorem k_4_49 : Cond.methodLink "TransputerNet$Processor" (123 : Nat) ({ cls := "TransputerNet$Memory", name := "setWord", desc := "(II)V" } : MethodName) ∈ xG := xG_t4 (List.mem_of_getElem? (i := 49) (by decide +kernel)) (by decide +kernel)
theorem k_4_50 : Cond.methodLink "TransputerNet$Processor" (126 : Nat) ({ cls := "TransputerNet$Registers", name := "popAll", desc := "()V" } : MethodName) ∈ xG := xG_t4 (List.mem_of_getElem? (i := 50) (by decide +kernel)) (by decide +kernel)
theorem k_4_54 : Cond.methodLink "TransputerNet$Processor" (69 : Nat) ({ cls := "TransputerNet$Processor", name := "isOperationDone", desc := "(I)Z" } : MethodName) ∈ xG := xG_t4 (List.mem_of_getElem? (i := 54) (by decide +kernel)) (by decide +kernel)
theorem k_4_58 : Cond.methodLink "TransputerNet$Processor" (132 : Nat) ({ cls := "TransputerNet$Processor", name := "doArithmetic", desc := "(I)Z" } : MethodName) ∈ xG := xG_t4 (List.mem_of_getElem? (i := 58) (by decide +kernel)) (by decide +kernel)
theorem k_4_62 : Cond.methodLink "TransputerNet$Processor" (156 : Nat) ({ cls := "TransputerNet$Registers", name := "replaceTwo", desc := "(I)V" } : MethodName) ∈ xG := xG_t4 (List.mem_of_getElem? (i := 62) (by decide +kernel)) (by decide +kernel)
theorem k_4_66 : Cond.methodLink "TransputerNet$Processor" (159 : Nat) ({ cls := "TransputerNet$Processor", name := "remainder", desc := "(II)I" } : MethodName) ∈ xG := xG_t4 (List.mem_of_getElem? (i := 66) (by decide +kernel)) (by decide +kernel)
theorem k_4_70 : Cond.methodLink "TransputerNet$Processor" (163 : Nat) ({ cls := "TransputerNet$Processor", name := "quotient", desc := "(II)I" } : MethodName) ∈ xG := xG_t4 (List.mem_of_getElem? (i := 70) (by decide +kernel)) (by decide +kernel)
theorem k_4_74 : Cond.methodLink "TransputerNet$Processor" (135 : Nat) ({ cls := "TransputerNet$Processor", name := "doLogic", desc := "(I)Z" } : MethodName) ∈ xG := xG_t4 (List.mem_of_getElem? (i := 74) (by decide +kernel)) (by decide +kernel)
theorem k_4_78 : Cond.methodLink "TransputerNet$Processor" (166 : Nat) ({ cls := "TransputerNet$Processor", name := "addToCrc", desc := "(I)V" } : MethodName) ∈ xG := xG_t4 (List.mem_of_getElem? (i := 78) (by decide +kernel)) (by decide +kernel)
theorem k_4_82 : Cond.constant "TransputerNet$Processor" (177 : Nat) (32768 : Int32) ∈ xG := xG_t4 (List.mem_of_getElem? (i := 82) (by decide +kernel)) (by decide +kernel)
theorem k_4_83 : Cond.methodLink "TransputerNet$Processor" (169 : Nat) ({ cls := "java/lang/Integer", name := "bitCount", desc := "(I)I" } : MethodName) ∈ xG := xG_t4 (List.mem_of_getElem? (i := 83) (by decide +kernel)) (by decide +kernel)
theorem k_4_86 : Cond.constant "java/lang/Integer" (265 : Nat) (1431655765 : Int32) ∈ xG := xG_t4 (List.mem_of_getElem? (i := 86) (by decide +kernel)) (by decide +kernel)
theorem k_4_87 : Cond.constant "java/lang/Integer" (266 : Nat) (858993459 : Int32) ∈ xG := xG_t4 (List.mem_of_getElem? (i := 87) (by decide +kernel)) (by decide +kernel)
theorem k_4_88 : Cond.constant "java/lang/Integer" (267 : Nat) (252645135 : Int32) ∈ xG := xG_t4 (List.mem_of_getElem? (i := 88) (by decide +kernel)) (by decide +kernel)
theorem k_4_89 : Cond.methodLink "TransputerNet$Processor" (174 : Nat) ({ cls := "TransputerNet$Processor", name := "reversed", desc := "(II)I" } : MethodName) ∈ xG := xG_t4 (List.mem_of_getElem? (i := 89) (by decide +kernel)) (by decide +kernel)
theorem k_4_92 : Cond.methodLink "TransputerNet$Processor" (138 : Nat) ({ cls := "TransputerNet$Processor", name := "doDoubleWords", desc := "(I)Z" } : MethodName) ∈ xG := xG_t4 (List.mem_of_getElem? (i := 92) (by decide +kernel)) (by decide +kernel)
theorem k_4_96 : Cond.methodLink "TransputerNet$Processor" (178 : Nat) ({ cls := "TransputerNet$Processor", name := "normalise", desc := "(I)V" } : MethodName) ∈ xG := xG_t4 (List.mem_of_getElem? (i := 96) (by decide +kernel)) (by decide +kernel)
theorem k_4_100 : Cond.methodLink "TransputerNet$Processor" (185 : Nat) ({ cls := "TransputerNet$Processor", name := "setDouble", desc := "(I)V" } : MethodName) ∈ xG := xG_t4 (List.mem_of_getElem? (i := 100) (by decide +kernel)) (by decide +kernel)
theorem k_4_104 : Cond.methodLink "TransputerNet$Processor" (181 : Nat) ({ cls := "TransputerNet$Processor", name := "divideLong", desc := "(JI)V" } : MethodName) ∈ xG := xG_t4 (List.mem_of_getElem? (i := 104) (by decide +kernel)) (by decide +kernel)
theorem k_4_108 : Cond.methodLink "TransputerNet$Processor" (141 : Nat) ({ cls := "TransputerNet$Processor", name := "doChecks", desc := "(I)Z" } : MethodName) ∈ xG := xG_t4 (List.mem_of_getElem? (i := 108) (by decide +kernel)) (by decide +kernel)
theorem k_4_112 : Cond.methodLink "TransputerNet$Processor" (188 : Nat) ({ cls := "TransputerNet$Processor", name := "failIf", desc := "(Z)V" } : MethodName) ∈ xG := xG_t4 (List.mem_of_getElem? (i := 112) (by decide +kernel)) (by decide +kernel)
theorem k_4_116 : Cond.methodLink "TransputerNet$Processor" (192 : Nat) ({ cls := "TransputerNet$Core", name := "leaveWaiting", desc := "()V" } : MethodName) ∈ xG := xG_t4 (List.mem_of_getElem? (i := 116) (by decide +kernel)) (by decide +kernel)
theorem k_4_117 : Cond.methodLink "TransputerNet$Processor" (144 : Nat) ({ cls := "TransputerNet$Processor", name := "doMoves", desc := "(I)Z" } : MethodName) ∈ xG := xG_t4 (List.mem_of_getElem? (i := 117) (by decide +kernel)) (by decide +kernel)
theorem k_4_121 : Cond.methodLink "TransputerNet$Processor" (195 : Nat) ({ cls := "TransputerNet$Registers", name := "setStack", desc := "(III)V" } : MethodName) ∈ xG := xG_t4 (List.mem_of_getElem? (i := 121) (by decide +kernel)) (by decide +kernel)
theorem k_4_122 : Cond.methodLink "TransputerNet$Processor" (199 : Nat) ({ cls := "TransputerNet$Processor", name := "exchangeWithI", desc := "()V" } : MethodName) ∈ xG := xG_t4 (List.mem_of_getElem? (i := 122) (by decide +kernel)) (by decide +kernel)
theorem k_4_126 : Cond.methodLink "TransputerNet$Processor" (202 : Nat) ({ cls := "TransputerNet$Processor", name := "endLoop", desc := "()V" } : MethodName) ∈ xG := xG_t4 (List.mem_of_getElem? (i := 126) (by decide +kernel)) (by decide +kernel)
theorem k_4_130 : Cond.methodLink "TransputerNet$Processor" (205 : Nat) ({ cls := "TransputerNet$Core", name := "clock", desc := "()I" } : MethodName) ∈ xG := xG_t4 (List.mem_of_getElem? (i := 130) (by decide +kernel)) (by decide +kernel)
theorem k_4_134 : Cond.methodLink "TransputerNet$Core" (52 : Nat) ({ cls := "TransputerNet$Timers", name := "clockOf", desc := "(I)I" } : MethodName) ∈ xG := xG_t4 (List.mem_of_getElem? (i := 134) (by decide +kernel)) (by decide +kernel)
theorem k_4_135 : Cond.methodLink "TransputerNet$Processor" (209 : Nat) ({ cls := "TransputerNet$Memory", name := "setByte", desc := "(II)V" } : MethodName) ∈ xG := xG_t4 (List.mem_of_getElem? (i := 135) (by decide +kernel)) (by decide +kernel)
theorem k_4_136 : Cond.methodLink "TransputerNet$Processor" (212 : Nat) ({ cls := "TransputerNet$Processor", name := "exchangeWithW", desc := "()V" } : MethodName) ∈ xG := xG_t4 (List.mem_of_getElem? (i := 136) (by decide +kernel)) (by decide +kernel)
theorem k_4_140 : Cond.methodLink "TransputerNet$Processor" (215 : Nat) ({ cls := "TransputerNet$Processor", name := "moveBytes", desc := "()V" } : MethodName) ∈ xG := xG_t4 (List.mem_of_getElem? (i := 140) (by decide +kernel)) (by decide +kernel)
theorem k_4_144 : Cond.methodLink "TransputerNet$Processor" (73 : Nat) ({ cls := "TransputerNet$Core", name := "stopWith", desc := "(I)V" } : MethodName) ∈ xG := xG_t4 (List.mem_of_getElem? (i := 144) (by decide +kernel)) (by decide +kernel)
theorem k_4_145 : Cond.methodLink "TransputerNet$Processor" (227 : Nat) ({ cls := "TransputerNet$Core", name := "copyBytes", desc := "(III)V" } : MethodName) ∈ xG := xG_t4 (List.mem_of_getElem? (i := 145) (by decide +kernel)) (by decide +kernel)
theorem k_4_149 : Cond.methodLink "TransputerNet$Core" (117 : Nat) ({ cls := "TransputerNet$Memory", name := "copy", desc := "(III)V" } : MethodName) ∈ xG := xG_t4 (List.mem_of_getElem? (i := 149) (by decide +kernel)) (by decide +kernel)
theorem k_4_153 : Cond.methodLink "TransputerNet$Memory" (28 : Nat) ({ cls := "TransputerNet$Memory", name := "byteAt", desc := "(I)I" } : MethodName) ∈ xG := xG_t4 (List.mem_of_getElem? (i := 153) (by decide +kernel)) (by decide +kernel)
theorem k_4_154 : Cond.methodLink "TransputerNet$Memory" (32 : Nat) ({ cls := "TransputerNet$Memory", name := "setByte", desc := "(II)V" } : MethodName) ∈ xG := xG_t4 (List.mem_of_getElem? (i := 154) (by decide +kernel)) (by decide +kernel)
theorem k_4_155 : Cond.methodLink "TransputerNet$Processor" (222 : Nat) ({ cls := "TransputerNet$Timers", name := "setClocks", desc := "(I)V" } : MethodName) ∈ xG := xG_t4 (List.mem_of_getElem? (i := 155) (by decide +kernel)) (by decide +kernel)
theorem k_4_159 : Cond.methodLink "TransputerNet$Processor" (147 : Nat) ({ cls := "TransputerNet$Processor", name := "doScheduling", desc := "(I)Z" } : MethodName) ∈ xG := xG_t4 (List.mem_of_getElem? (i := 159) (by decide +kernel)) (by decide +kernel)
theorem k_4_163 : Cond.methodLink "TransputerNet$Processor" (230 : Nat) ({ cls := "TransputerNet$Processor", name := "endProcess", desc := "()V" } : MethodName) ∈ xG := xG_t4 (List.mem_of_getElem? (i := 163) (by decide +kernel)) (by decide +kernel)
theorem k_4_167 : Cond.methodLink "TransputerNet$Processor" (233 : Nat) ({ cls := "TransputerNet$Processor", name := "startProcess", desc := "()V" } : MethodName) ∈ xG := xG_t4 (List.mem_of_getElem? (i := 167) (by decide +kernel)) (by decide +kernel)
theorem k_4_171 : Cond.constant "TransputerNet$Processor" (240 : Nat) (65534 : Int32) ∈ xG := xG_t4 (List.mem_of_getElem? (i := 171) (by decide +kernel)) (by decide +kernel)
theorem k_4_172 : Cond.methodLink "TransputerNet$Processor" (252 : Nat) ({ cls := "TransputerNet$Core", name := "makeReady", desc := "(I)V" } : MethodName) ∈ xG := xG_t4 (List.mem_of_getElem? (i := 172) (by decide +kernel)) (by decide +kernel)
theorem k_4_173 : Cond.methodLink "TransputerNet$Processor" (255 : Nat) ({ cls := "TransputerNet$Processor", name := "saveQueue", desc := "(LTransputerNet$Queue;)V" } : MethodName) ∈ xG := xG_t4 (List.mem_of_getElem? (i := 173) (by decide +kernel)) (by decide +kernel)
theorem k_4_177 : Cond.methodLink "TransputerNet$Processor" (150 : Nat) ({ cls := "TransputerNet$Processor", name := "doChannels", desc := "(I)Z" } : MethodName) ∈ xG := xG_t4 (List.mem_of_getElem? (i := 177) (by decide +kernel)) (by decide +kernel)
theorem k_4_181 : Cond.methodLink "TransputerNet$Processor" (259 : Nat) ({ cls := "TransputerNet$Channels", name := "input", desc := "()V" } : MethodName) ∈ xG := xG_t4 (List.mem_of_getElem? (i := 181) (by decide +kernel)) (by decide +kernel)
theorem k_4_185 : Cond.methodLink "TransputerNet$Channels" (45 : Nat) ({ cls := "TransputerNet$Core", name := "stopWith", desc := "(I)V" } : MethodName) ∈ xG := xG_t4 (List.mem_of_getElem? (i := 185) (by decide +kernel)) (by decide +kernel)
theorem k_4_186 : Cond.methodLink "TransputerNet$Channels" (49 : Nat) ({ cls := "TransputerNet$Channels", name := "linkOf", desc := "(I)LTransputerNet$Link;" } : MethodName) ∈ xG := xG_t4 (List.mem_of_getElem? (i := 186) (by decide +kernel)) (by decide +kernel)
theorem k_4_190 : Cond.constant "TransputerNet$Channels" (31 : Nat) (65534 : Int32) ∈ xG := xG_t4 (List.mem_of_getElem? (i := 190) (by decide +kernel)) (by decide +kernel)
theorem k_4_191 : Cond.constant "TransputerNet$Channels" (32 : Nat) (32768 : Int32) ∈ xG := xG_t4 (List.mem_of_getElem? (i := 191) (by decide +kernel)) (by decide +kernel)
theorem k_4_192 : Cond.methodLink "TransputerNet$Channels" (53 : Nat) ({ cls := "TransputerNet$Channels", name := "inputFromLink", desc := "(LTransputerNet$Link;II)V" } : MethodName) ∈ xG := xG_t4 (List.mem_of_getElem? (i := 192) (by decide +kernel)) (by decide +kernel)
theorem k_4_196 : Cond.methodLink "TransputerNet$Channels" (91 : Nat) ({ cls := "TransputerNet$Registers", name := "popAll", desc := "()V" } : MethodName) ∈ xG := xG_t4 (List.mem_of_getElem? (i := 196) (by decide +kernel)) (by decide +kernel)
theorem k_4_197 : Cond.methodLink "TransputerNet$Channels" (81 : Nat) ({ cls := "TransputerNet$Core", name := "own", desc := "()I" } : MethodName) ∈ xG := xG_t4 (List.mem_of_getElem? (i := 197) (by decide +kernel)) (by decide +kernel)
theorem k_4_198 : Cond.methodLink "TransputerNet$Channels" (105 : Nat) ({ cls := "TransputerNet$Link", name := "beginReceiving", desc := "(III)V" } : MethodName) ∈ xG := xG_t4 (List.mem_of_getElem? (i := 198) (by decide +kernel)) (by decide +kernel)
theorem k_4_202 : Cond.methodLink "TransputerNet$Channels" (111 : Nat) ({ cls := "TransputerNet$Link", name := "releaseKept", desc := "()I" } : MethodName) ∈ xG := xG_t4 (List.mem_of_getElem? (i := 202) (by decide +kernel)) (by decide +kernel)
theorem k_4_203 : Cond.methodLink "TransputerNet$Channels" (114 : Nat) ({ cls := "TransputerNet$Link", name := "deliver", desc := "(I)V" } : MethodName) ∈ xG := xG_t4 (List.mem_of_getElem? (i := 203) (by decide +kernel)) (by decide +kernel)
theorem k_4_204 : Cond.methodLink "TransputerNet$Channels" (94 : Nat) ({ cls := "TransputerNet$Core", name := "leaveWaiting", desc := "()V" } : MethodName) ∈ xG := xG_t4 (List.mem_of_getElem? (i := 204) (by decide +kernel)) (by decide +kernel)
theorem k_4_205 : Cond.methodLink "TransputerNet$Channels" (57 : Nat) ({ cls := "TransputerNet$Memory", name := "wordAt", desc := "(I)I" } : MethodName) ∈ xG := xG_t4 (List.mem_of_getElem? (i := 205) (by decide +kernel)) (by decide +kernel)
theorem k_4_206 : Cond.methodLink "TransputerNet$Channels" (63 : Nat) ({ cls := "TransputerNet$Channels", name := "waitAt", desc := "(II)V" } : MethodName) ∈ xG := xG_t4 (List.mem_of_getElem? (i := 206) (by decide +kernel)) (by decide +kernel)
theorem k_4_210 : Cond.methodLink "TransputerNet$Channels" (85 : Nat) ({ cls := "TransputerNet$Memory", name := "setWord", desc := "(II)V" } : MethodName) ∈ xG := xG_t4 (List.mem_of_getElem? (i := 210) (by decide +kernel)) (by decide +kernel)
theorem k_4_211 : Cond.methodLink "TransputerNet$Channels" (88 : Nat) ({ cls := "TransputerNet$Core", name := "setLocal", desc := "(II)V" } : MethodName) ∈ xG := xG_t4 (List.mem_of_getElem? (i := 211) (by decide +kernel)) (by decide +kernel)
theorem k_4_212 : Cond.methodLink "TransputerNet$Channels" (67 : Nat) ({ cls := "TransputerNet$Core", name := "copyBytes", desc := "(III)V" } : MethodName) ∈ xG := xG_t4 (List.mem_of_getElem? (i := 212) (by decide +kernel)) (by decide +kernel)
theorem k_4_213 : Cond.methodLink "TransputerNet$Channels" (71 : Nat) ({ cls := "TransputerNet$Channels", name := "freePartner", desc := "(II)V" } : MethodName) ∈ xG := xG_t4 (List.mem_of_getElem? (i := 213) (by decide +kernel)) (by decide +kernel)
theorem k_4_217 : Cond.methodLink "TransputerNet$Channels" (97 : Nat) ({ cls := "TransputerNet$Core", name := "makeReady", desc := "(I)V" } : MethodName) ∈ xG := xG_t4 (List.mem_of_getElem? (i := 217) (by decide +kernel)) (by decide +kernel)
theorem k_4_218 : Cond.methodLink "TransputerNet$Processor" (264 : Nat) ({ cls := "TransputerNet$Channels", name := "output", desc := "(III)V" } : MethodName) ∈ xG := xG_t4 (List.mem_of_getElem? (i := 218) (by decide +kernel)) (by decide +kernel)
theorem k_4_222 : Cond.methodLink "TransputerNet$Channels" (74 : Nat) ({ cls := "TransputerNet$Channels", name := "outputToLink", desc := "(LTransputerNet$Link;II)V" } : MethodName) ∈ xG := xG_t4 (List.mem_of_getElem? (i := 222) (by decide +kernel)) (by decide +kernel)
theorem k_4_226 : Cond.methodLink "TransputerNet$Channels" (120 : Nat) ({ cls := "TransputerNet$Link", name := "beginSending", desc := "(III)V" } : MethodName) ∈ xG := xG_t4 (List.mem_of_getElem? (i := 226) (by decide +kernel)) (by decide +kernel)
theorem k_4_230 : Cond.methodLink "TransputerNet$Channels" (77 : Nat) ({ cls := "TransputerNet$Core", name := "alert", desc := "(I)Z" } : MethodName) ∈ xG := xG_t4 (List.mem_of_getElem? (i := 230) (by decide +kernel)) (by decide +kernel)
theorem k_4_231 : Cond.methodLink "TransputerNet$Processor" (267 : Nat) ({ cls := "TransputerNet$Channels", name := "reset", desc := "()V" } : MethodName) ∈ xG := xG_t4 (List.mem_of_getElem? (i := 231) (by decide +kernel)) (by decide +kernel)
theorem k_4_235 : Cond.constant "TransputerNet$Channels" (123 : Nat) (32776 : Int32) ∈ xG := xG_t4 (List.mem_of_getElem? (i := 235) (by decide +kernel)) (by decide +kernel)
theorem k_4_236 : Cond.methodLink "TransputerNet$Channels" (124 : Nat) ({ cls := "TransputerNet$Link", name := "resetOutput", desc := "()I" } : MethodName) ∈ xG := xG_t4 (List.mem_of_getElem? (i := 236) (by decide +kernel)) (by decide +kernel)
theorem k_5_0 : Cond.constant "TransputerNet$Link" (113 : Nat) (32768 : Int32) ∈ xG := xG_t5 (List.mem_of_getElem? (i := 0) (by decide +kernel)) (by decide +kernel)
theorem k_5_1 : Cond.methodLink "TransputerNet$Channels" (127 : Nat) ({ cls := "TransputerNet$Link", name := "resetInput", desc := "()I" } : MethodName) ∈ xG := xG_t5 (List.mem_of_getElem? (i := 1) (by decide +kernel)) (by decide +kernel)
theorem k_5_5 : Cond.methodLink "TransputerNet$Processor" (270 : Nat) ({ cls := "TransputerNet$Channels", name := "inputTime", desc := "()V" } : MethodName) ∈ xG := xG_t5 (List.mem_of_getElem? (i := 5) (by decide +kernel)) (by decide +kernel)
theorem k_5_9 : Cond.methodLink "TransputerNet$Channels" (168 : Nat) ({ cls := "TransputerNet$Registers", name := "pop", desc := "()V" } : MethodName) ∈ xG := xG_t5 (List.mem_of_getElem? (i := 9) (by decide +kernel)) (by decide +kernel)
theorem k_5_10 : Cond.methodLink "TransputerNet$Channels" (151 : Nat) ({ cls := "TransputerNet$Core", name := "clock", desc := "()I" } : MethodName) ∈ xG := xG_t5 (List.mem_of_getElem? (i := 10) (by decide +kernel)) (by decide +kernel)
theorem k_5_12 : Cond.constant "TransputerNet$Channels" (145 : Nat) (32769 : Int32) ∈ xG := xG_t5 (List.mem_of_getElem? (i := 12) (by decide +kernel)) (by decide +kernel)
theorem k_5_13 : Cond.constant "TransputerNet$Channels" (144 : Nat) (32770 : Int32) ∈ xG := xG_t5 (List.mem_of_getElem? (i := 13) (by decide +kernel)) (by decide +kernel)
theorem k_5_14 : Cond.methodLink "TransputerNet$Channels" (154 : Nat) ({ cls := "TransputerNet$Core", name := "waitForTime", desc := "(I)V" } : MethodName) ∈ xG := xG_t5 (List.mem_of_getElem? (i := 14) (by decide +kernel)) (by decide +kernel)
theorem k_5_18 : Cond.methodLink "TransputerNet$Core" (129 : Nat) ({ cls := "TransputerNet$Timers", name := "add", desc := "(II)Z" } : MethodName) ∈ xG := xG_t5 (List.mem_of_getElem? (i := 18) (by decide +kernel)) (by decide +kernel)
theorem k_5_22 : Cond.methodLink "TransputerNet$Processor" (153 : Nat) ({ cls := "TransputerNet$Processor", name := "doAlternatives", desc := "(I)Z" } : MethodName) ∈ xG := xG_t5 (List.mem_of_getElem? (i := 22) (by decide +kernel)) (by decide +kernel)
theorem k_5_26 : Cond.methodLink "TransputerNet$Processor" (273 : Nat) ({ cls := "TransputerNet$Channels", name := "disableTime", desc := "()V" } : MethodName) ∈ xG := xG_t5 (List.mem_of_getElem? (i := 26) (by decide +kernel)) (by decide +kernel)
theorem k_5_30 : Cond.methodLink "TransputerNet$Channels" (141 : Nat) ({ cls := "TransputerNet$Core", name := "local", desc := "(I)I" } : MethodName) ∈ xG := xG_t5 (List.mem_of_getElem? (i := 30) (by decide +kernel)) (by decide +kernel)
theorem k_5_31 : Cond.methodLink "TransputerNet$Channels" (157 : Nat) ({ cls := "TransputerNet$Channels", name := "choose", desc := "(Z)V" } : MethodName) ∈ xG := xG_t5 (List.mem_of_getElem? (i := 31) (by decide +kernel)) (by decide +kernel)
theorem k_5_35 : Cond.constant "TransputerNet$Channels" (150 : Nat) (65535 : Int32) ∈ xG := xG_t5 (List.mem_of_getElem? (i := 35) (by decide +kernel)) (by decide +kernel)
theorem k_5_36 : Cond.methodLink "TransputerNet$Processor" (276 : Nat) ({ cls := "TransputerNet$Channels", name := "disableChannel", desc := "()V" } : MethodName) ∈ xG := xG_t5 (List.mem_of_getElem? (i := 36) (by decide +kernel)) (by decide +kernel)
theorem k_5_40 : Cond.methodLink "TransputerNet$Channels" (161 : Nat) ({ cls := "TransputerNet$Channels", name := "disableLink", desc := "(LTransputerNet$Link;)Z" } : MethodName) ∈ xG := xG_t5 (List.mem_of_getElem? (i := 40) (by decide +kernel)) (by decide +kernel)
theorem k_5_44 : Cond.methodLink "TransputerNet$Channels" (165 : Nat) ({ cls := "TransputerNet$Channels", name := "disableWord", desc := "(I)Z" } : MethodName) ∈ xG := xG_t5 (List.mem_of_getElem? (i := 44) (by decide +kernel)) (by decide +kernel)
theorem k_5_48 : Cond.methodLink "TransputerNet$Processor" (279 : Nat) ({ cls := "TransputerNet$Channels", name := "disableSkip", desc := "()V" } : MethodName) ∈ xG := xG_t5 (List.mem_of_getElem? (i := 48) (by decide +kernel)) (by decide +kernel)
theorem k_5_52 : Cond.constant "TransputerNet$Processor" (282 : Nat) (32769 : Int32) ∈ xG := xG_t5 (List.mem_of_getElem? (i := 52) (by decide +kernel)) (by decide +kernel)
theorem k_5_53 : Cond.methodLink "TransputerNet$Processor" (283 : Nat) ({ cls := "TransputerNet$Channels", name := "waitForGuard", desc := "()V" } : MethodName) ∈ xG := xG_t5 (List.mem_of_getElem? (i := 53) (by decide +kernel)) (by decide +kernel)
theorem k_5_57 : Cond.constant "TransputerNet$Channels" (130 : Nat) (32771 : Int32) ∈ xG := xG_t5 (List.mem_of_getElem? (i := 57) (by decide +kernel)) (by decide +kernel)
theorem k_5_58 : Cond.methodLink "TransputerNet$Processor" (286 : Nat) ({ cls := "TransputerNet$Channels", name := "enableTime", desc := "()V" } : MethodName) ∈ xG := xG_t5 (List.mem_of_getElem? (i := 58) (by decide +kernel)) (by decide +kernel)
theorem k_5_62 : Cond.methodLink "TransputerNet$Processor" (289 : Nat) ({ cls := "TransputerNet$Channels", name := "enableChannel", desc := "()V" } : MethodName) ∈ xG := xG_t5 (List.mem_of_getElem? (i := 62) (by decide +kernel)) (by decide +kernel)
theorem k_5_66 : Cond.methodLink "TransputerNet$Channels" (131 : Nat) ({ cls := "TransputerNet$Channels", name := "enableLink", desc := "(LTransputerNet$Link;)V" } : MethodName) ∈ xG := xG_t5 (List.mem_of_getElem? (i := 66) (by decide +kernel)) (by decide +kernel)
theorem k_5_70 : Cond.methodLink "TransputerNet$Channels" (135 : Nat) ({ cls := "TransputerNet$Channels", name := "enableWord", desc := "(I)V" } : MethodName) ∈ xG := xG_t5 (List.mem_of_getElem? (i := 70) (by decide +kernel)) (by decide +kernel)
theorem k_5_74 : Cond.methodLink "TransputerNet$Processor" (292 : Nat) ({ cls := "TransputerNet$Channels", name := "enableSkip", desc := "()V" } : MethodName) ∈ xG := xG_t5 (List.mem_of_getElem? (i := 74) (by decide +kernel)) (by decide +kernel)
theorem k_5_78 : Cond.constant "TransputerNet$Processor" (295 : Nat) (32770 : Int32) ∈ xG := xG_t5 (List.mem_of_getElem? (i := 78) (by decide +kernel)) (by decide +kernel)
theorem k_5_79 : Cond.methodLink "TransputerNet$Processor" (296 : Nat) ({ cls := "TransputerNet$Channels", name := "waitForGuardOrTime", desc := "()V" } : MethodName) ∈ xG := xG_t5 (List.mem_of_getElem? (i := 79) (by decide +kernel)) (by decide +kernel)
theorem k_5_83 : Cond.methodLink "TransputerNet$Processor" (76 : Nat) ({ cls := "TransputerNet$Core", name := "stopIfBeyond", desc := "()V" } : MethodName) ∈ xG := xG_t5 (List.mem_of_getElem? (i := 83) (by decide +kernel)) (by decide +kernel)
theorem k_5_88 : Cond.methodLink "TransputerNet" (120 : Nat) ({ cls := "TransputerNet$Core", name := "processorFact", desc := "(I)I" } : MethodName) ∈ xG := xG_t5 (List.mem_of_getElem? (i := 88) (by decide +kernel)) (by decide +kernel)
theorem k_5_92 : Cond.methodLink "TransputerNet" (128 : Nat) ({ cls := "TransputerNet$Core", name := "schedulerFact", desc := "(I)I" } : MethodName) ∈ xG := xG_t5 (List.mem_of_getElem? (i := 92) (by decide +kernel)) (by decide +kernel)
theorem k_5_100 : Cond.methodLink "TransputerNet" (131 : Nat) ({ cls := "TransputerNet$Memory", name := "byteAt", desc := "(I)I" } : MethodName) ∈ xG := xG_t5 (List.mem_of_getElem? (i := 100) (by decide +kernel)) (by decide +kernel)
theorem k_5_105 : Cond.methodLink "TransputerNet" (138 : Nat) ({ cls := "TransputerNet$Link", name := "fact", desc := "(I)I" } : MethodName) ∈ xG := xG_t5 (List.mem_of_getElem? (i := 105) (by decide +kernel)) (by decide +kernel)
theorem k_5_113 : Cond.methodLink "TransputerNet" (143 : Nat) ({ cls := "TransputerNet$Host", name := "keptAt", desc := "(I)I" } : MethodName) ∈ xG := xG_t5 (List.mem_of_getElem? (i := 113) (by decide +kernel)) (by decide +kernel)
theorem xi_X0 : ∀ w ∈ u_ws RX0 TX0 4, w ∈ xG := by
  intro w hw
  obtain ⟨k, hk, rfl⟩ := List.mem_map.mp hw
  have hk := List.mem_range.mp hk
  match k, hk with
  | 0, _ => exact xG_t2 (w := u_lay RX0 TX0 0) (List.mem_of_getElem? (i := 76) (by decide +kernel)) (by decide +kernel)
  | 1, _ => exact xG_t2 (w := u_lay RX0 TX0 1) (List.mem_of_getElem? (i := 78) (by decide +kernel)) (by decide +kernel)
  | 2, _ => exact xG_t2 (w := u_lay RX0 TX0 2) (List.mem_of_getElem? (i := 80) (by decide +kernel)) (by decide +kernel)
  | 3, _ => exact xG_t2 (w := u_lay RX0 TX0 3) (List.mem_of_getElem? (i := 82) (by decide +kernel)) (by decide +kernel)
  | k + 4, hk => exact absurd hk (by omega)
theorem xc_X0 : xCls xG vwCl 0 RX0 TX0 tyX0 4 := ⟨xi_X0, rfl, tyX0_ok, nmX0⟩
theorem xi_X1 : ∀ w ∈ u_ws RX1 TX1 11, w ∈ xG := by
  intro w hw
  obtain ⟨k, hk, rfl⟩ := List.mem_map.mp hw
  have hk := List.mem_range.mp hk
  match k, hk with
  | 0, _ => exact xG_t1 (w := u_lay RX1 TX1 0) (List.mem_of_getElem? (i := 174) (by decide +kernel)) (by decide +kernel)
  | 1, _ => exact xG_t1 (w := u_lay RX1 TX1 1) (List.mem_of_getElem? (i := 176) (by decide +kernel)) (by decide +kernel)
  | 2, _ => exact xG_t1 (w := u_lay RX1 TX1 2) (List.mem_of_getElem? (i := 178) (by decide +kernel)) (by decide +kernel)
  | 3, _ => exact xG_t1 (w := u_lay RX1 TX1 3) (List.mem_of_getElem? (i := 180) (by decide +kernel)) (by decide +kernel)
  | 4, _ => exact xG_t1 (w := u_lay RX1 TX1 4) (List.mem_of_getElem? (i := 182) (by decide +kernel)) (by decide +kernel)
  | 5, _ => exact xG_t1 (w := u_lay RX1 TX1 5) (List.mem_of_getElem? (i := 184) (by decide +kernel)) (by decide +kernel)
  | 6, _ => exact xG_t1 (w := u_lay RX1 TX1 6) (List.mem_of_getElem? (i := 186) (by decide +kernel)) (by decide +kernel)
  | 7, _ => exact xG_t1 (w := u_lay RX1 TX1 7) (List.mem_of_getElem? (i := 188) (by decide +kernel)) (by decide +kernel)
  | 8, _ => exact xG_t1 (w := u_lay RX1 TX1 8) (List.mem_of_getElem? (i := 190) (by decide +kernel)) (by decide +kernel)
  | 9, _ => exact xG_t1 (w := u_lay RX1 TX1 9) (List.mem_of_getElem? (i := 192) (by decide +kernel)) (by decide +kernel)
  | 10, _ => exact xG_t1 (w := u_lay RX1 TX1 10) (List.mem_of_getElem? (i := 194) (by decide +kernel)) (by decide +kernel)
  | k + 11, hk => exact absurd hk (by omega)
theorem xc_X1 : xCls xG vwCl 1 RX1 TX1 tyX1 11 := ⟨xi_X1, rfl, tyX1_ok, nmX1⟩
theorem xi_X9 : ∀ w ∈ u_ws RX9 TX9 8, w ∈ xG := by
  intro w hw
  obtain ⟨k, hk, rfl⟩ := List.mem_map.mp hw
  have hk := List.mem_range.mp hk
  match k, hk with
  | 0, _ => exact xG_t1 (w := u_lay RX9 TX9 0) (List.mem_of_getElem? (i := 89) (by decide +kernel)) (by decide +kernel)
  | 1, _ => exact xG_t1 (w := u_lay RX9 TX9 1) (List.mem_of_getElem? (i := 91) (by decide +kernel)) (by decide +kernel)
  | 2, _ => exact xG_t1 (w := u_lay RX9 TX9 2) (List.mem_of_getElem? (i := 93) (by decide +kernel)) (by decide +kernel)
  | 3, _ => exact xG_t1 (w := u_lay RX9 TX9 3) (List.mem_of_getElem? (i := 95) (by decide +kernel)) (by decide +kernel)
  | 4, _ => exact xG_t1 (w := u_lay RX9 TX9 4) (List.mem_of_getElem? (i := 97) (by decide +kernel)) (by decide +kernel)
  | 5, _ => exact xG_t1 (w := u_lay RX9 TX9 5) (List.mem_of_getElem? (i := 99) (by decide +kernel)) (by decide +kernel)
  | 6, _ => exact xG_t1 (w := u_lay RX9 TX9 6) (List.mem_of_getElem? (i := 101) (by decide +kernel)) (by decide +kernel)
  | 7, _ => exact xG_t1 (w := u_lay RX9 TX9 7) (List.mem_of_getElem? (i := 103) (by decide +kernel)) (by decide +kernel)
  | k + 8, hk => exact absurd hk (by omega)
theorem xc_X9 : xCls xG vwCl 9 RX9 TX9 tyX9 8 := ⟨xi_X9, rfl, tyX9_ok, nmX9⟩
theorem xi_X4 : ∀ w ∈ u_ws RX4 TX4 12, w ∈ xG := by
  intro w hw
  obtain ⟨k, hk, rfl⟩ := List.mem_map.mp hw
  have hk := List.mem_range.mp hk
  match k, hk with
  | 0, _ => exact xG_t2 (w := u_lay RX4 TX4 0) (List.mem_of_getElem? (i := 38) (by decide +kernel)) (by decide +kernel)
  | 1, _ => exact xG_t2 (w := u_lay RX4 TX4 1) (List.mem_of_getElem? (i := 40) (by decide +kernel)) (by decide +kernel)
  | 2, _ => exact xG_t2 (w := u_lay RX4 TX4 2) (List.mem_of_getElem? (i := 42) (by decide +kernel)) (by decide +kernel)
  | 3, _ => exact xG_t2 (w := u_lay RX4 TX4 3) (List.mem_of_getElem? (i := 44) (by decide +kernel)) (by decide +kernel)
  | 4, _ => exact xG_t2 (w := u_lay RX4 TX4 4) (List.mem_of_getElem? (i := 46) (by decide +kernel)) (by decide +kernel)
  | 5, _ => exact xG_t2 (w := u_lay RX4 TX4 5) (List.mem_of_getElem? (i := 48) (by decide +kernel)) (by decide +kernel)
  | 6, _ => exact xG_t2 (w := u_lay RX4 TX4 6) (List.mem_of_getElem? (i := 50) (by decide +kernel)) (by decide +kernel)
  | 7, _ => exact xG_t2 (w := u_lay RX4 TX4 7) (List.mem_of_getElem? (i := 52) (by decide +kernel)) (by decide +kernel)
  | 8, _ => exact xG_t2 (w := u_lay RX4 TX4 8) (List.mem_of_getElem? (i := 54) (by decide +kernel)) (by decide +kernel)
  | 9, _ => exact xG_t2 (w := u_lay RX4 TX4 9) (List.mem_of_getElem? (i := 56) (by decide +kernel)) (by decide +kernel)
  | 10, _ => exact xG_t2 (w := u_lay RX4 TX4 10) (List.mem_of_getElem? (i := 58) (by decide +kernel)) (by decide +kernel)
  | 11, _ => exact xG_t2 (w := u_lay RX4 TX4 11) (List.mem_of_getElem? (i := 60) (by decide +kernel)) (by decide +kernel)
  | k + 12, hk => exact absurd hk (by omega)
theorem xc_X4 : xCls xG vwCl 4 RX4 TX4 tyX4 12 := ⟨xi_X4, rfl, tyX4_ok, nmX4⟩
theorem xi_X5 : ∀ w ∈ u_ws RX5 TX5 2, w ∈ xG := by
  intro w hw
  obtain ⟨k, hk, rfl⟩ := List.mem_map.mp hw
  have hk := List.mem_range.mp hk
  match k, hk with
  | 0, _ => exact xG_t1 (w := u_lay RX5 TX5 0) (List.mem_of_getElem? (i := 50) (by decide +kernel)) (by decide +kernel)
  | 1, _ => exact xG_t1 (w := u_lay RX5 TX5 1) (List.mem_of_getElem? (i := 52) (by decide +kernel)) (by decide +kernel)
  | k + 2, hk => exact absurd hk (by omega)
theorem xc_X5 : xCls xG vwCl 5 RX5 TX5 tyX5 2 := ⟨xi_X5, rfl, tyX5_ok, nmX5⟩
theorem xi_X2 : ∀ w ∈ u_ws RX2 TX2 10, w ∈ xG := by
  intro w hw
  obtain ⟨k, hk, rfl⟩ := List.mem_map.mp hw
  have hk := List.mem_range.mp hk
  match k, hk with
  | 0, _ => exact xG_t1 (w := u_lay RX2 TX2 0) (List.mem_of_getElem? (i := 237) (by decide +kernel)) (by decide +kernel)
  | 1, _ => exact xG_t1 (w := u_lay RX2 TX2 1) (List.mem_of_getElem? (i := 239) (by decide +kernel)) (by decide +kernel)
  | 2, _ => exact xG_t2 (w := u_lay RX2 TX2 2) (List.mem_of_getElem? (i := 1) (by decide +kernel)) (by decide +kernel)
  | 3, _ => exact xG_t2 (w := u_lay RX2 TX2 3) (List.mem_of_getElem? (i := 3) (by decide +kernel)) (by decide +kernel)
  | 4, _ => exact xG_t2 (w := u_lay RX2 TX2 4) (List.mem_of_getElem? (i := 5) (by decide +kernel)) (by decide +kernel)
  | 5, _ => exact xG_t2 (w := u_lay RX2 TX2 5) (List.mem_of_getElem? (i := 7) (by decide +kernel)) (by decide +kernel)
  | 6, _ => exact xG_t2 (w := u_lay RX2 TX2 6) (List.mem_of_getElem? (i := 9) (by decide +kernel)) (by decide +kernel)
  | 7, _ => exact xG_t2 (w := u_lay RX2 TX2 7) (List.mem_of_getElem? (i := 11) (by decide +kernel)) (by decide +kernel)
  | 8, _ => exact xG_t2 (w := u_lay RX2 TX2 8) (List.mem_of_getElem? (i := 13) (by decide +kernel)) (by decide +kernel)
  | 9, _ => exact xG_t2 (w := u_lay RX2 TX2 9) (List.mem_of_getElem? (i := 15) (by decide +kernel)) (by decide +kernel)
  | k + 10, hk => exact absurd hk (by omega)
theorem xc_X2 : xCls xG vwCl 2 RX2 TX2 tyX2 10 := ⟨xi_X2, rfl, tyX2_ok, nmX2⟩
theorem xi_X8 : ∀ w ∈ u_ws RX8 TX8 2, w ∈ xG := by
  intro w hw
  obtain ⟨k, hk, rfl⟩ := List.mem_map.mp hw
  have hk := List.mem_range.mp hk
  match k, hk with
  | 0, _ => exact xG_t1 (w := u_lay RX8 TX8 0) (List.mem_of_getElem? (i := 119) (by decide +kernel)) (by decide +kernel)
  | 1, _ => exact xG_t1 (w := u_lay RX8 TX8 1) (List.mem_of_getElem? (i := 121) (by decide +kernel)) (by decide +kernel)
  | k + 2, hk => exact absurd hk (by omega)
theorem xc_X8 : xCls xG vwCl 8 RX8 TX8 tyX8 2 := ⟨xi_X8, rfl, tyX8_ok, nmX8⟩
theorem xi_X10 : ∀ w ∈ u_ws RX10 TX10 5, w ∈ xG := by
  intro w hw
  obtain ⟨k, hk, rfl⟩ := List.mem_map.mp hw
  have hk := List.mem_range.mp hk
  match k, hk with
  | 0, _ => exact xG_t1 (w := u_lay RX10 TX10 0) (List.mem_of_getElem? (i := 136) (by decide +kernel)) (by decide +kernel)
  | 1, _ => exact xG_t1 (w := u_lay RX10 TX10 1) (List.mem_of_getElem? (i := 138) (by decide +kernel)) (by decide +kernel)
  | 2, _ => exact xG_t1 (w := u_lay RX10 TX10 2) (List.mem_of_getElem? (i := 140) (by decide +kernel)) (by decide +kernel)
  | 3, _ => exact xG_t1 (w := u_lay RX10 TX10 3) (List.mem_of_getElem? (i := 142) (by decide +kernel)) (by decide +kernel)
  | 4, _ => exact xG_t1 (w := u_lay RX10 TX10 4) (List.mem_of_getElem? (i := 144) (by decide +kernel)) (by decide +kernel)
  | k + 5, hk => exact absurd hk (by omega)
theorem xc_X10 : xCls xG vwCl 10 RX10 TX10 tyX10 5 := ⟨xi_X10, rfl, tyX10_ok, nmX10⟩
theorem xi_X3 : ∀ w ∈ u_ws RX3 TX3 6, w ∈ xG := by
  intro w hw
  obtain ⟨k, hk, rfl⟩ := List.mem_map.mp hw
  have hk := List.mem_range.mp hk
  match k, hk with
  | 0, _ => exact xG_t2 (w := u_lay RX3 TX3 0) (List.mem_of_getElem? (i := 155) (by decide +kernel)) (by decide +kernel)
  | 1, _ => exact xG_t2 (w := u_lay RX3 TX3 1) (List.mem_of_getElem? (i := 157) (by decide +kernel)) (by decide +kernel)
  | 2, _ => exact xG_t2 (w := u_lay RX3 TX3 2) (List.mem_of_getElem? (i := 159) (by decide +kernel)) (by decide +kernel)
  | 3, _ => exact xG_t2 (w := u_lay RX3 TX3 3) (List.mem_of_getElem? (i := 161) (by decide +kernel)) (by decide +kernel)
  | 4, _ => exact xG_t2 (w := u_lay RX3 TX3 4) (List.mem_of_getElem? (i := 163) (by decide +kernel)) (by decide +kernel)
  | 5, _ => exact xG_t2 (w := u_lay RX3 TX3 5) (List.mem_of_getElem? (i := 165) (by decide +kernel)) (by decide +kernel)
  | k + 6, hk => exact absurd hk (by omega)
theorem xc_X3 : xCls xG vwCl 3 RX3 TX3 tyX3 6 := ⟨xi_X3, rfl, tyX3_ok, nmX3⟩
theorem xi_X6 : ∀ w ∈ u_ws RX6 TX6 9, w ∈ xG := by
  intro w hw
  obtain ⟨k, hk, rfl⟩ := List.mem_map.mp hw
  have hk := List.mem_range.mp hk
  match k, hk with
  | 0, _ => exact xG_t2 (w := u_lay RX6 TX6 0) (List.mem_of_getElem? (i := 119) (by decide +kernel)) (by decide +kernel)
  | 1, _ => exact xG_t2 (w := u_lay RX6 TX6 1) (List.mem_of_getElem? (i := 121) (by decide +kernel)) (by decide +kernel)
  | 2, _ => exact xG_t2 (w := u_lay RX6 TX6 2) (List.mem_of_getElem? (i := 123) (by decide +kernel)) (by decide +kernel)
  | 3, _ => exact xG_t2 (w := u_lay RX6 TX6 3) (List.mem_of_getElem? (i := 125) (by decide +kernel)) (by decide +kernel)
  | 4, _ => exact xG_t2 (w := u_lay RX6 TX6 4) (List.mem_of_getElem? (i := 127) (by decide +kernel)) (by decide +kernel)
  | 5, _ => exact xG_t2 (w := u_lay RX6 TX6 5) (List.mem_of_getElem? (i := 129) (by decide +kernel)) (by decide +kernel)
  | 6, _ => exact xG_t2 (w := u_lay RX6 TX6 6) (List.mem_of_getElem? (i := 131) (by decide +kernel)) (by decide +kernel)
  | 7, _ => exact xG_t2 (w := u_lay RX6 TX6 7) (List.mem_of_getElem? (i := 133) (by decide +kernel)) (by decide +kernel)
  | 8, _ => exact xG_t2 (w := u_lay RX6 TX6 8) (List.mem_of_getElem? (i := 135) (by decide +kernel)) (by decide +kernel)
  | k + 9, hk => exact absurd hk (by omega)
theorem xc_X6 : xCls xG vwCl 6 RX6 TX6 tyX6 9 := ⟨xi_X6, rfl, tyX6_ok, nmX6⟩
theorem xi_X7 : ∀ w ∈ u_ws RX7 TX7 4, w ∈ xG := by
  intro w hw
  obtain ⟨k, hk, rfl⟩ := List.mem_map.mp hw
  have hk := List.mem_range.mp hk
  match k, hk with
  | 0, _ => exact xG_t2 (w := u_lay RX7 TX7 0) (List.mem_of_getElem? (i := 93) (by decide +kernel)) (by decide +kernel)
  | 1, _ => exact xG_t2 (w := u_lay RX7 TX7 1) (List.mem_of_getElem? (i := 95) (by decide +kernel)) (by decide +kernel)
  | 2, _ => exact xG_t2 (w := u_lay RX7 TX7 2) (List.mem_of_getElem? (i := 97) (by decide +kernel)) (by decide +kernel)
  | 3, _ => exact xG_t2 (w := u_lay RX7 TX7 3) (List.mem_of_getElem? (i := 99) (by decide +kernel)) (by decide +kernel)
  | k + 4, hk => exact absurd hk (by omega)
theorem xc_X7 : xCls xG vwCl 7 RX7 TX7 tyX7 4 := ⟨xi_X7, rfl, tyX7_ok, nmX7⟩
theorem xi_X11 : ∀ w ∈ u_ws RX11 TX11 3, w ∈ xG := by
  intro w hw
  obtain ⟨k, hk, rfl⟩ := List.mem_map.mp hw
  have hk := List.mem_range.mp hk
  match k, hk with
  | 0, _ => exact xG_t2 (w := u_lay RX11 TX11 0) (List.mem_of_getElem? (i := 171) (by decide +kernel)) (by decide +kernel)
  | 1, _ => exact xG_t2 (w := u_lay RX11 TX11 1) (List.mem_of_getElem? (i := 173) (by decide +kernel)) (by decide +kernel)
  | 2, _ => exact xG_t2 (w := u_lay RX11 TX11 2) (List.mem_of_getElem? (i := 175) (by decide +kernel)) (by decide +kernel)
  | k + 3, hk => exact absurd hk (by omega)
theorem xc_X11 : xCls xG vwCl 11 RX11 TX11 tyX11 3 := ⟨xi_X11, rfl, tyX11_ok, nmX11⟩
set_option maxRecDepth 20000 in
theorem um_X5_setByte : xMt xG yX5_setByte "TransputerNet$Memory" cX5_setByte 7 none 2 := ⟨(xG_t2 (List.mem_of_getElem? (i := 216) (by decide +kernel)) (by decide +kernel)), (xG_t2 (List.mem_of_getElem? (i := 217) (by decide +kernel)) (by decide +kernel)), (xG_t1 (List.mem_of_getElem? (i := 4) (by decide +kernel)) (by decide +kernel)), (xG_t2 (List.mem_of_getElem? (i := 218) rfl) rfl), by decide +kernel⟩
set_option maxRecDepth 20000 in
theorem um_X5_setWord : xMt xG yX5_setWord "TransputerNet$Memory" cX5_setWord 7 none 2 := ⟨(xG_t1 (List.mem_of_getElem? (i := 200) (by decide +kernel)) (by decide +kernel)), (xG_t1 (List.mem_of_getElem? (i := 201) (by decide +kernel)) (by decide +kernel)), (xG_t1 (List.mem_of_getElem? (i := 4) (by decide +kernel)) (by decide +kernel)), (xG_t1 (List.mem_of_getElem? (i := 202) rfl) rfl), by decide +kernel⟩
set_option maxRecDepth 20000 in
theorem um_X9_popAll : xMt xG yX9_popAll "TransputerNet$Registers" cX9_popAll 1 none 0 := ⟨(xG_t4 (List.mem_of_getElem? (i := 51) (by decide +kernel)) (by decide +kernel)), (xG_t4 (List.mem_of_getElem? (i := 52) (by decide +kernel)) (by decide +kernel)), (xG_t1 (List.mem_of_getElem? (i := 5) (by decide +kernel)) (by decide +kernel)), (xG_t4 (List.mem_of_getElem? (i := 53) rfl) rfl), by decide +kernel⟩
set_option maxRecDepth 20000 in
theorem um_X1_own : xMt xG yX1_own "TransputerNet$Core" cX1_own 1 (some .int) 0 := ⟨(xG_t4 (List.mem_of_getElem? (i := 7) (by decide +kernel)) (by decide +kernel)), (xG_t4 (List.mem_of_getElem? (i := 8) (by decide +kernel)) (by decide +kernel)), (xG_t1 (List.mem_of_getElem? (i := 3) (by decide +kernel)) (by decide +kernel)), (xG_t4 (List.mem_of_getElem? (i := 9) rfl) rfl), by decide +kernel⟩
set_option maxRecDepth 20000 in
theorem um_X4_beginReceiving : xMt xG yX4_beginReceiving "TransputerNet$Link" cX4_beginReceiving 4 none 3 := ⟨(xG_t4 (List.mem_of_getElem? (i := 199) (by decide +kernel)) (by decide +kernel)), (xG_t4 (List.mem_of_getElem? (i := 200) (by decide +kernel)) (by decide +kernel)), (xG_t1 (List.mem_of_getElem? (i := 8) (by decide +kernel)) (by decide +kernel)), (xG_t4 (List.mem_of_getElem? (i := 201) rfl) rfl), by decide +kernel⟩
set_option maxRecDepth 20000 in
theorem um_X1_leaveWaiting : xMt xG yX1_leaveWaiting "TransputerNet$Core" cX1_leaveWaiting 1 none 0 := ⟨(xG_t4 (List.mem_of_getElem? (i := 11) (by decide +kernel)) (by decide +kernel)), (xG_t4 (List.mem_of_getElem? (i := 12) (by decide +kernel)) (by decide +kernel)), (xG_t1 (List.mem_of_getElem? (i := 3) (by decide +kernel)) (by decide +kernel)), (xG_t4 (List.mem_of_getElem? (i := 13) rfl) rfl), by decide +kernel⟩
set_option maxRecDepth 20000 in
theorem um_X4_releaseKept : xMt xG yX4_releaseKept "TransputerNet$Link" cX4_releaseKept 2 (some .int) 0 := ⟨(xG_t3 (List.mem_of_getElem? (i := 145) (by decide +kernel)) (by decide +kernel)), (xG_t3 (List.mem_of_getElem? (i := 146) (by decide +kernel)) (by decide +kernel)), (xG_t1 (List.mem_of_getElem? (i := 8) (by decide +kernel)) (by decide +kernel)), (xG_t3 (List.mem_of_getElem? (i := 147) rfl) rfl), by decide +kernel⟩
set_option maxRecDepth 20000 in
theorem um_X4_deliver : xMt xG yX4_deliver "TransputerNet$Link" cX4_deliver 2 none 1 := ⟨(xG_t3 (List.mem_of_getElem? (i := 111) (by decide +kernel)) (by decide +kernel)), (xG_t3 (List.mem_of_getElem? (i := 112) (by decide +kernel)) (by decide +kernel)), (xG_t1 (List.mem_of_getElem? (i := 8) (by decide +kernel)) (by decide +kernel)), (xG_t3 (List.mem_of_getElem? (i := 113) rfl) rfl), by decide +kernel⟩
set_option maxRecDepth 20000 in
theorem um_X1_stopWith : xMt xG yX1_stopWith "TransputerNet$Core" cX1_stopWith 2 none 1 := ⟨(xG_t3 (List.mem_of_getElem? (i := 201) (by decide +kernel)) (by decide +kernel)), (xG_t3 (List.mem_of_getElem? (i := 202) (by decide +kernel)) (by decide +kernel)), (xG_t1 (List.mem_of_getElem? (i := 3) (by decide +kernel)) (by decide +kernel)), (xG_t3 (List.mem_of_getElem? (i := 203) rfl) rfl), by decide +kernel⟩
set_option maxRecDepth 20000 in
theorem um_X1_setLocal : xMt xG yX1_setLocal "TransputerNet$Core" cX1_setLocal 3 none 2 := ⟨(xG_t4 (List.mem_of_getElem? (i := 42) (by decide +kernel)) (by decide +kernel)), (xG_t4 (List.mem_of_getElem? (i := 43) (by decide +kernel)) (by decide +kernel)), (xG_t1 (List.mem_of_getElem? (i := 3) (by decide +kernel)) (by decide +kernel)), (xG_t4 (List.mem_of_getElem? (i := 44) rfl) rfl), by decide +kernel⟩
set_option maxRecDepth 20000 in
theorem um_X5_byteAt : xMt xG yX5_byteAt "TransputerNet$Memory" cX5_byteAt 3 (some .int) 1 := ⟨(xG_t3 (List.mem_of_getElem? (i := 33) (by decide +kernel)) (by decide +kernel)), (xG_t3 (List.mem_of_getElem? (i := 34) (by decide +kernel)) (by decide +kernel)), (xG_t1 (List.mem_of_getElem? (i := 4) (by decide +kernel)) (by decide +kernel)), (xG_t3 (List.mem_of_getElem? (i := 35) rfl) rfl), by decide +kernel⟩
set_option maxRecDepth 20000 in
theorem um_X5_copy : xMt xG yX5_copy "TransputerNet$Memory" cX5_copy 5 none 3 := ⟨(xG_t4 (List.mem_of_getElem? (i := 150) (by decide +kernel)) (by decide +kernel)), (xG_t4 (List.mem_of_getElem? (i := 151) (by decide +kernel)) (by decide +kernel)), (xG_t1 (List.mem_of_getElem? (i := 4) (by decide +kernel)) (by decide +kernel)), (xG_t4 (List.mem_of_getElem? (i := 152) rfl) rfl), by decide +kernel⟩
set_option maxRecDepth 20000 in
theorem um_X8_isEmpty : xMt xG yX8_isEmpty "TransputerNet$Queue" cX8_isEmpty 1 (some .boolean) 0 := ⟨(xG_t3 (List.mem_of_getElem? (i := 78) (by decide +kernel)) (by decide +kernel)), (xG_t3 (List.mem_of_getElem? (i := 79) (by decide +kernel)) (by decide +kernel)), (xG_t1 (List.mem_of_getElem? (i := 6) (by decide +kernel)) (by decide +kernel)), (xG_t3 (List.mem_of_getElem? (i := 80) rfl) rfl), by decide +kernel⟩
set_option maxRecDepth 20000 in
theorem um_X1_makeReady : xMt xG yX1_makeReady "TransputerNet$Core" cX1_makeReady 4 none 1 := ⟨(xG_t3 (List.mem_of_getElem? (i := 73) (by decide +kernel)) (by decide +kernel)), (xG_t3 (List.mem_of_getElem? (i := 74) (by decide +kernel)) (by decide +kernel)), (xG_t1 (List.mem_of_getElem? (i := 3) (by decide +kernel)) (by decide +kernel)), (xG_t3 (List.mem_of_getElem? (i := 75) rfl) rfl), by decide +kernel⟩
set_option maxRecDepth 20000 in
theorem um_X0_linkOf : xMt xG yX0_linkOf "TransputerNet$Channels" cX0_linkOf 3 (some (.object "TransputerNet$Link")) 1 := ⟨(xG_t4 (List.mem_of_getElem? (i := 188) (by decide +kernel)) (by decide +kernel)), (xG_p (q := (yX0_linkOf, 4)) (List.mem_append_right _ (List.mem_append_right _ (List.mem_append_left _ (List.mem_of_getElem? (i := 11) (by decide +kernel))))) (by decide +kernel)), (xG_t1 (List.mem_of_getElem? (i := 12) (by decide +kernel)) (by decide +kernel)), (xG_t4 (List.mem_of_getElem? (i := 189) rfl) rfl), by decide +kernel⟩
set_option maxRecDepth 20000 in
theorem um_X5_wordAt : xMt xG yX5_wordAt "TransputerNet$Memory" cX5_wordAt 3 (some .int) 1 := ⟨(xG_t3 (List.mem_of_getElem? (i := 95) (by decide +kernel)) (by decide +kernel)), (xG_t3 (List.mem_of_getElem? (i := 96) (by decide +kernel)) (by decide +kernel)), (xG_t1 (List.mem_of_getElem? (i := 4) (by decide +kernel)) (by decide +kernel)), (xG_t3 (List.mem_of_getElem? (i := 97) rfl) rfl), by decide +kernel⟩
set_option maxRecDepth 20000 in
theorem um_X1_copyBytes : xMt xG yX1_copyBytes "TransputerNet$Core" cX1_copyBytes 4 none 3 := ⟨(xG_t4 (List.mem_of_getElem? (i := 146) (by decide +kernel)) (by decide +kernel)), (xG_t4 (List.mem_of_getElem? (i := 147) (by decide +kernel)) (by decide +kernel)), (xG_t1 (List.mem_of_getElem? (i := 3) (by decide +kernel)) (by decide +kernel)), (xG_t4 (List.mem_of_getElem? (i := 148) rfl) rfl), by decide +kernel⟩
set_option maxRecDepth 20000 in
theorem um_X0_freePartner : xMt xG yX0_freePartner "TransputerNet$Channels" cX0_freePartner 3 none 2 := ⟨(xG_t4 (List.mem_of_getElem? (i := 215) (by decide +kernel)) (by decide +kernel)), (xG_p (q := (yX0_freePartner, 4)) (List.mem_append_right _ (List.mem_append_right _ (List.mem_append_left _ (List.mem_of_getElem? (i := 14) (by decide +kernel))))) (by decide +kernel)), (xG_t1 (List.mem_of_getElem? (i := 12) (by decide +kernel)) (by decide +kernel)), (xG_t4 (List.mem_of_getElem? (i := 216) rfl) rfl), by decide +kernel⟩
set_option maxRecDepth 20000 in
theorem um_X0_waitAt : xMt xG yX0_waitAt "TransputerNet$Channels" cX0_waitAt 3 none 2 := ⟨(xG_t4 (List.mem_of_getElem? (i := 208) (by decide +kernel)) (by decide +kernel)), (xG_p (q := (yX0_waitAt, 4)) (List.mem_append_right _ (List.mem_append_right _ (List.mem_append_left _ (List.mem_of_getElem? (i := 13) (by decide +kernel))))) (by decide +kernel)), (xG_t1 (List.mem_of_getElem? (i := 12) (by decide +kernel)) (by decide +kernel)), (xG_t4 (List.mem_of_getElem? (i := 209) rfl) rfl), by decide +kernel⟩
set_option maxRecDepth 20000 in
theorem um_X0_inputFromLink : xMt xG yX0_inputFromLink "TransputerNet$Channels" cX0_inputFromLink 4 none 3 := ⟨(xG_t4 (List.mem_of_getElem? (i := 194) (by decide +kernel)) (by decide +kernel)), (xG_p (q := (yX0_inputFromLink, 4)) (List.mem_append_right _ (List.mem_append_right _ (List.mem_append_left _ (List.mem_of_getElem? (i := 12) (by decide +kernel))))) (by decide +kernel)), (xG_t1 (List.mem_of_getElem? (i := 12) (by decide +kernel)) (by decide +kernel)), (xG_t4 (List.mem_of_getElem? (i := 195) rfl) rfl), by decide +kernel⟩
set_option maxRecDepth 20000 in
theorem um_X4_beginSending : xMt xG yX4_beginSending "TransputerNet$Link" cX4_beginSending 4 none 3 := ⟨(xG_t4 (List.mem_of_getElem? (i := 227) (by decide +kernel)) (by decide +kernel)), (xG_t4 (List.mem_of_getElem? (i := 228) (by decide +kernel)) (by decide +kernel)), (xG_t1 (List.mem_of_getElem? (i := 8) (by decide +kernel)) (by decide +kernel)), (xG_t4 (List.mem_of_getElem? (i := 229) rfl) rfl), by decide +kernel⟩
set_option maxRecDepth 20000 in
theorem um_X10_keep : xMt xG yX10_keep "TransputerNet$Timers" cX10_keep 3 none 2 := ⟨(xG_t3 (List.mem_of_getElem? (i := 107) (by decide +kernel)) (by decide +kernel)), (xG_p (q := (yX10_keep, 5)) (List.mem_append_left _ (List.mem_of_getElem? (i := 9) (by decide +kernel))) (by decide +kernel)), (xG_t1 (List.mem_of_getElem? (i := 7) (by decide +kernel)) (by decide +kernel)), (xG_t3 (List.mem_of_getElem? (i := 108) rfl) rfl), by decide +kernel⟩
set_option maxRecDepth 20000 in
theorem um_X10_drop : xMt xG yX10_drop "TransputerNet$Timers" cX10_drop 4 none 1 := ⟨(xG_t3 (List.mem_of_getElem? (i := 102) (by decide +kernel)) (by decide +kernel)), (xG_t3 (List.mem_of_getElem? (i := 103) (by decide +kernel)) (by decide +kernel)), (xG_t1 (List.mem_of_getElem? (i := 7) (by decide +kernel)) (by decide +kernel)), (xG_t3 (List.mem_of_getElem? (i := 104) rfl) rfl), by decide +kernel⟩
set_option maxRecDepth 20000 in
theorem um_X1_alert : xMt xG yX1_alert "TransputerNet$Core" cX1_alert 4 (some .boolean) 1 := ⟨(xG_t3 (List.mem_of_getElem? (i := 91) (by decide +kernel)) (by decide +kernel)), (xG_t3 (List.mem_of_getElem? (i := 92) (by decide +kernel)) (by decide +kernel)), (xG_t1 (List.mem_of_getElem? (i := 3) (by decide +kernel)) (by decide +kernel)), (xG_t3 (List.mem_of_getElem? (i := 93) rfl) rfl), by decide +kernel⟩
set_option maxRecDepth 20000 in
theorem um_X0_outputToLink : xMt xG yX0_outputToLink "TransputerNet$Channels" cX0_outputToLink 4 none 3 := ⟨(xG_t4 (List.mem_of_getElem? (i := 224) (by decide +kernel)) (by decide +kernel)), (xG_p (q := (yX0_outputToLink, 4)) (List.mem_append_right _ (List.mem_append_right _ (List.mem_append_left _ (List.mem_of_getElem? (i := 15) (by decide +kernel))))) (by decide +kernel)), (xG_t1 (List.mem_of_getElem? (i := 12) (by decide +kernel)) (by decide +kernel)), (xG_t4 (List.mem_of_getElem? (i := 225) rfl) rfl), by decide +kernel⟩
set_option maxRecDepth 20000 in
theorem um_X4_resetInput : xMt xG yX4_resetInput "TransputerNet$Link" cX4_resetInput 2 (some .int) 0 := ⟨(xG_t5 (List.mem_of_getElem? (i := 2) (by decide +kernel)) (by decide +kernel)), (xG_t5 (List.mem_of_getElem? (i := 3) (by decide +kernel)) (by decide +kernel)), (xG_t1 (List.mem_of_getElem? (i := 8) (by decide +kernel)) (by decide +kernel)), (xG_t5 (List.mem_of_getElem? (i := 4) rfl) rfl), by decide +kernel⟩
set_option maxRecDepth 20000 in
theorem um_X4_resetOutput : xMt xG yX4_resetOutput "TransputerNet$Link" cX4_resetOutput 2 (some .int) 0 := ⟨(xG_t4 (List.mem_of_getElem? (i := 237) (by decide +kernel)) (by decide +kernel)), (xG_t4 (List.mem_of_getElem? (i := 238) (by decide +kernel)) (by decide +kernel)), (xG_t1 (List.mem_of_getElem? (i := 8) (by decide +kernel)) (by decide +kernel)), (xG_t4 (List.mem_of_getElem? (i := 239) rfl) rfl), by decide +kernel⟩
set_option maxRecDepth 20000 in
theorem um_X0_enableWord : xMt xG yX0_enableWord "TransputerNet$Channels" cX0_enableWord 3 none 1 := ⟨(xG_t5 (List.mem_of_getElem? (i := 72) (by decide +kernel)) (by decide +kernel)), (xG_p (q := (yX0_enableWord, 4)) (List.mem_append_right _ (List.mem_append_right _ (List.mem_append_right _ (List.mem_append_left _ (List.mem_of_getElem? (i := 5) (by decide +kernel)))))) (by decide +kernel)), (xG_t1 (List.mem_of_getElem? (i := 12) (by decide +kernel)) (by decide +kernel)), (xG_t5 (List.mem_of_getElem? (i := 73) rfl) rfl), by decide +kernel⟩
set_option maxRecDepth 20000 in
theorem um_X0_enableLink : xMt xG yX0_enableLink "TransputerNet$Channels" cX0_enableLink 2 none 1 := ⟨(xG_t5 (List.mem_of_getElem? (i := 68) (by decide +kernel)) (by decide +kernel)), (xG_p (q := (yX0_enableLink, 4)) (List.mem_append_right _ (List.mem_append_right _ (List.mem_append_right _ (List.mem_append_left _ (List.mem_of_getElem? (i := 4) (by decide +kernel)))))) (by decide +kernel)), (xG_t1 (List.mem_of_getElem? (i := 12) (by decide +kernel)) (by decide +kernel)), (xG_t5 (List.mem_of_getElem? (i := 69) rfl) rfl), by decide +kernel⟩
set_option maxRecDepth 20000 in
theorem um_X11_signed : xMs xG yX11_signed cX11_signed 1 (some .int) 1 := ⟨(xG_t3 (List.mem_of_getElem? (i := 190) (by decide +kernel)) (by decide +kernel)), (xG_t1 (List.mem_of_getElem? (i := 1) (by decide +kernel)) (by decide +kernel)), (xG_t3 (List.mem_of_getElem? (i := 191) rfl) rfl), by decide +kernel⟩
set_option maxRecDepth 20000 in
theorem um_X1_local : xMt xG yX1_local "TransputerNet$Core" cX1_local 2 (some .int) 1 := ⟨(xG_t4 (List.mem_of_getElem? (i := 21) (by decide +kernel)) (by decide +kernel)), (xG_t4 (List.mem_of_getElem? (i := 22) (by decide +kernel)) (by decide +kernel)), (xG_t1 (List.mem_of_getElem? (i := 3) (by decide +kernel)) (by decide +kernel)), (xG_t4 (List.mem_of_getElem? (i := 23) rfl) rfl), by decide +kernel⟩
set_option maxRecDepth 20000 in
theorem um_X11_isLater : xMs xG yX11_isLater cX11_isLater 2 (some .boolean) 2 := ⟨(xG_t3 (List.mem_of_getElem? (i := 187) (by decide +kernel)) (by decide +kernel)), (xG_t1 (List.mem_of_getElem? (i := 1) (by decide +kernel)) (by decide +kernel)), (xG_t3 (List.mem_of_getElem? (i := 188) rfl) rfl), by decide +kernel⟩
set_option maxRecDepth 20000 in
theorem um_X10_clockOf : xMt xG yX10_clockOf "TransputerNet$Timers" cX10_clockOf 2 (some .int) 1 := ⟨(xG_t3 (List.mem_of_getElem? (i := 183) (by decide +kernel)) (by decide +kernel)), (xG_t3 (List.mem_of_getElem? (i := 184) (by decide +kernel)) (by decide +kernel)), (xG_t1 (List.mem_of_getElem? (i := 7) (by decide +kernel)) (by decide +kernel)), (xG_t3 (List.mem_of_getElem? (i := 185) rfl) rfl), by decide +kernel⟩
set_option maxRecDepth 20000 in
theorem um_X10_add : xMt xG yX10_add "TransputerNet$Timers" cX10_add 3 (some .boolean) 2 := ⟨(xG_t5 (List.mem_of_getElem? (i := 19) (by decide +kernel)) (by decide +kernel)), (xG_t5 (List.mem_of_getElem? (i := 20) (by decide +kernel)) (by decide +kernel)), (xG_t1 (List.mem_of_getElem? (i := 7) (by decide +kernel)) (by decide +kernel)), (xG_t5 (List.mem_of_getElem? (i := 21) rfl) rfl), by decide +kernel⟩
set_option maxRecDepth 20000 in
theorem um_X1_waitForTime : xMt xG yX1_waitForTime "TransputerNet$Core" cX1_waitForTime 3 none 1 := ⟨(xG_t5 (List.mem_of_getElem? (i := 15) (by decide +kernel)) (by decide +kernel)), (xG_t5 (List.mem_of_getElem? (i := 16) (by decide +kernel)) (by decide +kernel)), (xG_t1 (List.mem_of_getElem? (i := 3) (by decide +kernel)) (by decide +kernel)), (xG_t5 (List.mem_of_getElem? (i := 17) rfl) rfl), by decide +kernel⟩
set_option maxRecDepth 20000 in
theorem um_X1_clock : xMt xG yX1_clock "TransputerNet$Core" cX1_clock 1 (some .int) 0 := ⟨(xG_t4 (List.mem_of_getElem? (i := 131) (by decide +kernel)) (by decide +kernel)), (xG_t4 (List.mem_of_getElem? (i := 132) (by decide +kernel)) (by decide +kernel)), (xG_t1 (List.mem_of_getElem? (i := 3) (by decide +kernel)) (by decide +kernel)), (xG_t4 (List.mem_of_getElem? (i := 133) rfl) rfl), by decide +kernel⟩
set_option maxRecDepth 20000 in
theorem um_X0_choose : xMt xG yX0_choose "TransputerNet$Channels" cX0_choose 2 none 1 := ⟨(xG_t5 (List.mem_of_getElem? (i := 33) (by decide +kernel)) (by decide +kernel)), (xG_p (q := (yX0_choose, 4)) (List.mem_append_right _ (List.mem_append_right _ (List.mem_append_right _ (List.mem_append_left _ (List.mem_of_getElem? (i := 1) (by decide +kernel)))))) (by decide +kernel)), (xG_t1 (List.mem_of_getElem? (i := 12) (by decide +kernel)) (by decide +kernel)), (xG_t5 (List.mem_of_getElem? (i := 34) rfl) rfl), by decide +kernel⟩
set_option maxRecDepth 20000 in
theorem um_X0_disableWord : xMt xG yX0_disableWord "TransputerNet$Channels" cX0_disableWord 3 (some .boolean) 1 := ⟨(xG_t5 (List.mem_of_getElem? (i := 46) (by decide +kernel)) (by decide +kernel)), (xG_p (q := (yX0_disableWord, 4)) (List.mem_append_right _ (List.mem_append_right _ (List.mem_append_right _ (List.mem_append_left _ (List.mem_of_getElem? (i := 3) (by decide +kernel)))))) (by decide +kernel)), (xG_t1 (List.mem_of_getElem? (i := 12) (by decide +kernel)) (by decide +kernel)), (xG_t5 (List.mem_of_getElem? (i := 47) rfl) rfl), by decide +kernel⟩
set_option maxRecDepth 20000 in
theorem um_X0_disableLink : xMt xG yX0_disableLink "TransputerNet$Channels" cX0_disableLink 2 (some .boolean) 1 := ⟨(xG_t5 (List.mem_of_getElem? (i := 42) (by decide +kernel)) (by decide +kernel)), (xG_p (q := (yX0_disableLink, 4)) (List.mem_append_right _ (List.mem_append_right _ (List.mem_append_right _ (List.mem_append_left _ (List.mem_of_getElem? (i := 2) (by decide +kernel)))))) (by decide +kernel)), (xG_t1 (List.mem_of_getElem? (i := 12) (by decide +kernel)) (by decide +kernel)), (xG_t5 (List.mem_of_getElem? (i := 43) rfl) rfl), by decide +kernel⟩
set_option maxRecDepth 20000 in
theorem um_X9_pop : xMt xG yX9_pop "TransputerNet$Registers" cX9_pop 1 none 0 := ⟨(xG_t4 (List.mem_of_getElem? (i := 46) (by decide +kernel)) (by decide +kernel)), (xG_t4 (List.mem_of_getElem? (i := 47) (by decide +kernel)) (by decide +kernel)), (xG_t1 (List.mem_of_getElem? (i := 5) (by decide +kernel)) (by decide +kernel)), (xG_t4 (List.mem_of_getElem? (i := 48) rfl) rfl), by decide +kernel⟩
set_option maxRecDepth 20000 in
theorem um_X9_setStack : xMt xG yX9_setStack "TransputerNet$Registers" cX9_setStack 4 none 3 := ⟨(xG_t3 (List.mem_of_getElem? (i := 13) (by decide +kernel)) (by decide +kernel)), (xG_t3 (List.mem_of_getElem? (i := 14) (by decide +kernel)) (by decide +kernel)), (xG_t1 (List.mem_of_getElem? (i := 5) (by decide +kernel)) (by decide +kernel)), (xG_t3 (List.mem_of_getElem? (i := 15) rfl) rfl), by decide +kernel⟩
set_option maxRecDepth 20000 in
theorem um_X9_begin : xMt xG yX9_begin "TransputerNet$Registers" cX9_begin 4 none 3 := ⟨(xG_t3 (List.mem_of_getElem? (i := 8) (by decide +kernel)) (by decide +kernel)), (xG_t3 (List.mem_of_getElem? (i := 9) (by decide +kernel)) (by decide +kernel)), (xG_t1 (List.mem_of_getElem? (i := 5) (by decide +kernel)) (by decide +kernel)), (xG_t3 (List.mem_of_getElem? (i := 10) rfl) rfl), by decide +kernel⟩
set_option maxRecDepth 20000 in
theorem um_X1_hasProcess : xMt xG yX1_hasProcess "TransputerNet$Core" cX1_hasProcess 1 (some .boolean) 0 := ⟨(xG_t3 (List.mem_of_getElem? (i := 218) (by decide +kernel)) (by decide +kernel)), (xG_t3 (List.mem_of_getElem? (i := 219) (by decide +kernel)) (by decide +kernel)), (xG_t1 (List.mem_of_getElem? (i := 3) (by decide +kernel)) (by decide +kernel)), (xG_t3 (List.mem_of_getElem? (i := 220) rfl) rfl), by decide +kernel⟩
set_option maxRecDepth 20000 in
theorem um_X1_resumeFirst : xMt xG yX1_resumeFirst "TransputerNet$Core" cX1_resumeFirst 4 none 2 := ⟨(xG_t3 (List.mem_of_getElem? (i := 223) (by decide +kernel)) (by decide +kernel)), (xG_p (q := (yX1_resumeFirst, 11)) (List.mem_append_right _ (List.mem_append_left _ (List.mem_of_getElem? (i := 0) (by decide +kernel)))) (by decide +kernel)), (xG_t1 (List.mem_of_getElem? (i := 3) (by decide +kernel)) (by decide +kernel)), (xG_t3 (List.mem_of_getElem? (i := 224) rfl) rfl), by decide +kernel⟩
set_option maxRecDepth 20000 in
theorem um_X9_copyFrom : xMt xG yX9_copyFrom "TransputerNet$Registers" cX9_copyFrom 2 none 1 := ⟨(xG_t3 (List.mem_of_getElem? (i := 213) (by decide +kernel)) (by decide +kernel)), (xG_t3 (List.mem_of_getElem? (i := 214) (by decide +kernel)) (by decide +kernel)), (xG_t1 (List.mem_of_getElem? (i := 5) (by decide +kernel)) (by decide +kernel)), (xG_t3 (List.mem_of_getElem? (i := 215) rfl) rfl), by decide +kernel⟩
set_option maxRecDepth 20000 in
theorem um_X1_wakeAtTime : xMt xG yX1_wakeAtTime "TransputerNet$Core" cX1_wakeAtTime 4 none 2 := ⟨(xG_t3 (List.mem_of_getElem? (i := 193) (by decide +kernel)) (by decide +kernel)), (xG_t3 (List.mem_of_getElem? (i := 194) (by decide +kernel)) (by decide +kernel)), (xG_t1 (List.mem_of_getElem? (i := 3) (by decide +kernel)) (by decide +kernel)), (xG_t3 (List.mem_of_getElem? (i := 195) rfl) rfl), by decide +kernel⟩
set_option maxRecDepth 20000 in
theorem um_X10_advance : xMt xG yX10_advance "TransputerNet$Timers" cX10_advance 2 none 1 := ⟨(xG_t3 (List.mem_of_getElem? (i := 174) (by decide +kernel)) (by decide +kernel)), (xG_t3 (List.mem_of_getElem? (i := 175) (by decide +kernel)) (by decide +kernel)), (xG_t1 (List.mem_of_getElem? (i := 7) (by decide +kernel)) (by decide +kernel)), (xG_t3 (List.mem_of_getElem? (i := 176) rfl) rfl), by decide +kernel⟩
set_option maxRecDepth 20000 in
theorem um_X10_release : xMt xG yX10_release "TransputerNet$Timers" cX10_release 6 none 2 := ⟨(xG_t3 (List.mem_of_getElem? (i := 179) (by decide +kernel)) (by decide +kernel)), (xG_t3 (List.mem_of_getElem? (i := 180) (by decide +kernel)) (by decide +kernel)), (xG_t1 (List.mem_of_getElem? (i := 7) (by decide +kernel)) (by decide +kernel)), (xG_t3 (List.mem_of_getElem? (i := 181) rfl) rfl), by decide +kernel⟩
set_option maxRecDepth 20000 in
theorem um_X2_endOfAcknowledgement : xMt xG yX2_endOfAcknowledgement "TransputerNet$End" cX2_endOfAcknowledgement 2 (some .int) 0 := ⟨(xG_t3 (List.mem_of_getElem? (i := 62) (by decide +kernel)) (by decide +kernel)), (xG_p (q := (yX2_endOfAcknowledgement, 10)) (List.mem_append_left _ (List.mem_of_getElem? (i := 4) (by decide +kernel))) (by decide +kernel)), (xG_t1 (List.mem_of_getElem? (i := 9) (by decide +kernel)) (by decide +kernel)), (xG_t3 (List.mem_of_getElem? (i := 63) rfl) rfl), by decide +kernel⟩
set_option maxRecDepth 20000 in
theorem um_X2_putNextBit : xMt xG yX2_putNextBit "TransputerNet$End" cX2_putNextBit 1 none 0 := ⟨(xG_t3 (List.mem_of_getElem? (i := 41) (by decide +kernel)) (by decide +kernel)), (xG_t3 (List.mem_of_getElem? (i := 42) (by decide +kernel)) (by decide +kernel)), (xG_t1 (List.mem_of_getElem? (i := 9) (by decide +kernel)) (by decide +kernel)), (xG_t3 (List.mem_of_getElem? (i := 43) rfl) rfl), by decide +kernel⟩
set_option maxRecDepth 20000 in
theorem um_X2_mayBeginData : xMt xG yX2_mayBeginData "TransputerNet$End" cX2_mayBeginData 1 (some .boolean) 0 := ⟨(xG_t3 (List.mem_of_getElem? (i := 29) (by decide +kernel)) (by decide +kernel)), (xG_t3 (List.mem_of_getElem? (i := 30) (by decide +kernel)) (by decide +kernel)), (xG_t1 (List.mem_of_getElem? (i := 9) (by decide +kernel)) (by decide +kernel)), (xG_t3 (List.mem_of_getElem? (i := 31) rfl) rfl), by decide +kernel⟩
set_option maxRecDepth 20000 in
theorem um_X2_beginData : xMt xG yX2_beginData "TransputerNet$End" cX2_beginData 2 none 1 := ⟨(xG_t3 (List.mem_of_getElem? (i := 37) (by decide +kernel)) (by decide +kernel)), (xG_t3 (List.mem_of_getElem? (i := 38) (by decide +kernel)) (by decide +kernel)), (xG_t1 (List.mem_of_getElem? (i := 9) (by decide +kernel)) (by decide +kernel)), (xG_t3 (List.mem_of_getElem? (i := 39) rfl) rfl), by decide +kernel⟩
set_option maxRecDepth 20000 in
theorem um_X2_readNextBit : xMt xG yX2_readNextBit "TransputerNet$End" cX2_readNextBit 2 (some .int) 0 := ⟨(xG_t3 (List.mem_of_getElem? (i := 57) (by decide +kernel)) (by decide +kernel)), (xG_t3 (List.mem_of_getElem? (i := 58) (by decide +kernel)) (by decide +kernel)), (xG_t1 (List.mem_of_getElem? (i := 9) (by decide +kernel)) (by decide +kernel)), (xG_t3 (List.mem_of_getElem? (i := 59) rfl) rfl), by decide +kernel⟩
set_option maxRecDepth 20000 in
theorem um_X3_keep : xMt xG yX3_keep "TransputerNet$Host" cX3_keep 2 none 1 := ⟨(xG_t3 (List.mem_of_getElem? (i := 126) (by decide +kernel)) (by decide +kernel)), (xG_p (q := (yX3_keep, 6)) (List.mem_append_left _ (List.mem_of_getElem? (i := 11) (by decide +kernel))) (by decide +kernel)), (xG_t1 (List.mem_of_getElem? (i := 13) (by decide +kernel)) (by decide +kernel)), (xG_t3 (List.mem_of_getElem? (i := 127) rfl) rfl), by decide +kernel⟩
set_option maxRecDepth 20000 in
theorem um_X3_dropFirst : xMt xG yX3_dropFirst "TransputerNet$Host" cX3_dropFirst 1 none 0 := ⟨(xG_t3 (List.mem_of_getElem? (i := 122) (by decide +kernel)) (by decide +kernel)), (xG_p (q := (yX3_dropFirst, 6)) (List.mem_append_left _ (List.mem_of_getElem? (i := 10) (by decide +kernel))) (by decide +kernel)), (xG_t1 (List.mem_of_getElem? (i := 13) (by decide +kernel)) (by decide +kernel)), (xG_t3 (List.mem_of_getElem? (i := 123) rfl) rfl), by decide +kernel⟩
set_option maxRecDepth 20000 in
theorem um_X4_finishSending : xMt xG yX4_finishSending "TransputerNet$Link" cX4_finishSending 2 none 0 := ⟨(xG_t3 (List.mem_of_getElem? (i := 70) (by decide +kernel)) (by decide +kernel)), (xG_p (q := (yX4_finishSending, 12)) (List.mem_append_left _ (List.mem_of_getElem? (i := 6) (by decide +kernel))) (by decide +kernel)), (xG_t1 (List.mem_of_getElem? (i := 8) (by decide +kernel)) (by decide +kernel)), (xG_t3 (List.mem_of_getElem? (i := 71) rfl) rfl), by decide +kernel⟩
set_option maxRecDepth 20000 in
theorem um_X4_keep : xMt xG yX4_keep "TransputerNet$Link" cX4_keep 2 none 1 := ⟨(xG_t3 (List.mem_of_getElem? (i := 88) (by decide +kernel)) (by decide +kernel)), (xG_p (q := (yX4_keep, 12)) (List.mem_append_left _ (List.mem_of_getElem? (i := 8) (by decide +kernel))) (by decide +kernel)), (xG_t1 (List.mem_of_getElem? (i := 8) (by decide +kernel)) (by decide +kernel)), (xG_t3 (List.mem_of_getElem? (i := 89) rfl) rfl), by decide +kernel⟩
set_option maxRecDepth 20000 in
theorem um_X4_accept : xMt xG yX4_accept "TransputerNet$Link" cX4_accept 3 none 1 := ⟨(xG_t3 (List.mem_of_getElem? (i := 84) (by decide +kernel)) (by decide +kernel)), (xG_p (q := (yX4_accept, 12)) (List.mem_append_left _ (List.mem_of_getElem? (i := 7) (by decide +kernel))) (by decide +kernel)), (xG_t1 (List.mem_of_getElem? (i := 8) (by decide +kernel)) (by decide +kernel)), (xG_t3 (List.mem_of_getElem? (i := 85) rfl) rfl), by decide +kernel⟩
set_option maxRecDepth 20000 in
theorem um_X4_acknowledge : xMt xG yX4_acknowledge "TransputerNet$Link" cX4_acknowledge 1 none 0 := ⟨(xG_t3 (List.mem_of_getElem? (i := 66) (by decide +kernel)) (by decide +kernel)), (xG_p (q := (yX4_acknowledge, 12)) (List.mem_append_left _ (List.mem_of_getElem? (i := 5) (by decide +kernel))) (by decide +kernel)), (xG_t1 (List.mem_of_getElem? (i := 8) (by decide +kernel)) (by decide +kernel)), (xG_t3 (List.mem_of_getElem? (i := 67) rfl) rfl), by decide +kernel⟩
set_option maxRecDepth 20000 in
theorem um_X1_stopIfBeyond : xMt xG yX1_stopIfBeyond "TransputerNet$Core" cX1_stopIfBeyond 1 none 0 := ⟨(xG_t3 (List.mem_of_getElem? (i := 197) (by decide +kernel)) (by decide +kernel)), (xG_t3 (List.mem_of_getElem? (i := 198) (by decide +kernel)) (by decide +kernel)), (xG_t1 (List.mem_of_getElem? (i := 3) (by decide +kernel)) (by decide +kernel)), (xG_t3 (List.mem_of_getElem? (i := 199) rfl) rfl), by decide +kernel⟩
set_option maxRecDepth 20000 in
theorem um_X1_strikeClock : xMt xG yX1_strikeClock "TransputerNet$Core" cX1_strikeClock 2 none 1 := ⟨(xG_t3 (List.mem_of_getElem? (i := 170) (by decide +kernel)) (by decide +kernel)), (xG_t3 (List.mem_of_getElem? (i := 171) (by decide +kernel)) (by decide +kernel)), (xG_t1 (List.mem_of_getElem? (i := 3) (by decide +kernel)) (by decide +kernel)), (xG_t3 (List.mem_of_getElem? (i := 172) rfl) rfl), by decide +kernel⟩
set_option maxRecDepth 20000 in
theorem um_X1_chooseNext : xMt xG yX1_chooseNext "TransputerNet$Core" cX1_chooseNext 1 none 0 := ⟨(xG_t3 (List.mem_of_getElem? (i := 209) (by decide +kernel)) (by decide +kernel)), (xG_t3 (List.mem_of_getElem? (i := 210) (by decide +kernel)) (by decide +kernel)), (xG_t1 (List.mem_of_getElem? (i := 3) (by decide +kernel)) (by decide +kernel)), (xG_t3 (List.mem_of_getElem? (i := 211) rfl) rfl), by decide +kernel⟩
set_option maxRecDepth 20000 in
theorem um_X6_leaveLink : xMt xG yX6_leaveLink "TransputerNet$Node" cX6_leaveLink 1 none 0 := ⟨(xG_t3 (List.mem_of_getElem? (i := 138) (by decide +kernel)) (by decide +kernel)), (xG_p (q := (yX6_leaveLink, 9)) (List.mem_append_left _ (List.mem_of_getElem? (i := 13) (by decide +kernel))) (by decide +kernel)), (xG_t1 (List.mem_of_getElem? (i := 10) (by decide +kernel)) (by decide +kernel)), (xG_t3 (List.mem_of_getElem? (i := 139) rfl) rfl), by decide +kernel⟩
set_option maxRecDepth 20000 in
theorem um_X6_launch : xMt xG yX6_launch "TransputerNet$Node" cX6_launch 4 none 3 := ⟨(xG_t3 (List.mem_of_getElem? (i := 4) (by decide +kernel)) (by decide +kernel)), (xG_t3 (List.mem_of_getElem? (i := 5) (by decide +kernel)) (by decide +kernel)), (xG_t1 (List.mem_of_getElem? (i := 10) (by decide +kernel)) (by decide +kernel)), (xG_t3 (List.mem_of_getElem? (i := 6) rfl) rfl), by decide +kernel⟩
set_option maxRecDepth 20000 in
theorem um_X4_sendWord : xMt xG yX4_sendWord "TransputerNet$Link" cX4_sendWord 2 none 1 := ⟨(xG_t3 (List.mem_of_getElem? (i := 158) (by decide +kernel)) (by decide +kernel)), (xG_t3 (List.mem_of_getElem? (i := 159) (by decide +kernel)) (by decide +kernel)), (xG_t1 (List.mem_of_getElem? (i := 8) (by decide +kernel)) (by decide +kernel)), (xG_t3 (List.mem_of_getElem? (i := 160) rfl) rfl), by decide +kernel⟩
set_option maxRecDepth 20000 in
theorem um_X6_leaveWhenAnswered : xMt xG yX6_leaveWhenAnswered "TransputerNet$Node" cX6_leaveWhenAnswered 1 none 0 := ⟨(xG_t3 (List.mem_of_getElem? (i := 134) (by decide +kernel)) (by decide +kernel)), (xG_p (q := (yX6_leaveWhenAnswered, 9)) (List.mem_append_left _ (List.mem_of_getElem? (i := 12) (by decide +kernel))) (by decide +kernel)), (xG_t1 (List.mem_of_getElem? (i := 10) (by decide +kernel)) (by decide +kernel)), (xG_t3 (List.mem_of_getElem? (i := 135) rfl) rfl), by decide +kernel⟩
set_option maxRecDepth 20000 in
theorem um_X6_obey : xMt xG yX6_obey "TransputerNet$Node" cX6_obey 3 none 2 := ⟨(xG_t3 (List.mem_of_getElem? (i := 150) (by decide +kernel)) (by decide +kernel)), (xG_p (q := (yX6_obey, 9)) (List.mem_append_left _ (List.mem_of_getElem? (i := 15) (by decide +kernel))) (by decide +kernel)), (xG_t1 (List.mem_of_getElem? (i := 10) (by decide +kernel)) (by decide +kernel)), (xG_t3 (List.mem_of_getElem? (i := 151) rfl) rfl), by decide +kernel⟩
set_option maxRecDepth 20000 in
theorem um_X6_firstLinkWithByte : xMt xG yX6_firstLinkWithByte "TransputerNet$Node" cX6_firstLinkWithByte 2 (some .int) 0 := ⟨(xG_t3 (List.mem_of_getElem? (i := 142) (by decide +kernel)) (by decide +kernel)), (xG_p (q := (yX6_firstLinkWithByte, 9)) (List.mem_append_left _ (List.mem_of_getElem? (i := 14) (by decide +kernel))) (by decide +kernel)), (xG_t1 (List.mem_of_getElem? (i := 10) (by decide +kernel)) (by decide +kernel)), (xG_t3 (List.mem_of_getElem? (i := 143) rfl) rfl), by decide +kernel⟩
set_option maxRecDepth 20000 in
theorem um_X9_jump : xMt xG yX9_jump "TransputerNet$Registers" cX9_jump 2 none 1 := ⟨(xG_t3 (List.mem_of_getElem? (i := 234) (by decide +kernel)) (by decide +kernel)), (xG_t3 (List.mem_of_getElem? (i := 235) (by decide +kernel)) (by decide +kernel)), (xG_t1 (List.mem_of_getElem? (i := 5) (by decide +kernel)) (by decide +kernel)), (xG_t3 (List.mem_of_getElem? (i := 236) rfl) rfl), by decide +kernel⟩
set_option maxRecDepth 20000 in
theorem um_X1_yieldIfSliced : xMt xG yX1_yieldIfSliced "TransputerNet$Core" cX1_yieldIfSliced 2 none 0 := ⟨(xG_t4 (List.mem_of_getElem? (i := 3) (by decide +kernel)) (by decide +kernel)), (xG_t4 (List.mem_of_getElem? (i := 4) (by decide +kernel)) (by decide +kernel)), (xG_t1 (List.mem_of_getElem? (i := 3) (by decide +kernel)) (by decide +kernel)), (xG_t4 (List.mem_of_getElem? (i := 5) rfl) rfl), by decide +kernel⟩
set_option maxRecDepth 20000 in
theorem um_X9_push : xMt xG yX9_push "TransputerNet$Registers" cX9_push 2 none 1 := ⟨(xG_t4 (List.mem_of_getElem? (i := 15) (by decide +kernel)) (by decide +kernel)), (xG_t4 (List.mem_of_getElem? (i := 16) (by decide +kernel)) (by decide +kernel)), (xG_t1 (List.mem_of_getElem? (i := 5) (by decide +kernel)) (by decide +kernel)), (xG_t4 (List.mem_of_getElem? (i := 17) rfl) rfl), by decide +kernel⟩
set_option maxRecDepth 20000 in
theorem um_X9_setWorkspace : xMt xG yX9_setWorkspace "TransputerNet$Registers" cX9_setWorkspace 2 none 1 := ⟨(xG_t4 (List.mem_of_getElem? (i := 38) (by decide +kernel)) (by decide +kernel)), (xG_t4 (List.mem_of_getElem? (i := 39) (by decide +kernel)) (by decide +kernel)), (xG_t1 (List.mem_of_getElem? (i := 5) (by decide +kernel)) (by decide +kernel)), (xG_t4 (List.mem_of_getElem? (i := 40) rfl) rfl), by decide +kernel⟩
set_option maxRecDepth 20000 in
theorem um_X7_checked : xMt xG yX7_checked "TransputerNet$Processor" cX7_checked 2 (some .int) 1 := ⟨(xG_t4 (List.mem_of_getElem? (i := 31) (by decide +kernel)) (by decide +kernel)), (xG_p (q := (yX7_checked, 4)) (List.mem_append_right _ (List.mem_append_left _ (List.mem_of_getElem? (i := 3) (by decide +kernel)))) (by decide +kernel)), (xG_t1 (List.mem_of_getElem? (i := 11) (by decide +kernel)) (by decide +kernel)), (xG_t4 (List.mem_of_getElem? (i := 32) rfl) rfl), by decide +kernel⟩
set_option maxRecDepth 20000 in
theorem um_X7_call : xMt xG yX7_call "TransputerNet$Processor" cX7_call 2 none 1 := ⟨(xG_t4 (List.mem_of_getElem? (i := 35) (by decide +kernel)) (by decide +kernel)), (xG_p (q := (yX7_call, 4)) (List.mem_append_right _ (List.mem_append_left _ (List.mem_of_getElem? (i := 4) (by decide +kernel)))) (by decide +kernel)), (xG_t1 (List.mem_of_getElem? (i := 11) (by decide +kernel)) (by decide +kernel)), (xG_t4 (List.mem_of_getElem? (i := 36) rfl) rfl), by decide +kernel⟩
set_option maxRecDepth 20000 in
theorem um_X9_replaceTwo : xMt xG yX9_replaceTwo "TransputerNet$Registers" cX9_replaceTwo 2 none 1 := ⟨(xG_t4 (List.mem_of_getElem? (i := 63) (by decide +kernel)) (by decide +kernel)), (xG_t4 (List.mem_of_getElem? (i := 64) (by decide +kernel)) (by decide +kernel)), (xG_t1 (List.mem_of_getElem? (i := 5) (by decide +kernel)) (by decide +kernel)), (xG_t4 (List.mem_of_getElem? (i := 65) rfl) rfl), by decide +kernel⟩
set_option maxRecDepth 20000 in
theorem um_X7_remainder : xMt xG yX7_remainder "TransputerNet$Processor" cX7_remainder 3 (some .int) 2 := ⟨(xG_t4 (List.mem_of_getElem? (i := 68) (by decide +kernel)) (by decide +kernel)), (xG_p (q := (yX7_remainder, 4)) (List.mem_append_right _ (List.mem_append_left _ (List.mem_of_getElem? (i := 7) (by decide +kernel)))) (by decide +kernel)), (xG_t1 (List.mem_of_getElem? (i := 11) (by decide +kernel)) (by decide +kernel)), (xG_t4 (List.mem_of_getElem? (i := 69) rfl) rfl), by decide +kernel⟩
set_option maxRecDepth 20000 in
theorem um_X7_quotient : xMt xG yX7_quotient "TransputerNet$Processor" cX7_quotient 3 (some .int) 2 := ⟨(xG_t4 (List.mem_of_getElem? (i := 72) (by decide +kernel)) (by decide +kernel)), (xG_p (q := (yX7_quotient, 4)) (List.mem_append_right _ (List.mem_append_left _ (List.mem_of_getElem? (i := 8) (by decide +kernel)))) (by decide +kernel)), (xG_t1 (List.mem_of_getElem? (i := 11) (by decide +kernel)) (by decide +kernel)), (xG_t4 (List.mem_of_getElem? (i := 73) rfl) rfl), by decide +kernel⟩
set_option maxRecDepth 20000 in
theorem um_X7_addToCrc : xMt xG yX7_addToCrc "TransputerNet$Processor" cX7_addToCrc 6 none 1 := ⟨(xG_t4 (List.mem_of_getElem? (i := 80) (by decide +kernel)) (by decide +kernel)), (xG_p (q := (yX7_addToCrc, 4)) (List.mem_append_right _ (List.mem_append_left _ (List.mem_of_getElem? (i := 10) (by decide +kernel)))) (by decide +kernel)), (xG_t1 (List.mem_of_getElem? (i := 11) (by decide +kernel)) (by decide +kernel)), (xG_t4 (List.mem_of_getElem? (i := 81) rfl) rfl), by decide +kernel⟩
set_option maxRecDepth 20000 in
theorem um_J6_bitCount_0f7a4 : xMs xG yJ6_bitCount_0f7a4 cJ6_bitCount_0f7a4 1 (some .int) 1 := ⟨(xG_t4 (List.mem_of_getElem? (i := 84) (by decide +kernel)) (by decide +kernel)), (xG_t1 (List.mem_of_getElem? (i := 15) (by decide +kernel)) (by decide +kernel)), (xG_t4 (List.mem_of_getElem? (i := 85) rfl) rfl), by decide +kernel⟩
set_option maxRecDepth 20000 in
theorem um_X7_reversed : xMs xG yX7_reversed cX7_reversed 4 (some .int) 2 := ⟨(xG_t4 (List.mem_of_getElem? (i := 90) (by decide +kernel)) (by decide +kernel)), (xG_t1 (List.mem_of_getElem? (i := 11) (by decide +kernel)) (by decide +kernel)), (xG_t4 (List.mem_of_getElem? (i := 91) rfl) rfl), by decide +kernel⟩
set_option maxRecDepth 20000 in
theorem um_X7_setDouble : xMt xG yX7_setDouble "TransputerNet$Processor" cX7_setDouble 2 none 1 := ⟨(xG_t4 (List.mem_of_getElem? (i := 102) (by decide +kernel)) (by decide +kernel)), (xG_p (q := (yX7_setDouble, 4)) (List.mem_append_right _ (List.mem_append_left _ (List.mem_of_getElem? (i := 13) (by decide +kernel)))) (by decide +kernel)), (xG_t1 (List.mem_of_getElem? (i := 11) (by decide +kernel)) (by decide +kernel)), (xG_t4 (List.mem_of_getElem? (i := 103) rfl) rfl), by decide +kernel⟩
set_option maxRecDepth 20000 in
theorem um_X7_normalise : xMt xG yX7_normalise "TransputerNet$Processor" cX7_normalise 4 none 1 := ⟨(xG_t4 (List.mem_of_getElem? (i := 98) (by decide +kernel)) (by decide +kernel)), (xG_p (q := (yX7_normalise, 4)) (List.mem_append_right _ (List.mem_append_left _ (List.mem_of_getElem? (i := 12) (by decide +kernel)))) (by decide +kernel)), (xG_t1 (List.mem_of_getElem? (i := 11) (by decide +kernel)) (by decide +kernel)), (xG_t4 (List.mem_of_getElem? (i := 99) rfl) rfl), by decide +kernel⟩
set_option maxRecDepth 20000 in
theorem um_X7_divideLong : xMt xG yX7_divideLong "TransputerNet$Processor" cX7_divideLong 4 none 2 := ⟨(xG_t4 (List.mem_of_getElem? (i := 106) (by decide +kernel)) (by decide +kernel)), (xG_p (q := (yX7_divideLong, 4)) (List.mem_append_right _ (List.mem_append_left _ (List.mem_of_getElem? (i := 14) (by decide +kernel)))) (by decide +kernel)), (xG_t1 (List.mem_of_getElem? (i := 11) (by decide +kernel)) (by decide +kernel)), (xG_t4 (List.mem_of_getElem? (i := 107) rfl) rfl), by decide +kernel⟩
set_option maxRecDepth 20000 in
theorem um_X7_failIf : xMt xG yX7_failIf "TransputerNet$Processor" cX7_failIf 2 none 1 := ⟨(xG_t4 (List.mem_of_getElem? (i := 114) (by decide +kernel)) (by decide +kernel)), (xG_p (q := (yX7_failIf, 4)) (List.mem_append_right _ (List.mem_append_right _ (List.mem_append_left _ (List.mem_of_getElem? (i := 0) (by decide +kernel))))) (by decide +kernel)), (xG_t1 (List.mem_of_getElem? (i := 11) (by decide +kernel)) (by decide +kernel)), (xG_t4 (List.mem_of_getElem? (i := 115) rfl) rfl), by decide +kernel⟩
set_option maxRecDepth 20000 in
theorem um_X7_exchangeWithI : xMt xG yX7_exchangeWithI "TransputerNet$Processor" cX7_exchangeWithI 2 none 0 := ⟨(xG_t4 (List.mem_of_getElem? (i := 124) (by decide +kernel)) (by decide +kernel)), (xG_p (q := (yX7_exchangeWithI, 4)) (List.mem_append_right _ (List.mem_append_right _ (List.mem_append_left _ (List.mem_of_getElem? (i := 2) (by decide +kernel))))) (by decide +kernel)), (xG_t1 (List.mem_of_getElem? (i := 11) (by decide +kernel)) (by decide +kernel)), (xG_t4 (List.mem_of_getElem? (i := 125) rfl) rfl), by decide +kernel⟩
set_option maxRecDepth 20000 in
theorem um_X7_endLoop : xMt xG yX7_endLoop "TransputerNet$Processor" cX7_endLoop 4 none 0 := ⟨(xG_t4 (List.mem_of_getElem? (i := 128) (by decide +kernel)) (by decide +kernel)), (xG_p (q := (yX7_endLoop, 4)) (List.mem_append_right _ (List.mem_append_right _ (List.mem_append_left _ (List.mem_of_getElem? (i := 3) (by decide +kernel))))) (by decide +kernel)), (xG_t1 (List.mem_of_getElem? (i := 11) (by decide +kernel)) (by decide +kernel)), (xG_t4 (List.mem_of_getElem? (i := 129) rfl) rfl), by decide +kernel⟩
set_option maxRecDepth 20000 in
theorem um_X7_exchangeWithW : xMt xG yX7_exchangeWithW "TransputerNet$Processor" cX7_exchangeWithW 2 none 0 := ⟨(xG_t4 (List.mem_of_getElem? (i := 138) (by decide +kernel)) (by decide +kernel)), (xG_p (q := (yX7_exchangeWithW, 4)) (List.mem_append_right _ (List.mem_append_right _ (List.mem_append_left _ (List.mem_of_getElem? (i := 4) (by decide +kernel))))) (by decide +kernel)), (xG_t1 (List.mem_of_getElem? (i := 11) (by decide +kernel)) (by decide +kernel)), (xG_t4 (List.mem_of_getElem? (i := 139) rfl) rfl), by decide +kernel⟩
set_option maxRecDepth 20000 in
theorem um_X7_moveBytes : xMt xG yX7_moveBytes "TransputerNet$Processor" cX7_moveBytes 1 none 0 := ⟨(xG_t4 (List.mem_of_getElem? (i := 142) (by decide +kernel)) (by decide +kernel)), (xG_p (q := (yX7_moveBytes, 4)) (List.mem_append_right _ (List.mem_append_right _ (List.mem_append_left _ (List.mem_of_getElem? (i := 5) (by decide +kernel))))) (by decide +kernel)), (xG_t1 (List.mem_of_getElem? (i := 11) (by decide +kernel)) (by decide +kernel)), (xG_t4 (List.mem_of_getElem? (i := 143) rfl) rfl), by decide +kernel⟩
set_option maxRecDepth 20000 in
theorem um_X10_setClocks : xMt xG yX10_setClocks "TransputerNet$Timers" cX10_setClocks 2 none 1 := ⟨(xG_t4 (List.mem_of_getElem? (i := 156) (by decide +kernel)) (by decide +kernel)), (xG_t4 (List.mem_of_getElem? (i := 157) (by decide +kernel)) (by decide +kernel)), (xG_t1 (List.mem_of_getElem? (i := 7) (by decide +kernel)) (by decide +kernel)), (xG_t4 (List.mem_of_getElem? (i := 158) rfl) rfl), by decide +kernel⟩
set_option maxRecDepth 20000 in
theorem um_X7_endProcess : xMt xG yX7_endProcess "TransputerNet$Processor" cX7_endProcess 3 none 0 := ⟨(xG_t4 (List.mem_of_getElem? (i := 165) (by decide +kernel)) (by decide +kernel)), (xG_p (q := (yX7_endProcess, 4)) (List.mem_append_right _ (List.mem_append_right _ (List.mem_append_left _ (List.mem_of_getElem? (i := 7) (by decide +kernel))))) (by decide +kernel)), (xG_t1 (List.mem_of_getElem? (i := 11) (by decide +kernel)) (by decide +kernel)), (xG_t4 (List.mem_of_getElem? (i := 166) rfl) rfl), by decide +kernel⟩
set_option maxRecDepth 20000 in
theorem um_X7_startProcess : xMt xG yX7_startProcess "TransputerNet$Processor" cX7_startProcess 1 none 0 := ⟨(xG_t4 (List.mem_of_getElem? (i := 169) (by decide +kernel)) (by decide +kernel)), (xG_p (q := (yX7_startProcess, 4)) (List.mem_append_right _ (List.mem_append_right _ (List.mem_append_left _ (List.mem_of_getElem? (i := 8) (by decide +kernel))))) (by decide +kernel)), (xG_t1 (List.mem_of_getElem? (i := 11) (by decide +kernel)) (by decide +kernel)), (xG_t4 (List.mem_of_getElem? (i := 170) rfl) rfl), by decide +kernel⟩
set_option maxRecDepth 20000 in
theorem um_X7_saveQueue : xMt xG yX7_saveQueue "TransputerNet$Processor" cX7_saveQueue 2 none 1 := ⟨(xG_t4 (List.mem_of_getElem? (i := 175) (by decide +kernel)) (by decide +kernel)), (xG_p (q := (yX7_saveQueue, 4)) (List.mem_append_right _ (List.mem_append_right _ (List.mem_append_left _ (List.mem_of_getElem? (i := 9) (by decide +kernel))))) (by decide +kernel)), (xG_t1 (List.mem_of_getElem? (i := 11) (by decide +kernel)) (by decide +kernel)), (xG_t4 (List.mem_of_getElem? (i := 176) rfl) rfl), by decide +kernel⟩
set_option maxRecDepth 20000 in
theorem um_X0_input : xMt xG yX0_input "TransputerNet$Channels" cX0_input 6 none 0 := ⟨(xG_t4 (List.mem_of_getElem? (i := 182) (by decide +kernel)) (by decide +kernel)), (xG_t4 (List.mem_of_getElem? (i := 183) (by decide +kernel)) (by decide +kernel)), (xG_t1 (List.mem_of_getElem? (i := 12) (by decide +kernel)) (by decide +kernel)), (xG_t4 (List.mem_of_getElem? (i := 184) rfl) rfl), by decide +kernel⟩
set_option maxRecDepth 20000 in
theorem um_X0_output : xMt xG yX0_output "TransputerNet$Channels" cX0_output 6 none 3 := ⟨(xG_t4 (List.mem_of_getElem? (i := 219) (by decide +kernel)) (by decide +kernel)), (xG_t4 (List.mem_of_getElem? (i := 220) (by decide +kernel)) (by decide +kernel)), (xG_t1 (List.mem_of_getElem? (i := 12) (by decide +kernel)) (by decide +kernel)), (xG_t4 (List.mem_of_getElem? (i := 221) rfl) rfl), by decide +kernel⟩
set_option maxRecDepth 20000 in
theorem um_X0_reset : xMt xG yX0_reset "TransputerNet$Channels" cX0_reset 3 none 0 := ⟨(xG_t4 (List.mem_of_getElem? (i := 232) (by decide +kernel)) (by decide +kernel)), (xG_t4 (List.mem_of_getElem? (i := 233) (by decide +kernel)) (by decide +kernel)), (xG_t1 (List.mem_of_getElem? (i := 12) (by decide +kernel)) (by decide +kernel)), (xG_t4 (List.mem_of_getElem? (i := 234) rfl) rfl), by decide +kernel⟩
set_option maxRecDepth 20000 in
theorem um_X0_inputTime : xMt xG yX0_inputTime "TransputerNet$Channels" cX0_inputTime 2 none 0 := ⟨(xG_t5 (List.mem_of_getElem? (i := 6) (by decide +kernel)) (by decide +kernel)), (xG_t5 (List.mem_of_getElem? (i := 7) (by decide +kernel)) (by decide +kernel)), (xG_t1 (List.mem_of_getElem? (i := 12) (by decide +kernel)) (by decide +kernel)), (xG_t5 (List.mem_of_getElem? (i := 8) rfl) rfl), by decide +kernel⟩
set_option maxRecDepth 20000 in
theorem um_X0_disableTime : xMt xG yX0_disableTime "TransputerNet$Channels" cX0_disableTime 1 none 0 := ⟨(xG_t5 (List.mem_of_getElem? (i := 27) (by decide +kernel)) (by decide +kernel)), (xG_t5 (List.mem_of_getElem? (i := 28) (by decide +kernel)) (by decide +kernel)), (xG_t1 (List.mem_of_getElem? (i := 12) (by decide +kernel)) (by decide +kernel)), (xG_t5 (List.mem_of_getElem? (i := 29) rfl) rfl), by decide +kernel⟩
set_option maxRecDepth 20000 in
theorem um_X0_disableChannel : xMt xG yX0_disableChannel "TransputerNet$Channels" cX0_disableChannel 3 none 0 := ⟨(xG_t5 (List.mem_of_getElem? (i := 37) (by decide +kernel)) (by decide +kernel)), (xG_t5 (List.mem_of_getElem? (i := 38) (by decide +kernel)) (by decide +kernel)), (xG_t1 (List.mem_of_getElem? (i := 12) (by decide +kernel)) (by decide +kernel)), (xG_t5 (List.mem_of_getElem? (i := 39) rfl) rfl), by decide +kernel⟩
set_option maxRecDepth 20000 in
theorem um_X0_disableSkip : xMt xG yX0_disableSkip "TransputerNet$Channels" cX0_disableSkip 1 none 0 := ⟨(xG_t5 (List.mem_of_getElem? (i := 49) (by decide +kernel)) (by decide +kernel)), (xG_t5 (List.mem_of_getElem? (i := 50) (by decide +kernel)) (by decide +kernel)), (xG_t1 (List.mem_of_getElem? (i := 12) (by decide +kernel)) (by decide +kernel)), (xG_t5 (List.mem_of_getElem? (i := 51) rfl) rfl), by decide +kernel⟩
set_option maxRecDepth 20000 in
theorem um_X0_waitForGuard : xMt xG yX0_waitForGuard "TransputerNet$Channels" cX0_waitForGuard 1 none 0 := ⟨(xG_t5 (List.mem_of_getElem? (i := 54) (by decide +kernel)) (by decide +kernel)), (xG_t5 (List.mem_of_getElem? (i := 55) (by decide +kernel)) (by decide +kernel)), (xG_t1 (List.mem_of_getElem? (i := 12) (by decide +kernel)) (by decide +kernel)), (xG_t5 (List.mem_of_getElem? (i := 56) rfl) rfl), by decide +kernel⟩
set_option maxRecDepth 20000 in
theorem um_X0_enableTime : xMt xG yX0_enableTime "TransputerNet$Channels" cX0_enableTime 1 none 0 := ⟨(xG_t5 (List.mem_of_getElem? (i := 59) (by decide +kernel)) (by decide +kernel)), (xG_t5 (List.mem_of_getElem? (i := 60) (by decide +kernel)) (by decide +kernel)), (xG_t1 (List.mem_of_getElem? (i := 12) (by decide +kernel)) (by decide +kernel)), (xG_t5 (List.mem_of_getElem? (i := 61) rfl) rfl), by decide +kernel⟩
set_option maxRecDepth 20000 in
theorem um_X0_enableChannel : xMt xG yX0_enableChannel "TransputerNet$Channels" cX0_enableChannel 2 none 0 := ⟨(xG_t5 (List.mem_of_getElem? (i := 63) (by decide +kernel)) (by decide +kernel)), (xG_t5 (List.mem_of_getElem? (i := 64) (by decide +kernel)) (by decide +kernel)), (xG_t1 (List.mem_of_getElem? (i := 12) (by decide +kernel)) (by decide +kernel)), (xG_t5 (List.mem_of_getElem? (i := 65) rfl) rfl), by decide +kernel⟩
set_option maxRecDepth 20000 in
theorem um_X0_enableSkip : xMt xG yX0_enableSkip "TransputerNet$Channels" cX0_enableSkip 1 none 0 := ⟨(xG_t5 (List.mem_of_getElem? (i := 75) (by decide +kernel)) (by decide +kernel)), (xG_t5 (List.mem_of_getElem? (i := 76) (by decide +kernel)) (by decide +kernel)), (xG_t1 (List.mem_of_getElem? (i := 12) (by decide +kernel)) (by decide +kernel)), (xG_t5 (List.mem_of_getElem? (i := 77) rfl) rfl), by decide +kernel⟩
set_option maxRecDepth 20000 in
theorem um_X0_waitForGuardOrTime : xMt xG yX0_waitForGuardOrTime "TransputerNet$Channels" cX0_waitForGuardOrTime 2 none 0 := ⟨(xG_t5 (List.mem_of_getElem? (i := 80) (by decide +kernel)) (by decide +kernel)), (xG_t5 (List.mem_of_getElem? (i := 81) (by decide +kernel)) (by decide +kernel)), (xG_t1 (List.mem_of_getElem? (i := 12) (by decide +kernel)) (by decide +kernel)), (xG_t5 (List.mem_of_getElem? (i := 82) rfl) rfl), by decide +kernel⟩
set_option maxRecDepth 20000 in
theorem um_X7_doArithmetic : xMt xG yX7_doArithmetic "TransputerNet$Processor" cX7_doArithmetic 5 (some .boolean) 1 := ⟨(xG_t4 (List.mem_of_getElem? (i := 60) (by decide +kernel)) (by decide +kernel)), (xG_p (q := (yX7_doArithmetic, 4)) (List.mem_append_right _ (List.mem_append_left _ (List.mem_of_getElem? (i := 6) (by decide +kernel)))) (by decide +kernel)), (xG_t1 (List.mem_of_getElem? (i := 11) (by decide +kernel)) (by decide +kernel)), (xG_t4 (List.mem_of_getElem? (i := 61) rfl) rfl), by decide +kernel⟩
set_option maxRecDepth 20000 in
theorem um_X7_doLogic : xMt xG yX7_doLogic "TransputerNet$Processor" cX7_doLogic 4 (some .boolean) 1 := ⟨(xG_t4 (List.mem_of_getElem? (i := 76) (by decide +kernel)) (by decide +kernel)), (xG_p (q := (yX7_doLogic, 4)) (List.mem_append_right _ (List.mem_append_left _ (List.mem_of_getElem? (i := 9) (by decide +kernel)))) (by decide +kernel)), (xG_t1 (List.mem_of_getElem? (i := 11) (by decide +kernel)) (by decide +kernel)), (xG_t4 (List.mem_of_getElem? (i := 77) rfl) rfl), by decide +kernel⟩
set_option maxRecDepth 20000 in
theorem um_X7_doDoubleWords : xMt xG yX7_doDoubleWords "TransputerNet$Processor" cX7_doDoubleWords 6 (some .boolean) 1 := ⟨(xG_t4 (List.mem_of_getElem? (i := 94) (by decide +kernel)) (by decide +kernel)), (xG_p (q := (yX7_doDoubleWords, 4)) (List.mem_append_right _ (List.mem_append_left _ (List.mem_of_getElem? (i := 11) (by decide +kernel)))) (by decide +kernel)), (xG_t1 (List.mem_of_getElem? (i := 11) (by decide +kernel)) (by decide +kernel)), (xG_t4 (List.mem_of_getElem? (i := 95) rfl) rfl), by decide +kernel⟩
set_option maxRecDepth 20000 in
theorem um_X7_doChecks : xMt xG yX7_doChecks "TransputerNet$Processor" cX7_doChecks 2 (some .boolean) 1 := ⟨(xG_t4 (List.mem_of_getElem? (i := 110) (by decide +kernel)) (by decide +kernel)), (xG_p (q := (yX7_doChecks, 4)) (List.mem_append_right _ (List.mem_append_left _ (List.mem_of_getElem? (i := 15) (by decide +kernel)))) (by decide +kernel)), (xG_t1 (List.mem_of_getElem? (i := 11) (by decide +kernel)) (by decide +kernel)), (xG_t4 (List.mem_of_getElem? (i := 111) rfl) rfl), by decide +kernel⟩
set_option maxRecDepth 20000 in
theorem um_X7_doMoves : xMt xG yX7_doMoves "TransputerNet$Processor" cX7_doMoves 2 (some .boolean) 1 := ⟨(xG_t4 (List.mem_of_getElem? (i := 119) (by decide +kernel)) (by decide +kernel)), (xG_p (q := (yX7_doMoves, 4)) (List.mem_append_right _ (List.mem_append_right _ (List.mem_append_left _ (List.mem_of_getElem? (i := 1) (by decide +kernel))))) (by decide +kernel)), (xG_t1 (List.mem_of_getElem? (i := 11) (by decide +kernel)) (by decide +kernel)), (xG_t4 (List.mem_of_getElem? (i := 120) rfl) rfl), by decide +kernel⟩
set_option maxRecDepth 20000 in
theorem um_X7_doScheduling : xMt xG yX7_doScheduling "TransputerNet$Processor" cX7_doScheduling 2 (some .boolean) 1 := ⟨(xG_t4 (List.mem_of_getElem? (i := 161) (by decide +kernel)) (by decide +kernel)), (xG_p (q := (yX7_doScheduling, 4)) (List.mem_append_right _ (List.mem_append_right _ (List.mem_append_left _ (List.mem_of_getElem? (i := 6) (by decide +kernel))))) (by decide +kernel)), (xG_t1 (List.mem_of_getElem? (i := 11) (by decide +kernel)) (by decide +kernel)), (xG_t4 (List.mem_of_getElem? (i := 162) rfl) rfl), by decide +kernel⟩
set_option maxRecDepth 20000 in
theorem um_X7_doChannels : xMt xG yX7_doChannels "TransputerNet$Processor" cX7_doChannels 2 (some .boolean) 1 := ⟨(xG_t4 (List.mem_of_getElem? (i := 179) (by decide +kernel)) (by decide +kernel)), (xG_p (q := (yX7_doChannels, 4)) (List.mem_append_right _ (List.mem_append_right _ (List.mem_append_left _ (List.mem_of_getElem? (i := 10) (by decide +kernel))))) (by decide +kernel)), (xG_t1 (List.mem_of_getElem? (i := 11) (by decide +kernel)) (by decide +kernel)), (xG_t4 (List.mem_of_getElem? (i := 180) rfl) rfl), by decide +kernel⟩
set_option maxRecDepth 20000 in
theorem um_X7_doAlternatives : xMt xG yX7_doAlternatives "TransputerNet$Processor" cX7_doAlternatives 2 (some .boolean) 1 := ⟨(xG_t5 (List.mem_of_getElem? (i := 24) (by decide +kernel)) (by decide +kernel)), (xG_p (q := (yX7_doAlternatives, 4)) (List.mem_append_right _ (List.mem_append_right _ (List.mem_append_right _ (List.mem_append_left _ (List.mem_of_getElem? (i := 0) (by decide +kernel)))))) (by decide +kernel)), (xG_t1 (List.mem_of_getElem? (i := 11) (by decide +kernel)) (by decide +kernel)), (xG_t5 (List.mem_of_getElem? (i := 25) rfl) rfl), by decide +kernel⟩
set_option maxRecDepth 20000 in
theorem um_X7_isOperationDone : xMt xG yX7_isOperationDone "TransputerNet$Processor" cX7_isOperationDone 2 (some .boolean) 1 := ⟨(xG_t4 (List.mem_of_getElem? (i := 56) (by decide +kernel)) (by decide +kernel)), (xG_p (q := (yX7_isOperationDone, 4)) (List.mem_append_right _ (List.mem_append_left _ (List.mem_of_getElem? (i := 5) (by decide +kernel)))) (by decide +kernel)), (xG_t1 (List.mem_of_getElem? (i := 11) (by decide +kernel)) (by decide +kernel)), (xG_t4 (List.mem_of_getElem? (i := 57) rfl) rfl), by decide +kernel⟩
set_option maxRecDepth 20000 in
theorem um_X7_doHighFunction : xMt xG yX7_doHighFunction "TransputerNet$Processor" cX7_doHighFunction 3 none 1 := ⟨(xG_t4 (List.mem_of_getElem? (i := 26) (by decide +kernel)) (by decide +kernel)), (xG_p (q := (yX7_doHighFunction, 4)) (List.mem_append_right _ (List.mem_append_left _ (List.mem_of_getElem? (i := 2) (by decide +kernel)))) (by decide +kernel)), (xG_t1 (List.mem_of_getElem? (i := 11) (by decide +kernel)) (by decide +kernel)), (xG_t4 (List.mem_of_getElem? (i := 27) rfl) rfl), by decide +kernel⟩
set_option maxRecDepth 20000 in
theorem um_X7_doLowFunction : xMt xG yX7_doLowFunction "TransputerNet$Processor" cX7_doLowFunction 3 none 1 := ⟨(xG_t4 (List.mem_of_getElem? (i := 0) (by decide +kernel)) (by decide +kernel)), (xG_p (q := (yX7_doLowFunction, 4)) (List.mem_append_right _ (List.mem_append_left _ (List.mem_of_getElem? (i := 1) (by decide +kernel)))) (by decide +kernel)), (xG_t1 (List.mem_of_getElem? (i := 11) (by decide +kernel)) (by decide +kernel)), (xG_t4 (List.mem_of_getElem? (i := 1) rfl) rfl), by decide +kernel⟩
set_option maxRecDepth 20000 in
theorem um_X11_nodeAt : xMt xG yX11_nodeAt "TransputerNet" cX11_nodeAt 2 (some (.object "TransputerNet$Node")) 1 := ⟨(xG_t2 (List.mem_of_getElem? (i := 192) (by decide +kernel)) (by decide +kernel)), (xG_p (q := (yX11_nodeAt, 3)) (List.mem_append_left _ (List.mem_of_getElem? (i := 2) (by decide +kernel))) (by decide +kernel)), (xG_t1 (List.mem_of_getElem? (i := 1) (by decide +kernel)) (by decide +kernel)), (xG_t2 (List.mem_of_getElem? (i := 193) rfl) rfl), by decide +kernel⟩
set_option maxRecDepth 20000 in
theorem um_X11_linkAt : xMt xG yX11_linkAt "TransputerNet" cX11_linkAt 4 (some (.object "TransputerNet$Link")) 2 := ⟨(xG_t2 (List.mem_of_getElem? (i := 188) (by decide +kernel)) (by decide +kernel)), (xG_p (q := (yX11_linkAt, 3)) (List.mem_append_left _ (List.mem_of_getElem? (i := 1) (by decide +kernel))) (by decide +kernel)), (xG_t1 (List.mem_of_getElem? (i := 1) (by decide +kernel)) (by decide +kernel)), (xG_t2 (List.mem_of_getElem? (i := 189) rfl) rfl), by decide +kernel⟩
set_option maxRecDepth 20000 in
theorem um_X11_endAt : xMt xG yX11_endAt "TransputerNet" cX11_endAt 4 (some (.object "TransputerNet$End")) 2 := ⟨(xG_t2 (List.mem_of_getElem? (i := 184) (by decide +kernel)) (by decide +kernel)), (xG_p (q := (yX11_endAt, 3)) (List.mem_append_left _ (List.mem_of_getElem? (i := 0) (by decide +kernel))) (by decide +kernel)), (xG_t1 (List.mem_of_getElem? (i := 1) (by decide +kernel)) (by decide +kernel)), (xG_t2 (List.mem_of_getElem? (i := 185) rfl) rfl), by decide +kernel⟩
set_option maxRecDepth 20000 in
theorem um_X2_isWired : xMt xG yX2_isWired "TransputerNet$End" cX2_isWired 1 (some .boolean) 0 := ⟨(xG_t2 (List.mem_of_getElem? (i := 195) (by decide +kernel)) (by decide +kernel)), (xG_t2 (List.mem_of_getElem? (i := 196) (by decide +kernel)) (by decide +kernel)), (xG_t1 (List.mem_of_getElem? (i := 9) (by decide +kernel)) (by decide +kernel)), (xG_t2 (List.mem_of_getElem? (i := 197) rfl) rfl), by decide +kernel⟩
set_option maxRecDepth 20000 in
theorem um_X2_join : xMt xG yX2_join "TransputerNet$End" cX2_join 3 none 2 := ⟨(xG_t2 (List.mem_of_getElem? (i := 199) (by decide +kernel)) (by decide +kernel)), (xG_t2 (List.mem_of_getElem? (i := 200) (by decide +kernel)) (by decide +kernel)), (xG_t1 (List.mem_of_getElem? (i := 9) (by decide +kernel)) (by decide +kernel)), (xG_t2 (List.mem_of_getElem? (i := 201) rfl) rfl), by decide +kernel⟩
set_option maxRecDepth 20000 in
theorem um_X3_hasRoomFor : xMt xG yX3_hasRoomFor "TransputerNet$Host" cX3_hasRoomFor 2 (some .boolean) 1 := ⟨(xG_t2 (List.mem_of_getElem? (i := 207) (by decide +kernel)) (by decide +kernel)), (xG_t2 (List.mem_of_getElem? (i := 208) (by decide +kernel)) (by decide +kernel)), (xG_t1 (List.mem_of_getElem? (i := 13) (by decide +kernel)) (by decide +kernel)), (xG_t2 (List.mem_of_getElem? (i := 209) rfl) rfl), by decide +kernel⟩
set_option maxRecDepth 20000 in
theorem um_X3_append : xMt xG yX3_append "TransputerNet$Host" cX3_append 2 none 1 := ⟨(xG_t2 (List.mem_of_getElem? (i := 211) (by decide +kernel)) (by decide +kernel)), (xG_t2 (List.mem_of_getElem? (i := 212) (by decide +kernel)) (by decide +kernel)), (xG_t1 (List.mem_of_getElem? (i := 13) (by decide +kernel)) (by decide +kernel)), (xG_t2 (List.mem_of_getElem? (i := 213) rfl) rfl), by decide +kernel⟩
set_option maxRecDepth 20000 in
theorem um_X11_isInMemory : xMs xG yX11_isInMemory cX11_isInMemory 1 (some .boolean) 1 := ⟨(xG_t2 (List.mem_of_getElem? (i := 226) (by decide +kernel)) (by decide +kernel)), (xG_t1 (List.mem_of_getElem? (i := 1) (by decide +kernel)) (by decide +kernel)), (xG_t2 (List.mem_of_getElem? (i := 227) rfl) rfl), by decide +kernel⟩
set_option maxRecDepth 20000 in
theorem um_X11_isWord : xMs xG yX11_isWord cX11_isWord 1 (some .boolean) 1 := ⟨(xG_t2 (List.mem_of_getElem? (i := 236) (by decide +kernel)) (by decide +kernel)), (xG_t1 (List.mem_of_getElem? (i := 1) (by decide +kernel)) (by decide +kernel)), (xG_t2 (List.mem_of_getElem? (i := 237) rfl) rfl), by decide +kernel⟩
set_option maxRecDepth 20000 in
theorem um_X6_isStartable : xMt xG yX6_isStartable "TransputerNet$Node" cX6_isStartable 1 (some .boolean) 0 := ⟨(xG_t3 (List.mem_of_getElem? (i := 0) (by decide +kernel)) (by decide +kernel)), (xG_t3 (List.mem_of_getElem? (i := 1) (by decide +kernel)) (by decide +kernel)), (xG_t1 (List.mem_of_getElem? (i := 10) (by decide +kernel)) (by decide +kernel)), (xG_t3 (List.mem_of_getElem? (i := 2) rfl) rfl), by decide +kernel⟩
set_option maxRecDepth 20000 in
theorem um_X3_putBit : xMt xG yX3_putBit "TransputerNet$Host" cX3_putBit 1 none 0 := ⟨(xG_t3 (List.mem_of_getElem? (i := 45) (by decide +kernel)) (by decide +kernel)), (xG_t3 (List.mem_of_getElem? (i := 46) (by decide +kernel)) (by decide +kernel)), (xG_t1 (List.mem_of_getElem? (i := 13) (by decide +kernel)) (by decide +kernel)), (xG_t3 (List.mem_of_getElem? (i := 47) rfl) rfl), by decide +kernel⟩
set_option maxRecDepth 20000 in
theorem um_X3_takeBit : xMt xG yX3_takeBit "TransputerNet$Host" cX3_takeBit 2 none 0 := ⟨(xG_t3 (List.mem_of_getElem? (i := 116) (by decide +kernel)) (by decide +kernel)), (xG_t3 (List.mem_of_getElem? (i := 117) (by decide +kernel)) (by decide +kernel)), (xG_t1 (List.mem_of_getElem? (i := 13) (by decide +kernel)) (by decide +kernel)), (xG_t3 (List.mem_of_getElem? (i := 118) rfl) rfl), by decide +kernel⟩
set_option maxRecDepth 20000 in
theorem um_X4_takeBit : xMt xG yX4_takeBit "TransputerNet$Link" cX4_takeBit 2 none 0 := ⟨(xG_t3 (List.mem_of_getElem? (i := 53) (by decide +kernel)) (by decide +kernel)), (xG_t3 (List.mem_of_getElem? (i := 54) (by decide +kernel)) (by decide +kernel)), (xG_t1 (List.mem_of_getElem? (i := 8) (by decide +kernel)) (by decide +kernel)), (xG_t3 (List.mem_of_getElem? (i := 55) rfl) rfl), by decide +kernel⟩
set_option maxRecDepth 20000 in
theorem um_X4_putBit : xMt xG yX4_putBit "TransputerNet$Link" cX4_putBit 1 none 0 := ⟨(xG_t3 (List.mem_of_getElem? (i := 25) (by decide +kernel)) (by decide +kernel)), (xG_t3 (List.mem_of_getElem? (i := 26) (by decide +kernel)) (by decide +kernel)), (xG_t1 (List.mem_of_getElem? (i := 8) (by decide +kernel)) (by decide +kernel)), (xG_t3 (List.mem_of_getElem? (i := 27) rfl) rfl), by decide +kernel⟩
set_option maxRecDepth 20000 in
theorem um_X11_passBits : xMt xG yX11_passBits "TransputerNet" cX11_passBits 9 none 0 := ⟨(xG_t3 (List.mem_of_getElem? (i := 22) (by decide +kernel)) (by decide +kernel)), (xG_p (q := (yX11_passBits, 3)) (List.mem_append_left _ (List.mem_of_getElem? (i := 3) (by decide +kernel))) (by decide +kernel)), (xG_t1 (List.mem_of_getElem? (i := 1) (by decide +kernel)) (by decide +kernel)), (xG_t3 (List.mem_of_getElem? (i := 23) rfl) rfl), by decide +kernel⟩
set_option maxRecDepth 20000 in
theorem um_X6_prepareTurn : xMt xG yX6_prepareTurn "TransputerNet$Node" cX6_prepareTurn 1 (some .boolean) 0 := ⟨(xG_t3 (List.mem_of_getElem? (i := 205) (by decide +kernel)) (by decide +kernel)), (xG_t3 (List.mem_of_getElem? (i := 206) (by decide +kernel)) (by decide +kernel)), (xG_t1 (List.mem_of_getElem? (i := 10) (by decide +kernel)) (by decide +kernel)), (xG_t3 (List.mem_of_getElem? (i := 207) rfl) rfl), by decide +kernel⟩
set_option maxRecDepth 20000 in
theorem um_X7_execute : xMt xG yX7_execute "TransputerNet$Processor" cX7_execute 4 none 0 := ⟨(xG_t3 (List.mem_of_getElem? (i := 229) (by decide +kernel)) (by decide +kernel)), (xG_t3 (List.mem_of_getElem? (i := 230) (by decide +kernel)) (by decide +kernel)), (xG_t1 (List.mem_of_getElem? (i := 11) (by decide +kernel)) (by decide +kernel)), (xG_t3 (List.mem_of_getElem? (i := 231) rfl) rfl), by decide +kernel⟩
set_option maxRecDepth 20000 in
theorem um_X6_takeBootByte : xMt xG yX6_takeBootByte "TransputerNet$Node" cX6_takeBootByte 2 none 0 := ⟨(xG_t3 (List.mem_of_getElem? (i := 129) (by decide +kernel)) (by decide +kernel)), (xG_t3 (List.mem_of_getElem? (i := 130) (by decide +kernel)) (by decide +kernel)), (xG_t1 (List.mem_of_getElem? (i := 10) (by decide +kernel)) (by decide +kernel)), (xG_t3 (List.mem_of_getElem? (i := 131) rfl) rfl), by decide +kernel⟩
set_option maxRecDepth 20000 in
theorem um_X6_changeClocks : xMt xG yX6_changeClocks "TransputerNet$Node" cX6_changeClocks 2 none 1 := ⟨(xG_t3 (List.mem_of_getElem? (i := 166) (by decide +kernel)) (by decide +kernel)), (xG_t3 (List.mem_of_getElem? (i := 167) (by decide +kernel)) (by decide +kernel)), (xG_t1 (List.mem_of_getElem? (i := 10) (by decide +kernel)) (by decide +kernel)), (xG_t3 (List.mem_of_getElem? (i := 168) rfl) rfl), by decide +kernel⟩
set_option maxRecDepth 20000 in
theorem um_X1_schedulerFact : xMt xG yX1_schedulerFact "TransputerNet$Core" cX1_schedulerFact 2 (some .int) 1 := ⟨(xG_t5 (List.mem_of_getElem? (i := 93) (by decide +kernel)) (by decide +kernel)), (xG_t5 (List.mem_of_getElem? (i := 94) (by decide +kernel)) (by decide +kernel)), (xG_t1 (List.mem_of_getElem? (i := 3) (by decide +kernel)) (by decide +kernel)), (xG_t5 (List.mem_of_getElem? (i := 95) rfl) rfl), by decide +kernel⟩
set_option maxRecDepth 20000 in
theorem um_X1_processorFact : xMt xG yX1_processorFact "TransputerNet$Core" cX1_processorFact 2 (some .int) 1 := ⟨(xG_t5 (List.mem_of_getElem? (i := 89) (by decide +kernel)) (by decide +kernel)), (xG_t5 (List.mem_of_getElem? (i := 90) (by decide +kernel)) (by decide +kernel)), (xG_t1 (List.mem_of_getElem? (i := 3) (by decide +kernel)) (by decide +kernel)), (xG_t5 (List.mem_of_getElem? (i := 91) rfl) rfl), by decide +kernel⟩
set_option maxRecDepth 20000 in
theorem um_X4_fact : xMt xG yX4_fact "TransputerNet$Link" cX4_fact 2 (some .int) 1 := ⟨(xG_t5 (List.mem_of_getElem? (i := 106) (by decide +kernel)) (by decide +kernel)), (xG_t5 (List.mem_of_getElem? (i := 107) (by decide +kernel)) (by decide +kernel)), (xG_t1 (List.mem_of_getElem? (i := 8) (by decide +kernel)) (by decide +kernel)), (xG_t5 (List.mem_of_getElem? (i := 108) rfl) rfl), by decide +kernel⟩
set_option maxRecDepth 20000 in
theorem um_X3_keptAt : xMt xG yX3_keptAt "TransputerNet$Host" cX3_keptAt 2 (some .int) 1 := ⟨(xG_t5 (List.mem_of_getElem? (i := 114) (by decide +kernel)) (by decide +kernel)), (xG_t5 (List.mem_of_getElem? (i := 115) (by decide +kernel)) (by decide +kernel)), (xG_t1 (List.mem_of_getElem? (i := 13) (by decide +kernel)) (by decide +kernel)), (xG_t5 (List.mem_of_getElem? (i := 116) rfl) rfl), by decide +kernel⟩
