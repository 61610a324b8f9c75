/-! WORDS: each one is in pr_U -/
theorem prw_0 : (Cond.fieldLink prn_T 25 prn_T "bytes" "I") ∈ pr_U := pr_inU (lw_in1 (List.mem_of_getElem? (i := 88) rfl)) rfl
theorem prw_1 : (Cond.instanceMethod pry_T_bytes) ∈ pr_U := pr_inU (lw_in2 (List.mem_of_getElem? (i := 99) rfl)) rfl
theorem prw_2 : (Cond.selects prn_T pry_T_bytes pry_T_bytes) ∈ pr_U := pr_inU (lw_in2 (List.mem_of_getElem? (i := 100) rfl)) rfl
theorem prw_3 : (Cond.initialized prn_T) ∈ pr_U := pr_inU (lw_in1 (List.mem_of_getElem? (i := 3) rfl)) rfl
theorem prw_4 : (Cond.code pry_T_bytes prb_T_bytes 1 (some .int)) ∈ pr_U := pr_inU (lw_in2 (List.mem_of_getElem? (i := 101) rfl)) rfl
theorem prw_5 : (Cond.fieldLink prn_T 9 prn_T "text" "[B") ∈ pr_U := pr_inU (lw_in1 (List.mem_of_getElem? (i := 87) rfl)) rfl
theorem prw_6 : (Cond.instanceMethod pry_T_addBytes) ∈ pr_U := pr_inU (lw_in2 (List.mem_of_getElem? (i := 103) rfl)) rfl
theorem prw_7 : (Cond.selects prn_T pry_T_addBytes pry_T_addBytes) ∈ pr_U := pr_inU (lw_in2 (List.mem_of_getElem? (i := 104) rfl)) rfl
theorem prw_8 : (Cond.code pry_T_addBytes prb_T_addBytes 3 none) ∈ pr_U := pr_inU (lw_in2 (List.mem_of_getElem? (i := 105) rfl)) rfl
theorem prw_9 : (Cond.fieldLink prn_P 15 prn_P "tokens" "LProgramRuns$Tokens;") ∈ pr_U := pr_inU (lw_in2 (List.mem_of_getElem? (i := 69) rfl)) rfl
theorem prw_10 : (Cond.methodLink prn_P 51 pry_T_bytes) ∈ pr_U := pr_inU (lw_in2 (List.mem_of_getElem? (i := 98) rfl)) rfl
theorem prw_11 : (Cond.methodLink prn_P 55 pry_T_addBytes) ∈ pr_U := pr_inU (lw_in2 (List.mem_of_getElem? (i := 102) rfl)) rfl
theorem prw_12 : (Cond.instanceMethod pry_P_feed) ∈ pr_U := pr_inU (lw_in2 (List.mem_of_getElem? (i := 95) rfl)) rfl
theorem prw_13 : (Cond.selects prn_P pry_P_feed pry_P_feed) ∈ pr_U := pr_inU (lw_in2 (List.mem_of_getElem? (i := 96) rfl)) rfl
theorem prw_14 : (Cond.initialized prn_P) ∈ pr_U := pr_inU (lw_in1 (List.mem_of_getElem? (i := 1) rfl)) rfl
theorem prw_15 : (Cond.code pry_P_feed prb_P_feed 6 (some .int)) ∈ pr_U := pr_inU (lw_in2 (List.mem_of_getElem? (i := 97) rfl)) rfl
theorem prw_16 : (Cond.fieldLink prn_M 43 prn_M "at" "I") ∈ pr_U := pr_inU (lw_in2 (List.mem_of_getElem? (i := 34) rfl)) rfl
theorem prw_17 : (Cond.fieldLink prn_M 46 prn_M "done" "I") ∈ pr_U := pr_inU (lw_in2 (List.mem_of_getElem? (i := 35) rfl)) rfl
theorem prw_18 : (Cond.fieldLink prn_M 49 prn_M "taken" "I") ∈ pr_U := pr_inU (lw_in2 (List.mem_of_getElem? (i := 36) rfl)) rfl
theorem prw_19 : (Cond.fieldLink prn_M 52 prn_M "trap" "I") ∈ pr_U := pr_inU (lw_in2 (List.mem_of_getElem? (i := 37) rfl)) rfl
theorem prw_20 : (Cond.instanceMethod pry_M_forget) ∈ pr_U := pr_inU (lw_in2 (List.mem_of_getElem? (i := 111) rfl)) rfl
theorem prw_21 : (Cond.selects prn_M pry_M_forget pry_M_forget) ∈ pr_U := pr_inU (lw_in2 (List.mem_of_getElem? (i := 112) rfl)) rfl
theorem prw_22 : (Cond.initialized prn_M) ∈ pr_U := pr_inU (lw_in1 (List.mem_of_getElem? (i := 8) rfl)) rfl
theorem prw_23 : (Cond.code pry_M_forget prb_M_forget 1 none) ∈ pr_U := pr_inU (lw_in2 (List.mem_of_getElem? (i := 113) rfl)) rfl
theorem prw_24 : (Cond.fieldLink prn_T 29 prn_T "length" "I") ∈ pr_U := pr_inU (lw_in1 (List.mem_of_getElem? (i := 92) rfl)) rfl
theorem prw_25 : (Cond.instanceMethod pry_T_byteAt) ∈ pr_U := pr_inU (lw_in2 (List.mem_of_getElem? (i := 124) rfl)) rfl
theorem prw_26 : (Cond.selects prn_T pry_T_byteAt pry_T_byteAt) ∈ pr_U := pr_inU (lw_in0 (List.mem_of_getElem? (i := 1) rfl)) rfl
theorem prw_27 : (Cond.code pry_T_byteAt prb_T_byteAt 2 (some .int)) ∈ pr_U := pr_inU (lw_in2 (List.mem_of_getElem? (i := 125) rfl)) rfl
theorem prw_28 : (Cond.methodLink prn_T 55 pry_T_byteAt) ∈ pr_U := pr_inU (lw_in2 (List.mem_of_getElem? (i := 122) rfl)) rfl
theorem prw_29 : (Cond.instanceMethod pry_T_behindBlanks) ∈ pr_U := pr_inU (lw_in2 (List.mem_of_getElem? (i := 120) rfl)) rfl
theorem prw_30 : (Cond.selects prn_T pry_T_behindBlanks pry_T_behindBlanks) ∈ pr_U := pr_inU (lw_in0 (List.mem_of_getElem? (i := 0) rfl)) rfl
theorem prw_31 : (Cond.code pry_T_behindBlanks prb_T_behindBlanks 5 (some .int)) ∈ pr_U := pr_inU (lw_in2 (List.mem_of_getElem? (i := 121) rfl)) rfl
theorem prw_32 : (Cond.static pry_T_isDigit) ∈ pr_U := pr_inU (lw_in2 (List.mem_of_getElem? (i := 131) rfl)) rfl
theorem prw_33 : (Cond.code pry_T_isDigit prb_T_isDigit 1 (some .boolean)) ∈ pr_U := pr_inU (lw_in2 (List.mem_of_getElem? (i := 132) rfl)) rfl
theorem prw_34 : (Cond.methodLink prn_T 58 pry_T_isDigit) ∈ pr_U := pr_inU (lw_in2 (List.mem_of_getElem? (i := 130) rfl)) rfl
theorem prw_35 : (Cond.static pry_T_isInName) ∈ pr_U := pr_inU (lw_in2 (List.mem_of_getElem? (i := 141) rfl)) rfl
theorem prw_36 : (Cond.code pry_T_isInName prb_T_isInName 1 (some .boolean)) ∈ pr_U := pr_inU (lw_in2 (List.mem_of_getElem? (i := 142) rfl)) rfl
theorem prw_37 : (Cond.fieldLink prn_T 32 prn_T "count" "I") ∈ pr_U := pr_inU (lw_in1 (List.mem_of_getElem? (i := 93) rfl)) rfl
theorem prw_38 : (Cond.fieldLink prn_T 15 prn_T "kinds" "[B") ∈ pr_U := pr_inU (lw_in1 (List.mem_of_getElem? (i := 89) rfl)) rfl
theorem prw_39 : (Cond.fieldLink prn_T 18 prn_T "places" "[I") ∈ pr_U := pr_inU (lw_in1 (List.mem_of_getElem? (i := 90) rfl)) rfl
theorem prw_40 : (Cond.fieldLink prn_T 22 prn_T "values" "[I") ∈ pr_U := pr_inU (lw_in1 (List.mem_of_getElem? (i := 91) rfl)) rfl
theorem prw_41 : (Cond.instanceMethod pry_T_add) ∈ pr_U := pr_inU (lw_in2 (List.mem_of_getElem? (i := 145) rfl)) rfl
theorem prw_42 : (Cond.selects prn_T pry_T_add pry_T_add) ∈ pr_U := pr_inU (lw_in0 (List.mem_of_getElem? (i := 4) rfl)) rfl
theorem prw_43 : (Cond.code pry_T_add prb_T_add 4 none) ∈ pr_U := pr_inU (lw_in2 (List.mem_of_getElem? (i := 146) rfl)) rfl
theorem prw_44 : (Cond.constantLong prn_T 74 10) ∈ pr_U := pr_inU (lw_in2 (List.mem_of_getElem? (i := 137) rfl)) rfl
theorem prw_45 : (Cond.constantLong prn_T 76 48) ∈ pr_U := pr_inU (lw_in2 (List.mem_of_getElem? (i := 138) rfl)) rfl
theorem prw_46 : (Cond.constantLong prn_T 78 2147483647) ∈ pr_U := pr_inU (lw_in2 (List.mem_of_getElem? (i := 139) rfl)) rfl
theorem prw_47 : (Cond.methodLink prn_T 65 pry_T_isInName) ∈ pr_U := pr_inU (lw_in2 (List.mem_of_getElem? (i := 140) rfl)) rfl
theorem prw_48 : (Cond.methodLink prn_T 42 pry_T_add) ∈ pr_U := pr_inU (lw_in2 (List.mem_of_getElem? (i := 143) rfl)) rfl
theorem prw_49 : (Cond.instanceMethod pry_T_readNumber) ∈ pr_U := pr_inU (lw_in2 (List.mem_of_getElem? (i := 135) rfl)) rfl
theorem prw_50 : (Cond.selects prn_T pry_T_readNumber pry_T_readNumber) ∈ pr_U := pr_inU (lw_in0 (List.mem_of_getElem? (i := 3) rfl)) rfl
theorem prw_51 : (Cond.code pry_T_readNumber prb_T_readNumber 6 (some .int)) ∈ pr_U := pr_inU (lw_in2 (List.mem_of_getElem? (i := 136) rfl)) rfl
theorem prw_52 : (Cond.instanceMethod pry_T_wordOrName) ∈ pr_U := pr_inU (lw_in2 (List.mem_of_getElem? (i := 153) rfl)) rfl
theorem prw_53 : (Cond.selects prn_T pry_T_wordOrName pry_T_wordOrName) ∈ pr_U := pr_inU (lw_in0 (List.mem_of_getElem? (i := 6) rfl)) rfl
theorem prw_54 : (Cond.code pry_T_wordOrName prb_T_wordOrName 6 (some .int)) ∈ pr_U := pr_inU (lw_in2 (List.mem_of_getElem? (i := 154) rfl)) rfl
theorem prw_55 : (Cond.methodLink prn_T 80 pry_T_wordOrName) ∈ pr_U := pr_inU (lw_in2 (List.mem_of_getElem? (i := 151) rfl)) rfl
theorem prw_56 : (Cond.instanceMethod pry_T_readName) ∈ pr_U := pr_inU (lw_in2 (List.mem_of_getElem? (i := 149) rfl)) rfl
theorem prw_57 : (Cond.selects prn_T pry_T_readName pry_T_readName) ∈ pr_U := pr_inU (lw_in0 (List.mem_of_getElem? (i := 5) rfl)) rfl
theorem prw_58 : (Cond.code pry_T_readName prb_T_readName 4 (some .int)) ∈ pr_U := pr_inU (lw_in2 (List.mem_of_getElem? (i := 150) rfl)) rfl
theorem prw_59 : (Cond.static pry_T_signOfTwo) ∈ pr_U := pr_inU (lw_in2 (List.mem_of_getElem? (i := 162) rfl)) rfl
theorem prw_60 : (Cond.code pry_T_signOfTwo prb_T_signOfTwo 2 (some .int)) ∈ pr_U := pr_inU (lw_in2 (List.mem_of_getElem? (i := 163) rfl)) rfl
theorem prw_61 : (Cond.static pry_T_signOfOne) ∈ pr_U := pr_inU (lw_in2 (List.mem_of_getElem? (i := 165) rfl)) rfl
theorem prw_62 : (Cond.code pry_T_signOfOne prb_T_signOfOne 1 (some .int)) ∈ pr_U := pr_inU (lw_in2 (List.mem_of_getElem? (i := 166) rfl)) rfl
theorem prw_63 : (Cond.methodLink prn_T 88 pry_T_signOfTwo) ∈ pr_U := pr_inU (lw_in2 (List.mem_of_getElem? (i := 161) rfl)) rfl
theorem prw_64 : (Cond.methodLink prn_T 91 pry_T_signOfOne) ∈ pr_U := pr_inU (lw_in2 (List.mem_of_getElem? (i := 164) rfl)) rfl
theorem prw_65 : (Cond.instanceMethod pry_T_readSign) ∈ pr_U := pr_inU (lw_in2 (List.mem_of_getElem? (i := 159) rfl)) rfl
theorem prw_66 : (Cond.selects prn_T pry_T_readSign pry_T_readSign) ∈ pr_U := pr_inU (lw_in0 (List.mem_of_getElem? (i := 7) rfl)) rfl
theorem prw_67 : (Cond.code pry_T_readSign prb_T_readSign 4 (some .int)) ∈ pr_U := pr_inU (lw_in2 (List.mem_of_getElem? (i := 160) rfl)) rfl
theorem prw_68 : (Cond.methodLink prn_T 71 pry_T_readSign) ∈ pr_U := pr_inU (lw_in2 (List.mem_of_getElem? (i := 157) rfl)) rfl
theorem prw_69 : (Cond.methodLink prn_T 68 pry_T_readName) ∈ pr_U := pr_inU (lw_in2 (List.mem_of_getElem? (i := 147) rfl)) rfl
theorem prw_70 : (Cond.methodLink prn_T 62 pry_T_readNumber) ∈ pr_U := pr_inU (lw_in2 (List.mem_of_getElem? (i := 133) rfl)) rfl
theorem prw_71 : (Cond.instanceMethod pry_T_readToken) ∈ pr_U := pr_inU (lw_in2 (List.mem_of_getElem? (i := 128) rfl)) rfl
theorem prw_72 : (Cond.selects prn_T pry_T_readToken pry_T_readToken) ∈ pr_U := pr_inU (lw_in0 (List.mem_of_getElem? (i := 2) rfl)) rfl
theorem prw_73 : (Cond.code pry_T_readToken prb_T_readToken 3 (some .int)) ∈ pr_U := pr_inU (lw_in2 (List.mem_of_getElem? (i := 129) rfl)) rfl
theorem prw_74 : (Cond.methodLink prn_T 35 pry_T_behindBlanks) ∈ pr_U := pr_inU (lw_in2 (List.mem_of_getElem? (i := 118) rfl)) rfl
theorem prw_75 : (Cond.methodLink prn_T 39 pry_T_readToken) ∈ pr_U := pr_inU (lw_in2 (List.mem_of_getElem? (i := 126) rfl)) rfl
theorem prw_76 : (Cond.instanceMethod pry_T_readText) ∈ pr_U := pr_inU (lw_in2 (List.mem_of_getElem? (i := 115) rfl)) rfl
theorem prw_77 : (Cond.selects prn_T pry_T_readText pry_T_readText) ∈ pr_U := pr_inU (lw_in2 (List.mem_of_getElem? (i := 116) rfl)) rfl
theorem prw_78 : (Cond.code pry_T_readText prb_T_readText 5 none) ∈ pr_U := pr_inU (lw_in2 (List.mem_of_getElem? (i := 117) rfl)) rfl
theorem prw_79 : (Cond.fieldLink prn_G 53 prn_G "functions" "I") ∈ pr_U := pr_inU (lw_in1 (List.mem_of_getElem? (i := 34) rfl)) rfl
theorem prw_80 : (Cond.fieldLink prn_G 57 prn_G "statements" "I") ∈ pr_U := pr_inU (lw_in1 (List.mem_of_getElem? (i := 40) rfl)) rfl
theorem prw_81 : (Cond.fieldLink prn_G 60 prn_G "operationCount" "I") ∈ pr_U := pr_inU (lw_in1 (List.mem_of_getElem? (i := 43) rfl)) rfl
theorem prw_82 : (Cond.instanceMethod pry_G_clear) ∈ pr_U := pr_inU (lw_in2 (List.mem_of_getElem? (i := 172) rfl)) rfl
theorem prw_83 : (Cond.selects prn_G pry_G_clear pry_G_clear) ∈ pr_U := pr_inU (lw_in2 (List.mem_of_getElem? (i := 173) rfl)) rfl
theorem prw_84 : (Cond.initialized prn_G) ∈ pr_U := pr_inU (lw_in1 (List.mem_of_getElem? (i := 2) rfl)) rfl
theorem prw_85 : (Cond.code pry_G_clear prb_G_clear 1 none) ∈ pr_U := pr_inU (lw_in2 (List.mem_of_getElem? (i := 174) rfl)) rfl
theorem prw_86 : (Cond.instanceMethod pry_T_kindAt) ∈ pr_U := pr_inU (lw_in2 (List.mem_of_getElem? (i := 184) rfl)) rfl
theorem prw_87 : (Cond.selects prn_T pry_T_kindAt pry_T_kindAt) ∈ pr_U := pr_inU (lw_in2 (List.mem_of_getElem? (i := 185) rfl)) rfl
theorem prw_88 : (Cond.code pry_T_kindAt prb_T_kindAt 2 (some .int)) ∈ pr_U := pr_inU (lw_in2 (List.mem_of_getElem? (i := 186) rfl)) rfl
theorem prw_89 : (Cond.fieldLink prn_R 9 prn_R "tokens" "LProgramRuns$Tokens;") ∈ pr_U := pr_inU (lw_in1 (List.mem_of_getElem? (i := 115) rfl)) rfl
theorem prw_90 : (Cond.fieldLink prn_R 19 prn_R "at" "I") ∈ pr_U := pr_inU (lw_in1 (List.mem_of_getElem? (i := 117) rfl)) rfl
theorem prw_91 : (Cond.methodLink prn_R 53 pry_T_kindAt) ∈ pr_U := pr_inU (lw_in2 (List.mem_of_getElem? (i := 183) rfl)) rfl
theorem prw_92 : (Cond.instanceMethod pry_R_take) ∈ pr_U := pr_inU (lw_in2 (List.mem_of_getElem? (i := 181) rfl)) rfl
theorem prw_93 : (Cond.selects prn_R pry_R_take pry_R_take) ∈ pr_U := pr_inU (lw_in0 (List.mem_of_getElem? (i := 9) rfl)) rfl
theorem prw_94 : (Cond.initialized prn_R) ∈ pr_U := pr_inU (lw_in1 (List.mem_of_getElem? (i := 4) rfl)) rfl
theorem prw_95 : (Cond.code pry_R_take prb_R_take 2 (some .boolean)) ∈ pr_U := pr_inU (lw_in2 (List.mem_of_getElem? (i := 182) rfl)) rfl
theorem prw_96 : (Cond.instanceMethod pry_R_now) ∈ pr_U := pr_inU (lw_in2 (List.mem_of_getElem? (i := 189) rfl)) rfl
theorem prw_97 : (Cond.selects prn_R pry_R_now pry_R_now) ∈ pr_U := pr_inU (lw_in0 (List.mem_of_getElem? (i := 10) rfl)) rfl
theorem prw_98 : (Cond.code pry_R_now prb_R_now 1 (some .int)) ∈ pr_U := pr_inU (lw_in2 (List.mem_of_getElem? (i := 190) rfl)) rfl
theorem prw_99 : (Cond.methodLink prn_R 56 pry_R_take) ∈ pr_U := pr_inU (lw_in2 (List.mem_of_getElem? (i := 179) rfl)) rfl
theorem prw_100 : (Cond.instanceMethod pry_R_readNames) ∈ pr_U := pr_inU (lw_in2 (List.mem_of_getElem? (i := 193) rfl)) rfl
theorem prw_101 : (Cond.selects prn_R pry_R_readNames pry_R_readNames) ∈ pr_U := pr_inU (lw_in0 (List.mem_of_getElem? (i := 11) rfl)) rfl
theorem prw_102 : (Cond.code pry_R_readNames prb_R_readNames 3 (some .int)) ∈ pr_U := pr_inU (lw_in2 (List.mem_of_getElem? (i := 194) rfl)) rfl
theorem prw_103 : (Cond.fieldLink prn_G 9 prn_G "functionNames" "[I") ∈ pr_U := pr_inU (lw_in1 (List.mem_of_getElem? (i := 29) rfl)) rfl
theorem prw_104 : (Cond.fieldLink prn_G 15 prn_G "parameters" "[I") ∈ pr_U := pr_inU (lw_in1 (List.mem_of_getElem? (i := 30) rfl)) rfl
theorem prw_105 : (Cond.fieldLink prn_G 18 prn_G "functionBegins" "[I") ∈ pr_U := pr_inU (lw_in1 (List.mem_of_getElem? (i := 31) rfl)) rfl
theorem prw_106 : (Cond.instanceMethod pry_G_openFunction) ∈ pr_U := pr_inU (lw_in2 (List.mem_of_getElem? (i := 196) rfl)) rfl
theorem prw_107 : (Cond.selects prn_G pry_G_openFunction pry_G_openFunction) ∈ pr_U := pr_inU (lw_in2 (List.mem_of_getElem? (i := 197) rfl)) rfl
theorem prw_108 : (Cond.code pry_G_openFunction prb_G_openFunction 3 (some .boolean)) ∈ pr_U := pr_inU (lw_in2 (List.mem_of_getElem? (i := 198) rfl)) rfl
theorem prw_109 : (Cond.methodLink prn_R 49 pry_R_now) ∈ pr_U := pr_inU (lw_in2 (List.mem_of_getElem? (i := 187) rfl)) rfl
theorem prw_110 : (Cond.methodLink prn_R 59 pry_R_readNames) ∈ pr_U := pr_inU (lw_in2 (List.mem_of_getElem? (i := 191) rfl)) rfl
theorem prw_111 : (Cond.fieldLink prn_R 15 prn_R "program" "LProgramRuns$Program;") ∈ pr_U := pr_inU (lw_in1 (List.mem_of_getElem? (i := 116) rfl)) rfl
theorem prw_112 : (Cond.methodLink prn_R 62 pry_G_openFunction) ∈ pr_U := pr_inU (lw_in2 (List.mem_of_getElem? (i := 195) rfl)) rfl
theorem prw_113 : (Cond.instanceMethod pry_R_readHead) ∈ pr_U := pr_inU (lw_in2 (List.mem_of_getElem? (i := 177) rfl)) rfl
theorem prw_114 : (Cond.selects prn_R pry_R_readHead pry_R_readHead) ∈ pr_U := pr_inU (lw_in0 (List.mem_of_getElem? (i := 8) rfl)) rfl
theorem prw_115 : (Cond.code pry_R_readHead prb_R_readHead 3 (some .boolean)) ∈ pr_U := pr_inU (lw_in2 (List.mem_of_getElem? (i := 178) rfl)) rfl
theorem prw_116 : (Cond.instanceMethod pry_R_isCallAt) ∈ pr_U := pr_inU (lw_in2 (List.mem_of_getElem? (i := 217) rfl)) rfl
theorem prw_117 : (Cond.selects prn_R pry_R_isCallAt pry_R_isCallAt) ∈ pr_U := pr_inU (lw_in0 (List.mem_of_getElem? (i := 16) rfl)) rfl
theorem prw_118 : (Cond.code pry_R_isCallAt prb_R_isCallAt 2 (some .boolean)) ∈ pr_U := pr_inU (lw_in2 (List.mem_of_getElem? (i := 218) rfl)) rfl
theorem prw_119 : (Cond.methodLink prn_R 102 pry_R_isCallAt) ∈ pr_U := pr_inU (lw_in2 (List.mem_of_getElem? (i := 215) rfl)) rfl
theorem prw_120 : (Cond.instanceMethod pry_R_kindBehindName) ∈ pr_U := pr_inU (lw_in2 (List.mem_of_getElem? (i := 213) rfl)) rfl
theorem prw_121 : (Cond.selects prn_R pry_R_kindBehindName pry_R_kindBehindName) ∈ pr_U := pr_inU (lw_in0 (List.mem_of_getElem? (i := 15) rfl)) rfl
theorem prw_122 : (Cond.code pry_R_kindBehindName prb_R_kindBehindName 2 (some .int)) ∈ pr_U := pr_inU (lw_in2 (List.mem_of_getElem? (i := 214) rfl)) rfl
theorem prw_123 : (Cond.methodLink prn_R 99 pry_R_kindBehindName) ∈ pr_U := pr_inU (lw_in2 (List.mem_of_getElem? (i := 211) rfl)) rfl
theorem prw_124 : (Cond.instanceMethod pry_R_statementKind) ∈ pr_U := pr_inU (lw_in2 (List.mem_of_getElem? (i := 209) rfl)) rfl
theorem prw_125 : (Cond.selects prn_R pry_R_statementKind pry_R_statementKind) ∈ pr_U := pr_inU (lw_in0 (List.mem_of_getElem? (i := 14) rfl)) rfl
theorem prw_126 : (Cond.code pry_R_statementKind prb_R_statementKind 1 (some .int)) ∈ pr_U := pr_inU (lw_in2 (List.mem_of_getElem? (i := 210) rfl)) rfl
theorem prw_127 : (Cond.fieldLink prn_G 28 prn_G "kinds" "[B") ∈ pr_U := pr_inU (lw_in1 (List.mem_of_getElem? (i := 35) rfl)) rfl
theorem prw_128 : (Cond.fieldLink prn_G 32 prn_G "firstTokens" "[I") ∈ pr_U := pr_inU (lw_in1 (List.mem_of_getElem? (i := 36) rfl)) rfl
theorem prw_129 : (Cond.fieldLink prn_G 35 prn_G "firstOperations" "[I") ∈ pr_U := pr_inU (lw_in1 (List.mem_of_getElem? (i := 37) rfl)) rfl
theorem prw_130 : (Cond.fieldLink prn_G 38 prn_G "details" "[I") ∈ pr_U := pr_inU (lw_in1 (List.mem_of_getElem? (i := 38) rfl)) rfl
theorem prw_131 : (Cond.instanceMethod pry_G_openStatement) ∈ pr_U := pr_inU (lw_in2 (List.mem_of_getElem? (i := 220) rfl)) rfl
theorem prw_132 : (Cond.selects prn_G pry_G_openStatement pry_G_openStatement) ∈ pr_U := pr_inU (lw_in2 (List.mem_of_getElem? (i := 221) rfl)) rfl
theorem prw_133 : (Cond.code pry_G_openStatement prb_G_openStatement 4 (some .int)) ∈ pr_U := pr_inU (lw_in2 (List.mem_of_getElem? (i := 222) rfl)) rfl
theorem prw_134 : (Cond.fieldLink prn_G 44 prn_G "operations" "[B") ∈ pr_U := pr_inU (lw_in1 (List.mem_of_getElem? (i := 41) rfl)) rfl
theorem prw_135 : (Cond.fieldLink prn_G 47 prn_G "operands" "[I") ∈ pr_U := pr_inU (lw_in1 (List.mem_of_getElem? (i := 42) rfl)) rfl
theorem prw_136 : (Cond.instanceMethod pry_G_addOperation) ∈ pr_U := pr_inU (lw_in3 (List.mem_of_getElem? (i := 0) rfl)) rfl
theorem prw_137 : (Cond.selects prn_G pry_G_addOperation pry_G_addOperation) ∈ pr_U := pr_inU (lw_in3 (List.mem_of_getElem? (i := 1) rfl)) rfl
theorem prw_138 : (Cond.code pry_G_addOperation prb_G_addOperation 3 none) ∈ pr_U := pr_inU (lw_in3 (List.mem_of_getElem? (i := 2) rfl)) rfl
theorem prw_139 : (Cond.instanceMethod pry_R_readLimit) ∈ pr_U := pr_inU (lw_in3 (List.mem_of_getElem? (i := 5) rfl)) rfl
theorem prw_140 : (Cond.selects prn_R pry_R_readLimit pry_R_readLimit) ∈ pr_U := pr_inU (lw_in0 (List.mem_of_getElem? (i := 21) rfl)) rfl
theorem prw_141 : (Cond.code pry_R_readLimit prb_R_readLimit 1 (some .boolean)) ∈ pr_U := pr_inU (lw_in3 (List.mem_of_getElem? (i := 6) rfl)) rfl
theorem prw_142 : (Cond.methodLink prn_R 130 pry_R_readFactor) ∈ pr_U := pr_inU (lw_in2 (List.mem_of_getElem? (i := 235) rfl)) rfl
theorem prw_143 : (Cond.methodLink prn_R 108 pry_G_addOperation) ∈ pr_U := pr_inU (lw_in2 (List.mem_of_getElem? (i := 239) rfl)) rfl
theorem prw_144 : (Cond.instanceMethod pry_R_readTerm) ∈ pr_U := pr_inU (lw_in2 (List.mem_of_getElem? (i := 233) rfl)) rfl
theorem prw_145 : (Cond.selects prn_R pry_R_readTerm pry_R_readTerm) ∈ pr_U := pr_inU (lw_in0 (List.mem_of_getElem? (i := 19) rfl)) rfl
theorem prw_146 : (Cond.code pry_R_readTerm prb_R_readTerm 4 (some .boolean)) ∈ pr_U := pr_inU (lw_in2 (List.mem_of_getElem? (i := 234) rfl)) rfl
theorem prw_147 : (Cond.methodLink prn_R 127 pry_R_readTerm) ∈ pr_U := pr_inU (lw_in2 (List.mem_of_getElem? (i := 231) rfl)) rfl
theorem prw_148 : (Cond.instanceMethod pry_R_readSum) ∈ pr_U := pr_inU (lw_in2 (List.mem_of_getElem? (i := 229) rfl)) rfl
theorem prw_149 : (Cond.selects prn_R pry_R_readSum pry_R_readSum) ∈ pr_U := pr_inU (lw_in0 (List.mem_of_getElem? (i := 18) rfl)) rfl
theorem prw_150 : (Cond.code pry_R_readSum prb_R_readSum 4 (some .boolean)) ∈ pr_U := pr_inU (lw_in2 (List.mem_of_getElem? (i := 230) rfl)) rfl
theorem prw_151 : (Cond.methodLink prn_R 79 pry_R_readSum) ∈ pr_U := pr_inU (lw_in2 (List.mem_of_getElem? (i := 227) rfl)) rfl
theorem prw_152 : (Cond.methodLink prn_R 133 pry_R_readLimit) ∈ pr_U := pr_inU (lw_in3 (List.mem_of_getElem? (i := 3) rfl)) rfl
theorem prw_153 : (Cond.instanceMethod pry_R_readFactor) ∈ pr_U := pr_inU (lw_in2 (List.mem_of_getElem? (i := 237) rfl)) rfl
theorem prw_154 : (Cond.selects prn_R pry_R_readFactor pry_R_readFactor) ∈ pr_U := pr_inU (lw_in0 (List.mem_of_getElem? (i := 20) rfl)) rfl
theorem prw_155 : (Cond.code pry_R_readFactor prb_R_readFactor 3 (some .boolean)) ∈ pr_U := pr_inU (lw_in2 (List.mem_of_getElem? (i := 238) rfl)) rfl
theorem prw_156 : (Cond.instanceMethod pry_R_readVar) ∈ pr_U := pr_inU (lw_in2 (List.mem_of_getElem? (i := 225) rfl)) rfl
theorem prw_157 : (Cond.selects prn_R pry_R_readVar pry_R_readVar) ∈ pr_U := pr_inU (lw_in0 (List.mem_of_getElem? (i := 17) rfl)) rfl
theorem prw_158 : (Cond.code pry_R_readVar prb_R_readVar 2 (some .boolean)) ∈ pr_U := pr_inU (lw_in2 (List.mem_of_getElem? (i := 226) rfl)) rfl
theorem prw_159 : (Cond.instanceMethod pry_R_readSetPlace) ∈ pr_U := pr_inU (lw_in3 (List.mem_of_getElem? (i := 9) rfl)) rfl
theorem prw_160 : (Cond.selects prn_R pry_R_readSetPlace pry_R_readSetPlace) ∈ pr_U := pr_inU (lw_in0 (List.mem_of_getElem? (i := 22) rfl)) rfl
theorem prw_161 : (Cond.code pry_R_readSetPlace prb_R_readSetPlace 2 (some .boolean)) ∈ pr_U := pr_inU (lw_in3 (List.mem_of_getElem? (i := 10) rfl)) rfl
theorem prw_162 : (Cond.instanceMethod pry_G_isStatement) ∈ pr_U := pr_inU (lw_in3 (List.mem_of_getElem? (i := 21) rfl)) rfl
theorem prw_163 : (Cond.selects prn_G pry_G_isStatement pry_G_isStatement) ∈ pr_U := pr_inU (lw_in0 (List.mem_of_getElem? (i := 24) rfl)) rfl
theorem prw_164 : (Cond.code pry_G_isStatement prb_G_isStatement 2 (some .boolean)) ∈ pr_U := pr_inU (lw_in3 (List.mem_of_getElem? (i := 22) rfl)) rfl
theorem prw_165 : (Cond.methodLink prn_G 71 pry_G_isStatement) ∈ pr_U := pr_inU (lw_in3 (List.mem_of_getElem? (i := 19) rfl)) rfl
theorem prw_166 : (Cond.instanceMethod pry_G_setDetail) ∈ pr_U := pr_inU (lw_in3 (List.mem_of_getElem? (i := 16) rfl)) rfl
theorem prw_167 : (Cond.selects prn_G pry_G_setDetail pry_G_setDetail) ∈ pr_U := pr_inU (lw_in3 (List.mem_of_getElem? (i := 17) rfl)) rfl
theorem prw_168 : (Cond.code pry_G_setDetail prb_G_setDetail 3 none) ∈ pr_U := pr_inU (lw_in3 (List.mem_of_getElem? (i := 18) rfl)) rfl
theorem prw_169 : (Cond.methodLink prn_R 112 pry_G_setDetail) ∈ pr_U := pr_inU (lw_in3 (List.mem_of_getElem? (i := 15) rfl)) rfl
theorem prw_170 : (Cond.instanceMethod pry_R_readCall) ∈ pr_U := pr_inU (lw_in3 (List.mem_of_getElem? (i := 13) rfl)) rfl
theorem prw_171 : (Cond.selects prn_R pry_R_readCall pry_R_readCall) ∈ pr_U := pr_inU (lw_in0 (List.mem_of_getElem? (i := 23) rfl)) rfl
theorem prw_172 : (Cond.code pry_R_readCall prb_R_readCall 5 (some .boolean)) ∈ pr_U := pr_inU (lw_in3 (List.mem_of_getElem? (i := 14) rfl)) rfl
theorem prw_173 : (Cond.instanceMethod pry_G_operationCount) ∈ pr_U := pr_inU (lw_in3 (List.mem_of_getElem? (i := 36) rfl)) rfl
theorem prw_174 : (Cond.selects prn_G pry_G_operationCount pry_G_operationCount) ∈ pr_U := pr_inU (lw_in3 (List.mem_of_getElem? (i := 37) rfl)) rfl
theorem prw_175 : (Cond.code pry_G_operationCount prb_G_operationCount 1 (some .int)) ∈ pr_U := pr_inU (lw_in3 (List.mem_of_getElem? (i := 38) rfl)) rfl
theorem prw_176 : (Cond.instanceMethod pry_G_isOperation) ∈ pr_U := pr_inU (lw_in3 (List.mem_of_getElem? (i := 45) rfl)) rfl
theorem prw_177 : (Cond.selects prn_G pry_G_isOperation pry_G_isOperation) ∈ pr_U := pr_inU (lw_in0 (List.mem_of_getElem? (i := 28) rfl)) rfl
theorem prw_178 : (Cond.code pry_G_isOperation prb_G_isOperation 2 (some .boolean)) ∈ pr_U := pr_inU (lw_in3 (List.mem_of_getElem? (i := 46) rfl)) rfl
theorem prw_179 : (Cond.methodLink prn_G 78 pry_G_isOperation) ∈ pr_U := pr_inU (lw_in3 (List.mem_of_getElem? (i := 43) rfl)) rfl
theorem prw_180 : (Cond.instanceMethod pry_G_leapToHere) ∈ pr_U := pr_inU (lw_in3 (List.mem_of_getElem? (i := 40) rfl)) rfl
theorem prw_181 : (Cond.selects prn_G pry_G_leapToHere pry_G_leapToHere) ∈ pr_U := pr_inU (lw_in3 (List.mem_of_getElem? (i := 41) rfl)) rfl
theorem prw_182 : (Cond.code pry_G_leapToHere prb_G_leapToHere 2 none) ∈ pr_U := pr_inU (lw_in3 (List.mem_of_getElem? (i := 42) rfl)) rfl
theorem prw_183 : (Cond.methodLink prn_R 124 pry_R_readTest) ∈ pr_U := pr_inU (lw_in3 (List.mem_of_getElem? (i := 31) rfl)) rfl
theorem prw_184 : (Cond.methodLink prn_R 118 pry_G_operationCount) ∈ pr_U := pr_inU (lw_in3 (List.mem_of_getElem? (i := 35) rfl)) rfl
theorem prw_185 : (Cond.methodLink prn_R 121 pry_G_leapToHere) ∈ pr_U := pr_inU (lw_in3 (List.mem_of_getElem? (i := 39) rfl)) rfl
theorem prw_186 : (Cond.instanceMethod pry_R_readBoth) ∈ pr_U := pr_inU (lw_in3 (List.mem_of_getElem? (i := 29) rfl)) rfl
theorem prw_187 : (Cond.selects prn_R pry_R_readBoth pry_R_readBoth) ∈ pr_U := pr_inU (lw_in0 (List.mem_of_getElem? (i := 26) rfl)) rfl
theorem prw_188 : (Cond.code pry_R_readBoth prb_R_readBoth 4 (some .boolean)) ∈ pr_U := pr_inU (lw_in3 (List.mem_of_getElem? (i := 30) rfl)) rfl
theorem prw_189 : (Cond.methodLink prn_R 115 pry_R_readBoth) ∈ pr_U := pr_inU (lw_in3 (List.mem_of_getElem? (i := 27) rfl)) rfl
theorem prw_190 : (Cond.instanceMethod pry_R_readCond) ∈ pr_U := pr_inU (lw_in3 (List.mem_of_getElem? (i := 25) rfl)) rfl
theorem prw_191 : (Cond.selects prn_R pry_R_readCond pry_R_readCond) ∈ pr_U := pr_inU (lw_in0 (List.mem_of_getElem? (i := 25) rfl)) rfl
theorem prw_192 : (Cond.code pry_R_readCond prb_R_readCond 4 (some .boolean)) ∈ pr_U := pr_inU (lw_in3 (List.mem_of_getElem? (i := 26) rfl)) rfl
theorem prw_193 : (Cond.methodLink prn_R 88 pry_R_readCond) ∈ pr_U := pr_inU (lw_in3 (List.mem_of_getElem? (i := 23) rfl)) rfl
theorem prw_194 : (Cond.instanceMethod pry_R_readTest) ∈ pr_U := pr_inU (lw_in3 (List.mem_of_getElem? (i := 33) rfl)) rfl
theorem prw_195 : (Cond.selects prn_R pry_R_readTest pry_R_readTest) ∈ pr_U := pr_inU (lw_in0 (List.mem_of_getElem? (i := 27) rfl)) rfl
theorem prw_196 : (Cond.code pry_R_readTest prb_R_readTest 3 (some .boolean)) ∈ pr_U := pr_inU (lw_in3 (List.mem_of_getElem? (i := 34) rfl)) rfl
theorem prw_197 : (Cond.methodLink prn_G 74 pry_G_setDetail) ∈ pr_U := pr_inU (lw_in3 (List.mem_of_getElem? (i := 55) rfl)) rfl
theorem prw_198 : (Cond.instanceMethod pry_G_closeFirstBlock) ∈ pr_U := pr_inU (lw_in3 (List.mem_of_getElem? (i := 52) rfl)) rfl
theorem prw_199 : (Cond.selects prn_G pry_G_closeFirstBlock pry_G_closeFirstBlock) ∈ pr_U := pr_inU (lw_in3 (List.mem_of_getElem? (i := 53) rfl)) rfl
theorem prw_200 : (Cond.code pry_G_closeFirstBlock prb_G_closeFirstBlock 2 none) ∈ pr_U := pr_inU (lw_in3 (List.mem_of_getElem? (i := 54) rfl)) rfl
theorem prw_201 : (Cond.fieldLink prn_G 41 prn_G "statementEnds" "[I") ∈ pr_U := pr_inU (lw_in1 (List.mem_of_getElem? (i := 39) rfl)) rfl
theorem prw_202 : (Cond.instanceMethod pry_G_closeStatement) ∈ pr_U := pr_inU (lw_in3 (List.mem_of_getElem? (i := 57) rfl)) rfl
theorem prw_203 : (Cond.selects prn_G pry_G_closeStatement pry_G_closeStatement) ∈ pr_U := pr_inU (lw_in3 (List.mem_of_getElem? (i := 58) rfl)) rfl
theorem prw_204 : (Cond.code pry_G_closeStatement prb_G_closeStatement 2 none) ∈ pr_U := pr_inU (lw_in3 (List.mem_of_getElem? (i := 59) rfl)) rfl
theorem prw_205 : (Cond.methodLink prn_R 66 pry_R_readStatement) ∈ pr_U := pr_inU (lw_in2 (List.mem_of_getElem? (i := 203) rfl)) rfl
theorem prw_206 : (Cond.instanceMethod pry_R_readBlock) ∈ pr_U := pr_inU (lw_in2 (List.mem_of_getElem? (i := 201) rfl)) rfl
theorem prw_207 : (Cond.selects prn_R pry_R_readBlock pry_R_readBlock) ∈ pr_U := pr_inU (lw_in0 (List.mem_of_getElem? (i := 12) rfl)) rfl
theorem prw_208 : (Cond.code pry_R_readBlock prb_R_readBlock 3 (some .boolean)) ∈ pr_U := pr_inU (lw_in2 (List.mem_of_getElem? (i := 202) rfl)) rfl
theorem prw_209 : (Cond.methodLink prn_R 41 pry_R_readBlock) ∈ pr_U := pr_inU (lw_in2 (List.mem_of_getElem? (i := 199) rfl)) rfl
theorem prw_210 : (Cond.methodLink prn_R 105 pry_G_closeFirstBlock) ∈ pr_U := pr_inU (lw_in3 (List.mem_of_getElem? (i := 51) rfl)) rfl
theorem prw_211 : (Cond.instanceMethod pry_R_readBranch) ∈ pr_U := pr_inU (lw_in3 (List.mem_of_getElem? (i := 49) rfl)) rfl
theorem prw_212 : (Cond.selects prn_R pry_R_readBranch pry_R_readBranch) ∈ pr_U := pr_inU (lw_in0 (List.mem_of_getElem? (i := 29) rfl)) rfl
theorem prw_213 : (Cond.code pry_R_readBranch prb_R_readBranch 4 (some .boolean)) ∈ pr_U := pr_inU (lw_in3 (List.mem_of_getElem? (i := 50) rfl)) rfl
theorem prw_214 : (Cond.methodLink prn_R 69 pry_R_statementKind) ∈ pr_U := pr_inU (lw_in2 (List.mem_of_getElem? (i := 207) rfl)) rfl
theorem prw_215 : (Cond.methodLink prn_R 72 pry_G_openStatement) ∈ pr_U := pr_inU (lw_in2 (List.mem_of_getElem? (i := 219) rfl)) rfl
theorem prw_216 : (Cond.methodLink prn_R 76 pry_R_readVar) ∈ pr_U := pr_inU (lw_in2 (List.mem_of_getElem? (i := 223) rfl)) rfl
theorem prw_217 : (Cond.methodLink prn_R 95 pry_G_closeStatement) ∈ pr_U := pr_inU (lw_in3 (List.mem_of_getElem? (i := 56) rfl)) rfl
theorem prw_218 : (Cond.fieldLink prn_R 34 prn_R "latestStatement" "I") ∈ pr_U := pr_inU (lw_in1 (List.mem_of_getElem? (i := 118) rfl)) rfl
theorem prw_219 : (Cond.methodLink prn_R 82 pry_R_readSetPlace) ∈ pr_U := pr_inU (lw_in3 (List.mem_of_getElem? (i := 7) rfl)) rfl
theorem prw_220 : (Cond.methodLink prn_R 85 pry_R_readCall) ∈ pr_U := pr_inU (lw_in3 (List.mem_of_getElem? (i := 11) rfl)) rfl
theorem prw_221 : (Cond.methodLink prn_R 91 pry_R_readBranch) ∈ pr_U := pr_inU (lw_in3 (List.mem_of_getElem? (i := 47) rfl)) rfl
theorem prw_222 : (Cond.instanceMethod pry_R_readStatement) ∈ pr_U := pr_inU (lw_in2 (List.mem_of_getElem? (i := 205) rfl)) rfl
theorem prw_223 : (Cond.selects prn_R pry_R_readStatement pry_R_readStatement) ∈ pr_U := pr_inU (lw_in0 (List.mem_of_getElem? (i := 13) rfl)) rfl
theorem prw_224 : (Cond.code pry_R_readStatement prb_R_readStatement 5 (some .boolean)) ∈ pr_U := pr_inU (lw_in2 (List.mem_of_getElem? (i := 206) rfl)) rfl
theorem prw_225 : (Cond.instanceMethod pry_G_isFunction) ∈ pr_U := pr_inU (lw_in3 (List.mem_of_getElem? (i := 66) rfl)) rfl
theorem prw_226 : (Cond.selects prn_G pry_G_isFunction pry_G_isFunction) ∈ pr_U := pr_inU (lw_in0 (List.mem_of_getElem? (i := 30) rfl)) rfl
theorem prw_227 : (Cond.code pry_G_isFunction prb_G_isFunction 2 (some .boolean)) ∈ pr_U := pr_inU (lw_in3 (List.mem_of_getElem? (i := 67) rfl)) rfl
theorem prw_228 : (Cond.methodLink prn_G 63 pry_G_isFunction) ∈ pr_U := pr_inU (lw_in3 (List.mem_of_getElem? (i := 64) rfl)) rfl
theorem prw_229 : (Cond.fieldLink prn_G 21 prn_G "functionEnds" "[I") ∈ pr_U := pr_inU (lw_in1 (List.mem_of_getElem? (i := 32) rfl)) rfl
theorem prw_230 : (Cond.fieldLink prn_G 24 prn_G "returning" "[Z") ∈ pr_U := pr_inU (lw_in1 (List.mem_of_getElem? (i := 33) rfl)) rfl
theorem prw_231 : (Cond.instanceMethod pry_G_closeFunction) ∈ pr_U := pr_inU (lw_in3 (List.mem_of_getElem? (i := 61) rfl)) rfl
theorem prw_232 : (Cond.selects prn_G pry_G_closeFunction pry_G_closeFunction) ∈ pr_U := pr_inU (lw_in3 (List.mem_of_getElem? (i := 62) rfl)) rfl
theorem prw_233 : (Cond.code pry_G_closeFunction prb_G_closeFunction 3 none) ∈ pr_U := pr_inU (lw_in3 (List.mem_of_getElem? (i := 63) rfl)) rfl
theorem prw_234 : (Cond.methodLink prn_R 29 pry_G_clear) ∈ pr_U := pr_inU (lw_in2 (List.mem_of_getElem? (i := 171) rfl)) rfl
theorem prw_235 : (Cond.methodLink prn_R 37 pry_R_readHead) ∈ pr_U := pr_inU (lw_in2 (List.mem_of_getElem? (i := 175) rfl)) rfl
theorem prw_236 : (Cond.methodLink prn_R 45 pry_G_closeFunction) ∈ pr_U := pr_inU (lw_in3 (List.mem_of_getElem? (i := 60) rfl)) rfl
theorem prw_237 : (Cond.instanceMethod pry_R_readText) ∈ pr_U := pr_inU (lw_in2 (List.mem_of_getElem? (i := 168) rfl)) rfl
theorem prw_238 : (Cond.selects prn_R pry_R_readText pry_R_readText) ∈ pr_U := pr_inU (lw_in2 (List.mem_of_getElem? (i := 169) rfl)) rfl
theorem prw_239 : (Cond.code pry_R_readText prb_R_readText 2 (some .boolean)) ∈ pr_U := pr_inU (lw_in2 (List.mem_of_getElem? (i := 170) rfl)) rfl
theorem prw_240 : (Cond.instanceMethod pry_T_placeAt) ∈ pr_U := pr_inU (lw_in3 (List.mem_of_getElem? (i := 73) rfl)) rfl
theorem prw_241 : (Cond.selects prn_T pry_T_placeAt pry_T_placeAt) ∈ pr_U := pr_inU (lw_in3 (List.mem_of_getElem? (i := 74) rfl)) rfl
theorem prw_242 : (Cond.code pry_T_placeAt prb_T_placeAt 2 (some .int)) ∈ pr_U := pr_inU (lw_in3 (List.mem_of_getElem? (i := 75) rfl)) rfl
theorem prw_243 : (Cond.methodLink prn_R 23 pry_T_placeAt) ∈ pr_U := pr_inU (lw_in3 (List.mem_of_getElem? (i := 72) rfl)) rfl
theorem prw_244 : (Cond.instanceMethod pry_R_faultPlace) ∈ pr_U := pr_inU (lw_in3 (List.mem_of_getElem? (i := 69) rfl)) rfl
theorem prw_245 : (Cond.selects prn_R pry_R_faultPlace pry_R_faultPlace) ∈ pr_U := pr_inU (lw_in3 (List.mem_of_getElem? (i := 70) rfl)) rfl
theorem prw_246 : (Cond.code pry_R_faultPlace prb_R_faultPlace 1 (some .int)) ∈ pr_U := pr_inU (lw_in3 (List.mem_of_getElem? (i := 71) rfl)) rfl
theorem prw_247 : (Cond.fieldLink prn_O 56 prn_O "count" "I") ∈ pr_U := pr_inU (lw_in1 (List.mem_of_getElem? (i := 148) rfl)) rfl
theorem prw_248 : (Cond.instanceMethod pry_O_clear) ∈ pr_U := pr_inU (lw_in3 (List.mem_of_getElem? (i := 81) rfl)) rfl
theorem prw_249 : (Cond.selects prn_O pry_O_clear pry_O_clear) ∈ pr_U := pr_inU (lw_in3 (List.mem_of_getElem? (i := 82) rfl)) rfl
theorem prw_250 : (Cond.initialized prn_O) ∈ pr_U := pr_inU (lw_in1 (List.mem_of_getElem? (i := 5) rfl)) rfl
theorem prw_251 : (Cond.code pry_O_clear prb_O_clear 1 none) ∈ pr_U := pr_inU (lw_in3 (List.mem_of_getElem? (i := 83) rfl)) rfl
theorem prw_252 : (Cond.fieldLink prn_O 9 prn_O "kinds" "[B") ∈ pr_U := pr_inU (lw_in1 (List.mem_of_getElem? (i := 134) rfl)) rfl
theorem prw_253 : (Cond.fieldLink prn_O 15 prn_O "places" "[I") ∈ pr_U := pr_inU (lw_in1 (List.mem_of_getElem? (i := 135) rfl)) rfl
theorem prw_254 : (Cond.fieldLink prn_O 19 prn_O "statements" "[I") ∈ pr_U := pr_inU (lw_in1 (List.mem_of_getElem? (i := 136) rfl)) rfl
theorem prw_255 : (Cond.fieldLink prn_O 41 prn_O "targets" "[I") ∈ pr_U := pr_inU (lw_in1 (List.mem_of_getElem? (i := 143) rfl)) rfl
theorem prw_256 : (Cond.fieldLink prn_O 44 prn_O "behinds" "[I") ∈ pr_U := pr_inU (lw_in1 (List.mem_of_getElem? (i := 144) rfl)) rfl
theorem prw_257 : (Cond.fieldLink prn_O 47 prn_O "intos" "[I") ∈ pr_U := pr_inU (lw_in1 (List.mem_of_getElem? (i := 145) rfl)) rfl
theorem prw_258 : (Cond.fieldLink prn_O 50 prn_O "others" "[I") ∈ pr_U := pr_inU (lw_in1 (List.mem_of_getElem? (i := 146) rfl)) rfl
theorem prw_259 : (Cond.instanceMethod pry_O_add) ∈ pr_U := pr_inU (lw_in3 (List.mem_of_getElem? (i := 89) rfl)) rfl
theorem prw_260 : (Cond.selects prn_O pry_O_add pry_O_add) ∈ pr_U := pr_inU (lw_in3 (List.mem_of_getElem? (i := 90) rfl)) rfl
theorem prw_261 : (Cond.code pry_O_add prb_O_add 5 (some .int)) ∈ pr_U := pr_inU (lw_in3 (List.mem_of_getElem? (i := 91) rfl)) rfl
theorem prw_262 : (Cond.instanceMethod pry_O_isPoint) ∈ pr_U := pr_inU (lw_in3 (List.mem_of_getElem? (i := 98) rfl)) rfl
theorem prw_263 : (Cond.selects prn_O pry_O_isPoint pry_O_isPoint) ∈ pr_U := pr_inU (lw_in0 (List.mem_of_getElem? (i := 32) rfl)) rfl
theorem prw_264 : (Cond.code pry_O_isPoint prb_O_isPoint 2 (some .boolean)) ∈ pr_U := pr_inU (lw_in3 (List.mem_of_getElem? (i := 99) rfl)) rfl
theorem prw_265 : (Cond.methodLink prn_O 66 pry_O_isPoint) ∈ pr_U := pr_inU (lw_in3 (List.mem_of_getElem? (i := 96) rfl)) rfl
theorem prw_266 : (Cond.fieldLink prn_O 34 prn_O "parents" "[I") ∈ pr_U := pr_inU (lw_in1 (List.mem_of_getElem? (i := 141) rfl)) rfl
theorem prw_267 : (Cond.fieldLink prn_O 37 prn_O "lasts" "[Z") ∈ pr_U := pr_inU (lw_in1 (List.mem_of_getElem? (i := 142) rfl)) rfl
theorem prw_268 : (Cond.instanceMethod pry_O_setParent) ∈ pr_U := pr_inU (lw_in3 (List.mem_of_getElem? (i := 93) rfl)) rfl
theorem prw_269 : (Cond.selects prn_O pry_O_setParent pry_O_setParent) ∈ pr_U := pr_inU (lw_in3 (List.mem_of_getElem? (i := 94) rfl)) rfl
theorem prw_270 : (Cond.code pry_O_setParent prb_O_setParent 4 none) ∈ pr_U := pr_inU (lw_in3 (List.mem_of_getElem? (i := 95) rfl)) rfl
theorem prw_271 : (Cond.fieldLink prn_O 22 prn_O "numbers" "[I") ∈ pr_U := pr_inU (lw_in1 (List.mem_of_getElem? (i := 137) rfl)) rfl
theorem prw_272 : (Cond.fieldLink prn_O 25 prn_O "arrays" "[I") ∈ pr_U := pr_inU (lw_in1 (List.mem_of_getElem? (i := 138) rfl)) rfl
theorem prw_273 : (Cond.instanceMethod pry_O_setThere) ∈ pr_U := pr_inU (lw_in3 (List.mem_of_getElem? (i := 101) rfl)) rfl
theorem prw_274 : (Cond.selects prn_O pry_O_setThere pry_O_setThere) ∈ pr_U := pr_inU (lw_in3 (List.mem_of_getElem? (i := 102) rfl)) rfl
theorem prw_275 : (Cond.code pry_O_setThere prb_O_setThere 4 none) ∈ pr_U := pr_inU (lw_in3 (List.mem_of_getElem? (i := 103) rfl)) rfl
theorem prw_276 : (Cond.fieldLink prn_O 28 prn_O "foreignNumbers" "[I") ∈ pr_U := pr_inU (lw_in1 (List.mem_of_getElem? (i := 139) rfl)) rfl
theorem prw_277 : (Cond.fieldLink prn_O 31 prn_O "foreignArrays" "[I") ∈ pr_U := pr_inU (lw_in1 (List.mem_of_getElem? (i := 140) rfl)) rfl
theorem prw_278 : (Cond.instanceMethod pry_O_setForeign) ∈ pr_U := pr_inU (lw_in3 (List.mem_of_getElem? (i := 105) rfl)) rfl
theorem prw_279 : (Cond.selects prn_O pry_O_setForeign pry_O_setForeign) ∈ pr_U := pr_inU (lw_in3 (List.mem_of_getElem? (i := 106) rfl)) rfl
theorem prw_280 : (Cond.code pry_O_setForeign prb_O_setForeign 4 none) ∈ pr_U := pr_inU (lw_in3 (List.mem_of_getElem? (i := 107) rfl)) rfl
theorem prw_281 : (Cond.methodLink prn_O 74 pry_O_add) ∈ pr_U := pr_inU (lw_in3 (List.mem_of_getElem? (i := 88) rfl)) rfl
theorem prw_282 : (Cond.methodLink prn_O 78 pry_O_setParent) ∈ pr_U := pr_inU (lw_in3 (List.mem_of_getElem? (i := 92) rfl)) rfl
theorem prw_283 : (Cond.methodLink prn_O 82 pry_O_setThere) ∈ pr_U := pr_inU (lw_in3 (List.mem_of_getElem? (i := 100) rfl)) rfl
theorem prw_284 : (Cond.methodLink prn_O 86 pry_O_setForeign) ∈ pr_U := pr_inU (lw_in3 (List.mem_of_getElem? (i := 104) rfl)) rfl
theorem prw_285 : (Cond.fieldLink prn_O 53 prn_O "nexts" "[I") ∈ pr_U := pr_inU (lw_in1 (List.mem_of_getElem? (i := 147) rfl)) rfl
theorem prw_286 : (Cond.instanceMethod pry_O_addTheEnd) ∈ pr_U := pr_inU (lw_in3 (List.mem_of_getElem? (i := 86) rfl)) rfl
theorem prw_287 : (Cond.selects prn_O pry_O_addTheEnd pry_O_addTheEnd) ∈ pr_U := pr_inU (lw_in0 (List.mem_of_getElem? (i := 31) rfl)) rfl
theorem prw_288 : (Cond.code pry_O_addTheEnd prb_O_addTheEnd 2 none) ∈ pr_U := pr_inU (lw_in3 (List.mem_of_getElem? (i := 87) rfl)) rfl
theorem prw_289 : (Cond.methodLink prn_O 60 pry_O_clear) ∈ pr_U := pr_inU (lw_in3 (List.mem_of_getElem? (i := 80) rfl)) rfl
theorem prw_290 : (Cond.methodLink prn_O 63 pry_O_addTheEnd) ∈ pr_U := pr_inU (lw_in3 (List.mem_of_getElem? (i := 84) rfl)) rfl
theorem prw_291 : (Cond.instanceMethod pry_O_leaveOnlyTheEnd) ∈ pr_U := pr_inU (lw_in3 (List.mem_of_getElem? (i := 77) rfl)) rfl
theorem prw_292 : (Cond.selects prn_O pry_O_leaveOnlyTheEnd pry_O_leaveOnlyTheEnd) ∈ pr_U := pr_inU (lw_in3 (List.mem_of_getElem? (i := 78) rfl)) rfl
theorem prw_293 : (Cond.code pry_O_leaveOnlyTheEnd prb_O_leaveOnlyTheEnd 1 none) ∈ pr_U := pr_inU (lw_in3 (List.mem_of_getElem? (i := 79) rfl)) rfl
theorem prw_294 : (Cond.fieldLink prn_S 26 prn_S "numbers" "I") ∈ pr_U := pr_inU (lw_in1 (List.mem_of_getElem? (i := 196) rfl)) rfl
theorem prw_295 : (Cond.fieldLink prn_S 30 prn_S "arrays" "I") ∈ pr_U := pr_inU (lw_in1 (List.mem_of_getElem? (i := 197) rfl)) rfl
theorem prw_296 : (Cond.instanceMethod pry_S_cutTo) ∈ pr_U := pr_inU (lw_in3 (List.mem_of_getElem? (i := 114) rfl)) rfl
theorem prw_297 : (Cond.selects prn_S pry_S_cutTo pry_S_cutTo) ∈ pr_U := pr_inU (lw_in3 (List.mem_of_getElem? (i := 115) rfl)) rfl
theorem prw_298 : (Cond.initialized prn_S) ∈ pr_U := pr_inU (lw_in1 (List.mem_of_getElem? (i := 7) rfl)) rfl
theorem prw_299 : (Cond.code pry_S_cutTo prb_S_cutTo 3 none) ∈ pr_U := pr_inU (lw_in3 (List.mem_of_getElem? (i := 116) rfl)) rfl
theorem prw_300 : (Cond.instanceMethod pry_G_functions) ∈ pr_U := pr_inU (lw_in3 (List.mem_of_getElem? (i := 118) rfl)) rfl
theorem prw_301 : (Cond.selects prn_G pry_G_functions pry_G_functions) ∈ pr_U := pr_inU (lw_in3 (List.mem_of_getElem? (i := 119) rfl)) rfl
theorem prw_302 : (Cond.code pry_G_functions prb_G_functions 1 (some .int)) ∈ pr_U := pr_inU (lw_in3 (List.mem_of_getElem? (i := 120) rfl)) rfl
theorem prw_303 : (Cond.instanceMethod pry_G_parametersOf) ∈ pr_U := pr_inU (lw_in3 (List.mem_of_getElem? (i := 122) rfl)) rfl
theorem prw_304 : (Cond.selects prn_G pry_G_parametersOf pry_G_parametersOf) ∈ pr_U := pr_inU (lw_in3 (List.mem_of_getElem? (i := 123) rfl)) rfl
theorem prw_305 : (Cond.code pry_G_parametersOf prb_G_parametersOf 2 (some .int)) ∈ pr_U := pr_inU (lw_in3 (List.mem_of_getElem? (i := 124) rfl)) rfl
theorem prw_306 : (Cond.instanceMethod pry_G_nameOf) ∈ pr_U := pr_inU (lw_in3 (List.mem_of_getElem? (i := 126) rfl)) rfl
theorem prw_307 : (Cond.selects prn_G pry_G_nameOf pry_G_nameOf) ∈ pr_U := pr_inU (lw_in3 (List.mem_of_getElem? (i := 127) rfl)) rfl
theorem prw_308 : (Cond.code pry_G_nameOf prb_G_nameOf 2 (some .int)) ∈ pr_U := pr_inU (lw_in3 (List.mem_of_getElem? (i := 128) rfl)) rfl
theorem prw_309 : (Cond.fieldLink prn_Y 48 prn_Y "wrong" "I") ∈ pr_U := pr_inU (lw_in1 (List.mem_of_getElem? (i := 225) rfl)) rfl
theorem prw_310 : (Cond.fieldLink prn_Y 27 prn_Y "tokens" "LProgramRuns$Tokens;") ∈ pr_U := pr_inU (lw_in1 (List.mem_of_getElem? (i := 211) rfl)) rfl
theorem prw_311 : (Cond.methodLink prn_Y 106 pry_T_placeAt) ∈ pr_U := pr_inU (lw_in3 (List.mem_of_getElem? (i := 133) rfl)) rfl
theorem prw_312 : (Cond.fieldLink prn_Y 52 prn_Y "where" "I") ∈ pr_U := pr_inU (lw_in1 (List.mem_of_getElem? (i := 226) rfl)) rfl
theorem prw_313 : (Cond.instanceMethod pry_Y_isWrong) ∈ pr_U := pr_inU (lw_in3 (List.mem_of_getElem? (i := 131) rfl)) rfl
theorem prw_314 : (Cond.selects prn_Y pry_Y_isWrong pry_Y_isWrong) ∈ pr_U := pr_inU (lw_in0 (List.mem_of_getElem? (i := 33) rfl)) rfl
theorem prw_315 : (Cond.initialized prn_Y) ∈ pr_U := pr_inU (lw_in1 (List.mem_of_getElem? (i := 6) rfl)) rfl
theorem prw_316 : (Cond.code pry_Y_isWrong prb_Y_isWrong 3 (some .boolean)) ∈ pr_U := pr_inU (lw_in3 (List.mem_of_getElem? (i := 132) rfl)) rfl
theorem prw_317 : (Cond.instanceMethod pry_G_beginOf) ∈ pr_U := pr_inU (lw_in3 (List.mem_of_getElem? (i := 139) rfl)) rfl
theorem prw_318 : (Cond.selects prn_G pry_G_beginOf pry_G_beginOf) ∈ pr_U := pr_inU (lw_in3 (List.mem_of_getElem? (i := 140) rfl)) rfl
theorem prw_319 : (Cond.code pry_G_beginOf prb_G_beginOf 2 (some .int)) ∈ pr_U := pr_inU (lw_in3 (List.mem_of_getElem? (i := 141) rfl)) rfl
theorem prw_320 : (Cond.instanceMethod pry_G_endOf) ∈ pr_U := pr_inU (lw_in3 (List.mem_of_getElem? (i := 143) rfl)) rfl
theorem prw_321 : (Cond.selects prn_G pry_G_endOf pry_G_endOf) ∈ pr_U := pr_inU (lw_in3 (List.mem_of_getElem? (i := 144) rfl)) rfl
theorem prw_322 : (Cond.code pry_G_endOf prb_G_endOf 2 (some .int)) ∈ pr_U := pr_inU (lw_in3 (List.mem_of_getElem? (i := 145) rfl)) rfl
theorem prw_323 : (Cond.instanceMethod pry_O_goInto) ∈ pr_U := pr_inU (lw_in3 (List.mem_of_getElem? (i := 151) rfl)) rfl
theorem prw_324 : (Cond.selects prn_O pry_O_goInto pry_O_goInto) ∈ pr_U := pr_inU (lw_in3 (List.mem_of_getElem? (i := 152) rfl)) rfl
theorem prw_325 : (Cond.code pry_O_goInto prb_O_goInto 2 none) ∈ pr_U := pr_inU (lw_in3 (List.mem_of_getElem? (i := 153) rfl)) rfl
theorem prw_326 : (Cond.fieldLink prn_Y 64 prn_Y "open" "I") ∈ pr_U := pr_inU (lw_in1 (List.mem_of_getElem? (i := 220) rfl)) rfl
theorem prw_327 : (Cond.fieldLink prn_Y 21 prn_Y "parents" "[I") ∈ pr_U := pr_inU (lw_in1 (List.mem_of_getElem? (i := 218) rfl)) rfl
theorem prw_328 : (Cond.fieldLink prn_Y 24 prn_Y "functions" "[I") ∈ pr_U := pr_inU (lw_in1 (List.mem_of_getElem? (i := 219) rfl)) rfl
theorem prw_329 : (Cond.fieldLink prn_Y 9 prn_Y "nextStatements" "[I") ∈ pr_U := pr_inU (lw_in1 (List.mem_of_getElem? (i := 215) rfl)) rfl
theorem prw_330 : (Cond.fieldLink prn_Y 15 prn_Y "blockEnds" "[I") ∈ pr_U := pr_inU (lw_in1 (List.mem_of_getElem? (i := 216) rfl)) rfl
theorem prw_331 : (Cond.fieldLink prn_Y 18 prn_Y "otherEnds" "[I") ∈ pr_U := pr_inU (lw_in1 (List.mem_of_getElem? (i := 217) rfl)) rfl
theorem prw_332 : (Cond.fieldLink prn_Y 35 prn_Y "points" "LProgramRuns$Points;") ∈ pr_U := pr_inU (lw_in1 (List.mem_of_getElem? (i := 213) rfl)) rfl
theorem prw_333 : (Cond.methodLink prn_Y 143 pry_O_goInto) ∈ pr_U := pr_inU (lw_in3 (List.mem_of_getElem? (i := 150) rfl)) rfl
theorem prw_334 : (Cond.instanceMethod pry_Y_openBlock) ∈ pr_U := pr_inU (lw_in3 (List.mem_of_getElem? (i := 148) rfl)) rfl
theorem prw_335 : (Cond.selects prn_Y pry_Y_openBlock pry_Y_openBlock) ∈ pr_U := pr_inU (lw_in0 (List.mem_of_getElem? (i := 35) rfl)) rfl
theorem prw_336 : (Cond.code pry_Y_openBlock prb_Y_openBlock 6 none) ∈ pr_U := pr_inU (lw_in3 (List.mem_of_getElem? (i := 149) rfl)) rfl
theorem prw_337 : (Cond.fieldLink prn_Y 31 prn_Y "program" "LProgramRuns$Program;") ∈ pr_U := pr_inU (lw_in1 (List.mem_of_getElem? (i := 212) rfl)) rfl
theorem prw_338 : (Cond.methodLink prn_Y 133 pry_G_beginOf) ∈ pr_U := pr_inU (lw_in3 (List.mem_of_getElem? (i := 138) rfl)) rfl
theorem prw_339 : (Cond.methodLink prn_Y 136 pry_G_endOf) ∈ pr_U := pr_inU (lw_in3 (List.mem_of_getElem? (i := 142) rfl)) rfl
theorem prw_340 : (Cond.methodLink prn_Y 139 pry_Y_openBlock) ∈ pr_U := pr_inU (lw_in3 (List.mem_of_getElem? (i := 146) rfl)) rfl
theorem prw_341 : (Cond.instanceMethod pry_Y_openFunction) ∈ pr_U := pr_inU (lw_in3 (List.mem_of_getElem? (i := 136) rfl)) rfl
theorem prw_342 : (Cond.selects prn_Y pry_Y_openFunction pry_Y_openFunction) ∈ pr_U := pr_inU (lw_in0 (List.mem_of_getElem? (i := 34) rfl)) rfl
theorem prw_343 : (Cond.code pry_Y_openFunction prb_Y_openFunction 3 none) ∈ pr_U := pr_inU (lw_in3 (List.mem_of_getElem? (i := 137) rfl)) rfl
theorem prw_344 : (Cond.fieldLink prn_Y 86 prn_Y "block" "I") ∈ pr_U := pr_inU (lw_in1 (List.mem_of_getElem? (i := 221) rfl)) rfl
theorem prw_345 : (Cond.instanceMethod pry_Y_isOpen) ∈ pr_U := pr_inU (lw_in3 (List.mem_of_getElem? (i := 160) rfl)) rfl
theorem prw_346 : (Cond.selects prn_Y pry_Y_isOpen pry_Y_isOpen) ∈ pr_U := pr_inU (lw_in0 (List.mem_of_getElem? (i := 37) rfl)) rfl
theorem prw_347 : (Cond.code pry_Y_isOpen prb_Y_isOpen 1 (some .boolean)) ∈ pr_U := pr_inU (lw_in3 (List.mem_of_getElem? (i := 161) rfl)) rfl
theorem prw_348 : (Cond.instanceMethod pry_G_behind) ∈ pr_U := pr_inU (lw_in3 (List.mem_of_getElem? (i := 163) rfl)) rfl
theorem prw_349 : (Cond.selects prn_G pry_G_behind pry_G_behind) ∈ pr_U := pr_inU (lw_in3 (List.mem_of_getElem? (i := 164) rfl)) rfl
theorem prw_350 : (Cond.code pry_G_behind prb_G_behind 2 (some .int)) ∈ pr_U := pr_inU (lw_in3 (List.mem_of_getElem? (i := 165) rfl)) rfl
theorem prw_351 : (Cond.methodLink prn_Y 111 pry_Y_isOpen) ∈ pr_U := pr_inU (lw_in3 (List.mem_of_getElem? (i := 158) rfl)) rfl
theorem prw_352 : (Cond.methodLink prn_Y 115 pry_G_behind) ∈ pr_U := pr_inU (lw_in3 (List.mem_of_getElem? (i := 162) rfl)) rfl
theorem prw_353 : (Cond.instanceMethod pry_Y_takeStatement) ∈ pr_U := pr_inU (lw_in3 (List.mem_of_getElem? (i := 156) rfl)) rfl
theorem prw_354 : (Cond.selects prn_Y pry_Y_takeStatement pry_Y_takeStatement) ∈ pr_U := pr_inU (lw_in0 (List.mem_of_getElem? (i := 36) rfl)) rfl
theorem prw_355 : (Cond.code pry_Y_takeStatement prb_Y_takeStatement 2 (some .int)) ∈ pr_U := pr_inU (lw_in3 (List.mem_of_getElem? (i := 157) rfl)) rfl
theorem prw_356 : (Cond.instanceMethod pry_Y_parent) ∈ pr_U := pr_inU (lw_in3 (List.mem_of_getElem? (i := 172) rfl)) rfl
theorem prw_357 : (Cond.selects prn_Y pry_Y_parent pry_Y_parent) ∈ pr_U := pr_inU (lw_in0 (List.mem_of_getElem? (i := 39) rfl)) rfl
theorem prw_358 : (Cond.code pry_Y_parent prb_Y_parent 1 (some .int)) ∈ pr_U := pr_inU (lw_in3 (List.mem_of_getElem? (i := 173) rfl)) rfl
theorem prw_359 : (Cond.instanceMethod pry_O_numbersAt) ∈ pr_U := pr_inU (lw_in3 (List.mem_of_getElem? (i := 175) rfl)) rfl
theorem prw_360 : (Cond.selects prn_O pry_O_numbersAt pry_O_numbersAt) ∈ pr_U := pr_inU (lw_in3 (List.mem_of_getElem? (i := 176) rfl)) rfl
theorem prw_361 : (Cond.code pry_O_numbersAt prb_O_numbersAt 2 (some .int)) ∈ pr_U := pr_inU (lw_in3 (List.mem_of_getElem? (i := 177) rfl)) rfl
theorem prw_362 : (Cond.instanceMethod pry_O_arraysAt) ∈ pr_U := pr_inU (lw_in3 (List.mem_of_getElem? (i := 179) rfl)) rfl
theorem prw_363 : (Cond.selects prn_O pry_O_arraysAt pry_O_arraysAt) ∈ pr_U := pr_inU (lw_in3 (List.mem_of_getElem? (i := 180) rfl)) rfl
theorem prw_364 : (Cond.code pry_O_arraysAt prb_O_arraysAt 2 (some .int)) ∈ pr_U := pr_inU (lw_in3 (List.mem_of_getElem? (i := 181) rfl)) rfl
theorem prw_365 : (Cond.instanceMethod pry_O_beginOther) ∈ pr_U := pr_inU (lw_in3 (List.mem_of_getElem? (i := 183) rfl)) rfl
theorem prw_366 : (Cond.selects prn_O pry_O_beginOther pry_O_beginOther) ∈ pr_U := pr_inU (lw_in3 (List.mem_of_getElem? (i := 184) rfl)) rfl
theorem prw_367 : (Cond.code pry_O_beginOther prb_O_beginOther 2 none) ∈ pr_U := pr_inU (lw_in3 (List.mem_of_getElem? (i := 185) rfl)) rfl
theorem prw_368 : (Cond.instanceMethod pry_O_close) ∈ pr_U := pr_inU (lw_in3 (List.mem_of_getElem? (i := 187) rfl)) rfl
theorem prw_369 : (Cond.selects prn_O pry_O_close pry_O_close) ∈ pr_U := pr_inU (lw_in3 (List.mem_of_getElem? (i := 188) rfl)) rfl
theorem prw_370 : (Cond.code pry_O_close prb_O_close 2 none) ∈ pr_U := pr_inU (lw_in3 (List.mem_of_getElem? (i := 189) rfl)) rfl
theorem prw_371 : (Cond.methodLink prn_Y 118 pry_Y_parent) ∈ pr_U := pr_inU (lw_in3 (List.mem_of_getElem? (i := 170) rfl)) rfl
theorem prw_372 : (Cond.fieldLink prn_Y 44 prn_Y "scope" "LProgramRuns$Scope;") ∈ pr_U := pr_inU (lw_in1 (List.mem_of_getElem? (i := 214) rfl)) rfl
theorem prw_373 : (Cond.methodLink prn_Y 121 pry_O_numbersAt) ∈ pr_U := pr_inU (lw_in3 (List.mem_of_getElem? (i := 174) rfl)) rfl
theorem prw_374 : (Cond.methodLink prn_Y 124 pry_O_arraysAt) ∈ pr_U := pr_inU (lw_in3 (List.mem_of_getElem? (i := 178) rfl)) rfl
theorem prw_375 : (Cond.methodLink prn_Y 60 pry_S_cutTo) ∈ pr_U := pr_inU (lw_in3 (List.mem_of_getElem? (i := 113) rfl)) rfl
theorem prw_376 : (Cond.methodLink prn_Y 130 pry_O_close) ∈ pr_U := pr_inU (lw_in3 (List.mem_of_getElem? (i := 186) rfl)) rfl
theorem prw_377 : (Cond.methodLink prn_Y 127 pry_O_beginOther) ∈ pr_U := pr_inU (lw_in3 (List.mem_of_getElem? (i := 182) rfl)) rfl
theorem prw_378 : (Cond.instanceMethod pry_Y_endBlock) ∈ pr_U := pr_inU (lw_in3 (List.mem_of_getElem? (i := 168) rfl)) rfl
theorem prw_379 : (Cond.selects prn_Y pry_Y_endBlock pry_Y_endBlock) ∈ pr_U := pr_inU (lw_in0 (List.mem_of_getElem? (i := 38) rfl)) rfl
theorem prw_380 : (Cond.code pry_Y_endBlock prb_Y_endBlock 2 none) ∈ pr_U := pr_inU (lw_in3 (List.mem_of_getElem? (i := 169) rfl)) rfl
theorem prw_381 : (Cond.instanceMethod pry_G_kindOf) ∈ pr_U := pr_inU (lw_in3 (List.mem_of_getElem? (i := 195) rfl)) rfl
theorem prw_382 : (Cond.selects prn_G pry_G_kindOf pry_G_kindOf) ∈ pr_U := pr_inU (lw_in3 (List.mem_of_getElem? (i := 196) rfl)) rfl
theorem prw_383 : (Cond.code pry_G_kindOf prb_G_kindOf 2 (some .int)) ∈ pr_U := pr_inU (lw_in3 (List.mem_of_getElem? (i := 197) rfl)) rfl
theorem prw_384 : (Cond.instanceMethod pry_G_firstTokenOf) ∈ pr_U := pr_inU (lw_in3 (List.mem_of_getElem? (i := 199) rfl)) rfl
theorem prw_385 : (Cond.selects prn_G pry_G_firstTokenOf pry_G_firstTokenOf) ∈ pr_U := pr_inU (lw_in3 (List.mem_of_getElem? (i := 200) rfl)) rfl
theorem prw_386 : (Cond.code pry_G_firstTokenOf prb_G_firstTokenOf 2 (some .int)) ∈ pr_U := pr_inU (lw_in3 (List.mem_of_getElem? (i := 201) rfl)) rfl
theorem prw_387 : (Cond.instanceMethod pry_O_count) ∈ pr_U := pr_inU (lw_in3 (List.mem_of_getElem? (i := 203) rfl)) rfl
theorem prw_388 : (Cond.selects prn_O pry_O_count pry_O_count) ∈ pr_U := pr_inU (lw_in3 (List.mem_of_getElem? (i := 204) rfl)) rfl
theorem prw_389 : (Cond.code pry_O_count prb_O_count 1 (some .int)) ∈ pr_U := pr_inU (lw_in3 (List.mem_of_getElem? (i := 205) rfl)) rfl
theorem prw_390 : (Cond.instanceMethod pry_O_kindOf) ∈ pr_U := pr_inU (lw_in3 (List.mem_of_getElem? (i := 211) rfl)) rfl
theorem prw_391 : (Cond.selects prn_O pry_O_kindOf pry_O_kindOf) ∈ pr_U := pr_inU (lw_in3 (List.mem_of_getElem? (i := 212) rfl)) rfl
theorem prw_392 : (Cond.code pry_O_kindOf prb_O_kindOf 2 (some .int)) ∈ pr_U := pr_inU (lw_in3 (List.mem_of_getElem? (i := 213) rfl)) rfl
theorem prw_393 : (Cond.instanceMethod pry_O_foreignNumbersAt) ∈ pr_U := pr_inU (lw_in3 (List.mem_of_getElem? (i := 215) rfl)) rfl
theorem prw_394 : (Cond.selects prn_O pry_O_foreignNumbersAt pry_O_foreignNumbersAt) ∈ pr_U := pr_inU (lw_in3 (List.mem_of_getElem? (i := 216) rfl)) rfl
theorem prw_395 : (Cond.code pry_O_foreignNumbersAt prb_O_foreignNumbersAt 2 (some .int)) ∈ pr_U := pr_inU (lw_in3 (List.mem_of_getElem? (i := 217) rfl)) rfl
theorem prw_396 : (Cond.instanceMethod pry_O_foreignArraysAt) ∈ pr_U := pr_inU (lw_in3 (List.mem_of_getElem? (i := 219) rfl)) rfl
theorem prw_397 : (Cond.selects prn_O pry_O_foreignArraysAt pry_O_foreignArraysAt) ∈ pr_U := pr_inU (lw_in3 (List.mem_of_getElem? (i := 220) rfl)) rfl
theorem prw_398 : (Cond.code pry_O_foreignArraysAt prb_O_foreignArraysAt 2 (some .int)) ∈ pr_U := pr_inU (lw_in3 (List.mem_of_getElem? (i := 221) rfl)) rfl
theorem prw_399 : (Cond.methodLink prn_Y 146 pry_O_kindOf) ∈ pr_U := pr_inU (lw_in3 (List.mem_of_getElem? (i := 210) rfl)) rfl
theorem prw_400 : (Cond.methodLink prn_Y 149 pry_O_foreignNumbersAt) ∈ pr_U := pr_inU (lw_in3 (List.mem_of_getElem? (i := 214) rfl)) rfl
theorem prw_401 : (Cond.fieldLink prn_Y 152 prn_Y "foreignNumbers" "I") ∈ pr_U := pr_inU (lw_in1 (List.mem_of_getElem? (i := 222) rfl)) rfl
theorem prw_402 : (Cond.methodLink prn_Y 155 pry_O_foreignArraysAt) ∈ pr_U := pr_inU (lw_in3 (List.mem_of_getElem? (i := 218) rfl)) rfl
theorem prw_403 : (Cond.fieldLink prn_Y 158 prn_Y "foreignArrays" "I") ∈ pr_U := pr_inU (lw_in1 (List.mem_of_getElem? (i := 223) rfl)) rfl
theorem prw_404 : (Cond.instanceMethod pry_Y_findForeign) ∈ pr_U := pr_inU (lw_in3 (List.mem_of_getElem? (i := 208) rfl)) rfl
theorem prw_405 : (Cond.selects prn_Y pry_Y_findForeign pry_Y_findForeign) ∈ pr_U := pr_inU (lw_in0 (List.mem_of_getElem? (i := 41) rfl)) rfl
theorem prw_406 : (Cond.code pry_Y_findForeign prb_Y_findForeign 3 none) ∈ pr_U := pr_inU (lw_in3 (List.mem_of_getElem? (i := 209) rfl)) rfl
theorem prw_407 : (Cond.instanceMethod pry_Y_isLast) ∈ pr_U := pr_inU (lw_in3 (List.mem_of_getElem? (i := 228) rfl)) rfl
theorem prw_408 : (Cond.selects prn_Y pry_Y_isLast pry_Y_isLast) ∈ pr_U := pr_inU (lw_in0 (List.mem_of_getElem? (i := 43) rfl)) rfl
theorem prw_409 : (Cond.code pry_Y_isLast prb_Y_isLast 2 (some .boolean)) ∈ pr_U := pr_inU (lw_in3 (List.mem_of_getElem? (i := 229) rfl)) rfl
theorem prw_410 : (Cond.methodLink prn_Y 79 pry_Y_isWrong) ∈ pr_U := pr_inU (lw_in3 (List.mem_of_getElem? (i := 129) rfl)) rfl
theorem prw_411 : (Cond.methodLink prn_Y 169 pry_Y_isLast) ∈ pr_U := pr_inU (lw_in3 (List.mem_of_getElem? (i := 226) rfl)) rfl
theorem prw_412 : (Cond.instanceMethod pry_Y_returnHolds) ∈ pr_U := pr_inU (lw_in3 (List.mem_of_getElem? (i := 224) rfl)) rfl
theorem prw_413 : (Cond.selects prn_Y pry_Y_returnHolds pry_Y_returnHolds) ∈ pr_U := pr_inU (lw_in0 (List.mem_of_getElem? (i := 42) rfl)) rfl
theorem prw_414 : (Cond.code pry_Y_returnHolds prb_Y_returnHolds 5 (some .boolean)) ∈ pr_U := pr_inU (lw_in3 (List.mem_of_getElem? (i := 225) rfl)) rfl
theorem prw_415 : (Cond.instanceMethod pry_Y_blockBegin) ∈ pr_U := pr_inU (lw_in3 (List.mem_of_getElem? (i := 236) rfl)) rfl
theorem prw_416 : (Cond.selects prn_Y pry_Y_blockBegin pry_Y_blockBegin) ∈ pr_U := pr_inU (lw_in0 (List.mem_of_getElem? (i := 45) rfl)) rfl
theorem prw_417 : (Cond.code pry_Y_blockBegin prb_Y_blockBegin 1 (some .int)) ∈ pr_U := pr_inU (lw_in3 (List.mem_of_getElem? (i := 237) rfl)) rfl
theorem prw_418 : (Cond.fieldLink prn_S 11 prn_S "names" "[I") ∈ pr_U := pr_inU (lw_in1 (List.mem_of_getElem? (i := 193) rfl)) rfl
theorem prw_419 : (Cond.instanceMethod pry_S_isVariable) ∈ pr_U := pr_inU (lw_in4 (List.mem_of_getElem? (i := 4) rfl)) rfl
theorem prw_420 : (Cond.selects prn_S pry_S_isVariable pry_S_isVariable) ∈ pr_U := pr_inU (lw_in0 (List.mem_of_getElem? (i := 46) rfl)) rfl
theorem prw_421 : (Cond.code pry_S_isVariable prb_S_isVariable 2 (some .boolean)) ∈ pr_U := pr_inU (lw_in4 (List.mem_of_getElem? (i := 5) rfl)) rfl
theorem prw_422 : (Cond.instanceMethod pry_T_valueAt) ∈ pr_U := pr_inU (lw_in4 (List.mem_of_getElem? (i := 11) rfl)) rfl
theorem prw_423 : (Cond.selects prn_T pry_T_valueAt pry_T_valueAt) ∈ pr_U := pr_inU (lw_in4 (List.mem_of_getElem? (i := 12) rfl)) rfl
theorem prw_424 : (Cond.code pry_T_valueAt prb_T_valueAt 2 (some .int)) ∈ pr_U := pr_inU (lw_in4 (List.mem_of_getElem? (i := 13) rfl)) rfl
theorem prw_425 : (Cond.methodLink prn_T 49 pry_T_valueAt) ∈ pr_U := pr_inU (lw_in4 (List.mem_of_getElem? (i := 10) rfl)) rfl
theorem prw_426 : (Cond.methodLink prn_T 52 pry_T_placeAt) ∈ pr_U := pr_inU (lw_in4 (List.mem_of_getElem? (i := 14) rfl)) rfl
theorem prw_427 : (Cond.instanceMethod pry_T_sameName) ∈ pr_U := pr_inU (lw_in4 (List.mem_of_getElem? (i := 7) rfl)) rfl
theorem prw_428 : (Cond.selects prn_T pry_T_sameName pry_T_sameName) ∈ pr_U := pr_inU (lw_in4 (List.mem_of_getElem? (i := 8) rfl)) rfl
theorem prw_429 : (Cond.code pry_T_sameName prb_T_sameName 8 (some .boolean)) ∈ pr_U := pr_inU (lw_in4 (List.mem_of_getElem? (i := 9) rfl)) rfl
theorem prw_430 : (Cond.methodLink prn_S 33 pry_S_isVariable) ∈ pr_U := pr_inU (lw_in4 (List.mem_of_getElem? (i := 2) rfl)) rfl
theorem prw_431 : (Cond.fieldLink prn_S 22 prn_S "tokens" "LProgramRuns$Tokens;") ∈ pr_U := pr_inU (lw_in1 (List.mem_of_getElem? (i := 192) rfl)) rfl
theorem prw_432 : (Cond.methodLink prn_S 37 pry_T_sameName) ∈ pr_U := pr_inU (lw_in4 (List.mem_of_getElem? (i := 6) rfl)) rfl
theorem prw_433 : (Cond.instanceMethod pry_S_find) ∈ pr_U := pr_inU (lw_in3 (List.mem_of_getElem? (i := 239) rfl)) rfl
theorem prw_434 : (Cond.selects prn_S pry_S_find pry_S_find) ∈ pr_U := pr_inU (lw_in4 (List.mem_of_getElem? (i := 0) rfl)) rfl
theorem prw_435 : (Cond.code pry_S_find prb_S_find 4 (some .int)) ∈ pr_U := pr_inU (lw_in4 (List.mem_of_getElem? (i := 1) rfl)) rfl
theorem prw_436 : (Cond.methodLink prn_Y 238 pry_Y_blockBegin) ∈ pr_U := pr_inU (lw_in3 (List.mem_of_getElem? (i := 234) rfl)) rfl
theorem prw_437 : (Cond.methodLink prn_Y 241 pry_S_find) ∈ pr_U := pr_inU (lw_in3 (List.mem_of_getElem? (i := 238) rfl)) rfl
theorem prw_438 : (Cond.methodLink prn_Y 189 pry_T_kindAt) ∈ pr_U := pr_inU (lw_in4 (List.mem_of_getElem? (i := 15) rfl)) rfl
theorem prw_439 : (Cond.methodLink prn_Y 244 pry_T_valueAt) ∈ pr_U := pr_inU (lw_in4 (List.mem_of_getElem? (i := 16) rfl)) rfl
theorem prw_440 : (Cond.instanceMethod pry_Y_varHolds) ∈ pr_U := pr_inU (lw_in3 (List.mem_of_getElem? (i := 232) rfl)) rfl
theorem prw_441 : (Cond.selects prn_Y pry_Y_varHolds pry_Y_varHolds) ∈ pr_U := pr_inU (lw_in0 (List.mem_of_getElem? (i := 44) rfl)) rfl
theorem prw_442 : (Cond.code pry_Y_varHolds prb_Y_varHolds 3 (some .boolean)) ∈ pr_U := pr_inU (lw_in3 (List.mem_of_getElem? (i := 233) rfl)) rfl
theorem prw_443 : (Cond.instanceMethod pry_T_count) ∈ pr_U := pr_inU (lw_in4 (List.mem_of_getElem? (i := 22) rfl)) rfl
theorem prw_444 : (Cond.selects prn_T pry_T_count pry_T_count) ∈ pr_U := pr_inU (lw_in4 (List.mem_of_getElem? (i := 23) rfl)) rfl
theorem prw_445 : (Cond.code pry_T_count prb_T_count 1 (some .int)) ∈ pr_U := pr_inU (lw_in4 (List.mem_of_getElem? (i := 24) rfl)) rfl
theorem prw_446 : (Cond.instanceMethod pry_Y_function) ∈ pr_U := pr_inU (lw_in4 (List.mem_of_getElem? (i := 35) rfl)) rfl
theorem prw_447 : (Cond.selects prn_Y pry_Y_function pry_Y_function) ∈ pr_U := pr_inU (lw_in0 (List.mem_of_getElem? (i := 50) rfl)) rfl
theorem prw_448 : (Cond.code pry_Y_function prb_Y_function 1 (some .int)) ∈ pr_U := pr_inU (lw_in4 (List.mem_of_getElem? (i := 36) rfl)) rfl
theorem prw_449 : (Cond.methodLink prn_Y 195 pry_Y_function) ∈ pr_U := pr_inU (lw_in4 (List.mem_of_getElem? (i := 33) rfl)) rfl
theorem prw_450 : (Cond.methodLink prn_Y 76 pry_G_nameOf) ∈ pr_U := pr_inU (lw_in3 (List.mem_of_getElem? (i := 125) rfl)) rfl
theorem prw_451 : (Cond.methodLink prn_Y 277 pry_T_sameName) ∈ pr_U := pr_inU (lw_in4 (List.mem_of_getElem? (i := 37) rfl)) rfl
theorem prw_452 : (Cond.instanceMethod pry_Y_functionMeant) ∈ pr_U := pr_inU (lw_in4 (List.mem_of_getElem? (i := 31) rfl)) rfl
theorem prw_453 : (Cond.selects prn_Y pry_Y_functionMeant pry_Y_functionMeant) ∈ pr_U := pr_inU (lw_in0 (List.mem_of_getElem? (i := 49) rfl)) rfl
theorem prw_454 : (Cond.code pry_Y_functionMeant prb_Y_functionMeant 3 (some .int)) ∈ pr_U := pr_inU (lw_in4 (List.mem_of_getElem? (i := 32) rfl)) rfl
theorem prw_455 : (Cond.instanceMethod pry_G_detailOf) ∈ pr_U := pr_inU (lw_in4 (List.mem_of_getElem? (i := 39) rfl)) rfl
theorem prw_456 : (Cond.selects prn_G pry_G_detailOf pry_G_detailOf) ∈ pr_U := pr_inU (lw_in4 (List.mem_of_getElem? (i := 40) rfl)) rfl
theorem prw_457 : (Cond.code pry_G_detailOf prb_G_detailOf 2 (some .int)) ∈ pr_U := pr_inU (lw_in4 (List.mem_of_getElem? (i := 41) rfl)) rfl
theorem prw_458 : (Cond.instanceMethod pry_G_returns) ∈ pr_U := pr_inU (lw_in4 (List.mem_of_getElem? (i := 43) rfl)) rfl
theorem prw_459 : (Cond.selects prn_G pry_G_returns pry_G_returns) ∈ pr_U := pr_inU (lw_in4 (List.mem_of_getElem? (i := 44) rfl)) rfl
theorem prw_460 : (Cond.code pry_G_returns prb_G_returns 2 (some .boolean)) ∈ pr_U := pr_inU (lw_in4 (List.mem_of_getElem? (i := 45) rfl)) rfl
theorem prw_461 : (Cond.methodLink prn_Y 271 pry_Y_functionMeant) ∈ pr_U := pr_inU (lw_in4 (List.mem_of_getElem? (i := 29) rfl)) rfl
theorem prw_462 : (Cond.methodLink prn_Y 198 pry_G_detailOf) ∈ pr_U := pr_inU (lw_in4 (List.mem_of_getElem? (i := 38) rfl)) rfl
theorem prw_463 : (Cond.methodLink prn_Y 72 pry_G_parametersOf) ∈ pr_U := pr_inU (lw_in3 (List.mem_of_getElem? (i := 121) rfl)) rfl
theorem prw_464 : (Cond.methodLink prn_Y 161 pry_G_firstTokenOf) ∈ pr_U := pr_inU (lw_in3 (List.mem_of_getElem? (i := 198) rfl)) rfl
theorem prw_465 : (Cond.fieldLink prn_Y 210 prn_Y "called" "I") ∈ pr_U := pr_inU (lw_in1 (List.mem_of_getElem? (i := 224) rfl)) rfl
theorem prw_466 : (Cond.methodLink prn_Y 274 pry_G_returns) ∈ pr_U := pr_inU (lw_in4 (List.mem_of_getElem? (i := 42) rfl)) rfl
theorem prw_467 : (Cond.instanceMethod pry_Y_callHolds) ∈ pr_U := pr_inU (lw_in4 (List.mem_of_getElem? (i := 27) rfl)) rfl
theorem prw_468 : (Cond.selects prn_Y pry_Y_callHolds pry_Y_callHolds) ∈ pr_U := pr_inU (lw_in0 (List.mem_of_getElem? (i := 48) rfl)) rfl
theorem prw_469 : (Cond.code pry_Y_callHolds prb_Y_callHolds 5 (some .boolean)) ∈ pr_U := pr_inU (lw_in4 (List.mem_of_getElem? (i := 28) rfl)) rfl
theorem prw_470 : (Cond.fieldLink prn_S 18 prn_S "isArray" "[Z") ∈ pr_U := pr_inU (lw_in1 (List.mem_of_getElem? (i := 195) rfl)) rfl
theorem prw_471 : (Cond.instanceMethod pry_S_isArray) ∈ pr_U := pr_inU (lw_in4 (List.mem_of_getElem? (i := 51) rfl)) rfl
theorem prw_472 : (Cond.selects prn_S pry_S_isArray pry_S_isArray) ∈ pr_U := pr_inU (lw_in4 (List.mem_of_getElem? (i := 52) rfl)) rfl
theorem prw_473 : (Cond.code pry_S_isArray prb_S_isArray 2 (some .boolean)) ∈ pr_U := pr_inU (lw_in4 (List.mem_of_getElem? (i := 53) rfl)) rfl
theorem prw_474 : (Cond.fieldLink prn_S 15 prn_S "slots" "[I") ∈ pr_U := pr_inU (lw_in1 (List.mem_of_getElem? (i := 194) rfl)) rfl
theorem prw_475 : (Cond.instanceMethod pry_S_slotOf) ∈ pr_U := pr_inU (lw_in4 (List.mem_of_getElem? (i := 55) rfl)) rfl
theorem prw_476 : (Cond.selects prn_S pry_S_slotOf pry_S_slotOf) ∈ pr_U := pr_inU (lw_in4 (List.mem_of_getElem? (i := 56) rfl)) rfl
theorem prw_477 : (Cond.code pry_S_slotOf prb_S_slotOf 2 (some .int)) ∈ pr_U := pr_inU (lw_in4 (List.mem_of_getElem? (i := 57) rfl)) rfl
theorem prw_478 : (Cond.fieldLink prn_G 50 prn_G "slots" "[I") ∈ pr_U := pr_inU (lw_in1 (List.mem_of_getElem? (i := 44) rfl)) rfl
theorem prw_479 : (Cond.instanceMethod pry_G_setSlot) ∈ pr_U := pr_inU (lw_in4 (List.mem_of_getElem? (i := 59) rfl)) rfl
theorem prw_480 : (Cond.selects prn_G pry_G_setSlot pry_G_setSlot) ∈ pr_U := pr_inU (lw_in4 (List.mem_of_getElem? (i := 60) rfl)) rfl
theorem prw_481 : (Cond.code pry_G_setSlot prb_G_setSlot 3 none) ∈ pr_U := pr_inU (lw_in4 (List.mem_of_getElem? (i := 61) rfl)) rfl
theorem prw_482 : (Cond.methodLink prn_Y 264 pry_S_isArray) ∈ pr_U := pr_inU (lw_in4 (List.mem_of_getElem? (i := 50) rfl)) rfl
theorem prw_483 : (Cond.methodLink prn_Y 267 pry_S_slotOf) ∈ pr_U := pr_inU (lw_in4 (List.mem_of_getElem? (i := 54) rfl)) rfl
theorem prw_484 : (Cond.methodLink prn_Y 268 pry_G_setSlot) ∈ pr_U := pr_inU (lw_in4 (List.mem_of_getElem? (i := 58) rfl)) rfl
theorem prw_485 : (Cond.instanceMethod pry_Y_nameHolds) ∈ pr_U := pr_inU (lw_in4 (List.mem_of_getElem? (i := 48) rfl)) rfl
theorem prw_486 : (Cond.selects prn_Y pry_Y_nameHolds pry_Y_nameHolds) ∈ pr_U := pr_inU (lw_in0 (List.mem_of_getElem? (i := 51) rfl)) rfl
theorem prw_487 : (Cond.code pry_Y_nameHolds prb_Y_nameHolds 4 (some .boolean)) ∈ pr_U := pr_inU (lw_in4 (List.mem_of_getElem? (i := 49) rfl)) rfl
theorem prw_488 : (Cond.methodLink prn_T 46 pry_T_kindAt) ∈ pr_U := pr_inU (lw_in4 (List.mem_of_getElem? (i := 70) rfl)) rfl
theorem prw_489 : (Cond.instanceMethod pry_T_secondLimit) ∈ pr_U := pr_inU (lw_in4 (List.mem_of_getElem? (i := 67) rfl)) rfl
theorem prw_490 : (Cond.selects prn_T pry_T_secondLimit pry_T_secondLimit) ∈ pr_U := pr_inU (lw_in4 (List.mem_of_getElem? (i := 68) rfl)) rfl
theorem prw_491 : (Cond.code pry_T_secondLimit prb_T_secondLimit 2 (some .int)) ∈ pr_U := pr_inU (lw_in4 (List.mem_of_getElem? (i := 69) rfl)) rfl
theorem prw_492 : (Cond.instanceMethod pry_T_limitAt) ∈ pr_U := pr_inU (lw_in4 (List.mem_of_getElem? (i := 72) rfl)) rfl
theorem prw_493 : (Cond.selects prn_T pry_T_limitAt pry_T_limitAt) ∈ pr_U := pr_inU (lw_in4 (List.mem_of_getElem? (i := 73) rfl)) rfl
theorem prw_494 : (Cond.code pry_T_limitAt prb_T_limitAt 2 (some .int)) ∈ pr_U := pr_inU (lw_in4 (List.mem_of_getElem? (i := 74) rfl)) rfl
theorem prw_495 : (Cond.methodLink prn_Y 258 pry_T_secondLimit) ∈ pr_U := pr_inU (lw_in4 (List.mem_of_getElem? (i := 66) rfl)) rfl
theorem prw_496 : (Cond.methodLink prn_Y 261 pry_T_limitAt) ∈ pr_U := pr_inU (lw_in4 (List.mem_of_getElem? (i := 71) rfl)) rfl
theorem prw_497 : (Cond.instanceMethod pry_Y_limitsHold) ∈ pr_U := pr_inU (lw_in4 (List.mem_of_getElem? (i := 64) rfl)) rfl
theorem prw_498 : (Cond.selects prn_Y pry_Y_limitsHold pry_Y_limitsHold) ∈ pr_U := pr_inU (lw_in0 (List.mem_of_getElem? (i := 52) rfl)) rfl
theorem prw_499 : (Cond.code pry_Y_limitsHold prb_Y_limitsHold 3 (some .boolean)) ∈ pr_U := pr_inU (lw_in4 (List.mem_of_getElem? (i := 65) rfl)) rfl
theorem prw_500 : (Cond.methodLink prn_Y 247 pry_T_count) ∈ pr_U := pr_inU (lw_in4 (List.mem_of_getElem? (i := 21) rfl)) rfl
theorem prw_501 : (Cond.methodLink prn_Y 255 pry_Y_limitsHold) ∈ pr_U := pr_inU (lw_in4 (List.mem_of_getElem? (i := 62) rfl)) rfl
theorem prw_502 : (Cond.methodLink prn_Y 251 pry_Y_nameHolds) ∈ pr_U := pr_inU (lw_in4 (List.mem_of_getElem? (i := 46) rfl)) rfl
theorem prw_503 : (Cond.methodLink prn_Y 248 pry_Y_callHolds) ∈ pr_U := pr_inU (lw_in4 (List.mem_of_getElem? (i := 25) rfl)) rfl
theorem prw_504 : (Cond.instanceMethod pry_Y_tokensHold) ∈ pr_U := pr_inU (lw_in4 (List.mem_of_getElem? (i := 19) rfl)) rfl
theorem prw_505 : (Cond.selects prn_Y pry_Y_tokensHold pry_Y_tokensHold) ∈ pr_U := pr_inU (lw_in0 (List.mem_of_getElem? (i := 47) rfl)) rfl
theorem prw_506 : (Cond.code pry_Y_tokensHold prb_Y_tokensHold 7 (some .boolean)) ∈ pr_U := pr_inU (lw_in4 (List.mem_of_getElem? (i := 20) rfl)) rfl
theorem prw_507 : (Cond.methodLink prn_G 67 pry_G_nameOf) ∈ pr_U := pr_inU (lw_in4 (List.mem_of_getElem? (i := 83) rfl)) rfl
theorem prw_508 : (Cond.instanceMethod pry_G_parameterToken) ∈ pr_U := pr_inU (lw_in4 (List.mem_of_getElem? (i := 80) rfl)) rfl
theorem prw_509 : (Cond.selects prn_G pry_G_parameterToken pry_G_parameterToken) ∈ pr_U := pr_inU (lw_in4 (List.mem_of_getElem? (i := 81) rfl)) rfl
theorem prw_510 : (Cond.code pry_G_parameterToken prb_G_parameterToken 3 (some .int)) ∈ pr_U := pr_inU (lw_in4 (List.mem_of_getElem? (i := 82) rfl)) rfl
theorem prw_511 : (Cond.methodLink prn_Y 213 pry_G_parameterToken) ∈ pr_U := pr_inU (lw_in4 (List.mem_of_getElem? (i := 79) rfl)) rfl
theorem prw_512 : (Cond.instanceMethod pry_Y_parametersHold) ∈ pr_U := pr_inU (lw_in4 (List.mem_of_getElem? (i := 77) rfl)) rfl
theorem prw_513 : (Cond.selects prn_Y pry_Y_parametersHold pry_Y_parametersHold) ∈ pr_U := pr_inU (lw_in0 (List.mem_of_getElem? (i := 53) rfl)) rfl
theorem prw_514 : (Cond.code pry_Y_parametersHold prb_Y_parametersHold 4 (some .boolean)) ∈ pr_U := pr_inU (lw_in4 (List.mem_of_getElem? (i := 78) rfl)) rfl
theorem prw_515 : (Cond.instanceMethod pry_S_arrays) ∈ pr_U := pr_inU (lw_in4 (List.mem_of_getElem? (i := 89) rfl)) rfl
theorem prw_516 : (Cond.selects prn_S pry_S_arrays pry_S_arrays) ∈ pr_U := pr_inU (lw_in4 (List.mem_of_getElem? (i := 90) rfl)) rfl
theorem prw_517 : (Cond.code pry_S_arrays prb_S_arrays 1 (some .int)) ∈ pr_U := pr_inU (lw_in4 (List.mem_of_getElem? (i := 91) rfl)) rfl
theorem prw_518 : (Cond.instanceMethod pry_S_numbers) ∈ pr_U := pr_inU (lw_in4 (List.mem_of_getElem? (i := 93) rfl)) rfl
theorem prw_519 : (Cond.selects prn_S pry_S_numbers pry_S_numbers) ∈ pr_U := pr_inU (lw_in4 (List.mem_of_getElem? (i := 94) rfl)) rfl
theorem prw_520 : (Cond.code pry_S_numbers prb_S_numbers 1 (some .int)) ∈ pr_U := pr_inU (lw_in4 (List.mem_of_getElem? (i := 95) rfl)) rfl
theorem prw_521 : (Cond.methodLink prn_Y 179 pry_S_arrays) ∈ pr_U := pr_inU (lw_in4 (List.mem_of_getElem? (i := 88) rfl)) rfl
theorem prw_522 : (Cond.methodLink prn_Y 176 pry_S_numbers) ∈ pr_U := pr_inU (lw_in4 (List.mem_of_getElem? (i := 92) rfl)) rfl
theorem prw_523 : (Cond.instanceMethod pry_Y_thereIsRoom) ∈ pr_U := pr_inU (lw_in4 (List.mem_of_getElem? (i := 86) rfl)) rfl
theorem prw_524 : (Cond.selects prn_Y pry_Y_thereIsRoom pry_Y_thereIsRoom) ∈ pr_U := pr_inU (lw_in0 (List.mem_of_getElem? (i := 54) rfl)) rfl
theorem prw_525 : (Cond.code pry_Y_thereIsRoom prb_Y_thereIsRoom 4 (some .boolean)) ∈ pr_U := pr_inU (lw_in4 (List.mem_of_getElem? (i := 87) rfl)) rfl
theorem prw_526 : (Cond.methodLink prn_Y 164 pry_G_kindOf) ∈ pr_U := pr_inU (lw_in3 (List.mem_of_getElem? (i := 194) rfl)) rfl
theorem prw_527 : (Cond.methodLink prn_Y 217 pry_O_count) ∈ pr_U := pr_inU (lw_in3 (List.mem_of_getElem? (i := 202) rfl)) rfl
theorem prw_528 : (Cond.methodLink prn_Y 220 pry_Y_findForeign) ∈ pr_U := pr_inU (lw_in3 (List.mem_of_getElem? (i := 206) rfl)) rfl
theorem prw_529 : (Cond.methodLink prn_Y 223 pry_Y_returnHolds) ∈ pr_U := pr_inU (lw_in3 (List.mem_of_getElem? (i := 222) rfl)) rfl
theorem prw_530 : (Cond.methodLink prn_Y 226 pry_Y_varHolds) ∈ pr_U := pr_inU (lw_in3 (List.mem_of_getElem? (i := 230) rfl)) rfl
theorem prw_531 : (Cond.methodLink prn_Y 229 pry_Y_tokensHold) ∈ pr_U := pr_inU (lw_in4 (List.mem_of_getElem? (i := 17) rfl)) rfl
theorem prw_532 : (Cond.methodLink prn_Y 232 pry_Y_parametersHold) ∈ pr_U := pr_inU (lw_in4 (List.mem_of_getElem? (i := 75) rfl)) rfl
theorem prw_533 : (Cond.methodLink prn_Y 235 pry_Y_thereIsRoom) ∈ pr_U := pr_inU (lw_in4 (List.mem_of_getElem? (i := 84) rfl)) rfl
theorem prw_534 : (Cond.instanceMethod pry_Y_holds) ∈ pr_U := pr_inU (lw_in3 (List.mem_of_getElem? (i := 192) rfl)) rfl
theorem prw_535 : (Cond.selects prn_Y pry_Y_holds pry_Y_holds) ∈ pr_U := pr_inU (lw_in0 (List.mem_of_getElem? (i := 40) rfl)) rfl
theorem prw_536 : (Cond.code pry_Y_holds prb_Y_holds 5 (some .boolean)) ∈ pr_U := pr_inU (lw_in3 (List.mem_of_getElem? (i := 193) rfl)) rfl
theorem prw_537 : (Cond.instanceMethod pry_S_add) ∈ pr_U := pr_inU (lw_in4 (List.mem_of_getElem? (i := 105) rfl)) rfl
theorem prw_538 : (Cond.selects prn_S pry_S_add pry_S_add) ∈ pr_U := pr_inU (lw_in4 (List.mem_of_getElem? (i := 106) rfl)) rfl
theorem prw_539 : (Cond.code pry_S_add prb_S_add 4 none) ∈ pr_U := pr_inU (lw_in4 (List.mem_of_getElem? (i := 107) rfl)) rfl
theorem prw_540 : (Cond.instanceMethod pry_G_slotOf) ∈ pr_U := pr_inU (lw_in4 (List.mem_of_getElem? (i := 113) rfl)) rfl
theorem prw_541 : (Cond.selects prn_G pry_G_slotOf pry_G_slotOf) ∈ pr_U := pr_inU (lw_in4 (List.mem_of_getElem? (i := 114) rfl)) rfl
theorem prw_542 : (Cond.code pry_G_slotOf prb_G_slotOf 2 (some .int)) ∈ pr_U := pr_inU (lw_in4 (List.mem_of_getElem? (i := 115) rfl)) rfl
theorem prw_543 : (Cond.instanceMethod pry_O_setTarget) ∈ pr_U := pr_inU (lw_in4 (List.mem_of_getElem? (i := 117) rfl)) rfl
theorem prw_544 : (Cond.selects prn_O pry_O_setTarget pry_O_setTarget) ∈ pr_U := pr_inU (lw_in4 (List.mem_of_getElem? (i := 118) rfl)) rfl
theorem prw_545 : (Cond.code pry_O_setTarget prb_O_setTarget 3 none) ∈ pr_U := pr_inU (lw_in4 (List.mem_of_getElem? (i := 119) rfl)) rfl
theorem prw_546 : (Cond.methodLink prn_Y 204 pry_G_slotOf) ∈ pr_U := pr_inU (lw_in4 (List.mem_of_getElem? (i := 112) rfl)) rfl
theorem prw_547 : (Cond.methodLink prn_Y 207 pry_O_setTarget) ∈ pr_U := pr_inU (lw_in4 (List.mem_of_getElem? (i := 116) rfl)) rfl
theorem prw_548 : (Cond.methodLink prn_Y 83 pry_Y_openFunction) ∈ pr_U := pr_inU (lw_in3 (List.mem_of_getElem? (i := 134) rfl)) rfl
theorem prw_549 : (Cond.methodLink prn_Y 192 pry_S_add) ∈ pr_U := pr_inU (lw_in4 (List.mem_of_getElem? (i := 104) rfl)) rfl
theorem prw_550 : (Cond.instanceMethod pry_Y_layCall) ∈ pr_U := pr_inU (lw_in4 (List.mem_of_getElem? (i := 110) rfl)) rfl
theorem prw_551 : (Cond.selects prn_Y pry_Y_layCall pry_Y_layCall) ∈ pr_U := pr_inU (lw_in0 (List.mem_of_getElem? (i := 56) rfl)) rfl
theorem prw_552 : (Cond.code pry_Y_layCall prb_Y_layCall 4 none) ∈ pr_U := pr_inU (lw_in4 (List.mem_of_getElem? (i := 111) rfl)) rfl
theorem prw_553 : (Cond.methodLink prn_Y 165 pry_O_add) ∈ pr_U := pr_inU (lw_in4 (List.mem_of_getElem? (i := 100) rfl)) rfl
theorem prw_554 : (Cond.methodLink prn_Y 172 pry_O_setParent) ∈ pr_U := pr_inU (lw_in4 (List.mem_of_getElem? (i := 101) rfl)) rfl
theorem prw_555 : (Cond.methodLink prn_Y 182 pry_O_setThere) ∈ pr_U := pr_inU (lw_in4 (List.mem_of_getElem? (i := 102) rfl)) rfl
theorem prw_556 : (Cond.methodLink prn_Y 186 pry_O_setForeign) ∈ pr_U := pr_inU (lw_in4 (List.mem_of_getElem? (i := 103) rfl)) rfl
theorem prw_557 : (Cond.methodLink prn_Y 201 pry_Y_layCall) ∈ pr_U := pr_inU (lw_in4 (List.mem_of_getElem? (i := 108) rfl)) rfl
theorem prw_558 : (Cond.instanceMethod pry_Y_layStatement) ∈ pr_U := pr_inU (lw_in4 (List.mem_of_getElem? (i := 98) rfl)) rfl
theorem prw_559 : (Cond.selects prn_Y pry_Y_layStatement pry_Y_layStatement) ∈ pr_U := pr_inU (lw_in0 (List.mem_of_getElem? (i := 55) rfl)) rfl
theorem prw_560 : (Cond.code pry_Y_layStatement prb_Y_layStatement 4 none) ∈ pr_U := pr_inU (lw_in4 (List.mem_of_getElem? (i := 99) rfl)) rfl
theorem prw_561 : (Cond.instanceMethod pry_O_behindBlock) ∈ pr_U := pr_inU (lw_in4 (List.mem_of_getElem? (i := 126) rfl)) rfl
theorem prw_562 : (Cond.selects prn_O pry_O_behindBlock pry_O_behindBlock) ∈ pr_U := pr_inU (lw_in0 (List.mem_of_getElem? (i := 57) rfl)) rfl
theorem prw_563 : (Cond.code pry_O_behindBlock prb_O_behindBlock 3 (some .int)) ∈ pr_U := pr_inU (lw_in4 (List.mem_of_getElem? (i := 127) rfl)) rfl
theorem prw_564 : (Cond.methodLink prn_O 70 pry_O_behindBlock) ∈ pr_U := pr_inU (lw_in4 (List.mem_of_getElem? (i := 124) rfl)) rfl
theorem prw_565 : (Cond.instanceMethod pry_O_finish) ∈ pr_U := pr_inU (lw_in4 (List.mem_of_getElem? (i := 121) rfl)) rfl
theorem prw_566 : (Cond.selects prn_O pry_O_finish pry_O_finish) ∈ pr_U := pr_inU (lw_in4 (List.mem_of_getElem? (i := 122) rfl)) rfl
theorem prw_567 : (Cond.code pry_O_finish prb_O_finish 4 none) ∈ pr_U := pr_inU (lw_in4 (List.mem_of_getElem? (i := 123) rfl)) rfl
theorem prw_568 : (Cond.methodLink prn_Y 55 pry_O_clear) ∈ pr_U := pr_inU (lw_in3 (List.mem_of_getElem? (i := 112) rfl)) rfl
theorem prw_569 : (Cond.methodLink prn_Y 67 pry_G_functions) ∈ pr_U := pr_inU (lw_in3 (List.mem_of_getElem? (i := 117) rfl)) rfl
theorem prw_570 : (Cond.methodLink prn_Y 103 pry_O_finish) ∈ pr_U := pr_inU (lw_in4 (List.mem_of_getElem? (i := 120) rfl)) rfl
theorem prw_571 : (Cond.methodLink prn_Y 89 pry_Y_takeStatement) ∈ pr_U := pr_inU (lw_in3 (List.mem_of_getElem? (i := 154) rfl)) rfl
theorem prw_572 : (Cond.methodLink prn_Y 95 pry_Y_holds) ∈ pr_U := pr_inU (lw_in3 (List.mem_of_getElem? (i := 190) rfl)) rfl
theorem prw_573 : (Cond.methodLink prn_Y 99 pry_Y_layStatement) ∈ pr_U := pr_inU (lw_in4 (List.mem_of_getElem? (i := 96) rfl)) rfl
theorem prw_574 : (Cond.methodLink prn_Y 92 pry_Y_endBlock) ∈ pr_U := pr_inU (lw_in3 (List.mem_of_getElem? (i := 166) rfl)) rfl
theorem prw_575 : (Cond.instanceMethod pry_Y_layProgram) ∈ pr_U := pr_inU (lw_in3 (List.mem_of_getElem? (i := 109) rfl)) rfl
theorem prw_576 : (Cond.selects prn_Y pry_Y_layProgram pry_Y_layProgram) ∈ pr_U := pr_inU (lw_in3 (List.mem_of_getElem? (i := 110) rfl)) rfl
theorem prw_577 : (Cond.code pry_Y_layProgram prb_Y_layProgram 4 (some .boolean)) ∈ pr_U := pr_inU (lw_in3 (List.mem_of_getElem? (i := 111) rfl)) rfl
theorem prw_578 : (Cond.instanceMethod pry_Y_whatIsWrong) ∈ pr_U := pr_inU (lw_in4 (List.mem_of_getElem? (i := 129) rfl)) rfl
theorem prw_579 : (Cond.selects prn_Y pry_Y_whatIsWrong pry_Y_whatIsWrong) ∈ pr_U := pr_inU (lw_in4 (List.mem_of_getElem? (i := 130) rfl)) rfl
theorem prw_580 : (Cond.code pry_Y_whatIsWrong prb_Y_whatIsWrong 1 (some .int)) ∈ pr_U := pr_inU (lw_in4 (List.mem_of_getElem? (i := 131) rfl)) rfl
theorem prw_581 : (Cond.instanceMethod pry_Y_whereItIs) ∈ pr_U := pr_inU (lw_in4 (List.mem_of_getElem? (i := 133) rfl)) rfl
theorem prw_582 : (Cond.selects prn_Y pry_Y_whereItIs pry_Y_whereItIs) ∈ pr_U := pr_inU (lw_in4 (List.mem_of_getElem? (i := 134) rfl)) rfl
theorem prw_583 : (Cond.code pry_Y_whereItIs prb_Y_whereItIs 1 (some .int)) ∈ pr_U := pr_inU (lw_in4 (List.mem_of_getElem? (i := 135) rfl)) rfl
theorem prw_584 : (Cond.fieldLink prn_P 59 prn_P "ended" "Z") ∈ pr_U := pr_inU (lw_in2 (List.mem_of_getElem? (i := 74) rfl)) rfl
theorem prw_585 : (Cond.fieldLink prn_P 63 prn_P "wrong" "I") ∈ pr_U := pr_inU (lw_in2 (List.mem_of_getElem? (i := 75) rfl)) rfl
theorem prw_586 : (Cond.fieldLink prn_P 67 prn_P "where" "I") ∈ pr_U := pr_inU (lw_in2 (List.mem_of_getElem? (i := 76) rfl)) rfl
theorem prw_587 : (Cond.fieldLink prn_P 47 prn_P "machine" "LProgramRuns$Machine;") ∈ pr_U := pr_inU (lw_in2 (List.mem_of_getElem? (i := 73) rfl)) rfl
theorem prw_588 : (Cond.methodLink prn_P 70 pry_M_forget) ∈ pr_U := pr_inU (lw_in2 (List.mem_of_getElem? (i := 110) rfl)) rfl
theorem prw_589 : (Cond.methodLink prn_P 73 pry_T_readText) ∈ pr_U := pr_inU (lw_in2 (List.mem_of_getElem? (i := 114) rfl)) rfl
theorem prw_590 : (Cond.fieldLink prn_P 24 prn_P "reader" "LProgramRuns$Reader;") ∈ pr_U := pr_inU (lw_in2 (List.mem_of_getElem? (i := 70) rfl)) rfl
theorem prw_591 : (Cond.methodLink prn_P 76 pry_R_readText) ∈ pr_U := pr_inU (lw_in2 (List.mem_of_getElem? (i := 167) rfl)) rfl
theorem prw_592 : (Cond.fieldLink prn_P 40 prn_P "layout" "LProgramRuns$Layout;") ∈ pr_U := pr_inU (lw_in2 (List.mem_of_getElem? (i := 72) rfl)) rfl
theorem prw_593 : (Cond.methodLink prn_P 85 pry_Y_layProgram) ∈ pr_U := pr_inU (lw_in3 (List.mem_of_getElem? (i := 108) rfl)) rfl
theorem prw_594 : (Cond.methodLink prn_P 88 pry_Y_whatIsWrong) ∈ pr_U := pr_inU (lw_in4 (List.mem_of_getElem? (i := 128) rfl)) rfl
theorem prw_595 : (Cond.methodLink prn_P 91 pry_Y_whereItIs) ∈ pr_U := pr_inU (lw_in4 (List.mem_of_getElem? (i := 132) rfl)) rfl
theorem prw_596 : (Cond.fieldLink prn_P 31 prn_P "points" "LProgramRuns$Points;") ∈ pr_U := pr_inU (lw_in2 (List.mem_of_getElem? (i := 71) rfl)) rfl
theorem prw_597 : (Cond.methodLink prn_P 82 pry_O_leaveOnlyTheEnd) ∈ pr_U := pr_inU (lw_in3 (List.mem_of_getElem? (i := 76) rfl)) rfl
theorem prw_598 : (Cond.methodLink prn_P 79 pry_R_faultPlace) ∈ pr_U := pr_inU (lw_in3 (List.mem_of_getElem? (i := 68) rfl)) rfl
theorem prw_599 : (Cond.instanceMethod pry_P_end) ∈ pr_U := pr_inU (lw_in2 (List.mem_of_getElem? (i := 107) rfl)) rfl
theorem prw_600 : (Cond.selects prn_P pry_P_end pry_P_end) ∈ pr_U := pr_inU (lw_in2 (List.mem_of_getElem? (i := 108) rfl)) rfl
theorem prw_601 : (Cond.code pry_P_end prb_P_end 2 (some .int)) ∈ pr_U := pr_inU (lw_in2 (List.mem_of_getElem? (i := 109) rfl)) rfl
theorem prw_602 : (Cond.instanceMethod pry_P_told) ∈ pr_U := pr_inU (lw_in4 (List.mem_of_getElem? (i := 137) rfl)) rfl
theorem prw_603 : (Cond.selects prn_P pry_P_told pry_P_told) ∈ pr_U := pr_inU (lw_in4 (List.mem_of_getElem? (i := 138) rfl)) rfl
theorem prw_604 : (Cond.code pry_P_told prb_P_told 2 (some .int)) ∈ pr_U := pr_inU (lw_in4 (List.mem_of_getElem? (i := 139) rfl)) rfl
theorem prw_605 : (Cond.methodLink prn_P 94 pry_O_count) ∈ pr_U := pr_inU (lw_in4 (List.mem_of_getElem? (i := 144) rfl)) rfl
theorem prw_606 : (Cond.instanceMethod pry_P_points) ∈ pr_U := pr_inU (lw_in4 (List.mem_of_getElem? (i := 141) rfl)) rfl
theorem prw_607 : (Cond.selects prn_P pry_P_points pry_P_points) ∈ pr_U := pr_inU (lw_in4 (List.mem_of_getElem? (i := 142) rfl)) rfl
theorem prw_608 : (Cond.code pry_P_points prb_P_points 1 (some .int)) ∈ pr_U := pr_inU (lw_in4 (List.mem_of_getElem? (i := 143) rfl)) rfl
theorem prw_609 : (Cond.instanceMethod pry_O_placeOf) ∈ pr_U := pr_inU (lw_in4 (List.mem_of_getElem? (i := 151) rfl)) rfl
theorem prw_610 : (Cond.selects prn_O pry_O_placeOf pry_O_placeOf) ∈ pr_U := pr_inU (lw_in4 (List.mem_of_getElem? (i := 152) rfl)) rfl
theorem prw_611 : (Cond.code pry_O_placeOf prb_O_placeOf 2 (some .int)) ∈ pr_U := pr_inU (lw_in4 (List.mem_of_getElem? (i := 153) rfl)) rfl
theorem prw_612 : (Cond.instanceMethod pry_O_nextOf) ∈ pr_U := pr_inU (lw_in4 (List.mem_of_getElem? (i := 157) rfl)) rfl
theorem prw_613 : (Cond.selects prn_O pry_O_nextOf pry_O_nextOf) ∈ pr_U := pr_inU (lw_in4 (List.mem_of_getElem? (i := 158) rfl)) rfl
theorem prw_614 : (Cond.code pry_O_nextOf prb_O_nextOf 2 (some .int)) ∈ pr_U := pr_inU (lw_in4 (List.mem_of_getElem? (i := 159) rfl)) rfl
theorem prw_615 : (Cond.methodLink prn_P 97 pry_O_kindOf) ∈ pr_U := pr_inU (lw_in4 (List.mem_of_getElem? (i := 149) rfl)) rfl
theorem prw_616 : (Cond.methodLink prn_P 101 pry_O_placeOf) ∈ pr_U := pr_inU (lw_in4 (List.mem_of_getElem? (i := 150) rfl)) rfl
theorem prw_617 : (Cond.methodLink prn_P 104 pry_O_numbersAt) ∈ pr_U := pr_inU (lw_in4 (List.mem_of_getElem? (i := 154) rfl)) rfl
theorem prw_618 : (Cond.methodLink prn_P 107 pry_O_arraysAt) ∈ pr_U := pr_inU (lw_in4 (List.mem_of_getElem? (i := 155) rfl)) rfl
theorem prw_619 : (Cond.methodLink prn_P 110 pry_O_nextOf) ∈ pr_U := pr_inU (lw_in4 (List.mem_of_getElem? (i := 156) rfl)) rfl
theorem prw_620 : (Cond.instanceMethod pry_P_point) ∈ pr_U := pr_inU (lw_in4 (List.mem_of_getElem? (i := 146) rfl)) rfl
theorem prw_621 : (Cond.selects prn_P pry_P_point pry_P_point) ∈ pr_U := pr_inU (lw_in4 (List.mem_of_getElem? (i := 147) rfl)) rfl
theorem prw_622 : (Cond.code pry_P_point prb_P_point 3 (some .int)) ∈ pr_U := pr_inU (lw_in4 (List.mem_of_getElem? (i := 148) rfl)) rfl
theorem prw_623 : (Cond.fieldLink prn_M 39 prn_M "inputCount" "I") ∈ pr_U := pr_inU (lw_in2 (List.mem_of_getElem? (i := 30) rfl)) rfl
theorem prw_624 : (Cond.fieldLink prn_M 9 prn_M "inputs" "[I") ∈ pr_U := pr_inU (lw_in2 (List.mem_of_getElem? (i := 29) rfl)) rfl
theorem prw_625 : (Cond.instanceMethod pry_M_addInput) ∈ pr_U := pr_inU (lw_in4 (List.mem_of_getElem? (i := 165) rfl)) rfl
theorem prw_626 : (Cond.selects prn_M pry_M_addInput pry_M_addInput) ∈ pr_U := pr_inU (lw_in4 (List.mem_of_getElem? (i := 166) rfl)) rfl
theorem prw_627 : (Cond.code pry_M_addInput prb_M_addInput 2 (some .int)) ∈ pr_U := pr_inU (lw_in4 (List.mem_of_getElem? (i := 167) rfl)) rfl
theorem prw_628 : (Cond.methodLink prn_P 113 pry_M_addInput) ∈ pr_U := pr_inU (lw_in4 (List.mem_of_getElem? (i := 164) rfl)) rfl
theorem prw_629 : (Cond.instanceMethod pry_P_input) ∈ pr_U := pr_inU (lw_in4 (List.mem_of_getElem? (i := 161) rfl)) rfl
theorem prw_630 : (Cond.selects prn_P pry_P_input pry_P_input) ∈ pr_U := pr_inU (lw_in4 (List.mem_of_getElem? (i := 162) rfl)) rfl
theorem prw_631 : (Cond.code pry_P_input prb_P_input 2 (some .int)) ∈ pr_U := pr_inU (lw_in4 (List.mem_of_getElem? (i := 163) rfl)) rfl
theorem prw_632 : (Cond.instanceMethod pry_M_dropInputs) ∈ pr_U := pr_inU (lw_in4 (List.mem_of_getElem? (i := 173) rfl)) rfl
theorem prw_633 : (Cond.selects prn_M pry_M_dropInputs pry_M_dropInputs) ∈ pr_U := pr_inU (lw_in4 (List.mem_of_getElem? (i := 174) rfl)) rfl
theorem prw_634 : (Cond.code pry_M_dropInputs prb_M_dropInputs 2 (some .int)) ∈ pr_U := pr_inU (lw_in4 (List.mem_of_getElem? (i := 175) rfl)) rfl
theorem prw_635 : (Cond.methodLink prn_P 116 pry_M_dropInputs) ∈ pr_U := pr_inU (lw_in4 (List.mem_of_getElem? (i := 172) rfl)) rfl
theorem prw_636 : (Cond.instanceMethod pry_P_drop) ∈ pr_U := pr_inU (lw_in4 (List.mem_of_getElem? (i := 169) rfl)) rfl
theorem prw_637 : (Cond.selects prn_P pry_P_drop pry_P_drop) ∈ pr_U := pr_inU (lw_in4 (List.mem_of_getElem? (i := 170) rfl)) rfl
theorem prw_638 : (Cond.code pry_P_drop prb_P_drop 1 (some .int)) ∈ pr_U := pr_inU (lw_in4 (List.mem_of_getElem? (i := 171) rfl)) rfl
theorem prw_639 : (Cond.instanceMethod pry_O_statementOf) ∈ pr_U := pr_inU (lw_in4 (List.mem_of_getElem? (i := 195) rfl)) rfl
theorem prw_640 : (Cond.selects prn_O pry_O_statementOf pry_O_statementOf) ∈ pr_U := pr_inU (lw_in4 (List.mem_of_getElem? (i := 196) rfl)) rfl
theorem prw_641 : (Cond.code pry_O_statementOf prb_O_statementOf 2 (some .int)) ∈ pr_U := pr_inU (lw_in4 (List.mem_of_getElem? (i := 197) rfl)) rfl
theorem prw_642 : (Cond.instanceMethod pry_G_firstOperationOf) ∈ pr_U := pr_inU (lw_in4 (List.mem_of_getElem? (i := 199) rfl)) rfl
theorem prw_643 : (Cond.selects prn_G pry_G_firstOperationOf pry_G_firstOperationOf) ∈ pr_U := pr_inU (lw_in4 (List.mem_of_getElem? (i := 200) rfl)) rfl
theorem prw_644 : (Cond.code pry_G_firstOperationOf prb_G_firstOperationOf 2 (some .int)) ∈ pr_U := pr_inU (lw_in4 (List.mem_of_getElem? (i := 201) rfl)) rfl
theorem prw_645 : (Cond.instanceMethod pry_G_operationAt) ∈ pr_U := pr_inU (lw_in4 (List.mem_of_getElem? (i := 203) rfl)) rfl
theorem prw_646 : (Cond.selects prn_G pry_G_operationAt pry_G_operationAt) ∈ pr_U := pr_inU (lw_in4 (List.mem_of_getElem? (i := 204) rfl)) rfl
theorem prw_647 : (Cond.code pry_G_operationAt prb_G_operationAt 2 (some .int)) ∈ pr_U := pr_inU (lw_in4 (List.mem_of_getElem? (i := 205) rfl)) rfl
theorem prw_648 : (Cond.instanceMethod pry_G_operandAt) ∈ pr_U := pr_inU (lw_in4 (List.mem_of_getElem? (i := 207) rfl)) rfl
theorem prw_649 : (Cond.selects prn_G pry_G_operandAt pry_G_operandAt) ∈ pr_U := pr_inU (lw_in4 (List.mem_of_getElem? (i := 208) rfl)) rfl
theorem prw_650 : (Cond.code pry_G_operandAt prb_G_operandAt 2 (some .int)) ∈ pr_U := pr_inU (lw_in4 (List.mem_of_getElem? (i := 209) rfl)) rfl
theorem prw_651 : (Cond.fieldLink prn_M 111 prn_M "waitingCount" "I") ∈ pr_U := pr_inU (lw_in2 (List.mem_of_getElem? (i := 39) rfl)) rfl
theorem prw_652 : (Cond.fieldLink prn_M 24 prn_M "waiting" "[I") ∈ pr_U := pr_inU (lw_in2 (List.mem_of_getElem? (i := 38) rfl)) rfl
theorem prw_653 : (Cond.instanceMethod pry_M_waitingAt) ∈ pr_U := pr_inU (lw_in4 (List.mem_of_getElem? (i := 212) rfl)) rfl
theorem prw_654 : (Cond.selects prn_M pry_M_waitingAt pry_M_waitingAt) ∈ pr_U := pr_inU (lw_in0 (List.mem_of_getElem? (i := 60) rfl)) rfl
theorem prw_655 : (Cond.code pry_M_waitingAt prb_M_waitingAt 2 (some .int)) ∈ pr_U := pr_inU (lw_in4 (List.mem_of_getElem? (i := 213) rfl)) rfl
theorem prw_656 : (Cond.instanceMethod pry_M_pop) ∈ pr_U := pr_inU (lw_in4 (List.mem_of_getElem? (i := 219) rfl)) rfl
theorem prw_657 : (Cond.selects prn_M pry_M_pop pry_M_pop) ∈ pr_U := pr_inU (lw_in0 (List.mem_of_getElem? (i := 61) rfl)) rfl
theorem prw_658 : (Cond.code pry_M_pop prb_M_pop 1 (some .int)) ∈ pr_U := pr_inU (lw_in4 (List.mem_of_getElem? (i := 220) rfl)) rfl
theorem prw_659 : (Cond.instanceMethod pry_M_push) ∈ pr_U := pr_inU (lw_in4 (List.mem_of_getElem? (i := 233) rfl)) rfl
theorem prw_660 : (Cond.selects prn_M pry_M_push pry_M_push) ∈ pr_U := pr_inU (lw_in0 (List.mem_of_getElem? (i := 64) rfl)) rfl
theorem prw_661 : (Cond.code pry_M_push prb_M_push 2 none) ∈ pr_U := pr_inU (lw_in4 (List.mem_of_getElem? (i := 234) rfl)) rfl
theorem prw_662 : (Cond.constantLong prn_M 154 (-2147483648)) ∈ pr_U := pr_inU (lw_in4 (List.mem_of_getElem? (i := 229) rfl)) rfl
theorem prw_663 : (Cond.constantLong prn_M 156 2147483647) ∈ pr_U := pr_inU (lw_in4 (List.mem_of_getElem? (i := 230) rfl)) rfl
theorem prw_664 : (Cond.methodLink prn_M 151 pry_M_push) ∈ pr_U := pr_inU (lw_in4 (List.mem_of_getElem? (i := 231) rfl)) rfl
theorem prw_665 : (Cond.instanceMethod pry_M_pushIfInt) ∈ pr_U := pr_inU (lw_in4 (List.mem_of_getElem? (i := 227) rfl)) rfl
theorem prw_666 : (Cond.selects prn_M pry_M_pushIfInt pry_M_pushIfInt) ∈ pr_U := pr_inU (lw_in0 (List.mem_of_getElem? (i := 63) rfl)) rfl
theorem prw_667 : (Cond.code pry_M_pushIfInt prb_M_pushIfInt 3 none) ∈ pr_U := pr_inU (lw_in4 (List.mem_of_getElem? (i := 228) rfl)) rfl
theorem prw_668 : (Cond.methodLink prn_M 172 pry_M_pop) ∈ pr_U := pr_inU (lw_in4 (List.mem_of_getElem? (i := 217) rfl)) rfl
theorem prw_669 : (Cond.methodLink prn_M 185 pry_M_pushIfInt) ∈ pr_U := pr_inU (lw_in4 (List.mem_of_getElem? (i := 225) rfl)) rfl
theorem prw_670 : (Cond.instanceMethod pry_M_reckonTwo) ∈ pr_U := pr_inU (lw_in4 (List.mem_of_getElem? (i := 223) rfl)) rfl
theorem prw_671 : (Cond.selects prn_M pry_M_reckonTwo pry_M_reckonTwo) ∈ pr_U := pr_inU (lw_in0 (List.mem_of_getElem? (i := 62) rfl)) rfl
theorem prw_672 : (Cond.code pry_M_reckonTwo prb_M_reckonTwo 4 none) ∈ pr_U := pr_inU (lw_in4 (List.mem_of_getElem? (i := 224) rfl)) rfl
theorem prw_673 : (Cond.instanceMethod pry_M_pushTruth) ∈ pr_U := pr_inU (lw_in5 (List.mem_of_getElem? (i := 1) rfl)) rfl
theorem prw_674 : (Cond.selects prn_M pry_M_pushTruth pry_M_pushTruth) ∈ pr_U := pr_inU (lw_in0 (List.mem_of_getElem? (i := 66) rfl)) rfl
theorem prw_675 : (Cond.code pry_M_pushTruth prb_M_pushTruth 2 none) ∈ pr_U := pr_inU (lw_in5 (List.mem_of_getElem? (i := 2) rfl)) rfl
theorem prw_676 : (Cond.methodLink prn_M 189 pry_M_pushTruth) ∈ pr_U := pr_inU (lw_in4 (List.mem_of_getElem? (i := 239) rfl)) rfl
theorem prw_677 : (Cond.instanceMethod pry_M_compareTwo) ∈ pr_U := pr_inU (lw_in4 (List.mem_of_getElem? (i := 237) rfl)) rfl
theorem prw_678 : (Cond.selects prn_M pry_M_compareTwo pry_M_compareTwo) ∈ pr_U := pr_inU (lw_in0 (List.mem_of_getElem? (i := 65) rfl)) rfl
theorem prw_679 : (Cond.code pry_M_compareTwo prb_M_compareTwo 4 none) ∈ pr_U := pr_inU (lw_in4 (List.mem_of_getElem? (i := 238) rfl)) rfl
theorem prw_680 : (Cond.fieldLink prn_M 35 prn_M "points" "LProgramRuns$Points;") ∈ pr_U := pr_inU (lw_in2 (List.mem_of_getElem? (i := 28) rfl)) rfl
theorem prw_681 : (Cond.methodLink prn_M 134 pry_O_foreignNumbersAt) ∈ pr_U := pr_inU (lw_in5 (List.mem_of_getElem? (i := 12) rfl)) rfl
theorem prw_682 : (Cond.fieldLink prn_M 31 prn_M "program" "LProgramRuns$Program;") ∈ pr_U := pr_inU (lw_in2 (List.mem_of_getElem? (i := 27) rfl)) rfl
theorem prw_683 : (Cond.methodLink prn_M 137 pry_G_slotOf) ∈ pr_U := pr_inU (lw_in5 (List.mem_of_getElem? (i := 13) rfl)) rfl
theorem prw_684 : (Cond.instanceMethod pry_M_slotOfName) ∈ pr_U := pr_inU (lw_in5 (List.mem_of_getElem? (i := 10) rfl)) rfl
theorem prw_685 : (Cond.selects prn_M pry_M_slotOfName pry_M_slotOfName) ∈ pr_U := pr_inU (lw_in0 (List.mem_of_getElem? (i := 68) rfl)) rfl
theorem prw_686 : (Cond.code pry_M_slotOfName prb_M_slotOfName 3 (some .int)) ∈ pr_U := pr_inU (lw_in5 (List.mem_of_getElem? (i := 11) rfl)) rfl
theorem prw_687 : (Cond.fieldLink prn_M 15 prn_M "numbers" "[I") ∈ pr_U := pr_inU (lw_in2 (List.mem_of_getElem? (i := 31) rfl)) rfl
theorem prw_688 : (Cond.instanceMethod pry_M_getNumber) ∈ pr_U := pr_inU (lw_in5 (List.mem_of_getElem? (i := 16) rfl)) rfl
theorem prw_689 : (Cond.selects prn_M pry_M_getNumber pry_M_getNumber) ∈ pr_U := pr_inU (lw_in0 (List.mem_of_getElem? (i := 69) rfl)) rfl
theorem prw_690 : (Cond.code pry_M_getNumber prb_M_getNumber 2 (some .int)) ∈ pr_U := pr_inU (lw_in5 (List.mem_of_getElem? (i := 17) rfl)) rfl
theorem prw_691 : (Cond.fieldLink prn_M 18 prn_M "sizes" "[I") ∈ pr_U := pr_inU (lw_in2 (List.mem_of_getElem? (i := 32) rfl)) rfl
theorem prw_692 : (Cond.instanceMethod pry_M_hasPlace) ∈ pr_U := pr_inU (lw_in5 (List.mem_of_getElem? (i := 25) rfl)) rfl
theorem prw_693 : (Cond.selects prn_M pry_M_hasPlace pry_M_hasPlace) ∈ pr_U := pr_inU (lw_in0 (List.mem_of_getElem? (i := 71) rfl)) rfl
theorem prw_694 : (Cond.code pry_M_hasPlace prb_M_hasPlace 3 (some .boolean)) ∈ pr_U := pr_inU (lw_in5 (List.mem_of_getElem? (i := 26) rfl)) rfl
theorem prw_695 : (Cond.methodLink prn_M 100 pry_M_waitingAt) ∈ pr_U := pr_inU (lw_in4 (List.mem_of_getElem? (i := 210) rfl)) rfl
theorem prw_696 : (Cond.methodLink prn_M 67 pry_M_hasPlace) ∈ pr_U := pr_inU (lw_in5 (List.mem_of_getElem? (i := 23) rfl)) rfl
theorem prw_697 : (Cond.instanceMethod pry_M_lookAtPlace) ∈ pr_U := pr_inU (lw_in5 (List.mem_of_getElem? (i := 21) rfl)) rfl
theorem prw_698 : (Cond.selects prn_M pry_M_lookAtPlace pry_M_lookAtPlace) ∈ pr_U := pr_inU (lw_in0 (List.mem_of_getElem? (i := 70) rfl)) rfl
theorem prw_699 : (Cond.code pry_M_lookAtPlace prb_M_lookAtPlace 1 none) ∈ pr_U := pr_inU (lw_in5 (List.mem_of_getElem? (i := 22) rfl)) rfl
theorem prw_700 : (Cond.fieldLink prn_M 21 prn_M "places" "[I") ∈ pr_U := pr_inU (lw_in2 (List.mem_of_getElem? (i := 33) rfl)) rfl
theorem prw_701 : (Cond.instanceMethod pry_M_getPlace) ∈ pr_U := pr_inU (lw_in5 (List.mem_of_getElem? (i := 33) rfl)) rfl
theorem prw_702 : (Cond.selects prn_M pry_M_getPlace pry_M_getPlace) ∈ pr_U := pr_inU (lw_in0 (List.mem_of_getElem? (i := 73) rfl)) rfl
theorem prw_703 : (Cond.code pry_M_getPlace prb_M_getPlace 3 (some .int)) ∈ pr_U := pr_inU (lw_in5 (List.mem_of_getElem? (i := 34) rfl)) rfl
theorem prw_704 : (Cond.methodLink prn_M 196 pry_M_lookAtPlace) ∈ pr_U := pr_inU (lw_in5 (List.mem_of_getElem? (i := 19) rfl)) rfl
theorem prw_705 : (Cond.methodLink prn_M 71 pry_M_getPlace) ∈ pr_U := pr_inU (lw_in5 (List.mem_of_getElem? (i := 31) rfl)) rfl
theorem prw_706 : (Cond.instanceMethod pry_M_takePlace) ∈ pr_U := pr_inU (lw_in5 (List.mem_of_getElem? (i := 29) rfl)) rfl
theorem prw_707 : (Cond.selects prn_M pry_M_takePlace pry_M_takePlace) ∈ pr_U := pr_inU (lw_in0 (List.mem_of_getElem? (i := 72) rfl)) rfl
theorem prw_708 : (Cond.code pry_M_takePlace prb_M_takePlace 3 none) ∈ pr_U := pr_inU (lw_in5 (List.mem_of_getElem? (i := 30) rfl)) rfl
theorem prw_709 : (Cond.fieldLink prn_M 27 prn_M "tokens" "LProgramRuns$Tokens;") ∈ pr_U := pr_inU (lw_in2 (List.mem_of_getElem? (i := 26) rfl)) rfl
theorem prw_710 : (Cond.methodLink prn_M 140 pry_T_kindAt) ∈ pr_U := pr_inU (lw_in5 (List.mem_of_getElem? (i := 39) rfl)) rfl
theorem prw_711 : (Cond.methodLink prn_M 205 pry_T_limitAt) ∈ pr_U := pr_inU (lw_in5 (List.mem_of_getElem? (i := 40) rfl)) rfl
theorem prw_712 : (Cond.methodLink prn_M 208 pry_T_secondLimit) ∈ pr_U := pr_inU (lw_in5 (List.mem_of_getElem? (i := 41) rfl)) rfl
theorem prw_713 : (Cond.instanceMethod pry_M_takeAny) ∈ pr_U := pr_inU (lw_in5 (List.mem_of_getElem? (i := 37) rfl)) rfl
theorem prw_714 : (Cond.selects prn_M pry_M_takeAny pry_M_takeAny) ∈ pr_U := pr_inU (lw_in0 (List.mem_of_getElem? (i := 74) rfl)) rfl
theorem prw_715 : (Cond.code pry_M_takeAny prb_M_takeAny 5 (some .int)) ∈ pr_U := pr_inU (lw_in5 (List.mem_of_getElem? (i := 38) rfl)) rfl
theorem prw_716 : (Cond.methodLink prn_M 97 pry_M_slotOfName) ∈ pr_U := pr_inU (lw_in5 (List.mem_of_getElem? (i := 8) rfl)) rfl
theorem prw_717 : (Cond.methodLink prn_M 61 pry_M_getNumber) ∈ pr_U := pr_inU (lw_in5 (List.mem_of_getElem? (i := 14) rfl)) rfl
theorem prw_718 : (Cond.methodLink prn_M 145 pry_T_valueAt) ∈ pr_U := pr_inU (lw_in5 (List.mem_of_getElem? (i := 7) rfl)) rfl
theorem prw_719 : (Cond.methodLink prn_M 193 pry_O_foreignArraysAt) ∈ pr_U := pr_inU (lw_in5 (List.mem_of_getElem? (i := 18) rfl)) rfl
theorem prw_720 : (Cond.methodLink prn_M 199 pry_M_takePlace) ∈ pr_U := pr_inU (lw_in5 (List.mem_of_getElem? (i := 27) rfl)) rfl
theorem prw_721 : (Cond.methodLink prn_M 202 pry_M_takeAny) ∈ pr_U := pr_inU (lw_in5 (List.mem_of_getElem? (i := 35) rfl)) rfl
theorem prw_722 : (Cond.instanceMethod pry_M_reckonOne) ∈ pr_U := pr_inU (lw_in5 (List.mem_of_getElem? (i := 5) rfl)) rfl
theorem prw_723 : (Cond.selects prn_M pry_M_reckonOne pry_M_reckonOne) ∈ pr_U := pr_inU (lw_in0 (List.mem_of_getElem? (i := 67) rfl)) rfl
theorem prw_724 : (Cond.code pry_M_reckonOne prb_M_reckonOne 4 none) ∈ pr_U := pr_inU (lw_in5 (List.mem_of_getElem? (i := 6) rfl)) rfl
theorem prw_725 : (Cond.methodLink prn_M 126 pry_O_statementOf) ∈ pr_U := pr_inU (lw_in4 (List.mem_of_getElem? (i := 194) rfl)) rfl
theorem prw_726 : (Cond.methodLink prn_M 158 pry_G_firstOperationOf) ∈ pr_U := pr_inU (lw_in4 (List.mem_of_getElem? (i := 198) rfl)) rfl
theorem prw_727 : (Cond.methodLink prn_M 161 pry_G_operationAt) ∈ pr_U := pr_inU (lw_in4 (List.mem_of_getElem? (i := 202) rfl)) rfl
theorem prw_728 : (Cond.methodLink prn_M 164 pry_G_operandAt) ∈ pr_U := pr_inU (lw_in4 (List.mem_of_getElem? (i := 206) rfl)) rfl
theorem prw_729 : (Cond.methodLink prn_M 176 pry_M_reckonTwo) ∈ pr_U := pr_inU (lw_in4 (List.mem_of_getElem? (i := 221) rfl)) rfl
theorem prw_730 : (Cond.methodLink prn_M 182 pry_M_reckonOne) ∈ pr_U := pr_inU (lw_in5 (List.mem_of_getElem? (i := 3) rfl)) rfl
theorem prw_731 : (Cond.methodLink prn_M 179 pry_M_compareTwo) ∈ pr_U := pr_inU (lw_in4 (List.mem_of_getElem? (i := 235) rfl)) rfl
theorem prw_732 : (Cond.methodLink prn_M 167 Lib.Math.max.name) ∈ pr_U := pr_inU (lw_in4 (List.mem_of_getElem? (i := 214) rfl)) rfl
theorem prw_733 : (Cond.static Lib.Math.max.name) ∈ pr_U := pr_inU (lw_in4 (List.mem_of_getElem? (i := 215) rfl)) rfl
theorem prw_734 : (Cond.initialized "java/lang/Math") ∈ pr_U := pr_inU (lw_in1 (List.mem_of_getElem? (i := 14) rfl)) rfl
theorem prw_735 : (Cond.code Lib.Math.max.name Lib.Math.max.code 2 (some .int)) ∈ pr_U := pr_inU (lw_in4 (List.mem_of_getElem? (i := 216) rfl)) rfl
theorem prw_736 : (Cond.instanceMethod pry_M_reckon) ∈ pr_U := pr_inU (lw_in4 (List.mem_of_getElem? (i := 192) rfl)) rfl
theorem prw_737 : (Cond.selects prn_M pry_M_reckon pry_M_reckon) ∈ pr_U := pr_inU (lw_in0 (List.mem_of_getElem? (i := 59) rfl)) rfl
theorem prw_738 : (Cond.code pry_M_reckon prb_M_reckon 8 none) ∈ pr_U := pr_inU (lw_in4 (List.mem_of_getElem? (i := 193) rfl)) rfl
theorem prw_739 : (Cond.methodLink prn_M 129 pry_G_firstTokenOf) ∈ pr_U := pr_inU (lw_in5 (List.mem_of_getElem? (i := 50) rfl)) rfl
theorem prw_740 : (Cond.instanceMethod pry_M_firstToken) ∈ pr_U := pr_inU (lw_in5 (List.mem_of_getElem? (i := 48) rfl)) rfl
theorem prw_741 : (Cond.selects prn_M pry_M_firstToken pry_M_firstToken) ∈ pr_U := pr_inU (lw_in0 (List.mem_of_getElem? (i := 76) rfl)) rfl
theorem prw_742 : (Cond.code pry_M_firstToken prb_M_firstToken 2 (some .int)) ∈ pr_U := pr_inU (lw_in5 (List.mem_of_getElem? (i := 49) rfl)) rfl
theorem prw_743 : (Cond.instanceMethod pry_M_beginArray) ∈ pr_U := pr_inU (lw_in5 (List.mem_of_getElem? (i := 54) rfl)) rfl
theorem prw_744 : (Cond.selects prn_M pry_M_beginArray pry_M_beginArray) ∈ pr_U := pr_inU (lw_in0 (List.mem_of_getElem? (i := 77) rfl)) rfl
theorem prw_745 : (Cond.code pry_M_beginArray prb_M_beginArray 4 none) ∈ pr_U := pr_inU (lw_in5 (List.mem_of_getElem? (i := 55) rfl)) rfl
theorem prw_746 : (Cond.instanceMethod pry_M_setNumber) ∈ pr_U := pr_inU (lw_in5 (List.mem_of_getElem? (i := 59) rfl)) rfl
theorem prw_747 : (Cond.selects prn_M pry_M_setNumber pry_M_setNumber) ∈ pr_U := pr_inU (lw_in0 (List.mem_of_getElem? (i := 78) rfl)) rfl
theorem prw_748 : (Cond.code pry_M_setNumber prb_M_setNumber 3 none) ∈ pr_U := pr_inU (lw_in5 (List.mem_of_getElem? (i := 60) rfl)) rfl
theorem prw_749 : (Cond.methodLink prn_M 94 pry_M_firstToken) ∈ pr_U := pr_inU (lw_in5 (List.mem_of_getElem? (i := 46) rfl)) rfl
theorem prw_750 : (Cond.methodLink prn_M 55 pry_O_numbersAt) ∈ pr_U := pr_inU (lw_in5 (List.mem_of_getElem? (i := 56) rfl)) rfl
theorem prw_751 : (Cond.methodLink prn_M 103 pry_M_setNumber) ∈ pr_U := pr_inU (lw_in5 (List.mem_of_getElem? (i := 57) rfl)) rfl
theorem prw_752 : (Cond.methodLink prn_M 64 pry_O_arraysAt) ∈ pr_U := pr_inU (lw_in5 (List.mem_of_getElem? (i := 51) rfl)) rfl
theorem prw_753 : (Cond.methodLink prn_M 148 pry_M_beginArray) ∈ pr_U := pr_inU (lw_in5 (List.mem_of_getElem? (i := 52) rfl)) rfl
theorem prw_754 : (Cond.instanceMethod pry_M_beginVariable) ∈ pr_U := pr_inU (lw_in5 (List.mem_of_getElem? (i := 44) rfl)) rfl
theorem prw_755 : (Cond.selects prn_M pry_M_beginVariable pry_M_beginVariable) ∈ pr_U := pr_inU (lw_in0 (List.mem_of_getElem? (i := 75) rfl)) rfl
theorem prw_756 : (Cond.code pry_M_beginVariable prb_M_beginVariable 3 none) ∈ pr_U := pr_inU (lw_in5 (List.mem_of_getElem? (i := 45) rfl)) rfl
theorem prw_757 : (Cond.instanceMethod pry_M_setPlace) ∈ pr_U := pr_inU (lw_in5 (List.mem_of_getElem? (i := 64) rfl)) rfl
theorem prw_758 : (Cond.selects prn_M pry_M_setPlace pry_M_setPlace) ∈ pr_U := pr_inU (lw_in0 (List.mem_of_getElem? (i := 79) rfl)) rfl
theorem prw_759 : (Cond.code pry_M_setPlace prb_M_setPlace 4 none) ∈ pr_U := pr_inU (lw_in5 (List.mem_of_getElem? (i := 65) rfl)) rfl
theorem prw_760 : (Cond.instanceMethod pry_O_intoOf) ∈ pr_U := pr_inU (lw_in5 (List.mem_of_getElem? (i := 67) rfl)) rfl
theorem prw_761 : (Cond.selects prn_O pry_O_intoOf pry_O_intoOf) ∈ pr_U := pr_inU (lw_in5 (List.mem_of_getElem? (i := 68) rfl)) rfl
theorem prw_762 : (Cond.code pry_O_intoOf prb_O_intoOf 2 (some .int)) ∈ pr_U := pr_inU (lw_in5 (List.mem_of_getElem? (i := 69) rfl)) rfl
theorem prw_763 : (Cond.instanceMethod pry_O_otherOf) ∈ pr_U := pr_inU (lw_in5 (List.mem_of_getElem? (i := 71) rfl)) rfl
theorem prw_764 : (Cond.selects prn_O pry_O_otherOf pry_O_otherOf) ∈ pr_U := pr_inU (lw_in5 (List.mem_of_getElem? (i := 72) rfl)) rfl
theorem prw_765 : (Cond.code pry_O_otherOf prb_O_otherOf 2 (some .int)) ∈ pr_U := pr_inU (lw_in5 (List.mem_of_getElem? (i := 73) rfl)) rfl
theorem prw_766 : (Cond.instanceMethod pry_O_parentOf) ∈ pr_U := pr_inU (lw_in5 (List.mem_of_getElem? (i := 75) rfl)) rfl
theorem prw_767 : (Cond.selects prn_O pry_O_parentOf pry_O_parentOf) ∈ pr_U := pr_inU (lw_in5 (List.mem_of_getElem? (i := 76) rfl)) rfl
theorem prw_768 : (Cond.code pry_O_parentOf prb_O_parentOf 2 (some .int)) ∈ pr_U := pr_inU (lw_in5 (List.mem_of_getElem? (i := 77) rfl)) rfl
theorem prw_769 : (Cond.instanceMethod pry_O_targetOf) ∈ pr_U := pr_inU (lw_in5 (List.mem_of_getElem? (i := 79) rfl)) rfl
theorem prw_770 : (Cond.selects prn_O pry_O_targetOf pry_O_targetOf) ∈ pr_U := pr_inU (lw_in5 (List.mem_of_getElem? (i := 80) rfl)) rfl
theorem prw_771 : (Cond.code pry_O_targetOf prb_O_targetOf 2 (some .int)) ∈ pr_U := pr_inU (lw_in5 (List.mem_of_getElem? (i := 81) rfl)) rfl
theorem prw_772 : (Cond.methodLink prn_M 84 pry_M_reckon) ∈ pr_U := pr_inU (lw_in4 (List.mem_of_getElem? (i := 190) rfl)) rfl
theorem prw_773 : (Cond.methodLink prn_M 78 pry_O_kindOf) ∈ pr_U := pr_inU (lw_in4 (List.mem_of_getElem? (i := 185) rfl)) rfl
theorem prw_774 : (Cond.methodLink prn_M 88 pry_M_beginVariable) ∈ pr_U := pr_inU (lw_in5 (List.mem_of_getElem? (i := 42) rfl)) rfl
theorem prw_775 : (Cond.methodLink prn_M 91 pry_O_nextOf) ∈ pr_U := pr_inU (lw_in5 (List.mem_of_getElem? (i := 61) rfl)) rfl
theorem prw_776 : (Cond.methodLink prn_M 107 pry_M_setPlace) ∈ pr_U := pr_inU (lw_in5 (List.mem_of_getElem? (i := 62) rfl)) rfl
theorem prw_777 : (Cond.methodLink prn_M 117 pry_O_otherOf) ∈ pr_U := pr_inU (lw_in5 (List.mem_of_getElem? (i := 70) rfl)) rfl
theorem prw_778 : (Cond.methodLink prn_M 114 pry_O_intoOf) ∈ pr_U := pr_inU (lw_in5 (List.mem_of_getElem? (i := 66) rfl)) rfl
theorem prw_779 : (Cond.methodLink prn_M 120 pry_O_parentOf) ∈ pr_U := pr_inU (lw_in5 (List.mem_of_getElem? (i := 74) rfl)) rfl
theorem prw_780 : (Cond.methodLink prn_M 123 pry_O_targetOf) ∈ pr_U := pr_inU (lw_in5 (List.mem_of_getElem? (i := 78) rfl)) rfl
theorem prw_781 : (Cond.instanceMethod pry_M_step) ∈ pr_U := pr_inU (lw_in4 (List.mem_of_getElem? (i := 188) rfl)) rfl
theorem prw_782 : (Cond.selects prn_M pry_M_step pry_M_step) ∈ pr_U := pr_inU (lw_in0 (List.mem_of_getElem? (i := 58) rfl)) rfl
theorem prw_783 : (Cond.code pry_M_step prb_M_step 3 (some .int)) ∈ pr_U := pr_inU (lw_in4 (List.mem_of_getElem? (i := 189) rfl)) rfl
theorem prw_784 : (Cond.methodLink prn_M 75 pry_M_forget) ∈ pr_U := pr_inU (lw_in4 (List.mem_of_getElem? (i := 184) rfl)) rfl
theorem prw_785 : (Cond.methodLink prn_M 81 pry_M_step) ∈ pr_U := pr_inU (lw_in4 (List.mem_of_getElem? (i := 186) rfl)) rfl
theorem prw_786 : (Cond.instanceMethod pry_M_runSteps) ∈ pr_U := pr_inU (lw_in4 (List.mem_of_getElem? (i := 181) rfl)) rfl
theorem prw_787 : (Cond.selects prn_M pry_M_runSteps pry_M_runSteps) ∈ pr_U := pr_inU (lw_in4 (List.mem_of_getElem? (i := 182) rfl)) rfl
theorem prw_788 : (Cond.code pry_M_runSteps prb_M_runSteps 3 (some .int)) ∈ pr_U := pr_inU (lw_in4 (List.mem_of_getElem? (i := 183) rfl)) rfl
theorem prw_789 : (Cond.methodLink prn_P 119 pry_M_runSteps) ∈ pr_U := pr_inU (lw_in4 (List.mem_of_getElem? (i := 180) rfl)) rfl
theorem prw_790 : (Cond.instanceMethod pry_P_run) ∈ pr_U := pr_inU (lw_in4 (List.mem_of_getElem? (i := 177) rfl)) rfl
theorem prw_791 : (Cond.selects prn_P pry_P_run pry_P_run) ∈ pr_U := pr_inU (lw_in4 (List.mem_of_getElem? (i := 178) rfl)) rfl
theorem prw_792 : (Cond.code pry_P_run prb_P_run 2 (some .int)) ∈ pr_U := pr_inU (lw_in4 (List.mem_of_getElem? (i := 179) rfl)) rfl
theorem prw_793 : (Cond.instanceMethod pry_M_standsAt) ∈ pr_U := pr_inU (lw_in5 (List.mem_of_getElem? (i := 87) rfl)) rfl
theorem prw_794 : (Cond.selects prn_M pry_M_standsAt pry_M_standsAt) ∈ pr_U := pr_inU (lw_in5 (List.mem_of_getElem? (i := 88) rfl)) rfl
theorem prw_795 : (Cond.code pry_M_standsAt prb_M_standsAt 1 (some .int)) ∈ pr_U := pr_inU (lw_in5 (List.mem_of_getElem? (i := 89) rfl)) rfl
theorem prw_796 : (Cond.instanceMethod pry_M_stepsDone) ∈ pr_U := pr_inU (lw_in5 (List.mem_of_getElem? (i := 91) rfl)) rfl
theorem prw_797 : (Cond.selects prn_M pry_M_stepsDone pry_M_stepsDone) ∈ pr_U := pr_inU (lw_in5 (List.mem_of_getElem? (i := 92) rfl)) rfl
theorem prw_798 : (Cond.code pry_M_stepsDone prb_M_stepsDone 1 (some .int)) ∈ pr_U := pr_inU (lw_in5 (List.mem_of_getElem? (i := 93) rfl)) rfl
theorem prw_799 : (Cond.instanceMethod pry_M_inputsTaken) ∈ pr_U := pr_inU (lw_in5 (List.mem_of_getElem? (i := 95) rfl)) rfl
theorem prw_800 : (Cond.selects prn_M pry_M_inputsTaken pry_M_inputsTaken) ∈ pr_U := pr_inU (lw_in5 (List.mem_of_getElem? (i := 96) rfl)) rfl
theorem prw_801 : (Cond.code pry_M_inputsTaken prb_M_inputsTaken 1 (some .int)) ∈ pr_U := pr_inU (lw_in5 (List.mem_of_getElem? (i := 97) rfl)) rfl
theorem prw_802 : (Cond.methodLink prn_P 122 pry_M_standsAt) ∈ pr_U := pr_inU (lw_in5 (List.mem_of_getElem? (i := 86) rfl)) rfl
theorem prw_803 : (Cond.methodLink prn_P 125 pry_M_stepsDone) ∈ pr_U := pr_inU (lw_in5 (List.mem_of_getElem? (i := 90) rfl)) rfl
theorem prw_804 : (Cond.methodLink prn_P 128 pry_M_inputsTaken) ∈ pr_U := pr_inU (lw_in5 (List.mem_of_getElem? (i := 94) rfl)) rfl
theorem prw_805 : (Cond.instanceMethod pry_P_ran) ∈ pr_U := pr_inU (lw_in5 (List.mem_of_getElem? (i := 83) rfl)) rfl
theorem prw_806 : (Cond.selects prn_P pry_P_ran pry_P_ran) ∈ pr_U := pr_inU (lw_in5 (List.mem_of_getElem? (i := 84) rfl)) rfl
theorem prw_807 : (Cond.code pry_P_ran prb_P_ran 2 (some .int)) ∈ pr_U := pr_inU (lw_in5 (List.mem_of_getElem? (i := 85) rfl)) rfl
theorem prw_808 : (Cond.instanceMethod pry_M_numberIn) ∈ pr_U := pr_inU (lw_in5 (List.mem_of_getElem? (i := 103) rfl)) rfl
theorem prw_809 : (Cond.selects prn_M pry_M_numberIn pry_M_numberIn) ∈ pr_U := pr_inU (lw_in5 (List.mem_of_getElem? (i := 104) rfl)) rfl
theorem prw_810 : (Cond.code pry_M_numberIn prb_M_numberIn 2 (some .int)) ∈ pr_U := pr_inU (lw_in5 (List.mem_of_getElem? (i := 105) rfl)) rfl
theorem prw_811 : (Cond.methodLink prn_P 131 pry_M_numberIn) ∈ pr_U := pr_inU (lw_in5 (List.mem_of_getElem? (i := 102) rfl)) rfl
theorem prw_812 : (Cond.instanceMethod pry_P_value) ∈ pr_U := pr_inU (lw_in5 (List.mem_of_getElem? (i := 99) rfl)) rfl
theorem prw_813 : (Cond.selects prn_P pry_P_value pry_P_value) ∈ pr_U := pr_inU (lw_in5 (List.mem_of_getElem? (i := 100) rfl)) rfl
theorem prw_814 : (Cond.code pry_P_value prb_P_value 2 (some .int)) ∈ pr_U := pr_inU (lw_in5 (List.mem_of_getElem? (i := 101) rfl)) rfl
theorem prw_815 : (Cond.instanceMethod pry_M_placeIn) ∈ pr_U := pr_inU (lw_in5 (List.mem_of_getElem? (i := 111) rfl)) rfl
theorem prw_816 : (Cond.selects prn_M pry_M_placeIn pry_M_placeIn) ∈ pr_U := pr_inU (lw_in5 (List.mem_of_getElem? (i := 112) rfl)) rfl
theorem prw_817 : (Cond.code pry_M_placeIn prb_M_placeIn 4 (some .int)) ∈ pr_U := pr_inU (lw_in5 (List.mem_of_getElem? (i := 113) rfl)) rfl
theorem prw_818 : (Cond.methodLink prn_P 134 pry_M_placeIn) ∈ pr_U := pr_inU (lw_in5 (List.mem_of_getElem? (i := 110) rfl)) rfl
theorem prw_819 : (Cond.instanceMethod pry_P_place) ∈ pr_U := pr_inU (lw_in5 (List.mem_of_getElem? (i := 107) rfl)) rfl
theorem prw_820 : (Cond.selects prn_P pry_P_place pry_P_place) ∈ pr_U := pr_inU (lw_in5 (List.mem_of_getElem? (i := 108) rfl)) rfl
theorem prw_821 : (Cond.code pry_P_place prb_P_place 3 (some .int)) ∈ pr_U := pr_inU (lw_in5 (List.mem_of_getElem? (i := 109) rfl)) rfl
theorem prw_822 : (Cond.fieldLink prn_X 148 prn_X "points" "I") ∈ pr_U := pr_inU (lw_in5 (List.mem_of_getElem? (i := 167) rfl)) rfl
theorem prw_823 : (Cond.fieldLink prn_X 68 prn_X "node" "[I") ∈ pr_U := pr_inU (lw_in5 (List.mem_of_getElem? (i := 162) rfl)) rfl
theorem prw_824 : (Cond.fieldLink prn_X 71 prn_X "owner" "[I") ∈ pr_U := pr_inU (lw_in5 (List.mem_of_getElem? (i := 163) rfl)) rfl
theorem prw_825 : (Cond.fieldLink prn_X 74 prn_X "ends" "[I") ∈ pr_U := pr_inU (lw_in5 (List.mem_of_getElem? (i := 164) rfl)) rfl
theorem prw_826 : (Cond.fieldLink prn_X 77 prn_X "numbers" "[I") ∈ pr_U := pr_inU (lw_in5 (List.mem_of_getElem? (i := 165) rfl)) rfl
theorem prw_827 : (Cond.fieldLink prn_X 80 prn_X "arrays" "[I") ∈ pr_U := pr_inU (lw_in5 (List.mem_of_getElem? (i := 166) rfl)) rfl
theorem prw_828 : (Cond.fieldLink prn_X 151 prn_X "stands" "I") ∈ pr_U := pr_inU (lw_in5 (List.mem_of_getElem? (i := 189) rfl)) rfl
theorem prw_829 : (Cond.fieldLink prn_X 154 prn_X "steps" "I") ∈ pr_U := pr_inU (lw_in5 (List.mem_of_getElem? (i := 190) rfl)) rfl
theorem prw_830 : (Cond.fieldLink prn_X 157 prn_X "taken" "I") ∈ pr_U := pr_inU (lw_in5 (List.mem_of_getElem? (i := 191) rfl)) rfl
theorem prw_831 : (Cond.instanceMethod pry_X_nothing) ∈ pr_U := pr_inU (lw_in5 (List.mem_of_getElem? (i := 132) rfl)) rfl
theorem prw_832 : (Cond.selects prn_X pry_X_nothing pry_X_nothing) ∈ pr_U := pr_inU (lw_in0 (List.mem_of_getElem? (i := 80) rfl)) rfl
theorem prw_833 : (Cond.initialized prn_X) ∈ pr_U := pr_inU (lw_in1 (List.mem_of_getElem? (i := 9) rfl)) rfl
theorem prw_834 : (Cond.code pry_X_nothing prb_X_nothing 1 none) ∈ pr_U := pr_inU (lw_in5 (List.mem_of_getElem? (i := 133) rfl)) rfl
theorem prw_835 : (Cond.fieldLink prn_X 47 prn_X "kind" "[I") ∈ pr_U := pr_inU (lw_in5 (List.mem_of_getElem? (i := 153) rfl)) rfl
theorem prw_836 : (Cond.fieldLink prn_X 160 prn_X "count" "I") ∈ pr_U := pr_inU (lw_in5 (List.mem_of_getElem? (i := 158) rfl)) rfl
theorem prw_837 : (Cond.fieldLink prn_X 50 prn_X "where" "[I") ∈ pr_U := pr_inU (lw_in5 (List.mem_of_getElem? (i := 154) rfl)) rfl
theorem prw_838 : (Cond.fieldLink prn_X 53 prn_X "value" "[I") ∈ pr_U := pr_inU (lw_in5 (List.mem_of_getElem? (i := 155) rfl)) rfl
theorem prw_839 : (Cond.fieldLink prn_X 56 prn_X "whole" "[I") ∈ pr_U := pr_inU (lw_in5 (List.mem_of_getElem? (i := 156) rfl)) rfl
theorem prw_840 : (Cond.fieldLink prn_X 59 prn_X "sizes" "[I") ∈ pr_U := pr_inU (lw_in5 (List.mem_of_getElem? (i := 157) rfl)) rfl
theorem prw_841 : (Cond.instanceMethod pry_X_add) ∈ pr_U := pr_inU (lw_in6 (List.mem_of_getElem? (i := 86) rfl)) rfl
theorem prw_842 : (Cond.selects prn_X pry_X_add pry_X_add) ∈ pr_U := pr_inU (lw_in0 (List.mem_of_getElem? (i := 81) rfl)) rfl
theorem prw_843 : (Cond.code pry_X_add prb_X_add 6 (some .int)) ∈ pr_U := pr_inU (lw_in6 (List.mem_of_getElem? (i := 87) rfl)) rfl
theorem prw_844 : (Cond.fieldLink prn_X 163 prn_X "size" "I") ∈ pr_U := pr_inU (lw_in5 (List.mem_of_getElem? (i := 136) rfl)) rfl
theorem prw_845 : (Cond.fieldLink prn_X 9 prn_X "bytes" "[I") ∈ pr_U := pr_inU (lw_in5 (List.mem_of_getElem? (i := 135) rfl)) rfl
theorem prw_846 : (Cond.instanceMethod pry_X_feed) ∈ pr_U := pr_inU (lw_in6 (List.mem_of_getElem? (i := 77) rfl)) rfl
theorem prw_847 : (Cond.selects prn_X pry_X_feed pry_X_feed) ∈ pr_U := pr_inU (lw_in6 (List.mem_of_getElem? (i := 78) rfl)) rfl
theorem prw_848 : (Cond.code pry_X_feed prb_X_feed 8 (some .int)) ∈ pr_U := pr_inU (lw_in6 (List.mem_of_getElem? (i := 79) rfl)) rfl
theorem prw_849 : (Cond.fieldLink prn_X 166 prn_X "end" "I") ∈ pr_U := pr_inU (lw_in5 (List.mem_of_getElem? (i := 137) rfl)) rfl
theorem prw_850 : (Cond.instanceMethod pry_X_isAt) ∈ pr_U := pr_inU (lw_in6 (List.mem_of_getElem? (i := 98) rfl)) rfl
theorem prw_851 : (Cond.selects prn_X pry_X_isAt pry_X_isAt) ∈ pr_U := pr_inU (lw_in0 (List.mem_of_getElem? (i := 84) rfl)) rfl
theorem prw_852 : (Cond.code pry_X_isAt prb_X_isAt 4 (some .boolean)) ∈ pr_U := pr_inU (lw_in6 (List.mem_of_getElem? (i := 99) rfl)) rfl
theorem prw_853 : (Cond.static pry_X_isLetter) ∈ pr_U := pr_inU (lw_in6 (List.mem_of_getElem? (i := 101) rfl)) rfl
theorem prw_854 : (Cond.code pry_X_isLetter prb_X_isLetter 1 (some .boolean)) ∈ pr_U := pr_inU (lw_in6 (List.mem_of_getElem? (i := 102) rfl)) rfl
theorem prw_855 : (Cond.static pry_X_isDigit) ∈ pr_U := pr_inU (lw_in6 (List.mem_of_getElem? (i := 108) rfl)) rfl
theorem prw_856 : (Cond.code pry_X_isDigit prb_X_isDigit 1 (some .boolean)) ∈ pr_U := pr_inU (lw_in6 (List.mem_of_getElem? (i := 109) rfl)) rfl
theorem prw_857 : (Cond.methodLink prn_X 169 pry_X_isLetter) ∈ pr_U := pr_inU (lw_in6 (List.mem_of_getElem? (i := 100) rfl)) rfl
theorem prw_858 : (Cond.methodLink prn_X 173 pry_X_isDigit) ∈ pr_U := pr_inU (lw_in6 (List.mem_of_getElem? (i := 107) rfl)) rfl
theorem prw_859 : (Cond.instanceMethod pry_X_isWord) ∈ pr_U := pr_inU (lw_in6 (List.mem_of_getElem? (i := 105) rfl)) rfl
theorem prw_860 : (Cond.selects prn_X pry_X_isWord pry_X_isWord) ∈ pr_U := pr_inU (lw_in0 (List.mem_of_getElem? (i := 85) rfl)) rfl
theorem prw_861 : (Cond.code pry_X_isWord prb_X_isWord 2 (some .boolean)) ∈ pr_U := pr_inU (lw_in6 (List.mem_of_getElem? (i := 106) rfl)) rfl
theorem prw_862 : (Cond.methodLink prn_X 176 pry_X_isAt) ∈ pr_U := pr_inU (lw_in6 (List.mem_of_getElem? (i := 96) rfl)) rfl
theorem prw_863 : (Cond.instanceMethod pry_X_behindBlanks) ∈ pr_U := pr_inU (lw_in6 (List.mem_of_getElem? (i := 94) rfl)) rfl
theorem prw_864 : (Cond.selects prn_X pry_X_behindBlanks pry_X_behindBlanks) ∈ pr_U := pr_inU (lw_in0 (List.mem_of_getElem? (i := 83) rfl)) rfl
theorem prw_865 : (Cond.code pry_X_behindBlanks prb_X_behindBlanks 5 (some .int)) ∈ pr_U := pr_inU (lw_in6 (List.mem_of_getElem? (i := 95) rfl)) rfl
theorem prw_866 : (Cond.fieldLink prn_X 141 prn_X "words" "[Ljava/lang/String;") ∈ pr_U := pr_inU (lw_in5 (List.mem_of_getElem? (i := 134) rfl)) rfl
theorem prw_867 : (Cond.instanceMethod pry_X_wordOf) ∈ pr_U := pr_inU (lw_in6 (List.mem_of_getElem? (i := 112) rfl)) rfl
theorem prw_868 : (Cond.selects prn_X pry_X_wordOf pry_X_wordOf) ∈ pr_U := pr_inU (lw_in0 (List.mem_of_getElem? (i := 86) rfl)) rfl
theorem prw_869 : (Cond.code pry_X_wordOf prb_X_wordOf 6 (some .int)) ∈ pr_U := pr_inU (lw_in6 (List.mem_of_getElem? (i := 113) rfl)) rfl
theorem prw_870 : (Cond.constantLong prn_X 187 2147483647) ∈ pr_U := pr_inU (lw_in6 (List.mem_of_getElem? (i := 166) rfl)) rfl
theorem prw_871 : (Cond.constantLong prn_X 189 10) ∈ pr_U := pr_inU (lw_in6 (List.mem_of_getElem? (i := 167) rfl)) rfl
theorem prw_872 : (Cond.constantLong prn_X 191 48) ∈ pr_U := pr_inU (lw_in6 (List.mem_of_getElem? (i := 168) rfl)) rfl
theorem prw_873 : (Cond.methodLink prn_X 193 pry_X_isWord) ∈ pr_U := pr_inU (lw_in6 (List.mem_of_getElem? (i := 103) rfl)) rfl
theorem prw_874 : (Cond.instanceMethod pry_X_isNumber) ∈ pr_U := pr_inU (lw_in6 (List.mem_of_getElem? (i := 164) rfl)) rfl
theorem prw_875 : (Cond.selects prn_X pry_X_isNumber pry_X_isNumber) ∈ pr_U := pr_inU (lw_in0 (List.mem_of_getElem? (i := 87) rfl)) rfl
theorem prw_876 : (Cond.code pry_X_isNumber prb_X_isNumber 6 (some .boolean)) ∈ pr_U := pr_inU (lw_in6 (List.mem_of_getElem? (i := 165) rfl)) rfl
theorem prw_877 : (Cond.fieldLink prn_X 196 prn_X "tokens" "I") ∈ pr_U := pr_inU (lw_in5 (List.mem_of_getElem? (i := 141) rfl)) rfl
theorem prw_878 : (Cond.methodLink prn_X 199 pry_X_behindBlanks) ∈ pr_U := pr_inU (lw_in6 (List.mem_of_getElem? (i := 92) rfl)) rfl
theorem prw_879 : (Cond.methodLink prn_X 203 pry_X_wordOf) ∈ pr_U := pr_inU (lw_in6 (List.mem_of_getElem? (i := 110) rfl)) rfl
theorem prw_880 : (Cond.methodLink prn_X 207 pry_X_isNumber) ∈ pr_U := pr_inU (lw_in6 (List.mem_of_getElem? (i := 162) rfl)) rfl
theorem prw_881 : (Cond.fieldLink prn_X 13 prn_X "token" "[I") ∈ pr_U := pr_inU (lw_in5 (List.mem_of_getElem? (i := 138) rfl)) rfl
theorem prw_882 : (Cond.fieldLink prn_X 16 prn_X "place" "[I") ∈ pr_U := pr_inU (lw_in5 (List.mem_of_getElem? (i := 139) rfl)) rfl
theorem prw_883 : (Cond.fieldLink prn_X 19 prn_X "length" "[I") ∈ pr_U := pr_inU (lw_in5 (List.mem_of_getElem? (i := 140) rfl)) rfl
theorem prw_884 : (Cond.instanceMethod pry_X_scan) ∈ pr_U := pr_inU (lw_in6 (List.mem_of_getElem? (i := 90) rfl)) rfl
theorem prw_885 : (Cond.selects prn_X pry_X_scan pry_X_scan) ∈ pr_U := pr_inU (lw_in0 (List.mem_of_getElem? (i := 82) rfl)) rfl
theorem prw_886 : (Cond.code pry_X_scan prb_X_scan 6 none) ∈ pr_U := pr_inU (lw_in6 (List.mem_of_getElem? (i := 91) rfl)) rfl
theorem prw_887 : (Cond.fieldLink prn_X 211 prn_X "bad" "Z") ∈ pr_U := pr_inU (lw_in5 (List.mem_of_getElem? (i := 143) rfl)) rfl
theorem prw_888 : (Cond.fieldLink prn_X 215 prn_X "at" "I") ∈ pr_U := pr_inU (lw_in5 (List.mem_of_getElem? (i := 142) rfl)) rfl
theorem prw_889 : (Cond.instanceMethod pry_X_look) ∈ pr_U := pr_inU (lw_in6 (List.mem_of_getElem? (i := 183) rfl)) rfl
theorem prw_890 : (Cond.selects prn_X pry_X_look pry_X_look) ∈ pr_U := pr_inU (lw_in0 (List.mem_of_getElem? (i := 91) rfl)) rfl
theorem prw_891 : (Cond.code pry_X_look prb_X_look 1 (some .int)) ∈ pr_U := pr_inU (lw_in6 (List.mem_of_getElem? (i := 184) rfl)) rfl
theorem prw_892 : (Cond.fieldLink prn_X 22 prn_X "fault" "I") ∈ pr_U := pr_inU (lw_in5 (List.mem_of_getElem? (i := 144) rfl)) rfl
theorem prw_893 : (Cond.instanceMethod pry_X_need) ∈ pr_U := pr_inU (lw_in6 (List.mem_of_getElem? (i := 187) rfl)) rfl
theorem prw_894 : (Cond.selects prn_X pry_X_need pry_X_need) ∈ pr_U := pr_inU (lw_in0 (List.mem_of_getElem? (i := 92) rfl)) rfl
theorem prw_895 : (Cond.code pry_X_need prb_X_need 2 none) ∈ pr_U := pr_inU (lw_in6 (List.mem_of_getElem? (i := 188) rfl)) rfl
theorem prw_896 : (Cond.methodLink prn_X 218 pry_X_look) ∈ pr_U := pr_inU (lw_in6 (List.mem_of_getElem? (i := 181) rfl)) rfl
theorem prw_897 : (Cond.methodLink prn_X 221 pry_X_need) ∈ pr_U := pr_inU (lw_in6 (List.mem_of_getElem? (i := 185) rfl)) rfl
theorem prw_898 : (Cond.instanceMethod pry_X_take) ∈ pr_U := pr_inU (lw_in6 (List.mem_of_getElem? (i := 179) rfl)) rfl
theorem prw_899 : (Cond.selects prn_X pry_X_take pry_X_take) ∈ pr_U := pr_inU (lw_in0 (List.mem_of_getElem? (i := 90) rfl)) rfl
theorem prw_900 : (Cond.code pry_X_take prb_X_take 2 none) ∈ pr_U := pr_inU (lw_in6 (List.mem_of_getElem? (i := 180) rfl)) rfl
theorem prw_901 : (Cond.fieldLink prn_X 26 prn_X "kindOf" "[I") ∈ pr_U := pr_inU (lw_in5 (List.mem_of_getElem? (i := 145) rfl)) rfl
theorem prw_902 : (Cond.fieldLink prn_X 225 prn_X "drafts" "I") ∈ pr_U := pr_inU (lw_in5 (List.mem_of_getElem? (i := 151) rfl)) rfl
theorem prw_903 : (Cond.fieldLink prn_X 29 prn_X "placeOf" "[I") ∈ pr_U := pr_inU (lw_in5 (List.mem_of_getElem? (i := 146) rfl)) rfl
theorem prw_904 : (Cond.fieldLink prn_X 32 prn_X "valueOf" "[I") ∈ pr_U := pr_inU (lw_in5 (List.mem_of_getElem? (i := 147) rfl)) rfl
theorem prw_905 : (Cond.fieldLink prn_X 35 prn_X "firstOf" "[I") ∈ pr_U := pr_inU (lw_in5 (List.mem_of_getElem? (i := 148) rfl)) rfl
theorem prw_906 : (Cond.fieldLink prn_X 38 prn_X "lastOf" "[I") ∈ pr_U := pr_inU (lw_in5 (List.mem_of_getElem? (i := 149) rfl)) rfl
theorem prw_907 : (Cond.fieldLink prn_X 41 prn_X "nextOf" "[I") ∈ pr_U := pr_inU (lw_in5 (List.mem_of_getElem? (i := 150) rfl)) rfl
theorem prw_908 : (Cond.instanceMethod pry_X_draft) ∈ pr_U := pr_inU (lw_in6 (List.mem_of_getElem? (i := 175) rfl)) rfl
theorem prw_909 : (Cond.selects prn_X pry_X_draft pry_X_draft) ∈ pr_U := pr_inU (lw_in0 (List.mem_of_getElem? (i := 89) rfl)) rfl
theorem prw_910 : (Cond.code pry_X_draft prb_X_draft 4 (some .int)) ∈ pr_U := pr_inU (lw_in6 (List.mem_of_getElem? (i := 176) rfl)) rfl
theorem prw_911 : (Cond.instanceMethod pry_X_join) ∈ pr_U := pr_inU (lw_in6 (List.mem_of_getElem? (i := 195) rfl)) rfl
theorem prw_912 : (Cond.selects prn_X pry_X_join pry_X_join) ∈ pr_U := pr_inU (lw_in0 (List.mem_of_getElem? (i := 94) rfl)) rfl
theorem prw_913 : (Cond.code pry_X_join prb_X_join 3 none) ∈ pr_U := pr_inU (lw_in6 (List.mem_of_getElem? (i := 196) rfl)) rfl
theorem prw_914 : (Cond.methodLink prn_X 228 pry_X_draft) ∈ pr_U := pr_inU (lw_in6 (List.mem_of_getElem? (i := 173) rfl)) rfl
theorem prw_915 : (Cond.methodLink prn_X 232 pry_X_take) ∈ pr_U := pr_inU (lw_in6 (List.mem_of_getElem? (i := 177) rfl)) rfl
theorem prw_916 : (Cond.instanceMethod pry_X_name) ∈ pr_U := pr_inU (lw_in6 (List.mem_of_getElem? (i := 191) rfl)) rfl
theorem prw_917 : (Cond.selects prn_X pry_X_name pry_X_name) ∈ pr_U := pr_inU (lw_in0 (List.mem_of_getElem? (i := 93) rfl)) rfl
theorem prw_918 : (Cond.code pry_X_name prb_X_name 2 (some .int)) ∈ pr_U := pr_inU (lw_in6 (List.mem_of_getElem? (i := 192) rfl)) rfl
theorem prw_919 : (Cond.instanceMethod pry_X_number) ∈ pr_U := pr_inU (lw_in6 (List.mem_of_getElem? (i := 211) rfl)) rfl
theorem prw_920 : (Cond.selects prn_X pry_X_number pry_X_number) ∈ pr_U := pr_inU (lw_in0 (List.mem_of_getElem? (i := 98) rfl)) rfl
theorem prw_921 : (Cond.code pry_X_number prb_X_number 6 (some .int)) ∈ pr_U := pr_inU (lw_in6 (List.mem_of_getElem? (i := 212) rfl)) rfl
theorem prw_922 : (Cond.instanceMethod pry_X_deep) ∈ pr_U := pr_inU (lw_in6 (List.mem_of_getElem? (i := 203) rfl)) rfl
theorem prw_923 : (Cond.selects prn_X pry_X_deep pry_X_deep) ∈ pr_U := pr_inU (lw_in0 (List.mem_of_getElem? (i := 96) rfl)) rfl
theorem prw_924 : (Cond.code pry_X_deep prb_X_deep 2 none) ∈ pr_U := pr_inU (lw_in6 (List.mem_of_getElem? (i := 204) rfl)) rfl
theorem prw_925 : (Cond.methodLink prn_X 246 pry_X_factor) ∈ pr_U := pr_inU (lw_in6 (List.mem_of_getElem? (i := 221) rfl)) rfl
theorem prw_926 : (Cond.methodLink prn_X 242 pry_X_join) ∈ pr_U := pr_inU (lw_in6 (List.mem_of_getElem? (i := 193) rfl)) rfl
theorem prw_927 : (Cond.instanceMethod pry_X_term) ∈ pr_U := pr_inU (lw_in6 (List.mem_of_getElem? (i := 219) rfl)) rfl
theorem prw_928 : (Cond.selects prn_X pry_X_term pry_X_term) ∈ pr_U := pr_inU (lw_in0 (List.mem_of_getElem? (i := 100) rfl)) rfl
theorem prw_929 : (Cond.code pry_X_term prb_X_term 5 (some .int)) ∈ pr_U := pr_inU (lw_in6 (List.mem_of_getElem? (i := 220) rfl)) rfl
theorem prw_930 : (Cond.methodLink prn_X 236 pry_X_deep) ∈ pr_U := pr_inU (lw_in6 (List.mem_of_getElem? (i := 201) rfl)) rfl
theorem prw_931 : (Cond.methodLink prn_X 239 pry_X_term) ∈ pr_U := pr_inU (lw_in6 (List.mem_of_getElem? (i := 217) rfl)) rfl
theorem prw_932 : (Cond.instanceMethod pry_X_sum) ∈ pr_U := pr_inU (lw_in6 (List.mem_of_getElem? (i := 215) rfl)) rfl
theorem prw_933 : (Cond.selects prn_X pry_X_sum pry_X_sum) ∈ pr_U := pr_inU (lw_in0 (List.mem_of_getElem? (i := 99) rfl)) rfl
theorem prw_934 : (Cond.code pry_X_sum prb_X_sum 5 (some .int)) ∈ pr_U := pr_inU (lw_in6 (List.mem_of_getElem? (i := 216) rfl)) rfl
theorem prw_935 : (Cond.methodLink prn_X 256 pry_X_sum) ∈ pr_U := pr_inU (lw_in6 (List.mem_of_getElem? (i := 213) rfl)) rfl
theorem prw_936 : (Cond.methodLink prn_X 249 pry_X_number) ∈ pr_U := pr_inU (lw_in6 (List.mem_of_getElem? (i := 209) rfl)) rfl
theorem prw_937 : (Cond.methodLink prn_X 253 pry_X_name) ∈ pr_U := pr_inU (lw_in6 (List.mem_of_getElem? (i := 189) rfl)) rfl
theorem prw_938 : (Cond.instanceMethod pry_X_factor) ∈ pr_U := pr_inU (lw_in6 (List.mem_of_getElem? (i := 223) rfl)) rfl
theorem prw_939 : (Cond.selects prn_X pry_X_factor pry_X_factor) ∈ pr_U := pr_inU (lw_in0 (List.mem_of_getElem? (i := 101) rfl)) rfl
theorem prw_940 : (Cond.code pry_X_factor prb_X_factor 6 (some .int)) ∈ pr_U := pr_inU (lw_in6 (List.mem_of_getElem? (i := 224) rfl)) rfl
theorem prw_941 : (Cond.methodLink prn_X 259 pry_X_tests) ∈ pr_U := pr_inU (lw_in6 (List.mem_of_getElem? (i := 237) rfl)) rfl
theorem prw_942 : (Cond.instanceMethod pry_X_cond) ∈ pr_U := pr_inU (lw_in6 (List.mem_of_getElem? (i := 235) rfl)) rfl
theorem prw_943 : (Cond.selects prn_X pry_X_cond pry_X_cond) ∈ pr_U := pr_inU (lw_in0 (List.mem_of_getElem? (i := 104) rfl)) rfl
theorem prw_944 : (Cond.code pry_X_cond prb_X_cond 2 (some .int)) ∈ pr_U := pr_inU (lw_in6 (List.mem_of_getElem? (i := 236) rfl)) rfl
theorem prw_945 : (Cond.methodLink prn_X 265 pry_X_cond) ∈ pr_U := pr_inU (lw_in6 (List.mem_of_getElem? (i := 233) rfl)) rfl
theorem prw_946 : (Cond.methodLink prn_X 262 pry_X_test) ∈ pr_U := pr_inU (lw_in7 (List.mem_of_getElem? (i := 1) rfl)) rfl
theorem prw_947 : (Cond.instanceMethod pry_X_test) ∈ pr_U := pr_inU (lw_in7 (List.mem_of_getElem? (i := 3) rfl)) rfl
theorem prw_948 : (Cond.selects prn_X pry_X_test pry_X_test) ∈ pr_U := pr_inU (lw_in0 (List.mem_of_getElem? (i := 106) rfl)) rfl
theorem prw_949 : (Cond.code pry_X_test prb_X_test 6 (some .int)) ∈ pr_U := pr_inU (lw_in7 (List.mem_of_getElem? (i := 4) rfl)) rfl
theorem prw_950 : (Cond.instanceMethod pry_X_tests) ∈ pr_U := pr_inU (lw_in6 (List.mem_of_getElem? (i := 239) rfl)) rfl
theorem prw_951 : (Cond.selects prn_X pry_X_tests pry_X_tests) ∈ pr_U := pr_inU (lw_in0 (List.mem_of_getElem? (i := 105) rfl)) rfl
theorem prw_952 : (Cond.code pry_X_tests prb_X_tests 6 (some .int)) ∈ pr_U := pr_inU (lw_in7 (List.mem_of_getElem? (i := 0) rfl)) rfl
theorem prw_953 : (Cond.instanceMethod pry_X_sums) ∈ pr_U := pr_inU (lw_in6 (List.mem_of_getElem? (i := 231) rfl)) rfl
theorem prw_954 : (Cond.selects prn_X pry_X_sums pry_X_sums) ∈ pr_U := pr_inU (lw_in0 (List.mem_of_getElem? (i := 103) rfl)) rfl
theorem prw_955 : (Cond.code pry_X_sums prb_X_sums 3 none) ∈ pr_U := pr_inU (lw_in6 (List.mem_of_getElem? (i := 232) rfl)) rfl
theorem prw_956 : (Cond.methodLink prn_X 277 pry_X_sums) ∈ pr_U := pr_inU (lw_in6 (List.mem_of_getElem? (i := 229) rfl)) rfl
theorem prw_957 : (Cond.instanceMethod pry_X_named) ∈ pr_U := pr_inU (lw_in6 (List.mem_of_getElem? (i := 227) rfl)) rfl
theorem prw_958 : (Cond.selects prn_X pry_X_named pry_X_named) ∈ pr_U := pr_inU (lw_in0 (List.mem_of_getElem? (i := 102) rfl)) rfl
theorem prw_959 : (Cond.code pry_X_named prb_X_named 5 (some .int)) ∈ pr_U := pr_inU (lw_in6 (List.mem_of_getElem? (i := 228) rfl)) rfl
theorem prw_960 : (Cond.methodLink prn_X 268 pry_X_statement1) ∈ pr_U := pr_inU (lw_in6 (List.mem_of_getElem? (i := 205) rfl)) rfl
theorem prw_961 : (Cond.instanceMethod pry_X_block1) ∈ pr_U := pr_inU (lw_in6 (List.mem_of_getElem? (i := 199) rfl)) rfl
theorem prw_962 : (Cond.selects prn_X pry_X_block1 pry_X_block1) ∈ pr_U := pr_inU (lw_in0 (List.mem_of_getElem? (i := 95) rfl)) rfl
theorem prw_963 : (Cond.code pry_X_block1 prb_X_block1 3 (some .int)) ∈ pr_U := pr_inU (lw_in6 (List.mem_of_getElem? (i := 200) rfl)) rfl
theorem prw_964 : (Cond.methodLink prn_X 271 pry_X_named) ∈ pr_U := pr_inU (lw_in6 (List.mem_of_getElem? (i := 225) rfl)) rfl
theorem prw_965 : (Cond.methodLink prn_X 274 pry_X_block1) ∈ pr_U := pr_inU (lw_in6 (List.mem_of_getElem? (i := 197) rfl)) rfl
theorem prw_966 : (Cond.instanceMethod pry_X_statement1) ∈ pr_U := pr_inU (lw_in6 (List.mem_of_getElem? (i := 207) rfl)) rfl
theorem prw_967 : (Cond.selects prn_X pry_X_statement1 pry_X_statement1) ∈ pr_U := pr_inU (lw_in0 (List.mem_of_getElem? (i := 97) rfl)) rfl
theorem prw_968 : (Cond.code pry_X_statement1 prb_X_statement1 6 (some .int)) ∈ pr_U := pr_inU (lw_in6 (List.mem_of_getElem? (i := 208) rfl)) rfl
theorem prw_969 : (Cond.instanceMethod pry_X_function) ∈ pr_U := pr_inU (lw_in6 (List.mem_of_getElem? (i := 171) rfl)) rfl
theorem prw_970 : (Cond.selects prn_X pry_X_function pry_X_function) ∈ pr_U := pr_inU (lw_in0 (List.mem_of_getElem? (i := 88) rfl)) rfl
theorem prw_971 : (Cond.code pry_X_function prb_X_function 2 (some .int)) ∈ pr_U := pr_inU (lw_in6 (List.mem_of_getElem? (i := 172) rfl)) rfl
theorem prw_972 : (Cond.fieldLink prn_X 279 prn_X "names" "I") ∈ pr_U := pr_inU (lw_in5 (List.mem_of_getElem? (i := 161) rfl)) rfl
theorem prw_973 : (Cond.fieldLink prn_X 65 prn_X "starts" "[I") ∈ pr_U := pr_inU (lw_in5 (List.mem_of_getElem? (i := 160) rfl)) rfl
theorem prw_974 : (Cond.fieldLink prn_X 62 prn_X "letters" "[I") ∈ pr_U := pr_inU (lw_in5 (List.mem_of_getElem? (i := 159) rfl)) rfl
theorem prw_975 : (Cond.instanceMethod pry_X_nameOf) ∈ pr_U := pr_inU (lw_in7 (List.mem_of_getElem? (i := 11) rfl)) rfl
theorem prw_976 : (Cond.selects prn_X pry_X_nameOf pry_X_nameOf) ∈ pr_U := pr_inU (lw_in0 (List.mem_of_getElem? (i := 108) rfl)) rfl
theorem prw_977 : (Cond.code pry_X_nameOf prb_X_nameOf 5 (some .int)) ∈ pr_U := pr_inU (lw_in7 (List.mem_of_getElem? (i := 12) rfl)) rfl
theorem prw_978 : (Cond.methodLink prn_X 285 pry_X_add) ∈ pr_U := pr_inU (lw_in6 (List.mem_of_getElem? (i := 84) rfl)) rfl
theorem prw_979 : (Cond.fieldLink prn_X 44 prn_X "pile" "[I") ∈ pr_U := pr_inU (lw_in5 (List.mem_of_getElem? (i := 152) rfl)) rfl
theorem prw_980 : (Cond.methodLink prn_X 282 pry_X_nameOf) ∈ pr_U := pr_inU (lw_in7 (List.mem_of_getElem? (i := 9) rfl)) rfl
theorem prw_981 : (Cond.instanceMethod pry_X_keep) ∈ pr_U := pr_inU (lw_in7 (List.mem_of_getElem? (i := 7) rfl)) rfl
theorem prw_982 : (Cond.selects prn_X pry_X_keep pry_X_keep) ∈ pr_U := pr_inU (lw_in0 (List.mem_of_getElem? (i := 107) rfl)) rfl
theorem prw_983 : (Cond.code pry_X_keep prb_X_keep 6 none) ∈ pr_U := pr_inU (lw_in7 (List.mem_of_getElem? (i := 8) rfl)) rfl
theorem prw_984 : (Cond.instanceMethod pry_X_behind) ∈ pr_U := pr_inU (lw_in7 (List.mem_of_getElem? (i := 19) rfl)) rfl
theorem prw_985 : (Cond.selects prn_X pry_X_behind pry_X_behind) ∈ pr_U := pr_inU (lw_in0 (List.mem_of_getElem? (i := 110) rfl)) rfl
theorem prw_986 : (Cond.code pry_X_behind prb_X_behind 2 (some .int)) ∈ pr_U := pr_inU (lw_in7 (List.mem_of_getElem? (i := 20) rfl)) rfl
theorem prw_987 : (Cond.fieldLink prn_X 298 prn_X "reason" "I") ∈ pr_U := pr_inU (lw_in5 (List.mem_of_getElem? (i := 181) rfl)) rfl
theorem prw_988 : (Cond.fieldLink prn_X 301 prn_X "reasonPlace" "I") ∈ pr_U := pr_inU (lw_in5 (List.mem_of_getElem? (i := 182) rfl)) rfl
theorem prw_989 : (Cond.instanceMethod pry_X_wrong) ∈ pr_U := pr_inU (lw_in7 (List.mem_of_getElem? (i := 23) rfl)) rfl
theorem prw_990 : (Cond.selects prn_X pry_X_wrong pry_X_wrong) ∈ pr_U := pr_inU (lw_in0 (List.mem_of_getElem? (i := 111) rfl)) rfl
theorem prw_991 : (Cond.code pry_X_wrong prb_X_wrong 3 (some .boolean)) ∈ pr_U := pr_inU (lw_in7 (List.mem_of_getElem? (i := 24) rfl)) rfl
theorem prw_992 : (Cond.instanceMethod pry_X_blockOf) ∈ pr_U := pr_inU (lw_in7 (List.mem_of_getElem? (i := 27) rfl)) rfl
theorem prw_993 : (Cond.selects prn_X pry_X_blockOf pry_X_blockOf) ∈ pr_U := pr_inU (lw_in0 (List.mem_of_getElem? (i := 112) rfl)) rfl
theorem prw_994 : (Cond.code pry_X_blockOf prb_X_blockOf 3 (some .int)) ∈ pr_U := pr_inU (lw_in7 (List.mem_of_getElem? (i := 28) rfl)) rfl
theorem prw_995 : (Cond.fieldLink prn_X 319 prn_X "base" "I") ∈ pr_U := pr_inU (lw_in5 (List.mem_of_getElem? (i := 177) rfl)) rfl
theorem prw_996 : (Cond.fieldLink prn_X 316 prn_X "env" "I") ∈ pr_U := pr_inU (lw_in5 (List.mem_of_getElem? (i := 176) rfl)) rfl
theorem prw_997 : (Cond.fieldLink prn_X 104 prn_X "envBlock" "[I") ∈ pr_U := pr_inU (lw_in5 (List.mem_of_getElem? (i := 175) rfl)) rfl
theorem prw_998 : (Cond.fieldLink prn_X 95 prn_X "envName" "[I") ∈ pr_U := pr_inU (lw_in5 (List.mem_of_getElem? (i := 172) rfl)) rfl
theorem prw_999 : (Cond.methodLink prn_X 325 pry_X_wrong) ∈ pr_U := pr_inU (lw_in7 (List.mem_of_getElem? (i := 21) rfl)) rfl
theorem prw_1000 : (Cond.instanceMethod pry_X_isNew) ∈ pr_U := pr_inU (lw_in7 (List.mem_of_getElem? (i := 39) rfl)) rfl
theorem prw_1001 : (Cond.selects prn_X pry_X_isNew pry_X_isNew) ∈ pr_U := pr_inU (lw_in0 (List.mem_of_getElem? (i := 115) rfl)) rfl
theorem prw_1002 : (Cond.code pry_X_isNew prb_X_isNew 4 (some .boolean)) ∈ pr_U := pr_inU (lw_in7 (List.mem_of_getElem? (i := 40) rfl)) rfl
theorem prw_1003 : (Cond.methodLink prn_X 307 pry_X_behind) ∈ pr_U := pr_inU (lw_in7 (List.mem_of_getElem? (i := 17) rfl)) rfl
theorem prw_1004 : (Cond.instanceMethod pry_X_second) ∈ pr_U := pr_inU (lw_in7 (List.mem_of_getElem? (i := 43) rfl)) rfl
theorem prw_1005 : (Cond.selects prn_X pry_X_second pry_X_second) ∈ pr_U := pr_inU (lw_in0 (List.mem_of_getElem? (i := 116) rfl)) rfl
theorem prw_1006 : (Cond.code pry_X_second prb_X_second 2 (some .int)) ∈ pr_U := pr_inU (lw_in7 (List.mem_of_getElem? (i := 44) rfl)) rfl
theorem prw_1007 : (Cond.instanceMethod pry_X_meantNow) ∈ pr_U := pr_inU (lw_in7 (List.mem_of_getElem? (i := 55) rfl)) rfl
theorem prw_1008 : (Cond.selects prn_X pry_X_meantNow pry_X_meantNow) ∈ pr_U := pr_inU (lw_in0 (List.mem_of_getElem? (i := 119) rfl)) rfl
theorem prw_1009 : (Cond.code pry_X_meantNow prb_X_meantNow 3 (some .int)) ∈ pr_U := pr_inU (lw_in7 (List.mem_of_getElem? (i := 56) rfl)) rfl
theorem prw_1010 : (Cond.methodLink prn_X 322 pry_X_meantNow) ∈ pr_U := pr_inU (lw_in7 (List.mem_of_getElem? (i := 53) rfl)) rfl
theorem prw_1011 : (Cond.fieldLink prn_X 101 prn_X "envRoom" "[I") ∈ pr_U := pr_inU (lw_in5 (List.mem_of_getElem? (i := 174) rfl)) rfl
theorem prw_1012 : (Cond.instanceMethod pry_X_lookName) ∈ pr_U := pr_inU (lw_in7 (List.mem_of_getElem? (i := 51) rfl)) rfl
theorem prw_1013 : (Cond.selects prn_X pry_X_lookName pry_X_lookName) ∈ pr_U := pr_inU (lw_in0 (List.mem_of_getElem? (i := 118) rfl)) rfl
theorem prw_1014 : (Cond.code pry_X_lookName prb_X_lookName 4 (some .boolean)) ∈ pr_U := pr_inU (lw_in7 (List.mem_of_getElem? (i := 52) rfl)) rfl
theorem prw_1015 : (Cond.methodLink prn_X 328 pry_X_lookName) ∈ pr_U := pr_inU (lw_in7 (List.mem_of_getElem? (i := 49) rfl)) rfl
theorem prw_1016 : (Cond.instanceMethod pry_X_lookAll) ∈ pr_U := pr_inU (lw_in7 (List.mem_of_getElem? (i := 47) rfl)) rfl
theorem prw_1017 : (Cond.selects prn_X pry_X_lookAll pry_X_lookAll) ∈ pr_U := pr_inU (lw_in0 (List.mem_of_getElem? (i := 117) rfl)) rfl
theorem prw_1018 : (Cond.code pry_X_lookAll prb_X_lookAll 4 (some .boolean)) ∈ pr_U := pr_inU (lw_in7 (List.mem_of_getElem? (i := 48) rfl)) rfl
theorem prw_1019 : (Cond.fieldLink prn_X 98 prn_X "envSlot" "[I") ∈ pr_U := pr_inU (lw_in5 (List.mem_of_getElem? (i := 173) rfl)) rfl
theorem prw_1020 : (Cond.instanceMethod pry_X_give) ∈ pr_U := pr_inU (lw_in7 (List.mem_of_getElem? (i := 59) rfl)) rfl
theorem prw_1021 : (Cond.selects prn_X pry_X_give pry_X_give) ∈ pr_U := pr_inU (lw_in0 (List.mem_of_getElem? (i := 120) rfl)) rfl
theorem prw_1022 : (Cond.code pry_X_give prb_X_give 5 none) ∈ pr_U := pr_inU (lw_in7 (List.mem_of_getElem? (i := 60) rfl)) rfl
theorem prw_1023 : (Cond.instanceMethod pry_X_whichFunction) ∈ pr_U := pr_inU (lw_in7 (List.mem_of_getElem? (i := 67) rfl)) rfl
theorem prw_1024 : (Cond.selects prn_X pry_X_whichFunction pry_X_whichFunction) ∈ pr_U := pr_inU (lw_in0 (List.mem_of_getElem? (i := 122) rfl)) rfl
theorem prw_1025 : (Cond.code pry_X_whichFunction prb_X_whichFunction 3 (some .int)) ∈ pr_U := pr_inU (lw_in7 (List.mem_of_getElem? (i := 68) rfl)) rfl
theorem prw_1026 : (Cond.instanceMethod pry_X_functionOf) ∈ pr_U := pr_inU (lw_in7 (List.mem_of_getElem? (i := 71) rfl)) rfl
theorem prw_1027 : (Cond.selects prn_X pry_X_functionOf pry_X_functionOf) ∈ pr_U := pr_inU (lw_in0 (List.mem_of_getElem? (i := 123) rfl)) rfl
theorem prw_1028 : (Cond.code pry_X_functionOf prb_X_functionOf 5 (some .int)) ∈ pr_U := pr_inU (lw_in7 (List.mem_of_getElem? (i := 72) rfl)) rfl
theorem prw_1029 : (Cond.instanceMethod pry_X_lastStatement) ∈ pr_U := pr_inU (lw_in7 (List.mem_of_getElem? (i := 79) rfl)) rfl
theorem prw_1030 : (Cond.selects prn_X pry_X_lastStatement pry_X_lastStatement) ∈ pr_U := pr_inU (lw_in0 (List.mem_of_getElem? (i := 125) rfl)) rfl
theorem prw_1031 : (Cond.code pry_X_lastStatement prb_X_lastStatement 4 (some .int)) ∈ pr_U := pr_inU (lw_in7 (List.mem_of_getElem? (i := 80) rfl)) rfl
theorem prw_1032 : (Cond.methodLink prn_X 310 pry_X_blockOf) ∈ pr_U := pr_inU (lw_in7 (List.mem_of_getElem? (i := 25) rfl)) rfl
theorem prw_1033 : (Cond.methodLink prn_X 313 pry_X_lastStatement) ∈ pr_U := pr_inU (lw_in7 (List.mem_of_getElem? (i := 77) rfl)) rfl
theorem prw_1034 : (Cond.instanceMethod pry_X_returns) ∈ pr_U := pr_inU (lw_in7 (List.mem_of_getElem? (i := 75) rfl)) rfl
theorem prw_1035 : (Cond.selects prn_X pry_X_returns pry_X_returns) ∈ pr_U := pr_inU (lw_in0 (List.mem_of_getElem? (i := 124) rfl)) rfl
theorem prw_1036 : (Cond.code pry_X_returns prb_X_returns 3 (some .boolean)) ∈ pr_U := pr_inU (lw_in7 (List.mem_of_getElem? (i := 76) rfl)) rfl
theorem prw_1037 : (Cond.methodLink prn_X 368 pry_X_returns) ∈ pr_U := pr_inU (lw_in7 (List.mem_of_getElem? (i := 73) rfl)) rfl
theorem prw_1038 : (Cond.fieldLink prn_X 335 prn_X "liveNumbers" "I") ∈ pr_U := pr_inU (lw_in5 (List.mem_of_getElem? (i := 179) rfl)) rfl
theorem prw_1039 : (Cond.fieldLink prn_X 332 prn_X "blocks" "I") ∈ pr_U := pr_inU (lw_in5 (List.mem_of_getElem? (i := 178) rfl)) rfl
theorem prw_1040 : (Cond.methodLink prn_X 353 pry_X_lookAll) ∈ pr_U := pr_inU (lw_in7 (List.mem_of_getElem? (i := 45) rfl)) rfl
theorem prw_1041 : (Cond.methodLink prn_X 341 pry_X_block4) ∈ pr_U := pr_inU (lw_in7 (List.mem_of_getElem? (i := 29) rfl)) rfl
theorem prw_1042 : (Cond.methodLink prn_X 356 pry_X_give) ∈ pr_U := pr_inU (lw_in7 (List.mem_of_getElem? (i := 57) rfl)) rfl
theorem prw_1043 : (Cond.methodLink prn_X 362 pry_X_whichFunction) ∈ pr_U := pr_inU (lw_in7 (List.mem_of_getElem? (i := 65) rfl)) rfl
theorem prw_1044 : (Cond.methodLink prn_X 365 pry_X_functionOf) ∈ pr_U := pr_inU (lw_in7 (List.mem_of_getElem? (i := 69) rfl)) rfl
theorem prw_1045 : (Cond.instanceMethod pry_X_call) ∈ pr_U := pr_inU (lw_in7 (List.mem_of_getElem? (i := 63) rfl)) rfl
theorem prw_1046 : (Cond.selects prn_X pry_X_call pry_X_call) ∈ pr_U := pr_inU (lw_in0 (List.mem_of_getElem? (i := 121) rfl)) rfl
theorem prw_1047 : (Cond.code pry_X_call prb_X_call 13 none) ∈ pr_U := pr_inU (lw_in7 (List.mem_of_getElem? (i := 64) rfl)) rfl
theorem prw_1048 : (Cond.fieldLink prn_X 338 prn_X "liveArrays" "I") ∈ pr_U := pr_inU (lw_in5 (List.mem_of_getElem? (i := 180) rfl)) rfl
theorem prw_1049 : (Cond.fieldLink prn_X 83 prn_X "meant" "[I") ∈ pr_U := pr_inU (lw_in5 (List.mem_of_getElem? (i := 168) rfl)) rfl
theorem prw_1050 : (Cond.methodLink prn_X 347 pry_X_isNew) ∈ pr_U := pr_inU (lw_in7 (List.mem_of_getElem? (i := 37) rfl)) rfl
theorem prw_1051 : (Cond.methodLink prn_X 350 pry_X_second) ∈ pr_U := pr_inU (lw_in7 (List.mem_of_getElem? (i := 41) rfl)) rfl
theorem prw_1052 : (Cond.methodLink prn_X 359 pry_X_call) ∈ pr_U := pr_inU (lw_in7 (List.mem_of_getElem? (i := 61) rfl)) rfl
theorem prw_1053 : (Cond.fieldLink prn_X 86 prn_X "meantName" "[I") ∈ pr_U := pr_inU (lw_in5 (List.mem_of_getElem? (i := 169) rfl)) rfl
theorem prw_1054 : (Cond.fieldLink prn_X 89 prn_X "meantSlot" "[I") ∈ pr_U := pr_inU (lw_in5 (List.mem_of_getElem? (i := 170) rfl)) rfl
theorem prw_1055 : (Cond.fieldLink prn_X 92 prn_X "meantRoom" "[I") ∈ pr_U := pr_inU (lw_in5 (List.mem_of_getElem? (i := 171) rfl)) rfl
theorem prw_1056 : (Cond.instanceMethod pry_X_statement5) ∈ pr_U := pr_inU (lw_in7 (List.mem_of_getElem? (i := 35) rfl)) rfl
theorem prw_1057 : (Cond.selects prn_X pry_X_statement5 pry_X_statement5) ∈ pr_U := pr_inU (lw_in0 (List.mem_of_getElem? (i := 114) rfl)) rfl
theorem prw_1058 : (Cond.code pry_X_statement5 prb_X_statement5 10 none) ∈ pr_U := pr_inU (lw_in7 (List.mem_of_getElem? (i := 36) rfl)) rfl
theorem prw_1059 : (Cond.methodLink prn_X 344 pry_X_statement5) ∈ pr_U := pr_inU (lw_in7 (List.mem_of_getElem? (i := 33) rfl)) rfl
theorem prw_1060 : (Cond.instanceMethod pry_X_block4) ∈ pr_U := pr_inU (lw_in7 (List.mem_of_getElem? (i := 31) rfl)) rfl
theorem prw_1061 : (Cond.selects prn_X pry_X_block4 pry_X_block4) ∈ pr_U := pr_inU (lw_in0 (List.mem_of_getElem? (i := 113) rfl)) rfl
theorem prw_1062 : (Cond.code pry_X_block4 prb_X_block4 9 none) ∈ pr_U := pr_inU (lw_in7 (List.mem_of_getElem? (i := 32) rfl)) rfl
theorem prw_1063 : (Cond.instanceMethod pry_X_layout) ∈ pr_U := pr_inU (lw_in7 (List.mem_of_getElem? (i := 15) rfl)) rfl
theorem prw_1064 : (Cond.selects prn_X pry_X_layout pry_X_layout) ∈ pr_U := pr_inU (lw_in0 (List.mem_of_getElem? (i := 109) rfl)) rfl
theorem prw_1065 : (Cond.code pry_X_layout prb_X_layout 3 none) ∈ pr_U := pr_inU (lw_in7 (List.mem_of_getElem? (i := 16) rfl)) rfl
theorem prw_1066 : (Cond.methodLink prn_X 289 pry_X_scan) ∈ pr_U := pr_inU (lw_in6 (List.mem_of_getElem? (i := 88) rfl)) rfl
theorem prw_1067 : (Cond.methodLink prn_X 292 pry_X_function) ∈ pr_U := pr_inU (lw_in6 (List.mem_of_getElem? (i := 169) rfl)) rfl
theorem prw_1068 : (Cond.methodLink prn_X 295 pry_X_keep) ∈ pr_U := pr_inU (lw_in7 (List.mem_of_getElem? (i := 5) rfl)) rfl
theorem prw_1069 : (Cond.methodLink prn_X 145 pry_X_nothing) ∈ pr_U := pr_inU (lw_in5 (List.mem_of_getElem? (i := 130) rfl)) rfl
theorem prw_1070 : (Cond.fieldLink prn_X 107 prn_X "told" "I") ∈ pr_U := pr_inU (lw_in5 (List.mem_of_getElem? (i := 183) rfl)) rfl
theorem prw_1071 : (Cond.methodLink prn_X 304 pry_X_layout) ∈ pr_U := pr_inU (lw_in7 (List.mem_of_getElem? (i := 13) rfl)) rfl
theorem prw_1072 : (Cond.instanceMethod pry_X_end) ∈ pr_U := pr_inU (lw_in6 (List.mem_of_getElem? (i := 81) rfl)) rfl
theorem prw_1073 : (Cond.selects prn_X pry_X_end pry_X_end) ∈ pr_U := pr_inU (lw_in6 (List.mem_of_getElem? (i := 82) rfl)) rfl
theorem prw_1074 : (Cond.code pry_X_end prb_X_end 3 (some .int)) ∈ pr_U := pr_inU (lw_in6 (List.mem_of_getElem? (i := 83) rfl)) rfl
theorem prw_1075 : (Cond.instanceMethod pry_X_told) ∈ pr_U := pr_inU (lw_in7 (List.mem_of_getElem? (i := 82) rfl)) rfl
theorem prw_1076 : (Cond.selects prn_X pry_X_told pry_X_told) ∈ pr_U := pr_inU (lw_in7 (List.mem_of_getElem? (i := 83) rfl)) rfl
theorem prw_1077 : (Cond.code pry_X_told prb_X_told 2 (some .int)) ∈ pr_U := pr_inU (lw_in7 (List.mem_of_getElem? (i := 84) rfl)) rfl
theorem prw_1078 : (Cond.instanceMethod pry_X_points) ∈ pr_U := pr_inU (lw_in7 (List.mem_of_getElem? (i := 86) rfl)) rfl
theorem prw_1079 : (Cond.selects prn_X pry_X_points pry_X_points) ∈ pr_U := pr_inU (lw_in7 (List.mem_of_getElem? (i := 87) rfl)) rfl
theorem prw_1080 : (Cond.code pry_X_points prb_X_points 1 (some .int)) ∈ pr_U := pr_inU (lw_in7 (List.mem_of_getElem? (i := 88) rfl)) rfl
theorem prw_1081 : (Cond.instanceMethod pry_X_after) ∈ pr_U := pr_inU (lw_in7 (List.mem_of_getElem? (i := 95) rfl)) rfl
theorem prw_1082 : (Cond.selects prn_X pry_X_after pry_X_after) ∈ pr_U := pr_inU (lw_in0 (List.mem_of_getElem? (i := 126) rfl)) rfl
theorem prw_1083 : (Cond.code pry_X_after prb_X_after 4 (some .int)) ∈ pr_U := pr_inU (lw_in7 (List.mem_of_getElem? (i := 96) rfl)) rfl
theorem prw_1084 : (Cond.methodLink prn_X 371 pry_X_after) ∈ pr_U := pr_inU (lw_in7 (List.mem_of_getElem? (i := 93) rfl)) rfl
theorem prw_1085 : (Cond.instanceMethod pry_X_point) ∈ pr_U := pr_inU (lw_in7 (List.mem_of_getElem? (i := 90) rfl)) rfl
theorem prw_1086 : (Cond.selects prn_X pry_X_point pry_X_point) ∈ pr_U := pr_inU (lw_in7 (List.mem_of_getElem? (i := 91) rfl)) rfl
theorem prw_1087 : (Cond.code pry_X_point prb_X_point 5 (some .int)) ∈ pr_U := pr_inU (lw_in7 (List.mem_of_getElem? (i := 92) rfl)) rfl
theorem prw_1088 : (Cond.fieldLink prn_X 374 prn_X "inputCount" "I") ∈ pr_U := pr_inU (lw_in5 (List.mem_of_getElem? (i := 185) rfl)) rfl
theorem prw_1089 : (Cond.fieldLink prn_X 110 prn_X "inputs" "[I") ∈ pr_U := pr_inU (lw_in5 (List.mem_of_getElem? (i := 184) rfl)) rfl
theorem prw_1090 : (Cond.instanceMethod pry_X_input) ∈ pr_U := pr_inU (lw_in7 (List.mem_of_getElem? (i := 98) rfl)) rfl
theorem prw_1091 : (Cond.selects prn_X pry_X_input pry_X_input) ∈ pr_U := pr_inU (lw_in7 (List.mem_of_getElem? (i := 99) rfl)) rfl
theorem prw_1092 : (Cond.code pry_X_input prb_X_input 2 (some .int)) ∈ pr_U := pr_inU (lw_in7 (List.mem_of_getElem? (i := 100) rfl)) rfl
theorem prw_1093 : (Cond.instanceMethod pry_X_drop) ∈ pr_U := pr_inU (lw_in7 (List.mem_of_getElem? (i := 102) rfl)) rfl
theorem prw_1094 : (Cond.selects prn_X pry_X_drop pry_X_drop) ∈ pr_U := pr_inU (lw_in7 (List.mem_of_getElem? (i := 103) rfl)) rfl
theorem prw_1095 : (Cond.code pry_X_drop prb_X_drop 2 (some .int)) ∈ pr_U := pr_inU (lw_in7 (List.mem_of_getElem? (i := 104) rfl)) rfl
theorem prw_1096 : (Cond.instanceMethod pry_X_meantAt) ∈ pr_U := pr_inU (lw_in7 (List.mem_of_getElem? (i := 119) rfl)) rfl
theorem prw_1097 : (Cond.selects prn_X pry_X_meantAt pry_X_meantAt) ∈ pr_U := pr_inU (lw_in0 (List.mem_of_getElem? (i := 129) rfl)) rfl
theorem prw_1098 : (Cond.code pry_X_meantAt prb_X_meantAt 3 (some .int)) ∈ pr_U := pr_inU (lw_in7 (List.mem_of_getElem? (i := 120) rfl)) rfl
theorem prw_1099 : (Cond.fieldLink prn_X 377 prn_X "trap" "I") ∈ pr_U := pr_inU (lw_in5 (List.mem_of_getElem? (i := 193) rfl)) rfl
theorem prw_1100 : (Cond.instanceMethod pry_X_trapped) ∈ pr_U := pr_inU (lw_in7 (List.mem_of_getElem? (i := 127) rfl)) rfl
theorem prw_1101 : (Cond.selects prn_X pry_X_trapped pry_X_trapped) ∈ pr_U := pr_inU (lw_in0 (List.mem_of_getElem? (i := 131) rfl)) rfl
theorem prw_1102 : (Cond.code pry_X_trapped prb_X_trapped 2 (some .long)) ∈ pr_U := pr_inU (lw_in7 (List.mem_of_getElem? (i := 128) rfl)) rfl
theorem prw_1103 : (Cond.constantLong prn_X 380 (-2147483648)) ∈ pr_U := pr_inU (lw_in7 (List.mem_of_getElem? (i := 133) rfl)) rfl
theorem prw_1104 : (Cond.methodLink prn_X 382 pry_X_trapped) ∈ pr_U := pr_inU (lw_in7 (List.mem_of_getElem? (i := 125) rfl)) rfl
theorem prw_1105 : (Cond.instanceMethod pry_X_whole) ∈ pr_U := pr_inU (lw_in7 (List.mem_of_getElem? (i := 131) rfl)) rfl
theorem prw_1106 : (Cond.selects prn_X pry_X_whole pry_X_whole) ∈ pr_U := pr_inU (lw_in0 (List.mem_of_getElem? (i := 132) rfl)) rfl
theorem prw_1107 : (Cond.code pry_X_whole prb_X_whole 3 (some .long)) ∈ pr_U := pr_inU (lw_in7 (List.mem_of_getElem? (i := 132) rfl)) rfl
theorem prw_1108 : (Cond.fieldLink prn_X 386 prn_X "read" "I") ∈ pr_U := pr_inU (lw_in5 (List.mem_of_getElem? (i := 192) rfl)) rfl
theorem prw_1109 : (Cond.instanceMethod pry_X_next) ∈ pr_U := pr_inU (lw_in7 (List.mem_of_getElem? (i := 136) rfl)) rfl
theorem prw_1110 : (Cond.selects prn_X pry_X_next pry_X_next) ∈ pr_U := pr_inU (lw_in0 (List.mem_of_getElem? (i := 133) rfl)) rfl
theorem prw_1111 : (Cond.code pry_X_next prb_X_next 1 (some .int)) ∈ pr_U := pr_inU (lw_in7 (List.mem_of_getElem? (i := 137) rfl)) rfl
theorem prw_1112 : (Cond.methodLink prn_X 397 pry_X_whole) ∈ pr_U := pr_inU (lw_in7 (List.mem_of_getElem? (i := 129) rfl)) rfl
theorem prw_1113 : (Cond.instanceMethod pry_X_operated) ∈ pr_U := pr_inU (lw_in7 (List.mem_of_getElem? (i := 140) rfl)) rfl
theorem prw_1114 : (Cond.selects prn_X pry_X_operated pry_X_operated) ∈ pr_U := pr_inU (lw_in0 (List.mem_of_getElem? (i := 134) rfl)) rfl
theorem prw_1115 : (Cond.code pry_X_operated prb_X_operated 6 (some .long)) ∈ pr_U := pr_inU (lw_in7 (List.mem_of_getElem? (i := 141) rfl)) rfl
theorem prw_1116 : (Cond.methodLink prn_X 389 pry_X_reckon) ∈ pr_U := pr_inU (lw_in7 (List.mem_of_getElem? (i := 113) rfl)) rfl
theorem prw_1117 : (Cond.methodLink prn_X 392 pry_X_meantAt) ∈ pr_U := pr_inU (lw_in7 (List.mem_of_getElem? (i := 117) rfl)) rfl
theorem prw_1118 : (Cond.instanceMethod pry_X_placeOf) ∈ pr_U := pr_inU (lw_in7 (List.mem_of_getElem? (i := 123) rfl)) rfl
theorem prw_1119 : (Cond.selects prn_X pry_X_placeOf pry_X_placeOf) ∈ pr_U := pr_inU (lw_in0 (List.mem_of_getElem? (i := 130) rfl)) rfl
theorem prw_1120 : (Cond.code pry_X_placeOf prb_X_placeOf 6 (some .int)) ∈ pr_U := pr_inU (lw_in7 (List.mem_of_getElem? (i := 124) rfl)) rfl
theorem prw_1121 : (Cond.fieldLink prn_X 113 prn_X "cells" "[I") ∈ pr_U := pr_inU (lw_in5 (List.mem_of_getElem? (i := 186) rfl)) rfl
theorem prw_1122 : (Cond.methodLink prn_X 395 pry_X_placeOf) ∈ pr_U := pr_inU (lw_in7 (List.mem_of_getElem? (i := 121) rfl)) rfl
theorem prw_1123 : (Cond.fieldLink prn_X 116 prn_X "rooms" "[I") ∈ pr_U := pr_inU (lw_in5 (List.mem_of_getElem? (i := 187) rfl)) rfl
theorem prw_1124 : (Cond.methodLink prn_X 400 pry_X_next) ∈ pr_U := pr_inU (lw_in7 (List.mem_of_getElem? (i := 134) rfl)) rfl
theorem prw_1125 : (Cond.methodLink prn_X 403 pry_X_operated) ∈ pr_U := pr_inU (lw_in7 (List.mem_of_getElem? (i := 138) rfl)) rfl
theorem prw_1126 : (Cond.instanceMethod pry_X_reckon) ∈ pr_U := pr_inU (lw_in7 (List.mem_of_getElem? (i := 115) rfl)) rfl
theorem prw_1127 : (Cond.selects prn_X pry_X_reckon pry_X_reckon) ∈ pr_U := pr_inU (lw_in0 (List.mem_of_getElem? (i := 128) rfl)) rfl
theorem prw_1128 : (Cond.code pry_X_reckon prb_X_reckon 7 (some .long)) ∈ pr_U := pr_inU (lw_in7 (List.mem_of_getElem? (i := 116) rfl)) rfl
theorem prw_1129 : (Cond.methodLink prn_X 407 pry_X_holds) ∈ pr_U := pr_inU (lw_in7 (List.mem_of_getElem? (i := 142) rfl)) rfl
theorem prw_1130 : (Cond.instanceMethod pry_X_holds) ∈ pr_U := pr_inU (lw_in7 (List.mem_of_getElem? (i := 144) rfl)) rfl
theorem prw_1131 : (Cond.selects prn_X pry_X_holds pry_X_holds) ∈ pr_U := pr_inU (lw_in0 (List.mem_of_getElem? (i := 135) rfl)) rfl
theorem prw_1132 : (Cond.code pry_X_holds prb_X_holds 7 (some .boolean)) ∈ pr_U := pr_inU (lw_in7 (List.mem_of_getElem? (i := 145) rfl)) rfl
theorem prw_1133 : (Cond.instanceMethod pry_X_goal) ∈ pr_U := pr_inU (lw_in7 (List.mem_of_getElem? (i := 152) rfl)) rfl
theorem prw_1134 : (Cond.selects prn_X pry_X_goal pry_X_goal) ∈ pr_U := pr_inU (lw_in0 (List.mem_of_getElem? (i := 137) rfl)) rfl
theorem prw_1135 : (Cond.code pry_X_goal prb_X_goal 5 (some .int)) ∈ pr_U := pr_inU (lw_in7 (List.mem_of_getElem? (i := 153) rfl)) rfl
theorem prw_1136 : (Cond.instanceMethod pry_X_otherBlock) ∈ pr_U := pr_inU (lw_in7 (List.mem_of_getElem? (i := 148) rfl)) rfl
theorem prw_1137 : (Cond.selects prn_X pry_X_otherBlock pry_X_otherBlock) ∈ pr_U := pr_inU (lw_in0 (List.mem_of_getElem? (i := 136) rfl)) rfl
theorem prw_1138 : (Cond.code pry_X_otherBlock prb_X_otherBlock 4 (some .int)) ∈ pr_U := pr_inU (lw_in7 (List.mem_of_getElem? (i := 149) rfl)) rfl
theorem prw_1139 : (Cond.methodLink prn_X 410 pry_X_otherBlock) ∈ pr_U := pr_inU (lw_in7 (List.mem_of_getElem? (i := 146) rfl)) rfl
theorem prw_1140 : (Cond.methodLink prn_X 413 pry_X_goal) ∈ pr_U := pr_inU (lw_in7 (List.mem_of_getElem? (i := 150) rfl)) rfl
theorem prw_1141 : (Cond.fieldLink prn_X 119 prn_X "sums" "[J") ∈ pr_U := pr_inU (lw_in5 (List.mem_of_getElem? (i := 188) rfl)) rfl
theorem prw_1142 : (Cond.instanceMethod pry_X_step) ∈ pr_U := pr_inU (lw_in7 (List.mem_of_getElem? (i := 111) rfl)) rfl
theorem prw_1143 : (Cond.selects prn_X pry_X_step pry_X_step) ∈ pr_U := pr_inU (lw_in0 (List.mem_of_getElem? (i := 127) rfl)) rfl
theorem prw_1144 : (Cond.code pry_X_step prb_X_step 10 (some .int)) ∈ pr_U := pr_inU (lw_in7 (List.mem_of_getElem? (i := 112) rfl)) rfl
theorem prw_1145 : (Cond.methodLink prn_X 416 pry_X_step) ∈ pr_U := pr_inU (lw_in7 (List.mem_of_getElem? (i := 109) rfl)) rfl
theorem prw_1146 : (Cond.methodLink prn_X 419 Lib.Math.min.name) ∈ pr_U := pr_inU (lw_in7 (List.mem_of_getElem? (i := 154) rfl)) rfl
theorem prw_1147 : (Cond.static Lib.Math.min.name) ∈ pr_U := pr_inU (lw_in7 (List.mem_of_getElem? (i := 155) rfl)) rfl
theorem prw_1148 : (Cond.code Lib.Math.min.name Lib.Math.min.code 2 (some .int)) ∈ pr_U := pr_inU (lw_in7 (List.mem_of_getElem? (i := 156) rfl)) rfl
theorem prw_1149 : (Cond.instanceMethod pry_X_run) ∈ pr_U := pr_inU (lw_in7 (List.mem_of_getElem? (i := 106) rfl)) rfl
theorem prw_1150 : (Cond.selects prn_X pry_X_run pry_X_run) ∈ pr_U := pr_inU (lw_in7 (List.mem_of_getElem? (i := 107) rfl)) rfl
theorem prw_1151 : (Cond.code pry_X_run prb_X_run 3 (some .int)) ∈ pr_U := pr_inU (lw_in7 (List.mem_of_getElem? (i := 108) rfl)) rfl
theorem prw_1152 : (Cond.instanceMethod pry_X_ran) ∈ pr_U := pr_inU (lw_in7 (List.mem_of_getElem? (i := 158) rfl)) rfl
theorem prw_1153 : (Cond.selects prn_X pry_X_ran pry_X_ran) ∈ pr_U := pr_inU (lw_in7 (List.mem_of_getElem? (i := 159) rfl)) rfl
theorem prw_1154 : (Cond.code pry_X_ran prb_X_ran 2 (some .int)) ∈ pr_U := pr_inU (lw_in7 (List.mem_of_getElem? (i := 160) rfl)) rfl
theorem prw_1155 : (Cond.instanceMethod pry_X_value) ∈ pr_U := pr_inU (lw_in7 (List.mem_of_getElem? (i := 162) rfl)) rfl
theorem prw_1156 : (Cond.selects prn_X pry_X_value pry_X_value) ∈ pr_U := pr_inU (lw_in7 (List.mem_of_getElem? (i := 163) rfl)) rfl
theorem prw_1157 : (Cond.code pry_X_value prb_X_value 2 (some .int)) ∈ pr_U := pr_inU (lw_in7 (List.mem_of_getElem? (i := 164) rfl)) rfl
theorem prw_1158 : (Cond.instanceMethod pry_X_place) ∈ pr_U := pr_inU (lw_in7 (List.mem_of_getElem? (i := 166) rfl)) rfl
theorem prw_1159 : (Cond.selects prn_X pry_X_place pry_X_place) ∈ pr_U := pr_inU (lw_in7 (List.mem_of_getElem? (i := 167) rfl)) rfl
theorem prw_1160 : (Cond.code pry_X_place prb_X_place 3 (some .int)) ∈ pr_U := pr_inU (lw_in7 (List.mem_of_getElem? (i := 168) rfl)) rfl
theorem prw_1161 : (Cond.code pry_P_init prb_P_init 2 none) ∈ pr_U := pr_inU (lw_in1 (List.mem_of_getElem? (i := 19) rfl)) rfl
theorem prw_1162 : (Cond.instanceMethod pry_P_init) ∈ pr_U := pr_inU (lw_in1 (List.mem_of_getElem? (i := 18) rfl)) rfl
theorem prw_1163 : (Cond.code pry_T_init prb_T_init 1 none) ∈ pr_U := pr_inU (lw_in1 (List.mem_of_getElem? (i := 85) rfl)) rfl
theorem prw_1164 : (Cond.instanceMethod pry_T_init) ∈ pr_U := pr_inU (lw_in1 (List.mem_of_getElem? (i := 84) rfl)) rfl
theorem prw_1165 : (Cond.code pry_G_init prb_G_init 1 none) ∈ pr_U := pr_inU (lw_in1 (List.mem_of_getElem? (i := 27) rfl)) rfl
theorem prw_1166 : (Cond.instanceMethod pry_G_init) ∈ pr_U := pr_inU (lw_in1 (List.mem_of_getElem? (i := 26) rfl)) rfl
theorem prw_1167 : (Cond.code pry_R_init prb_R_init 3 none) ∈ pr_U := pr_inU (lw_in1 (List.mem_of_getElem? (i := 113) rfl)) rfl
theorem prw_1168 : (Cond.instanceMethod pry_R_init) ∈ pr_U := pr_inU (lw_in1 (List.mem_of_getElem? (i := 112) rfl)) rfl
theorem prw_1169 : (Cond.code pry_O_init prb_O_init 1 none) ∈ pr_U := pr_inU (lw_in1 (List.mem_of_getElem? (i := 132) rfl)) rfl
theorem prw_1170 : (Cond.instanceMethod pry_O_init) ∈ pr_U := pr_inU (lw_in1 (List.mem_of_getElem? (i := 131) rfl)) rfl
theorem prw_1171 : (Cond.code pry_S_init prb_S_init 2 none) ∈ pr_U := pr_inU (lw_in1 (List.mem_of_getElem? (i := 190) rfl)) rfl
theorem prw_1172 : (Cond.instanceMethod pry_S_init) ∈ pr_U := pr_inU (lw_in1 (List.mem_of_getElem? (i := 189) rfl)) rfl
theorem prw_1173 : (Cond.code pry_Y_init prb_Y_init 4 none) ∈ pr_U := pr_inU (lw_in1 (List.mem_of_getElem? (i := 184) rfl)) rfl
theorem prw_1174 : (Cond.instanceMethod pry_Y_init) ∈ pr_U := pr_inU (lw_in1 (List.mem_of_getElem? (i := 183) rfl)) rfl
theorem prw_1175 : (Cond.code pry_M_init prb_M_init 4 none) ∈ pr_U := pr_inU (lw_in2 (List.mem_of_getElem? (i := 24) rfl)) rfl
theorem prw_1176 : (Cond.instanceMethod pry_M_init) ∈ pr_U := pr_inU (lw_in2 (List.mem_of_getElem? (i := 23) rfl)) rfl
theorem prw_1177 : (Cond.code pry_X_init prb_X_init 1 none) ∈ pr_U := pr_inU (lw_in5 (List.mem_of_getElem? (i := 118) rfl)) rfl
theorem prw_1178 : (Cond.instanceMethod pry_X_init) ∈ pr_U := pr_inU (lw_in5 (List.mem_of_getElem? (i := 117) rfl)) rfl
