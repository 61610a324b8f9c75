/-! THE CLASS' CONSTRUCTORS, printed by wip/whole/gen/mkctor.py -/
def pr_u (u : List (Nat × ClassId)) (j : Nat) : Nat × ClassId := u.getD j (0, 0)
def pr_us (u : List (Nat × ClassId)) (j : Nat) : List (Nat × ClassId) := u.drop j
def pr_v (u : List (Nat × List (Nat × ClassId))) (j : Nat) : Nat × List (Nat × ClassId) := u.getD j (0, [])
theorem priw_0 : (Cond.methodLink prn_T 3 Lib.objectInit) ∈ pr_U := pr_inU (lw_in1 (List.mem_of_getElem? (i := 86) rfl)) rfl
theorem priw_1 : (Cond.instanceMethod Lib.objectInit) ∈ pr_U := pr_inU (lw_in1 (List.mem_of_getElem? (i := 21) rfl)) rfl
theorem priw_2 : (Cond.code Lib.objectInit ⟨#[0xb1]⟩ 1 none) ∈ pr_U := pr_inU (lw_in1 (List.mem_of_getElem? (i := 22) rfl)) rfl
theorem priw_3 : (Cond.arrayClass .byte) ∈ pr_U := pr_inU (lw_in1 (List.mem_of_getElem? (i := 80) rfl)) rfl
theorem priw_4 : (Cond.fieldLink prn_T 9 prn_T "text" "[B") ∈ pr_U := pr_inU (lw_in1 (List.mem_of_getElem? (i := 87) rfl)) rfl
theorem priw_5 : (Cond.fieldLink prn_T 15 prn_T "kinds" "[B") ∈ pr_U := pr_inU (lw_in1 (List.mem_of_getElem? (i := 89) rfl)) rfl
theorem priw_6 : (Cond.arrayClass .int) ∈ pr_U := pr_inU (lw_in1 (List.mem_of_getElem? (i := 78) rfl)) rfl
theorem priw_7 : (Cond.fieldLink prn_T 18 prn_T "places" "[I") ∈ pr_U := pr_inU (lw_in1 (List.mem_of_getElem? (i := 90) rfl)) rfl
theorem priw_8 : (Cond.fieldLink prn_T 22 prn_T "values" "[I") ∈ pr_U := pr_inU (lw_in1 (List.mem_of_getElem? (i := 91) rfl)) rfl
theorem priw_9 : (Cond.methodLink prn_G 3 Lib.objectInit) ∈ pr_U := pr_inU (lw_in1 (List.mem_of_getElem? (i := 28) rfl)) rfl
theorem priw_10 : (Cond.fieldLink prn_G 9 prn_G "functionNames" "[I") ∈ pr_U := pr_inU (lw_in1 (List.mem_of_getElem? (i := 29) rfl)) rfl
theorem priw_11 : (Cond.fieldLink prn_G 15 prn_G "parameters" "[I") ∈ pr_U := pr_inU (lw_in1 (List.mem_of_getElem? (i := 30) rfl)) rfl
theorem priw_12 : (Cond.fieldLink prn_G 18 prn_G "functionBegins" "[I") ∈ pr_U := pr_inU (lw_in1 (List.mem_of_getElem? (i := 31) rfl)) rfl
theorem priw_13 : (Cond.fieldLink prn_G 21 prn_G "functionEnds" "[I") ∈ pr_U := pr_inU (lw_in1 (List.mem_of_getElem? (i := 32) rfl)) rfl
theorem priw_14 : (Cond.arrayClass .boolean) ∈ pr_U := pr_inU (lw_in1 (List.mem_of_getElem? (i := 79) rfl)) rfl
theorem priw_15 : (Cond.fieldLink prn_G 24 prn_G "returning" "[Z") ∈ pr_U := pr_inU (lw_in1 (List.mem_of_getElem? (i := 33) rfl)) rfl
theorem priw_16 : (Cond.fieldLink prn_G 28 prn_G "kinds" "[B") ∈ pr_U := pr_inU (lw_in1 (List.mem_of_getElem? (i := 35) rfl)) rfl
theorem priw_17 : (Cond.fieldLink prn_G 32 prn_G "firstTokens" "[I") ∈ pr_U := pr_inU (lw_in1 (List.mem_of_getElem? (i := 36) rfl)) rfl
theorem priw_18 : (Cond.fieldLink prn_G 35 prn_G "firstOperations" "[I") ∈ pr_U := pr_inU (lw_in1 (List.mem_of_getElem? (i := 37) rfl)) rfl
theorem priw_19 : (Cond.fieldLink prn_G 38 prn_G "details" "[I") ∈ pr_U := pr_inU (lw_in1 (List.mem_of_getElem? (i := 38) rfl)) rfl
theorem priw_20 : (Cond.fieldLink prn_G 41 prn_G "statementEnds" "[I") ∈ pr_U := pr_inU (lw_in1 (List.mem_of_getElem? (i := 39) rfl)) rfl
theorem priw_21 : (Cond.fieldLink prn_G 44 prn_G "operations" "[B") ∈ pr_U := pr_inU (lw_in1 (List.mem_of_getElem? (i := 41) rfl)) rfl
theorem priw_22 : (Cond.fieldLink prn_G 47 prn_G "operands" "[I") ∈ pr_U := pr_inU (lw_in1 (List.mem_of_getElem? (i := 42) rfl)) rfl
theorem priw_23 : (Cond.fieldLink prn_G 50 prn_G "slots" "[I") ∈ pr_U := pr_inU (lw_in1 (List.mem_of_getElem? (i := 44) rfl)) rfl
theorem priw_24 : (Cond.methodLink prn_R 3 Lib.objectInit) ∈ pr_U := pr_inU (lw_in1 (List.mem_of_getElem? (i := 114) rfl)) rfl
theorem priw_25 : (Cond.fieldLink prn_R 9 prn_R "tokens" "LProgramRuns$Tokens;") ∈ pr_U := pr_inU (lw_in1 (List.mem_of_getElem? (i := 115) rfl)) rfl
theorem priw_26 : (Cond.fieldLink prn_R 15 prn_R "program" "LProgramRuns$Program;") ∈ pr_U := pr_inU (lw_in1 (List.mem_of_getElem? (i := 116) rfl)) rfl
theorem priw_27 : (Cond.methodLink prn_O 3 Lib.objectInit) ∈ pr_U := pr_inU (lw_in1 (List.mem_of_getElem? (i := 133) rfl)) rfl
theorem priw_28 : (Cond.fieldLink prn_O 9 prn_O "kinds" "[B") ∈ pr_U := pr_inU (lw_in1 (List.mem_of_getElem? (i := 134) rfl)) rfl
theorem priw_29 : (Cond.fieldLink prn_O 15 prn_O "places" "[I") ∈ pr_U := pr_inU (lw_in1 (List.mem_of_getElem? (i := 135) rfl)) rfl
theorem priw_30 : (Cond.fieldLink prn_O 19 prn_O "statements" "[I") ∈ pr_U := pr_inU (lw_in1 (List.mem_of_getElem? (i := 136) rfl)) rfl
theorem priw_31 : (Cond.fieldLink prn_O 22 prn_O "numbers" "[I") ∈ pr_U := pr_inU (lw_in1 (List.mem_of_getElem? (i := 137) rfl)) rfl
theorem priw_32 : (Cond.fieldLink prn_O 25 prn_O "arrays" "[I") ∈ pr_U := pr_inU (lw_in1 (List.mem_of_getElem? (i := 138) rfl)) rfl
theorem priw_33 : (Cond.fieldLink prn_O 28 prn_O "foreignNumbers" "[I") ∈ pr_U := pr_inU (lw_in1 (List.mem_of_getElem? (i := 139) rfl)) rfl
theorem priw_34 : (Cond.fieldLink prn_O 31 prn_O "foreignArrays" "[I") ∈ pr_U := pr_inU (lw_in1 (List.mem_of_getElem? (i := 140) rfl)) rfl
theorem priw_35 : (Cond.fieldLink prn_O 34 prn_O "parents" "[I") ∈ pr_U := pr_inU (lw_in1 (List.mem_of_getElem? (i := 141) rfl)) rfl
theorem priw_36 : (Cond.fieldLink prn_O 37 prn_O "lasts" "[Z") ∈ pr_U := pr_inU (lw_in1 (List.mem_of_getElem? (i := 142) rfl)) rfl
theorem priw_37 : (Cond.fieldLink prn_O 41 prn_O "targets" "[I") ∈ pr_U := pr_inU (lw_in1 (List.mem_of_getElem? (i := 143) rfl)) rfl
theorem priw_38 : (Cond.fieldLink prn_O 44 prn_O "behinds" "[I") ∈ pr_U := pr_inU (lw_in1 (List.mem_of_getElem? (i := 144) rfl)) rfl
theorem priw_39 : (Cond.fieldLink prn_O 47 prn_O "intos" "[I") ∈ pr_U := pr_inU (lw_in1 (List.mem_of_getElem? (i := 145) rfl)) rfl
theorem priw_40 : (Cond.fieldLink prn_O 50 prn_O "others" "[I") ∈ pr_U := pr_inU (lw_in1 (List.mem_of_getElem? (i := 146) rfl)) rfl
theorem priw_41 : (Cond.fieldLink prn_O 53 prn_O "nexts" "[I") ∈ pr_U := pr_inU (lw_in1 (List.mem_of_getElem? (i := 147) rfl)) rfl
theorem priw_42 : (Cond.fieldLink prn_O 56 prn_O "count" "I") ∈ pr_U := pr_inU (lw_in1 (List.mem_of_getElem? (i := 148) rfl)) rfl
theorem priw_43 : (Cond.methodLink prn_S 3 Lib.objectInit) ∈ pr_U := pr_inU (lw_in1 (List.mem_of_getElem? (i := 191) rfl)) rfl
theorem priw_44 : (Cond.fieldLink prn_S 11 prn_S "names" "[I") ∈ pr_U := pr_inU (lw_in1 (List.mem_of_getElem? (i := 193) rfl)) rfl
theorem priw_45 : (Cond.fieldLink prn_S 15 prn_S "slots" "[I") ∈ pr_U := pr_inU (lw_in1 (List.mem_of_getElem? (i := 194) rfl)) rfl
theorem priw_46 : (Cond.fieldLink prn_S 18 prn_S "isArray" "[Z") ∈ pr_U := pr_inU (lw_in1 (List.mem_of_getElem? (i := 195) rfl)) rfl
theorem priw_47 : (Cond.fieldLink prn_S 22 prn_S "tokens" "LProgramRuns$Tokens;") ∈ pr_U := pr_inU (lw_in1 (List.mem_of_getElem? (i := 192) rfl)) rfl
theorem priw_48 : (Cond.methodLink prn_M 3 Lib.objectInit) ∈ pr_U := pr_inU (lw_in2 (List.mem_of_getElem? (i := 25) rfl)) rfl
theorem priw_49 : (Cond.fieldLink prn_M 9 prn_M "inputs" "[I") ∈ pr_U := pr_inU (lw_in2 (List.mem_of_getElem? (i := 29) rfl)) rfl
theorem priw_50 : (Cond.fieldLink prn_M 15 prn_M "numbers" "[I") ∈ pr_U := pr_inU (lw_in2 (List.mem_of_getElem? (i := 31) rfl)) rfl
theorem priw_51 : (Cond.fieldLink prn_M 18 prn_M "sizes" "[I") ∈ pr_U := pr_inU (lw_in2 (List.mem_of_getElem? (i := 32) rfl)) rfl
theorem priw_52 : (Cond.fieldLink prn_M 21 prn_M "places" "[I") ∈ pr_U := pr_inU (lw_in2 (List.mem_of_getElem? (i := 33) rfl)) rfl
theorem priw_53 : (Cond.fieldLink prn_M 24 prn_M "waiting" "[I") ∈ pr_U := pr_inU (lw_in2 (List.mem_of_getElem? (i := 38) rfl)) rfl
theorem priw_54 : (Cond.fieldLink prn_M 27 prn_M "tokens" "LProgramRuns$Tokens;") ∈ pr_U := pr_inU (lw_in2 (List.mem_of_getElem? (i := 26) rfl)) rfl
theorem priw_55 : (Cond.fieldLink prn_M 31 prn_M "program" "LProgramRuns$Program;") ∈ pr_U := pr_inU (lw_in2 (List.mem_of_getElem? (i := 27) rfl)) rfl
theorem priw_56 : (Cond.fieldLink prn_M 35 prn_M "points" "LProgramRuns$Points;") ∈ pr_U := pr_inU (lw_in2 (List.mem_of_getElem? (i := 28) rfl)) rfl
theorem priw_57 : (Cond.methodLink prn_Y 3 Lib.objectInit) ∈ pr_U := pr_inU (lw_in1 (List.mem_of_getElem? (i := 185) rfl)) rfl
theorem priw_58 : (Cond.fieldLink prn_Y 9 prn_Y "nextStatements" "[I") ∈ pr_U := pr_inU (lw_in1 (List.mem_of_getElem? (i := 215) rfl)) rfl
theorem priw_59 : (Cond.fieldLink prn_Y 15 prn_Y "blockEnds" "[I") ∈ pr_U := pr_inU (lw_in1 (List.mem_of_getElem? (i := 216) rfl)) rfl
theorem priw_60 : (Cond.fieldLink prn_Y 18 prn_Y "otherEnds" "[I") ∈ pr_U := pr_inU (lw_in1 (List.mem_of_getElem? (i := 217) rfl)) rfl
theorem priw_61 : (Cond.fieldLink prn_Y 21 prn_Y "parents" "[I") ∈ pr_U := pr_inU (lw_in1 (List.mem_of_getElem? (i := 218) rfl)) rfl
theorem priw_62 : (Cond.fieldLink prn_Y 24 prn_Y "functions" "[I") ∈ pr_U := pr_inU (lw_in1 (List.mem_of_getElem? (i := 219) rfl)) rfl
theorem priw_63 : (Cond.fieldLink prn_Y 27 prn_Y "tokens" "LProgramRuns$Tokens;") ∈ pr_U := pr_inU (lw_in1 (List.mem_of_getElem? (i := 211) rfl)) rfl
theorem priw_64 : (Cond.fieldLink prn_Y 31 prn_Y "program" "LProgramRuns$Program;") ∈ pr_U := pr_inU (lw_in1 (List.mem_of_getElem? (i := 212) rfl)) rfl
theorem priw_65 : (Cond.fieldLink prn_Y 35 prn_Y "points" "LProgramRuns$Points;") ∈ pr_U := pr_inU (lw_in1 (List.mem_of_getElem? (i := 213) rfl)) rfl
theorem priw_66 : (Cond.classLink prn_Y 39 prn_S) ∈ pr_U := pr_inU (lw_in1 (List.mem_of_getElem? (i := 186) rfl)) rfl
theorem priw_67 : (Cond.instantiable prn_S 6) ∈ pr_U := pr_inU (lw_in1 (List.mem_of_getElem? (i := 187) rfl)) rfl
theorem priw_68 : (Cond.initialized prn_S) ∈ pr_U := pr_inU (lw_in1 (List.mem_of_getElem? (i := 7) rfl)) rfl
theorem priw_69 : (Cond.code pry_S_init prb_S_init 2 none) ∈ pr_U := pr_inU (lw_in1 (List.mem_of_getElem? (i := 190) rfl)) rfl
theorem priw_70 : (Cond.instanceMethod pry_S_init) ∈ pr_U := pr_inU (lw_in1 (List.mem_of_getElem? (i := 189) rfl)) rfl
theorem priw_71 : (Cond.methodLink prn_Y 41 pry_S_init) ∈ pr_U := pr_inU (lw_in1 (List.mem_of_getElem? (i := 188) rfl)) rfl
theorem priw_72 : (Cond.fieldLink prn_Y 44 prn_Y "scope" "LProgramRuns$Scope;") ∈ pr_U := pr_inU (lw_in1 (List.mem_of_getElem? (i := 214) rfl)) rfl
theorem priw_73 : (Cond.methodLink prn_P 3 Lib.objectInit) ∈ pr_U := pr_inU (lw_in1 (List.mem_of_getElem? (i := 20) rfl)) rfl
theorem priw_74 : (Cond.classLink prn_P 9 prn_G) ∈ pr_U := pr_inU (lw_in1 (List.mem_of_getElem? (i := 23) rfl)) rfl
theorem priw_75 : (Cond.instantiable prn_G 16) ∈ pr_U := pr_inU (lw_in1 (List.mem_of_getElem? (i := 24) rfl)) rfl
theorem priw_76 : (Cond.initialized prn_G) ∈ pr_U := pr_inU (lw_in1 (List.mem_of_getElem? (i := 2) rfl)) rfl
theorem priw_77 : (Cond.code pry_G_init prb_G_init 1 none) ∈ pr_U := pr_inU (lw_in1 (List.mem_of_getElem? (i := 27) rfl)) rfl
theorem priw_78 : (Cond.instanceMethod pry_G_init) ∈ pr_U := pr_inU (lw_in1 (List.mem_of_getElem? (i := 26) rfl)) rfl
theorem priw_79 : (Cond.classLink prn_P 12 prn_T) ∈ pr_U := pr_inU (lw_in1 (List.mem_of_getElem? (i := 81) rfl)) rfl
theorem priw_80 : (Cond.instantiable prn_T 7) ∈ pr_U := pr_inU (lw_in1 (List.mem_of_getElem? (i := 82) rfl)) rfl
theorem priw_81 : (Cond.initialized prn_T) ∈ pr_U := pr_inU (lw_in1 (List.mem_of_getElem? (i := 3) rfl)) rfl
theorem priw_82 : (Cond.code pry_T_init prb_T_init 1 none) ∈ pr_U := pr_inU (lw_in1 (List.mem_of_getElem? (i := 85) rfl)) rfl
theorem priw_83 : (Cond.instanceMethod pry_T_init) ∈ pr_U := pr_inU (lw_in1 (List.mem_of_getElem? (i := 84) rfl)) rfl
theorem priw_84 : (Cond.fieldLink prn_P 15 prn_P "tokens" "LProgramRuns$Tokens;") ∈ pr_U := pr_inU (lw_in2 (List.mem_of_getElem? (i := 69) rfl)) rfl
theorem priw_85 : (Cond.classLink prn_P 19 prn_R) ∈ pr_U := pr_inU (lw_in1 (List.mem_of_getElem? (i := 109) rfl)) rfl
theorem priw_86 : (Cond.instantiable prn_R 4) ∈ pr_U := pr_inU (lw_in1 (List.mem_of_getElem? (i := 110) rfl)) rfl
theorem priw_87 : (Cond.initialized prn_R) ∈ pr_U := pr_inU (lw_in1 (List.mem_of_getElem? (i := 4) rfl)) rfl
theorem priw_88 : (Cond.code pry_R_init prb_R_init 3 none) ∈ pr_U := pr_inU (lw_in1 (List.mem_of_getElem? (i := 113) rfl)) rfl
theorem priw_89 : (Cond.instanceMethod pry_R_init) ∈ pr_U := pr_inU (lw_in1 (List.mem_of_getElem? (i := 112) rfl)) rfl
theorem priw_90 : (Cond.methodLink prn_P 21 pry_R_init) ∈ pr_U := pr_inU (lw_in1 (List.mem_of_getElem? (i := 111) rfl)) rfl
theorem priw_91 : (Cond.fieldLink prn_P 24 prn_P "reader" "LProgramRuns$Reader;") ∈ pr_U := pr_inU (lw_in2 (List.mem_of_getElem? (i := 70) rfl)) rfl
theorem priw_92 : (Cond.classLink prn_P 28 prn_O) ∈ pr_U := pr_inU (lw_in1 (List.mem_of_getElem? (i := 128) rfl)) rfl
theorem priw_93 : (Cond.instantiable prn_O 15) ∈ pr_U := pr_inU (lw_in1 (List.mem_of_getElem? (i := 129) rfl)) rfl
theorem priw_94 : (Cond.initialized prn_O) ∈ pr_U := pr_inU (lw_in1 (List.mem_of_getElem? (i := 5) rfl)) rfl
theorem priw_95 : (Cond.code pry_O_init prb_O_init 1 none) ∈ pr_U := pr_inU (lw_in1 (List.mem_of_getElem? (i := 132) rfl)) rfl
theorem priw_96 : (Cond.instanceMethod pry_O_init) ∈ pr_U := pr_inU (lw_in1 (List.mem_of_getElem? (i := 131) rfl)) rfl
theorem priw_97 : (Cond.fieldLink prn_P 31 prn_P "points" "LProgramRuns$Points;") ∈ pr_U := pr_inU (lw_in2 (List.mem_of_getElem? (i := 71) rfl)) rfl
theorem priw_98 : (Cond.classLink prn_P 35 prn_Y) ∈ pr_U := pr_inU (lw_in1 (List.mem_of_getElem? (i := 180) rfl)) rfl
theorem priw_99 : (Cond.instantiable prn_Y 16) ∈ pr_U := pr_inU (lw_in1 (List.mem_of_getElem? (i := 181) rfl)) rfl
theorem priw_100 : (Cond.initialized prn_Y) ∈ pr_U := pr_inU (lw_in1 (List.mem_of_getElem? (i := 6) rfl)) rfl
theorem priw_101 : (Cond.code pry_Y_init prb_Y_init 4 none) ∈ pr_U := pr_inU (lw_in1 (List.mem_of_getElem? (i := 184) rfl)) rfl
theorem priw_102 : (Cond.instanceMethod pry_Y_init) ∈ pr_U := pr_inU (lw_in1 (List.mem_of_getElem? (i := 183) rfl)) rfl
theorem priw_103 : (Cond.methodLink prn_P 37 pry_Y_init) ∈ pr_U := pr_inU (lw_in1 (List.mem_of_getElem? (i := 182) rfl)) rfl
theorem priw_104 : (Cond.fieldLink prn_P 40 prn_P "layout" "LProgramRuns$Layout;") ∈ pr_U := pr_inU (lw_in2 (List.mem_of_getElem? (i := 72) rfl)) rfl
theorem priw_105 : (Cond.classLink prn_P 44 prn_M) ∈ pr_U := pr_inU (lw_in2 (List.mem_of_getElem? (i := 20) rfl)) rfl
theorem priw_106 : (Cond.instantiable prn_M 14) ∈ pr_U := pr_inU (lw_in2 (List.mem_of_getElem? (i := 21) rfl)) rfl
theorem priw_107 : (Cond.initialized prn_M) ∈ pr_U := pr_inU (lw_in1 (List.mem_of_getElem? (i := 8) rfl)) rfl
theorem priw_108 : (Cond.code pry_M_init prb_M_init 4 none) ∈ pr_U := pr_inU (lw_in2 (List.mem_of_getElem? (i := 24) rfl)) rfl
theorem priw_109 : (Cond.instanceMethod pry_M_init) ∈ pr_U := pr_inU (lw_in2 (List.mem_of_getElem? (i := 23) rfl)) rfl
theorem priw_110 : (Cond.methodLink prn_P 46 pry_M_init) ∈ pr_U := pr_inU (lw_in2 (List.mem_of_getElem? (i := 22) rfl)) rfl
theorem priw_111 : (Cond.fieldLink prn_P 47 prn_P "machine" "LProgramRuns$Machine;") ∈ pr_U := pr_inU (lw_in2 (List.mem_of_getElem? (i := 73) rfl)) rfl
theorem prd_T_init_0 : decode prb_T_init 0 = .ok (.aload_n 0, 1) := by decide +kernel
theorem prd_T_init_1 : decode prb_T_init 1 = .ok (.invokespecial 3, 3) := by decide +kernel
theorem prd_T_init_4 : decode prb_T_init 4 = .ok (.aload_n 0, 1) := by decide +kernel
theorem prd_T_init_5 : decode prb_T_init 5 = .ok (.sipush 8000, 3) := by decide +kernel
theorem prd_T_init_8 : decode prb_T_init 8 = .ok (.newarray .byte, 2) := by decide +kernel
theorem prd_T_init_10 : decode prb_T_init 10 = .ok (.putfield 9, 3) := by decide +kernel
theorem prd_T_init_13 : decode prb_T_init 13 = .ok (.aload_n 0, 1) := by decide +kernel
theorem prd_T_init_14 : decode prb_T_init 14 = .ok (.sipush 8001, 3) := by decide +kernel
theorem prd_T_init_17 : decode prb_T_init 17 = .ok (.newarray .byte, 2) := by decide +kernel
theorem prd_T_init_19 : decode prb_T_init 19 = .ok (.putfield 15, 3) := by decide +kernel
theorem prd_T_init_22 : decode prb_T_init 22 = .ok (.aload_n 0, 1) := by decide +kernel
theorem prd_T_init_23 : decode prb_T_init 23 = .ok (.sipush 8001, 3) := by decide +kernel
theorem prd_T_init_26 : decode prb_T_init 26 = .ok (.newarray .int, 2) := by decide +kernel
theorem prd_T_init_28 : decode prb_T_init 28 = .ok (.putfield 18, 3) := by decide +kernel
theorem prd_T_init_31 : decode prb_T_init 31 = .ok (.aload_n 0, 1) := by decide +kernel
theorem prd_T_init_32 : decode prb_T_init 32 = .ok (.sipush 8001, 3) := by decide +kernel
theorem prd_T_init_35 : decode prb_T_init 35 = .ok (.newarray .int, 2) := by decide +kernel
theorem prd_T_init_37 : decode prb_T_init 37 = .ok (.putfield 22, 3) := by decide +kernel
theorem prd_T_init_40 : decode prb_T_init 40 = .ok (.return_, 1) := by decide +kernel
theorem prd_G_init_0 : decode prb_G_init 0 = .ok (.aload_n 0, 1) := by decide +kernel
theorem prd_G_init_1 : decode prb_G_init 1 = .ok (.invokespecial 3, 3) := by decide +kernel
theorem prd_G_init_4 : decode prb_G_init 4 = .ok (.aload_n 0, 1) := by decide +kernel
theorem prd_G_init_5 : decode prb_G_init 5 = .ok (.sipush 889, 3) := by decide +kernel
theorem prd_G_init_8 : decode prb_G_init 8 = .ok (.newarray .int, 2) := by decide +kernel
theorem prd_G_init_10 : decode prb_G_init 10 = .ok (.putfield 9, 3) := by decide +kernel
theorem prd_G_init_13 : decode prb_G_init 13 = .ok (.aload_n 0, 1) := by decide +kernel
theorem prd_G_init_14 : decode prb_G_init 14 = .ok (.sipush 889, 3) := by decide +kernel
theorem prd_G_init_17 : decode prb_G_init 17 = .ok (.newarray .int, 2) := by decide +kernel
theorem prd_G_init_19 : decode prb_G_init 19 = .ok (.putfield 15, 3) := by decide +kernel
theorem prd_G_init_22 : decode prb_G_init 22 = .ok (.aload_n 0, 1) := by decide +kernel
theorem prd_G_init_23 : decode prb_G_init 23 = .ok (.sipush 889, 3) := by decide +kernel
theorem prd_G_init_26 : decode prb_G_init 26 = .ok (.newarray .int, 2) := by decide +kernel
theorem prd_G_init_28 : decode prb_G_init 28 = .ok (.putfield 18, 3) := by decide +kernel
theorem prd_G_init_31 : decode prb_G_init 31 = .ok (.aload_n 0, 1) := by decide +kernel
theorem prd_G_init_32 : decode prb_G_init 32 = .ok (.sipush 889, 3) := by decide +kernel
theorem prd_G_init_35 : decode prb_G_init 35 = .ok (.newarray .int, 2) := by decide +kernel
theorem prd_G_init_37 : decode prb_G_init 37 = .ok (.putfield 21, 3) := by decide +kernel
theorem prd_G_init_40 : decode prb_G_init 40 = .ok (.aload_n 0, 1) := by decide +kernel
theorem prd_G_init_41 : decode prb_G_init 41 = .ok (.sipush 889, 3) := by decide +kernel
theorem prd_G_init_44 : decode prb_G_init 44 = .ok (.newarray .boolean, 2) := by decide +kernel
theorem prd_G_init_46 : decode prb_G_init 46 = .ok (.putfield 24, 3) := by decide +kernel
theorem prd_G_init_49 : decode prb_G_init 49 = .ok (.aload_n 0, 1) := by decide +kernel
theorem prd_G_init_50 : decode prb_G_init 50 = .ok (.sipush 2001, 3) := by decide +kernel
theorem prd_G_init_53 : decode prb_G_init 53 = .ok (.newarray .byte, 2) := by decide +kernel
theorem prd_G_init_55 : decode prb_G_init 55 = .ok (.putfield 28, 3) := by decide +kernel
theorem prd_G_init_58 : decode prb_G_init 58 = .ok (.aload_n 0, 1) := by decide +kernel
theorem prd_G_init_59 : decode prb_G_init 59 = .ok (.sipush 2001, 3) := by decide +kernel
theorem prd_G_init_62 : decode prb_G_init 62 = .ok (.newarray .int, 2) := by decide +kernel
theorem prd_G_init_64 : decode prb_G_init 64 = .ok (.putfield 32, 3) := by decide +kernel
theorem prd_G_init_67 : decode prb_G_init 67 = .ok (.aload_n 0, 1) := by decide +kernel
theorem prd_G_init_68 : decode prb_G_init 68 = .ok (.sipush 2001, 3) := by decide +kernel
theorem prd_G_init_71 : decode prb_G_init 71 = .ok (.newarray .int, 2) := by decide +kernel
theorem prd_G_init_73 : decode prb_G_init 73 = .ok (.putfield 35, 3) := by decide +kernel
theorem prd_G_init_76 : decode prb_G_init 76 = .ok (.aload_n 0, 1) := by decide +kernel
theorem prd_G_init_77 : decode prb_G_init 77 = .ok (.sipush 2001, 3) := by decide +kernel
theorem prd_G_init_80 : decode prb_G_init 80 = .ok (.newarray .int, 2) := by decide +kernel
theorem prd_G_init_82 : decode prb_G_init 82 = .ok (.putfield 38, 3) := by decide +kernel
theorem prd_G_init_85 : decode prb_G_init 85 = .ok (.aload_n 0, 1) := by decide +kernel
theorem prd_G_init_86 : decode prb_G_init 86 = .ok (.sipush 2001, 3) := by decide +kernel
theorem prd_G_init_89 : decode prb_G_init 89 = .ok (.newarray .int, 2) := by decide +kernel
theorem prd_G_init_91 : decode prb_G_init 91 = .ok (.putfield 41, 3) := by decide +kernel
theorem prd_G_init_94 : decode prb_G_init 94 = .ok (.aload_n 0, 1) := by decide +kernel
theorem prd_G_init_95 : decode prb_G_init 95 = .ok (.sipush 8001, 3) := by decide +kernel
theorem prd_G_init_98 : decode prb_G_init 98 = .ok (.newarray .byte, 2) := by decide +kernel
theorem prd_G_init_100 : decode prb_G_init 100 = .ok (.putfield 44, 3) := by decide +kernel
theorem prd_G_init_103 : decode prb_G_init 103 = .ok (.aload_n 0, 1) := by decide +kernel
theorem prd_G_init_104 : decode prb_G_init 104 = .ok (.sipush 8001, 3) := by decide +kernel
theorem prd_G_init_107 : decode prb_G_init 107 = .ok (.newarray .int, 2) := by decide +kernel
theorem prd_G_init_109 : decode prb_G_init 109 = .ok (.putfield 47, 3) := by decide +kernel
theorem prd_G_init_112 : decode prb_G_init 112 = .ok (.aload_n 0, 1) := by decide +kernel
theorem prd_G_init_113 : decode prb_G_init 113 = .ok (.sipush 8001, 3) := by decide +kernel
theorem prd_G_init_116 : decode prb_G_init 116 = .ok (.newarray .int, 2) := by decide +kernel
theorem prd_G_init_118 : decode prb_G_init 118 = .ok (.putfield 50, 3) := by decide +kernel
theorem prd_G_init_121 : decode prb_G_init 121 = .ok (.return_, 1) := by decide +kernel
theorem prd_R_init_0 : decode prb_R_init 0 = .ok (.aload_n 0, 1) := by decide +kernel
theorem prd_R_init_1 : decode prb_R_init 1 = .ok (.invokespecial 3, 3) := by decide +kernel
theorem prd_R_init_4 : decode prb_R_init 4 = .ok (.aload_n 0, 1) := by decide +kernel
theorem prd_R_init_5 : decode prb_R_init 5 = .ok (.aload_n 1, 1) := by decide +kernel
theorem prd_R_init_6 : decode prb_R_init 6 = .ok (.putfield 9, 3) := by decide +kernel
theorem prd_R_init_9 : decode prb_R_init 9 = .ok (.aload_n 0, 1) := by decide +kernel
theorem prd_R_init_10 : decode prb_R_init 10 = .ok (.aload_n 2, 1) := by decide +kernel
theorem prd_R_init_11 : decode prb_R_init 11 = .ok (.putfield 15, 3) := by decide +kernel
theorem prd_R_init_14 : decode prb_R_init 14 = .ok (.return_, 1) := by decide +kernel
theorem prd_O_init_0 : decode prb_O_init 0 = .ok (.aload_n 0, 1) := by decide +kernel
theorem prd_O_init_1 : decode prb_O_init 1 = .ok (.invokespecial 3, 3) := by decide +kernel
theorem prd_O_init_4 : decode prb_O_init 4 = .ok (.aload_n 0, 1) := by decide +kernel
theorem prd_O_init_5 : decode prb_O_init 5 = .ok (.sipush 250, 3) := by decide +kernel
theorem prd_O_init_8 : decode prb_O_init 8 = .ok (.newarray .byte, 2) := by decide +kernel
theorem prd_O_init_10 : decode prb_O_init 10 = .ok (.putfield 9, 3) := by decide +kernel
theorem prd_O_init_13 : decode prb_O_init 13 = .ok (.aload_n 0, 1) := by decide +kernel
theorem prd_O_init_14 : decode prb_O_init 14 = .ok (.sipush 250, 3) := by decide +kernel
theorem prd_O_init_17 : decode prb_O_init 17 = .ok (.newarray .int, 2) := by decide +kernel
theorem prd_O_init_19 : decode prb_O_init 19 = .ok (.putfield 15, 3) := by decide +kernel
theorem prd_O_init_22 : decode prb_O_init 22 = .ok (.aload_n 0, 1) := by decide +kernel
theorem prd_O_init_23 : decode prb_O_init 23 = .ok (.sipush 250, 3) := by decide +kernel
theorem prd_O_init_26 : decode prb_O_init 26 = .ok (.newarray .int, 2) := by decide +kernel
theorem prd_O_init_28 : decode prb_O_init 28 = .ok (.putfield 19, 3) := by decide +kernel
theorem prd_O_init_31 : decode prb_O_init 31 = .ok (.aload_n 0, 1) := by decide +kernel
theorem prd_O_init_32 : decode prb_O_init 32 = .ok (.sipush 250, 3) := by decide +kernel
theorem prd_O_init_35 : decode prb_O_init 35 = .ok (.newarray .int, 2) := by decide +kernel
theorem prd_O_init_37 : decode prb_O_init 37 = .ok (.putfield 22, 3) := by decide +kernel
theorem prd_O_init_40 : decode prb_O_init 40 = .ok (.aload_n 0, 1) := by decide +kernel
theorem prd_O_init_41 : decode prb_O_init 41 = .ok (.sipush 250, 3) := by decide +kernel
theorem prd_O_init_44 : decode prb_O_init 44 = .ok (.newarray .int, 2) := by decide +kernel
theorem prd_O_init_46 : decode prb_O_init 46 = .ok (.putfield 25, 3) := by decide +kernel
theorem prd_O_init_49 : decode prb_O_init 49 = .ok (.aload_n 0, 1) := by decide +kernel
theorem prd_O_init_50 : decode prb_O_init 50 = .ok (.sipush 250, 3) := by decide +kernel
theorem prd_O_init_53 : decode prb_O_init 53 = .ok (.newarray .int, 2) := by decide +kernel
theorem prd_O_init_55 : decode prb_O_init 55 = .ok (.putfield 28, 3) := by decide +kernel
theorem prd_O_init_58 : decode prb_O_init 58 = .ok (.aload_n 0, 1) := by decide +kernel
theorem prd_O_init_59 : decode prb_O_init 59 = .ok (.sipush 250, 3) := by decide +kernel
theorem prd_O_init_62 : decode prb_O_init 62 = .ok (.newarray .int, 2) := by decide +kernel
theorem prd_O_init_64 : decode prb_O_init 64 = .ok (.putfield 31, 3) := by decide +kernel
theorem prd_O_init_67 : decode prb_O_init 67 = .ok (.aload_n 0, 1) := by decide +kernel
theorem prd_O_init_68 : decode prb_O_init 68 = .ok (.sipush 250, 3) := by decide +kernel
theorem prd_O_init_71 : decode prb_O_init 71 = .ok (.newarray .int, 2) := by decide +kernel
theorem prd_O_init_73 : decode prb_O_init 73 = .ok (.putfield 34, 3) := by decide +kernel
theorem prd_O_init_76 : decode prb_O_init 76 = .ok (.aload_n 0, 1) := by decide +kernel
theorem prd_O_init_77 : decode prb_O_init 77 = .ok (.sipush 250, 3) := by decide +kernel
theorem prd_O_init_80 : decode prb_O_init 80 = .ok (.newarray .boolean, 2) := by decide +kernel
theorem prd_O_init_82 : decode prb_O_init 82 = .ok (.putfield 37, 3) := by decide +kernel
theorem prd_O_init_85 : decode prb_O_init 85 = .ok (.aload_n 0, 1) := by decide +kernel
theorem prd_O_init_86 : decode prb_O_init 86 = .ok (.sipush 250, 3) := by decide +kernel
theorem prd_O_init_89 : decode prb_O_init 89 = .ok (.newarray .int, 2) := by decide +kernel
theorem prd_O_init_91 : decode prb_O_init 91 = .ok (.putfield 41, 3) := by decide +kernel
theorem prd_O_init_94 : decode prb_O_init 94 = .ok (.aload_n 0, 1) := by decide +kernel
theorem prd_O_init_95 : decode prb_O_init 95 = .ok (.sipush 250, 3) := by decide +kernel
theorem prd_O_init_98 : decode prb_O_init 98 = .ok (.newarray .int, 2) := by decide +kernel
theorem prd_O_init_100 : decode prb_O_init 100 = .ok (.putfield 44, 3) := by decide +kernel
theorem prd_O_init_103 : decode prb_O_init 103 = .ok (.aload_n 0, 1) := by decide +kernel
theorem prd_O_init_104 : decode prb_O_init 104 = .ok (.sipush 250, 3) := by decide +kernel
theorem prd_O_init_107 : decode prb_O_init 107 = .ok (.newarray .int, 2) := by decide +kernel
theorem prd_O_init_109 : decode prb_O_init 109 = .ok (.putfield 47, 3) := by decide +kernel
theorem prd_O_init_112 : decode prb_O_init 112 = .ok (.aload_n 0, 1) := by decide +kernel
theorem prd_O_init_113 : decode prb_O_init 113 = .ok (.sipush 250, 3) := by decide +kernel
theorem prd_O_init_116 : decode prb_O_init 116 = .ok (.newarray .int, 2) := by decide +kernel
theorem prd_O_init_118 : decode prb_O_init 118 = .ok (.putfield 50, 3) := by decide +kernel
theorem prd_O_init_121 : decode prb_O_init 121 = .ok (.aload_n 0, 1) := by decide +kernel
theorem prd_O_init_122 : decode prb_O_init 122 = .ok (.sipush 250, 3) := by decide +kernel
theorem prd_O_init_125 : decode prb_O_init 125 = .ok (.newarray .int, 2) := by decide +kernel
theorem prd_O_init_127 : decode prb_O_init 127 = .ok (.putfield 53, 3) := by decide +kernel
theorem prd_O_init_130 : decode prb_O_init 130 = .ok (.aload_n 0, 1) := by decide +kernel
theorem prd_O_init_131 : decode prb_O_init 131 = .ok (.iconst 1, 1) := by decide +kernel
theorem prd_O_init_132 : decode prb_O_init 132 = .ok (.putfield 56, 3) := by decide +kernel
theorem prd_O_init_135 : decode prb_O_init 135 = .ok (.return_, 1) := by decide +kernel
theorem prd_S_init_0 : decode prb_S_init 0 = .ok (.aload_n 0, 1) := by decide +kernel
theorem prd_S_init_1 : decode prb_S_init 1 = .ok (.invokespecial 3, 3) := by decide +kernel
theorem prd_S_init_4 : decode prb_S_init 4 = .ok (.aload_n 0, 1) := by decide +kernel
theorem prd_S_init_5 : decode prb_S_init 5 = .ok (.bipush 18, 2) := by decide +kernel
theorem prd_S_init_7 : decode prb_S_init 7 = .ok (.newarray .int, 2) := by decide +kernel
theorem prd_S_init_9 : decode prb_S_init 9 = .ok (.putfield 11, 3) := by decide +kernel
theorem prd_S_init_12 : decode prb_S_init 12 = .ok (.aload_n 0, 1) := by decide +kernel
theorem prd_S_init_13 : decode prb_S_init 13 = .ok (.bipush 18, 2) := by decide +kernel
theorem prd_S_init_15 : decode prb_S_init 15 = .ok (.newarray .int, 2) := by decide +kernel
theorem prd_S_init_17 : decode prb_S_init 17 = .ok (.putfield 15, 3) := by decide +kernel
theorem prd_S_init_20 : decode prb_S_init 20 = .ok (.aload_n 0, 1) := by decide +kernel
theorem prd_S_init_21 : decode prb_S_init 21 = .ok (.bipush 18, 2) := by decide +kernel
theorem prd_S_init_23 : decode prb_S_init 23 = .ok (.newarray .boolean, 2) := by decide +kernel
theorem prd_S_init_25 : decode prb_S_init 25 = .ok (.putfield 18, 3) := by decide +kernel
theorem prd_S_init_28 : decode prb_S_init 28 = .ok (.aload_n 0, 1) := by decide +kernel
theorem prd_S_init_29 : decode prb_S_init 29 = .ok (.aload_n 1, 1) := by decide +kernel
theorem prd_S_init_30 : decode prb_S_init 30 = .ok (.putfield 22, 3) := by decide +kernel
theorem prd_S_init_33 : decode prb_S_init 33 = .ok (.return_, 1) := by decide +kernel
theorem prd_M_init_0 : decode prb_M_init 0 = .ok (.aload_n 0, 1) := by decide +kernel
theorem prd_M_init_1 : decode prb_M_init 1 = .ok (.invokespecial 3, 3) := by decide +kernel
theorem prd_M_init_4 : decode prb_M_init 4 = .ok (.aload_n 0, 1) := by decide +kernel
theorem prd_M_init_5 : decode prb_M_init 5 = .ok (.sipush 400, 3) := by decide +kernel
theorem prd_M_init_8 : decode prb_M_init 8 = .ok (.newarray .int, 2) := by decide +kernel
theorem prd_M_init_10 : decode prb_M_init 10 = .ok (.putfield 9, 3) := by decide +kernel
theorem prd_M_init_13 : decode prb_M_init 13 = .ok (.aload_n 0, 1) := by decide +kernel
theorem prd_M_init_14 : decode prb_M_init 14 = .ok (.bipush 12, 2) := by decide +kernel
theorem prd_M_init_16 : decode prb_M_init 16 = .ok (.newarray .int, 2) := by decide +kernel
theorem prd_M_init_18 : decode prb_M_init 18 = .ok (.putfield 15, 3) := by decide +kernel
theorem prd_M_init_21 : decode prb_M_init 21 = .ok (.aload_n 0, 1) := by decide +kernel
theorem prd_M_init_22 : decode prb_M_init 22 = .ok (.bipush 6, 2) := by decide +kernel
theorem prd_M_init_24 : decode prb_M_init 24 = .ok (.newarray .int, 2) := by decide +kernel
theorem prd_M_init_26 : decode prb_M_init 26 = .ok (.putfield 18, 3) := by decide +kernel
theorem prd_M_init_29 : decode prb_M_init 29 = .ok (.aload_n 0, 1) := by decide +kernel
theorem prd_M_init_30 : decode prb_M_init 30 = .ok (.sipush 384, 3) := by decide +kernel
theorem prd_M_init_33 : decode prb_M_init 33 = .ok (.newarray .int, 2) := by decide +kernel
theorem prd_M_init_35 : decode prb_M_init 35 = .ok (.putfield 21, 3) := by decide +kernel
theorem prd_M_init_38 : decode prb_M_init 38 = .ok (.aload_n 0, 1) := by decide +kernel
theorem prd_M_init_39 : decode prb_M_init 39 = .ok (.sipush 256, 3) := by decide +kernel
theorem prd_M_init_42 : decode prb_M_init 42 = .ok (.newarray .int, 2) := by decide +kernel
theorem prd_M_init_44 : decode prb_M_init 44 = .ok (.putfield 24, 3) := by decide +kernel
theorem prd_M_init_47 : decode prb_M_init 47 = .ok (.aload_n 0, 1) := by decide +kernel
theorem prd_M_init_48 : decode prb_M_init 48 = .ok (.aload_n 1, 1) := by decide +kernel
theorem prd_M_init_49 : decode prb_M_init 49 = .ok (.putfield 27, 3) := by decide +kernel
theorem prd_M_init_52 : decode prb_M_init 52 = .ok (.aload_n 0, 1) := by decide +kernel
theorem prd_M_init_53 : decode prb_M_init 53 = .ok (.aload_n 2, 1) := by decide +kernel
theorem prd_M_init_54 : decode prb_M_init 54 = .ok (.putfield 31, 3) := by decide +kernel
theorem prd_M_init_57 : decode prb_M_init 57 = .ok (.aload_n 0, 1) := by decide +kernel
theorem prd_M_init_58 : decode prb_M_init 58 = .ok (.aload_n 3, 1) := by decide +kernel
theorem prd_M_init_59 : decode prb_M_init 59 = .ok (.putfield 35, 3) := by decide +kernel
theorem prd_M_init_62 : decode prb_M_init 62 = .ok (.return_, 1) := by decide +kernel
theorem prd_Y_init_0 : decode prb_Y_init 0 = .ok (.aload_n 0, 1) := by decide +kernel
theorem prd_Y_init_1 : decode prb_Y_init 1 = .ok (.invokespecial 3, 3) := by decide +kernel
theorem prd_Y_init_4 : decode prb_Y_init 4 = .ok (.aload_n 0, 1) := by decide +kernel
theorem prd_Y_init_5 : decode prb_Y_init 5 = .ok (.sipush 250, 3) := by decide +kernel
theorem prd_Y_init_8 : decode prb_Y_init 8 = .ok (.newarray .int, 2) := by decide +kernel
theorem prd_Y_init_10 : decode prb_Y_init 10 = .ok (.putfield 9, 3) := by decide +kernel
theorem prd_Y_init_13 : decode prb_Y_init 13 = .ok (.aload_n 0, 1) := by decide +kernel
theorem prd_Y_init_14 : decode prb_Y_init 14 = .ok (.sipush 250, 3) := by decide +kernel
theorem prd_Y_init_17 : decode prb_Y_init 17 = .ok (.newarray .int, 2) := by decide +kernel
theorem prd_Y_init_19 : decode prb_Y_init 19 = .ok (.putfield 15, 3) := by decide +kernel
theorem prd_Y_init_22 : decode prb_Y_init 22 = .ok (.aload_n 0, 1) := by decide +kernel
theorem prd_Y_init_23 : decode prb_Y_init 23 = .ok (.sipush 250, 3) := by decide +kernel
theorem prd_Y_init_26 : decode prb_Y_init 26 = .ok (.newarray .int, 2) := by decide +kernel
theorem prd_Y_init_28 : decode prb_Y_init 28 = .ok (.putfield 18, 3) := by decide +kernel
theorem prd_Y_init_31 : decode prb_Y_init 31 = .ok (.aload_n 0, 1) := by decide +kernel
theorem prd_Y_init_32 : decode prb_Y_init 32 = .ok (.sipush 250, 3) := by decide +kernel
theorem prd_Y_init_35 : decode prb_Y_init 35 = .ok (.newarray .int, 2) := by decide +kernel
theorem prd_Y_init_37 : decode prb_Y_init 37 = .ok (.putfield 21, 3) := by decide +kernel
theorem prd_Y_init_40 : decode prb_Y_init 40 = .ok (.aload_n 0, 1) := by decide +kernel
theorem prd_Y_init_41 : decode prb_Y_init 41 = .ok (.sipush 250, 3) := by decide +kernel
theorem prd_Y_init_44 : decode prb_Y_init 44 = .ok (.newarray .int, 2) := by decide +kernel
theorem prd_Y_init_46 : decode prb_Y_init 46 = .ok (.putfield 24, 3) := by decide +kernel
theorem prd_Y_init_49 : decode prb_Y_init 49 = .ok (.aload_n 0, 1) := by decide +kernel
theorem prd_Y_init_50 : decode prb_Y_init 50 = .ok (.aload_n 1, 1) := by decide +kernel
theorem prd_Y_init_51 : decode prb_Y_init 51 = .ok (.putfield 27, 3) := by decide +kernel
theorem prd_Y_init_54 : decode prb_Y_init 54 = .ok (.aload_n 0, 1) := by decide +kernel
theorem prd_Y_init_55 : decode prb_Y_init 55 = .ok (.aload_n 2, 1) := by decide +kernel
theorem prd_Y_init_56 : decode prb_Y_init 56 = .ok (.putfield 31, 3) := by decide +kernel
theorem prd_Y_init_59 : decode prb_Y_init 59 = .ok (.aload_n 0, 1) := by decide +kernel
theorem prd_Y_init_60 : decode prb_Y_init 60 = .ok (.aload_n 3, 1) := by decide +kernel
theorem prd_Y_init_61 : decode prb_Y_init 61 = .ok (.putfield 35, 3) := by decide +kernel
theorem prd_Y_init_64 : decode prb_Y_init 64 = .ok (.aload_n 0, 1) := by decide +kernel
theorem prd_Y_init_65 : decode prb_Y_init 65 = .ok (.new 39, 3) := by decide +kernel
theorem prd_Y_init_68 : decode prb_Y_init 68 = .ok (.dup, 1) := by decide +kernel
theorem prd_Y_init_69 : decode prb_Y_init 69 = .ok (.aload_n 1, 1) := by decide +kernel
theorem prd_Y_init_70 : decode prb_Y_init 70 = .ok (.invokespecial 41, 3) := by decide +kernel
theorem prd_Y_init_73 : decode prb_Y_init 73 = .ok (.putfield 44, 3) := by decide +kernel
theorem prd_Y_init_76 : decode prb_Y_init 76 = .ok (.return_, 1) := by decide +kernel
theorem prd_P_init_0 : decode prb_P_init 0 = .ok (.aload_n 0, 1) := by decide +kernel
theorem prd_P_init_1 : decode prb_P_init 1 = .ok (.invokespecial 3, 3) := by decide +kernel
theorem prd_P_init_4 : decode prb_P_init 4 = .ok (.new 9, 3) := by decide +kernel
theorem prd_P_init_7 : decode prb_P_init 7 = .ok (.dup, 1) := by decide +kernel
theorem prd_P_init_8 : decode prb_P_init 8 = .ok (.invokespecial 11, 3) := by decide +kernel
theorem prd_P_init_11 : decode prb_P_init 11 = .ok (.astore_n 1, 1) := by decide +kernel
theorem prd_P_init_12 : decode prb_P_init 12 = .ok (.aload_n 0, 1) := by decide +kernel
theorem prd_P_init_13 : decode prb_P_init 13 = .ok (.new 12, 3) := by decide +kernel
theorem prd_P_init_16 : decode prb_P_init 16 = .ok (.dup, 1) := by decide +kernel
theorem prd_P_init_17 : decode prb_P_init 17 = .ok (.invokespecial 14, 3) := by decide +kernel
theorem prd_P_init_20 : decode prb_P_init 20 = .ok (.putfield 15, 3) := by decide +kernel
theorem prd_P_init_23 : decode prb_P_init 23 = .ok (.aload_n 0, 1) := by decide +kernel
theorem prd_P_init_24 : decode prb_P_init 24 = .ok (.new 19, 3) := by decide +kernel
theorem prd_P_init_27 : decode prb_P_init 27 = .ok (.dup, 1) := by decide +kernel
theorem prd_P_init_28 : decode prb_P_init 28 = .ok (.aload_n 0, 1) := by decide +kernel
theorem prd_P_init_29 : decode prb_P_init 29 = .ok (.getfield 15, 3) := by decide +kernel
theorem prd_P_init_32 : decode prb_P_init 32 = .ok (.aload_n 1, 1) := by decide +kernel
theorem prd_P_init_33 : decode prb_P_init 33 = .ok (.invokespecial 21, 3) := by decide +kernel
theorem prd_P_init_36 : decode prb_P_init 36 = .ok (.putfield 24, 3) := by decide +kernel
theorem prd_P_init_39 : decode prb_P_init 39 = .ok (.aload_n 0, 1) := by decide +kernel
theorem prd_P_init_40 : decode prb_P_init 40 = .ok (.new 28, 3) := by decide +kernel
theorem prd_P_init_43 : decode prb_P_init 43 = .ok (.dup, 1) := by decide +kernel
theorem prd_P_init_44 : decode prb_P_init 44 = .ok (.invokespecial 30, 3) := by decide +kernel
theorem prd_P_init_47 : decode prb_P_init 47 = .ok (.putfield 31, 3) := by decide +kernel
theorem prd_P_init_50 : decode prb_P_init 50 = .ok (.aload_n 0, 1) := by decide +kernel
theorem prd_P_init_51 : decode prb_P_init 51 = .ok (.new 35, 3) := by decide +kernel
theorem prd_P_init_54 : decode prb_P_init 54 = .ok (.dup, 1) := by decide +kernel
theorem prd_P_init_55 : decode prb_P_init 55 = .ok (.aload_n 0, 1) := by decide +kernel
theorem prd_P_init_56 : decode prb_P_init 56 = .ok (.getfield 15, 3) := by decide +kernel
theorem prd_P_init_59 : decode prb_P_init 59 = .ok (.aload_n 1, 1) := by decide +kernel
theorem prd_P_init_60 : decode prb_P_init 60 = .ok (.aload_n 0, 1) := by decide +kernel
theorem prd_P_init_61 : decode prb_P_init 61 = .ok (.getfield 31, 3) := by decide +kernel
theorem prd_P_init_64 : decode prb_P_init 64 = .ok (.invokespecial 37, 3) := by decide +kernel
theorem prd_P_init_67 : decode prb_P_init 67 = .ok (.putfield 40, 3) := by decide +kernel
theorem prd_P_init_70 : decode prb_P_init 70 = .ok (.aload_n 0, 1) := by decide +kernel
theorem prd_P_init_71 : decode prb_P_init 71 = .ok (.new 44, 3) := by decide +kernel
theorem prd_P_init_74 : decode prb_P_init 74 = .ok (.dup, 1) := by decide +kernel
theorem prd_P_init_75 : decode prb_P_init 75 = .ok (.aload_n 0, 1) := by decide +kernel
theorem prd_P_init_76 : decode prb_P_init 76 = .ok (.getfield 15, 3) := by decide +kernel
theorem prd_P_init_79 : decode prb_P_init 79 = .ok (.aload_n 1, 1) := by decide +kernel
theorem prd_P_init_80 : decode prb_P_init 80 = .ok (.aload_n 0, 1) := by decide +kernel
theorem prd_P_init_81 : decode prb_P_init 81 = .ok (.getfield 31, 3) := by decide +kernel
theorem prd_P_init_84 : decode prb_P_init 84 = .ok (.invokespecial 46, 3) := by decide +kernel
theorem prd_P_init_87 : decode prb_P_init 87 = .ok (.putfield 47, 3) := by decide +kernel
theorem prd_P_init_90 : decode prb_P_init 90 = .ok (.return_, 1) := by decide +kernel
def prIg_T : Nat → Value := fun k => match k with
  | 0 => .null
  | 1 => .int 0
  | 2 => .null
  | 3 => .null
  | 4 => .null
  | 5 => .int 0
  | 6 => .int 0
  | _ => .null
abbrev prIx_T : va_E := .inr (1, (List.range 7).map prIg_T)
def prIf_T  (u : List (Nat × ClassId)) : Nat → Value := fun k => match k with
  | 0 => .ref (pr_u u 0).1
  | 1 => .int 0
  | 2 => .ref (pr_u u 1).1
  | 3 => .ref (pr_u u 2).1
  | 4 => .ref (pr_u u 3).1
  | 5 => .int 0
  | 6 => .int 0
  | _ => .null
def prIw_T (h0 : Nat)  (u : List (Nat × ClassId)) : va_W := (h0, .inr (1, (List.range 7).map (prIf_T  u))) :: ([((pr_u u 0).1, .inl ((pr_u u 0).2, (8000, .inl (fun _ => 0)))), ((pr_u u 1).1, .inl ((pr_u u 1).2, (8001, .inl (fun _ => 0)))), ((pr_u u 2).1, .inl ((pr_u u 2).2, (8001, .inl (fun _ => 0)))), ((pr_u u 3).1, .inl ((pr_u u 3).2, (8001, .inl (fun _ => 0))))] : va_W)
def prIt_T (u : List (Nat × ClassId)) : List (ClassId × FieldType) := ([((pr_u u 0).2, .byte), ((pr_u u 1).2, .byte), ((pr_u u 2).2, .int), ((pr_u u 3).2, .int)] : List (ClassId × FieldType))
theorem prId_T : ∀ j, j < 7 → defaultValue (prq_T j) = vp_V ((List.range 7).map prIg_T) j := by decide +kernel
set_option maxHeartbeats 4000000 in
set_option maxRecDepth 100000 in
theorem prI_T {l : Launch} {D : va_G} (sz h0 : Nat)  : Met l pry_T_init (Cond.code pry_T_init prb_T_init 1 none :: pr_U) { frames := 1, cells := 4, slots := 32003, locals := 64 } (prKP (fun _ => True) D pr_cl [.ref h0] h0 prIx_T sz) (prKQ D pr_cl h0 prIx_T sz (prIw_T h0 ) prIt_T) 4 32003 (va_A [(h0, prIx_T)] sz) := by
  refine pr_kEntry (cc := prb_T_init) (maxL := 1) (by decide) (Nat.le_of_ble_eq_true rfl) ?_
  intro p e s m args below meth c E hZ hK hsz hP hD ls hl
  subst hsz
  have hl : lv_has ls 1 [(0, .ref h0)] := hl
  obtain ⟨hx, hb, hml, hown, hts, hr, hin, hlk⟩ := E
  have hA : ∀ q : Nat, s.heap.size ≤ q → va_A [(h0, prIx_T)] s.heap.size q := fun q h => Or.inr h
  have hS : va_S (va_A [(h0, prIx_T)] s.heap.size) s.heap s.heap [] := va_S.rf
  refine lv_aload_n hx hb prd_T_init_0 rfl (lv_at hl 0 rfl) ?_
  refine pr_kObj hx hb hown (hts _ priw_0) (hts _ priw_1) (hts _ priw_2) (hml.trans hl.1.symm) prd_T_init_1 (Nat.le_of_ble_eq_true rfl) (Nat.le_of_ble_eq_true rfl) ?_
  refine lv_aload_n hx hb prd_T_init_4 rfl (lv_at hl 0 rfl) ?_
  refine lv_sipush (v := 8000) hx hb prd_T_init_5 (by decide) ?_
  refine pr_kArr (k := 0) (atype := .byte) (ety := .byte) (N' := 8000) (a0 := (8000, .inl (fun _ => 0))) hx hb hts prs_T prq_T prtt_T prtn_T hown hK hP hD hS hA rfl (by decide) (hts _ priw_4) rfl rfl hin rfl (prtt_T 0 (by decide)) (hts _ priw_3) rfl (fun _ => rfl) (by decide) (by decide) (by decide) (Nat.le_of_ble_eq_true rfl) (Nat.le_of_ble_eq_true rfl) prd_T_init_8 prd_T_init_10 (fun q1 c1 H locs hK hP hD hS => ?_)
  refine lv_aload_n hx hb prd_T_init_13 rfl (lv_at hl 0 rfl) ?_
  refine lv_sipush (v := 8001) hx hb prd_T_init_14 (by decide) ?_
  refine pr_kArr (k := 2) (atype := .byte) (ety := .byte) (N' := 8001) (a0 := (8001, .inl (fun _ => 0))) hx hb hts prs_T prq_T prtt_T prtn_T hown hK hP hD hS hA rfl (by decide) (hts _ priw_5) rfl rfl hin rfl (prtt_T 2 (by decide)) (hts _ priw_3) rfl (fun _ => rfl) (by decide) (by decide) (by decide) (Nat.le_of_ble_eq_true rfl) (Nat.le_of_ble_eq_true rfl) prd_T_init_17 prd_T_init_19 (fun q2 c2 H locs hK hP hD hS => ?_)
  refine lv_aload_n hx hb prd_T_init_22 rfl (lv_at hl 0 rfl) ?_
  refine lv_sipush (v := 8001) hx hb prd_T_init_23 (by decide) ?_
  refine pr_kArr (k := 3) (atype := .int) (ety := .int) (N' := 8001) (a0 := (8001, .inl (fun _ => 0))) hx hb hts prs_T prq_T prtt_T prtn_T hown hK hP hD hS hA rfl (by decide) (hts _ priw_7) rfl rfl hin rfl (prtt_T 3 (by decide)) (hts _ priw_6) rfl (fun _ => rfl) (by decide) (by decide) (by decide) (Nat.le_of_ble_eq_true rfl) (Nat.le_of_ble_eq_true rfl) prd_T_init_26 prd_T_init_28 (fun q3 c3 H locs hK hP hD hS => ?_)
  refine lv_aload_n hx hb prd_T_init_31 rfl (lv_at hl 0 rfl) ?_
  refine lv_sipush (v := 8001) hx hb prd_T_init_32 (by decide) ?_
  refine pr_kArr (k := 4) (atype := .int) (ety := .int) (N' := 8001) (a0 := (8001, .inl (fun _ => 0))) hx hb hts prs_T prq_T prtt_T prtn_T hown hK hP hD hS hA rfl (by decide) (hts _ priw_8) rfl rfl hin rfl (prtt_T 4 (by decide)) (hts _ priw_6) rfl (fun _ => rfl) (by decide) (by decide) (by decide) (Nat.le_of_ble_eq_true rfl) (Nat.le_of_ble_eq_true rfl) prd_T_init_35 prd_T_init_37 (fun q4 c4 H locs hK hP hD hS => ?_)
  exact pr_kEnd (Wc := prIw_T h0 ) (Tc := prIt_T) [(q1, c1), (q2, c2), (q3, c3), (q4, c4)] hx hb hr hlk hP hK hD hS (Nat.le_of_ble_eq_true rfl) (Nat.le_of_ble_eq_true rfl) prd_T_init_40
def prIg_G : Nat → Value := fun k => match k with
  | 0 => .null
  | 1 => .null
  | 2 => .null
  | 3 => .null
  | 4 => .null
  | 5 => .int 0
  | 6 => .null
  | 7 => .null
  | 8 => .null
  | 9 => .null
  | 10 => .null
  | 11 => .int 0
  | 12 => .null
  | 13 => .null
  | 14 => .int 0
  | 15 => .null
  | _ => .null
abbrev prIx_G : va_E := .inr (2, (List.range 16).map prIg_G)
def prIf_G  (u : List (Nat × ClassId)) : Nat → Value := fun k => match k with
  | 0 => .ref (pr_u u 0).1
  | 1 => .ref (pr_u u 1).1
  | 2 => .ref (pr_u u 2).1
  | 3 => .ref (pr_u u 3).1
  | 4 => .ref (pr_u u 4).1
  | 5 => .int 0
  | 6 => .ref (pr_u u 5).1
  | 7 => .ref (pr_u u 6).1
  | 8 => .ref (pr_u u 7).1
  | 9 => .ref (pr_u u 8).1
  | 10 => .ref (pr_u u 9).1
  | 11 => .int 0
  | 12 => .ref (pr_u u 10).1
  | 13 => .ref (pr_u u 11).1
  | 14 => .int 0
  | 15 => .ref (pr_u u 12).1
  | _ => .null
def prIw_G (h0 : Nat)  (u : List (Nat × ClassId)) : va_W := (h0, .inr (2, (List.range 16).map (prIf_G  u))) :: ([((pr_u u 0).1, .inl ((pr_u u 0).2, (889, .inl (fun _ => 0)))), ((pr_u u 1).1, .inl ((pr_u u 1).2, (889, .inl (fun _ => 0)))), ((pr_u u 2).1, .inl ((pr_u u 2).2, (889, .inl (fun _ => 0)))), ((pr_u u 3).1, .inl ((pr_u u 3).2, (889, .inl (fun _ => 0)))), ((pr_u u 4).1, .inl ((pr_u u 4).2, (889, .inl (fun _ => 0)))), ((pr_u u 5).1, .inl ((pr_u u 5).2, (2001, .inl (fun _ => 0)))), ((pr_u u 6).1, .inl ((pr_u u 6).2, (2001, .inl (fun _ => 0)))), ((pr_u u 7).1, .inl ((pr_u u 7).2, (2001, .inl (fun _ => 0)))), ((pr_u u 8).1, .inl ((pr_u u 8).2, (2001, .inl (fun _ => 0)))), ((pr_u u 9).1, .inl ((pr_u u 9).2, (2001, .inl (fun _ => 0)))), ((pr_u u 10).1, .inl ((pr_u u 10).2, (8001, .inl (fun _ => 0)))), ((pr_u u 11).1, .inl ((pr_u u 11).2, (8001, .inl (fun _ => 0)))), ((pr_u u 12).1, .inl ((pr_u u 12).2, (8001, .inl (fun _ => 0))))] : va_W)
def prIt_G (u : List (Nat × ClassId)) : List (ClassId × FieldType) := ([((pr_u u 0).2, .int), ((pr_u u 1).2, .int), ((pr_u u 2).2, .int), ((pr_u u 3).2, .int), ((pr_u u 4).2, .boolean), ((pr_u u 5).2, .byte), ((pr_u u 6).2, .int), ((pr_u u 7).2, .int), ((pr_u u 8).2, .int), ((pr_u u 9).2, .int), ((pr_u u 10).2, .byte), ((pr_u u 11).2, .int), ((pr_u u 12).2, .int)] : List (ClassId × FieldType))
theorem prId_G : ∀ j, j < 16 → defaultValue (prq_G j) = vp_V ((List.range 16).map prIg_G) j := by decide +kernel
set_option maxHeartbeats 4000000 in
set_option maxRecDepth 100000 in
theorem prI_G {l : Launch} {D : va_G} (sz h0 : Nat)  : Met l pry_G_init (Cond.code pry_G_init prb_G_init 1 none :: pr_U) { frames := 1, cells := 13, slots := 38453, locals := 64 } (prKP (fun _ => True) D pr_cl [.ref h0] h0 prIx_G sz) (prKQ D pr_cl h0 prIx_G sz (prIw_G h0 ) prIt_G) 13 38453 (va_A [(h0, prIx_G)] sz) := by
  refine pr_kEntry (cc := prb_G_init) (maxL := 1) (by decide) (Nat.le_of_ble_eq_true rfl) ?_
  intro p e s m args below meth c E hZ hK hsz hP hD ls hl
  subst hsz
  have hl : lv_has ls 1 [(0, .ref h0)] := hl
  obtain ⟨hx, hb, hml, hown, hts, hr, hin, hlk⟩ := E
  have hA : ∀ q : Nat, s.heap.size ≤ q → va_A [(h0, prIx_G)] s.heap.size q := fun q h => Or.inr h
  have hS : va_S (va_A [(h0, prIx_G)] s.heap.size) s.heap s.heap [] := va_S.rf
  refine lv_aload_n hx hb prd_G_init_0 rfl (lv_at hl 0 rfl) ?_
  refine pr_kObj hx hb hown (hts _ priw_9) (hts _ priw_1) (hts _ priw_2) (hml.trans hl.1.symm) prd_G_init_1 (Nat.le_of_ble_eq_true rfl) (Nat.le_of_ble_eq_true rfl) ?_
  refine lv_aload_n hx hb prd_G_init_4 rfl (lv_at hl 0 rfl) ?_
  refine lv_sipush (v := 889) hx hb prd_G_init_5 (by decide) ?_
  refine pr_kArr (k := 0) (atype := .int) (ety := .int) (N' := 889) (a0 := (889, .inl (fun _ => 0))) hx hb hts prs_G prq_G prtt_G prtn_G hown hK hP hD hS hA rfl (by decide) (hts _ priw_10) rfl rfl hin rfl (prtt_G 0 (by decide)) (hts _ priw_6) rfl (fun _ => rfl) (by decide) (by decide) (by decide) (Nat.le_of_ble_eq_true rfl) (Nat.le_of_ble_eq_true rfl) prd_G_init_8 prd_G_init_10 (fun q1 c1 H locs hK hP hD hS => ?_)
  refine lv_aload_n hx hb prd_G_init_13 rfl (lv_at hl 0 rfl) ?_
  refine lv_sipush (v := 889) hx hb prd_G_init_14 (by decide) ?_
  refine pr_kArr (k := 1) (atype := .int) (ety := .int) (N' := 889) (a0 := (889, .inl (fun _ => 0))) hx hb hts prs_G prq_G prtt_G prtn_G hown hK hP hD hS hA rfl (by decide) (hts _ priw_11) rfl rfl hin rfl (prtt_G 1 (by decide)) (hts _ priw_6) rfl (fun _ => rfl) (by decide) (by decide) (by decide) (Nat.le_of_ble_eq_true rfl) (Nat.le_of_ble_eq_true rfl) prd_G_init_17 prd_G_init_19 (fun q2 c2 H locs hK hP hD hS => ?_)
  refine lv_aload_n hx hb prd_G_init_22 rfl (lv_at hl 0 rfl) ?_
  refine lv_sipush (v := 889) hx hb prd_G_init_23 (by decide) ?_
  refine pr_kArr (k := 2) (atype := .int) (ety := .int) (N' := 889) (a0 := (889, .inl (fun _ => 0))) hx hb hts prs_G prq_G prtt_G prtn_G hown hK hP hD hS hA rfl (by decide) (hts _ priw_12) rfl rfl hin rfl (prtt_G 2 (by decide)) (hts _ priw_6) rfl (fun _ => rfl) (by decide) (by decide) (by decide) (Nat.le_of_ble_eq_true rfl) (Nat.le_of_ble_eq_true rfl) prd_G_init_26 prd_G_init_28 (fun q3 c3 H locs hK hP hD hS => ?_)
  refine lv_aload_n hx hb prd_G_init_31 rfl (lv_at hl 0 rfl) ?_
  refine lv_sipush (v := 889) hx hb prd_G_init_32 (by decide) ?_
  refine pr_kArr (k := 3) (atype := .int) (ety := .int) (N' := 889) (a0 := (889, .inl (fun _ => 0))) hx hb hts prs_G prq_G prtt_G prtn_G hown hK hP hD hS hA rfl (by decide) (hts _ priw_13) rfl rfl hin rfl (prtt_G 3 (by decide)) (hts _ priw_6) rfl (fun _ => rfl) (by decide) (by decide) (by decide) (Nat.le_of_ble_eq_true rfl) (Nat.le_of_ble_eq_true rfl) prd_G_init_35 prd_G_init_37 (fun q4 c4 H locs hK hP hD hS => ?_)
  refine lv_aload_n hx hb prd_G_init_40 rfl (lv_at hl 0 rfl) ?_
  refine lv_sipush (v := 889) hx hb prd_G_init_41 (by decide) ?_
  refine pr_kArr (k := 4) (atype := .boolean) (ety := .boolean) (N' := 889) (a0 := (889, .inl (fun _ => 0))) hx hb hts prs_G prq_G prtt_G prtn_G hown hK hP hD hS hA rfl (by decide) (hts _ priw_15) rfl rfl hin rfl (prtt_G 4 (by decide)) (hts _ priw_14) rfl (fun _ => rfl) (by decide) (by decide) (by decide) (Nat.le_of_ble_eq_true rfl) (Nat.le_of_ble_eq_true rfl) prd_G_init_44 prd_G_init_46 (fun q5 c5 H locs hK hP hD hS => ?_)
  refine lv_aload_n hx hb prd_G_init_49 rfl (lv_at hl 0 rfl) ?_
  refine lv_sipush (v := 2001) hx hb prd_G_init_50 (by decide) ?_
  refine pr_kArr (k := 6) (atype := .byte) (ety := .byte) (N' := 2001) (a0 := (2001, .inl (fun _ => 0))) hx hb hts prs_G prq_G prtt_G prtn_G hown hK hP hD hS hA rfl (by decide) (hts _ priw_16) rfl rfl hin rfl (prtt_G 6 (by decide)) (hts _ priw_3) rfl (fun _ => rfl) (by decide) (by decide) (by decide) (Nat.le_of_ble_eq_true rfl) (Nat.le_of_ble_eq_true rfl) prd_G_init_53 prd_G_init_55 (fun q6 c6 H locs hK hP hD hS => ?_)
  refine lv_aload_n hx hb prd_G_init_58 rfl (lv_at hl 0 rfl) ?_
  refine lv_sipush (v := 2001) hx hb prd_G_init_59 (by decide) ?_
  refine pr_kArr (k := 7) (atype := .int) (ety := .int) (N' := 2001) (a0 := (2001, .inl (fun _ => 0))) hx hb hts prs_G prq_G prtt_G prtn_G hown hK hP hD hS hA rfl (by decide) (hts _ priw_17) rfl rfl hin rfl (prtt_G 7 (by decide)) (hts _ priw_6) rfl (fun _ => rfl) (by decide) (by decide) (by decide) (Nat.le_of_ble_eq_true rfl) (Nat.le_of_ble_eq_true rfl) prd_G_init_62 prd_G_init_64 (fun q7 c7 H locs hK hP hD hS => ?_)
  refine lv_aload_n hx hb prd_G_init_67 rfl (lv_at hl 0 rfl) ?_
  refine lv_sipush (v := 2001) hx hb prd_G_init_68 (by decide) ?_
  refine pr_kArr (k := 8) (atype := .int) (ety := .int) (N' := 2001) (a0 := (2001, .inl (fun _ => 0))) hx hb hts prs_G prq_G prtt_G prtn_G hown hK hP hD hS hA rfl (by decide) (hts _ priw_18) rfl rfl hin rfl (prtt_G 8 (by decide)) (hts _ priw_6) rfl (fun _ => rfl) (by decide) (by decide) (by decide) (Nat.le_of_ble_eq_true rfl) (Nat.le_of_ble_eq_true rfl) prd_G_init_71 prd_G_init_73 (fun q8 c8 H locs hK hP hD hS => ?_)
  refine lv_aload_n hx hb prd_G_init_76 rfl (lv_at hl 0 rfl) ?_
  refine lv_sipush (v := 2001) hx hb prd_G_init_77 (by decide) ?_
  refine pr_kArr (k := 9) (atype := .int) (ety := .int) (N' := 2001) (a0 := (2001, .inl (fun _ => 0))) hx hb hts prs_G prq_G prtt_G prtn_G hown hK hP hD hS hA rfl (by decide) (hts _ priw_19) rfl rfl hin rfl (prtt_G 9 (by decide)) (hts _ priw_6) rfl (fun _ => rfl) (by decide) (by decide) (by decide) (Nat.le_of_ble_eq_true rfl) (Nat.le_of_ble_eq_true rfl) prd_G_init_80 prd_G_init_82 (fun q9 c9 H locs hK hP hD hS => ?_)
  refine lv_aload_n hx hb prd_G_init_85 rfl (lv_at hl 0 rfl) ?_
  refine lv_sipush (v := 2001) hx hb prd_G_init_86 (by decide) ?_
  refine pr_kArr (k := 10) (atype := .int) (ety := .int) (N' := 2001) (a0 := (2001, .inl (fun _ => 0))) hx hb hts prs_G prq_G prtt_G prtn_G hown hK hP hD hS hA rfl (by decide) (hts _ priw_20) rfl rfl hin rfl (prtt_G 10 (by decide)) (hts _ priw_6) rfl (fun _ => rfl) (by decide) (by decide) (by decide) (Nat.le_of_ble_eq_true rfl) (Nat.le_of_ble_eq_true rfl) prd_G_init_89 prd_G_init_91 (fun q10 c10 H locs hK hP hD hS => ?_)
  refine lv_aload_n hx hb prd_G_init_94 rfl (lv_at hl 0 rfl) ?_
  refine lv_sipush (v := 8001) hx hb prd_G_init_95 (by decide) ?_
  refine pr_kArr (k := 12) (atype := .byte) (ety := .byte) (N' := 8001) (a0 := (8001, .inl (fun _ => 0))) hx hb hts prs_G prq_G prtt_G prtn_G hown hK hP hD hS hA rfl (by decide) (hts _ priw_21) rfl rfl hin rfl (prtt_G 12 (by decide)) (hts _ priw_3) rfl (fun _ => rfl) (by decide) (by decide) (by decide) (Nat.le_of_ble_eq_true rfl) (Nat.le_of_ble_eq_true rfl) prd_G_init_98 prd_G_init_100 (fun q11 c11 H locs hK hP hD hS => ?_)
  refine lv_aload_n hx hb prd_G_init_103 rfl (lv_at hl 0 rfl) ?_
  refine lv_sipush (v := 8001) hx hb prd_G_init_104 (by decide) ?_
  refine pr_kArr (k := 13) (atype := .int) (ety := .int) (N' := 8001) (a0 := (8001, .inl (fun _ => 0))) hx hb hts prs_G prq_G prtt_G prtn_G hown hK hP hD hS hA rfl (by decide) (hts _ priw_22) rfl rfl hin rfl (prtt_G 13 (by decide)) (hts _ priw_6) rfl (fun _ => rfl) (by decide) (by decide) (by decide) (Nat.le_of_ble_eq_true rfl) (Nat.le_of_ble_eq_true rfl) prd_G_init_107 prd_G_init_109 (fun q12 c12 H locs hK hP hD hS => ?_)
  refine lv_aload_n hx hb prd_G_init_112 rfl (lv_at hl 0 rfl) ?_
  refine lv_sipush (v := 8001) hx hb prd_G_init_113 (by decide) ?_
  refine pr_kArr (k := 15) (atype := .int) (ety := .int) (N' := 8001) (a0 := (8001, .inl (fun _ => 0))) hx hb hts prs_G prq_G prtt_G prtn_G hown hK hP hD hS hA rfl (by decide) (hts _ priw_23) rfl rfl hin rfl (prtt_G 15 (by decide)) (hts _ priw_6) rfl (fun _ => rfl) (by decide) (by decide) (by decide) (Nat.le_of_ble_eq_true rfl) (Nat.le_of_ble_eq_true rfl) prd_G_init_116 prd_G_init_118 (fun q13 c13 H locs hK hP hD hS => ?_)
  exact pr_kEnd (Wc := prIw_G h0 ) (Tc := prIt_G) [(q1, c1), (q2, c2), (q3, c3), (q4, c4), (q5, c5), (q6, c6), (q7, c7), (q8, c8), (q9, c9), (q10, c10), (q11, c11), (q12, c12), (q13, c13)] hx hb hr hlk hP hK hD hS (Nat.le_of_ble_eq_true rfl) (Nat.le_of_ble_eq_true rfl) prd_G_init_121
def prIg_R : Nat → Value := fun k => match k with
  | 0 => .null
  | 1 => .null
  | 2 => .int 0
  | 3 => .int 0
  | _ => .null
abbrev prIx_R : va_E := .inr (3, (List.range 4).map prIg_R)
def prIf_R (a1 : Nat) (a2 : Nat) (u : List (Nat × ClassId)) : Nat → Value := fun k => match k with
  | 0 => .ref a1
  | 1 => .ref a2
  | 2 => .int 0
  | 3 => .int 0
  | _ => .null
def prIw_R (h0 : Nat) (a1 : Nat) (a2 : Nat) (u : List (Nat × ClassId)) : va_W := (h0, .inr (3, (List.range 4).map (prIf_R a1 a2 u))) :: []
def prIt_R (u : List (Nat × ClassId)) : List (ClassId × FieldType) := []
theorem prId_R : ∀ j, j < 4 → defaultValue (prq_R j) = vp_V ((List.range 4).map prIg_R) j := by decide +kernel
set_option maxHeartbeats 4000000 in
set_option maxRecDepth 100000 in
theorem prI_R {l : Launch} {D : va_G} (sz h0 : Nat) (a1 : Nat) (a2 : Nat) : Met l pry_R_init (Cond.code pry_R_init prb_R_init 3 none :: pr_U) { frames := 1, cells := 0, slots := 0, locals := 64 } (prKP (fun _ => True) D pr_cl [.ref h0, .ref a1, .ref a2] h0 prIx_R sz) (prKQ D pr_cl h0 prIx_R sz (prIw_R h0 a1 a2) prIt_R) 0 0 (va_A [(h0, prIx_R)] sz) := by
  refine pr_kEntry (cc := prb_R_init) (maxL := 3) (by decide) (Nat.le_of_ble_eq_true rfl) ?_
  intro p e s m args below meth c E hZ hK hsz hP hD ls hl
  subst hsz
  have hl : lv_has ls 3 [(0, .ref h0), (1, .ref a1), (2, .ref a2)] := hl
  obtain ⟨hx, hb, hml, hown, hts, hr, hin, hlk⟩ := E
  have hA : ∀ q : Nat, s.heap.size ≤ q → va_A [(h0, prIx_R)] s.heap.size q := fun q h => Or.inr h
  have hS : va_S (va_A [(h0, prIx_R)] s.heap.size) s.heap s.heap [] := va_S.rf
  refine lv_aload_n hx hb prd_R_init_0 rfl (lv_at hl 0 rfl) ?_
  refine pr_kObj hx hb hown (hts _ priw_24) (hts _ priw_1) (hts _ priw_2) (hml.trans hl.1.symm) prd_R_init_1 (Nat.le_of_ble_eq_true rfl) (Nat.le_of_ble_eq_true rfl) ?_
  refine lv_aload_n hx hb prd_R_init_4 rfl (lv_at hl 0 rfl) ?_
  refine lv_aload_n hx hb prd_R_init_5 rfl (lv_at hl 1 rfl) ?_
  refine pr_kRef (k := 0) hx hb hts prs_R prq_R prtt_R prtn_R hown hK hP hD hS rfl (by decide) (hts _ priw_25) rfl rfl hin rfl (prtt_R 0 (by decide)) rfl rfl prd_R_init_6 (fun H locs hP hD hS => ?_)
  refine lv_aload_n hx hb prd_R_init_9 rfl (lv_at hl 0 rfl) ?_
  refine lv_aload_n hx hb prd_R_init_10 rfl (lv_at hl 2 rfl) ?_
  refine pr_kRef (k := 1) hx hb hts prs_R prq_R prtt_R prtn_R hown hK hP hD hS rfl (by decide) (hts _ priw_26) rfl rfl hin rfl (prtt_R 1 (by decide)) rfl rfl prd_R_init_11 (fun H locs hP hD hS => ?_)
  exact pr_kEnd (Wc := prIw_R h0 a1 a2) (Tc := prIt_R) [] hx hb hr hlk hP hK hD hS (Nat.le_of_ble_eq_true rfl) (Nat.le_of_ble_eq_true rfl) prd_R_init_14
def prIg_O : Nat → Value := fun k => match k with
  | 0 => .null
  | 1 => .null
  | 2 => .null
  | 3 => .null
  | 4 => .null
  | 5 => .null
  | 6 => .null
  | 7 => .null
  | 8 => .null
  | 9 => .null
  | 10 => .null
  | 11 => .null
  | 12 => .null
  | 13 => .null
  | 14 => .int 0
  | _ => .null
abbrev prIx_O : va_E := .inr (4, (List.range 15).map prIg_O)
def prIf_O  (u : List (Nat × ClassId)) : Nat → Value := fun k => match k with
  | 0 => .ref (pr_u u 0).1
  | 1 => .ref (pr_u u 1).1
  | 2 => .ref (pr_u u 2).1
  | 3 => .ref (pr_u u 3).1
  | 4 => .ref (pr_u u 4).1
  | 5 => .ref (pr_u u 5).1
  | 6 => .ref (pr_u u 6).1
  | 7 => .ref (pr_u u 7).1
  | 8 => .ref (pr_u u 8).1
  | 9 => .ref (pr_u u 9).1
  | 10 => .ref (pr_u u 10).1
  | 11 => .ref (pr_u u 11).1
  | 12 => .ref (pr_u u 12).1
  | 13 => .ref (pr_u u 13).1
  | 14 => .int 1
  | _ => .null
def prIw_O (h0 : Nat)  (u : List (Nat × ClassId)) : va_W := (h0, .inr (4, (List.range 15).map (prIf_O  u))) :: ([((pr_u u 0).1, .inl ((pr_u u 0).2, (250, .inl (fun _ => 0)))), ((pr_u u 1).1, .inl ((pr_u u 1).2, (250, .inl (fun _ => 0)))), ((pr_u u 2).1, .inl ((pr_u u 2).2, (250, .inl (fun _ => 0)))), ((pr_u u 3).1, .inl ((pr_u u 3).2, (250, .inl (fun _ => 0)))), ((pr_u u 4).1, .inl ((pr_u u 4).2, (250, .inl (fun _ => 0)))), ((pr_u u 5).1, .inl ((pr_u u 5).2, (250, .inl (fun _ => 0)))), ((pr_u u 6).1, .inl ((pr_u u 6).2, (250, .inl (fun _ => 0)))), ((pr_u u 7).1, .inl ((pr_u u 7).2, (250, .inl (fun _ => 0)))), ((pr_u u 8).1, .inl ((pr_u u 8).2, (250, .inl (fun _ => 0)))), ((pr_u u 9).1, .inl ((pr_u u 9).2, (250, .inl (fun _ => 0)))), ((pr_u u 10).1, .inl ((pr_u u 10).2, (250, .inl (fun _ => 0)))), ((pr_u u 11).1, .inl ((pr_u u 11).2, (250, .inl (fun _ => 0)))), ((pr_u u 12).1, .inl ((pr_u u 12).2, (250, .inl (fun _ => 0)))), ((pr_u u 13).1, .inl ((pr_u u 13).2, (250, .inl (fun _ => 0))))] : va_W)
def prIt_O (u : List (Nat × ClassId)) : List (ClassId × FieldType) := ([((pr_u u 0).2, .byte), ((pr_u u 1).2, .int), ((pr_u u 2).2, .int), ((pr_u u 3).2, .int), ((pr_u u 4).2, .int), ((pr_u u 5).2, .int), ((pr_u u 6).2, .int), ((pr_u u 7).2, .int), ((pr_u u 8).2, .boolean), ((pr_u u 9).2, .int), ((pr_u u 10).2, .int), ((pr_u u 11).2, .int), ((pr_u u 12).2, .int), ((pr_u u 13).2, .int)] : List (ClassId × FieldType))
theorem prId_O : ∀ j, j < 15 → defaultValue (prq_O j) = vp_V ((List.range 15).map prIg_O) j := by decide +kernel
set_option maxHeartbeats 4000000 in
set_option maxRecDepth 100000 in
theorem prI_O {l : Launch} {D : va_G} (sz h0 : Nat)  : Met l pry_O_init (Cond.code pry_O_init prb_O_init 1 none :: pr_U) { frames := 1, cells := 14, slots := 3500, locals := 64 } (prKP (fun _ => True) D pr_cl [.ref h0] h0 prIx_O sz) (prKQ D pr_cl h0 prIx_O sz (prIw_O h0 ) prIt_O) 14 3500 (va_A [(h0, prIx_O)] sz) := by
  refine pr_kEntry (cc := prb_O_init) (maxL := 1) (by decide) (Nat.le_of_ble_eq_true rfl) ?_
  intro p e s m args below meth c E hZ hK hsz hP hD ls hl
  subst hsz
  have hl : lv_has ls 1 [(0, .ref h0)] := hl
  obtain ⟨hx, hb, hml, hown, hts, hr, hin, hlk⟩ := E
  have hA : ∀ q : Nat, s.heap.size ≤ q → va_A [(h0, prIx_O)] s.heap.size q := fun q h => Or.inr h
  have hS : va_S (va_A [(h0, prIx_O)] s.heap.size) s.heap s.heap [] := va_S.rf
  refine lv_aload_n hx hb prd_O_init_0 rfl (lv_at hl 0 rfl) ?_
  refine pr_kObj hx hb hown (hts _ priw_27) (hts _ priw_1) (hts _ priw_2) (hml.trans hl.1.symm) prd_O_init_1 (Nat.le_of_ble_eq_true rfl) (Nat.le_of_ble_eq_true rfl) ?_
  refine lv_aload_n hx hb prd_O_init_4 rfl (lv_at hl 0 rfl) ?_
  refine lv_sipush (v := 250) hx hb prd_O_init_5 (by decide) ?_
  refine pr_kArr (k := 0) (atype := .byte) (ety := .byte) (N' := 250) (a0 := (250, .inl (fun _ => 0))) hx hb hts prs_O prq_O prtt_O prtn_O hown hK hP hD hS hA rfl (by decide) (hts _ priw_28) rfl rfl hin rfl (prtt_O 0 (by decide)) (hts _ priw_3) rfl (fun _ => rfl) (by decide) (by decide) (by decide) (Nat.le_of_ble_eq_true rfl) (Nat.le_of_ble_eq_true rfl) prd_O_init_8 prd_O_init_10 (fun q1 c1 H locs hK hP hD hS => ?_)
  refine lv_aload_n hx hb prd_O_init_13 rfl (lv_at hl 0 rfl) ?_
  refine lv_sipush (v := 250) hx hb prd_O_init_14 (by decide) ?_
  refine pr_kArr (k := 1) (atype := .int) (ety := .int) (N' := 250) (a0 := (250, .inl (fun _ => 0))) hx hb hts prs_O prq_O prtt_O prtn_O hown hK hP hD hS hA rfl (by decide) (hts _ priw_29) rfl rfl hin rfl (prtt_O 1 (by decide)) (hts _ priw_6) rfl (fun _ => rfl) (by decide) (by decide) (by decide) (Nat.le_of_ble_eq_true rfl) (Nat.le_of_ble_eq_true rfl) prd_O_init_17 prd_O_init_19 (fun q2 c2 H locs hK hP hD hS => ?_)
  refine lv_aload_n hx hb prd_O_init_22 rfl (lv_at hl 0 rfl) ?_
  refine lv_sipush (v := 250) hx hb prd_O_init_23 (by decide) ?_
  refine pr_kArr (k := 2) (atype := .int) (ety := .int) (N' := 250) (a0 := (250, .inl (fun _ => 0))) hx hb hts prs_O prq_O prtt_O prtn_O hown hK hP hD hS hA rfl (by decide) (hts _ priw_30) rfl rfl hin rfl (prtt_O 2 (by decide)) (hts _ priw_6) rfl (fun _ => rfl) (by decide) (by decide) (by decide) (Nat.le_of_ble_eq_true rfl) (Nat.le_of_ble_eq_true rfl) prd_O_init_26 prd_O_init_28 (fun q3 c3 H locs hK hP hD hS => ?_)
  refine lv_aload_n hx hb prd_O_init_31 rfl (lv_at hl 0 rfl) ?_
  refine lv_sipush (v := 250) hx hb prd_O_init_32 (by decide) ?_
  refine pr_kArr (k := 3) (atype := .int) (ety := .int) (N' := 250) (a0 := (250, .inl (fun _ => 0))) hx hb hts prs_O prq_O prtt_O prtn_O hown hK hP hD hS hA rfl (by decide) (hts _ priw_31) rfl rfl hin rfl (prtt_O 3 (by decide)) (hts _ priw_6) rfl (fun _ => rfl) (by decide) (by decide) (by decide) (Nat.le_of_ble_eq_true rfl) (Nat.le_of_ble_eq_true rfl) prd_O_init_35 prd_O_init_37 (fun q4 c4 H locs hK hP hD hS => ?_)
  refine lv_aload_n hx hb prd_O_init_40 rfl (lv_at hl 0 rfl) ?_
  refine lv_sipush (v := 250) hx hb prd_O_init_41 (by decide) ?_
  refine pr_kArr (k := 4) (atype := .int) (ety := .int) (N' := 250) (a0 := (250, .inl (fun _ => 0))) hx hb hts prs_O prq_O prtt_O prtn_O hown hK hP hD hS hA rfl (by decide) (hts _ priw_32) rfl rfl hin rfl (prtt_O 4 (by decide)) (hts _ priw_6) rfl (fun _ => rfl) (by decide) (by decide) (by decide) (Nat.le_of_ble_eq_true rfl) (Nat.le_of_ble_eq_true rfl) prd_O_init_44 prd_O_init_46 (fun q5 c5 H locs hK hP hD hS => ?_)
  refine lv_aload_n hx hb prd_O_init_49 rfl (lv_at hl 0 rfl) ?_
  refine lv_sipush (v := 250) hx hb prd_O_init_50 (by decide) ?_
  refine pr_kArr (k := 5) (atype := .int) (ety := .int) (N' := 250) (a0 := (250, .inl (fun _ => 0))) hx hb hts prs_O prq_O prtt_O prtn_O hown hK hP hD hS hA rfl (by decide) (hts _ priw_33) rfl rfl hin rfl (prtt_O 5 (by decide)) (hts _ priw_6) rfl (fun _ => rfl) (by decide) (by decide) (by decide) (Nat.le_of_ble_eq_true rfl) (Nat.le_of_ble_eq_true rfl) prd_O_init_53 prd_O_init_55 (fun q6 c6 H locs hK hP hD hS => ?_)
  refine lv_aload_n hx hb prd_O_init_58 rfl (lv_at hl 0 rfl) ?_
  refine lv_sipush (v := 250) hx hb prd_O_init_59 (by decide) ?_
  refine pr_kArr (k := 6) (atype := .int) (ety := .int) (N' := 250) (a0 := (250, .inl (fun _ => 0))) hx hb hts prs_O prq_O prtt_O prtn_O hown hK hP hD hS hA rfl (by decide) (hts _ priw_34) rfl rfl hin rfl (prtt_O 6 (by decide)) (hts _ priw_6) rfl (fun _ => rfl) (by decide) (by decide) (by decide) (Nat.le_of_ble_eq_true rfl) (Nat.le_of_ble_eq_true rfl) prd_O_init_62 prd_O_init_64 (fun q7 c7 H locs hK hP hD hS => ?_)
  refine lv_aload_n hx hb prd_O_init_67 rfl (lv_at hl 0 rfl) ?_
  refine lv_sipush (v := 250) hx hb prd_O_init_68 (by decide) ?_
  refine pr_kArr (k := 7) (atype := .int) (ety := .int) (N' := 250) (a0 := (250, .inl (fun _ => 0))) hx hb hts prs_O prq_O prtt_O prtn_O hown hK hP hD hS hA rfl (by decide) (hts _ priw_35) rfl rfl hin rfl (prtt_O 7 (by decide)) (hts _ priw_6) rfl (fun _ => rfl) (by decide) (by decide) (by decide) (Nat.le_of_ble_eq_true rfl) (Nat.le_of_ble_eq_true rfl) prd_O_init_71 prd_O_init_73 (fun q8 c8 H locs hK hP hD hS => ?_)
  refine lv_aload_n hx hb prd_O_init_76 rfl (lv_at hl 0 rfl) ?_
  refine lv_sipush (v := 250) hx hb prd_O_init_77 (by decide) ?_
  refine pr_kArr (k := 8) (atype := .boolean) (ety := .boolean) (N' := 250) (a0 := (250, .inl (fun _ => 0))) hx hb hts prs_O prq_O prtt_O prtn_O hown hK hP hD hS hA rfl (by decide) (hts _ priw_36) rfl rfl hin rfl (prtt_O 8 (by decide)) (hts _ priw_14) rfl (fun _ => rfl) (by decide) (by decide) (by decide) (Nat.le_of_ble_eq_true rfl) (Nat.le_of_ble_eq_true rfl) prd_O_init_80 prd_O_init_82 (fun q9 c9 H locs hK hP hD hS => ?_)
  refine lv_aload_n hx hb prd_O_init_85 rfl (lv_at hl 0 rfl) ?_
  refine lv_sipush (v := 250) hx hb prd_O_init_86 (by decide) ?_
  refine pr_kArr (k := 9) (atype := .int) (ety := .int) (N' := 250) (a0 := (250, .inl (fun _ => 0))) hx hb hts prs_O prq_O prtt_O prtn_O hown hK hP hD hS hA rfl (by decide) (hts _ priw_37) rfl rfl hin rfl (prtt_O 9 (by decide)) (hts _ priw_6) rfl (fun _ => rfl) (by decide) (by decide) (by decide) (Nat.le_of_ble_eq_true rfl) (Nat.le_of_ble_eq_true rfl) prd_O_init_89 prd_O_init_91 (fun q10 c10 H locs hK hP hD hS => ?_)
  refine lv_aload_n hx hb prd_O_init_94 rfl (lv_at hl 0 rfl) ?_
  refine lv_sipush (v := 250) hx hb prd_O_init_95 (by decide) ?_
  refine pr_kArr (k := 10) (atype := .int) (ety := .int) (N' := 250) (a0 := (250, .inl (fun _ => 0))) hx hb hts prs_O prq_O prtt_O prtn_O hown hK hP hD hS hA rfl (by decide) (hts _ priw_38) rfl rfl hin rfl (prtt_O 10 (by decide)) (hts _ priw_6) rfl (fun _ => rfl) (by decide) (by decide) (by decide) (Nat.le_of_ble_eq_true rfl) (Nat.le_of_ble_eq_true rfl) prd_O_init_98 prd_O_init_100 (fun q11 c11 H locs hK hP hD hS => ?_)
  refine lv_aload_n hx hb prd_O_init_103 rfl (lv_at hl 0 rfl) ?_
  refine lv_sipush (v := 250) hx hb prd_O_init_104 (by decide) ?_
  refine pr_kArr (k := 11) (atype := .int) (ety := .int) (N' := 250) (a0 := (250, .inl (fun _ => 0))) hx hb hts prs_O prq_O prtt_O prtn_O hown hK hP hD hS hA rfl (by decide) (hts _ priw_39) rfl rfl hin rfl (prtt_O 11 (by decide)) (hts _ priw_6) rfl (fun _ => rfl) (by decide) (by decide) (by decide) (Nat.le_of_ble_eq_true rfl) (Nat.le_of_ble_eq_true rfl) prd_O_init_107 prd_O_init_109 (fun q12 c12 H locs hK hP hD hS => ?_)
  refine lv_aload_n hx hb prd_O_init_112 rfl (lv_at hl 0 rfl) ?_
  refine lv_sipush (v := 250) hx hb prd_O_init_113 (by decide) ?_
  refine pr_kArr (k := 12) (atype := .int) (ety := .int) (N' := 250) (a0 := (250, .inl (fun _ => 0))) hx hb hts prs_O prq_O prtt_O prtn_O hown hK hP hD hS hA rfl (by decide) (hts _ priw_40) rfl rfl hin rfl (prtt_O 12 (by decide)) (hts _ priw_6) rfl (fun _ => rfl) (by decide) (by decide) (by decide) (Nat.le_of_ble_eq_true rfl) (Nat.le_of_ble_eq_true rfl) prd_O_init_116 prd_O_init_118 (fun q13 c13 H locs hK hP hD hS => ?_)
  refine lv_aload_n hx hb prd_O_init_121 rfl (lv_at hl 0 rfl) ?_
  refine lv_sipush (v := 250) hx hb prd_O_init_122 (by decide) ?_
  refine pr_kArr (k := 13) (atype := .int) (ety := .int) (N' := 250) (a0 := (250, .inl (fun _ => 0))) hx hb hts prs_O prq_O prtt_O prtn_O hown hK hP hD hS hA rfl (by decide) (hts _ priw_41) rfl rfl hin rfl (prtt_O 13 (by decide)) (hts _ priw_6) rfl (fun _ => rfl) (by decide) (by decide) (by decide) (Nat.le_of_ble_eq_true rfl) (Nat.le_of_ble_eq_true rfl) prd_O_init_125 prd_O_init_127 (fun q14 c14 H locs hK hP hD hS => ?_)
  refine lv_aload_n hx hb prd_O_init_130 rfl (lv_at hl 0 rfl) ?_
  refine lv_iconst (v := 1) hx hb prd_O_init_131 (by decide) ?_
  refine pr_kInt (k := 14) hx hb hts prs_O prq_O prtt_O prtn_O hown hK hP hD hS rfl (by decide) (hts _ priw_42) rfl rfl (prtt_O 14 (by decide)) rfl rfl prd_O_init_132 (fun H locs hP hD hS => ?_)
  exact pr_kEnd (Wc := prIw_O h0 ) (Tc := prIt_O) [(q1, c1), (q2, c2), (q3, c3), (q4, c4), (q5, c5), (q6, c6), (q7, c7), (q8, c8), (q9, c9), (q10, c10), (q11, c11), (q12, c12), (q13, c13), (q14, c14)] hx hb hr hlk hP hK hD hS (Nat.le_of_ble_eq_true rfl) (Nat.le_of_ble_eq_true rfl) prd_O_init_135
def prIg_S : Nat → Value := fun k => match k with
  | 0 => .null
  | 1 => .null
  | 2 => .null
  | 3 => .null
  | 4 => .int 0
  | 5 => .int 0
  | _ => .null
abbrev prIx_S : va_E := .inr (5, (List.range 6).map prIg_S)
def prIf_S (a1 : Nat) (u : List (Nat × ClassId)) : Nat → Value := fun k => match k with
  | 0 => .ref a1
  | 1 => .ref (pr_u u 0).1
  | 2 => .ref (pr_u u 1).1
  | 3 => .ref (pr_u u 2).1
  | 4 => .int 0
  | 5 => .int 0
  | _ => .null
def prIw_S (h0 : Nat) (a1 : Nat) (u : List (Nat × ClassId)) : va_W := (h0, .inr (5, (List.range 6).map (prIf_S a1 u))) :: ([((pr_u u 0).1, .inl ((pr_u u 0).2, (18, .inl (fun _ => 0)))), ((pr_u u 1).1, .inl ((pr_u u 1).2, (18, .inl (fun _ => 0)))), ((pr_u u 2).1, .inl ((pr_u u 2).2, (18, .inl (fun _ => 0))))] : va_W)
def prIt_S (u : List (Nat × ClassId)) : List (ClassId × FieldType) := ([((pr_u u 0).2, .int), ((pr_u u 1).2, .int), ((pr_u u 2).2, .boolean)] : List (ClassId × FieldType))
theorem prId_S : ∀ j, j < 6 → defaultValue (prq_S j) = vp_V ((List.range 6).map prIg_S) j := by decide +kernel
set_option maxHeartbeats 4000000 in
set_option maxRecDepth 100000 in
theorem prI_S {l : Launch} {D : va_G} (sz h0 : Nat) (a1 : Nat) : Met l pry_S_init (Cond.code pry_S_init prb_S_init 2 none :: pr_U) { frames := 1, cells := 3, slots := 54, locals := 64 } (prKP (fun _ => True) D pr_cl [.ref h0, .ref a1] h0 prIx_S sz) (prKQ D pr_cl h0 prIx_S sz (prIw_S h0 a1) prIt_S) 3 54 (va_A [(h0, prIx_S)] sz) := by
  refine pr_kEntry (cc := prb_S_init) (maxL := 2) (by decide) (Nat.le_of_ble_eq_true rfl) ?_
  intro p e s m args below meth c E hZ hK hsz hP hD ls hl
  subst hsz
  have hl : lv_has ls 2 [(0, .ref h0), (1, .ref a1)] := hl
  obtain ⟨hx, hb, hml, hown, hts, hr, hin, hlk⟩ := E
  have hA : ∀ q : Nat, s.heap.size ≤ q → va_A [(h0, prIx_S)] s.heap.size q := fun q h => Or.inr h
  have hS : va_S (va_A [(h0, prIx_S)] s.heap.size) s.heap s.heap [] := va_S.rf
  refine lv_aload_n hx hb prd_S_init_0 rfl (lv_at hl 0 rfl) ?_
  refine pr_kObj hx hb hown (hts _ priw_43) (hts _ priw_1) (hts _ priw_2) (hml.trans hl.1.symm) prd_S_init_1 (Nat.le_of_ble_eq_true rfl) (Nat.le_of_ble_eq_true rfl) ?_
  refine lv_aload_n hx hb prd_S_init_4 rfl (lv_at hl 0 rfl) ?_
  refine lv_bipush (v := 18) hx hb prd_S_init_5 (by decide) ?_
  refine pr_kArr (k := 1) (atype := .int) (ety := .int) (N' := 18) (a0 := (18, .inl (fun _ => 0))) hx hb hts prs_S prq_S prtt_S prtn_S hown hK hP hD hS hA rfl (by decide) (hts _ priw_44) rfl rfl hin rfl (prtt_S 1 (by decide)) (hts _ priw_6) rfl (fun _ => rfl) (by decide) (by decide) (by decide) (Nat.le_of_ble_eq_true rfl) (Nat.le_of_ble_eq_true rfl) prd_S_init_7 prd_S_init_9 (fun q1 c1 H locs hK hP hD hS => ?_)
  refine lv_aload_n hx hb prd_S_init_12 rfl (lv_at hl 0 rfl) ?_
  refine lv_bipush (v := 18) hx hb prd_S_init_13 (by decide) ?_
  refine pr_kArr (k := 2) (atype := .int) (ety := .int) (N' := 18) (a0 := (18, .inl (fun _ => 0))) hx hb hts prs_S prq_S prtt_S prtn_S hown hK hP hD hS hA rfl (by decide) (hts _ priw_45) rfl rfl hin rfl (prtt_S 2 (by decide)) (hts _ priw_6) rfl (fun _ => rfl) (by decide) (by decide) (by decide) (Nat.le_of_ble_eq_true rfl) (Nat.le_of_ble_eq_true rfl) prd_S_init_15 prd_S_init_17 (fun q2 c2 H locs hK hP hD hS => ?_)
  refine lv_aload_n hx hb prd_S_init_20 rfl (lv_at hl 0 rfl) ?_
  refine lv_bipush (v := 18) hx hb prd_S_init_21 (by decide) ?_
  refine pr_kArr (k := 3) (atype := .boolean) (ety := .boolean) (N' := 18) (a0 := (18, .inl (fun _ => 0))) hx hb hts prs_S prq_S prtt_S prtn_S hown hK hP hD hS hA rfl (by decide) (hts _ priw_46) rfl rfl hin rfl (prtt_S 3 (by decide)) (hts _ priw_14) rfl (fun _ => rfl) (by decide) (by decide) (by decide) (Nat.le_of_ble_eq_true rfl) (Nat.le_of_ble_eq_true rfl) prd_S_init_23 prd_S_init_25 (fun q3 c3 H locs hK hP hD hS => ?_)
  refine lv_aload_n hx hb prd_S_init_28 rfl (lv_at hl 0 rfl) ?_
  refine lv_aload_n hx hb prd_S_init_29 rfl (lv_at hl 1 rfl) ?_
  refine pr_kRef (k := 0) hx hb hts prs_S prq_S prtt_S prtn_S hown hK hP hD hS rfl (by decide) (hts _ priw_47) rfl rfl hin rfl (prtt_S 0 (by decide)) rfl rfl prd_S_init_30 (fun H locs hP hD hS => ?_)
  exact pr_kEnd (Wc := prIw_S h0 a1) (Tc := prIt_S) [(q1, c1), (q2, c2), (q3, c3)] hx hb hr hlk hP hK hD hS (Nat.le_of_ble_eq_true rfl) (Nat.le_of_ble_eq_true rfl) prd_S_init_33
def prIg_M : Nat → Value := fun k => match k with
  | 0 => .null
  | 1 => .null
  | 2 => .null
  | 3 => .null
  | 4 => .int 0
  | 5 => .null
  | 6 => .null
  | 7 => .null
  | 8 => .int 0
  | 9 => .int 0
  | 10 => .int 0
  | 11 => .int 0
  | 12 => .null
  | 13 => .int 0
  | _ => .null
abbrev prIx_M : va_E := .inr (7, (List.range 14).map prIg_M)
def prIf_M (a1 : Nat) (a2 : Nat) (a3 : Nat) (u : List (Nat × ClassId)) : Nat → Value := fun k => match k with
  | 0 => .ref a1
  | 1 => .ref a2
  | 2 => .ref a3
  | 3 => .ref (pr_u u 0).1
  | 4 => .int 0
  | 5 => .ref (pr_u u 1).1
  | 6 => .ref (pr_u u 2).1
  | 7 => .ref (pr_u u 3).1
  | 8 => .int 0
  | 9 => .int 0
  | 10 => .int 0
  | 11 => .int 0
  | 12 => .ref (pr_u u 4).1
  | 13 => .int 0
  | _ => .null
def prIw_M (h0 : Nat) (a1 : Nat) (a2 : Nat) (a3 : Nat) (u : List (Nat × ClassId)) : va_W := (h0, .inr (7, (List.range 14).map (prIf_M a1 a2 a3 u))) :: ([((pr_u u 0).1, .inl ((pr_u u 0).2, (400, .inl (fun _ => 0)))), ((pr_u u 1).1, .inl ((pr_u u 1).2, (12, .inl (fun _ => 0)))), ((pr_u u 2).1, .inl ((pr_u u 2).2, (6, .inl (fun _ => 0)))), ((pr_u u 3).1, .inl ((pr_u u 3).2, (384, .inl (fun _ => 0)))), ((pr_u u 4).1, .inl ((pr_u u 4).2, (256, .inl (fun _ => 0))))] : va_W)
def prIt_M (u : List (Nat × ClassId)) : List (ClassId × FieldType) := ([((pr_u u 0).2, .int), ((pr_u u 1).2, .int), ((pr_u u 2).2, .int), ((pr_u u 3).2, .int), ((pr_u u 4).2, .int)] : List (ClassId × FieldType))
theorem prId_M : ∀ j, j < 14 → defaultValue (prq_M j) = vp_V ((List.range 14).map prIg_M) j := by decide +kernel
set_option maxHeartbeats 4000000 in
set_option maxRecDepth 100000 in
theorem prI_M {l : Launch} {D : va_G} (sz h0 : Nat) (a1 : Nat) (a2 : Nat) (a3 : Nat) : Met l pry_M_init (Cond.code pry_M_init prb_M_init 4 none :: pr_U) { frames := 1, cells := 5, slots := 1058, locals := 64 } (prKP (fun _ => True) D pr_cl [.ref h0, .ref a1, .ref a2, .ref a3] h0 prIx_M sz) (prKQ D pr_cl h0 prIx_M sz (prIw_M h0 a1 a2 a3) prIt_M) 5 1058 (va_A [(h0, prIx_M)] sz) := by
  refine pr_kEntry (cc := prb_M_init) (maxL := 4) (by decide) (Nat.le_of_ble_eq_true rfl) ?_
  intro p e s m args below meth c E hZ hK hsz hP hD ls hl
  subst hsz
  have hl : lv_has ls 4 [(0, .ref h0), (1, .ref a1), (2, .ref a2), (3, .ref a3)] := hl
  obtain ⟨hx, hb, hml, hown, hts, hr, hin, hlk⟩ := E
  have hA : ∀ q : Nat, s.heap.size ≤ q → va_A [(h0, prIx_M)] s.heap.size q := fun q h => Or.inr h
  have hS : va_S (va_A [(h0, prIx_M)] s.heap.size) s.heap s.heap [] := va_S.rf
  refine lv_aload_n hx hb prd_M_init_0 rfl (lv_at hl 0 rfl) ?_
  refine pr_kObj hx hb hown (hts _ priw_48) (hts _ priw_1) (hts _ priw_2) (hml.trans hl.1.symm) prd_M_init_1 (Nat.le_of_ble_eq_true rfl) (Nat.le_of_ble_eq_true rfl) ?_
  refine lv_aload_n hx hb prd_M_init_4 rfl (lv_at hl 0 rfl) ?_
  refine lv_sipush (v := 400) hx hb prd_M_init_5 (by decide) ?_
  refine pr_kArr (k := 3) (atype := .int) (ety := .int) (N' := 400) (a0 := (400, .inl (fun _ => 0))) hx hb hts prs_M prq_M prtt_M prtn_M hown hK hP hD hS hA rfl (by decide) (hts _ priw_49) rfl rfl hin rfl (prtt_M 3 (by decide)) (hts _ priw_6) rfl (fun _ => rfl) (by decide) (by decide) (by decide) (Nat.le_of_ble_eq_true rfl) (Nat.le_of_ble_eq_true rfl) prd_M_init_8 prd_M_init_10 (fun q1 c1 H locs hK hP hD hS => ?_)
  refine lv_aload_n hx hb prd_M_init_13 rfl (lv_at hl 0 rfl) ?_
  refine lv_bipush (v := 12) hx hb prd_M_init_14 (by decide) ?_
  refine pr_kArr (k := 5) (atype := .int) (ety := .int) (N' := 12) (a0 := (12, .inl (fun _ => 0))) hx hb hts prs_M prq_M prtt_M prtn_M hown hK hP hD hS hA rfl (by decide) (hts _ priw_50) rfl rfl hin rfl (prtt_M 5 (by decide)) (hts _ priw_6) rfl (fun _ => rfl) (by decide) (by decide) (by decide) (Nat.le_of_ble_eq_true rfl) (Nat.le_of_ble_eq_true rfl) prd_M_init_16 prd_M_init_18 (fun q2 c2 H locs hK hP hD hS => ?_)
  refine lv_aload_n hx hb prd_M_init_21 rfl (lv_at hl 0 rfl) ?_
  refine lv_bipush (v := 6) hx hb prd_M_init_22 (by decide) ?_
  refine pr_kArr (k := 6) (atype := .int) (ety := .int) (N' := 6) (a0 := (6, .inl (fun _ => 0))) hx hb hts prs_M prq_M prtt_M prtn_M hown hK hP hD hS hA rfl (by decide) (hts _ priw_51) rfl rfl hin rfl (prtt_M 6 (by decide)) (hts _ priw_6) rfl (fun _ => rfl) (by decide) (by decide) (by decide) (Nat.le_of_ble_eq_true rfl) (Nat.le_of_ble_eq_true rfl) prd_M_init_24 prd_M_init_26 (fun q3 c3 H locs hK hP hD hS => ?_)
  refine lv_aload_n hx hb prd_M_init_29 rfl (lv_at hl 0 rfl) ?_
  refine lv_sipush (v := 384) hx hb prd_M_init_30 (by decide) ?_
  refine pr_kArr (k := 7) (atype := .int) (ety := .int) (N' := 384) (a0 := (384, .inl (fun _ => 0))) hx hb hts prs_M prq_M prtt_M prtn_M hown hK hP hD hS hA rfl (by decide) (hts _ priw_52) rfl rfl hin rfl (prtt_M 7 (by decide)) (hts _ priw_6) rfl (fun _ => rfl) (by decide) (by decide) (by decide) (Nat.le_of_ble_eq_true rfl) (Nat.le_of_ble_eq_true rfl) prd_M_init_33 prd_M_init_35 (fun q4 c4 H locs hK hP hD hS => ?_)
  refine lv_aload_n hx hb prd_M_init_38 rfl (lv_at hl 0 rfl) ?_
  refine lv_sipush (v := 256) hx hb prd_M_init_39 (by decide) ?_
  refine pr_kArr (k := 12) (atype := .int) (ety := .int) (N' := 256) (a0 := (256, .inl (fun _ => 0))) hx hb hts prs_M prq_M prtt_M prtn_M hown hK hP hD hS hA rfl (by decide) (hts _ priw_53) rfl rfl hin rfl (prtt_M 12 (by decide)) (hts _ priw_6) rfl (fun _ => rfl) (by decide) (by decide) (by decide) (Nat.le_of_ble_eq_true rfl) (Nat.le_of_ble_eq_true rfl) prd_M_init_42 prd_M_init_44 (fun q5 c5 H locs hK hP hD hS => ?_)
  refine lv_aload_n hx hb prd_M_init_47 rfl (lv_at hl 0 rfl) ?_
  refine lv_aload_n hx hb prd_M_init_48 rfl (lv_at hl 1 rfl) ?_
  refine pr_kRef (k := 0) hx hb hts prs_M prq_M prtt_M prtn_M hown hK hP hD hS rfl (by decide) (hts _ priw_54) rfl rfl hin rfl (prtt_M 0 (by decide)) rfl rfl prd_M_init_49 (fun H locs hP hD hS => ?_)
  refine lv_aload_n hx hb prd_M_init_52 rfl (lv_at hl 0 rfl) ?_
  refine lv_aload_n hx hb prd_M_init_53 rfl (lv_at hl 2 rfl) ?_
  refine pr_kRef (k := 1) hx hb hts prs_M prq_M prtt_M prtn_M hown hK hP hD hS rfl (by decide) (hts _ priw_55) rfl rfl hin rfl (prtt_M 1 (by decide)) rfl rfl prd_M_init_54 (fun H locs hP hD hS => ?_)
  refine lv_aload_n hx hb prd_M_init_57 rfl (lv_at hl 0 rfl) ?_
  refine lv_aload_n hx hb prd_M_init_58 rfl (lv_at hl 3 rfl) ?_
  refine pr_kRef (k := 2) hx hb hts prs_M prq_M prtt_M prtn_M hown hK hP hD hS rfl (by decide) (hts _ priw_56) rfl rfl hin rfl (prtt_M 2 (by decide)) rfl rfl prd_M_init_59 (fun H locs hP hD hS => ?_)
  exact pr_kEnd (Wc := prIw_M h0 a1 a2 a3) (Tc := prIt_M) [(q1, c1), (q2, c2), (q3, c3), (q4, c4), (q5, c5)] hx hb hr hlk hP hK hD hS (Nat.le_of_ble_eq_true rfl) (Nat.le_of_ble_eq_true rfl) prd_M_init_62
def prIg_Y : Nat → Value := fun k => match k with
  | 0 => .null
  | 1 => .null
  | 2 => .null
  | 3 => .null
  | 4 => .null
  | 5 => .null
  | 6 => .null
  | 7 => .null
  | 8 => .null
  | 9 => .int 0
  | 10 => .int 0
  | 11 => .int 0
  | 12 => .int 0
  | 13 => .int 0
  | 14 => .int 0
  | 15 => .int 0
  | _ => .null
abbrev prIx_Y : va_E := .inr (6, (List.range 16).map prIg_Y)
def prIf_Y (a1 : Nat) (a2 : Nat) (a3 : Nat) (u : List (Nat × ClassId)) : Nat → Value := fun k => match k with
  | 0 => .ref a1
  | 1 => .ref a2
  | 2 => .ref a3
  | 3 => .ref (pr_u u 5).1
  | 4 => .ref (pr_u u 0).1
  | 5 => .ref (pr_u u 1).1
  | 6 => .ref (pr_u u 2).1
  | 7 => .ref (pr_u u 3).1
  | 8 => .ref (pr_u u 4).1
  | 9 => .int 0
  | 10 => .int 0
  | 11 => .int 0
  | 12 => .int 0
  | 13 => .int 0
  | 14 => .int 0
  | 15 => .int 0
  | _ => .null
def prIw_Y (h0 : Nat) (a1 : Nat) (a2 : Nat) (a3 : Nat) (u : List (Nat × ClassId)) : va_W := (h0, .inr (6, (List.range 16).map (prIf_Y a1 a2 a3 u))) :: (List.append ([((pr_u u 0).1, .inl ((pr_u u 0).2, (250, .inl (fun _ => 0)))), ((pr_u u 1).1, .inl ((pr_u u 1).2, (250, .inl (fun _ => 0)))), ((pr_u u 2).1, .inl ((pr_u u 2).2, (250, .inl (fun _ => 0)))), ((pr_u u 3).1, .inl ((pr_u u 3).2, (250, .inl (fun _ => 0)))), ((pr_u u 4).1, .inl ((pr_u u 4).2, (250, .inl (fun _ => 0))))] : va_W) (prIw_S (pr_u u 5).1 a1 (pr_us u 6)))
def prIt_Y (u : List (Nat × ClassId)) : List (ClassId × FieldType) := (List.append ([((pr_u u 0).2, .int), ((pr_u u 1).2, .int), ((pr_u u 2).2, .int), ((pr_u u 3).2, .int), ((pr_u u 4).2, .int)] : List (ClassId × FieldType)) (prIt_S (pr_us u 6)))
theorem prId_Y : ∀ j, j < 16 → defaultValue (prq_Y j) = vp_V ((List.range 16).map prIg_Y) j := by decide +kernel
set_option maxHeartbeats 4000000 in
set_option maxRecDepth 100000 in
theorem prI_Y {l : Launch} {D : va_G} (sz h0 : Nat) (a1 : Nat) (a2 : Nat) (a3 : Nat) : Met l pry_Y_init (Cond.code pry_Y_init prb_Y_init 4 none :: pr_U) { frames := 2, cells := 9, slots := 1310, locals := 128 } (prKP (fun _ => True) D pr_cl [.ref h0, .ref a1, .ref a2, .ref a3] h0 prIx_Y sz) (prKQ D pr_cl h0 prIx_Y sz (prIw_Y h0 a1 a2 a3) prIt_Y) 9 1310 (va_A [(h0, prIx_Y)] sz) := by
  refine pr_kEntry (cc := prb_Y_init) (maxL := 4) (by decide) (Nat.le_of_ble_eq_true rfl) ?_
  intro p e s m args below meth c E hZ hK hsz hP hD ls hl
  subst hsz
  have hl : lv_has ls 4 [(0, .ref h0), (1, .ref a1), (2, .ref a2), (3, .ref a3)] := hl
  obtain ⟨hx, hb, hml, hown, hts, hr, hin, hlk⟩ := E
  have hA : ∀ q : Nat, s.heap.size ≤ q → va_A [(h0, prIx_Y)] s.heap.size q := fun q h => Or.inr h
  have hS : va_S (va_A [(h0, prIx_Y)] s.heap.size) s.heap s.heap [] := va_S.rf
  refine lv_aload_n hx hb prd_Y_init_0 rfl (lv_at hl 0 rfl) ?_
  refine pr_kObj hx hb hown (hts _ priw_57) (hts _ priw_1) (hts _ priw_2) (hml.trans hl.1.symm) prd_Y_init_1 (Nat.le_of_ble_eq_true rfl) (Nat.le_of_ble_eq_true rfl) ?_
  refine lv_aload_n hx hb prd_Y_init_4 rfl (lv_at hl 0 rfl) ?_
  refine lv_sipush (v := 250) hx hb prd_Y_init_5 (by decide) ?_
  refine pr_kArr (k := 4) (atype := .int) (ety := .int) (N' := 250) (a0 := (250, .inl (fun _ => 0))) hx hb hts prs_Y prq_Y prtt_Y prtn_Y hown hK hP hD hS hA rfl (by decide) (hts _ priw_58) rfl rfl hin rfl (prtt_Y 4 (by decide)) (hts _ priw_6) rfl (fun _ => rfl) (by decide) (by decide) (by decide) (Nat.le_of_ble_eq_true rfl) (Nat.le_of_ble_eq_true rfl) prd_Y_init_8 prd_Y_init_10 (fun q1 c1 H locs hK hP hD hS => ?_)
  refine lv_aload_n hx hb prd_Y_init_13 rfl (lv_at hl 0 rfl) ?_
  refine lv_sipush (v := 250) hx hb prd_Y_init_14 (by decide) ?_
  refine pr_kArr (k := 5) (atype := .int) (ety := .int) (N' := 250) (a0 := (250, .inl (fun _ => 0))) hx hb hts prs_Y prq_Y prtt_Y prtn_Y hown hK hP hD hS hA rfl (by decide) (hts _ priw_59) rfl rfl hin rfl (prtt_Y 5 (by decide)) (hts _ priw_6) rfl (fun _ => rfl) (by decide) (by decide) (by decide) (Nat.le_of_ble_eq_true rfl) (Nat.le_of_ble_eq_true rfl) prd_Y_init_17 prd_Y_init_19 (fun q2 c2 H locs hK hP hD hS => ?_)
  refine lv_aload_n hx hb prd_Y_init_22 rfl (lv_at hl 0 rfl) ?_
  refine lv_sipush (v := 250) hx hb prd_Y_init_23 (by decide) ?_
  refine pr_kArr (k := 6) (atype := .int) (ety := .int) (N' := 250) (a0 := (250, .inl (fun _ => 0))) hx hb hts prs_Y prq_Y prtt_Y prtn_Y hown hK hP hD hS hA rfl (by decide) (hts _ priw_60) rfl rfl hin rfl (prtt_Y 6 (by decide)) (hts _ priw_6) rfl (fun _ => rfl) (by decide) (by decide) (by decide) (Nat.le_of_ble_eq_true rfl) (Nat.le_of_ble_eq_true rfl) prd_Y_init_26 prd_Y_init_28 (fun q3 c3 H locs hK hP hD hS => ?_)
  refine lv_aload_n hx hb prd_Y_init_31 rfl (lv_at hl 0 rfl) ?_
  refine lv_sipush (v := 250) hx hb prd_Y_init_32 (by decide) ?_
  refine pr_kArr (k := 7) (atype := .int) (ety := .int) (N' := 250) (a0 := (250, .inl (fun _ => 0))) hx hb hts prs_Y prq_Y prtt_Y prtn_Y hown hK hP hD hS hA rfl (by decide) (hts _ priw_61) rfl rfl hin rfl (prtt_Y 7 (by decide)) (hts _ priw_6) rfl (fun _ => rfl) (by decide) (by decide) (by decide) (Nat.le_of_ble_eq_true rfl) (Nat.le_of_ble_eq_true rfl) prd_Y_init_35 prd_Y_init_37 (fun q4 c4 H locs hK hP hD hS => ?_)
  refine lv_aload_n hx hb prd_Y_init_40 rfl (lv_at hl 0 rfl) ?_
  refine lv_sipush (v := 250) hx hb prd_Y_init_41 (by decide) ?_
  refine pr_kArr (k := 8) (atype := .int) (ety := .int) (N' := 250) (a0 := (250, .inl (fun _ => 0))) hx hb hts prs_Y prq_Y prtt_Y prtn_Y hown hK hP hD hS hA rfl (by decide) (hts _ priw_62) rfl rfl hin rfl (prtt_Y 8 (by decide)) (hts _ priw_6) rfl (fun _ => rfl) (by decide) (by decide) (by decide) (Nat.le_of_ble_eq_true rfl) (Nat.le_of_ble_eq_true rfl) prd_Y_init_44 prd_Y_init_46 (fun q5 c5 H locs hK hP hD hS => ?_)
  refine lv_aload_n hx hb prd_Y_init_49 rfl (lv_at hl 0 rfl) ?_
  refine lv_aload_n hx hb prd_Y_init_50 rfl (lv_at hl 1 rfl) ?_
  refine pr_kRef (k := 0) hx hb hts prs_Y prq_Y prtt_Y prtn_Y hown hK hP hD hS rfl (by decide) (hts _ priw_63) rfl rfl hin rfl (prtt_Y 0 (by decide)) rfl rfl prd_Y_init_51 (fun H locs hP hD hS => ?_)
  refine lv_aload_n hx hb prd_Y_init_54 rfl (lv_at hl 0 rfl) ?_
  refine lv_aload_n hx hb prd_Y_init_55 rfl (lv_at hl 2 rfl) ?_
  refine pr_kRef (k := 1) hx hb hts prs_Y prq_Y prtt_Y prtn_Y hown hK hP hD hS rfl (by decide) (hts _ priw_64) rfl rfl hin rfl (prtt_Y 1 (by decide)) rfl rfl prd_Y_init_56 (fun H locs hP hD hS => ?_)
  refine lv_aload_n hx hb prd_Y_init_59 rfl (lv_at hl 0 rfl) ?_
  refine lv_aload_n hx hb prd_Y_init_60 rfl (lv_at hl 3 rfl) ?_
  refine pr_kRef (k := 2) hx hb hts prs_Y prq_Y prtt_Y prtn_Y hown hK hP hD hS rfl (by decide) (hts _ priw_65) rfl rfl hin rfl (prtt_Y 2 (by decide)) rfl rfl prd_Y_init_61 (fun H locs hP hD hS => ?_)
  refine lv_aload_n hx hb prd_Y_init_64 rfl (lv_at hl 0 rfl) ?_
  refine va_new (ci := 5) (fs := (List.range 6).map prIg_S) hx hb hts prs_S prq_S prtt_S hown (hts _ priw_66) (hts _ priw_67) (hts _ priw_68) hK hP hD hS hA rfl prId_S (Nat.le_of_ble_eq_true rfl) (Nat.le_of_ble_eq_true rfl) prd_Y_init_65 (fun q6 H hP hD hS => ?_)
  refine lv_dup hx hb prd_Y_init_68 rfl ?_
  refine lv_aload_n hx hb prd_Y_init_69 rfl (lv_at hl 1 rfl) ?_
  refine pr_kCtor (As := [.ref a1]) (Wc := prIw_S q6 a1) (Tc := prIt_S) (va_runI (As := [.ref a1]) (rest := [.ref q6, .ref h0]) ⟨hx, hb, hml, hown, hts⟩ (prI_S (l := l) (D := D) H.size q6 a1) (cwI 1 hts (pr_goodIn (fun w hw => by rcases List.mem_cons.mp hw with e | e; exact e ▸ priw_69; exact e)) rfl rfl rfl (hts _ priw_68) (hts _ priw_71) (hts _ priw_70) rfl (by decide +kernel) ⟨Nat.le_of_ble_eq_true rfl, Nat.le_of_ble_eq_true rfl⟩) ⟨pr_kBlind (fun _ _ _ _ h => h), fun U hU hW => ⟨rfl, trivial, by rw [hU], by rw [hU]; exact hP.sub [6] rfl, va_K.moved hW.alike (hK.sub [] rfl), (hD.sub [6] (by decide) rfl).weaken (fun _ _ _ _ => trivial)⟩⟩ rfl rfl hl.1 rfl (lv_room (Nat.le_of_ble_eq_true rfl)) prd_Y_init_70 ⟨Nat.le_of_ble_eq_true rfl, Nat.le_of_ble_eq_true rfl⟩) hK hP hD hS hA (fun u7 H locs hK hP hD hS => ?_)
  refine pr_kRef (k := 3) hx hb hts prs_Y prq_Y prtt_Y prtn_Y hown hK hP hD hS rfl (by decide) (hts _ priw_72) rfl rfl hin rfl (prtt_Y 3 (by decide)) rfl rfl prd_Y_init_73 (fun H locs hP hD hS => ?_)
  exact pr_kEnd (Wc := prIw_Y h0 a1 a2 a3) (Tc := prIt_Y) [(q1, c1), (q2, c2), (q3, c3), (q4, c4), (q5, c5), (q6, 0), (pr_u u7 0), (pr_u u7 1), (pr_u u7 2)] hx hb hr hlk hP hK hD hS (Nat.le_of_ble_eq_true rfl) (Nat.le_of_ble_eq_true rfl) prd_Y_init_76
def prIg_P : Nat → Value := fun k => match k with
  | 0 => .null
  | 1 => .null
  | 2 => .null
  | 3 => .null
  | 4 => .null
  | 5 => .int 0
  | 6 => .int 0
  | 7 => .int 0
  | _ => .null
abbrev prIx_P : va_E := .inr (0, (List.range 8).map prIg_P)
def prIf_P  (u : List (Nat × List (Nat × ClassId))) : Nat → Value := fun k => match k with
  | 0 => .ref (pr_v u 1).1
  | 1 => .ref (pr_v u 2).1
  | 2 => .ref (pr_v u 3).1
  | 3 => .ref (pr_v u 4).1
  | 4 => .ref (pr_v u 5).1
  | 5 => .int 0
  | 6 => .int 0
  | 7 => .int 0
  | _ => .null
def prIw_P (h0 : Nat)  (u : List (Nat × List (Nat × ClassId))) : va_W := (h0, .inr (0, (List.range 8).map (prIf_P  u))) :: (List.append (List.append (List.append (List.append (List.append (List.append [] (prIw_G (pr_v u 0).1 (pr_v u 0).2)) (prIw_T (pr_v u 1).1 (pr_v u 1).2)) (prIw_R (pr_v u 2).1 (pr_v u 1).1 (pr_v u 0).1 (pr_v u 2).2)) (prIw_O (pr_v u 3).1 (pr_v u 3).2)) (prIw_Y (pr_v u 4).1 (pr_v u 1).1 (pr_v u 0).1 (pr_v u 3).1 (pr_v u 4).2)) (prIw_M (pr_v u 5).1 (pr_v u 1).1 (pr_v u 0).1 (pr_v u 3).1 (pr_v u 5).2))
def prIt_P (u : List (Nat × List (Nat × ClassId))) : List (ClassId × FieldType) := (List.append (List.append (List.append (List.append (List.append (List.append [] (prIt_G (pr_v u 0).2)) (prIt_T (pr_v u 1).2)) (prIt_R (pr_v u 2).2)) (prIt_O (pr_v u 3).2)) (prIt_Y (pr_v u 4).2)) (prIt_M (pr_v u 5).2))
def prIZ (U : State) : Prop := va_Nw (.methodLinkNest "ProgramRuns" 11 pry_G_init "ProgramRuns") U ∧ va_Nw (.methodLinkNest "ProgramRuns" 14 pry_T_init "ProgramRuns") U ∧ va_Nw (.methodLinkNest "ProgramRuns" 30 pry_O_init "ProgramRuns") U
theorem prId_P : ∀ j, j < 8 → defaultValue (prq_P j) = vp_V ((List.range 8).map prIg_P) j := by decide +kernel
set_option maxHeartbeats 4000000 in
set_option maxRecDepth 100000 in
theorem prI_P {l : Launch} {D : va_G} (sz h0 : Nat)  : Met l pry_P_init (Cond.code pry_P_init prb_P_init 2 none :: pr_U) { frames := 3, cells := 51, slots := 76396, locals := 192 } (prKP prIZ D pr_cl [.ref h0] h0 prIx_P sz) (prKQ D pr_cl h0 prIx_P sz (prIw_P h0 ) prIt_P) 51 76396 (va_A [(h0, prIx_P)] sz) := by
  refine pr_kEntry (cc := prb_P_init) (maxL := 2) (by decide) (Nat.le_of_ble_eq_true rfl) ?_
  intro p e s m args below meth c E hZ hK hsz hP hD ls hl
  subst hsz
  have hl : lv_has ls 2 [(0, .ref h0)] := hl
  obtain ⟨hx, hb, hml, hown, hts, hr, hin, hlk⟩ := E
  have hA : ∀ q : Nat, s.heap.size ≤ q → va_A [(h0, prIx_P)] s.heap.size q := fun q h => Or.inr h
  have hS : va_S (va_A [(h0, prIx_P)] s.heap.size) s.heap s.heap [] := va_S.rf
  refine lv_aload_n hx hb prd_P_init_0 rfl (lv_at hl 0 rfl) ?_
  refine pr_kObj hx hb hown (hts _ priw_73) (hts _ priw_1) (hts _ priw_2) (hml.trans hl.1.symm) prd_P_init_1 (Nat.le_of_ble_eq_true rfl) (Nat.le_of_ble_eq_true rfl) ?_
  refine va_new (ci := 2) (fs := (List.range 16).map prIg_G) hx hb hts prs_G prq_G prtt_G hown (hts _ priw_74) (hts _ priw_75) (hts _ priw_76) hK hP hD hS hA rfl prId_G (Nat.le_of_ble_eq_true rfl) (Nat.le_of_ble_eq_true rfl) prd_P_init_4 (fun q1 H hP hD hS => ?_)
  refine lv_dup hx hb prd_P_init_7 rfl ?_
  refine pr_kCtor (As := []) (Wc := prIw_G q1 ) (Tc := prIt_G) (va_runIN (As := []) (rest := [.ref q1]) ⟨hx, hb, hml, hown, hts⟩ (prI_G (l := l) (D := D) H.size q1 ) ⟨va_cnB 0 hts (pr_goodIn (fun w hw => by rcases List.mem_cons.mp hw with e | e; exact e ▸ priw_77; exact e)) rfl rfl rfl hZ.1 (hts _ priw_76) (by decide +kernel) ⟨Nat.le_of_ble_eq_true rfl, Nat.le_of_ble_eq_true rfl⟩, rfl, (hts _ priw_78)⟩ ⟨pr_kBlind (fun _ _ _ _ h => h), fun U hU hW => ⟨rfl, trivial, by rw [hU], by rw [hU]; exact hP.sub [1] rfl, va_K.moved hW.alike (hK.sub [] rfl), (hD.sub [1] (by decide) rfl).weaken (fun _ _ _ _ => trivial)⟩⟩ rfl rfl hl.1 rfl (lv_room (Nat.le_of_ble_eq_true rfl)) prd_P_init_8 ⟨Nat.le_of_ble_eq_true rfl, Nat.le_of_ble_eq_true rfl⟩) hK hP hD hS hA (fun u2 H locs hK hP hD hS => ?_)
  refine lv_astore_n (lv' := [(1, .ref q1), (0, .ref h0)]) hx hb prd_P_init_11 rfl hl (by decide) rfl (fun ls hl => ?_)
  refine lv_aload_n hx hb prd_P_init_12 rfl (lv_at hl 1 rfl) ?_
  refine va_new (ci := 1) (fs := (List.range 7).map prIg_T) hx hb hts prs_T prq_T prtt_T hown (hts _ priw_79) (hts _ priw_80) (hts _ priw_81) hK hP hD hS hA rfl prId_T (Nat.le_of_ble_eq_true rfl) (Nat.le_of_ble_eq_true rfl) prd_P_init_13 (fun q3 H hP hD hS => ?_)
  refine lv_dup hx hb prd_P_init_16 rfl ?_
  refine pr_kCtor (As := []) (Wc := prIw_T q3 ) (Tc := prIt_T) (va_runIN (As := []) (rest := [.ref q3, .ref h0]) ⟨hx, hb, hml, hown, hts⟩ (prI_T (l := l) (D := D) H.size q3 ) ⟨va_cnB 0 hts (pr_goodIn (fun w hw => by rcases List.mem_cons.mp hw with e | e; exact e ▸ priw_82; exact e)) rfl rfl rfl hZ.2.1 (hts _ priw_81) (by decide +kernel) ⟨Nat.le_of_ble_eq_true rfl, Nat.le_of_ble_eq_true rfl⟩, rfl, (hts _ priw_83)⟩ ⟨pr_kBlind (fun _ _ _ _ h => h), fun U hU hW => ⟨rfl, trivial, by rw [hU], by rw [hU]; exact hP.sub [15] rfl, va_K.moved hW.alike (hK.sub [] rfl), (hD.sub [15] (by decide) rfl).weaken (fun _ _ _ _ => trivial)⟩⟩ rfl rfl hl.1 rfl (lv_room (Nat.le_of_ble_eq_true rfl)) prd_P_init_17 ⟨Nat.le_of_ble_eq_true rfl, Nat.le_of_ble_eq_true rfl⟩) hK hP hD hS hA (fun u4 H locs hK hP hD hS => ?_)
  refine pr_kRef (k := 0) hx hb hts prs_P prq_P prtt_P prtn_P hown hK hP hD hS rfl (by decide) (hts _ priw_84) rfl rfl hin rfl (prtt_P 0 (by decide)) rfl rfl prd_P_init_20 (fun H locs hP hD hS => ?_)
  refine lv_aload_n hx hb prd_P_init_23 rfl (lv_at hl 1 rfl) ?_
  refine va_new (ci := 3) (fs := (List.range 4).map prIg_R) hx hb hts prs_R prq_R prtt_R hown (hts _ priw_85) (hts _ priw_86) (hts _ priw_87) hK hP hD hS hA rfl prId_R (Nat.le_of_ble_eq_true rfl) (Nat.le_of_ble_eq_true rfl) prd_P_init_24 (fun q5 H hP hD hS => ?_)
  refine lv_dup hx hb prd_P_init_27 rfl ?_
  refine lv_aload_n hx hb prd_P_init_28 rfl (lv_at hl 1 rfl) ?_
  refine va_get (v := .ref q3) hx hb hts prs_P hown hK hP 0 rfl rfl 0 (by decide) (hts _ priw_84) (fun _ h => h) rfl prd_P_init_29 ?_
  refine lv_aload_n hx hb prd_P_init_32 rfl (lv_at hl 0 rfl) ?_
  refine pr_kCtor (As := [.ref q3, .ref q1]) (Wc := prIw_R q5 q3 q1) (Tc := prIt_R) (va_runI (As := [.ref q3, .ref q1]) (rest := [.ref q5, .ref h0]) ⟨hx, hb, hml, hown, hts⟩ (prI_R (l := l) (D := D) H.size q5 q3 q1) (cwI 2 hts (pr_goodIn (fun w hw => by rcases List.mem_cons.mp hw with e | e; exact e ▸ priw_88; exact e)) rfl rfl rfl (hts _ priw_87) (hts _ priw_90) (hts _ priw_89) rfl (by decide +kernel) ⟨Nat.le_of_ble_eq_true rfl, Nat.le_of_ble_eq_true rfl⟩) ⟨pr_kBlind (fun _ _ _ _ h => h), fun U hU hW => ⟨rfl, trivial, by rw [hU], by rw [hU]; exact hP.sub [20] rfl, va_K.moved hW.alike (hK.sub [] rfl), (hD.sub [20] (by decide) rfl).weaken (fun _ _ _ _ => trivial)⟩⟩ rfl rfl hl.1 rfl (lv_room (Nat.le_of_ble_eq_true rfl)) prd_P_init_33 ⟨Nat.le_of_ble_eq_true rfl, Nat.le_of_ble_eq_true rfl⟩) hK hP hD hS hA (fun u6 H locs hK hP hD hS => ?_)
  refine pr_kRef (k := 1) hx hb hts prs_P prq_P prtt_P prtn_P hown hK hP hD hS rfl (by decide) (hts _ priw_91) rfl rfl hin rfl (prtt_P 1 (by decide)) rfl rfl prd_P_init_36 (fun H locs hP hD hS => ?_)
  refine lv_aload_n hx hb prd_P_init_39 rfl (lv_at hl 1 rfl) ?_
  refine va_new (ci := 4) (fs := (List.range 15).map prIg_O) hx hb hts prs_O prq_O prtt_O hown (hts _ priw_92) (hts _ priw_93) (hts _ priw_94) hK hP hD hS hA rfl prId_O (Nat.le_of_ble_eq_true rfl) (Nat.le_of_ble_eq_true rfl) prd_P_init_40 (fun q7 H hP hD hS => ?_)
  refine lv_dup hx hb prd_P_init_43 rfl ?_
  refine pr_kCtor (As := []) (Wc := prIw_O q7 ) (Tc := prIt_O) (va_runIN (As := []) (rest := [.ref q7, .ref h0]) ⟨hx, hb, hml, hown, hts⟩ (prI_O (l := l) (D := D) H.size q7 ) ⟨va_cnB 0 hts (pr_goodIn (fun w hw => by rcases List.mem_cons.mp hw with e | e; exact e ▸ priw_95; exact e)) rfl rfl rfl hZ.2.2 (hts _ priw_94) (by decide +kernel) ⟨Nat.le_of_ble_eq_true rfl, Nat.le_of_ble_eq_true rfl⟩, rfl, (hts _ priw_96)⟩ ⟨pr_kBlind (fun _ _ _ _ h => h), fun U hU hW => ⟨rfl, trivial, by rw [hU], by rw [hU]; exact hP.sub [21] rfl, va_K.moved hW.alike (hK.sub [] rfl), (hD.sub [21] (by decide) rfl).weaken (fun _ _ _ _ => trivial)⟩⟩ rfl rfl hl.1 rfl (lv_room (Nat.le_of_ble_eq_true rfl)) prd_P_init_44 ⟨Nat.le_of_ble_eq_true rfl, Nat.le_of_ble_eq_true rfl⟩) hK hP hD hS hA (fun u8 H locs hK hP hD hS => ?_)
  refine pr_kRef (k := 2) hx hb hts prs_P prq_P prtt_P prtn_P hown hK hP hD hS rfl (by decide) (hts _ priw_97) rfl rfl hin rfl (prtt_P 2 (by decide)) rfl rfl prd_P_init_47 (fun H locs hP hD hS => ?_)
  refine lv_aload_n hx hb prd_P_init_50 rfl (lv_at hl 1 rfl) ?_
  refine va_new (ci := 6) (fs := (List.range 16).map prIg_Y) hx hb hts prs_Y prq_Y prtt_Y hown (hts _ priw_98) (hts _ priw_99) (hts _ priw_100) hK hP hD hS hA rfl prId_Y (Nat.le_of_ble_eq_true rfl) (Nat.le_of_ble_eq_true rfl) prd_P_init_51 (fun q9 H hP hD hS => ?_)
  refine lv_dup hx hb prd_P_init_54 rfl ?_
  refine lv_aload_n hx hb prd_P_init_55 rfl (lv_at hl 1 rfl) ?_
  refine va_get (v := .ref q3) hx hb hts prs_P hown hK hP 0 rfl rfl 0 (by decide) (hts _ priw_84) (fun _ h => h) rfl prd_P_init_56 ?_
  refine lv_aload_n hx hb prd_P_init_59 rfl (lv_at hl 0 rfl) ?_
  refine lv_aload_n hx hb prd_P_init_60 rfl (lv_at hl 1 rfl) ?_
  refine va_get (v := .ref q7) hx hb hts prs_P hown hK hP 0 rfl rfl 2 (by decide) (hts _ priw_97) (fun _ h => h) rfl prd_P_init_61 ?_
  refine pr_kCtor (As := [.ref q3, .ref q1, .ref q7]) (Wc := prIw_Y q9 q3 q1 q7) (Tc := prIt_Y) (va_runI (As := [.ref q3, .ref q1, .ref q7]) (rest := [.ref q9, .ref h0]) ⟨hx, hb, hml, hown, hts⟩ (prI_Y (l := l) (D := D) H.size q9 q3 q1 q7) (cwI 3 hts (pr_goodIn (fun w hw => by rcases List.mem_cons.mp hw with e | e; exact e ▸ priw_101; exact e)) rfl rfl rfl (hts _ priw_100) (hts _ priw_103) (hts _ priw_102) rfl (by decide +kernel) ⟨Nat.le_of_ble_eq_true rfl, Nat.le_of_ble_eq_true rfl⟩) ⟨pr_kBlind (fun _ _ _ _ h => h), fun U hU hW => ⟨rfl, trivial, by rw [hU], by rw [hU]; exact hP.sub [36] rfl, va_K.moved hW.alike (hK.sub [] rfl), (hD.sub [36] (by decide) rfl).weaken (fun _ _ _ _ => trivial)⟩⟩ rfl rfl hl.1 rfl (lv_room (Nat.le_of_ble_eq_true rfl)) prd_P_init_64 ⟨Nat.le_of_ble_eq_true rfl, Nat.le_of_ble_eq_true rfl⟩) hK hP hD hS hA (fun u10 H locs hK hP hD hS => ?_)
  refine pr_kRef (k := 3) hx hb hts prs_P prq_P prtt_P prtn_P hown hK hP hD hS rfl (by decide) (hts _ priw_104) rfl rfl hin rfl (prtt_P 3 (by decide)) rfl rfl prd_P_init_67 (fun H locs hP hD hS => ?_)
  refine lv_aload_n hx hb prd_P_init_70 rfl (lv_at hl 1 rfl) ?_
  refine va_new (ci := 7) (fs := (List.range 14).map prIg_M) hx hb hts prs_M prq_M prtt_M hown (hts _ priw_105) (hts _ priw_106) (hts _ priw_107) hK hP hD hS hA rfl prId_M (Nat.le_of_ble_eq_true rfl) (Nat.le_of_ble_eq_true rfl) prd_P_init_71 (fun q11 H hP hD hS => ?_)
  refine lv_dup hx hb prd_P_init_74 rfl ?_
  refine lv_aload_n hx hb prd_P_init_75 rfl (lv_at hl 1 rfl) ?_
  refine va_get (v := .ref q3) hx hb hts prs_P hown hK hP 0 rfl rfl 0 (by decide) (hts _ priw_84) (fun _ h => h) rfl prd_P_init_76 ?_
  refine lv_aload_n hx hb prd_P_init_79 rfl (lv_at hl 0 rfl) ?_
  refine lv_aload_n hx hb prd_P_init_80 rfl (lv_at hl 1 rfl) ?_
  refine va_get (v := .ref q7) hx hb hts prs_P hown hK hP 0 rfl rfl 2 (by decide) (hts _ priw_97) (fun _ h => h) rfl prd_P_init_81 ?_
  refine pr_kCtor (As := [.ref q3, .ref q1, .ref q7]) (Wc := prIw_M q11 q3 q1 q7) (Tc := prIt_M) (va_runI (As := [.ref q3, .ref q1, .ref q7]) (rest := [.ref q11, .ref h0]) ⟨hx, hb, hml, hown, hts⟩ (prI_M (l := l) (D := D) H.size q11 q3 q1 q7) (cwI 3 hts (pr_goodIn (fun w hw => by rcases List.mem_cons.mp hw with e | e; exact e ▸ priw_108; exact e)) rfl rfl rfl (hts _ priw_107) (hts _ priw_110) (hts _ priw_109) rfl (by decide +kernel) ⟨Nat.le_of_ble_eq_true rfl, Nat.le_of_ble_eq_true rfl⟩) ⟨pr_kBlind (fun _ _ _ _ h => h), fun U hU hW => ⟨rfl, trivial, by rw [hU], by rw [hU]; exact hP.sub [46] rfl, va_K.moved hW.alike (hK.sub [] rfl), (hD.sub [46] (by decide) rfl).weaken (fun _ _ _ _ => trivial)⟩⟩ rfl rfl hl.1 rfl (lv_room (Nat.le_of_ble_eq_true rfl)) prd_P_init_84 ⟨Nat.le_of_ble_eq_true rfl, Nat.le_of_ble_eq_true rfl⟩) hK hP hD hS hA (fun u12 H locs hK hP hD hS => ?_)
  refine pr_kRef (k := 4) hx hb hts prs_P prq_P prtt_P prtn_P hown hK hP hD hS rfl (by decide) (hts _ priw_111) rfl rfl hin rfl (prtt_P 4 (by decide)) rfl rfl prd_P_init_87 (fun H locs hP hD hS => ?_)
  exact pr_kEnd (Wc := prIw_P h0 ) (Tc := prIt_P) [(q1, u2), (q3, u4), (q5, u6), (q7, u8), (q9, u10), (q11, u12)] hx hb hr hlk hP hK hD hS (Nat.le_of_ble_eq_true rfl) (Nat.le_of_ble_eq_true rfl) prd_P_init_90
