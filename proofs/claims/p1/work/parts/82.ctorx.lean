/-! THE REFERENCE's CONSTRUCTOR, printed by wip/whole/gen/mkctor.py -/
theorem prjw_0 : (Cond.methodLink prn_X 1 Lib.objectInit) ∈ pr_U := pr_inU (lw_in5 (List.mem_of_getElem? (i := 119) rfl)) rfl
theorem prjw_1 : (Cond.instanceMethod Lib.objectInit) ∈ pr_U := pr_inU (lw_in1 (List.mem_of_getElem? (i := 21) rfl)) rfl
theorem prjw_2 : (Cond.code Lib.objectInit ⟨#[0xb1]⟩ 1 none) ∈ pr_U := pr_inU (lw_in1 (List.mem_of_getElem? (i := 22) rfl)) rfl
theorem prjw_3 : (Cond.arrayClass .int) ∈ pr_U := pr_inU (lw_in1 (List.mem_of_getElem? (i := 78) rfl)) rfl
theorem prjw_4 : (Cond.fieldLink prn_X 9 prn_X "bytes" "[I") ∈ pr_U := pr_inU (lw_in5 (List.mem_of_getElem? (i := 135) rfl)) rfl
theorem prjw_5 : (Cond.fieldLink prn_X 13 prn_X "token" "[I") ∈ pr_U := pr_inU (lw_in5 (List.mem_of_getElem? (i := 138) rfl)) rfl
theorem prjw_6 : (Cond.fieldLink prn_X 16 prn_X "place" "[I") ∈ pr_U := pr_inU (lw_in5 (List.mem_of_getElem? (i := 139) rfl)) rfl
theorem prjw_7 : (Cond.fieldLink prn_X 19 prn_X "length" "[I") ∈ pr_U := pr_inU (lw_in5 (List.mem_of_getElem? (i := 140) rfl)) rfl
theorem prjw_8 : (Cond.fieldLink prn_X 22 prn_X "fault" "I") ∈ pr_U := pr_inU (lw_in5 (List.mem_of_getElem? (i := 144) rfl)) rfl
theorem prjw_9 : (Cond.fieldLink prn_X 26 prn_X "kindOf" "[I") ∈ pr_U := pr_inU (lw_in5 (List.mem_of_getElem? (i := 145) rfl)) rfl
theorem prjw_10 : (Cond.fieldLink prn_X 29 prn_X "placeOf" "[I") ∈ pr_U := pr_inU (lw_in5 (List.mem_of_getElem? (i := 146) rfl)) rfl
theorem prjw_11 : (Cond.fieldLink prn_X 32 prn_X "valueOf" "[I") ∈ pr_U := pr_inU (lw_in5 (List.mem_of_getElem? (i := 147) rfl)) rfl
theorem prjw_12 : (Cond.fieldLink prn_X 35 prn_X "firstOf" "[I") ∈ pr_U := pr_inU (lw_in5 (List.mem_of_getElem? (i := 148) rfl)) rfl
theorem prjw_13 : (Cond.fieldLink prn_X 38 prn_X "lastOf" "[I") ∈ pr_U := pr_inU (lw_in5 (List.mem_of_getElem? (i := 149) rfl)) rfl
theorem prjw_14 : (Cond.fieldLink prn_X 41 prn_X "nextOf" "[I") ∈ pr_U := pr_inU (lw_in5 (List.mem_of_getElem? (i := 150) rfl)) rfl
theorem prjw_15 : (Cond.fieldLink prn_X 44 prn_X "pile" "[I") ∈ pr_U := pr_inU (lw_in5 (List.mem_of_getElem? (i := 152) rfl)) rfl
theorem prjw_16 : (Cond.fieldLink prn_X 47 prn_X "kind" "[I") ∈ pr_U := pr_inU (lw_in5 (List.mem_of_getElem? (i := 153) rfl)) rfl
theorem prjw_17 : (Cond.fieldLink prn_X 50 prn_X "where" "[I") ∈ pr_U := pr_inU (lw_in5 (List.mem_of_getElem? (i := 154) rfl)) rfl
theorem prjw_18 : (Cond.fieldLink prn_X 53 prn_X "value" "[I") ∈ pr_U := pr_inU (lw_in5 (List.mem_of_getElem? (i := 155) rfl)) rfl
theorem prjw_19 : (Cond.fieldLink prn_X 56 prn_X "whole" "[I") ∈ pr_U := pr_inU (lw_in5 (List.mem_of_getElem? (i := 156) rfl)) rfl
theorem prjw_20 : (Cond.fieldLink prn_X 59 prn_X "sizes" "[I") ∈ pr_U := pr_inU (lw_in5 (List.mem_of_getElem? (i := 157) rfl)) rfl
theorem prjw_21 : (Cond.fieldLink prn_X 62 prn_X "letters" "[I") ∈ pr_U := pr_inU (lw_in5 (List.mem_of_getElem? (i := 159) rfl)) rfl
theorem prjw_22 : (Cond.fieldLink prn_X 65 prn_X "starts" "[I") ∈ pr_U := pr_inU (lw_in5 (List.mem_of_getElem? (i := 160) rfl)) rfl
theorem prjw_23 : (Cond.fieldLink prn_X 68 prn_X "node" "[I") ∈ pr_U := pr_inU (lw_in5 (List.mem_of_getElem? (i := 162) rfl)) rfl
theorem prjw_24 : (Cond.fieldLink prn_X 71 prn_X "owner" "[I") ∈ pr_U := pr_inU (lw_in5 (List.mem_of_getElem? (i := 163) rfl)) rfl
theorem prjw_25 : (Cond.fieldLink prn_X 74 prn_X "ends" "[I") ∈ pr_U := pr_inU (lw_in5 (List.mem_of_getElem? (i := 164) rfl)) rfl
theorem prjw_26 : (Cond.fieldLink prn_X 77 prn_X "numbers" "[I") ∈ pr_U := pr_inU (lw_in5 (List.mem_of_getElem? (i := 165) rfl)) rfl
theorem prjw_27 : (Cond.fieldLink prn_X 80 prn_X "arrays" "[I") ∈ pr_U := pr_inU (lw_in5 (List.mem_of_getElem? (i := 166) rfl)) rfl
theorem prjw_28 : (Cond.fieldLink prn_X 83 prn_X "meant" "[I") ∈ pr_U := pr_inU (lw_in5 (List.mem_of_getElem? (i := 168) rfl)) rfl
theorem prjw_29 : (Cond.fieldLink prn_X 86 prn_X "meantName" "[I") ∈ pr_U := pr_inU (lw_in5 (List.mem_of_getElem? (i := 169) rfl)) rfl
theorem prjw_30 : (Cond.fieldLink prn_X 89 prn_X "meantSlot" "[I") ∈ pr_U := pr_inU (lw_in5 (List.mem_of_getElem? (i := 170) rfl)) rfl
theorem prjw_31 : (Cond.fieldLink prn_X 92 prn_X "meantRoom" "[I") ∈ pr_U := pr_inU (lw_in5 (List.mem_of_getElem? (i := 171) rfl)) rfl
theorem prjw_32 : (Cond.fieldLink prn_X 95 prn_X "envName" "[I") ∈ pr_U := pr_inU (lw_in5 (List.mem_of_getElem? (i := 172) rfl)) rfl
theorem prjw_33 : (Cond.fieldLink prn_X 98 prn_X "envSlot" "[I") ∈ pr_U := pr_inU (lw_in5 (List.mem_of_getElem? (i := 173) rfl)) rfl
theorem prjw_34 : (Cond.fieldLink prn_X 101 prn_X "envRoom" "[I") ∈ pr_U := pr_inU (lw_in5 (List.mem_of_getElem? (i := 174) rfl)) rfl
theorem prjw_35 : (Cond.fieldLink prn_X 104 prn_X "envBlock" "[I") ∈ pr_U := pr_inU (lw_in5 (List.mem_of_getElem? (i := 175) rfl)) rfl
theorem prjw_36 : (Cond.fieldLink prn_X 107 prn_X "told" "I") ∈ pr_U := pr_inU (lw_in5 (List.mem_of_getElem? (i := 183) rfl)) rfl
theorem prjw_37 : (Cond.fieldLink prn_X 110 prn_X "inputs" "[I") ∈ pr_U := pr_inU (lw_in5 (List.mem_of_getElem? (i := 184) rfl)) rfl
theorem prjw_38 : (Cond.fieldLink prn_X 113 prn_X "cells" "[I") ∈ pr_U := pr_inU (lw_in5 (List.mem_of_getElem? (i := 186) rfl)) rfl
theorem prjw_39 : (Cond.fieldLink prn_X 116 prn_X "rooms" "[I") ∈ pr_U := pr_inU (lw_in5 (List.mem_of_getElem? (i := 187) rfl)) rfl
theorem prjw_40 : (Cond.arrayClass .long) ∈ pr_U := pr_inU (lw_in6 (List.mem_of_getElem? (i := 75) rfl)) rfl
theorem prjw_41 : (Cond.fieldLink prn_X 119 prn_X "sums" "[J") ∈ pr_U := pr_inU (lw_in5 (List.mem_of_getElem? (i := 188) rfl)) rfl
theorem prjw_42 : (Cond.classLink prn_X 123 "java/lang/String") ∈ pr_U := pr_inU (lw_in5 (List.mem_of_getElem? (i := 120) rfl)) rfl
theorem prjw_43 : (Cond.fieldLink prn_X 141 prn_X "words" "[Ljava/lang/String;") ∈ pr_U := pr_inU (lw_in5 (List.mem_of_getElem? (i := 134) rfl)) rfl
theorem prjw_44 : (Cond.methodLink prn_X 145 pry_X_nothing) ∈ pr_U := pr_inU (lw_in5 (List.mem_of_getElem? (i := 130) rfl)) rfl
theorem prjw_45 : (Cond.instanceMethod pry_X_nothing) ∈ pr_U := pr_inU (lw_in5 (List.mem_of_getElem? (i := 132) rfl)) rfl
theorem prjw_46 : (Cond.selects prn_X pry_X_nothing pry_X_nothing) ∈ pr_U := pr_inU (lw_in0 (List.mem_of_getElem? (i := 80) rfl)) rfl
theorem prjw_47 : (Cond.initialized prn_X) ∈ pr_U := pr_inU (lw_in1 (List.mem_of_getElem? (i := 9) rfl)) rfl
theorem prjw_48 : (Cond.code pry_X_nothing prb_X_nothing 1 none) ∈ pr_U := pr_inU (lw_in5 (List.mem_of_getElem? (i := 133) rfl)) rfl
theorem prd_X_init_0 : decode prb_X_init 0 = .ok (.aload_n 0, 1) := by decide +kernel
theorem prd_X_init_1 : decode prb_X_init 1 = .ok (.invokespecial 1, 3) := by decide +kernel
theorem prd_X_init_4 : decode prb_X_init 4 = .ok (.aload_n 0, 1) := by decide +kernel
theorem prd_X_init_5 : decode prb_X_init 5 = .ok (.sipush 8000, 3) := by decide +kernel
theorem prd_X_init_8 : decode prb_X_init 8 = .ok (.newarray .int, 2) := by decide +kernel
theorem prd_X_init_10 : decode prb_X_init 10 = .ok (.putfield 9, 3) := by decide +kernel
theorem prd_X_init_13 : decode prb_X_init 13 = .ok (.aload_n 0, 1) := by decide +kernel
theorem prd_X_init_14 : decode prb_X_init 14 = .ok (.sipush 8002, 3) := by decide +kernel
theorem prd_X_init_17 : decode prb_X_init 17 = .ok (.newarray .int, 2) := by decide +kernel
theorem prd_X_init_19 : decode prb_X_init 19 = .ok (.putfield 13, 3) := by decide +kernel
theorem prd_X_init_22 : decode prb_X_init 22 = .ok (.aload_n 0, 1) := by decide +kernel
theorem prd_X_init_23 : decode prb_X_init 23 = .ok (.sipush 8002, 3) := by decide +kernel
theorem prd_X_init_26 : decode prb_X_init 26 = .ok (.newarray .int, 2) := by decide +kernel
theorem prd_X_init_28 : decode prb_X_init 28 = .ok (.putfield 16, 3) := by decide +kernel
theorem prd_X_init_31 : decode prb_X_init 31 = .ok (.aload_n 0, 1) := by decide +kernel
theorem prd_X_init_32 : decode prb_X_init 32 = .ok (.sipush 8002, 3) := by decide +kernel
theorem prd_X_init_35 : decode prb_X_init 35 = .ok (.newarray .int, 2) := by decide +kernel
theorem prd_X_init_37 : decode prb_X_init 37 = .ok (.putfield 19, 3) := by decide +kernel
theorem prd_X_init_40 : decode prb_X_init 40 = .ok (.aload_n 0, 1) := by decide +kernel
theorem prd_X_init_41 : decode prb_X_init 41 = .ok (.iconst (-1), 1) := by decide +kernel
theorem prd_X_init_42 : decode prb_X_init 42 = .ok (.putfield 22, 3) := by decide +kernel
theorem prd_X_init_45 : decode prb_X_init 45 = .ok (.aload_n 0, 1) := by decide +kernel
theorem prd_X_init_46 : decode prb_X_init 46 = .ok (.sipush 26000, 3) := by decide +kernel
theorem prd_X_init_49 : decode prb_X_init 49 = .ok (.newarray .int, 2) := by decide +kernel
theorem prd_X_init_51 : decode prb_X_init 51 = .ok (.putfield 26, 3) := by decide +kernel
theorem prd_X_init_54 : decode prb_X_init 54 = .ok (.aload_n 0, 1) := by decide +kernel
theorem prd_X_init_55 : decode prb_X_init 55 = .ok (.sipush 26000, 3) := by decide +kernel
theorem prd_X_init_58 : decode prb_X_init 58 = .ok (.newarray .int, 2) := by decide +kernel
theorem prd_X_init_60 : decode prb_X_init 60 = .ok (.putfield 29, 3) := by decide +kernel
theorem prd_X_init_63 : decode prb_X_init 63 = .ok (.aload_n 0, 1) := by decide +kernel
theorem prd_X_init_64 : decode prb_X_init 64 = .ok (.sipush 26000, 3) := by decide +kernel
theorem prd_X_init_67 : decode prb_X_init 67 = .ok (.newarray .int, 2) := by decide +kernel
theorem prd_X_init_69 : decode prb_X_init 69 = .ok (.putfield 32, 3) := by decide +kernel
theorem prd_X_init_72 : decode prb_X_init 72 = .ok (.aload_n 0, 1) := by decide +kernel
theorem prd_X_init_73 : decode prb_X_init 73 = .ok (.sipush 26000, 3) := by decide +kernel
theorem prd_X_init_76 : decode prb_X_init 76 = .ok (.newarray .int, 2) := by decide +kernel
theorem prd_X_init_78 : decode prb_X_init 78 = .ok (.putfield 35, 3) := by decide +kernel
theorem prd_X_init_81 : decode prb_X_init 81 = .ok (.aload_n 0, 1) := by decide +kernel
theorem prd_X_init_82 : decode prb_X_init 82 = .ok (.sipush 26000, 3) := by decide +kernel
theorem prd_X_init_85 : decode prb_X_init 85 = .ok (.newarray .int, 2) := by decide +kernel
theorem prd_X_init_87 : decode prb_X_init 87 = .ok (.putfield 38, 3) := by decide +kernel
theorem prd_X_init_90 : decode prb_X_init 90 = .ok (.aload_n 0, 1) := by decide +kernel
theorem prd_X_init_91 : decode prb_X_init 91 = .ok (.sipush 26000, 3) := by decide +kernel
theorem prd_X_init_94 : decode prb_X_init 94 = .ok (.newarray .int, 2) := by decide +kernel
theorem prd_X_init_96 : decode prb_X_init 96 = .ok (.putfield 41, 3) := by decide +kernel
theorem prd_X_init_99 : decode prb_X_init 99 = .ok (.aload_n 0, 1) := by decide +kernel
theorem prd_X_init_100 : decode prb_X_init 100 = .ok (.sipush 26000, 3) := by decide +kernel
theorem prd_X_init_103 : decode prb_X_init 103 = .ok (.newarray .int, 2) := by decide +kernel
theorem prd_X_init_105 : decode prb_X_init 105 = .ok (.putfield 44, 3) := by decide +kernel
theorem prd_X_init_108 : decode prb_X_init 108 = .ok (.aload_n 0, 1) := by decide +kernel
theorem prd_X_init_109 : decode prb_X_init 109 = .ok (.sipush 13000, 3) := by decide +kernel
theorem prd_X_init_112 : decode prb_X_init 112 = .ok (.newarray .int, 2) := by decide +kernel
theorem prd_X_init_114 : decode prb_X_init 114 = .ok (.putfield 47, 3) := by decide +kernel
theorem prd_X_init_117 : decode prb_X_init 117 = .ok (.aload_n 0, 1) := by decide +kernel
theorem prd_X_init_118 : decode prb_X_init 118 = .ok (.sipush 13000, 3) := by decide +kernel
theorem prd_X_init_121 : decode prb_X_init 121 = .ok (.newarray .int, 2) := by decide +kernel
theorem prd_X_init_123 : decode prb_X_init 123 = .ok (.putfield 50, 3) := by decide +kernel
theorem prd_X_init_126 : decode prb_X_init 126 = .ok (.aload_n 0, 1) := by decide +kernel
theorem prd_X_init_127 : decode prb_X_init 127 = .ok (.sipush 13000, 3) := by decide +kernel
theorem prd_X_init_130 : decode prb_X_init 130 = .ok (.newarray .int, 2) := by decide +kernel
theorem prd_X_init_132 : decode prb_X_init 132 = .ok (.putfield 53, 3) := by decide +kernel
theorem prd_X_init_135 : decode prb_X_init 135 = .ok (.aload_n 0, 1) := by decide +kernel
theorem prd_X_init_136 : decode prb_X_init 136 = .ok (.sipush 13000, 3) := by decide +kernel
theorem prd_X_init_139 : decode prb_X_init 139 = .ok (.newarray .int, 2) := by decide +kernel
theorem prd_X_init_141 : decode prb_X_init 141 = .ok (.putfield 56, 3) := by decide +kernel
theorem prd_X_init_144 : decode prb_X_init 144 = .ok (.aload_n 0, 1) := by decide +kernel
theorem prd_X_init_145 : decode prb_X_init 145 = .ok (.sipush 13000, 3) := by decide +kernel
theorem prd_X_init_148 : decode prb_X_init 148 = .ok (.newarray .int, 2) := by decide +kernel
theorem prd_X_init_150 : decode prb_X_init 150 = .ok (.putfield 59, 3) := by decide +kernel
theorem prd_X_init_153 : decode prb_X_init 153 = .ok (.aload_n 0, 1) := by decide +kernel
theorem prd_X_init_154 : decode prb_X_init 154 = .ok (.sipush 12000, 3) := by decide +kernel
theorem prd_X_init_157 : decode prb_X_init 157 = .ok (.newarray .int, 2) := by decide +kernel
theorem prd_X_init_159 : decode prb_X_init 159 = .ok (.putfield 62, 3) := by decide +kernel
theorem prd_X_init_162 : decode prb_X_init 162 = .ok (.aload_n 0, 1) := by decide +kernel
theorem prd_X_init_163 : decode prb_X_init 163 = .ok (.sipush 6001, 3) := by decide +kernel
theorem prd_X_init_166 : decode prb_X_init 166 = .ok (.newarray .int, 2) := by decide +kernel
theorem prd_X_init_168 : decode prb_X_init 168 = .ok (.putfield 65, 3) := by decide +kernel
theorem prd_X_init_171 : decode prb_X_init 171 = .ok (.aload_n 0, 1) := by decide +kernel
theorem prd_X_init_172 : decode prb_X_init 172 = .ok (.sipush 250, 3) := by decide +kernel
theorem prd_X_init_175 : decode prb_X_init 175 = .ok (.newarray .int, 2) := by decide +kernel
theorem prd_X_init_177 : decode prb_X_init 177 = .ok (.putfield 68, 3) := by decide +kernel
theorem prd_X_init_180 : decode prb_X_init 180 = .ok (.aload_n 0, 1) := by decide +kernel
theorem prd_X_init_181 : decode prb_X_init 181 = .ok (.sipush 250, 3) := by decide +kernel
theorem prd_X_init_184 : decode prb_X_init 184 = .ok (.newarray .int, 2) := by decide +kernel
theorem prd_X_init_186 : decode prb_X_init 186 = .ok (.putfield 71, 3) := by decide +kernel
theorem prd_X_init_189 : decode prb_X_init 189 = .ok (.aload_n 0, 1) := by decide +kernel
theorem prd_X_init_190 : decode prb_X_init 190 = .ok (.sipush 250, 3) := by decide +kernel
theorem prd_X_init_193 : decode prb_X_init 193 = .ok (.newarray .int, 2) := by decide +kernel
theorem prd_X_init_195 : decode prb_X_init 195 = .ok (.putfield 74, 3) := by decide +kernel
theorem prd_X_init_198 : decode prb_X_init 198 = .ok (.aload_n 0, 1) := by decide +kernel
theorem prd_X_init_199 : decode prb_X_init 199 = .ok (.sipush 250, 3) := by decide +kernel
theorem prd_X_init_202 : decode prb_X_init 202 = .ok (.newarray .int, 2) := by decide +kernel
theorem prd_X_init_204 : decode prb_X_init 204 = .ok (.putfield 77, 3) := by decide +kernel
theorem prd_X_init_207 : decode prb_X_init 207 = .ok (.aload_n 0, 1) := by decide +kernel
theorem prd_X_init_208 : decode prb_X_init 208 = .ok (.sipush 250, 3) := by decide +kernel
theorem prd_X_init_211 : decode prb_X_init 211 = .ok (.newarray .int, 2) := by decide +kernel
theorem prd_X_init_213 : decode prb_X_init 213 = .ok (.putfield 80, 3) := by decide +kernel
theorem prd_X_init_216 : decode prb_X_init 216 = .ok (.aload_n 0, 1) := by decide +kernel
theorem prd_X_init_217 : decode prb_X_init 217 = .ok (.sipush 251, 3) := by decide +kernel
theorem prd_X_init_220 : decode prb_X_init 220 = .ok (.newarray .int, 2) := by decide +kernel
theorem prd_X_init_222 : decode prb_X_init 222 = .ok (.putfield 83, 3) := by decide +kernel
theorem prd_X_init_225 : decode prb_X_init 225 = .ok (.aload_n 0, 1) := by decide +kernel
theorem prd_X_init_226 : decode prb_X_init 226 = .ok (.sipush 10040, 3) := by decide +kernel
theorem prd_X_init_229 : decode prb_X_init 229 = .ok (.newarray .int, 2) := by decide +kernel
theorem prd_X_init_231 : decode prb_X_init 231 = .ok (.putfield 86, 3) := by decide +kernel
theorem prd_X_init_234 : decode prb_X_init 234 = .ok (.aload_n 0, 1) := by decide +kernel
theorem prd_X_init_235 : decode prb_X_init 235 = .ok (.sipush 10040, 3) := by decide +kernel
theorem prd_X_init_238 : decode prb_X_init 238 = .ok (.newarray .int, 2) := by decide +kernel
theorem prd_X_init_240 : decode prb_X_init 240 = .ok (.putfield 89, 3) := by decide +kernel
theorem prd_X_init_243 : decode prb_X_init 243 = .ok (.aload_n 0, 1) := by decide +kernel
theorem prd_X_init_244 : decode prb_X_init 244 = .ok (.sipush 10040, 3) := by decide +kernel
theorem prd_X_init_247 : decode prb_X_init 247 = .ok (.newarray .int, 2) := by decide +kernel
theorem prd_X_init_249 : decode prb_X_init 249 = .ok (.putfield 92, 3) := by decide +kernel
theorem prd_X_init_252 : decode prb_X_init 252 = .ok (.aload_n 0, 1) := by decide +kernel
theorem prd_X_init_253 : decode prb_X_init 253 = .ok (.bipush 40, 2) := by decide +kernel
theorem prd_X_init_255 : decode prb_X_init 255 = .ok (.newarray .int, 2) := by decide +kernel
theorem prd_X_init_257 : decode prb_X_init 257 = .ok (.putfield 95, 3) := by decide +kernel
theorem prd_X_init_260 : decode prb_X_init 260 = .ok (.aload_n 0, 1) := by decide +kernel
theorem prd_X_init_261 : decode prb_X_init 261 = .ok (.bipush 40, 2) := by decide +kernel
theorem prd_X_init_263 : decode prb_X_init 263 = .ok (.newarray .int, 2) := by decide +kernel
theorem prd_X_init_265 : decode prb_X_init 265 = .ok (.putfield 98, 3) := by decide +kernel
theorem prd_X_init_268 : decode prb_X_init 268 = .ok (.aload_n 0, 1) := by decide +kernel
theorem prd_X_init_269 : decode prb_X_init 269 = .ok (.bipush 40, 2) := by decide +kernel
theorem prd_X_init_271 : decode prb_X_init 271 = .ok (.newarray .int, 2) := by decide +kernel
theorem prd_X_init_273 : decode prb_X_init 273 = .ok (.putfield 101, 3) := by decide +kernel
theorem prd_X_init_276 : decode prb_X_init 276 = .ok (.aload_n 0, 1) := by decide +kernel
theorem prd_X_init_277 : decode prb_X_init 277 = .ok (.bipush 40, 2) := by decide +kernel
theorem prd_X_init_279 : decode prb_X_init 279 = .ok (.newarray .int, 2) := by decide +kernel
theorem prd_X_init_281 : decode prb_X_init 281 = .ok (.putfield 104, 3) := by decide +kernel
theorem prd_X_init_284 : decode prb_X_init 284 = .ok (.aload_n 0, 1) := by decide +kernel
theorem prd_X_init_285 : decode prb_X_init 285 = .ok (.iconst (-1), 1) := by decide +kernel
theorem prd_X_init_286 : decode prb_X_init 286 = .ok (.putfield 107, 3) := by decide +kernel
theorem prd_X_init_289 : decode prb_X_init 289 = .ok (.aload_n 0, 1) := by decide +kernel
theorem prd_X_init_290 : decode prb_X_init 290 = .ok (.sipush 400, 3) := by decide +kernel
theorem prd_X_init_293 : decode prb_X_init 293 = .ok (.newarray .int, 2) := by decide +kernel
theorem prd_X_init_295 : decode prb_X_init 295 = .ok (.putfield 110, 3) := by decide +kernel
theorem prd_X_init_298 : decode prb_X_init 298 = .ok (.aload_n 0, 1) := by decide +kernel
theorem prd_X_init_299 : decode prb_X_init 299 = .ok (.bipush 12, 2) := by decide +kernel
theorem prd_X_init_301 : decode prb_X_init 301 = .ok (.newarray .int, 2) := by decide +kernel
theorem prd_X_init_303 : decode prb_X_init 303 = .ok (.putfield 113, 3) := by decide +kernel
theorem prd_X_init_306 : decode prb_X_init 306 = .ok (.aload_n 0, 1) := by decide +kernel
theorem prd_X_init_307 : decode prb_X_init 307 = .ok (.sipush 384, 3) := by decide +kernel
theorem prd_X_init_310 : decode prb_X_init 310 = .ok (.newarray .int, 2) := by decide +kernel
theorem prd_X_init_312 : decode prb_X_init 312 = .ok (.putfield 116, 3) := by decide +kernel
theorem prd_X_init_315 : decode prb_X_init 315 = .ok (.aload_n 0, 1) := by decide +kernel
theorem prd_X_init_316 : decode prb_X_init 316 = .ok (.bipush 13, 2) := by decide +kernel
theorem prd_X_init_318 : decode prb_X_init 318 = .ok (.newarray .long, 2) := by decide +kernel
theorem prd_X_init_320 : decode prb_X_init 320 = .ok (.putfield 119, 3) := by decide +kernel
theorem prd_X_init_323 : decode prb_X_init 323 = .ok (.aload_n 0, 1) := by decide +kernel
theorem prd_X_init_324 : decode prb_X_init 324 = .ok (.bipush 8, 2) := by decide +kernel
theorem prd_X_init_326 : decode prb_X_init 326 = .ok (.anewarray 123, 3) := by decide +kernel
theorem prd_X_init_329 : decode prb_X_init 329 = .ok (.dup, 1) := by decide +kernel
theorem prd_X_init_330 : decode prb_X_init 330 = .ok (.iconst 0, 1) := by decide +kernel
theorem prd_X_init_331 : decode prb_X_init 331 = .ok (.ldc 125, 2) := by decide +kernel
theorem prd_X_init_333 : decode prb_X_init 333 = .ok (.aastore, 1) := by decide +kernel
theorem prd_X_init_334 : decode prb_X_init 334 = .ok (.dup, 1) := by decide +kernel
theorem prd_X_init_335 : decode prb_X_init 335 = .ok (.iconst 1, 1) := by decide +kernel
theorem prd_X_init_336 : decode prb_X_init 336 = .ok (.ldc 127, 2) := by decide +kernel
theorem prd_X_init_338 : decode prb_X_init 338 = .ok (.aastore, 1) := by decide +kernel
theorem prd_X_init_339 : decode prb_X_init 339 = .ok (.dup, 1) := by decide +kernel
theorem prd_X_init_340 : decode prb_X_init 340 = .ok (.iconst 2, 1) := by decide +kernel
theorem prd_X_init_341 : decode prb_X_init 341 = .ok (.ldc 129, 2) := by decide +kernel
theorem prd_X_init_343 : decode prb_X_init 343 = .ok (.aastore, 1) := by decide +kernel
theorem prd_X_init_344 : decode prb_X_init 344 = .ok (.dup, 1) := by decide +kernel
theorem prd_X_init_345 : decode prb_X_init 345 = .ok (.iconst 3, 1) := by decide +kernel
theorem prd_X_init_346 : decode prb_X_init 346 = .ok (.ldc 131, 2) := by decide +kernel
theorem prd_X_init_348 : decode prb_X_init 348 = .ok (.aastore, 1) := by decide +kernel
theorem prd_X_init_349 : decode prb_X_init 349 = .ok (.dup, 1) := by decide +kernel
theorem prd_X_init_350 : decode prb_X_init 350 = .ok (.iconst 4, 1) := by decide +kernel
theorem prd_X_init_351 : decode prb_X_init 351 = .ok (.ldc 133, 2) := by decide +kernel
theorem prd_X_init_353 : decode prb_X_init 353 = .ok (.aastore, 1) := by decide +kernel
theorem prd_X_init_354 : decode prb_X_init 354 = .ok (.dup, 1) := by decide +kernel
theorem prd_X_init_355 : decode prb_X_init 355 = .ok (.iconst 5, 1) := by decide +kernel
theorem prd_X_init_356 : decode prb_X_init 356 = .ok (.ldc 135, 2) := by decide +kernel
theorem prd_X_init_358 : decode prb_X_init 358 = .ok (.aastore, 1) := by decide +kernel
theorem prd_X_init_359 : decode prb_X_init 359 = .ok (.dup, 1) := by decide +kernel
theorem prd_X_init_360 : decode prb_X_init 360 = .ok (.bipush 6, 2) := by decide +kernel
theorem prd_X_init_362 : decode prb_X_init 362 = .ok (.ldc 137, 2) := by decide +kernel
theorem prd_X_init_364 : decode prb_X_init 364 = .ok (.aastore, 1) := by decide +kernel
theorem prd_X_init_365 : decode prb_X_init 365 = .ok (.dup, 1) := by decide +kernel
theorem prd_X_init_366 : decode prb_X_init 366 = .ok (.bipush 7, 2) := by decide +kernel
theorem prd_X_init_368 : decode prb_X_init 368 = .ok (.ldc 139, 2) := by decide +kernel
theorem prd_X_init_370 : decode prb_X_init 370 = .ok (.aastore, 1) := by decide +kernel
theorem prd_X_init_371 : decode prb_X_init 371 = .ok (.putfield 141, 3) := by decide +kernel
theorem prd_X_init_374 : decode prb_X_init 374 = .ok (.aload_n 0, 1) := by decide +kernel
theorem prd_X_init_375 : decode prb_X_init 375 = .ok (.invokevirtual 145, 3) := by decide +kernel
theorem prd_X_init_378 : decode prb_X_init 378 = .ok (.return_, 1) := by decide +kernel
def prIg_X : Nat → Value := fun k => match k with
  | 0 => .null
  | 1 => .null
  | 2 => .int 0
  | 3 => .int 0
  | 4 => .null
  | 5 => .null
  | 6 => .null
  | 7 => .int 0
  | 8 => .int 0
  | 9 => .int 0
  | 10 => .int 0
  | 11 => .null
  | 12 => .null
  | 13 => .null
  | 14 => .null
  | 15 => .null
  | 16 => .null
  | 17 => .int 0
  | 18 => .null
  | 19 => .null
  | 20 => .null
  | 21 => .null
  | 22 => .null
  | 23 => .null
  | 24 => .int 0
  | 25 => .null
  | 26 => .null
  | 27 => .int 0
  | 28 => .null
  | 29 => .null
  | 30 => .null
  | 31 => .null
  | 32 => .null
  | 33 => .int 0
  | 34 => .null
  | 35 => .null
  | 36 => .null
  | 37 => .null
  | 38 => .null
  | 39 => .null
  | 40 => .null
  | 41 => .null
  | 42 => .int 0
  | 43 => .int 0
  | 44 => .int 0
  | 45 => .int 0
  | 46 => .int 0
  | 47 => .int 0
  | 48 => .int 0
  | 49 => .int 0
  | 50 => .null
  | 51 => .int 0
  | 52 => .null
  | 53 => .null
  | 54 => .null
  | 55 => .int 0
  | 56 => .int 0
  | 57 => .int 0
  | 58 => .int 0
  | 59 => .int 0
  | _ => .null
abbrev prIx_X : va_E := .inr (8, (List.range 60).map prIg_X)
theorem prId_X : ∀ j, j < 60 → defaultValue (prq_X j) = vp_V ((List.range 60).map prIg_X) j := by decide +kernel
def prs_tx (k : Nat) : String := (["fun", "var", "if", "else", "while", "assert", "return", "any"] : List String).getD k ""
def prIZx (K v : Nat → Nat) (r : Value) (A : Nat → Prop) (U : State) : Prop := (∀ k, k < 8 → vk_R "ProgramRunsModel" (125 + 2 * k) (prs_tx k) (K k) U) ∧ va_AO "java/lang/String" U ∧ prY (fun j => K (j - 1000)) v r A U
/-- addresses: cells by a list, the words' texts by K -/
def prXad (h0 : Nat) (us : List (Nat × ClassId)) (K : Nat → Nat) (j : Nat) : Nat := if j < 1000 then (if j = 0 then h0 else (pr_u us j).1) else K (j - 1000)
def prXdA (us : List (Nat × ClassId)) (j : Nat) : ClassId := (pr_u us j).2
def prIw_X (K : Nat → Nat) (h0 : Nat) (u : List (Nat × ClassId)) : va_W := pr_w prx_L (prXad h0 u K) (prXdA u) prIs_X1
def prIt_X (u : List (Nat × ClassId)) : List (ClassId × FieldType) := pr_t prx_L (prXdA u)
theorem prXY {K v : Nat → Nat} {r : Value} {A : Nat → Prop} {h0 : Nat} {us : List (Nat × ClassId)} {U : State} (h : prY (fun j => K (j - 1000)) v r A U) : prY (prXad h0 us K) v r A U := by
  have e : (fun i => prXad h0 us K (1000 + i)) = (fun i => (fun j => K (j - 1000)) (1000 + i)) := by
    funext i
    show (if 1000 + i < 1000 then _ else K (1000 + i - 1000)) = K (1000 + i - 1000)
    rw [if_neg (by omega)]
  unfold prY
  rw [e]
  exact h
/-- the words' row, with its texts named for every place -/
theorem prXtext {D : va_G} {cl : List vw_C} {H : Heap} {ws : va_W} {a n : Nat} {cA : ClassId} {f g : Nat → Option Nat} (q0 : Nat) (he : ws[q0]? = some (a, .inl (cA, n, .inr (.inr (.inr (.inr f)))))) (hP : va_P D cl ws H) (hf : ∀ k, k < n → f k = g k) : va_P D cl (ws.set q0 (a, .inl (cA, n, .inr (.inr (.inr (.inr g)))))) H := by
  intro k q hq
  rw [List.getElem?_set] at hq
  by_cases e : q0 = k
  · rw [if_pos e] at hq
    by_cases h2 : q0 < ws.length
    · rw [if_pos h2] at hq
      cases hq
      have := hP q0 _ he
      show H[a]? = some (vp_cell cA _)
      rw [← pr_vpq hf]
      exact this
    · rw [if_neg h2] at hq; cases hq
  · rw [if_neg e] at hq
    exact hP k q hq
theorem prDset {A : Nat → Prop} {ws : va_W} {a : Nat} {x y : va_E} (q0 : Nat) (he : ws[q0]? = some (a, x)) (hD : va_D A ws) : va_D A (ws.set q0 (a, y)) := by
  have key : ∀ (k : Nat) (q : Nat × va_E), (ws.set q0 (a, y))[k]? = some q → ∃ z, ws[k]? = some (q.1, z) := by
    intro k q hq
    rw [List.getElem?_set] at hq
    by_cases e : q0 = k
    · rw [if_pos e] at hq
      by_cases h2 : q0 < ws.length
      · rw [if_pos h2] at hq
        cases hq
        exact ⟨x, by rw [← e]; exact he⟩
      · rw [if_neg h2] at hq; cases hq
    · rw [if_neg e] at hq
      exact ⟨q.2, hq⟩
  refine ⟨fun i j p q hi hj h => ?_, fun k q hk => ?_⟩
  · obtain ⟨z1, h1⟩ := key i p hi
    obtain ⟨z2, h2⟩ := key j q hj
    exact hD.1 i j _ _ h1 h2 h
  · obtain ⟨z, h1⟩ := key k q hk
    exact hD.2 k (q.1, z) h1
set_option maxHeartbeats 4000000 in
set_option maxRecDepth 100000 in
theorem prI_X {l : Launch} {D : va_G} (K v : Nat → Nat) (r : Value) (sz h0 : Nat) : Met l pry_X_init (Cond.code pry_X_init prb_X_init 1 none :: pr_U) { frames := 2, cells := 36, slots := 329605, locals := 128 } (prKP (prIZx K v r (va_A [(h0, prIx_X)] sz)) D pr_cl [.ref h0] h0 prIx_X sz) (prKQ D pr_cl h0 prIx_X sz (prIw_X K h0) prIt_X) 36 329605 (va_A [(h0, prIx_X)] sz) := by
  refine pr_kEntry (cc := prb_X_init) (maxL := 1) (by decide) (Nat.le_of_ble_eq_true rfl) ?_
  intro p e s m args below meth c E hZ hK hsz hP hD ls hl
  subst hsz
  have hl : lv_has ls 1 [(0, .ref h0)] := hl
  obtain ⟨hx, hb, hml, hown, hts, hr, hin, hlk⟩ := E
  have hA : ∀ q : Nat, s.heap.size ≤ q → va_A [(h0, prIx_X)] s.heap.size q := fun q h => Or.inr h
  have hS : va_S (va_A [(h0, prIx_X)] s.heap.size) s.heap s.heap [] := va_S.rf
  refine lv_aload_n hx hb prd_X_init_0 rfl (lv_at hl 0 rfl) ?_
  refine pr_kObj hx hb hown (hts _ prjw_0) (hts _ prjw_1) (hts _ prjw_2) (hml.trans hl.1.symm) prd_X_init_1 (Nat.le_of_ble_eq_true rfl) (Nat.le_of_ble_eq_true rfl) ?_
  refine lv_aload_n hx hb prd_X_init_4 rfl (lv_at hl 0 rfl) ?_
  refine lv_sipush (v := 8000) hx hb prd_X_init_5 (by decide) ?_
  refine pr_kArr2 (k := 1) (atype := .int) (ety := .int) (N' := 8000) (a0 := (8000, .inl (fun _ => 0))) hx hb hts prs_X prq_X prtt_X prtn_X hown hK hP hD hS hA rfl (by decide) (hts _ prjw_4) rfl rfl hin rfl (prtt_X 1 (by decide)) (hts _ prjw_3) rfl (fun _ => rfl) (by decide) (by decide) (by decide) (Nat.le_of_ble_eq_true rfl) (Nat.le_of_ble_eq_true rfl) prd_X_init_8 prd_X_init_10 (fun q1 c1 H locs g1 hg1 a1 ha1 t1 ht1 hK hP hD hS => ?_)
  refine lv_aload_n hx hb prd_X_init_13 rfl (lv_at hl 0 rfl) ?_
  refine lv_sipush (v := 8002) hx hb prd_X_init_14 (by decide) ?_
  refine pr_kArr2 (k := 4) (atype := .int) (ety := .int) (N' := 8002) (a0 := (8002, .inl (fun _ => 0))) hx hb hts prs_X prq_X prtt_X prtn_X hown hK hP hD hS hA rfl (by decide) (hts _ prjw_5) rfl rfl hin rfl (prtt_X 4 (by decide)) (hts _ prjw_3) rfl (fun _ => rfl) (by decide) (by decide) (by decide) (Nat.le_of_ble_eq_true rfl) (Nat.le_of_ble_eq_true rfl) prd_X_init_17 prd_X_init_19 (fun q2 c2 H locs g2 hg2 a2 ha2 t2 ht2 hK hP hD hS => ?_)
  refine lv_aload_n hx hb prd_X_init_22 rfl (lv_at hl 0 rfl) ?_
  refine lv_sipush (v := 8002) hx hb prd_X_init_23 (by decide) ?_
  refine pr_kArr2 (k := 5) (atype := .int) (ety := .int) (N' := 8002) (a0 := (8002, .inl (fun _ => 0))) hx hb hts prs_X prq_X prtt_X prtn_X hown hK hP hD hS hA rfl (by decide) (hts _ prjw_6) rfl rfl hin rfl (prtt_X 5 (by decide)) (hts _ prjw_3) rfl (fun _ => rfl) (by decide) (by decide) (by decide) (Nat.le_of_ble_eq_true rfl) (Nat.le_of_ble_eq_true rfl) prd_X_init_26 prd_X_init_28 (fun q3 c3 H locs g3 hg3 a3 ha3 t3 ht3 hK hP hD hS => ?_)
  refine lv_aload_n hx hb prd_X_init_31 rfl (lv_at hl 0 rfl) ?_
  refine lv_sipush (v := 8002) hx hb prd_X_init_32 (by decide) ?_
  refine pr_kArr2 (k := 6) (atype := .int) (ety := .int) (N' := 8002) (a0 := (8002, .inl (fun _ => 0))) hx hb hts prs_X prq_X prtt_X prtn_X hown hK hP hD hS hA rfl (by decide) (hts _ prjw_7) rfl rfl hin rfl (prtt_X 6 (by decide)) (hts _ prjw_3) rfl (fun _ => rfl) (by decide) (by decide) (by decide) (Nat.le_of_ble_eq_true rfl) (Nat.le_of_ble_eq_true rfl) prd_X_init_35 prd_X_init_37 (fun q4 c4 H locs g4 hg4 a4 ha4 t4 ht4 hK hP hD hS => ?_)
  refine lv_aload_n hx hb prd_X_init_40 rfl (lv_at hl 0 rfl) ?_
  refine lv_iconst (v := (-1)) hx hb prd_X_init_41 (by decide) ?_
  refine pr_kInt2 (k := 10) hx hb hts prs_X prq_X prtt_X prtn_X hown hK hP hD hS rfl (by decide) (hts _ prjw_8) rfl rfl (prtt_X 10 (by decide)) rfl rfl prd_X_init_42 (fun H locs gg1 hgg1 hP hD hS => ?_)
  refine lv_aload_n hx hb prd_X_init_45 rfl (lv_at hl 0 rfl) ?_
  refine lv_sipush (v := 26000) hx hb prd_X_init_46 (by decide) ?_
  refine pr_kArr2 (k := 11) (atype := .int) (ety := .int) (N' := 26000) (a0 := (26000, .inl (fun _ => 0))) hx hb hts prs_X prq_X prtt_X prtn_X hown hK hP hD hS hA rfl (by decide) (hts _ prjw_9) rfl rfl hin rfl (prtt_X 11 (by decide)) (hts _ prjw_3) rfl (fun _ => rfl) (by decide) (by decide) (by decide) (Nat.le_of_ble_eq_true rfl) (Nat.le_of_ble_eq_true rfl) prd_X_init_49 prd_X_init_51 (fun q5 c5 H locs g5 hg5 a5 ha5 t5 ht5 hK hP hD hS => ?_)
  refine lv_aload_n hx hb prd_X_init_54 rfl (lv_at hl 0 rfl) ?_
  refine lv_sipush (v := 26000) hx hb prd_X_init_55 (by decide) ?_
  refine pr_kArr2 (k := 12) (atype := .int) (ety := .int) (N' := 26000) (a0 := (26000, .inl (fun _ => 0))) hx hb hts prs_X prq_X prtt_X prtn_X hown hK hP hD hS hA rfl (by decide) (hts _ prjw_10) rfl rfl hin rfl (prtt_X 12 (by decide)) (hts _ prjw_3) rfl (fun _ => rfl) (by decide) (by decide) (by decide) (Nat.le_of_ble_eq_true rfl) (Nat.le_of_ble_eq_true rfl) prd_X_init_58 prd_X_init_60 (fun q6 c6 H locs g6 hg6 a6 ha6 t6 ht6 hK hP hD hS => ?_)
  refine lv_aload_n hx hb prd_X_init_63 rfl (lv_at hl 0 rfl) ?_
  refine lv_sipush (v := 26000) hx hb prd_X_init_64 (by decide) ?_
  refine pr_kArr2 (k := 13) (atype := .int) (ety := .int) (N' := 26000) (a0 := (26000, .inl (fun _ => 0))) hx hb hts prs_X prq_X prtt_X prtn_X hown hK hP hD hS hA rfl (by decide) (hts _ prjw_11) rfl rfl hin rfl (prtt_X 13 (by decide)) (hts _ prjw_3) rfl (fun _ => rfl) (by decide) (by decide) (by decide) (Nat.le_of_ble_eq_true rfl) (Nat.le_of_ble_eq_true rfl) prd_X_init_67 prd_X_init_69 (fun q7 c7 H locs g7 hg7 a7 ha7 t7 ht7 hK hP hD hS => ?_)
  refine lv_aload_n hx hb prd_X_init_72 rfl (lv_at hl 0 rfl) ?_
  refine lv_sipush (v := 26000) hx hb prd_X_init_73 (by decide) ?_
  refine pr_kArr2 (k := 14) (atype := .int) (ety := .int) (N' := 26000) (a0 := (26000, .inl (fun _ => 0))) hx hb hts prs_X prq_X prtt_X prtn_X hown hK hP hD hS hA rfl (by decide) (hts _ prjw_12) rfl rfl hin rfl (prtt_X 14 (by decide)) (hts _ prjw_3) rfl (fun _ => rfl) (by decide) (by decide) (by decide) (Nat.le_of_ble_eq_true rfl) (Nat.le_of_ble_eq_true rfl) prd_X_init_76 prd_X_init_78 (fun q8 c8 H locs g8 hg8 a8 ha8 t8 ht8 hK hP hD hS => ?_)
  refine lv_aload_n hx hb prd_X_init_81 rfl (lv_at hl 0 rfl) ?_
  refine lv_sipush (v := 26000) hx hb prd_X_init_82 (by decide) ?_
  refine pr_kArr2 (k := 15) (atype := .int) (ety := .int) (N' := 26000) (a0 := (26000, .inl (fun _ => 0))) hx hb hts prs_X prq_X prtt_X prtn_X hown hK hP hD hS hA rfl (by decide) (hts _ prjw_13) rfl rfl hin rfl (prtt_X 15 (by decide)) (hts _ prjw_3) rfl (fun _ => rfl) (by decide) (by decide) (by decide) (Nat.le_of_ble_eq_true rfl) (Nat.le_of_ble_eq_true rfl) prd_X_init_85 prd_X_init_87 (fun q9 c9 H locs g9 hg9 a9 ha9 t9 ht9 hK hP hD hS => ?_)
  refine lv_aload_n hx hb prd_X_init_90 rfl (lv_at hl 0 rfl) ?_
  refine lv_sipush (v := 26000) hx hb prd_X_init_91 (by decide) ?_
  refine pr_kArr2 (k := 16) (atype := .int) (ety := .int) (N' := 26000) (a0 := (26000, .inl (fun _ => 0))) hx hb hts prs_X prq_X prtt_X prtn_X hown hK hP hD hS hA rfl (by decide) (hts _ prjw_14) rfl rfl hin rfl (prtt_X 16 (by decide)) (hts _ prjw_3) rfl (fun _ => rfl) (by decide) (by decide) (by decide) (Nat.le_of_ble_eq_true rfl) (Nat.le_of_ble_eq_true rfl) prd_X_init_94 prd_X_init_96 (fun q10 c10 H locs g10 hg10 a10 ha10 t10 ht10 hK hP hD hS => ?_)
  refine lv_aload_n hx hb prd_X_init_99 rfl (lv_at hl 0 rfl) ?_
  refine lv_sipush (v := 26000) hx hb prd_X_init_100 (by decide) ?_
  refine pr_kArr2 (k := 18) (atype := .int) (ety := .int) (N' := 26000) (a0 := (26000, .inl (fun _ => 0))) hx hb hts prs_X prq_X prtt_X prtn_X hown hK hP hD hS hA rfl (by decide) (hts _ prjw_15) rfl rfl hin rfl (prtt_X 18 (by decide)) (hts _ prjw_3) rfl (fun _ => rfl) (by decide) (by decide) (by decide) (Nat.le_of_ble_eq_true rfl) (Nat.le_of_ble_eq_true rfl) prd_X_init_103 prd_X_init_105 (fun q11 c11 H locs g11 hg11 a11 ha11 t11 ht11 hK hP hD hS => ?_)
  refine lv_aload_n hx hb prd_X_init_108 rfl (lv_at hl 0 rfl) ?_
  refine lv_sipush (v := 13000) hx hb prd_X_init_109 (by decide) ?_
  refine pr_kArr2 (k := 19) (atype := .int) (ety := .int) (N' := 13000) (a0 := (13000, .inl (fun _ => 0))) hx hb hts prs_X prq_X prtt_X prtn_X hown hK hP hD hS hA rfl (by decide) (hts _ prjw_16) rfl rfl hin rfl (prtt_X 19 (by decide)) (hts _ prjw_3) rfl (fun _ => rfl) (by decide) (by decide) (by decide) (Nat.le_of_ble_eq_true rfl) (Nat.le_of_ble_eq_true rfl) prd_X_init_112 prd_X_init_114 (fun q12 c12 H locs g12 hg12 a12 ha12 t12 ht12 hK hP hD hS => ?_)
  refine lv_aload_n hx hb prd_X_init_117 rfl (lv_at hl 0 rfl) ?_
  refine lv_sipush (v := 13000) hx hb prd_X_init_118 (by decide) ?_
  refine pr_kArr2 (k := 20) (atype := .int) (ety := .int) (N' := 13000) (a0 := (13000, .inl (fun _ => 0))) hx hb hts prs_X prq_X prtt_X prtn_X hown hK hP hD hS hA rfl (by decide) (hts _ prjw_17) rfl rfl hin rfl (prtt_X 20 (by decide)) (hts _ prjw_3) rfl (fun _ => rfl) (by decide) (by decide) (by decide) (Nat.le_of_ble_eq_true rfl) (Nat.le_of_ble_eq_true rfl) prd_X_init_121 prd_X_init_123 (fun q13 c13 H locs g13 hg13 a13 ha13 t13 ht13 hK hP hD hS => ?_)
  refine lv_aload_n hx hb prd_X_init_126 rfl (lv_at hl 0 rfl) ?_
  refine lv_sipush (v := 13000) hx hb prd_X_init_127 (by decide) ?_
  refine pr_kArr2 (k := 21) (atype := .int) (ety := .int) (N' := 13000) (a0 := (13000, .inl (fun _ => 0))) hx hb hts prs_X prq_X prtt_X prtn_X hown hK hP hD hS hA rfl (by decide) (hts _ prjw_18) rfl rfl hin rfl (prtt_X 21 (by decide)) (hts _ prjw_3) rfl (fun _ => rfl) (by decide) (by decide) (by decide) (Nat.le_of_ble_eq_true rfl) (Nat.le_of_ble_eq_true rfl) prd_X_init_130 prd_X_init_132 (fun q14 c14 H locs g14 hg14 a14 ha14 t14 ht14 hK hP hD hS => ?_)
  refine lv_aload_n hx hb prd_X_init_135 rfl (lv_at hl 0 rfl) ?_
  refine lv_sipush (v := 13000) hx hb prd_X_init_136 (by decide) ?_
  refine pr_kArr2 (k := 22) (atype := .int) (ety := .int) (N' := 13000) (a0 := (13000, .inl (fun _ => 0))) hx hb hts prs_X prq_X prtt_X prtn_X hown hK hP hD hS hA rfl (by decide) (hts _ prjw_19) rfl rfl hin rfl (prtt_X 22 (by decide)) (hts _ prjw_3) rfl (fun _ => rfl) (by decide) (by decide) (by decide) (Nat.le_of_ble_eq_true rfl) (Nat.le_of_ble_eq_true rfl) prd_X_init_139 prd_X_init_141 (fun q15 c15 H locs g15 hg15 a15 ha15 t15 ht15 hK hP hD hS => ?_)
  refine lv_aload_n hx hb prd_X_init_144 rfl (lv_at hl 0 rfl) ?_
  refine lv_sipush (v := 13000) hx hb prd_X_init_145 (by decide) ?_
  refine pr_kArr2 (k := 23) (atype := .int) (ety := .int) (N' := 13000) (a0 := (13000, .inl (fun _ => 0))) hx hb hts prs_X prq_X prtt_X prtn_X hown hK hP hD hS hA rfl (by decide) (hts _ prjw_20) rfl rfl hin rfl (prtt_X 23 (by decide)) (hts _ prjw_3) rfl (fun _ => rfl) (by decide) (by decide) (by decide) (Nat.le_of_ble_eq_true rfl) (Nat.le_of_ble_eq_true rfl) prd_X_init_148 prd_X_init_150 (fun q16 c16 H locs g16 hg16 a16 ha16 t16 ht16 hK hP hD hS => ?_)
  refine lv_aload_n hx hb prd_X_init_153 rfl (lv_at hl 0 rfl) ?_
  refine lv_sipush (v := 12000) hx hb prd_X_init_154 (by decide) ?_
  refine pr_kArr2 (k := 25) (atype := .int) (ety := .int) (N' := 12000) (a0 := (12000, .inl (fun _ => 0))) hx hb hts prs_X prq_X prtt_X prtn_X hown hK hP hD hS hA rfl (by decide) (hts _ prjw_21) rfl rfl hin rfl (prtt_X 25 (by decide)) (hts _ prjw_3) rfl (fun _ => rfl) (by decide) (by decide) (by decide) (Nat.le_of_ble_eq_true rfl) (Nat.le_of_ble_eq_true rfl) prd_X_init_157 prd_X_init_159 (fun q17 c17 H locs g17 hg17 a17 ha17 t17 ht17 hK hP hD hS => ?_)
  refine lv_aload_n hx hb prd_X_init_162 rfl (lv_at hl 0 rfl) ?_
  refine lv_sipush (v := 6001) hx hb prd_X_init_163 (by decide) ?_
  refine pr_kArr2 (k := 26) (atype := .int) (ety := .int) (N' := 6001) (a0 := (6001, .inl (fun _ => 0))) hx hb hts prs_X prq_X prtt_X prtn_X hown hK hP hD hS hA rfl (by decide) (hts _ prjw_22) rfl rfl hin rfl (prtt_X 26 (by decide)) (hts _ prjw_3) rfl (fun _ => rfl) (by decide) (by decide) (by decide) (Nat.le_of_ble_eq_true rfl) (Nat.le_of_ble_eq_true rfl) prd_X_init_166 prd_X_init_168 (fun q18 c18 H locs g18 hg18 a18 ha18 t18 ht18 hK hP hD hS => ?_)
  refine lv_aload_n hx hb prd_X_init_171 rfl (lv_at hl 0 rfl) ?_
  refine lv_sipush (v := 250) hx hb prd_X_init_172 (by decide) ?_
  refine pr_kArr2 (k := 28) (atype := .int) (ety := .int) (N' := 250) (a0 := (250, .inl (fun _ => 0))) hx hb hts prs_X prq_X prtt_X prtn_X hown hK hP hD hS hA rfl (by decide) (hts _ prjw_23) rfl rfl hin rfl (prtt_X 28 (by decide)) (hts _ prjw_3) rfl (fun _ => rfl) (by decide) (by decide) (by decide) (Nat.le_of_ble_eq_true rfl) (Nat.le_of_ble_eq_true rfl) prd_X_init_175 prd_X_init_177 (fun q19 c19 H locs g19 hg19 a19 ha19 t19 ht19 hK hP hD hS => ?_)
  refine lv_aload_n hx hb prd_X_init_180 rfl (lv_at hl 0 rfl) ?_
  refine lv_sipush (v := 250) hx hb prd_X_init_181 (by decide) ?_
  refine pr_kArr2 (k := 29) (atype := .int) (ety := .int) (N' := 250) (a0 := (250, .inl (fun _ => 0))) hx hb hts prs_X prq_X prtt_X prtn_X hown hK hP hD hS hA rfl (by decide) (hts _ prjw_24) rfl rfl hin rfl (prtt_X 29 (by decide)) (hts _ prjw_3) rfl (fun _ => rfl) (by decide) (by decide) (by decide) (Nat.le_of_ble_eq_true rfl) (Nat.le_of_ble_eq_true rfl) prd_X_init_184 prd_X_init_186 (fun q20 c20 H locs g20 hg20 a20 ha20 t20 ht20 hK hP hD hS => ?_)
  refine lv_aload_n hx hb prd_X_init_189 rfl (lv_at hl 0 rfl) ?_
  refine lv_sipush (v := 250) hx hb prd_X_init_190 (by decide) ?_
  refine pr_kArr2 (k := 30) (atype := .int) (ety := .int) (N' := 250) (a0 := (250, .inl (fun _ => 0))) hx hb hts prs_X prq_X prtt_X prtn_X hown hK hP hD hS hA rfl (by decide) (hts _ prjw_25) rfl rfl hin rfl (prtt_X 30 (by decide)) (hts _ prjw_3) rfl (fun _ => rfl) (by decide) (by decide) (by decide) (Nat.le_of_ble_eq_true rfl) (Nat.le_of_ble_eq_true rfl) prd_X_init_193 prd_X_init_195 (fun q21 c21 H locs g21 hg21 a21 ha21 t21 ht21 hK hP hD hS => ?_)
  refine lv_aload_n hx hb prd_X_init_198 rfl (lv_at hl 0 rfl) ?_
  refine lv_sipush (v := 250) hx hb prd_X_init_199 (by decide) ?_
  refine pr_kArr2 (k := 31) (atype := .int) (ety := .int) (N' := 250) (a0 := (250, .inl (fun _ => 0))) hx hb hts prs_X prq_X prtt_X prtn_X hown hK hP hD hS hA rfl (by decide) (hts _ prjw_26) rfl rfl hin rfl (prtt_X 31 (by decide)) (hts _ prjw_3) rfl (fun _ => rfl) (by decide) (by decide) (by decide) (Nat.le_of_ble_eq_true rfl) (Nat.le_of_ble_eq_true rfl) prd_X_init_202 prd_X_init_204 (fun q22 c22 H locs g22 hg22 a22 ha22 t22 ht22 hK hP hD hS => ?_)
  refine lv_aload_n hx hb prd_X_init_207 rfl (lv_at hl 0 rfl) ?_
  refine lv_sipush (v := 250) hx hb prd_X_init_208 (by decide) ?_
  refine pr_kArr2 (k := 32) (atype := .int) (ety := .int) (N' := 250) (a0 := (250, .inl (fun _ => 0))) hx hb hts prs_X prq_X prtt_X prtn_X hown hK hP hD hS hA rfl (by decide) (hts _ prjw_27) rfl rfl hin rfl (prtt_X 32 (by decide)) (hts _ prjw_3) rfl (fun _ => rfl) (by decide) (by decide) (by decide) (Nat.le_of_ble_eq_true rfl) (Nat.le_of_ble_eq_true rfl) prd_X_init_211 prd_X_init_213 (fun q23 c23 H locs g23 hg23 a23 ha23 t23 ht23 hK hP hD hS => ?_)
  refine lv_aload_n hx hb prd_X_init_216 rfl (lv_at hl 0 rfl) ?_
  refine lv_sipush (v := 251) hx hb prd_X_init_217 (by decide) ?_
  refine pr_kArr2 (k := 34) (atype := .int) (ety := .int) (N' := 251) (a0 := (251, .inl (fun _ => 0))) hx hb hts prs_X prq_X prtt_X prtn_X hown hK hP hD hS hA rfl (by decide) (hts _ prjw_28) rfl rfl hin rfl (prtt_X 34 (by decide)) (hts _ prjw_3) rfl (fun _ => rfl) (by decide) (by decide) (by decide) (Nat.le_of_ble_eq_true rfl) (Nat.le_of_ble_eq_true rfl) prd_X_init_220 prd_X_init_222 (fun q24 c24 H locs g24 hg24 a24 ha24 t24 ht24 hK hP hD hS => ?_)
  refine lv_aload_n hx hb prd_X_init_225 rfl (lv_at hl 0 rfl) ?_
  refine lv_sipush (v := 10040) hx hb prd_X_init_226 (by decide) ?_
  refine pr_kArr2 (k := 35) (atype := .int) (ety := .int) (N' := 10040) (a0 := (10040, .inl (fun _ => 0))) hx hb hts prs_X prq_X prtt_X prtn_X hown hK hP hD hS hA rfl (by decide) (hts _ prjw_29) rfl rfl hin rfl (prtt_X 35 (by decide)) (hts _ prjw_3) rfl (fun _ => rfl) (by decide) (by decide) (by decide) (Nat.le_of_ble_eq_true rfl) (Nat.le_of_ble_eq_true rfl) prd_X_init_229 prd_X_init_231 (fun q25 c25 H locs g25 hg25 a25 ha25 t25 ht25 hK hP hD hS => ?_)
  refine lv_aload_n hx hb prd_X_init_234 rfl (lv_at hl 0 rfl) ?_
  refine lv_sipush (v := 10040) hx hb prd_X_init_235 (by decide) ?_
  refine pr_kArr2 (k := 36) (atype := .int) (ety := .int) (N' := 10040) (a0 := (10040, .inl (fun _ => 0))) hx hb hts prs_X prq_X prtt_X prtn_X hown hK hP hD hS hA rfl (by decide) (hts _ prjw_30) rfl rfl hin rfl (prtt_X 36 (by decide)) (hts _ prjw_3) rfl (fun _ => rfl) (by decide) (by decide) (by decide) (Nat.le_of_ble_eq_true rfl) (Nat.le_of_ble_eq_true rfl) prd_X_init_238 prd_X_init_240 (fun q26 c26 H locs g26 hg26 a26 ha26 t26 ht26 hK hP hD hS => ?_)
  refine lv_aload_n hx hb prd_X_init_243 rfl (lv_at hl 0 rfl) ?_
  refine lv_sipush (v := 10040) hx hb prd_X_init_244 (by decide) ?_
  refine pr_kArr2 (k := 37) (atype := .int) (ety := .int) (N' := 10040) (a0 := (10040, .inl (fun _ => 0))) hx hb hts prs_X prq_X prtt_X prtn_X hown hK hP hD hS hA rfl (by decide) (hts _ prjw_31) rfl rfl hin rfl (prtt_X 37 (by decide)) (hts _ prjw_3) rfl (fun _ => rfl) (by decide) (by decide) (by decide) (Nat.le_of_ble_eq_true rfl) (Nat.le_of_ble_eq_true rfl) prd_X_init_247 prd_X_init_249 (fun q27 c27 H locs g27 hg27 a27 ha27 t27 ht27 hK hP hD hS => ?_)
  refine lv_aload_n hx hb prd_X_init_252 rfl (lv_at hl 0 rfl) ?_
  refine lv_bipush (v := 40) hx hb prd_X_init_253 (by decide) ?_
  refine pr_kArr2 (k := 38) (atype := .int) (ety := .int) (N' := 40) (a0 := (40, .inl (fun _ => 0))) hx hb hts prs_X prq_X prtt_X prtn_X hown hK hP hD hS hA rfl (by decide) (hts _ prjw_32) rfl rfl hin rfl (prtt_X 38 (by decide)) (hts _ prjw_3) rfl (fun _ => rfl) (by decide) (by decide) (by decide) (Nat.le_of_ble_eq_true rfl) (Nat.le_of_ble_eq_true rfl) prd_X_init_255 prd_X_init_257 (fun q28 c28 H locs g28 hg28 a28 ha28 t28 ht28 hK hP hD hS => ?_)
  refine lv_aload_n hx hb prd_X_init_260 rfl (lv_at hl 0 rfl) ?_
  refine lv_bipush (v := 40) hx hb prd_X_init_261 (by decide) ?_
  refine pr_kArr2 (k := 39) (atype := .int) (ety := .int) (N' := 40) (a0 := (40, .inl (fun _ => 0))) hx hb hts prs_X prq_X prtt_X prtn_X hown hK hP hD hS hA rfl (by decide) (hts _ prjw_33) rfl rfl hin rfl (prtt_X 39 (by decide)) (hts _ prjw_3) rfl (fun _ => rfl) (by decide) (by decide) (by decide) (Nat.le_of_ble_eq_true rfl) (Nat.le_of_ble_eq_true rfl) prd_X_init_263 prd_X_init_265 (fun q29 c29 H locs g29 hg29 a29 ha29 t29 ht29 hK hP hD hS => ?_)
  refine lv_aload_n hx hb prd_X_init_268 rfl (lv_at hl 0 rfl) ?_
  refine lv_bipush (v := 40) hx hb prd_X_init_269 (by decide) ?_
  refine pr_kArr2 (k := 40) (atype := .int) (ety := .int) (N' := 40) (a0 := (40, .inl (fun _ => 0))) hx hb hts prs_X prq_X prtt_X prtn_X hown hK hP hD hS hA rfl (by decide) (hts _ prjw_34) rfl rfl hin rfl (prtt_X 40 (by decide)) (hts _ prjw_3) rfl (fun _ => rfl) (by decide) (by decide) (by decide) (Nat.le_of_ble_eq_true rfl) (Nat.le_of_ble_eq_true rfl) prd_X_init_271 prd_X_init_273 (fun q30 c30 H locs g30 hg30 a30 ha30 t30 ht30 hK hP hD hS => ?_)
  refine lv_aload_n hx hb prd_X_init_276 rfl (lv_at hl 0 rfl) ?_
  refine lv_bipush (v := 40) hx hb prd_X_init_277 (by decide) ?_
  refine pr_kArr2 (k := 41) (atype := .int) (ety := .int) (N' := 40) (a0 := (40, .inl (fun _ => 0))) hx hb hts prs_X prq_X prtt_X prtn_X hown hK hP hD hS hA rfl (by decide) (hts _ prjw_35) rfl rfl hin rfl (prtt_X 41 (by decide)) (hts _ prjw_3) rfl (fun _ => rfl) (by decide) (by decide) (by decide) (Nat.le_of_ble_eq_true rfl) (Nat.le_of_ble_eq_true rfl) prd_X_init_279 prd_X_init_281 (fun q31 c31 H locs g31 hg31 a31 ha31 t31 ht31 hK hP hD hS => ?_)
  refine lv_aload_n hx hb prd_X_init_284 rfl (lv_at hl 0 rfl) ?_
  refine lv_iconst (v := (-1)) hx hb prd_X_init_285 (by decide) ?_
  refine pr_kInt2 (k := 49) hx hb hts prs_X prq_X prtt_X prtn_X hown hK hP hD hS rfl (by decide) (hts _ prjw_36) rfl rfl (prtt_X 49 (by decide)) rfl rfl prd_X_init_286 (fun H locs gg2 hgg2 hP hD hS => ?_)
  refine lv_aload_n hx hb prd_X_init_289 rfl (lv_at hl 0 rfl) ?_
  refine lv_sipush (v := 400) hx hb prd_X_init_290 (by decide) ?_
  refine pr_kArr2 (k := 50) (atype := .int) (ety := .int) (N' := 400) (a0 := (400, .inl (fun _ => 0))) hx hb hts prs_X prq_X prtt_X prtn_X hown hK hP hD hS hA rfl (by decide) (hts _ prjw_37) rfl rfl hin rfl (prtt_X 50 (by decide)) (hts _ prjw_3) rfl (fun _ => rfl) (by decide) (by decide) (by decide) (Nat.le_of_ble_eq_true rfl) (Nat.le_of_ble_eq_true rfl) prd_X_init_293 prd_X_init_295 (fun q32 c32 H locs g32 hg32 a32 ha32 t32 ht32 hK hP hD hS => ?_)
  refine lv_aload_n hx hb prd_X_init_298 rfl (lv_at hl 0 rfl) ?_
  refine lv_bipush (v := 12) hx hb prd_X_init_299 (by decide) ?_
  refine pr_kArr2 (k := 52) (atype := .int) (ety := .int) (N' := 12) (a0 := (12, .inl (fun _ => 0))) hx hb hts prs_X prq_X prtt_X prtn_X hown hK hP hD hS hA rfl (by decide) (hts _ prjw_38) rfl rfl hin rfl (prtt_X 52 (by decide)) (hts _ prjw_3) rfl (fun _ => rfl) (by decide) (by decide) (by decide) (Nat.le_of_ble_eq_true rfl) (Nat.le_of_ble_eq_true rfl) prd_X_init_301 prd_X_init_303 (fun q33 c33 H locs g33 hg33 a33 ha33 t33 ht33 hK hP hD hS => ?_)
  refine lv_aload_n hx hb prd_X_init_306 rfl (lv_at hl 0 rfl) ?_
  refine lv_sipush (v := 384) hx hb prd_X_init_307 (by decide) ?_
  refine pr_kArr2 (k := 53) (atype := .int) (ety := .int) (N' := 384) (a0 := (384, .inl (fun _ => 0))) hx hb hts prs_X prq_X prtt_X prtn_X hown hK hP hD hS hA rfl (by decide) (hts _ prjw_39) rfl rfl hin rfl (prtt_X 53 (by decide)) (hts _ prjw_3) rfl (fun _ => rfl) (by decide) (by decide) (by decide) (Nat.le_of_ble_eq_true rfl) (Nat.le_of_ble_eq_true rfl) prd_X_init_310 prd_X_init_312 (fun q34 c34 H locs g34 hg34 a34 ha34 t34 ht34 hK hP hD hS => ?_)
  refine lv_aload_n hx hb prd_X_init_315 rfl (lv_at hl 0 rfl) ?_
  refine lv_bipush (v := 13) hx hb prd_X_init_316 (by decide) ?_
  refine pr_kArr2 (k := 54) (atype := .long) (ety := .long) (N' := 13) (a0 := (13, .inr (.inl (fun _ => 0)))) hx hb hts prs_X prq_X prtt_X prtn_X hown hK hP hD hS hA rfl (by decide) (hts _ prjw_41) rfl rfl hin rfl (prtt_X 54 (by decide)) (hts _ prjw_40) rfl (fun _ => rfl) (by decide) (by decide) (by decide) (Nat.le_of_ble_eq_true rfl) (Nat.le_of_ble_eq_true rfl) prd_X_init_318 prd_X_init_320 (fun q35 c35 H locs g35 hg35 a35 ha35 t35 ht35 hK hP hD hS => ?_)
  refine lv_aload_n hx hb prd_X_init_323 rfl (lv_at hl 0 rfl) ?_
  refine lv_bipush (v := 8) hx hb prd_X_init_324 (by decide) ?_
  refine va_newq (C := "java/lang/String") (N' := 8) hx hb hown (hts _ prjw_42) hZ.2.1 hK hP hD hS hA (by decide) (by decide) (by decide) (Nat.le_of_ble_eq_true rfl) (Nat.le_of_ble_eq_true rfl) prd_X_init_326 (fun qw cw H hK hP hD hS => ?_)
  have hK := pr_rotK hK
  have hP := pr_rotP hP
  have hD := pr_rotD hD
  refine lv_dup hx hb prd_X_init_329 rfl ?_
  refine lv_iconst (v := 0) hx hb prd_X_init_330 (by decide) ?_
  refine va_ldcS (own := prn_X) (tx := prs_tx 0) (q := K 0) hx hb hown (hZ.1 0 (by decide)) prd_X_init_331 ?_
  refine pr_kText hx hb hK hP hD hS (vk_recv (adK := fun i => (fun j => K (j - 1000)) (1000 + i)) (i := 0) hZ.2.2.1 (by decide) hS) (vp_in_nI (n := 0) (by decide) (by decide)) prd_X_init_333 (fun H locs f0 hf0 hP hD hS => ?_)
  refine lv_dup hx hb prd_X_init_334 rfl ?_
  refine lv_iconst (v := 1) hx hb prd_X_init_335 (by decide) ?_
  refine va_ldcS (own := prn_X) (tx := prs_tx 1) (q := K 1) hx hb hown (hZ.1 1 (by decide)) prd_X_init_336 ?_
  refine pr_kText hx hb hK hP hD hS (vk_recv (adK := fun i => (fun j => K (j - 1000)) (1000 + i)) (i := 1) hZ.2.2.1 (by decide) hS) (vp_in_nI (n := 1) (by decide) (by decide)) prd_X_init_338 (fun H locs f1 hf1 hP hD hS => ?_)
  refine lv_dup hx hb prd_X_init_339 rfl ?_
  refine lv_iconst (v := 2) hx hb prd_X_init_340 (by decide) ?_
  refine va_ldcS (own := prn_X) (tx := prs_tx 2) (q := K 2) hx hb hown (hZ.1 2 (by decide)) prd_X_init_341 ?_
  refine pr_kText hx hb hK hP hD hS (vk_recv (adK := fun i => (fun j => K (j - 1000)) (1000 + i)) (i := 2) hZ.2.2.1 (by decide) hS) (vp_in_nI (n := 2) (by decide) (by decide)) prd_X_init_343 (fun H locs f2 hf2 hP hD hS => ?_)
  refine lv_dup hx hb prd_X_init_344 rfl ?_
  refine lv_iconst (v := 3) hx hb prd_X_init_345 (by decide) ?_
  refine va_ldcS (own := prn_X) (tx := prs_tx 3) (q := K 3) hx hb hown (hZ.1 3 (by decide)) prd_X_init_346 ?_
  refine pr_kText hx hb hK hP hD hS (vk_recv (adK := fun i => (fun j => K (j - 1000)) (1000 + i)) (i := 3) hZ.2.2.1 (by decide) hS) (vp_in_nI (n := 3) (by decide) (by decide)) prd_X_init_348 (fun H locs f3 hf3 hP hD hS => ?_)
  refine lv_dup hx hb prd_X_init_349 rfl ?_
  refine lv_iconst (v := 4) hx hb prd_X_init_350 (by decide) ?_
  refine va_ldcS (own := prn_X) (tx := prs_tx 4) (q := K 4) hx hb hown (hZ.1 4 (by decide)) prd_X_init_351 ?_
  refine pr_kText hx hb hK hP hD hS (vk_recv (adK := fun i => (fun j => K (j - 1000)) (1000 + i)) (i := 4) hZ.2.2.1 (by decide) hS) (vp_in_nI (n := 4) (by decide) (by decide)) prd_X_init_353 (fun H locs f4 hf4 hP hD hS => ?_)
  refine lv_dup hx hb prd_X_init_354 rfl ?_
  refine lv_iconst (v := 5) hx hb prd_X_init_355 (by decide) ?_
  refine va_ldcS (own := prn_X) (tx := prs_tx 5) (q := K 5) hx hb hown (hZ.1 5 (by decide)) prd_X_init_356 ?_
  refine pr_kText hx hb hK hP hD hS (vk_recv (adK := fun i => (fun j => K (j - 1000)) (1000 + i)) (i := 5) hZ.2.2.1 (by decide) hS) (vp_in_nI (n := 5) (by decide) (by decide)) prd_X_init_358 (fun H locs f5 hf5 hP hD hS => ?_)
  refine lv_dup hx hb prd_X_init_359 rfl ?_
  refine lv_bipush (v := 6) hx hb prd_X_init_360 (by decide) ?_
  refine va_ldcS (own := prn_X) (tx := prs_tx 6) (q := K 6) hx hb hown (hZ.1 6 (by decide)) prd_X_init_362 ?_
  refine pr_kText hx hb hK hP hD hS (vk_recv (adK := fun i => (fun j => K (j - 1000)) (1000 + i)) (i := 6) hZ.2.2.1 (by decide) hS) (vp_in_nI (n := 6) (by decide) (by decide)) prd_X_init_364 (fun H locs f6 hf6 hP hD hS => ?_)
  refine lv_dup hx hb prd_X_init_365 rfl ?_
  refine lv_bipush (v := 7) hx hb prd_X_init_366 (by decide) ?_
  refine va_ldcS (own := prn_X) (tx := prs_tx 7) (q := K 7) hx hb hown (hZ.1 7 (by decide)) prd_X_init_368 ?_
  refine pr_kText hx hb hK hP hD hS (vk_recv (adK := fun i => (fun j => K (j - 1000)) (1000 + i)) (i := 7) hZ.2.2.1 (by decide) hS) (vp_in_nI (n := 7) (by decide) (by decide)) prd_X_init_370 (fun H locs f7 hf7 hP hD hS => ?_)
  refine pr_kRef2 (k := 0) hx hb hts prs_X prq_X prtt_X prtn_X hown hK hP hD hS rfl (by decide) (hts _ prjw_43) rfl rfl hin rfl (prtt_X 0 (by decide)) rfl rfl prd_X_init_371 (fun H locs gg3 hgg3 hP hD hS => ?_)
  refine lv_aload_n hx hb prd_X_init_374 rfl (lv_at hl 0 rfl) ?_
  obtain ⟨us, hus⟩ : ∃ us : List (Nat × ClassId), us = [(h0, 0), (qw, cw), (q1, c1), (q2, c2), (q3, c3), (q4, c4), (q5, c5), (q6, c6), (q7, c7), (q8, c8), (q9, c9), (q10, c10), (q11, c11), (q12, c12), (q13, c13), (q14, c14), (q15, c15), (q16, c16), (q17, c17), (q18, c18), (q19, c19), (q20, c20), (q21, c21), (q22, c22), (q23, c23), (q24, c24), (q25, c25), (q26, c26), (q27, c27), (q28, c28), (q29, c29), (q30, c30), (q31, c31), (q32, c32), (q33, c33), (q34, c34), (q35, c35)] := ⟨_, rfl⟩
  have eA : a35 = ([(q35, .inl (c35, (13, .inr (.inl (fun _ => 0))))), (q34, .inl (c34, (384, .inl (fun _ => 0)))), (q33, .inl (c33, (12, .inl (fun _ => 0)))), (q32, .inl (c32, (400, .inl (fun _ => 0)))), (q31, .inl (c31, (40, .inl (fun _ => 0)))), (q30, .inl (c30, (40, .inl (fun _ => 0)))), (q29, .inl (c29, (40, .inl (fun _ => 0)))), (q28, .inl (c28, (40, .inl (fun _ => 0)))), (q27, .inl (c27, (10040, .inl (fun _ => 0)))), (q26, .inl (c26, (10040, .inl (fun _ => 0)))), (q25, .inl (c25, (10040, .inl (fun _ => 0)))), (q24, .inl (c24, (251, .inl (fun _ => 0)))), (q23, .inl (c23, (250, .inl (fun _ => 0)))), (q22, .inl (c22, (250, .inl (fun _ => 0)))), (q21, .inl (c21, (250, .inl (fun _ => 0)))), (q20, .inl (c20, (250, .inl (fun _ => 0)))), (q19, .inl (c19, (250, .inl (fun _ => 0)))), (q18, .inl (c18, (6001, .inl (fun _ => 0)))), (q17, .inl (c17, (12000, .inl (fun _ => 0)))), (q16, .inl (c16, (13000, .inl (fun _ => 0)))), (q15, .inl (c15, (13000, .inl (fun _ => 0)))), (q14, .inl (c14, (13000, .inl (fun _ => 0)))), (q13, .inl (c13, (13000, .inl (fun _ => 0)))), (q12, .inl (c12, (13000, .inl (fun _ => 0)))), (q11, .inl (c11, (26000, .inl (fun _ => 0)))), (q10, .inl (c10, (26000, .inl (fun _ => 0)))), (q9, .inl (c9, (26000, .inl (fun _ => 0)))), (q8, .inl (c8, (26000, .inl (fun _ => 0)))), (q7, .inl (c7, (26000, .inl (fun _ => 0)))), (q6, .inl (c6, (26000, .inl (fun _ => 0)))), (q5, .inl (c5, (26000, .inl (fun _ => 0)))), (q4, .inl (c4, (8002, .inl (fun _ => 0)))), (q3, .inl (c3, (8002, .inl (fun _ => 0)))), (q2, .inl (c2, (8002, .inl (fun _ => 0)))), (q1, .inl (c1, (8000, .inl (fun _ => 0))))] : va_W) := by rw [ha35, ha34, ha33, ha32, ha31, ha30, ha29, ha28, ha27, ha26, ha25, ha24, ha23, ha22, ha21, ha20, ha19, ha18, ha17, ha16, ha15, ha14, ha13, ha12, ha11, ha10, ha9, ha8, ha7, ha6, ha5, ha4, ha3, ha2, ha1]
  have eT : t35 = ([(c35, .long), (c34, .int), (c33, .int), (c32, .int), (c31, .int), (c30, .int), (c29, .int), (c28, .int), (c27, .int), (c26, .int), (c25, .int), (c24, .int), (c23, .int), (c22, .int), (c21, .int), (c20, .int), (c19, .int), (c18, .int), (c17, .int), (c16, .int), (c15, .int), (c14, .int), (c13, .int), (c12, .int), (c11, .int), (c10, .int), (c9, .int), (c8, .int), (c7, .int), (c6, .int), (c5, .int), (c4, .int), (c3, .int), (c2, .int), (c1, .int)] : List (ClassId × FieldType)) := by rw [ht35, ht34, ht33, ht32, ht31, ht30, ht29, ht28, ht27, ht26, ht25, ht24, ht23, ht22, ht21, ht20, ht19, ht18, ht17, ht16, ht15, ht14, ht13, ht12, ht11, ht10, ht9, ht8, ht7, ht6, ht5, ht4, ht3, ht2, ht1]
  have eG : (List.range 60).map gg3 = pr_fs prx_L (prXad h0 us K) prIs_X 0 := by rw [hgg3, hg35, hg34, hg33, hg32, hgg2, hg31, hg30, hg29, hg28, hg27, hg26, hg25, hg24, hg23, hg22, hg21, hg20, hg19, hg18, hg17, hg16, hg15, hg14, hg13, hg12, hg11, hg10, hg9, hg8, hg7, hg6, hg5, hgg1, hg4, hg3, hg2, hg1, hus]; rfl
  have eF : ∀ k, k < 8 → f7 k = (fun k => some (prXad h0 us K (1000 + k))) k := by intro k hk; rw [hf7, hf6, hf5, hf4, hf3, hf2, hf1, hf0]; rcases k with _ | _ | _ | _ | _ | _ | _ | _ | k <;> first | rfl | omega
  rw [eG] at hP hD
  have hP1 := prXtext (g := fun k => some (prXad h0 us K (1000 + k))) 1 rfl hP eF
  have hD1 := prDset (y := .inl (cw, 8, .inr (.inr (.inr (.inr (fun k => some (prXad h0 us K (1000 + k)))))))) 1 rfl hD
  have hP1 : va_P D pr_cl ((h0, .inr (8, pr_fs prx_L (prXad h0 us K) prIs_X 0)) :: (qw, .inl (cw, 8, .inr (.inr (.inr (.inr (fun k => some (prXad h0 us K (1000 + k)))))))) :: a35) H := hP1
  have hD1 : va_D (va_A [(h0, prIx_X)] s.heap.size) ((h0, .inr (8, pr_fs prx_L (prXad h0 us K) prIs_X 0)) :: (qw, .inl (cw, 8, .inr (.inr (.inr (.inr (fun k => some (prXad h0 us K (1000 + k)))))))) :: a35) := hD1
  rw [eA] at hP1 hD1
  rw [eT] at hK
  clear eF eG eA eT hP hD
  have hP : va_P D pr_cl (pr_w prx_L (prXad h0 us K) (prXdA us) prIs_X) H := by rw [hus] at hP1 ⊢; exact hP1.sub [0, 1, 36, 35, 34, 33, 32, 31, 30, 29, 28, 27, 26, 25, 24, 23, 22, 21, 20, 19, 18, 17, 16, 15, 14, 13, 12, 11, 10, 9, 8, 7, 6, 5, 4, 3, 2] rfl
  have hD : va_D (va_A [(h0, prIx_X)] s.heap.size) (pr_w prx_L (prXad h0 us K) (prXdA us) prIs_X) := by rw [hus] at hD1 ⊢; exact hD1.sub [0, 1, 36, 35, 34, 33, 32, 31, 30, 29, 28, 27, 26, 25, 24, 23, 22, 21, 20, 19, 18, 17, 16, 15, 14, 13, 12, 11, 10, 9, 8, 7, 6, 5, 4, 3, 2] (by decide) rfl
  have hK : va_K D pr_cl (pr_t prx_L (prXdA us)) s := by rw [hus]; exact hK.sub [0, 35, 34, 33, 32, 31, 30, 29, 28, 27, 26, 25, 24, 23, 22, 21, 20, 19, 18, 17, 16, 15, 14, 13, 12, 11, 10, 9, 8, 7, 6, 5, 4, 3, 2, 1] rfl
  have hY : prY (prXad h0 us K) v r (va_A [(h0, prIx_X)] s.heap.size) s := prXY hZ.2.2
  have h00 : Value.ref h0 = Value.ref (prXad h0 us K 0) := by rw [hus]; rfl
  rw [h00]
  refine pr_lwVv (As := []) (rest := []) (res := prIs_X1) (A := va_A [(h0, prIx_X)] s.heap.size) (A0 := va_A [(h0, prIx_X)] s.heap.size) (ad := prXad h0 us K) ⟨hx, hb, hml, hown, hts⟩ 0 (prc_X_nothing (fun τ => pr_w_D hD) prY_ok 0 (Nat.le_refl _) prIs_X prIs_X1 prIs_X1_eq) (pr_cwV 0 hts prjw_44 prjw_45 prjw_46 prjw_47 prjw_48 rfl rfl (by decide +kernel) ⟨Nat.le_of_ble_eq_true rfl, Nat.le_of_ble_eq_true rfl⟩) prY_ok hY (fun q h => h) (fun q h => Or.inr h) hK hP hS (by decide) rfl rfl rfl rfl hl.1 (Nat.le_of_ble_eq_true rfl) prd_X_init_375 ⟨Nat.le_of_ble_eq_true rfl, Nat.le_of_ble_eq_true rfl⟩ (fun H locs hP _ hS => ?_)
  exact pr_kEnd (Wc := prIw_X K h0) (Tc := prIt_X) us hx hb hr hlk hP hK (pr_w_D hD) hS (Nat.le_of_ble_eq_true rfl) (Nat.le_of_ble_eq_true rfl) prd_X_init_378
