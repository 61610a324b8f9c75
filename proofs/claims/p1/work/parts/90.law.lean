/-! THE CLAIM OUT OF ONE WALK OF THE LAW'S BODY. Your part is whole_start (and what it stands on); all else here is the same for every law, but numbers. -/
def R_law : String := "ProgramRunsLaw"
def lw_P (b : Addr) (xs : List Int32) (args : Array Value) (s : State) : Prop := args = #[.ref b] ∧ s.IntsAt b xs ∧ xs.length ≤ 6 ∧ (Jvm.Cond.and given_1 narrow_1).before args s = true
def lw_Q (_ : Array Value) (s : State) (o : Outcome) (t : State) : Prop := o = .returned (some (.int 1)) ∧ Framed s o t [] 600000 7302250
def lw_Z (below : List Frame) (a : Array Value) (s : State) : State → Prop := fun t => ∃ o, t.status = .running ∧ Ended t below o ∧ lw_Q a s o t
/-- the law's own end, with 1 on the stack, nothing written that was there before, its room as the claim has it -/
theorem lw_ret {p : Program} {l : Launch} {e : Env} {s : State} {m : MethodId} {below : List Frame} {meth : Method} {c : Code} {b : Nat} (hx : p.tables.exec = Jvm.exec) (hb : c.code = code) (hr : meth.sig.returnType = ret) (hlocks : meth.locks = false) {pc : Nat} {H : Heap} {ls : Array Slot} (hdg : decode code pc = .ok (.ireturn, 1)) : W p l e room_1 s m #[Value.ref b] below meth c H [] 600000 7302250 (lw_Z below #[Value.ref b] s) (F0 m pc ls [.int 1]) := by
  intro T hT X
  obtain ⟨fs, hret, hrun, hended, hW, hframe⟩ := X.leave (v := some (.int 1)) (hlocks := hlocks) (fun h => by rw [hr] at h; cases h)
  have hmeth' : T.vm.method? m = some meth := X.method'
  refine ⟨T.setFrames fs, ?_, .returned (some (.int 1)), hrun, hended, rfl, ⟨_, rfl⟩, hW, hframe⟩
  jvm_step X.here [X.here.top, hx, hb, hdg, hmeth', hr, ret, narrow_b1]
  (try refine ⟨rfl, ?_⟩); (try refine ⟨rfl, ?_⟩)
  first | (intro acts; rw [hret _ acts rfl rfl rfl]) | rw [hret _ _ rfl rfl rfl]
  exact Steps.refl _
/-- what holds at the law's entry: the machine, the code, the tables' words (any of lw_tbl by 'hts w (by decide +kernel)'), the script of L ints xs at the cell b, what the Statement gives of the start (any of its parts by flat_of_before) -/
def lw_At (p : Program) (s : State) (m : MethodId) (meth : Method) (c : Code) (b L : Nat) (xs : Nat → Int32) : Prop :=
  p.tables.exec = Jvm.exec ∧ c.code = code ∧ meth.sig.returnType = ret ∧ c.maxLocals = 4 ∧ s.vm.findClass R_law = some m.cls ∧ (∀ w ∈ lw_tbl, w.before #[Value.ref b] s = true) ∧ va_X b L xs s s.heap ∧ b < s.heap.size ∧ meth.locks = false ∧ (Jvm.Cond.and given_1 narrow_1).before #[Value.ref b] s = true
theorem prlw_0 : (Cond.methodLink prn_W 13 pry_P_feed) ∈ pr_U := pr_inU (lw_in2 (List.mem_of_getElem? (i := 94) rfl)) rfl
theorem prlw_1 : (Cond.instanceMethod pry_P_feed) ∈ pr_U := pr_inU (lw_in2 (List.mem_of_getElem? (i := 95) rfl)) rfl
theorem prlw_2 : (Cond.selects prn_P pry_P_feed pry_P_feed) ∈ pr_U := pr_inU (lw_in2 (List.mem_of_getElem? (i := 96) rfl)) rfl
theorem prlw_3 : (Cond.initialized prn_P) ∈ pr_U := pr_inU (lw_in1 (List.mem_of_getElem? (i := 1) rfl)) rfl
theorem prlw_4 : (Cond.code pry_P_feed prb_P_feed 6 (some .int)) ∈ pr_U := pr_inU (lw_in2 (List.mem_of_getElem? (i := 97) rfl)) rfl
theorem prlw_5 : (Cond.methodLink prn_W 17 pry_X_feed) ∈ pr_U := pr_inU (lw_in6 (List.mem_of_getElem? (i := 76) rfl)) rfl
theorem prlw_6 : (Cond.instanceMethod pry_X_feed) ∈ pr_U := pr_inU (lw_in6 (List.mem_of_getElem? (i := 77) rfl)) rfl
theorem prlw_7 : (Cond.selects prn_X pry_X_feed pry_X_feed) ∈ pr_U := pr_inU (lw_in6 (List.mem_of_getElem? (i := 78) rfl)) rfl
theorem prlw_8 : (Cond.initialized prn_X) ∈ pr_U := pr_inU (lw_in1 (List.mem_of_getElem? (i := 9) rfl)) rfl
theorem prlw_9 : (Cond.code pry_X_feed prb_X_feed 8 (some .int)) ∈ pr_U := pr_inU (lw_in6 (List.mem_of_getElem? (i := 79) rfl)) rfl
theorem prlw_10 : (Cond.methodLink prn_W 18 pry_P_end) ∈ pr_U := pr_inU (lw_in2 (List.mem_of_getElem? (i := 106) rfl)) rfl
theorem prlw_11 : (Cond.instanceMethod pry_P_end) ∈ pr_U := pr_inU (lw_in2 (List.mem_of_getElem? (i := 107) rfl)) rfl
theorem prlw_12 : (Cond.selects prn_P pry_P_end pry_P_end) ∈ pr_U := pr_inU (lw_in2 (List.mem_of_getElem? (i := 108) rfl)) rfl
theorem prlw_13 : (Cond.code pry_P_end prb_P_end 2 (some .int)) ∈ pr_U := pr_inU (lw_in2 (List.mem_of_getElem? (i := 109) rfl)) rfl
theorem prlw_14 : (Cond.methodLink prn_W 22 pry_X_end) ∈ pr_U := pr_inU (lw_in6 (List.mem_of_getElem? (i := 80) rfl)) rfl
theorem prlw_15 : (Cond.instanceMethod pry_X_end) ∈ pr_U := pr_inU (lw_in6 (List.mem_of_getElem? (i := 81) rfl)) rfl
theorem prlw_16 : (Cond.selects prn_X pry_X_end pry_X_end) ∈ pr_U := pr_inU (lw_in6 (List.mem_of_getElem? (i := 82) rfl)) rfl
theorem prlw_17 : (Cond.code pry_X_end prb_X_end 3 (some .int)) ∈ pr_U := pr_inU (lw_in6 (List.mem_of_getElem? (i := 83) rfl)) rfl
theorem prlw_18 : (Cond.methodLink prn_W 23 pry_P_told) ∈ pr_U := pr_inU (lw_in4 (List.mem_of_getElem? (i := 136) rfl)) rfl
theorem prlw_19 : (Cond.instanceMethod pry_P_told) ∈ pr_U := pr_inU (lw_in4 (List.mem_of_getElem? (i := 137) rfl)) rfl
theorem prlw_20 : (Cond.selects prn_P pry_P_told pry_P_told) ∈ pr_U := pr_inU (lw_in4 (List.mem_of_getElem? (i := 138) rfl)) rfl
theorem prlw_21 : (Cond.code pry_P_told prb_P_told 2 (some .int)) ∈ pr_U := pr_inU (lw_in4 (List.mem_of_getElem? (i := 139) rfl)) rfl
theorem prlw_22 : (Cond.methodLink prn_W 26 pry_X_told) ∈ pr_U := pr_inU (lw_in7 (List.mem_of_getElem? (i := 81) rfl)) rfl
theorem prlw_23 : (Cond.instanceMethod pry_X_told) ∈ pr_U := pr_inU (lw_in7 (List.mem_of_getElem? (i := 82) rfl)) rfl
theorem prlw_24 : (Cond.selects prn_X pry_X_told pry_X_told) ∈ pr_U := pr_inU (lw_in7 (List.mem_of_getElem? (i := 83) rfl)) rfl
theorem prlw_25 : (Cond.code pry_X_told prb_X_told 2 (some .int)) ∈ pr_U := pr_inU (lw_in7 (List.mem_of_getElem? (i := 84) rfl)) rfl
theorem prlw_26 : (Cond.methodLink prn_W 27 pry_P_points) ∈ pr_U := pr_inU (lw_in4 (List.mem_of_getElem? (i := 140) rfl)) rfl
theorem prlw_27 : (Cond.instanceMethod pry_P_points) ∈ pr_U := pr_inU (lw_in4 (List.mem_of_getElem? (i := 141) rfl)) rfl
theorem prlw_28 : (Cond.selects prn_P pry_P_points pry_P_points) ∈ pr_U := pr_inU (lw_in4 (List.mem_of_getElem? (i := 142) rfl)) rfl
theorem prlw_29 : (Cond.code pry_P_points prb_P_points 1 (some .int)) ∈ pr_U := pr_inU (lw_in4 (List.mem_of_getElem? (i := 143) rfl)) rfl
theorem prlw_30 : (Cond.methodLink prn_W 31 pry_X_points) ∈ pr_U := pr_inU (lw_in7 (List.mem_of_getElem? (i := 85) rfl)) rfl
theorem prlw_31 : (Cond.instanceMethod pry_X_points) ∈ pr_U := pr_inU (lw_in7 (List.mem_of_getElem? (i := 86) rfl)) rfl
theorem prlw_32 : (Cond.selects prn_X pry_X_points pry_X_points) ∈ pr_U := pr_inU (lw_in7 (List.mem_of_getElem? (i := 87) rfl)) rfl
theorem prlw_33 : (Cond.code pry_X_points prb_X_points 1 (some .int)) ∈ pr_U := pr_inU (lw_in7 (List.mem_of_getElem? (i := 88) rfl)) rfl
theorem prlw_34 : (Cond.methodLink prn_W 32 pry_P_point) ∈ pr_U := pr_inU (lw_in4 (List.mem_of_getElem? (i := 145) rfl)) rfl
theorem prlw_35 : (Cond.instanceMethod pry_P_point) ∈ pr_U := pr_inU (lw_in4 (List.mem_of_getElem? (i := 146) rfl)) rfl
theorem prlw_36 : (Cond.selects prn_P pry_P_point pry_P_point) ∈ pr_U := pr_inU (lw_in4 (List.mem_of_getElem? (i := 147) rfl)) rfl
theorem prlw_37 : (Cond.code pry_P_point prb_P_point 3 (some .int)) ∈ pr_U := pr_inU (lw_in4 (List.mem_of_getElem? (i := 148) rfl)) rfl
theorem prlw_38 : (Cond.methodLink prn_W 36 pry_X_point) ∈ pr_U := pr_inU (lw_in7 (List.mem_of_getElem? (i := 89) rfl)) rfl
theorem prlw_39 : (Cond.instanceMethod pry_X_point) ∈ pr_U := pr_inU (lw_in7 (List.mem_of_getElem? (i := 90) rfl)) rfl
theorem prlw_40 : (Cond.selects prn_X pry_X_point pry_X_point) ∈ pr_U := pr_inU (lw_in7 (List.mem_of_getElem? (i := 91) rfl)) rfl
theorem prlw_41 : (Cond.code pry_X_point prb_X_point 5 (some .int)) ∈ pr_U := pr_inU (lw_in7 (List.mem_of_getElem? (i := 92) rfl)) rfl
theorem prlw_42 : (Cond.methodLink prn_W 37 pry_P_input) ∈ pr_U := pr_inU (lw_in4 (List.mem_of_getElem? (i := 160) rfl)) rfl
theorem prlw_43 : (Cond.instanceMethod pry_P_input) ∈ pr_U := pr_inU (lw_in4 (List.mem_of_getElem? (i := 161) rfl)) rfl
theorem prlw_44 : (Cond.selects prn_P pry_P_input pry_P_input) ∈ pr_U := pr_inU (lw_in4 (List.mem_of_getElem? (i := 162) rfl)) rfl
theorem prlw_45 : (Cond.code pry_P_input prb_P_input 2 (some .int)) ∈ pr_U := pr_inU (lw_in4 (List.mem_of_getElem? (i := 163) rfl)) rfl
theorem prlw_46 : (Cond.methodLink prn_W 40 pry_X_input) ∈ pr_U := pr_inU (lw_in7 (List.mem_of_getElem? (i := 97) rfl)) rfl
theorem prlw_47 : (Cond.instanceMethod pry_X_input) ∈ pr_U := pr_inU (lw_in7 (List.mem_of_getElem? (i := 98) rfl)) rfl
theorem prlw_48 : (Cond.selects prn_X pry_X_input pry_X_input) ∈ pr_U := pr_inU (lw_in7 (List.mem_of_getElem? (i := 99) rfl)) rfl
theorem prlw_49 : (Cond.code pry_X_input prb_X_input 2 (some .int)) ∈ pr_U := pr_inU (lw_in7 (List.mem_of_getElem? (i := 100) rfl)) rfl
theorem prlw_50 : (Cond.methodLink prn_W 41 pry_P_drop) ∈ pr_U := pr_inU (lw_in4 (List.mem_of_getElem? (i := 168) rfl)) rfl
theorem prlw_51 : (Cond.instanceMethod pry_P_drop) ∈ pr_U := pr_inU (lw_in4 (List.mem_of_getElem? (i := 169) rfl)) rfl
theorem prlw_52 : (Cond.selects prn_P pry_P_drop pry_P_drop) ∈ pr_U := pr_inU (lw_in4 (List.mem_of_getElem? (i := 170) rfl)) rfl
theorem prlw_53 : (Cond.code pry_P_drop prb_P_drop 1 (some .int)) ∈ pr_U := pr_inU (lw_in4 (List.mem_of_getElem? (i := 171) rfl)) rfl
theorem prlw_54 : (Cond.methodLink prn_W 44 pry_X_drop) ∈ pr_U := pr_inU (lw_in7 (List.mem_of_getElem? (i := 101) rfl)) rfl
theorem prlw_55 : (Cond.instanceMethod pry_X_drop) ∈ pr_U := pr_inU (lw_in7 (List.mem_of_getElem? (i := 102) rfl)) rfl
theorem prlw_56 : (Cond.selects prn_X pry_X_drop pry_X_drop) ∈ pr_U := pr_inU (lw_in7 (List.mem_of_getElem? (i := 103) rfl)) rfl
theorem prlw_57 : (Cond.code pry_X_drop prb_X_drop 2 (some .int)) ∈ pr_U := pr_inU (lw_in7 (List.mem_of_getElem? (i := 104) rfl)) rfl
theorem prlw_58 : (Cond.methodLink prn_W 45 pry_P_run) ∈ pr_U := pr_inU (lw_in4 (List.mem_of_getElem? (i := 176) rfl)) rfl
theorem prlw_59 : (Cond.instanceMethod pry_P_run) ∈ pr_U := pr_inU (lw_in4 (List.mem_of_getElem? (i := 177) rfl)) rfl
theorem prlw_60 : (Cond.selects prn_P pry_P_run pry_P_run) ∈ pr_U := pr_inU (lw_in4 (List.mem_of_getElem? (i := 178) rfl)) rfl
theorem prlw_61 : (Cond.code pry_P_run prb_P_run 2 (some .int)) ∈ pr_U := pr_inU (lw_in4 (List.mem_of_getElem? (i := 179) rfl)) rfl
theorem prlw_62 : (Cond.methodLink prn_W 48 pry_X_run) ∈ pr_U := pr_inU (lw_in7 (List.mem_of_getElem? (i := 105) rfl)) rfl
theorem prlw_63 : (Cond.instanceMethod pry_X_run) ∈ pr_U := pr_inU (lw_in7 (List.mem_of_getElem? (i := 106) rfl)) rfl
theorem prlw_64 : (Cond.selects prn_X pry_X_run pry_X_run) ∈ pr_U := pr_inU (lw_in7 (List.mem_of_getElem? (i := 107) rfl)) rfl
theorem prlw_65 : (Cond.code pry_X_run prb_X_run 3 (some .int)) ∈ pr_U := pr_inU (lw_in7 (List.mem_of_getElem? (i := 108) rfl)) rfl
theorem prlw_66 : (Cond.methodLink prn_W 49 pry_P_ran) ∈ pr_U := pr_inU (lw_in5 (List.mem_of_getElem? (i := 82) rfl)) rfl
theorem prlw_67 : (Cond.instanceMethod pry_P_ran) ∈ pr_U := pr_inU (lw_in5 (List.mem_of_getElem? (i := 83) rfl)) rfl
theorem prlw_68 : (Cond.selects prn_P pry_P_ran pry_P_ran) ∈ pr_U := pr_inU (lw_in5 (List.mem_of_getElem? (i := 84) rfl)) rfl
theorem prlw_69 : (Cond.code pry_P_ran prb_P_ran 2 (some .int)) ∈ pr_U := pr_inU (lw_in5 (List.mem_of_getElem? (i := 85) rfl)) rfl
theorem prlw_70 : (Cond.methodLink prn_W 52 pry_X_ran) ∈ pr_U := pr_inU (lw_in7 (List.mem_of_getElem? (i := 157) rfl)) rfl
theorem prlw_71 : (Cond.instanceMethod pry_X_ran) ∈ pr_U := pr_inU (lw_in7 (List.mem_of_getElem? (i := 158) rfl)) rfl
theorem prlw_72 : (Cond.selects prn_X pry_X_ran pry_X_ran) ∈ pr_U := pr_inU (lw_in7 (List.mem_of_getElem? (i := 159) rfl)) rfl
theorem prlw_73 : (Cond.code pry_X_ran prb_X_ran 2 (some .int)) ∈ pr_U := pr_inU (lw_in7 (List.mem_of_getElem? (i := 160) rfl)) rfl
theorem prlw_74 : (Cond.methodLink prn_W 53 pry_P_value) ∈ pr_U := pr_inU (lw_in5 (List.mem_of_getElem? (i := 98) rfl)) rfl
theorem prlw_75 : (Cond.instanceMethod pry_P_value) ∈ pr_U := pr_inU (lw_in5 (List.mem_of_getElem? (i := 99) rfl)) rfl
theorem prlw_76 : (Cond.selects prn_P pry_P_value pry_P_value) ∈ pr_U := pr_inU (lw_in5 (List.mem_of_getElem? (i := 100) rfl)) rfl
theorem prlw_77 : (Cond.code pry_P_value prb_P_value 2 (some .int)) ∈ pr_U := pr_inU (lw_in5 (List.mem_of_getElem? (i := 101) rfl)) rfl
theorem prlw_78 : (Cond.methodLink prn_W 56 pry_X_value) ∈ pr_U := pr_inU (lw_in7 (List.mem_of_getElem? (i := 161) rfl)) rfl
theorem prlw_79 : (Cond.instanceMethod pry_X_value) ∈ pr_U := pr_inU (lw_in7 (List.mem_of_getElem? (i := 162) rfl)) rfl
theorem prlw_80 : (Cond.selects prn_X pry_X_value pry_X_value) ∈ pr_U := pr_inU (lw_in7 (List.mem_of_getElem? (i := 163) rfl)) rfl
theorem prlw_81 : (Cond.code pry_X_value prb_X_value 2 (some .int)) ∈ pr_U := pr_inU (lw_in7 (List.mem_of_getElem? (i := 164) rfl)) rfl
theorem prlw_82 : (Cond.methodLink prn_W 57 pry_P_place) ∈ pr_U := pr_inU (lw_in5 (List.mem_of_getElem? (i := 106) rfl)) rfl
theorem prlw_83 : (Cond.instanceMethod pry_P_place) ∈ pr_U := pr_inU (lw_in5 (List.mem_of_getElem? (i := 107) rfl)) rfl
theorem prlw_84 : (Cond.selects prn_P pry_P_place pry_P_place) ∈ pr_U := pr_inU (lw_in5 (List.mem_of_getElem? (i := 108) rfl)) rfl
theorem prlw_85 : (Cond.code pry_P_place prb_P_place 3 (some .int)) ∈ pr_U := pr_inU (lw_in5 (List.mem_of_getElem? (i := 109) rfl)) rfl
theorem prlw_86 : (Cond.methodLink prn_W 60 pry_X_place) ∈ pr_U := pr_inU (lw_in7 (List.mem_of_getElem? (i := 165) rfl)) rfl
theorem prlw_87 : (Cond.instanceMethod pry_X_place) ∈ pr_U := pr_inU (lw_in7 (List.mem_of_getElem? (i := 166) rfl)) rfl
theorem prlw_88 : (Cond.selects prn_X pry_X_place pry_X_place) ∈ pr_U := pr_inU (lw_in7 (List.mem_of_getElem? (i := 167) rfl)) rfl
theorem prlw_89 : (Cond.code pry_X_place prb_X_place 3 (some .int)) ∈ pr_U := pr_inU (lw_in7 (List.mem_of_getElem? (i := 168) rfl)) rfl
theorem prlw_90 : (Cond.methodLink prn_W 9 pry_P_init) ∈ pr_U := pr_inU (lw_in1 (List.mem_of_getElem? (i := 17) rfl)) rfl
theorem prlw_91 : (Cond.methodLink prn_W 12 pry_X_init) ∈ pr_U := pr_inU (lw_in5 (List.mem_of_getElem? (i := 116) rfl)) rfl
theorem prlw_92 : (Cond.classLink prn_W 7 prn_P) ∈ pr_U := pr_inU (lw_in1 (List.mem_of_getElem? (i := 15) rfl)) rfl
theorem prlw_93 : (Cond.classLink prn_W 10 prn_X) ∈ pr_U := pr_inU (lw_in5 (List.mem_of_getElem? (i := 114) rfl)) rfl
theorem prlw_94 : (Cond.instantiable prn_P 8) ∈ pr_U := pr_inU (lw_in1 (List.mem_of_getElem? (i := 16) rfl)) rfl
theorem prlw_95 : (Cond.instantiable prn_X 60) ∈ pr_U := pr_inU (lw_in5 (List.mem_of_getElem? (i := 115) rfl)) rfl
theorem prlw_96 : (Cond.instantiable prn_T 7) ∈ pr_U := pr_inU (lw_in1 (List.mem_of_getElem? (i := 82) rfl)) rfl
theorem prlw_97 : (Cond.instantiable prn_G 16) ∈ pr_U := pr_inU (lw_in1 (List.mem_of_getElem? (i := 24) rfl)) rfl
theorem prlw_98 : (Cond.instantiable prn_R 4) ∈ pr_U := pr_inU (lw_in1 (List.mem_of_getElem? (i := 110) rfl)) rfl
theorem prlw_99 : (Cond.instantiable prn_O 15) ∈ pr_U := pr_inU (lw_in1 (List.mem_of_getElem? (i := 129) rfl)) rfl
theorem prlw_100 : (Cond.instantiable prn_S 6) ∈ pr_U := pr_inU (lw_in1 (List.mem_of_getElem? (i := 187) rfl)) rfl
theorem prlw_101 : (Cond.instantiable prn_Y 16) ∈ pr_U := pr_inU (lw_in1 (List.mem_of_getElem? (i := 181) rfl)) rfl
theorem prlw_102 : (Cond.instantiable prn_M 14) ∈ pr_U := pr_inU (lw_in2 (List.mem_of_getElem? (i := 21) rfl)) rfl
theorem prlw_103 : (Cond.code pry_P_init prb_P_init 2 none) ∈ pr_U := pr_inU (lw_in1 (List.mem_of_getElem? (i := 19) rfl)) rfl
theorem prlw_104 : (Cond.instanceMethod pry_P_init) ∈ pr_U := pr_inU (lw_in1 (List.mem_of_getElem? (i := 18) rfl)) rfl
theorem prlw_105 : (Cond.code pry_X_init prb_X_init 1 none) ∈ pr_U := pr_inU (lw_in5 (List.mem_of_getElem? (i := 118) rfl)) rfl
theorem prlw_106 : (Cond.instanceMethod pry_X_init) ∈ pr_U := pr_inU (lw_in5 (List.mem_of_getElem? (i := 117) rfl)) rfl
theorem prd_W_0 : decode code 0 = .ok (.new 7, 3) := by decide +kernel
theorem prd_W_3 : decode code 3 = .ok (.dup, 1) := by decide +kernel
theorem prd_W_4 : decode code 4 = .ok (.invokespecial 9, 3) := by decide +kernel
theorem prd_W_7 : decode code 7 = .ok (.astore_n 1, 1) := by decide +kernel
theorem prd_W_8 : decode code 8 = .ok (.new 10, 3) := by decide +kernel
theorem prd_W_11 : decode code 11 = .ok (.dup, 1) := by decide +kernel
theorem prd_W_12 : decode code 12 = .ok (.invokespecial 12, 3) := by decide +kernel
theorem prd_W_15 : decode code 15 = .ok (.astore_n 2, 1) := by decide +kernel
theorem prd_W_16 : decode code 16 = .ok (.iconst 0, 1) := by decide +kernel
theorem prd_W_17 : decode code 17 = .ok (.istore_n 3, 1) := by decide +kernel
theorem prd_W_18 : decode code 18 = .ok (.iload_n 3, 1) := by decide +kernel
theorem prd_W_19 : decode code 19 = .ok (.aload_n 0, 1) := by decide +kernel
theorem prd_W_20 : decode code 20 = .ok (.arraylength, 1) := by decide +kernel
theorem prd_W_21 : decode code 21 = .ok (.bipush 6, 2) := by decide +kernel
theorem prd_W_23 : decode code 23 = .ok (.isub, 1) := by decide +kernel
theorem prd_W_24 : decode code 24 = .ok (.if_icmp .gt 367, 3) := by decide +kernel
theorem prd_W_27 : decode code 27 = .ok (.aload_n 0, 1) := by decide +kernel
theorem prd_W_28 : decode code 28 = .ok (.iload_n 3, 1) := by decide +kernel
theorem prd_W_29 : decode code 29 = .ok (.iaload, 1) := by decide +kernel
theorem prd_W_30 : decode code 30 = .ok (.bipush 15, 2) := by decide +kernel
theorem prd_W_32 : decode code 32 = .ok (.iand, 1) := by decide +kernel
theorem prd_W_33 : decode code 33 = .ok (.tableswitch 352 0 10 #[59, 122, 145, 168, 181, 214, 237, 250, 273, 296, 319], 59) := by decide +kernel
theorem prd_W_92 : decode code 92 = .ok (.aload_n 1, 1) := by decide +kernel
theorem prd_W_93 : decode code 93 = .ok (.aload_n 0, 1) := by decide +kernel
theorem prd_W_94 : decode code 94 = .ok (.iload_n 3, 1) := by decide +kernel
theorem prd_W_95 : decode code 95 = .ok (.iconst 1, 1) := by decide +kernel
theorem prd_W_96 : decode code 96 = .ok (.iadd, 1) := by decide +kernel
theorem prd_W_97 : decode code 97 = .ok (.iaload, 1) := by decide +kernel
theorem prd_W_98 : decode code 98 = .ok (.aload_n 0, 1) := by decide +kernel
theorem prd_W_99 : decode code 99 = .ok (.iload_n 3, 1) := by decide +kernel
theorem prd_W_100 : decode code 100 = .ok (.iconst 2, 1) := by decide +kernel
theorem prd_W_101 : decode code 101 = .ok (.iadd, 1) := by decide +kernel
theorem prd_W_102 : decode code 102 = .ok (.iaload, 1) := by decide +kernel
theorem prd_W_103 : decode code 103 = .ok (.aload_n 0, 1) := by decide +kernel
theorem prd_W_104 : decode code 104 = .ok (.iload_n 3, 1) := by decide +kernel
theorem prd_W_105 : decode code 105 = .ok (.iconst 3, 1) := by decide +kernel
theorem prd_W_106 : decode code 106 = .ok (.iadd, 1) := by decide +kernel
theorem prd_W_107 : decode code 107 = .ok (.iaload, 1) := by decide +kernel
theorem prd_W_108 : decode code 108 = .ok (.aload_n 0, 1) := by decide +kernel
theorem prd_W_109 : decode code 109 = .ok (.iload_n 3, 1) := by decide +kernel
theorem prd_W_110 : decode code 110 = .ok (.iconst 4, 1) := by decide +kernel
theorem prd_W_111 : decode code 111 = .ok (.iadd, 1) := by decide +kernel
theorem prd_W_112 : decode code 112 = .ok (.iaload, 1) := by decide +kernel
theorem prd_W_113 : decode code 113 = .ok (.aload_n 0, 1) := by decide +kernel
theorem prd_W_114 : decode code 114 = .ok (.iload_n 3, 1) := by decide +kernel
theorem prd_W_115 : decode code 115 = .ok (.iconst 5, 1) := by decide +kernel
theorem prd_W_116 : decode code 116 = .ok (.iadd, 1) := by decide +kernel
theorem prd_W_117 : decode code 117 = .ok (.iaload, 1) := by decide +kernel
theorem prd_W_118 : decode code 118 = .ok (.invokevirtual 13, 3) := by decide +kernel
theorem prd_W_121 : decode code 121 = .ok (.aload_n 2, 1) := by decide +kernel
theorem prd_W_122 : decode code 122 = .ok (.aload_n 0, 1) := by decide +kernel
theorem prd_W_123 : decode code 123 = .ok (.iload_n 3, 1) := by decide +kernel
theorem prd_W_124 : decode code 124 = .ok (.iconst 1, 1) := by decide +kernel
theorem prd_W_125 : decode code 125 = .ok (.iadd, 1) := by decide +kernel
theorem prd_W_126 : decode code 126 = .ok (.iaload, 1) := by decide +kernel
theorem prd_W_127 : decode code 127 = .ok (.aload_n 0, 1) := by decide +kernel
theorem prd_W_128 : decode code 128 = .ok (.iload_n 3, 1) := by decide +kernel
theorem prd_W_129 : decode code 129 = .ok (.iconst 2, 1) := by decide +kernel
theorem prd_W_130 : decode code 130 = .ok (.iadd, 1) := by decide +kernel
theorem prd_W_131 : decode code 131 = .ok (.iaload, 1) := by decide +kernel
theorem prd_W_132 : decode code 132 = .ok (.aload_n 0, 1) := by decide +kernel
theorem prd_W_133 : decode code 133 = .ok (.iload_n 3, 1) := by decide +kernel
theorem prd_W_134 : decode code 134 = .ok (.iconst 3, 1) := by decide +kernel
theorem prd_W_135 : decode code 135 = .ok (.iadd, 1) := by decide +kernel
theorem prd_W_136 : decode code 136 = .ok (.iaload, 1) := by decide +kernel
theorem prd_W_137 : decode code 137 = .ok (.aload_n 0, 1) := by decide +kernel
theorem prd_W_138 : decode code 138 = .ok (.iload_n 3, 1) := by decide +kernel
theorem prd_W_139 : decode code 139 = .ok (.iconst 4, 1) := by decide +kernel
theorem prd_W_140 : decode code 140 = .ok (.iadd, 1) := by decide +kernel
theorem prd_W_141 : decode code 141 = .ok (.iaload, 1) := by decide +kernel
theorem prd_W_142 : decode code 142 = .ok (.aload_n 0, 1) := by decide +kernel
theorem prd_W_143 : decode code 143 = .ok (.iload_n 3, 1) := by decide +kernel
theorem prd_W_144 : decode code 144 = .ok (.iconst 5, 1) := by decide +kernel
theorem prd_W_145 : decode code 145 = .ok (.iadd, 1) := by decide +kernel
theorem prd_W_146 : decode code 146 = .ok (.iaload, 1) := by decide +kernel
theorem prd_W_147 : decode code 147 = .ok (.invokevirtual 17, 3) := by decide +kernel
theorem prd_W_150 : decode code 150 = .ok (.if_icmp .eq 235, 3) := by decide +kernel
theorem prd_W_155 : decode code 155 = .ok (.aload_n 1, 1) := by decide +kernel
theorem prd_W_156 : decode code 156 = .ok (.aload_n 0, 1) := by decide +kernel
theorem prd_W_157 : decode code 157 = .ok (.iload_n 3, 1) := by decide +kernel
theorem prd_W_158 : decode code 158 = .ok (.iconst 1, 1) := by decide +kernel
theorem prd_W_159 : decode code 159 = .ok (.iadd, 1) := by decide +kernel
theorem prd_W_160 : decode code 160 = .ok (.iaload, 1) := by decide +kernel
theorem prd_W_161 : decode code 161 = .ok (.invokevirtual 18, 3) := by decide +kernel
theorem prd_W_164 : decode code 164 = .ok (.aload_n 2, 1) := by decide +kernel
theorem prd_W_165 : decode code 165 = .ok (.aload_n 0, 1) := by decide +kernel
theorem prd_W_166 : decode code 166 = .ok (.iload_n 3, 1) := by decide +kernel
theorem prd_W_167 : decode code 167 = .ok (.iconst 1, 1) := by decide +kernel
theorem prd_W_168 : decode code 168 = .ok (.iadd, 1) := by decide +kernel
theorem prd_W_169 : decode code 169 = .ok (.iaload, 1) := by decide +kernel
theorem prd_W_170 : decode code 170 = .ok (.invokevirtual 22, 3) := by decide +kernel
theorem prd_W_173 : decode code 173 = .ok (.if_icmp .eq 212, 3) := by decide +kernel
theorem prd_W_178 : decode code 178 = .ok (.aload_n 1, 1) := by decide +kernel
theorem prd_W_179 : decode code 179 = .ok (.aload_n 0, 1) := by decide +kernel
theorem prd_W_180 : decode code 180 = .ok (.iload_n 3, 1) := by decide +kernel
theorem prd_W_181 : decode code 181 = .ok (.iconst 1, 1) := by decide +kernel
theorem prd_W_182 : decode code 182 = .ok (.iadd, 1) := by decide +kernel
theorem prd_W_183 : decode code 183 = .ok (.iaload, 1) := by decide +kernel
theorem prd_W_184 : decode code 184 = .ok (.invokevirtual 23, 3) := by decide +kernel
theorem prd_W_187 : decode code 187 = .ok (.aload_n 2, 1) := by decide +kernel
theorem prd_W_188 : decode code 188 = .ok (.aload_n 0, 1) := by decide +kernel
theorem prd_W_189 : decode code 189 = .ok (.iload_n 3, 1) := by decide +kernel
theorem prd_W_190 : decode code 190 = .ok (.iconst 1, 1) := by decide +kernel
theorem prd_W_191 : decode code 191 = .ok (.iadd, 1) := by decide +kernel
theorem prd_W_192 : decode code 192 = .ok (.iaload, 1) := by decide +kernel
theorem prd_W_193 : decode code 193 = .ok (.invokevirtual 26, 3) := by decide +kernel
theorem prd_W_196 : decode code 196 = .ok (.if_icmp .eq 189, 3) := by decide +kernel
theorem prd_W_201 : decode code 201 = .ok (.aload_n 1, 1) := by decide +kernel
theorem prd_W_202 : decode code 202 = .ok (.invokevirtual 27, 3) := by decide +kernel
theorem prd_W_205 : decode code 205 = .ok (.aload_n 2, 1) := by decide +kernel
theorem prd_W_206 : decode code 206 = .ok (.invokevirtual 31, 3) := by decide +kernel
theorem prd_W_209 : decode code 209 = .ok (.if_icmp .eq 176, 3) := by decide +kernel
theorem prd_W_214 : decode code 214 = .ok (.aload_n 1, 1) := by decide +kernel
theorem prd_W_215 : decode code 215 = .ok (.aload_n 0, 1) := by decide +kernel
theorem prd_W_216 : decode code 216 = .ok (.iload_n 3, 1) := by decide +kernel
theorem prd_W_217 : decode code 217 = .ok (.iconst 1, 1) := by decide +kernel
theorem prd_W_218 : decode code 218 = .ok (.iadd, 1) := by decide +kernel
theorem prd_W_219 : decode code 219 = .ok (.iaload, 1) := by decide +kernel
theorem prd_W_220 : decode code 220 = .ok (.aload_n 0, 1) := by decide +kernel
theorem prd_W_221 : decode code 221 = .ok (.iload_n 3, 1) := by decide +kernel
theorem prd_W_222 : decode code 222 = .ok (.iconst 2, 1) := by decide +kernel
theorem prd_W_223 : decode code 223 = .ok (.iadd, 1) := by decide +kernel
theorem prd_W_224 : decode code 224 = .ok (.iaload, 1) := by decide +kernel
theorem prd_W_225 : decode code 225 = .ok (.invokevirtual 32, 3) := by decide +kernel
theorem prd_W_228 : decode code 228 = .ok (.aload_n 2, 1) := by decide +kernel
theorem prd_W_229 : decode code 229 = .ok (.aload_n 0, 1) := by decide +kernel
theorem prd_W_230 : decode code 230 = .ok (.iload_n 3, 1) := by decide +kernel
theorem prd_W_231 : decode code 231 = .ok (.iconst 1, 1) := by decide +kernel
theorem prd_W_232 : decode code 232 = .ok (.iadd, 1) := by decide +kernel
theorem prd_W_233 : decode code 233 = .ok (.iaload, 1) := by decide +kernel
theorem prd_W_234 : decode code 234 = .ok (.aload_n 0, 1) := by decide +kernel
theorem prd_W_235 : decode code 235 = .ok (.iload_n 3, 1) := by decide +kernel
theorem prd_W_236 : decode code 236 = .ok (.iconst 2, 1) := by decide +kernel
theorem prd_W_237 : decode code 237 = .ok (.iadd, 1) := by decide +kernel
theorem prd_W_238 : decode code 238 = .ok (.iaload, 1) := by decide +kernel
theorem prd_W_239 : decode code 239 = .ok (.invokevirtual 36, 3) := by decide +kernel
theorem prd_W_242 : decode code 242 = .ok (.if_icmp .eq 143, 3) := by decide +kernel
theorem prd_W_247 : decode code 247 = .ok (.aload_n 1, 1) := by decide +kernel
theorem prd_W_248 : decode code 248 = .ok (.aload_n 0, 1) := by decide +kernel
theorem prd_W_249 : decode code 249 = .ok (.iload_n 3, 1) := by decide +kernel
theorem prd_W_250 : decode code 250 = .ok (.iconst 1, 1) := by decide +kernel
theorem prd_W_251 : decode code 251 = .ok (.iadd, 1) := by decide +kernel
theorem prd_W_252 : decode code 252 = .ok (.iaload, 1) := by decide +kernel
theorem prd_W_253 : decode code 253 = .ok (.invokevirtual 37, 3) := by decide +kernel
theorem prd_W_256 : decode code 256 = .ok (.aload_n 2, 1) := by decide +kernel
theorem prd_W_257 : decode code 257 = .ok (.aload_n 0, 1) := by decide +kernel
theorem prd_W_258 : decode code 258 = .ok (.iload_n 3, 1) := by decide +kernel
theorem prd_W_259 : decode code 259 = .ok (.iconst 1, 1) := by decide +kernel
theorem prd_W_260 : decode code 260 = .ok (.iadd, 1) := by decide +kernel
theorem prd_W_261 : decode code 261 = .ok (.iaload, 1) := by decide +kernel
theorem prd_W_262 : decode code 262 = .ok (.invokevirtual 40, 3) := by decide +kernel
theorem prd_W_265 : decode code 265 = .ok (.if_icmp .eq 120, 3) := by decide +kernel
theorem prd_W_270 : decode code 270 = .ok (.aload_n 1, 1) := by decide +kernel
theorem prd_W_271 : decode code 271 = .ok (.invokevirtual 41, 3) := by decide +kernel
theorem prd_W_274 : decode code 274 = .ok (.aload_n 2, 1) := by decide +kernel
theorem prd_W_275 : decode code 275 = .ok (.invokevirtual 44, 3) := by decide +kernel
theorem prd_W_278 : decode code 278 = .ok (.if_icmp .eq 107, 3) := by decide +kernel
theorem prd_W_283 : decode code 283 = .ok (.aload_n 1, 1) := by decide +kernel
theorem prd_W_284 : decode code 284 = .ok (.aload_n 0, 1) := by decide +kernel
theorem prd_W_285 : decode code 285 = .ok (.iload_n 3, 1) := by decide +kernel
theorem prd_W_286 : decode code 286 = .ok (.iconst 1, 1) := by decide +kernel
theorem prd_W_287 : decode code 287 = .ok (.iadd, 1) := by decide +kernel
theorem prd_W_288 : decode code 288 = .ok (.iaload, 1) := by decide +kernel
theorem prd_W_289 : decode code 289 = .ok (.invokevirtual 45, 3) := by decide +kernel
theorem prd_W_292 : decode code 292 = .ok (.aload_n 2, 1) := by decide +kernel
theorem prd_W_293 : decode code 293 = .ok (.aload_n 0, 1) := by decide +kernel
theorem prd_W_294 : decode code 294 = .ok (.iload_n 3, 1) := by decide +kernel
theorem prd_W_295 : decode code 295 = .ok (.iconst 1, 1) := by decide +kernel
theorem prd_W_296 : decode code 296 = .ok (.iadd, 1) := by decide +kernel
theorem prd_W_297 : decode code 297 = .ok (.iaload, 1) := by decide +kernel
theorem prd_W_298 : decode code 298 = .ok (.invokevirtual 48, 3) := by decide +kernel
theorem prd_W_301 : decode code 301 = .ok (.if_icmp .eq 84, 3) := by decide +kernel
theorem prd_W_306 : decode code 306 = .ok (.aload_n 1, 1) := by decide +kernel
theorem prd_W_307 : decode code 307 = .ok (.aload_n 0, 1) := by decide +kernel
theorem prd_W_308 : decode code 308 = .ok (.iload_n 3, 1) := by decide +kernel
theorem prd_W_309 : decode code 309 = .ok (.iconst 1, 1) := by decide +kernel
theorem prd_W_310 : decode code 310 = .ok (.iadd, 1) := by decide +kernel
theorem prd_W_311 : decode code 311 = .ok (.iaload, 1) := by decide +kernel
theorem prd_W_312 : decode code 312 = .ok (.invokevirtual 49, 3) := by decide +kernel
theorem prd_W_315 : decode code 315 = .ok (.aload_n 2, 1) := by decide +kernel
theorem prd_W_316 : decode code 316 = .ok (.aload_n 0, 1) := by decide +kernel
theorem prd_W_317 : decode code 317 = .ok (.iload_n 3, 1) := by decide +kernel
theorem prd_W_318 : decode code 318 = .ok (.iconst 1, 1) := by decide +kernel
theorem prd_W_319 : decode code 319 = .ok (.iadd, 1) := by decide +kernel
theorem prd_W_320 : decode code 320 = .ok (.iaload, 1) := by decide +kernel
theorem prd_W_321 : decode code 321 = .ok (.invokevirtual 52, 3) := by decide +kernel
theorem prd_W_324 : decode code 324 = .ok (.if_icmp .eq 61, 3) := by decide +kernel
theorem prd_W_329 : decode code 329 = .ok (.aload_n 1, 1) := by decide +kernel
theorem prd_W_330 : decode code 330 = .ok (.aload_n 0, 1) := by decide +kernel
theorem prd_W_331 : decode code 331 = .ok (.iload_n 3, 1) := by decide +kernel
theorem prd_W_332 : decode code 332 = .ok (.iconst 1, 1) := by decide +kernel
theorem prd_W_333 : decode code 333 = .ok (.iadd, 1) := by decide +kernel
theorem prd_W_334 : decode code 334 = .ok (.iaload, 1) := by decide +kernel
theorem prd_W_335 : decode code 335 = .ok (.invokevirtual 53, 3) := by decide +kernel
theorem prd_W_338 : decode code 338 = .ok (.aload_n 2, 1) := by decide +kernel
theorem prd_W_339 : decode code 339 = .ok (.aload_n 0, 1) := by decide +kernel
theorem prd_W_340 : decode code 340 = .ok (.iload_n 3, 1) := by decide +kernel
theorem prd_W_341 : decode code 341 = .ok (.iconst 1, 1) := by decide +kernel
theorem prd_W_342 : decode code 342 = .ok (.iadd, 1) := by decide +kernel
theorem prd_W_343 : decode code 343 = .ok (.iaload, 1) := by decide +kernel
theorem prd_W_344 : decode code 344 = .ok (.invokevirtual 56, 3) := by decide +kernel
theorem prd_W_347 : decode code 347 = .ok (.if_icmp .eq 38, 3) := by decide +kernel
theorem prd_W_352 : decode code 352 = .ok (.aload_n 1, 1) := by decide +kernel
theorem prd_W_353 : decode code 353 = .ok (.aload_n 0, 1) := by decide +kernel
theorem prd_W_354 : decode code 354 = .ok (.iload_n 3, 1) := by decide +kernel
theorem prd_W_355 : decode code 355 = .ok (.iconst 1, 1) := by decide +kernel
theorem prd_W_356 : decode code 356 = .ok (.iadd, 1) := by decide +kernel
theorem prd_W_357 : decode code 357 = .ok (.iaload, 1) := by decide +kernel
theorem prd_W_358 : decode code 358 = .ok (.aload_n 0, 1) := by decide +kernel
theorem prd_W_359 : decode code 359 = .ok (.iload_n 3, 1) := by decide +kernel
theorem prd_W_360 : decode code 360 = .ok (.iconst 2, 1) := by decide +kernel
theorem prd_W_361 : decode code 361 = .ok (.iadd, 1) := by decide +kernel
theorem prd_W_362 : decode code 362 = .ok (.iaload, 1) := by decide +kernel
theorem prd_W_363 : decode code 363 = .ok (.invokevirtual 57, 3) := by decide +kernel
theorem prd_W_366 : decode code 366 = .ok (.aload_n 2, 1) := by decide +kernel
theorem prd_W_367 : decode code 367 = .ok (.aload_n 0, 1) := by decide +kernel
theorem prd_W_368 : decode code 368 = .ok (.iload_n 3, 1) := by decide +kernel
theorem prd_W_369 : decode code 369 = .ok (.iconst 1, 1) := by decide +kernel
theorem prd_W_370 : decode code 370 = .ok (.iadd, 1) := by decide +kernel
theorem prd_W_371 : decode code 371 = .ok (.iaload, 1) := by decide +kernel
theorem prd_W_372 : decode code 372 = .ok (.aload_n 0, 1) := by decide +kernel
theorem prd_W_373 : decode code 373 = .ok (.iload_n 3, 1) := by decide +kernel
theorem prd_W_374 : decode code 374 = .ok (.iconst 2, 1) := by decide +kernel
theorem prd_W_375 : decode code 375 = .ok (.iadd, 1) := by decide +kernel
theorem prd_W_376 : decode code 376 = .ok (.iaload, 1) := by decide +kernel
theorem prd_W_377 : decode code 377 = .ok (.invokevirtual 60, 3) := by decide +kernel
theorem prd_W_380 : decode code 380 = .ok (.if_icmp .eq 5, 3) := by decide +kernel
theorem prd_W_385 : decode code 385 = .ok (.iinc 3 6, 3) := by decide +kernel
theorem prd_W_388 : decode code 388 = .ok (.goto (-370), 3) := by decide +kernel
theorem prd_W_391 : decode code 391 = .ok (.iconst 1, 1) := by decide +kernel
theorem prd_W_392 : decode code 392 = .ok (.ireturn, 1) := by decide +kernel
/-- what the law's loop stands on -/
def prLc (s : State) (D : va_G) (ac ax : Nat → Nat) (dc dx : Nat → ClassId) (Ac Ax : Nat → Prop) (t : Nat) (r : Value) (v : Nat → Nat) : Prop :=
  (∀ σ : pr_St, va_D Ac (pr_w prc_L ac dc σ)) ∧ (∀ σ : pr_St, va_D Ax (pr_w prx_L ax dx σ)) ∧ prX t Ac s ∧ prY ax v r Ax s ∧ va_K D pr_cl (pr_t prc_L dc) s ∧ va_K D pr_cl (pr_t prx_L dx) s ∧ (∀ q, Ac q → s.heap.size ≤ q) ∧ (∀ q, Ax q → s.heap.size ≤ q) ∧ (∀ q, Ac q → ¬ Ax q)
theorem pr_i6 {i L : Nat} (hL : L ≤ 3072) (hi : 6 * i ≤ 3078) (h : ¬ nI L - 6 < nI (6 * i)) : 6 * i + 6 ≤ L := by
  have e1 : (nI L - 6).toInt = (L : Int) - 6 := by
    rw [Int32.toInt_sub, nI_toInt (by omega)]
    show ((L : Int) - 6).bmod (2 ^ 32) = _
    rw [Int.bmod_def]
    split <;> omega
  rw [Int32.lt_iff_toInt_lt, e1, nI_toInt (by omega)] at h
  omega
section PRARG
variable {p : Program} {l : Launch} {e : Env} {R : Room} {s : State} {m : MethodId} {args : Array Value} {below : List Frame} {meth : Method} {c : Code} {H : Heap} {locs : List Loc} {cells slots : Nat} {Q : State → Prop}
variable {pc b L i : Nat} {xs : Nat → Int32} {ls : Array Slot} {rest : List Value} {A : Nat → Prop} {lv : List (Nat × Value)}
/-- an argument: place 6 * i + j of the script -/
theorem pr_arg (hx : p.tables.exec = Jvm.exec) (hb : c.code = code) (hX : va_X b L xs s s.heap) (hbl : b < s.heap.size) (hbA : ¬ A b) (hS : va_S A s.heap H locs) (hL : L ≤ 3072) (hl : lv_has ls 4 lv) (k0 k3 : Nat) (h0 : lv[k0]? = some (0, .ref b)) (h3 : lv[k3]? = some (3, .int (nI (6 * i)))) (j : Nat) (jI : Int) (hj : Int32.ofInt jI = nI j) (hin : 6 * i + j < L)
    (d0 : decode code pc = .ok (.aload_n 0, 1)) (d1 : decode code (pc + 1) = .ok (.iload_n 3, 1)) (d2 : decode code (pc + 2) = .ok (.iconst jI, 1)) (d3 : decode code (pc + 3) = .ok (.iadd, 1)) (d4 : decode code (pc + 4) = .ok (.iaload, 1))
    (kk : W p l e R s m args below meth c H locs cells slots Q (F0 m (pc + 5) ls (.int (xs (6 * i + j)) :: rest))) : W p l e R s m args below meth c H locs cells slots Q (F0 m pc ls rest) := by
  refine lv_aload_n hx hb d0 rfl (lv_at hl k0 h0) ?_
  refine lv_iload_n hx hb d1 rfl (lv_at hl k3 h3) ?_
  refine lv_iconst (v := nI j) hx hb d2 hj ?_
  refine lv_iadd hx hb d3 ?_
  rw [nI_add]
  refine va_sld hx hb hX hbl hbA hS (vp_in_nI hin (by omega)) d4 ?_
  rw [nI_clamp (by omega)]
  exact kk
end PRARG
theorem pr_if_y {c : Prop} [Decidable c] {a b : Prop} (hc : c) (h : if c then a else b) : a := by rw [if_pos hc] at h; exact h
theorem pr_if_n {c : Prop} [Decidable c] {a b : Prop} (hc : ¬ c) (h : if c then a else b) : b := by rw [if_neg hc] at h; exact h
theorem pr_keep {D : va_G} {cl : List vw_C} {Lx : pr_L} {ax : Nat → Nat} {dx : Nat → ClassId} {τ : pr_St} {Ax Ac : Nat → Prop} {H H1 : Heap} (hDx : ∀ σ : pr_St, va_D Ax (pr_w Lx ax dx σ)) (hdis : ∀ q, Ax q → ¬ Ac q) (hk : ∀ q : Nat, q < H.size → ¬ Ac q → H1[q]? = H[q]?) (hP : va_P D cl (pr_w Lx ax dx τ) H) : va_P D cl (pr_w Lx ax dx τ) H1 :=
  hP.kept (fun k q hq => hk q.1 (hP k q hq).lt (hdis q.1 ((hDx τ).2 k q hq)))
set_option maxHeartbeats 16000000 in
set_option maxRecDepth 100000 in
/-- THE LAW'S LOOP, over any invariant that a call on both sides keeps -/
theorem pr_loop {p : Program} {l : Launch} {e : Env} {s : State} {m : MethodId} {below : List Frame} {meth : Method} {c : Code} {b L : Nat} {xs : Nat → Int32} {D : va_G} {ac ax : Nat → Nat} {dc dx : Nat → ClassId} {Ac Ax : Nat → Prop} {t : Nat} {r : Value} {v : Nat → Nat} (hL : L ≤ 3072) (C0 : lw_At p s m meth c b L xs) (C1 : prLc s D ac ax dc dx Ac Ax t r v) (I : Nat → pr_St → pr_St → Prop) (step : ∀ (i : Nat) (σ τ : pr_St), I i σ τ → 6 * i + 6 ≤ L → prStep xs i σ τ (I (i + 1))) :
    ∀ (n i : Nat) (σ τ : pr_St), 6 * i ≤ 3078 → 3084 ≤ 6 * i + n → I i σ τ → ∀ (H : Heap) (locs : List Loc) (ls : Array Slot), va_P D pr_cl (pr_w prc_L ac dc σ) H → va_P D pr_cl (pr_w prx_L ax dx τ) H → va_S (fun q : Nat => s.heap.size ≤ q) s.heap H locs → lv_has ls 4 [(0, .ref b), (1, .ref (ac 0)), (2, .ref (ax 0)), (3, .int (nI (6 * i)))] → W p l e room_1 s m #[Value.ref b] below meth c H locs 600000 7302250 (lw_Z below #[Value.ref b] s) (F0 m 18 ls []) := by
  obtain ⟨hx, hb, hr, hml, hown, hts0, hX, hbl, hlocks, hgv⟩ := C0
  obtain ⟨hDc, hDx, hXc, hYx, hKc, hKx, hAc, hAx, hdis⟩ := C1
  have hts : ∀ w ∈ pr_U, w.before #[Value.ref b] s = true := fun w hw => hts0 w (List.mem_filter.mp hw).1
  have hbA : ¬ (fun q : Nat => s.heap.size ≤ q) b := Nat.not_le.mpr hbl
  intro n
  induction n with
  | zero =>
    intro i σ τ h1 h2
    exact absurd h2 (by omega)
  | succ n ih =>
    intro i σ τ hi hn hI H locs ls hPc hPx hS hl
    refine lv_iload_n hx hb prd_W_18 rfl (lv_at hl 3 rfl) ?_
    refine lv_aload_n hx hb prd_W_19 rfl (lv_at hl 0 rfl) ?_
    refine va_slen hx hb hX hbl hbA hS prd_W_20 ?_
    refine lv_bipush (v := 6) hx hb prd_W_21 (by decide) ?_
    refine lv_isub hx hb prd_W_23 ?_
    refine lv_icmp_gt (tgt := 391) hx hb prd_W_24 (by decide) (fun c1 => ?_) (fun c1 => ?_)
    · refine lv_iconst (v := 1) hx hb prd_W_391 (by decide) ?_
      exact va_forget (fun q hq => hS.2.2 q hq) (lw_ret hx hb hr hlocks prd_W_392)
    · have hle : 6 * i + 6 ≤ L := pr_i6 hL hi c1
      have hst := step i σ τ hI hle
      have hback : ∀ (σ1 τ1 : pr_St), I (i + 1) σ1 τ1 → ∀ (H : Heap) (locs : List Loc) (ls : Array Slot), va_P D pr_cl (pr_w prc_L ac dc σ1) H → va_P D pr_cl (pr_w prx_L ax dx τ1) H → va_S (fun q : Nat => s.heap.size ≤ q) s.heap H locs → lv_has ls 4 [(0, .ref b), (1, .ref (ac 0)), (2, .ref (ax 0)), (3, .int (nI (6 * i)))] → W p l e room_1 s m #[Value.ref b] below meth c H locs 600000 7302250 (lw_Z below #[Value.ref b] s) (F0 m 385 ls []) := by
        intro σ1 τ1 hI1 H locs ls hPc hPx hS hl
        refine lv_iinc (v := nI (6 * (i + 1))) (lv' := [(3, .int (nI (6 * (i + 1)))), (0, .ref b), (1, .ref (ac 0)), (2, .ref (ax 0))]) hx hb prd_W_385 hl (k := 3) rfl (by show nI (6 * i) + nI 6 = _; rw [nI_add]; rfl) (by decide) rfl (fun ls hl => ?_)
        refine lv_goto (tgt := 18) hx hb prd_W_388 (by decide) ?_
        exact ih (i + 1) σ1 τ1 (by omega) (by omega) hI1 _ _ _ hPc hPx hS (lv_sub hl [1, 2, 3, 0] rfl)
      refine lv_aload_n hx hb prd_W_27 rfl (lv_at hl 0 rfl) ?_
      refine lv_iload_n hx hb prd_W_28 rfl (lv_at hl 3 rfl) ?_
      refine va_sld hx hb hX hbl hbA hS (vp_in_nI (by omega) (by omega)) prd_W_29 ?_
      rw [nI_clamp (by omega)]
      refine lv_bipush (v := 15) hx hb prd_W_30 (by decide) ?_
      refine lv_iand hx hb prd_W_32 ?_
      by_cases k0 : xs (6 * i) &&& 15 = 0
      · refine lv_tableIn (tgt := 92) (off := 59) hx hb prd_W_33 (by rw [k0]; decide) (by rw [k0]; decide) (by rw [k0] <;> rfl) (by decide) ?_
        unfold prStep at hst
        have hst := pr_if_y k0 hst
        obtain ⟨r1, σ1, τ1, hf1, hf2, hI1⟩ := hst
        refine lv_aload_n hx hb prd_W_92 rfl (lv_at hl 1 rfl) ?_
        refine pr_arg hx hb hX hbl hbA hS hL hl 0 3 rfl rfl 1 1 rfl (by omega) prd_W_93 prd_W_94 prd_W_95 prd_W_96 prd_W_97 ?_
        refine pr_arg hx hb hX hbl hbA hS hL hl 0 3 rfl rfl 2 2 rfl (by omega) prd_W_98 prd_W_99 prd_W_100 prd_W_101 prd_W_102 ?_
        refine pr_arg hx hb hX hbl hbA hS hL hl 0 3 rfl rfl 3 3 rfl (by omega) prd_W_103 prd_W_104 prd_W_105 prd_W_106 prd_W_107 ?_
        refine pr_arg hx hb hX hbl hbA hS hL hl 0 3 rfl rfl 4 4 rfl (by omega) prd_W_108 prd_W_109 prd_W_110 prd_W_111 prd_W_112 ?_
        refine pr_arg hx hb hX hbl hbA hS hL hl 0 3 rfl rfl 5 5 rfl (by omega) prd_W_113 prd_W_114 prd_W_115 prd_W_116 prd_W_117 ?_
        refine pr_lwVi (As := [.int (xs (6 * i + 1)), .int (xs (6 * i + 2)), .int (xs (6 * i + 3)), .int (xs (6 * i + 4)), .int (xs (6 * i + 5))]) (rest := []) (res := (r1, σ1)) (A := Ac) ⟨hx, hb, hml, hown, hts⟩ 0 (prc_P_feed hDc prX_ok 1 (Nat.le_refl _) σ (xs (6 * i + 1)) (xs (6 * i + 2)) (xs (6 * i + 3)) (xs (6 * i + 4)) (xs (6 * i + 5)) (r1, σ1) hf1) (pr_cwV 5 hts prlw_0 prlw_1 prlw_2 prlw_3 prlw_4 rfl rfl (by decide +kernel) ⟨Nat.le_of_ble_eq_true rfl, Nat.le_of_ble_eq_true rfl⟩) prX_ok hXc hAc (fun q h => Or.inl h) hKc hPc hS (by decide) rfl rfl rfl rfl hl.1 (Nat.le_of_ble_eq_true rfl) prd_W_118 ⟨Nat.le_refl _, Nat.le_refl _⟩ (fun H1 locs hPc hk1 hS => ?_)
        have hPx := pr_keep hDx (fun q hq h => hdis q h hq) hk1 hPx
        clear hk1
        skip
        refine lv_aload_n hx hb prd_W_121 rfl (lv_at hl 2 rfl) ?_
        refine pr_arg hx hb hX hbl hbA hS hL hl 0 3 rfl rfl 1 1 rfl (by omega) prd_W_122 prd_W_123 prd_W_124 prd_W_125 prd_W_126 ?_
        refine pr_arg hx hb hX hbl hbA hS hL hl 0 3 rfl rfl 2 2 rfl (by omega) prd_W_127 prd_W_128 prd_W_129 prd_W_130 prd_W_131 ?_
        refine pr_arg hx hb hX hbl hbA hS hL hl 0 3 rfl rfl 3 3 rfl (by omega) prd_W_132 prd_W_133 prd_W_134 prd_W_135 prd_W_136 ?_
        refine pr_arg hx hb hX hbl hbA hS hL hl 0 3 rfl rfl 4 4 rfl (by omega) prd_W_137 prd_W_138 prd_W_139 prd_W_140 prd_W_141 ?_
        refine pr_arg hx hb hX hbl hbA hS hL hl 0 3 rfl rfl 5 5 rfl (by omega) prd_W_142 prd_W_143 prd_W_144 prd_W_145 prd_W_146 ?_
        refine pr_lwVi (As := [.int (xs (6 * i + 1)), .int (xs (6 * i + 2)), .int (xs (6 * i + 3)), .int (xs (6 * i + 4)), .int (xs (6 * i + 5))]) (rest := [.int r1]) (res := (r1, τ1)) (A := Ax) ⟨hx, hb, hml, hown, hts⟩ 0 (prc_X_feed hDx prY_ok 0 (Nat.le_refl _) τ (xs (6 * i + 1)) (xs (6 * i + 2)) (xs (6 * i + 3)) (xs (6 * i + 4)) (xs (6 * i + 5)) (r1, τ1) hf2) (pr_cwV 5 hts prlw_5 prlw_6 prlw_7 prlw_8 prlw_9 rfl rfl (by decide +kernel) ⟨Nat.le_of_ble_eq_true rfl, Nat.le_of_ble_eq_true rfl⟩) prY_ok hYx hAx (fun q h => Or.inl h) hKx hPx hS (by decide) rfl rfl rfl rfl hl.1 (Nat.le_of_ble_eq_true rfl) prd_W_147 ⟨Nat.le_refl _, Nat.le_refl _⟩ (fun H1 locs hPx hk1 hS => ?_)
        have hPc := pr_keep hDc (fun q hq h => hdis q hq h) hk1 hPc
        clear hk1
        skip
        refine lv_icmp_eq (tgt := 385) hx hb prd_W_150 (by decide) (fun _ => ?_) (fun q => absurd rfl q)
        exact hback σ1 τ1 hI1 _ _ _ hPc hPx hS hl
      by_cases k1 : xs (6 * i) &&& 15 = 1
      · refine lv_tableIn (tgt := 155) (off := 122) hx hb prd_W_33 (by rw [k1]; decide) (by rw [k1]; decide) (by rw [k1] <;> rfl) (by decide) ?_
        unfold prStep at hst
        have hst := pr_if_n k0 hst
        have hst := pr_if_y k1 hst
        obtain ⟨r1, σ1, τ1, hf1, hf2, hI1⟩ := hst
        refine lv_aload_n hx hb prd_W_155 rfl (lv_at hl 1 rfl) ?_
        refine pr_arg hx hb hX hbl hbA hS hL hl 0 3 rfl rfl 1 1 rfl (by omega) prd_W_156 prd_W_157 prd_W_158 prd_W_159 prd_W_160 ?_
        refine pr_lwVi (As := [.int (xs (6 * i + 1))]) (rest := []) (res := (r1, σ1)) (A := Ac) ⟨hx, hb, hml, hown, hts⟩ 0 (prc_P_end hDc prX_ok 642 (Nat.le_refl _) σ (xs (6 * i + 1)) (r1, σ1) hf1) (pr_cwV 1 hts prlw_10 prlw_11 prlw_12 prlw_3 prlw_13 rfl rfl (by decide +kernel) ⟨Nat.le_of_ble_eq_true rfl, Nat.le_of_ble_eq_true rfl⟩) prX_ok hXc hAc (fun q h => Or.inl h) hKc hPc hS (by decide) rfl rfl rfl rfl hl.1 (Nat.le_of_ble_eq_true rfl) prd_W_161 ⟨Nat.le_refl _, Nat.le_refl _⟩ (fun H1 locs hPc hk1 hS => ?_)
        have hPx := pr_keep hDx (fun q hq h => hdis q h hq) hk1 hPx
        clear hk1
        skip
        refine lv_aload_n hx hb prd_W_164 rfl (lv_at hl 2 rfl) ?_
        refine pr_arg hx hb hX hbl hbA hS hL hl 0 3 rfl rfl 1 1 rfl (by omega) prd_W_165 prd_W_166 prd_W_167 prd_W_168 prd_W_169 ?_
        refine pr_lwVi (As := [.int (xs (6 * i + 1))]) (rest := [.int r1]) (res := (r1, τ1)) (A := Ax) ⟨hx, hb, hml, hown, hts⟩ 0 (prc_X_end hDx prY_ok 788 (Nat.le_refl _) τ (xs (6 * i + 1)) (r1, τ1) hf2) (pr_cwV 1 hts prlw_14 prlw_15 prlw_16 prlw_8 prlw_17 rfl rfl (by decide +kernel) ⟨Nat.le_of_ble_eq_true rfl, Nat.le_of_ble_eq_true rfl⟩) prY_ok hYx hAx (fun q h => Or.inl h) hKx hPx hS (by decide) rfl rfl rfl rfl hl.1 (Nat.le_of_ble_eq_true rfl) prd_W_170 ⟨Nat.le_refl _, Nat.le_refl _⟩ (fun H1 locs hPx hk1 hS => ?_)
        have hPc := pr_keep hDc (fun q hq h => hdis q hq h) hk1 hPc
        clear hk1
        skip
        refine lv_icmp_eq (tgt := 385) hx hb prd_W_173 (by decide) (fun _ => ?_) (fun q => absurd rfl q)
        exact hback σ1 τ1 hI1 _ _ _ hPc hPx hS hl
      by_cases k2 : xs (6 * i) &&& 15 = 2
      · refine lv_tableIn (tgt := 178) (off := 145) hx hb prd_W_33 (by rw [k2]; decide) (by rw [k2]; decide) (by rw [k2] <;> rfl) (by decide) ?_
        unfold prStep at hst
        have hst := pr_if_n k0 hst
        have hst := pr_if_n k1 hst
        have hst := pr_if_y k2 hst
        obtain ⟨r1, hf1, hf2, hI1⟩ := hst
        refine lv_aload_n hx hb prd_W_178 rfl (lv_at hl 1 rfl) ?_
        refine pr_arg hx hb hX hbl hbA hS hL hl 0 3 rfl rfl 1 1 rfl (by omega) prd_W_179 prd_W_180 prd_W_181 prd_W_182 prd_W_183 ?_
        refine pr_lwVi (As := [.int (xs (6 * i + 1))]) (rest := []) (res := (r1, σ)) (A := Ac) ⟨hx, hb, hml, hown, hts⟩ 0 (prc_P_told hDc prX_ok 0 (Nat.le_refl _) σ (xs (6 * i + 1)) r1 hf1) (pr_cwV 1 hts prlw_18 prlw_19 prlw_20 prlw_3 prlw_21 rfl rfl (by decide +kernel) ⟨Nat.le_of_ble_eq_true rfl, Nat.le_of_ble_eq_true rfl⟩) prX_ok hXc hAc (fun q h => Or.inl h) hKc hPc hS (by decide) rfl rfl rfl rfl hl.1 (Nat.le_of_ble_eq_true rfl) prd_W_184 ⟨Nat.le_refl _, Nat.le_refl _⟩ (fun H1 locs hPc hk1 hS => ?_)
        have hPx := pr_keep hDx (fun q hq h => hdis q h hq) hk1 hPx
        clear hk1
        skip
        refine lv_aload_n hx hb prd_W_187 rfl (lv_at hl 2 rfl) ?_
        refine pr_arg hx hb hX hbl hbA hS hL hl 0 3 rfl rfl 1 1 rfl (by omega) prd_W_188 prd_W_189 prd_W_190 prd_W_191 prd_W_192 ?_
        refine pr_lwVi (As := [.int (xs (6 * i + 1))]) (rest := [.int r1]) (res := (r1, τ)) (A := Ax) ⟨hx, hb, hml, hown, hts⟩ 0 (prc_X_told hDx prY_ok 0 (Nat.le_refl _) τ (xs (6 * i + 1)) r1 hf2) (pr_cwV 1 hts prlw_22 prlw_23 prlw_24 prlw_8 prlw_25 rfl rfl (by decide +kernel) ⟨Nat.le_of_ble_eq_true rfl, Nat.le_of_ble_eq_true rfl⟩) prY_ok hYx hAx (fun q h => Or.inl h) hKx hPx hS (by decide) rfl rfl rfl rfl hl.1 (Nat.le_of_ble_eq_true rfl) prd_W_193 ⟨Nat.le_refl _, Nat.le_refl _⟩ (fun H1 locs hPx hk1 hS => ?_)
        have hPc := pr_keep hDc (fun q hq h => hdis q hq h) hk1 hPc
        clear hk1
        skip
        refine lv_icmp_eq (tgt := 385) hx hb prd_W_196 (by decide) (fun _ => ?_) (fun q => absurd rfl q)
        exact hback σ τ hI1 _ _ _ hPc hPx hS hl
      by_cases k3 : xs (6 * i) &&& 15 = 3
      · refine lv_tableIn (tgt := 201) (off := 168) hx hb prd_W_33 (by rw [k3]; decide) (by rw [k3]; decide) (by rw [k3] <;> rfl) (by decide) ?_
        unfold prStep at hst
        have hst := pr_if_n k0 hst
        have hst := pr_if_n k1 hst
        have hst := pr_if_n k2 hst
        have hst := pr_if_y k3 hst
        obtain ⟨r1, hf1, hf2, hI1⟩ := hst
        refine lv_aload_n hx hb prd_W_201 rfl (lv_at hl 1 rfl) ?_
        refine pr_lwVi (As := []) (rest := []) (res := (r1, σ)) (A := Ac) ⟨hx, hb, hml, hown, hts⟩ 0 (prc_P_points hDc prX_ok 1 (Nat.le_refl _) σ  r1 hf1) (pr_cwV 0 hts prlw_26 prlw_27 prlw_28 prlw_3 prlw_29 rfl rfl (by decide +kernel) ⟨Nat.le_of_ble_eq_true rfl, Nat.le_of_ble_eq_true rfl⟩) prX_ok hXc hAc (fun q h => Or.inl h) hKc hPc hS (by decide) rfl rfl rfl rfl hl.1 (Nat.le_of_ble_eq_true rfl) prd_W_202 ⟨Nat.le_refl _, Nat.le_refl _⟩ (fun H1 locs hPc hk1 hS => ?_)
        have hPx := pr_keep hDx (fun q hq h => hdis q h hq) hk1 hPx
        clear hk1
        skip
        refine lv_aload_n hx hb prd_W_205 rfl (lv_at hl 2 rfl) ?_
        refine pr_lwVi (As := []) (rest := [.int r1]) (res := (r1, τ)) (A := Ax) ⟨hx, hb, hml, hown, hts⟩ 0 (prc_X_points hDx prY_ok 0 (Nat.le_refl _) τ  r1 hf2) (pr_cwV 0 hts prlw_30 prlw_31 prlw_32 prlw_8 prlw_33 rfl rfl (by decide +kernel) ⟨Nat.le_of_ble_eq_true rfl, Nat.le_of_ble_eq_true rfl⟩) prY_ok hYx hAx (fun q h => Or.inl h) hKx hPx hS (by decide) rfl rfl rfl rfl hl.1 (Nat.le_of_ble_eq_true rfl) prd_W_206 ⟨Nat.le_refl _, Nat.le_refl _⟩ (fun H1 locs hPx hk1 hS => ?_)
        have hPc := pr_keep hDc (fun q hq h => hdis q hq h) hk1 hPc
        clear hk1
        skip
        refine lv_icmp_eq (tgt := 385) hx hb prd_W_209 (by decide) (fun _ => ?_) (fun q => absurd rfl q)
        exact hback σ τ hI1 _ _ _ hPc hPx hS hl
      by_cases k4 : xs (6 * i) &&& 15 = 4
      · refine lv_tableIn (tgt := 214) (off := 181) hx hb prd_W_33 (by rw [k4]; decide) (by rw [k4]; decide) (by rw [k4] <;> rfl) (by decide) ?_
        unfold prStep at hst
        have hst := pr_if_n k0 hst
        have hst := pr_if_n k1 hst
        have hst := pr_if_n k2 hst
        have hst := pr_if_n k3 hst
        have hst := pr_if_y k4 hst
        obtain ⟨r1, hf1, hf2, hI1⟩ := hst
        refine lv_aload_n hx hb prd_W_214 rfl (lv_at hl 1 rfl) ?_
        refine pr_arg hx hb hX hbl hbA hS hL hl 0 3 rfl rfl 1 1 rfl (by omega) prd_W_215 prd_W_216 prd_W_217 prd_W_218 prd_W_219 ?_
        refine pr_arg hx hb hX hbl hbA hS hL hl 0 3 rfl rfl 2 2 rfl (by omega) prd_W_220 prd_W_221 prd_W_222 prd_W_223 prd_W_224 ?_
        refine pr_lwVi (As := [.int (xs (6 * i + 1)), .int (xs (6 * i + 2))]) (rest := []) (res := (r1, σ)) (A := Ac) ⟨hx, hb, hml, hown, hts⟩ 0 (prc_P_point hDc prX_ok 2 (Nat.le_refl _) σ (xs (6 * i + 1)) (xs (6 * i + 2)) r1 hf1) (pr_cwV 2 hts prlw_34 prlw_35 prlw_36 prlw_3 prlw_37 rfl rfl (by decide +kernel) ⟨Nat.le_of_ble_eq_true rfl, Nat.le_of_ble_eq_true rfl⟩) prX_ok hXc hAc (fun q h => Or.inl h) hKc hPc hS (by decide) rfl rfl rfl rfl hl.1 (Nat.le_of_ble_eq_true rfl) prd_W_225 ⟨Nat.le_refl _, Nat.le_refl _⟩ (fun H1 locs hPc hk1 hS => ?_)
        have hPx := pr_keep hDx (fun q hq h => hdis q h hq) hk1 hPx
        clear hk1
        skip
        refine lv_aload_n hx hb prd_W_228 rfl (lv_at hl 2 rfl) ?_
        refine pr_arg hx hb hX hbl hbA hS hL hl 0 3 rfl rfl 1 1 rfl (by omega) prd_W_229 prd_W_230 prd_W_231 prd_W_232 prd_W_233 ?_
        refine pr_arg hx hb hX hbl hbA hS hL hl 0 3 rfl rfl 2 2 rfl (by omega) prd_W_234 prd_W_235 prd_W_236 prd_W_237 prd_W_238 ?_
        refine pr_lwVi (As := [.int (xs (6 * i + 1)), .int (xs (6 * i + 2))]) (rest := [.int r1]) (res := (r1, τ)) (A := Ax) ⟨hx, hb, hml, hown, hts⟩ 0 (prc_X_point hDx prY_ok 2 (Nat.le_refl _) τ (xs (6 * i + 1)) (xs (6 * i + 2)) r1 hf2) (pr_cwV 2 hts prlw_38 prlw_39 prlw_40 prlw_8 prlw_41 rfl rfl (by decide +kernel) ⟨Nat.le_of_ble_eq_true rfl, Nat.le_of_ble_eq_true rfl⟩) prY_ok hYx hAx (fun q h => Or.inl h) hKx hPx hS (by decide) rfl rfl rfl rfl hl.1 (Nat.le_of_ble_eq_true rfl) prd_W_239 ⟨Nat.le_refl _, Nat.le_refl _⟩ (fun H1 locs hPx hk1 hS => ?_)
        have hPc := pr_keep hDc (fun q hq h => hdis q hq h) hk1 hPc
        clear hk1
        skip
        refine lv_icmp_eq (tgt := 385) hx hb prd_W_242 (by decide) (fun _ => ?_) (fun q => absurd rfl q)
        exact hback σ τ hI1 _ _ _ hPc hPx hS hl
      by_cases k5 : xs (6 * i) &&& 15 = 5
      · refine lv_tableIn (tgt := 247) (off := 214) hx hb prd_W_33 (by rw [k5]; decide) (by rw [k5]; decide) (by rw [k5] <;> rfl) (by decide) ?_
        unfold prStep at hst
        have hst := pr_if_n k0 hst
        have hst := pr_if_n k1 hst
        have hst := pr_if_n k2 hst
        have hst := pr_if_n k3 hst
        have hst := pr_if_n k4 hst
        have hst := pr_if_y k5 hst
        obtain ⟨r1, σ1, τ1, hf1, hf2, hI1⟩ := hst
        refine lv_aload_n hx hb prd_W_247 rfl (lv_at hl 1 rfl) ?_
        refine pr_arg hx hb hX hbl hbA hS hL hl 0 3 rfl rfl 1 1 rfl (by omega) prd_W_248 prd_W_249 prd_W_250 prd_W_251 prd_W_252 ?_
        refine pr_lwVi (As := [.int (xs (6 * i + 1))]) (rest := []) (res := (r1, σ1)) (A := Ac) ⟨hx, hb, hml, hown, hts⟩ 0 (prc_P_input hDc prX_ok 1 (Nat.le_refl _) σ (xs (6 * i + 1)) (r1, σ1) hf1) (pr_cwV 1 hts prlw_42 prlw_43 prlw_44 prlw_3 prlw_45 rfl rfl (by decide +kernel) ⟨Nat.le_of_ble_eq_true rfl, Nat.le_of_ble_eq_true rfl⟩) prX_ok hXc hAc (fun q h => Or.inl h) hKc hPc hS (by decide) rfl rfl rfl rfl hl.1 (Nat.le_of_ble_eq_true rfl) prd_W_253 ⟨Nat.le_refl _, Nat.le_refl _⟩ (fun H1 locs hPc hk1 hS => ?_)
        have hPx := pr_keep hDx (fun q hq h => hdis q h hq) hk1 hPx
        clear hk1
        skip
        refine lv_aload_n hx hb prd_W_256 rfl (lv_at hl 2 rfl) ?_
        refine pr_arg hx hb hX hbl hbA hS hL hl 0 3 rfl rfl 1 1 rfl (by omega) prd_W_257 prd_W_258 prd_W_259 prd_W_260 prd_W_261 ?_
        refine pr_lwVi (As := [.int (xs (6 * i + 1))]) (rest := [.int r1]) (res := (r1, τ1)) (A := Ax) ⟨hx, hb, hml, hown, hts⟩ 0 (prc_X_input hDx prY_ok 0 (Nat.le_refl _) τ (xs (6 * i + 1)) (r1, τ1) hf2) (pr_cwV 1 hts prlw_46 prlw_47 prlw_48 prlw_8 prlw_49 rfl rfl (by decide +kernel) ⟨Nat.le_of_ble_eq_true rfl, Nat.le_of_ble_eq_true rfl⟩) prY_ok hYx hAx (fun q h => Or.inl h) hKx hPx hS (by decide) rfl rfl rfl rfl hl.1 (Nat.le_of_ble_eq_true rfl) prd_W_262 ⟨Nat.le_refl _, Nat.le_refl _⟩ (fun H1 locs hPx hk1 hS => ?_)
        have hPc := pr_keep hDc (fun q hq h => hdis q hq h) hk1 hPc
        clear hk1
        skip
        refine lv_icmp_eq (tgt := 385) hx hb prd_W_265 (by decide) (fun _ => ?_) (fun q => absurd rfl q)
        exact hback σ1 τ1 hI1 _ _ _ hPc hPx hS hl
      by_cases k6 : xs (6 * i) &&& 15 = 6
      · refine lv_tableIn (tgt := 270) (off := 237) hx hb prd_W_33 (by rw [k6]; decide) (by rw [k6]; decide) (by rw [k6] <;> rfl) (by decide) ?_
        unfold prStep at hst
        have hst := pr_if_n k0 hst
        have hst := pr_if_n k1 hst
        have hst := pr_if_n k2 hst
        have hst := pr_if_n k3 hst
        have hst := pr_if_n k4 hst
        have hst := pr_if_n k5 hst
        have hst := pr_if_y k6 hst
        obtain ⟨r1, σ1, τ1, hf1, hf2, hI1⟩ := hst
        refine lv_aload_n hx hb prd_W_270 rfl (lv_at hl 1 rfl) ?_
        refine pr_lwVi (As := []) (rest := []) (res := (r1, σ1)) (A := Ac) ⟨hx, hb, hml, hown, hts⟩ 0 (prc_P_drop hDc prX_ok 1 (Nat.le_refl _) σ  (r1, σ1) hf1) (pr_cwV 0 hts prlw_50 prlw_51 prlw_52 prlw_3 prlw_53 rfl rfl (by decide +kernel) ⟨Nat.le_of_ble_eq_true rfl, Nat.le_of_ble_eq_true rfl⟩) prX_ok hXc hAc (fun q h => Or.inl h) hKc hPc hS (by decide) rfl rfl rfl rfl hl.1 (Nat.le_of_ble_eq_true rfl) prd_W_271 ⟨Nat.le_refl _, Nat.le_refl _⟩ (fun H1 locs hPc hk1 hS => ?_)
        have hPx := pr_keep hDx (fun q hq h => hdis q h hq) hk1 hPx
        clear hk1
        skip
        refine lv_aload_n hx hb prd_W_274 rfl (lv_at hl 2 rfl) ?_
        refine pr_lwVi (As := []) (rest := [.int r1]) (res := (r1, τ1)) (A := Ax) ⟨hx, hb, hml, hown, hts⟩ 0 (prc_X_drop hDx prY_ok 0 (Nat.le_refl _) τ  (r1, τ1) hf2) (pr_cwV 0 hts prlw_54 prlw_55 prlw_56 prlw_8 prlw_57 rfl rfl (by decide +kernel) ⟨Nat.le_of_ble_eq_true rfl, Nat.le_of_ble_eq_true rfl⟩) prY_ok hYx hAx (fun q h => Or.inl h) hKx hPx hS (by decide) rfl rfl rfl rfl hl.1 (Nat.le_of_ble_eq_true rfl) prd_W_275 ⟨Nat.le_refl _, Nat.le_refl _⟩ (fun H1 locs hPx hk1 hS => ?_)
        have hPc := pr_keep hDc (fun q hq h => hdis q hq h) hk1 hPc
        clear hk1
        skip
        refine lv_icmp_eq (tgt := 385) hx hb prd_W_278 (by decide) (fun _ => ?_) (fun q => absurd rfl q)
        exact hback σ1 τ1 hI1 _ _ _ hPc hPx hS hl
      by_cases k7 : xs (6 * i) &&& 15 = 7
      · refine lv_tableIn (tgt := 283) (off := 250) hx hb prd_W_33 (by rw [k7]; decide) (by rw [k7]; decide) (by rw [k7] <;> rfl) (by decide) ?_
        unfold prStep at hst
        have hst := pr_if_n k0 hst
        have hst := pr_if_n k1 hst
        have hst := pr_if_n k2 hst
        have hst := pr_if_n k3 hst
        have hst := pr_if_n k4 hst
        have hst := pr_if_n k5 hst
        have hst := pr_if_n k6 hst
        have hst := pr_if_y k7 hst
        obtain ⟨r1, σ1, τ1, hf1, hf2, hI1⟩ := hst
        refine lv_aload_n hx hb prd_W_283 rfl (lv_at hl 1 rfl) ?_
        refine pr_arg hx hb hX hbl hbA hS hL hl 0 3 rfl rfl 1 1 rfl (by omega) prd_W_284 prd_W_285 prd_W_286 prd_W_287 prd_W_288 ?_
        refine pr_lwVi (As := [.int (xs (6 * i + 1))]) (rest := []) (res := (r1, σ1)) (A := Ac) ⟨hx, hb, hml, hown, hts⟩ 0 (prc_P_run hDc prX_ok 7 (Nat.le_refl _) σ (xs (6 * i + 1)) (r1, σ1) hf1) (pr_cwV 1 hts prlw_58 prlw_59 prlw_60 prlw_3 prlw_61 rfl rfl (by decide +kernel) ⟨Nat.le_of_ble_eq_true rfl, Nat.le_of_ble_eq_true rfl⟩) prX_ok hXc hAc (fun q h => Or.inl h) hKc hPc hS (by decide) rfl rfl rfl rfl hl.1 (Nat.le_of_ble_eq_true rfl) prd_W_289 ⟨Nat.le_refl _, Nat.le_refl _⟩ (fun H1 locs hPc hk1 hS => ?_)
        have hPx := pr_keep hDx (fun q hq h => hdis q h hq) hk1 hPx
        clear hk1
        skip
        refine lv_aload_n hx hb prd_W_292 rfl (lv_at hl 2 rfl) ?_
        refine pr_arg hx hb hX hbl hbA hS hL hl 0 3 rfl rfl 1 1 rfl (by omega) prd_W_293 prd_W_294 prd_W_295 prd_W_296 prd_W_297 ?_
        refine pr_lwVi (As := [.int (xs (6 * i + 1))]) (rest := [.int r1]) (res := (r1, τ1)) (A := Ax) ⟨hx, hb, hml, hown, hts⟩ 0 (prc_X_run hDx prY_ok 609 (Nat.le_refl _) τ (xs (6 * i + 1)) (r1, τ1) hf2) (pr_cwV 1 hts prlw_62 prlw_63 prlw_64 prlw_8 prlw_65 rfl rfl (by decide +kernel) ⟨Nat.le_of_ble_eq_true rfl, Nat.le_of_ble_eq_true rfl⟩) prY_ok hYx hAx (fun q h => Or.inl h) hKx hPx hS (by decide) rfl rfl rfl rfl hl.1 (Nat.le_of_ble_eq_true rfl) prd_W_298 ⟨Nat.le_refl _, Nat.le_refl _⟩ (fun H1 locs hPx hk1 hS => ?_)
        have hPc := pr_keep hDc (fun q hq h => hdis q hq h) hk1 hPc
        clear hk1
        skip
        refine lv_icmp_eq (tgt := 385) hx hb prd_W_301 (by decide) (fun _ => ?_) (fun q => absurd rfl q)
        exact hback σ1 τ1 hI1 _ _ _ hPc hPx hS hl
      by_cases k8 : xs (6 * i) &&& 15 = 8
      · refine lv_tableIn (tgt := 306) (off := 273) hx hb prd_W_33 (by rw [k8]; decide) (by rw [k8]; decide) (by rw [k8] <;> rfl) (by decide) ?_
        unfold prStep at hst
        have hst := pr_if_n k0 hst
        have hst := pr_if_n k1 hst
        have hst := pr_if_n k2 hst
        have hst := pr_if_n k3 hst
        have hst := pr_if_n k4 hst
        have hst := pr_if_n k5 hst
        have hst := pr_if_n k6 hst
        have hst := pr_if_n k7 hst
        have hst := pr_if_y k8 hst
        obtain ⟨r1, hf1, hf2, hI1⟩ := hst
        refine lv_aload_n hx hb prd_W_306 rfl (lv_at hl 1 rfl) ?_
        refine pr_arg hx hb hX hbl hbA hS hL hl 0 3 rfl rfl 1 1 rfl (by omega) prd_W_307 prd_W_308 prd_W_309 prd_W_310 prd_W_311 ?_
        refine pr_lwVi (As := [.int (xs (6 * i + 1))]) (rest := []) (res := (r1, σ)) (A := Ac) ⟨hx, hb, hml, hown, hts⟩ 0 (prc_P_ran hDc prX_ok 1 (Nat.le_refl _) σ (xs (6 * i + 1)) r1 hf1) (pr_cwV 1 hts prlw_66 prlw_67 prlw_68 prlw_3 prlw_69 rfl rfl (by decide +kernel) ⟨Nat.le_of_ble_eq_true rfl, Nat.le_of_ble_eq_true rfl⟩) prX_ok hXc hAc (fun q h => Or.inl h) hKc hPc hS (by decide) rfl rfl rfl rfl hl.1 (Nat.le_of_ble_eq_true rfl) prd_W_312 ⟨Nat.le_refl _, Nat.le_refl _⟩ (fun H1 locs hPc hk1 hS => ?_)
        have hPx := pr_keep hDx (fun q hq h => hdis q h hq) hk1 hPx
        clear hk1
        skip
        refine lv_aload_n hx hb prd_W_315 rfl (lv_at hl 2 rfl) ?_
        refine pr_arg hx hb hX hbl hbA hS hL hl 0 3 rfl rfl 1 1 rfl (by omega) prd_W_316 prd_W_317 prd_W_318 prd_W_319 prd_W_320 ?_
        refine pr_lwVi (As := [.int (xs (6 * i + 1))]) (rest := [.int r1]) (res := (r1, τ)) (A := Ax) ⟨hx, hb, hml, hown, hts⟩ 0 (prc_X_ran hDx prY_ok 0 (Nat.le_refl _) τ (xs (6 * i + 1)) r1 hf2) (pr_cwV 1 hts prlw_70 prlw_71 prlw_72 prlw_8 prlw_73 rfl rfl (by decide +kernel) ⟨Nat.le_of_ble_eq_true rfl, Nat.le_of_ble_eq_true rfl⟩) prY_ok hYx hAx (fun q h => Or.inl h) hKx hPx hS (by decide) rfl rfl rfl rfl hl.1 (Nat.le_of_ble_eq_true rfl) prd_W_321 ⟨Nat.le_refl _, Nat.le_refl _⟩ (fun H1 locs hPx hk1 hS => ?_)
        have hPc := pr_keep hDc (fun q hq h => hdis q hq h) hk1 hPc
        clear hk1
        skip
        refine lv_icmp_eq (tgt := 385) hx hb prd_W_324 (by decide) (fun _ => ?_) (fun q => absurd rfl q)
        exact hback σ τ hI1 _ _ _ hPc hPx hS hl
      by_cases k9 : xs (6 * i) &&& 15 = 9
      · refine lv_tableIn (tgt := 329) (off := 296) hx hb prd_W_33 (by rw [k9]; decide) (by rw [k9]; decide) (by rw [k9] <;> rfl) (by decide) ?_
        unfold prStep at hst
        have hst := pr_if_n k0 hst
        have hst := pr_if_n k1 hst
        have hst := pr_if_n k2 hst
        have hst := pr_if_n k3 hst
        have hst := pr_if_n k4 hst
        have hst := pr_if_n k5 hst
        have hst := pr_if_n k6 hst
        have hst := pr_if_n k7 hst
        have hst := pr_if_n k8 hst
        have hst := pr_if_y k9 hst
        obtain ⟨r1, hf1, hf2, hI1⟩ := hst
        refine lv_aload_n hx hb prd_W_329 rfl (lv_at hl 1 rfl) ?_
        refine pr_arg hx hb hX hbl hbA hS hL hl 0 3 rfl rfl 1 1 rfl (by omega) prd_W_330 prd_W_331 prd_W_332 prd_W_333 prd_W_334 ?_
        refine pr_lwVi (As := [.int (xs (6 * i + 1))]) (rest := []) (res := (r1, σ)) (A := Ac) ⟨hx, hb, hml, hown, hts⟩ 0 (prc_P_value hDc prX_ok 3 (Nat.le_refl _) σ (xs (6 * i + 1)) r1 hf1) (pr_cwV 1 hts prlw_74 prlw_75 prlw_76 prlw_3 prlw_77 rfl rfl (by decide +kernel) ⟨Nat.le_of_ble_eq_true rfl, Nat.le_of_ble_eq_true rfl⟩) prX_ok hXc hAc (fun q h => Or.inl h) hKc hPc hS (by decide) rfl rfl rfl rfl hl.1 (Nat.le_of_ble_eq_true rfl) prd_W_335 ⟨Nat.le_refl _, Nat.le_refl _⟩ (fun H1 locs hPc hk1 hS => ?_)
        have hPx := pr_keep hDx (fun q hq h => hdis q h hq) hk1 hPx
        clear hk1
        skip
        refine lv_aload_n hx hb prd_W_338 rfl (lv_at hl 2 rfl) ?_
        refine pr_arg hx hb hX hbl hbA hS hL hl 0 3 rfl rfl 1 1 rfl (by omega) prd_W_339 prd_W_340 prd_W_341 prd_W_342 prd_W_343 ?_
        refine pr_lwVi (As := [.int (xs (6 * i + 1))]) (rest := [.int r1]) (res := (r1, τ)) (A := Ax) ⟨hx, hb, hml, hown, hts⟩ 0 (prc_X_value hDx prY_ok 0 (Nat.le_refl _) τ (xs (6 * i + 1)) r1 hf2) (pr_cwV 1 hts prlw_78 prlw_79 prlw_80 prlw_8 prlw_81 rfl rfl (by decide +kernel) ⟨Nat.le_of_ble_eq_true rfl, Nat.le_of_ble_eq_true rfl⟩) prY_ok hYx hAx (fun q h => Or.inl h) hKx hPx hS (by decide) rfl rfl rfl rfl hl.1 (Nat.le_of_ble_eq_true rfl) prd_W_344 ⟨Nat.le_refl _, Nat.le_refl _⟩ (fun H1 locs hPx hk1 hS => ?_)
        have hPc := pr_keep hDc (fun q hq h => hdis q hq h) hk1 hPc
        clear hk1
        skip
        refine lv_icmp_eq (tgt := 385) hx hb prd_W_347 (by decide) (fun _ => ?_) (fun q => absurd rfl q)
        exact hback σ τ hI1 _ _ _ hPc hPx hS hl
      by_cases k10 : xs (6 * i) &&& 15 = 10
      · refine lv_tableIn (tgt := 352) (off := 319) hx hb prd_W_33 (by rw [k10]; decide) (by rw [k10]; decide) (by rw [k10] <;> rfl) (by decide) ?_
        unfold prStep at hst
        have hst := pr_if_n k0 hst
        have hst := pr_if_n k1 hst
        have hst := pr_if_n k2 hst
        have hst := pr_if_n k3 hst
        have hst := pr_if_n k4 hst
        have hst := pr_if_n k5 hst
        have hst := pr_if_n k6 hst
        have hst := pr_if_n k7 hst
        have hst := pr_if_n k8 hst
        have hst := pr_if_n k9 hst
        have hst := pr_if_y k10 hst
        obtain ⟨r1, hf1, hf2, hI1⟩ := hst
        refine lv_aload_n hx hb prd_W_352 rfl (lv_at hl 1 rfl) ?_
        refine pr_arg hx hb hX hbl hbA hS hL hl 0 3 rfl rfl 1 1 rfl (by omega) prd_W_353 prd_W_354 prd_W_355 prd_W_356 prd_W_357 ?_
        refine pr_arg hx hb hX hbl hbA hS hL hl 0 3 rfl rfl 2 2 rfl (by omega) prd_W_358 prd_W_359 prd_W_360 prd_W_361 prd_W_362 ?_
        refine pr_lwVi (As := [.int (xs (6 * i + 1)), .int (xs (6 * i + 2))]) (rest := []) (res := (r1, σ)) (A := Ac) ⟨hx, hb, hml, hown, hts⟩ 0 (prc_P_place hDc prX_ok 3 (Nat.le_refl _) σ (xs (6 * i + 1)) (xs (6 * i + 2)) r1 hf1) (pr_cwV 2 hts prlw_82 prlw_83 prlw_84 prlw_3 prlw_85 rfl rfl (by decide +kernel) ⟨Nat.le_of_ble_eq_true rfl, Nat.le_of_ble_eq_true rfl⟩) prX_ok hXc hAc (fun q h => Or.inl h) hKc hPc hS (by decide) rfl rfl rfl rfl hl.1 (Nat.le_of_ble_eq_true rfl) prd_W_363 ⟨Nat.le_refl _, Nat.le_refl _⟩ (fun H1 locs hPc hk1 hS => ?_)
        have hPx := pr_keep hDx (fun q hq h => hdis q h hq) hk1 hPx
        clear hk1
        skip
        refine lv_aload_n hx hb prd_W_366 rfl (lv_at hl 2 rfl) ?_
        refine pr_arg hx hb hX hbl hbA hS hL hl 0 3 rfl rfl 1 1 rfl (by omega) prd_W_367 prd_W_368 prd_W_369 prd_W_370 prd_W_371 ?_
        refine pr_arg hx hb hX hbl hbA hS hL hl 0 3 rfl rfl 2 2 rfl (by omega) prd_W_372 prd_W_373 prd_W_374 prd_W_375 prd_W_376 ?_
        refine pr_lwVi (As := [.int (xs (6 * i + 1)), .int (xs (6 * i + 2))]) (rest := [.int r1]) (res := (r1, τ)) (A := Ax) ⟨hx, hb, hml, hown, hts⟩ 0 (prc_X_place hDx prY_ok 0 (Nat.le_refl _) τ (xs (6 * i + 1)) (xs (6 * i + 2)) r1 hf2) (pr_cwV 2 hts prlw_86 prlw_87 prlw_88 prlw_8 prlw_89 rfl rfl (by decide +kernel) ⟨Nat.le_of_ble_eq_true rfl, Nat.le_of_ble_eq_true rfl⟩) prY_ok hYx hAx (fun q h => Or.inl h) hKx hPx hS (by decide) rfl rfl rfl rfl hl.1 (Nat.le_of_ble_eq_true rfl) prd_W_377 ⟨Nat.le_refl _, Nat.le_refl _⟩ (fun H1 locs hPx hk1 hS => ?_)
        have hPc := pr_keep hDc (fun q hq h => hdis q hq h) hk1 hPc
        clear hk1
        skip
        refine lv_icmp_eq (tgt := 385) hx hb prd_W_380 (by decide) (fun _ => ?_) (fun q => absurd rfl q)
        exact hback σ τ hI1 _ _ _ hPc hPx hS hl
      refine lv_tableOut (tgt := 385) hx hb prd_W_33 (by have w0 := lv_neT (a := 0) k0 (by decide); have w1 := lv_neT (a := 1) k1 (by decide); have w2 := lv_neT (a := 2) k2 (by decide); have w3 := lv_neT (a := 3) k3 (by decide); have w4 := lv_neT (a := 4) k4 (by decide); have w5 := lv_neT (a := 5) k5 (by decide); have w6 := lv_neT (a := 6) k6 (by decide); have w7 := lv_neT (a := 7) k7 (by decide); have w8 := lv_neT (a := 8) k8 (by decide); have w9 := lv_neT (a := 9) k9 (by decide); have w10 := lv_neT (a := 10) k10 (by decide); omega) (by decide) ?_
      unfold prStep at hst
      have hst := pr_if_n k0 hst
      have hst := pr_if_n k1 hst
      have hst := pr_if_n k2 hst
      have hst := pr_if_n k3 hst
      have hst := pr_if_n k4 hst
      have hst := pr_if_n k5 hst
      have hst := pr_if_n k6 hst
      have hst := pr_if_n k7 hst
      have hst := pr_if_n k8 hst
      have hst := pr_if_n k9 hst
      have hst := pr_if_n k10 hst
      exact hback σ τ hst _ _ _ hPc hPx hS hl
