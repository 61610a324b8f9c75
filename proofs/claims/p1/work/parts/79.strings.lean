/-! THE JDK's String.length and String.charAt OVER THE REFERENCE's EIGHT WORDS -/
def prJ_S : String := "java/lang/String"
def prJ_len : MethodName := ⟨prJ_S, "length", "()I"⟩
def prJ_cod : MethodName := ⟨prJ_S, "coder", "()B"⟩
def prJ_cha : MethodName := ⟨prJ_S, "charAt", "(I)C"⟩
def prJ_isl : MethodName := ⟨prJ_S, "isLatin1", "()Z"⟩
def prJ_lat : MethodName := ⟨"java/lang/StringLatin1", "charAt", "([BI)C"⟩
def prJ_chk : MethodName := ⟨prJ_S, "checkIndex", "(II)V"⟩
def prJ_pre : MethodName := ⟨"jdk/internal/util/Preconditions", "checkIndex", "(IILjava/util/function/BiFunction;)I"⟩
abbrev prJb_len : ByteArray := prog_12_method_54_code
abbrev prJb_cod : ByteArray := prog_12_method_152_code
abbrev prJb_cha : ByteArray := prog_12_method_56_code
abbrev prJb_isl : ByteArray := prog_12_method_154_code
abbrev prJb_lat : ByteArray := prog_13_method_2_code
abbrev prJb_chk : ByteArray := prog_12_method_155_code
abbrev prJb_pre : ByteArray := prog_15_method_11_code
def prY (ad v : Nat → Nat) (r : Value) (A : Nat → Prop) (U : State) : Prop := vk_S 8 prs_len prs_byt (fun i => ad (1000 + i)) v A U U.heap ∧ va_Z "java/lang/String" "COMPACT_STRINGS" "Z" (.int 1) A U U.heap ∧ va_Z "jdk/internal/util/Preconditions" "SIOOBE_FORMATTER" "Ljava/util/function/BiFunction;" r A U U.heap ∧ (r = .null ∨ ∃ q : Nat, r = .ref q)
theorem prY_ok {ad v : Nat → Nat} {r : Value} {A : Nat → Prop} : pr_Xok A (prY ad v r A) := by
  intro u U hvm hk h
  have ha : u.vm.Alike U.vm := by
    rcases hvm with e | e
    · rw [e]; exact Vm.Alike.refl _
    · exact e.alike
  exact ⟨(h.1.moved ha).kept hk, (h.2.1.moved ha).kept hk, (h.2.2.1.moved ha).kept hk, h.2.2.2⟩
section PRJC
variable {p : Program} {l : Launch} {e : Env} {R : Room} {s : State} {m : MethodId} {args : Array Value} {below : List Frame} {meth : Method} {c : Code} {H : Heap} {locs : List Loc} {Q : State → Prop}
variable {cc : ByteArray} {pc nL maxL n index : Nat} {ls : Array Slot} {rest As : List Value} {D : va_G} {cl : List vw_C} {A : Nat → Prop} {X : State → Prop}
variable {L : pr_L} {ad : Nat → Nat} {dA : Nat → ClassId} {σ : pr_St} {y : MethodName} {ws Ts : List Cond} {rm : Room} {bytes : ByteArray} {ret : Option FieldType} {own C : String}
theorem pr_aald {C : String} {cells slots : Nat} (hexec : p.tables.exec = Jvm.exec) (hb : c.code = cc) (hK : va_K D cl (pr_t L dA) s) (hP : va_P D cl (pr_w L ad dA σ) H) (a : Nat) (hg : a < pr_n L ∧ ¬ a < pr_nO L ∧ pr_ty L a = .object C) {i : Int32} {n : Nat} (hn : pr_ln L a = n) (hin : vp_in i n) (hdg : decode cc pc = .ok (.aaload, 1))
    (kk : W p l e R s m args below meth c H locs cells slots Q (F0 m (pc + 1) ls (.ref (ad (1000 + i.toNatClampNeg)) :: rest))) : W p l e R s m args below meth c H locs cells slots Q (F0 m pc ls (.int i :: .ref (ad a) :: rest)) := by
  obtain ⟨h1, h2, h3⟩ := hg
  have ht := pr_t_get (dA := dA) h1 h2
  rw [h3] at ht
  subst hn
  exact va_aldq hexec hb hK hP a _ (pr_w_art h1 h2 (by unfold pr_ik; rw [h3])) ht hin hdg kk
theorem pr_callTr {r : Int32} {b : Nat} (S : CallFix p m c cc nL s args Ts own) (hM : Met l y ws rm (pr_Pc X D cl L ad dA (.ref b :: As) σ) (pr_Qi D cl L ad dA A (r, σ)) 0 0 A) (cw : CallW R s args own C index y bytes maxL ret ws rm 0 0 n) (hX : pr_Xok A X) (hXs : X s) (hK : va_K D cl (pr_t L dA) s) (hP : va_P D cl (pr_w L ad dA σ) H) (hS : va_S A s.heap H locs) (hrc : ∃ cell : Cell, H[b]? = some cell ∧ cell.vm.isStatics = false ∧ s.vm.findClass C = some cell.cls)
    {st0 : List Value} (hst : st0 = As.reverse ++ .ref b :: rest) (hn : As.length = n) (hsize : ls.size = nL) (hW : 2 * (F0 m pc ls st0).monitorRoom + (rest.map fun v => v.category).sum ≤ 8) (hdg : decode cc pc = .ok (.invokevirtual index, 3))
    (kk : ∀ (H1 : Heap) (locs1 : List Loc), va_P D cl (pr_w L ad dA σ) H1 → va_S A s.heap H1 locs1 → W p l e R s m args below meth c H1 locs1 0 0 Q (F0 m (pc + 3) ls (.int r :: rest))) : W p l e R s m args below meth c H locs 0 0 Q (F0 m pc ls st0) := by
  refine va_calli (va_runV (As := As) (rest := rest) S hM cw ⟨pr_blind hX, hrc, pr_pre hX hXs hS hP hK⟩ rfl hn hsize hst hW hdg ⟨Nat.zero_le _, Nat.zero_le _⟩) hS (fun q _ h => h) (fun q h => h) (fun r1 u t H1 locs1 ht hvm hw hB _ _ hS1 => ?_)
  have hw : (r1, u) = (r, σ) := hw
  obtain ⟨hP1, _⟩ := hB
  rw [ht] at hP1
  cases hw
  exact kk H1 locs1 hP1 hS1
theorem pr_callSv {res : pr_St} (S : CallFix p m c cc nL s args Ts own) (hM : Met l y ws rm (pr_Pc X D cl L ad dA As σ) (pr_Qv D cl L ad dA A res) 0 0 A) (cw : CallB R s args own index y bytes maxL ret ws rm 0 0 n ∧ (Cond.static y).before args s = true) (hX : pr_Xok A X) (hXs : X s) (hK : va_K D cl (pr_t L dA) s) (hP : va_P D cl (pr_w L ad dA σ) H) (hS : va_S A s.heap H locs)
    {st0 : List Value} (hst : st0 = As.reverse ++ rest) (hn : As.length = n) (hsize : ls.size = nL) (hW : 2 * (F0 m pc ls st0).monitorRoom + (rest.map fun v => v.category).sum ≤ 8) (hdg : decode cc pc = .ok (.invokestatic index, 3))
    (kk : ∀ (H1 : Heap) (locs1 : List Loc), va_P D cl (pr_w L ad dA res) H1 → va_S A s.heap H1 locs1 → W p l e R s m args below meth c H1 locs1 0 0 Q (F0 m (pc + 3) ls rest)) : W p l e R s m args below meth c H locs 0 0 Q (F0 m pc ls st0) := by
  refine va_callv (va_runS (As := As) (rest := rest) S hM cw ⟨pr_blind hX, pr_pre hX hXs hS hP hK⟩ rfl hn hsize hst hW hdg ⟨Nat.zero_le _, Nat.zero_le _⟩) hS (fun q _ h => h) (fun q h => h) (fun u t H1 locs1 ht hvm hw hB _ _ hS1 => ?_)
  have hw : u = res := hw
  obtain ⟨hP1, _⟩ := hB
  rw [ht] at hP1
  subst hw
  exact kk H1 locs1 hP1 hS1
theorem pr_retn {ty : FieldType} {res : Int32 × pr_St} {v : Int32} (E : pr_cx own cc nL (some ty) D cl L ad dA A X p s m args meth c) (hz : narrow ty (.int v) = .int v) (hP : va_P D cl (pr_w L ad dA σ) H) (hS : va_S A s.heap H locs) (hf : (v, σ) = res) (hdg : decode cc pc = .ok (.ireturn, 1)) : W p l e R s m args below meth c H locs 0 0 (MQ below (pr_Qi D cl L ad dA A res) args s 0 0 A) (F0 m pc ls [.int v]) := by
  obtain ⟨hx, hb, hml, hown, hts, hr, hlocks, hK, hD, hX, hXs⟩ := E
  exact W.zret (v := v) hx hb hr hz (fun t ht hW => ⟨⟨v, σ, rfl, hf, by rw [ht]; exact hP, va_K.moved hW.alike hK⟩, hS.F ht⟩) hS.2.2 hdg
end PRJC
section PRJ
variable {l : Launch} {D : va_G} {ad : Nat → Nat} {dA : Nat → ClassId} {A : Nat → Prop} {v : Nat → Nat} {r : Value}
variable {L : pr_L} {cl : List vw_C}
theorem prJ_pre_c (hr0 : r = .null ∨ ∃ q : Nat, r = .ref q) (hD : ∀ σ : pr_St, va_D A (pr_w L ad dA σ)) (hX : pr_Xok A (prY ad v r A)) (h : Nat) (σ : pr_St) (i n : Int32) (hi : ¬ i < 0) (hn : i < n) : Met l prJ_pre (Cond.code prJ_pre prJb_pre 3 (some .int) :: pr_U) (pr_rm h) (pr_Pc (prY ad v r A) D cl L ad dA [.int i, .int n, r] σ) (pr_Qi D cl L ad dA A (i, σ)) 0 0 A := by
  rcases hr0 with rfl | ⟨q0, rfl⟩
  · refine pr_entry (cc := prJb_pre) (maxL := 3) (ret := some .int) (by decide) (Nat.le_of_ble_eq_true rfl) hD hX ?_
    intro p e s m args below meth c E H locs hP hS ls hl
    have hl : lv_has ls 3 [(0, .int i), (1, .int n), (2, _)] := hl
    obtain ⟨hx, hb, hml, hown, hts, hr, hlocks, hK, hD, hX, hXs⟩ := id E
    refine lv_iload_n hx hb (show decode prJb_pre 0 = .ok (.iload_n 0, 1) by decide +kernel) rfl (lv_at hl 0 rfl) ?_
    refine lv_if_lt (tgt := 9) hx hb (show decode prJb_pre 1 = .ok (.ifCond .lt 8, 3) by decide +kernel) (by decide) (fun c => absurd c hi) (fun c => ?_)
    refine lv_iload_n hx hb (show decode prJb_pre 4 = .ok (.iload_n 0, 1) by decide +kernel) rfl (lv_at hl 0 rfl) ?_
    refine lv_iload_n hx hb (show decode prJb_pre 5 = .ok (.iload_n 1, 1) by decide +kernel) rfl (lv_at hl 1 rfl) ?_
    refine lv_icmp_lt (tgt := 16) hx hb (show decode prJb_pre 6 = .ok (.if_icmp .lt 10, 3) by decide +kernel) (by decide) (fun c => ?_) (fun c => absurd hn c)
    refine lv_iload_n hx hb (show decode prJb_pre 16 = .ok (.iload_n 0, 1) by decide +kernel) rfl (lv_at hl 0 rfl) ?_
    exact pr_reti E hP hS rfl (show decode prJb_pre 17 = .ok (.ireturn, 1) by decide +kernel)
  · refine pr_entry (cc := prJb_pre) (maxL := 3) (ret := some .int) (by decide) (Nat.le_of_ble_eq_true rfl) hD hX ?_
    intro p e s m args below meth c E H locs hP hS ls hl
    have hl : lv_has ls 3 [(0, .int i), (1, .int n), (2, _)] := hl
    obtain ⟨hx, hb, hml, hown, hts, hr, hlocks, hK, hD, hX, hXs⟩ := id E
    refine lv_iload_n hx hb (show decode prJb_pre 0 = .ok (.iload_n 0, 1) by decide +kernel) rfl (lv_at hl 0 rfl) ?_
    refine lv_if_lt (tgt := 9) hx hb (show decode prJb_pre 1 = .ok (.ifCond .lt 8, 3) by decide +kernel) (by decide) (fun c => absurd c hi) (fun c => ?_)
    refine lv_iload_n hx hb (show decode prJb_pre 4 = .ok (.iload_n 0, 1) by decide +kernel) rfl (lv_at hl 0 rfl) ?_
    refine lv_iload_n hx hb (show decode prJb_pre 5 = .ok (.iload_n 1, 1) by decide +kernel) rfl (lv_at hl 1 rfl) ?_
    refine lv_icmp_lt (tgt := 16) hx hb (show decode prJb_pre 6 = .ok (.if_icmp .lt 10, 3) by decide +kernel) (by decide) (fun c => ?_) (fun c => absurd hn c)
    refine lv_iload_n hx hb (show decode prJb_pre 16 = .ok (.iload_n 0, 1) by decide +kernel) rfl (lv_at hl 0 rfl) ?_
    exact pr_reti E hP hS rfl (show decode prJb_pre 17 = .ok (.ireturn, 1) by decide +kernel)
theorem prJw_0 : Cond.methodLink prJ_S 1059 prJ_pre ∈ pr_U := pr_inU (lw_in6 (List.mem_of_getElem? (i := 140) rfl)) rfl
theorem prJw_1 : Cond.static prJ_pre ∈ pr_U := pr_inU (lw_in6 (List.mem_of_getElem? (i := 141) rfl)) rfl
theorem prJw_2 : Cond.code prJ_pre prJb_pre 3 (some .int) ∈ pr_U := pr_inU (lw_in6 (List.mem_of_getElem? (i := 142) rfl)) rfl
theorem prJw_3 : Cond.initialized "jdk/internal/util/Preconditions" ∈ pr_U := pr_inU (lw_in1 (List.mem_of_getElem? (i := 12) rfl)) rfl
theorem prJw_4 : Cond.fieldLink prJ_S 1053 "jdk/internal/util/Preconditions" "SIOOBE_FORMATTER" "Ljava/util/function/BiFunction;" ∈ pr_U := pr_inU (lw_in6 (List.mem_of_getElem? (i := 138) rfl)) rfl
theorem prJw_5 : Cond.initialized prJ_S ∈ pr_U := pr_inU (lw_in1 (List.mem_of_getElem? (i := 10) rfl)) rfl
theorem prJw_6 : Cond.initialized "java/lang/StringLatin1" ∈ pr_U := pr_inU (lw_in1 (List.mem_of_getElem? (i := 11) rfl)) rfl
theorem prJw_7 : Cond.methodLink "java/lang/StringLatin1" 9 prJ_chk ∈ pr_U := pr_inU (lw_in6 (List.mem_of_getElem? (i := 135) rfl)) rfl
theorem prJw_8 : Cond.static prJ_chk ∈ pr_U := pr_inU (lw_in6 (List.mem_of_getElem? (i := 136) rfl)) rfl
theorem prJw_9 : Cond.code prJ_chk prJb_chk 2 none ∈ pr_U := pr_inU (lw_in6 (List.mem_of_getElem? (i := 137) rfl)) rfl
theorem prJw_10 : Cond.methodLink prJ_S 495 prJ_lat ∈ pr_U := pr_inU (lw_in6 (List.mem_of_getElem? (i := 132) rfl)) rfl
theorem prJw_11 : Cond.static prJ_lat ∈ pr_U := pr_inU (lw_in6 (List.mem_of_getElem? (i := 133) rfl)) rfl
theorem prJw_12 : Cond.code prJ_lat prJb_lat 2 (some .char) ∈ pr_U := pr_inU (lw_in6 (List.mem_of_getElem? (i := 134) rfl)) rfl
theorem prJw_13 : Cond.methodLink prJ_S 492 prJ_isl ∈ pr_U := pr_inU (lw_in6 (List.mem_of_getElem? (i := 128) rfl)) rfl
theorem prJw_14 : Cond.instanceMethod prJ_isl ∈ pr_U := pr_inU (lw_in6 (List.mem_of_getElem? (i := 129) rfl)) rfl
theorem prJw_15 : Cond.selects prJ_S prJ_isl prJ_isl ∈ pr_U := pr_inU (lw_in6 (List.mem_of_getElem? (i := 130) rfl)) rfl
theorem prJw_16 : Cond.code prJ_isl prJb_isl 1 (some .boolean) ∈ pr_U := pr_inU (lw_in6 (List.mem_of_getElem? (i := 131) rfl)) rfl
theorem prJw_17 : Cond.instanceMethod prJ_cha ∈ pr_U := pr_inU (lw_in6 (List.mem_of_getElem? (i := 125) rfl)) rfl
theorem prJw_18 : Cond.selects prJ_S prJ_cha prJ_cha ∈ pr_U := pr_inU (lw_in6 (List.mem_of_getElem? (i := 126) rfl)) rfl
theorem prJw_19 : Cond.code prJ_cha prJb_cha 2 (some .char) ∈ pr_U := pr_inU (lw_in6 (List.mem_of_getElem? (i := 127) rfl)) rfl
theorem prJw_20 : Cond.methodLink prJ_S 335 prJ_cod ∈ pr_U := pr_inU (lw_in6 (List.mem_of_getElem? (i := 118) rfl)) rfl
theorem prJw_21 : Cond.instanceMethod prJ_cod ∈ pr_U := pr_inU (lw_in6 (List.mem_of_getElem? (i := 119) rfl)) rfl
theorem prJw_22 : Cond.selects prJ_S prJ_cod prJ_cod ∈ pr_U := pr_inU (lw_in6 (List.mem_of_getElem? (i := 120) rfl)) rfl
theorem prJw_23 : Cond.code prJ_cod prJb_cod 1 (some .byte) ∈ pr_U := pr_inU (lw_in6 (List.mem_of_getElem? (i := 121) rfl)) rfl
theorem prJw_24 : Cond.instanceMethod prJ_len ∈ pr_U := pr_inU (lw_in6 (List.mem_of_getElem? (i := 115) rfl)) rfl
theorem prJw_25 : Cond.selects prJ_S prJ_len prJ_len ∈ pr_U := pr_inU (lw_in6 (List.mem_of_getElem? (i := 116) rfl)) rfl
theorem prJw_26 : Cond.code prJ_len prJb_len 1 (some .int) ∈ pr_U := pr_inU (lw_in6 (List.mem_of_getElem? (i := 117) rfl)) rfl
theorem prJw_27 : Cond.fieldLink prJ_S 38 prJ_S "COMPACT_STRINGS" "Z" ∈ pr_U := pr_inU (lw_in6 (List.mem_of_getElem? (i := 122) rfl)) rfl
theorem prJw_28 : Cond.fieldLink prJ_S 9 prJ_S "value" "[B" ∈ pr_U := pr_inU (lw_in7 (List.mem_of_getElem? (i := 169) rfl)) rfl
theorem prJw_29 : Cond.fieldLink prJ_S 15 prJ_S "coder" "B" ∈ pr_U := pr_inU (lw_in7 (List.mem_of_getElem? (i := 170) rfl)) rfl
/-- what charAt reckons of each letter: itself -/
theorem prJ_letters : ∀ k, k < 8 → prs_len.getD k 0 < 2 ^ 31 ∧ ∀ j, j < prs_len.getD k 0 → ((((prs_byt.getD k []).getD j 0 &&& 255).toUInt32 % 65536).toInt32 = prs_ch k j ∧ narrow .char (.int (prs_ch k j)) = .int (prs_ch k j)) := by decide +kernel
theorem prJ_chk_c (hD : ∀ σ : pr_St, va_D A (pr_w L ad dA σ)) (hX : pr_Xok A (prY ad v r A)) (h : Nat) (hh : 1 ≤ h) (σ : pr_St) (i n : Int32) (hi : ¬ i < 0) (hn : i < n) : Met l prJ_chk (Cond.code prJ_chk prJb_chk 2 none :: pr_U) (pr_rm h) (pr_Pc (prY ad v r A) D cl L ad dA [.int i, .int n] σ) (pr_Qv D cl L ad dA A σ) 0 0 A := by
  refine pr_entry (cc := prJb_chk) (maxL := 2) (ret := none) (by decide) (Nat.le_of_ble_eq_true rfl) hD hX ?_
  intro p e s m args below meth c E H locs hP hS ls hl
  have hl : lv_has ls 2 [(0, .int i), (1, .int n)] := hl
  obtain ⟨hx, hb, hml, hown, hts, hr, hlocks, hK, hD, hX, hXs⟩ := id E
  refine lv_iload_n hx hb (show decode prJb_chk 0 = .ok (.iload_n 0, 1) by decide +kernel) rfl (lv_at hl 0 rfl) ?_
  refine lv_iload_n hx hb (show decode prJb_chk 1 = .ok (.iload_n 1, 1) by decide +kernel) rfl (lv_at hl 1 rfl) ?_
  refine va_gets hx hb hXs.2.2.1 hS hown (hts _ prJw_4) (fun _ h => h) (show decode prJb_chk 2 = .ok (.getstatic 1053, 3) by decide +kernel) ?_
  refine pr_callSr (rest := []) (r := i) ⟨hx, hb, hml, hown, hts⟩ (prJ_pre_c hXs.2.2.2 hD hX 0 σ i n hi hn) ⟨callB_of 3 hts (pr_goodIn (fun w hw => by rcases List.mem_cons.mp hw with e | e; exact e ▸ prJw_2; exact e)) rfl rfl rfl (hts _ prJw_3) (hts _ prJw_0) (by decide +kernel) (pr_room hh (by decide)), hts _ prJw_1⟩ hX hXs hK hP hS rfl rfl hl.1 (Nat.le_of_ble_eq_true rfl) (show decode prJb_chk 5 = .ok (.invokestatic 1059, 3) by decide +kernel) (fun H locs hP hS => ?_)
  refine lv_pop hx hb (show decode prJb_chk 8 = .ok (.pop, 1) by decide +kernel) rfl ?_
  exact pr_retv E hP hS rfl (show decode prJb_chk 9 = .ok (.return_, 1) by decide +kernel)
theorem prJ_lat_c (hD : ∀ σ : pr_St, va_D A (pr_w L ad dA σ)) (hX : pr_Xok A (prY ad v r A)) (h : Nat) (hh : 2 ≤ h) (σ : pr_St) (k : Nat) (hk : k < 8) (i : Int32) (hi : vp_in i (prs_ln k)) : Met l prJ_lat (Cond.code prJ_lat prJb_lat 2 (some .char) :: pr_U) (pr_rm h) (pr_Pc (prY ad v r A) D cl L ad dA [.ref (v k), .int i] σ) (pr_Qi D cl L ad dA A (prs_ch k i.toNatClampNeg, σ)) 0 0 A := by
  refine pr_entry (cc := prJb_lat) (maxL := 2) (ret := some .char) (by decide) (Nat.le_of_ble_eq_true rfl) hD hX ?_
  intro p e s m args below meth c E H locs hP hS ls hl
  have hl : lv_has ls 2 [(0, .ref (v k)), (1, .int i)] := hl
  obtain ⟨hx, hb, hml, hown, hts, hr, hlocks, hK, hD, hX, hXs⟩ := id E
  have hT := (hXs.1.1 k hk).2.2.2
  obtain ⟨h31, hlet⟩ := prJ_letters k hk
  have hi0 : ¬ i < 0 := fun q => hi (Or.inl q)
  have hi1 : i.toNatClampNeg < prs_ln k := Nat.not_le.mp fun q => hi (Or.inr q)
  have hin : i < Int32.ofNat (prs_len.getD k 0) := by
    have h0 : (0 : Int) ≤ i.toInt := by
      have := Int32.not_lt.mp hi0
      simpa using Int32.le_iff_toInt_le.mp this
    rw [Int32.lt_iff_toInt_lt, Int32.toInt_ofNat_of_lt h31]
    have h2 : i.toInt.toNat < prs_len.getD k 0 := hi1
    omega
  refine lv_iload_n hx hb (show decode prJb_lat 0 = .ok (.iload_n 1, 1) by decide +kernel) rfl (lv_at hl 1 rfl) ?_
  refine lv_aload_n hx hb (show decode prJb_lat 1 = .ok (.aload_n 0, 1) by decide +kernel) rfl (lv_at hl 0 rfl) ?_
  refine va_tlen hx hb hT hS rfl (show decode prJb_lat 2 = .ok (.arraylength, 1) by decide +kernel) ?_
  refine pr_callSv (rest := []) (res := σ) ⟨hx, hb, hml, hown, hts⟩ (prJ_chk_c hD hX 1 (Nat.le_refl _) σ i _ hi0 hin) ⟨callB_of 2 hts (pr_goodIn (fun w hw => by rcases List.mem_cons.mp hw with e | e; exact e ▸ prJw_9; exact e)) rfl rfl rfl (hts _ prJw_5) (hts _ prJw_7) (by decide +kernel) (pr_room hh (by decide)), hts _ prJw_8⟩ hX hXs hK hP hS rfl rfl hl.1 (Nat.le_of_ble_eq_true rfl) (show decode prJb_lat 3 = .ok (.invokestatic 9, 3) by decide +kernel) (fun H locs hP hS => ?_)
  refine lv_aload_n hx hb (show decode prJb_lat 6 = .ok (.aload_n 0, 1) by decide +kernel) rfl (lv_at hl 0 rfl) ?_
  refine lv_iload_n hx hb (show decode prJb_lat 7 = .ok (.iload_n 1, 1) by decide +kernel) rfl (lv_at hl 1 rfl) ?_
  refine va_tb hx hb hT hS hi rfl (show decode prJb_lat 8 = .ok (.baload, 1) by decide +kernel) ?_
  refine lv_sipush (v := 255) hx hb (show decode prJb_lat 9 = .ok (.sipush 255, 3) by decide +kernel) (by decide) ?_
  refine lv_iand hx hb (show decode prJb_lat 12 = .ok (.iand, 1) by decide +kernel) ?_
  refine lv_i2c hx hb (show decode prJb_lat 13 = .ok (.i2c, 1) by decide +kernel) (hlet _ hi1).1 ?_
  exact pr_retn E (hlet _ hi1).2 hP hS rfl (show decode prJb_lat 14 = .ok (.ireturn, 1) by decide +kernel)
theorem prJ_isl_c (hD : ∀ σ : pr_St, va_D A (pr_w L ad dA σ)) (hX : pr_Xok A (prY ad v r A)) (h : Nat) (σ : pr_St) (k : Nat) (hk : k < 8) : Met l prJ_isl (Cond.code prJ_isl prJb_isl 1 (some .boolean) :: pr_U) (pr_rm h) (pr_Pc (prY ad v r A) D cl L ad dA [.ref (ad (1000 + k))] σ) (pr_Qi D cl L ad dA A (1, σ)) 0 0 A := by
  refine pr_entry (cc := prJb_isl) (maxL := 1) (ret := some .boolean) (by decide) (Nat.le_of_ble_eq_true rfl) hD hX ?_
  intro p e s m args below meth c E H locs hP hS ls hl
  have hl : lv_has ls 1 [(0, .ref (ad (1000 + k)))] := hl
  obtain ⟨hx, hb, hml, hown, hts, hr, hlocks, hK, hD, hX, hXs⟩ := id E
  refine va_gets hx hb hXs.2.1 hS hown (hts _ prJw_27) (fun _ h => h) (show decode prJb_isl 0 = .ok (.getstatic 38, 3) by decide +kernel) ?_
  refine lv_if_eq (tgt := 17) hx hb (show decode prJb_isl 3 = .ok (.ifCond .eq 14, 3) by decide +kernel) (by decide) (fun c => absurd c (by decide)) (fun c => ?_)
  refine lv_aload_n hx hb (show decode prJb_isl 6 = .ok (.aload_n 0, 1) by decide +kernel) rfl (lv_at hl 0 rfl) ?_
  refine vk_getf hx hb (hXs.1.1 k hk).2.1 hS hown (hts _ prJw_29) (fun _ h => h) (show decode prJb_isl 7 = .ok (.getfield 15, 3) by decide +kernel) ?_
  refine lv_if_ne (tgt := 17) hx hb (show decode prJb_isl 10 = .ok (.ifCond .ne 7, 3) by decide +kernel) (by decide) (fun c => absurd rfl c) (fun c => ?_)
  refine lv_iconst (v := 1) hx hb (show decode prJb_isl 13 = .ok (.iconst 1, 1) by decide +kernel) (by decide) ?_
  refine lv_goto (tgt := 18) hx hb (show decode prJb_isl 14 = .ok (.goto 4, 3) by decide +kernel) (by decide) ?_
  exact pr_retn E (by decide) hP hS rfl (show decode prJb_isl 18 = .ok (.ireturn, 1) by decide +kernel)
theorem prJ_cod_c (hD : ∀ σ : pr_St, va_D A (pr_w L ad dA σ)) (hX : pr_Xok A (prY ad v r A)) (h : Nat) (σ : pr_St) (k : Nat) (hk : k < 8) : Met l prJ_cod (Cond.code prJ_cod prJb_cod 1 (some .byte) :: pr_U) (pr_rm h) (pr_Pc (prY ad v r A) D cl L ad dA [.ref (ad (1000 + k))] σ) (pr_Qi D cl L ad dA A (0, σ)) 0 0 A := by
  refine pr_entry (cc := prJb_cod) (maxL := 1) (ret := some .byte) (by decide) (Nat.le_of_ble_eq_true rfl) hD hX ?_
  intro p e s m args below meth c E H locs hP hS ls hl
  have hl : lv_has ls 1 [(0, .ref (ad (1000 + k)))] := hl
  obtain ⟨hx, hb, hml, hown, hts, hr, hlocks, hK, hD, hX, hXs⟩ := id E
  refine va_gets hx hb hXs.2.1 hS hown (hts _ prJw_27) (fun _ h => h) (show decode prJb_cod 0 = .ok (.getstatic 38, 3) by decide +kernel) ?_
  refine lv_if_eq (tgt := 13) hx hb (show decode prJb_cod 3 = .ok (.ifCond .eq 10, 3) by decide +kernel) (by decide) (fun c => absurd c (by decide)) (fun c => ?_)
  refine lv_aload_n hx hb (show decode prJb_cod 6 = .ok (.aload_n 0, 1) by decide +kernel) rfl (lv_at hl 0 rfl) ?_
  refine vk_getf hx hb (hXs.1.1 k hk).2.1 hS hown (hts _ prJw_29) (fun _ h => h) (show decode prJb_cod 7 = .ok (.getfield 15, 3) by decide +kernel) ?_
  refine lv_goto (tgt := 14) hx hb (show decode prJb_cod 10 = .ok (.goto 4, 3) by decide +kernel) (by decide) ?_
  exact pr_retn E (by decide) hP hS rfl (show decode prJb_cod 14 = .ok (.ireturn, 1) by decide +kernel)
theorem prJ_len_c (hD : ∀ σ : pr_St, va_D A (pr_w L ad dA σ)) (hX : pr_Xok A (prY ad v r A)) (h : Nat) (hh : 1 ≤ h) (σ : pr_St) (k : Nat) (hk : k < 8) : Met l prJ_len (Cond.code prJ_len prJb_len 1 (some .int) :: pr_U) (pr_rm h) (pr_Pc (prY ad v r A) D cl L ad dA [.ref (ad (1000 + k))] σ) (pr_Qi D cl L ad dA A (Int32.ofNat (prs_ln k), σ)) 0 0 A := by
  refine pr_entry (cc := prJb_len) (maxL := 1) (ret := some .int) (by decide) (Nat.le_of_ble_eq_true rfl) hD hX ?_
  intro p e s m args below meth c E H locs hP hS ls hl
  have hl : lv_has ls 1 [(0, .ref (ad (1000 + k)))] := hl
  obtain ⟨hx, hb, hml, hown, hts, hr, hlocks, hK, hD, hX, hXs⟩ := id E
  refine lv_aload_n hx hb (show decode prJb_len 0 = .ok (.aload_n 0, 1) by decide +kernel) rfl (lv_at hl 0 rfl) ?_
  refine vk_getf hx hb (hXs.1.1 k hk).2.2.1 hS hown (hts _ prJw_28) (fun _ h => h) (show decode prJb_len 1 = .ok (.getfield 9, 3) by decide +kernel) ?_
  refine va_tlen hx hb (hXs.1.1 k hk).2.2.2 hS rfl (show decode prJb_len 4 = .ok (.arraylength, 1) by decide +kernel) ?_
  refine lv_aload_n hx hb (show decode prJb_len 5 = .ok (.aload_n 0, 1) by decide +kernel) rfl (lv_at hl 0 rfl) ?_
  refine pr_callTr (rest := [.int (Int32.ofNat (prs_len.getD k 0))]) (r := 0) ⟨hx, hb, hml, hown, hts⟩ (prJ_cod_c hD hX 0 σ k hk) (pr_cwV 0 hts prJw_20 prJw_21 prJw_22 prJw_5 prJw_23 rfl rfl (by decide +kernel) (pr_room hh (by decide))) hX hXs hK hP hS (vk_recv (adK := fun i => ad (1000 + i)) (i := k) hXs.1 hk hS) rfl rfl hl.1 (Nat.le_of_ble_eq_true rfl) (show decode prJb_len 6 = .ok (.invokevirtual 335, 3) by decide +kernel) (fun H locs hP hS => ?_)
  refine lv_ishr hx hb (show decode prJb_len 9 = .ok (.ishr, 1) by decide +kernel) ?_
  refine pr_reti E hP hS ?_ (show decode prJb_len 10 = .ok (.ireturn, 1) by decide +kernel)
  have e : ∀ k, k < 8 → (Int32.ofNat (prs_len.getD k 0) >>> ((0 : Int32) &&& 31)) = Int32.ofNat (prs_ln k) := by decide +kernel
  rw [e k hk]
theorem prJ_cha_c (hD : ∀ σ : pr_St, va_D A (pr_w L ad dA σ)) (hX : pr_Xok A (prY ad v r A)) (h : Nat) (hh : 3 ≤ h) (σ : pr_St) (k : Nat) (hk : k < 8) (i : Int32) (hi : vp_in i (prs_ln k)) : Met l prJ_cha (Cond.code prJ_cha prJb_cha 2 (some .char) :: pr_U) (pr_rm h) (pr_Pc (prY ad v r A) D cl L ad dA [.ref (ad (1000 + k)), .int i] σ) (pr_Qi D cl L ad dA A (prs_ch k i.toNatClampNeg, σ)) 0 0 A := by
  refine pr_entry (cc := prJb_cha) (maxL := 2) (ret := some .char) (by decide) (Nat.le_of_ble_eq_true rfl) hD hX ?_
  intro p e s m args below meth c E H locs hP hS ls hl
  have hl : lv_has ls 2 [(0, .ref (ad (1000 + k))), (1, .int i)] := hl
  obtain ⟨hx, hb, hml, hown, hts, hr, hlocks, hK, hD, hX, hXs⟩ := id E
  have hi1 : i.toNatClampNeg < prs_ln k := Nat.not_le.mp fun q => hi (Or.inr q)
  obtain ⟨h31, hlet⟩ := prJ_letters k hk
  refine lv_aload_n hx hb (show decode prJb_cha 0 = .ok (.aload_n 0, 1) by decide +kernel) rfl (lv_at hl 0 rfl) ?_
  refine pr_callTr (rest := []) (r := 1) ⟨hx, hb, hml, hown, hts⟩ (prJ_isl_c hD hX 0 σ k hk) (pr_cwV 0 hts prJw_13 prJw_14 prJw_15 prJw_5 prJw_16 rfl rfl (by decide +kernel) (pr_room (by omega) (by decide))) hX hXs hK hP hS (vk_recv (adK := fun i => ad (1000 + i)) (i := k) hXs.1 hk hS) rfl rfl hl.1 (Nat.le_of_ble_eq_true rfl) (show decode prJb_cha 1 = .ok (.invokevirtual 492, 3) by decide +kernel) (fun H locs hP hS => ?_)
  refine lv_if_eq (tgt := 16) hx hb (show decode prJb_cha 4 = .ok (.ifCond .eq 12, 3) by decide +kernel) (by decide) (fun c => absurd c (by decide)) (fun c => ?_)
  refine lv_aload_n hx hb (show decode prJb_cha 7 = .ok (.aload_n 0, 1) by decide +kernel) rfl (lv_at hl 0 rfl) ?_
  refine vk_getf hx hb (hXs.1.1 k hk).2.2.1 hS hown (hts _ prJw_28) (fun _ h => h) (show decode prJb_cha 8 = .ok (.getfield 9, 3) by decide +kernel) ?_
  refine lv_iload_n hx hb (show decode prJb_cha 11 = .ok (.iload_n 1, 1) by decide +kernel) rfl (lv_at hl 1 rfl) ?_
  refine pr_callSr (rest := []) (r := prs_ch k i.toNatClampNeg) ⟨hx, hb, hml, hown, hts⟩ (prJ_lat_c hD hX 2 (Nat.le_refl _) σ k hk i hi) ⟨callB_of 2 hts (pr_goodIn (fun w hw => by rcases List.mem_cons.mp hw with e | e; exact e ▸ prJw_12; exact e)) rfl rfl rfl (hts _ prJw_6) (hts _ prJw_10) (by decide +kernel) (pr_room hh (by decide)), hts _ prJw_11⟩ hX hXs hK hP hS rfl rfl hl.1 (Nat.le_of_ble_eq_true rfl) (show decode prJb_cha 12 = .ok (.invokestatic 495, 3) by decide +kernel) (fun H locs hP hS => ?_)
  exact pr_retn E (hlet _ hi1).2 hP hS rfl (show decode prJb_cha 15 = .ok (.ireturn, 1) by decide +kernel)
end PRJ
