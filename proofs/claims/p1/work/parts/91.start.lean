def prCad (q0 : Nat) (u : List (Nat × List (Nat × ClassId))) : Nat → Nat := fun j => match j with
  | 0 => q0
  | 1 => (pr_v u 1).1
  | 2 => (pr_v u 0).1
  | 3 => (pr_v u 2).1
  | 4 => (pr_v u 3).1
  | 5 => (pr_u (pr_v u 4).2 5).1
  | 6 => (pr_v u 4).1
  | 7 => (pr_v u 5).1
  | 8 => (pr_u (pr_v u 1).2 0).1
  | 9 => (pr_u (pr_v u 1).2 1).1
  | 10 => (pr_u (pr_v u 1).2 2).1
  | 11 => (pr_u (pr_v u 1).2 3).1
  | 12 => (pr_u (pr_v u 0).2 0).1
  | 13 => (pr_u (pr_v u 0).2 1).1
  | 14 => (pr_u (pr_v u 0).2 2).1
  | 15 => (pr_u (pr_v u 0).2 3).1
  | 16 => (pr_u (pr_v u 0).2 4).1
  | 17 => (pr_u (pr_v u 0).2 5).1
  | 18 => (pr_u (pr_v u 0).2 6).1
  | 19 => (pr_u (pr_v u 0).2 7).1
  | 20 => (pr_u (pr_v u 0).2 8).1
  | 21 => (pr_u (pr_v u 0).2 9).1
  | 22 => (pr_u (pr_v u 0).2 10).1
  | 23 => (pr_u (pr_v u 0).2 11).1
  | 24 => (pr_u (pr_v u 0).2 12).1
  | 25 => (pr_u (pr_v u 3).2 0).1
  | 26 => (pr_u (pr_v u 3).2 1).1
  | 27 => (pr_u (pr_v u 3).2 2).1
  | 28 => (pr_u (pr_v u 3).2 3).1
  | 29 => (pr_u (pr_v u 3).2 4).1
  | 30 => (pr_u (pr_v u 3).2 5).1
  | 31 => (pr_u (pr_v u 3).2 6).1
  | 32 => (pr_u (pr_v u 3).2 7).1
  | 33 => (pr_u (pr_v u 3).2 8).1
  | 34 => (pr_u (pr_v u 3).2 9).1
  | 35 => (pr_u (pr_v u 3).2 10).1
  | 36 => (pr_u (pr_v u 3).2 11).1
  | 37 => (pr_u (pr_v u 3).2 12).1
  | 38 => (pr_u (pr_v u 3).2 13).1
  | 39 => (pr_u (pr_us (pr_v u 4).2 6) 0).1
  | 40 => (pr_u (pr_us (pr_v u 4).2 6) 1).1
  | 41 => (pr_u (pr_us (pr_v u 4).2 6) 2).1
  | 42 => (pr_u (pr_v u 4).2 0).1
  | 43 => (pr_u (pr_v u 4).2 1).1
  | 44 => (pr_u (pr_v u 4).2 2).1
  | 45 => (pr_u (pr_v u 4).2 3).1
  | 46 => (pr_u (pr_v u 4).2 4).1
  | 47 => (pr_u (pr_v u 5).2 0).1
  | 48 => (pr_u (pr_v u 5).2 1).1
  | 49 => (pr_u (pr_v u 5).2 2).1
  | 50 => (pr_u (pr_v u 5).2 3).1
  | 51 => (pr_u (pr_v u 5).2 4).1
  | _ => 0
def prCdA (u : List (Nat × List (Nat × ClassId))) : Nat → ClassId := fun j => match j with
  | 8 => (pr_u (pr_v u 1).2 0).2
  | 9 => (pr_u (pr_v u 1).2 1).2
  | 10 => (pr_u (pr_v u 1).2 2).2
  | 11 => (pr_u (pr_v u 1).2 3).2
  | 12 => (pr_u (pr_v u 0).2 0).2
  | 13 => (pr_u (pr_v u 0).2 1).2
  | 14 => (pr_u (pr_v u 0).2 2).2
  | 15 => (pr_u (pr_v u 0).2 3).2
  | 16 => (pr_u (pr_v u 0).2 4).2
  | 17 => (pr_u (pr_v u 0).2 5).2
  | 18 => (pr_u (pr_v u 0).2 6).2
  | 19 => (pr_u (pr_v u 0).2 7).2
  | 20 => (pr_u (pr_v u 0).2 8).2
  | 21 => (pr_u (pr_v u 0).2 9).2
  | 22 => (pr_u (pr_v u 0).2 10).2
  | 23 => (pr_u (pr_v u 0).2 11).2
  | 24 => (pr_u (pr_v u 0).2 12).2
  | 25 => (pr_u (pr_v u 3).2 0).2
  | 26 => (pr_u (pr_v u 3).2 1).2
  | 27 => (pr_u (pr_v u 3).2 2).2
  | 28 => (pr_u (pr_v u 3).2 3).2
  | 29 => (pr_u (pr_v u 3).2 4).2
  | 30 => (pr_u (pr_v u 3).2 5).2
  | 31 => (pr_u (pr_v u 3).2 6).2
  | 32 => (pr_u (pr_v u 3).2 7).2
  | 33 => (pr_u (pr_v u 3).2 8).2
  | 34 => (pr_u (pr_v u 3).2 9).2
  | 35 => (pr_u (pr_v u 3).2 10).2
  | 36 => (pr_u (pr_v u 3).2 11).2
  | 37 => (pr_u (pr_v u 3).2 12).2
  | 38 => (pr_u (pr_v u 3).2 13).2
  | 39 => (pr_u (pr_us (pr_v u 4).2 6) 0).2
  | 40 => (pr_u (pr_us (pr_v u 4).2 6) 1).2
  | 41 => (pr_u (pr_us (pr_v u 4).2 6) 2).2
  | 42 => (pr_u (pr_v u 4).2 0).2
  | 43 => (pr_u (pr_v u 4).2 1).2
  | 44 => (pr_u (pr_v u 4).2 2).2
  | 45 => (pr_u (pr_v u 4).2 3).2
  | 46 => (pr_u (pr_v u 4).2 4).2
  | 47 => (pr_u (pr_v u 5).2 0).2
  | 48 => (pr_u (pr_v u 5).2 1).2
  | 49 => (pr_u (pr_v u 5).2 2).2
  | 50 => (pr_u (pr_v u 5).2 3).2
  | 51 => (pr_u (pr_v u 5).2 4).2
  | _ => 0
def prCperm : List Nat := [0, 15, 1, 20, 21, 42, 36, 46, 16, 17, 18, 19, 2, 3, 4, 5, 6, 7, 8, 9, 10, 11, 12, 13, 14, 22, 23, 24, 25, 26, 27, 28, 29, 30, 31, 32, 33, 34, 35, 43, 44, 45, 37, 38, 39, 40, 41, 47, 48, 49, 50, 51]
def prCtperm : List Nat := [13, 14, 15, 16, 0, 1, 2, 3, 4, 5, 6, 7, 8, 9, 10, 11, 12, 17, 18, 19, 20, 21, 22, 23, 24, 25, 26, 27, 28, 29, 30, 36, 37, 38, 31, 32, 33, 34, 35, 39, 40, 41, 42, 43]
set_option maxHeartbeats 4000000 in
set_option maxRecDepth 100000 in
theorem prC_map (q0 : Nat) (u : List (Nat × List (Nat × ClassId))) : prCperm.map (fun i => (prIw_P q0 u)[i]?) = (pr_w prc_L (prCad q0 u) (prCdA u) prIs_C).map some := by rfl
set_option maxHeartbeats 4000000 in
set_option maxRecDepth 100000 in
theorem prC_tmap (u : List (Nat × List (Nat × ClassId))) : prCtperm.map (fun i => (prIt_P u)[i]?) = (pr_t prc_L (prCdA u)).map some := by rfl
theorem pr_fm {α : Type} {f : Nat → Option α} {is : List Nat} {l : List α} (h : is.map f = l.map some) : is.filterMap f = l := by
  have e : is.filterMap f = (is.map f).filterMap id := by rw [List.filterMap_map]; rfl
  rw [e, h, List.filterMap_map]
  have : (id ∘ some : α → Option α) = some := rfl
  rw [this, List.filterMap_some]
theorem pr_map_at {α : Type} {f : Nat → Option α} {is : List Nat} {l : List α} (h : is.map f = l.map some) {k : Nat} {x : α} (hk : l[k]? = some x) : ∃ i : Nat, f i = some x := by
  have h1 : (is.map f)[k]? = some (some x) := by rw [h, List.getElem?_map, hk]; rfl
  rw [List.getElem?_map] at h1
  cases hi : is[k]? with
  | none => rw [hi] at h1; cases h1
  | some i => rw [hi] at h1; exact ⟨i, Option.some.inj h1⟩
/-- what the Statement gives of the start: the static row of letters, the eight words -/
theorem pr_given {s : State} {b : Nat} (hts0 : ∀ w ∈ lw_tbl, w.before #[Value.ref b] s = true) (hgv : (Jvm.Cond.and given_1 narrow_1).before #[Value.ref b] s = true) : ∃ (t : Nat) (K v : Nat → Nat) (r : Value), prX t (fun q => s.heap.size ≤ q) s ∧ prIZx K v r (fun q => s.heap.size ≤ q) s := by
  have hs := flat_of_before _ hgv
  have hA : ∀ a : Nat, a < s.heap.size → ¬ (fun q : Nat => s.heap.size ≤ q) a := fun a h => Nat.not_le.mpr h
  obtain ⟨t, ht, hT⟩ := va_Tof (tm := .static "ProgramRuns" "WORDS" "[C") (ty := .char) (N := 40) (f := fun j => .int (pr_wd j)) (A := fun q => s.heap.size ≤ q) (by decide) (hs _ (by decide +kernel)) (va_eqt (hs _ (by decide +kernel))) (fun j hj => va_eqt (hs _ ((by decide +kernel : ∀ j, j < 40 → (Cond.eq (.elem (.static "ProgramRuns" "WORDS" "[C") (.int (Int32.ofNat j))) (.int (pr_wd j))) ∈ flatC (Jvm.Cond.and given_1 narrow_1)) j hj))) hA
  have hZ := va_Zof (A := fun q => s.heap.size ≤ q) (hts0 (.laysStatic "ProgramRuns" "WORDS" "[C") (lw_in2 (List.mem_of_getElem? (i := 156) rfl))) (hts0 (.initialized "ProgramRuns") (lw_in1 (List.mem_of_getElem? (i := 1) rfl))) ht hA
  have hN : va_Nw (.fieldLinkNest "ProgramRuns$Tokens" 84 "ProgramRuns" "WORDS" "[C" "ProgramRuns") s := va_Nw.of rfl (hts0 (.fieldLinkNest "ProgramRuns$Tokens" 84 "ProgramRuns" "WORDS" "[C" "ProgramRuns") (lw_in2 (List.mem_of_getElem? (i := 155) rfl)))
  obtain ⟨K, v, hV, hKev⟩ := vk_Sof (N := 8) (tm := fun i => .string "ProgramRunsModel" (125 + 2 * i)) (len := prs_len) (byt := prs_byt) (A := fun q => s.heap.size ≤ q) (args := #[Value.ref b]) (s := s) (by decide)
    (fun i hi => hs _ ((by decide +kernel : ∀ i, i < 8 → (Cond.exactly (.string "ProgramRunsModel" (125 + 2 * i)) "java/lang/String") ∈ flatC (Jvm.Cond.and given_1 narrow_1)) i hi))
    (fun i hi => hs _ ((by decide +kernel : ∀ i, i < 8 → (Cond.eq (.field (.string "ProgramRunsModel" (125 + 2 * i)) "java/lang/String" "coder" "B") (.int 0)) ∈ flatC (Jvm.Cond.and given_1 narrow_1)) i hi))
    (fun i hi => hs _ ((by decide +kernel : ∀ i, i < 8 → (Cond.arrayOf (.field (.string "ProgramRunsModel" (125 + 2 * i)) "java/lang/String" "value" "[B") .byte) ∈ flatC (Jvm.Cond.and given_1 narrow_1)) i hi))
    (fun i hi => hs _ ((by decide +kernel : ∀ i, i < 8 → (Cond.eq (.length (.field (.string "ProgramRunsModel" (125 + 2 * i)) "java/lang/String" "value" "[B")) (.int (Int32.ofNat (prs_len.getD i 0)))) ∈ flatC (Jvm.Cond.and given_1 narrow_1)) i hi))
    (fun i hi j hj => hs _ ((by decide +kernel : ∀ i, i < 8 → ∀ j, j < prs_len.getD i 0 → (Cond.eq (.elem (.field (.string "ProgramRunsModel" (125 + 2 * i)) "java/lang/String" "value" "[B") (.int (Int32.ofNat j))) (.int ((prs_byt.getD i []).getD j 0))) ∈ flatC (Jvm.Cond.and given_1 narrow_1)) i hi j hj))
    (fun i j hi hj hij => by
      rcases Nat.lt_or_gt_of_ne hij with h | h
      · exact Or.inl (hs _ ((by decide +kernel : ∀ j, j < 8 → ∀ i, i < j → (Cond.not (Cond.eq (.string "ProgramRunsModel" (125 + 2 * i)) (.string "ProgramRunsModel" (125 + 2 * j)))) ∈ flatC (Jvm.Cond.and given_1 narrow_1)) j hj i h))
      · exact Or.inr (hs _ ((by decide +kernel : ∀ j, j < 8 → ∀ i, i < j → (Cond.not (Cond.eq (.string "ProgramRunsModel" (125 + 2 * i)) (.string "ProgramRunsModel" (125 + 2 * j)))) ∈ flatC (Jvm.Cond.and given_1 narrow_1)) i hi j h))) hA
  have hC := va_Zof (A := fun q => s.heap.size ≤ q) (hts0 (.laysStatic "java/lang/String" "COMPACT_STRINGS" "Z") (lw_in6 (List.mem_of_getElem? (i := 123) rfl))) (hts0 (.initialized "java/lang/String") (lw_in1 (List.mem_of_getElem? (i := 10) rfl))) (va_eqi (hs (.eq (.static "java/lang/String" "COMPACT_STRINGS" "Z") (.int 1)) (by decide +kernel))) hA
  have hF := hs (.isRef (.static "jdk/internal/util/Preconditions" "SIOOBE_FORMATTER" "Ljava/util/function/BiFunction;")) (by decide +kernel)
  obtain ⟨r, hr1, hr2⟩ : ∃ r : Value, (Term.static "jdk/internal/util/Preconditions" "SIOOBE_FORMATTER" "Ljava/util/function/BiFunction;").eval #[Value.ref b] s none [] s = some r ∧ (r = .null ∨ ∃ q : Nat, r = .ref q) := by
    cases hv : (Term.static "jdk/internal/util/Preconditions" "SIOOBE_FORMATTER" "Ljava/util/function/BiFunction;").eval #[Value.ref b] s none [] s with
    | none => simp [Cond.before, Cond.holds, Cond.value, hv] at hF
    | some w =>
      refine ⟨w, rfl, ?_⟩
      cases w with
      | ref q => exact Or.inr ⟨q, rfl⟩
      | null => exact Or.inl rfl
      | _ => simp [Cond.before, Cond.holds, Cond.value, hv] at hF
  have hFz := va_Zof (A := fun q => s.heap.size ≤ q) (hts0 (.laysStatic "jdk/internal/util/Preconditions" "SIOOBE_FORMATTER" "Ljava/util/function/BiFunction;") (lw_in6 (List.mem_of_getElem? (i := 139) rfl))) (hts0 (.initialized "jdk/internal/util/Preconditions") (lw_in1 (List.mem_of_getElem? (i := 12) rfl))) hr1 hA
  have eK : (fun i => (fun j => K (j - 1000)) (1000 + i)) = K := by
    funext i
    show K (1000 + i - 1000) = K i
    rw [Nat.add_sub_cancel_left]
  refine ⟨t, K, v, r, ⟨hZ, hT, hN⟩, fun k hk => ?_, ?_, ?_, hC, hFz, hr2⟩
  · refine vk_R.of (A := #[Value.ref b]) ?_ (hKev k hk)
    exact (by
      rcases k with _ | _ | _ | _ | _ | _ | _ | _ | k
      · exact (hts0 (.stringRef "ProgramRunsModel" 125 "fun") (lw_in5 (List.mem_of_getElem? (i := 122) rfl)))
      · exact (hts0 (.stringRef "ProgramRunsModel" 127 "var") (lw_in5 (List.mem_of_getElem? (i := 123) rfl)))
      · exact (hts0 (.stringRef "ProgramRunsModel" 129 "if") (lw_in5 (List.mem_of_getElem? (i := 124) rfl)))
      · exact (hts0 (.stringRef "ProgramRunsModel" 131 "else") (lw_in5 (List.mem_of_getElem? (i := 125) rfl)))
      · exact (hts0 (.stringRef "ProgramRunsModel" 133 "while") (lw_in5 (List.mem_of_getElem? (i := 126) rfl)))
      · exact (hts0 (.stringRef "ProgramRunsModel" 135 "assert") (lw_in5 (List.mem_of_getElem? (i := 127) rfl)))
      · exact (hts0 (.stringRef "ProgramRunsModel" 137 "return") (lw_in5 (List.mem_of_getElem? (i := 128) rfl)))
      · exact (hts0 (.stringRef "ProgramRunsModel" 139 "any") (lw_in5 (List.mem_of_getElem? (i := 129) rfl)))
      · omega)
  · exact va_AO.of (hts0 (.arrayOver (.object "java/lang/String")) (lw_in5 (List.mem_of_getElem? (i := 121) rfl)))
  · show vk_S 8 prs_len prs_byt (fun i => (fun j => K (j - 1000)) (1000 + i)) v _ s s.heap
    rw [eK]
    exact hV
theorem prX_narrow {t : Nat} {A B : Nat → Prop} {U : State} (h : prX t A U) (hAB : ∀ q, B q → A q) : prX t B U := ⟨h.1.narrow hAB, h.2.1.narrow hAB, h.2.2⟩
theorem prY_narrow {ad v : Nat → Nat} {r : Value} {A B : Nat → Prop} {U : State} (h : prY ad v r A U) (hAB : ∀ q, B q → A q) : prY ad v r B U := ⟨h.1.narrow hAB, h.2.1.narrow hAB, h.2.2.1.narrow hAB, h.2.2.2⟩
theorem prIZx_warm {K v : Nat → Nat} {r : Value} {A B : Nat → Prop} {s U : State} (hW : s.WarmedH U.vm) (hk : ∀ q : Nat, q < s.heap.size → U.heap[q]? = s.heap[q]?) (hAB : ∀ q, B q → A q) (h : prIZx K v r A s) (hA : ∀ q, A q → s.heap.size ≤ q) : prIZx K v r B U := by
  refine ⟨fun k hk => (h.1 k hk).warm hW, h.2.1.moved hW.alike, ?_⟩
  exact prY_narrow (prY_ok s U (Or.inr hW) (fun q h1 _ => hk q h1) h.2.2) hAB
theorem prIZx_blind {K v : Nat → Nat} {r : Value} {A : Nat → Prop} : ∀ (a : Array Value) (U : State) (g : JFrame) (mk : MethodId), prIZx K v r A U → prIZx K v r A (U.calling g mk a) := by
  intro a U g mk h
  refine ⟨fun k hk => (h.1 k hk).same rfl, h.2.1.moved (u := U) (U := U.calling g mk a) (Vm.Alike.refl U.vm), ?_⟩
  exact prY_ok U (U.calling g mk a) (Or.inl rfl) (fun _ _ _ => rfl) h.2.2
theorem prIZ_warm {s U : State} (hW : s.WarmedH U.vm) (h : prIZ s) : prIZ U := ⟨h.1.warmM hW, h.2.1.warmM hW, h.2.2.warmM hW⟩
theorem prIZ_blind : ∀ (a : Array Value) (U : State) (g : JFrame) (mk : MethodId), prIZ U → prIZ (U.calling g mk a) := fun a U g mk h => ⟨va_Nw.same rfl rfl h.1, va_Nw.same rfl rfl h.2.1, va_Nw.same rfl rfl h.2.2⟩
theorem pr_leftP {D : va_G} {cl : List vw_C} {a : va_W} {H : Heap} (h : va_P D cl ([] ++ a) H) : va_P D cl a H := h
theorem pr_leftP' {D : va_G} {cl : List vw_C} {a b : va_W} {H : Heap} (h : va_P D cl (a ++ b) H) : va_P D cl a H := fun k q hq => h k q (by rw [List.getElem?_append_left (List.getElem?_eq_some_iff.mp hq).1]; exact hq)
theorem pr_rightP {D : va_G} {cl : List vw_C} {a b : va_W} {H : Heap} (h : va_P D cl (a ++ b) H) : va_P D cl b H := fun k q hq => h (a.length + k) q (by rw [List.getElem?_append_right (Nat.le_add_right _ _), Nat.add_sub_cancel_left]; exact hq)
theorem pr_leftD {A : Nat → Prop} {a : va_W} (h : va_D A ([] ++ a)) : va_D A a := h
theorem pr_leftD' {A : Nat → Prop} {a b : va_W} (h : va_D A (a ++ b)) : va_D A a := by
  have key : ∀ (k : Nat) (q : Nat × va_E), a[k]? = some q → (a ++ b)[k]? = some q := fun k q hq => by rw [List.getElem?_append_left (List.getElem?_eq_some_iff.mp hq).1]; exact hq
  exact ⟨fun i j p q hi hj e => h.1 i j p q (key i p hi) (key j q hj) e, fun k q hq => h.2 k q (key k q hq)⟩
theorem pr_rightD {A : Nat → Prop} {a b : va_W} (h : va_D A (a ++ b)) : va_D A b := by
  have key : ∀ (k : Nat) (q : Nat × va_E), b[k]? = some q → (a ++ b)[a.length + k]? = some q := fun k q hq => by rw [List.getElem?_append_right (Nat.le_add_right _ _), Nat.add_sub_cancel_left]; exact hq
  exact ⟨fun i j p q hi hj e => by have := h.1 _ _ p q (key i p hi) (key j q hj) e; omega, fun k q hq => h.2 _ q (key k q hq)⟩
theorem pr_leftK {D : va_G} {cl : List vw_C} {a : List (ClassId × FieldType)} {U : State} (h : va_K D cl ([] ++ a) U) : va_K D cl a U := h
theorem pr_leftK' {D : va_G} {cl : List vw_C} {a b : List (ClassId × FieldType)} {U : State} (h : va_K D cl (a ++ b) U) : va_K D cl a U := ⟨h.1, fun k q hq => h.2 k q (by rw [List.getElem?_append_left (List.getElem?_eq_some_iff.mp hq).1]; exact hq)⟩
theorem pr_rightK {D : va_G} {cl : List vw_C} {a b : List (ClassId × FieldType)} {U : State} (h : va_K D cl (a ++ b) U) : va_K D cl b U := ⟨h.1, fun k q hq => h.2 (a.length + k) q (by rw [List.getElem?_append_right (Nat.le_add_right _ _), Nat.add_sub_cancel_left]; exact hq)⟩
theorem pr_ownD {L : pr_L} {ad : Nat → Nat} {dA : Nat → ClassId} {σ : pr_St} {A : Nat → Prop} (h : va_D A (pr_w L ad dA σ)) : va_D (fun q => ∃ j, j < pr_n L ∧ q = ad j) (pr_w L ad dA σ) :=
  h.weaken (fun k q hq _ => by obtain ⟨hk, rfl⟩ := pr_w_inv hq; exact ⟨k, hk, rfl⟩)
/-- the newest cell of a world -/
theorem pr_last1 {D : va_G} {cl : List vw_C} {ws : va_W} {x : Nat × va_E} {H : Heap} (h : va_P D cl (ws ++ [x]) H) : va_P D cl [x] H := by
  intro k q hq
  cases k with
  | zero => exact h ws.length q (by rw [List.getElem?_append_right (Nat.le_refl _), Nat.sub_self]; exact hq)
  | succ k => simp at hq
theorem pr_lastD {A : Nat → Prop} {ws : va_W} {x : Nat × va_E} (h : va_D A (ws ++ [x])) : va_D A [x] := by
  refine ⟨fun i j p q hi hj _ => ?_, fun k q hq => ?_⟩
  · cases i with
    | zero => cases j with
      | zero => rfl
      | succ j => simp at hj
    | succ i => simp at hi
  · cases k with
    | zero => exact h.2 ws.length q (by rw [List.getElem?_append_right (Nat.le_refl _), Nat.sub_self]; exact hq)
    | succ k => simp at hq
set_option maxHeartbeats 16000000 in
set_option maxRecDepth 100000 in
/-- THE LAW FROM ITS ENTRY, over any invariant that a new pair has and a call on both sides keeps -/
theorem pr_start {p : Program} {e : Env} {s : State} {m : MethodId} {below : List Frame} {meth : Method} {c : Code} (l : Launch) {b L : Nat} {xs : Nat → Int32} (hL : L ≤ 3072) (C0 : lw_At p s m meth c b L xs) (I : Nat → pr_St → pr_St → Prop) (h0 : I 0 prIs_C prIs_X1) (step : ∀ (i : Nat) (σ τ : pr_St), I i σ τ → 6 * i + 6 ≤ L → prStep xs i σ τ (I (i + 1))) : W p l e room_1 s m #[Value.ref b] below meth c s.heap [] 0 0 (lw_Z below #[Value.ref b] s) (entryFrame m ([Value.ref b] : List Value).toArray 4) := by
  obtain ⟨hx, hb, hr, hml, hown, hts0, hX, hbl, hlocks, hgv⟩ := id C0
  have hts : ∀ w ∈ pr_U, w.before #[Value.ref b] s = true := fun w hw => hts0 w (List.mem_filter.mp hw).1
  have hA : ∀ q : Nat, s.heap.size ≤ q → (fun q : Nat => s.heap.size ≤ q) q := fun _ h => h
  obtain ⟨t, K, v, r, hXt, hZx⟩ := pr_given hts0 hgv
  have hZ : prIZ s := ⟨va_Nw.of rfl (hts0 (.methodLinkNest "ProgramRuns" 11 pry_G_init "ProgramRuns") (lw_in1 (List.mem_of_getElem? (i := 25) rfl))), va_Nw.of rfl (hts0 (.methodLinkNest "ProgramRuns" 14 pry_T_init "ProgramRuns") (lw_in1 (List.mem_of_getElem? (i := 83) rfl))), va_Nw.of rfl (hts0 (.methodLinkNest "ProgramRuns" 30 pry_O_init "ProgramRuns") (lw_in1 (List.mem_of_getElem? (i := 130) rfl)))⟩
  obtain ⟨c0, iS0, hKn0⟩ := u_known (C := prn_P) (T := prt_P) (N := 8) (n := 8) hts prs_P (hts _ prlw_94)
  obtain ⟨c1, iS1, hKn1⟩ := u_known (C := prn_T) (T := prt_T) (N := 7) (n := 7) hts prs_T (hts _ prlw_96)
  obtain ⟨c2, iS2, hKn2⟩ := u_known (C := prn_G) (T := prt_G) (N := 16) (n := 16) hts prs_G (hts _ prlw_97)
  obtain ⟨c3, iS3, hKn3⟩ := u_known (C := prn_R) (T := prt_R) (N := 4) (n := 4) hts prs_R (hts _ prlw_98)
  obtain ⟨c4, iS4, hKn4⟩ := u_known (C := prn_O) (T := prt_O) (N := 15) (n := 15) hts prs_O (hts _ prlw_99)
  obtain ⟨c5, iS5, hKn5⟩ := u_known (C := prn_S) (T := prt_S) (N := 6) (n := 6) hts prs_S (hts _ prlw_100)
  obtain ⟨c6, iS6, hKn6⟩ := u_known (C := prn_Y) (T := prt_Y) (N := 16) (n := 16) hts prs_Y (hts _ prlw_101)
  obtain ⟨c7, iS7, hKn7⟩ := u_known (C := prn_M) (T := prt_M) (N := 14) (n := 14) hts prs_M (hts _ prlw_102)
  obtain ⟨c8, iS8, hKn8⟩ := u_known (C := prn_X) (T := prt_X) (N := 60) (n := 60) hts prs_X (hts _ prlw_95)
  obtain ⟨D, hKc⟩ : ∃ D : va_G, ∀ (k : Nat) (q : vw_C), pr_cl[k]? = some q → u_Kn s q.1 q.2.1 q.2.2 (D.1 k) (D.2 k) := by
    refine ⟨(fun k => if k = 0 then c0 else if k = 1 then c1 else if k = 2 then c2 else if k = 3 then c3 else if k = 4 then c4 else if k = 5 then c5 else if k = 6 then c6 else if k = 7 then c7 else c8, fun k => if k = 0 then iS0 else if k = 1 then iS1 else if k = 2 then iS2 else if k = 3 then iS3 else if k = 4 then iS4 else if k = 5 then iS5 else if k = 6 then iS6 else if k = 7 then iS7 else iS8), ?_⟩
    intro k q hq
    match k, hq with
    | 0, hq => cases hq; exact hKn0
    | 1, hq => cases hq; exact hKn1
    | 2, hq => cases hq; exact hKn2
    | 3, hq => cases hq; exact hKn3
    | 4, hq => cases hq; exact hKn4
    | 5, hq => cases hq; exact hKn5
    | 6, hq => cases hq; exact hKn6
    | 7, hq => cases hq; exact hKn7
    | 8, hq => cases hq; exact hKn8
    | k + 9, hq => simp [pr_cl] at hq
  have hS : va_S (fun q : Nat => s.heap.size ≤ q) s.heap s.heap [] := va_S.rf
  have hK : va_K D pr_cl [] s := ⟨hKc, fun k q h => by simp at h⟩
  have hP : va_P D pr_cl [] s.heap := fun k q h => by simp at h
  have hD : va_D (fun q : Nat => s.heap.size ≤ q) [] := ⟨fun i j p q h => by simp at h, fun k q h => by simp at h⟩
  have hl := lv_entry ([.ref b]) (n := 4) (Nat.le_of_ble_eq_true rfl)
  rw [lg_entry_eq]
  generalize (lg_sl ([.ref b]) ++ List.replicate (4 - (lg_sl ([.ref b])).length) Slot.unset).toArray = ls at hl ⊢
  have hl : lv_has ls 4 [(0, .ref b)] := hl
  refine va_new (ci := 0) (fs := (List.range 8).map prIg_P) hx hb hts prs_P prq_P prtt_P hown (hts _ prlw_92) (hts _ prlw_94) (hts _ prlw_3) hK hP hD hS hA rfl prId_P (Nat.le_of_ble_eq_true rfl) (Nat.le_of_ble_eq_true rfl) prd_W_0 (fun q0 H hP hD hS => ?_)
  refine lv_dup hx hb prd_W_3 rfl ?_
  refine pr_kCtor (As := []) (ws := []) (Wc := prIw_P q0) (Tc := prIt_P) (va_runI (As := []) (rest := [.ref q0]) ⟨hx, hb, hml, hown, hts⟩ (prI_P (l := l) (D := D) H.size q0) (cwI 0 hts (pr_goodIn (fun w hw => by rcases List.mem_cons.mp hw with e | e; exact e ▸ prlw_103; exact e)) rfl rfl rfl (hts _ prlw_3) (hts _ prlw_90) (hts _ prlw_104) rfl (by decide +kernel) ⟨Nat.le_of_ble_eq_true rfl, Nat.le_of_ble_eq_true rfl⟩) ⟨pr_kBlind prIZ_blind, fun U hU hW => ⟨rfl, prIZ_warm hW hZ, by rw [hU], by rw [hU]; exact hP, va_K.moved hW.alike hK, hD.weaken (fun _ _ _ _ => trivial)⟩⟩ rfl rfl hl.1 rfl (lv_room (Nat.le_of_ble_eq_true rfl)) prd_W_4 ⟨Nat.le_of_ble_eq_true rfl, Nat.le_of_ble_eq_true rfl⟩) hK hP hD hS hA (fun u H locs hK hP hD hS => ?_)
  refine lv_astore_n (lv' := [(1, .ref q0), (0, .ref b)]) hx hb prd_W_7 rfl hl (by decide) rfl (fun ls hl => ?_)
  refine va_new (ci := 8) (fs := (List.range 60).map prIg_X) hx hb hts prs_X prq_X prtt_X hown (hts _ prlw_93) (hts _ prlw_95) (hts _ prlw_8) hK hP hD hS hA rfl prId_X (Nat.le_of_ble_eq_true rfl) (Nat.le_of_ble_eq_true rfl) prd_W_8 (fun q1 H hP hD hS => ?_)
  refine lv_dup hx hb prd_W_11 rfl ?_
  have hq1 : s.heap.size ≤ q1 := hD.2 ([] ++ prIw_P q0 u).length (q1, prIx_X) (by rw [List.getElem?_append_right (Nat.le_refl _), Nat.sub_self]; rfl)
  have hsub : ∀ q, va_A [(q1, prIx_X)] H.size q → s.heap.size ≤ q := by
    intro q hq
    rcases hq with ⟨k, e, hk⟩ | hq
    · cases k with
      | zero => cases hk; exact hq1
      | succ k => simp at hk
    · exact Nat.le_trans hS.1 hq
  refine pr_kCtor (As := []) (ws := [] ++ prIw_P q0 u) (Wc := prIw_X K q1) (Tc := prIt_X) (va_runI (As := []) (rest := [.ref q1]) ⟨hx, hb, hml, hown, hts⟩ (prI_X (l := l) (D := D) K v r H.size q1) (cwI 0 hts (pr_goodIn (fun w hw => by rcases List.mem_cons.mp hw with e | e; exact e ▸ prlw_105; exact e)) rfl rfl rfl (hts _ prlw_8) (hts _ prlw_91) (hts _ prlw_106) rfl (by decide +kernel) ⟨Nat.le_of_ble_eq_true rfl, Nat.le_of_ble_eq_true rfl⟩) ⟨pr_kBlind prIZx_blind, fun U hU hW => ⟨rfl, prIZx_warm hW (fun q hq => by rw [hU]; exact hS.2.1 q hq (Nat.not_le.mpr hq)) hsub hZx (fun _ h => h), by rw [hU], by rw [hU]; exact pr_last1 hP, va_K.moved hW.alike (hK.sub [] rfl), (pr_lastD hD).weaken (fun _ _ _ _ => trivial)⟩⟩ rfl rfl hl.1 rfl (lv_room (Nat.le_of_ble_eq_true rfl)) prd_W_12 ⟨Nat.le_of_ble_eq_true rfl, Nat.le_of_ble_eq_true rfl⟩) hK hP hD hS hA (fun w H locs hK hP hD hS => ?_)
  refine lv_astore_n (lv' := [(2, .ref q1), (1, .ref q0), (0, .ref b)]) hx hb prd_W_15 rfl hl (by decide) rfl (fun ls hl => ?_)
  refine lv_iconst (v := 0) hx hb prd_W_16 (by decide) ?_
  refine lv_istore_n (lv' := [(3, .int 0), (2, .ref q1), (1, .ref q0), (0, .ref b)]) hx hb prd_W_17 rfl hl (by decide) rfl (fun ls hl => ?_)
  have hPc := (pr_leftP (pr_leftP' hP)).sub prCperm (pr_fm (prC_map q0 u))
  have hDc0 := (pr_leftD (pr_leftD' hD)).sub prCperm (by decide) (prC_map q0 u)
  have hPx : va_P D pr_cl (pr_w prx_L (prXad q1 w K) (prXdA w) prIs_X1) H := pr_rightP hP
  have hDx0 : va_D (fun q : Nat => s.heap.size ≤ q) (pr_w prx_L (prXad q1 w K) (prXdA w) prIs_X1) := pr_rightD hD
  have hKc2 := (pr_leftK (pr_leftK' hK)).sub prCtperm (pr_fm (prC_tmap u))
  have hKx2 : va_K D pr_cl (pr_t prx_L (prXdA w)) s := pr_rightK hK
  have hAc : ∀ q, (∃ j, j < 52 ∧ q = prCad q0 u j) → s.heap.size ≤ q := by
    rintro q ⟨j, hj, rfl⟩
    exact hDc0.2 j _ (pr_w_get hj)
  have hAx : ∀ q, (∃ j, j < 37 ∧ q = prXad q1 w K j) → s.heap.size ≤ q := by
    rintro q ⟨j, hj, rfl⟩
    exact hDx0.2 j _ (pr_w_get hj)
  have hdis : ∀ q, (∃ j, j < 52 ∧ q = prCad q0 u j) → ¬ (∃ j, j < 37 ∧ q = prXad q1 w K j) := by
    rintro q ⟨j, hj, rfl⟩ ⟨i, hi, e⟩
    obtain ⟨k, hk⟩ := pr_map_at (prC_map q0 u) (pr_w_get (L := prc_L) (ad := prCad q0 u) (dA := prCdA u) (σ := prIs_C) hj)
    have hk : (prIw_P q0 u)[k]? = some (prCad q0 u j, pr_E prc_L (prCad q0 u) (prCdA u) prIs_C j) := hk
    have hkl : k < (prIw_P q0 u).length := (List.getElem?_eq_some_iff.mp hk).1
    have h1 : (([] ++ prIw_P q0 u) ++ prIw_X K q1 w)[k]? = some (prCad q0 u j, pr_E prc_L (prCad q0 u) (prCdA u) prIs_C j) := by
      rw [List.nil_append, List.getElem?_append_left hkl]; exact hk
    have h2 : (([] ++ prIw_P q0 u) ++ prIw_X K q1 w)[(prIw_P q0 u).length + i]? = some (prXad q1 w K i, pr_E prx_L (prXad q1 w K) (prXdA w) prIs_X1 i) := by
      rw [List.nil_append, List.getElem?_append_right (Nat.le_add_right _ _), Nat.add_sub_cancel_left]
      exact pr_w_get hi
    have := hD.1 k ((prIw_P q0 u).length + i) _ _ h1 h2 e
    omega
  refine W.widen (k := 600000) (n := 7302250) (Nat.le_of_ble_eq_true rfl) (Nat.le_of_ble_eq_true rfl) ?_
  exact pr_loop (l := l) hL C0 ⟨fun σ => pr_w_D (pr_ownD hDc0), fun σ => pr_w_D (pr_ownD hDx0), prX_narrow hXt hAc, prY_narrow (prXY hZx.2.2) hAx, hKc2, hKx2, hAc, hAx, hdis⟩ I step 3084 0 prIs_C prIs_X1 (by decide) (by decide) h0 H locs ls hPc hPx hS (by rw [show nI (6 * 0) = 0 from nI_0]; exact lv_sub hl [3, 2, 1, 0] rfl)
