-- S_cutTo
set_option maxHeartbeats 4000000 in
set_option maxRecDepth 100000 in
theorem prc_S_cutTo {l : Launch} {D : va_G} {ad : Nat → Nat} {dA : Nat → ClassId} {A : Nat → Prop} {t : Nat} (hD : ∀ σ : pr_St, va_D A (pr_w prc_L ad dA σ)) (hX : pr_Xok A (prX t A)) (h : Nat) (hh : 0 ≤ h) (σ : pr_St) (x1 : Int32) (x2 : Int32) (res : pr_St) (hf : prf_S_cutTo σ x1 x2 = some res) : Met l pry_S_cutTo (Cond.code pry_S_cutTo prb_S_cutTo 3 none :: pr_U) (pr_rm h) (pr_Pc (prX t A) D pr_cl prc_L ad dA [.ref (ad 5), .int x1, .int x2] σ) (pr_Qv D pr_cl prc_L ad dA A res) 0 0 A := by
  refine pr_entry (cc := prb_S_cutTo) (maxL := 3) (ret := none) (by decide) (Nat.le_of_ble_eq_true rfl) hD hX ?_
  intro p e s m args below meth c E H locs hP hS ls hl
  have hl : lv_has ls 3 [(0, .ref (ad 5)), (1, .int x1), (2, .int x2)] := hl
  have hf := hf.symm
  unfold prf_S_cutTo at hf
  obtain ⟨hx, hb, hml, hown, hts, hr, hlocks, hK, hD, hX, hXs⟩ := id E
  refine lv_aload_n hx hb prd_S_cutTo_0 rfl (lv_at hl 0 rfl) ?_
  refine lv_iload_n hx hb prd_S_cutTo_1 rfl (lv_at hl 1 rfl) ?_
  refine pr_puti (ty := .int) hx hb hts prs_S prq_S prtt_S prtn_S hown hK hP (hD _) hS 5 4 (by decide) rfl (hts _ prw_294) rfl rfl (prtt_S 4 (by decide)) rfl rfl prd_S_cutTo_2 (fun H locs hP hS => ?_)
  refine lv_aload_n hx hb prd_S_cutTo_5 rfl (lv_at hl 0 rfl) ?_
  refine lv_iload_n hx hb prd_S_cutTo_6 rfl (lv_at hl 2 rfl) ?_
  refine pr_puti (ty := .int) hx hb hts prs_S prq_S prtt_S prtn_S hown hK hP (hD _) hS 5 5 (by decide) rfl (hts _ prw_295) rfl rfl (prtt_S 5 (by decide)) rfl rfl prd_S_cutTo_7 (fun H locs hP hS => ?_)
  exact pr_retv E hP hS (pr_so hf) prd_S_cutTo_10
-- S_isVariable
set_option maxHeartbeats 4000000 in
set_option maxRecDepth 100000 in
theorem prc_S_isVariable {l : Launch} {D : va_G} {ad : Nat → Nat} {dA : Nat → ClassId} {A : Nat → Prop} {t : Nat} (hD : ∀ σ : pr_St, va_D A (pr_w prc_L ad dA σ)) (hX : pr_Xok A (prX t A)) (h : Nat) (hh : 0 ≤ h) (σ : pr_St) (x1 : Int32) (res : Int32) (hf : prf_S_isVariable σ x1 = some res) : Met l pry_S_isVariable (Cond.code pry_S_isVariable prb_S_isVariable 2 (some .boolean) :: pr_U) (pr_rm h) (pr_Pc (prX t A) D pr_cl prc_L ad dA [.ref (ad 5), .int x1] σ) (pr_Qi D pr_cl prc_L ad dA A (res, σ)) 0 0 A := by
  refine pr_entry (cc := prb_S_isVariable) (maxL := 2) (ret := (some .boolean)) (by decide) (Nat.le_of_ble_eq_true rfl) hD hX ?_
  intro p e s m args below meth c E H locs hP hS ls hl
  have hl : lv_has ls 2 [(0, .ref (ad 5)), (1, .int x1)] := hl
  have hf := hf.symm
  unfold prf_S_isVariable at hf
  obtain ⟨hx, hb, hml, hown, hts, hr, hlocks, hK, hD, hX, hXs⟩ := id E
  refine lv_iload_n hx hb prd_S_isVariable_0 rfl (lv_at hl 1 rfl) ?_
  refine lv_if_lt (tgt := 17) hx hb prd_S_isVariable_1 (by decide) (fun c3 => ?_) (fun c3 => ?_)
  · have hf := pr_it c3 hf
    refine lv_iconst (v := 0) hx hb prd_S_isVariable_17 (by decide) ?_
    exact pr_retz E (Or.inl rfl) hP hS (pr_ro hf) prd_S_isVariable_18
  · have hf := pr_ie c3 hf
    refine lv_iload_n hx hb prd_S_isVariable_4 rfl (lv_at hl 1 rfl) ?_
    refine lv_aload_n hx hb prd_S_isVariable_5 rfl (lv_at hl 0 rfl) ?_
    refine pr_getr (t := 39) hx hb hts prs_S hown hK hP 5 1 (by decide) rfl (hts _ prw_418) rfl prd_S_isVariable_6 ?_
    refine pr_alen (v := 18) hx hb hK hP 39 (by decide) (by decide) prd_S_isVariable_9 ?_
    refine lv_icmp_ge (tgt := 17) hx hb prd_S_isVariable_10 (by decide) (fun c4 => ?_) (fun c4 => ?_)
    · have hf := pr_it c4 hf
      refine lv_iconst (v := 0) hx hb prd_S_isVariable_17 (by decide) ?_
      exact pr_retz E (Or.inl rfl) hP hS (pr_ro hf) prd_S_isVariable_18
    · have hf := pr_ie c4 hf
      refine lv_iconst (v := 1) hx hb prd_S_isVariable_13 (by decide) ?_
      refine lv_goto (tgt := 18) hx hb prd_S_isVariable_14 (by decide) ?_
      exact pr_retz E (Or.inr rfl) hP hS (pr_ro hf) prd_S_isVariable_18
-- S_find
set_option maxHeartbeats 4000000 in
set_option maxRecDepth 100000 in
theorem prk_S_find_12 {l : Launch} {D : va_G} {ad : Nat → Nat} {dA : Nat → ClassId} {A : Nat → Prop} {t : Nat} {p : Program} {e : Env} {s : State} {m : MethodId} {args : Array Value} {below : List Frame} {meth : Method} {c : Code} {h : Nat} (hh : 2 ≤ h) (E : pr_cx prn_S prb_S_find 4 (some .int) D pr_cl prc_L ad dA A (prX t A) p s m args meth c) : ∀ n : Nat, ∀ (σ : pr_St) (x1 : Int32) (x2 : Int32) (x3 : Int32) (res : Int32), some res = prf_S_find_12 n σ x1 x2 x3 → ∀ (H : Heap) (locs : List Loc) (ls : Array Slot), va_P D pr_cl (pr_w prc_L ad dA σ) H → va_S A s.heap H locs → lv_has ls 4 [(0, .ref (ad 5)), (1, .int x1), (2, .int x2), (3, .int x3)] → W p l e (pr_rm h) s m args below meth c H locs 0 0 (MQ below (pr_Qi D pr_cl prc_L ad dA A (res, σ)) args s 0 0 A) (F0 m 12 ls []) := by
  obtain ⟨hx, hb, hml, hown, hts, hr, hlocks, hK, hD, hX, hXs⟩ := id E
  intro n
  induction n with
  | zero =>
    intro σ x1 x2 x3 res hf
    rw [prf_S_find_12] at hf
    cases hf
  | succ n ih =>
    intro σ x1 x2 x3 res hf H locs ls hP hS hl
    rw [prf_S_find_12] at hf
    refine lv_iload_n hx hb prd_S_find_12 rfl (lv_at hl 3 rfl) ?_
    refine lv_iload_n hx hb prd_S_find_13 rfl (lv_at hl 2 rfl) ?_
    refine lv_icmp_lt (tgt := 50) hx hb prd_S_find_14 (by decide) (fun c7 => ?_) (fun c7 => ?_)
    · have hf := pr_it c7 hf
      refine lv_iconst (v := (-1)) hx hb prd_S_find_50 (by decide) ?_
      exact pr_reti E hP hS (pr_ro hf) prd_S_find_51
    · have hf := pr_ie c7 hf
      refine lv_aload_n hx hb prd_S_find_17 rfl (lv_at hl 0 rfl) ?_
      refine lv_iload_n hx hb prd_S_find_18 rfl (lv_at hl 3 rfl) ?_
      obtain ⟨r8, hr8, hf⟩ := pr_bi hf
      refine pr_callVr (rest := []) (r := r8) ⟨hx, hb, hml, hown, hts⟩ 5 (prc_S_isVariable hD hX 0 (Nat.le_refl _) σ x3 r8 hr8) (prg_S_isVariable hts prw_430 (by have := hh; omega)) hX hXs hK hP hS (by decide) rfl rfl rfl rfl hl.1 (Nat.le_of_ble_eq_true rfl) prd_S_find_19 (fun H locs hP hS => ?_)
      refine lv_if_eq (tgt := 44) hx hb prd_S_find_22 (by decide) (fun c9 => ?_) (fun c9 => ?_)
      · have hf := pr_it c9 hf
        refine lv_iinc (v := (x3 + (-1))) (lv' := [(3, .int (x3 + (-1))), (0, .ref (ad 5)), (1, .int x1), (2, .int x2)]) hx hb prd_S_find_44 hl (k := 3) rfl rfl (by decide) rfl (fun ls hl => ?_)
        refine lv_goto (tgt := 12) hx hb prd_S_find_47 (by decide) ?_
        exact ih σ x1 x2 (x3 + (-1)) _ hf _ _ _ hP hS (lv_sub hl [1, 2, 3, 0] rfl)
      · have hf := pr_ie c9 hf
        refine lv_aload_n hx hb prd_S_find_25 rfl (lv_at hl 0 rfl) ?_
        refine pr_getr (t := 1) hx hb hts prs_S hown hK hP 5 0 (by decide) rfl (hts _ prw_431) rfl prd_S_find_26 ?_
        refine lv_aload_n hx hb prd_S_find_29 rfl (lv_at hl 0 rfl) ?_
        refine pr_getr (t := 39) hx hb hts prs_S hown hK hP 5 1 (by decide) rfl (hts _ prw_418) rfl prd_S_find_30 ?_
        refine lv_iload_n hx hb prd_S_find_33 rfl (lv_at hl 3 rfl) ?_
        obtain ⟨hi10, hf⟩ := pr_ck_in hf
        refine pr_iald (f := (σ.2.1 39)) hx hb hK hP 39 (by decide) rfl hi10 rfl prd_S_find_34 ?_
        refine lv_iload_n hx hb prd_S_find_35 rfl (lv_at hl 1 rfl) ?_
        obtain ⟨r11, hr11, hf⟩ := pr_bi hf
        refine pr_callVr (rest := []) (r := r11) ⟨hx, hb, hml, hown, hts⟩ 1 (prc_T_sameName hD hX 1 (Nat.le_refl _) σ ((σ.2.1 39) x3.toNatClampNeg) x1 r11 hr11) (prg_T_sameName hts prw_432 (by have := hh; omega)) hX hXs hK hP hS (by decide) rfl rfl rfl rfl hl.1 (Nat.le_of_ble_eq_true rfl) prd_S_find_36 (fun H locs hP hS => ?_)
        refine lv_if_eq (tgt := 44) hx hb prd_S_find_39 (by decide) (fun c12 => ?_) (fun c12 => ?_)
        · have hf := pr_it c12 hf
          refine lv_iinc (v := (x3 + (-1))) (lv' := [(3, .int (x3 + (-1))), (0, .ref (ad 5)), (1, .int x1), (2, .int x2)]) hx hb prd_S_find_44 hl (k := 3) rfl rfl (by decide) rfl (fun ls hl => ?_)
          refine lv_goto (tgt := 12) hx hb prd_S_find_47 (by decide) ?_
          exact ih σ x1 x2 (x3 + (-1)) _ hf _ _ _ hP hS (lv_sub hl [1, 2, 3, 0] rfl)
        · have hf := pr_ie c12 hf
          refine lv_iload_n hx hb prd_S_find_42 rfl (lv_at hl 3 rfl) ?_
          exact pr_reti E hP hS (pr_ro hf) prd_S_find_43
set_option maxHeartbeats 4000000 in
set_option maxRecDepth 100000 in
theorem prc_S_find {l : Launch} {D : va_G} {ad : Nat → Nat} {dA : Nat → ClassId} {A : Nat → Prop} {t : Nat} (hD : ∀ σ : pr_St, va_D A (pr_w prc_L ad dA σ)) (hX : pr_Xok A (prX t A)) (h : Nat) (hh : 2 ≤ h) (σ : pr_St) (x1 : Int32) (x2 : Int32) (res : Int32) (hf : prf_S_find σ x1 x2 = some res) : Met l pry_S_find (Cond.code pry_S_find prb_S_find 4 (some .int) :: pr_U) (pr_rm h) (pr_Pc (prX t A) D pr_cl prc_L ad dA [.ref (ad 5), .int x1, .int x2] σ) (pr_Qi D pr_cl prc_L ad dA A (res, σ)) 0 0 A := by
  refine pr_entry (cc := prb_S_find) (maxL := 4) (ret := (some .int)) (by decide) (Nat.le_of_ble_eq_true rfl) hD hX ?_
  intro p e s m args below meth c E H locs hP hS ls hl
  have hl : lv_has ls 4 [(0, .ref (ad 5)), (1, .int x1), (2, .int x2)] := hl
  have hf := hf.symm
  unfold prf_S_find at hf
  obtain ⟨hx, hb, hml, hown, hts, hr, hlocks, hK, hD, hX, hXs⟩ := id E
  refine lv_aload_n hx hb prd_S_find_0 rfl (lv_at hl 0 rfl) ?_
  refine pr_geti (v := (σ.1 5 4)) hx hb hts prs_S hown hK hP 5 4 (by decide) rfl (hts _ prw_294) rfl rfl prd_S_find_1 ?_
  refine lv_aload_n hx hb prd_S_find_4 rfl (lv_at hl 0 rfl) ?_
  refine pr_geti (v := (σ.1 5 5)) hx hb hts prs_S hown hK hP 5 5 (by decide) rfl (hts _ prw_295) rfl rfl prd_S_find_5 ?_
  refine lv_iadd hx hb prd_S_find_8 ?_
  refine lv_iconst (v := 1) hx hb prd_S_find_9 (by decide) ?_
  refine lv_isub hx hb prd_S_find_10 ?_
  refine lv_istore_n (lv' := [(3, .int (((σ.1 5 4) + (σ.1 5 5)) - 1)), (0, .ref (ad 5)), (1, .int x1), (2, .int x2)]) hx hb prd_S_find_11 rfl hl (by decide) rfl (fun ls hl => ?_)
  exact prk_S_find_12 hh E pr_FU σ x1 x2 (((σ.1 5 4) + (σ.1 5 5)) - 1) _ hf _ _ _ hP hS (lv_sub hl [1, 2, 3, 0] rfl)
-- S_isArray
set_option maxHeartbeats 4000000 in
set_option maxRecDepth 100000 in
theorem prc_S_isArray {l : Launch} {D : va_G} {ad : Nat → Nat} {dA : Nat → ClassId} {A : Nat → Prop} {t : Nat} (hD : ∀ σ : pr_St, va_D A (pr_w prc_L ad dA σ)) (hX : pr_Xok A (prX t A)) (h : Nat) (hh : 1 ≤ h) (σ : pr_St) (x1 : Int32) (res : Int32) (hf : prf_S_isArray σ x1 = some res) : Met l pry_S_isArray (Cond.code pry_S_isArray prb_S_isArray 2 (some .boolean) :: pr_U) (pr_rm h) (pr_Pc (prX t A) D pr_cl prc_L ad dA [.ref (ad 5), .int x1] σ) (pr_Qi D pr_cl prc_L ad dA A (res, σ)) 0 0 A := by
  refine pr_entry (cc := prb_S_isArray) (maxL := 2) (ret := (some .boolean)) (by decide) (Nat.le_of_ble_eq_true rfl) hD hX ?_
  intro p e s m args below meth c E H locs hP hS ls hl
  have hl : lv_has ls 2 [(0, .ref (ad 5)), (1, .int x1)] := hl
  have hf := hf.symm
  unfold prf_S_isArray at hf
  obtain ⟨hx, hb, hml, hown, hts, hr, hlocks, hK, hD, hX, hXs⟩ := id E
  refine lv_aload_n hx hb prd_S_isArray_0 rfl (lv_at hl 0 rfl) ?_
  refine lv_iload_n hx hb prd_S_isArray_1 rfl (lv_at hl 1 rfl) ?_
  obtain ⟨r5, hr5, hf⟩ := pr_bi hf
  refine pr_callVr (rest := []) (r := r5) ⟨hx, hb, hml, hown, hts⟩ 5 (prc_S_isVariable hD hX 0 (Nat.le_refl _) σ x1 r5 hr5) (prg_S_isVariable hts prw_430 (by have := hh; omega)) hX hXs hK hP hS (by decide) rfl rfl rfl rfl hl.1 (Nat.le_of_ble_eq_true rfl) prd_S_isArray_2 (fun H locs hP hS => ?_)
  refine lv_if_eq (tgt := 21) hx hb prd_S_isArray_5 (by decide) (fun c6 => ?_) (fun c6 => ?_)
  · have hf := pr_it c6 hf
    refine lv_iconst (v := 0) hx hb prd_S_isArray_21 (by decide) ?_
    exact pr_retz E (Or.inl rfl) hP hS (pr_ro hf) prd_S_isArray_22
  · have hf := pr_ie c6 hf
    refine lv_aload_n hx hb prd_S_isArray_8 rfl (lv_at hl 0 rfl) ?_
    refine pr_getr (t := 41) hx hb hts prs_S hown hK hP 5 3 (by decide) rfl (hts _ prw_470) rfl prd_S_isArray_9 ?_
    refine lv_iload_n hx hb prd_S_isArray_12 rfl (lv_at hl 1 rfl) ?_
    obtain ⟨hi7, hf⟩ := pr_ck_in hf
    refine pr_zald (f := (σ.2.1 41)) hx hb hK hP 41 (by decide) rfl hi7 rfl prd_S_isArray_13 ?_
    refine lv_if_eq (tgt := 21) hx hb prd_S_isArray_14 (by decide) (fun c8 => ?_) (fun c8 => ?_)
    · have hf := pr_it c8 hf
      refine lv_iconst (v := 0) hx hb prd_S_isArray_21 (by decide) ?_
      exact pr_retz E (Or.inl rfl) hP hS (pr_ro hf) prd_S_isArray_22
    · have hf := pr_ie c8 hf
      refine lv_iconst (v := 1) hx hb prd_S_isArray_17 (by decide) ?_
      refine lv_goto (tgt := 22) hx hb prd_S_isArray_18 (by decide) ?_
      exact pr_retz E (Or.inr rfl) hP hS (pr_ro hf) prd_S_isArray_22
-- S_slotOf
set_option maxHeartbeats 4000000 in
set_option maxRecDepth 100000 in
theorem prc_S_slotOf {l : Launch} {D : va_G} {ad : Nat → Nat} {dA : Nat → ClassId} {A : Nat → Prop} {t : Nat} (hD : ∀ σ : pr_St, va_D A (pr_w prc_L ad dA σ)) (hX : pr_Xok A (prX t A)) (h : Nat) (hh : 1 ≤ h) (σ : pr_St) (x1 : Int32) (res : Int32) (hf : prf_S_slotOf σ x1 = some res) : Met l pry_S_slotOf (Cond.code pry_S_slotOf prb_S_slotOf 2 (some .int) :: pr_U) (pr_rm h) (pr_Pc (prX t A) D pr_cl prc_L ad dA [.ref (ad 5), .int x1] σ) (pr_Qi D pr_cl prc_L ad dA A (res, σ)) 0 0 A := by
  refine pr_entry (cc := prb_S_slotOf) (maxL := 2) (ret := (some .int)) (by decide) (Nat.le_of_ble_eq_true rfl) hD hX ?_
  intro p e s m args below meth c E H locs hP hS ls hl
  have hl : lv_has ls 2 [(0, .ref (ad 5)), (1, .int x1)] := hl
  have hf := hf.symm
  unfold prf_S_slotOf at hf
  obtain ⟨hx, hb, hml, hown, hts, hr, hlocks, hK, hD, hX, hXs⟩ := id E
  refine lv_aload_n hx hb prd_S_slotOf_0 rfl (lv_at hl 0 rfl) ?_
  refine lv_iload_n hx hb prd_S_slotOf_1 rfl (lv_at hl 1 rfl) ?_
  obtain ⟨r4, hr4, hf⟩ := pr_bi hf
  refine pr_callVr (rest := []) (r := r4) ⟨hx, hb, hml, hown, hts⟩ 5 (prc_S_isVariable hD hX 0 (Nat.le_refl _) σ x1 r4 hr4) (prg_S_isVariable hts prw_430 (by have := hh; omega)) hX hXs hK hP hS (by decide) rfl rfl rfl rfl hl.1 (Nat.le_of_ble_eq_true rfl) prd_S_slotOf_2 (fun H locs hP hS => ?_)
  refine lv_if_eq (tgt := 17) hx hb prd_S_slotOf_5 (by decide) (fun c5 => ?_) (fun c5 => ?_)
  · have hf := pr_it c5 hf
    refine lv_iconst (v := (-1)) hx hb prd_S_slotOf_17 (by decide) ?_
    exact pr_reti E hP hS (pr_ro hf) prd_S_slotOf_18
  · have hf := pr_ie c5 hf
    refine lv_aload_n hx hb prd_S_slotOf_8 rfl (lv_at hl 0 rfl) ?_
    refine pr_getr (t := 40) hx hb hts prs_S hown hK hP 5 2 (by decide) rfl (hts _ prw_474) rfl prd_S_slotOf_9 ?_
    refine lv_iload_n hx hb prd_S_slotOf_12 rfl (lv_at hl 1 rfl) ?_
    obtain ⟨hi6, hf⟩ := pr_ck_in hf
    refine pr_iald (f := (σ.2.1 40)) hx hb hK hP 40 (by decide) rfl hi6 rfl prd_S_slotOf_13 ?_
    refine lv_goto (tgt := 18) hx hb prd_S_slotOf_14 (by decide) ?_
    exact pr_reti E hP hS (pr_ro hf) prd_S_slotOf_18
-- S_arrays
set_option maxHeartbeats 4000000 in
set_option maxRecDepth 100000 in
theorem prc_S_arrays {l : Launch} {D : va_G} {ad : Nat → Nat} {dA : Nat → ClassId} {A : Nat → Prop} {t : Nat} (hD : ∀ σ : pr_St, va_D A (pr_w prc_L ad dA σ)) (hX : pr_Xok A (prX t A)) (h : Nat) (hh : 0 ≤ h) (σ : pr_St)  (res : Int32) (hf : prf_S_arrays σ  = some res) : Met l pry_S_arrays (Cond.code pry_S_arrays prb_S_arrays 1 (some .int) :: pr_U) (pr_rm h) (pr_Pc (prX t A) D pr_cl prc_L ad dA [.ref (ad 5)] σ) (pr_Qi D pr_cl prc_L ad dA A (res, σ)) 0 0 A := by
  refine pr_entry (cc := prb_S_arrays) (maxL := 1) (ret := (some .int)) (by decide) (Nat.le_of_ble_eq_true rfl) hD hX ?_
  intro p e s m args below meth c E H locs hP hS ls hl
  have hl : lv_has ls 1 [(0, .ref (ad 5))] := hl
  have hf := hf.symm
  unfold prf_S_arrays at hf
  obtain ⟨hx, hb, hml, hown, hts, hr, hlocks, hK, hD, hX, hXs⟩ := id E
  refine lv_aload_n hx hb prd_S_arrays_0 rfl (lv_at hl 0 rfl) ?_
  refine pr_geti (v := (σ.1 5 5)) hx hb hts prs_S hown hK hP 5 5 (by decide) rfl (hts _ prw_295) rfl rfl prd_S_arrays_1 ?_
  exact pr_reti E hP hS (pr_ro hf) prd_S_arrays_4
-- S_numbers
set_option maxHeartbeats 4000000 in
set_option maxRecDepth 100000 in
theorem prc_S_numbers {l : Launch} {D : va_G} {ad : Nat → Nat} {dA : Nat → ClassId} {A : Nat → Prop} {t : Nat} (hD : ∀ σ : pr_St, va_D A (pr_w prc_L ad dA σ)) (hX : pr_Xok A (prX t A)) (h : Nat) (hh : 0 ≤ h) (σ : pr_St)  (res : Int32) (hf : prf_S_numbers σ  = some res) : Met l pry_S_numbers (Cond.code pry_S_numbers prb_S_numbers 1 (some .int) :: pr_U) (pr_rm h) (pr_Pc (prX t A) D pr_cl prc_L ad dA [.ref (ad 5)] σ) (pr_Qi D pr_cl prc_L ad dA A (res, σ)) 0 0 A := by
  refine pr_entry (cc := prb_S_numbers) (maxL := 1) (ret := (some .int)) (by decide) (Nat.le_of_ble_eq_true rfl) hD hX ?_
  intro p e s m args below meth c E H locs hP hS ls hl
  have hl : lv_has ls 1 [(0, .ref (ad 5))] := hl
  have hf := hf.symm
  unfold prf_S_numbers at hf
  obtain ⟨hx, hb, hml, hown, hts, hr, hlocks, hK, hD, hX, hXs⟩ := id E
  refine lv_aload_n hx hb prd_S_numbers_0 rfl (lv_at hl 0 rfl) ?_
  refine pr_geti (v := (σ.1 5 4)) hx hb hts prs_S hown hK hP 5 4 (by decide) rfl (hts _ prw_294) rfl rfl prd_S_numbers_1 ?_
  exact pr_reti E hP hS (pr_ro hf) prd_S_numbers_4
-- S_add
set_option maxHeartbeats 4000000 in
set_option maxRecDepth 100000 in
theorem prc_S_add {l : Launch} {D : va_G} {ad : Nat → Nat} {dA : Nat → ClassId} {A : Nat → Prop} {t : Nat} (hD : ∀ σ : pr_St, va_D A (pr_w prc_L ad dA σ)) (hX : pr_Xok A (prX t A)) (h : Nat) (hh : 0 ≤ h) (σ : pr_St) (x1 : Int32) (x2 : Int32) (res : pr_St) (hf : prf_S_add σ x1 x2 = some res) : Met l pry_S_add (Cond.code pry_S_add prb_S_add 4 none :: pr_U) (pr_rm h) (pr_Pc (prX t A) D pr_cl prc_L ad dA [.ref (ad 5), .int x1, .int x2] σ) (pr_Qv D pr_cl prc_L ad dA A res) 0 0 A := by
  refine pr_entry (cc := prb_S_add) (maxL := 4) (ret := none) (by decide) (Nat.le_of_ble_eq_true rfl) hD hX ?_
  intro p e s m args below meth c E H locs hP hS ls hl
  have hl : lv_has ls 4 [(0, .ref (ad 5)), (1, .int x1), (2, .int x2)] := hl
  have hf := hf.symm
  unfold prf_S_add at hf
  obtain ⟨hx, hb, hml, hown, hts, hr, hlocks, hK, hD, hX, hXs⟩ := id E
  refine lv_aload_n hx hb prd_S_add_0 rfl (lv_at hl 0 rfl) ?_
  refine pr_geti (v := (σ.1 5 4)) hx hb hts prs_S hown hK hP 5 4 (by decide) rfl (hts _ prw_294) rfl rfl prd_S_add_1 ?_
  refine lv_aload_n hx hb prd_S_add_4 rfl (lv_at hl 0 rfl) ?_
  refine pr_geti (v := (σ.1 5 5)) hx hb hts prs_S hown hK hP 5 5 (by decide) rfl (hts _ prw_295) rfl rfl prd_S_add_5 ?_
  refine lv_iadd hx hb prd_S_add_8 ?_
  refine lv_istore_n (lv' := [(3, .int ((σ.1 5 4) + (σ.1 5 5))), (0, .ref (ad 5)), (1, .int x1), (2, .int x2)]) hx hb prd_S_add_9 rfl hl (by decide) rfl (fun ls hl => ?_)
  refine lv_iload_n hx hb prd_S_add_10 rfl (lv_at hl 0 rfl) ?_
  refine lv_if_lt (tgt := 23) hx hb prd_S_add_11 (by decide) (fun c9 => ?_) (fun c9 => ?_)
  · have hf := pr_it c9 hf
    exact pr_retv E hP hS (pr_so hf) prd_S_add_23
  · have hf := pr_ie c9 hf
    refine lv_iload_n hx hb prd_S_add_14 rfl (lv_at hl 0 rfl) ?_
    refine lv_aload_n hx hb prd_S_add_15 rfl (lv_at hl 1 rfl) ?_
    refine pr_getr (t := 39) hx hb hts prs_S hown hK hP 5 1 (by decide) rfl (hts _ prw_418) rfl prd_S_add_16 ?_
    refine pr_alen (v := 18) hx hb hK hP 39 (by decide) (by decide) prd_S_add_19 ?_
    refine lv_icmp_lt (tgt := 24) hx hb prd_S_add_20 (by decide) (fun c10 => ?_) (fun c10 => ?_)
    · have hf := pr_it c10 hf
      refine lv_aload_n hx hb prd_S_add_24 rfl (lv_at hl 1 rfl) ?_
      refine pr_getr (t := 39) hx hb hts prs_S hown hK hP 5 1 (by decide) rfl (hts _ prw_418) rfl prd_S_add_25 ?_
      refine lv_iload_n hx hb prd_S_add_28 rfl (lv_at hl 0 rfl) ?_
      refine lv_iload_n hx hb prd_S_add_29 rfl (lv_at hl 2 rfl) ?_
      obtain ⟨hi11, hf⟩ := pr_ck_in hf
      refine pr_iast (f := (σ.2.1 39)) hx hb hK hP (hD _) hS 39 (by decide) rfl hi11 rfl prd_S_add_30 (fun H locs hP hS => ?_)
      refine lv_aload_n hx hb prd_S_add_31 rfl (lv_at hl 1 rfl) ?_
      refine pr_getr (t := 41) hx hb hts prs_S hown hK hP 5 3 (by decide) rfl (hts _ prw_470) rfl prd_S_add_32 ?_
      refine lv_iload_n hx hb prd_S_add_35 rfl (lv_at hl 0 rfl) ?_
      refine lv_iload_n hx hb prd_S_add_36 rfl (lv_at hl 3 rfl) ?_
      obtain ⟨hi12, hf⟩ := pr_ck_in hf
      obtain ⟨hz13, hf⟩ := pr_z_in hf
      refine pr_zast (f := (σ.2.1 41)) hx hb hK hP (hD _) hS 41 (by decide) rfl hi12 hz13 rfl prd_S_add_37 (fun H locs hP hS => ?_)
      refine lv_iload_n hx hb prd_S_add_38 rfl (lv_at hl 3 rfl) ?_
      refine lv_if_eq (tgt := 65) hx hb prd_S_add_39 (by decide) (fun c14 => ?_) (fun c14 => ?_)
      · have hf := pr_it c14 hf
        refine lv_aload_n hx hb prd_S_add_65 rfl (lv_at hl 1 rfl) ?_
        refine pr_getr (t := 40) hx hb hts prs_S hown hK hP 5 2 (by decide) rfl (hts _ prw_474) rfl prd_S_add_66 ?_
        refine lv_iload_n hx hb prd_S_add_69 rfl (lv_at hl 0 rfl) ?_
        refine lv_aload_n hx hb prd_S_add_70 rfl (lv_at hl 1 rfl) ?_
        refine pr_geti (v := (σ.1 5 4)) hx hb hts prs_S hown hK hP 5 4 (by decide) rfl (hts _ prw_294) rfl rfl prd_S_add_71 ?_
        obtain ⟨hi15, hf⟩ := pr_ck_in hf
        refine pr_iast (f := (σ.2.1 40)) hx hb hK hP (hD _) hS 40 (by decide) rfl hi15 rfl prd_S_add_74 (fun H locs hP hS => ?_)
        refine lv_aload_n hx hb prd_S_add_75 rfl (lv_at hl 1 rfl) ?_
        refine lv_dup hx hb prd_S_add_76 rfl ?_
        refine pr_geti (v := (σ.1 5 4)) hx hb hts prs_S hown hK hP 5 4 (by decide) rfl (hts _ prw_294) rfl rfl prd_S_add_77 ?_
        refine lv_iconst (v := 1) hx hb prd_S_add_80 (by decide) ?_
        refine lv_iadd hx hb prd_S_add_81 ?_
        refine pr_puti (ty := .int) hx hb hts prs_S prq_S prtt_S prtn_S hown hK hP (hD _) hS 5 4 (by decide) rfl (hts _ prw_294) rfl rfl (prtt_S 4 (by decide)) rfl rfl prd_S_add_82 (fun H locs hP hS => ?_)
        exact pr_retv E hP hS (pr_so hf) prd_S_add_85
      · have hf := pr_ie c14 hf
        refine lv_aload_n hx hb prd_S_add_42 rfl (lv_at hl 1 rfl) ?_
        refine pr_getr (t := 40) hx hb hts prs_S hown hK hP 5 2 (by decide) rfl (hts _ prw_474) rfl prd_S_add_43 ?_
        refine lv_iload_n hx hb prd_S_add_46 rfl (lv_at hl 0 rfl) ?_
        refine lv_aload_n hx hb prd_S_add_47 rfl (lv_at hl 1 rfl) ?_
        refine pr_geti (v := (σ.1 5 5)) hx hb hts prs_S hown hK hP 5 5 (by decide) rfl (hts _ prw_295) rfl rfl prd_S_add_48 ?_
        obtain ⟨hi16, hf⟩ := pr_ck_in hf
        refine pr_iast (f := (σ.2.1 40)) hx hb hK hP (hD _) hS 40 (by decide) rfl hi16 rfl prd_S_add_51 (fun H locs hP hS => ?_)
        refine lv_aload_n hx hb prd_S_add_52 rfl (lv_at hl 1 rfl) ?_
        refine lv_dup hx hb prd_S_add_53 rfl ?_
        refine pr_geti (v := (σ.1 5 5)) hx hb hts prs_S hown hK hP 5 5 (by decide) rfl (hts _ prw_295) rfl rfl prd_S_add_54 ?_
        refine lv_iconst (v := 1) hx hb prd_S_add_57 (by decide) ?_
        refine lv_iadd hx hb prd_S_add_58 ?_
        refine pr_puti (ty := .int) hx hb hts prs_S prq_S prtt_S prtn_S hown hK hP (hD _) hS 5 5 (by decide) rfl (hts _ prw_295) rfl rfl (prtt_S 5 (by decide)) rfl rfl prd_S_add_59 (fun H locs hP hS => ?_)
        refine lv_goto (tgt := 85) hx hb prd_S_add_62 (by decide) ?_
        exact pr_retv E hP hS (pr_so hf) prd_S_add_85
    · have hf := pr_ie c10 hf
      exact pr_retv E hP hS (pr_so hf) prd_S_add_23
