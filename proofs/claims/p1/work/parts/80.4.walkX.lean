-- X_input
set_option maxHeartbeats 4000000 in
set_option maxRecDepth 100000 in
theorem prc_X_input {l : Launch} {D : va_G} {ad : Nat → Nat} {dA : Nat → ClassId} {A : Nat → Prop} {v : Nat → Nat} {r : Value} (hD : ∀ σ : pr_St, va_D A (pr_w prx_L ad dA σ)) (hX : pr_Xok A (prY ad v r A)) (h : Nat) (hh : 0 ≤ h) (σ : pr_St) (x1 : Int32) (res : (Int32 × pr_St)) (hf : prf_X_input σ x1 = some res) : Met l pry_X_input (Cond.code pry_X_input prb_X_input 2 (some .int) :: pr_U) (pr_rm h) (pr_Pc (prY ad v r A) D pr_cl prx_L ad dA [.ref (ad 0), .int x1] σ) (pr_Qi D pr_cl prx_L ad dA A res) 0 0 A := by
  refine pr_entry (cc := prb_X_input) (maxL := 2) (ret := (some .int)) (by decide) (Nat.le_of_ble_eq_true rfl) hD hX ?_
  intro p e s m args below meth c E H locs hP hS ls hl
  have hl : lv_has ls 2 [(0, .ref (ad 0)), (1, .int x1)] := hl
  have hf := hf.symm
  unfold prf_X_input at hf
  obtain ⟨hx, hb, hml, hown, hts, hr, hlocks, hK, hD, hX, hXs⟩ := id E
  refine lv_aload_n hx hb prd_X_input_0 rfl (lv_at hl 0 rfl) ?_
  refine pr_geti (v := (σ.1 0 51)) hx hb hts prs_X hown hK hP 0 51 (by decide) rfl (hts _ prw_1088) rfl rfl prd_X_input_1 ?_
  refine lv_sipush (v := 400) hx hb prd_X_input_4 (by decide) ?_
  refine lv_icmp_ne (tgt := 12) hx hb prd_X_input_7 (by decide) (fun c3 => ?_) (fun c3 => ?_)
  · have hf := pr_ie c3 hf
    refine lv_aload_n hx hb prd_X_input_12 rfl (lv_at hl 0 rfl) ?_
    refine pr_getr (t := 33) hx hb hts prs_X hown hK hP 0 50 (by decide) rfl (hts _ prw_1089) rfl prd_X_input_13 ?_
    refine lv_aload_n hx hb prd_X_input_16 rfl (lv_at hl 0 rfl) ?_
    refine pr_geti (v := (σ.1 0 51)) hx hb hts prs_X hown hK hP 0 51 (by decide) rfl (hts _ prw_1088) rfl rfl prd_X_input_17 ?_
    refine lv_iload_n hx hb prd_X_input_20 rfl (lv_at hl 1 rfl) ?_
    obtain ⟨hi4, hf⟩ := pr_ck_in hf
    refine pr_iast (f := (σ.2.1 33)) hx hb hK hP (hD _) hS 33 (by decide) rfl hi4 rfl prd_X_input_21 (fun H locs hP hS => ?_)
    refine lv_aload_n hx hb prd_X_input_22 rfl (lv_at hl 0 rfl) ?_
    refine lv_dup hx hb prd_X_input_23 rfl ?_
    refine pr_geti (v := (σ.1 0 51)) hx hb hts prs_X hown hK hP 0 51 (by decide) rfl (hts _ prw_1088) rfl rfl prd_X_input_24 ?_
    refine lv_iconst (v := 1) hx hb prd_X_input_27 (by decide) ?_
    refine lv_iadd hx hb prd_X_input_28 ?_
    refine pr_puti (ty := .int) hx hb hts prs_X prq_X prtt_X prtn_X hown hK hP (hD _) hS 0 51 (by decide) rfl (hts _ prw_1088) rfl rfl (prtt_X 51 (by decide)) rfl rfl prd_X_input_29 (fun H locs hP hS => ?_)
    refine lv_aload_n hx hb prd_X_input_32 rfl (lv_at hl 0 rfl) ?_
    refine pr_geti (v := ((σ.1 0 51) + 1)) hx hb hts prs_X hown hK hP 0 51 (by decide) rfl (hts _ prw_1088) rfl rfl prd_X_input_33 ?_
    exact pr_reti E hP hS (pr_so hf) prd_X_input_36
  · have hf := pr_it c3 hf
    refine lv_iconst (v := (-1)) hx hb prd_X_input_10 (by decide) ?_
    exact pr_reti E hP hS (pr_so hf) prd_X_input_11
-- X_drop
set_option maxHeartbeats 4000000 in
set_option maxRecDepth 100000 in
theorem prc_X_drop {l : Launch} {D : va_G} {ad : Nat → Nat} {dA : Nat → ClassId} {A : Nat → Prop} {v : Nat → Nat} {r : Value} (hD : ∀ σ : pr_St, va_D A (pr_w prx_L ad dA σ)) (hX : pr_Xok A (prY ad v r A)) (h : Nat) (hh : 0 ≤ h) (σ : pr_St)  (res : (Int32 × pr_St)) (hf : prf_X_drop σ  = some res) : Met l pry_X_drop (Cond.code pry_X_drop prb_X_drop 2 (some .int) :: pr_U) (pr_rm h) (pr_Pc (prY ad v r A) D pr_cl prx_L ad dA [.ref (ad 0)] σ) (pr_Qi D pr_cl prx_L ad dA A res) 0 0 A := by
  refine pr_entry (cc := prb_X_drop) (maxL := 2) (ret := (some .int)) (by decide) (Nat.le_of_ble_eq_true rfl) hD hX ?_
  intro p e s m args below meth c E H locs hP hS ls hl
  have hl : lv_has ls 2 [(0, .ref (ad 0))] := hl
  have hf := hf.symm
  unfold prf_X_drop at hf
  obtain ⟨hx, hb, hml, hown, hts, hr, hlocks, hK, hD, hX, hXs⟩ := id E
  refine lv_aload_n hx hb prd_X_drop_0 rfl (lv_at hl 0 rfl) ?_
  refine pr_geti (v := (σ.1 0 51)) hx hb hts prs_X hown hK hP 0 51 (by decide) rfl (hts _ prw_1088) rfl rfl prd_X_drop_1 ?_
  refine lv_istore_n (lv' := [(1, .int (σ.1 0 51)), (0, .ref (ad 0))]) hx hb prd_X_drop_4 rfl hl (by decide) rfl (fun ls hl => ?_)
  refine lv_aload_n hx hb prd_X_drop_5 rfl (lv_at hl 1 rfl) ?_
  refine lv_iconst (v := 0) hx hb prd_X_drop_6 (by decide) ?_
  refine pr_puti (ty := .int) hx hb hts prs_X prq_X prtt_X prtn_X hown hK hP (hD _) hS 0 51 (by decide) rfl (hts _ prw_1088) rfl rfl (prtt_X 51 (by decide)) rfl rfl prd_X_drop_7 (fun H locs hP hS => ?_)
  refine lv_iload_n hx hb prd_X_drop_10 rfl (lv_at hl 0 rfl) ?_
  exact pr_reti E hP hS (pr_so hf) prd_X_drop_11
-- X_meantAt
set_option maxHeartbeats 4000000 in
set_option maxRecDepth 100000 in
theorem prk_X_meantAt_12 {l : Launch} {D : va_G} {ad : Nat → Nat} {dA : Nat → ClassId} {A : Nat → Prop} {v : Nat → Nat} {r : Value} {p : Program} {e : Env} {s : State} {m : MethodId} {args : Array Value} {below : List Frame} {meth : Method} {c : Code} {h : Nat} (hh : 0 ≤ h) (E : pr_cx prn_X prb_X_meantAt 3 (some .int) D pr_cl prx_L ad dA A (prY ad v r A) p s m args meth c) : ∀ n : Nat, ∀ (σ : pr_St) (x1 : Int32) (x2 : Int32) (res : Int32), some res = prf_X_meantAt_12 n σ x1 x2 → ∀ (H : Heap) (locs : List Loc) (ls : Array Slot), va_P D pr_cl (pr_w prx_L ad dA σ) H → va_S A s.heap H locs → lv_has ls 3 [(0, .ref (ad 0)), (1, .int x1), (2, .int x2)] → W p l e (pr_rm h) s m args below meth c H locs 0 0 (MQ below (pr_Qi D pr_cl prx_L ad dA A (res, σ)) args s 0 0 A) (F0 m 12 ls []) := by
  obtain ⟨hx, hb, hml, hown, hts, hr, hlocks, hK, hD, hX, hXs⟩ := id E
  intro n
  induction n with
  | zero =>
    intro σ x1 x2 res hf
    rw [prf_X_meantAt_12] at hf
    cases hf
  | succ n ih =>
    intro σ x1 x2 res hf H locs ls hP hS hl
    rw [prf_X_meantAt_12] at hf
    refine lv_iload_n hx hb prd_X_meantAt_12 rfl (lv_at hl 2 rfl) ?_
    refine lv_if_lt (tgt := 50) hx hb prd_X_meantAt_13 (by decide) (fun c5 => ?_) (fun c5 => ?_)
    · have hf := pr_it c5 hf
      refine lv_iconst (v := (-1)) hx hb prd_X_meantAt_50 (by decide) ?_
      exact pr_reti E hP hS (pr_ro hf) prd_X_meantAt_51
    · have hf := pr_ie c5 hf
      refine lv_aload_n hx hb prd_X_meantAt_16 rfl (lv_at hl 0 rfl) ?_
      refine pr_getr (t := 26) hx hb hts prs_X hown hK hP 0 35 (by decide) rfl (hts _ prw_1053) rfl prd_X_meantAt_17 ?_
      refine lv_bipush (v := 40) hx hb prd_X_meantAt_20 (by decide) ?_
      refine lv_aload_n hx hb prd_X_meantAt_22 rfl (lv_at hl 0 rfl) ?_
      refine pr_geti (v := (σ.1 0 55)) hx hb hts prs_X hown hK hP 0 55 (by decide) rfl (hts _ prw_828) rfl rfl prd_X_meantAt_23 ?_
      refine lv_imul hx hb prd_X_meantAt_26 ?_
      refine lv_iload_n hx hb prd_X_meantAt_27 rfl (lv_at hl 2 rfl) ?_
      refine lv_iadd hx hb prd_X_meantAt_28 ?_
      obtain ⟨hi6, hf⟩ := pr_ck_in hf
      refine pr_iald (f := (σ.2.1 26)) hx hb hK hP 26 (by decide) rfl hi6 rfl prd_X_meantAt_29 ?_
      refine lv_iload_n hx hb prd_X_meantAt_30 rfl (lv_at hl 1 rfl) ?_
      refine lv_icmp_ne (tgt := 44) hx hb prd_X_meantAt_31 (by decide) (fun c7 => ?_) (fun c7 => ?_)
      · have hf := pr_ie c7 hf
        refine lv_iinc (v := (x2 + (-1))) (lv' := [(2, .int (x2 + (-1))), (0, .ref (ad 0)), (1, .int x1)]) hx hb prd_X_meantAt_44 hl (k := 2) rfl rfl (by decide) rfl (fun ls hl => ?_)
        refine lv_goto (tgt := 12) hx hb prd_X_meantAt_47 (by decide) ?_
        exact ih σ x1 (x2 + (-1)) _ hf _ _ _ hP hS (lv_sub hl [1, 2, 0] rfl)
      · have hf := pr_it c7 hf
        refine lv_bipush (v := 40) hx hb prd_X_meantAt_34 (by decide) ?_
        refine lv_aload_n hx hb prd_X_meantAt_36 rfl (lv_at hl 0 rfl) ?_
        refine pr_geti (v := (σ.1 0 55)) hx hb hts prs_X hown hK hP 0 55 (by decide) rfl (hts _ prw_828) rfl rfl prd_X_meantAt_37 ?_
        refine lv_imul hx hb prd_X_meantAt_40 ?_
        refine lv_iload_n hx hb prd_X_meantAt_41 rfl (lv_at hl 2 rfl) ?_
        refine lv_iadd hx hb prd_X_meantAt_42 ?_
        exact pr_reti E hP hS (pr_ro hf) prd_X_meantAt_43
set_option maxHeartbeats 4000000 in
set_option maxRecDepth 100000 in
theorem prc_X_meantAt {l : Launch} {D : va_G} {ad : Nat → Nat} {dA : Nat → ClassId} {A : Nat → Prop} {v : Nat → Nat} {r : Value} (hD : ∀ σ : pr_St, va_D A (pr_w prx_L ad dA σ)) (hX : pr_Xok A (prY ad v r A)) (h : Nat) (hh : 0 ≤ h) (σ : pr_St) (x1 : Int32) (res : Int32) (hf : prf_X_meantAt σ x1 = some res) : Met l pry_X_meantAt (Cond.code pry_X_meantAt prb_X_meantAt 3 (some .int) :: pr_U) (pr_rm h) (pr_Pc (prY ad v r A) D pr_cl prx_L ad dA [.ref (ad 0), .int x1] σ) (pr_Qi D pr_cl prx_L ad dA A (res, σ)) 0 0 A := by
  refine pr_entry (cc := prb_X_meantAt) (maxL := 3) (ret := (some .int)) (by decide) (Nat.le_of_ble_eq_true rfl) hD hX ?_
  intro p e s m args below meth c E H locs hP hS ls hl
  have hl : lv_has ls 3 [(0, .ref (ad 0)), (1, .int x1)] := hl
  have hf := hf.symm
  unfold prf_X_meantAt at hf
  obtain ⟨hx, hb, hml, hown, hts, hr, hlocks, hK, hD, hX, hXs⟩ := id E
  refine lv_aload_n hx hb prd_X_meantAt_0 rfl (lv_at hl 0 rfl) ?_
  refine pr_getr (t := 25) hx hb hts prs_X hown hK hP 0 34 (by decide) rfl (hts _ prw_1049) rfl prd_X_meantAt_1 ?_
  refine lv_aload_n hx hb prd_X_meantAt_4 rfl (lv_at hl 0 rfl) ?_
  refine pr_geti (v := (σ.1 0 55)) hx hb hts prs_X hown hK hP 0 55 (by decide) rfl (hts _ prw_828) rfl rfl prd_X_meantAt_5 ?_
  obtain ⟨hi8, hf⟩ := pr_ck_in hf
  refine pr_iald (f := (σ.2.1 25)) hx hb hK hP 25 (by decide) rfl hi8 rfl prd_X_meantAt_8 ?_
  refine lv_iconst (v := 1) hx hb prd_X_meantAt_9 (by decide) ?_
  refine lv_isub hx hb prd_X_meantAt_10 ?_
  refine lv_istore_n (lv' := [(2, .int (((σ.2.1 25) (σ.1 0 55).toNatClampNeg) - 1)), (0, .ref (ad 0)), (1, .int x1)]) hx hb prd_X_meantAt_11 rfl hl (by decide) rfl (fun ls hl => ?_)
  exact prk_X_meantAt_12 hh E pr_FU σ x1 (((σ.2.1 25) (σ.1 0 55).toNatClampNeg) - 1) _ hf _ _ _ hP hS (lv_sub hl [1, 2, 0] rfl)
-- X_trapped
set_option maxHeartbeats 4000000 in
set_option maxRecDepth 100000 in
theorem prc_X_trapped {l : Launch} {D : va_G} {ad : Nat → Nat} {dA : Nat → ClassId} {A : Nat → Prop} {v : Nat → Nat} {r : Value} (hD : ∀ σ : pr_St, va_D A (pr_w prx_L ad dA σ)) (hX : pr_Xok A (prY ad v r A)) (h : Nat) (hh : 0 ≤ h) (σ : pr_St) (x1 : Int32) (res : (Int64 × pr_St)) (hf : prf_X_trapped σ x1 = some res) : Met l pry_X_trapped (Cond.code pry_X_trapped prb_X_trapped 2 (some .long) :: pr_U) (pr_rm h) (pr_Pc (prY ad v r A) D pr_cl prx_L ad dA [.ref (ad 0), .int x1] σ) (pr_Ql D pr_cl prx_L ad dA A res) 0 0 A := by
  refine pr_entry (cc := prb_X_trapped) (maxL := 2) (ret := (some .long)) (by decide) (Nat.le_of_ble_eq_true rfl) hD hX ?_
  intro p e s m args below meth c E H locs hP hS ls hl
  have hl : lv_has ls 2 [(0, .ref (ad 0)), (1, .int x1)] := hl
  have hf := hf.symm
  unfold prf_X_trapped at hf
  obtain ⟨hx, hb, hml, hown, hts, hr, hlocks, hK, hD, hX, hXs⟩ := id E
  refine lv_aload_n hx hb prd_X_trapped_0 rfl (lv_at hl 0 rfl) ?_
  refine lv_aload_n hx hb prd_X_trapped_1 rfl (lv_at hl 0 rfl) ?_
  refine pr_geti (v := (σ.1 0 59)) hx hb hts prs_X hown hK hP 0 59 (by decide) rfl (hts _ prw_1099) rfl rfl prd_X_trapped_2 ?_
  refine lv_if_ne (tgt := 12) hx hb prd_X_trapped_5 (by decide) (fun c2 => ?_) (fun c2 => ?_)
  · have hf := pr_ie c2 hf
    refine lv_aload_n hx hb prd_X_trapped_12 rfl (lv_at hl 0 rfl) ?_
    refine pr_geti (v := (σ.1 0 59)) hx hb hts prs_X hown hK hP 0 59 (by decide) rfl (hts _ prw_1099) rfl rfl prd_X_trapped_13 ?_
    refine pr_puti (ty := .int) hx hb hts prs_X prq_X prtt_X prtn_X hown hK hP (hD _) hS 0 59 (by decide) rfl (hts _ prw_1099) rfl rfl (prtt_X 59 (by decide)) rfl rfl prd_X_trapped_16 (fun H locs hP hS => ?_)
    refine lv_lconst (v := 0) hx hb prd_X_trapped_19 (by decide) ?_
    exact pr_retl E hP hS (pr_so hf) prd_X_trapped_20
  · have hf := pr_it c2 hf
    refine lv_iload_n hx hb prd_X_trapped_8 rfl (lv_at hl 1 rfl) ?_
    refine lv_goto (tgt := 16) hx hb prd_X_trapped_9 (by decide) ?_
    refine pr_puti (ty := .int) hx hb hts prs_X prq_X prtt_X prtn_X hown hK hP (hD _) hS 0 59 (by decide) rfl (hts _ prw_1099) rfl rfl (prtt_X 59 (by decide)) rfl rfl prd_X_trapped_16 (fun H locs hP hS => ?_)
    refine lv_lconst (v := 0) hx hb prd_X_trapped_19 (by decide) ?_
    exact pr_retl E hP hS (pr_so hf) prd_X_trapped_20
-- X_whole
set_option maxHeartbeats 4000000 in
set_option maxRecDepth 100000 in
theorem prc_X_whole {l : Launch} {D : va_G} {ad : Nat → Nat} {dA : Nat → ClassId} {A : Nat → Prop} {v : Nat → Nat} {r : Value} (hD : ∀ σ : pr_St, va_D A (pr_w prx_L ad dA σ)) (hX : pr_Xok A (prY ad v r A)) (h : Nat) (hh : 1 ≤ h) (σ : pr_St) (x1 : Int64) (res : (Int64 × pr_St)) (hf : prf_X_whole σ x1 = some res) : Met l pry_X_whole (Cond.code pry_X_whole prb_X_whole 3 (some .long) :: pr_U) (pr_rm h) (pr_Pc (prY ad v r A) D pr_cl prx_L ad dA [.ref (ad 0), .long x1] σ) (pr_Ql D pr_cl prx_L ad dA A res) 0 0 A := by
  refine pr_entry (cc := prb_X_whole) (maxL := 3) (ret := (some .long)) (by decide) (Nat.le_of_ble_eq_true rfl) hD hX ?_
  intro p e s m args below meth c E H locs hP hS ls hl
  have hl : lv_has ls 3 [(0, .ref (ad 0)), (1, .long x1)] := hl
  have hf := hf.symm
  unfold prf_X_whole at hf
  obtain ⟨hx, hb, hml, hown, hts, hr, hlocks, hK, hD, hX, hXs⟩ := id E
  refine lv_lload_n hx hb prd_X_whole_0 rfl (lv_at hl 1 rfl) ?_
  refine lv_ldc2 (v := (-2147483648)) hx hb hown (hts _ prw_1103) prd_X_whole_1 ?_
  refine W.lcmp hx hb prd_X_whole_4 ?_
  refine lv_if_lt (tgt := 16) hx hb prd_X_whole_5 (by decide) (fun c5 => ?_) (fun c5 => ?_)
  · have hf := pr_it c5 hf
    refine lv_aload_n hx hb prd_X_whole_16 rfl (lv_at hl 0 rfl) ?_
    refine lv_iconst (v := 1) hx hb prd_X_whole_17 (by decide) ?_
    obtain ⟨r6, hr6, hf⟩ := pr_bi hf
    refine pr_callVl (rest := []) (res := r6) ⟨hx, hb, hml, hown, hts⟩ 0 (prc_X_trapped hD hX 0 (Nat.le_refl _) σ 1 r6 hr6) (prg_X_trapped hts prw_1104 (by have := hh; omega)) hX hXs hK hP hS (by decide) rfl rfl rfl rfl hl.1 (Nat.le_of_ble_eq_true rfl) prd_X_whole_18 (fun H locs hP hS => ?_)
    refine lv_goto (tgt := 25) hx hb prd_X_whole_21 (by decide) ?_
    exact pr_retl E hP hS (pr_so hf) prd_X_whole_25
  · have hf := pr_ie c5 hf
    refine lv_lload_n hx hb prd_X_whole_8 rfl (lv_at hl 1 rfl) ?_
    refine lv_ldc2 (v := 2147483647) hx hb hown (hts _ prw_870) prd_X_whole_9 ?_
    refine W.lcmp hx hb prd_X_whole_12 ?_
    refine lv_if_le (tgt := 24) hx hb prd_X_whole_13 (by decide) (fun c7 => ?_) (fun c7 => ?_)
    · have hf := pr_it c7 hf
      refine lv_lload_n hx hb prd_X_whole_24 rfl (lv_at hl 1 rfl) ?_
      exact pr_retl E hP hS (pr_so hf) prd_X_whole_25
    · have hf := pr_ie c7 hf
      refine lv_aload_n hx hb prd_X_whole_16 rfl (lv_at hl 0 rfl) ?_
      refine lv_iconst (v := 1) hx hb prd_X_whole_17 (by decide) ?_
      obtain ⟨r8, hr8, hf⟩ := pr_bi hf
      refine pr_callVl (rest := []) (res := r8) ⟨hx, hb, hml, hown, hts⟩ 0 (prc_X_trapped hD hX 0 (Nat.le_refl _) σ 1 r8 hr8) (prg_X_trapped hts prw_1104 (by have := hh; omega)) hX hXs hK hP hS (by decide) rfl rfl rfl rfl hl.1 (Nat.le_of_ble_eq_true rfl) prd_X_whole_18 (fun H locs hP hS => ?_)
      refine lv_goto (tgt := 25) hx hb prd_X_whole_21 (by decide) ?_
      exact pr_retl E hP hS (pr_so hf) prd_X_whole_25
-- X_next
set_option maxHeartbeats 4000000 in
set_option maxRecDepth 100000 in
theorem prc_X_next {l : Launch} {D : va_G} {ad : Nat → Nat} {dA : Nat → ClassId} {A : Nat → Prop} {v : Nat → Nat} {r : Value} (hD : ∀ σ : pr_St, va_D A (pr_w prx_L ad dA σ)) (hX : pr_Xok A (prY ad v r A)) (h : Nat) (hh : 0 ≤ h) (σ : pr_St)  (res : (Int32 × pr_St)) (hf : prf_X_next σ  = some res) : Met l pry_X_next (Cond.code pry_X_next prb_X_next 1 (some .int) :: pr_U) (pr_rm h) (pr_Pc (prY ad v r A) D pr_cl prx_L ad dA [.ref (ad 0)] σ) (pr_Qi D pr_cl prx_L ad dA A res) 0 0 A := by
  refine pr_entry (cc := prb_X_next) (maxL := 1) (ret := (some .int)) (by decide) (Nat.le_of_ble_eq_true rfl) hD hX ?_
  intro p e s m args below meth c E H locs hP hS ls hl
  have hl : lv_has ls 1 [(0, .ref (ad 0))] := hl
  have hf := hf.symm
  unfold prf_X_next at hf
  obtain ⟨hx, hb, hml, hown, hts, hr, hlocks, hK, hD, hX, hXs⟩ := id E
  refine lv_aload_n hx hb prd_X_next_0 rfl (lv_at hl 0 rfl) ?_
  refine lv_dup hx hb prd_X_next_1 rfl ?_
  refine pr_geti (v := (σ.1 0 58)) hx hb hts prs_X hown hK hP 0 58 (by decide) rfl (hts _ prw_1108) rfl rfl prd_X_next_2 ?_
  refine lv_iconst (v := 1) hx hb prd_X_next_5 (by decide) ?_
  refine lv_iadd hx hb prd_X_next_6 ?_
  refine pr_puti (ty := .int) hx hb hts prs_X prq_X prtt_X prtn_X hown hK hP (hD _) hS 0 58 (by decide) rfl (hts _ prw_1108) rfl rfl (prtt_X 58 (by decide)) rfl rfl prd_X_next_7 (fun H locs hP hS => ?_)
  refine lv_aload_n hx hb prd_X_next_10 rfl (lv_at hl 0 rfl) ?_
  refine pr_geti (v := ((σ.1 0 58) + 1)) hx hb hts prs_X hown hK hP 0 58 (by decide) rfl (hts _ prw_1108) rfl rfl prd_X_next_11 ?_
  refine lv_aload_n hx hb prd_X_next_14 rfl (lv_at hl 0 rfl) ?_
  refine pr_geti (v := (σ.1 0 51)) hx hb hts prs_X hown hK hP 0 51 (by decide) rfl (hts _ prw_1088) rfl rfl prd_X_next_15 ?_
  refine lv_icmp_gt (tgt := 35) hx hb prd_X_next_18 (by decide) (fun c3 => ?_) (fun c3 => ?_)
  · have hf := pr_it c3 hf
    refine lv_iconst (v := 0) hx hb prd_X_next_35 (by decide) ?_
    exact pr_reti E hP hS (pr_so hf) prd_X_next_36
  · have hf := pr_ie c3 hf
    refine lv_aload_n hx hb prd_X_next_21 rfl (lv_at hl 0 rfl) ?_
    refine pr_getr (t := 33) hx hb hts prs_X hown hK hP 0 50 (by decide) rfl (hts _ prw_1089) rfl prd_X_next_22 ?_
    refine lv_aload_n hx hb prd_X_next_25 rfl (lv_at hl 0 rfl) ?_
    refine pr_geti (v := ((σ.1 0 58) + 1)) hx hb hts prs_X hown hK hP 0 58 (by decide) rfl (hts _ prw_1108) rfl rfl prd_X_next_26 ?_
    refine lv_iconst (v := 1) hx hb prd_X_next_29 (by decide) ?_
    refine lv_isub hx hb prd_X_next_30 ?_
    obtain ⟨hi4, hf⟩ := pr_ck_in hf
    refine pr_iald (f := (σ.2.1 33)) hx hb hK hP 33 (by decide) rfl hi4 rfl prd_X_next_31 ?_
    refine lv_goto (tgt := 36) hx hb prd_X_next_32 (by decide) ?_
    exact pr_reti E hP hS (pr_so hf) prd_X_next_36
-- X_operated
set_option maxHeartbeats 4000000 in
set_option maxRecDepth 100000 in
theorem prk_X_operated_19 {l : Launch} {D : va_G} {ad : Nat → Nat} {dA : Nat → ClassId} {A : Nat → Prop} {v : Nat → Nat} {r : Value} {p : Program} {e : Env} {s : State} {m : MethodId} {args : Array Value} {below : List Frame} {meth : Method} {c : Code} {h : Nat} (hh : 2 ≤ h) (E : pr_cx prn_X prb_X_operated 6 (some .long) D pr_cl prx_L ad dA A (prY ad v r A) p s m args meth c) : ∀ (σ : pr_St) (x1 : Int32) (x2 : Int64) (x4 : Int64) (res : (Int64 × pr_St)), some res = prf_X_operated_19 σ x1 x2 x4 → ∀ (H : Heap) (locs : List Loc) (ls : Array Slot), va_P D pr_cl (pr_w prx_L ad dA σ) H → va_S A s.heap H locs → lv_has ls 6 [(0, .ref (ad 0)), (1, .int x1), (2, .long x2), (4, .long x4)] → W p l e (pr_rm h) s m args below meth c H locs 0 0 (MQ below (pr_Ql D pr_cl prx_L ad dA A res) args s 0 0 A) (F0 m 19 ls []) := by
  obtain ⟨hx, hb, hml, hown, hts, hr, hlocks, hK, hD, hX, hXs⟩ := id E
  intro σ x1 x2 x4 res hf H locs ls hP hS hl
  unfold prf_X_operated_19 at hf
  refine lv_aload_n hx hb prd_X_operated_19 rfl (lv_at hl 0 rfl) ?_
  refine lv_iload_n hx hb prd_X_operated_20 rfl (lv_at hl 1 rfl) ?_
  refine lv_bipush (v := 18) hx hb prd_X_operated_21 (by decide) ?_
  refine lv_icmp_ne (tgt := 33) hx hb prd_X_operated_23 (by decide) (fun c15 => ?_) (fun c15 => ?_)
  · have hf := pr_ie c15 hf
    refine lv_iload_n hx hb prd_X_operated_33 rfl (lv_at hl 1 rfl) ?_
    refine lv_bipush (v := 19) hx hb prd_X_operated_34 (by decide) ?_
    refine lv_icmp_ne (tgt := 46) hx hb prd_X_operated_36 (by decide) (fun c16 => ?_) (fun c16 => ?_)
    · have hf := pr_ie c16 hf
      refine lv_iload_n hx hb prd_X_operated_46 rfl (lv_at hl 1 rfl) ?_
      refine lv_bipush (v := 21) hx hb prd_X_operated_47 (by decide) ?_
      refine lv_icmp_ne (tgt := 59) hx hb prd_X_operated_49 (by decide) (fun c17 => ?_) (fun c17 => ?_)
      · have hf := pr_ie c17 hf
        refine lv_iload_n hx hb prd_X_operated_59 rfl (lv_at hl 1 rfl) ?_
        refine lv_bipush (v := 22) hx hb prd_X_operated_60 (by decide) ?_
        refine lv_icmp_ne (tgt := 72) hx hb prd_X_operated_62 (by decide) (fun c18 => ?_) (fun c18 => ?_)
        · have hf := pr_ie c18 hf
          refine lv_lload_n hx hb prd_X_operated_72 rfl (lv_at hl 2 rfl) ?_
          refine lv_lload hx hb prd_X_operated_73 (lv_at hl 3 rfl) ?_
          obtain ⟨hz19, hf⟩ := pr_nzl_in hf
          refine lv_lrem hx hb prd_X_operated_75 hz19 ?_
          obtain ⟨r20, hr20, hf⟩ := pr_bi hf
          refine pr_callVl (rest := []) (res := r20) ⟨hx, hb, hml, hown, hts⟩ 0 (prc_X_whole hD hX 1 (Nat.le_refl _) σ (x2 - x2 / x4 * x4) r20 hr20) (prg_X_whole hts prw_1112 (by have := hh; omega)) hX hXs hK hP hS (by decide) rfl rfl rfl rfl hl.1 (Nat.le_of_ble_eq_true rfl) prd_X_operated_76 (fun H locs hP hS => ?_)
          exact pr_retl E hP hS (pr_so hf) prd_X_operated_79
        · have hf := pr_it c18 hf
          refine lv_lload_n hx hb prd_X_operated_65 rfl (lv_at hl 2 rfl) ?_
          refine lv_lload hx hb prd_X_operated_66 (lv_at hl 3 rfl) ?_
          obtain ⟨hz21, hf⟩ := pr_nzl_in hf
          refine lv_ldiv hx hb prd_X_operated_68 hz21 ?_
          refine lv_goto (tgt := 76) hx hb prd_X_operated_69 (by decide) ?_
          obtain ⟨r22, hr22, hf⟩ := pr_bi hf
          refine pr_callVl (rest := []) (res := r22) ⟨hx, hb, hml, hown, hts⟩ 0 (prc_X_whole hD hX 1 (Nat.le_refl _) σ (x2 / x4) r22 hr22) (prg_X_whole hts prw_1112 (by have := hh; omega)) hX hXs hK hP hS (by decide) rfl rfl rfl rfl hl.1 (Nat.le_of_ble_eq_true rfl) prd_X_operated_76 (fun H locs hP hS => ?_)
          exact pr_retl E hP hS (pr_so hf) prd_X_operated_79
      · have hf := pr_it c17 hf
        refine lv_lload_n hx hb prd_X_operated_52 rfl (lv_at hl 2 rfl) ?_
        refine lv_lload hx hb prd_X_operated_53 (lv_at hl 3 rfl) ?_
        refine lv_lmul hx hb prd_X_operated_55 ?_
        refine lv_goto (tgt := 76) hx hb prd_X_operated_56 (by decide) ?_
        obtain ⟨r23, hr23, hf⟩ := pr_bi hf
        refine pr_callVl (rest := []) (res := r23) ⟨hx, hb, hml, hown, hts⟩ 0 (prc_X_whole hD hX 1 (Nat.le_refl _) σ (x2 * x4) r23 hr23) (prg_X_whole hts prw_1112 (by have := hh; omega)) hX hXs hK hP hS (by decide) rfl rfl rfl rfl hl.1 (Nat.le_of_ble_eq_true rfl) prd_X_operated_76 (fun H locs hP hS => ?_)
        exact pr_retl E hP hS (pr_so hf) prd_X_operated_79
    · have hf := pr_it c16 hf
      refine lv_lload_n hx hb prd_X_operated_39 rfl (lv_at hl 2 rfl) ?_
      refine lv_lload hx hb prd_X_operated_40 (lv_at hl 3 rfl) ?_
      refine lv_lsub hx hb prd_X_operated_42 ?_
      refine lv_goto (tgt := 76) hx hb prd_X_operated_43 (by decide) ?_
      obtain ⟨r24, hr24, hf⟩ := pr_bi hf
      refine pr_callVl (rest := []) (res := r24) ⟨hx, hb, hml, hown, hts⟩ 0 (prc_X_whole hD hX 1 (Nat.le_refl _) σ (x2 - x4) r24 hr24) (prg_X_whole hts prw_1112 (by have := hh; omega)) hX hXs hK hP hS (by decide) rfl rfl rfl rfl hl.1 (Nat.le_of_ble_eq_true rfl) prd_X_operated_76 (fun H locs hP hS => ?_)
      exact pr_retl E hP hS (pr_so hf) prd_X_operated_79
  · have hf := pr_it c15 hf
    refine lv_lload_n hx hb prd_X_operated_26 rfl (lv_at hl 2 rfl) ?_
    refine lv_lload hx hb prd_X_operated_27 (lv_at hl 3 rfl) ?_
    refine lv_ladd hx hb prd_X_operated_29 ?_
    refine lv_goto (tgt := 76) hx hb prd_X_operated_30 (by decide) ?_
    obtain ⟨r25, hr25, hf⟩ := pr_bi hf
    refine pr_callVl (rest := []) (res := r25) ⟨hx, hb, hml, hown, hts⟩ 0 (prc_X_whole hD hX 1 (Nat.le_refl _) σ (x2 + x4) r25 hr25) (prg_X_whole hts prw_1112 (by have := hh; omega)) hX hXs hK hP hS (by decide) rfl rfl rfl rfl hl.1 (Nat.le_of_ble_eq_true rfl) prd_X_operated_76 (fun H locs hP hS => ?_)
    exact pr_retl E hP hS (pr_so hf) prd_X_operated_79
set_option maxHeartbeats 4000000 in
set_option maxRecDepth 100000 in
theorem prc_X_operated {l : Launch} {D : va_G} {ad : Nat → Nat} {dA : Nat → ClassId} {A : Nat → Prop} {v : Nat → Nat} {r : Value} (hD : ∀ σ : pr_St, va_D A (pr_w prx_L ad dA σ)) (hX : pr_Xok A (prY ad v r A)) (h : Nat) (hh : 2 ≤ h) (σ : pr_St) (x1 : Int32) (x2 : Int64) (x4 : Int64) (res : (Int64 × pr_St)) (hf : prf_X_operated σ x1 x2 x4 = some res) : Met l pry_X_operated (Cond.code pry_X_operated prb_X_operated 6 (some .long) :: pr_U) (pr_rm h) (pr_Pc (prY ad v r A) D pr_cl prx_L ad dA [.ref (ad 0), .int x1, .long x2, .long x4] σ) (pr_Ql D pr_cl prx_L ad dA A res) 0 0 A := by
  refine pr_entry (cc := prb_X_operated) (maxL := 6) (ret := (some .long)) (by decide) (Nat.le_of_ble_eq_true rfl) hD hX ?_
  intro p e s m args below meth c E H locs hP hS ls hl
  have hl : lv_has ls 6 [(0, .ref (ad 0)), (1, .int x1), (2, .long x2), (4, .long x4)] := hl
  have hf := hf.symm
  unfold prf_X_operated at hf
  obtain ⟨hx, hb, hml, hown, hts, hr, hlocks, hK, hD, hX, hXs⟩ := id E
  refine lv_iload_n hx hb prd_X_operated_0 rfl (lv_at hl 1 rfl) ?_
  refine lv_bipush (v := 21) hx hb prd_X_operated_1 (by decide) ?_
  refine lv_icmp_le (tgt := 19) hx hb prd_X_operated_3 (by decide) (fun c26 => ?_) (fun c26 => ?_)
  · have hf := pr_it c26 hf
    exact prk_X_operated_19 hh E σ x1 x2 x4 _ hf _ _ _ hP hS (lv_sub hl [0, 1, 2, 3] rfl)
  · have hf := pr_ie c26 hf
    refine lv_lload hx hb prd_X_operated_6 (lv_at hl 3 rfl) ?_
    refine lv_lconst (v := 0) hx hb prd_X_operated_8 (by decide) ?_
    refine W.lcmp hx hb prd_X_operated_9 ?_
    refine lv_if_ne (tgt := 19) hx hb prd_X_operated_10 (by decide) (fun c27 => ?_) (fun c27 => ?_)
    · have hf := pr_ie c27 hf
      exact prk_X_operated_19 hh E σ x1 x2 x4 _ hf _ _ _ hP hS (lv_sub hl [0, 1, 2, 3] rfl)
    · have hf := pr_it c27 hf
      refine lv_aload_n hx hb prd_X_operated_13 rfl (lv_at hl 0 rfl) ?_
      refine lv_iconst (v := 2) hx hb prd_X_operated_14 (by decide) ?_
      obtain ⟨r28, hr28, hf⟩ := pr_bi hf
      refine pr_callVl (rest := []) (res := r28) ⟨hx, hb, hml, hown, hts⟩ 0 (prc_X_trapped hD hX 0 (Nat.le_refl _) σ 2 r28 hr28) (prg_X_trapped hts prw_1104 (by have := hh; omega)) hX hXs hK hP hS (by decide) rfl rfl rfl rfl hl.1 (Nat.le_of_ble_eq_true rfl) prd_X_operated_15 (fun H locs hP hS => ?_)
      exact pr_retl E hP hS (pr_so hf) prd_X_operated_18
-- X_placeOf
set_option maxHeartbeats 4000000 in
set_option maxRecDepth 100000 in
theorem prk_X_placeOf_50 {l : Launch} {D : va_G} {ad : Nat → Nat} {dA : Nat → ClassId} {A : Nat → Prop} {v : Nat → Nat} {r : Value} {p : Program} {e : Env} {s : State} {m : MethodId} {args : Array Value} {below : List Frame} {meth : Method} {c : Code} (hd : Nat) (hb0 : 3 ≤ hd) {h : Nat} (hh : hd + 1 ≤ h) (E : pr_cx prn_X prb_X_placeOf 6 (some .int) D pr_cl prx_L ad dA A (prY ad v r A) p s m args meth c) {rc : pr_St → Int32 → Option (Int64 × pr_St)} (Hrc0 : ∀ (σ : pr_St) (x1 : Int32) (res : (Int64 × pr_St)), rc σ x1 = some res → Met l pry_X_reckon (Cond.code pry_X_reckon prb_X_reckon 7 (some .long) :: pr_U) (pr_rm hd) (pr_Pc (prY ad v r A) D pr_cl prx_L ad dA [.ref (ad 0), .int x1] σ) (pr_Ql D pr_cl prx_L ad dA A res) 0 0 A) : ∀ (σ : pr_St) (x3 : Int64) (x5 : Int32) (res : (Int32 × pr_St)), some res = prf_X_placeOf_50 rc σ x3 x5 → ∀ (H : Heap) (locs : List Loc) (ls : Array Slot), va_P D pr_cl (pr_w prx_L ad dA σ) H → va_S A s.heap H locs → lv_has ls 6 [(0, .ref (ad 0)), (3, .long x3), (5, .int x5)] → W p l e (pr_rm h) s m args below meth c H locs 0 0 (MQ below (pr_Qi D pr_cl prx_L ad dA A res) args s 0 0 A) (F0 m 50 ls []) := by
  obtain ⟨hx, hb, hml, hown, hts, hr, hlocks, hK, hD, hX, hXs⟩ := id E
  intro σ x3 x5 res hf H locs ls hP hS hl
  unfold prf_X_placeOf_50 at hf
  refine lv_aload_n hx hb prd_X_placeOf_50 rfl (lv_at hl 0 rfl) ?_
  refine pr_geti (v := (σ.1 0 59)) hx hb hts prs_X hown hK hP 0 59 (by decide) rfl (hts _ prw_1099) rfl rfl prd_X_placeOf_51 ?_
  refine lv_if_le (tgt := 61) hx hb prd_X_placeOf_54 (by decide) (fun c11 => ?_) (fun c11 => ?_)
  · have hf := pr_it c11 hf
    refine lv_bipush (v := 64) hx hb prd_X_placeOf_61 (by decide) ?_
    refine lv_aload_n hx hb prd_X_placeOf_63 rfl (lv_at hl 0 rfl) ?_
    refine pr_getr (t := 27) hx hb hts prs_X hown hK hP 0 36 (by decide) rfl (hts _ prw_1054) rfl prd_X_placeOf_64 ?_
    refine lv_iload hx hb prd_X_placeOf_67 (lv_at hl 2 rfl) ?_
    obtain ⟨hi12, hf⟩ := pr_ck_in hf
    refine pr_iald (f := (σ.2.1 27)) hx hb hK hP 27 (by decide) rfl hi12 rfl prd_X_placeOf_69 ?_
    refine lv_imul hx hb prd_X_placeOf_70 ?_
    refine lv_lload_n hx hb prd_X_placeOf_71 rfl (lv_at hl 1 rfl) ?_
    refine lv_l2i (v := x3.toInt32) hx hb prd_X_placeOf_72 rfl ?_
    refine lv_iadd hx hb prd_X_placeOf_73 ?_
    exact pr_reti E hP hS (pr_so hf) prd_X_placeOf_74
  · have hf := pr_ie c11 hf
    refine lv_iconst (v := 0) hx hb prd_X_placeOf_57 (by decide) ?_
    refine lv_goto (tgt := 74) hx hb prd_X_placeOf_58 (by decide) ?_
    exact pr_reti E hP hS (pr_so hf) prd_X_placeOf_74
set_option maxHeartbeats 4000000 in
set_option maxRecDepth 100000 in
theorem prk_X_placeOf_44 {l : Launch} {D : va_G} {ad : Nat → Nat} {dA : Nat → ClassId} {A : Nat → Prop} {v : Nat → Nat} {r : Value} {p : Program} {e : Env} {s : State} {m : MethodId} {args : Array Value} {below : List Frame} {meth : Method} {c : Code} (hd : Nat) (hb0 : 3 ≤ hd) {h : Nat} (hh : hd + 1 ≤ h) (E : pr_cx prn_X prb_X_placeOf 6 (some .int) D pr_cl prx_L ad dA A (prY ad v r A) p s m args meth c) {rc : pr_St → Int32 → Option (Int64 × pr_St)} (Hrc0 : ∀ (σ : pr_St) (x1 : Int32) (res : (Int64 × pr_St)), rc σ x1 = some res → Met l pry_X_reckon (Cond.code pry_X_reckon prb_X_reckon 7 (some .long) :: pr_U) (pr_rm hd) (pr_Pc (prY ad v r A) D pr_cl prx_L ad dA [.ref (ad 0), .int x1] σ) (pr_Ql D pr_cl prx_L ad dA A res) 0 0 A) : ∀ (σ : pr_St) (x3 : Int64) (x5 : Int32) (res : (Int32 × pr_St)), some res = prf_X_placeOf_44 rc σ x3 x5 → ∀ (H : Heap) (locs : List Loc) (ls : Array Slot), va_P D pr_cl (pr_w prx_L ad dA σ) H → va_S A s.heap H locs → lv_has ls 6 [(0, .ref (ad 0)), (3, .long x3), (5, .int x5)] → W p l e (pr_rm h) s m args below meth c H locs 0 0 (MQ below (pr_Qi D pr_cl prx_L ad dA A res) args s 0 0 A) (F0 m 44 ls []) := by
  obtain ⟨hx, hb, hml, hown, hts, hr, hlocks, hK, hD, hX, hXs⟩ := id E
  intro σ x3 x5 res hf H locs ls hP hS hl
  unfold prf_X_placeOf_44 at hf
  refine lv_aload_n hx hb prd_X_placeOf_44 rfl (lv_at hl 0 rfl) ?_
  refine lv_iconst (v := 4) hx hb prd_X_placeOf_45 (by decide) ?_
  obtain ⟨r13, hr13, hf⟩ := pr_bi hf
  refine pr_callVl (rest := []) (res := r13) ⟨hx, hb, hml, hown, hts⟩ 0 (prc_X_trapped hD hX 0 (Nat.le_refl _) σ 4 r13 hr13) (prg_X_trapped hts prw_1104 (by have := hh; omega)) hX hXs hK hP hS (by decide) rfl rfl rfl rfl hl.1 (Nat.le_of_ble_eq_true rfl) prd_X_placeOf_46 (fun H locs hP hS => ?_)
  refine lv_pop2_2 hx hb prd_X_placeOf_49 rfl ?_
  exact prk_X_placeOf_50 hd hb0 hh E Hrc0 r13.2 x3 x5 _ hf _ _ _ hP hS (lv_sub hl [0, 1, 2] rfl)
set_option maxHeartbeats 4000000 in
set_option maxRecDepth 100000 in
theorem prc_X_placeOf {l : Launch} {D : va_G} {ad : Nat → Nat} {dA : Nat → ClassId} {A : Nat → Prop} {v : Nat → Nat} {r : Value} (hD : ∀ σ : pr_St, va_D A (pr_w prx_L ad dA σ)) (hX : pr_Xok A (prY ad v r A)) (hd : Nat) (hb0 : 3 ≤ hd) (h : Nat) (hh : hd + 1 ≤ h) {rc : pr_St → Int32 → Option (Int64 × pr_St)} (Hrc0 : ∀ (σ : pr_St) (x1 : Int32) (res : (Int64 × pr_St)), rc σ x1 = some res → Met l pry_X_reckon (Cond.code pry_X_reckon prb_X_reckon 7 (some .long) :: pr_U) (pr_rm hd) (pr_Pc (prY ad v r A) D pr_cl prx_L ad dA [.ref (ad 0), .int x1] σ) (pr_Ql D pr_cl prx_L ad dA A res) 0 0 A) (σ : pr_St) (x1 : Int32) (x2 : Int32) (res : (Int32 × pr_St)) (hf : prf_X_placeOf rc σ x1 x2 = some res) : Met l pry_X_placeOf (Cond.code pry_X_placeOf prb_X_placeOf 6 (some .int) :: pr_U) (pr_rm h) (pr_Pc (prY ad v r A) D pr_cl prx_L ad dA [.ref (ad 0), .int x1, .int x2] σ) (pr_Qi D pr_cl prx_L ad dA A res) 0 0 A := by
  refine pr_entry (cc := prb_X_placeOf) (maxL := 6) (ret := (some .int)) (by decide) (Nat.le_of_ble_eq_true rfl) hD hX ?_
  intro p e s m args below meth c E H locs hP hS ls hl
  have hl : lv_has ls 6 [(0, .ref (ad 0)), (1, .int x1), (2, .int x2)] := hl
  have hf := hf.symm
  unfold prf_X_placeOf at hf
  obtain ⟨hx, hb, hml, hown, hts, hr, hlocks, hK, hD, hX, hXs⟩ := id E
  refine lv_aload_n hx hb prd_X_placeOf_0 rfl (lv_at hl 0 rfl) ?_
  refine lv_iload_n hx hb prd_X_placeOf_1 rfl (lv_at hl 2 rfl) ?_
  obtain ⟨r14, hr14, hf⟩ := pr_bi hf
  refine pr_callVl (rest := []) (res := r14) ⟨hx, hb, hml, hown, hts⟩ 0 (Hrc0 σ x2 r14 hr14) (prg_X_reckon hts prw_1116 (by have := hh; omega)) hX hXs hK hP hS (by decide) rfl rfl rfl rfl hl.1 (Nat.le_of_ble_eq_true rfl) prd_X_placeOf_2 (fun H locs hP hS => ?_)
  refine lv_lstore_n (lv' := [(3, .long r14.1), (0, .ref (ad 0)), (1, .int x1), (2, .int x2)]) hx hb prd_X_placeOf_5 rfl hl (by decide) rfl (fun ls hl => ?_)
  refine lv_aload_n hx hb prd_X_placeOf_6 rfl (lv_at hl 1 rfl) ?_
  refine lv_aload_n hx hb prd_X_placeOf_7 rfl (lv_at hl 1 rfl) ?_
  refine pr_getr (t := 15) hx hb hts prs_X hown hK hP 0 21 (by decide) rfl (hts _ prw_838) rfl prd_X_placeOf_8 ?_
  refine lv_iload_n hx hb prd_X_placeOf_11 rfl (lv_at hl 2 rfl) ?_
  obtain ⟨hi15, hf⟩ := pr_ck_in hf
  refine pr_iald (f := (r14.2.2.1 15)) hx hb hK hP 15 (by decide) rfl hi15 rfl prd_X_placeOf_12 ?_
  obtain ⟨r16, hr16, hf⟩ := pr_bi hf
  refine pr_callVr (rest := []) (r := r16) ⟨hx, hb, hml, hown, hts⟩ 0 (prc_X_meantAt hD hX 0 (Nat.le_refl _) r14.2 ((r14.2.2.1 15) x1.toNatClampNeg) r16 hr16) (prg_X_meantAt hts prw_1117 (by have := hh; omega)) hX hXs hK hP hS (by decide) rfl rfl rfl rfl hl.1 (Nat.le_of_ble_eq_true rfl) prd_X_placeOf_13 (fun H locs hP hS => ?_)
  refine lv_istore (lv' := [(5, .int r16), (3, .long r14.1), (0, .ref (ad 0)), (1, .int x1), (2, .int x2)]) hx hb prd_X_placeOf_16 hl (by decide) rfl (fun ls hl => ?_)
  refine lv_aload_n hx hb prd_X_placeOf_18 rfl (lv_at hl 2 rfl) ?_
  refine pr_geti (v := (r14.2.1 0 59)) hx hb hts prs_X hown hK hP 0 59 (by decide) rfl (hts _ prw_1099) rfl rfl prd_X_placeOf_19 ?_
  refine lv_if_ne (tgt := 50) hx hb prd_X_placeOf_22 (by decide) (fun c17 => ?_) (fun c17 => ?_)
  · have hf := pr_ie c17 hf
    exact prk_X_placeOf_50 hd hb0 hh E Hrc0 r14.2 r14.1 r16 _ hf _ _ _ hP hS (lv_sub hl [2, 1, 0] rfl)
  · have hf := pr_it c17 hf
    refine lv_lload_n hx hb prd_X_placeOf_25 rfl (lv_at hl 1 rfl) ?_
    refine lv_lconst (v := 0) hx hb prd_X_placeOf_26 (by decide) ?_
    refine W.lcmp hx hb prd_X_placeOf_27 ?_
    refine lv_if_lt (tgt := 44) hx hb prd_X_placeOf_28 (by decide) (fun c18 => ?_) (fun c18 => ?_)
    · have hf := pr_it c18 hf
      exact prk_X_placeOf_44 hd hb0 hh E Hrc0 r14.2 r14.1 r16 _ hf _ _ _ hP hS (lv_sub hl [2, 1, 0] rfl)
    · have hf := pr_ie c18 hf
      refine lv_lload_n hx hb prd_X_placeOf_31 rfl (lv_at hl 1 rfl) ?_
      refine lv_aload_n hx hb prd_X_placeOf_32 rfl (lv_at hl 2 rfl) ?_
      refine pr_getr (t := 28) hx hb hts prs_X hown hK hP 0 37 (by decide) rfl (hts _ prw_1055) rfl prd_X_placeOf_33 ?_
      refine lv_iload hx hb prd_X_placeOf_36 (lv_at hl 0 rfl) ?_
      obtain ⟨hi19, hf⟩ := pr_ck_in hf
      refine pr_iald (f := (r14.2.2.1 28)) hx hb hK hP 28 (by decide) rfl hi19 rfl prd_X_placeOf_38 ?_
      refine lv_i2l (v := ((r14.2.2.1 28) r16.toNatClampNeg).toInt64) hx hb prd_X_placeOf_39 rfl ?_
      refine W.lcmp hx hb prd_X_placeOf_40 ?_
      refine lv_if_lt (tgt := 50) hx hb prd_X_placeOf_41 (by decide) (fun c20 => ?_) (fun c20 => ?_)
      · have hf := pr_it c20 hf
        exact prk_X_placeOf_50 hd hb0 hh E Hrc0 r14.2 r14.1 r16 _ hf _ _ _ hP hS (lv_sub hl [2, 1, 0] rfl)
      · have hf := pr_ie c20 hf
        exact prk_X_placeOf_44 hd hb0 hh E Hrc0 r14.2 r14.1 r16 _ hf _ _ _ hP hS (lv_sub hl [2, 1, 0] rfl)
-- X_reckon
set_option maxHeartbeats 4000000 in
set_option maxRecDepth 100000 in
theorem prk_X_reckon_192 {l : Launch} {D : va_G} {ad : Nat → Nat} {dA : Nat → ClassId} {A : Nat → Prop} {v : Nat → Nat} {r : Value} {p : Program} {e : Env} {s : State} {m : MethodId} {args : Array Value} {below : List Frame} {meth : Method} {c : Code} (hd : Nat) (hb0 : 3 ≤ hd) {h : Nat} (hh : hd + 2 ≤ h) (E : pr_cx prn_X prb_X_reckon 7 (some .long) D pr_cl prx_L ad dA A (prY ad v r A) p s m args meth c) {rc : pr_St → Int32 → Option (Int64 × pr_St)} (Hrc0 : ∀ (σ : pr_St) (x1 : Int32) (res : (Int64 × pr_St)), rc σ x1 = some res → Met l pry_X_reckon (Cond.code pry_X_reckon prb_X_reckon 7 (some .long) :: pr_U) (pr_rm hd) (pr_Pc (prY ad v r A) D pr_cl prx_L ad dA [.ref (ad 0), .int x1] σ) (pr_Ql D pr_cl prx_L ad dA A res) 0 0 A) : ∀ n : Nat, ∀ (σ : pr_St) (x1 : Int32) (x2 : Int64) (x4 : Int32) (res : (Int64 × pr_St)), some res = prf_X_reckon_192 rc n σ x1 x2 x4 → ∀ (H : Heap) (locs : List Loc) (ls : Array Slot), va_P D pr_cl (pr_w prx_L ad dA σ) H → va_S A s.heap H locs → lv_has ls 7 [(0, .ref (ad 0)), (1, .int x1), (2, .long x2), (4, .int x4)] → W p l e (pr_rm h) s m args below meth c H locs 0 0 (MQ below (pr_Ql D pr_cl prx_L ad dA A res) args s 0 0 A) (F0 m 192 ls []) := by
  obtain ⟨hx, hb, hml, hown, hts, hr, hlocks, hK, hD, hX, hXs⟩ := id E
  intro n
  induction n with
  | zero =>
    intro σ x1 x2 x4 res hf
    rw [prf_X_reckon_192] at hf
    cases hf
  | succ n ih =>
    intro σ x1 x2 x4 res hf H locs ls hP hS hl
    rw [prf_X_reckon_192] at hf
    refine lv_iload hx hb prd_X_reckon_192 (lv_at hl 3 rfl) ?_
    refine lv_aload_n hx hb prd_X_reckon_194 rfl (lv_at hl 0 rfl) ?_
    refine lv_iload_n hx hb prd_X_reckon_195 rfl (lv_at hl 1 rfl) ?_
    obtain ⟨r39, hr39, hf⟩ := pr_bi hf
    refine pr_callVr (rest := [.int x4]) (r := r39) ⟨hx, hb, hml, hown, hts⟩ 0 (prc_X_behind hD hX 0 (Nat.le_refl _) σ x1 r39 hr39) (prg_X_behind hts prw_1003 (by have := hh; omega)) hX hXs hK hP hS (by decide) rfl rfl rfl rfl hl.1 (Nat.le_of_ble_eq_true rfl) prd_X_reckon_196 (fun H locs hP hS => ?_)
    refine lv_icmp_ge (tgt := 252) hx hb prd_X_reckon_199 (by decide) (fun c40 => ?_) (fun c40 => ?_)
    · have hf := pr_it c40 hf
      refine lv_lload_n hx hb prd_X_reckon_252 rfl (lv_at hl 2 rfl) ?_
      exact pr_retl E hP hS (pr_so hf) prd_X_reckon_253
    · have hf := pr_ie c40 hf
      refine lv_aload_n hx hb prd_X_reckon_202 rfl (lv_at hl 0 rfl) ?_
      refine pr_geti (v := (σ.1 0 59)) hx hb hts prs_X hown hK hP 0 59 (by decide) rfl (hts _ prw_1099) rfl rfl prd_X_reckon_203 ?_
      refine lv_if_ne (tgt := 252) hx hb prd_X_reckon_206 (by decide) (fun c41 => ?_) (fun c41 => ?_)
      · have hf := pr_ie c41 hf
        refine lv_lload_n hx hb prd_X_reckon_252 rfl (lv_at hl 2 rfl) ?_
        exact pr_retl E hP hS (pr_so hf) prd_X_reckon_253
      · have hf := pr_it c41 hf
        refine lv_aload_n hx hb prd_X_reckon_209 rfl (lv_at hl 0 rfl) ?_
        refine lv_iload hx hb prd_X_reckon_210 (lv_at hl 3 rfl) ?_
        refine lv_iconst (v := 1) hx hb prd_X_reckon_212 (by decide) ?_
        refine lv_iadd hx hb prd_X_reckon_213 ?_
        obtain ⟨r42, hr42, hf⟩ := pr_bi hf
        refine pr_callVl (rest := []) (res := r42) ⟨hx, hb, hml, hown, hts⟩ 0 (Hrc0 σ (x4 + 1) r42 hr42) (prg_X_reckon hts prw_1116 (by have := hh; omega)) hX hXs hK hP hS (by decide) rfl rfl rfl rfl hl.1 (Nat.le_of_ble_eq_true rfl) prd_X_reckon_214 (fun H locs hP hS => ?_)
        refine lv_lstore (lv' := [(5, .long r42.1), (0, .ref (ad 0)), (1, .int x1), (2, .long x2), (4, .int x4)]) hx hb prd_X_reckon_217 hl (by decide) rfl (fun ls hl => ?_)
        refine lv_aload_n hx hb prd_X_reckon_219 rfl (lv_at hl 1 rfl) ?_
        refine pr_geti (v := (r42.2.1 0 59)) hx hb hts prs_X hown hK hP 0 59 (by decide) rfl (hts _ prw_1099) rfl rfl prd_X_reckon_220 ?_
        refine lv_if_ne (tgt := 241) hx hb prd_X_reckon_223 (by decide) (fun c43 => ?_) (fun c43 => ?_)
        · have hf := pr_ie c43 hf
          refine lv_aload_n hx hb prd_X_reckon_241 rfl (lv_at hl 1 rfl) ?_
          refine lv_iload hx hb prd_X_reckon_242 (lv_at hl 4 rfl) ?_
          obtain ⟨r44, hr44, hf⟩ := pr_bi hf
          refine pr_callVr (rest := []) (r := r44) ⟨hx, hb, hml, hown, hts⟩ 0 (prc_X_behind hD hX 0 (Nat.le_refl _) r42.2 x4 r44 hr44) (prg_X_behind hts prw_1003 (by have := hh; omega)) hX hXs hK hP hS (by decide) rfl rfl rfl rfl hl.1 (Nat.le_of_ble_eq_true rfl) prd_X_reckon_244 (fun H locs hP hS => ?_)
          refine lv_istore (lv' := [(4, .int r44), (5, .long r42.1), (0, .ref (ad 0)), (1, .int x1), (2, .long x2)]) hx hb prd_X_reckon_247 hl (by decide) rfl (fun ls hl => ?_)
          refine lv_goto (tgt := 192) hx hb prd_X_reckon_249 (by decide) ?_
          exact ih r42.2 x1 x2 r44 _ hf _ _ _ hP hS (lv_sub hl [2, 3, 4, 0] rfl)
        · have hf := pr_it c43 hf
          refine lv_aload_n hx hb prd_X_reckon_226 rfl (lv_at hl 1 rfl) ?_
          refine lv_aload_n hx hb prd_X_reckon_227 rfl (lv_at hl 1 rfl) ?_
          refine pr_getr (t := 13) hx hb hts prs_X hown hK hP 0 19 (by decide) rfl (hts _ prw_835) rfl prd_X_reckon_228 ?_
          refine lv_iload hx hb prd_X_reckon_231 (lv_at hl 4 rfl) ?_
          obtain ⟨hi45, hf⟩ := pr_ck_in hf
          refine pr_iald (f := (r42.2.2.1 13)) hx hb hK hP 13 (by decide) rfl hi45 rfl prd_X_reckon_233 ?_
          refine lv_lload_n hx hb prd_X_reckon_234 rfl (lv_at hl 3 rfl) ?_
          refine lv_lload hx hb prd_X_reckon_235 (lv_at hl 0 rfl) ?_
          obtain ⟨r46, hr46, hf⟩ := pr_bi hf
          refine pr_callVl (rest := []) (res := r46) ⟨hx, hb, hml, hown, hts⟩ 0 (prc_X_operated hD hX 2 (Nat.le_refl _) r42.2 ((r42.2.2.1 13) x4.toNatClampNeg) x2 r42.1 r46 hr46) (prg_X_operated hts prw_1125 (by have := hh; omega)) hX hXs hK hP hS (by decide) rfl rfl rfl rfl hl.1 (Nat.le_of_ble_eq_true rfl) prd_X_reckon_237 (fun H locs hP hS => ?_)
          refine lv_lstore_n (lv' := [(2, .long r46.1), (5, .long r42.1), (0, .ref (ad 0)), (1, .int x1), (4, .int x4)]) hx hb prd_X_reckon_240 rfl hl (by decide) rfl (fun ls hl => ?_)
          refine lv_aload_n hx hb prd_X_reckon_241 rfl (lv_at hl 2 rfl) ?_
          refine lv_iload hx hb prd_X_reckon_242 (lv_at hl 4 rfl) ?_
          obtain ⟨r47, hr47, hf⟩ := pr_bi hf
          refine pr_callVr (rest := []) (r := r47) ⟨hx, hb, hml, hown, hts⟩ 0 (prc_X_behind hD hX 0 (Nat.le_refl _) r46.2 x4 r47 hr47) (prg_X_behind hts prw_1003 (by have := hh; omega)) hX hXs hK hP hS (by decide) rfl rfl rfl rfl hl.1 (Nat.le_of_ble_eq_true rfl) prd_X_reckon_244 (fun H locs hP hS => ?_)
          refine lv_istore (lv' := [(4, .int r47), (2, .long r46.1), (5, .long r42.1), (0, .ref (ad 0)), (1, .int x1)]) hx hb prd_X_reckon_247 hl (by decide) rfl (fun ls hl => ?_)
          refine lv_goto (tgt := 192) hx hb prd_X_reckon_249 (by decide) ?_
          exact ih r46.2 x1 r46.1 r47 _ hf _ _ _ hP hS (lv_sub hl [3, 4, 1, 0] rfl)
set_option maxHeartbeats 4000000 in
set_option maxRecDepth 100000 in
theorem prc_X_reckon {l : Launch} {D : va_G} {ad : Nat → Nat} {dA : Nat → ClassId} {A : Nat → Prop} {v : Nat → Nat} {r : Value} (hD : ∀ σ : pr_St, va_D A (pr_w prx_L ad dA σ)) (hX : pr_Xok A (prY ad v r A)) (hd : Nat) (hb0 : 3 ≤ hd) (h : Nat) (hh : hd + 2 ≤ h) {rc : pr_St → Int32 → Option (Int64 × pr_St)} (Hrc0 : ∀ (σ : pr_St) (x1 : Int32) (res : (Int64 × pr_St)), rc σ x1 = some res → Met l pry_X_reckon (Cond.code pry_X_reckon prb_X_reckon 7 (some .long) :: pr_U) (pr_rm hd) (pr_Pc (prY ad v r A) D pr_cl prx_L ad dA [.ref (ad 0), .int x1] σ) (pr_Ql D pr_cl prx_L ad dA A res) 0 0 A) (σ : pr_St) (x1 : Int32) (res : (Int64 × pr_St)) (hf : prf_X_reckon rc σ x1 = some res) : Met l pry_X_reckon (Cond.code pry_X_reckon prb_X_reckon 7 (some .long) :: pr_U) (pr_rm h) (pr_Pc (prY ad v r A) D pr_cl prx_L ad dA [.ref (ad 0), .int x1] σ) (pr_Ql D pr_cl prx_L ad dA A res) 0 0 A := by
  refine pr_entry (cc := prb_X_reckon) (maxL := 7) (ret := (some .long)) (by decide) (Nat.le_of_ble_eq_true rfl) hD hX ?_
  intro p e s m args below meth c E H locs hP hS ls hl
  have hl : lv_has ls 7 [(0, .ref (ad 0)), (1, .int x1)] := hl
  have hf := hf.symm
  unfold prf_X_reckon at hf
  obtain ⟨hx, hb, hml, hown, hts, hr, hlocks, hK, hD, hX, hXs⟩ := id E
  refine lv_aload_n hx hb prd_X_reckon_0 rfl (lv_at hl 0 rfl) ?_
  refine pr_geti (v := (σ.1 0 59)) hx hb hts prs_X hown hK hP 0 59 (by decide) rfl (hts _ prw_1099) rfl rfl prd_X_reckon_1 ?_
  refine lv_if_le (tgt := 9) hx hb prd_X_reckon_4 (by decide) (fun c48 => ?_) (fun c48 => ?_)
  · have hf := pr_it c48 hf
    refine lv_aload_n hx hb prd_X_reckon_9 rfl (lv_at hl 0 rfl) ?_
    refine pr_getr (t := 13) hx hb hts prs_X hown hK hP 0 19 (by decide) rfl (hts _ prw_835) rfl prd_X_reckon_10 ?_
    refine lv_iload_n hx hb prd_X_reckon_13 rfl (lv_at hl 1 rfl) ?_
    obtain ⟨hi49, hf⟩ := pr_ck_in hf
    refine pr_iald (f := (σ.2.1 13)) hx hb hK hP 13 (by decide) rfl hi49 rfl prd_X_reckon_14 ?_
    by_cases c50 : ((σ.2.1 13) x1.toNatClampNeg) = 12
    · have hf := pr_it c50 hf
      refine lv_tableIn (tgt := 48) (off := 33) hx hb prd_X_reckon_15 (by rw [c50]; decide) (by rw [c50]; decide) (by rw [c50] <;> rfl) (by decide) ?_
      refine lv_aload_n hx hb prd_X_reckon_48 rfl (lv_at hl 0 rfl) ?_
      refine pr_getr (t := 15) hx hb hts prs_X hown hK hP 0 21 (by decide) rfl (hts _ prw_838) rfl prd_X_reckon_49 ?_
      refine lv_iload_n hx hb prd_X_reckon_52 rfl (lv_at hl 1 rfl) ?_
      obtain ⟨hi51, hf⟩ := pr_ck_in hf
      refine pr_iald (f := (σ.2.1 15)) hx hb hK hP 15 (by decide) rfl hi51 rfl prd_X_reckon_53 ?_
      refine lv_i2l (v := ((σ.2.1 15) x1.toNatClampNeg).toInt64) hx hb prd_X_reckon_54 rfl ?_
      exact pr_retl E hP hS (pr_so hf) prd_X_reckon_55
    · have hf := pr_ie c50 hf
      by_cases c52 : ((σ.2.1 13) x1.toNatClampNeg) = 13
      · have hf := pr_it c52 hf
        refine lv_tableIn (tgt := 56) (off := 41) hx hb prd_X_reckon_15 (by rw [c52]; decide) (by rw [c52]; decide) (by rw [c52] <;> rfl) (by decide) ?_
        refine lv_aload_n hx hb prd_X_reckon_56 rfl (lv_at hl 0 rfl) ?_
        refine pr_getr (t := 34) hx hb hts prs_X hown hK hP 0 52 (by decide) rfl (hts _ prw_1121) rfl prd_X_reckon_57 ?_
        refine lv_aload_n hx hb prd_X_reckon_60 rfl (lv_at hl 0 rfl) ?_
        refine pr_getr (t := 27) hx hb hts prs_X hown hK hP 0 36 (by decide) rfl (hts _ prw_1054) rfl prd_X_reckon_61 ?_
        refine lv_aload_n hx hb prd_X_reckon_64 rfl (lv_at hl 0 rfl) ?_
        refine lv_aload_n hx hb prd_X_reckon_65 rfl (lv_at hl 0 rfl) ?_
        refine pr_getr (t := 15) hx hb hts prs_X hown hK hP 0 21 (by decide) rfl (hts _ prw_838) rfl prd_X_reckon_66 ?_
        refine lv_iload_n hx hb prd_X_reckon_69 rfl (lv_at hl 1 rfl) ?_
        obtain ⟨hi53, hf⟩ := pr_ck_in hf
        refine pr_iald (f := (σ.2.1 15)) hx hb hK hP 15 (by decide) rfl hi53 rfl prd_X_reckon_70 ?_
        obtain ⟨r54, hr54, hf⟩ := pr_bi hf
        refine pr_callVr (rest := [.ref (ad 27), .ref (ad 34)]) (r := r54) ⟨hx, hb, hml, hown, hts⟩ 0 (prc_X_meantAt hD hX 0 (Nat.le_refl _) σ ((σ.2.1 15) x1.toNatClampNeg) r54 hr54) (prg_X_meantAt hts prw_1117 (by have := hh; omega)) hX hXs hK hP hS (by decide) rfl rfl rfl rfl hl.1 (Nat.le_of_ble_eq_true rfl) prd_X_reckon_71 (fun H locs hP hS => ?_)
        obtain ⟨hi55, hf⟩ := pr_ck_in hf
        refine pr_iald (f := (σ.2.1 27)) hx hb hK hP 27 (by decide) rfl hi55 rfl prd_X_reckon_74 ?_
        obtain ⟨hi56, hf⟩ := pr_ck_in hf
        refine pr_iald (f := (σ.2.1 34)) hx hb hK hP 34 (by decide) rfl hi56 rfl prd_X_reckon_75 ?_
        refine lv_i2l (v := ((σ.2.1 34) ((σ.2.1 27) r54.toNatClampNeg).toNatClampNeg).toInt64) hx hb prd_X_reckon_76 rfl ?_
        exact pr_retl E hP hS (pr_so hf) prd_X_reckon_77
      · have hf := pr_ie c52 hf
        by_cases c57 : ((σ.2.1 13) x1.toNatClampNeg) = 14
        · have hf := pr_it c57 hf
          refine lv_tableIn (tgt := 78) (off := 63) hx hb prd_X_reckon_15 (by rw [c57]; decide) (by rw [c57]; decide) (by rw [c57] <;> rfl) (by decide) ?_
          refine lv_aload_n hx hb prd_X_reckon_78 rfl (lv_at hl 0 rfl) ?_
          refine lv_iload_n hx hb prd_X_reckon_79 rfl (lv_at hl 1 rfl) ?_
          refine lv_iconst (v := 1) hx hb prd_X_reckon_80 (by decide) ?_
          refine lv_iadd hx hb prd_X_reckon_81 ?_
          refine lv_aload_n hx hb prd_X_reckon_82 rfl (lv_at hl 0 rfl) ?_
          refine lv_iload_n hx hb prd_X_reckon_83 rfl (lv_at hl 1 rfl) ?_
          obtain ⟨r58, hr58, hf⟩ := pr_bi hf
          refine pr_callVr (rest := [.int (x1 + 1), .ref (ad 0)]) (r := r58) ⟨hx, hb, hml, hown, hts⟩ 0 (prc_X_second hD hX 1 (Nat.le_refl _) σ x1 r58 hr58) (prg_X_second hts prw_1051 (by have := hh; omega)) hX hXs hK hP hS (by decide) rfl rfl rfl rfl hl.1 (Nat.le_of_ble_eq_true rfl) prd_X_reckon_84 (fun H locs hP hS => ?_)
          obtain ⟨r59, hr59, hf⟩ := pr_bi hf
          refine pr_callVi (rest := []) (res := r59) ⟨hx, hb, hml, hown, hts⟩ 0 (prc_X_placeOf hD hX hd hb0 (hd + 1) (Nat.le_refl _) Hrc0 σ (x1 + 1) r58 r59 hr59) (prg_X_placeOf hts prw_1122 (by have := hh; omega)) hX hXs hK hP hS (by decide) rfl rfl rfl rfl hl.1 (Nat.le_of_ble_eq_true rfl) prd_X_reckon_87 (fun H locs hP hS => ?_)
          refine lv_istore_n (lv' := [(2, .int r59.1), (0, .ref (ad 0)), (1, .int x1)]) hx hb prd_X_reckon_90 rfl hl (by decide) rfl (fun ls hl => ?_)
          refine lv_aload_n hx hb prd_X_reckon_91 rfl (lv_at hl 1 rfl) ?_
          refine pr_geti (v := (r59.2.1 0 59)) hx hb hts prs_X hown hK hP 0 59 (by decide) rfl (hts _ prw_1099) rfl rfl prd_X_reckon_92 ?_
          refine lv_if_le (tgt := 102) hx hb prd_X_reckon_95 (by decide) (fun c60 => ?_) (fun c60 => ?_)
          · have hf := pr_it c60 hf
            refine lv_aload_n hx hb prd_X_reckon_102 rfl (lv_at hl 1 rfl) ?_
            refine pr_getr (t := 35) hx hb hts prs_X hown hK hP 0 53 (by decide) rfl (hts _ prw_1123) rfl prd_X_reckon_103 ?_
            refine lv_iload_n hx hb prd_X_reckon_106 rfl (lv_at hl 0 rfl) ?_
            obtain ⟨hi61, hf⟩ := pr_ck_in hf
            refine pr_iald (f := (r59.2.2.1 35)) hx hb hK hP 35 (by decide) rfl hi61 rfl prd_X_reckon_107 ?_
            refine lv_i2l (v := ((r59.2.2.1 35) r59.1.toNatClampNeg).toInt64) hx hb prd_X_reckon_108 rfl ?_
            exact pr_retl E hP hS (pr_so hf) prd_X_reckon_109
          · have hf := pr_ie c60 hf
            refine lv_lconst (v := 0) hx hb prd_X_reckon_98 (by decide) ?_
            refine lv_goto (tgt := 109) hx hb prd_X_reckon_99 (by decide) ?_
            exact pr_retl E hP hS (pr_so hf) prd_X_reckon_109
        · have hf := pr_ie c57 hf
          by_cases c62 : ((σ.2.1 13) x1.toNatClampNeg) = 15
          · have hf := pr_it c62 hf
            refine lv_tableIn (tgt := 110) (off := 95) hx hb prd_X_reckon_15 (by rw [c62]; decide) (by rw [c62]; decide) (by rw [c62] <;> rfl) (by decide) ?_
            refine lv_aload_n hx hb prd_X_reckon_110 rfl (lv_at hl 0 rfl) ?_
            refine lv_aload_n hx hb prd_X_reckon_111 rfl (lv_at hl 0 rfl) ?_
            refine lv_iload_n hx hb prd_X_reckon_112 rfl (lv_at hl 1 rfl) ?_
            refine lv_iconst (v := 1) hx hb prd_X_reckon_113 (by decide) ?_
            refine lv_iadd hx hb prd_X_reckon_114 ?_
            obtain ⟨r63, hr63, hf⟩ := pr_bi hf
            refine pr_callVl (rest := [.ref (ad 0)]) (res := r63) ⟨hx, hb, hml, hown, hts⟩ 0 (Hrc0 σ (x1 + 1) r63 hr63) (prg_X_reckon hts prw_1116 (by have := hh; omega)) hX hXs hK hP hS (by decide) rfl rfl rfl rfl hl.1 (Nat.le_of_ble_eq_true rfl) prd_X_reckon_115 (fun H locs hP hS => ?_)
            refine lv_lneg hx hb prd_X_reckon_118 ?_
            obtain ⟨r64, hr64, hf⟩ := pr_bi hf
            refine pr_callVl (rest := []) (res := r64) ⟨hx, hb, hml, hown, hts⟩ 0 (prc_X_whole hD hX 1 (Nat.le_refl _) r63.2 (-r63.1) r64 hr64) (prg_X_whole hts prw_1112 (by have := hh; omega)) hX hXs hK hP hS (by decide) rfl rfl rfl rfl hl.1 (Nat.le_of_ble_eq_true rfl) prd_X_reckon_119 (fun H locs hP hS => ?_)
            exact pr_retl E hP hS (pr_so hf) prd_X_reckon_122
          · have hf := pr_ie c62 hf
            by_cases c65 : ((σ.2.1 13) x1.toNatClampNeg) = 16
            · have hf := pr_it c65 hf
              refine lv_tableIn (tgt := 123) (off := 108) hx hb prd_X_reckon_15 (by rw [c65]; decide) (by rw [c65]; decide) (by rw [c65] <;> rfl) (by decide) ?_
              refine lv_aload_n hx hb prd_X_reckon_123 rfl (lv_at hl 0 rfl) ?_
              obtain ⟨r66, hr66, hf⟩ := pr_bi hf
              refine pr_callVi (rest := []) (res := r66) ⟨hx, hb, hml, hown, hts⟩ 0 (prc_X_next hD hX 0 (Nat.le_refl _) σ  r66 hr66) (prg_X_next hts prw_1124 (by have := hh; omega)) hX hXs hK hP hS (by decide) rfl rfl rfl rfl hl.1 (Nat.le_of_ble_eq_true rfl) prd_X_reckon_124 (fun H locs hP hS => ?_)
              refine lv_istore_n (lv' := [(3, .int r66.1), (0, .ref (ad 0)), (1, .int x1)]) hx hb prd_X_reckon_127 rfl hl (by decide) rfl (fun ls hl => ?_)
              refine lv_aload_n hx hb prd_X_reckon_128 rfl (lv_at hl 1 rfl) ?_
              refine pr_getr (t := 17) hx hb hts prs_X hown hK hP 0 23 (by decide) rfl (hts _ prw_840) rfl prd_X_reckon_129 ?_
              refine lv_iload_n hx hb prd_X_reckon_132 rfl (lv_at hl 2 rfl) ?_
              obtain ⟨hi67, hf⟩ := pr_ck_in hf
              refine pr_iald (f := (r66.2.2.1 17)) hx hb hK hP 17 (by decide) rfl hi67 rfl prd_X_reckon_133 ?_
              refine lv_iconst (v := 1) hx hb prd_X_reckon_134 (by decide) ?_
              refine lv_icmp_eq (tgt := 162) hx hb prd_X_reckon_135 (by decide) (fun c68 => ?_) (fun c68 => ?_)
              · have hf := pr_it c68 hf
                refine lv_iload_n hx hb prd_X_reckon_162 rfl (lv_at hl 0 rfl) ?_
                refine lv_i2l (v := r66.1.toInt64) hx hb prd_X_reckon_163 rfl ?_
                refine lv_goto (tgt := 176) hx hb prd_X_reckon_164 (by decide) ?_
                exact pr_retl E hP hS (pr_so hf) prd_X_reckon_176
              · have hf := pr_ie c68 hf
                refine lv_iload_n hx hb prd_X_reckon_138 rfl (lv_at hl 0 rfl) ?_
                refine lv_aload_n hx hb prd_X_reckon_139 rfl (lv_at hl 1 rfl) ?_
                refine pr_getr (t := 15) hx hb hts prs_X hown hK hP 0 21 (by decide) rfl (hts _ prw_838) rfl prd_X_reckon_140 ?_
                refine lv_iload_n hx hb prd_X_reckon_143 rfl (lv_at hl 2 rfl) ?_
                refine lv_iconst (v := 1) hx hb prd_X_reckon_144 (by decide) ?_
                refine lv_iadd hx hb prd_X_reckon_145 ?_
                obtain ⟨hi69, hf⟩ := pr_ck_in hf
                refine pr_iald (f := (r66.2.2.1 15)) hx hb hK hP 15 (by decide) rfl hi69 rfl prd_X_reckon_146 ?_
                refine lv_icmp_lt (tgt := 167) hx hb prd_X_reckon_147 (by decide) (fun c70 => ?_) (fun c70 => ?_)
                · have hf := pr_it c70 hf
                  refine lv_aload_n hx hb prd_X_reckon_167 rfl (lv_at hl 1 rfl) ?_
                  refine pr_getr (t := 15) hx hb hts prs_X hown hK hP 0 21 (by decide) rfl (hts _ prw_838) rfl prd_X_reckon_168 ?_
                  refine lv_iload_n hx hb prd_X_reckon_171 rfl (lv_at hl 2 rfl) ?_
                  refine lv_iconst (v := 1) hx hb prd_X_reckon_172 (by decide) ?_
                  refine lv_iadd hx hb prd_X_reckon_173 ?_
                  obtain ⟨hi71, hf⟩ := pr_ck_in hf
                  refine pr_iald (f := (r66.2.2.1 15)) hx hb hK hP 15 (by decide) rfl hi71 rfl prd_X_reckon_174 ?_
                  refine lv_i2l (v := ((r66.2.2.1 15) (x1 + 1).toNatClampNeg).toInt64) hx hb prd_X_reckon_175 rfl ?_
                  exact pr_retl E hP hS (pr_so hf) prd_X_reckon_176
                · have hf := pr_ie c70 hf
                  refine lv_iload_n hx hb prd_X_reckon_150 rfl (lv_at hl 0 rfl) ?_
                  refine lv_aload_n hx hb prd_X_reckon_151 rfl (lv_at hl 1 rfl) ?_
                  refine pr_getr (t := 15) hx hb hts prs_X hown hK hP 0 21 (by decide) rfl (hts _ prw_838) rfl prd_X_reckon_152 ?_
                  refine lv_iload_n hx hb prd_X_reckon_155 rfl (lv_at hl 2 rfl) ?_
                  refine lv_iconst (v := 2) hx hb prd_X_reckon_156 (by decide) ?_
                  refine lv_iadd hx hb prd_X_reckon_157 ?_
                  obtain ⟨hi72, hf⟩ := pr_ck_in hf
                  refine pr_iald (f := (r66.2.2.1 15)) hx hb hK hP 15 (by decide) rfl hi72 rfl prd_X_reckon_158 ?_
                  refine lv_icmp_gt (tgt := 167) hx hb prd_X_reckon_159 (by decide) (fun c73 => ?_) (fun c73 => ?_)
                  · have hf := pr_it c73 hf
                    refine lv_aload_n hx hb prd_X_reckon_167 rfl (lv_at hl 1 rfl) ?_
                    refine pr_getr (t := 15) hx hb hts prs_X hown hK hP 0 21 (by decide) rfl (hts _ prw_838) rfl prd_X_reckon_168 ?_
                    refine lv_iload_n hx hb prd_X_reckon_171 rfl (lv_at hl 2 rfl) ?_
                    refine lv_iconst (v := 1) hx hb prd_X_reckon_172 (by decide) ?_
                    refine lv_iadd hx hb prd_X_reckon_173 ?_
                    obtain ⟨hi74, hf⟩ := pr_ck_in hf
                    refine pr_iald (f := (r66.2.2.1 15)) hx hb hK hP 15 (by decide) rfl hi74 rfl prd_X_reckon_174 ?_
                    refine lv_i2l (v := ((r66.2.2.1 15) (x1 + 1).toNatClampNeg).toInt64) hx hb prd_X_reckon_175 rfl ?_
                    exact pr_retl E hP hS (pr_so hf) prd_X_reckon_176
                  · have hf := pr_ie c73 hf
                    refine lv_iload_n hx hb prd_X_reckon_162 rfl (lv_at hl 0 rfl) ?_
                    refine lv_i2l (v := r66.1.toInt64) hx hb prd_X_reckon_163 rfl ?_
                    refine lv_goto (tgt := 176) hx hb prd_X_reckon_164 (by decide) ?_
                    exact pr_retl E hP hS (pr_so hf) prd_X_reckon_176
            · have hf := pr_ie c65 hf
              refine lv_tableOut (tgt := 177) hx hb prd_X_reckon_15 (by have w0 := lv_neT (a := 12) c50 (by decide); have w1 := lv_neT (a := 13) c52 (by decide); have w2 := lv_neT (a := 14) c57 (by decide); have w3 := lv_neT (a := 15) c62 (by decide); have w4 := lv_neT (a := 16) c65 (by decide); omega) (by decide) ?_
              refine lv_aload_n hx hb prd_X_reckon_177 rfl (lv_at hl 0 rfl) ?_
              refine lv_iload_n hx hb prd_X_reckon_178 rfl (lv_at hl 1 rfl) ?_
              refine lv_iconst (v := 1) hx hb prd_X_reckon_179 (by decide) ?_
              refine lv_iadd hx hb prd_X_reckon_180 ?_
              obtain ⟨r75, hr75, hf⟩ := pr_bi hf
              refine pr_callVl (rest := []) (res := r75) ⟨hx, hb, hml, hown, hts⟩ 0 (Hrc0 σ (x1 + 1) r75 hr75) (prg_X_reckon hts prw_1116 (by have := hh; omega)) hX hXs hK hP hS (by decide) rfl rfl rfl rfl hl.1 (Nat.le_of_ble_eq_true rfl) prd_X_reckon_181 (fun H locs hP hS => ?_)
              refine lv_lstore_n (lv' := [(2, .long r75.1), (0, .ref (ad 0)), (1, .int x1)]) hx hb prd_X_reckon_184 rfl hl (by decide) rfl (fun ls hl => ?_)
              refine lv_aload_n hx hb prd_X_reckon_185 rfl (lv_at hl 1 rfl) ?_
              refine lv_iload_n hx hb prd_X_reckon_186 rfl (lv_at hl 2 rfl) ?_
              obtain ⟨r76, hr76, hf⟩ := pr_bi hf
              refine pr_callVr (rest := []) (r := r76) ⟨hx, hb, hml, hown, hts⟩ 0 (prc_X_second hD hX 1 (Nat.le_refl _) r75.2 x1 r76 hr76) (prg_X_second hts prw_1051 (by have := hh; omega)) hX hXs hK hP hS (by decide) rfl rfl rfl rfl hl.1 (Nat.le_of_ble_eq_true rfl) prd_X_reckon_187 (fun H locs hP hS => ?_)
              refine lv_istore (lv' := [(4, .int r76), (2, .long r75.1), (0, .ref (ad 0)), (1, .int x1)]) hx hb prd_X_reckon_190 hl (by decide) rfl (fun ls hl => ?_)
              exact prk_X_reckon_192 hd hb0 hh E Hrc0 pr_FU r75.2 x1 r75.1 r76 _ hf _ _ _ hP hS (lv_sub hl [2, 3, 1, 0] rfl)
  · have hf := pr_ie c48 hf
    refine lv_lconst (v := 0) hx hb prd_X_reckon_7 (by decide) ?_
    exact pr_retl E hP hS (pr_so hf) prd_X_reckon_8
-- prF_X_reckon
set_option maxHeartbeats 4000000 in
theorem prF_X_reckon_ok {l : Launch} {D : va_G} {ad : Nat → Nat} {dA : Nat → ClassId} {A : Nat → Prop} {v : Nat → Nat} {r : Value} (hD : ∀ σ : pr_St, va_D A (pr_w prx_L ad dA σ)) (hX : pr_Xok A (prY ad v r A)) : ∀ n : Nat, (∀ (σ : pr_St) (x1 : Int32) (res : (Int64 × pr_St)), prF_X_reckon n σ x1 = some res → Met l pry_X_reckon (Cond.code pry_X_reckon prb_X_reckon 7 (some .long) :: pr_U) (pr_rm (3 + 2 * n)) (pr_Pc (prY ad v r A) D pr_cl prx_L ad dA [.ref (ad 0), .int x1] σ) (pr_Ql D pr_cl prx_L ad dA A res) 0 0 A) := by
  intro n
  induction n with
  | zero => exact (fun σ x1 res hf => by cases hf)
  | succ n ih =>
    have i0 := ih
    exact fun σ x1 res hf => prc_X_reckon hD hX (3 + 2 * n) (by omega) (3 + 2 * (n + 1)) (by omega) i0 σ x1 res hf
theorem prct_X_reckon {l : Launch} {D : va_G} {ad : Nat → Nat} {dA : Nat → ClassId} {A : Nat → Prop} {v : Nat → Nat} {r : Value} (hD : ∀ σ : pr_St, va_D A (pr_w prx_L ad dA σ)) (hX : pr_Xok A (prY ad v r A)) (σ : pr_St) (x1 : Int32) (res : (Int64 × pr_St)) (hf : prf_X_reckon (prF_X_reckon 200) σ x1 = some res) : Met l pry_X_reckon (Cond.code pry_X_reckon prb_X_reckon 7 (some .long) :: pr_U) (pr_rm 405) (pr_Pc (prY ad v r A) D pr_cl prx_L ad dA [.ref (ad 0), .int x1] σ) (pr_Ql D pr_cl prx_L ad dA A res) 0 0 A :=
  prc_X_reckon hD hX (3 + 2 * 200) (by decide) 405 (by decide) (prF_X_reckon_ok hD hX 200) σ x1 res hf
theorem prct_X_placeOf {l : Launch} {D : va_G} {ad : Nat → Nat} {dA : Nat → ClassId} {A : Nat → Prop} {v : Nat → Nat} {r : Value} (hD : ∀ σ : pr_St, va_D A (pr_w prx_L ad dA σ)) (hX : pr_Xok A (prY ad v r A)) (σ : pr_St) (x1 x2 : Int32) (res : (Int32 × pr_St)) (hf : prf_X_placeOf (prF_X_reckon 200) σ x1 x2 = some res) : Met l pry_X_placeOf (Cond.code pry_X_placeOf prb_X_placeOf 6 (some .int) :: pr_U) (pr_rm 404) (pr_Pc (prY ad v r A) D pr_cl prx_L ad dA [.ref (ad 0), .int x1, .int x2] σ) (pr_Qi D pr_cl prx_L ad dA A res) 0 0 A :=
  prc_X_placeOf hD hX (3 + 2 * 200) (by decide) 404 (by decide) (prF_X_reckon_ok hD hX 200) σ x1 x2 res hf
-- X_holds
set_option maxHeartbeats 4000000 in
set_option maxRecDepth 100000 in
theorem prk_X_holds_79 {l : Launch} {D : va_G} {ad : Nat → Nat} {dA : Nat → ClassId} {A : Nat → Prop} {v : Nat → Nat} {r : Value} {p : Program} {e : Env} {s : State} {m : MethodId} {args : Array Value} {below : List Frame} {meth : Method} {c : Code} (hd : Nat) (hb0 : 406 ≤ hd) {h : Nat} (hh : hd + 1 ≤ h) (E : pr_cx prn_X prb_X_holds 7 (some .boolean) D pr_cl prx_L ad dA A (prY ad v r A) p s m args meth c) {rc : pr_St → Int32 → Option (Int32 × pr_St)} (Hrc0 : ∀ (σ : pr_St) (x1 : Int32) (res : (Int32 × pr_St)), rc σ x1 = some res → Met l pry_X_holds (Cond.code pry_X_holds prb_X_holds 7 (some .boolean) :: pr_U) (pr_rm hd) (pr_Pc (prY ad v r A) D pr_cl prx_L ad dA [.ref (ad 0), .int x1] σ) (pr_Qi D pr_cl prx_L ad dA A res) 0 0 A) : ∀ n : Nat, ∀ (σ : pr_St) (x1 : Int32) (x2 : Int32) (x3 : Int32) (res : (Int32 × pr_St)), some res = prf_X_holds_79 rc n σ x1 x2 x3 → ∀ (H : Heap) (locs : List Loc) (ls : Array Slot), va_P D pr_cl (pr_w prx_L ad dA σ) H → va_S A s.heap H locs → lv_has ls 7 [(0, .ref (ad 0)), (1, .int x1), (2, .int x2), (3, .int x3)] → W p l e (pr_rm h) s m args below meth c H locs 0 0 (MQ below (pr_Qi D pr_cl prx_L ad dA A res) args s 0 0 A) (F0 m 79 ls []) := by
  obtain ⟨hx, hb, hml, hown, hts, hr, hlocks, hK, hD, hX, hXs⟩ := id E
  intro n
  induction n with
  | zero =>
    intro σ x1 x2 x3 res hf
    rw [prf_X_holds_79] at hf
    cases hf
  | succ n ih =>
    intro σ x1 x2 x3 res hf H locs ls hP hS hl
    rw [prf_X_holds_79] at hf
    refine lv_iload_n hx hb prd_X_holds_79 rfl (lv_at hl 3 rfl) ?_
    refine lv_aload_n hx hb prd_X_holds_80 rfl (lv_at hl 0 rfl) ?_
    refine lv_iload_n hx hb prd_X_holds_81 rfl (lv_at hl 1 rfl) ?_
    obtain ⟨r36, hr36, hf⟩ := pr_bi hf
    refine pr_callVr (rest := [.int x3]) (r := r36) ⟨hx, hb, hml, hown, hts⟩ 0 (prc_X_behind hD hX 0 (Nat.le_refl _) σ x1 r36 hr36) (prg_X_behind hts prw_1003 (by have := hh; omega)) hX hXs hK hP hS (by decide) rfl rfl rfl rfl hl.1 (Nat.le_of_ble_eq_true rfl) prd_X_holds_82 (fun H locs hP hS => ?_)
    refine lv_icmp_ge (tgt := 123) hx hb prd_X_holds_85 (by decide) (fun c37 => ?_) (fun c37 => ?_)
    · have hf := pr_it c37 hf
      refine lv_iload_n hx hb prd_X_holds_123 rfl (lv_at hl 2 rfl) ?_
      obtain ⟨hz38, hf⟩ := pr_z_in hf
      exact pr_retz E hz38 hP hS (pr_so hf) prd_X_holds_124
    · have hf := pr_ie c37 hf
      refine lv_aload_n hx hb prd_X_holds_88 rfl (lv_at hl 0 rfl) ?_
      refine pr_geti (v := (σ.1 0 59)) hx hb hts prs_X hown hK hP 0 59 (by decide) rfl (hts _ prw_1099) rfl rfl prd_X_holds_89 ?_
      refine lv_if_ne (tgt := 123) hx hb prd_X_holds_92 (by decide) (fun c39 => ?_) (fun c39 => ?_)
      · have hf := pr_ie c39 hf
        refine lv_iload_n hx hb prd_X_holds_123 rfl (lv_at hl 2 rfl) ?_
        obtain ⟨hz40, hf⟩ := pr_z_in hf
        exact pr_retz E hz40 hP hS (pr_so hf) prd_X_holds_124
      · have hf := pr_it c39 hf
        refine lv_aload_n hx hb prd_X_holds_95 rfl (lv_at hl 0 rfl) ?_
        refine lv_iload_n hx hb prd_X_holds_96 rfl (lv_at hl 3 rfl) ?_
        obtain ⟨r41, hr41, hf⟩ := pr_bi hf
        refine pr_callVi (rest := []) (res := r41) ⟨hx, hb, hml, hown, hts⟩ 0 (Hrc0 σ x3 r41 hr41) (prg_X_holds hts prw_1129 (by have := hh; omega)) hX hXs hK hP hS (by decide) rfl rfl rfl rfl hl.1 (Nat.le_of_ble_eq_true rfl) prd_X_holds_97 (fun H locs hP hS => ?_)
        refine lv_iload_n hx hb prd_X_holds_100 rfl (lv_at hl 2 rfl) ?_
        refine lv_icmp_eq (tgt := 114) hx hb prd_X_holds_101 (by decide) (fun c42 => ?_) (fun c42 => ?_)
        · have hf := pr_it c42 hf
          refine lv_aload_n hx hb prd_X_holds_114 rfl (lv_at hl 0 rfl) ?_
          refine lv_iload_n hx hb prd_X_holds_115 rfl (lv_at hl 3 rfl) ?_
          obtain ⟨r43, hr43, hf⟩ := pr_bi hf
          refine pr_callVr (rest := []) (r := r43) ⟨hx, hb, hml, hown, hts⟩ 0 (prc_X_behind hD hX 0 (Nat.le_refl _) r41.2 x3 r43 hr43) (prg_X_behind hts prw_1003 (by have := hh; omega)) hX hXs hK hP hS (by decide) rfl rfl rfl rfl hl.1 (Nat.le_of_ble_eq_true rfl) prd_X_holds_116 (fun H locs hP hS => ?_)
          refine lv_istore_n (lv' := [(3, .int r43), (0, .ref (ad 0)), (1, .int x1), (2, .int x2)]) hx hb prd_X_holds_119 rfl hl (by decide) rfl (fun ls hl => ?_)
          refine lv_goto (tgt := 79) hx hb prd_X_holds_120 (by decide) ?_
          exact ih r41.2 x1 x2 r43 _ hf _ _ _ hP hS (lv_sub hl [1, 2, 3, 0] rfl)
        · have hf := pr_ie c42 hf
          refine lv_iload_n hx hb prd_X_holds_104 rfl (lv_at hl 2 rfl) ?_
          refine lv_if_ne (tgt := 112) hx hb prd_X_holds_105 (by decide) (fun c44 => ?_) (fun c44 => ?_)
          · have hf := pr_ie c44 hf
            refine lv_iconst (v := 0) hx hb prd_X_holds_112 (by decide) ?_
            exact pr_retz E (Or.inl rfl) hP hS (pr_so hf) prd_X_holds_113
          · have hf := pr_it c44 hf
            refine lv_iconst (v := 1) hx hb prd_X_holds_108 (by decide) ?_
            refine lv_goto (tgt := 113) hx hb prd_X_holds_109 (by decide) ?_
            exact pr_retz E (Or.inr rfl) hP hS (pr_so hf) prd_X_holds_113
set_option maxHeartbeats 4000000 in
set_option maxRecDepth 100000 in
theorem prk_X_holds_58 {l : Launch} {D : va_G} {ad : Nat → Nat} {dA : Nat → ClassId} {A : Nat → Prop} {v : Nat → Nat} {r : Value} {p : Program} {e : Env} {s : State} {m : MethodId} {args : Array Value} {below : List Frame} {meth : Method} {c : Code} (hd : Nat) (hb0 : 406 ≤ hd) {h : Nat} (hh : hd + 1 ≤ h) (E : pr_cx prn_X prb_X_holds 7 (some .boolean) D pr_cl prx_L ad dA A (prY ad v r A) p s m args meth c) {rc : pr_St → Int32 → Option (Int32 × pr_St)} (Hrc0 : ∀ (σ : pr_St) (x1 : Int32) (res : (Int32 × pr_St)), rc σ x1 = some res → Met l pry_X_holds (Cond.code pry_X_holds prb_X_holds 7 (some .boolean) :: pr_U) (pr_rm hd) (pr_Pc (prY ad v r A) D pr_cl prx_L ad dA [.ref (ad 0), .int x1] σ) (pr_Qi D pr_cl prx_L ad dA A res) 0 0 A) : ∀ (σ : pr_St) (x1 : Int32) (res : (Int32 × pr_St)), some res = prf_X_holds_58 rc σ x1 → ∀ (H : Heap) (locs : List Loc) (ls : Array Slot), va_P D pr_cl (pr_w prx_L ad dA σ) H → va_S A s.heap H locs → lv_has ls 7 [(0, .ref (ad 0)), (1, .int x1)] → W p l e (pr_rm h) s m args below meth c H locs 0 0 (MQ below (pr_Qi D pr_cl prx_L ad dA A res) args s 0 0 A) (F0 m 58 ls []) := by
  obtain ⟨hx, hb, hml, hown, hts, hr, hlocks, hK, hD, hX, hXs⟩ := id E
  intro σ x1 res hf H locs ls hP hS hl
  unfold prf_X_holds_58 at hf
  refine lv_aload_n hx hb prd_X_holds_58 rfl (lv_at hl 0 rfl) ?_
  refine pr_getr (t := 13) hx hb hts prs_X hown hK hP 0 19 (by decide) rfl (hts _ prw_835) rfl prd_X_holds_59 ?_
  refine lv_iload_n hx hb prd_X_holds_62 rfl (lv_at hl 1 rfl) ?_
  obtain ⟨hi45, hf⟩ := pr_ck_in hf
  refine pr_iald (f := (σ.2.1 13)) hx hb hK hP 13 (by decide) rfl hi45 rfl prd_X_holds_63 ?_
  refine lv_bipush (v := 25) hx hb prd_X_holds_64 (by decide) ?_
  refine lv_icmp_ne (tgt := 73) hx hb prd_X_holds_66 (by decide) (fun c46 => ?_) (fun c46 => ?_)
  · have hf := pr_ie c46 hf
    refine lv_iconst (v := 0) hx hb prd_X_holds_73 (by decide) ?_
    refine lv_istore_n (lv' := [(2, .int 0), (0, .ref (ad 0)), (1, .int x1)]) hx hb prd_X_holds_74 rfl hl (by decide) rfl (fun ls hl => ?_)
    refine lv_iload_n hx hb prd_X_holds_75 rfl (lv_at hl 2 rfl) ?_
    refine lv_iconst (v := 1) hx hb prd_X_holds_76 (by decide) ?_
    refine lv_iadd hx hb prd_X_holds_77 ?_
    refine lv_istore_n (lv' := [(3, .int (x1 + 1)), (2, .int 0), (0, .ref (ad 0)), (1, .int x1)]) hx hb prd_X_holds_78 rfl hl (by decide) rfl (fun ls hl => ?_)
    exact prk_X_holds_79 hd hb0 hh E Hrc0 pr_FU σ x1 0 (x1 + 1) _ hf _ _ _ hP hS (lv_sub hl [2, 3, 1, 0] rfl)
  · have hf := pr_it c46 hf
    refine lv_iconst (v := 1) hx hb prd_X_holds_69 (by decide) ?_
    refine lv_goto (tgt := 74) hx hb prd_X_holds_70 (by decide) ?_
    refine lv_istore_n (lv' := [(2, .int 1), (0, .ref (ad 0)), (1, .int x1)]) hx hb prd_X_holds_74 rfl hl (by decide) rfl (fun ls hl => ?_)
    refine lv_iload_n hx hb prd_X_holds_75 rfl (lv_at hl 2 rfl) ?_
    refine lv_iconst (v := 1) hx hb prd_X_holds_76 (by decide) ?_
    refine lv_iadd hx hb prd_X_holds_77 ?_
    refine lv_istore_n (lv' := [(3, .int (x1 + 1)), (2, .int 1), (0, .ref (ad 0)), (1, .int x1)]) hx hb prd_X_holds_78 rfl hl (by decide) rfl (fun ls hl => ?_)
    exact prk_X_holds_79 hd hb0 hh E Hrc0 pr_FU σ x1 1 (x1 + 1) _ hf _ _ _ hP hS (lv_sub hl [2, 3, 1, 0] rfl)
set_option maxHeartbeats 4000000 in
set_option maxRecDepth 100000 in
theorem prc_X_holds {l : Launch} {D : va_G} {ad : Nat → Nat} {dA : Nat → ClassId} {A : Nat → Prop} {v : Nat → Nat} {r : Value} (hD : ∀ σ : pr_St, va_D A (pr_w prx_L ad dA σ)) (hX : pr_Xok A (prY ad v r A)) (hd : Nat) (hb0 : 406 ≤ hd) (h : Nat) (hh : hd + 1 ≤ h) {rc : pr_St → Int32 → Option (Int32 × pr_St)} (Hrc0 : ∀ (σ : pr_St) (x1 : Int32) (res : (Int32 × pr_St)), rc σ x1 = some res → Met l pry_X_holds (Cond.code pry_X_holds prb_X_holds 7 (some .boolean) :: pr_U) (pr_rm hd) (pr_Pc (prY ad v r A) D pr_cl prx_L ad dA [.ref (ad 0), .int x1] σ) (pr_Qi D pr_cl prx_L ad dA A res) 0 0 A) (σ : pr_St) (x1 : Int32) (res : (Int32 × pr_St)) (hf : prf_X_holds rc σ x1 = some res) : Met l pry_X_holds (Cond.code pry_X_holds prb_X_holds 7 (some .boolean) :: pr_U) (pr_rm h) (pr_Pc (prY ad v r A) D pr_cl prx_L ad dA [.ref (ad 0), .int x1] σ) (pr_Qi D pr_cl prx_L ad dA A res) 0 0 A := by
  refine pr_entry (cc := prb_X_holds) (maxL := 7) (ret := (some .boolean)) (by decide) (Nat.le_of_ble_eq_true rfl) hD hX ?_
  intro p e s m args below meth c E H locs hP hS ls hl
  have hl : lv_has ls 7 [(0, .ref (ad 0)), (1, .int x1)] := hl
  have hf := hf.symm
  unfold prf_X_holds at hf
  obtain ⟨hx, hb, hml, hown, hts, hr, hlocks, hK, hD, hX, hXs⟩ := id E
  refine lv_aload_n hx hb prd_X_holds_0 rfl (lv_at hl 0 rfl) ?_
  refine pr_geti (v := (σ.1 0 59)) hx hb hts prs_X hown hK hP 0 59 (by decide) rfl (hts _ prw_1099) rfl rfl prd_X_holds_1 ?_
  refine lv_if_le (tgt := 9) hx hb prd_X_holds_4 (by decide) (fun c47 => ?_) (fun c47 => ?_)
  · have hf := pr_it c47 hf
    refine lv_aload_n hx hb prd_X_holds_9 rfl (lv_at hl 0 rfl) ?_
    refine pr_getr (t := 13) hx hb hts prs_X hown hK hP 0 19 (by decide) rfl (hts _ prw_835) rfl prd_X_holds_10 ?_
    refine lv_iload_n hx hb prd_X_holds_13 rfl (lv_at hl 1 rfl) ?_
    obtain ⟨hi48, hf⟩ := pr_ck_in hf
    refine pr_iald (f := (σ.2.1 13)) hx hb hK hP 13 (by decide) rfl hi48 rfl prd_X_holds_14 ?_
    refine lv_bipush (v := 26) hx hb prd_X_holds_15 (by decide) ?_
    refine lv_icmp_ne (tgt := 36) hx hb prd_X_holds_17 (by decide) (fun c49 => ?_) (fun c49 => ?_)
    · have hf := pr_ie c49 hf
      refine lv_aload_n hx hb prd_X_holds_36 rfl (lv_at hl 0 rfl) ?_
      refine pr_getr (t := 13) hx hb hts prs_X hown hK hP 0 19 (by decide) rfl (hts _ prw_835) rfl prd_X_holds_37 ?_
      refine lv_iload_n hx hb prd_X_holds_40 rfl (lv_at hl 1 rfl) ?_
      obtain ⟨hi50, hf⟩ := pr_ck_in hf
      refine pr_iald (f := (σ.2.1 13)) hx hb hK hP 13 (by decide) rfl hi50 rfl prd_X_holds_41 ?_
      refine lv_bipush (v := 24) hx hb prd_X_holds_42 (by decide) ?_
      refine lv_icmp_eq (tgt := 58) hx hb prd_X_holds_44 (by decide) (fun c51 => ?_) (fun c51 => ?_)
      · have hf := pr_it c51 hf
        exact prk_X_holds_58 hd hb0 hh E Hrc0 σ x1 _ hf _ _ _ hP hS (lv_sub hl [0, 1] rfl)
      · have hf := pr_ie c51 hf
        refine lv_aload_n hx hb prd_X_holds_47 rfl (lv_at hl 0 rfl) ?_
        refine pr_getr (t := 13) hx hb hts prs_X hown hK hP 0 19 (by decide) rfl (hts _ prw_835) rfl prd_X_holds_48 ?_
        refine lv_iload_n hx hb prd_X_holds_51 rfl (lv_at hl 1 rfl) ?_
        obtain ⟨hi52, hf⟩ := pr_ck_in hf
        refine pr_iald (f := (σ.2.1 13)) hx hb hK hP 13 (by decide) rfl hi52 rfl prd_X_holds_52 ?_
        refine lv_bipush (v := 25) hx hb prd_X_holds_53 (by decide) ?_
        refine lv_icmp_ne (tgt := 125) hx hb prd_X_holds_55 (by decide) (fun c53 => ?_) (fun c53 => ?_)
        · have hf := pr_ie c53 hf
          refine lv_aload_n hx hb prd_X_holds_125 rfl (lv_at hl 0 rfl) ?_
          refine lv_iload_n hx hb prd_X_holds_126 rfl (lv_at hl 1 rfl) ?_
          refine lv_iconst (v := 1) hx hb prd_X_holds_127 (by decide) ?_
          refine lv_iadd hx hb prd_X_holds_128 ?_
          obtain ⟨r54, hr54, hf⟩ := pr_bi hf
          refine pr_callVl (rest := []) (res := r54) ⟨hx, hb, hml, hown, hts⟩ 0 (prct_X_reckon hD hX σ (x1 + 1) r54 hr54) (prg_X_reckon hts prw_1116 (by have := hh; omega)) hX hXs hK hP hS (by decide) rfl rfl rfl rfl hl.1 (Nat.le_of_ble_eq_true rfl) prd_X_holds_129 (fun H locs hP hS => ?_)
          refine lv_lstore_n (lv' := [(2, .long r54.1), (0, .ref (ad 0)), (1, .int x1)]) hx hb prd_X_holds_132 rfl hl (by decide) rfl (fun ls hl => ?_)
          refine lv_aload_n hx hb prd_X_holds_133 rfl (lv_at hl 1 rfl) ?_
          refine lv_aload_n hx hb prd_X_holds_134 rfl (lv_at hl 1 rfl) ?_
          refine lv_iload_n hx hb prd_X_holds_135 rfl (lv_at hl 2 rfl) ?_
          obtain ⟨r55, hr55, hf⟩ := pr_bi hf
          refine pr_callVr (rest := [.ref (ad 0)]) (r := r55) ⟨hx, hb, hml, hown, hts⟩ 0 (prc_X_second hD hX 1 (Nat.le_refl _) r54.2 x1 r55 hr55) (prg_X_second hts prw_1051 (by have := hh; omega)) hX hXs hK hP hS (by decide) rfl rfl rfl rfl hl.1 (Nat.le_of_ble_eq_true rfl) prd_X_holds_136 (fun H locs hP hS => ?_)
          obtain ⟨r56, hr56, hf⟩ := pr_bi hf
          refine pr_callVl (rest := []) (res := r56) ⟨hx, hb, hml, hown, hts⟩ 0 (prct_X_reckon hD hX r54.2 r55 r56 hr56) (prg_X_reckon hts prw_1116 (by have := hh; omega)) hX hXs hK hP hS (by decide) rfl rfl rfl rfl hl.1 (Nat.le_of_ble_eq_true rfl) prd_X_holds_139 (fun H locs hP hS => ?_)
          refine lv_lstore (lv' := [(4, .long r56.1), (2, .long r54.1), (0, .ref (ad 0)), (1, .int x1)]) hx hb prd_X_holds_142 hl (by decide) rfl (fun ls hl => ?_)
          refine lv_aload_n hx hb prd_X_holds_144 rfl (lv_at hl 2 rfl) ?_
          refine pr_getr (t := 13) hx hb hts prs_X hown hK hP 0 19 (by decide) rfl (hts _ prw_835) rfl prd_X_holds_145 ?_
          refine lv_iload_n hx hb prd_X_holds_148 rfl (lv_at hl 3 rfl) ?_
          obtain ⟨hi57, hf⟩ := pr_ck_in hf
          refine pr_iald (f := (r56.2.2.1 13)) hx hb hK hP 13 (by decide) rfl hi57 rfl prd_X_holds_149 ?_
          refine lv_istore (lv' := [(6, .int ((r56.2.2.1 13) x1.toNatClampNeg)), (4, .long r56.1), (2, .long r54.1), (0, .ref (ad 0)), (1, .int x1)]) hx hb prd_X_holds_150 hl (by decide) rfl (fun ls hl => ?_)
          refine lv_iload hx hb prd_X_holds_152 (lv_at hl 0 rfl) ?_
          refine lv_bipush (v := 27) hx hb prd_X_holds_154 (by decide) ?_
          refine lv_icmp_ne (tgt := 174) hx hb prd_X_holds_156 (by decide) (fun c58 => ?_) (fun c58 => ?_)
          · have hf := pr_ie c58 hf
            refine lv_iload hx hb prd_X_holds_174 (lv_at hl 0 rfl) ?_
            refine lv_bipush (v := 28) hx hb prd_X_holds_176 (by decide) ?_
            refine lv_icmp_ne (tgt := 196) hx hb prd_X_holds_178 (by decide) (fun c59 => ?_) (fun c59 => ?_)
            · have hf := pr_ie c59 hf
              refine lv_iload hx hb prd_X_holds_196 (lv_at hl 0 rfl) ?_
              refine lv_bipush (v := 29) hx hb prd_X_holds_198 (by decide) ?_
              refine lv_icmp_ne (tgt := 218) hx hb prd_X_holds_200 (by decide) (fun c60 => ?_) (fun c60 => ?_)
              · have hf := pr_ie c60 hf
                refine lv_iload hx hb prd_X_holds_218 (lv_at hl 0 rfl) ?_
                refine lv_bipush (v := 30) hx hb prd_X_holds_220 (by decide) ?_
                refine lv_icmp_ne (tgt := 240) hx hb prd_X_holds_222 (by decide) (fun c61 => ?_) (fun c61 => ?_)
                · have hf := pr_ie c61 hf
                  refine lv_iload hx hb prd_X_holds_240 (lv_at hl 0 rfl) ?_
                  refine lv_bipush (v := 31) hx hb prd_X_holds_242 (by decide) ?_
                  refine lv_icmp_ne (tgt := 262) hx hb prd_X_holds_244 (by decide) (fun c62 => ?_) (fun c62 => ?_)
                  · have hf := pr_ie c62 hf
                    refine lv_lload_n hx hb prd_X_holds_262 rfl (lv_at hl 2 rfl) ?_
                    refine lv_lload hx hb prd_X_holds_263 (lv_at hl 1 rfl) ?_
                    refine W.lcmp hx hb prd_X_holds_265 ?_
                    refine lv_if_eq (tgt := 273) hx hb prd_X_holds_266 (by decide) (fun c63 => ?_) (fun c63 => ?_)
                    · have hf := pr_it c63 hf
                      refine lv_iconst (v := 0) hx hb prd_X_holds_273 (by decide) ?_
                      exact pr_retz E (Or.inl rfl) hP hS (pr_so hf) prd_X_holds_274
                    · have hf := pr_ie c63 hf
                      refine lv_iconst (v := 1) hx hb prd_X_holds_269 (by decide) ?_
                      refine lv_goto (tgt := 274) hx hb prd_X_holds_270 (by decide) ?_
                      exact pr_retz E (Or.inr rfl) hP hS (pr_so hf) prd_X_holds_274
                  · have hf := pr_it c62 hf
                    refine lv_lload_n hx hb prd_X_holds_247 rfl (lv_at hl 2 rfl) ?_
                    refine lv_lload hx hb prd_X_holds_248 (lv_at hl 1 rfl) ?_
                    refine W.lcmp hx hb prd_X_holds_250 ?_
                    refine lv_if_ne (tgt := 258) hx hb prd_X_holds_251 (by decide) (fun c64 => ?_) (fun c64 => ?_)
                    · have hf := pr_ie c64 hf
                      refine lv_iconst (v := 0) hx hb prd_X_holds_258 (by decide) ?_
                      refine lv_goto (tgt := 274) hx hb prd_X_holds_259 (by decide) ?_
                      exact pr_retz E (Or.inl rfl) hP hS (pr_so hf) prd_X_holds_274
                    · have hf := pr_it c64 hf
                      refine lv_iconst (v := 1) hx hb prd_X_holds_254 (by decide) ?_
                      refine lv_goto (tgt := 274) hx hb prd_X_holds_255 (by decide) ?_
                      exact pr_retz E (Or.inr rfl) hP hS (pr_so hf) prd_X_holds_274
                · have hf := pr_it c61 hf
                  refine lv_lload_n hx hb prd_X_holds_225 rfl (lv_at hl 2 rfl) ?_
                  refine lv_lload hx hb prd_X_holds_226 (lv_at hl 1 rfl) ?_
                  refine W.lcmp hx hb prd_X_holds_228 ?_
                  refine lv_if_lt (tgt := 236) hx hb prd_X_holds_229 (by decide) (fun c65 => ?_) (fun c65 => ?_)
                  · have hf := pr_it c65 hf
                    refine lv_iconst (v := 0) hx hb prd_X_holds_236 (by decide) ?_
                    refine lv_goto (tgt := 274) hx hb prd_X_holds_237 (by decide) ?_
                    exact pr_retz E (Or.inl rfl) hP hS (pr_so hf) prd_X_holds_274
                  · have hf := pr_ie c65 hf
                    refine lv_iconst (v := 1) hx hb prd_X_holds_232 (by decide) ?_
                    refine lv_goto (tgt := 274) hx hb prd_X_holds_233 (by decide) ?_
                    exact pr_retz E (Or.inr rfl) hP hS (pr_so hf) prd_X_holds_274
              · have hf := pr_it c60 hf
                refine lv_lload_n hx hb prd_X_holds_203 rfl (lv_at hl 2 rfl) ?_
                refine lv_lload hx hb prd_X_holds_204 (lv_at hl 1 rfl) ?_
                refine W.lcmp hx hb prd_X_holds_206 ?_
                refine lv_if_le (tgt := 214) hx hb prd_X_holds_207 (by decide) (fun c66 => ?_) (fun c66 => ?_)
                · have hf := pr_it c66 hf
                  refine lv_iconst (v := 0) hx hb prd_X_holds_214 (by decide) ?_
                  refine lv_goto (tgt := 274) hx hb prd_X_holds_215 (by decide) ?_
                  exact pr_retz E (Or.inl rfl) hP hS (pr_so hf) prd_X_holds_274
                · have hf := pr_ie c66 hf
                  refine lv_iconst (v := 1) hx hb prd_X_holds_210 (by decide) ?_
                  refine lv_goto (tgt := 274) hx hb prd_X_holds_211 (by decide) ?_
                  exact pr_retz E (Or.inr rfl) hP hS (pr_so hf) prd_X_holds_274
            · have hf := pr_it c59 hf
              refine lv_lload_n hx hb prd_X_holds_181 rfl (lv_at hl 2 rfl) ?_
              refine lv_lload hx hb prd_X_holds_182 (lv_at hl 1 rfl) ?_
              refine W.lcmp hx hb prd_X_holds_184 ?_
              refine lv_if_gt (tgt := 192) hx hb prd_X_holds_185 (by decide) (fun c67 => ?_) (fun c67 => ?_)
              · have hf := pr_it c67 hf
                refine lv_iconst (v := 0) hx hb prd_X_holds_192 (by decide) ?_
                refine lv_goto (tgt := 274) hx hb prd_X_holds_193 (by decide) ?_
                exact pr_retz E (Or.inl rfl) hP hS (pr_so hf) prd_X_holds_274
              · have hf := pr_ie c67 hf
                refine lv_iconst (v := 1) hx hb prd_X_holds_188 (by decide) ?_
                refine lv_goto (tgt := 274) hx hb prd_X_holds_189 (by decide) ?_
                exact pr_retz E (Or.inr rfl) hP hS (pr_so hf) prd_X_holds_274
          · have hf := pr_it c58 hf
            refine lv_lload_n hx hb prd_X_holds_159 rfl (lv_at hl 2 rfl) ?_
            refine lv_lload hx hb prd_X_holds_160 (lv_at hl 1 rfl) ?_
            refine W.lcmp hx hb prd_X_holds_162 ?_
            refine lv_if_ge (tgt := 170) hx hb prd_X_holds_163 (by decide) (fun c68 => ?_) (fun c68 => ?_)
            · have hf := pr_it c68 hf
              refine lv_iconst (v := 0) hx hb prd_X_holds_170 (by decide) ?_
              refine lv_goto (tgt := 274) hx hb prd_X_holds_171 (by decide) ?_
              exact pr_retz E (Or.inl rfl) hP hS (pr_so hf) prd_X_holds_274
            · have hf := pr_ie c68 hf
              refine lv_iconst (v := 1) hx hb prd_X_holds_166 (by decide) ?_
              refine lv_goto (tgt := 274) hx hb prd_X_holds_167 (by decide) ?_
              exact pr_retz E (Or.inr rfl) hP hS (pr_so hf) prd_X_holds_274
        · have hf := pr_it c53 hf
          exact prk_X_holds_58 hd hb0 hh E Hrc0 σ x1 _ hf _ _ _ hP hS (lv_sub hl [0, 1] rfl)
    · have hf := pr_it c49 hf
      refine lv_aload_n hx hb prd_X_holds_20 rfl (lv_at hl 0 rfl) ?_
      refine lv_iload_n hx hb prd_X_holds_21 rfl (lv_at hl 1 rfl) ?_
      refine lv_iconst (v := 1) hx hb prd_X_holds_22 (by decide) ?_
      refine lv_iadd hx hb prd_X_holds_23 ?_
      obtain ⟨r69, hr69, hf⟩ := pr_bi hf
      refine pr_callVi (rest := []) (res := r69) ⟨hx, hb, hml, hown, hts⟩ 0 (Hrc0 σ (x1 + 1) r69 hr69) (prg_X_holds hts prw_1129 (by have := hh; omega)) hX hXs hK hP hS (by decide) rfl rfl rfl rfl hl.1 (Nat.le_of_ble_eq_true rfl) prd_X_holds_24 (fun H locs hP hS => ?_)
      refine lv_if_ne (tgt := 34) hx hb prd_X_holds_27 (by decide) (fun c70 => ?_) (fun c70 => ?_)
      · have hf := pr_ie c70 hf
        refine lv_iconst (v := 0) hx hb prd_X_holds_34 (by decide) ?_
        exact pr_retz E (Or.inl rfl) hP hS (pr_so hf) prd_X_holds_35
      · have hf := pr_it c70 hf
        refine lv_iconst (v := 1) hx hb prd_X_holds_30 (by decide) ?_
        refine lv_goto (tgt := 35) hx hb prd_X_holds_31 (by decide) ?_
        exact pr_retz E (Or.inr rfl) hP hS (pr_so hf) prd_X_holds_35
  · have hf := pr_ie c47 hf
    refine lv_iconst (v := 0) hx hb prd_X_holds_7 (by decide) ?_
    exact pr_retz E (Or.inl rfl) hP hS (pr_so hf) prd_X_holds_8
-- prF_X_holds
set_option maxHeartbeats 4000000 in
theorem prF_X_holds_ok {l : Launch} {D : va_G} {ad : Nat → Nat} {dA : Nat → ClassId} {A : Nat → Prop} {v : Nat → Nat} {r : Value} (hD : ∀ σ : pr_St, va_D A (pr_w prx_L ad dA σ)) (hX : pr_Xok A (prY ad v r A)) : ∀ n : Nat, (∀ (σ : pr_St) (x1 : Int32) (res : (Int32 × pr_St)), prF_X_holds n σ x1 = some res → Met l pry_X_holds (Cond.code pry_X_holds prb_X_holds 7 (some .boolean) :: pr_U) (pr_rm (406 + 1 * n)) (pr_Pc (prY ad v r A) D pr_cl prx_L ad dA [.ref (ad 0), .int x1] σ) (pr_Qi D pr_cl prx_L ad dA A res) 0 0 A) := by
  intro n
  induction n with
  | zero => exact (fun σ x1 res hf => by cases hf)
  | succ n ih =>
    have i0 := ih
    exact fun σ x1 res hf => prc_X_holds hD hX (406 + 1 * n) (by omega) (406 + 1 * (n + 1)) (by omega) i0 σ x1 res hf
theorem prct_X_holds {l : Launch} {D : va_G} {ad : Nat → Nat} {dA : Nat → ClassId} {A : Nat → Prop} {v : Nat → Nat} {r : Value} (hD : ∀ σ : pr_St, va_D A (pr_w prx_L ad dA σ)) (hX : pr_Xok A (prY ad v r A)) (σ : pr_St) (x1 : Int32) (res : (Int32 × pr_St)) (hf : prf_X_holds (prF_X_holds 200) σ x1 = some res) : Met l pry_X_holds (Cond.code pry_X_holds prb_X_holds 7 (some .boolean) :: pr_U) (pr_rm 607) (pr_Pc (prY ad v r A) D pr_cl prx_L ad dA [.ref (ad 0), .int x1] σ) (pr_Qi D pr_cl prx_L ad dA A res) 0 0 A :=
  prc_X_holds hD hX (406 + 1 * 200) (by decide) 607 (by decide) (prF_X_holds_ok hD hX 200) σ x1 res hf
-- X_goal
set_option maxHeartbeats 4000000 in
set_option maxRecDepth 100000 in
theorem prk_X_goal_39 {l : Launch} {D : va_G} {ad : Nat → Nat} {dA : Nat → ClassId} {A : Nat → Prop} {v : Nat → Nat} {r : Value} {p : Program} {e : Env} {s : State} {m : MethodId} {args : Array Value} {below : List Frame} {meth : Method} {c : Code} {h : Nat} (hh : 0 ≤ h) (E : pr_cx prn_X prb_X_goal 5 (some .int) D pr_cl prx_L ad dA A (prY ad v r A) p s m args meth c) : ∀ n : Nat, ∀ (σ : pr_St) (x2 : Int32) (x3 : Int32) (x4 : Int32) (res : Int32), some res = prf_X_goal_39 n σ x2 x3 x4 → ∀ (H : Heap) (locs : List Loc) (ls : Array Slot), va_P D pr_cl (pr_w prx_L ad dA σ) H → va_S A s.heap H locs → lv_has ls 5 [(0, .ref (ad 0)), (2, .int x2), (3, .int x3), (4, .int x4)] → W p l e (pr_rm h) s m args below meth c H locs 0 0 (MQ below (pr_Qi D pr_cl prx_L ad dA A (res, σ)) args s 0 0 A) (F0 m 39 ls []) := by
  obtain ⟨hx, hb, hml, hown, hts, hr, hlocks, hK, hD, hX, hXs⟩ := id E
  intro n
  induction n with
  | zero =>
    intro σ x2 x3 x4 res hf
    rw [prf_X_goal_39] at hf
    cases hf
  | succ n ih =>
    intro σ x2 x3 x4 res hf H locs ls hP hS hl
    rw [prf_X_goal_39] at hf
    refine lv_iload hx hb prd_X_goal_39 (lv_at hl 3 rfl) ?_
    refine lv_if_lt (tgt := 86) hx hb prd_X_goal_41 (by decide) (fun c11 => ?_) (fun c11 => ?_)
    · have hf := pr_it c11 hf
      refine lv_iconst (v := (-1)) hx hb prd_X_goal_86 (by decide) ?_
      exact pr_reti E hP hS (pr_ro hf) prd_X_goal_87
    · have hf := pr_ie c11 hf
      refine lv_aload_n hx hb prd_X_goal_44 rfl (lv_at hl 0 rfl) ?_
      refine pr_getr (t := 26) hx hb hts prs_X hown hK hP 0 35 (by decide) rfl (hts _ prw_1053) rfl prd_X_goal_45 ?_
      refine lv_bipush (v := 40) hx hb prd_X_goal_48 (by decide) ?_
      refine lv_iload_n hx hb prd_X_goal_50 rfl (lv_at hl 1 rfl) ?_
      refine lv_imul hx hb prd_X_goal_51 ?_
      refine lv_iload hx hb prd_X_goal_52 (lv_at hl 3 rfl) ?_
      refine lv_iadd hx hb prd_X_goal_54 ?_
      obtain ⟨hi12, hf⟩ := pr_ck_in hf
      refine pr_iald (f := (σ.2.1 26)) hx hb hK hP 26 (by decide) rfl hi12 rfl prd_X_goal_55 ?_
      refine lv_aload_n hx hb prd_X_goal_56 rfl (lv_at hl 0 rfl) ?_
      refine pr_getr (t := 15) hx hb hts prs_X hown hK hP 0 21 (by decide) rfl (hts _ prw_838) rfl prd_X_goal_57 ?_
      refine lv_iload_n hx hb prd_X_goal_60 rfl (lv_at hl 2 rfl) ?_
      refine lv_iconst (v := 1) hx hb prd_X_goal_61 (by decide) ?_
      refine lv_iadd hx hb prd_X_goal_62 ?_
      obtain ⟨hi13, hf⟩ := pr_ck_in hf
      refine pr_iald (f := (σ.2.1 15)) hx hb hK hP 15 (by decide) rfl hi13 rfl prd_X_goal_63 ?_
      refine lv_icmp_ne (tgt := 80) hx hb prd_X_goal_64 (by decide) (fun c14 => ?_) (fun c14 => ?_)
      · have hf := pr_ie c14 hf
        refine lv_iinc (v := (x4 + (-1))) (lv' := [(4, .int (x4 + (-1))), (0, .ref (ad 0)), (2, .int x2), (3, .int x3)]) hx hb prd_X_goal_80 hl (k := 3) rfl rfl (by decide) rfl (fun ls hl => ?_)
        refine lv_goto (tgt := 39) hx hb prd_X_goal_83 (by decide) ?_
        exact ih σ x2 x3 (x4 + (-1)) _ hf _ _ _ hP hS (lv_sub hl [1, 2, 3, 0] rfl)
      · have hf := pr_it c14 hf
        refine lv_aload_n hx hb prd_X_goal_67 rfl (lv_at hl 0 rfl) ?_
        refine pr_getr (t := 27) hx hb hts prs_X hown hK hP 0 36 (by decide) rfl (hts _ prw_1054) rfl prd_X_goal_68 ?_
        refine lv_bipush (v := 40) hx hb prd_X_goal_71 (by decide) ?_
        refine lv_iload_n hx hb prd_X_goal_73 rfl (lv_at hl 1 rfl) ?_
        refine lv_imul hx hb prd_X_goal_74 ?_
        refine lv_iload hx hb prd_X_goal_75 (lv_at hl 3 rfl) ?_
        refine lv_iadd hx hb prd_X_goal_77 ?_
        obtain ⟨hi15, hf⟩ := pr_ck_in hf
        refine pr_iald (f := (σ.2.1 27)) hx hb hK hP 27 (by decide) rfl hi15 rfl prd_X_goal_78 ?_
        exact pr_reti E hP hS (pr_ro hf) prd_X_goal_79
set_option maxHeartbeats 4000000 in
set_option maxRecDepth 100000 in
theorem prc_X_goal {l : Launch} {D : va_G} {ad : Nat → Nat} {dA : Nat → ClassId} {A : Nat → Prop} {v : Nat → Nat} {r : Value} (hD : ∀ σ : pr_St, va_D A (pr_w prx_L ad dA σ)) (hX : pr_Xok A (prY ad v r A)) (h : Nat) (hh : 0 ≤ h) (σ : pr_St) (x1 : Int32) (res : Int32) (hf : prf_X_goal σ x1 = some res) : Met l pry_X_goal (Cond.code pry_X_goal prb_X_goal 5 (some .int) :: pr_U) (pr_rm h) (pr_Pc (prY ad v r A) D pr_cl prx_L ad dA [.ref (ad 0), .int x1] σ) (pr_Qi D pr_cl prx_L ad dA A (res, σ)) 0 0 A := by
  refine pr_entry (cc := prb_X_goal) (maxL := 5) (ret := (some .int)) (by decide) (Nat.le_of_ble_eq_true rfl) hD hX ?_
  intro p e s m args below meth c E H locs hP hS ls hl
  have hl : lv_has ls 5 [(0, .ref (ad 0)), (1, .int x1)] := hl
  have hf := hf.symm
  unfold prf_X_goal at hf
  obtain ⟨hx, hb, hml, hown, hts, hr, hlocks, hK, hD, hX, hXs⟩ := id E
  refine lv_aload_n hx hb prd_X_goal_0 rfl (lv_at hl 0 rfl) ?_
  refine pr_getr (t := 21) hx hb hts prs_X hown hK hP 0 29 (by decide) rfl (hts _ prw_824) rfl prd_X_goal_1 ?_
  refine lv_iload_n hx hb prd_X_goal_4 rfl (lv_at hl 1 rfl) ?_
  obtain ⟨hi16, hf⟩ := pr_ck_in hf
  refine pr_iald (f := (σ.2.1 21)) hx hb hK hP 21 (by decide) rfl hi16 rfl prd_X_goal_5 ?_
  refine lv_istore_n (lv' := [(2, .int ((σ.2.1 21) x1.toNatClampNeg)), (0, .ref (ad 0)), (1, .int x1)]) hx hb prd_X_goal_6 rfl hl (by decide) rfl (fun ls hl => ?_)
  refine lv_aload_n hx hb prd_X_goal_7 rfl (lv_at hl 1 rfl) ?_
  refine pr_getr (t := 20) hx hb hts prs_X hown hK hP 0 28 (by decide) rfl (hts _ prw_823) rfl prd_X_goal_8 ?_
  refine lv_iload_n hx hb prd_X_goal_11 rfl (lv_at hl 0 rfl) ?_
  obtain ⟨hi17, hf⟩ := pr_ck_in hf
  refine pr_iald (f := (σ.2.1 20)) hx hb hK hP 20 (by decide) rfl hi17 rfl prd_X_goal_12 ?_
  refine lv_istore_n (lv' := [(3, .int ((σ.2.1 20) ((σ.2.1 21) x1.toNatClampNeg).toNatClampNeg)), (2, .int ((σ.2.1 21) x1.toNatClampNeg)), (0, .ref (ad 0)), (1, .int x1)]) hx hb prd_X_goal_13 rfl hl (by decide) rfl (fun ls hl => ?_)
  refine lv_aload_n hx hb prd_X_goal_14 rfl (lv_at hl 2 rfl) ?_
  refine pr_getr (t := 13) hx hb hts prs_X hown hK hP 0 19 (by decide) rfl (hts _ prw_835) rfl prd_X_goal_15 ?_
  refine lv_iload_n hx hb prd_X_goal_18 rfl (lv_at hl 0 rfl) ?_
  refine lv_iconst (v := 1) hx hb prd_X_goal_19 (by decide) ?_
  refine lv_iadd hx hb prd_X_goal_20 ?_
  obtain ⟨hi18, hf⟩ := pr_ck_in hf
  refine pr_iald (f := (σ.2.1 13)) hx hb hK hP 13 (by decide) rfl hi18 rfl prd_X_goal_21 ?_
  refine lv_bipush (v := 33) hx hb prd_X_goal_22 (by decide) ?_
  refine lv_icmp_ne (tgt := 29) hx hb prd_X_goal_24 (by decide) (fun c19 => ?_) (fun c19 => ?_)
  · have hf := pr_ie c19 hf
    refine lv_aload_n hx hb prd_X_goal_29 rfl (lv_at hl 2 rfl) ?_
    refine pr_getr (t := 25) hx hb hts prs_X hown hK hP 0 34 (by decide) rfl (hts _ prw_1049) rfl prd_X_goal_30 ?_
    refine lv_iload_n hx hb prd_X_goal_33 rfl (lv_at hl 1 rfl) ?_
    obtain ⟨hi20, hf⟩ := pr_ck_in hf
    refine pr_iald (f := (σ.2.1 25)) hx hb hK hP 25 (by decide) rfl hi20 rfl prd_X_goal_34 ?_
    refine lv_iconst (v := 1) hx hb prd_X_goal_35 (by decide) ?_
    refine lv_isub hx hb prd_X_goal_36 ?_
    refine lv_istore (lv' := [(4, .int (((σ.2.1 25) ((σ.2.1 21) x1.toNatClampNeg).toNatClampNeg) - 1)), (3, .int ((σ.2.1 20) ((σ.2.1 21) x1.toNatClampNeg).toNatClampNeg)), (2, .int ((σ.2.1 21) x1.toNatClampNeg)), (0, .ref (ad 0)), (1, .int x1)]) hx hb prd_X_goal_37 hl (by decide) rfl (fun ls hl => ?_)
    exact prk_X_goal_39 hh E pr_FU σ ((σ.2.1 21) x1.toNatClampNeg) ((σ.2.1 20) ((σ.2.1 21) x1.toNatClampNeg).toNatClampNeg) (((σ.2.1 25) ((σ.2.1 21) x1.toNatClampNeg).toNatClampNeg) - 1) _ hf _ _ _ hP hS (lv_sub hl [3, 2, 1, 0] rfl)
  · have hf := pr_it c19 hf
    refine lv_iconst (v := (-1)) hx hb prd_X_goal_27 (by decide) ?_
    exact pr_reti E hP hS (pr_ro hf) prd_X_goal_28
-- X_otherBlock
set_option maxHeartbeats 4000000 in
set_option maxRecDepth 100000 in
theorem prk_X_otherBlock_19 {l : Launch} {D : va_G} {ad : Nat → Nat} {dA : Nat → ClassId} {A : Nat → Prop} {v : Nat → Nat} {r : Value} {p : Program} {e : Env} {s : State} {m : MethodId} {args : Array Value} {below : List Frame} {meth : Method} {c : Code} {h : Nat} (hh : 2 ≤ h) (E : pr_cx prn_X prb_X_otherBlock 4 (some .int) D pr_cl prx_L ad dA A (prY ad v r A) p s m args meth c) : ∀ n : Nat, ∀ (σ : pr_St) (x1 : Int32) (x2 : Int32) (x3 : Int32) (res : Int32), some res = prf_X_otherBlock_19 n σ x1 x2 x3 → ∀ (H : Heap) (locs : List Loc) (ls : Array Slot), va_P D pr_cl (pr_w prx_L ad dA σ) H → va_S A s.heap H locs → lv_has ls 4 [(0, .ref (ad 0)), (1, .int x1), (2, .int x2), (3, .int x3)] → W p l e (pr_rm h) s m args below meth c H locs 0 0 (MQ below (pr_Qi D pr_cl prx_L ad dA A (res, σ)) args s 0 0 A) (F0 m 19 ls []) := by
  obtain ⟨hx, hb, hml, hown, hts, hr, hlocks, hK, hD, hX, hXs⟩ := id E
  intro n
  induction n with
  | zero =>
    intro σ x1 x2 x3 res hf
    rw [prf_X_otherBlock_19] at hf
    cases hf
  | succ n ih =>
    intro σ x1 x2 x3 res hf H locs ls hP hS hl
    rw [prf_X_otherBlock_19] at hf
    refine lv_aload_n hx hb prd_X_otherBlock_19 rfl (lv_at hl 0 rfl) ?_
    refine pr_getr (t := 21) hx hb hts prs_X hown hK hP 0 29 (by decide) rfl (hts _ prw_824) rfl prd_X_otherBlock_20 ?_
    refine lv_iload_n hx hb prd_X_otherBlock_23 rfl (lv_at hl 3 rfl) ?_
    obtain ⟨hi9, hf⟩ := pr_ck_in hf
    refine pr_iald (f := (σ.2.1 21)) hx hb hK hP 21 (by decide) rfl hi9 rfl prd_X_otherBlock_24 ?_
    refine lv_iload_n hx hb prd_X_otherBlock_25 rfl (lv_at hl 1 rfl) ?_
    refine lv_icmp_ne (tgt := 44) hx hb prd_X_otherBlock_26 (by decide) (fun c10 => ?_) (fun c10 => ?_)
    · have hf := pr_ie c10 hf
      refine lv_iinc (v := (x3 + 1)) (lv' := [(3, .int (x3 + 1)), (0, .ref (ad 0)), (1, .int x1), (2, .int x2)]) hx hb prd_X_otherBlock_44 hl (k := 3) rfl rfl (by decide) rfl (fun ls hl => ?_)
      refine lv_goto (tgt := 19) hx hb prd_X_otherBlock_47 (by decide) ?_
      exact ih σ x1 x2 (x3 + 1) _ hf _ _ _ hP hS (lv_sub hl [1, 2, 3, 0] rfl)
    · have hf := pr_it c10 hf
      refine lv_aload_n hx hb prd_X_otherBlock_29 rfl (lv_at hl 0 rfl) ?_
      refine pr_getr (t := 16) hx hb hts prs_X hown hK hP 0 22 (by decide) rfl (hts _ prw_839) rfl prd_X_otherBlock_30 ?_
      refine lv_aload_n hx hb prd_X_otherBlock_33 rfl (lv_at hl 0 rfl) ?_
      refine pr_getr (t := 20) hx hb hts prs_X hown hK hP 0 28 (by decide) rfl (hts _ prw_823) rfl prd_X_otherBlock_34 ?_
      refine lv_iload_n hx hb prd_X_otherBlock_37 rfl (lv_at hl 3 rfl) ?_
      obtain ⟨hi11, hf⟩ := pr_ck_in hf
      refine pr_iald (f := (σ.2.1 20)) hx hb hK hP 20 (by decide) rfl hi11 rfl prd_X_otherBlock_38 ?_
      obtain ⟨hi12, hf⟩ := pr_ck_in hf
      refine pr_iald (f := (σ.2.1 16)) hx hb hK hP 16 (by decide) rfl hi12 rfl prd_X_otherBlock_39 ?_
      refine lv_iload_n hx hb prd_X_otherBlock_40 rfl (lv_at hl 2 rfl) ?_
      refine lv_icmp_eq (tgt := 50) hx hb prd_X_otherBlock_41 (by decide) (fun c13 => ?_) (fun c13 => ?_)
      · have hf := pr_it c13 hf
        refine lv_iload_n hx hb prd_X_otherBlock_50 rfl (lv_at hl 3 rfl) ?_
        exact pr_reti E hP hS (pr_ro hf) prd_X_otherBlock_51
      · have hf := pr_ie c13 hf
        refine lv_iinc (v := (x3 + 1)) (lv' := [(3, .int (x3 + 1)), (0, .ref (ad 0)), (1, .int x1), (2, .int x2)]) hx hb prd_X_otherBlock_44 hl (k := 3) rfl rfl (by decide) rfl (fun ls hl => ?_)
        refine lv_goto (tgt := 19) hx hb prd_X_otherBlock_47 (by decide) ?_
        exact ih σ x1 x2 (x3 + 1) _ hf _ _ _ hP hS (lv_sub hl [1, 2, 3, 0] rfl)
set_option maxHeartbeats 4000000 in
set_option maxRecDepth 100000 in
theorem prc_X_otherBlock {l : Launch} {D : va_G} {ad : Nat → Nat} {dA : Nat → ClassId} {A : Nat → Prop} {v : Nat → Nat} {r : Value} (hD : ∀ σ : pr_St, va_D A (pr_w prx_L ad dA σ)) (hX : pr_Xok A (prY ad v r A)) (h : Nat) (hh : 2 ≤ h) (σ : pr_St) (x1 : Int32) (res : Int32) (hf : prf_X_otherBlock σ x1 = some res) : Met l pry_X_otherBlock (Cond.code pry_X_otherBlock prb_X_otherBlock 4 (some .int) :: pr_U) (pr_rm h) (pr_Pc (prY ad v r A) D pr_cl prx_L ad dA [.ref (ad 0), .int x1] σ) (pr_Qi D pr_cl prx_L ad dA A (res, σ)) 0 0 A := by
  refine pr_entry (cc := prb_X_otherBlock) (maxL := 4) (ret := (some .int)) (by decide) (Nat.le_of_ble_eq_true rfl) hD hX ?_
  intro p e s m args below meth c E H locs hP hS ls hl
  have hl : lv_has ls 4 [(0, .ref (ad 0)), (1, .int x1)] := hl
  have hf := hf.symm
  unfold prf_X_otherBlock at hf
  obtain ⟨hx, hb, hml, hown, hts, hr, hlocks, hK, hD, hX, hXs⟩ := id E
  refine lv_aload_n hx hb prd_X_otherBlock_0 rfl (lv_at hl 0 rfl) ?_
  refine lv_aload_n hx hb prd_X_otherBlock_1 rfl (lv_at hl 0 rfl) ?_
  refine lv_aload_n hx hb prd_X_otherBlock_2 rfl (lv_at hl 0 rfl) ?_
  refine pr_getr (t := 20) hx hb hts prs_X hown hK hP 0 28 (by decide) rfl (hts _ prw_823) rfl prd_X_otherBlock_3 ?_
  refine lv_iload_n hx hb prd_X_otherBlock_6 rfl (lv_at hl 1 rfl) ?_
  obtain ⟨hi14, hf⟩ := pr_ck_in hf
  refine pr_iald (f := (σ.2.1 20)) hx hb hK hP 20 (by decide) rfl hi14 rfl prd_X_otherBlock_7 ?_
  obtain ⟨r15, hr15, hf⟩ := pr_bi hf
  refine pr_callVr (rest := [.ref (ad 0)]) (r := r15) ⟨hx, hb, hml, hown, hts⟩ 0 (prc_X_second hD hX 1 (Nat.le_refl _) σ ((σ.2.1 20) x1.toNatClampNeg) r15 hr15) (prg_X_second hts prw_1051 (by have := hh; omega)) hX hXs hK hP hS (by decide) rfl rfl rfl rfl hl.1 (Nat.le_of_ble_eq_true rfl) prd_X_otherBlock_8 (fun H locs hP hS => ?_)
  obtain ⟨r16, hr16, hf⟩ := pr_bi hf
  refine pr_callVr (rest := []) (r := r16) ⟨hx, hb, hml, hown, hts⟩ 0 (prc_X_behind hD hX 0 (Nat.le_refl _) σ r15 r16 hr16) (prg_X_behind hts prw_1003 (by have := hh; omega)) hX hXs hK hP hS (by decide) rfl rfl rfl rfl hl.1 (Nat.le_of_ble_eq_true rfl) prd_X_otherBlock_11 (fun H locs hP hS => ?_)
  refine lv_istore_n (lv' := [(2, .int r16), (0, .ref (ad 0)), (1, .int x1)]) hx hb prd_X_otherBlock_14 rfl hl (by decide) rfl (fun ls hl => ?_)
  refine lv_iload_n hx hb prd_X_otherBlock_15 rfl (lv_at hl 2 rfl) ?_
  refine lv_iconst (v := 1) hx hb prd_X_otherBlock_16 (by decide) ?_
  refine lv_iadd hx hb prd_X_otherBlock_17 ?_
  refine lv_istore_n (lv' := [(3, .int (x1 + 1)), (2, .int r16), (0, .ref (ad 0)), (1, .int x1)]) hx hb prd_X_otherBlock_18 rfl hl (by decide) rfl (fun ls hl => ?_)
  exact prk_X_otherBlock_19 hh E pr_FU σ x1 r16 (x1 + 1) _ hf _ _ _ hP hS (lv_sub hl [2, 3, 1, 0] rfl)
-- X_step
set_option maxHeartbeats 4000000 in
set_option maxRecDepth 100000 in
theorem prk_X_step_117 {l : Launch} {D : va_G} {ad : Nat → Nat} {dA : Nat → ClassId} {A : Nat → Prop} {v : Nat → Nat} {r : Value} {p : Program} {e : Env} {s : State} {m : MethodId} {args : Array Value} {below : List Frame} {meth : Method} {c : Code} {h : Nat} (hh : 608 ≤ h) (E : pr_cx prn_X prb_X_step 10 (some .int) D pr_cl prx_L ad dA A (prY ad v r A) p s m args meth c) : ∀ n : Nat, ∀ (σ : pr_St) (x1 : Int32) (x5 : Int32) (res : (Int32 × pr_St)), some res = prf_X_step_117 n σ x1 x5 → ∀ (H : Heap) (locs : List Loc) (ls : Array Slot), va_P D pr_cl (pr_w prx_L ad dA σ) H → va_S A s.heap H locs → lv_has ls 10 [(0, .ref (ad 0)), (1, .int x1), (5, .int x5)] → W p l e (pr_rm h) s m args below meth c H locs 0 0 (MQ below (pr_Qi D pr_cl prx_L ad dA A res) args s 0 0 A) (F0 m 117 ls []) := by
  obtain ⟨hx, hb, hml, hown, hts, hr, hlocks, hK, hD, hX, hXs⟩ := id E
  intro n
  induction n with
  | zero =>
    intro σ x1 x5 res hf
    rw [prf_X_step_117] at hf
    cases hf
  | succ n ih =>
    intro σ x1 x5 res hf H locs ls hP hS hl
    rw [prf_X_step_117] at hf
    refine lv_iload hx hb prd_X_step_117 (lv_at hl 2 rfl) ?_
    refine lv_bipush (v := 64) hx hb prd_X_step_119 (by decide) ?_
    refine lv_icmp_ge (tgt := 148) hx hb prd_X_step_121 (by decide) (fun c98 => ?_) (fun c98 => ?_)
    · have hf := pr_it c98 hf
      refine lv_aload_n hx hb prd_X_step_148 rfl (lv_at hl 0 rfl) ?_
      refine lv_iload_n hx hb prd_X_step_149 rfl (lv_at hl 1 rfl) ?_
      obtain ⟨r99, hr99, hf⟩ := pr_bi hf
      refine pr_callVr (rest := []) (r := r99) ⟨hx, hb, hml, hown, hts⟩ 0 (prc_X_after hD hX 1 (Nat.le_refl _) σ x1 r99 hr99) (prg_X_after hts prw_1084 (by have := hh; omega)) hX hXs hK hP hS (by decide) rfl rfl rfl rfl hl.1 (Nat.le_of_ble_eq_true rfl) prd_X_step_150 (fun H locs hP hS => ?_)
      exact pr_reti E hP hS (pr_so hf) prd_X_step_153
    · have hf := pr_ie c98 hf
      refine lv_aload_n hx hb prd_X_step_124 rfl (lv_at hl 0 rfl) ?_
      refine pr_getr (t := 35) hx hb hts prs_X hown hK hP 0 53 (by decide) rfl (hts _ prw_1123) rfl prd_X_step_125 ?_
      refine lv_bipush (v := 64) hx hb prd_X_step_128 (by decide) ?_
      refine lv_aload_n hx hb prd_X_step_130 rfl (lv_at hl 0 rfl) ?_
      refine pr_getr (t := 24) hx hb hts prs_X hown hK hP 0 32 (by decide) rfl (hts _ prw_827) rfl prd_X_step_131 ?_
      refine lv_iload_n hx hb prd_X_step_134 rfl (lv_at hl 1 rfl) ?_
      obtain ⟨hi100, hf⟩ := pr_ck_in hf
      refine pr_iald (f := (σ.2.1 24)) hx hb hK hP 24 (by decide) rfl hi100 rfl prd_X_step_135 ?_
      refine lv_imul hx hb prd_X_step_136 ?_
      refine lv_iload hx hb prd_X_step_137 (lv_at hl 2 rfl) ?_
      refine lv_iadd hx hb prd_X_step_139 ?_
      refine lv_iconst (v := 0) hx hb prd_X_step_140 (by decide) ?_
      obtain ⟨hi101, hf⟩ := pr_ck_in hf
      refine pr_iast (f := (σ.2.1 35)) hx hb hK hP (hD _) hS 35 (by decide) rfl hi101 rfl prd_X_step_141 (fun H locs hP hS => ?_)
      refine lv_iinc (v := (x5 + 1)) (lv' := [(5, .int (x5 + 1)), (0, .ref (ad 0)), (1, .int x1)]) hx hb prd_X_step_142 hl (k := 2) rfl rfl (by decide) rfl (fun ls hl => ?_)
      refine lv_goto (tgt := 117) hx hb prd_X_step_145 (by decide) ?_
      exact ih (pr_sA σ 35 (upd (σ.2.1 35) ((64 * ((σ.2.1 24) x1.toNatClampNeg)) + x5).toNatClampNeg 0)) x1 (x5 + 1) _ hf _ _ _ hP hS (lv_sub hl [1, 2, 0] rfl)
set_option maxHeartbeats 4000000 in
set_option maxRecDepth 100000 in
theorem prk_X_step_348 {l : Launch} {D : va_G} {ad : Nat → Nat} {dA : Nat → ClassId} {A : Nat → Prop} {v : Nat → Nat} {r : Value} {p : Program} {e : Env} {s : State} {m : MethodId} {args : Array Value} {below : List Frame} {meth : Method} {c : Code} {h : Nat} (hh : 608 ≤ h) (E : pr_cx prn_X prb_X_step 10 (some .int) D pr_cl prx_L ad dA A (prY ad v r A) p s m args meth c) : ∀ (σ : pr_St) (x1 : Int32) (res : (Int32 × pr_St)), some res = prf_X_step_348 σ x1 → ∀ (H : Heap) (locs : List Loc) (ls : Array Slot), va_P D pr_cl (pr_w prx_L ad dA σ) H → va_S A s.heap H locs → lv_has ls 10 [(0, .ref (ad 0)), (1, .int x1)] → W p l e (pr_rm h) s m args below meth c H locs 0 0 (MQ below (pr_Qi D pr_cl prx_L ad dA A res) args s 0 0 A) (F0 m 348 ls []) := by
  obtain ⟨hx, hb, hml, hown, hts, hr, hlocks, hK, hD, hX, hXs⟩ := id E
  intro σ x1 res hf H locs ls hP hS hl
  unfold prf_X_step_348 at hf
  refine lv_aload_n hx hb prd_X_step_348 rfl (lv_at hl 0 rfl) ?_
  refine pr_getr (t := 22) hx hb hts prs_X hown hK hP 0 30 (by decide) rfl (hts _ prw_825) rfl prd_X_step_349 ?_
  refine lv_iload_n hx hb prd_X_step_352 rfl (lv_at hl 1 rfl) ?_
  obtain ⟨hi102, hf⟩ := pr_ck_in hf
  refine pr_iald (f := (σ.2.1 22)) hx hb hK hP 22 (by decide) rfl hi102 rfl prd_X_step_353 ?_
  refine lv_iload_n hx hb prd_X_step_354 rfl (lv_at hl 1 rfl) ?_
  refine lv_iconst (v := 1) hx hb prd_X_step_355 (by decide) ?_
  refine lv_iadd hx hb prd_X_step_356 ?_
  refine lv_icmp_le (tgt := 366) hx hb prd_X_step_357 (by decide) (fun c103 => ?_) (fun c103 => ?_)
  · have hf := pr_it c103 hf
    refine lv_aload_n hx hb prd_X_step_366 rfl (lv_at hl 0 rfl) ?_
    refine lv_iload_n hx hb prd_X_step_367 rfl (lv_at hl 1 rfl) ?_
    obtain ⟨r104, hr104, hf⟩ := pr_bi hf
    refine pr_callVr (rest := []) (r := r104) ⟨hx, hb, hml, hown, hts⟩ 0 (prc_X_after hD hX 1 (Nat.le_refl _) σ x1 r104 hr104) (prg_X_after hts prw_1084 (by have := hh; omega)) hX hXs hK hP hS (by decide) rfl rfl rfl rfl hl.1 (Nat.le_of_ble_eq_true rfl) prd_X_step_368 (fun H locs hP hS => ?_)
    exact pr_reti E hP hS (pr_so hf) prd_X_step_371
  · have hf := pr_ie c103 hf
    refine lv_iload_n hx hb prd_X_step_360 rfl (lv_at hl 1 rfl) ?_
    refine lv_iconst (v := 1) hx hb prd_X_step_361 (by decide) ?_
    refine lv_iadd hx hb prd_X_step_362 ?_
    refine lv_goto (tgt := 371) hx hb prd_X_step_363 (by decide) ?_
    exact pr_reti E hP hS (pr_so hf) prd_X_step_371
set_option maxHeartbeats 4000000 in
set_option maxRecDepth 100000 in
theorem prk_X_step_306 {l : Launch} {D : va_G} {ad : Nat → Nat} {dA : Nat → ClassId} {A : Nat → Prop} {v : Nat → Nat} {r : Value} {p : Program} {e : Env} {s : State} {m : MethodId} {args : Array Value} {below : List Frame} {meth : Method} {c : Code} {h : Nat} (hh : 608 ≤ h) (E : pr_cx prn_X prb_X_step 10 (some .int) D pr_cl prx_L ad dA A (prY ad v r A) p s m args meth c) : ∀ n : Nat, ∀ (σ : pr_St) (x1 : Int32) (x6 : Int32) (x7 : Int32) (res : (Int32 × pr_St)), some res = prf_X_step_306 n σ x1 x6 x7 → ∀ (H : Heap) (locs : List Loc) (ls : Array Slot), va_P D pr_cl (pr_w prx_L ad dA σ) H → va_S A s.heap H locs → lv_has ls 10 [(0, .ref (ad 0)), (1, .int x1), (6, .int x6), (7, .int x7)] → W p l e (pr_rm h) s m args below meth c H locs 0 0 (MQ below (pr_Qi D pr_cl prx_L ad dA A res) args s 0 0 A) (F0 m 306 ls []) := by
  obtain ⟨hx, hb, hml, hown, hts, hr, hlocks, hK, hD, hX, hXs⟩ := id E
  intro n
  induction n with
  | zero =>
    intro σ x1 x6 x7 res hf
    rw [prf_X_step_306] at hf
    cases hf
  | succ n ih =>
    intro σ x1 x6 x7 res hf H locs ls hP hS hl
    rw [prf_X_step_306] at hf
    refine lv_iload hx hb prd_X_step_306 (lv_at hl 3 rfl) ?_
    refine lv_iload hx hb prd_X_step_308 (lv_at hl 2 rfl) ?_
    refine lv_icmp_ge (tgt := 348) hx hb prd_X_step_310 (by decide) (fun c105 => ?_) (fun c105 => ?_)
    · have hf := pr_it c105 hf
      exact prk_X_step_348 hh E σ x1 _ hf _ _ _ hP hS (lv_sub hl [0, 1] rfl)
    · have hf := pr_ie c105 hf
      refine lv_aload_n hx hb prd_X_step_313 rfl (lv_at hl 0 rfl) ?_
      refine pr_geti (v := (σ.1 0 59)) hx hb hts prs_X hown hK hP 0 59 (by decide) rfl (hts _ prw_1099) rfl rfl prd_X_step_314 ?_
      refine lv_if_ne (tgt := 348) hx hb prd_X_step_317 (by decide) (fun c106 => ?_) (fun c106 => ?_)
      · have hf := pr_ie c106 hf
        exact prk_X_step_348 hh E σ x1 _ hf _ _ _ hP hS (lv_sub hl [0, 1] rfl)
      · have hf := pr_it c106 hf
        refine lv_aload_n hx hb prd_X_step_320 rfl (lv_at hl 0 rfl) ?_
        refine pr_getr (t := 34) hx hb hts prs_X hown hK hP 0 52 (by decide) rfl (hts _ prw_1121) rfl prd_X_step_321 ?_
        refine lv_aload_n hx hb prd_X_step_324 rfl (lv_at hl 0 rfl) ?_
        refine pr_getr (t := 23) hx hb hts prs_X hown hK hP 0 31 (by decide) rfl (hts _ prw_826) rfl prd_X_step_325 ?_
        refine lv_iload_n hx hb prd_X_step_328 rfl (lv_at hl 1 rfl) ?_
        obtain ⟨hi107, hf⟩ := pr_ck_in hf
        refine pr_iald (f := (σ.2.1 23)) hx hb hK hP 23 (by decide) rfl hi107 rfl prd_X_step_329 ?_
        refine lv_iload hx hb prd_X_step_330 (lv_at hl 3 rfl) ?_
        refine lv_iadd hx hb prd_X_step_332 ?_
        refine lv_aload_n hx hb prd_X_step_333 rfl (lv_at hl 0 rfl) ?_
        refine pr_getr (t := 36) hx hb hts prs_X hown hK hP 0 54 (by decide) rfl (hts _ prw_1141) rfl prd_X_step_334 ?_
        refine lv_iload hx hb prd_X_step_337 (lv_at hl 3 rfl) ?_
        obtain ⟨hi108, hf⟩ := pr_ck_in hf
        refine pr_lald (f := (σ.2.2 36)) hx hb hK hP 36 (by decide) rfl hi108 rfl prd_X_step_339 ?_
        refine lv_l2i (v := ((σ.2.2 36) x7.toNatClampNeg).toInt32) hx hb prd_X_step_340 rfl ?_
        obtain ⟨hi109, hf⟩ := pr_ck_in hf
        refine pr_iast (f := (σ.2.1 34)) hx hb hK hP (hD _) hS 34 (by decide) rfl hi109 rfl prd_X_step_341 (fun H locs hP hS => ?_)
        refine lv_iinc (v := (x7 + 1)) (lv' := [(7, .int (x7 + 1)), (0, .ref (ad 0)), (1, .int x1), (6, .int x6)]) hx hb prd_X_step_342 hl (k := 3) rfl rfl (by decide) rfl (fun ls hl => ?_)
        refine lv_goto (tgt := 306) hx hb prd_X_step_345 (by decide) ?_
        exact ih (pr_sA σ 34 (upd (σ.2.1 34) (((σ.2.1 23) x1.toNatClampNeg) + x7).toNatClampNeg (((σ.2.2 36) x7.toNatClampNeg).toInt32))) x1 x6 (x7 + 1) _ hf _ _ _ hP hS (lv_sub hl [1, 2, 3, 0] rfl)
set_option maxHeartbeats 4000000 in
set_option maxRecDepth 100000 in
theorem prk_X_step_259 {l : Launch} {D : va_G} {ad : Nat → Nat} {dA : Nat → ClassId} {A : Nat → Prop} {v : Nat → Nat} {r : Value} {p : Program} {e : Env} {s : State} {m : MethodId} {args : Array Value} {below : List Frame} {meth : Method} {c : Code} {h : Nat} (hh : 608 ≤ h) (E : pr_cx prn_X prb_X_step 10 (some .int) D pr_cl prx_L ad dA A (prY ad v r A) p s m args meth c) : ∀ n : Nat, ∀ (σ : pr_St) (x1 : Int32) (x2 : Int32) (x6 : Int32) (x7 : Int32) (res : (Int32 × pr_St)), some res = prf_X_step_259 n σ x1 x2 x6 x7 → ∀ (H : Heap) (locs : List Loc) (ls : Array Slot), va_P D pr_cl (pr_w prx_L ad dA σ) H → va_S A s.heap H locs → lv_has ls 10 [(0, .ref (ad 0)), (1, .int x1), (2, .int x2), (6, .int x6), (7, .int x7)] → W p l e (pr_rm h) s m args below meth c H locs 0 0 (MQ below (pr_Qi D pr_cl prx_L ad dA A res) args s 0 0 A) (F0 m 259 ls []) := by
  obtain ⟨hx, hb, hml, hown, hts, hr, hlocks, hK, hD, hX, hXs⟩ := id E
  intro n
  induction n with
  | zero =>
    intro σ x1 x2 x6 x7 res hf
    rw [prf_X_step_259] at hf
    cases hf
  | succ n ih =>
    intro σ x1 x2 x6 x7 res hf H locs ls hP hS hl
    rw [prf_X_step_259] at hf
    refine lv_iload hx hb prd_X_step_259 (lv_at hl 4 rfl) ?_
    refine lv_aload_n hx hb prd_X_step_261 rfl (lv_at hl 0 rfl) ?_
    refine lv_iload_n hx hb prd_X_step_262 rfl (lv_at hl 2 rfl) ?_
    obtain ⟨r110, hr110, hf⟩ := pr_bi hf
    refine pr_callVr (rest := [.int x7]) (r := r110) ⟨hx, hb, hml, hown, hts⟩ 0 (prc_X_behind hD hX 0 (Nat.le_refl _) σ x2 r110 hr110) (prg_X_behind hts prw_1003 (by have := hh; omega)) hX hXs hK hP hS (by decide) rfl rfl rfl rfl hl.1 (Nat.le_of_ble_eq_true rfl) prd_X_step_263 (fun H locs hP hS => ?_)
    refine lv_icmp_ge (tgt := 303) hx hb prd_X_step_266 (by decide) (fun c111 => ?_) (fun c111 => ?_)
    · have hf := pr_it c111 hf
      refine lv_iconst (v := 0) hx hb prd_X_step_303 (by decide) ?_
      refine lv_istore (lv' := [(7, .int 0), (0, .ref (ad 0)), (1, .int x1), (2, .int x2), (6, .int x6)]) hx hb prd_X_step_304 hl (by decide) rfl (fun ls hl => ?_)
      exact prk_X_step_306 hh E pr_FU σ x1 x6 0 _ hf _ _ _ hP hS (lv_sub hl [1, 2, 4, 0] rfl)
    · have hf := pr_ie c111 hf
      refine lv_aload_n hx hb prd_X_step_269 rfl (lv_at hl 0 rfl) ?_
      refine pr_geti (v := (σ.1 0 59)) hx hb hts prs_X hown hK hP 0 59 (by decide) rfl (hts _ prw_1099) rfl rfl prd_X_step_270 ?_
      refine lv_if_ne (tgt := 303) hx hb prd_X_step_273 (by decide) (fun c112 => ?_) (fun c112 => ?_)
      · have hf := pr_ie c112 hf
        refine lv_iconst (v := 0) hx hb prd_X_step_303 (by decide) ?_
        refine lv_istore (lv' := [(7, .int 0), (0, .ref (ad 0)), (1, .int x1), (2, .int x2), (6, .int x6)]) hx hb prd_X_step_304 hl (by decide) rfl (fun ls hl => ?_)
        exact prk_X_step_306 hh E pr_FU σ x1 x6 0 _ hf _ _ _ hP hS (lv_sub hl [1, 2, 4, 0] rfl)
      · have hf := pr_it c112 hf
        refine lv_aload_n hx hb prd_X_step_276 rfl (lv_at hl 0 rfl) ?_
        refine pr_getr (t := 36) hx hb hts prs_X hown hK hP 0 54 (by decide) rfl (hts _ prw_1141) rfl prd_X_step_277 ?_
        refine lv_iload hx hb prd_X_step_280 (lv_at hl 3 rfl) ?_
        refine lv_aload_n hx hb prd_X_step_282 rfl (lv_at hl 0 rfl) ?_
        refine lv_iload hx hb prd_X_step_283 (lv_at hl 4 rfl) ?_
        obtain ⟨r113, hr113, hf⟩ := pr_bi hf
        refine pr_callVl (rest := [.int x6, .ref (ad 36)]) (res := r113) ⟨hx, hb, hml, hown, hts⟩ 0 (prct_X_reckon hD hX σ x7 r113 hr113) (prg_X_reckon hts prw_1116 (by have := hh; omega)) hX hXs hK hP hS (by decide) rfl rfl rfl rfl hl.1 (Nat.le_of_ble_eq_true rfl) prd_X_step_285 (fun H locs hP hS => ?_)
        obtain ⟨hi114, hf⟩ := pr_ck_in hf
        refine pr_last (f := (r113.2.2.2 36)) hx hb hK hP (hD _) hS 36 (by decide) rfl hi114 rfl prd_X_step_288 (fun H locs hP hS => ?_)
        refine lv_iinc (v := (x6 + 1)) (lv' := [(6, .int (x6 + 1)), (0, .ref (ad 0)), (1, .int x1), (2, .int x2), (7, .int x7)]) hx hb prd_X_step_289 hl (k := 3) rfl rfl (by decide) rfl (fun ls hl => ?_)
        refine lv_aload_n hx hb prd_X_step_292 rfl (lv_at hl 1 rfl) ?_
        refine lv_iload hx hb prd_X_step_293 (lv_at hl 4 rfl) ?_
        obtain ⟨r115, hr115, hf⟩ := pr_bi hf
        refine pr_callVr (rest := []) (r := r115) ⟨hx, hb, hml, hown, hts⟩ 0 (prc_X_behind hD hX 0 (Nat.le_refl _) (pr_sL r113.2 36 (vp_updL (r113.2.2.2 36) x6.toNatClampNeg r113.1)) x7 r115 hr115) (prg_X_behind hts prw_1003 (by have := hh; omega)) hX hXs hK hP hS (by decide) rfl rfl rfl rfl hl.1 (Nat.le_of_ble_eq_true rfl) prd_X_step_295 (fun H locs hP hS => ?_)
        refine lv_istore (lv' := [(7, .int r115), (6, .int (x6 + 1)), (0, .ref (ad 0)), (1, .int x1), (2, .int x2)]) hx hb prd_X_step_298 hl (by decide) rfl (fun ls hl => ?_)
        refine lv_goto (tgt := 259) hx hb prd_X_step_300 (by decide) ?_
        exact ih (pr_sL r113.2 36 (vp_updL (r113.2.2.2 36) x6.toNatClampNeg r113.1)) x1 x2 (x6 + 1) r115 _ hf _ _ _ hP hS (lv_sub hl [2, 3, 4, 1, 0] rfl)
set_option maxHeartbeats 4000000 in
set_option maxRecDepth 100000 in
theorem prc_X_step {l : Launch} {D : va_G} {ad : Nat → Nat} {dA : Nat → ClassId} {A : Nat → Prop} {v : Nat → Nat} {r : Value} (hD : ∀ σ : pr_St, va_D A (pr_w prx_L ad dA σ)) (hX : pr_Xok A (prY ad v r A)) (h : Nat) (hh : 608 ≤ h) (σ : pr_St)  (res : (Int32 × pr_St)) (hf : prf_X_step σ  = some res) : Met l pry_X_step (Cond.code pry_X_step prb_X_step 10 (some .int) :: pr_U) (pr_rm h) (pr_Pc (prY ad v r A) D pr_cl prx_L ad dA [.ref (ad 0)] σ) (pr_Qi D pr_cl prx_L ad dA A res) 0 0 A := by
  refine pr_entry (cc := prb_X_step) (maxL := 10) (ret := (some .int)) (by decide) (Nat.le_of_ble_eq_true rfl) hD hX ?_
  intro p e s m args below meth c E H locs hP hS ls hl
  have hl : lv_has ls 10 [(0, .ref (ad 0))] := hl
  have hf := hf.symm
  unfold prf_X_step at hf
  obtain ⟨hx, hb, hml, hown, hts, hr, hlocks, hK, hD, hX, hXs⟩ := id E
  refine lv_aload_n hx hb prd_X_step_0 rfl (lv_at hl 0 rfl) ?_
  refine pr_geti (v := (σ.1 0 55)) hx hb hts prs_X hown hK hP 0 55 (by decide) rfl (hts _ prw_828) rfl rfl prd_X_step_1 ?_
  refine lv_istore_n (lv' := [(1, .int (σ.1 0 55)), (0, .ref (ad 0))]) hx hb prd_X_step_4 rfl hl (by decide) rfl (fun ls hl => ?_)
  refine lv_aload_n hx hb prd_X_step_5 rfl (lv_at hl 1 rfl) ?_
  refine pr_getr (t := 20) hx hb hts prs_X hown hK hP 0 28 (by decide) rfl (hts _ prw_823) rfl prd_X_step_6 ?_
  refine lv_iload_n hx hb prd_X_step_9 rfl (lv_at hl 0 rfl) ?_
  obtain ⟨hi116, hf⟩ := pr_ck_in hf
  refine pr_iald (f := (σ.2.1 20)) hx hb hK hP 20 (by decide) rfl hi116 rfl prd_X_step_10 ?_
  refine lv_istore_n (lv' := [(2, .int ((σ.2.1 20) (σ.1 0 55).toNatClampNeg)), (1, .int (σ.1 0 55)), (0, .ref (ad 0))]) hx hb prd_X_step_11 rfl hl (by decide) rfl (fun ls hl => ?_)
  refine lv_aload_n hx hb prd_X_step_12 rfl (lv_at hl 2 rfl) ?_
  refine pr_getr (t := 13) hx hb hts prs_X hown hK hP 0 19 (by decide) rfl (hts _ prw_835) rfl prd_X_step_13 ?_
  refine lv_iload_n hx hb prd_X_step_16 rfl (lv_at hl 0 rfl) ?_
  obtain ⟨hi117, hf⟩ := pr_ck_in hf
  refine pr_iald (f := (σ.2.1 13)) hx hb hK hP 13 (by decide) rfl hi117 rfl prd_X_step_17 ?_
  by_cases c118 : ((σ.2.1 13) ((σ.2.1 20) (σ.1 0 55).toNatClampNeg).toNatClampNeg) = 3
  · have hf := pr_it c118 hf
    refine lv_tableIn (tgt := 64) (off := 46) hx hb prd_X_step_18 (by rw [c118]; decide) (by rw [c118]; decide) (by rw [c118] <;> rfl) (by decide) ?_
    refine lv_aload_n hx hb prd_X_step_64 rfl (lv_at hl 2 rfl) ?_
    refine pr_getr (t := 17) hx hb hts prs_X hown hK hP 0 23 (by decide) rfl (hts _ prw_840) rfl prd_X_step_65 ?_
    refine lv_iload_n hx hb prd_X_step_68 rfl (lv_at hl 0 rfl) ?_
    obtain ⟨hi119, hf⟩ := pr_ck_in hf
    refine pr_iald (f := (σ.2.1 17)) hx hb hK hP 17 (by decide) rfl hi119 rfl prd_X_step_69 ?_
    refine lv_iconst (v := 2) hx hb prd_X_step_70 (by decide) ?_
    refine lv_icmp_ne (tgt := 78) hx hb prd_X_step_71 (by decide) (fun c120 => ?_) (fun c120 => ?_)
    · have hf := pr_ie c120 hf
      refine lv_aload_n hx hb prd_X_step_78 rfl (lv_at hl 2 rfl) ?_
      refine lv_aload_n hx hb prd_X_step_79 rfl (lv_at hl 2 rfl) ?_
      refine lv_iload_n hx hb prd_X_step_80 rfl (lv_at hl 0 rfl) ?_
      obtain ⟨r121, hr121, hf⟩ := pr_bi hf
      refine pr_callVr (rest := [.ref (ad 0)]) (r := r121) ⟨hx, hb, hml, hown, hts⟩ 0 (prc_X_second hD hX 1 (Nat.le_refl _) σ ((σ.2.1 20) (σ.1 0 55).toNatClampNeg) r121 hr121) (prg_X_second hts prw_1051 (by have := hh; omega)) hX hXs hK hP hS (by decide) rfl rfl rfl rfl hl.1 (Nat.le_of_ble_eq_true rfl) prd_X_step_81 (fun H locs hP hS => ?_)
      obtain ⟨r122, hr122, hf⟩ := pr_bi hf
      refine pr_callVl (rest := []) (res := r122) ⟨hx, hb, hml, hown, hts⟩ 0 (prct_X_reckon hD hX σ r121 r122 hr122) (prg_X_reckon hts prw_1116 (by have := hh; omega)) hX hXs hK hP hS (by decide) rfl rfl rfl rfl hl.1 (Nat.le_of_ble_eq_true rfl) prd_X_step_84 (fun H locs hP hS => ?_)
      refine lv_lstore_n (lv' := [(3, .long r122.1), (2, .int ((σ.2.1 20) (σ.1 0 55).toNatClampNeg)), (1, .int (σ.1 0 55)), (0, .ref (ad 0))]) hx hb prd_X_step_87 rfl hl (by decide) rfl (fun ls hl => ?_)
      refine lv_aload_n hx hb prd_X_step_88 rfl (lv_at hl 3 rfl) ?_
      refine pr_geti (v := (r122.2.1 0 59)) hx hb hts prs_X hown hK hP 0 59 (by decide) rfl (hts _ prw_1099) rfl rfl prd_X_step_89 ?_
      refine lv_if_ne (tgt := 108) hx hb prd_X_step_92 (by decide) (fun c123 => ?_) (fun c123 => ?_)
      · have hf := pr_ie c123 hf
        refine lv_aload_n hx hb prd_X_step_108 rfl (lv_at hl 3 rfl) ?_
        refine lv_iload_n hx hb prd_X_step_109 rfl (lv_at hl 2 rfl) ?_
        obtain ⟨r124, hr124, hf⟩ := pr_bi hf
        refine pr_callVr (rest := []) (r := r124) ⟨hx, hb, hml, hown, hts⟩ 0 (prc_X_after hD hX 1 (Nat.le_refl _) r122.2 (σ.1 0 55) r124 hr124) (prg_X_after hts prw_1084 (by have := hh; omega)) hX hXs hK hP hS (by decide) rfl rfl rfl rfl hl.1 (Nat.le_of_ble_eq_true rfl) prd_X_step_110 (fun H locs hP hS => ?_)
        exact pr_reti E hP hS (pr_so hf) prd_X_step_113
      · have hf := pr_it c123 hf
        refine lv_aload_n hx hb prd_X_step_95 rfl (lv_at hl 3 rfl) ?_
        refine pr_getr (t := 34) hx hb hts prs_X hown hK hP 0 52 (by decide) rfl (hts _ prw_1121) rfl prd_X_step_96 ?_
        refine lv_aload_n hx hb prd_X_step_99 rfl (lv_at hl 3 rfl) ?_
        refine pr_getr (t := 23) hx hb hts prs_X hown hK hP 0 31 (by decide) rfl (hts _ prw_826) rfl prd_X_step_100 ?_
        refine lv_iload_n hx hb prd_X_step_103 rfl (lv_at hl 2 rfl) ?_
        obtain ⟨hi125, hf⟩ := pr_ck_in hf
        refine pr_iald (f := (r122.2.2.1 23)) hx hb hK hP 23 (by decide) rfl hi125 rfl prd_X_step_104 ?_
        refine lv_lload_n hx hb prd_X_step_105 rfl (lv_at hl 0 rfl) ?_
        refine lv_l2i (v := r122.1.toInt32) hx hb prd_X_step_106 rfl ?_
        obtain ⟨hi126, hf⟩ := pr_ck_in hf
        refine pr_iast (f := (r122.2.2.1 34)) hx hb hK hP (hD _) hS 34 (by decide) rfl hi126 rfl prd_X_step_107 (fun H locs hP hS => ?_)
        refine lv_aload_n hx hb prd_X_step_108 rfl (lv_at hl 3 rfl) ?_
        refine lv_iload_n hx hb prd_X_step_109 rfl (lv_at hl 2 rfl) ?_
        obtain ⟨r127, hr127, hf⟩ := pr_bi hf
        refine pr_callVr (rest := []) (r := r127) ⟨hx, hb, hml, hown, hts⟩ 0 (prc_X_after hD hX 1 (Nat.le_refl _) (pr_sA r122.2 34 (upd (r122.2.2.1 34) ((r122.2.2.1 23) (σ.1 0 55).toNatClampNeg).toNatClampNeg r122.1.toInt32)) (σ.1 0 55) r127 hr127) (prg_X_after hts prw_1084 (by have := hh; omega)) hX hXs hK hP hS (by decide) rfl rfl rfl rfl hl.1 (Nat.le_of_ble_eq_true rfl) prd_X_step_110 (fun H locs hP hS => ?_)
        exact pr_reti E hP hS (pr_so hf) prd_X_step_113
    · have hf := pr_it c120 hf
      refine lv_lconst (v := 0) hx hb prd_X_step_74 (by decide) ?_
      refine lv_goto (tgt := 87) hx hb prd_X_step_75 (by decide) ?_
      refine lv_lstore_n (lv' := [(3, .long 0), (2, .int ((σ.2.1 20) (σ.1 0 55).toNatClampNeg)), (1, .int (σ.1 0 55)), (0, .ref (ad 0))]) hx hb prd_X_step_87 rfl hl (by decide) rfl (fun ls hl => ?_)
      refine lv_aload_n hx hb prd_X_step_88 rfl (lv_at hl 3 rfl) ?_
      refine pr_geti (v := (σ.1 0 59)) hx hb hts prs_X hown hK hP 0 59 (by decide) rfl (hts _ prw_1099) rfl rfl prd_X_step_89 ?_
      refine lv_if_ne (tgt := 108) hx hb prd_X_step_92 (by decide) (fun c128 => ?_) (fun c128 => ?_)
      · have hf := pr_ie c128 hf
        refine lv_aload_n hx hb prd_X_step_108 rfl (lv_at hl 3 rfl) ?_
        refine lv_iload_n hx hb prd_X_step_109 rfl (lv_at hl 2 rfl) ?_
        obtain ⟨r129, hr129, hf⟩ := pr_bi hf
        refine pr_callVr (rest := []) (r := r129) ⟨hx, hb, hml, hown, hts⟩ 0 (prc_X_after hD hX 1 (Nat.le_refl _) σ (σ.1 0 55) r129 hr129) (prg_X_after hts prw_1084 (by have := hh; omega)) hX hXs hK hP hS (by decide) rfl rfl rfl rfl hl.1 (Nat.le_of_ble_eq_true rfl) prd_X_step_110 (fun H locs hP hS => ?_)
        exact pr_reti E hP hS (pr_so hf) prd_X_step_113
      · have hf := pr_it c128 hf
        refine lv_aload_n hx hb prd_X_step_95 rfl (lv_at hl 3 rfl) ?_
        refine pr_getr (t := 34) hx hb hts prs_X hown hK hP 0 52 (by decide) rfl (hts _ prw_1121) rfl prd_X_step_96 ?_
        refine lv_aload_n hx hb prd_X_step_99 rfl (lv_at hl 3 rfl) ?_
        refine pr_getr (t := 23) hx hb hts prs_X hown hK hP 0 31 (by decide) rfl (hts _ prw_826) rfl prd_X_step_100 ?_
        refine lv_iload_n hx hb prd_X_step_103 rfl (lv_at hl 2 rfl) ?_
        obtain ⟨hi130, hf⟩ := pr_ck_in hf
        refine pr_iald (f := (σ.2.1 23)) hx hb hK hP 23 (by decide) rfl hi130 rfl prd_X_step_104 ?_
        refine lv_lload_n hx hb prd_X_step_105 rfl (lv_at hl 0 rfl) ?_
        refine lv_l2i (v := (Int64.toInt32 0)) hx hb prd_X_step_106 rfl ?_
        obtain ⟨hi131, hf⟩ := pr_ck_in hf
        refine pr_iast (f := (σ.2.1 34)) hx hb hK hP (hD _) hS 34 (by decide) rfl hi131 rfl prd_X_step_107 (fun H locs hP hS => ?_)
        refine lv_aload_n hx hb prd_X_step_108 rfl (lv_at hl 3 rfl) ?_
        refine lv_iload_n hx hb prd_X_step_109 rfl (lv_at hl 2 rfl) ?_
        obtain ⟨r132, hr132, hf⟩ := pr_bi hf
        refine pr_callVr (rest := []) (r := r132) ⟨hx, hb, hml, hown, hts⟩ 0 (prc_X_after hD hX 1 (Nat.le_refl _) (pr_sA σ 34 (upd (σ.2.1 34) ((σ.2.1 23) (σ.1 0 55).toNatClampNeg).toNatClampNeg (Int64.toInt32 0))) (σ.1 0 55) r132 hr132) (prg_X_after hts prw_1084 (by have := hh; omega)) hX hXs hK hP hS (by decide) rfl rfl rfl rfl hl.1 (Nat.le_of_ble_eq_true rfl) prd_X_step_110 (fun H locs hP hS => ?_)
        exact pr_reti E hP hS (pr_so hf) prd_X_step_113
  · have hf := pr_ie c118 hf
    by_cases c133 : ((σ.2.1 13) ((σ.2.1 20) (σ.1 0 55).toNatClampNeg).toNatClampNeg) = 4
    · have hf := pr_it c133 hf
      refine lv_tableIn (tgt := 114) (off := 96) hx hb prd_X_step_18 (by rw [c133]; decide) (by rw [c133]; decide) (by rw [c133] <;> rfl) (by decide) ?_
      refine lv_iconst (v := 0) hx hb prd_X_step_114 (by decide) ?_
      refine lv_istore (lv' := [(5, .int 0), (2, .int ((σ.2.1 20) (σ.1 0 55).toNatClampNeg)), (1, .int (σ.1 0 55)), (0, .ref (ad 0))]) hx hb prd_X_step_115 hl (by decide) rfl (fun ls hl => ?_)
      exact prk_X_step_117 hh E pr_FU σ (σ.1 0 55) 0 _ hf _ _ _ hP hS (lv_sub hl [3, 2, 0] rfl)
    · have hf := pr_ie c133 hf
      by_cases c134 : ((σ.2.1 13) ((σ.2.1 20) (σ.1 0 55).toNatClampNeg).toNatClampNeg) = 5
      · have hf := pr_it c134 hf
        refine lv_tableIn (tgt := 154) (off := 136) hx hb prd_X_step_18 (by rw [c134]; decide) (by rw [c134]; decide) (by rw [c134] <;> rfl) (by decide) ?_
        refine lv_aload_n hx hb prd_X_step_154 rfl (lv_at hl 2 rfl) ?_
        refine lv_aload_n hx hb prd_X_step_155 rfl (lv_at hl 2 rfl) ?_
        refine lv_iload_n hx hb prd_X_step_156 rfl (lv_at hl 0 rfl) ?_
        obtain ⟨r135, hr135, hf⟩ := pr_bi hf
        refine pr_callVr (rest := [.ref (ad 0)]) (r := r135) ⟨hx, hb, hml, hown, hts⟩ 0 (prc_X_second hD hX 1 (Nat.le_refl _) σ ((σ.2.1 20) (σ.1 0 55).toNatClampNeg) r135 hr135) (prg_X_second hts prw_1051 (by have := hh; omega)) hX hXs hK hP hS (by decide) rfl rfl rfl rfl hl.1 (Nat.le_of_ble_eq_true rfl) prd_X_step_157 (fun H locs hP hS => ?_)
        obtain ⟨r136, hr136, hf⟩ := pr_bi hf
        refine pr_callVl (rest := []) (res := r136) ⟨hx, hb, hml, hown, hts⟩ 0 (prct_X_reckon hD hX σ r135 r136 hr136) (prg_X_reckon hts prw_1116 (by have := hh; omega)) hX hXs hK hP hS (by decide) rfl rfl rfl rfl hl.1 (Nat.le_of_ble_eq_true rfl) prd_X_step_160 (fun H locs hP hS => ?_)
        refine lv_lstore_n (lv' := [(3, .long r136.1), (2, .int ((σ.2.1 20) (σ.1 0 55).toNatClampNeg)), (1, .int (σ.1 0 55)), (0, .ref (ad 0))]) hx hb prd_X_step_163 rfl hl (by decide) rfl (fun ls hl => ?_)
        refine lv_aload_n hx hb prd_X_step_164 rfl (lv_at hl 3 rfl) ?_
        refine pr_geti (v := (r136.2.1 0 59)) hx hb hts prs_X hown hK hP 0 59 (by decide) rfl (hts _ prw_1099) rfl rfl prd_X_step_165 ?_
        refine lv_if_ne (tgt := 195) hx hb prd_X_step_168 (by decide) (fun c137 => ?_) (fun c137 => ?_)
        · have hf := pr_ie c137 hf
          refine lv_aload_n hx hb prd_X_step_195 rfl (lv_at hl 3 rfl) ?_
          refine lv_iload_n hx hb prd_X_step_196 rfl (lv_at hl 2 rfl) ?_
          obtain ⟨r138, hr138, hf⟩ := pr_bi hf
          refine pr_callVr (rest := []) (r := r138) ⟨hx, hb, hml, hown, hts⟩ 0 (prc_X_after hD hX 1 (Nat.le_refl _) r136.2 (σ.1 0 55) r138 hr138) (prg_X_after hts prw_1084 (by have := hh; omega)) hX hXs hK hP hS (by decide) rfl rfl rfl rfl hl.1 (Nat.le_of_ble_eq_true rfl) prd_X_step_197 (fun H locs hP hS => ?_)
          exact pr_reti E hP hS (pr_so hf) prd_X_step_200
        · have hf := pr_it c137 hf
          refine lv_aload_n hx hb prd_X_step_171 rfl (lv_at hl 3 rfl) ?_
          refine pr_getr (t := 34) hx hb hts prs_X hown hK hP 0 52 (by decide) rfl (hts _ prw_1121) rfl prd_X_step_172 ?_
          refine lv_aload_n hx hb prd_X_step_175 rfl (lv_at hl 3 rfl) ?_
          refine pr_getr (t := 27) hx hb hts prs_X hown hK hP 0 36 (by decide) rfl (hts _ prw_1054) rfl prd_X_step_176 ?_
          refine lv_aload_n hx hb prd_X_step_179 rfl (lv_at hl 3 rfl) ?_
          refine lv_aload_n hx hb prd_X_step_180 rfl (lv_at hl 3 rfl) ?_
          refine pr_getr (t := 15) hx hb hts prs_X hown hK hP 0 21 (by decide) rfl (hts _ prw_838) rfl prd_X_step_181 ?_
          refine lv_iload_n hx hb prd_X_step_184 rfl (lv_at hl 1 rfl) ?_
          refine lv_iconst (v := 1) hx hb prd_X_step_185 (by decide) ?_
          refine lv_iadd hx hb prd_X_step_186 ?_
          obtain ⟨hi139, hf⟩ := pr_ck_in hf
          refine pr_iald (f := (r136.2.2.1 15)) hx hb hK hP 15 (by decide) rfl hi139 rfl prd_X_step_187 ?_
          obtain ⟨r140, hr140, hf⟩ := pr_bi hf
          refine pr_callVr (rest := [.ref (ad 27), .ref (ad 34)]) (r := r140) ⟨hx, hb, hml, hown, hts⟩ 0 (prc_X_meantAt hD hX 0 (Nat.le_refl _) r136.2 ((r136.2.2.1 15) (((σ.2.1 20) (σ.1 0 55).toNatClampNeg) + 1).toNatClampNeg) r140 hr140) (prg_X_meantAt hts prw_1117 (by have := hh; omega)) hX hXs hK hP hS (by decide) rfl rfl rfl rfl hl.1 (Nat.le_of_ble_eq_true rfl) prd_X_step_188 (fun H locs hP hS => ?_)
          obtain ⟨hi141, hf⟩ := pr_ck_in hf
          refine pr_iald (f := (r136.2.2.1 27)) hx hb hK hP 27 (by decide) rfl hi141 rfl prd_X_step_191 ?_
          refine lv_lload_n hx hb prd_X_step_192 rfl (lv_at hl 0 rfl) ?_
          refine lv_l2i (v := r136.1.toInt32) hx hb prd_X_step_193 rfl ?_
          obtain ⟨hi142, hf⟩ := pr_ck_in hf
          refine pr_iast (f := (r136.2.2.1 34)) hx hb hK hP (hD _) hS 34 (by decide) rfl hi142 rfl prd_X_step_194 (fun H locs hP hS => ?_)
          refine lv_aload_n hx hb prd_X_step_195 rfl (lv_at hl 3 rfl) ?_
          refine lv_iload_n hx hb prd_X_step_196 rfl (lv_at hl 2 rfl) ?_
          obtain ⟨r143, hr143, hf⟩ := pr_bi hf
          refine pr_callVr (rest := []) (r := r143) ⟨hx, hb, hml, hown, hts⟩ 0 (prc_X_after hD hX 1 (Nat.le_refl _) (pr_sA r136.2 34 (upd (r136.2.2.1 34) ((r136.2.2.1 27) r140.toNatClampNeg).toNatClampNeg r136.1.toInt32)) (σ.1 0 55) r143 hr143) (prg_X_after hts prw_1084 (by have := hh; omega)) hX hXs hK hP hS (by decide) rfl rfl rfl rfl hl.1 (Nat.le_of_ble_eq_true rfl) prd_X_step_197 (fun H locs hP hS => ?_)
          exact pr_reti E hP hS (pr_so hf) prd_X_step_200
      · have hf := pr_ie c134 hf
        by_cases c144 : ((σ.2.1 13) ((σ.2.1 20) (σ.1 0 55).toNatClampNeg).toNatClampNeg) = 6
        · have hf := pr_it c144 hf
          refine lv_tableIn (tgt := 201) (off := 183) hx hb prd_X_step_18 (by rw [c144]; decide) (by rw [c144]; decide) (by rw [c144] <;> rfl) (by decide) ?_
          refine lv_aload_n hx hb prd_X_step_201 rfl (lv_at hl 2 rfl) ?_
          refine lv_iload_n hx hb prd_X_step_202 rfl (lv_at hl 0 rfl) ?_
          refine lv_iconst (v := 1) hx hb prd_X_step_203 (by decide) ?_
          refine lv_iadd hx hb prd_X_step_204 ?_
          refine lv_aload_n hx hb prd_X_step_205 rfl (lv_at hl 2 rfl) ?_
          refine lv_iload_n hx hb prd_X_step_206 rfl (lv_at hl 0 rfl) ?_
          obtain ⟨r145, hr145, hf⟩ := pr_bi hf
          refine pr_callVr (rest := [.int (((σ.2.1 20) (σ.1 0 55).toNatClampNeg) + 1), .ref (ad 0)]) (r := r145) ⟨hx, hb, hml, hown, hts⟩ 0 (prc_X_second hD hX 1 (Nat.le_refl _) σ ((σ.2.1 20) (σ.1 0 55).toNatClampNeg) r145 hr145) (prg_X_second hts prw_1051 (by have := hh; omega)) hX hXs hK hP hS (by decide) rfl rfl rfl rfl hl.1 (Nat.le_of_ble_eq_true rfl) prd_X_step_207 (fun H locs hP hS => ?_)
          obtain ⟨r146, hr146, hf⟩ := pr_bi hf
          refine pr_callVi (rest := []) (res := r146) ⟨hx, hb, hml, hown, hts⟩ 0 (prct_X_placeOf hD hX σ (((σ.2.1 20) (σ.1 0 55).toNatClampNeg) + 1) r145 r146 hr146) (prg_X_placeOf hts prw_1122 (by have := hh; omega)) hX hXs hK hP hS (by decide) rfl rfl rfl rfl hl.1 (Nat.le_of_ble_eq_true rfl) prd_X_step_210 (fun H locs hP hS => ?_)
          refine lv_istore (lv' := [(5, .int r146.1), (2, .int ((σ.2.1 20) (σ.1 0 55).toNatClampNeg)), (1, .int (σ.1 0 55)), (0, .ref (ad 0))]) hx hb prd_X_step_213 hl (by decide) rfl (fun ls hl => ?_)
          refine lv_aload_n hx hb prd_X_step_215 rfl (lv_at hl 3 rfl) ?_
          refine lv_aload_n hx hb prd_X_step_216 rfl (lv_at hl 3 rfl) ?_
          refine lv_aload_n hx hb prd_X_step_217 rfl (lv_at hl 3 rfl) ?_
          refine lv_iload_n hx hb prd_X_step_218 rfl (lv_at hl 1 rfl) ?_
          obtain ⟨r147, hr147, hf⟩ := pr_bi hf
          refine pr_callVr (rest := [.ref (ad 0), .ref (ad 0)]) (r := r147) ⟨hx, hb, hml, hown, hts⟩ 0 (prc_X_second hD hX 1 (Nat.le_refl _) r146.2 ((σ.2.1 20) (σ.1 0 55).toNatClampNeg) r147 hr147) (prg_X_second hts prw_1051 (by have := hh; omega)) hX hXs hK hP hS (by decide) rfl rfl rfl rfl hl.1 (Nat.le_of_ble_eq_true rfl) prd_X_step_219 (fun H locs hP hS => ?_)
          obtain ⟨r148, hr148, hf⟩ := pr_bi hf
          refine pr_callVr (rest := [.ref (ad 0)]) (r := r148) ⟨hx, hb, hml, hown, hts⟩ 0 (prc_X_behind hD hX 0 (Nat.le_refl _) r146.2 r147 r148 hr148) (prg_X_behind hts prw_1003 (by have := hh; omega)) hX hXs hK hP hS (by decide) rfl rfl rfl rfl hl.1 (Nat.le_of_ble_eq_true rfl) prd_X_step_222 (fun H locs hP hS => ?_)
          obtain ⟨r149, hr149, hf⟩ := pr_bi hf
          refine pr_callVl (rest := []) (res := r149) ⟨hx, hb, hml, hown, hts⟩ 0 (prct_X_reckon hD hX r146.2 r148 r149 hr149) (prg_X_reckon hts prw_1116 (by have := hh; omega)) hX hXs hK hP hS (by decide) rfl rfl rfl rfl hl.1 (Nat.le_of_ble_eq_true rfl) prd_X_step_225 (fun H locs hP hS => ?_)
          refine lv_lstore_n (lv' := [(3, .long r149.1), (5, .int r146.1), (2, .int ((σ.2.1 20) (σ.1 0 55).toNatClampNeg)), (1, .int (σ.1 0 55)), (0, .ref (ad 0))]) hx hb prd_X_step_228 rfl hl (by decide) rfl (fun ls hl => ?_)
          refine lv_aload_n hx hb prd_X_step_229 rfl (lv_at hl 4 rfl) ?_
          refine pr_geti (v := (r149.2.1 0 59)) hx hb hts prs_X hown hK hP 0 59 (by decide) rfl (hts _ prw_1099) rfl rfl prd_X_step_230 ?_
          refine lv_if_ne (tgt := 245) hx hb prd_X_step_233 (by decide) (fun c150 => ?_) (fun c150 => ?_)
          · have hf := pr_ie c150 hf
            refine lv_aload_n hx hb prd_X_step_245 rfl (lv_at hl 4 rfl) ?_
            refine lv_iload_n hx hb prd_X_step_246 rfl (lv_at hl 3 rfl) ?_
            obtain ⟨r151, hr151, hf⟩ := pr_bi hf
            refine pr_callVr (rest := []) (r := r151) ⟨hx, hb, hml, hown, hts⟩ 0 (prc_X_after hD hX 1 (Nat.le_refl _) r149.2 (σ.1 0 55) r151 hr151) (prg_X_after hts prw_1084 (by have := hh; omega)) hX hXs hK hP hS (by decide) rfl rfl rfl rfl hl.1 (Nat.le_of_ble_eq_true rfl) prd_X_step_247 (fun H locs hP hS => ?_)
            exact pr_reti E hP hS (pr_so hf) prd_X_step_250
          · have hf := pr_it c150 hf
            refine lv_aload_n hx hb prd_X_step_236 rfl (lv_at hl 4 rfl) ?_
            refine pr_getr (t := 35) hx hb hts prs_X hown hK hP 0 53 (by decide) rfl (hts _ prw_1123) rfl prd_X_step_237 ?_
            refine lv_iload hx hb prd_X_step_240 (lv_at hl 1 rfl) ?_
            refine lv_lload_n hx hb prd_X_step_242 rfl (lv_at hl 0 rfl) ?_
            refine lv_l2i (v := r149.1.toInt32) hx hb prd_X_step_243 rfl ?_
            obtain ⟨hi152, hf⟩ := pr_ck_in hf
            refine pr_iast (f := (r149.2.2.1 35)) hx hb hK hP (hD _) hS 35 (by decide) rfl hi152 rfl prd_X_step_244 (fun H locs hP hS => ?_)
            refine lv_aload_n hx hb prd_X_step_245 rfl (lv_at hl 4 rfl) ?_
            refine lv_iload_n hx hb prd_X_step_246 rfl (lv_at hl 3 rfl) ?_
            obtain ⟨r153, hr153, hf⟩ := pr_bi hf
            refine pr_callVr (rest := []) (r := r153) ⟨hx, hb, hml, hown, hts⟩ 0 (prc_X_after hD hX 1 (Nat.le_refl _) (pr_sA r149.2 35 (upd (r149.2.2.1 35) r146.1.toNatClampNeg r149.1.toInt32)) (σ.1 0 55) r153 hr153) (prg_X_after hts prw_1084 (by have := hh; omega)) hX hXs hK hP hS (by decide) rfl rfl rfl rfl hl.1 (Nat.le_of_ble_eq_true rfl) prd_X_step_247 (fun H locs hP hS => ?_)
            exact pr_reti E hP hS (pr_so hf) prd_X_step_250
        · have hf := pr_ie c144 hf
          by_cases c154 : ((σ.2.1 13) ((σ.2.1 20) (σ.1 0 55).toNatClampNeg).toNatClampNeg) = 7
          · have hf := pr_it c154 hf
            refine lv_tableIn (tgt := 251) (off := 233) hx hb prd_X_step_18 (by rw [c154]; decide) (by rw [c154]; decide) (by rw [c154] <;> rfl) (by decide) ?_
            refine lv_iconst (v := 0) hx hb prd_X_step_251 (by decide) ?_
            refine lv_istore (lv' := [(6, .int 0), (2, .int ((σ.2.1 20) (σ.1 0 55).toNatClampNeg)), (1, .int (σ.1 0 55)), (0, .ref (ad 0))]) hx hb prd_X_step_252 hl (by decide) rfl (fun ls hl => ?_)
            refine lv_iload_n hx hb prd_X_step_254 rfl (lv_at hl 1 rfl) ?_
            refine lv_iconst (v := 3) hx hb prd_X_step_255 (by decide) ?_
            refine lv_iadd hx hb prd_X_step_256 ?_
            refine lv_istore (lv' := [(7, .int (((σ.2.1 20) (σ.1 0 55).toNatClampNeg) + 3)), (6, .int 0), (2, .int ((σ.2.1 20) (σ.1 0 55).toNatClampNeg)), (1, .int (σ.1 0 55)), (0, .ref (ad 0))]) hx hb prd_X_step_257 hl (by decide) rfl (fun ls hl => ?_)
            exact prk_X_step_259 hh E pr_FU σ (σ.1 0 55) ((σ.2.1 20) (σ.1 0 55).toNatClampNeg) 0 (((σ.2.1 20) (σ.1 0 55).toNatClampNeg) + 3) _ hf _ _ _ hP hS (lv_sub hl [4, 3, 2, 1, 0] rfl)
          · have hf := pr_ie c154 hf
            by_cases c155 : ((σ.2.1 13) ((σ.2.1 20) (σ.1 0 55).toNatClampNeg).toNatClampNeg) = 8
            · have hf := pr_it c155 hf
              refine lv_tableIn (tgt := 372) (off := 354) hx hb prd_X_step_18 (by rw [c155]; decide) (by rw [c155]; decide) (by rw [c155] <;> rfl) (by decide) ?_
              refine lv_aload_n hx hb prd_X_step_372 rfl (lv_at hl 2 rfl) ?_
              refine lv_iload_n hx hb prd_X_step_373 rfl (lv_at hl 0 rfl) ?_
              refine lv_iconst (v := 1) hx hb prd_X_step_374 (by decide) ?_
              refine lv_iadd hx hb prd_X_step_375 ?_
              obtain ⟨r156, hr156, hf⟩ := pr_bi hf
              refine pr_callVi (rest := []) (res := r156) ⟨hx, hb, hml, hown, hts⟩ 0 (prct_X_holds hD hX σ (((σ.2.1 20) (σ.1 0 55).toNatClampNeg) + 1) r156 hr156) (prg_X_holds hts prw_1129 (by have := hh; omega)) hX hXs hK hP hS (by decide) rfl rfl rfl rfl hl.1 (Nat.le_of_ble_eq_true rfl) prd_X_step_376 (fun H locs hP hS => ?_)
              refine lv_istore (lv' := [(7, .int r156.1), (2, .int ((σ.2.1 20) (σ.1 0 55).toNatClampNeg)), (1, .int (σ.1 0 55)), (0, .ref (ad 0))]) hx hb prd_X_step_379 hl (by decide) rfl (fun ls hl => ?_)
              refine lv_aload_n hx hb prd_X_step_381 rfl (lv_at hl 3 rfl) ?_
              refine lv_iload_n hx hb prd_X_step_382 rfl (lv_at hl 1 rfl) ?_
              obtain ⟨r157, hr157, hf⟩ := pr_bi hf
              refine pr_callVr (rest := []) (r := r157) ⟨hx, hb, hml, hown, hts⟩ 0 (prc_X_second hD hX 1 (Nat.le_refl _) r156.2 ((σ.2.1 20) (σ.1 0 55).toNatClampNeg) r157 hr157) (prg_X_second hts prw_1051 (by have := hh; omega)) hX hXs hK hP hS (by decide) rfl rfl rfl rfl hl.1 (Nat.le_of_ble_eq_true rfl) prd_X_step_383 (fun H locs hP hS => ?_)
              refine lv_istore (lv' := [(8, .int r157), (7, .int r156.1), (2, .int ((σ.2.1 20) (σ.1 0 55).toNatClampNeg)), (1, .int (σ.1 0 55)), (0, .ref (ad 0))]) hx hb prd_X_step_386 hl (by decide) rfl (fun ls hl => ?_)
              refine lv_aload_n hx hb prd_X_step_388 rfl (lv_at hl 4 rfl) ?_
              refine pr_geti (v := (r156.2.1 0 59)) hx hb hts prs_X hown hK hP 0 59 (by decide) rfl (hts _ prw_1099) rfl rfl prd_X_step_389 ?_
              refine lv_if_le (tgt := 397) hx hb prd_X_step_392 (by decide) (fun c158 => ?_) (fun c158 => ?_)
              · have hf := pr_it c158 hf
                refine lv_iload hx hb prd_X_step_397 (lv_at hl 1 rfl) ?_
                refine lv_if_eq (tgt := 425) hx hb prd_X_step_399 (by decide) (fun c159 => ?_) (fun c159 => ?_)
                · have hf := pr_it c159 hf
                  refine lv_aload_n hx hb prd_X_step_425 rfl (lv_at hl 4 rfl) ?_
                  refine lv_iload hx hb prd_X_step_426 (lv_at hl 0 rfl) ?_
                  obtain ⟨r160, hr160, hf⟩ := pr_bi hf
                  refine pr_callVr (rest := []) (r := r160) ⟨hx, hb, hml, hown, hts⟩ 0 (prc_X_behind hD hX 0 (Nat.le_refl _) r156.2 r157 r160 hr160) (prg_X_behind hts prw_1003 (by have := hh; omega)) hX hXs hK hP hS (by decide) rfl rfl rfl rfl hl.1 (Nat.le_of_ble_eq_true rfl) prd_X_step_428 (fun H locs hP hS => ?_)
                  refine lv_aload_n hx hb prd_X_step_431 rfl (lv_at hl 4 rfl) ?_
                  refine lv_iload_n hx hb prd_X_step_432 rfl (lv_at hl 2 rfl) ?_
                  obtain ⟨r161, hr161, hf⟩ := pr_bi hf
                  refine pr_callVr (rest := [.int r160]) (r := r161) ⟨hx, hb, hml, hown, hts⟩ 0 (prc_X_behind hD hX 0 (Nat.le_refl _) r156.2 ((σ.2.1 20) (σ.1 0 55).toNatClampNeg) r161 hr161) (prg_X_behind hts prw_1003 (by have := hh; omega)) hX hXs hK hP hS (by decide) rfl rfl rfl rfl hl.1 (Nat.le_of_ble_eq_true rfl) prd_X_step_433 (fun H locs hP hS => ?_)
                  refine lv_icmp_ge (tgt := 462) hx hb prd_X_step_436 (by decide) (fun c162 => ?_) (fun c162 => ?_)
                  · have hf := pr_it c162 hf
                    refine lv_aload_n hx hb prd_X_step_462 rfl (lv_at hl 4 rfl) ?_
                    refine lv_iload_n hx hb prd_X_step_463 rfl (lv_at hl 3 rfl) ?_
                    obtain ⟨r163, hr163, hf⟩ := pr_bi hf
                    refine pr_callVr (rest := []) (r := r163) ⟨hx, hb, hml, hown, hts⟩ 0 (prc_X_after hD hX 1 (Nat.le_refl _) r156.2 (σ.1 0 55) r163 hr163) (prg_X_after hts prw_1084 (by have := hh; omega)) hX hXs hK hP hS (by decide) rfl rfl rfl rfl hl.1 (Nat.le_of_ble_eq_true rfl) prd_X_step_464 (fun H locs hP hS => ?_)
                    exact pr_reti E hP hS (pr_so hf) prd_X_step_467
                  · have hf := pr_ie c162 hf
                    refine lv_aload_n hx hb prd_X_step_439 rfl (lv_at hl 4 rfl) ?_
                    refine pr_getr (t := 17) hx hb hts prs_X hown hK hP 0 23 (by decide) rfl (hts _ prw_840) rfl prd_X_step_440 ?_
                    refine lv_aload_n hx hb prd_X_step_443 rfl (lv_at hl 4 rfl) ?_
                    refine lv_iload hx hb prd_X_step_444 (lv_at hl 0 rfl) ?_
                    obtain ⟨r164, hr164, hf⟩ := pr_bi hf
                    refine pr_callVr (rest := [.ref (ad 17)]) (r := r164) ⟨hx, hb, hml, hown, hts⟩ 0 (prc_X_behind hD hX 0 (Nat.le_refl _) r156.2 r157 r164 hr164) (prg_X_behind hts prw_1003 (by have := hh; omega)) hX hXs hK hP hS (by decide) rfl rfl rfl rfl hl.1 (Nat.le_of_ble_eq_true rfl) prd_X_step_446 (fun H locs hP hS => ?_)
                    obtain ⟨hi165, hf⟩ := pr_ck_in hf
                    refine pr_iald (f := (r156.2.2.1 17)) hx hb hK hP 17 (by decide) rfl hi165 rfl prd_X_step_449 ?_
                    refine lv_iconst (v := 1) hx hb prd_X_step_450 (by decide) ?_
                    refine lv_icmp_le (tgt := 462) hx hb prd_X_step_451 (by decide) (fun c166 => ?_) (fun c166 => ?_)
                    · have hf := pr_it c166 hf
                      refine lv_aload_n hx hb prd_X_step_462 rfl (lv_at hl 4 rfl) ?_
                      refine lv_iload_n hx hb prd_X_step_463 rfl (lv_at hl 3 rfl) ?_
                      obtain ⟨r167, hr167, hf⟩ := pr_bi hf
                      refine pr_callVr (rest := []) (r := r167) ⟨hx, hb, hml, hown, hts⟩ 0 (prc_X_after hD hX 1 (Nat.le_refl _) r156.2 (σ.1 0 55) r167 hr167) (prg_X_after hts prw_1084 (by have := hh; omega)) hX hXs hK hP hS (by decide) rfl rfl rfl rfl hl.1 (Nat.le_of_ble_eq_true rfl) prd_X_step_464 (fun H locs hP hS => ?_)
                      exact pr_reti E hP hS (pr_so hf) prd_X_step_467
                    · have hf := pr_ie c166 hf
                      refine lv_aload_n hx hb prd_X_step_454 rfl (lv_at hl 4 rfl) ?_
                      refine lv_iload_n hx hb prd_X_step_455 rfl (lv_at hl 3 rfl) ?_
                      obtain ⟨r168, hr168, hf⟩ := pr_bi hf
                      refine pr_callVr (rest := []) (r := r168) ⟨hx, hb, hml, hown, hts⟩ 0 (prc_X_otherBlock hD hX 2 (Nat.le_refl _) r156.2 (σ.1 0 55) r168 hr168) (prg_X_otherBlock hts prw_1139 (by have := hh; omega)) hX hXs hK hP hS (by decide) rfl rfl rfl rfl hl.1 (Nat.le_of_ble_eq_true rfl) prd_X_step_456 (fun H locs hP hS => ?_)
                      refine lv_goto (tgt := 467) hx hb prd_X_step_459 (by decide) ?_
                      exact pr_reti E hP hS (pr_so hf) prd_X_step_467
                · have hf := pr_ie c159 hf
                  refine lv_aload_n hx hb prd_X_step_402 rfl (lv_at hl 4 rfl) ?_
                  refine pr_getr (t := 17) hx hb hts prs_X hown hK hP 0 23 (by decide) rfl (hts _ prw_840) rfl prd_X_step_403 ?_
                  refine lv_iload hx hb prd_X_step_406 (lv_at hl 0 rfl) ?_
                  obtain ⟨hi169, hf⟩ := pr_ck_in hf
                  refine pr_iald (f := (r156.2.2.1 17)) hx hb hK hP 17 (by decide) rfl hi169 rfl prd_X_step_408 ?_
                  refine lv_iconst (v := 1) hx hb prd_X_step_409 (by decide) ?_
                  refine lv_icmp_le (tgt := 419) hx hb prd_X_step_410 (by decide) (fun c170 => ?_) (fun c170 => ?_)
                  · have hf := pr_it c170 hf
                    refine lv_aload_n hx hb prd_X_step_419 rfl (lv_at hl 4 rfl) ?_
                    refine lv_iload_n hx hb prd_X_step_420 rfl (lv_at hl 3 rfl) ?_
                    obtain ⟨r171, hr171, hf⟩ := pr_bi hf
                    refine pr_callVr (rest := []) (r := r171) ⟨hx, hb, hml, hown, hts⟩ 0 (prc_X_after hD hX 1 (Nat.le_refl _) r156.2 (σ.1 0 55) r171 hr171) (prg_X_after hts prw_1084 (by have := hh; omega)) hX hXs hK hP hS (by decide) rfl rfl rfl rfl hl.1 (Nat.le_of_ble_eq_true rfl) prd_X_step_421 (fun H locs hP hS => ?_)
                    exact pr_reti E hP hS (pr_so hf) prd_X_step_424
                  · have hf := pr_ie c170 hf
                    refine lv_iload_n hx hb prd_X_step_413 rfl (lv_at hl 3 rfl) ?_
                    refine lv_iconst (v := 1) hx hb prd_X_step_414 (by decide) ?_
                    refine lv_iadd hx hb prd_X_step_415 ?_
                    refine lv_goto (tgt := 424) hx hb prd_X_step_416 (by decide) ?_
                    exact pr_reti E hP hS (pr_so hf) prd_X_step_424
              · have hf := pr_ie c158 hf
                refine lv_iload_n hx hb prd_X_step_395 rfl (lv_at hl 3 rfl) ?_
                exact pr_reti E hP hS (pr_so hf) prd_X_step_396
            · have hf := pr_ie c155 hf
              by_cases c172 : ((σ.2.1 13) ((σ.2.1 20) (σ.1 0 55).toNatClampNeg).toNatClampNeg) = 9
              · have hf := pr_it c172 hf
                refine lv_tableIn (tgt := 468) (off := 450) hx hb prd_X_step_18 (by rw [c172]; decide) (by rw [c172]; decide) (by rw [c172] <;> rfl) (by decide) ?_
                refine lv_aload_n hx hb prd_X_step_468 rfl (lv_at hl 2 rfl) ?_
                refine lv_iload_n hx hb prd_X_step_469 rfl (lv_at hl 0 rfl) ?_
                refine lv_iconst (v := 1) hx hb prd_X_step_470 (by decide) ?_
                refine lv_iadd hx hb prd_X_step_471 ?_
                obtain ⟨r173, hr173, hf⟩ := pr_bi hf
                refine pr_callVi (rest := []) (res := r173) ⟨hx, hb, hml, hown, hts⟩ 0 (prct_X_holds hD hX σ (((σ.2.1 20) (σ.1 0 55).toNatClampNeg) + 1) r173 hr173) (prg_X_holds hts prw_1129 (by have := hh; omega)) hX hXs hK hP hS (by decide) rfl rfl rfl rfl hl.1 (Nat.le_of_ble_eq_true rfl) prd_X_step_472 (fun H locs hP hS => ?_)
                refine lv_istore (lv' := [(9, .int r173.1), (2, .int ((σ.2.1 20) (σ.1 0 55).toNatClampNeg)), (1, .int (σ.1 0 55)), (0, .ref (ad 0))]) hx hb prd_X_step_475 hl (by decide) rfl (fun ls hl => ?_)
                refine lv_aload_n hx hb prd_X_step_477 rfl (lv_at hl 3 rfl) ?_
                refine pr_geti (v := (r173.2.1 0 59)) hx hb hts prs_X hown hK hP 0 59 (by decide) rfl (hts _ prw_1099) rfl rfl prd_X_step_478 ?_
                refine lv_if_le (tgt := 488) hx hb prd_X_step_481 (by decide) (fun c174 => ?_) (fun c174 => ?_)
                · have hf := pr_it c174 hf
                  refine lv_iload hx hb prd_X_step_488 (lv_at hl 0 rfl) ?_
                  refine lv_if_ne (tgt := 501) hx hb prd_X_step_490 (by decide) (fun c175 => ?_) (fun c175 => ?_)
                  · have hf := pr_ie c175 hf
                    refine lv_aload_n hx hb prd_X_step_501 rfl (lv_at hl 3 rfl) ?_
                    refine pr_getr (t := 17) hx hb hts prs_X hown hK hP 0 23 (by decide) rfl (hts _ prw_840) rfl prd_X_step_502 ?_
                    refine lv_aload_n hx hb prd_X_step_505 rfl (lv_at hl 3 rfl) ?_
                    refine lv_iload_n hx hb prd_X_step_506 rfl (lv_at hl 1 rfl) ?_
                    obtain ⟨r176, hr176, hf⟩ := pr_bi hf
                    refine pr_callVr (rest := [.ref (ad 17)]) (r := r176) ⟨hx, hb, hml, hown, hts⟩ 0 (prc_X_second hD hX 1 (Nat.le_refl _) r173.2 ((σ.2.1 20) (σ.1 0 55).toNatClampNeg) r176 hr176) (prg_X_second hts prw_1051 (by have := hh; omega)) hX hXs hK hP hS (by decide) rfl rfl rfl rfl hl.1 (Nat.le_of_ble_eq_true rfl) prd_X_step_507 (fun H locs hP hS => ?_)
                    obtain ⟨hi177, hf⟩ := pr_ck_in hf
                    refine pr_iald (f := (r173.2.2.1 17)) hx hb hK hP 17 (by decide) rfl hi177 rfl prd_X_step_510 ?_
                    refine lv_iconst (v := 1) hx hb prd_X_step_511 (by decide) ?_
                    refine lv_icmp_le (tgt := 521) hx hb prd_X_step_512 (by decide) (fun c178 => ?_) (fun c178 => ?_)
                    · have hf := pr_it c178 hf
                      refine lv_iload_n hx hb prd_X_step_521 rfl (lv_at hl 2 rfl) ?_
                      exact pr_reti E hP hS (pr_so hf) prd_X_step_522
                    · have hf := pr_ie c178 hf
                      refine lv_iload_n hx hb prd_X_step_515 rfl (lv_at hl 2 rfl) ?_
                      refine lv_iconst (v := 1) hx hb prd_X_step_516 (by decide) ?_
                      refine lv_iadd hx hb prd_X_step_517 ?_
                      refine lv_goto (tgt := 522) hx hb prd_X_step_518 (by decide) ?_
                      exact pr_reti E hP hS (pr_so hf) prd_X_step_522
                  · have hf := pr_it c175 hf
                    refine lv_aload_n hx hb prd_X_step_493 rfl (lv_at hl 3 rfl) ?_
                    refine lv_iload_n hx hb prd_X_step_494 rfl (lv_at hl 2 rfl) ?_
                    obtain ⟨r179, hr179, hf⟩ := pr_bi hf
                    refine pr_callVr (rest := []) (r := r179) ⟨hx, hb, hml, hown, hts⟩ 0 (prc_X_after hD hX 1 (Nat.le_refl _) r173.2 (σ.1 0 55) r179 hr179) (prg_X_after hts prw_1084 (by have := hh; omega)) hX hXs hK hP hS (by decide) rfl rfl rfl rfl hl.1 (Nat.le_of_ble_eq_true rfl) prd_X_step_495 (fun H locs hP hS => ?_)
                    refine lv_goto (tgt := 522) hx hb prd_X_step_498 (by decide) ?_
                    exact pr_reti E hP hS (pr_so hf) prd_X_step_522
                · have hf := pr_ie c174 hf
                  refine lv_iload_n hx hb prd_X_step_484 rfl (lv_at hl 2 rfl) ?_
                  refine lv_goto (tgt := 522) hx hb prd_X_step_485 (by decide) ?_
                  exact pr_reti E hP hS (pr_so hf) prd_X_step_522
              · have hf := pr_ie c172 hf
                by_cases c180 : ((σ.2.1 13) ((σ.2.1 20) (σ.1 0 55).toNatClampNeg).toNatClampNeg) = 10
                · have hf := pr_it c180 hf
                  refine lv_tableIn (tgt := 523) (off := 505) hx hb prd_X_step_18 (by rw [c180]; decide) (by rw [c180]; decide) (by rw [c180] <;> rfl) (by decide) ?_
                  refine lv_aload_n hx hb prd_X_step_523 rfl (lv_at hl 2 rfl) ?_
                  refine lv_iload_n hx hb prd_X_step_524 rfl (lv_at hl 0 rfl) ?_
                  refine lv_iconst (v := 1) hx hb prd_X_step_525 (by decide) ?_
                  refine lv_iadd hx hb prd_X_step_526 ?_
                  obtain ⟨r181, hr181, hf⟩ := pr_bi hf
                  refine pr_callVi (rest := []) (res := r181) ⟨hx, hb, hml, hown, hts⟩ 0 (prct_X_holds hD hX σ (((σ.2.1 20) (σ.1 0 55).toNatClampNeg) + 1) r181 hr181) (prg_X_holds hts prw_1129 (by have := hh; omega)) hX hXs hK hP hS (by decide) rfl rfl rfl rfl hl.1 (Nat.le_of_ble_eq_true rfl) prd_X_step_527 (fun H locs hP hS => ?_)
                  refine lv_if_ne (tgt := 540) hx hb prd_X_step_530 (by decide) (fun c182 => ?_) (fun c182 => ?_)
                  · have hf := pr_ie c182 hf
                    refine lv_aload_n hx hb prd_X_step_540 rfl (lv_at hl 2 rfl) ?_
                    refine lv_iload_n hx hb prd_X_step_541 rfl (lv_at hl 1 rfl) ?_
                    obtain ⟨r183, hr183, hf⟩ := pr_bi hf
                    refine pr_callVr (rest := []) (r := r183) ⟨hx, hb, hml, hown, hts⟩ 0 (prc_X_after hD hX 1 (Nat.le_refl _) r181.2 (σ.1 0 55) r183 hr183) (prg_X_after hts prw_1084 (by have := hh; omega)) hX hXs hK hP hS (by decide) rfl rfl rfl rfl hl.1 (Nat.le_of_ble_eq_true rfl) prd_X_step_542 (fun H locs hP hS => ?_)
                    exact pr_reti E hP hS (pr_so hf) prd_X_step_545
                  · have hf := pr_it c182 hf
                    refine lv_aload_n hx hb prd_X_step_533 rfl (lv_at hl 2 rfl) ?_
                    refine lv_bipush (v := 8) hx hb prd_X_step_534 (by decide) ?_
                    obtain ⟨r184, hr184, hf⟩ := pr_bi hf
                    refine pr_callVl (rest := []) (res := r184) ⟨hx, hb, hml, hown, hts⟩ 0 (prc_X_trapped hD hX 0 (Nat.le_refl _) r181.2 8 r184 hr184) (prg_X_trapped hts prw_1104 (by have := hh; omega)) hX hXs hK hP hS (by decide) rfl rfl rfl rfl hl.1 (Nat.le_of_ble_eq_true rfl) prd_X_step_536 (fun H locs hP hS => ?_)
                    refine lv_pop2_2 hx hb prd_X_step_539 rfl ?_
                    refine lv_aload_n hx hb prd_X_step_540 rfl (lv_at hl 2 rfl) ?_
                    refine lv_iload_n hx hb prd_X_step_541 rfl (lv_at hl 1 rfl) ?_
                    obtain ⟨r185, hr185, hf⟩ := pr_bi hf
                    refine pr_callVr (rest := []) (r := r185) ⟨hx, hb, hml, hown, hts⟩ 0 (prc_X_after hD hX 1 (Nat.le_refl _) r184.2 (σ.1 0 55) r185 hr185) (prg_X_after hts prw_1084 (by have := hh; omega)) hX hXs hK hP hS (by decide) rfl rfl rfl rfl hl.1 (Nat.le_of_ble_eq_true rfl) prd_X_step_542 (fun H locs hP hS => ?_)
                    exact pr_reti E hP hS (pr_so hf) prd_X_step_545
                · have hf := pr_ie c180 hf
                  refine lv_tableOut (tgt := 546) hx hb prd_X_step_18 (by have w0 := lv_neT (a := 3) c118 (by decide); have w1 := lv_neT (a := 4) c133 (by decide); have w2 := lv_neT (a := 5) c134 (by decide); have w3 := lv_neT (a := 6) c144 (by decide); have w4 := lv_neT (a := 7) c154 (by decide); have w5 := lv_neT (a := 8) c155 (by decide); have w6 := lv_neT (a := 9) c172 (by decide); have w7 := lv_neT (a := 10) c180 (by decide); omega) (by decide) ?_
                  refine lv_aload_n hx hb prd_X_step_546 rfl (lv_at hl 2 rfl) ?_
                  refine lv_iload_n hx hb prd_X_step_547 rfl (lv_at hl 0 rfl) ?_
                  refine lv_iconst (v := 1) hx hb prd_X_step_548 (by decide) ?_
                  refine lv_iadd hx hb prd_X_step_549 ?_
                  obtain ⟨r186, hr186, hf⟩ := pr_bi hf
                  refine pr_callVl (rest := []) (res := r186) ⟨hx, hb, hml, hown, hts⟩ 0 (prct_X_reckon hD hX σ (((σ.2.1 20) (σ.1 0 55).toNatClampNeg) + 1) r186 hr186) (prg_X_reckon hts prw_1116 (by have := hh; omega)) hX hXs hK hP hS (by decide) rfl rfl rfl rfl hl.1 (Nat.le_of_ble_eq_true rfl) prd_X_step_550 (fun H locs hP hS => ?_)
                  refine lv_lstore_n (lv' := [(3, .long r186.1), (2, .int ((σ.2.1 20) (σ.1 0 55).toNatClampNeg)), (1, .int (σ.1 0 55)), (0, .ref (ad 0))]) hx hb prd_X_step_553 rfl hl (by decide) rfl (fun ls hl => ?_)
                  refine lv_aload_n hx hb prd_X_step_554 rfl (lv_at hl 3 rfl) ?_
                  refine pr_geti (v := (r186.2.1 0 59)) hx hb hts prs_X hown hK hP 0 59 (by decide) rfl (hts _ prw_1099) rfl rfl prd_X_step_555 ?_
                  refine lv_if_ne (tgt := 582) hx hb prd_X_step_558 (by decide) (fun c187 => ?_) (fun c187 => ?_)
                  · have hf := pr_ie c187 hf
                    refine lv_aload_n hx hb prd_X_step_582 rfl (lv_at hl 3 rfl) ?_
                    refine lv_iload_n hx hb prd_X_step_583 rfl (lv_at hl 2 rfl) ?_
                    obtain ⟨r188, hr188, hf⟩ := pr_bi hf
                    refine pr_callVr (rest := []) (r := r188) ⟨hx, hb, hml, hown, hts⟩ 0 (prc_X_after hD hX 1 (Nat.le_refl _) r186.2 (σ.1 0 55) r188 hr188) (prg_X_after hts prw_1084 (by have := hh; omega)) hX hXs hK hP hS (by decide) rfl rfl rfl rfl hl.1 (Nat.le_of_ble_eq_true rfl) prd_X_step_584 (fun H locs hP hS => ?_)
                    exact pr_reti E hP hS (pr_so hf) prd_X_step_587
                  · have hf := pr_it c187 hf
                    refine lv_aload_n hx hb prd_X_step_561 rfl (lv_at hl 3 rfl) ?_
                    refine lv_iload_n hx hb prd_X_step_562 rfl (lv_at hl 2 rfl) ?_
                    obtain ⟨r189, hr189, hf⟩ := pr_bi hf
                    refine pr_callVr (rest := []) (r := r189) ⟨hx, hb, hml, hown, hts⟩ 0 (prc_X_goal hD hX 0 (Nat.le_refl _) r186.2 (σ.1 0 55) r189 hr189) (prg_X_goal hts prw_1140 (by have := hh; omega)) hX hXs hK hP hS (by decide) rfl rfl rfl rfl hl.1 (Nat.le_of_ble_eq_true rfl) prd_X_step_563 (fun H locs hP hS => ?_)
                    refine lv_iconst (v := (-1)) hx hb prd_X_step_566 (by decide) ?_
                    refine lv_icmp_eq (tgt := 582) hx hb prd_X_step_567 (by decide) (fun c190 => ?_) (fun c190 => ?_)
                    · have hf := pr_it c190 hf
                      refine lv_aload_n hx hb prd_X_step_582 rfl (lv_at hl 3 rfl) ?_
                      refine lv_iload_n hx hb prd_X_step_583 rfl (lv_at hl 2 rfl) ?_
                      obtain ⟨r191, hr191, hf⟩ := pr_bi hf
                      refine pr_callVr (rest := []) (r := r191) ⟨hx, hb, hml, hown, hts⟩ 0 (prc_X_after hD hX 1 (Nat.le_refl _) r186.2 (σ.1 0 55) r191 hr191) (prg_X_after hts prw_1084 (by have := hh; omega)) hX hXs hK hP hS (by decide) rfl rfl rfl rfl hl.1 (Nat.le_of_ble_eq_true rfl) prd_X_step_584 (fun H locs hP hS => ?_)
                      exact pr_reti E hP hS (pr_so hf) prd_X_step_587
                    · have hf := pr_ie c190 hf
                      refine lv_aload_n hx hb prd_X_step_570 rfl (lv_at hl 3 rfl) ?_
                      refine pr_getr (t := 34) hx hb hts prs_X hown hK hP 0 52 (by decide) rfl (hts _ prw_1121) rfl prd_X_step_571 ?_
                      refine lv_aload_n hx hb prd_X_step_574 rfl (lv_at hl 3 rfl) ?_
                      refine lv_iload_n hx hb prd_X_step_575 rfl (lv_at hl 2 rfl) ?_
                      obtain ⟨r192, hr192, hf⟩ := pr_bi hf
                      refine pr_callVr (rest := [.ref (ad 34)]) (r := r192) ⟨hx, hb, hml, hown, hts⟩ 0 (prc_X_goal hD hX 0 (Nat.le_refl _) r186.2 (σ.1 0 55) r192 hr192) (prg_X_goal hts prw_1140 (by have := hh; omega)) hX hXs hK hP hS (by decide) rfl rfl rfl rfl hl.1 (Nat.le_of_ble_eq_true rfl) prd_X_step_576 (fun H locs hP hS => ?_)
                      refine lv_lload_n hx hb prd_X_step_579 rfl (lv_at hl 0 rfl) ?_
                      refine lv_l2i (v := r186.1.toInt32) hx hb prd_X_step_580 rfl ?_
                      obtain ⟨hi193, hf⟩ := pr_ck_in hf
                      refine pr_iast (f := (r186.2.2.1 34)) hx hb hK hP (hD _) hS 34 (by decide) rfl hi193 rfl prd_X_step_581 (fun H locs hP hS => ?_)
                      refine lv_aload_n hx hb prd_X_step_582 rfl (lv_at hl 3 rfl) ?_
                      refine lv_iload_n hx hb prd_X_step_583 rfl (lv_at hl 2 rfl) ?_
                      obtain ⟨r194, hr194, hf⟩ := pr_bi hf
                      refine pr_callVr (rest := []) (r := r194) ⟨hx, hb, hml, hown, hts⟩ 0 (prc_X_after hD hX 1 (Nat.le_refl _) (pr_sA r186.2 34 (upd (r186.2.2.1 34) r192.toNatClampNeg r186.1.toInt32)) (σ.1 0 55) r194 hr194) (prg_X_after hts prw_1084 (by have := hh; omega)) hX hXs hK hP hS (by decide) rfl rfl rfl rfl hl.1 (Nat.le_of_ble_eq_true rfl) prd_X_step_584 (fun H locs hP hS => ?_)
                      exact pr_reti E hP hS (pr_so hf) prd_X_step_587
-- X_run
set_option maxHeartbeats 4000000 in
set_option maxRecDepth 100000 in
theorem prk_X_run_98 {l : Launch} {D : va_G} {ad : Nat → Nat} {dA : Nat → ClassId} {A : Nat → Prop} {v : Nat → Nat} {r : Value} {p : Program} {e : Env} {s : State} {m : MethodId} {args : Array Value} {below : List Frame} {meth : Method} {c : Code} {h : Nat} (hh : 609 ≤ h) (E : pr_cx prn_X prb_X_run 3 (some .int) D pr_cl prx_L ad dA A (prY ad v r A) p s m args meth c) : ∀ (σ : pr_St)  (res : (Int32 × pr_St)), some res = prf_X_run_98 σ  → ∀ (H : Heap) (locs : List Loc) (ls : Array Slot), va_P D pr_cl (pr_w prx_L ad dA σ) H → va_S A s.heap H locs → lv_has ls 3 [(0, .ref (ad 0))] → W p l e (pr_rm h) s m args below meth c H locs 0 0 (MQ below (pr_Qi D pr_cl prx_L ad dA A res) args s 0 0 A) (F0 m 98 ls []) := by
  obtain ⟨hx, hb, hml, hown, hts, hr, hlocks, hK, hD, hX, hXs⟩ := id E
  intro σ  res hf H locs ls hP hS hl
  unfold prf_X_run_98 at hf
  refine lv_aload_n hx hb prd_X_run_98 rfl (lv_at hl 0 rfl) ?_
  refine lv_aload_n hx hb prd_X_run_99 rfl (lv_at hl 0 rfl) ?_
  refine pr_geti (v := (σ.1 0 58)) hx hb hts prs_X hown hK hP 0 58 (by decide) rfl (hts _ prw_1108) rfl rfl prd_X_run_100 ?_
  refine lv_aload_n hx hb prd_X_run_103 rfl (lv_at hl 0 rfl) ?_
  refine pr_geti (v := (σ.1 0 51)) hx hb hts prs_X hown hK hP 0 51 (by decide) rfl (hts _ prw_1088) rfl rfl prd_X_run_104 ?_
  refine va_mmin hx hb (hml.trans hl.1.symm) hown (hts _ prw_1146) (hts _ prw_1147) (hts _ prw_734) (hts _ prw_1148) (by show 1 ≤ h; have := hh; omega) (Nat.le_trans (Nat.le_of_ble_eq_true rfl : _ ≤ 64) (by show 64 ≤ 64 * h; have := hh; omega)) (Nat.zero_le _) (Nat.zero_le _) prd_X_run_107 ?_
  refine pr_puti (ty := .int) hx hb hts prs_X prq_X prtt_X prtn_X hown hK hP (hD _) hS 0 57 (by decide) rfl (hts _ prw_830) rfl rfl (prtt_X 57 (by decide)) rfl rfl prd_X_run_110 (fun H locs hP hS => ?_)
  refine lv_aload_n hx hb prd_X_run_113 rfl (lv_at hl 0 rfl) ?_
  refine pr_geti (v := (σ.1 0 59)) hx hb hts prs_X hown hK hP 0 59 (by decide) rfl (hts _ prw_1099) rfl rfl prd_X_run_114 ?_
  refine lv_if_le (tgt := 127) hx hb prd_X_run_117 (by decide) (fun c10 => ?_) (fun c10 => ?_)
  · have hf := pr_it c10 hf
    refine lv_aload_n hx hb prd_X_run_127 rfl (lv_at hl 0 rfl) ?_
    refine pr_geti (v := (σ.1 0 55)) hx hb hts prs_X hown hK hP 0 55 (by decide) rfl (hts _ prw_828) rfl rfl prd_X_run_128 ?_
    refine lv_aload_n hx hb prd_X_run_131 rfl (lv_at hl 0 rfl) ?_
    refine pr_geti (v := (σ.1 0 33)) hx hb hts prs_X hown hK hP 0 33 (by decide) rfl (hts _ prw_822) rfl rfl prd_X_run_132 ?_
    refine lv_iconst (v := 1) hx hb prd_X_run_135 (by decide) ?_
    refine lv_isub hx hb prd_X_run_136 ?_
    refine lv_icmp_ne (tgt := 144) hx hb prd_X_run_137 (by decide) (fun c11 => ?_) (fun c11 => ?_)
    · have hf := pr_ie c11 hf
      refine lv_bipush (v := 16) hx hb prd_X_run_144 (by decide) ?_
      exact pr_reti E hP hS (pr_so hf) prd_X_run_146
    · have hf := pr_it c11 hf
      refine lv_iconst (v := 0) hx hb prd_X_run_140 (by decide) ?_
      refine lv_goto (tgt := 146) hx hb prd_X_run_141 (by decide) ?_
      exact pr_reti E hP hS (pr_so hf) prd_X_run_146
  · have hf := pr_ie c10 hf
    refine lv_aload_n hx hb prd_X_run_120 rfl (lv_at hl 0 rfl) ?_
    refine pr_geti (v := (σ.1 0 59)) hx hb hts prs_X hown hK hP 0 59 (by decide) rfl (hts _ prw_1099) rfl rfl prd_X_run_121 ?_
    refine lv_goto (tgt := 146) hx hb prd_X_run_124 (by decide) ?_
    exact pr_reti E hP hS (pr_so hf) prd_X_run_146
set_option maxHeartbeats 4000000 in
set_option maxRecDepth 100000 in
theorem prk_X_run_33 {l : Launch} {D : va_G} {ad : Nat → Nat} {dA : Nat → ClassId} {A : Nat → Prop} {v : Nat → Nat} {r : Value} {p : Program} {e : Env} {s : State} {m : MethodId} {args : Array Value} {below : List Frame} {meth : Method} {c : Code} {h : Nat} (hh : 609 ≤ h) (E : pr_cx prn_X prb_X_run 3 (some .int) D pr_cl prx_L ad dA A (prY ad v r A) p s m args meth c) : ∀ n : Nat, ∀ (σ : pr_St) (x1 : Int32) (res : (Int32 × pr_St)), some res = prf_X_run_33 n σ x1 → ∀ (H : Heap) (locs : List Loc) (ls : Array Slot), va_P D pr_cl (pr_w prx_L ad dA σ) H → va_S A s.heap H locs → lv_has ls 3 [(0, .ref (ad 0)), (1, .int x1)] → W p l e (pr_rm h) s m args below meth c H locs 0 0 (MQ below (pr_Qi D pr_cl prx_L ad dA A res) args s 0 0 A) (F0 m 33 ls []) := by
  obtain ⟨hx, hb, hml, hown, hts, hr, hlocks, hK, hD, hX, hXs⟩ := id E
  intro n
  induction n with
  | zero =>
    intro σ x1 res hf
    rw [prf_X_run_33] at hf
    cases hf
  | succ n ih =>
    intro σ x1 res hf H locs ls hP hS hl
    rw [prf_X_run_33] at hf
    refine lv_aload_n hx hb prd_X_run_33 rfl (lv_at hl 0 rfl) ?_
    refine pr_geti (v := (σ.1 0 56)) hx hb hts prs_X hown hK hP 0 56 (by decide) rfl (hts _ prw_829) rfl rfl prd_X_run_34 ?_
    refine lv_iload_n hx hb prd_X_run_37 rfl (lv_at hl 1 rfl) ?_
    refine lv_icmp_ge (tgt := 98) hx hb prd_X_run_38 (by decide) (fun c12 => ?_) (fun c12 => ?_)
    · have hf := pr_it c12 hf
      exact prk_X_run_98 hh E σ _ hf _ _ _ hP hS (lv_sub hl [0] rfl)
    · have hf := pr_ie c12 hf
      refine lv_aload_n hx hb prd_X_run_41 rfl (lv_at hl 0 rfl) ?_
      refine pr_geti (v := (σ.1 0 59)) hx hb hts prs_X hown hK hP 0 59 (by decide) rfl (hts _ prw_1099) rfl rfl prd_X_run_42 ?_
      refine lv_if_ne (tgt := 98) hx hb prd_X_run_45 (by decide) (fun c13 => ?_) (fun c13 => ?_)
      · have hf := pr_ie c13 hf
        exact prk_X_run_98 hh E σ _ hf _ _ _ hP hS (lv_sub hl [0] rfl)
      · have hf := pr_it c13 hf
        refine lv_aload_n hx hb prd_X_run_48 rfl (lv_at hl 0 rfl) ?_
        refine pr_geti (v := (σ.1 0 55)) hx hb hts prs_X hown hK hP 0 55 (by decide) rfl (hts _ prw_828) rfl rfl prd_X_run_49 ?_
        refine lv_aload_n hx hb prd_X_run_52 rfl (lv_at hl 0 rfl) ?_
        refine pr_geti (v := (σ.1 0 33)) hx hb hts prs_X hown hK hP 0 33 (by decide) rfl (hts _ prw_822) rfl rfl prd_X_run_53 ?_
        refine lv_iconst (v := 1) hx hb prd_X_run_56 (by decide) ?_
        refine lv_isub hx hb prd_X_run_57 ?_
        refine lv_icmp_ge (tgt := 98) hx hb prd_X_run_58 (by decide) (fun c14 => ?_) (fun c14 => ?_)
        · have hf := pr_it c14 hf
          exact prk_X_run_98 hh E σ _ hf _ _ _ hP hS (lv_sub hl [0] rfl)
        · have hf := pr_ie c14 hf
          refine lv_aload_n hx hb prd_X_run_61 rfl (lv_at hl 0 rfl) ?_
          obtain ⟨r15, hr15, hf⟩ := pr_bi hf
          refine pr_callVi (rest := []) (res := r15) ⟨hx, hb, hml, hown, hts⟩ 0 (prc_X_step hD hX 608 (Nat.le_refl _) σ  r15 hr15) (prg_X_step hts prw_1145 (by have := hh; omega)) hX hXs hK hP hS (by decide) rfl rfl rfl rfl hl.1 (Nat.le_of_ble_eq_true rfl) prd_X_run_62 (fun H locs hP hS => ?_)
          refine lv_istore_n (lv' := [(2, .int r15.1), (0, .ref (ad 0)), (1, .int x1)]) hx hb prd_X_run_65 rfl hl (by decide) rfl (fun ls hl => ?_)
          refine lv_aload_n hx hb prd_X_run_66 rfl (lv_at hl 1 rfl) ?_
          refine lv_dup hx hb prd_X_run_67 rfl ?_
          refine pr_geti (v := (r15.2.1 0 56)) hx hb hts prs_X hown hK hP 0 56 (by decide) rfl (hts _ prw_829) rfl rfl prd_X_run_68 ?_
          refine lv_iconst (v := 1) hx hb prd_X_run_71 (by decide) ?_
          refine lv_iadd hx hb prd_X_run_72 ?_
          refine pr_puti (ty := .int) hx hb hts prs_X prq_X prtt_X prtn_X hown hK hP (hD _) hS 0 56 (by decide) rfl (hts _ prw_829) rfl rfl (prtt_X 56 (by decide)) rfl rfl prd_X_run_73 (fun H locs hP hS => ?_)
          refine lv_aload_n hx hb prd_X_run_76 rfl (lv_at hl 1 rfl) ?_
          refine lv_aload_n hx hb prd_X_run_77 rfl (lv_at hl 1 rfl) ?_
          refine pr_geti (v := (r15.2.1 0 59)) hx hb hts prs_X hown hK hP 0 59 (by decide) rfl (hts _ prw_1099) rfl rfl prd_X_run_78 ?_
          refine lv_if_ne (tgt := 88) hx hb prd_X_run_81 (by decide) (fun c16 => ?_) (fun c16 => ?_)
          · have hf := pr_ie c16 hf
            refine lv_aload_n hx hb prd_X_run_88 rfl (lv_at hl 1 rfl) ?_
            refine pr_geti (v := (r15.2.1 0 55)) hx hb hts prs_X hown hK hP 0 55 (by decide) rfl (hts _ prw_828) rfl rfl prd_X_run_89 ?_
            refine pr_puti (ty := .int) hx hb hts prs_X prq_X prtt_X prtn_X hown hK hP (hD _) hS 0 55 (by decide) rfl (hts _ prw_828) rfl rfl (prtt_X 55 (by decide)) rfl rfl prd_X_run_92 (fun H locs hP hS => ?_)
            refine lv_goto (tgt := 33) hx hb prd_X_run_95 (by decide) ?_
            exact ih (pr_sI (pr_sI r15.2 0 56 ((r15.2.1 0 56) + 1)) 0 55 (r15.2.1 0 55)) x1 _ hf _ _ _ hP hS (lv_sub hl [1, 2] rfl)
          · have hf := pr_it c16 hf
            refine lv_iload_n hx hb prd_X_run_84 rfl (lv_at hl 0 rfl) ?_
            refine lv_goto (tgt := 92) hx hb prd_X_run_85 (by decide) ?_
            refine pr_puti (ty := .int) hx hb hts prs_X prq_X prtt_X prtn_X hown hK hP (hD _) hS 0 55 (by decide) rfl (hts _ prw_828) rfl rfl (prtt_X 55 (by decide)) rfl rfl prd_X_run_92 (fun H locs hP hS => ?_)
            refine lv_goto (tgt := 33) hx hb prd_X_run_95 (by decide) ?_
            exact ih (pr_sI (pr_sI r15.2 0 56 ((r15.2.1 0 56) + 1)) 0 55 r15.1) x1 _ hf _ _ _ hP hS (lv_sub hl [1, 2] rfl)
set_option maxHeartbeats 4000000 in
set_option maxRecDepth 100000 in
theorem prc_X_run {l : Launch} {D : va_G} {ad : Nat → Nat} {dA : Nat → ClassId} {A : Nat → Prop} {v : Nat → Nat} {r : Value} (hD : ∀ σ : pr_St, va_D A (pr_w prx_L ad dA σ)) (hX : pr_Xok A (prY ad v r A)) (h : Nat) (hh : 609 ≤ h) (σ : pr_St) (x1 : Int32) (res : (Int32 × pr_St)) (hf : prf_X_run σ x1 = some res) : Met l pry_X_run (Cond.code pry_X_run prb_X_run 3 (some .int) :: pr_U) (pr_rm h) (pr_Pc (prY ad v r A) D pr_cl prx_L ad dA [.ref (ad 0), .int x1] σ) (pr_Qi D pr_cl prx_L ad dA A res) 0 0 A := by
  refine pr_entry (cc := prb_X_run) (maxL := 3) (ret := (some .int)) (by decide) (Nat.le_of_ble_eq_true rfl) hD hX ?_
  intro p e s m args below meth c E H locs hP hS ls hl
  have hl : lv_has ls 3 [(0, .ref (ad 0)), (1, .int x1)] := hl
  have hf := hf.symm
  unfold prf_X_run at hf
  obtain ⟨hx, hb, hml, hown, hts, hr, hlocks, hK, hD, hX, hXs⟩ := id E
  refine lv_iload_n hx hb prd_X_run_0 rfl (lv_at hl 1 rfl) ?_
  refine lv_if_lt (tgt := 11) hx hb prd_X_run_1 (by decide) (fun c17 => ?_) (fun c17 => ?_)
  · have hf := pr_it c17 hf
    refine lv_iconst (v := (-1)) hx hb prd_X_run_11 (by decide) ?_
    exact pr_reti E hP hS (pr_so hf) prd_X_run_12
  · have hf := pr_ie c17 hf
    refine lv_iload_n hx hb prd_X_run_4 rfl (lv_at hl 1 rfl) ?_
    refine lv_sipush (v := 2000) hx hb prd_X_run_5 (by decide) ?_
    refine lv_icmp_le (tgt := 13) hx hb prd_X_run_8 (by decide) (fun c18 => ?_) (fun c18 => ?_)
    · have hf := pr_it c18 hf
      refine lv_aload_n hx hb prd_X_run_13 rfl (lv_at hl 0 rfl) ?_
      refine lv_iconst (v := 0) hx hb prd_X_run_14 (by decide) ?_
      refine pr_puti (ty := .int) hx hb hts prs_X prq_X prtt_X prtn_X hown hK hP (hD _) hS 0 55 (by decide) rfl (hts _ prw_828) rfl rfl (prtt_X 55 (by decide)) rfl rfl prd_X_run_15 (fun H locs hP hS => ?_)
      refine lv_aload_n hx hb prd_X_run_18 rfl (lv_at hl 0 rfl) ?_
      refine lv_iconst (v := 0) hx hb prd_X_run_19 (by decide) ?_
      refine pr_puti (ty := .int) hx hb hts prs_X prq_X prtt_X prtn_X hown hK hP (hD _) hS 0 56 (by decide) rfl (hts _ prw_829) rfl rfl (prtt_X 56 (by decide)) rfl rfl prd_X_run_20 (fun H locs hP hS => ?_)
      refine lv_aload_n hx hb prd_X_run_23 rfl (lv_at hl 0 rfl) ?_
      refine lv_iconst (v := 0) hx hb prd_X_run_24 (by decide) ?_
      refine pr_puti (ty := .int) hx hb hts prs_X prq_X prtt_X prtn_X hown hK hP (hD _) hS 0 58 (by decide) rfl (hts _ prw_1108) rfl rfl (prtt_X 58 (by decide)) rfl rfl prd_X_run_25 (fun H locs hP hS => ?_)
      refine lv_aload_n hx hb prd_X_run_28 rfl (lv_at hl 0 rfl) ?_
      refine lv_iconst (v := 0) hx hb prd_X_run_29 (by decide) ?_
      refine pr_puti (ty := .int) hx hb hts prs_X prq_X prtt_X prtn_X hown hK hP (hD _) hS 0 59 (by decide) rfl (hts _ prw_1099) rfl rfl (prtt_X 59 (by decide)) rfl rfl prd_X_run_30 (fun H locs hP hS => ?_)
      exact prk_X_run_33 hh E pr_FU (pr_sI (pr_sI (pr_sI (pr_sI σ 0 55 0) 0 56 0) 0 58 0) 0 59 0) x1 _ hf _ _ _ hP hS (lv_sub hl [0, 1] rfl)
    · have hf := pr_ie c18 hf
      refine lv_iconst (v := (-1)) hx hb prd_X_run_11 (by decide) ?_
      exact pr_reti E hP hS (pr_so hf) prd_X_run_12
-- X_ran
set_option maxHeartbeats 4000000 in
set_option maxRecDepth 100000 in
theorem prc_X_ran {l : Launch} {D : va_G} {ad : Nat → Nat} {dA : Nat → ClassId} {A : Nat → Prop} {v : Nat → Nat} {r : Value} (hD : ∀ σ : pr_St, va_D A (pr_w prx_L ad dA σ)) (hX : pr_Xok A (prY ad v r A)) (h : Nat) (hh : 0 ≤ h) (σ : pr_St) (x1 : Int32) (res : Int32) (hf : prf_X_ran σ x1 = some res) : Met l pry_X_ran (Cond.code pry_X_ran prb_X_ran 2 (some .int) :: pr_U) (pr_rm h) (pr_Pc (prY ad v r A) D pr_cl prx_L ad dA [.ref (ad 0), .int x1] σ) (pr_Qi D pr_cl prx_L ad dA A (res, σ)) 0 0 A := by
  refine pr_entry (cc := prb_X_ran) (maxL := 2) (ret := (some .int)) (by decide) (Nat.le_of_ble_eq_true rfl) hD hX ?_
  intro p e s m args below meth c E H locs hP hS ls hl
  have hl : lv_has ls 2 [(0, .ref (ad 0)), (1, .int x1)] := hl
  have hf := hf.symm
  unfold prf_X_ran at hf
  obtain ⟨hx, hb, hml, hown, hts, hr, hlocks, hK, hD, hX, hXs⟩ := id E
  refine lv_iload_n hx hb prd_X_ran_0 rfl (lv_at hl 1 rfl) ?_
  refine lv_if_ne (tgt := 11) hx hb prd_X_ran_1 (by decide) (fun c4 => ?_) (fun c4 => ?_)
  · have hf := pr_ie c4 hf
    refine lv_iload_n hx hb prd_X_ran_11 rfl (lv_at hl 1 rfl) ?_
    refine lv_iconst (v := 1) hx hb prd_X_ran_12 (by decide) ?_
    refine lv_icmp_ne (tgt := 23) hx hb prd_X_ran_13 (by decide) (fun c5 => ?_) (fun c5 => ?_)
    · have hf := pr_ie c5 hf
      refine lv_iload_n hx hb prd_X_ran_23 rfl (lv_at hl 1 rfl) ?_
      refine lv_iconst (v := 2) hx hb prd_X_ran_24 (by decide) ?_
      refine lv_icmp_ne (tgt := 35) hx hb prd_X_ran_25 (by decide) (fun c6 => ?_) (fun c6 => ?_)
      · have hf := pr_ie c6 hf
        refine lv_iconst (v := (-1)) hx hb prd_X_ran_35 (by decide) ?_
        exact pr_reti E hP hS (pr_ro hf) prd_X_ran_36
      · have hf := pr_it c6 hf
        refine lv_aload_n hx hb prd_X_ran_28 rfl (lv_at hl 0 rfl) ?_
        refine pr_geti (v := (σ.1 0 57)) hx hb hts prs_X hown hK hP 0 57 (by decide) rfl (hts _ prw_830) rfl rfl prd_X_ran_29 ?_
        refine lv_goto (tgt := 36) hx hb prd_X_ran_32 (by decide) ?_
        exact pr_reti E hP hS (pr_ro hf) prd_X_ran_36
    · have hf := pr_it c5 hf
      refine lv_aload_n hx hb prd_X_ran_16 rfl (lv_at hl 0 rfl) ?_
      refine pr_geti (v := (σ.1 0 56)) hx hb hts prs_X hown hK hP 0 56 (by decide) rfl (hts _ prw_829) rfl rfl prd_X_ran_17 ?_
      refine lv_goto (tgt := 36) hx hb prd_X_ran_20 (by decide) ?_
      exact pr_reti E hP hS (pr_ro hf) prd_X_ran_36
  · have hf := pr_it c4 hf
    refine lv_aload_n hx hb prd_X_ran_4 rfl (lv_at hl 0 rfl) ?_
    refine pr_geti (v := (σ.1 0 55)) hx hb hts prs_X hown hK hP 0 55 (by decide) rfl (hts _ prw_828) rfl rfl prd_X_ran_5 ?_
    refine lv_goto (tgt := 36) hx hb prd_X_ran_8 (by decide) ?_
    exact pr_reti E hP hS (pr_ro hf) prd_X_ran_36
-- X_value
set_option maxHeartbeats 4000000 in
set_option maxRecDepth 100000 in
theorem prc_X_value {l : Launch} {D : va_G} {ad : Nat → Nat} {dA : Nat → ClassId} {A : Nat → Prop} {v : Nat → Nat} {r : Value} (hD : ∀ σ : pr_St, va_D A (pr_w prx_L ad dA σ)) (hX : pr_Xok A (prY ad v r A)) (h : Nat) (hh : 0 ≤ h) (σ : pr_St) (x1 : Int32) (res : Int32) (hf : prf_X_value σ x1 = some res) : Met l pry_X_value (Cond.code pry_X_value prb_X_value 2 (some .int) :: pr_U) (pr_rm h) (pr_Pc (prY ad v r A) D pr_cl prx_L ad dA [.ref (ad 0), .int x1] σ) (pr_Qi D pr_cl prx_L ad dA A (res, σ)) 0 0 A := by
  refine pr_entry (cc := prb_X_value) (maxL := 2) (ret := (some .int)) (by decide) (Nat.le_of_ble_eq_true rfl) hD hX ?_
  intro p e s m args below meth c E H locs hP hS ls hl
  have hl : lv_has ls 2 [(0, .ref (ad 0)), (1, .int x1)] := hl
  have hf := hf.symm
  unfold prf_X_value at hf
  obtain ⟨hx, hb, hml, hown, hts, hr, hlocks, hK, hD, hX, hXs⟩ := id E
  refine lv_iload_n hx hb prd_X_value_0 rfl (lv_at hl 1 rfl) ?_
  refine lv_if_lt (tgt := 17) hx hb prd_X_value_1 (by decide) (fun c5 => ?_) (fun c5 => ?_)
  · have hf := pr_it c5 hf
    refine lv_iconst (v := 0) hx hb prd_X_value_17 (by decide) ?_
    refine lv_goto (tgt := 27) hx hb prd_X_value_18 (by decide) ?_
    exact pr_reti E hP hS (pr_ro hf) prd_X_value_27
  · have hf := pr_ie c5 hf
    refine lv_iload_n hx hb prd_X_value_4 rfl (lv_at hl 1 rfl) ?_
    refine lv_aload_n hx hb prd_X_value_5 rfl (lv_at hl 0 rfl) ?_
    refine pr_getr (t := 23) hx hb hts prs_X hown hK hP 0 31 (by decide) rfl (hts _ prw_826) rfl prd_X_value_6 ?_
    refine lv_aload_n hx hb prd_X_value_9 rfl (lv_at hl 0 rfl) ?_
    refine pr_geti (v := (σ.1 0 55)) hx hb hts prs_X hown hK hP 0 55 (by decide) rfl (hts _ prw_828) rfl rfl prd_X_value_10 ?_
    obtain ⟨hi6, hf⟩ := pr_ck_in hf
    refine pr_iald (f := (σ.2.1 23)) hx hb hK hP 23 (by decide) rfl hi6 rfl prd_X_value_13 ?_
    refine lv_icmp_lt (tgt := 21) hx hb prd_X_value_14 (by decide) (fun c7 => ?_) (fun c7 => ?_)
    · have hf := pr_it c7 hf
      refine lv_aload_n hx hb prd_X_value_21 rfl (lv_at hl 0 rfl) ?_
      refine pr_getr (t := 34) hx hb hts prs_X hown hK hP 0 52 (by decide) rfl (hts _ prw_1121) rfl prd_X_value_22 ?_
      refine lv_iload_n hx hb prd_X_value_25 rfl (lv_at hl 1 rfl) ?_
      obtain ⟨hi8, hf⟩ := pr_ck_in hf
      refine pr_iald (f := (σ.2.1 34)) hx hb hK hP 34 (by decide) rfl hi8 rfl prd_X_value_26 ?_
      exact pr_reti E hP hS (pr_ro hf) prd_X_value_27
    · have hf := pr_ie c7 hf
      refine lv_iconst (v := 0) hx hb prd_X_value_17 (by decide) ?_
      refine lv_goto (tgt := 27) hx hb prd_X_value_18 (by decide) ?_
      exact pr_reti E hP hS (pr_ro hf) prd_X_value_27
-- X_place
set_option maxHeartbeats 4000000 in
set_option maxRecDepth 100000 in
theorem prc_X_place {l : Launch} {D : va_G} {ad : Nat → Nat} {dA : Nat → ClassId} {A : Nat → Prop} {v : Nat → Nat} {r : Value} (hD : ∀ σ : pr_St, va_D A (pr_w prx_L ad dA σ)) (hX : pr_Xok A (prY ad v r A)) (h : Nat) (hh : 0 ≤ h) (σ : pr_St) (x1 : Int32) (x2 : Int32) (res : Int32) (hf : prf_X_place σ x1 x2 = some res) : Met l pry_X_place (Cond.code pry_X_place prb_X_place 3 (some .int) :: pr_U) (pr_rm h) (pr_Pc (prY ad v r A) D pr_cl prx_L ad dA [.ref (ad 0), .int x1, .int x2] σ) (pr_Qi D pr_cl prx_L ad dA A (res, σ)) 0 0 A := by
  refine pr_entry (cc := prb_X_place) (maxL := 3) (ret := (some .int)) (by decide) (Nat.le_of_ble_eq_true rfl) hD hX ?_
  intro p e s m args below meth c E H locs hP hS ls hl
  have hl : lv_has ls 3 [(0, .ref (ad 0)), (1, .int x1), (2, .int x2)] := hl
  have hf := hf.symm
  unfold prf_X_place at hf
  obtain ⟨hx, hb, hml, hown, hts, hr, hlocks, hK, hD, hX, hXs⟩ := id E
  refine lv_iload_n hx hb prd_X_place_0 rfl (lv_at hl 1 rfl) ?_
  refine lv_if_lt (tgt := 27) hx hb prd_X_place_1 (by decide) (fun c7 => ?_) (fun c7 => ?_)
  · have hf := pr_it c7 hf
    refine lv_iconst (v := 0) hx hb prd_X_place_27 (by decide) ?_
    refine lv_goto (tgt := 42) hx hb prd_X_place_28 (by decide) ?_
    exact pr_reti E hP hS (pr_ro hf) prd_X_place_42
  · have hf := pr_ie c7 hf
    refine lv_iload_n hx hb prd_X_place_4 rfl (lv_at hl 1 rfl) ?_
    refine lv_aload_n hx hb prd_X_place_5 rfl (lv_at hl 0 rfl) ?_
    refine pr_getr (t := 24) hx hb hts prs_X hown hK hP 0 32 (by decide) rfl (hts _ prw_827) rfl prd_X_place_6 ?_
    refine lv_aload_n hx hb prd_X_place_9 rfl (lv_at hl 0 rfl) ?_
    refine pr_geti (v := (σ.1 0 55)) hx hb hts prs_X hown hK hP 0 55 (by decide) rfl (hts _ prw_828) rfl rfl prd_X_place_10 ?_
    obtain ⟨hi8, hf⟩ := pr_ck_in hf
    refine pr_iald (f := (σ.2.1 24)) hx hb hK hP 24 (by decide) rfl hi8 rfl prd_X_place_13 ?_
    refine lv_icmp_ge (tgt := 27) hx hb prd_X_place_14 (by decide) (fun c9 => ?_) (fun c9 => ?_)
    · have hf := pr_it c9 hf
      refine lv_iconst (v := 0) hx hb prd_X_place_27 (by decide) ?_
      refine lv_goto (tgt := 42) hx hb prd_X_place_28 (by decide) ?_
      exact pr_reti E hP hS (pr_ro hf) prd_X_place_42
    · have hf := pr_ie c9 hf
      refine lv_iload_n hx hb prd_X_place_17 rfl (lv_at hl 2 rfl) ?_
      refine lv_if_lt (tgt := 27) hx hb prd_X_place_18 (by decide) (fun c10 => ?_) (fun c10 => ?_)
      · have hf := pr_it c10 hf
        refine lv_iconst (v := 0) hx hb prd_X_place_27 (by decide) ?_
        refine lv_goto (tgt := 42) hx hb prd_X_place_28 (by decide) ?_
        exact pr_reti E hP hS (pr_ro hf) prd_X_place_42
      · have hf := pr_ie c10 hf
        refine lv_iload_n hx hb prd_X_place_21 rfl (lv_at hl 2 rfl) ?_
        refine lv_bipush (v := 64) hx hb prd_X_place_22 (by decide) ?_
        refine lv_icmp_lt (tgt := 31) hx hb prd_X_place_24 (by decide) (fun c11 => ?_) (fun c11 => ?_)
        · have hf := pr_it c11 hf
          refine lv_aload_n hx hb prd_X_place_31 rfl (lv_at hl 0 rfl) ?_
          refine pr_getr (t := 35) hx hb hts prs_X hown hK hP 0 53 (by decide) rfl (hts _ prw_1123) rfl prd_X_place_32 ?_
          refine lv_bipush (v := 64) hx hb prd_X_place_35 (by decide) ?_
          refine lv_iload_n hx hb prd_X_place_37 rfl (lv_at hl 1 rfl) ?_
          refine lv_imul hx hb prd_X_place_38 ?_
          refine lv_iload_n hx hb prd_X_place_39 rfl (lv_at hl 2 rfl) ?_
          refine lv_iadd hx hb prd_X_place_40 ?_
          obtain ⟨hi12, hf⟩ := pr_ck_in hf
          refine pr_iald (f := (σ.2.1 35)) hx hb hK hP 35 (by decide) rfl hi12 rfl prd_X_place_41 ?_
          exact pr_reti E hP hS (pr_ro hf) prd_X_place_42
        · have hf := pr_ie c11 hf
          refine lv_iconst (v := 0) hx hb prd_X_place_27 (by decide) ?_
          refine lv_goto (tgt := 42) hx hb prd_X_place_28 (by decide) ?_
          exact pr_reti E hP hS (pr_ro hf) prd_X_place_42
