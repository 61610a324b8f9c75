-- M_forget
set_option maxHeartbeats 4000000 in
set_option maxRecDepth 100000 in
theorem prc_M_forget {l : Launch} {D : va_G} {ad : Nat → Nat} {dA : Nat → ClassId} {A : Nat → Prop} {t : Nat} (hD : ∀ σ : pr_St, va_D A (pr_w prc_L ad dA σ)) (hX : pr_Xok A (prX t A)) (h : Nat) (hh : 0 ≤ h) (σ : pr_St)  (res : pr_St) (hf : prf_M_forget σ  = some res) : Met l pry_M_forget (Cond.code pry_M_forget prb_M_forget 1 none :: pr_U) (pr_rm h) (pr_Pc (prX t A) D pr_cl prc_L ad dA [.ref (ad 7)] σ) (pr_Qv D pr_cl prc_L ad dA A res) 0 0 A := by
  refine pr_entry (cc := prb_M_forget) (maxL := 1) (ret := none) (by decide) (Nat.le_of_ble_eq_true rfl) hD hX ?_
  intro p e s m args below meth c E H locs hP hS ls hl
  have hl : lv_has ls 1 [(0, .ref (ad 7))] := hl
  have hf := hf.symm
  unfold prf_M_forget at hf
  obtain ⟨hx, hb, hml, hown, hts, hr, hlocks, hK, hD, hX, hXs⟩ := id E
  refine lv_aload_n hx hb prd_M_forget_0 rfl (lv_at hl 0 rfl) ?_
  refine lv_iconst (v := 0) hx hb prd_M_forget_1 (by decide) ?_
  refine pr_puti (ty := .int) hx hb hts prs_M prq_M prtt_M prtn_M hown hK hP (hD _) hS 7 8 (by decide) rfl (hts _ prw_16) rfl rfl (prtt_M 8 (by decide)) rfl rfl prd_M_forget_2 (fun H locs hP hS => ?_)
  refine lv_aload_n hx hb prd_M_forget_5 rfl (lv_at hl 0 rfl) ?_
  refine lv_iconst (v := 0) hx hb prd_M_forget_6 (by decide) ?_
  refine pr_puti (ty := .int) hx hb hts prs_M prq_M prtt_M prtn_M hown hK hP (hD _) hS 7 9 (by decide) rfl (hts _ prw_17) rfl rfl (prtt_M 9 (by decide)) rfl rfl prd_M_forget_7 (fun H locs hP hS => ?_)
  refine lv_aload_n hx hb prd_M_forget_10 rfl (lv_at hl 0 rfl) ?_
  refine lv_iconst (v := 0) hx hb prd_M_forget_11 (by decide) ?_
  refine pr_puti (ty := .int) hx hb hts prs_M prq_M prtt_M prtn_M hown hK hP (hD _) hS 7 10 (by decide) rfl (hts _ prw_18) rfl rfl (prtt_M 10 (by decide)) rfl rfl prd_M_forget_12 (fun H locs hP hS => ?_)
  refine lv_aload_n hx hb prd_M_forget_15 rfl (lv_at hl 0 rfl) ?_
  refine lv_iconst (v := 0) hx hb prd_M_forget_16 (by decide) ?_
  refine pr_puti (ty := .int) hx hb hts prs_M prq_M prtt_M prtn_M hown hK hP (hD _) hS 7 11 (by decide) rfl (hts _ prw_19) rfl rfl (prtt_M 11 (by decide)) rfl rfl prd_M_forget_17 (fun H locs hP hS => ?_)
  exact pr_retv E hP hS (pr_so hf) prd_M_forget_20
-- M_addInput
set_option maxHeartbeats 4000000 in
set_option maxRecDepth 100000 in
theorem prc_M_addInput {l : Launch} {D : va_G} {ad : Nat → Nat} {dA : Nat → ClassId} {A : Nat → Prop} {t : Nat} (hD : ∀ σ : pr_St, va_D A (pr_w prc_L ad dA σ)) (hX : pr_Xok A (prX t A)) (h : Nat) (hh : 0 ≤ h) (σ : pr_St) (x1 : Int32) (res : (Int32 × pr_St)) (hf : prf_M_addInput σ x1 = some res) : Met l pry_M_addInput (Cond.code pry_M_addInput prb_M_addInput 2 (some .int) :: pr_U) (pr_rm h) (pr_Pc (prX t A) D pr_cl prc_L ad dA [.ref (ad 7), .int x1] σ) (pr_Qi D pr_cl prc_L ad dA A res) 0 0 A := by
  refine pr_entry (cc := prb_M_addInput) (maxL := 2) (ret := (some .int)) (by decide) (Nat.le_of_ble_eq_true rfl) hD hX ?_
  intro p e s m args below meth c E H locs hP hS ls hl
  have hl : lv_has ls 2 [(0, .ref (ad 7)), (1, .int x1)] := hl
  have hf := hf.symm
  unfold prf_M_addInput at hf
  obtain ⟨hx, hb, hml, hown, hts, hr, hlocks, hK, hD, hX, hXs⟩ := id E
  refine lv_aload_n hx hb prd_M_addInput_0 rfl (lv_at hl 0 rfl) ?_
  refine pr_geti (v := (σ.1 7 4)) hx hb hts prs_M hown hK hP 7 4 (by decide) rfl (hts _ prw_623) rfl rfl prd_M_addInput_1 ?_
  refine lv_if_lt (tgt := 19) hx hb prd_M_addInput_4 (by decide) (fun c4 => ?_) (fun c4 => ?_)
  · have hf := pr_it c4 hf
    refine lv_iconst (v := (-1)) hx hb prd_M_addInput_19 (by decide) ?_
    exact pr_reti E hP hS (pr_so hf) prd_M_addInput_20
  · have hf := pr_ie c4 hf
    refine lv_aload_n hx hb prd_M_addInput_7 rfl (lv_at hl 0 rfl) ?_
    refine pr_geti (v := (σ.1 7 4)) hx hb hts prs_M hown hK hP 7 4 (by decide) rfl (hts _ prw_623) rfl rfl prd_M_addInput_8 ?_
    refine lv_aload_n hx hb prd_M_addInput_11 rfl (lv_at hl 0 rfl) ?_
    refine pr_getr (t := 47) hx hb hts prs_M hown hK hP 7 3 (by decide) rfl (hts _ prw_624) rfl prd_M_addInput_12 ?_
    refine pr_alen (v := 400) hx hb hK hP 47 (by decide) (by decide) prd_M_addInput_15 ?_
    refine lv_icmp_lt (tgt := 21) hx hb prd_M_addInput_16 (by decide) (fun c5 => ?_) (fun c5 => ?_)
    · have hf := pr_it c5 hf
      refine lv_aload_n hx hb prd_M_addInput_21 rfl (lv_at hl 0 rfl) ?_
      refine pr_getr (t := 47) hx hb hts prs_M hown hK hP 7 3 (by decide) rfl (hts _ prw_624) rfl prd_M_addInput_22 ?_
      refine lv_aload_n hx hb prd_M_addInput_25 rfl (lv_at hl 0 rfl) ?_
      refine pr_geti (v := (σ.1 7 4)) hx hb hts prs_M hown hK hP 7 4 (by decide) rfl (hts _ prw_623) rfl rfl prd_M_addInput_26 ?_
      refine lv_iload_n hx hb prd_M_addInput_29 rfl (lv_at hl 1 rfl) ?_
      obtain ⟨hi6, hf⟩ := pr_ck_in hf
      refine pr_iast (f := (σ.2.1 47)) hx hb hK hP (hD _) hS 47 (by decide) rfl hi6 rfl prd_M_addInput_30 (fun H locs hP hS => ?_)
      refine lv_aload_n hx hb prd_M_addInput_31 rfl (lv_at hl 0 rfl) ?_
      refine lv_dup hx hb prd_M_addInput_32 rfl ?_
      refine pr_geti (v := (σ.1 7 4)) hx hb hts prs_M hown hK hP 7 4 (by decide) rfl (hts _ prw_623) rfl rfl prd_M_addInput_33 ?_
      refine lv_iconst (v := 1) hx hb prd_M_addInput_36 (by decide) ?_
      refine lv_iadd hx hb prd_M_addInput_37 ?_
      refine pr_puti (ty := .int) hx hb hts prs_M prq_M prtt_M prtn_M hown hK hP (hD _) hS 7 4 (by decide) rfl (hts _ prw_623) rfl rfl (prtt_M 4 (by decide)) rfl rfl prd_M_addInput_38 (fun H locs hP hS => ?_)
      refine lv_aload_n hx hb prd_M_addInput_41 rfl (lv_at hl 0 rfl) ?_
      refine pr_geti (v := ((σ.1 7 4) + 1)) hx hb hts prs_M hown hK hP 7 4 (by decide) rfl (hts _ prw_623) rfl rfl prd_M_addInput_42 ?_
      exact pr_reti E hP hS (pr_so hf) prd_M_addInput_45
    · have hf := pr_ie c5 hf
      refine lv_iconst (v := (-1)) hx hb prd_M_addInput_19 (by decide) ?_
      exact pr_reti E hP hS (pr_so hf) prd_M_addInput_20
-- M_dropInputs
set_option maxHeartbeats 4000000 in
set_option maxRecDepth 100000 in
theorem prc_M_dropInputs {l : Launch} {D : va_G} {ad : Nat → Nat} {dA : Nat → ClassId} {A : Nat → Prop} {t : Nat} (hD : ∀ σ : pr_St, va_D A (pr_w prc_L ad dA σ)) (hX : pr_Xok A (prX t A)) (h : Nat) (hh : 0 ≤ h) (σ : pr_St)  (res : (Int32 × pr_St)) (hf : prf_M_dropInputs σ  = some res) : Met l pry_M_dropInputs (Cond.code pry_M_dropInputs prb_M_dropInputs 2 (some .int) :: pr_U) (pr_rm h) (pr_Pc (prX t A) D pr_cl prc_L ad dA [.ref (ad 7)] σ) (pr_Qi D pr_cl prc_L ad dA A res) 0 0 A := by
  refine pr_entry (cc := prb_M_dropInputs) (maxL := 2) (ret := (some .int)) (by decide) (Nat.le_of_ble_eq_true rfl) hD hX ?_
  intro p e s m args below meth c E H locs hP hS ls hl
  have hl : lv_has ls 2 [(0, .ref (ad 7))] := hl
  have hf := hf.symm
  unfold prf_M_dropInputs at hf
  obtain ⟨hx, hb, hml, hown, hts, hr, hlocks, hK, hD, hX, hXs⟩ := id E
  refine lv_aload_n hx hb prd_M_dropInputs_0 rfl (lv_at hl 0 rfl) ?_
  refine pr_geti (v := (σ.1 7 4)) hx hb hts prs_M hown hK hP 7 4 (by decide) rfl (hts _ prw_623) rfl rfl prd_M_dropInputs_1 ?_
  refine lv_istore_n (lv' := [(1, .int (σ.1 7 4)), (0, .ref (ad 7))]) hx hb prd_M_dropInputs_4 rfl hl (by decide) rfl (fun ls hl => ?_)
  refine lv_aload_n hx hb prd_M_dropInputs_5 rfl (lv_at hl 1 rfl) ?_
  refine lv_iconst (v := 0) hx hb prd_M_dropInputs_6 (by decide) ?_
  refine pr_puti (ty := .int) hx hb hts prs_M prq_M prtt_M prtn_M hown hK hP (hD _) hS 7 4 (by decide) rfl (hts _ prw_623) rfl rfl (prtt_M 4 (by decide)) rfl rfl prd_M_dropInputs_7 (fun H locs hP hS => ?_)
  refine lv_iload_n hx hb prd_M_dropInputs_10 rfl (lv_at hl 0 rfl) ?_
  exact pr_reti E hP hS (pr_so hf) prd_M_dropInputs_11
-- M_waitingAt
set_option maxHeartbeats 4000000 in
set_option maxRecDepth 100000 in
theorem prc_M_waitingAt {l : Launch} {D : va_G} {ad : Nat → Nat} {dA : Nat → ClassId} {A : Nat → Prop} {t : Nat} (hD : ∀ σ : pr_St, va_D A (pr_w prc_L ad dA σ)) (hX : pr_Xok A (prX t A)) (h : Nat) (hh : 0 ≤ h) (σ : pr_St) (x1 : Int32) (res : Int32) (hf : prf_M_waitingAt σ x1 = some res) : Met l pry_M_waitingAt (Cond.code pry_M_waitingAt prb_M_waitingAt 2 (some .int) :: pr_U) (pr_rm h) (pr_Pc (prX t A) D pr_cl prc_L ad dA [.ref (ad 7), .int x1] σ) (pr_Qi D pr_cl prc_L ad dA A (res, σ)) 0 0 A := by
  refine pr_entry (cc := prb_M_waitingAt) (maxL := 2) (ret := (some .int)) (by decide) (Nat.le_of_ble_eq_true rfl) hD hX ?_
  intro p e s m args below meth c E H locs hP hS ls hl
  have hl : lv_has ls 2 [(0, .ref (ad 7)), (1, .int x1)] := hl
  have hf := hf.symm
  unfold prf_M_waitingAt at hf
  obtain ⟨hx, hb, hml, hown, hts, hr, hlocks, hK, hD, hX, hXs⟩ := id E
  refine lv_iload_n hx hb prd_M_waitingAt_0 rfl (lv_at hl 1 rfl) ?_
  refine lv_if_lt (tgt := 30) hx hb prd_M_waitingAt_1 (by decide) (fun c5 => ?_) (fun c5 => ?_)
  · have hf := pr_it c5 hf
    refine lv_iconst (v := 0) hx hb prd_M_waitingAt_30 (by decide) ?_
    exact pr_reti E hP hS (pr_ro hf) prd_M_waitingAt_31
  · have hf := pr_ie c5 hf
    refine lv_iload_n hx hb prd_M_waitingAt_4 rfl (lv_at hl 1 rfl) ?_
    refine lv_aload_n hx hb prd_M_waitingAt_5 rfl (lv_at hl 0 rfl) ?_
    refine pr_geti (v := (σ.1 7 13)) hx hb hts prs_M hown hK hP 7 13 (by decide) rfl (hts _ prw_651) rfl rfl prd_M_waitingAt_6 ?_
    refine lv_icmp_ge (tgt := 30) hx hb prd_M_waitingAt_9 (by decide) (fun c6 => ?_) (fun c6 => ?_)
    · have hf := pr_it c6 hf
      refine lv_iconst (v := 0) hx hb prd_M_waitingAt_30 (by decide) ?_
      exact pr_reti E hP hS (pr_ro hf) prd_M_waitingAt_31
    · have hf := pr_ie c6 hf
      refine lv_iload_n hx hb prd_M_waitingAt_12 rfl (lv_at hl 1 rfl) ?_
      refine lv_aload_n hx hb prd_M_waitingAt_13 rfl (lv_at hl 0 rfl) ?_
      refine pr_getr (t := 51) hx hb hts prs_M hown hK hP 7 12 (by decide) rfl (hts _ prw_652) rfl prd_M_waitingAt_14 ?_
      refine pr_alen (v := 256) hx hb hK hP 51 (by decide) (by decide) prd_M_waitingAt_17 ?_
      refine lv_icmp_ge (tgt := 30) hx hb prd_M_waitingAt_18 (by decide) (fun c7 => ?_) (fun c7 => ?_)
      · have hf := pr_it c7 hf
        refine lv_iconst (v := 0) hx hb prd_M_waitingAt_30 (by decide) ?_
        exact pr_reti E hP hS (pr_ro hf) prd_M_waitingAt_31
      · have hf := pr_ie c7 hf
        refine lv_aload_n hx hb prd_M_waitingAt_21 rfl (lv_at hl 0 rfl) ?_
        refine pr_getr (t := 51) hx hb hts prs_M hown hK hP 7 12 (by decide) rfl (hts _ prw_652) rfl prd_M_waitingAt_22 ?_
        refine lv_iload_n hx hb prd_M_waitingAt_25 rfl (lv_at hl 1 rfl) ?_
        obtain ⟨hi8, hf⟩ := pr_ck_in hf
        refine pr_iald (f := (σ.2.1 51)) hx hb hK hP 51 (by decide) rfl hi8 rfl prd_M_waitingAt_26 ?_
        refine lv_goto (tgt := 31) hx hb prd_M_waitingAt_27 (by decide) ?_
        exact pr_reti E hP hS (pr_ro hf) prd_M_waitingAt_31
-- M_pop
set_option maxHeartbeats 4000000 in
set_option maxRecDepth 100000 in
theorem prc_M_pop {l : Launch} {D : va_G} {ad : Nat → Nat} {dA : Nat → ClassId} {A : Nat → Prop} {t : Nat} (hD : ∀ σ : pr_St, va_D A (pr_w prc_L ad dA σ)) (hX : pr_Xok A (prX t A)) (h : Nat) (hh : 0 ≤ h) (σ : pr_St)  (res : (Int32 × pr_St)) (hf : prf_M_pop σ  = some res) : Met l pry_M_pop (Cond.code pry_M_pop prb_M_pop 1 (some .int) :: pr_U) (pr_rm h) (pr_Pc (prX t A) D pr_cl prc_L ad dA [.ref (ad 7)] σ) (pr_Qi D pr_cl prc_L ad dA A res) 0 0 A := by
  refine pr_entry (cc := prb_M_pop) (maxL := 1) (ret := (some .int)) (by decide) (Nat.le_of_ble_eq_true rfl) hD hX ?_
  intro p e s m args below meth c E H locs hP hS ls hl
  have hl : lv_has ls 1 [(0, .ref (ad 7))] := hl
  have hf := hf.symm
  unfold prf_M_pop at hf
  obtain ⟨hx, hb, hml, hown, hts, hr, hlocks, hK, hD, hX, hXs⟩ := id E
  refine lv_aload_n hx hb prd_M_pop_0 rfl (lv_at hl 0 rfl) ?_
  refine pr_geti (v := (σ.1 7 13)) hx hb hts prs_M hown hK hP 7 13 (by decide) rfl (hts _ prw_651) rfl rfl prd_M_pop_1 ?_
  refine lv_if_le (tgt := 19) hx hb prd_M_pop_4 (by decide) (fun c4 => ?_) (fun c4 => ?_)
  · have hf := pr_it c4 hf
    refine lv_iconst (v := 0) hx hb prd_M_pop_19 (by decide) ?_
    exact pr_reti E hP hS (pr_so hf) prd_M_pop_20
  · have hf := pr_ie c4 hf
    refine lv_aload_n hx hb prd_M_pop_7 rfl (lv_at hl 0 rfl) ?_
    refine pr_geti (v := (σ.1 7 13)) hx hb hts prs_M hown hK hP 7 13 (by decide) rfl (hts _ prw_651) rfl rfl prd_M_pop_8 ?_
    refine lv_aload_n hx hb prd_M_pop_11 rfl (lv_at hl 0 rfl) ?_
    refine pr_getr (t := 51) hx hb hts prs_M hown hK hP 7 12 (by decide) rfl (hts _ prw_652) rfl prd_M_pop_12 ?_
    refine pr_alen (v := 256) hx hb hK hP 51 (by decide) (by decide) prd_M_pop_15 ?_
    refine lv_icmp_le (tgt := 21) hx hb prd_M_pop_16 (by decide) (fun c5 => ?_) (fun c5 => ?_)
    · have hf := pr_it c5 hf
      refine lv_aload_n hx hb prd_M_pop_21 rfl (lv_at hl 0 rfl) ?_
      refine lv_dup hx hb prd_M_pop_22 rfl ?_
      refine pr_geti (v := (σ.1 7 13)) hx hb hts prs_M hown hK hP 7 13 (by decide) rfl (hts _ prw_651) rfl rfl prd_M_pop_23 ?_
      refine lv_iconst (v := 1) hx hb prd_M_pop_26 (by decide) ?_
      refine lv_isub hx hb prd_M_pop_27 ?_
      refine pr_puti (ty := .int) hx hb hts prs_M prq_M prtt_M prtn_M hown hK hP (hD _) hS 7 13 (by decide) rfl (hts _ prw_651) rfl rfl (prtt_M 13 (by decide)) rfl rfl prd_M_pop_28 (fun H locs hP hS => ?_)
      refine lv_aload_n hx hb prd_M_pop_31 rfl (lv_at hl 0 rfl) ?_
      refine pr_getr (t := 51) hx hb hts prs_M hown hK hP 7 12 (by decide) rfl (hts _ prw_652) rfl prd_M_pop_32 ?_
      refine lv_aload_n hx hb prd_M_pop_35 rfl (lv_at hl 0 rfl) ?_
      refine pr_geti (v := ((σ.1 7 13) - 1)) hx hb hts prs_M hown hK hP 7 13 (by decide) rfl (hts _ prw_651) rfl rfl prd_M_pop_36 ?_
      obtain ⟨hi6, hf⟩ := pr_ck_in hf
      refine pr_iald (f := (σ.2.1 51)) hx hb hK hP 51 (by decide) rfl hi6 rfl prd_M_pop_39 ?_
      exact pr_reti E hP hS (pr_so hf) prd_M_pop_40
    · have hf := pr_ie c5 hf
      refine lv_iconst (v := 0) hx hb prd_M_pop_19 (by decide) ?_
      exact pr_reti E hP hS (pr_so hf) prd_M_pop_20
-- M_push
set_option maxHeartbeats 4000000 in
set_option maxRecDepth 100000 in
theorem prc_M_push {l : Launch} {D : va_G} {ad : Nat → Nat} {dA : Nat → ClassId} {A : Nat → Prop} {t : Nat} (hD : ∀ σ : pr_St, va_D A (pr_w prc_L ad dA σ)) (hX : pr_Xok A (prX t A)) (h : Nat) (hh : 0 ≤ h) (σ : pr_St) (x1 : Int32) (res : pr_St) (hf : prf_M_push σ x1 = some res) : Met l pry_M_push (Cond.code pry_M_push prb_M_push 2 none :: pr_U) (pr_rm h) (pr_Pc (prX t A) D pr_cl prc_L ad dA [.ref (ad 7), .int x1] σ) (pr_Qv D pr_cl prc_L ad dA A res) 0 0 A := by
  refine pr_entry (cc := prb_M_push) (maxL := 2) (ret := none) (by decide) (Nat.le_of_ble_eq_true rfl) hD hX ?_
  intro p e s m args below meth c E H locs hP hS ls hl
  have hl : lv_has ls 2 [(0, .ref (ad 7)), (1, .int x1)] := hl
  have hf := hf.symm
  unfold prf_M_push at hf
  obtain ⟨hx, hb, hml, hown, hts, hr, hlocks, hK, hD, hX, hXs⟩ := id E
  refine lv_aload_n hx hb prd_M_push_0 rfl (lv_at hl 0 rfl) ?_
  refine pr_geti (v := (σ.1 7 13)) hx hb hts prs_M hown hK hP 7 13 (by decide) rfl (hts _ prw_651) rfl rfl prd_M_push_1 ?_
  refine lv_if_lt (tgt := 39) hx hb prd_M_push_4 (by decide) (fun c4 => ?_) (fun c4 => ?_)
  · have hf := pr_it c4 hf
    exact pr_retv E hP hS (pr_so hf) prd_M_push_39
  · have hf := pr_ie c4 hf
    refine lv_aload_n hx hb prd_M_push_7 rfl (lv_at hl 0 rfl) ?_
    refine pr_geti (v := (σ.1 7 13)) hx hb hts prs_M hown hK hP 7 13 (by decide) rfl (hts _ prw_651) rfl rfl prd_M_push_8 ?_
    refine lv_aload_n hx hb prd_M_push_11 rfl (lv_at hl 0 rfl) ?_
    refine pr_getr (t := 51) hx hb hts prs_M hown hK hP 7 12 (by decide) rfl (hts _ prw_652) rfl prd_M_push_12 ?_
    refine pr_alen (v := 256) hx hb hK hP 51 (by decide) (by decide) prd_M_push_15 ?_
    refine lv_icmp_ge (tgt := 39) hx hb prd_M_push_16 (by decide) (fun c5 => ?_) (fun c5 => ?_)
    · have hf := pr_it c5 hf
      exact pr_retv E hP hS (pr_so hf) prd_M_push_39
    · have hf := pr_ie c5 hf
      refine lv_aload_n hx hb prd_M_push_19 rfl (lv_at hl 0 rfl) ?_
      refine pr_getr (t := 51) hx hb hts prs_M hown hK hP 7 12 (by decide) rfl (hts _ prw_652) rfl prd_M_push_20 ?_
      refine lv_aload_n hx hb prd_M_push_23 rfl (lv_at hl 0 rfl) ?_
      refine pr_geti (v := (σ.1 7 13)) hx hb hts prs_M hown hK hP 7 13 (by decide) rfl (hts _ prw_651) rfl rfl prd_M_push_24 ?_
      refine lv_iload_n hx hb prd_M_push_27 rfl (lv_at hl 1 rfl) ?_
      obtain ⟨hi6, hf⟩ := pr_ck_in hf
      refine pr_iast (f := (σ.2.1 51)) hx hb hK hP (hD _) hS 51 (by decide) rfl hi6 rfl prd_M_push_28 (fun H locs hP hS => ?_)
      refine lv_aload_n hx hb prd_M_push_29 rfl (lv_at hl 0 rfl) ?_
      refine lv_dup hx hb prd_M_push_30 rfl ?_
      refine pr_geti (v := (σ.1 7 13)) hx hb hts prs_M hown hK hP 7 13 (by decide) rfl (hts _ prw_651) rfl rfl prd_M_push_31 ?_
      refine lv_iconst (v := 1) hx hb prd_M_push_34 (by decide) ?_
      refine lv_iadd hx hb prd_M_push_35 ?_
      refine pr_puti (ty := .int) hx hb hts prs_M prq_M prtt_M prtn_M hown hK hP (hD _) hS 7 13 (by decide) rfl (hts _ prw_651) rfl rfl (prtt_M 13 (by decide)) rfl rfl prd_M_push_36 (fun H locs hP hS => ?_)
      exact pr_retv E hP hS (pr_so hf) prd_M_push_39
-- M_pushIfInt
set_option maxHeartbeats 4000000 in
set_option maxRecDepth 100000 in
theorem prc_M_pushIfInt {l : Launch} {D : va_G} {ad : Nat → Nat} {dA : Nat → ClassId} {A : Nat → Prop} {t : Nat} (hD : ∀ σ : pr_St, va_D A (pr_w prc_L ad dA σ)) (hX : pr_Xok A (prX t A)) (h : Nat) (hh : 1 ≤ h) (σ : pr_St) (x1 : Int64) (res : pr_St) (hf : prf_M_pushIfInt σ x1 = some res) : Met l pry_M_pushIfInt (Cond.code pry_M_pushIfInt prb_M_pushIfInt 3 none :: pr_U) (pr_rm h) (pr_Pc (prX t A) D pr_cl prc_L ad dA [.ref (ad 7), .long x1] σ) (pr_Qv D pr_cl prc_L ad dA A res) 0 0 A := by
  refine pr_entry (cc := prb_M_pushIfInt) (maxL := 3) (ret := none) (by decide) (Nat.le_of_ble_eq_true rfl) hD hX ?_
  intro p e s m args below meth c E H locs hP hS ls hl
  have hl : lv_has ls 3 [(0, .ref (ad 7)), (1, .long x1)] := hl
  have hf := hf.symm
  unfold prf_M_pushIfInt at hf
  obtain ⟨hx, hb, hml, hown, hts, hr, hlocks, hK, hD, hX, hXs⟩ := id E
  refine lv_lload_n hx hb prd_M_pushIfInt_0 rfl (lv_at hl 1 rfl) ?_
  refine lv_ldc2 (v := (-2147483648)) hx hb hown (hts _ prw_662) prd_M_pushIfInt_1 ?_
  refine W.lcmp hx hb prd_M_pushIfInt_4 ?_
  refine lv_if_lt (tgt := 16) hx hb prd_M_pushIfInt_5 (by decide) (fun c4 => ?_) (fun c4 => ?_)
  · have hf := pr_it c4 hf
    refine lv_aload_n hx hb prd_M_pushIfInt_16 rfl (lv_at hl 0 rfl) ?_
    refine lv_iconst (v := 1) hx hb prd_M_pushIfInt_17 (by decide) ?_
    refine pr_puti (ty := .int) hx hb hts prs_M prq_M prtt_M prtn_M hown hK hP (hD _) hS 7 11 (by decide) rfl (hts _ prw_19) rfl rfl (prtt_M 11 (by decide)) rfl rfl prd_M_pushIfInt_18 (fun H locs hP hS => ?_)
    refine lv_goto (tgt := 30) hx hb prd_M_pushIfInt_21 (by decide) ?_
    exact pr_retv E hP hS (pr_so hf) prd_M_pushIfInt_30
  · have hf := pr_ie c4 hf
    refine lv_lload_n hx hb prd_M_pushIfInt_8 rfl (lv_at hl 1 rfl) ?_
    refine lv_ldc2 (v := 2147483647) hx hb hown (hts _ prw_663) prd_M_pushIfInt_9 ?_
    refine W.lcmp hx hb prd_M_pushIfInt_12 ?_
    refine lv_if_le (tgt := 24) hx hb prd_M_pushIfInt_13 (by decide) (fun c5 => ?_) (fun c5 => ?_)
    · have hf := pr_it c5 hf
      refine lv_aload_n hx hb prd_M_pushIfInt_24 rfl (lv_at hl 0 rfl) ?_
      refine lv_lload_n hx hb prd_M_pushIfInt_25 rfl (lv_at hl 1 rfl) ?_
      refine lv_l2i (v := x1.toInt32) hx hb prd_M_pushIfInt_26 rfl ?_
      obtain ⟨r6, hr6, hf⟩ := pr_bi hf
      refine pr_callVv (rest := []) (res := r6) ⟨hx, hb, hml, hown, hts⟩ 7 (prc_M_push hD hX 0 (Nat.le_refl _) σ x1.toInt32 r6 hr6) (prg_M_push hts prw_664 (by have := hh; omega)) hX hXs hK hP hS (by decide) rfl rfl rfl rfl hl.1 (Nat.le_of_ble_eq_true rfl) prd_M_pushIfInt_27 (fun H locs hP hS => ?_)
      exact pr_retv E hP hS (pr_so hf) prd_M_pushIfInt_30
    · have hf := pr_ie c5 hf
      refine lv_aload_n hx hb prd_M_pushIfInt_16 rfl (lv_at hl 0 rfl) ?_
      refine lv_iconst (v := 1) hx hb prd_M_pushIfInt_17 (by decide) ?_
      refine pr_puti (ty := .int) hx hb hts prs_M prq_M prtt_M prtn_M hown hK hP (hD _) hS 7 11 (by decide) rfl (hts _ prw_19) rfl rfl (prtt_M 11 (by decide)) rfl rfl prd_M_pushIfInt_18 (fun H locs hP hS => ?_)
      refine lv_goto (tgt := 30) hx hb prd_M_pushIfInt_21 (by decide) ?_
      exact pr_retv E hP hS (pr_so hf) prd_M_pushIfInt_30
-- M_reckonTwo
set_option maxHeartbeats 4000000 in
set_option maxRecDepth 100000 in
theorem prc_M_reckonTwo {l : Launch} {D : va_G} {ad : Nat → Nat} {dA : Nat → ClassId} {A : Nat → Prop} {t : Nat} (hD : ∀ σ : pr_St, va_D A (pr_w prc_L ad dA σ)) (hX : pr_Xok A (prX t A)) (h : Nat) (hh : 2 ≤ h) (σ : pr_St) (x1 : Int32) (res : pr_St) (hf : prf_M_reckonTwo σ x1 = some res) : Met l pry_M_reckonTwo (Cond.code pry_M_reckonTwo prb_M_reckonTwo 4 none :: pr_U) (pr_rm h) (pr_Pc (prX t A) D pr_cl prc_L ad dA [.ref (ad 7), .int x1] σ) (pr_Qv D pr_cl prc_L ad dA A res) 0 0 A := by
  refine pr_entry (cc := prb_M_reckonTwo) (maxL := 4) (ret := none) (by decide) (Nat.le_of_ble_eq_true rfl) hD hX ?_
  intro p e s m args below meth c E H locs hP hS ls hl
  have hl : lv_has ls 4 [(0, .ref (ad 7)), (1, .int x1)] := hl
  have hf := hf.symm
  unfold prf_M_reckonTwo at hf
  obtain ⟨hx, hb, hml, hown, hts, hr, hlocks, hK, hD, hX, hXs⟩ := id E
  refine lv_aload_n hx hb prd_M_reckonTwo_0 rfl (lv_at hl 0 rfl) ?_
  obtain ⟨r15, hr15, hf⟩ := pr_bi hf
  refine pr_callVi (rest := []) (res := r15) ⟨hx, hb, hml, hown, hts⟩ 7 (prc_M_pop hD hX 0 (Nat.le_refl _) σ  r15 hr15) (prg_M_pop hts prw_668 (by have := hh; omega)) hX hXs hK hP hS (by decide) rfl rfl rfl rfl hl.1 (Nat.le_of_ble_eq_true rfl) prd_M_reckonTwo_1 (fun H locs hP hS => ?_)
  refine lv_istore_n (lv' := [(2, .int r15.1), (0, .ref (ad 7)), (1, .int x1)]) hx hb prd_M_reckonTwo_4 rfl hl (by decide) rfl (fun ls hl => ?_)
  refine lv_aload_n hx hb prd_M_reckonTwo_5 rfl (lv_at hl 1 rfl) ?_
  obtain ⟨r16, hr16, hf⟩ := pr_bi hf
  refine pr_callVi (rest := []) (res := r16) ⟨hx, hb, hml, hown, hts⟩ 7 (prc_M_pop hD hX 0 (Nat.le_refl _) r15.2  r16 hr16) (prg_M_pop hts prw_668 (by have := hh; omega)) hX hXs hK hP hS (by decide) rfl rfl rfl rfl hl.1 (Nat.le_of_ble_eq_true rfl) prd_M_reckonTwo_6 (fun H locs hP hS => ?_)
  refine lv_istore_n (lv' := [(3, .int r16.1), (2, .int r15.1), (0, .ref (ad 7)), (1, .int x1)]) hx hb prd_M_reckonTwo_9 rfl hl (by decide) rfl (fun ls hl => ?_)
  refine lv_iload_n hx hb prd_M_reckonTwo_10 rfl (lv_at hl 3 rfl) ?_
  by_cases c17 : x1 = 21
  · have hf := pr_it c17 hf
    refine lv_tableIn (tgt := 36) (off := 25) hx hb prd_M_reckonTwo_11 (by rw [c17]; decide) (by rw [c17]; decide) (by rw [c17] <;> rfl) (by decide) ?_
    refine lv_aload_n hx hb prd_M_reckonTwo_36 rfl (lv_at hl 2 rfl) ?_
    refine lv_iload_n hx hb prd_M_reckonTwo_37 rfl (lv_at hl 0 rfl) ?_
    refine lv_i2l (v := r16.1.toInt64) hx hb prd_M_reckonTwo_38 rfl ?_
    refine lv_iload_n hx hb prd_M_reckonTwo_39 rfl (lv_at hl 1 rfl) ?_
    refine lv_i2l (v := r15.1.toInt64) hx hb prd_M_reckonTwo_40 rfl ?_
    refine lv_ladd hx hb prd_M_reckonTwo_41 ?_
    obtain ⟨r18, hr18, hf⟩ := pr_bi hf
    refine pr_callVv (rest := []) (res := r18) ⟨hx, hb, hml, hown, hts⟩ 7 (prc_M_pushIfInt hD hX 1 (Nat.le_refl _) r16.2 (r16.1.toInt64 + r15.1.toInt64) r18 hr18) (prg_M_pushIfInt hts prw_669 (by have := hh; omega)) hX hXs hK hP hS (by decide) rfl rfl rfl rfl hl.1 (Nat.le_of_ble_eq_true rfl) prd_M_reckonTwo_42 (fun H locs hP hS => ?_)
    refine lv_goto (tgt := 107) hx hb prd_M_reckonTwo_45 (by decide) ?_
    exact pr_retv E hP hS (pr_so hf) prd_M_reckonTwo_107
  · have hf := pr_ie c17 hf
    by_cases c19 : x1 = 22
    · have hf := pr_it c19 hf
      refine lv_tableIn (tgt := 48) (off := 37) hx hb prd_M_reckonTwo_11 (by rw [c19]; decide) (by rw [c19]; decide) (by rw [c19] <;> rfl) (by decide) ?_
      refine lv_aload_n hx hb prd_M_reckonTwo_48 rfl (lv_at hl 2 rfl) ?_
      refine lv_iload_n hx hb prd_M_reckonTwo_49 rfl (lv_at hl 0 rfl) ?_
      refine lv_i2l (v := r16.1.toInt64) hx hb prd_M_reckonTwo_50 rfl ?_
      refine lv_iload_n hx hb prd_M_reckonTwo_51 rfl (lv_at hl 1 rfl) ?_
      refine lv_i2l (v := r15.1.toInt64) hx hb prd_M_reckonTwo_52 rfl ?_
      refine lv_lsub hx hb prd_M_reckonTwo_53 ?_
      obtain ⟨r20, hr20, hf⟩ := pr_bi hf
      refine pr_callVv (rest := []) (res := r20) ⟨hx, hb, hml, hown, hts⟩ 7 (prc_M_pushIfInt hD hX 1 (Nat.le_refl _) r16.2 (r16.1.toInt64 - r15.1.toInt64) r20 hr20) (prg_M_pushIfInt hts prw_669 (by have := hh; omega)) hX hXs hK hP hS (by decide) rfl rfl rfl rfl hl.1 (Nat.le_of_ble_eq_true rfl) prd_M_reckonTwo_54 (fun H locs hP hS => ?_)
      refine lv_goto (tgt := 107) hx hb prd_M_reckonTwo_57 (by decide) ?_
      exact pr_retv E hP hS (pr_so hf) prd_M_reckonTwo_107
    · have hf := pr_ie c19 hf
      by_cases c21 : x1 = 23
      · have hf := pr_it c21 hf
        refine lv_tableIn (tgt := 60) (off := 49) hx hb prd_M_reckonTwo_11 (by rw [c21]; decide) (by rw [c21]; decide) (by rw [c21] <;> rfl) (by decide) ?_
        refine lv_aload_n hx hb prd_M_reckonTwo_60 rfl (lv_at hl 2 rfl) ?_
        refine lv_iload_n hx hb prd_M_reckonTwo_61 rfl (lv_at hl 0 rfl) ?_
        refine lv_i2l (v := r16.1.toInt64) hx hb prd_M_reckonTwo_62 rfl ?_
        refine lv_iload_n hx hb prd_M_reckonTwo_63 rfl (lv_at hl 1 rfl) ?_
        refine lv_i2l (v := r15.1.toInt64) hx hb prd_M_reckonTwo_64 rfl ?_
        refine lv_lmul hx hb prd_M_reckonTwo_65 ?_
        obtain ⟨r22, hr22, hf⟩ := pr_bi hf
        refine pr_callVv (rest := []) (res := r22) ⟨hx, hb, hml, hown, hts⟩ 7 (prc_M_pushIfInt hD hX 1 (Nat.le_refl _) r16.2 (r16.1.toInt64 * r15.1.toInt64) r22 hr22) (prg_M_pushIfInt hts prw_669 (by have := hh; omega)) hX hXs hK hP hS (by decide) rfl rfl rfl rfl hl.1 (Nat.le_of_ble_eq_true rfl) prd_M_reckonTwo_66 (fun H locs hP hS => ?_)
        refine lv_goto (tgt := 107) hx hb prd_M_reckonTwo_69 (by decide) ?_
        exact pr_retv E hP hS (pr_so hf) prd_M_reckonTwo_107
      · have hf := pr_ie c21 hf
        refine lv_tableOut (tgt := 72) hx hb prd_M_reckonTwo_11 (by have w0 := lv_neT (a := 21) c17 (by decide); have w1 := lv_neT (a := 22) c19 (by decide); have w2 := lv_neT (a := 23) c21 (by decide); omega) (by decide) ?_
        refine lv_iload_n hx hb prd_M_reckonTwo_72 rfl (lv_at hl 1 rfl) ?_
        refine lv_if_ne (tgt := 84) hx hb prd_M_reckonTwo_73 (by decide) (fun c23 => ?_) (fun c23 => ?_)
        · have hf := pr_ie c23 hf
          refine lv_aload_n hx hb prd_M_reckonTwo_84 rfl (lv_at hl 2 rfl) ?_
          refine lv_iload_n hx hb prd_M_reckonTwo_85 rfl (lv_at hl 3 rfl) ?_
          refine lv_bipush (v := 24) hx hb prd_M_reckonTwo_86 (by decide) ?_
          refine lv_icmp_ne (tgt := 99) hx hb prd_M_reckonTwo_88 (by decide) (fun c24 => ?_) (fun c24 => ?_)
          · have hf := pr_ie c24 hf
            refine lv_iload_n hx hb prd_M_reckonTwo_99 rfl (lv_at hl 0 rfl) ?_
            refine lv_i2l (v := r16.1.toInt64) hx hb prd_M_reckonTwo_100 rfl ?_
            refine lv_iload_n hx hb prd_M_reckonTwo_101 rfl (lv_at hl 1 rfl) ?_
            refine lv_i2l (v := r15.1.toInt64) hx hb prd_M_reckonTwo_102 rfl ?_
            obtain ⟨hz25, hf⟩ := pr_nzl_in hf
            refine lv_lrem hx hb prd_M_reckonTwo_103 hz25 ?_
            obtain ⟨r26, hr26, hf⟩ := pr_bi hf
            refine pr_callVv (rest := []) (res := r26) ⟨hx, hb, hml, hown, hts⟩ 7 (prc_M_pushIfInt hD hX 1 (Nat.le_refl _) r16.2 (r16.1.toInt64 - r16.1.toInt64 / r15.1.toInt64 * r15.1.toInt64) r26 hr26) (prg_M_pushIfInt hts prw_669 (by have := hh; omega)) hX hXs hK hP hS (by decide) rfl rfl rfl rfl hl.1 (Nat.le_of_ble_eq_true rfl) prd_M_reckonTwo_104 (fun H locs hP hS => ?_)
            exact pr_retv E hP hS (pr_so hf) prd_M_reckonTwo_107
          · have hf := pr_it c24 hf
            refine lv_iload_n hx hb prd_M_reckonTwo_91 rfl (lv_at hl 0 rfl) ?_
            refine lv_i2l (v := r16.1.toInt64) hx hb prd_M_reckonTwo_92 rfl ?_
            refine lv_iload_n hx hb prd_M_reckonTwo_93 rfl (lv_at hl 1 rfl) ?_
            refine lv_i2l (v := r15.1.toInt64) hx hb prd_M_reckonTwo_94 rfl ?_
            obtain ⟨hz27, hf⟩ := pr_nzl_in hf
            refine lv_ldiv hx hb prd_M_reckonTwo_95 hz27 ?_
            refine lv_goto (tgt := 104) hx hb prd_M_reckonTwo_96 (by decide) ?_
            obtain ⟨r28, hr28, hf⟩ := pr_bi hf
            refine pr_callVv (rest := []) (res := r28) ⟨hx, hb, hml, hown, hts⟩ 7 (prc_M_pushIfInt hD hX 1 (Nat.le_refl _) r16.2 (r16.1.toInt64 / r15.1.toInt64) r28 hr28) (prg_M_pushIfInt hts prw_669 (by have := hh; omega)) hX hXs hK hP hS (by decide) rfl rfl rfl rfl hl.1 (Nat.le_of_ble_eq_true rfl) prd_M_reckonTwo_104 (fun H locs hP hS => ?_)
            exact pr_retv E hP hS (pr_so hf) prd_M_reckonTwo_107
        · have hf := pr_it c23 hf
          refine lv_aload_n hx hb prd_M_reckonTwo_76 rfl (lv_at hl 2 rfl) ?_
          refine lv_iconst (v := 2) hx hb prd_M_reckonTwo_77 (by decide) ?_
          refine pr_puti (ty := .int) hx hb hts prs_M prq_M prtt_M prtn_M hown hK hP (hD _) hS 7 11 (by decide) rfl (hts _ prw_19) rfl rfl (prtt_M 11 (by decide)) rfl rfl prd_M_reckonTwo_78 (fun H locs hP hS => ?_)
          refine lv_goto (tgt := 107) hx hb prd_M_reckonTwo_81 (by decide) ?_
          exact pr_retv E hP hS (pr_so hf) prd_M_reckonTwo_107
-- M_pushTruth
set_option maxHeartbeats 4000000 in
set_option maxRecDepth 100000 in
theorem prc_M_pushTruth {l : Launch} {D : va_G} {ad : Nat → Nat} {dA : Nat → ClassId} {A : Nat → Prop} {t : Nat} (hD : ∀ σ : pr_St, va_D A (pr_w prc_L ad dA σ)) (hX : pr_Xok A (prX t A)) (h : Nat) (hh : 1 ≤ h) (σ : pr_St) (x1 : Int32) (res : pr_St) (hf : prf_M_pushTruth σ x1 = some res) : Met l pry_M_pushTruth (Cond.code pry_M_pushTruth prb_M_pushTruth 2 none :: pr_U) (pr_rm h) (pr_Pc (prX t A) D pr_cl prc_L ad dA [.ref (ad 7), .int x1] σ) (pr_Qv D pr_cl prc_L ad dA A res) 0 0 A := by
  refine pr_entry (cc := prb_M_pushTruth) (maxL := 2) (ret := none) (by decide) (Nat.le_of_ble_eq_true rfl) hD hX ?_
  intro p e s m args below meth c E H locs hP hS ls hl
  have hl : lv_has ls 2 [(0, .ref (ad 7)), (1, .int x1)] := hl
  have hf := hf.symm
  unfold prf_M_pushTruth at hf
  obtain ⟨hx, hb, hml, hown, hts, hr, hlocks, hK, hD, hX, hXs⟩ := id E
  refine lv_aload_n hx hb prd_M_pushTruth_0 rfl (lv_at hl 0 rfl) ?_
  refine lv_iload_n hx hb prd_M_pushTruth_1 rfl (lv_at hl 1 rfl) ?_
  refine lv_if_eq (tgt := 9) hx hb prd_M_pushTruth_2 (by decide) (fun c4 => ?_) (fun c4 => ?_)
  · have hf := pr_it c4 hf
    refine lv_iconst (v := 0) hx hb prd_M_pushTruth_9 (by decide) ?_
    obtain ⟨r5, hr5, hf⟩ := pr_bi hf
    refine pr_callVv (rest := []) (res := r5) ⟨hx, hb, hml, hown, hts⟩ 7 (prc_M_push hD hX 0 (Nat.le_refl _) σ 0 r5 hr5) (prg_M_push hts prw_664 (by have := hh; omega)) hX hXs hK hP hS (by decide) rfl rfl rfl rfl hl.1 (Nat.le_of_ble_eq_true rfl) prd_M_pushTruth_10 (fun H locs hP hS => ?_)
    exact pr_retv E hP hS (pr_so hf) prd_M_pushTruth_13
  · have hf := pr_ie c4 hf
    refine lv_iconst (v := 1) hx hb prd_M_pushTruth_5 (by decide) ?_
    refine lv_goto (tgt := 10) hx hb prd_M_pushTruth_6 (by decide) ?_
    obtain ⟨r6, hr6, hf⟩ := pr_bi hf
    refine pr_callVv (rest := []) (res := r6) ⟨hx, hb, hml, hown, hts⟩ 7 (prc_M_push hD hX 0 (Nat.le_refl _) σ 1 r6 hr6) (prg_M_push hts prw_664 (by have := hh; omega)) hX hXs hK hP hS (by decide) rfl rfl rfl rfl hl.1 (Nat.le_of_ble_eq_true rfl) prd_M_pushTruth_10 (fun H locs hP hS => ?_)
    exact pr_retv E hP hS (pr_so hf) prd_M_pushTruth_13
-- M_compareTwo
set_option maxHeartbeats 4000000 in
set_option maxRecDepth 100000 in
theorem prc_M_compareTwo {l : Launch} {D : va_G} {ad : Nat → Nat} {dA : Nat → ClassId} {A : Nat → Prop} {t : Nat} (hD : ∀ σ : pr_St, va_D A (pr_w prc_L ad dA σ)) (hX : pr_Xok A (prX t A)) (h : Nat) (hh : 2 ≤ h) (σ : pr_St) (x1 : Int32) (res : pr_St) (hf : prf_M_compareTwo σ x1 = some res) : Met l pry_M_compareTwo (Cond.code pry_M_compareTwo prb_M_compareTwo 4 none :: pr_U) (pr_rm h) (pr_Pc (prX t A) D pr_cl prc_L ad dA [.ref (ad 7), .int x1] σ) (pr_Qv D pr_cl prc_L ad dA A res) 0 0 A := by
  refine pr_entry (cc := prb_M_compareTwo) (maxL := 4) (ret := none) (by decide) (Nat.le_of_ble_eq_true rfl) hD hX ?_
  intro p e s m args below meth c E H locs hP hS ls hl
  have hl : lv_has ls 4 [(0, .ref (ad 7)), (1, .int x1)] := hl
  have hf := hf.symm
  unfold prf_M_compareTwo at hf
  obtain ⟨hx, hb, hml, hown, hts, hr, hlocks, hK, hD, hX, hXs⟩ := id E
  refine lv_aload_n hx hb prd_M_compareTwo_0 rfl (lv_at hl 0 rfl) ?_
  obtain ⟨r26, hr26, hf⟩ := pr_bi hf
  refine pr_callVi (rest := []) (res := r26) ⟨hx, hb, hml, hown, hts⟩ 7 (prc_M_pop hD hX 0 (Nat.le_refl _) σ  r26 hr26) (prg_M_pop hts prw_668 (by have := hh; omega)) hX hXs hK hP hS (by decide) rfl rfl rfl rfl hl.1 (Nat.le_of_ble_eq_true rfl) prd_M_compareTwo_1 (fun H locs hP hS => ?_)
  refine lv_istore_n (lv' := [(2, .int r26.1), (0, .ref (ad 7)), (1, .int x1)]) hx hb prd_M_compareTwo_4 rfl hl (by decide) rfl (fun ls hl => ?_)
  refine lv_aload_n hx hb prd_M_compareTwo_5 rfl (lv_at hl 1 rfl) ?_
  obtain ⟨r27, hr27, hf⟩ := pr_bi hf
  refine pr_callVi (rest := []) (res := r27) ⟨hx, hb, hml, hown, hts⟩ 7 (prc_M_pop hD hX 0 (Nat.le_refl _) r26.2  r27 hr27) (prg_M_pop hts prw_668 (by have := hh; omega)) hX hXs hK hP hS (by decide) rfl rfl rfl rfl hl.1 (Nat.le_of_ble_eq_true rfl) prd_M_compareTwo_6 (fun H locs hP hS => ?_)
  refine lv_istore_n (lv' := [(3, .int r27.1), (2, .int r26.1), (0, .ref (ad 7)), (1, .int x1)]) hx hb prd_M_compareTwo_9 rfl hl (by decide) rfl (fun ls hl => ?_)
  refine lv_iload_n hx hb prd_M_compareTwo_10 rfl (lv_at hl 3 rfl) ?_
  by_cases c28 : x1 = 26
  · have hf := pr_it c28 hf
    refine lv_tableIn (tgt := 44) (off := 33) hx hb prd_M_compareTwo_11 (by rw [c28]; decide) (by rw [c28]; decide) (by rw [c28] <;> rfl) (by decide) ?_
    refine lv_aload_n hx hb prd_M_compareTwo_44 rfl (lv_at hl 2 rfl) ?_
    refine lv_iload_n hx hb prd_M_compareTwo_45 rfl (lv_at hl 0 rfl) ?_
    refine lv_iload_n hx hb prd_M_compareTwo_46 rfl (lv_at hl 1 rfl) ?_
    refine lv_icmp_ge (tgt := 54) hx hb prd_M_compareTwo_47 (by decide) (fun c29 => ?_) (fun c29 => ?_)
    · have hf := pr_it c29 hf
      refine lv_iconst (v := 0) hx hb prd_M_compareTwo_54 (by decide) ?_
      obtain ⟨r30, hr30, hf⟩ := pr_bi hf
      refine pr_callVv (rest := []) (res := r30) ⟨hx, hb, hml, hown, hts⟩ 7 (prc_M_pushTruth hD hX 1 (Nat.le_refl _) r27.2 0 r30 hr30) (prg_M_pushTruth hts prw_676 (by have := hh; omega)) hX hXs hK hP hS (by decide) rfl rfl rfl rfl hl.1 (Nat.le_of_ble_eq_true rfl) prd_M_compareTwo_55 (fun H locs hP hS => ?_)
      refine lv_goto (tgt := 143) hx hb prd_M_compareTwo_58 (by decide) ?_
      exact pr_retv E hP hS (pr_so hf) prd_M_compareTwo_143
    · have hf := pr_ie c29 hf
      refine lv_iconst (v := 1) hx hb prd_M_compareTwo_50 (by decide) ?_
      refine lv_goto (tgt := 55) hx hb prd_M_compareTwo_51 (by decide) ?_
      obtain ⟨r31, hr31, hf⟩ := pr_bi hf
      refine pr_callVv (rest := []) (res := r31) ⟨hx, hb, hml, hown, hts⟩ 7 (prc_M_pushTruth hD hX 1 (Nat.le_refl _) r27.2 1 r31 hr31) (prg_M_pushTruth hts prw_676 (by have := hh; omega)) hX hXs hK hP hS (by decide) rfl rfl rfl rfl hl.1 (Nat.le_of_ble_eq_true rfl) prd_M_compareTwo_55 (fun H locs hP hS => ?_)
      refine lv_goto (tgt := 143) hx hb prd_M_compareTwo_58 (by decide) ?_
      exact pr_retv E hP hS (pr_so hf) prd_M_compareTwo_143
  · have hf := pr_ie c28 hf
    by_cases c32 : x1 = 27
    · have hf := pr_it c32 hf
      refine lv_tableIn (tgt := 61) (off := 50) hx hb prd_M_compareTwo_11 (by rw [c32]; decide) (by rw [c32]; decide) (by rw [c32] <;> rfl) (by decide) ?_
      refine lv_aload_n hx hb prd_M_compareTwo_61 rfl (lv_at hl 2 rfl) ?_
      refine lv_iload_n hx hb prd_M_compareTwo_62 rfl (lv_at hl 0 rfl) ?_
      refine lv_iload_n hx hb prd_M_compareTwo_63 rfl (lv_at hl 1 rfl) ?_
      refine lv_icmp_gt (tgt := 71) hx hb prd_M_compareTwo_64 (by decide) (fun c33 => ?_) (fun c33 => ?_)
      · have hf := pr_it c33 hf
        refine lv_iconst (v := 0) hx hb prd_M_compareTwo_71 (by decide) ?_
        obtain ⟨r34, hr34, hf⟩ := pr_bi hf
        refine pr_callVv (rest := []) (res := r34) ⟨hx, hb, hml, hown, hts⟩ 7 (prc_M_pushTruth hD hX 1 (Nat.le_refl _) r27.2 0 r34 hr34) (prg_M_pushTruth hts prw_676 (by have := hh; omega)) hX hXs hK hP hS (by decide) rfl rfl rfl rfl hl.1 (Nat.le_of_ble_eq_true rfl) prd_M_compareTwo_72 (fun H locs hP hS => ?_)
        refine lv_goto (tgt := 143) hx hb prd_M_compareTwo_75 (by decide) ?_
        exact pr_retv E hP hS (pr_so hf) prd_M_compareTwo_143
      · have hf := pr_ie c33 hf
        refine lv_iconst (v := 1) hx hb prd_M_compareTwo_67 (by decide) ?_
        refine lv_goto (tgt := 72) hx hb prd_M_compareTwo_68 (by decide) ?_
        obtain ⟨r35, hr35, hf⟩ := pr_bi hf
        refine pr_callVv (rest := []) (res := r35) ⟨hx, hb, hml, hown, hts⟩ 7 (prc_M_pushTruth hD hX 1 (Nat.le_refl _) r27.2 1 r35 hr35) (prg_M_pushTruth hts prw_676 (by have := hh; omega)) hX hXs hK hP hS (by decide) rfl rfl rfl rfl hl.1 (Nat.le_of_ble_eq_true rfl) prd_M_compareTwo_72 (fun H locs hP hS => ?_)
        refine lv_goto (tgt := 143) hx hb prd_M_compareTwo_75 (by decide) ?_
        exact pr_retv E hP hS (pr_so hf) prd_M_compareTwo_143
    · have hf := pr_ie c32 hf
      by_cases c36 : x1 = 28
      · have hf := pr_it c36 hf
        refine lv_tableIn (tgt := 78) (off := 67) hx hb prd_M_compareTwo_11 (by rw [c36]; decide) (by rw [c36]; decide) (by rw [c36] <;> rfl) (by decide) ?_
        refine lv_aload_n hx hb prd_M_compareTwo_78 rfl (lv_at hl 2 rfl) ?_
        refine lv_iload_n hx hb prd_M_compareTwo_79 rfl (lv_at hl 0 rfl) ?_
        refine lv_iload_n hx hb prd_M_compareTwo_80 rfl (lv_at hl 1 rfl) ?_
        refine lv_icmp_le (tgt := 88) hx hb prd_M_compareTwo_81 (by decide) (fun c37 => ?_) (fun c37 => ?_)
        · have hf := pr_it c37 hf
          refine lv_iconst (v := 0) hx hb prd_M_compareTwo_88 (by decide) ?_
          obtain ⟨r38, hr38, hf⟩ := pr_bi hf
          refine pr_callVv (rest := []) (res := r38) ⟨hx, hb, hml, hown, hts⟩ 7 (prc_M_pushTruth hD hX 1 (Nat.le_refl _) r27.2 0 r38 hr38) (prg_M_pushTruth hts prw_676 (by have := hh; omega)) hX hXs hK hP hS (by decide) rfl rfl rfl rfl hl.1 (Nat.le_of_ble_eq_true rfl) prd_M_compareTwo_89 (fun H locs hP hS => ?_)
          refine lv_goto (tgt := 143) hx hb prd_M_compareTwo_92 (by decide) ?_
          exact pr_retv E hP hS (pr_so hf) prd_M_compareTwo_143
        · have hf := pr_ie c37 hf
          refine lv_iconst (v := 1) hx hb prd_M_compareTwo_84 (by decide) ?_
          refine lv_goto (tgt := 89) hx hb prd_M_compareTwo_85 (by decide) ?_
          obtain ⟨r39, hr39, hf⟩ := pr_bi hf
          refine pr_callVv (rest := []) (res := r39) ⟨hx, hb, hml, hown, hts⟩ 7 (prc_M_pushTruth hD hX 1 (Nat.le_refl _) r27.2 1 r39 hr39) (prg_M_pushTruth hts prw_676 (by have := hh; omega)) hX hXs hK hP hS (by decide) rfl rfl rfl rfl hl.1 (Nat.le_of_ble_eq_true rfl) prd_M_compareTwo_89 (fun H locs hP hS => ?_)
          refine lv_goto (tgt := 143) hx hb prd_M_compareTwo_92 (by decide) ?_
          exact pr_retv E hP hS (pr_so hf) prd_M_compareTwo_143
      · have hf := pr_ie c36 hf
        by_cases c40 : x1 = 29
        · have hf := pr_it c40 hf
          refine lv_tableIn (tgt := 95) (off := 84) hx hb prd_M_compareTwo_11 (by rw [c40]; decide) (by rw [c40]; decide) (by rw [c40] <;> rfl) (by decide) ?_
          refine lv_aload_n hx hb prd_M_compareTwo_95 rfl (lv_at hl 2 rfl) ?_
          refine lv_iload_n hx hb prd_M_compareTwo_96 rfl (lv_at hl 0 rfl) ?_
          refine lv_iload_n hx hb prd_M_compareTwo_97 rfl (lv_at hl 1 rfl) ?_
          refine lv_icmp_lt (tgt := 105) hx hb prd_M_compareTwo_98 (by decide) (fun c41 => ?_) (fun c41 => ?_)
          · have hf := pr_it c41 hf
            refine lv_iconst (v := 0) hx hb prd_M_compareTwo_105 (by decide) ?_
            obtain ⟨r42, hr42, hf⟩ := pr_bi hf
            refine pr_callVv (rest := []) (res := r42) ⟨hx, hb, hml, hown, hts⟩ 7 (prc_M_pushTruth hD hX 1 (Nat.le_refl _) r27.2 0 r42 hr42) (prg_M_pushTruth hts prw_676 (by have := hh; omega)) hX hXs hK hP hS (by decide) rfl rfl rfl rfl hl.1 (Nat.le_of_ble_eq_true rfl) prd_M_compareTwo_106 (fun H locs hP hS => ?_)
            refine lv_goto (tgt := 143) hx hb prd_M_compareTwo_109 (by decide) ?_
            exact pr_retv E hP hS (pr_so hf) prd_M_compareTwo_143
          · have hf := pr_ie c41 hf
            refine lv_iconst (v := 1) hx hb prd_M_compareTwo_101 (by decide) ?_
            refine lv_goto (tgt := 106) hx hb prd_M_compareTwo_102 (by decide) ?_
            obtain ⟨r43, hr43, hf⟩ := pr_bi hf
            refine pr_callVv (rest := []) (res := r43) ⟨hx, hb, hml, hown, hts⟩ 7 (prc_M_pushTruth hD hX 1 (Nat.le_refl _) r27.2 1 r43 hr43) (prg_M_pushTruth hts prw_676 (by have := hh; omega)) hX hXs hK hP hS (by decide) rfl rfl rfl rfl hl.1 (Nat.le_of_ble_eq_true rfl) prd_M_compareTwo_106 (fun H locs hP hS => ?_)
            refine lv_goto (tgt := 143) hx hb prd_M_compareTwo_109 (by decide) ?_
            exact pr_retv E hP hS (pr_so hf) prd_M_compareTwo_143
        · have hf := pr_ie c40 hf
          by_cases c44 : x1 = 30
          · have hf := pr_it c44 hf
            refine lv_tableIn (tgt := 112) (off := 101) hx hb prd_M_compareTwo_11 (by rw [c44]; decide) (by rw [c44]; decide) (by rw [c44] <;> rfl) (by decide) ?_
            refine lv_aload_n hx hb prd_M_compareTwo_112 rfl (lv_at hl 2 rfl) ?_
            refine lv_iload_n hx hb prd_M_compareTwo_113 rfl (lv_at hl 0 rfl) ?_
            refine lv_iload_n hx hb prd_M_compareTwo_114 rfl (lv_at hl 1 rfl) ?_
            refine lv_icmp_ne (tgt := 122) hx hb prd_M_compareTwo_115 (by decide) (fun c45 => ?_) (fun c45 => ?_)
            · have hf := pr_ie c45 hf
              refine lv_iconst (v := 0) hx hb prd_M_compareTwo_122 (by decide) ?_
              obtain ⟨r46, hr46, hf⟩ := pr_bi hf
              refine pr_callVv (rest := []) (res := r46) ⟨hx, hb, hml, hown, hts⟩ 7 (prc_M_pushTruth hD hX 1 (Nat.le_refl _) r27.2 0 r46 hr46) (prg_M_pushTruth hts prw_676 (by have := hh; omega)) hX hXs hK hP hS (by decide) rfl rfl rfl rfl hl.1 (Nat.le_of_ble_eq_true rfl) prd_M_compareTwo_123 (fun H locs hP hS => ?_)
              refine lv_goto (tgt := 143) hx hb prd_M_compareTwo_126 (by decide) ?_
              exact pr_retv E hP hS (pr_so hf) prd_M_compareTwo_143
            · have hf := pr_it c45 hf
              refine lv_iconst (v := 1) hx hb prd_M_compareTwo_118 (by decide) ?_
              refine lv_goto (tgt := 123) hx hb prd_M_compareTwo_119 (by decide) ?_
              obtain ⟨r47, hr47, hf⟩ := pr_bi hf
              refine pr_callVv (rest := []) (res := r47) ⟨hx, hb, hml, hown, hts⟩ 7 (prc_M_pushTruth hD hX 1 (Nat.le_refl _) r27.2 1 r47 hr47) (prg_M_pushTruth hts prw_676 (by have := hh; omega)) hX hXs hK hP hS (by decide) rfl rfl rfl rfl hl.1 (Nat.le_of_ble_eq_true rfl) prd_M_compareTwo_123 (fun H locs hP hS => ?_)
              refine lv_goto (tgt := 143) hx hb prd_M_compareTwo_126 (by decide) ?_
              exact pr_retv E hP hS (pr_so hf) prd_M_compareTwo_143
          · have hf := pr_ie c44 hf
            refine lv_tableOut (tgt := 129) hx hb prd_M_compareTwo_11 (by have w0 := lv_neT (a := 26) c28 (by decide); have w1 := lv_neT (a := 27) c32 (by decide); have w2 := lv_neT (a := 28) c36 (by decide); have w3 := lv_neT (a := 29) c40 (by decide); have w4 := lv_neT (a := 30) c44 (by decide); omega) (by decide) ?_
            refine lv_aload_n hx hb prd_M_compareTwo_129 rfl (lv_at hl 2 rfl) ?_
            refine lv_iload_n hx hb prd_M_compareTwo_130 rfl (lv_at hl 0 rfl) ?_
            refine lv_iload_n hx hb prd_M_compareTwo_131 rfl (lv_at hl 1 rfl) ?_
            refine lv_icmp_eq (tgt := 139) hx hb prd_M_compareTwo_132 (by decide) (fun c48 => ?_) (fun c48 => ?_)
            · have hf := pr_it c48 hf
              refine lv_iconst (v := 0) hx hb prd_M_compareTwo_139 (by decide) ?_
              obtain ⟨r49, hr49, hf⟩ := pr_bi hf
              refine pr_callVv (rest := []) (res := r49) ⟨hx, hb, hml, hown, hts⟩ 7 (prc_M_pushTruth hD hX 1 (Nat.le_refl _) r27.2 0 r49 hr49) (prg_M_pushTruth hts prw_676 (by have := hh; omega)) hX hXs hK hP hS (by decide) rfl rfl rfl rfl hl.1 (Nat.le_of_ble_eq_true rfl) prd_M_compareTwo_140 (fun H locs hP hS => ?_)
              exact pr_retv E hP hS (pr_so hf) prd_M_compareTwo_143
            · have hf := pr_ie c48 hf
              refine lv_iconst (v := 1) hx hb prd_M_compareTwo_135 (by decide) ?_
              refine lv_goto (tgt := 140) hx hb prd_M_compareTwo_136 (by decide) ?_
              obtain ⟨r50, hr50, hf⟩ := pr_bi hf
              refine pr_callVv (rest := []) (res := r50) ⟨hx, hb, hml, hown, hts⟩ 7 (prc_M_pushTruth hD hX 1 (Nat.le_refl _) r27.2 1 r50 hr50) (prg_M_pushTruth hts prw_676 (by have := hh; omega)) hX hXs hK hP hS (by decide) rfl rfl rfl rfl hl.1 (Nat.le_of_ble_eq_true rfl) prd_M_compareTwo_140 (fun H locs hP hS => ?_)
              exact pr_retv E hP hS (pr_so hf) prd_M_compareTwo_143
-- M_slotOfName
set_option maxHeartbeats 4000000 in
set_option maxRecDepth 100000 in
theorem prc_M_slotOfName {l : Launch} {D : va_G} {ad : Nat → Nat} {dA : Nat → ClassId} {A : Nat → Prop} {t : Nat} (hD : ∀ σ : pr_St, va_D A (pr_w prc_L ad dA σ)) (hX : pr_Xok A (prX t A)) (h : Nat) (hh : 2 ≤ h) (σ : pr_St) (x1 : Int32) (x2 : Int32) (res : Int32) (hf : prf_M_slotOfName σ x1 x2 = some res) : Met l pry_M_slotOfName (Cond.code pry_M_slotOfName prb_M_slotOfName 3 (some .int) :: pr_U) (pr_rm h) (pr_Pc (prX t A) D pr_cl prc_L ad dA [.ref (ad 7), .int x1, .int x2] σ) (pr_Qi D pr_cl prc_L ad dA A (res, σ)) 0 0 A := by
  refine pr_entry (cc := prb_M_slotOfName) (maxL := 3) (ret := (some .int)) (by decide) (Nat.le_of_ble_eq_true rfl) hD hX ?_
  intro p e s m args below meth c E H locs hP hS ls hl
  have hl : lv_has ls 3 [(0, .ref (ad 7)), (1, .int x1), (2, .int x2)] := hl
  have hf := hf.symm
  unfold prf_M_slotOfName at hf
  obtain ⟨hx, hb, hml, hown, hts, hr, hlocks, hK, hD, hX, hXs⟩ := id E
  refine lv_aload_n hx hb prd_M_slotOfName_0 rfl (lv_at hl 0 rfl) ?_
  refine pr_getr (t := 4) hx hb hts prs_M hown hK hP 7 2 (by decide) rfl (hts _ prw_680) rfl prd_M_slotOfName_1 ?_
  refine lv_iload_n hx hb prd_M_slotOfName_4 rfl (lv_at hl 1 rfl) ?_
  obtain ⟨r3, hr3, hf⟩ := pr_bi hf
  refine pr_callVr (rest := []) (r := r3) ⟨hx, hb, hml, hown, hts⟩ 4 (prc_O_foreignNumbersAt hD hX 1 (Nat.le_refl _) σ x1 r3 hr3) (prg_O_foreignNumbersAt hts prw_681 (by have := hh; omega)) hX hXs hK hP hS (by decide) rfl rfl rfl rfl hl.1 (Nat.le_of_ble_eq_true rfl) prd_M_slotOfName_5 (fun H locs hP hS => ?_)
  refine lv_aload_n hx hb prd_M_slotOfName_8 rfl (lv_at hl 0 rfl) ?_
  refine pr_getr (t := 2) hx hb hts prs_M hown hK hP 7 1 (by decide) rfl (hts _ prw_682) rfl prd_M_slotOfName_9 ?_
  refine lv_iload_n hx hb prd_M_slotOfName_12 rfl (lv_at hl 2 rfl) ?_
  obtain ⟨r4, hr4, hf⟩ := pr_bi hf
  refine pr_callVr (rest := [.int r3]) (r := r4) ⟨hx, hb, hml, hown, hts⟩ 2 (prc_G_slotOf hD hX 0 (Nat.le_refl _) σ x2 r4 hr4) (prg_G_slotOf hts prw_683 (by have := hh; omega)) hX hXs hK hP hS (by decide) rfl rfl rfl rfl hl.1 (Nat.le_of_ble_eq_true rfl) prd_M_slotOfName_13 (fun H locs hP hS => ?_)
  refine lv_iadd hx hb prd_M_slotOfName_16 ?_
  exact pr_reti E hP hS (pr_ro hf) prd_M_slotOfName_17
-- M_getNumber
set_option maxHeartbeats 4000000 in
set_option maxRecDepth 100000 in
theorem prc_M_getNumber {l : Launch} {D : va_G} {ad : Nat → Nat} {dA : Nat → ClassId} {A : Nat → Prop} {t : Nat} (hD : ∀ σ : pr_St, va_D A (pr_w prc_L ad dA σ)) (hX : pr_Xok A (prX t A)) (h : Nat) (hh : 0 ≤ h) (σ : pr_St) (x1 : Int32) (res : Int32) (hf : prf_M_getNumber σ x1 = some res) : Met l pry_M_getNumber (Cond.code pry_M_getNumber prb_M_getNumber 2 (some .int) :: pr_U) (pr_rm h) (pr_Pc (prX t A) D pr_cl prc_L ad dA [.ref (ad 7), .int x1] σ) (pr_Qi D pr_cl prc_L ad dA A (res, σ)) 0 0 A := by
  refine pr_entry (cc := prb_M_getNumber) (maxL := 2) (ret := (some .int)) (by decide) (Nat.le_of_ble_eq_true rfl) hD hX ?_
  intro p e s m args below meth c E H locs hP hS ls hl
  have hl : lv_has ls 2 [(0, .ref (ad 7)), (1, .int x1)] := hl
  have hf := hf.symm
  unfold prf_M_getNumber at hf
  obtain ⟨hx, hb, hml, hown, hts, hr, hlocks, hK, hD, hX, hXs⟩ := id E
  refine lv_iload_n hx hb prd_M_getNumber_0 rfl (lv_at hl 1 rfl) ?_
  refine lv_if_lt (tgt := 22) hx hb prd_M_getNumber_1 (by decide) (fun c4 => ?_) (fun c4 => ?_)
  · have hf := pr_it c4 hf
    refine lv_iconst (v := 0) hx hb prd_M_getNumber_22 (by decide) ?_
    exact pr_reti E hP hS (pr_ro hf) prd_M_getNumber_23
  · have hf := pr_ie c4 hf
    refine lv_iload_n hx hb prd_M_getNumber_4 rfl (lv_at hl 1 rfl) ?_
    refine lv_aload_n hx hb prd_M_getNumber_5 rfl (lv_at hl 0 rfl) ?_
    refine pr_getr (t := 48) hx hb hts prs_M hown hK hP 7 5 (by decide) rfl (hts _ prw_687) rfl prd_M_getNumber_6 ?_
    refine pr_alen (v := 12) hx hb hK hP 48 (by decide) (by decide) prd_M_getNumber_9 ?_
    refine lv_icmp_ge (tgt := 22) hx hb prd_M_getNumber_10 (by decide) (fun c5 => ?_) (fun c5 => ?_)
    · have hf := pr_it c5 hf
      refine lv_iconst (v := 0) hx hb prd_M_getNumber_22 (by decide) ?_
      exact pr_reti E hP hS (pr_ro hf) prd_M_getNumber_23
    · have hf := pr_ie c5 hf
      refine lv_aload_n hx hb prd_M_getNumber_13 rfl (lv_at hl 0 rfl) ?_
      refine pr_getr (t := 48) hx hb hts prs_M hown hK hP 7 5 (by decide) rfl (hts _ prw_687) rfl prd_M_getNumber_14 ?_
      refine lv_iload_n hx hb prd_M_getNumber_17 rfl (lv_at hl 1 rfl) ?_
      obtain ⟨hi6, hf⟩ := pr_ck_in hf
      refine pr_iald (f := (σ.2.1 48)) hx hb hK hP 48 (by decide) rfl hi6 rfl prd_M_getNumber_18 ?_
      refine lv_goto (tgt := 23) hx hb prd_M_getNumber_19 (by decide) ?_
      exact pr_reti E hP hS (pr_ro hf) prd_M_getNumber_23
-- M_hasPlace
set_option maxHeartbeats 4000000 in
set_option maxRecDepth 100000 in
theorem prc_M_hasPlace {l : Launch} {D : va_G} {ad : Nat → Nat} {dA : Nat → ClassId} {A : Nat → Prop} {t : Nat} (hD : ∀ σ : pr_St, va_D A (pr_w prc_L ad dA σ)) (hX : pr_Xok A (prX t A)) (h : Nat) (hh : 0 ≤ h) (σ : pr_St) (x1 : Int32) (x2 : Int32) (res : Int32) (hf : prf_M_hasPlace σ x1 x2 = some res) : Met l pry_M_hasPlace (Cond.code pry_M_hasPlace prb_M_hasPlace 3 (some .boolean) :: pr_U) (pr_rm h) (pr_Pc (prX t A) D pr_cl prc_L ad dA [.ref (ad 7), .int x1, .int x2] σ) (pr_Qi D pr_cl prc_L ad dA A (res, σ)) 0 0 A := by
  refine pr_entry (cc := prb_M_hasPlace) (maxL := 3) (ret := (some .boolean)) (by decide) (Nat.le_of_ble_eq_true rfl) hD hX ?_
  intro p e s m args below meth c E H locs hP hS ls hl
  have hl : lv_has ls 3 [(0, .ref (ad 7)), (1, .int x1), (2, .int x2)] := hl
  have hf := hf.symm
  unfold prf_M_hasPlace at hf
  obtain ⟨hx, hb, hml, hown, hts, hr, hlocks, hK, hD, hX, hXs⟩ := id E
  refine lv_iload_n hx hb prd_M_hasPlace_0 rfl (lv_at hl 1 rfl) ?_
  refine lv_if_lt (tgt := 37) hx hb prd_M_hasPlace_1 (by decide) (fun c7 => ?_) (fun c7 => ?_)
  · have hf := pr_it c7 hf
    refine lv_iconst (v := 0) hx hb prd_M_hasPlace_37 (by decide) ?_
    exact pr_retz E (Or.inl rfl) hP hS (pr_ro hf) prd_M_hasPlace_38
  · have hf := pr_ie c7 hf
    refine lv_iload_n hx hb prd_M_hasPlace_4 rfl (lv_at hl 1 rfl) ?_
    refine lv_aload_n hx hb prd_M_hasPlace_5 rfl (lv_at hl 0 rfl) ?_
    refine pr_getr (t := 49) hx hb hts prs_M hown hK hP 7 6 (by decide) rfl (hts _ prw_691) rfl prd_M_hasPlace_6 ?_
    refine pr_alen (v := 6) hx hb hK hP 49 (by decide) (by decide) prd_M_hasPlace_9 ?_
    refine lv_icmp_ge (tgt := 37) hx hb prd_M_hasPlace_10 (by decide) (fun c8 => ?_) (fun c8 => ?_)
    · have hf := pr_it c8 hf
      refine lv_iconst (v := 0) hx hb prd_M_hasPlace_37 (by decide) ?_
      exact pr_retz E (Or.inl rfl) hP hS (pr_ro hf) prd_M_hasPlace_38
    · have hf := pr_ie c8 hf
      refine lv_iload_n hx hb prd_M_hasPlace_13 rfl (lv_at hl 2 rfl) ?_
      refine lv_if_lt (tgt := 37) hx hb prd_M_hasPlace_14 (by decide) (fun c9 => ?_) (fun c9 => ?_)
      · have hf := pr_it c9 hf
        refine lv_iconst (v := 0) hx hb prd_M_hasPlace_37 (by decide) ?_
        exact pr_retz E (Or.inl rfl) hP hS (pr_ro hf) prd_M_hasPlace_38
      · have hf := pr_ie c9 hf
        refine lv_iload_n hx hb prd_M_hasPlace_17 rfl (lv_at hl 2 rfl) ?_
        refine lv_aload_n hx hb prd_M_hasPlace_18 rfl (lv_at hl 0 rfl) ?_
        refine pr_getr (t := 49) hx hb hts prs_M hown hK hP 7 6 (by decide) rfl (hts _ prw_691) rfl prd_M_hasPlace_19 ?_
        refine lv_iload_n hx hb prd_M_hasPlace_22 rfl (lv_at hl 1 rfl) ?_
        obtain ⟨hi10, hf⟩ := pr_ck_in hf
        refine pr_iald (f := (σ.2.1 49)) hx hb hK hP 49 (by decide) rfl hi10 rfl prd_M_hasPlace_23 ?_
        refine lv_icmp_ge (tgt := 37) hx hb prd_M_hasPlace_24 (by decide) (fun c11 => ?_) (fun c11 => ?_)
        · have hf := pr_it c11 hf
          refine lv_iconst (v := 0) hx hb prd_M_hasPlace_37 (by decide) ?_
          exact pr_retz E (Or.inl rfl) hP hS (pr_ro hf) prd_M_hasPlace_38
        · have hf := pr_ie c11 hf
          refine lv_iload_n hx hb prd_M_hasPlace_27 rfl (lv_at hl 2 rfl) ?_
          refine lv_bipush (v := 64) hx hb prd_M_hasPlace_28 (by decide) ?_
          refine lv_icmp_ge (tgt := 37) hx hb prd_M_hasPlace_30 (by decide) (fun c12 => ?_) (fun c12 => ?_)
          · have hf := pr_it c12 hf
            refine lv_iconst (v := 0) hx hb prd_M_hasPlace_37 (by decide) ?_
            exact pr_retz E (Or.inl rfl) hP hS (pr_ro hf) prd_M_hasPlace_38
          · have hf := pr_ie c12 hf
            refine lv_iconst (v := 1) hx hb prd_M_hasPlace_33 (by decide) ?_
            refine lv_goto (tgt := 38) hx hb prd_M_hasPlace_34 (by decide) ?_
            exact pr_retz E (Or.inr rfl) hP hS (pr_ro hf) prd_M_hasPlace_38
-- M_lookAtPlace
set_option maxHeartbeats 4000000 in
set_option maxRecDepth 100000 in
theorem prc_M_lookAtPlace {l : Launch} {D : va_G} {ad : Nat → Nat} {dA : Nat → ClassId} {A : Nat → Prop} {t : Nat} (hD : ∀ σ : pr_St, va_D A (pr_w prc_L ad dA σ)) (hX : pr_Xok A (prX t A)) (h : Nat) (hh : 1 ≤ h) (σ : pr_St)  (res : pr_St) (hf : prf_M_lookAtPlace σ  = some res) : Met l pry_M_lookAtPlace (Cond.code pry_M_lookAtPlace prb_M_lookAtPlace 1 none :: pr_U) (pr_rm h) (pr_Pc (prX t A) D pr_cl prc_L ad dA [.ref (ad 7)] σ) (pr_Qv D pr_cl prc_L ad dA A res) 0 0 A := by
  refine pr_entry (cc := prb_M_lookAtPlace) (maxL := 1) (ret := none) (by decide) (Nat.le_of_ble_eq_true rfl) hD hX ?_
  intro p e s m args below meth c E H locs hP hS ls hl
  have hl : lv_has ls 1 [(0, .ref (ad 7))] := hl
  have hf := hf.symm
  unfold prf_M_lookAtPlace at hf
  obtain ⟨hx, hb, hml, hown, hts, hr, hlocks, hK, hD, hX, hXs⟩ := id E
  refine lv_aload_n hx hb prd_M_lookAtPlace_0 rfl (lv_at hl 0 rfl) ?_
  refine lv_aload_n hx hb prd_M_lookAtPlace_1 rfl (lv_at hl 0 rfl) ?_
  refine lv_aload_n hx hb prd_M_lookAtPlace_2 rfl (lv_at hl 0 rfl) ?_
  refine pr_geti (v := (σ.1 7 13)) hx hb hts prs_M hown hK hP 7 13 (by decide) rfl (hts _ prw_651) rfl rfl prd_M_lookAtPlace_3 ?_
  refine lv_iconst (v := 2) hx hb prd_M_lookAtPlace_6 (by decide) ?_
  refine lv_isub hx hb prd_M_lookAtPlace_7 ?_
  obtain ⟨r5, hr5, hf⟩ := pr_bi hf
  refine pr_callVr (rest := [.ref (ad 7)]) (r := r5) ⟨hx, hb, hml, hown, hts⟩ 7 (prc_M_waitingAt hD hX 0 (Nat.le_refl _) σ ((σ.1 7 13) - 2) r5 hr5) (prg_M_waitingAt hts prw_695 (by have := hh; omega)) hX hXs hK hP hS (by decide) rfl rfl rfl rfl hl.1 (Nat.le_of_ble_eq_true rfl) prd_M_lookAtPlace_8 (fun H locs hP hS => ?_)
  refine lv_aload_n hx hb prd_M_lookAtPlace_11 rfl (lv_at hl 0 rfl) ?_
  refine lv_aload_n hx hb prd_M_lookAtPlace_12 rfl (lv_at hl 0 rfl) ?_
  refine pr_geti (v := (σ.1 7 13)) hx hb hts prs_M hown hK hP 7 13 (by decide) rfl (hts _ prw_651) rfl rfl prd_M_lookAtPlace_13 ?_
  refine lv_iconst (v := 1) hx hb prd_M_lookAtPlace_16 (by decide) ?_
  refine lv_isub hx hb prd_M_lookAtPlace_17 ?_
  obtain ⟨r6, hr6, hf⟩ := pr_bi hf
  refine pr_callVr (rest := [.int r5, .ref (ad 7)]) (r := r6) ⟨hx, hb, hml, hown, hts⟩ 7 (prc_M_waitingAt hD hX 0 (Nat.le_refl _) σ ((σ.1 7 13) - 1) r6 hr6) (prg_M_waitingAt hts prw_695 (by have := hh; omega)) hX hXs hK hP hS (by decide) rfl rfl rfl rfl hl.1 (Nat.le_of_ble_eq_true rfl) prd_M_lookAtPlace_18 (fun H locs hP hS => ?_)
  obtain ⟨r7, hr7, hf⟩ := pr_bi hf
  refine pr_callVr (rest := []) (r := r7) ⟨hx, hb, hml, hown, hts⟩ 7 (prc_M_hasPlace hD hX 0 (Nat.le_refl _) σ r5 r6 r7 hr7) (prg_M_hasPlace hts prw_696 (by have := hh; omega)) hX hXs hK hP hS (by decide) rfl rfl rfl rfl hl.1 (Nat.le_of_ble_eq_true rfl) prd_M_lookAtPlace_21 (fun H locs hP hS => ?_)
  refine lv_if_ne (tgt := 32) hx hb prd_M_lookAtPlace_24 (by decide) (fun c8 => ?_) (fun c8 => ?_)
  · have hf := pr_ie c8 hf
    exact pr_retv E hP hS (pr_so hf) prd_M_lookAtPlace_32
  · have hf := pr_it c8 hf
    refine lv_aload_n hx hb prd_M_lookAtPlace_27 rfl (lv_at hl 0 rfl) ?_
    refine lv_iconst (v := 4) hx hb prd_M_lookAtPlace_28 (by decide) ?_
    refine pr_puti (ty := .int) hx hb hts prs_M prq_M prtt_M prtn_M hown hK hP (hD _) hS 7 11 (by decide) rfl (hts _ prw_19) rfl rfl (prtt_M 11 (by decide)) rfl rfl prd_M_lookAtPlace_29 (fun H locs hP hS => ?_)
    exact pr_retv E hP hS (pr_so hf) prd_M_lookAtPlace_32
-- M_getPlace
set_option maxHeartbeats 4000000 in
set_option maxRecDepth 100000 in
theorem prc_M_getPlace {l : Launch} {D : va_G} {ad : Nat → Nat} {dA : Nat → ClassId} {A : Nat → Prop} {t : Nat} (hD : ∀ σ : pr_St, va_D A (pr_w prc_L ad dA σ)) (hX : pr_Xok A (prX t A)) (h : Nat) (hh : 1 ≤ h) (σ : pr_St) (x1 : Int32) (x2 : Int32) (res : Int32) (hf : prf_M_getPlace σ x1 x2 = some res) : Met l pry_M_getPlace (Cond.code pry_M_getPlace prb_M_getPlace 3 (some .int) :: pr_U) (pr_rm h) (pr_Pc (prX t A) D pr_cl prc_L ad dA [.ref (ad 7), .int x1, .int x2] σ) (pr_Qi D pr_cl prc_L ad dA A (res, σ)) 0 0 A := by
  refine pr_entry (cc := prb_M_getPlace) (maxL := 3) (ret := (some .int)) (by decide) (Nat.le_of_ble_eq_true rfl) hD hX ?_
  intro p e s m args below meth c E H locs hP hS ls hl
  have hl : lv_has ls 3 [(0, .ref (ad 7)), (1, .int x1), (2, .int x2)] := hl
  have hf := hf.symm
  unfold prf_M_getPlace at hf
  obtain ⟨hx, hb, hml, hown, hts, hr, hlocks, hK, hD, hX, hXs⟩ := id E
  refine lv_aload_n hx hb prd_M_getPlace_0 rfl (lv_at hl 0 rfl) ?_
  refine lv_iload_n hx hb prd_M_getPlace_1 rfl (lv_at hl 1 rfl) ?_
  refine lv_iload_n hx hb prd_M_getPlace_2 rfl (lv_at hl 2 rfl) ?_
  obtain ⟨r4, hr4, hf⟩ := pr_bi hf
  refine pr_callVr (rest := []) (r := r4) ⟨hx, hb, hml, hown, hts⟩ 7 (prc_M_hasPlace hD hX 0 (Nat.le_refl _) σ x1 x2 r4 hr4) (prg_M_hasPlace hts prw_696 (by have := hh; omega)) hX hXs hK hP hS (by decide) rfl rfl rfl rfl hl.1 (Nat.le_of_ble_eq_true rfl) prd_M_getPlace_3 (fun H locs hP hS => ?_)
  refine lv_if_eq (tgt := 23) hx hb prd_M_getPlace_6 (by decide) (fun c5 => ?_) (fun c5 => ?_)
  · have hf := pr_it c5 hf
    refine lv_iconst (v := 0) hx hb prd_M_getPlace_23 (by decide) ?_
    exact pr_reti E hP hS (pr_ro hf) prd_M_getPlace_24
  · have hf := pr_ie c5 hf
    refine lv_aload_n hx hb prd_M_getPlace_9 rfl (lv_at hl 0 rfl) ?_
    refine pr_getr (t := 50) hx hb hts prs_M hown hK hP 7 7 (by decide) rfl (hts _ prw_700) rfl prd_M_getPlace_10 ?_
    refine lv_iload_n hx hb prd_M_getPlace_13 rfl (lv_at hl 1 rfl) ?_
    refine lv_bipush (v := 64) hx hb prd_M_getPlace_14 (by decide) ?_
    refine lv_imul hx hb prd_M_getPlace_16 ?_
    refine lv_iload_n hx hb prd_M_getPlace_17 rfl (lv_at hl 2 rfl) ?_
    refine lv_iadd hx hb prd_M_getPlace_18 ?_
    obtain ⟨hi6, hf⟩ := pr_ck_in hf
    refine pr_iald (f := (σ.2.1 50)) hx hb hK hP 50 (by decide) rfl hi6 rfl prd_M_getPlace_19 ?_
    refine lv_goto (tgt := 24) hx hb prd_M_getPlace_20 (by decide) ?_
    exact pr_reti E hP hS (pr_ro hf) prd_M_getPlace_24
-- M_takePlace
set_option maxHeartbeats 4000000 in
set_option maxRecDepth 100000 in
theorem prc_M_takePlace {l : Launch} {D : va_G} {ad : Nat → Nat} {dA : Nat → ClassId} {A : Nat → Prop} {t : Nat} (hD : ∀ σ : pr_St, va_D A (pr_w prc_L ad dA σ)) (hX : pr_Xok A (prX t A)) (h : Nat) (hh : 2 ≤ h) (σ : pr_St)  (res : pr_St) (hf : prf_M_takePlace σ  = some res) : Met l pry_M_takePlace (Cond.code pry_M_takePlace prb_M_takePlace 3 none :: pr_U) (pr_rm h) (pr_Pc (prX t A) D pr_cl prc_L ad dA [.ref (ad 7)] σ) (pr_Qv D pr_cl prc_L ad dA A res) 0 0 A := by
  refine pr_entry (cc := prb_M_takePlace) (maxL := 3) (ret := none) (by decide) (Nat.le_of_ble_eq_true rfl) hD hX ?_
  intro p e s m args below meth c E H locs hP hS ls hl
  have hl : lv_has ls 3 [(0, .ref (ad 7))] := hl
  have hf := hf.symm
  unfold prf_M_takePlace at hf
  obtain ⟨hx, hb, hml, hown, hts, hr, hlocks, hK, hD, hX, hXs⟩ := id E
  refine lv_aload_n hx hb prd_M_takePlace_0 rfl (lv_at hl 0 rfl) ?_
  obtain ⟨r6, hr6, hf⟩ := pr_bi hf
  refine pr_callVv (rest := []) (res := r6) ⟨hx, hb, hml, hown, hts⟩ 7 (prc_M_lookAtPlace hD hX 1 (Nat.le_refl _) σ  r6 hr6) (prg_M_lookAtPlace hts prw_704 (by have := hh; omega)) hX hXs hK hP hS (by decide) rfl rfl rfl rfl hl.1 (Nat.le_of_ble_eq_true rfl) prd_M_takePlace_1 (fun H locs hP hS => ?_)
  refine lv_aload_n hx hb prd_M_takePlace_4 rfl (lv_at hl 0 rfl) ?_
  obtain ⟨r7, hr7, hf⟩ := pr_bi hf
  refine pr_callVi (rest := []) (res := r7) ⟨hx, hb, hml, hown, hts⟩ 7 (prc_M_pop hD hX 0 (Nat.le_refl _) r6  r7 hr7) (prg_M_pop hts prw_668 (by have := hh; omega)) hX hXs hK hP hS (by decide) rfl rfl rfl rfl hl.1 (Nat.le_of_ble_eq_true rfl) prd_M_takePlace_5 (fun H locs hP hS => ?_)
  refine lv_istore_n (lv' := [(1, .int r7.1), (0, .ref (ad 7))]) hx hb prd_M_takePlace_8 rfl hl (by decide) rfl (fun ls hl => ?_)
  refine lv_aload_n hx hb prd_M_takePlace_9 rfl (lv_at hl 1 rfl) ?_
  obtain ⟨r8, hr8, hf⟩ := pr_bi hf
  refine pr_callVi (rest := []) (res := r8) ⟨hx, hb, hml, hown, hts⟩ 7 (prc_M_pop hD hX 0 (Nat.le_refl _) r7.2  r8 hr8) (prg_M_pop hts prw_668 (by have := hh; omega)) hX hXs hK hP hS (by decide) rfl rfl rfl rfl hl.1 (Nat.le_of_ble_eq_true rfl) prd_M_takePlace_10 (fun H locs hP hS => ?_)
  refine lv_istore_n (lv' := [(2, .int r8.1), (1, .int r7.1), (0, .ref (ad 7))]) hx hb prd_M_takePlace_13 rfl hl (by decide) rfl (fun ls hl => ?_)
  refine lv_aload_n hx hb prd_M_takePlace_14 rfl (lv_at hl 2 rfl) ?_
  refine lv_aload_n hx hb prd_M_takePlace_15 rfl (lv_at hl 2 rfl) ?_
  refine lv_iload_n hx hb prd_M_takePlace_16 rfl (lv_at hl 0 rfl) ?_
  refine lv_iload_n hx hb prd_M_takePlace_17 rfl (lv_at hl 1 rfl) ?_
  obtain ⟨r9, hr9, hf⟩ := pr_bi hf
  refine pr_callVr (rest := [.ref (ad 7)]) (r := r9) ⟨hx, hb, hml, hown, hts⟩ 7 (prc_M_getPlace hD hX 1 (Nat.le_refl _) r8.2 r8.1 r7.1 r9 hr9) (prg_M_getPlace hts prw_705 (by have := hh; omega)) hX hXs hK hP hS (by decide) rfl rfl rfl rfl hl.1 (Nat.le_of_ble_eq_true rfl) prd_M_takePlace_18 (fun H locs hP hS => ?_)
  obtain ⟨r10, hr10, hf⟩ := pr_bi hf
  refine pr_callVv (rest := []) (res := r10) ⟨hx, hb, hml, hown, hts⟩ 7 (prc_M_push hD hX 0 (Nat.le_refl _) r8.2 r9 r10 hr10) (prg_M_push hts prw_664 (by have := hh; omega)) hX hXs hK hP hS (by decide) rfl rfl rfl rfl hl.1 (Nat.le_of_ble_eq_true rfl) prd_M_takePlace_21 (fun H locs hP hS => ?_)
  exact pr_retv E hP hS (pr_so hf) prd_M_takePlace_24
-- M_takeAny
set_option maxHeartbeats 4000000 in
set_option maxRecDepth 100000 in
theorem prk_M_takeAny_52 {l : Launch} {D : va_G} {ad : Nat → Nat} {dA : Nat → ClassId} {A : Nat → Prop} {t : Nat} {p : Program} {e : Env} {s : State} {m : MethodId} {args : Array Value} {below : List Frame} {meth : Method} {c : Code} {h : Nat} (hh : 2 ≤ h) (E : pr_cx prn_M prb_M_takeAny 5 (some .int) D pr_cl prc_L ad dA A (prX t A) p s m args meth c) : ∀ (σ : pr_St) (x1 : Int32) (x2 : Int32) (res : (Int32 × pr_St)), some res = prf_M_takeAny_52 σ x1 x2 → ∀ (H : Heap) (locs : List Loc) (ls : Array Slot), va_P D pr_cl (pr_w prc_L ad dA σ) H → va_S A s.heap H locs → lv_has ls 5 [(0, .ref (ad 7)), (1, .int x1), (2, .int x2)] → W p l e (pr_rm h) s m args below meth c H locs 0 0 (MQ below (pr_Qi D pr_cl prc_L ad dA A res) args s 0 0 A) (F0 m 52 ls []) := by
  obtain ⟨hx, hb, hml, hown, hts, hr, hlocks, hK, hD, hX, hXs⟩ := id E
  intro σ x1 x2 res hf H locs ls hP hS hl
  unfold prf_M_takeAny_52 at hf
  refine lv_aload_n hx hb prd_M_takeAny_52 rfl (lv_at hl 0 rfl) ?_
  refine pr_getr (t := 1) hx hb hts prs_M hown hK hP 7 0 (by decide) rfl (hts _ prw_709) rfl prd_M_takeAny_53 ?_
  refine lv_iload_n hx hb prd_M_takeAny_56 rfl (lv_at hl 1 rfl) ?_
  refine lv_iconst (v := 1) hx hb prd_M_takeAny_57 (by decide) ?_
  refine lv_iadd hx hb prd_M_takeAny_58 ?_
  obtain ⟨r12, hr12, hf⟩ := pr_bi hf
  refine pr_callVr (rest := []) (r := r12) ⟨hx, hb, hml, hown, hts⟩ 1 (prc_T_kindAt hD hX 0 (Nat.le_refl _) σ (x1 + 1) r12 hr12) (prg_T_kindAt hts prw_710 (by have := hh; omega)) hX hXs hK hP hS (by decide) rfl rfl rfl rfl hl.1 (Nat.le_of_ble_eq_true rfl) prd_M_takeAny_59 (fun H locs hP hS => ?_)
  refine lv_bipush (v := 12) hx hb prd_M_takeAny_62 (by decide) ?_
  refine lv_icmp_eq (tgt := 69) hx hb prd_M_takeAny_64 (by decide) (fun c13 => ?_) (fun c13 => ?_)
  · have hf := pr_it c13 hf
    refine lv_aload_n hx hb prd_M_takeAny_69 rfl (lv_at hl 0 rfl) ?_
    refine pr_getr (t := 1) hx hb hts prs_M hown hK hP 7 0 (by decide) rfl (hts _ prw_709) rfl prd_M_takeAny_70 ?_
    refine lv_iload_n hx hb prd_M_takeAny_73 rfl (lv_at hl 1 rfl) ?_
    refine lv_iconst (v := 2) hx hb prd_M_takeAny_74 (by decide) ?_
    refine lv_iadd hx hb prd_M_takeAny_75 ?_
    obtain ⟨r14, hr14, hf⟩ := pr_bi hf
    refine pr_callVr (rest := []) (r := r14) ⟨hx, hb, hml, hown, hts⟩ 1 (prc_T_limitAt hD hX 1 (Nat.le_refl _) σ (x1 + 2) r14 hr14) (prg_T_limitAt hts prw_711 (by have := hh; omega)) hX hXs hK hP hS (by decide) rfl rfl rfl rfl hl.1 (Nat.le_of_ble_eq_true rfl) prd_M_takeAny_76 (fun H locs hP hS => ?_)
    refine lv_istore_n (lv' := [(3, .int r14), (0, .ref (ad 7)), (1, .int x1), (2, .int x2)]) hx hb prd_M_takeAny_79 rfl hl (by decide) rfl (fun ls hl => ?_)
    refine lv_aload_n hx hb prd_M_takeAny_80 rfl (lv_at hl 1 rfl) ?_
    refine pr_getr (t := 1) hx hb hts prs_M hown hK hP 7 0 (by decide) rfl (hts _ prw_709) rfl prd_M_takeAny_81 ?_
    refine lv_aload_n hx hb prd_M_takeAny_84 rfl (lv_at hl 1 rfl) ?_
    refine pr_getr (t := 1) hx hb hts prs_M hown hK hP 7 0 (by decide) rfl (hts _ prw_709) rfl prd_M_takeAny_85 ?_
    refine lv_iload_n hx hb prd_M_takeAny_88 rfl (lv_at hl 2 rfl) ?_
    refine lv_iconst (v := 2) hx hb prd_M_takeAny_89 (by decide) ?_
    refine lv_iadd hx hb prd_M_takeAny_90 ?_
    obtain ⟨r15, hr15, hf⟩ := pr_bi hf
    refine pr_callVr (rest := [.ref (ad 1)]) (r := r15) ⟨hx, hb, hml, hown, hts⟩ 1 (prc_T_secondLimit hD hX 1 (Nat.le_refl _) σ (x1 + 2) r15 hr15) (prg_T_secondLimit hts prw_712 (by have := hh; omega)) hX hXs hK hP hS (by decide) rfl rfl rfl rfl hl.1 (Nat.le_of_ble_eq_true rfl) prd_M_takeAny_91 (fun H locs hP hS => ?_)
    obtain ⟨r16, hr16, hf⟩ := pr_bi hf
    refine pr_callVr (rest := []) (r := r16) ⟨hx, hb, hml, hown, hts⟩ 1 (prc_T_limitAt hD hX 1 (Nat.le_refl _) σ r15 r16 hr16) (prg_T_limitAt hts prw_711 (by have := hh; omega)) hX hXs hK hP hS (by decide) rfl rfl rfl rfl hl.1 (Nat.le_of_ble_eq_true rfl) prd_M_takeAny_94 (fun H locs hP hS => ?_)
    refine lv_istore (lv' := [(4, .int r16), (3, .int r14), (0, .ref (ad 7)), (1, .int x1), (2, .int x2)]) hx hb prd_M_takeAny_97 hl (by decide) rfl (fun ls hl => ?_)
    refine lv_iload_n hx hb prd_M_takeAny_99 rfl (lv_at hl 4 rfl) ?_
    refine lv_iload_n hx hb prd_M_takeAny_100 rfl (lv_at hl 1 rfl) ?_
    refine lv_icmp_lt (tgt := 114) hx hb prd_M_takeAny_101 (by decide) (fun c17 => ?_) (fun c17 => ?_)
    · have hf := pr_it c17 hf
      refine lv_iload_n hx hb prd_M_takeAny_114 rfl (lv_at hl 1 rfl) ?_
      exact pr_reti E hP hS (pr_so hf) prd_M_takeAny_115
    · have hf := pr_ie c17 hf
      refine lv_iload_n hx hb prd_M_takeAny_104 rfl (lv_at hl 4 rfl) ?_
      refine lv_iload hx hb prd_M_takeAny_105 (lv_at hl 0 rfl) ?_
      refine lv_icmp_gt (tgt := 114) hx hb prd_M_takeAny_107 (by decide) (fun c18 => ?_) (fun c18 => ?_)
      · have hf := pr_it c18 hf
        refine lv_iload_n hx hb prd_M_takeAny_114 rfl (lv_at hl 1 rfl) ?_
        exact pr_reti E hP hS (pr_so hf) prd_M_takeAny_115
      · have hf := pr_ie c18 hf
        refine lv_iload_n hx hb prd_M_takeAny_110 rfl (lv_at hl 4 rfl) ?_
        refine lv_goto (tgt := 115) hx hb prd_M_takeAny_111 (by decide) ?_
        exact pr_reti E hP hS (pr_so hf) prd_M_takeAny_115
  · have hf := pr_ie c13 hf
    refine lv_iload_n hx hb prd_M_takeAny_67 rfl (lv_at hl 2 rfl) ?_
    exact pr_reti E hP hS (pr_so hf) prd_M_takeAny_68
set_option maxHeartbeats 4000000 in
set_option maxRecDepth 100000 in
theorem prc_M_takeAny {l : Launch} {D : va_G} {ad : Nat → Nat} {dA : Nat → ClassId} {A : Nat → Prop} {t : Nat} (hD : ∀ σ : pr_St, va_D A (pr_w prc_L ad dA σ)) (hX : pr_Xok A (prX t A)) (h : Nat) (hh : 2 ≤ h) (σ : pr_St) (x1 : Int32) (res : (Int32 × pr_St)) (hf : prf_M_takeAny σ x1 = some res) : Met l pry_M_takeAny (Cond.code pry_M_takeAny prb_M_takeAny 5 (some .int) :: pr_U) (pr_rm h) (pr_Pc (prX t A) D pr_cl prc_L ad dA [.ref (ad 7), .int x1] σ) (pr_Qi D pr_cl prc_L ad dA A res) 0 0 A := by
  refine pr_entry (cc := prb_M_takeAny) (maxL := 5) (ret := (some .int)) (by decide) (Nat.le_of_ble_eq_true rfl) hD hX ?_
  intro p e s m args below meth c E H locs hP hS ls hl
  have hl : lv_has ls 5 [(0, .ref (ad 7)), (1, .int x1)] := hl
  have hf := hf.symm
  unfold prf_M_takeAny at hf
  obtain ⟨hx, hb, hml, hown, hts, hr, hlocks, hK, hD, hX, hXs⟩ := id E
  refine lv_iconst (v := 0) hx hb prd_M_takeAny_0 (by decide) ?_
  refine lv_istore_n (lv' := [(2, .int 0), (0, .ref (ad 7)), (1, .int x1)]) hx hb prd_M_takeAny_1 rfl hl (by decide) rfl (fun ls hl => ?_)
  refine lv_aload_n hx hb prd_M_takeAny_2 rfl (lv_at hl 1 rfl) ?_
  refine pr_geti (v := (σ.1 7 10)) hx hb hts prs_M hown hK hP 7 10 (by decide) rfl (hts _ prw_18) rfl rfl prd_M_takeAny_3 ?_
  refine lv_if_lt (tgt := 52) hx hb prd_M_takeAny_6 (by decide) (fun c19 => ?_) (fun c19 => ?_)
  · have hf := pr_it c19 hf
    exact prk_M_takeAny_52 hh E σ x1 0 _ hf _ _ _ hP hS (lv_sub hl [1, 2, 0] rfl)
  · have hf := pr_ie c19 hf
    refine lv_aload_n hx hb prd_M_takeAny_9 rfl (lv_at hl 1 rfl) ?_
    refine pr_geti (v := (σ.1 7 10)) hx hb hts prs_M hown hK hP 7 10 (by decide) rfl (hts _ prw_18) rfl rfl prd_M_takeAny_10 ?_
    refine lv_aload_n hx hb prd_M_takeAny_13 rfl (lv_at hl 1 rfl) ?_
    refine pr_geti (v := (σ.1 7 4)) hx hb hts prs_M hown hK hP 7 4 (by decide) rfl (hts _ prw_623) rfl rfl prd_M_takeAny_14 ?_
    refine lv_icmp_ge (tgt := 52) hx hb prd_M_takeAny_17 (by decide) (fun c20 => ?_) (fun c20 => ?_)
    · have hf := pr_it c20 hf
      exact prk_M_takeAny_52 hh E σ x1 0 _ hf _ _ _ hP hS (lv_sub hl [1, 2, 0] rfl)
    · have hf := pr_ie c20 hf
      refine lv_aload_n hx hb prd_M_takeAny_20 rfl (lv_at hl 1 rfl) ?_
      refine pr_geti (v := (σ.1 7 10)) hx hb hts prs_M hown hK hP 7 10 (by decide) rfl (hts _ prw_18) rfl rfl prd_M_takeAny_21 ?_
      refine lv_aload_n hx hb prd_M_takeAny_24 rfl (lv_at hl 1 rfl) ?_
      refine pr_getr (t := 47) hx hb hts prs_M hown hK hP 7 3 (by decide) rfl (hts _ prw_624) rfl prd_M_takeAny_25 ?_
      refine pr_alen (v := 400) hx hb hK hP 47 (by decide) (by decide) prd_M_takeAny_28 ?_
      refine lv_icmp_ge (tgt := 52) hx hb prd_M_takeAny_29 (by decide) (fun c21 => ?_) (fun c21 => ?_)
      · have hf := pr_it c21 hf
        exact prk_M_takeAny_52 hh E σ x1 0 _ hf _ _ _ hP hS (lv_sub hl [1, 2, 0] rfl)
      · have hf := pr_ie c21 hf
        refine lv_aload_n hx hb prd_M_takeAny_32 rfl (lv_at hl 1 rfl) ?_
        refine pr_getr (t := 47) hx hb hts prs_M hown hK hP 7 3 (by decide) rfl (hts _ prw_624) rfl prd_M_takeAny_33 ?_
        refine lv_aload_n hx hb prd_M_takeAny_36 rfl (lv_at hl 1 rfl) ?_
        refine pr_geti (v := (σ.1 7 10)) hx hb hts prs_M hown hK hP 7 10 (by decide) rfl (hts _ prw_18) rfl rfl prd_M_takeAny_37 ?_
        obtain ⟨hi22, hf⟩ := pr_ck_in hf
        refine pr_iald (f := (σ.2.1 47)) hx hb hK hP 47 (by decide) rfl hi22 rfl prd_M_takeAny_40 ?_
        refine lv_istore_n (lv' := [(2, .int ((σ.2.1 47) (σ.1 7 10).toNatClampNeg)), (0, .ref (ad 7)), (1, .int x1)]) hx hb prd_M_takeAny_41 rfl hl (by decide) rfl (fun ls hl => ?_)
        refine lv_aload_n hx hb prd_M_takeAny_42 rfl (lv_at hl 1 rfl) ?_
        refine lv_dup hx hb prd_M_takeAny_43 rfl ?_
        refine pr_geti (v := (σ.1 7 10)) hx hb hts prs_M hown hK hP 7 10 (by decide) rfl (hts _ prw_18) rfl rfl prd_M_takeAny_44 ?_
        refine lv_iconst (v := 1) hx hb prd_M_takeAny_47 (by decide) ?_
        refine lv_iadd hx hb prd_M_takeAny_48 ?_
        refine pr_puti (ty := .int) hx hb hts prs_M prq_M prtt_M prtn_M hown hK hP (hD _) hS 7 10 (by decide) rfl (hts _ prw_18) rfl rfl (prtt_M 10 (by decide)) rfl rfl prd_M_takeAny_49 (fun H locs hP hS => ?_)
        exact prk_M_takeAny_52 hh E (pr_sI σ 7 10 ((σ.1 7 10) + 1)) x1 ((σ.2.1 47) (σ.1 7 10).toNatClampNeg) _ hf _ _ _ hP hS (lv_sub hl [1, 2, 0] rfl)
-- M_reckonOne
set_option maxHeartbeats 4000000 in
set_option maxRecDepth 100000 in
theorem prc_M_reckonOne {l : Launch} {D : va_G} {ad : Nat → Nat} {dA : Nat → ClassId} {A : Nat → Prop} {t : Nat} (hD : ∀ σ : pr_St, va_D A (pr_w prc_L ad dA σ)) (hX : pr_Xok A (prX t A)) (h : Nat) (hh : 3 ≤ h) (σ : pr_St) (x1 : Int32) (x2 : Int32) (x3 : Int32) (res : pr_St) (hf : prf_M_reckonOne σ x1 x2 x3 = some res) : Met l pry_M_reckonOne (Cond.code pry_M_reckonOne prb_M_reckonOne 4 none :: pr_U) (pr_rm h) (pr_Pc (prX t A) D pr_cl prc_L ad dA [.ref (ad 7), .int x1, .int x2, .int x3] σ) (pr_Qv D pr_cl prc_L ad dA A res) 0 0 A := by
  refine pr_entry (cc := prb_M_reckonOne) (maxL := 4) (ret := none) (by decide) (Nat.le_of_ble_eq_true rfl) hD hX ?_
  intro p e s m args below meth c E H locs hP hS ls hl
  have hl : lv_has ls 4 [(0, .ref (ad 7)), (1, .int x1), (2, .int x2), (3, .int x3)] := hl
  have hf := hf.symm
  unfold prf_M_reckonOne at hf
  obtain ⟨hx, hb, hml, hown, hts, hr, hlocks, hK, hD, hX, hXs⟩ := id E
  refine lv_iload_n hx hb prd_M_reckonOne_0 rfl (lv_at hl 2 rfl) ?_
  by_cases c26 : x2 = 2
  · have hf := pr_it c26 hf
    refine lv_lookup (tgt := 83) (off := 82) hx hb prd_M_reckonOne_1 (by decide) (by rw [c26] <;> rfl) (by decide) ?_
    refine lv_aload_n hx hb prd_M_reckonOne_83 rfl (lv_at hl 0 rfl) ?_
    refine lv_aload_n hx hb prd_M_reckonOne_84 rfl (lv_at hl 0 rfl) ?_
    refine lv_aload_n hx hb prd_M_reckonOne_85 rfl (lv_at hl 0 rfl) ?_
    refine lv_iload_n hx hb prd_M_reckonOne_86 rfl (lv_at hl 1 rfl) ?_
    refine lv_iload_n hx hb prd_M_reckonOne_87 rfl (lv_at hl 3 rfl) ?_
    obtain ⟨r27, hr27, hf⟩ := pr_bi hf
    refine pr_callVr (rest := [.ref (ad 7), .ref (ad 7)]) (r := r27) ⟨hx, hb, hml, hown, hts⟩ 7 (prc_M_slotOfName hD hX 2 (Nat.le_refl _) σ x1 x3 r27 hr27) (prg_M_slotOfName hts prw_716 (by have := hh; omega)) hX hXs hK hP hS (by decide) rfl rfl rfl rfl hl.1 (Nat.le_of_ble_eq_true rfl) prd_M_reckonOne_88 (fun H locs hP hS => ?_)
    obtain ⟨r28, hr28, hf⟩ := pr_bi hf
    refine pr_callVr (rest := [.ref (ad 7)]) (r := r28) ⟨hx, hb, hml, hown, hts⟩ 7 (prc_M_getNumber hD hX 0 (Nat.le_refl _) σ r27 r28 hr28) (prg_M_getNumber hts prw_717 (by have := hh; omega)) hX hXs hK hP hS (by decide) rfl rfl rfl rfl hl.1 (Nat.le_of_ble_eq_true rfl) prd_M_reckonOne_91 (fun H locs hP hS => ?_)
    obtain ⟨r29, hr29, hf⟩ := pr_bi hf
    refine pr_callVv (rest := []) (res := r29) ⟨hx, hb, hml, hown, hts⟩ 7 (prc_M_push hD hX 0 (Nat.le_refl _) σ r28 r29 hr29) (prg_M_push hts prw_664 (by have := hh; omega)) hX hXs hK hP hS (by decide) rfl rfl rfl rfl hl.1 (Nat.le_of_ble_eq_true rfl) prd_M_reckonOne_94 (fun H locs hP hS => ?_)
    refine lv_goto (tgt := 179) hx hb prd_M_reckonOne_97 (by decide) ?_
    exact pr_retv E hP hS (pr_so hf) prd_M_reckonOne_179
  · have hf := pr_ie c26 hf
    by_cases c30 : x2 = 3
    · have hf := pr_it c30 hf
      refine lv_lookup (tgt := 68) (off := 67) hx hb prd_M_reckonOne_1 (by decide) (by rw [c30] <;> rfl) (by decide) ?_
      refine lv_aload_n hx hb prd_M_reckonOne_68 rfl (lv_at hl 0 rfl) ?_
      refine lv_aload_n hx hb prd_M_reckonOne_69 rfl (lv_at hl 0 rfl) ?_
      refine pr_getr (t := 1) hx hb hts prs_M hown hK hP 7 0 (by decide) rfl (hts _ prw_709) rfl prd_M_reckonOne_70 ?_
      refine lv_iload_n hx hb prd_M_reckonOne_73 rfl (lv_at hl 3 rfl) ?_
      obtain ⟨r31, hr31, hf⟩ := pr_bi hf
      refine pr_callVr (rest := [.ref (ad 7)]) (r := r31) ⟨hx, hb, hml, hown, hts⟩ 1 (prc_T_valueAt hD hX 0 (Nat.le_refl _) σ x3 r31 hr31) (prg_T_valueAt hts prw_718 (by have := hh; omega)) hX hXs hK hP hS (by decide) rfl rfl rfl rfl hl.1 (Nat.le_of_ble_eq_true rfl) prd_M_reckonOne_74 (fun H locs hP hS => ?_)
      obtain ⟨r32, hr32, hf⟩ := pr_bi hf
      refine pr_callVv (rest := []) (res := r32) ⟨hx, hb, hml, hown, hts⟩ 7 (prc_M_push hD hX 0 (Nat.le_refl _) σ r31 r32 hr32) (prg_M_push hts prw_664 (by have := hh; omega)) hX hXs hK hP hS (by decide) rfl rfl rfl rfl hl.1 (Nat.le_of_ble_eq_true rfl) prd_M_reckonOne_77 (fun H locs hP hS => ?_)
      refine lv_goto (tgt := 179) hx hb prd_M_reckonOne_80 (by decide) ?_
      exact pr_retv E hP hS (pr_so hf) prd_M_reckonOne_179
    · have hf := pr_ie c30 hf
      by_cases c33 : x2 = 34
      · have hf := pr_it c33 hf
        refine lv_lookup (tgt := 151) (off := 150) hx hb prd_M_reckonOne_1 (by decide) (by rw [c33] <;> rfl) (by decide) ?_
        refine lv_aload_n hx hb prd_M_reckonOne_151 rfl (lv_at hl 0 rfl) ?_
        refine lv_aload_n hx hb prd_M_reckonOne_152 rfl (lv_at hl 0 rfl) ?_
        obtain ⟨r34, hr34, hf⟩ := pr_bi hf
        refine pr_callVi (rest := [.ref (ad 7)]) (res := r34) ⟨hx, hb, hml, hown, hts⟩ 7 (prc_M_pop hD hX 0 (Nat.le_refl _) σ  r34 hr34) (prg_M_pop hts prw_668 (by have := hh; omega)) hX hXs hK hP hS (by decide) rfl rfl rfl rfl hl.1 (Nat.le_of_ble_eq_true rfl) prd_M_reckonOne_153 (fun H locs hP hS => ?_)
        refine lv_if_ne (tgt := 163) hx hb prd_M_reckonOne_156 (by decide) (fun c35 => ?_) (fun c35 => ?_)
        · have hf := pr_ie c35 hf
          refine lv_iconst (v := 0) hx hb prd_M_reckonOne_163 (by decide) ?_
          obtain ⟨r36, hr36, hf⟩ := pr_bi hf
          refine pr_callVv (rest := []) (res := r36) ⟨hx, hb, hml, hown, hts⟩ 7 (prc_M_pushTruth hD hX 1 (Nat.le_refl _) r34.2 0 r36 hr36) (prg_M_pushTruth hts prw_676 (by have := hh; omega)) hX hXs hK hP hS (by decide) rfl rfl rfl rfl hl.1 (Nat.le_of_ble_eq_true rfl) prd_M_reckonOne_164 (fun H locs hP hS => ?_)
          refine lv_goto (tgt := 179) hx hb prd_M_reckonOne_167 (by decide) ?_
          exact pr_retv E hP hS (pr_so hf) prd_M_reckonOne_179
        · have hf := pr_it c35 hf
          refine lv_iconst (v := 1) hx hb prd_M_reckonOne_159 (by decide) ?_
          refine lv_goto (tgt := 164) hx hb prd_M_reckonOne_160 (by decide) ?_
          obtain ⟨r37, hr37, hf⟩ := pr_bi hf
          refine pr_callVv (rest := []) (res := r37) ⟨hx, hb, hml, hown, hts⟩ 7 (prc_M_pushTruth hD hX 1 (Nat.le_refl _) r34.2 1 r37 hr37) (prg_M_pushTruth hts prw_676 (by have := hh; omega)) hX hXs hK hP hS (by decide) rfl rfl rfl rfl hl.1 (Nat.le_of_ble_eq_true rfl) prd_M_reckonOne_164 (fun H locs hP hS => ?_)
          refine lv_goto (tgt := 179) hx hb prd_M_reckonOne_167 (by decide) ?_
          exact pr_retv E hP hS (pr_so hf) prd_M_reckonOne_179
      · have hf := pr_ie c33 hf
        by_cases c38 : x2 = 35
        · have hf := pr_it c38 hf
          refine lv_lookup (tgt := 138) (off := 137) hx hb prd_M_reckonOne_1 (by decide) (by rw [c38] <;> rfl) (by decide) ?_
          refine lv_aload_n hx hb prd_M_reckonOne_138 rfl (lv_at hl 0 rfl) ?_
          refine lv_aload_n hx hb prd_M_reckonOne_139 rfl (lv_at hl 0 rfl) ?_
          obtain ⟨r39, hr39, hf⟩ := pr_bi hf
          refine pr_callVi (rest := [.ref (ad 7)]) (res := r39) ⟨hx, hb, hml, hown, hts⟩ 7 (prc_M_pop hD hX 0 (Nat.le_refl _) σ  r39 hr39) (prg_M_pop hts prw_668 (by have := hh; omega)) hX hXs hK hP hS (by decide) rfl rfl rfl rfl hl.1 (Nat.le_of_ble_eq_true rfl) prd_M_reckonOne_140 (fun H locs hP hS => ?_)
          refine lv_i2l (v := r39.1.toInt64) hx hb prd_M_reckonOne_143 rfl ?_
          refine lv_lneg hx hb prd_M_reckonOne_144 ?_
          obtain ⟨r40, hr40, hf⟩ := pr_bi hf
          refine pr_callVv (rest := []) (res := r40) ⟨hx, hb, hml, hown, hts⟩ 7 (prc_M_pushIfInt hD hX 1 (Nat.le_refl _) r39.2 (-r39.1.toInt64) r40 hr40) (prg_M_pushIfInt hts prw_669 (by have := hh; omega)) hX hXs hK hP hS (by decide) rfl rfl rfl rfl hl.1 (Nat.le_of_ble_eq_true rfl) prd_M_reckonOne_145 (fun H locs hP hS => ?_)
          refine lv_goto (tgt := 179) hx hb prd_M_reckonOne_148 (by decide) ?_
          exact pr_retv E hP hS (pr_so hf) prd_M_reckonOne_179
        · have hf := pr_ie c38 hf
          by_cases c41 : x2 = 36
          · have hf := pr_it c41 hf
            refine lv_lookup (tgt := 100) (off := 99) hx hb prd_M_reckonOne_1 (by decide) (by rw [c41] <;> rfl) (by decide) ?_
            refine lv_aload_n hx hb prd_M_reckonOne_100 rfl (lv_at hl 0 rfl) ?_
            refine lv_aload_n hx hb prd_M_reckonOne_101 rfl (lv_at hl 0 rfl) ?_
            refine pr_getr (t := 4) hx hb hts prs_M hown hK hP 7 2 (by decide) rfl (hts _ prw_680) rfl prd_M_reckonOne_102 ?_
            refine lv_iload_n hx hb prd_M_reckonOne_105 rfl (lv_at hl 1 rfl) ?_
            obtain ⟨r42, hr42, hf⟩ := pr_bi hf
            refine pr_callVr (rest := [.ref (ad 7)]) (r := r42) ⟨hx, hb, hml, hown, hts⟩ 4 (prc_O_foreignArraysAt hD hX 1 (Nat.le_refl _) σ x1 r42 hr42) (prg_O_foreignArraysAt hts prw_719 (by have := hh; omega)) hX hXs hK hP hS (by decide) rfl rfl rfl rfl hl.1 (Nat.le_of_ble_eq_true rfl) prd_M_reckonOne_106 (fun H locs hP hS => ?_)
            refine lv_aload_n hx hb prd_M_reckonOne_109 rfl (lv_at hl 0 rfl) ?_
            refine pr_getr (t := 2) hx hb hts prs_M hown hK hP 7 1 (by decide) rfl (hts _ prw_682) rfl prd_M_reckonOne_110 ?_
            refine lv_iload_n hx hb prd_M_reckonOne_113 rfl (lv_at hl 3 rfl) ?_
            obtain ⟨r43, hr43, hf⟩ := pr_bi hf
            refine pr_callVr (rest := [.int r42, .ref (ad 7)]) (r := r43) ⟨hx, hb, hml, hown, hts⟩ 2 (prc_G_slotOf hD hX 0 (Nat.le_refl _) σ x3 r43 hr43) (prg_G_slotOf hts prw_683 (by have := hh; omega)) hX hXs hK hP hS (by decide) rfl rfl rfl rfl hl.1 (Nat.le_of_ble_eq_true rfl) prd_M_reckonOne_114 (fun H locs hP hS => ?_)
            refine lv_iadd hx hb prd_M_reckonOne_117 ?_
            obtain ⟨r44, hr44, hf⟩ := pr_bi hf
            refine pr_callVv (rest := []) (res := r44) ⟨hx, hb, hml, hown, hts⟩ 7 (prc_M_push hD hX 0 (Nat.le_refl _) σ (r42 + r43) r44 hr44) (prg_M_push hts prw_664 (by have := hh; omega)) hX hXs hK hP hS (by decide) rfl rfl rfl rfl hl.1 (Nat.le_of_ble_eq_true rfl) prd_M_reckonOne_118 (fun H locs hP hS => ?_)
            refine lv_goto (tgt := 179) hx hb prd_M_reckonOne_121 (by decide) ?_
            exact pr_retv E hP hS (pr_so hf) prd_M_reckonOne_179
          · have hf := pr_ie c41 hf
            by_cases c45 : x2 = 37
            · have hf := pr_it c45 hf
              refine lv_lookup (tgt := 124) (off := 123) hx hb prd_M_reckonOne_1 (by decide) (by rw [c45] <;> rfl) (by decide) ?_
              refine lv_aload_n hx hb prd_M_reckonOne_124 rfl (lv_at hl 0 rfl) ?_
              obtain ⟨r46, hr46, hf⟩ := pr_bi hf
              refine pr_callVv (rest := []) (res := r46) ⟨hx, hb, hml, hown, hts⟩ 7 (prc_M_lookAtPlace hD hX 1 (Nat.le_refl _) σ  r46 hr46) (prg_M_lookAtPlace hts prw_704 (by have := hh; omega)) hX hXs hK hP hS (by decide) rfl rfl rfl rfl hl.1 (Nat.le_of_ble_eq_true rfl) prd_M_reckonOne_125 (fun H locs hP hS => ?_)
              refine lv_goto (tgt := 179) hx hb prd_M_reckonOne_128 (by decide) ?_
              exact pr_retv E hP hS (pr_so hf) prd_M_reckonOne_179
            · have hf := pr_ie c45 hf
              by_cases c47 : x2 = 38
              · have hf := pr_it c47 hf
                refine lv_lookup (tgt := 131) (off := 130) hx hb prd_M_reckonOne_1 (by decide) (by rw [c47] <;> rfl) (by decide) ?_
                refine lv_aload_n hx hb prd_M_reckonOne_131 rfl (lv_at hl 0 rfl) ?_
                obtain ⟨r48, hr48, hf⟩ := pr_bi hf
                refine pr_callVv (rest := []) (res := r48) ⟨hx, hb, hml, hown, hts⟩ 7 (prc_M_takePlace hD hX 2 (Nat.le_refl _) σ  r48 hr48) (prg_M_takePlace hts prw_720 (by have := hh; omega)) hX hXs hK hP hS (by decide) rfl rfl rfl rfl hl.1 (Nat.le_of_ble_eq_true rfl) prd_M_reckonOne_132 (fun H locs hP hS => ?_)
                refine lv_goto (tgt := 179) hx hb prd_M_reckonOne_135 (by decide) ?_
                exact pr_retv E hP hS (pr_so hf) prd_M_reckonOne_179
              · have hf := pr_ie c47 hf
                refine lv_lookup (tgt := 170) (off := 169) hx hb prd_M_reckonOne_1 (by decide) (by show Op.lookupswitch.offset [(2, 82), (3, 67), (34, 150), (35, 137), (36, 99), (37, 123), (38, 130)] 169 _ = _; rw [lv_osw c26 (by decide), lv_osw c30 (by decide), lv_osw c33 (by decide), lv_osw c38 (by decide), lv_osw c41 (by decide), lv_osw c45 (by decide), lv_osw c47 (by decide)] <;> rfl) (by decide) ?_
                refine lv_aload_n hx hb prd_M_reckonOne_170 rfl (lv_at hl 0 rfl) ?_
                refine lv_aload_n hx hb prd_M_reckonOne_171 rfl (lv_at hl 0 rfl) ?_
                refine lv_iload_n hx hb prd_M_reckonOne_172 rfl (lv_at hl 3 rfl) ?_
                obtain ⟨r49, hr49, hf⟩ := pr_bi hf
                refine pr_callVi (rest := [.ref (ad 7)]) (res := r49) ⟨hx, hb, hml, hown, hts⟩ 7 (prc_M_takeAny hD hX 2 (Nat.le_refl _) σ x3 r49 hr49) (prg_M_takeAny hts prw_721 (by have := hh; omega)) hX hXs hK hP hS (by decide) rfl rfl rfl rfl hl.1 (Nat.le_of_ble_eq_true rfl) prd_M_reckonOne_173 (fun H locs hP hS => ?_)
                obtain ⟨r50, hr50, hf⟩ := pr_bi hf
                refine pr_callVv (rest := []) (res := r50) ⟨hx, hb, hml, hown, hts⟩ 7 (prc_M_push hD hX 0 (Nat.le_refl _) r49.2 r49.1 r50 hr50) (prg_M_push hts prw_664 (by have := hh; omega)) hX hXs hK hP hS (by decide) rfl rfl rfl rfl hl.1 (Nat.le_of_ble_eq_true rfl) prd_M_reckonOne_176 (fun H locs hP hS => ?_)
                exact pr_retv E hP hS (pr_so hf) prd_M_reckonOne_179
-- M_reckon
set_option maxHeartbeats 4000000 in
set_option maxRecDepth 100000 in
theorem prk_M_reckon_84 {l : Launch} {D : va_G} {ad : Nat → Nat} {dA : Nat → ClassId} {A : Nat → Prop} {t : Nat} {p : Program} {e : Env} {s : State} {m : MethodId} {args : Array Value} {below : List Frame} {meth : Method} {c : Code} {h : Nat} (hh : 4 ≤ h) (E : pr_cx prn_M prb_M_reckon 8 none D pr_cl prc_L ad dA A (prX t A) p s m args meth c) {kk35 : pr_St → Int32 → Int32 → Int32 → Option pr_St} (Hk35 : ∀ (σ : pr_St) (x1 : Int32) (x3 : Int32) (x4 : Int32) (res : pr_St), some res = kk35 σ x1 x3 x4 → ∀ (H : Heap) (locs : List Loc) (ls : Array Slot), va_P D pr_cl (pr_w prc_L ad dA σ) H → va_S A s.heap H locs → lv_has ls 8 [(0, .ref (ad 7)), (1, .int x1), (3, .int x3), (4, .int x4)] → W p l e (pr_rm h) s m args below meth c H locs 0 0 (MQ below (pr_Qv D pr_cl prc_L ad dA A res) args s 0 0 A) (F0 m 35 ls [])) : ∀ (σ : pr_St) (x1 : Int32) (x3 : Int32) (x4 : Int32) (x5 : Int32) (x6 : Int32) (res : pr_St), some res = prf_M_reckon_84 kk35 σ x1 x3 x4 x5 x6 → ∀ (H : Heap) (locs : List Loc) (ls : Array Slot), va_P D pr_cl (pr_w prc_L ad dA σ) H → va_S A s.heap H locs → lv_has ls 8 [(0, .ref (ad 7)), (1, .int x1), (3, .int x3), (4, .int x4), (5, .int x5), (6, .int x6)] → W p l e (pr_rm h) s m args below meth c H locs 0 0 (MQ below (pr_Qv D pr_cl prc_L ad dA A res) args s 0 0 A) (F0 m 84 ls []) := by
  obtain ⟨hx, hb, hml, hown, hts, hr, hlocks, hK, hD, hX, hXs⟩ := id E
  intro σ x1 x3 x4 x5 x6 res hf H locs ls hP hS hl
  unfold prf_M_reckon_84 at hf
  refine lv_aload_n hx hb prd_M_reckon_84 rfl (lv_at hl 0 rfl) ?_
  refine lv_aload_n hx hb prd_M_reckon_85 rfl (lv_at hl 0 rfl) ?_
  refine pr_geti (v := (σ.1 7 13)) hx hb hts prs_M hown hK hP 7 13 (by decide) rfl (hts _ prw_651) rfl rfl prd_M_reckon_86 ?_
  refine lv_iconst (v := 1) hx hb prd_M_reckon_89 (by decide) ?_
  refine lv_isub hx hb prd_M_reckon_90 ?_
  obtain ⟨r30, hr30, hf⟩ := pr_bi hf
  refine pr_callVr (rest := []) (r := r30) ⟨hx, hb, hml, hown, hts⟩ 7 (prc_M_waitingAt hD hX 0 (Nat.le_refl _) σ ((σ.1 7 13) - 1) r30 hr30) (prg_M_waitingAt hts prw_695 (by have := hh; omega)) hX hXs hK hP hS (by decide) rfl rfl rfl rfl hl.1 (Nat.le_of_ble_eq_true rfl) prd_M_reckon_91 (fun H locs hP hS => ?_)
  refine lv_if_eq (tgt := 101) hx hb prd_M_reckon_94 (by decide) (fun c31 => ?_) (fun c31 => ?_)
  · have hf := pr_it c31 hf
    refine lv_iconst (v := 0) hx hb prd_M_reckon_101 (by decide) ?_
    refine lv_istore (lv' := [(7, .int 0), (0, .ref (ad 7)), (1, .int x1), (3, .int x3), (4, .int x4), (5, .int x5), (6, .int x6)]) hx hb prd_M_reckon_102 hl (by decide) rfl (fun ls hl => ?_)
    refine lv_iload hx hb prd_M_reckon_104 (lv_at hl 0 rfl) ?_
    refine lv_iload hx hb prd_M_reckon_106 (lv_at hl 5 rfl) ?_
    refine lv_bipush (v := 33) hx hb prd_M_reckon_108 (by decide) ?_
    refine lv_icmp_ne (tgt := 117) hx hb prd_M_reckon_110 (by decide) (fun c32 => ?_) (fun c32 => ?_)
    · have hf := pr_ie c32 hf
      refine lv_iconst (v := 0) hx hb prd_M_reckon_117 (by decide) ?_
      refine lv_icmp_ne (tgt := 135) hx hb prd_M_reckon_118 (by decide) (fun c33 => ?_) (fun c33 => ?_)
      · have hf := pr_ie c33 hf
        refine lv_aload_n hx hb prd_M_reckon_135 rfl (lv_at hl 1 rfl) ?_
        obtain ⟨r34, hr34, hf⟩ := pr_bi hf
        refine pr_callVi (rest := []) (res := r34) ⟨hx, hb, hml, hown, hts⟩ 7 (prc_M_pop hD hX 0 (Nat.le_refl _) σ  r34 hr34) (prg_M_pop hts prw_668 (by have := hh; omega)) hX hXs hK hP hS (by decide) rfl rfl rfl rfl hl.1 (Nat.le_of_ble_eq_true rfl) prd_M_reckon_136 (fun H locs hP hS => ?_)
        refine lv_pop hx hb prd_M_reckon_139 rfl ?_
        refine lv_goto (tgt := 198) hx hb prd_M_reckon_140 (by decide) ?_
        refine lv_iinc (v := (x4 + 1)) (lv' := [(4, .int (x4 + 1)), (7, .int 0), (0, .ref (ad 7)), (1, .int x1), (3, .int x3), (5, .int x5), (6, .int x6)]) hx hb prd_M_reckon_198 hl (k := 4) rfl rfl (by decide) rfl (fun ls hl => ?_)
        refine lv_goto (tgt := 35) hx hb prd_M_reckon_201 (by decide) ?_
        exact Hk35 r34.2 x1 x3 (x4 + 1) _ hf _ _ _ hP hS (lv_sub hl [2, 3, 4, 0] rfl)
      · have hf := pr_it c33 hf
        refine lv_iload hx hb prd_M_reckon_121 (lv_at hl 4 rfl) ?_
        refine lv_iload hx hb prd_M_reckon_123 (lv_at hl 6 rfl) ?_
        refine lv_iconst (v := 1) hx hb prd_M_reckon_125 (by decide) ?_
        refine lv_isub hx hb prd_M_reckon_126 ?_
        refine va_mmax hx hb (hml.trans hl.1.symm) hown (hts _ prw_732) (hts _ prw_733) (hts _ prw_734) (hts _ prw_735) (by show 1 ≤ h; have := hh; omega) (Nat.le_trans (Nat.le_of_ble_eq_true rfl : _ ≤ 64) (by show 64 ≤ 64 * h; have := hh; omega)) (Nat.zero_le _) (Nat.zero_le _) prd_M_reckon_127 ?_
        refine lv_istore (lv' := [(4, .int (if x4 < (x6 - 1) then (x6 - 1) else x4)), (7, .int 0), (0, .ref (ad 7)), (1, .int x1), (3, .int x3), (5, .int x5), (6, .int x6)]) hx hb prd_M_reckon_130 hl (by decide) rfl (fun ls hl => ?_)
        refine lv_goto (tgt := 140) hx hb prd_M_reckon_132 (by decide) ?_
        refine lv_goto (tgt := 198) hx hb prd_M_reckon_140 (by decide) ?_
        refine lv_iinc (v := ((if x4 < (x6 - 1) then (x6 - 1) else x4) + 1)) (lv' := [(4, .int ((if x4 < (x6 - 1) then (x6 - 1) else x4) + 1)), (7, .int 0), (0, .ref (ad 7)), (1, .int x1), (3, .int x3), (5, .int x5), (6, .int x6)]) hx hb prd_M_reckon_198 hl (k := 0) rfl rfl (by decide) rfl (fun ls hl => ?_)
        refine lv_goto (tgt := 35) hx hb prd_M_reckon_201 (by decide) ?_
        exact Hk35 σ x1 x3 ((if x4 < (x6 - 1) then (x6 - 1) else x4) + 1) _ hf _ _ _ hP hS (lv_sub hl [2, 3, 4, 0] rfl)
    · have hf := pr_it c32 hf
      refine lv_iconst (v := 1) hx hb prd_M_reckon_113 (by decide) ?_
      refine lv_goto (tgt := 118) hx hb prd_M_reckon_114 (by decide) ?_
      refine lv_icmp_ne (tgt := 135) hx hb prd_M_reckon_118 (by decide) (fun c35 => ?_) (fun c35 => ?_)
      · have hf := pr_ie c35 hf
        refine lv_aload_n hx hb prd_M_reckon_135 rfl (lv_at hl 1 rfl) ?_
        obtain ⟨r36, hr36, hf⟩ := pr_bi hf
        refine pr_callVi (rest := []) (res := r36) ⟨hx, hb, hml, hown, hts⟩ 7 (prc_M_pop hD hX 0 (Nat.le_refl _) σ  r36 hr36) (prg_M_pop hts prw_668 (by have := hh; omega)) hX hXs hK hP hS (by decide) rfl rfl rfl rfl hl.1 (Nat.le_of_ble_eq_true rfl) prd_M_reckon_136 (fun H locs hP hS => ?_)
        refine lv_pop hx hb prd_M_reckon_139 rfl ?_
        refine lv_goto (tgt := 198) hx hb prd_M_reckon_140 (by decide) ?_
        refine lv_iinc (v := (x4 + 1)) (lv' := [(4, .int (x4 + 1)), (7, .int 0), (0, .ref (ad 7)), (1, .int x1), (3, .int x3), (5, .int x5), (6, .int x6)]) hx hb prd_M_reckon_198 hl (k := 4) rfl rfl (by decide) rfl (fun ls hl => ?_)
        refine lv_goto (tgt := 35) hx hb prd_M_reckon_201 (by decide) ?_
        exact Hk35 r36.2 x1 x3 (x4 + 1) _ hf _ _ _ hP hS (lv_sub hl [2, 3, 4, 0] rfl)
      · have hf := pr_it c35 hf
        refine lv_iload hx hb prd_M_reckon_121 (lv_at hl 4 rfl) ?_
        refine lv_iload hx hb prd_M_reckon_123 (lv_at hl 6 rfl) ?_
        refine lv_iconst (v := 1) hx hb prd_M_reckon_125 (by decide) ?_
        refine lv_isub hx hb prd_M_reckon_126 ?_
        refine va_mmax hx hb (hml.trans hl.1.symm) hown (hts _ prw_732) (hts _ prw_733) (hts _ prw_734) (hts _ prw_735) (by show 1 ≤ h; have := hh; omega) (Nat.le_trans (Nat.le_of_ble_eq_true rfl : _ ≤ 64) (by show 64 ≤ 64 * h; have := hh; omega)) (Nat.zero_le _) (Nat.zero_le _) prd_M_reckon_127 ?_
        refine lv_istore (lv' := [(4, .int (if x4 < (x6 - 1) then (x6 - 1) else x4)), (7, .int 0), (0, .ref (ad 7)), (1, .int x1), (3, .int x3), (5, .int x5), (6, .int x6)]) hx hb prd_M_reckon_130 hl (by decide) rfl (fun ls hl => ?_)
        refine lv_goto (tgt := 140) hx hb prd_M_reckon_132 (by decide) ?_
        refine lv_goto (tgt := 198) hx hb prd_M_reckon_140 (by decide) ?_
        refine lv_iinc (v := ((if x4 < (x6 - 1) then (x6 - 1) else x4) + 1)) (lv' := [(4, .int ((if x4 < (x6 - 1) then (x6 - 1) else x4) + 1)), (7, .int 0), (0, .ref (ad 7)), (1, .int x1), (3, .int x3), (5, .int x5), (6, .int x6)]) hx hb prd_M_reckon_198 hl (k := 0) rfl rfl (by decide) rfl (fun ls hl => ?_)
        refine lv_goto (tgt := 35) hx hb prd_M_reckon_201 (by decide) ?_
        exact Hk35 σ x1 x3 ((if x4 < (x6 - 1) then (x6 - 1) else x4) + 1) _ hf _ _ _ hP hS (lv_sub hl [2, 3, 4, 0] rfl)
  · have hf := pr_ie c31 hf
    refine lv_iconst (v := 1) hx hb prd_M_reckon_97 (by decide) ?_
    refine lv_goto (tgt := 102) hx hb prd_M_reckon_98 (by decide) ?_
    refine lv_istore (lv' := [(7, .int 1), (0, .ref (ad 7)), (1, .int x1), (3, .int x3), (4, .int x4), (5, .int x5), (6, .int x6)]) hx hb prd_M_reckon_102 hl (by decide) rfl (fun ls hl => ?_)
    refine lv_iload hx hb prd_M_reckon_104 (lv_at hl 0 rfl) ?_
    refine lv_iload hx hb prd_M_reckon_106 (lv_at hl 5 rfl) ?_
    refine lv_bipush (v := 33) hx hb prd_M_reckon_108 (by decide) ?_
    refine lv_icmp_ne (tgt := 117) hx hb prd_M_reckon_110 (by decide) (fun c37 => ?_) (fun c37 => ?_)
    · have hf := pr_ie c37 hf
      refine lv_iconst (v := 0) hx hb prd_M_reckon_117 (by decide) ?_
      refine lv_icmp_ne (tgt := 135) hx hb prd_M_reckon_118 (by decide) (fun c38 => ?_) (fun c38 => ?_)
      · have hf := pr_ie c38 hf
        refine lv_aload_n hx hb prd_M_reckon_135 rfl (lv_at hl 1 rfl) ?_
        obtain ⟨r39, hr39, hf⟩ := pr_bi hf
        refine pr_callVi (rest := []) (res := r39) ⟨hx, hb, hml, hown, hts⟩ 7 (prc_M_pop hD hX 0 (Nat.le_refl _) σ  r39 hr39) (prg_M_pop hts prw_668 (by have := hh; omega)) hX hXs hK hP hS (by decide) rfl rfl rfl rfl hl.1 (Nat.le_of_ble_eq_true rfl) prd_M_reckon_136 (fun H locs hP hS => ?_)
        refine lv_pop hx hb prd_M_reckon_139 rfl ?_
        refine lv_goto (tgt := 198) hx hb prd_M_reckon_140 (by decide) ?_
        refine lv_iinc (v := (x4 + 1)) (lv' := [(4, .int (x4 + 1)), (7, .int 1), (0, .ref (ad 7)), (1, .int x1), (3, .int x3), (5, .int x5), (6, .int x6)]) hx hb prd_M_reckon_198 hl (k := 4) rfl rfl (by decide) rfl (fun ls hl => ?_)
        refine lv_goto (tgt := 35) hx hb prd_M_reckon_201 (by decide) ?_
        exact Hk35 r39.2 x1 x3 (x4 + 1) _ hf _ _ _ hP hS (lv_sub hl [2, 3, 4, 0] rfl)
      · have hf := pr_it c38 hf
        refine lv_iload hx hb prd_M_reckon_121 (lv_at hl 4 rfl) ?_
        refine lv_iload hx hb prd_M_reckon_123 (lv_at hl 6 rfl) ?_
        refine lv_iconst (v := 1) hx hb prd_M_reckon_125 (by decide) ?_
        refine lv_isub hx hb prd_M_reckon_126 ?_
        refine va_mmax hx hb (hml.trans hl.1.symm) hown (hts _ prw_732) (hts _ prw_733) (hts _ prw_734) (hts _ prw_735) (by show 1 ≤ h; have := hh; omega) (Nat.le_trans (Nat.le_of_ble_eq_true rfl : _ ≤ 64) (by show 64 ≤ 64 * h; have := hh; omega)) (Nat.zero_le _) (Nat.zero_le _) prd_M_reckon_127 ?_
        refine lv_istore (lv' := [(4, .int (if x4 < (x6 - 1) then (x6 - 1) else x4)), (7, .int 1), (0, .ref (ad 7)), (1, .int x1), (3, .int x3), (5, .int x5), (6, .int x6)]) hx hb prd_M_reckon_130 hl (by decide) rfl (fun ls hl => ?_)
        refine lv_goto (tgt := 140) hx hb prd_M_reckon_132 (by decide) ?_
        refine lv_goto (tgt := 198) hx hb prd_M_reckon_140 (by decide) ?_
        refine lv_iinc (v := ((if x4 < (x6 - 1) then (x6 - 1) else x4) + 1)) (lv' := [(4, .int ((if x4 < (x6 - 1) then (x6 - 1) else x4) + 1)), (7, .int 1), (0, .ref (ad 7)), (1, .int x1), (3, .int x3), (5, .int x5), (6, .int x6)]) hx hb prd_M_reckon_198 hl (k := 0) rfl rfl (by decide) rfl (fun ls hl => ?_)
        refine lv_goto (tgt := 35) hx hb prd_M_reckon_201 (by decide) ?_
        exact Hk35 σ x1 x3 ((if x4 < (x6 - 1) then (x6 - 1) else x4) + 1) _ hf _ _ _ hP hS (lv_sub hl [2, 3, 4, 0] rfl)
    · have hf := pr_it c37 hf
      refine lv_iconst (v := 1) hx hb prd_M_reckon_113 (by decide) ?_
      refine lv_goto (tgt := 118) hx hb prd_M_reckon_114 (by decide) ?_
      refine lv_icmp_ne (tgt := 135) hx hb prd_M_reckon_118 (by decide) (fun c40 => ?_) (fun c40 => ?_)
      · have hf := pr_ie c40 hf
        refine lv_aload_n hx hb prd_M_reckon_135 rfl (lv_at hl 1 rfl) ?_
        obtain ⟨r41, hr41, hf⟩ := pr_bi hf
        refine pr_callVi (rest := []) (res := r41) ⟨hx, hb, hml, hown, hts⟩ 7 (prc_M_pop hD hX 0 (Nat.le_refl _) σ  r41 hr41) (prg_M_pop hts prw_668 (by have := hh; omega)) hX hXs hK hP hS (by decide) rfl rfl rfl rfl hl.1 (Nat.le_of_ble_eq_true rfl) prd_M_reckon_136 (fun H locs hP hS => ?_)
        refine lv_pop hx hb prd_M_reckon_139 rfl ?_
        refine lv_goto (tgt := 198) hx hb prd_M_reckon_140 (by decide) ?_
        refine lv_iinc (v := (x4 + 1)) (lv' := [(4, .int (x4 + 1)), (7, .int 1), (0, .ref (ad 7)), (1, .int x1), (3, .int x3), (5, .int x5), (6, .int x6)]) hx hb prd_M_reckon_198 hl (k := 4) rfl rfl (by decide) rfl (fun ls hl => ?_)
        refine lv_goto (tgt := 35) hx hb prd_M_reckon_201 (by decide) ?_
        exact Hk35 r41.2 x1 x3 (x4 + 1) _ hf _ _ _ hP hS (lv_sub hl [2, 3, 4, 0] rfl)
      · have hf := pr_it c40 hf
        refine lv_iload hx hb prd_M_reckon_121 (lv_at hl 4 rfl) ?_
        refine lv_iload hx hb prd_M_reckon_123 (lv_at hl 6 rfl) ?_
        refine lv_iconst (v := 1) hx hb prd_M_reckon_125 (by decide) ?_
        refine lv_isub hx hb prd_M_reckon_126 ?_
        refine va_mmax hx hb (hml.trans hl.1.symm) hown (hts _ prw_732) (hts _ prw_733) (hts _ prw_734) (hts _ prw_735) (by show 1 ≤ h; have := hh; omega) (Nat.le_trans (Nat.le_of_ble_eq_true rfl : _ ≤ 64) (by show 64 ≤ 64 * h; have := hh; omega)) (Nat.zero_le _) (Nat.zero_le _) prd_M_reckon_127 ?_
        refine lv_istore (lv' := [(4, .int (if x4 < (x6 - 1) then (x6 - 1) else x4)), (7, .int 1), (0, .ref (ad 7)), (1, .int x1), (3, .int x3), (5, .int x5), (6, .int x6)]) hx hb prd_M_reckon_130 hl (by decide) rfl (fun ls hl => ?_)
        refine lv_goto (tgt := 140) hx hb prd_M_reckon_132 (by decide) ?_
        refine lv_goto (tgt := 198) hx hb prd_M_reckon_140 (by decide) ?_
        refine lv_iinc (v := ((if x4 < (x6 - 1) then (x6 - 1) else x4) + 1)) (lv' := [(4, .int ((if x4 < (x6 - 1) then (x6 - 1) else x4) + 1)), (7, .int 1), (0, .ref (ad 7)), (1, .int x1), (3, .int x3), (5, .int x5), (6, .int x6)]) hx hb prd_M_reckon_198 hl (k := 0) rfl rfl (by decide) rfl (fun ls hl => ?_)
        refine lv_goto (tgt := 35) hx hb prd_M_reckon_201 (by decide) ?_
        exact Hk35 σ x1 x3 ((if x4 < (x6 - 1) then (x6 - 1) else x4) + 1) _ hf _ _ _ hP hS (lv_sub hl [2, 3, 4, 0] rfl)
set_option maxHeartbeats 4000000 in
set_option maxRecDepth 100000 in
theorem prk_M_reckon_166 {l : Launch} {D : va_G} {ad : Nat → Nat} {dA : Nat → ClassId} {A : Nat → Prop} {t : Nat} {p : Program} {e : Env} {s : State} {m : MethodId} {args : Array Value} {below : List Frame} {meth : Method} {c : Code} {h : Nat} (hh : 4 ≤ h) (E : pr_cx prn_M prb_M_reckon 8 none D pr_cl prc_L ad dA A (prX t A) p s m args meth c) {kk35 : pr_St → Int32 → Int32 → Int32 → Option pr_St} (Hk35 : ∀ (σ : pr_St) (x1 : Int32) (x3 : Int32) (x4 : Int32) (res : pr_St), some res = kk35 σ x1 x3 x4 → ∀ (H : Heap) (locs : List Loc) (ls : Array Slot), va_P D pr_cl (pr_w prc_L ad dA σ) H → va_S A s.heap H locs → lv_has ls 8 [(0, .ref (ad 7)), (1, .int x1), (3, .int x3), (4, .int x4)] → W p l e (pr_rm h) s m args below meth c H locs 0 0 (MQ below (pr_Qv D pr_cl prc_L ad dA A res) args s 0 0 A) (F0 m 35 ls [])) : ∀ (σ : pr_St) (x1 : Int32) (x3 : Int32) (x4 : Int32) (x5 : Int32) (x6 : Int32) (res : pr_St), some res = prf_M_reckon_166 kk35 σ x1 x3 x4 x5 x6 → ∀ (H : Heap) (locs : List Loc) (ls : Array Slot), va_P D pr_cl (pr_w prc_L ad dA σ) H → va_S A s.heap H locs → lv_has ls 8 [(0, .ref (ad 7)), (1, .int x1), (3, .int x3), (4, .int x4), (5, .int x5), (6, .int x6)] → W p l e (pr_rm h) s m args below meth c H locs 0 0 (MQ below (pr_Qv D pr_cl prc_L ad dA A res) args s 0 0 A) (F0 m 166 ls []) := by
  obtain ⟨hx, hb, hml, hown, hts, hr, hlocks, hK, hD, hX, hXs⟩ := id E
  intro σ x1 x3 x4 x5 x6 res hf H locs ls hP hS hl
  unfold prf_M_reckon_166 at hf
  refine lv_iload hx hb prd_M_reckon_166 (lv_at hl 4 rfl) ?_
  refine lv_bipush (v := 26) hx hb prd_M_reckon_168 (by decide) ?_
  refine lv_icmp_lt (tgt := 189) hx hb prd_M_reckon_170 (by decide) (fun c42 => ?_) (fun c42 => ?_)
  · have hf := pr_it c42 hf
    refine lv_aload_n hx hb prd_M_reckon_189 rfl (lv_at hl 0 rfl) ?_
    refine lv_iload_n hx hb prd_M_reckon_190 rfl (lv_at hl 1 rfl) ?_
    refine lv_iload hx hb prd_M_reckon_191 (lv_at hl 4 rfl) ?_
    refine lv_iload hx hb prd_M_reckon_193 (lv_at hl 5 rfl) ?_
    obtain ⟨r43, hr43, hf⟩ := pr_bi hf
    refine pr_callVv (rest := []) (res := r43) ⟨hx, hb, hml, hown, hts⟩ 7 (prc_M_reckonOne hD hX 3 (Nat.le_refl _) σ x1 x5 x6 r43 hr43) (prg_M_reckonOne hts prw_730 (by have := hh; omega)) hX hXs hK hP hS (by decide) rfl rfl rfl rfl hl.1 (Nat.le_of_ble_eq_true rfl) prd_M_reckon_195 (fun H locs hP hS => ?_)
    refine lv_iinc (v := (x4 + 1)) (lv' := [(4, .int (x4 + 1)), (0, .ref (ad 7)), (1, .int x1), (3, .int x3), (5, .int x5), (6, .int x6)]) hx hb prd_M_reckon_198 hl (k := 3) rfl rfl (by decide) rfl (fun ls hl => ?_)
    refine lv_goto (tgt := 35) hx hb prd_M_reckon_201 (by decide) ?_
    exact Hk35 r43 x1 x3 (x4 + 1) _ hf _ _ _ hP hS (lv_sub hl [1, 2, 3, 0] rfl)
  · have hf := pr_ie c42 hf
    refine lv_iload hx hb prd_M_reckon_173 (lv_at hl 4 rfl) ?_
    refine lv_bipush (v := 31) hx hb prd_M_reckon_175 (by decide) ?_
    refine lv_icmp_gt (tgt := 189) hx hb prd_M_reckon_177 (by decide) (fun c44 => ?_) (fun c44 => ?_)
    · have hf := pr_it c44 hf
      refine lv_aload_n hx hb prd_M_reckon_189 rfl (lv_at hl 0 rfl) ?_
      refine lv_iload_n hx hb prd_M_reckon_190 rfl (lv_at hl 1 rfl) ?_
      refine lv_iload hx hb prd_M_reckon_191 (lv_at hl 4 rfl) ?_
      refine lv_iload hx hb prd_M_reckon_193 (lv_at hl 5 rfl) ?_
      obtain ⟨r45, hr45, hf⟩ := pr_bi hf
      refine pr_callVv (rest := []) (res := r45) ⟨hx, hb, hml, hown, hts⟩ 7 (prc_M_reckonOne hD hX 3 (Nat.le_refl _) σ x1 x5 x6 r45 hr45) (prg_M_reckonOne hts prw_730 (by have := hh; omega)) hX hXs hK hP hS (by decide) rfl rfl rfl rfl hl.1 (Nat.le_of_ble_eq_true rfl) prd_M_reckon_195 (fun H locs hP hS => ?_)
      refine lv_iinc (v := (x4 + 1)) (lv' := [(4, .int (x4 + 1)), (0, .ref (ad 7)), (1, .int x1), (3, .int x3), (5, .int x5), (6, .int x6)]) hx hb prd_M_reckon_198 hl (k := 3) rfl rfl (by decide) rfl (fun ls hl => ?_)
      refine lv_goto (tgt := 35) hx hb prd_M_reckon_201 (by decide) ?_
      exact Hk35 r45 x1 x3 (x4 + 1) _ hf _ _ _ hP hS (lv_sub hl [1, 2, 3, 0] rfl)
    · have hf := pr_ie c44 hf
      refine lv_aload_n hx hb prd_M_reckon_180 rfl (lv_at hl 0 rfl) ?_
      refine lv_iload hx hb prd_M_reckon_181 (lv_at hl 4 rfl) ?_
      obtain ⟨r46, hr46, hf⟩ := pr_bi hf
      refine pr_callVv (rest := []) (res := r46) ⟨hx, hb, hml, hown, hts⟩ 7 (prc_M_compareTwo hD hX 2 (Nat.le_refl _) σ x5 r46 hr46) (prg_M_compareTwo hts prw_731 (by have := hh; omega)) hX hXs hK hP hS (by decide) rfl rfl rfl rfl hl.1 (Nat.le_of_ble_eq_true rfl) prd_M_reckon_183 (fun H locs hP hS => ?_)
      refine lv_goto (tgt := 198) hx hb prd_M_reckon_186 (by decide) ?_
      refine lv_iinc (v := (x4 + 1)) (lv' := [(4, .int (x4 + 1)), (0, .ref (ad 7)), (1, .int x1), (3, .int x3), (5, .int x5), (6, .int x6)]) hx hb prd_M_reckon_198 hl (k := 3) rfl rfl (by decide) rfl (fun ls hl => ?_)
      refine lv_goto (tgt := 35) hx hb prd_M_reckon_201 (by decide) ?_
      exact Hk35 r46 x1 x3 (x4 + 1) _ hf _ _ _ hP hS (lv_sub hl [1, 2, 3, 0] rfl)
set_option maxHeartbeats 4000000 in
set_option maxRecDepth 100000 in
theorem prk_M_reckon_35 {l : Launch} {D : va_G} {ad : Nat → Nat} {dA : Nat → ClassId} {A : Nat → Prop} {t : Nat} {p : Program} {e : Env} {s : State} {m : MethodId} {args : Array Value} {below : List Frame} {meth : Method} {c : Code} {h : Nat} (hh : 4 ≤ h) (E : pr_cx prn_M prb_M_reckon 8 none D pr_cl prc_L ad dA A (prX t A) p s m args meth c) : ∀ n : Nat, ∀ (σ : pr_St) (x1 : Int32) (x3 : Int32) (x4 : Int32) (res : pr_St), some res = prf_M_reckon_35 n σ x1 x3 x4 → ∀ (H : Heap) (locs : List Loc) (ls : Array Slot), va_P D pr_cl (pr_w prc_L ad dA σ) H → va_S A s.heap H locs → lv_has ls 8 [(0, .ref (ad 7)), (1, .int x1), (3, .int x3), (4, .int x4)] → W p l e (pr_rm h) s m args below meth c H locs 0 0 (MQ below (pr_Qv D pr_cl prc_L ad dA A res) args s 0 0 A) (F0 m 35 ls []) := by
  obtain ⟨hx, hb, hml, hown, hts, hr, hlocks, hK, hD, hX, hXs⟩ := id E
  intro n
  induction n with
  | zero =>
    intro σ x1 x3 x4 res hf
    rw [prf_M_reckon_35] at hf
    cases hf
  | succ n ih =>
    intro σ x1 x3 x4 res hf H locs ls hP hS hl
    rw [prf_M_reckon_35] at hf
    refine lv_iload hx hb prd_M_reckon_35 (lv_at hl 3 rfl) ?_
    refine lv_iload_n hx hb prd_M_reckon_37 rfl (lv_at hl 2 rfl) ?_
    refine lv_icmp_ge (tgt := 204) hx hb prd_M_reckon_38 (by decide) (fun c47 => ?_) (fun c47 => ?_)
    · have hf := pr_it c47 hf
      exact pr_retv E hP hS (pr_so hf) prd_M_reckon_204
    · have hf := pr_ie c47 hf
      refine lv_aload_n hx hb prd_M_reckon_41 rfl (lv_at hl 0 rfl) ?_
      refine pr_geti (v := (σ.1 7 11)) hx hb hts prs_M hown hK hP 7 11 (by decide) rfl (hts _ prw_19) rfl rfl prd_M_reckon_42 ?_
      refine lv_if_ne (tgt := 204) hx hb prd_M_reckon_45 (by decide) (fun c48 => ?_) (fun c48 => ?_)
      · have hf := pr_ie c48 hf
        exact pr_retv E hP hS (pr_so hf) prd_M_reckon_204
      · have hf := pr_it c48 hf
        refine lv_aload_n hx hb prd_M_reckon_48 rfl (lv_at hl 0 rfl) ?_
        refine pr_getr (t := 2) hx hb hts prs_M hown hK hP 7 1 (by decide) rfl (hts _ prw_682) rfl prd_M_reckon_49 ?_
        refine lv_iload hx hb prd_M_reckon_52 (lv_at hl 3 rfl) ?_
        obtain ⟨r49, hr49, hf⟩ := pr_bi hf
        refine pr_callVr (rest := []) (r := r49) ⟨hx, hb, hml, hown, hts⟩ 2 (prc_G_operationAt hD hX 1 (Nat.le_refl _) σ x4 r49 hr49) (prg_G_operationAt hts prw_727 (by have := hh; omega)) hX hXs hK hP hS (by decide) rfl rfl rfl rfl hl.1 (Nat.le_of_ble_eq_true rfl) prd_M_reckon_54 (fun H locs hP hS => ?_)
        refine lv_istore (lv' := [(5, .int r49), (0, .ref (ad 7)), (1, .int x1), (3, .int x3), (4, .int x4)]) hx hb prd_M_reckon_57 hl (by decide) rfl (fun ls hl => ?_)
        refine lv_aload_n hx hb prd_M_reckon_59 rfl (lv_at hl 1 rfl) ?_
        refine pr_getr (t := 2) hx hb hts prs_M hown hK hP 7 1 (by decide) rfl (hts _ prw_682) rfl prd_M_reckon_60 ?_
        refine lv_iload hx hb prd_M_reckon_63 (lv_at hl 4 rfl) ?_
        obtain ⟨r50, hr50, hf⟩ := pr_bi hf
        refine pr_callVr (rest := []) (r := r50) ⟨hx, hb, hml, hown, hts⟩ 2 (prc_G_operandAt hD hX 1 (Nat.le_refl _) σ x4 r50 hr50) (prg_G_operandAt hts prw_728 (by have := hh; omega)) hX hXs hK hP hS (by decide) rfl rfl rfl rfl hl.1 (Nat.le_of_ble_eq_true rfl) prd_M_reckon_65 (fun H locs hP hS => ?_)
        refine lv_istore (lv' := [(6, .int r50), (5, .int r49), (0, .ref (ad 7)), (1, .int x1), (3, .int x3), (4, .int x4)]) hx hb prd_M_reckon_68 hl (by decide) rfl (fun ls hl => ?_)
        refine lv_iload hx hb prd_M_reckon_70 (lv_at hl 1 rfl) ?_
        refine lv_bipush (v := 32) hx hb prd_M_reckon_72 (by decide) ?_
        refine lv_icmp_eq (tgt := 84) hx hb prd_M_reckon_74 (by decide) (fun c51 => ?_) (fun c51 => ?_)
        · have hf := pr_it c51 hf
          exact prk_M_reckon_84 hh E ih σ x1 x3 x4 r49 r50 _ hf _ _ _ hP hS (lv_sub hl [2, 3, 4, 5, 1, 0] rfl)
        · have hf := pr_ie c51 hf
          refine lv_iload hx hb prd_M_reckon_77 (lv_at hl 1 rfl) ?_
          refine lv_bipush (v := 33) hx hb prd_M_reckon_79 (by decide) ?_
          refine lv_icmp_ne (tgt := 143) hx hb prd_M_reckon_81 (by decide) (fun c52 => ?_) (fun c52 => ?_)
          · have hf := pr_ie c52 hf
            refine lv_iload hx hb prd_M_reckon_143 (lv_at hl 1 rfl) ?_
            refine lv_bipush (v := 21) hx hb prd_M_reckon_145 (by decide) ?_
            refine lv_icmp_lt (tgt := 166) hx hb prd_M_reckon_147 (by decide) (fun c53 => ?_) (fun c53 => ?_)
            · have hf := pr_it c53 hf
              exact prk_M_reckon_166 hh E ih σ x1 x3 x4 r49 r50 _ hf _ _ _ hP hS (lv_sub hl [2, 3, 4, 5, 1, 0] rfl)
            · have hf := pr_ie c53 hf
              refine lv_iload hx hb prd_M_reckon_150 (lv_at hl 1 rfl) ?_
              refine lv_bipush (v := 25) hx hb prd_M_reckon_152 (by decide) ?_
              refine lv_icmp_gt (tgt := 166) hx hb prd_M_reckon_154 (by decide) (fun c54 => ?_) (fun c54 => ?_)
              · have hf := pr_it c54 hf
                exact prk_M_reckon_166 hh E ih σ x1 x3 x4 r49 r50 _ hf _ _ _ hP hS (lv_sub hl [2, 3, 4, 5, 1, 0] rfl)
              · have hf := pr_ie c54 hf
                refine lv_aload_n hx hb prd_M_reckon_157 rfl (lv_at hl 2 rfl) ?_
                refine lv_iload hx hb prd_M_reckon_158 (lv_at hl 1 rfl) ?_
                obtain ⟨r55, hr55, hf⟩ := pr_bi hf
                refine pr_callVv (rest := []) (res := r55) ⟨hx, hb, hml, hown, hts⟩ 7 (prc_M_reckonTwo hD hX 2 (Nat.le_refl _) σ r49 r55 hr55) (prg_M_reckonTwo hts prw_729 (by have := hh; omega)) hX hXs hK hP hS (by decide) rfl rfl rfl rfl hl.1 (Nat.le_of_ble_eq_true rfl) prd_M_reckon_160 (fun H locs hP hS => ?_)
                refine lv_goto (tgt := 198) hx hb prd_M_reckon_163 (by decide) ?_
                refine lv_iinc (v := (x4 + 1)) (lv' := [(4, .int (x4 + 1)), (6, .int r50), (5, .int r49), (0, .ref (ad 7)), (1, .int x1), (3, .int x3)]) hx hb prd_M_reckon_198 hl (k := 5) rfl rfl (by decide) rfl (fun ls hl => ?_)
                refine lv_goto (tgt := 35) hx hb prd_M_reckon_201 (by decide) ?_
                exact ih r55 x1 x3 (x4 + 1) _ hf _ _ _ hP hS (lv_sub hl [3, 4, 5, 0] rfl)
          · have hf := pr_it c52 hf
            exact prk_M_reckon_84 hh E ih σ x1 x3 x4 r49 r50 _ hf _ _ _ hP hS (lv_sub hl [2, 3, 4, 5, 1, 0] rfl)
set_option maxHeartbeats 4000000 in
set_option maxRecDepth 100000 in
theorem prc_M_reckon {l : Launch} {D : va_G} {ad : Nat → Nat} {dA : Nat → ClassId} {A : Nat → Prop} {t : Nat} (hD : ∀ σ : pr_St, va_D A (pr_w prc_L ad dA σ)) (hX : pr_Xok A (prX t A)) (h : Nat) (hh : 4 ≤ h) (σ : pr_St) (x1 : Int32) (res : pr_St) (hf : prf_M_reckon σ x1 = some res) : Met l pry_M_reckon (Cond.code pry_M_reckon prb_M_reckon 8 none :: pr_U) (pr_rm h) (pr_Pc (prX t A) D pr_cl prc_L ad dA [.ref (ad 7), .int x1] σ) (pr_Qv D pr_cl prc_L ad dA A res) 0 0 A := by
  refine pr_entry (cc := prb_M_reckon) (maxL := 8) (ret := none) (by decide) (Nat.le_of_ble_eq_true rfl) hD hX ?_
  intro p e s m args below meth c E H locs hP hS ls hl
  have hl : lv_has ls 8 [(0, .ref (ad 7)), (1, .int x1)] := hl
  have hf := hf.symm
  unfold prf_M_reckon at hf
  obtain ⟨hx, hb, hml, hown, hts, hr, hlocks, hK, hD, hX, hXs⟩ := id E
  refine lv_aload_n hx hb prd_M_reckon_0 rfl (lv_at hl 0 rfl) ?_
  refine lv_iconst (v := 0) hx hb prd_M_reckon_1 (by decide) ?_
  refine pr_puti (ty := .int) hx hb hts prs_M prq_M prtt_M prtn_M hown hK hP (hD _) hS 7 13 (by decide) rfl (hts _ prw_651) rfl rfl (prtt_M 13 (by decide)) rfl rfl prd_M_reckon_2 (fun H locs hP hS => ?_)
  refine lv_aload_n hx hb prd_M_reckon_5 rfl (lv_at hl 0 rfl) ?_
  refine pr_getr (t := 4) hx hb hts prs_M hown hK hP 7 2 (by decide) rfl (hts _ prw_680) rfl prd_M_reckon_6 ?_
  refine lv_iload_n hx hb prd_M_reckon_9 rfl (lv_at hl 1 rfl) ?_
  obtain ⟨r56, hr56, hf⟩ := pr_bi hf
  refine pr_callVr (rest := []) (r := r56) ⟨hx, hb, hml, hown, hts⟩ 4 (prc_O_statementOf hD hX 1 (Nat.le_refl _) (pr_sI σ 7 13 0) x1 r56 hr56) (prg_O_statementOf hts prw_725 (by have := hh; omega)) hX hXs hK hP hS (by decide) rfl rfl rfl rfl hl.1 (Nat.le_of_ble_eq_true rfl) prd_M_reckon_10 (fun H locs hP hS => ?_)
  refine lv_istore_n (lv' := [(2, .int r56), (0, .ref (ad 7)), (1, .int x1)]) hx hb prd_M_reckon_13 rfl hl (by decide) rfl (fun ls hl => ?_)
  refine lv_aload_n hx hb prd_M_reckon_14 rfl (lv_at hl 1 rfl) ?_
  refine pr_getr (t := 2) hx hb hts prs_M hown hK hP 7 1 (by decide) rfl (hts _ prw_682) rfl prd_M_reckon_15 ?_
  refine lv_iload_n hx hb prd_M_reckon_18 rfl (lv_at hl 0 rfl) ?_
  refine lv_iconst (v := 1) hx hb prd_M_reckon_19 (by decide) ?_
  refine lv_iadd hx hb prd_M_reckon_20 ?_
  obtain ⟨r57, hr57, hf⟩ := pr_bi hf
  refine pr_callVr (rest := []) (r := r57) ⟨hx, hb, hml, hown, hts⟩ 2 (prc_G_firstOperationOf hD hX 1 (Nat.le_refl _) (pr_sI σ 7 13 0) (r56 + 1) r57 hr57) (prg_G_firstOperationOf hts prw_726 (by have := hh; omega)) hX hXs hK hP hS (by decide) rfl rfl rfl rfl hl.1 (Nat.le_of_ble_eq_true rfl) prd_M_reckon_21 (fun H locs hP hS => ?_)
  refine lv_istore_n (lv' := [(3, .int r57), (2, .int r56), (0, .ref (ad 7)), (1, .int x1)]) hx hb prd_M_reckon_24 rfl hl (by decide) rfl (fun ls hl => ?_)
  refine lv_aload_n hx hb prd_M_reckon_25 rfl (lv_at hl 2 rfl) ?_
  refine pr_getr (t := 2) hx hb hts prs_M hown hK hP 7 1 (by decide) rfl (hts _ prw_682) rfl prd_M_reckon_26 ?_
  refine lv_iload_n hx hb prd_M_reckon_29 rfl (lv_at hl 1 rfl) ?_
  obtain ⟨r58, hr58, hf⟩ := pr_bi hf
  refine pr_callVr (rest := []) (r := r58) ⟨hx, hb, hml, hown, hts⟩ 2 (prc_G_firstOperationOf hD hX 1 (Nat.le_refl _) (pr_sI σ 7 13 0) r56 r58 hr58) (prg_G_firstOperationOf hts prw_726 (by have := hh; omega)) hX hXs hK hP hS (by decide) rfl rfl rfl rfl hl.1 (Nat.le_of_ble_eq_true rfl) prd_M_reckon_30 (fun H locs hP hS => ?_)
  refine lv_istore (lv' := [(4, .int r58), (3, .int r57), (2, .int r56), (0, .ref (ad 7)), (1, .int x1)]) hx hb prd_M_reckon_33 hl (by decide) rfl (fun ls hl => ?_)
  exact prk_M_reckon_35 hh E pr_FU (pr_sI σ 7 13 0) x1 r57 r58 _ hf _ _ _ hP hS (lv_sub hl [3, 4, 1, 0] rfl)
-- M_firstToken
set_option maxHeartbeats 4000000 in
set_option maxRecDepth 100000 in
theorem prc_M_firstToken {l : Launch} {D : va_G} {ad : Nat → Nat} {dA : Nat → ClassId} {A : Nat → Prop} {t : Nat} (hD : ∀ σ : pr_St, va_D A (pr_w prc_L ad dA σ)) (hX : pr_Xok A (prX t A)) (h : Nat) (hh : 2 ≤ h) (σ : pr_St) (x1 : Int32) (res : Int32) (hf : prf_M_firstToken σ x1 = some res) : Met l pry_M_firstToken (Cond.code pry_M_firstToken prb_M_firstToken 2 (some .int) :: pr_U) (pr_rm h) (pr_Pc (prX t A) D pr_cl prc_L ad dA [.ref (ad 7), .int x1] σ) (pr_Qi D pr_cl prc_L ad dA A (res, σ)) 0 0 A := by
  refine pr_entry (cc := prb_M_firstToken) (maxL := 2) (ret := (some .int)) (by decide) (Nat.le_of_ble_eq_true rfl) hD hX ?_
  intro p e s m args below meth c E H locs hP hS ls hl
  have hl : lv_has ls 2 [(0, .ref (ad 7)), (1, .int x1)] := hl
  have hf := hf.symm
  unfold prf_M_firstToken at hf
  obtain ⟨hx, hb, hml, hown, hts, hr, hlocks, hK, hD, hX, hXs⟩ := id E
  refine lv_aload_n hx hb prd_M_firstToken_0 rfl (lv_at hl 0 rfl) ?_
  refine pr_getr (t := 2) hx hb hts prs_M hown hK hP 7 1 (by decide) rfl (hts _ prw_682) rfl prd_M_firstToken_1 ?_
  refine lv_aload_n hx hb prd_M_firstToken_4 rfl (lv_at hl 0 rfl) ?_
  refine pr_getr (t := 4) hx hb hts prs_M hown hK hP 7 2 (by decide) rfl (hts _ prw_680) rfl prd_M_firstToken_5 ?_
  refine lv_iload_n hx hb prd_M_firstToken_8 rfl (lv_at hl 1 rfl) ?_
  obtain ⟨r3, hr3, hf⟩ := pr_bi hf
  refine pr_callVr (rest := [.ref (ad 2)]) (r := r3) ⟨hx, hb, hml, hown, hts⟩ 4 (prc_O_statementOf hD hX 1 (Nat.le_refl _) σ x1 r3 hr3) (prg_O_statementOf hts prw_725 (by have := hh; omega)) hX hXs hK hP hS (by decide) rfl rfl rfl rfl hl.1 (Nat.le_of_ble_eq_true rfl) prd_M_firstToken_9 (fun H locs hP hS => ?_)
  obtain ⟨r4, hr4, hf⟩ := pr_bi hf
  refine pr_callVr (rest := []) (r := r4) ⟨hx, hb, hml, hown, hts⟩ 2 (prc_G_firstTokenOf hD hX 1 (Nat.le_refl _) σ r3 r4 hr4) (prg_G_firstTokenOf hts prw_739 (by have := hh; omega)) hX hXs hK hP hS (by decide) rfl rfl rfl rfl hl.1 (Nat.le_of_ble_eq_true rfl) prd_M_firstToken_12 (fun H locs hP hS => ?_)
  exact pr_reti E hP hS (pr_ro hf) prd_M_firstToken_15
-- M_beginArray
set_option maxHeartbeats 4000000 in
set_option maxRecDepth 100000 in
theorem prk_M_beginArray_23 {l : Launch} {D : va_G} {ad : Nat → Nat} {dA : Nat → ClassId} {A : Nat → Prop} {t : Nat} {p : Program} {e : Env} {s : State} {m : MethodId} {args : Array Value} {below : List Frame} {meth : Method} {c : Code} {h : Nat} (hh : 0 ≤ h) (E : pr_cx prn_M prb_M_beginArray 4 none D pr_cl prc_L ad dA A (prX t A) p s m args meth c) : ∀ n : Nat, ∀ (σ : pr_St) (x1 : Int32) (x3 : Int32) (res : pr_St), some res = prf_M_beginArray_23 n σ x1 x3 → ∀ (H : Heap) (locs : List Loc) (ls : Array Slot), va_P D pr_cl (pr_w prc_L ad dA σ) H → va_S A s.heap H locs → lv_has ls 4 [(0, .ref (ad 7)), (1, .int x1), (3, .int x3)] → W p l e (pr_rm h) s m args below meth c H locs 0 0 (MQ below (pr_Qv D pr_cl prc_L ad dA A res) args s 0 0 A) (F0 m 23 ls []) := by
  obtain ⟨hx, hb, hml, hown, hts, hr, hlocks, hK, hD, hX, hXs⟩ := id E
  intro n
  induction n with
  | zero =>
    intro σ x1 x3 res hf
    rw [prf_M_beginArray_23] at hf
    cases hf
  | succ n ih =>
    intro σ x1 x3 res hf H locs ls hP hS hl
    rw [prf_M_beginArray_23] at hf
    refine lv_iload_n hx hb prd_M_beginArray_23 rfl (lv_at hl 2 rfl) ?_
    refine lv_bipush (v := 64) hx hb prd_M_beginArray_24 (by decide) ?_
    refine lv_icmp_ge (tgt := 47) hx hb prd_M_beginArray_26 (by decide) (fun c6 => ?_) (fun c6 => ?_)
    · have hf := pr_it c6 hf
      exact pr_retv E hP hS (pr_so hf) prd_M_beginArray_47
    · have hf := pr_ie c6 hf
      refine lv_aload_n hx hb prd_M_beginArray_29 rfl (lv_at hl 0 rfl) ?_
      refine pr_getr (t := 50) hx hb hts prs_M hown hK hP 7 7 (by decide) rfl (hts _ prw_700) rfl prd_M_beginArray_30 ?_
      refine lv_iload_n hx hb prd_M_beginArray_33 rfl (lv_at hl 1 rfl) ?_
      refine lv_bipush (v := 64) hx hb prd_M_beginArray_34 (by decide) ?_
      refine lv_imul hx hb prd_M_beginArray_36 ?_
      refine lv_iload_n hx hb prd_M_beginArray_37 rfl (lv_at hl 2 rfl) ?_
      refine lv_iadd hx hb prd_M_beginArray_38 ?_
      refine lv_iconst (v := 0) hx hb prd_M_beginArray_39 (by decide) ?_
      obtain ⟨hi7, hf⟩ := pr_ck_in hf
      refine pr_iast (f := (σ.2.1 50)) hx hb hK hP (hD _) hS 50 (by decide) rfl hi7 rfl prd_M_beginArray_40 (fun H locs hP hS => ?_)
      refine lv_iinc (v := (x3 + 1)) (lv' := [(3, .int (x3 + 1)), (0, .ref (ad 7)), (1, .int x1)]) hx hb prd_M_beginArray_41 hl (k := 2) rfl rfl (by decide) rfl (fun ls hl => ?_)
      refine lv_goto (tgt := 23) hx hb prd_M_beginArray_44 (by decide) ?_
      exact ih (pr_sA σ 50 (upd (σ.2.1 50) ((x1 * 64) + x3).toNatClampNeg 0)) x1 (x3 + 1) _ hf _ _ _ hP hS (lv_sub hl [1, 2, 0] rfl)
set_option maxHeartbeats 4000000 in
set_option maxRecDepth 100000 in
theorem prc_M_beginArray {l : Launch} {D : va_G} {ad : Nat → Nat} {dA : Nat → ClassId} {A : Nat → Prop} {t : Nat} (hD : ∀ σ : pr_St, va_D A (pr_w prc_L ad dA σ)) (hX : pr_Xok A (prX t A)) (h : Nat) (hh : 0 ≤ h) (σ : pr_St) (x1 : Int32) (x2 : Int32) (res : pr_St) (hf : prf_M_beginArray σ x1 x2 = some res) : Met l pry_M_beginArray (Cond.code pry_M_beginArray prb_M_beginArray 4 none :: pr_U) (pr_rm h) (pr_Pc (prX t A) D pr_cl prc_L ad dA [.ref (ad 7), .int x1, .int x2] σ) (pr_Qv D pr_cl prc_L ad dA A res) 0 0 A := by
  refine pr_entry (cc := prb_M_beginArray) (maxL := 4) (ret := none) (by decide) (Nat.le_of_ble_eq_true rfl) hD hX ?_
  intro p e s m args below meth c E H locs hP hS ls hl
  have hl : lv_has ls 4 [(0, .ref (ad 7)), (1, .int x1), (2, .int x2)] := hl
  have hf := hf.symm
  unfold prf_M_beginArray at hf
  obtain ⟨hx, hb, hml, hown, hts, hr, hlocks, hK, hD, hX, hXs⟩ := id E
  refine lv_iload_n hx hb prd_M_beginArray_0 rfl (lv_at hl 1 rfl) ?_
  refine lv_if_lt (tgt := 13) hx hb prd_M_beginArray_1 (by decide) (fun c8 => ?_) (fun c8 => ?_)
  · have hf := pr_it c8 hf
    exact pr_retv E hP hS (pr_so hf) prd_M_beginArray_13
  · have hf := pr_ie c8 hf
    refine lv_iload_n hx hb prd_M_beginArray_4 rfl (lv_at hl 1 rfl) ?_
    refine lv_aload_n hx hb prd_M_beginArray_5 rfl (lv_at hl 0 rfl) ?_
    refine pr_getr (t := 49) hx hb hts prs_M hown hK hP 7 6 (by decide) rfl (hts _ prw_691) rfl prd_M_beginArray_6 ?_
    refine pr_alen (v := 6) hx hb hK hP 49 (by decide) (by decide) prd_M_beginArray_9 ?_
    refine lv_icmp_lt (tgt := 14) hx hb prd_M_beginArray_10 (by decide) (fun c9 => ?_) (fun c9 => ?_)
    · have hf := pr_it c9 hf
      refine lv_aload_n hx hb prd_M_beginArray_14 rfl (lv_at hl 0 rfl) ?_
      refine pr_getr (t := 49) hx hb hts prs_M hown hK hP 7 6 (by decide) rfl (hts _ prw_691) rfl prd_M_beginArray_15 ?_
      refine lv_iload_n hx hb prd_M_beginArray_18 rfl (lv_at hl 1 rfl) ?_
      refine lv_iload_n hx hb prd_M_beginArray_19 rfl (lv_at hl 2 rfl) ?_
      obtain ⟨hi10, hf⟩ := pr_ck_in hf
      refine pr_iast (f := (σ.2.1 49)) hx hb hK hP (hD _) hS 49 (by decide) rfl hi10 rfl prd_M_beginArray_20 (fun H locs hP hS => ?_)
      refine lv_iconst (v := 0) hx hb prd_M_beginArray_21 (by decide) ?_
      refine lv_istore_n (lv' := [(3, .int 0), (0, .ref (ad 7)), (1, .int x1), (2, .int x2)]) hx hb prd_M_beginArray_22 rfl hl (by decide) rfl (fun ls hl => ?_)
      exact prk_M_beginArray_23 hh E pr_FU (pr_sA σ 49 (upd (σ.2.1 49) x1.toNatClampNeg x2)) x1 0 _ hf _ _ _ hP hS (lv_sub hl [1, 2, 0] rfl)
    · have hf := pr_ie c9 hf
      exact pr_retv E hP hS (pr_so hf) prd_M_beginArray_13
-- M_setNumber
set_option maxHeartbeats 4000000 in
set_option maxRecDepth 100000 in
theorem prc_M_setNumber {l : Launch} {D : va_G} {ad : Nat → Nat} {dA : Nat → ClassId} {A : Nat → Prop} {t : Nat} (hD : ∀ σ : pr_St, va_D A (pr_w prc_L ad dA σ)) (hX : pr_Xok A (prX t A)) (h : Nat) (hh : 0 ≤ h) (σ : pr_St) (x1 : Int32) (x2 : Int32) (res : pr_St) (hf : prf_M_setNumber σ x1 x2 = some res) : Met l pry_M_setNumber (Cond.code pry_M_setNumber prb_M_setNumber 3 none :: pr_U) (pr_rm h) (pr_Pc (prX t A) D pr_cl prc_L ad dA [.ref (ad 7), .int x1, .int x2] σ) (pr_Qv D pr_cl prc_L ad dA A res) 0 0 A := by
  refine pr_entry (cc := prb_M_setNumber) (maxL := 3) (ret := none) (by decide) (Nat.le_of_ble_eq_true rfl) hD hX ?_
  intro p e s m args below meth c E H locs hP hS ls hl
  have hl : lv_has ls 3 [(0, .ref (ad 7)), (1, .int x1), (2, .int x2)] := hl
  have hf := hf.symm
  unfold prf_M_setNumber at hf
  obtain ⟨hx, hb, hml, hown, hts, hr, hlocks, hK, hD, hX, hXs⟩ := id E
  refine lv_iload_n hx hb prd_M_setNumber_0 rfl (lv_at hl 1 rfl) ?_
  refine lv_if_lt (tgt := 20) hx hb prd_M_setNumber_1 (by decide) (fun c4 => ?_) (fun c4 => ?_)
  · have hf := pr_it c4 hf
    exact pr_retv E hP hS (pr_so hf) prd_M_setNumber_20
  · have hf := pr_ie c4 hf
    refine lv_iload_n hx hb prd_M_setNumber_4 rfl (lv_at hl 1 rfl) ?_
    refine lv_aload_n hx hb prd_M_setNumber_5 rfl (lv_at hl 0 rfl) ?_
    refine pr_getr (t := 48) hx hb hts prs_M hown hK hP 7 5 (by decide) rfl (hts _ prw_687) rfl prd_M_setNumber_6 ?_
    refine pr_alen (v := 12) hx hb hK hP 48 (by decide) (by decide) prd_M_setNumber_9 ?_
    refine lv_icmp_ge (tgt := 20) hx hb prd_M_setNumber_10 (by decide) (fun c5 => ?_) (fun c5 => ?_)
    · have hf := pr_it c5 hf
      exact pr_retv E hP hS (pr_so hf) prd_M_setNumber_20
    · have hf := pr_ie c5 hf
      refine lv_aload_n hx hb prd_M_setNumber_13 rfl (lv_at hl 0 rfl) ?_
      refine pr_getr (t := 48) hx hb hts prs_M hown hK hP 7 5 (by decide) rfl (hts _ prw_687) rfl prd_M_setNumber_14 ?_
      refine lv_iload_n hx hb prd_M_setNumber_17 rfl (lv_at hl 1 rfl) ?_
      refine lv_iload_n hx hb prd_M_setNumber_18 rfl (lv_at hl 2 rfl) ?_
      obtain ⟨hi6, hf⟩ := pr_ck_in hf
      refine pr_iast (f := (σ.2.1 48)) hx hb hK hP (hD _) hS 48 (by decide) rfl hi6 rfl prd_M_setNumber_19 (fun H locs hP hS => ?_)
      exact pr_retv E hP hS (pr_so hf) prd_M_setNumber_20
-- M_beginVariable
set_option maxHeartbeats 4000000 in
set_option maxRecDepth 100000 in
theorem prc_M_beginVariable {l : Launch} {D : va_G} {ad : Nat → Nat} {dA : Nat → ClassId} {A : Nat → Prop} {t : Nat} (hD : ∀ σ : pr_St, va_D A (pr_w prc_L ad dA σ)) (hX : pr_Xok A (prX t A)) (h : Nat) (hh : 3 ≤ h) (σ : pr_St) (x1 : Int32) (res : pr_St) (hf : prf_M_beginVariable σ x1 = some res) : Met l pry_M_beginVariable (Cond.code pry_M_beginVariable prb_M_beginVariable 3 none :: pr_U) (pr_rm h) (pr_Pc (prX t A) D pr_cl prc_L ad dA [.ref (ad 7), .int x1] σ) (pr_Qv D pr_cl prc_L ad dA A res) 0 0 A := by
  refine pr_entry (cc := prb_M_beginVariable) (maxL := 3) (ret := none) (by decide) (Nat.le_of_ble_eq_true rfl) hD hX ?_
  intro p e s m args below meth c E H locs hP hS ls hl
  have hl : lv_has ls 3 [(0, .ref (ad 7)), (1, .int x1)] := hl
  have hf := hf.symm
  unfold prf_M_beginVariable at hf
  obtain ⟨hx, hb, hml, hown, hts, hr, hlocks, hK, hD, hX, hXs⟩ := id E
  refine lv_aload_n hx hb prd_M_beginVariable_0 rfl (lv_at hl 0 rfl) ?_
  refine lv_iload_n hx hb prd_M_beginVariable_1 rfl (lv_at hl 1 rfl) ?_
  obtain ⟨r12, hr12, hf⟩ := pr_bi hf
  refine pr_callVr (rest := []) (r := r12) ⟨hx, hb, hml, hown, hts⟩ 7 (prc_M_firstToken hD hX 2 (Nat.le_refl _) σ x1 r12 hr12) (prg_M_firstToken hts prw_749 (by have := hh; omega)) hX hXs hK hP hS (by decide) rfl rfl rfl rfl hl.1 (Nat.le_of_ble_eq_true rfl) prd_M_beginVariable_2 (fun H locs hP hS => ?_)
  refine lv_istore_n (lv' := [(2, .int r12), (0, .ref (ad 7)), (1, .int x1)]) hx hb prd_M_beginVariable_5 rfl hl (by decide) rfl (fun ls hl => ?_)
  refine lv_aload_n hx hb prd_M_beginVariable_6 rfl (lv_at hl 1 rfl) ?_
  refine pr_getr (t := 1) hx hb hts prs_M hown hK hP 7 0 (by decide) rfl (hts _ prw_709) rfl prd_M_beginVariable_7 ?_
  refine lv_iload_n hx hb prd_M_beginVariable_10 rfl (lv_at hl 0 rfl) ?_
  refine lv_iconst (v := 2) hx hb prd_M_beginVariable_11 (by decide) ?_
  refine lv_iadd hx hb prd_M_beginVariable_12 ?_
  obtain ⟨r13, hr13, hf⟩ := pr_bi hf
  refine pr_callVr (rest := []) (r := r13) ⟨hx, hb, hml, hown, hts⟩ 1 (prc_T_kindAt hD hX 0 (Nat.le_refl _) σ (r12 + 2) r13 hr13) (prg_T_kindAt hts prw_710 (by have := hh; omega)) hX hXs hK hP hS (by decide) rfl rfl rfl rfl hl.1 (Nat.le_of_ble_eq_true rfl) prd_M_beginVariable_13 (fun H locs hP hS => ?_)
  refine lv_bipush (v := 16) hx hb prd_M_beginVariable_16 (by decide) ?_
  refine lv_icmp_ne (tgt := 46) hx hb prd_M_beginVariable_18 (by decide) (fun c14 => ?_) (fun c14 => ?_)
  · have hf := pr_ie c14 hf
    refine lv_aload_n hx hb prd_M_beginVariable_46 rfl (lv_at hl 1 rfl) ?_
    refine lv_aload_n hx hb prd_M_beginVariable_47 rfl (lv_at hl 1 rfl) ?_
    refine pr_getr (t := 4) hx hb hts prs_M hown hK hP 7 2 (by decide) rfl (hts _ prw_680) rfl prd_M_beginVariable_48 ?_
    refine lv_iload_n hx hb prd_M_beginVariable_51 rfl (lv_at hl 2 rfl) ?_
    obtain ⟨r15, hr15, hf⟩ := pr_bi hf
    refine pr_callVr (rest := [.ref (ad 7)]) (r := r15) ⟨hx, hb, hml, hown, hts⟩ 4 (prc_O_numbersAt hD hX 1 (Nat.le_refl _) σ x1 r15 hr15) (prg_O_numbersAt hts prw_750 (by have := hh; omega)) hX hXs hK hP hS (by decide) rfl rfl rfl rfl hl.1 (Nat.le_of_ble_eq_true rfl) prd_M_beginVariable_52 (fun H locs hP hS => ?_)
    refine lv_aload_n hx hb prd_M_beginVariable_55 rfl (lv_at hl 1 rfl) ?_
    refine pr_geti (v := (σ.1 7 13)) hx hb hts prs_M hown hK hP 7 13 (by decide) rfl (hts _ prw_651) rfl rfl prd_M_beginVariable_56 ?_
    refine lv_if_le (tgt := 70) hx hb prd_M_beginVariable_59 (by decide) (fun c16 => ?_) (fun c16 => ?_)
    · have hf := pr_it c16 hf
      refine lv_iconst (v := 0) hx hb prd_M_beginVariable_70 (by decide) ?_
      obtain ⟨r17, hr17, hf⟩ := pr_bi hf
      refine pr_callVv (rest := []) (res := r17) ⟨hx, hb, hml, hown, hts⟩ 7 (prc_M_setNumber hD hX 0 (Nat.le_refl _) σ r15 0 r17 hr17) (prg_M_setNumber hts prw_751 (by have := hh; omega)) hX hXs hK hP hS (by decide) rfl rfl rfl rfl hl.1 (Nat.le_of_ble_eq_true rfl) prd_M_beginVariable_71 (fun H locs hP hS => ?_)
      exact pr_retv E hP hS (pr_so hf) prd_M_beginVariable_74
    · have hf := pr_ie c16 hf
      refine lv_aload_n hx hb prd_M_beginVariable_62 rfl (lv_at hl 1 rfl) ?_
      refine lv_iconst (v := 0) hx hb prd_M_beginVariable_63 (by decide) ?_
      obtain ⟨r18, hr18, hf⟩ := pr_bi hf
      refine pr_callVr (rest := [.int r15, .ref (ad 7)]) (r := r18) ⟨hx, hb, hml, hown, hts⟩ 7 (prc_M_waitingAt hD hX 0 (Nat.le_refl _) σ 0 r18 hr18) (prg_M_waitingAt hts prw_695 (by have := hh; omega)) hX hXs hK hP hS (by decide) rfl rfl rfl rfl hl.1 (Nat.le_of_ble_eq_true rfl) prd_M_beginVariable_64 (fun H locs hP hS => ?_)
      refine lv_goto (tgt := 71) hx hb prd_M_beginVariable_67 (by decide) ?_
      obtain ⟨r19, hr19, hf⟩ := pr_bi hf
      refine pr_callVv (rest := []) (res := r19) ⟨hx, hb, hml, hown, hts⟩ 7 (prc_M_setNumber hD hX 0 (Nat.le_refl _) σ r15 r18 r19 hr19) (prg_M_setNumber hts prw_751 (by have := hh; omega)) hX hXs hK hP hS (by decide) rfl rfl rfl rfl hl.1 (Nat.le_of_ble_eq_true rfl) prd_M_beginVariable_71 (fun H locs hP hS => ?_)
      exact pr_retv E hP hS (pr_so hf) prd_M_beginVariable_74
  · have hf := pr_it c14 hf
    refine lv_aload_n hx hb prd_M_beginVariable_21 rfl (lv_at hl 1 rfl) ?_
    refine lv_aload_n hx hb prd_M_beginVariable_22 rfl (lv_at hl 1 rfl) ?_
    refine pr_getr (t := 4) hx hb hts prs_M hown hK hP 7 2 (by decide) rfl (hts _ prw_680) rfl prd_M_beginVariable_23 ?_
    refine lv_iload_n hx hb prd_M_beginVariable_26 rfl (lv_at hl 2 rfl) ?_
    obtain ⟨r20, hr20, hf⟩ := pr_bi hf
    refine pr_callVr (rest := [.ref (ad 7)]) (r := r20) ⟨hx, hb, hml, hown, hts⟩ 4 (prc_O_arraysAt hD hX 1 (Nat.le_refl _) σ x1 r20 hr20) (prg_O_arraysAt hts prw_752 (by have := hh; omega)) hX hXs hK hP hS (by decide) rfl rfl rfl rfl hl.1 (Nat.le_of_ble_eq_true rfl) prd_M_beginVariable_27 (fun H locs hP hS => ?_)
    refine lv_aload_n hx hb prd_M_beginVariable_30 rfl (lv_at hl 1 rfl) ?_
    refine pr_getr (t := 1) hx hb hts prs_M hown hK hP 7 0 (by decide) rfl (hts _ prw_709) rfl prd_M_beginVariable_31 ?_
    refine lv_iload_n hx hb prd_M_beginVariable_34 rfl (lv_at hl 0 rfl) ?_
    refine lv_iconst (v := 3) hx hb prd_M_beginVariable_35 (by decide) ?_
    refine lv_iadd hx hb prd_M_beginVariable_36 ?_
    obtain ⟨r21, hr21, hf⟩ := pr_bi hf
    refine pr_callVr (rest := [.int r20, .ref (ad 7)]) (r := r21) ⟨hx, hb, hml, hown, hts⟩ 1 (prc_T_valueAt hD hX 0 (Nat.le_refl _) σ (r12 + 3) r21 hr21) (prg_T_valueAt hts prw_718 (by have := hh; omega)) hX hXs hK hP hS (by decide) rfl rfl rfl rfl hl.1 (Nat.le_of_ble_eq_true rfl) prd_M_beginVariable_37 (fun H locs hP hS => ?_)
    obtain ⟨r22, hr22, hf⟩ := pr_bi hf
    refine pr_callVv (rest := []) (res := r22) ⟨hx, hb, hml, hown, hts⟩ 7 (prc_M_beginArray hD hX 0 (Nat.le_refl _) σ r20 r21 r22 hr22) (prg_M_beginArray hts prw_753 (by have := hh; omega)) hX hXs hK hP hS (by decide) rfl rfl rfl rfl hl.1 (Nat.le_of_ble_eq_true rfl) prd_M_beginVariable_40 (fun H locs hP hS => ?_)
    refine lv_goto (tgt := 74) hx hb prd_M_beginVariable_43 (by decide) ?_
    exact pr_retv E hP hS (pr_so hf) prd_M_beginVariable_74
-- M_setPlace
set_option maxHeartbeats 4000000 in
set_option maxRecDepth 100000 in
theorem prc_M_setPlace {l : Launch} {D : va_G} {ad : Nat → Nat} {dA : Nat → ClassId} {A : Nat → Prop} {t : Nat} (hD : ∀ σ : pr_St, va_D A (pr_w prc_L ad dA σ)) (hX : pr_Xok A (prX t A)) (h : Nat) (hh : 1 ≤ h) (σ : pr_St) (x1 : Int32) (x2 : Int32) (x3 : Int32) (res : pr_St) (hf : prf_M_setPlace σ x1 x2 x3 = some res) : Met l pry_M_setPlace (Cond.code pry_M_setPlace prb_M_setPlace 4 none :: pr_U) (pr_rm h) (pr_Pc (prX t A) D pr_cl prc_L ad dA [.ref (ad 7), .int x1, .int x2, .int x3] σ) (pr_Qv D pr_cl prc_L ad dA A res) 0 0 A := by
  refine pr_entry (cc := prb_M_setPlace) (maxL := 4) (ret := none) (by decide) (Nat.le_of_ble_eq_true rfl) hD hX ?_
  intro p e s m args below meth c E H locs hP hS ls hl
  have hl : lv_has ls 4 [(0, .ref (ad 7)), (1, .int x1), (2, .int x2), (3, .int x3)] := hl
  have hf := hf.symm
  unfold prf_M_setPlace at hf
  obtain ⟨hx, hb, hml, hown, hts, hr, hlocks, hK, hD, hX, hXs⟩ := id E
  refine lv_aload_n hx hb prd_M_setPlace_0 rfl (lv_at hl 0 rfl) ?_
  refine lv_iload_n hx hb prd_M_setPlace_1 rfl (lv_at hl 1 rfl) ?_
  refine lv_iload_n hx hb prd_M_setPlace_2 rfl (lv_at hl 2 rfl) ?_
  obtain ⟨r4, hr4, hf⟩ := pr_bi hf
  refine pr_callVr (rest := []) (r := r4) ⟨hx, hb, hml, hown, hts⟩ 7 (prc_M_hasPlace hD hX 0 (Nat.le_refl _) σ x1 x2 r4 hr4) (prg_M_hasPlace hts prw_696 (by have := hh; omega)) hX hXs hK hP hS (by decide) rfl rfl rfl rfl hl.1 (Nat.le_of_ble_eq_true rfl) prd_M_setPlace_3 (fun H locs hP hS => ?_)
  refine lv_if_eq (tgt := 21) hx hb prd_M_setPlace_6 (by decide) (fun c5 => ?_) (fun c5 => ?_)
  · have hf := pr_it c5 hf
    exact pr_retv E hP hS (pr_so hf) prd_M_setPlace_21
  · have hf := pr_ie c5 hf
    refine lv_aload_n hx hb prd_M_setPlace_9 rfl (lv_at hl 0 rfl) ?_
    refine pr_getr (t := 50) hx hb hts prs_M hown hK hP 7 7 (by decide) rfl (hts _ prw_700) rfl prd_M_setPlace_10 ?_
    refine lv_iload_n hx hb prd_M_setPlace_13 rfl (lv_at hl 1 rfl) ?_
    refine lv_bipush (v := 64) hx hb prd_M_setPlace_14 (by decide) ?_
    refine lv_imul hx hb prd_M_setPlace_16 ?_
    refine lv_iload_n hx hb prd_M_setPlace_17 rfl (lv_at hl 2 rfl) ?_
    refine lv_iadd hx hb prd_M_setPlace_18 ?_
    refine lv_iload_n hx hb prd_M_setPlace_19 rfl (lv_at hl 3 rfl) ?_
    obtain ⟨hi6, hf⟩ := pr_ck_in hf
    refine pr_iast (f := (σ.2.1 50)) hx hb hK hP (hD _) hS 50 (by decide) rfl hi6 rfl prd_M_setPlace_20 (fun H locs hP hS => ?_)
    exact pr_retv E hP hS (pr_so hf) prd_M_setPlace_21
-- M_step
set_option maxHeartbeats 4000000 in
set_option maxRecDepth 100000 in
theorem prk_M_step_136 {l : Launch} {D : va_G} {ad : Nat → Nat} {dA : Nat → ClassId} {A : Nat → Prop} {t : Nat} {p : Program} {e : Env} {s : State} {m : MethodId} {args : Array Value} {below : List Frame} {meth : Method} {c : Code} {h : Nat} (hh : 5 ≤ h) (E : pr_cx prn_M prb_M_step 3 (some .int) D pr_cl prc_L ad dA A (prX t A) p s m args meth c) : ∀ n : Nat, ∀ (σ : pr_St) (x1 : Int32) (x2 : Int32) (res : (Int32 × pr_St)), some res = prf_M_step_136 n σ x1 x2 → ∀ (H : Heap) (locs : List Loc) (ls : Array Slot), va_P D pr_cl (pr_w prc_L ad dA σ) H → va_S A s.heap H locs → lv_has ls 3 [(0, .ref (ad 7)), (1, .int x1), (2, .int x2)] → W p l e (pr_rm h) s m args below meth c H locs 0 0 (MQ below (pr_Qi D pr_cl prc_L ad dA A res) args s 0 0 A) (F0 m 136 ls []) := by
  obtain ⟨hx, hb, hml, hown, hts, hr, hlocks, hK, hD, hX, hXs⟩ := id E
  intro n
  induction n with
  | zero =>
    intro σ x1 x2 res hf
    rw [prf_M_step_136] at hf
    cases hf
  | succ n ih =>
    intro σ x1 x2 res hf H locs ls hP hS hl
    rw [prf_M_step_136] at hf
    refine lv_iload_n hx hb prd_M_step_136 rfl (lv_at hl 2 rfl) ?_
    refine lv_aload_n hx hb prd_M_step_137 rfl (lv_at hl 0 rfl) ?_
    refine pr_geti (v := (σ.1 7 13)) hx hb hts prs_M hown hK hP 7 13 (by decide) rfl (hts _ prw_651) rfl rfl prd_M_step_138 ?_
    refine lv_icmp_ge (tgt := 169) hx hb prd_M_step_141 (by decide) (fun c47 => ?_) (fun c47 => ?_)
    · have hf := pr_it c47 hf
      refine lv_aload_n hx hb prd_M_step_169 rfl (lv_at hl 0 rfl) ?_
      refine pr_getr (t := 4) hx hb hts prs_M hown hK hP 7 2 (by decide) rfl (hts _ prw_680) rfl prd_M_step_170 ?_
      refine lv_iload_n hx hb prd_M_step_173 rfl (lv_at hl 1 rfl) ?_
      obtain ⟨r48, hr48, hf⟩ := pr_bi hf
      refine pr_callVr (rest := []) (r := r48) ⟨hx, hb, hml, hown, hts⟩ 4 (prc_O_intoOf hD hX 1 (Nat.le_refl _) σ x1 r48 hr48) (prg_O_intoOf hts prw_778 (by have := hh; omega)) hX hXs hK hP hS (by decide) rfl rfl rfl rfl hl.1 (Nat.le_of_ble_eq_true rfl) prd_M_step_174 (fun H locs hP hS => ?_)
      exact pr_reti E hP hS (pr_so hf) prd_M_step_177
    · have hf := pr_ie c47 hf
      refine lv_aload_n hx hb prd_M_step_144 rfl (lv_at hl 0 rfl) ?_
      refine lv_aload_n hx hb prd_M_step_145 rfl (lv_at hl 0 rfl) ?_
      refine pr_getr (t := 4) hx hb hts prs_M hown hK hP 7 2 (by decide) rfl (hts _ prw_680) rfl prd_M_step_146 ?_
      refine lv_iload_n hx hb prd_M_step_149 rfl (lv_at hl 1 rfl) ?_
      obtain ⟨r49, hr49, hf⟩ := pr_bi hf
      refine pr_callVr (rest := [.ref (ad 7)]) (r := r49) ⟨hx, hb, hml, hown, hts⟩ 4 (prc_O_numbersAt hD hX 1 (Nat.le_refl _) σ x1 r49 hr49) (prg_O_numbersAt hts prw_750 (by have := hh; omega)) hX hXs hK hP hS (by decide) rfl rfl rfl rfl hl.1 (Nat.le_of_ble_eq_true rfl) prd_M_step_150 (fun H locs hP hS => ?_)
      refine lv_iload_n hx hb prd_M_step_153 rfl (lv_at hl 2 rfl) ?_
      refine lv_iadd hx hb prd_M_step_154 ?_
      refine lv_aload_n hx hb prd_M_step_155 rfl (lv_at hl 0 rfl) ?_
      refine lv_iload_n hx hb prd_M_step_156 rfl (lv_at hl 2 rfl) ?_
      obtain ⟨r50, hr50, hf⟩ := pr_bi hf
      refine pr_callVr (rest := [.int (r49 + x2), .ref (ad 7)]) (r := r50) ⟨hx, hb, hml, hown, hts⟩ 7 (prc_M_waitingAt hD hX 0 (Nat.le_refl _) σ x2 r50 hr50) (prg_M_waitingAt hts prw_695 (by have := hh; omega)) hX hXs hK hP hS (by decide) rfl rfl rfl rfl hl.1 (Nat.le_of_ble_eq_true rfl) prd_M_step_157 (fun H locs hP hS => ?_)
      obtain ⟨r51, hr51, hf⟩ := pr_bi hf
      refine pr_callVv (rest := []) (res := r51) ⟨hx, hb, hml, hown, hts⟩ 7 (prc_M_setNumber hD hX 0 (Nat.le_refl _) σ (r49 + x2) r50 r51 hr51) (prg_M_setNumber hts prw_751 (by have := hh; omega)) hX hXs hK hP hS (by decide) rfl rfl rfl rfl hl.1 (Nat.le_of_ble_eq_true rfl) prd_M_step_160 (fun H locs hP hS => ?_)
      refine lv_iinc (v := (x2 + 1)) (lv' := [(2, .int (x2 + 1)), (0, .ref (ad 7)), (1, .int x1)]) hx hb prd_M_step_163 hl (k := 2) rfl rfl (by decide) rfl (fun ls hl => ?_)
      refine lv_goto (tgt := 136) hx hb prd_M_step_166 (by decide) ?_
      exact ih r51 x1 (x2 + 1) _ hf _ _ _ hP hS (lv_sub hl [1, 2, 0] rfl)
set_option maxHeartbeats 4000000 in
set_option maxRecDepth 100000 in
theorem prc_M_step {l : Launch} {D : va_G} {ad : Nat → Nat} {dA : Nat → ClassId} {A : Nat → Prop} {t : Nat} (hD : ∀ σ : pr_St, va_D A (pr_w prc_L ad dA σ)) (hX : pr_Xok A (prX t A)) (h : Nat) (hh : 5 ≤ h) (σ : pr_St) (x1 : Int32) (res : (Int32 × pr_St)) (hf : prf_M_step σ x1 = some res) : Met l pry_M_step (Cond.code pry_M_step prb_M_step 3 (some .int) :: pr_U) (pr_rm h) (pr_Pc (prX t A) D pr_cl prc_L ad dA [.ref (ad 7), .int x1] σ) (pr_Qi D pr_cl prc_L ad dA A res) 0 0 A := by
  refine pr_entry (cc := prb_M_step) (maxL := 3) (ret := (some .int)) (by decide) (Nat.le_of_ble_eq_true rfl) hD hX ?_
  intro p e s m args below meth c E H locs hP hS ls hl
  have hl : lv_has ls 3 [(0, .ref (ad 7)), (1, .int x1)] := hl
  have hf := hf.symm
  unfold prf_M_step at hf
  obtain ⟨hx, hb, hml, hown, hts, hr, hlocks, hK, hD, hX, hXs⟩ := id E
  refine lv_aload_n hx hb prd_M_step_0 rfl (lv_at hl 0 rfl) ?_
  refine lv_iload_n hx hb prd_M_step_1 rfl (lv_at hl 1 rfl) ?_
  obtain ⟨r52, hr52, hf⟩ := pr_bi hf
  refine pr_callVv (rest := []) (res := r52) ⟨hx, hb, hml, hown, hts⟩ 7 (prc_M_reckon hD hX 4 (Nat.le_refl _) σ x1 r52 hr52) (prg_M_reckon hts prw_772 (by have := hh; omega)) hX hXs hK hP hS (by decide) rfl rfl rfl rfl hl.1 (Nat.le_of_ble_eq_true rfl) prd_M_step_2 (fun H locs hP hS => ?_)
  refine lv_aload_n hx hb prd_M_step_5 rfl (lv_at hl 0 rfl) ?_
  refine pr_geti (v := (r52.1 7 11)) hx hb hts prs_M hown hK hP 7 11 (by decide) rfl (hts _ prw_19) rfl rfl prd_M_step_6 ?_
  refine lv_if_eq (tgt := 14) hx hb prd_M_step_9 (by decide) (fun c53 => ?_) (fun c53 => ?_)
  · have hf := pr_it c53 hf
    refine lv_aload_n hx hb prd_M_step_14 rfl (lv_at hl 0 rfl) ?_
    refine pr_getr (t := 4) hx hb hts prs_M hown hK hP 7 2 (by decide) rfl (hts _ prw_680) rfl prd_M_step_15 ?_
    refine lv_iload_n hx hb prd_M_step_18 rfl (lv_at hl 1 rfl) ?_
    obtain ⟨r54, hr54, hf⟩ := pr_bi hf
    refine pr_callVr (rest := []) (r := r54) ⟨hx, hb, hml, hown, hts⟩ 4 (prc_O_kindOf hD hX 1 (Nat.le_refl _) r52 x1 r54 hr54) (prg_O_kindOf hts prw_773 (by have := hh; omega)) hX hXs hK hP hS (by decide) rfl rfl rfl rfl hl.1 (Nat.le_of_ble_eq_true rfl) prd_M_step_19 (fun H locs hP hS => ?_)
    by_cases c55 : r54 = 1
    · have hf := pr_it c55 hf
      refine lv_tableIn (tgt := 64) (off := 42) hx hb prd_M_step_22 (by rw [c55]; decide) (by rw [c55]; decide) (by rw [c55] <;> rfl) (by decide) ?_
      refine lv_aload_n hx hb prd_M_step_64 rfl (lv_at hl 0 rfl) ?_
      refine lv_iload_n hx hb prd_M_step_65 rfl (lv_at hl 1 rfl) ?_
      obtain ⟨r56, hr56, hf⟩ := pr_bi hf
      refine pr_callVv (rest := []) (res := r56) ⟨hx, hb, hml, hown, hts⟩ 7 (prc_M_beginVariable hD hX 3 (Nat.le_refl _) r52 x1 r56 hr56) (prg_M_beginVariable hts prw_774 (by have := hh; omega)) hX hXs hK hP hS (by decide) rfl rfl rfl rfl hl.1 (Nat.le_of_ble_eq_true rfl) prd_M_step_66 (fun H locs hP hS => ?_)
      refine lv_aload_n hx hb prd_M_step_69 rfl (lv_at hl 0 rfl) ?_
      refine pr_getr (t := 4) hx hb hts prs_M hown hK hP 7 2 (by decide) rfl (hts _ prw_680) rfl prd_M_step_70 ?_
      refine lv_iload_n hx hb prd_M_step_73 rfl (lv_at hl 1 rfl) ?_
      obtain ⟨r57, hr57, hf⟩ := pr_bi hf
      refine pr_callVr (rest := []) (r := r57) ⟨hx, hb, hml, hown, hts⟩ 4 (prc_O_nextOf hD hX 1 (Nat.le_refl _) r56 x1 r57 hr57) (prg_O_nextOf hts prw_775 (by have := hh; omega)) hX hXs hK hP hS (by decide) rfl rfl rfl rfl hl.1 (Nat.le_of_ble_eq_true rfl) prd_M_step_74 (fun H locs hP hS => ?_)
      exact pr_reti E hP hS (pr_so hf) prd_M_step_77
    · have hf := pr_ie c55 hf
      by_cases c58 : r54 = 2
      · have hf := pr_it c58 hf
        refine lv_tableIn (tgt := 78) (off := 56) hx hb prd_M_step_22 (by rw [c58]; decide) (by rw [c58]; decide) (by rw [c58] <;> rfl) (by decide) ?_
        refine lv_aload_n hx hb prd_M_step_78 rfl (lv_at hl 0 rfl) ?_
        refine lv_aload_n hx hb prd_M_step_79 rfl (lv_at hl 0 rfl) ?_
        refine lv_iload_n hx hb prd_M_step_80 rfl (lv_at hl 1 rfl) ?_
        refine lv_aload_n hx hb prd_M_step_81 rfl (lv_at hl 0 rfl) ?_
        refine lv_iload_n hx hb prd_M_step_82 rfl (lv_at hl 1 rfl) ?_
        obtain ⟨r59, hr59, hf⟩ := pr_bi hf
        refine pr_callVr (rest := [.int x1, .ref (ad 7), .ref (ad 7)]) (r := r59) ⟨hx, hb, hml, hown, hts⟩ 7 (prc_M_firstToken hD hX 2 (Nat.le_refl _) r52 x1 r59 hr59) (prg_M_firstToken hts prw_749 (by have := hh; omega)) hX hXs hK hP hS (by decide) rfl rfl rfl rfl hl.1 (Nat.le_of_ble_eq_true rfl) prd_M_step_83 (fun H locs hP hS => ?_)
        obtain ⟨r60, hr60, hf⟩ := pr_bi hf
        refine pr_callVr (rest := [.ref (ad 7)]) (r := r60) ⟨hx, hb, hml, hown, hts⟩ 7 (prc_M_slotOfName hD hX 2 (Nat.le_refl _) r52 x1 r59 r60 hr60) (prg_M_slotOfName hts prw_716 (by have := hh; omega)) hX hXs hK hP hS (by decide) rfl rfl rfl rfl hl.1 (Nat.le_of_ble_eq_true rfl) prd_M_step_86 (fun H locs hP hS => ?_)
        refine lv_aload_n hx hb prd_M_step_89 rfl (lv_at hl 0 rfl) ?_
        refine lv_iconst (v := 0) hx hb prd_M_step_90 (by decide) ?_
        obtain ⟨r61, hr61, hf⟩ := pr_bi hf
        refine pr_callVr (rest := [.int r60, .ref (ad 7)]) (r := r61) ⟨hx, hb, hml, hown, hts⟩ 7 (prc_M_waitingAt hD hX 0 (Nat.le_refl _) r52 0 r61 hr61) (prg_M_waitingAt hts prw_695 (by have := hh; omega)) hX hXs hK hP hS (by decide) rfl rfl rfl rfl hl.1 (Nat.le_of_ble_eq_true rfl) prd_M_step_91 (fun H locs hP hS => ?_)
        obtain ⟨r62, hr62, hf⟩ := pr_bi hf
        refine pr_callVv (rest := []) (res := r62) ⟨hx, hb, hml, hown, hts⟩ 7 (prc_M_setNumber hD hX 0 (Nat.le_refl _) r52 r60 r61 r62 hr62) (prg_M_setNumber hts prw_751 (by have := hh; omega)) hX hXs hK hP hS (by decide) rfl rfl rfl rfl hl.1 (Nat.le_of_ble_eq_true rfl) prd_M_step_94 (fun H locs hP hS => ?_)
        refine lv_aload_n hx hb prd_M_step_97 rfl (lv_at hl 0 rfl) ?_
        refine pr_getr (t := 4) hx hb hts prs_M hown hK hP 7 2 (by decide) rfl (hts _ prw_680) rfl prd_M_step_98 ?_
        refine lv_iload_n hx hb prd_M_step_101 rfl (lv_at hl 1 rfl) ?_
        obtain ⟨r63, hr63, hf⟩ := pr_bi hf
        refine pr_callVr (rest := []) (r := r63) ⟨hx, hb, hml, hown, hts⟩ 4 (prc_O_nextOf hD hX 1 (Nat.le_refl _) r62 x1 r63 hr63) (prg_O_nextOf hts prw_775 (by have := hh; omega)) hX hXs hK hP hS (by decide) rfl rfl rfl rfl hl.1 (Nat.le_of_ble_eq_true rfl) prd_M_step_102 (fun H locs hP hS => ?_)
        exact pr_reti E hP hS (pr_so hf) prd_M_step_105
      · have hf := pr_ie c58 hf
        by_cases c64 : r54 = 3
        · have hf := pr_it c64 hf
          refine lv_tableIn (tgt := 106) (off := 84) hx hb prd_M_step_22 (by rw [c64]; decide) (by rw [c64]; decide) (by rw [c64] <;> rfl) (by decide) ?_
          refine lv_aload_n hx hb prd_M_step_106 rfl (lv_at hl 0 rfl) ?_
          refine lv_aload_n hx hb prd_M_step_107 rfl (lv_at hl 0 rfl) ?_
          refine lv_iconst (v := 0) hx hb prd_M_step_108 (by decide) ?_
          obtain ⟨r65, hr65, hf⟩ := pr_bi hf
          refine pr_callVr (rest := [.ref (ad 7)]) (r := r65) ⟨hx, hb, hml, hown, hts⟩ 7 (prc_M_waitingAt hD hX 0 (Nat.le_refl _) r52 0 r65 hr65) (prg_M_waitingAt hts prw_695 (by have := hh; omega)) hX hXs hK hP hS (by decide) rfl rfl rfl rfl hl.1 (Nat.le_of_ble_eq_true rfl) prd_M_step_109 (fun H locs hP hS => ?_)
          refine lv_aload_n hx hb prd_M_step_112 rfl (lv_at hl 0 rfl) ?_
          refine lv_iconst (v := 1) hx hb prd_M_step_113 (by decide) ?_
          obtain ⟨r66, hr66, hf⟩ := pr_bi hf
          refine pr_callVr (rest := [.int r65, .ref (ad 7)]) (r := r66) ⟨hx, hb, hml, hown, hts⟩ 7 (prc_M_waitingAt hD hX 0 (Nat.le_refl _) r52 1 r66 hr66) (prg_M_waitingAt hts prw_695 (by have := hh; omega)) hX hXs hK hP hS (by decide) rfl rfl rfl rfl hl.1 (Nat.le_of_ble_eq_true rfl) prd_M_step_114 (fun H locs hP hS => ?_)
          refine lv_aload_n hx hb prd_M_step_117 rfl (lv_at hl 0 rfl) ?_
          refine lv_iconst (v := 2) hx hb prd_M_step_118 (by decide) ?_
          obtain ⟨r67, hr67, hf⟩ := pr_bi hf
          refine pr_callVr (rest := [.int r66, .int r65, .ref (ad 7)]) (r := r67) ⟨hx, hb, hml, hown, hts⟩ 7 (prc_M_waitingAt hD hX 0 (Nat.le_refl _) r52 2 r67 hr67) (prg_M_waitingAt hts prw_695 (by have := hh; omega)) hX hXs hK hP hS (by decide) rfl rfl rfl rfl hl.1 (Nat.le_of_ble_eq_true rfl) prd_M_step_119 (fun H locs hP hS => ?_)
          obtain ⟨r68, hr68, hf⟩ := pr_bi hf
          refine pr_callVv (rest := []) (res := r68) ⟨hx, hb, hml, hown, hts⟩ 7 (prc_M_setPlace hD hX 1 (Nat.le_refl _) r52 r65 r66 r67 r68 hr68) (prg_M_setPlace hts prw_776 (by have := hh; omega)) hX hXs hK hP hS (by decide) rfl rfl rfl rfl hl.1 (Nat.le_of_ble_eq_true rfl) prd_M_step_122 (fun H locs hP hS => ?_)
          refine lv_aload_n hx hb prd_M_step_125 rfl (lv_at hl 0 rfl) ?_
          refine pr_getr (t := 4) hx hb hts prs_M hown hK hP 7 2 (by decide) rfl (hts _ prw_680) rfl prd_M_step_126 ?_
          refine lv_iload_n hx hb prd_M_step_129 rfl (lv_at hl 1 rfl) ?_
          obtain ⟨r69, hr69, hf⟩ := pr_bi hf
          refine pr_callVr (rest := []) (r := r69) ⟨hx, hb, hml, hown, hts⟩ 4 (prc_O_nextOf hD hX 1 (Nat.le_refl _) r68 x1 r69 hr69) (prg_O_nextOf hts prw_775 (by have := hh; omega)) hX hXs hK hP hS (by decide) rfl rfl rfl rfl hl.1 (Nat.le_of_ble_eq_true rfl) prd_M_step_130 (fun H locs hP hS => ?_)
          exact pr_reti E hP hS (pr_so hf) prd_M_step_133
        · have hf := pr_ie c64 hf
          by_cases c70 : r54 = 4
          · have hf := pr_it c70 hf
            refine lv_tableIn (tgt := 134) (off := 112) hx hb prd_M_step_22 (by rw [c70]; decide) (by rw [c70]; decide) (by rw [c70] <;> rfl) (by decide) ?_
            refine lv_iconst (v := 0) hx hb prd_M_step_134 (by decide) ?_
            refine lv_istore_n (lv' := [(2, .int 0), (0, .ref (ad 7)), (1, .int x1)]) hx hb prd_M_step_135 rfl hl (by decide) rfl (fun ls hl => ?_)
            exact prk_M_step_136 hh E pr_FU r52 x1 0 _ hf _ _ _ hP hS (lv_sub hl [1, 2, 0] rfl)
          · have hf := pr_ie c70 hf
            by_cases c71 : r54 = 5
            · have hf := pr_it c71 hf
              refine lv_tableIn (tgt := 178) (off := 156) hx hb prd_M_step_22 (by rw [c71]; decide) (by rw [c71]; decide) (by rw [c71] <;> rfl) (by decide) ?_
              refine lv_aload_n hx hb prd_M_step_178 rfl (lv_at hl 0 rfl) ?_
              refine lv_iconst (v := 0) hx hb prd_M_step_179 (by decide) ?_
              obtain ⟨r72, hr72, hf⟩ := pr_bi hf
              refine pr_callVr (rest := []) (r := r72) ⟨hx, hb, hml, hown, hts⟩ 7 (prc_M_waitingAt hD hX 0 (Nat.le_refl _) r52 0 r72 hr72) (prg_M_waitingAt hts prw_695 (by have := hh; omega)) hX hXs hK hP hS (by decide) rfl rfl rfl rfl hl.1 (Nat.le_of_ble_eq_true rfl) prd_M_step_180 (fun H locs hP hS => ?_)
              refine lv_if_eq (tgt := 197) hx hb prd_M_step_183 (by decide) (fun c73 => ?_) (fun c73 => ?_)
              · have hf := pr_it c73 hf
                refine lv_aload_n hx hb prd_M_step_197 rfl (lv_at hl 0 rfl) ?_
                refine pr_getr (t := 4) hx hb hts prs_M hown hK hP 7 2 (by decide) rfl (hts _ prw_680) rfl prd_M_step_198 ?_
                refine lv_iload_n hx hb prd_M_step_201 rfl (lv_at hl 1 rfl) ?_
                obtain ⟨r74, hr74, hf⟩ := pr_bi hf
                refine pr_callVr (rest := []) (r := r74) ⟨hx, hb, hml, hown, hts⟩ 4 (prc_O_otherOf hD hX 1 (Nat.le_refl _) r52 x1 r74 hr74) (prg_O_otherOf hts prw_777 (by have := hh; omega)) hX hXs hK hP hS (by decide) rfl rfl rfl rfl hl.1 (Nat.le_of_ble_eq_true rfl) prd_M_step_202 (fun H locs hP hS => ?_)
                exact pr_reti E hP hS (pr_so hf) prd_M_step_205
              · have hf := pr_ie c73 hf
                refine lv_aload_n hx hb prd_M_step_186 rfl (lv_at hl 0 rfl) ?_
                refine pr_getr (t := 4) hx hb hts prs_M hown hK hP 7 2 (by decide) rfl (hts _ prw_680) rfl prd_M_step_187 ?_
                refine lv_iload_n hx hb prd_M_step_190 rfl (lv_at hl 1 rfl) ?_
                obtain ⟨r75, hr75, hf⟩ := pr_bi hf
                refine pr_callVr (rest := []) (r := r75) ⟨hx, hb, hml, hown, hts⟩ 4 (prc_O_intoOf hD hX 1 (Nat.le_refl _) r52 x1 r75 hr75) (prg_O_intoOf hts prw_778 (by have := hh; omega)) hX hXs hK hP hS (by decide) rfl rfl rfl rfl hl.1 (Nat.le_of_ble_eq_true rfl) prd_M_step_191 (fun H locs hP hS => ?_)
                refine lv_goto (tgt := 205) hx hb prd_M_step_194 (by decide) ?_
                exact pr_reti E hP hS (pr_so hf) prd_M_step_205
            · have hf := pr_ie c71 hf
              by_cases c76 : r54 = 6
              · have hf := pr_it c76 hf
                refine lv_tableIn (tgt := 206) (off := 184) hx hb prd_M_step_22 (by rw [c76]; decide) (by rw [c76]; decide) (by rw [c76] <;> rfl) (by decide) ?_
                refine lv_aload_n hx hb prd_M_step_206 rfl (lv_at hl 0 rfl) ?_
                refine lv_iconst (v := 0) hx hb prd_M_step_207 (by decide) ?_
                obtain ⟨r77, hr77, hf⟩ := pr_bi hf
                refine pr_callVr (rest := []) (r := r77) ⟨hx, hb, hml, hown, hts⟩ 7 (prc_M_waitingAt hD hX 0 (Nat.le_refl _) r52 0 r77 hr77) (prg_M_waitingAt hts prw_695 (by have := hh; omega)) hX hXs hK hP hS (by decide) rfl rfl rfl rfl hl.1 (Nat.le_of_ble_eq_true rfl) prd_M_step_208 (fun H locs hP hS => ?_)
                refine lv_if_eq (tgt := 225) hx hb prd_M_step_211 (by decide) (fun c78 => ?_) (fun c78 => ?_)
                · have hf := pr_it c78 hf
                  refine lv_aload_n hx hb prd_M_step_225 rfl (lv_at hl 0 rfl) ?_
                  refine pr_getr (t := 4) hx hb hts prs_M hown hK hP 7 2 (by decide) rfl (hts _ prw_680) rfl prd_M_step_226 ?_
                  refine lv_iload_n hx hb prd_M_step_229 rfl (lv_at hl 1 rfl) ?_
                  obtain ⟨r79, hr79, hf⟩ := pr_bi hf
                  refine pr_callVr (rest := []) (r := r79) ⟨hx, hb, hml, hown, hts⟩ 4 (prc_O_nextOf hD hX 1 (Nat.le_refl _) r52 x1 r79 hr79) (prg_O_nextOf hts prw_775 (by have := hh; omega)) hX hXs hK hP hS (by decide) rfl rfl rfl rfl hl.1 (Nat.le_of_ble_eq_true rfl) prd_M_step_230 (fun H locs hP hS => ?_)
                  exact pr_reti E hP hS (pr_so hf) prd_M_step_233
                · have hf := pr_ie c78 hf
                  refine lv_aload_n hx hb prd_M_step_214 rfl (lv_at hl 0 rfl) ?_
                  refine pr_getr (t := 4) hx hb hts prs_M hown hK hP 7 2 (by decide) rfl (hts _ prw_680) rfl prd_M_step_215 ?_
                  refine lv_iload_n hx hb prd_M_step_218 rfl (lv_at hl 1 rfl) ?_
                  obtain ⟨r80, hr80, hf⟩ := pr_bi hf
                  refine pr_callVr (rest := []) (r := r80) ⟨hx, hb, hml, hown, hts⟩ 4 (prc_O_intoOf hD hX 1 (Nat.le_refl _) r52 x1 r80 hr80) (prg_O_intoOf hts prw_778 (by have := hh; omega)) hX hXs hK hP hS (by decide) rfl rfl rfl rfl hl.1 (Nat.le_of_ble_eq_true rfl) prd_M_step_219 (fun H locs hP hS => ?_)
                  refine lv_goto (tgt := 233) hx hb prd_M_step_222 (by decide) ?_
                  exact pr_reti E hP hS (pr_so hf) prd_M_step_233
              · have hf := pr_ie c76 hf
                by_cases c81 : r54 = 7
                · have hf := pr_it c81 hf
                  refine lv_tableIn (tgt := 234) (off := 212) hx hb prd_M_step_22 (by rw [c81]; decide) (by rw [c81]; decide) (by rw [c81] <;> rfl) (by decide) ?_
                  refine lv_aload_n hx hb prd_M_step_234 rfl (lv_at hl 0 rfl) ?_
                  refine lv_aload_n hx hb prd_M_step_235 rfl (lv_at hl 0 rfl) ?_
                  refine lv_iconst (v := 0) hx hb prd_M_step_236 (by decide) ?_
                  obtain ⟨r82, hr82, hf⟩ := pr_bi hf
                  refine pr_callVr (rest := [.ref (ad 7)]) (r := r82) ⟨hx, hb, hml, hown, hts⟩ 7 (prc_M_waitingAt hD hX 0 (Nat.le_refl _) r52 0 r82 hr82) (prg_M_waitingAt hts prw_695 (by have := hh; omega)) hX hXs hK hP hS (by decide) rfl rfl rfl rfl hl.1 (Nat.le_of_ble_eq_true rfl) prd_M_step_237 (fun H locs hP hS => ?_)
                  refine lv_if_eq (tgt := 247) hx hb prd_M_step_240 (by decide) (fun c83 => ?_) (fun c83 => ?_)
                  · have hf := pr_it c83 hf
                    refine lv_bipush (v := 8) hx hb prd_M_step_247 (by decide) ?_
                    refine pr_puti (ty := .int) hx hb hts prs_M prq_M prtt_M prtn_M hown hK hP (hD _) hS 7 11 (by decide) rfl (hts _ prw_19) rfl rfl (prtt_M 11 (by decide)) rfl rfl prd_M_step_249 (fun H locs hP hS => ?_)
                    refine lv_aload_n hx hb prd_M_step_252 rfl (lv_at hl 0 rfl) ?_
                    refine pr_geti (v := 8) hx hb hts prs_M hown hK hP 7 11 (by decide) rfl (hts _ prw_19) rfl rfl prd_M_step_253 ?_
                    refine lv_if_eq (tgt := 263) hx hb prd_M_step_256 (by decide) (fun c84 => ?_) (fun c84 => ?_)
                    · have hf := pr_it c84 hf
                      refine lv_aload_n hx hb prd_M_step_263 rfl (lv_at hl 0 rfl) ?_
                      refine pr_getr (t := 4) hx hb hts prs_M hown hK hP 7 2 (by decide) rfl (hts _ prw_680) rfl prd_M_step_264 ?_
                      refine lv_iload_n hx hb prd_M_step_267 rfl (lv_at hl 1 rfl) ?_
                      obtain ⟨r85, hr85, hf⟩ := pr_bi hf
                      refine pr_callVr (rest := []) (r := r85) ⟨hx, hb, hml, hown, hts⟩ 4 (prc_O_nextOf hD hX 1 (Nat.le_refl _) (pr_sI r52 7 11 8) x1 r85 hr85) (prg_O_nextOf hts prw_775 (by have := hh; omega)) hX hXs hK hP hS (by decide) rfl rfl rfl rfl hl.1 (Nat.le_of_ble_eq_true rfl) prd_M_step_268 (fun H locs hP hS => ?_)
                      exact pr_reti E hP hS (pr_so hf) prd_M_step_271
                    · have hf := pr_ie c84 hf
                      refine lv_iload_n hx hb prd_M_step_259 rfl (lv_at hl 1 rfl) ?_
                      refine lv_goto (tgt := 271) hx hb prd_M_step_260 (by decide) ?_
                      exact pr_reti E hP hS (pr_so hf) prd_M_step_271
                  · have hf := pr_ie c83 hf
                    refine lv_iconst (v := 0) hx hb prd_M_step_243 (by decide) ?_
                    refine lv_goto (tgt := 249) hx hb prd_M_step_244 (by decide) ?_
                    refine pr_puti (ty := .int) hx hb hts prs_M prq_M prtt_M prtn_M hown hK hP (hD _) hS 7 11 (by decide) rfl (hts _ prw_19) rfl rfl (prtt_M 11 (by decide)) rfl rfl prd_M_step_249 (fun H locs hP hS => ?_)
                    refine lv_aload_n hx hb prd_M_step_252 rfl (lv_at hl 0 rfl) ?_
                    refine pr_geti (v := 0) hx hb hts prs_M hown hK hP 7 11 (by decide) rfl (hts _ prw_19) rfl rfl prd_M_step_253 ?_
                    refine lv_if_eq (tgt := 263) hx hb prd_M_step_256 (by decide) (fun c86 => ?_) (fun c86 => ?_)
                    · have hf := pr_it c86 hf
                      refine lv_aload_n hx hb prd_M_step_263 rfl (lv_at hl 0 rfl) ?_
                      refine pr_getr (t := 4) hx hb hts prs_M hown hK hP 7 2 (by decide) rfl (hts _ prw_680) rfl prd_M_step_264 ?_
                      refine lv_iload_n hx hb prd_M_step_267 rfl (lv_at hl 1 rfl) ?_
                      obtain ⟨r87, hr87, hf⟩ := pr_bi hf
                      refine pr_callVr (rest := []) (r := r87) ⟨hx, hb, hml, hown, hts⟩ 4 (prc_O_nextOf hD hX 1 (Nat.le_refl _) (pr_sI r52 7 11 0) x1 r87 hr87) (prg_O_nextOf hts prw_775 (by have := hh; omega)) hX hXs hK hP hS (by decide) rfl rfl rfl rfl hl.1 (Nat.le_of_ble_eq_true rfl) prd_M_step_268 (fun H locs hP hS => ?_)
                      exact pr_reti E hP hS (pr_so hf) prd_M_step_271
                    · have hf := pr_ie c86 hf
                      refine lv_iload_n hx hb prd_M_step_259 rfl (lv_at hl 1 rfl) ?_
                      refine lv_goto (tgt := 271) hx hb prd_M_step_260 (by decide) ?_
                      exact pr_reti E hP hS (pr_so hf) prd_M_step_271
                · have hf := pr_ie c81 hf
                  refine lv_tableOut (tgt := 272) hx hb prd_M_step_22 (by have w0 := lv_neT (a := 1) c55 (by decide); have w1 := lv_neT (a := 2) c58 (by decide); have w2 := lv_neT (a := 3) c64 (by decide); have w3 := lv_neT (a := 4) c70 (by decide); have w4 := lv_neT (a := 5) c71 (by decide); have w5 := lv_neT (a := 6) c76 (by decide); have w6 := lv_neT (a := 7) c81 (by decide); omega) (by decide) ?_
                  refine lv_aload_n hx hb prd_M_step_272 rfl (lv_at hl 0 rfl) ?_
                  refine lv_aload_n hx hb prd_M_step_273 rfl (lv_at hl 0 rfl) ?_
                  refine pr_getr (t := 4) hx hb hts prs_M hown hK hP 7 2 (by decide) rfl (hts _ prw_680) rfl prd_M_step_274 ?_
                  refine lv_aload_n hx hb prd_M_step_277 rfl (lv_at hl 0 rfl) ?_
                  refine pr_getr (t := 4) hx hb hts prs_M hown hK hP 7 2 (by decide) rfl (hts _ prw_680) rfl prd_M_step_278 ?_
                  refine lv_iload_n hx hb prd_M_step_281 rfl (lv_at hl 1 rfl) ?_
                  obtain ⟨r88, hr88, hf⟩ := pr_bi hf
                  refine pr_callVr (rest := [.ref (ad 4), .ref (ad 7)]) (r := r88) ⟨hx, hb, hml, hown, hts⟩ 4 (prc_O_parentOf hD hX 1 (Nat.le_refl _) r52 x1 r88 hr88) (prg_O_parentOf hts prw_779 (by have := hh; omega)) hX hXs hK hP hS (by decide) rfl rfl rfl rfl hl.1 (Nat.le_of_ble_eq_true rfl) prd_M_step_282 (fun H locs hP hS => ?_)
                  obtain ⟨r89, hr89, hf⟩ := pr_bi hf
                  refine pr_callVr (rest := [.ref (ad 7)]) (r := r89) ⟨hx, hb, hml, hown, hts⟩ 4 (prc_O_targetOf hD hX 1 (Nat.le_refl _) r52 r88 r89 hr89) (prg_O_targetOf hts prw_780 (by have := hh; omega)) hX hXs hK hP hS (by decide) rfl rfl rfl rfl hl.1 (Nat.le_of_ble_eq_true rfl) prd_M_step_285 (fun H locs hP hS => ?_)
                  refine lv_aload_n hx hb prd_M_step_288 rfl (lv_at hl 0 rfl) ?_
                  refine lv_iconst (v := 0) hx hb prd_M_step_289 (by decide) ?_
                  obtain ⟨r90, hr90, hf⟩ := pr_bi hf
                  refine pr_callVr (rest := [.int r89, .ref (ad 7)]) (r := r90) ⟨hx, hb, hml, hown, hts⟩ 7 (prc_M_waitingAt hD hX 0 (Nat.le_refl _) r52 0 r90 hr90) (prg_M_waitingAt hts prw_695 (by have := hh; omega)) hX hXs hK hP hS (by decide) rfl rfl rfl rfl hl.1 (Nat.le_of_ble_eq_true rfl) prd_M_step_290 (fun H locs hP hS => ?_)
                  obtain ⟨r91, hr91, hf⟩ := pr_bi hf
                  refine pr_callVv (rest := []) (res := r91) ⟨hx, hb, hml, hown, hts⟩ 7 (prc_M_setNumber hD hX 0 (Nat.le_refl _) r52 r89 r90 r91 hr91) (prg_M_setNumber hts prw_751 (by have := hh; omega)) hX hXs hK hP hS (by decide) rfl rfl rfl rfl hl.1 (Nat.le_of_ble_eq_true rfl) prd_M_step_293 (fun H locs hP hS => ?_)
                  refine lv_aload_n hx hb prd_M_step_296 rfl (lv_at hl 0 rfl) ?_
                  refine pr_getr (t := 4) hx hb hts prs_M hown hK hP 7 2 (by decide) rfl (hts _ prw_680) rfl prd_M_step_297 ?_
                  refine lv_iload_n hx hb prd_M_step_300 rfl (lv_at hl 1 rfl) ?_
                  obtain ⟨r92, hr92, hf⟩ := pr_bi hf
                  refine pr_callVr (rest := []) (r := r92) ⟨hx, hb, hml, hown, hts⟩ 4 (prc_O_nextOf hD hX 1 (Nat.le_refl _) r91 x1 r92 hr92) (prg_O_nextOf hts prw_775 (by have := hh; omega)) hX hXs hK hP hS (by decide) rfl rfl rfl rfl hl.1 (Nat.le_of_ble_eq_true rfl) prd_M_step_301 (fun H locs hP hS => ?_)
                  exact pr_reti E hP hS (pr_so hf) prd_M_step_304
  · have hf := pr_ie c53 hf
    refine lv_iload_n hx hb prd_M_step_12 rfl (lv_at hl 1 rfl) ?_
    exact pr_reti E hP hS (pr_so hf) prd_M_step_13
-- M_runSteps
set_option maxHeartbeats 4000000 in
set_option maxRecDepth 100000 in
theorem prk_M_runSteps_60 {l : Launch} {D : va_G} {ad : Nat → Nat} {dA : Nat → ClassId} {A : Nat → Prop} {t : Nat} {p : Program} {e : Env} {s : State} {m : MethodId} {args : Array Value} {below : List Frame} {meth : Method} {c : Code} {h : Nat} (hh : 6 ≤ h) (E : pr_cx prn_M prb_M_runSteps 3 (some .int) D pr_cl prc_L ad dA A (prX t A) p s m args meth c) : ∀ (σ : pr_St)  (res : (Int32 × pr_St)), some res = prf_M_runSteps_60 σ  → ∀ (H : Heap) (locs : List Loc) (ls : Array Slot), va_P D pr_cl (pr_w prc_L ad dA σ) H → va_S A s.heap H locs → lv_has ls 3 [(0, .ref (ad 7))] → W p l e (pr_rm h) s m args below meth c H locs 0 0 (MQ below (pr_Qi D pr_cl prc_L ad dA A res) args s 0 0 A) (F0 m 60 ls []) := by
  obtain ⟨hx, hb, hml, hown, hts, hr, hlocks, hK, hD, hX, hXs⟩ := id E
  intro σ  res hf H locs ls hP hS hl
  unfold prf_M_runSteps_60 at hf
  refine lv_aload_n hx hb prd_M_runSteps_60 rfl (lv_at hl 0 rfl) ?_
  refine pr_geti (v := (σ.1 7 11)) hx hb hts prs_M hown hK hP 7 11 (by decide) rfl (hts _ prw_19) rfl rfl prd_M_runSteps_61 ?_
  refine lv_if_eq (tgt := 72) hx hb prd_M_runSteps_64 (by decide) (fun c10 => ?_) (fun c10 => ?_)
  · have hf := pr_it c10 hf
    refine lv_aload_n hx hb prd_M_runSteps_72 rfl (lv_at hl 0 rfl) ?_
    refine pr_getr (t := 4) hx hb hts prs_M hown hK hP 7 2 (by decide) rfl (hts _ prw_680) rfl prd_M_runSteps_73 ?_
    refine lv_aload_n hx hb prd_M_runSteps_76 rfl (lv_at hl 0 rfl) ?_
    refine pr_geti (v := (σ.1 7 8)) hx hb hts prs_M hown hK hP 7 8 (by decide) rfl (hts _ prw_16) rfl rfl prd_M_runSteps_77 ?_
    obtain ⟨r11, hr11, hf⟩ := pr_bi hf
    refine pr_callVr (rest := []) (r := r11) ⟨hx, hb, hml, hown, hts⟩ 4 (prc_O_kindOf hD hX 1 (Nat.le_refl _) σ (σ.1 7 8) r11 hr11) (prg_O_kindOf hts prw_773 (by have := hh; omega)) hX hXs hK hP hS (by decide) rfl rfl rfl rfl hl.1 (Nat.le_of_ble_eq_true rfl) prd_M_runSteps_80 (fun H locs hP hS => ?_)
    refine lv_if_ne (tgt := 90) hx hb prd_M_runSteps_83 (by decide) (fun c12 => ?_) (fun c12 => ?_)
    · have hf := pr_ie c12 hf
      refine lv_bipush (v := 16) hx hb prd_M_runSteps_90 (by decide) ?_
      exact pr_reti E hP hS (pr_so hf) prd_M_runSteps_92
    · have hf := pr_it c12 hf
      refine lv_iconst (v := 0) hx hb prd_M_runSteps_86 (by decide) ?_
      refine lv_goto (tgt := 92) hx hb prd_M_runSteps_87 (by decide) ?_
      exact pr_reti E hP hS (pr_so hf) prd_M_runSteps_92
  · have hf := pr_ie c10 hf
    refine lv_aload_n hx hb prd_M_runSteps_67 rfl (lv_at hl 0 rfl) ?_
    refine pr_geti (v := (σ.1 7 11)) hx hb hts prs_M hown hK hP 7 11 (by decide) rfl (hts _ prw_19) rfl rfl prd_M_runSteps_68 ?_
    exact pr_reti E hP hS (pr_so hf) prd_M_runSteps_71
set_option maxHeartbeats 4000000 in
set_option maxRecDepth 100000 in
theorem prk_M_runSteps_6 {l : Launch} {D : va_G} {ad : Nat → Nat} {dA : Nat → ClassId} {A : Nat → Prop} {t : Nat} {p : Program} {e : Env} {s : State} {m : MethodId} {args : Array Value} {below : List Frame} {meth : Method} {c : Code} {h : Nat} (hh : 6 ≤ h) (E : pr_cx prn_M prb_M_runSteps 3 (some .int) D pr_cl prc_L ad dA A (prX t A) p s m args meth c) : ∀ n : Nat, ∀ (σ : pr_St) (x1 : Int32) (x2 : Int32) (res : (Int32 × pr_St)), some res = prf_M_runSteps_6 n σ x1 x2 → ∀ (H : Heap) (locs : List Loc) (ls : Array Slot), va_P D pr_cl (pr_w prc_L ad dA σ) H → va_S A s.heap H locs → lv_has ls 3 [(0, .ref (ad 7)), (1, .int x1), (2, .int x2)] → W p l e (pr_rm h) s m args below meth c H locs 0 0 (MQ below (pr_Qi D pr_cl prc_L ad dA A res) args s 0 0 A) (F0 m 6 ls []) := by
  obtain ⟨hx, hb, hml, hown, hts, hr, hlocks, hK, hD, hX, hXs⟩ := id E
  intro n
  induction n with
  | zero =>
    intro σ x1 x2 res hf
    rw [prf_M_runSteps_6] at hf
    cases hf
  | succ n ih =>
    intro σ x1 x2 res hf H locs ls hP hS hl
    rw [prf_M_runSteps_6] at hf
    refine lv_iload_n hx hb prd_M_runSteps_6 rfl (lv_at hl 2 rfl) ?_
    refine lv_iload_n hx hb prd_M_runSteps_7 rfl (lv_at hl 1 rfl) ?_
    refine lv_icmp_ge (tgt := 60) hx hb prd_M_runSteps_8 (by decide) (fun c13 => ?_) (fun c13 => ?_)
    · have hf := pr_it c13 hf
      exact prk_M_runSteps_60 hh E σ _ hf _ _ _ hP hS (lv_sub hl [0] rfl)
    · have hf := pr_ie c13 hf
      refine lv_aload_n hx hb prd_M_runSteps_11 rfl (lv_at hl 0 rfl) ?_
      refine pr_geti (v := (σ.1 7 11)) hx hb hts prs_M hown hK hP 7 11 (by decide) rfl (hts _ prw_19) rfl rfl prd_M_runSteps_12 ?_
      refine lv_if_ne (tgt := 60) hx hb prd_M_runSteps_15 (by decide) (fun c14 => ?_) (fun c14 => ?_)
      · have hf := pr_ie c14 hf
        exact prk_M_runSteps_60 hh E σ _ hf _ _ _ hP hS (lv_sub hl [0] rfl)
      · have hf := pr_it c14 hf
        refine lv_aload_n hx hb prd_M_runSteps_18 rfl (lv_at hl 0 rfl) ?_
        refine pr_getr (t := 4) hx hb hts prs_M hown hK hP 7 2 (by decide) rfl (hts _ prw_680) rfl prd_M_runSteps_19 ?_
        refine lv_aload_n hx hb prd_M_runSteps_22 rfl (lv_at hl 0 rfl) ?_
        refine pr_geti (v := (σ.1 7 8)) hx hb hts prs_M hown hK hP 7 8 (by decide) rfl (hts _ prw_16) rfl rfl prd_M_runSteps_23 ?_
        obtain ⟨r15, hr15, hf⟩ := pr_bi hf
        refine pr_callVr (rest := []) (r := r15) ⟨hx, hb, hml, hown, hts⟩ 4 (prc_O_kindOf hD hX 1 (Nat.le_refl _) σ (σ.1 7 8) r15 hr15) (prg_O_kindOf hts prw_773 (by have := hh; omega)) hX hXs hK hP hS (by decide) rfl rfl rfl rfl hl.1 (Nat.le_of_ble_eq_true rfl) prd_M_runSteps_26 (fun H locs hP hS => ?_)
        refine lv_if_eq (tgt := 60) hx hb prd_M_runSteps_29 (by decide) (fun c16 => ?_) (fun c16 => ?_)
        · have hf := pr_it c16 hf
          exact prk_M_runSteps_60 hh E σ _ hf _ _ _ hP hS (lv_sub hl [0] rfl)
        · have hf := pr_ie c16 hf
          refine lv_aload_n hx hb prd_M_runSteps_32 rfl (lv_at hl 0 rfl) ?_
          refine lv_dup hx hb prd_M_runSteps_33 rfl ?_
          refine pr_geti (v := (σ.1 7 9)) hx hb hts prs_M hown hK hP 7 9 (by decide) rfl (hts _ prw_17) rfl rfl prd_M_runSteps_34 ?_
          refine lv_iconst (v := 1) hx hb prd_M_runSteps_37 (by decide) ?_
          refine lv_iadd hx hb prd_M_runSteps_38 ?_
          refine pr_puti (ty := .int) hx hb hts prs_M prq_M prtt_M prtn_M hown hK hP (hD _) hS 7 9 (by decide) rfl (hts _ prw_17) rfl rfl (prtt_M 9 (by decide)) rfl rfl prd_M_runSteps_39 (fun H locs hP hS => ?_)
          refine lv_aload_n hx hb prd_M_runSteps_42 rfl (lv_at hl 0 rfl) ?_
          refine lv_aload_n hx hb prd_M_runSteps_43 rfl (lv_at hl 0 rfl) ?_
          refine lv_aload_n hx hb prd_M_runSteps_44 rfl (lv_at hl 0 rfl) ?_
          refine pr_geti (v := (σ.1 7 8)) hx hb hts prs_M hown hK hP 7 8 (by decide) rfl (hts _ prw_16) rfl rfl prd_M_runSteps_45 ?_
          obtain ⟨r17, hr17, hf⟩ := pr_bi hf
          refine pr_callVi (rest := [.ref (ad 7)]) (res := r17) ⟨hx, hb, hml, hown, hts⟩ 7 (prc_M_step hD hX 5 (Nat.le_refl _) (pr_sI σ 7 9 ((σ.1 7 9) + 1)) (σ.1 7 8) r17 hr17) (prg_M_step hts prw_785 (by have := hh; omega)) hX hXs hK hP hS (by decide) rfl rfl rfl rfl hl.1 (Nat.le_of_ble_eq_true rfl) prd_M_runSteps_48 (fun H locs hP hS => ?_)
          refine pr_puti (ty := .int) hx hb hts prs_M prq_M prtt_M prtn_M hown hK hP (hD _) hS 7 8 (by decide) rfl (hts _ prw_16) rfl rfl (prtt_M 8 (by decide)) rfl rfl prd_M_runSteps_51 (fun H locs hP hS => ?_)
          refine lv_iinc (v := (x2 + 1)) (lv' := [(2, .int (x2 + 1)), (0, .ref (ad 7)), (1, .int x1)]) hx hb prd_M_runSteps_54 hl (k := 2) rfl rfl (by decide) rfl (fun ls hl => ?_)
          refine lv_goto (tgt := 6) hx hb prd_M_runSteps_57 (by decide) ?_
          exact ih (pr_sI r17.2 7 8 r17.1) x1 (x2 + 1) _ hf _ _ _ hP hS (lv_sub hl [1, 2, 0] rfl)
set_option maxHeartbeats 4000000 in
set_option maxRecDepth 100000 in
theorem prc_M_runSteps {l : Launch} {D : va_G} {ad : Nat → Nat} {dA : Nat → ClassId} {A : Nat → Prop} {t : Nat} (hD : ∀ σ : pr_St, va_D A (pr_w prc_L ad dA σ)) (hX : pr_Xok A (prX t A)) (h : Nat) (hh : 6 ≤ h) (σ : pr_St) (x1 : Int32) (res : (Int32 × pr_St)) (hf : prf_M_runSteps σ x1 = some res) : Met l pry_M_runSteps (Cond.code pry_M_runSteps prb_M_runSteps 3 (some .int) :: pr_U) (pr_rm h) (pr_Pc (prX t A) D pr_cl prc_L ad dA [.ref (ad 7), .int x1] σ) (pr_Qi D pr_cl prc_L ad dA A res) 0 0 A := by
  refine pr_entry (cc := prb_M_runSteps) (maxL := 3) (ret := (some .int)) (by decide) (Nat.le_of_ble_eq_true rfl) hD hX ?_
  intro p e s m args below meth c E H locs hP hS ls hl
  have hl : lv_has ls 3 [(0, .ref (ad 7)), (1, .int x1)] := hl
  have hf := hf.symm
  unfold prf_M_runSteps at hf
  obtain ⟨hx, hb, hml, hown, hts, hr, hlocks, hK, hD, hX, hXs⟩ := id E
  refine lv_aload_n hx hb prd_M_runSteps_0 rfl (lv_at hl 0 rfl) ?_
  obtain ⟨r18, hr18, hf⟩ := pr_bi hf
  refine pr_callVv (rest := []) (res := r18) ⟨hx, hb, hml, hown, hts⟩ 7 (prc_M_forget hD hX 0 (Nat.le_refl _) σ  r18 hr18) (prg_M_forget hts prw_784 (by have := hh; omega)) hX hXs hK hP hS (by decide) rfl rfl rfl rfl hl.1 (Nat.le_of_ble_eq_true rfl) prd_M_runSteps_1 (fun H locs hP hS => ?_)
  refine lv_iconst (v := 0) hx hb prd_M_runSteps_4 (by decide) ?_
  refine lv_istore_n (lv' := [(2, .int 0), (0, .ref (ad 7)), (1, .int x1)]) hx hb prd_M_runSteps_5 rfl hl (by decide) rfl (fun ls hl => ?_)
  exact prk_M_runSteps_6 hh E pr_FU r18 x1 0 _ hf _ _ _ hP hS (lv_sub hl [1, 2, 0] rfl)
-- M_standsAt
set_option maxHeartbeats 4000000 in
set_option maxRecDepth 100000 in
theorem prc_M_standsAt {l : Launch} {D : va_G} {ad : Nat → Nat} {dA : Nat → ClassId} {A : Nat → Prop} {t : Nat} (hD : ∀ σ : pr_St, va_D A (pr_w prc_L ad dA σ)) (hX : pr_Xok A (prX t A)) (h : Nat) (hh : 0 ≤ h) (σ : pr_St)  (res : Int32) (hf : prf_M_standsAt σ  = some res) : Met l pry_M_standsAt (Cond.code pry_M_standsAt prb_M_standsAt 1 (some .int) :: pr_U) (pr_rm h) (pr_Pc (prX t A) D pr_cl prc_L ad dA [.ref (ad 7)] σ) (pr_Qi D pr_cl prc_L ad dA A (res, σ)) 0 0 A := by
  refine pr_entry (cc := prb_M_standsAt) (maxL := 1) (ret := (some .int)) (by decide) (Nat.le_of_ble_eq_true rfl) hD hX ?_
  intro p e s m args below meth c E H locs hP hS ls hl
  have hl : lv_has ls 1 [(0, .ref (ad 7))] := hl
  have hf := hf.symm
  unfold prf_M_standsAt at hf
  obtain ⟨hx, hb, hml, hown, hts, hr, hlocks, hK, hD, hX, hXs⟩ := id E
  refine lv_aload_n hx hb prd_M_standsAt_0 rfl (lv_at hl 0 rfl) ?_
  refine pr_geti (v := (σ.1 7 8)) hx hb hts prs_M hown hK hP 7 8 (by decide) rfl (hts _ prw_16) rfl rfl prd_M_standsAt_1 ?_
  exact pr_reti E hP hS (pr_ro hf) prd_M_standsAt_4
-- M_stepsDone
set_option maxHeartbeats 4000000 in
set_option maxRecDepth 100000 in
theorem prc_M_stepsDone {l : Launch} {D : va_G} {ad : Nat → Nat} {dA : Nat → ClassId} {A : Nat → Prop} {t : Nat} (hD : ∀ σ : pr_St, va_D A (pr_w prc_L ad dA σ)) (hX : pr_Xok A (prX t A)) (h : Nat) (hh : 0 ≤ h) (σ : pr_St)  (res : Int32) (hf : prf_M_stepsDone σ  = some res) : Met l pry_M_stepsDone (Cond.code pry_M_stepsDone prb_M_stepsDone 1 (some .int) :: pr_U) (pr_rm h) (pr_Pc (prX t A) D pr_cl prc_L ad dA [.ref (ad 7)] σ) (pr_Qi D pr_cl prc_L ad dA A (res, σ)) 0 0 A := by
  refine pr_entry (cc := prb_M_stepsDone) (maxL := 1) (ret := (some .int)) (by decide) (Nat.le_of_ble_eq_true rfl) hD hX ?_
  intro p e s m args below meth c E H locs hP hS ls hl
  have hl : lv_has ls 1 [(0, .ref (ad 7))] := hl
  have hf := hf.symm
  unfold prf_M_stepsDone at hf
  obtain ⟨hx, hb, hml, hown, hts, hr, hlocks, hK, hD, hX, hXs⟩ := id E
  refine lv_aload_n hx hb prd_M_stepsDone_0 rfl (lv_at hl 0 rfl) ?_
  refine pr_geti (v := (σ.1 7 9)) hx hb hts prs_M hown hK hP 7 9 (by decide) rfl (hts _ prw_17) rfl rfl prd_M_stepsDone_1 ?_
  exact pr_reti E hP hS (pr_ro hf) prd_M_stepsDone_4
-- M_inputsTaken
set_option maxHeartbeats 4000000 in
set_option maxRecDepth 100000 in
theorem prc_M_inputsTaken {l : Launch} {D : va_G} {ad : Nat → Nat} {dA : Nat → ClassId} {A : Nat → Prop} {t : Nat} (hD : ∀ σ : pr_St, va_D A (pr_w prc_L ad dA σ)) (hX : pr_Xok A (prX t A)) (h : Nat) (hh : 0 ≤ h) (σ : pr_St)  (res : Int32) (hf : prf_M_inputsTaken σ  = some res) : Met l pry_M_inputsTaken (Cond.code pry_M_inputsTaken prb_M_inputsTaken 1 (some .int) :: pr_U) (pr_rm h) (pr_Pc (prX t A) D pr_cl prc_L ad dA [.ref (ad 7)] σ) (pr_Qi D pr_cl prc_L ad dA A (res, σ)) 0 0 A := by
  refine pr_entry (cc := prb_M_inputsTaken) (maxL := 1) (ret := (some .int)) (by decide) (Nat.le_of_ble_eq_true rfl) hD hX ?_
  intro p e s m args below meth c E H locs hP hS ls hl
  have hl : lv_has ls 1 [(0, .ref (ad 7))] := hl
  have hf := hf.symm
  unfold prf_M_inputsTaken at hf
  obtain ⟨hx, hb, hml, hown, hts, hr, hlocks, hK, hD, hX, hXs⟩ := id E
  refine lv_aload_n hx hb prd_M_inputsTaken_0 rfl (lv_at hl 0 rfl) ?_
  refine pr_geti (v := (σ.1 7 10)) hx hb hts prs_M hown hK hP 7 10 (by decide) rfl (hts _ prw_18) rfl rfl prd_M_inputsTaken_1 ?_
  exact pr_reti E hP hS (pr_ro hf) prd_M_inputsTaken_4
-- M_numberIn
set_option maxHeartbeats 4000000 in
set_option maxRecDepth 100000 in
theorem prc_M_numberIn {l : Launch} {D : va_G} {ad : Nat → Nat} {dA : Nat → ClassId} {A : Nat → Prop} {t : Nat} (hD : ∀ σ : pr_St, va_D A (pr_w prc_L ad dA σ)) (hX : pr_Xok A (prX t A)) (h : Nat) (hh : 2 ≤ h) (σ : pr_St) (x1 : Int32) (res : Int32) (hf : prf_M_numberIn σ x1 = some res) : Met l pry_M_numberIn (Cond.code pry_M_numberIn prb_M_numberIn 2 (some .int) :: pr_U) (pr_rm h) (pr_Pc (prX t A) D pr_cl prc_L ad dA [.ref (ad 7), .int x1] σ) (pr_Qi D pr_cl prc_L ad dA A (res, σ)) 0 0 A := by
  refine pr_entry (cc := prb_M_numberIn) (maxL := 2) (ret := (some .int)) (by decide) (Nat.le_of_ble_eq_true rfl) hD hX ?_
  intro p e s m args below meth c E H locs hP hS ls hl
  have hl : lv_has ls 2 [(0, .ref (ad 7)), (1, .int x1)] := hl
  have hf := hf.symm
  unfold prf_M_numberIn at hf
  obtain ⟨hx, hb, hml, hown, hts, hr, hlocks, hK, hD, hX, hXs⟩ := id E
  refine lv_iload_n hx hb prd_M_numberIn_0 rfl (lv_at hl 1 rfl) ?_
  refine lv_if_lt (tgt := 27) hx hb prd_M_numberIn_1 (by decide) (fun c5 => ?_) (fun c5 => ?_)
  · have hf := pr_it c5 hf
    refine lv_iconst (v := 0) hx hb prd_M_numberIn_27 (by decide) ?_
    exact pr_reti E hP hS (pr_ro hf) prd_M_numberIn_28
  · have hf := pr_ie c5 hf
    refine lv_iload_n hx hb prd_M_numberIn_4 rfl (lv_at hl 1 rfl) ?_
    refine lv_aload_n hx hb prd_M_numberIn_5 rfl (lv_at hl 0 rfl) ?_
    refine pr_getr (t := 4) hx hb hts prs_M hown hK hP 7 2 (by decide) rfl (hts _ prw_680) rfl prd_M_numberIn_6 ?_
    refine lv_aload_n hx hb prd_M_numberIn_9 rfl (lv_at hl 0 rfl) ?_
    refine pr_geti (v := (σ.1 7 8)) hx hb hts prs_M hown hK hP 7 8 (by decide) rfl (hts _ prw_16) rfl rfl prd_M_numberIn_10 ?_
    obtain ⟨r6, hr6, hf⟩ := pr_bi hf
    refine pr_callVr (rest := [.int x1]) (r := r6) ⟨hx, hb, hml, hown, hts⟩ 4 (prc_O_numbersAt hD hX 1 (Nat.le_refl _) σ (σ.1 7 8) r6 hr6) (prg_O_numbersAt hts prw_750 (by have := hh; omega)) hX hXs hK hP hS (by decide) rfl rfl rfl rfl hl.1 (Nat.le_of_ble_eq_true rfl) prd_M_numberIn_13 (fun H locs hP hS => ?_)
    refine lv_icmp_ge (tgt := 27) hx hb prd_M_numberIn_16 (by decide) (fun c7 => ?_) (fun c7 => ?_)
    · have hf := pr_it c7 hf
      refine lv_iconst (v := 0) hx hb prd_M_numberIn_27 (by decide) ?_
      exact pr_reti E hP hS (pr_ro hf) prd_M_numberIn_28
    · have hf := pr_ie c7 hf
      refine lv_aload_n hx hb prd_M_numberIn_19 rfl (lv_at hl 0 rfl) ?_
      refine lv_iload_n hx hb prd_M_numberIn_20 rfl (lv_at hl 1 rfl) ?_
      obtain ⟨r8, hr8, hf⟩ := pr_bi hf
      refine pr_callVr (rest := []) (r := r8) ⟨hx, hb, hml, hown, hts⟩ 7 (prc_M_getNumber hD hX 0 (Nat.le_refl _) σ x1 r8 hr8) (prg_M_getNumber hts prw_717 (by have := hh; omega)) hX hXs hK hP hS (by decide) rfl rfl rfl rfl hl.1 (Nat.le_of_ble_eq_true rfl) prd_M_numberIn_21 (fun H locs hP hS => ?_)
      refine lv_goto (tgt := 28) hx hb prd_M_numberIn_24 (by decide) ?_
      exact pr_reti E hP hS (pr_ro hf) prd_M_numberIn_28
-- M_placeIn
set_option maxHeartbeats 4000000 in
set_option maxRecDepth 100000 in
theorem prc_M_placeIn {l : Launch} {D : va_G} {ad : Nat → Nat} {dA : Nat → ClassId} {A : Nat → Prop} {t : Nat} (hD : ∀ σ : pr_St, va_D A (pr_w prc_L ad dA σ)) (hX : pr_Xok A (prX t A)) (h : Nat) (hh : 2 ≤ h) (σ : pr_St) (x1 : Int32) (x2 : Int32) (res : Int32) (hf : prf_M_placeIn σ x1 x2 = some res) : Met l pry_M_placeIn (Cond.code pry_M_placeIn prb_M_placeIn 4 (some .int) :: pr_U) (pr_rm h) (pr_Pc (prX t A) D pr_cl prc_L ad dA [.ref (ad 7), .int x1, .int x2] σ) (pr_Qi D pr_cl prc_L ad dA A (res, σ)) 0 0 A := by
  refine pr_entry (cc := prb_M_placeIn) (maxL := 4) (ret := (some .int)) (by decide) (Nat.le_of_ble_eq_true rfl) hD hX ?_
  intro p e s m args below meth c E H locs hP hS ls hl
  have hl : lv_has ls 4 [(0, .ref (ad 7)), (1, .int x1), (2, .int x2)] := hl
  have hf := hf.symm
  unfold prf_M_placeIn at hf
  obtain ⟨hx, hb, hml, hown, hts, hr, hlocks, hK, hD, hX, hXs⟩ := id E
  refine lv_iload_n hx hb prd_M_placeIn_0 rfl (lv_at hl 1 rfl) ?_
  refine lv_if_lt (tgt := 32) hx hb prd_M_placeIn_1 (by decide) (fun c14 => ?_) (fun c14 => ?_)
  · have hf := pr_it c14 hf
    refine lv_iconst (v := 0) hx hb prd_M_placeIn_32 (by decide) ?_
    refine lv_istore_n (lv' := [(3, .int 0), (0, .ref (ad 7)), (1, .int x1), (2, .int x2)]) hx hb prd_M_placeIn_33 rfl hl (by decide) rfl (fun ls hl => ?_)
    refine lv_iload_n hx hb prd_M_placeIn_34 rfl (lv_at hl 0 rfl) ?_
    refine lv_if_eq (tgt := 47) hx hb prd_M_placeIn_35 (by decide) (fun c15 => ?_) (fun c15 => ?_)
    · have hf := pr_it c15 hf
      refine lv_iconst (v := 0) hx hb prd_M_placeIn_47 (by decide) ?_
      exact pr_reti E hP hS (pr_ro hf) prd_M_placeIn_48
    · have hf := pr_ie c15 hf
      refine lv_aload_n hx hb prd_M_placeIn_38 rfl (lv_at hl 1 rfl) ?_
      refine lv_iload_n hx hb prd_M_placeIn_39 rfl (lv_at hl 2 rfl) ?_
      refine lv_iload_n hx hb prd_M_placeIn_40 rfl (lv_at hl 3 rfl) ?_
      obtain ⟨r16, hr16, hf⟩ := pr_bi hf
      refine pr_callVr (rest := []) (r := r16) ⟨hx, hb, hml, hown, hts⟩ 7 (prc_M_getPlace hD hX 1 (Nat.le_refl _) σ x1 x2 r16 hr16) (prg_M_getPlace hts prw_705 (by have := hh; omega)) hX hXs hK hP hS (by decide) rfl rfl rfl rfl hl.1 (Nat.le_of_ble_eq_true rfl) prd_M_placeIn_41 (fun H locs hP hS => ?_)
      refine lv_goto (tgt := 48) hx hb prd_M_placeIn_44 (by decide) ?_
      exact pr_reti E hP hS (pr_ro hf) prd_M_placeIn_48
  · have hf := pr_ie c14 hf
    refine lv_iload_n hx hb prd_M_placeIn_4 rfl (lv_at hl 1 rfl) ?_
    refine lv_aload_n hx hb prd_M_placeIn_5 rfl (lv_at hl 0 rfl) ?_
    refine pr_getr (t := 4) hx hb hts prs_M hown hK hP 7 2 (by decide) rfl (hts _ prw_680) rfl prd_M_placeIn_6 ?_
    refine lv_aload_n hx hb prd_M_placeIn_9 rfl (lv_at hl 0 rfl) ?_
    refine pr_geti (v := (σ.1 7 8)) hx hb hts prs_M hown hK hP 7 8 (by decide) rfl (hts _ prw_16) rfl rfl prd_M_placeIn_10 ?_
    obtain ⟨r17, hr17, hf⟩ := pr_bi hf
    refine pr_callVr (rest := [.int x1]) (r := r17) ⟨hx, hb, hml, hown, hts⟩ 4 (prc_O_arraysAt hD hX 1 (Nat.le_refl _) σ (σ.1 7 8) r17 hr17) (prg_O_arraysAt hts prw_752 (by have := hh; omega)) hX hXs hK hP hS (by decide) rfl rfl rfl rfl hl.1 (Nat.le_of_ble_eq_true rfl) prd_M_placeIn_13 (fun H locs hP hS => ?_)
    refine lv_icmp_ge (tgt := 32) hx hb prd_M_placeIn_16 (by decide) (fun c18 => ?_) (fun c18 => ?_)
    · have hf := pr_it c18 hf
      refine lv_iconst (v := 0) hx hb prd_M_placeIn_32 (by decide) ?_
      refine lv_istore_n (lv' := [(3, .int 0), (0, .ref (ad 7)), (1, .int x1), (2, .int x2)]) hx hb prd_M_placeIn_33 rfl hl (by decide) rfl (fun ls hl => ?_)
      refine lv_iload_n hx hb prd_M_placeIn_34 rfl (lv_at hl 0 rfl) ?_
      refine lv_if_eq (tgt := 47) hx hb prd_M_placeIn_35 (by decide) (fun c19 => ?_) (fun c19 => ?_)
      · have hf := pr_it c19 hf
        refine lv_iconst (v := 0) hx hb prd_M_placeIn_47 (by decide) ?_
        exact pr_reti E hP hS (pr_ro hf) prd_M_placeIn_48
      · have hf := pr_ie c19 hf
        refine lv_aload_n hx hb prd_M_placeIn_38 rfl (lv_at hl 1 rfl) ?_
        refine lv_iload_n hx hb prd_M_placeIn_39 rfl (lv_at hl 2 rfl) ?_
        refine lv_iload_n hx hb prd_M_placeIn_40 rfl (lv_at hl 3 rfl) ?_
        obtain ⟨r20, hr20, hf⟩ := pr_bi hf
        refine pr_callVr (rest := []) (r := r20) ⟨hx, hb, hml, hown, hts⟩ 7 (prc_M_getPlace hD hX 1 (Nat.le_refl _) σ x1 x2 r20 hr20) (prg_M_getPlace hts prw_705 (by have := hh; omega)) hX hXs hK hP hS (by decide) rfl rfl rfl rfl hl.1 (Nat.le_of_ble_eq_true rfl) prd_M_placeIn_41 (fun H locs hP hS => ?_)
        refine lv_goto (tgt := 48) hx hb prd_M_placeIn_44 (by decide) ?_
        exact pr_reti E hP hS (pr_ro hf) prd_M_placeIn_48
    · have hf := pr_ie c18 hf
      refine lv_aload_n hx hb prd_M_placeIn_19 rfl (lv_at hl 0 rfl) ?_
      refine lv_iload_n hx hb prd_M_placeIn_20 rfl (lv_at hl 1 rfl) ?_
      refine lv_iload_n hx hb prd_M_placeIn_21 rfl (lv_at hl 2 rfl) ?_
      obtain ⟨r21, hr21, hf⟩ := pr_bi hf
      refine pr_callVr (rest := []) (r := r21) ⟨hx, hb, hml, hown, hts⟩ 7 (prc_M_hasPlace hD hX 0 (Nat.le_refl _) σ x1 x2 r21 hr21) (prg_M_hasPlace hts prw_696 (by have := hh; omega)) hX hXs hK hP hS (by decide) rfl rfl rfl rfl hl.1 (Nat.le_of_ble_eq_true rfl) prd_M_placeIn_22 (fun H locs hP hS => ?_)
      refine lv_if_eq (tgt := 32) hx hb prd_M_placeIn_25 (by decide) (fun c22 => ?_) (fun c22 => ?_)
      · have hf := pr_it c22 hf
        refine lv_iconst (v := 0) hx hb prd_M_placeIn_32 (by decide) ?_
        refine lv_istore_n (lv' := [(3, .int 0), (0, .ref (ad 7)), (1, .int x1), (2, .int x2)]) hx hb prd_M_placeIn_33 rfl hl (by decide) rfl (fun ls hl => ?_)
        refine lv_iload_n hx hb prd_M_placeIn_34 rfl (lv_at hl 0 rfl) ?_
        refine lv_if_eq (tgt := 47) hx hb prd_M_placeIn_35 (by decide) (fun c23 => ?_) (fun c23 => ?_)
        · have hf := pr_it c23 hf
          refine lv_iconst (v := 0) hx hb prd_M_placeIn_47 (by decide) ?_
          exact pr_reti E hP hS (pr_ro hf) prd_M_placeIn_48
        · have hf := pr_ie c23 hf
          refine lv_aload_n hx hb prd_M_placeIn_38 rfl (lv_at hl 1 rfl) ?_
          refine lv_iload_n hx hb prd_M_placeIn_39 rfl (lv_at hl 2 rfl) ?_
          refine lv_iload_n hx hb prd_M_placeIn_40 rfl (lv_at hl 3 rfl) ?_
          obtain ⟨r24, hr24, hf⟩ := pr_bi hf
          refine pr_callVr (rest := []) (r := r24) ⟨hx, hb, hml, hown, hts⟩ 7 (prc_M_getPlace hD hX 1 (Nat.le_refl _) σ x1 x2 r24 hr24) (prg_M_getPlace hts prw_705 (by have := hh; omega)) hX hXs hK hP hS (by decide) rfl rfl rfl rfl hl.1 (Nat.le_of_ble_eq_true rfl) prd_M_placeIn_41 (fun H locs hP hS => ?_)
          refine lv_goto (tgt := 48) hx hb prd_M_placeIn_44 (by decide) ?_
          exact pr_reti E hP hS (pr_ro hf) prd_M_placeIn_48
      · have hf := pr_ie c22 hf
        refine lv_iconst (v := 1) hx hb prd_M_placeIn_28 (by decide) ?_
        refine lv_goto (tgt := 33) hx hb prd_M_placeIn_29 (by decide) ?_
        refine lv_istore_n (lv' := [(3, .int 1), (0, .ref (ad 7)), (1, .int x1), (2, .int x2)]) hx hb prd_M_placeIn_33 rfl hl (by decide) rfl (fun ls hl => ?_)
        refine lv_iload_n hx hb prd_M_placeIn_34 rfl (lv_at hl 0 rfl) ?_
        refine lv_if_eq (tgt := 47) hx hb prd_M_placeIn_35 (by decide) (fun c25 => ?_) (fun c25 => ?_)
        · have hf := pr_it c25 hf
          refine lv_iconst (v := 0) hx hb prd_M_placeIn_47 (by decide) ?_
          exact pr_reti E hP hS (pr_ro hf) prd_M_placeIn_48
        · have hf := pr_ie c25 hf
          refine lv_aload_n hx hb prd_M_placeIn_38 rfl (lv_at hl 1 rfl) ?_
          refine lv_iload_n hx hb prd_M_placeIn_39 rfl (lv_at hl 2 rfl) ?_
          refine lv_iload_n hx hb prd_M_placeIn_40 rfl (lv_at hl 3 rfl) ?_
          obtain ⟨r26, hr26, hf⟩ := pr_bi hf
          refine pr_callVr (rest := []) (r := r26) ⟨hx, hb, hml, hown, hts⟩ 7 (prc_M_getPlace hD hX 1 (Nat.le_refl _) σ x1 x2 r26 hr26) (prg_M_getPlace hts prw_705 (by have := hh; omega)) hX hXs hK hP hS (by decide) rfl rfl rfl rfl hl.1 (Nat.le_of_ble_eq_true rfl) prd_M_placeIn_41 (fun H locs hP hS => ?_)
          refine lv_goto (tgt := 48) hx hb prd_M_placeIn_44 (by decide) ?_
          exact pr_reti E hP hS (pr_ro hf) prd_M_placeIn_48
