-- G_clear
set_option maxHeartbeats 4000000 in
set_option maxRecDepth 100000 in
theorem prc_G_clear {l : Launch} {D : va_G} {ad : Nat → Nat} {dA : Nat → ClassId} {A : Nat → Prop} {t : Nat} (hD : ∀ σ : pr_St, va_D A (pr_w prc_L ad dA σ)) (hX : pr_Xok A (prX t A)) (h : Nat) (hh : 0 ≤ h) (σ : pr_St)  (res : pr_St) (hf : prf_G_clear σ  = some res) : Met l pry_G_clear (Cond.code pry_G_clear prb_G_clear 1 none :: pr_U) (pr_rm h) (pr_Pc (prX t A) D pr_cl prc_L ad dA [.ref (ad 2)] σ) (pr_Qv D pr_cl prc_L ad dA A res) 0 0 A := by
  refine pr_entry (cc := prb_G_clear) (maxL := 1) (ret := none) (by decide) (Nat.le_of_ble_eq_true rfl) hD hX ?_
  intro p e s m args below meth c E H locs hP hS ls hl
  have hl : lv_has ls 1 [(0, .ref (ad 2))] := hl
  have hf := hf.symm
  unfold prf_G_clear at hf
  obtain ⟨hx, hb, hml, hown, hts, hr, hlocks, hK, hD, hX, hXs⟩ := id E
  refine lv_aload_n hx hb prd_G_clear_0 rfl (lv_at hl 0 rfl) ?_
  refine lv_iconst (v := 0) hx hb prd_G_clear_1 (by decide) ?_
  refine pr_puti (ty := .int) hx hb hts prs_G prq_G prtt_G prtn_G hown hK hP (hD _) hS 2 5 (by decide) rfl (hts _ prw_79) rfl rfl (prtt_G 5 (by decide)) rfl rfl prd_G_clear_2 (fun H locs hP hS => ?_)
  refine lv_aload_n hx hb prd_G_clear_5 rfl (lv_at hl 0 rfl) ?_
  refine lv_iconst (v := 0) hx hb prd_G_clear_6 (by decide) ?_
  refine pr_puti (ty := .int) hx hb hts prs_G prq_G prtt_G prtn_G hown hK hP (hD _) hS 2 11 (by decide) rfl (hts _ prw_80) rfl rfl (prtt_G 11 (by decide)) rfl rfl prd_G_clear_7 (fun H locs hP hS => ?_)
  refine lv_aload_n hx hb prd_G_clear_10 rfl (lv_at hl 0 rfl) ?_
  refine lv_iconst (v := 0) hx hb prd_G_clear_11 (by decide) ?_
  refine pr_puti (ty := .int) hx hb hts prs_G prq_G prtt_G prtn_G hown hK hP (hD _) hS 2 14 (by decide) rfl (hts _ prw_81) rfl rfl (prtt_G 14 (by decide)) rfl rfl prd_G_clear_12 (fun H locs hP hS => ?_)
  exact pr_retv E hP hS (pr_so hf) prd_G_clear_15
-- G_openFunction
set_option maxHeartbeats 4000000 in
set_option maxRecDepth 100000 in
theorem prc_G_openFunction {l : Launch} {D : va_G} {ad : Nat → Nat} {dA : Nat → ClassId} {A : Nat → Prop} {t : Nat} (hD : ∀ σ : pr_St, va_D A (pr_w prc_L ad dA σ)) (hX : pr_Xok A (prX t A)) (h : Nat) (hh : 0 ≤ h) (σ : pr_St) (x1 : Int32) (x2 : Int32) (res : (Int32 × pr_St)) (hf : prf_G_openFunction σ x1 x2 = some res) : Met l pry_G_openFunction (Cond.code pry_G_openFunction prb_G_openFunction 3 (some .boolean) :: pr_U) (pr_rm h) (pr_Pc (prX t A) D pr_cl prc_L ad dA [.ref (ad 2), .int x1, .int x2] σ) (pr_Qi D pr_cl prc_L ad dA A res) 0 0 A := by
  refine pr_entry (cc := prb_G_openFunction) (maxL := 3) (ret := (some .boolean)) (by decide) (Nat.le_of_ble_eq_true rfl) hD hX ?_
  intro p e s m args below meth c E H locs hP hS ls hl
  have hl : lv_has ls 3 [(0, .ref (ad 2)), (1, .int x1), (2, .int x2)] := hl
  have hf := hf.symm
  unfold prf_G_openFunction at hf
  obtain ⟨hx, hb, hml, hown, hts, hr, hlocks, hK, hD, hX, hXs⟩ := id E
  refine lv_aload_n hx hb prd_G_openFunction_0 rfl (lv_at hl 0 rfl) ?_
  refine pr_geti (v := (σ.1 2 5)) hx hb hts prs_G hown hK hP 2 5 (by decide) rfl (hts _ prw_79) rfl rfl prd_G_openFunction_1 ?_
  refine lv_aload_n hx hb prd_G_openFunction_4 rfl (lv_at hl 0 rfl) ?_
  refine pr_getr (t := 12) hx hb hts prs_G hown hK hP 2 0 (by decide) rfl (hts _ prw_103) rfl prd_G_openFunction_5 ?_
  refine pr_alen (v := 889) hx hb hK hP 12 (by decide) (by decide) prd_G_openFunction_8 ?_
  refine lv_icmp_lt (tgt := 14) hx hb prd_G_openFunction_9 (by decide) (fun c5 => ?_) (fun c5 => ?_)
  · have hf := pr_it c5 hf
    refine lv_aload_n hx hb prd_G_openFunction_14 rfl (lv_at hl 0 rfl) ?_
    refine pr_getr (t := 12) hx hb hts prs_G hown hK hP 2 0 (by decide) rfl (hts _ prw_103) rfl prd_G_openFunction_15 ?_
    refine lv_aload_n hx hb prd_G_openFunction_18 rfl (lv_at hl 0 rfl) ?_
    refine pr_geti (v := (σ.1 2 5)) hx hb hts prs_G hown hK hP 2 5 (by decide) rfl (hts _ prw_79) rfl rfl prd_G_openFunction_19 ?_
    refine lv_iload_n hx hb prd_G_openFunction_22 rfl (lv_at hl 1 rfl) ?_
    obtain ⟨hi6, hf⟩ := pr_ck_in hf
    refine pr_iast (f := (σ.2.1 12)) hx hb hK hP (hD _) hS 12 (by decide) rfl hi6 rfl prd_G_openFunction_23 (fun H locs hP hS => ?_)
    refine lv_aload_n hx hb prd_G_openFunction_24 rfl (lv_at hl 0 rfl) ?_
    refine pr_getr (t := 13) hx hb hts prs_G hown hK hP 2 1 (by decide) rfl (hts _ prw_104) rfl prd_G_openFunction_25 ?_
    refine lv_aload_n hx hb prd_G_openFunction_28 rfl (lv_at hl 0 rfl) ?_
    refine pr_geti (v := (σ.1 2 5)) hx hb hts prs_G hown hK hP 2 5 (by decide) rfl (hts _ prw_79) rfl rfl prd_G_openFunction_29 ?_
    refine lv_iload_n hx hb prd_G_openFunction_32 rfl (lv_at hl 2 rfl) ?_
    obtain ⟨hi7, hf⟩ := pr_ck_in hf
    refine pr_iast (f := (σ.2.1 13)) hx hb hK hP (hD _) hS 13 (by decide) rfl hi7 rfl prd_G_openFunction_33 (fun H locs hP hS => ?_)
    refine lv_aload_n hx hb prd_G_openFunction_34 rfl (lv_at hl 0 rfl) ?_
    refine pr_getr (t := 14) hx hb hts prs_G hown hK hP 2 2 (by decide) rfl (hts _ prw_105) rfl prd_G_openFunction_35 ?_
    refine lv_aload_n hx hb prd_G_openFunction_38 rfl (lv_at hl 0 rfl) ?_
    refine pr_geti (v := (σ.1 2 5)) hx hb hts prs_G hown hK hP 2 5 (by decide) rfl (hts _ prw_79) rfl rfl prd_G_openFunction_39 ?_
    refine lv_aload_n hx hb prd_G_openFunction_42 rfl (lv_at hl 0 rfl) ?_
    refine pr_geti (v := (σ.1 2 11)) hx hb hts prs_G hown hK hP 2 11 (by decide) rfl (hts _ prw_80) rfl rfl prd_G_openFunction_43 ?_
    obtain ⟨hi8, hf⟩ := pr_ck_in hf
    refine pr_iast (f := (σ.2.1 14)) hx hb hK hP (hD _) hS 14 (by decide) rfl hi8 rfl prd_G_openFunction_46 (fun H locs hP hS => ?_)
    refine lv_aload_n hx hb prd_G_openFunction_47 rfl (lv_at hl 0 rfl) ?_
    refine lv_dup hx hb prd_G_openFunction_48 rfl ?_
    refine pr_geti (v := (σ.1 2 5)) hx hb hts prs_G hown hK hP 2 5 (by decide) rfl (hts _ prw_79) rfl rfl prd_G_openFunction_49 ?_
    refine lv_iconst (v := 1) hx hb prd_G_openFunction_52 (by decide) ?_
    refine lv_iadd hx hb prd_G_openFunction_53 ?_
    refine pr_puti (ty := .int) hx hb hts prs_G prq_G prtt_G prtn_G hown hK hP (hD _) hS 2 5 (by decide) rfl (hts _ prw_79) rfl rfl (prtt_G 5 (by decide)) rfl rfl prd_G_openFunction_54 (fun H locs hP hS => ?_)
    refine lv_iconst (v := 1) hx hb prd_G_openFunction_57 (by decide) ?_
    exact pr_retz E (Or.inr rfl) hP hS (pr_so hf) prd_G_openFunction_58
  · have hf := pr_ie c5 hf
    refine lv_iconst (v := 0) hx hb prd_G_openFunction_12 (by decide) ?_
    exact pr_retz E (Or.inl rfl) hP hS (pr_so hf) prd_G_openFunction_13
-- G_openStatement
set_option maxHeartbeats 4000000 in
set_option maxRecDepth 100000 in
theorem prc_G_openStatement {l : Launch} {D : va_G} {ad : Nat → Nat} {dA : Nat → ClassId} {A : Nat → Prop} {t : Nat} (hD : ∀ σ : pr_St, va_D A (pr_w prc_L ad dA σ)) (hX : pr_Xok A (prX t A)) (h : Nat) (hh : 0 ≤ h) (σ : pr_St) (x1 : Int32) (x2 : Int32) (res : (Int32 × pr_St)) (hf : prf_G_openStatement σ x1 x2 = some res) : Met l pry_G_openStatement (Cond.code pry_G_openStatement prb_G_openStatement 4 (some .int) :: pr_U) (pr_rm h) (pr_Pc (prX t A) D pr_cl prc_L ad dA [.ref (ad 2), .int x1, .int x2] σ) (pr_Qi D pr_cl prc_L ad dA A res) 0 0 A := by
  refine pr_entry (cc := prb_G_openStatement) (maxL := 4) (ret := (some .int)) (by decide) (Nat.le_of_ble_eq_true rfl) hD hX ?_
  intro p e s m args below meth c E H locs hP hS ls hl
  have hl : lv_has ls 4 [(0, .ref (ad 2)), (1, .int x1), (2, .int x2)] := hl
  have hf := hf.symm
  unfold prf_G_openStatement at hf
  obtain ⟨hx, hb, hml, hown, hts, hr, hlocks, hK, hD, hX, hXs⟩ := id E
  refine lv_aload_n hx hb prd_G_openStatement_0 rfl (lv_at hl 0 rfl) ?_
  refine pr_geti (v := (σ.1 2 11)) hx hb hts prs_G hown hK hP 2 11 (by decide) rfl (hts _ prw_80) rfl rfl prd_G_openStatement_1 ?_
  refine lv_aload_n hx hb prd_G_openStatement_4 rfl (lv_at hl 0 rfl) ?_
  refine pr_getr (t := 17) hx hb hts prs_G hown hK hP 2 6 (by decide) rfl (hts _ prw_127) rfl prd_G_openStatement_5 ?_
  refine pr_alen (v := 2001) hx hb hK hP 17 (by decide) (by decide) prd_G_openStatement_8 ?_
  refine lv_icmp_lt (tgt := 14) hx hb prd_G_openStatement_9 (by decide) (fun c6 => ?_) (fun c6 => ?_)
  · have hf := pr_it c6 hf
    refine lv_aload_n hx hb prd_G_openStatement_14 rfl (lv_at hl 0 rfl) ?_
    refine pr_geti (v := (σ.1 2 11)) hx hb hts prs_G hown hK hP 2 11 (by decide) rfl (hts _ prw_80) rfl rfl prd_G_openStatement_15 ?_
    refine lv_istore_n (lv' := [(3, .int (σ.1 2 11)), (0, .ref (ad 2)), (1, .int x1), (2, .int x2)]) hx hb prd_G_openStatement_18 rfl hl (by decide) rfl (fun ls hl => ?_)
    refine lv_aload_n hx hb prd_G_openStatement_19 rfl (lv_at hl 1 rfl) ?_
    refine pr_getr (t := 17) hx hb hts prs_G hown hK hP 2 6 (by decide) rfl (hts _ prw_127) rfl prd_G_openStatement_20 ?_
    refine lv_iload_n hx hb prd_G_openStatement_23 rfl (lv_at hl 0 rfl) ?_
    refine lv_iload_n hx hb prd_G_openStatement_24 rfl (lv_at hl 2 rfl) ?_
    refine lv_i2b (v := x1.toInt8.toInt32) hx hb prd_G_openStatement_25 rfl ?_
    obtain ⟨hi7, hf⟩ := pr_ck_in hf
    refine pr_bast (f := (σ.2.1 17)) hx hb hK hP (hD _) hS 17 (by decide) rfl hi7 rfl prd_G_openStatement_26 (fun H locs hP hS => ?_)
    refine lv_aload_n hx hb prd_G_openStatement_27 rfl (lv_at hl 1 rfl) ?_
    refine pr_getr (t := 18) hx hb hts prs_G hown hK hP 2 7 (by decide) rfl (hts _ prw_128) rfl prd_G_openStatement_28 ?_
    refine lv_iload_n hx hb prd_G_openStatement_31 rfl (lv_at hl 0 rfl) ?_
    refine lv_iload_n hx hb prd_G_openStatement_32 rfl (lv_at hl 3 rfl) ?_
    obtain ⟨hi8, hf⟩ := pr_ck_in hf
    refine pr_iast (f := (σ.2.1 18)) hx hb hK hP (hD _) hS 18 (by decide) rfl hi8 rfl prd_G_openStatement_33 (fun H locs hP hS => ?_)
    refine lv_aload_n hx hb prd_G_openStatement_34 rfl (lv_at hl 1 rfl) ?_
    refine pr_getr (t := 19) hx hb hts prs_G hown hK hP 2 8 (by decide) rfl (hts _ prw_129) rfl prd_G_openStatement_35 ?_
    refine lv_iload_n hx hb prd_G_openStatement_38 rfl (lv_at hl 0 rfl) ?_
    refine lv_aload_n hx hb prd_G_openStatement_39 rfl (lv_at hl 1 rfl) ?_
    refine pr_geti (v := (σ.1 2 14)) hx hb hts prs_G hown hK hP 2 14 (by decide) rfl (hts _ prw_81) rfl rfl prd_G_openStatement_40 ?_
    obtain ⟨hi9, hf⟩ := pr_ck_in hf
    refine pr_iast (f := (σ.2.1 19)) hx hb hK hP (hD _) hS 19 (by decide) rfl hi9 rfl prd_G_openStatement_43 (fun H locs hP hS => ?_)
    refine lv_aload_n hx hb prd_G_openStatement_44 rfl (lv_at hl 1 rfl) ?_
    refine pr_getr (t := 20) hx hb hts prs_G hown hK hP 2 9 (by decide) rfl (hts _ prw_130) rfl prd_G_openStatement_45 ?_
    refine lv_iload_n hx hb prd_G_openStatement_48 rfl (lv_at hl 0 rfl) ?_
    refine lv_iconst (v := 0) hx hb prd_G_openStatement_49 (by decide) ?_
    obtain ⟨hi10, hf⟩ := pr_ck_in hf
    refine pr_iast (f := (σ.2.1 20)) hx hb hK hP (hD _) hS 20 (by decide) rfl hi10 rfl prd_G_openStatement_50 (fun H locs hP hS => ?_)
    refine lv_aload_n hx hb prd_G_openStatement_51 rfl (lv_at hl 1 rfl) ?_
    refine lv_dup hx hb prd_G_openStatement_52 rfl ?_
    refine pr_geti (v := (σ.1 2 11)) hx hb hts prs_G hown hK hP 2 11 (by decide) rfl (hts _ prw_80) rfl rfl prd_G_openStatement_53 ?_
    refine lv_iconst (v := 1) hx hb prd_G_openStatement_56 (by decide) ?_
    refine lv_iadd hx hb prd_G_openStatement_57 ?_
    refine pr_puti (ty := .int) hx hb hts prs_G prq_G prtt_G prtn_G hown hK hP (hD _) hS 2 11 (by decide) rfl (hts _ prw_80) rfl rfl (prtt_G 11 (by decide)) rfl rfl prd_G_openStatement_58 (fun H locs hP hS => ?_)
    refine lv_iload_n hx hb prd_G_openStatement_61 rfl (lv_at hl 0 rfl) ?_
    exact pr_reti E hP hS (pr_so hf) prd_G_openStatement_62
  · have hf := pr_ie c6 hf
    refine lv_iconst (v := (-1)) hx hb prd_G_openStatement_12 (by decide) ?_
    exact pr_reti E hP hS (pr_so hf) prd_G_openStatement_13
-- G_addOperation
set_option maxHeartbeats 4000000 in
set_option maxRecDepth 100000 in
theorem prc_G_addOperation {l : Launch} {D : va_G} {ad : Nat → Nat} {dA : Nat → ClassId} {A : Nat → Prop} {t : Nat} (hD : ∀ σ : pr_St, va_D A (pr_w prc_L ad dA σ)) (hX : pr_Xok A (prX t A)) (h : Nat) (hh : 0 ≤ h) (σ : pr_St) (x1 : Int32) (x2 : Int32) (res : pr_St) (hf : prf_G_addOperation σ x1 x2 = some res) : Met l pry_G_addOperation (Cond.code pry_G_addOperation prb_G_addOperation 3 none :: pr_U) (pr_rm h) (pr_Pc (prX t A) D pr_cl prc_L ad dA [.ref (ad 2), .int x1, .int x2] σ) (pr_Qv D pr_cl prc_L ad dA A res) 0 0 A := by
  refine pr_entry (cc := prb_G_addOperation) (maxL := 3) (ret := none) (by decide) (Nat.le_of_ble_eq_true rfl) hD hX ?_
  intro p e s m args below meth c E H locs hP hS ls hl
  have hl : lv_has ls 3 [(0, .ref (ad 2)), (1, .int x1), (2, .int x2)] := hl
  have hf := hf.symm
  unfold prf_G_addOperation at hf
  obtain ⟨hx, hb, hml, hown, hts, hr, hlocks, hK, hD, hX, hXs⟩ := id E
  refine lv_aload_n hx hb prd_G_addOperation_0 rfl (lv_at hl 0 rfl) ?_
  refine pr_geti (v := (σ.1 2 14)) hx hb hts prs_G hown hK hP 2 14 (by decide) rfl (hts _ prw_81) rfl rfl prd_G_addOperation_1 ?_
  refine lv_aload_n hx hb prd_G_addOperation_4 rfl (lv_at hl 0 rfl) ?_
  refine pr_getr (t := 22) hx hb hts prs_G hown hK hP 2 12 (by decide) rfl (hts _ prw_134) rfl prd_G_addOperation_5 ?_
  refine pr_alen (v := 8001) hx hb hK hP 22 (by decide) (by decide) prd_G_addOperation_8 ?_
  refine lv_icmp_ge (tgt := 43) hx hb prd_G_addOperation_9 (by decide) (fun c4 => ?_) (fun c4 => ?_)
  · have hf := pr_it c4 hf
    exact pr_retv E hP hS (pr_so hf) prd_G_addOperation_43
  · have hf := pr_ie c4 hf
    refine lv_aload_n hx hb prd_G_addOperation_12 rfl (lv_at hl 0 rfl) ?_
    refine pr_getr (t := 22) hx hb hts prs_G hown hK hP 2 12 (by decide) rfl (hts _ prw_134) rfl prd_G_addOperation_13 ?_
    refine lv_aload_n hx hb prd_G_addOperation_16 rfl (lv_at hl 0 rfl) ?_
    refine pr_geti (v := (σ.1 2 14)) hx hb hts prs_G hown hK hP 2 14 (by decide) rfl (hts _ prw_81) rfl rfl prd_G_addOperation_17 ?_
    refine lv_iload_n hx hb prd_G_addOperation_20 rfl (lv_at hl 1 rfl) ?_
    refine lv_i2b (v := x1.toInt8.toInt32) hx hb prd_G_addOperation_21 rfl ?_
    obtain ⟨hi5, hf⟩ := pr_ck_in hf
    refine pr_bast (f := (σ.2.1 22)) hx hb hK hP (hD _) hS 22 (by decide) rfl hi5 rfl prd_G_addOperation_22 (fun H locs hP hS => ?_)
    refine lv_aload_n hx hb prd_G_addOperation_23 rfl (lv_at hl 0 rfl) ?_
    refine pr_getr (t := 23) hx hb hts prs_G hown hK hP 2 13 (by decide) rfl (hts _ prw_135) rfl prd_G_addOperation_24 ?_
    refine lv_aload_n hx hb prd_G_addOperation_27 rfl (lv_at hl 0 rfl) ?_
    refine pr_geti (v := (σ.1 2 14)) hx hb hts prs_G hown hK hP 2 14 (by decide) rfl (hts _ prw_81) rfl rfl prd_G_addOperation_28 ?_
    refine lv_iload_n hx hb prd_G_addOperation_31 rfl (lv_at hl 2 rfl) ?_
    obtain ⟨hi6, hf⟩ := pr_ck_in hf
    refine pr_iast (f := (σ.2.1 23)) hx hb hK hP (hD _) hS 23 (by decide) rfl hi6 rfl prd_G_addOperation_32 (fun H locs hP hS => ?_)
    refine lv_aload_n hx hb prd_G_addOperation_33 rfl (lv_at hl 0 rfl) ?_
    refine lv_dup hx hb prd_G_addOperation_34 rfl ?_
    refine pr_geti (v := (σ.1 2 14)) hx hb hts prs_G hown hK hP 2 14 (by decide) rfl (hts _ prw_81) rfl rfl prd_G_addOperation_35 ?_
    refine lv_iconst (v := 1) hx hb prd_G_addOperation_38 (by decide) ?_
    refine lv_iadd hx hb prd_G_addOperation_39 ?_
    refine pr_puti (ty := .int) hx hb hts prs_G prq_G prtt_G prtn_G hown hK hP (hD _) hS 2 14 (by decide) rfl (hts _ prw_81) rfl rfl (prtt_G 14 (by decide)) rfl rfl prd_G_addOperation_40 (fun H locs hP hS => ?_)
    exact pr_retv E hP hS (pr_so hf) prd_G_addOperation_43
-- G_isStatement
set_option maxHeartbeats 4000000 in
set_option maxRecDepth 100000 in
theorem prc_G_isStatement {l : Launch} {D : va_G} {ad : Nat → Nat} {dA : Nat → ClassId} {A : Nat → Prop} {t : Nat} (hD : ∀ σ : pr_St, va_D A (pr_w prc_L ad dA σ)) (hX : pr_Xok A (prX t A)) (h : Nat) (hh : 0 ≤ h) (σ : pr_St) (x1 : Int32) (res : Int32) (hf : prf_G_isStatement σ x1 = some res) : Met l pry_G_isStatement (Cond.code pry_G_isStatement prb_G_isStatement 2 (some .boolean) :: pr_U) (pr_rm h) (pr_Pc (prX t A) D pr_cl prc_L ad dA [.ref (ad 2), .int x1] σ) (pr_Qi D pr_cl prc_L ad dA A (res, σ)) 0 0 A := by
  refine pr_entry (cc := prb_G_isStatement) (maxL := 2) (ret := (some .boolean)) (by decide) (Nat.le_of_ble_eq_true rfl) hD hX ?_
  intro p e s m args below meth c E H locs hP hS ls hl
  have hl : lv_has ls 2 [(0, .ref (ad 2)), (1, .int x1)] := hl
  have hf := hf.symm
  unfold prf_G_isStatement at hf
  obtain ⟨hx, hb, hml, hown, hts, hr, hlocks, hK, hD, hX, hXs⟩ := id E
  refine lv_iload_n hx hb prd_G_isStatement_0 rfl (lv_at hl 1 rfl) ?_
  refine lv_if_lt (tgt := 16) hx hb prd_G_isStatement_1 (by decide) (fun c3 => ?_) (fun c3 => ?_)
  · have hf := pr_it c3 hf
    refine lv_iconst (v := 0) hx hb prd_G_isStatement_16 (by decide) ?_
    exact pr_retz E (Or.inl rfl) hP hS (pr_ro hf) prd_G_isStatement_17
  · have hf := pr_ie c3 hf
    refine lv_iload_n hx hb prd_G_isStatement_4 rfl (lv_at hl 1 rfl) ?_
    refine lv_aload_n hx hb prd_G_isStatement_5 rfl (lv_at hl 0 rfl) ?_
    refine pr_geti (v := (σ.1 2 11)) hx hb hts prs_G hown hK hP 2 11 (by decide) rfl (hts _ prw_80) rfl rfl prd_G_isStatement_6 ?_
    refine lv_icmp_ge (tgt := 16) hx hb prd_G_isStatement_9 (by decide) (fun c4 => ?_) (fun c4 => ?_)
    · have hf := pr_it c4 hf
      refine lv_iconst (v := 0) hx hb prd_G_isStatement_16 (by decide) ?_
      exact pr_retz E (Or.inl rfl) hP hS (pr_ro hf) prd_G_isStatement_17
    · have hf := pr_ie c4 hf
      refine lv_iconst (v := 1) hx hb prd_G_isStatement_12 (by decide) ?_
      refine lv_goto (tgt := 17) hx hb prd_G_isStatement_13 (by decide) ?_
      exact pr_retz E (Or.inr rfl) hP hS (pr_ro hf) prd_G_isStatement_17
-- G_setDetail
set_option maxHeartbeats 4000000 in
set_option maxRecDepth 100000 in
theorem prc_G_setDetail {l : Launch} {D : va_G} {ad : Nat → Nat} {dA : Nat → ClassId} {A : Nat → Prop} {t : Nat} (hD : ∀ σ : pr_St, va_D A (pr_w prc_L ad dA σ)) (hX : pr_Xok A (prX t A)) (h : Nat) (hh : 1 ≤ h) (σ : pr_St) (x1 : Int32) (x2 : Int32) (res : pr_St) (hf : prf_G_setDetail σ x1 x2 = some res) : Met l pry_G_setDetail (Cond.code pry_G_setDetail prb_G_setDetail 3 none :: pr_U) (pr_rm h) (pr_Pc (prX t A) D pr_cl prc_L ad dA [.ref (ad 2), .int x1, .int x2] σ) (pr_Qv D pr_cl prc_L ad dA A res) 0 0 A := by
  refine pr_entry (cc := prb_G_setDetail) (maxL := 3) (ret := none) (by decide) (Nat.le_of_ble_eq_true rfl) hD hX ?_
  intro p e s m args below meth c E H locs hP hS ls hl
  have hl : lv_has ls 3 [(0, .ref (ad 2)), (1, .int x1), (2, .int x2)] := hl
  have hf := hf.symm
  unfold prf_G_setDetail at hf
  obtain ⟨hx, hb, hml, hown, hts, hr, hlocks, hK, hD, hX, hXs⟩ := id E
  refine lv_aload_n hx hb prd_G_setDetail_0 rfl (lv_at hl 0 rfl) ?_
  refine lv_iload_n hx hb prd_G_setDetail_1 rfl (lv_at hl 1 rfl) ?_
  obtain ⟨r4, hr4, hf⟩ := pr_bi hf
  refine pr_callVr (rest := []) (r := r4) ⟨hx, hb, hml, hown, hts⟩ 2 (prc_G_isStatement hD hX 0 (Nat.le_refl _) σ x1 r4 hr4) (prg_G_isStatement hts prw_165 (by have := hh; omega)) hX hXs hK hP hS (by decide) rfl rfl rfl rfl hl.1 (Nat.le_of_ble_eq_true rfl) prd_G_setDetail_2 (fun H locs hP hS => ?_)
  refine lv_if_eq (tgt := 15) hx hb prd_G_setDetail_5 (by decide) (fun c5 => ?_) (fun c5 => ?_)
  · have hf := pr_it c5 hf
    exact pr_retv E hP hS (pr_so hf) prd_G_setDetail_15
  · have hf := pr_ie c5 hf
    refine lv_aload_n hx hb prd_G_setDetail_8 rfl (lv_at hl 0 rfl) ?_
    refine pr_getr (t := 20) hx hb hts prs_G hown hK hP 2 9 (by decide) rfl (hts _ prw_130) rfl prd_G_setDetail_9 ?_
    refine lv_iload_n hx hb prd_G_setDetail_12 rfl (lv_at hl 1 rfl) ?_
    refine lv_iload_n hx hb prd_G_setDetail_13 rfl (lv_at hl 2 rfl) ?_
    obtain ⟨hi6, hf⟩ := pr_ck_in hf
    refine pr_iast (f := (σ.2.1 20)) hx hb hK hP (hD _) hS 20 (by decide) rfl hi6 rfl prd_G_setDetail_14 (fun H locs hP hS => ?_)
    exact pr_retv E hP hS (pr_so hf) prd_G_setDetail_15
-- G_operationCount
set_option maxHeartbeats 4000000 in
set_option maxRecDepth 100000 in
theorem prc_G_operationCount {l : Launch} {D : va_G} {ad : Nat → Nat} {dA : Nat → ClassId} {A : Nat → Prop} {t : Nat} (hD : ∀ σ : pr_St, va_D A (pr_w prc_L ad dA σ)) (hX : pr_Xok A (prX t A)) (h : Nat) (hh : 0 ≤ h) (σ : pr_St)  (res : Int32) (hf : prf_G_operationCount σ  = some res) : Met l pry_G_operationCount (Cond.code pry_G_operationCount prb_G_operationCount 1 (some .int) :: pr_U) (pr_rm h) (pr_Pc (prX t A) D pr_cl prc_L ad dA [.ref (ad 2)] σ) (pr_Qi D pr_cl prc_L ad dA A (res, σ)) 0 0 A := by
  refine pr_entry (cc := prb_G_operationCount) (maxL := 1) (ret := (some .int)) (by decide) (Nat.le_of_ble_eq_true rfl) hD hX ?_
  intro p e s m args below meth c E H locs hP hS ls hl
  have hl : lv_has ls 1 [(0, .ref (ad 2))] := hl
  have hf := hf.symm
  unfold prf_G_operationCount at hf
  obtain ⟨hx, hb, hml, hown, hts, hr, hlocks, hK, hD, hX, hXs⟩ := id E
  refine lv_aload_n hx hb prd_G_operationCount_0 rfl (lv_at hl 0 rfl) ?_
  refine pr_geti (v := (σ.1 2 14)) hx hb hts prs_G hown hK hP 2 14 (by decide) rfl (hts _ prw_81) rfl rfl prd_G_operationCount_1 ?_
  exact pr_reti E hP hS (pr_ro hf) prd_G_operationCount_4
-- G_isOperation
set_option maxHeartbeats 4000000 in
set_option maxRecDepth 100000 in
theorem prc_G_isOperation {l : Launch} {D : va_G} {ad : Nat → Nat} {dA : Nat → ClassId} {A : Nat → Prop} {t : Nat} (hD : ∀ σ : pr_St, va_D A (pr_w prc_L ad dA σ)) (hX : pr_Xok A (prX t A)) (h : Nat) (hh : 0 ≤ h) (σ : pr_St) (x1 : Int32) (res : Int32) (hf : prf_G_isOperation σ x1 = some res) : Met l pry_G_isOperation (Cond.code pry_G_isOperation prb_G_isOperation 2 (some .boolean) :: pr_U) (pr_rm h) (pr_Pc (prX t A) D pr_cl prc_L ad dA [.ref (ad 2), .int x1] σ) (pr_Qi D pr_cl prc_L ad dA A (res, σ)) 0 0 A := by
  refine pr_entry (cc := prb_G_isOperation) (maxL := 2) (ret := (some .boolean)) (by decide) (Nat.le_of_ble_eq_true rfl) hD hX ?_
  intro p e s m args below meth c E H locs hP hS ls hl
  have hl : lv_has ls 2 [(0, .ref (ad 2)), (1, .int x1)] := hl
  have hf := hf.symm
  unfold prf_G_isOperation at hf
  obtain ⟨hx, hb, hml, hown, hts, hr, hlocks, hK, hD, hX, hXs⟩ := id E
  refine lv_iload_n hx hb prd_G_isOperation_0 rfl (lv_at hl 1 rfl) ?_
  refine lv_if_lt (tgt := 16) hx hb prd_G_isOperation_1 (by decide) (fun c3 => ?_) (fun c3 => ?_)
  · have hf := pr_it c3 hf
    refine lv_iconst (v := 0) hx hb prd_G_isOperation_16 (by decide) ?_
    exact pr_retz E (Or.inl rfl) hP hS (pr_ro hf) prd_G_isOperation_17
  · have hf := pr_ie c3 hf
    refine lv_iload_n hx hb prd_G_isOperation_4 rfl (lv_at hl 1 rfl) ?_
    refine lv_aload_n hx hb prd_G_isOperation_5 rfl (lv_at hl 0 rfl) ?_
    refine pr_geti (v := (σ.1 2 14)) hx hb hts prs_G hown hK hP 2 14 (by decide) rfl (hts _ prw_81) rfl rfl prd_G_isOperation_6 ?_
    refine lv_icmp_ge (tgt := 16) hx hb prd_G_isOperation_9 (by decide) (fun c4 => ?_) (fun c4 => ?_)
    · have hf := pr_it c4 hf
      refine lv_iconst (v := 0) hx hb prd_G_isOperation_16 (by decide) ?_
      exact pr_retz E (Or.inl rfl) hP hS (pr_ro hf) prd_G_isOperation_17
    · have hf := pr_ie c4 hf
      refine lv_iconst (v := 1) hx hb prd_G_isOperation_12 (by decide) ?_
      refine lv_goto (tgt := 17) hx hb prd_G_isOperation_13 (by decide) ?_
      exact pr_retz E (Or.inr rfl) hP hS (pr_ro hf) prd_G_isOperation_17
-- G_leapToHere
set_option maxHeartbeats 4000000 in
set_option maxRecDepth 100000 in
theorem prc_G_leapToHere {l : Launch} {D : va_G} {ad : Nat → Nat} {dA : Nat → ClassId} {A : Nat → Prop} {t : Nat} (hD : ∀ σ : pr_St, va_D A (pr_w prc_L ad dA σ)) (hX : pr_Xok A (prX t A)) (h : Nat) (hh : 1 ≤ h) (σ : pr_St) (x1 : Int32) (res : pr_St) (hf : prf_G_leapToHere σ x1 = some res) : Met l pry_G_leapToHere (Cond.code pry_G_leapToHere prb_G_leapToHere 2 none :: pr_U) (pr_rm h) (pr_Pc (prX t A) D pr_cl prc_L ad dA [.ref (ad 2), .int x1] σ) (pr_Qv D pr_cl prc_L ad dA A res) 0 0 A := by
  refine pr_entry (cc := prb_G_leapToHere) (maxL := 2) (ret := none) (by decide) (Nat.le_of_ble_eq_true rfl) hD hX ?_
  intro p e s m args below meth c E H locs hP hS ls hl
  have hl : lv_has ls 2 [(0, .ref (ad 2)), (1, .int x1)] := hl
  have hf := hf.symm
  unfold prf_G_leapToHere at hf
  obtain ⟨hx, hb, hml, hown, hts, hr, hlocks, hK, hD, hX, hXs⟩ := id E
  refine lv_aload_n hx hb prd_G_leapToHere_0 rfl (lv_at hl 0 rfl) ?_
  refine lv_iload_n hx hb prd_G_leapToHere_1 rfl (lv_at hl 1 rfl) ?_
  obtain ⟨r4, hr4, hf⟩ := pr_bi hf
  refine pr_callVr (rest := []) (r := r4) ⟨hx, hb, hml, hown, hts⟩ 2 (prc_G_isOperation hD hX 0 (Nat.le_refl _) σ x1 r4 hr4) (prg_G_isOperation hts prw_179 (by have := hh; omega)) hX hXs hK hP hS (by decide) rfl rfl rfl rfl hl.1 (Nat.le_of_ble_eq_true rfl) prd_G_leapToHere_2 (fun H locs hP hS => ?_)
  refine lv_if_eq (tgt := 18) hx hb prd_G_leapToHere_5 (by decide) (fun c5 => ?_) (fun c5 => ?_)
  · have hf := pr_it c5 hf
    exact pr_retv E hP hS (pr_so hf) prd_G_leapToHere_18
  · have hf := pr_ie c5 hf
    refine lv_aload_n hx hb prd_G_leapToHere_8 rfl (lv_at hl 0 rfl) ?_
    refine pr_getr (t := 23) hx hb hts prs_G hown hK hP 2 13 (by decide) rfl (hts _ prw_135) rfl prd_G_leapToHere_9 ?_
    refine lv_iload_n hx hb prd_G_leapToHere_12 rfl (lv_at hl 1 rfl) ?_
    refine lv_aload_n hx hb prd_G_leapToHere_13 rfl (lv_at hl 0 rfl) ?_
    refine pr_geti (v := (σ.1 2 14)) hx hb hts prs_G hown hK hP 2 14 (by decide) rfl (hts _ prw_81) rfl rfl prd_G_leapToHere_14 ?_
    obtain ⟨hi6, hf⟩ := pr_ck_in hf
    refine pr_iast (f := (σ.2.1 23)) hx hb hK hP (hD _) hS 23 (by decide) rfl hi6 rfl prd_G_leapToHere_17 (fun H locs hP hS => ?_)
    exact pr_retv E hP hS (pr_so hf) prd_G_leapToHere_18
-- G_closeFirstBlock
set_option maxHeartbeats 4000000 in
set_option maxRecDepth 100000 in
theorem prc_G_closeFirstBlock {l : Launch} {D : va_G} {ad : Nat → Nat} {dA : Nat → ClassId} {A : Nat → Prop} {t : Nat} (hD : ∀ σ : pr_St, va_D A (pr_w prc_L ad dA σ)) (hX : pr_Xok A (prX t A)) (h : Nat) (hh : 2 ≤ h) (σ : pr_St) (x1 : Int32) (res : pr_St) (hf : prf_G_closeFirstBlock σ x1 = some res) : Met l pry_G_closeFirstBlock (Cond.code pry_G_closeFirstBlock prb_G_closeFirstBlock 2 none :: pr_U) (pr_rm h) (pr_Pc (prX t A) D pr_cl prc_L ad dA [.ref (ad 2), .int x1] σ) (pr_Qv D pr_cl prc_L ad dA A res) 0 0 A := by
  refine pr_entry (cc := prb_G_closeFirstBlock) (maxL := 2) (ret := none) (by decide) (Nat.le_of_ble_eq_true rfl) hD hX ?_
  intro p e s m args below meth c E H locs hP hS ls hl
  have hl : lv_has ls 2 [(0, .ref (ad 2)), (1, .int x1)] := hl
  have hf := hf.symm
  unfold prf_G_closeFirstBlock at hf
  obtain ⟨hx, hb, hml, hown, hts, hr, hlocks, hK, hD, hX, hXs⟩ := id E
  refine lv_aload_n hx hb prd_G_closeFirstBlock_0 rfl (lv_at hl 0 rfl) ?_
  refine lv_iload_n hx hb prd_G_closeFirstBlock_1 rfl (lv_at hl 1 rfl) ?_
  refine lv_aload_n hx hb prd_G_closeFirstBlock_2 rfl (lv_at hl 0 rfl) ?_
  refine pr_geti (v := (σ.1 2 11)) hx hb hts prs_G hown hK hP 2 11 (by decide) rfl (hts _ prw_80) rfl rfl prd_G_closeFirstBlock_3 ?_
  obtain ⟨r2, hr2, hf⟩ := pr_bi hf
  refine pr_callVv (rest := []) (res := r2) ⟨hx, hb, hml, hown, hts⟩ 2 (prc_G_setDetail hD hX 1 (Nat.le_refl _) σ x1 (σ.1 2 11) r2 hr2) (prg_G_setDetail hts prw_197 (by have := hh; omega)) hX hXs hK hP hS (by decide) rfl rfl rfl rfl hl.1 (Nat.le_of_ble_eq_true rfl) prd_G_closeFirstBlock_6 (fun H locs hP hS => ?_)
  exact pr_retv E hP hS (pr_so hf) prd_G_closeFirstBlock_9
-- G_closeStatement
set_option maxHeartbeats 4000000 in
set_option maxRecDepth 100000 in
theorem prc_G_closeStatement {l : Launch} {D : va_G} {ad : Nat → Nat} {dA : Nat → ClassId} {A : Nat → Prop} {t : Nat} (hD : ∀ σ : pr_St, va_D A (pr_w prc_L ad dA σ)) (hX : pr_Xok A (prX t A)) (h : Nat) (hh : 1 ≤ h) (σ : pr_St) (x1 : Int32) (res : pr_St) (hf : prf_G_closeStatement σ x1 = some res) : Met l pry_G_closeStatement (Cond.code pry_G_closeStatement prb_G_closeStatement 2 none :: pr_U) (pr_rm h) (pr_Pc (prX t A) D pr_cl prc_L ad dA [.ref (ad 2), .int x1] σ) (pr_Qv D pr_cl prc_L ad dA A res) 0 0 A := by
  refine pr_entry (cc := prb_G_closeStatement) (maxL := 2) (ret := none) (by decide) (Nat.le_of_ble_eq_true rfl) hD hX ?_
  intro p e s m args below meth c E H locs hP hS ls hl
  have hl : lv_has ls 2 [(0, .ref (ad 2)), (1, .int x1)] := hl
  have hf := hf.symm
  unfold prf_G_closeStatement at hf
  obtain ⟨hx, hb, hml, hown, hts, hr, hlocks, hK, hD, hX, hXs⟩ := id E
  refine lv_aload_n hx hb prd_G_closeStatement_0 rfl (lv_at hl 0 rfl) ?_
  refine lv_iload_n hx hb prd_G_closeStatement_1 rfl (lv_at hl 1 rfl) ?_
  obtain ⟨r4, hr4, hf⟩ := pr_bi hf
  refine pr_callVr (rest := []) (r := r4) ⟨hx, hb, hml, hown, hts⟩ 2 (prc_G_isStatement hD hX 0 (Nat.le_refl _) σ x1 r4 hr4) (prg_G_isStatement hts prw_165 (by have := hh; omega)) hX hXs hK hP hS (by decide) rfl rfl rfl rfl hl.1 (Nat.le_of_ble_eq_true rfl) prd_G_closeStatement_2 (fun H locs hP hS => ?_)
  refine lv_if_eq (tgt := 18) hx hb prd_G_closeStatement_5 (by decide) (fun c5 => ?_) (fun c5 => ?_)
  · have hf := pr_it c5 hf
    exact pr_retv E hP hS (pr_so hf) prd_G_closeStatement_18
  · have hf := pr_ie c5 hf
    refine lv_aload_n hx hb prd_G_closeStatement_8 rfl (lv_at hl 0 rfl) ?_
    refine pr_getr (t := 21) hx hb hts prs_G hown hK hP 2 10 (by decide) rfl (hts _ prw_201) rfl prd_G_closeStatement_9 ?_
    refine lv_iload_n hx hb prd_G_closeStatement_12 rfl (lv_at hl 1 rfl) ?_
    refine lv_aload_n hx hb prd_G_closeStatement_13 rfl (lv_at hl 0 rfl) ?_
    refine pr_geti (v := (σ.1 2 11)) hx hb hts prs_G hown hK hP 2 11 (by decide) rfl (hts _ prw_80) rfl rfl prd_G_closeStatement_14 ?_
    obtain ⟨hi6, hf⟩ := pr_ck_in hf
    refine pr_iast (f := (σ.2.1 21)) hx hb hK hP (hD _) hS 21 (by decide) rfl hi6 rfl prd_G_closeStatement_17 (fun H locs hP hS => ?_)
    exact pr_retv E hP hS (pr_so hf) prd_G_closeStatement_18
-- G_isFunction
set_option maxHeartbeats 4000000 in
set_option maxRecDepth 100000 in
theorem prc_G_isFunction {l : Launch} {D : va_G} {ad : Nat → Nat} {dA : Nat → ClassId} {A : Nat → Prop} {t : Nat} (hD : ∀ σ : pr_St, va_D A (pr_w prc_L ad dA σ)) (hX : pr_Xok A (prX t A)) (h : Nat) (hh : 0 ≤ h) (σ : pr_St) (x1 : Int32) (res : Int32) (hf : prf_G_isFunction σ x1 = some res) : Met l pry_G_isFunction (Cond.code pry_G_isFunction prb_G_isFunction 2 (some .boolean) :: pr_U) (pr_rm h) (pr_Pc (prX t A) D pr_cl prc_L ad dA [.ref (ad 2), .int x1] σ) (pr_Qi D pr_cl prc_L ad dA A (res, σ)) 0 0 A := by
  refine pr_entry (cc := prb_G_isFunction) (maxL := 2) (ret := (some .boolean)) (by decide) (Nat.le_of_ble_eq_true rfl) hD hX ?_
  intro p e s m args below meth c E H locs hP hS ls hl
  have hl : lv_has ls 2 [(0, .ref (ad 2)), (1, .int x1)] := hl
  have hf := hf.symm
  unfold prf_G_isFunction at hf
  obtain ⟨hx, hb, hml, hown, hts, hr, hlocks, hK, hD, hX, hXs⟩ := id E
  refine lv_iload_n hx hb prd_G_isFunction_0 rfl (lv_at hl 1 rfl) ?_
  refine lv_if_lt (tgt := 16) hx hb prd_G_isFunction_1 (by decide) (fun c3 => ?_) (fun c3 => ?_)
  · have hf := pr_it c3 hf
    refine lv_iconst (v := 0) hx hb prd_G_isFunction_16 (by decide) ?_
    exact pr_retz E (Or.inl rfl) hP hS (pr_ro hf) prd_G_isFunction_17
  · have hf := pr_ie c3 hf
    refine lv_iload_n hx hb prd_G_isFunction_4 rfl (lv_at hl 1 rfl) ?_
    refine lv_aload_n hx hb prd_G_isFunction_5 rfl (lv_at hl 0 rfl) ?_
    refine pr_geti (v := (σ.1 2 5)) hx hb hts prs_G hown hK hP 2 5 (by decide) rfl (hts _ prw_79) rfl rfl prd_G_isFunction_6 ?_
    refine lv_icmp_ge (tgt := 16) hx hb prd_G_isFunction_9 (by decide) (fun c4 => ?_) (fun c4 => ?_)
    · have hf := pr_it c4 hf
      refine lv_iconst (v := 0) hx hb prd_G_isFunction_16 (by decide) ?_
      exact pr_retz E (Or.inl rfl) hP hS (pr_ro hf) prd_G_isFunction_17
    · have hf := pr_ie c4 hf
      refine lv_iconst (v := 1) hx hb prd_G_isFunction_12 (by decide) ?_
      refine lv_goto (tgt := 17) hx hb prd_G_isFunction_13 (by decide) ?_
      exact pr_retz E (Or.inr rfl) hP hS (pr_ro hf) prd_G_isFunction_17
-- G_closeFunction
set_option maxHeartbeats 4000000 in
set_option maxRecDepth 100000 in
theorem prc_G_closeFunction {l : Launch} {D : va_G} {ad : Nat → Nat} {dA : Nat → ClassId} {A : Nat → Prop} {t : Nat} (hD : ∀ σ : pr_St, va_D A (pr_w prc_L ad dA σ)) (hX : pr_Xok A (prX t A)) (h : Nat) (hh : 1 ≤ h) (σ : pr_St) (x1 : Int32) (res : pr_St) (hf : prf_G_closeFunction σ x1 = some res) : Met l pry_G_closeFunction (Cond.code pry_G_closeFunction prb_G_closeFunction 3 none :: pr_U) (pr_rm h) (pr_Pc (prX t A) D pr_cl prc_L ad dA [.ref (ad 2), .int x1] σ) (pr_Qv D pr_cl prc_L ad dA A res) 0 0 A := by
  refine pr_entry (cc := prb_G_closeFunction) (maxL := 3) (ret := none) (by decide) (Nat.le_of_ble_eq_true rfl) hD hX ?_
  intro p e s m args below meth c E H locs hP hS ls hl
  have hl : lv_has ls 3 [(0, .ref (ad 2)), (1, .int x1)] := hl
  have hf := hf.symm
  unfold prf_G_closeFunction at hf
  obtain ⟨hx, hb, hml, hown, hts, hr, hlocks, hK, hD, hX, hXs⟩ := id E
  refine lv_aload_n hx hb prd_G_closeFunction_0 rfl (lv_at hl 0 rfl) ?_
  refine pr_geti (v := (σ.1 2 5)) hx hb hts prs_G hown hK hP 2 5 (by decide) rfl (hts _ prw_79) rfl rfl prd_G_closeFunction_1 ?_
  refine lv_iconst (v := 1) hx hb prd_G_closeFunction_4 (by decide) ?_
  refine lv_isub hx hb prd_G_closeFunction_5 ?_
  refine lv_istore_n (lv' := [(2, .int ((σ.1 2 5) - 1)), (0, .ref (ad 2)), (1, .int x1)]) hx hb prd_G_closeFunction_6 rfl hl (by decide) rfl (fun ls hl => ?_)
  refine lv_aload_n hx hb prd_G_closeFunction_7 rfl (lv_at hl 1 rfl) ?_
  refine lv_iload_n hx hb prd_G_closeFunction_8 rfl (lv_at hl 0 rfl) ?_
  obtain ⟨r6, hr6, hf⟩ := pr_bi hf
  refine pr_callVr (rest := []) (r := r6) ⟨hx, hb, hml, hown, hts⟩ 2 (prc_G_isFunction hD hX 0 (Nat.le_refl _) σ ((σ.1 2 5) - 1) r6 hr6) (prg_G_isFunction hts prw_228 (by have := hh; omega)) hX hXs hK hP hS (by decide) rfl rfl rfl rfl hl.1 (Nat.le_of_ble_eq_true rfl) prd_G_closeFunction_9 (fun H locs hP hS => ?_)
  refine lv_if_eq (tgt := 32) hx hb prd_G_closeFunction_12 (by decide) (fun c7 => ?_) (fun c7 => ?_)
  · have hf := pr_it c7 hf
    exact pr_retv E hP hS (pr_so hf) prd_G_closeFunction_32
  · have hf := pr_ie c7 hf
    refine lv_aload_n hx hb prd_G_closeFunction_15 rfl (lv_at hl 1 rfl) ?_
    refine pr_getr (t := 15) hx hb hts prs_G hown hK hP 2 3 (by decide) rfl (hts _ prw_229) rfl prd_G_closeFunction_16 ?_
    refine lv_iload_n hx hb prd_G_closeFunction_19 rfl (lv_at hl 0 rfl) ?_
    refine lv_aload_n hx hb prd_G_closeFunction_20 rfl (lv_at hl 1 rfl) ?_
    refine pr_geti (v := (σ.1 2 11)) hx hb hts prs_G hown hK hP 2 11 (by decide) rfl (hts _ prw_80) rfl rfl prd_G_closeFunction_21 ?_
    obtain ⟨hi8, hf⟩ := pr_ck_in hf
    refine pr_iast (f := (σ.2.1 15)) hx hb hK hP (hD _) hS 15 (by decide) rfl hi8 rfl prd_G_closeFunction_24 (fun H locs hP hS => ?_)
    refine lv_aload_n hx hb prd_G_closeFunction_25 rfl (lv_at hl 1 rfl) ?_
    refine pr_getr (t := 16) hx hb hts prs_G hown hK hP 2 4 (by decide) rfl (hts _ prw_230) rfl prd_G_closeFunction_26 ?_
    refine lv_iload_n hx hb prd_G_closeFunction_29 rfl (lv_at hl 0 rfl) ?_
    refine lv_iload_n hx hb prd_G_closeFunction_30 rfl (lv_at hl 2 rfl) ?_
    obtain ⟨hi9, hf⟩ := pr_ck_in hf
    obtain ⟨hz10, hf⟩ := pr_z_in hf
    refine pr_zast (f := (σ.2.1 16)) hx hb hK hP (hD _) hS 16 (by decide) rfl hi9 hz10 rfl prd_G_closeFunction_31 (fun H locs hP hS => ?_)
    exact pr_retv E hP hS (pr_so hf) prd_G_closeFunction_32
-- G_functions
set_option maxHeartbeats 4000000 in
set_option maxRecDepth 100000 in
theorem prc_G_functions {l : Launch} {D : va_G} {ad : Nat → Nat} {dA : Nat → ClassId} {A : Nat → Prop} {t : Nat} (hD : ∀ σ : pr_St, va_D A (pr_w prc_L ad dA σ)) (hX : pr_Xok A (prX t A)) (h : Nat) (hh : 0 ≤ h) (σ : pr_St)  (res : Int32) (hf : prf_G_functions σ  = some res) : Met l pry_G_functions (Cond.code pry_G_functions prb_G_functions 1 (some .int) :: pr_U) (pr_rm h) (pr_Pc (prX t A) D pr_cl prc_L ad dA [.ref (ad 2)] σ) (pr_Qi D pr_cl prc_L ad dA A (res, σ)) 0 0 A := by
  refine pr_entry (cc := prb_G_functions) (maxL := 1) (ret := (some .int)) (by decide) (Nat.le_of_ble_eq_true rfl) hD hX ?_
  intro p e s m args below meth c E H locs hP hS ls hl
  have hl : lv_has ls 1 [(0, .ref (ad 2))] := hl
  have hf := hf.symm
  unfold prf_G_functions at hf
  obtain ⟨hx, hb, hml, hown, hts, hr, hlocks, hK, hD, hX, hXs⟩ := id E
  refine lv_aload_n hx hb prd_G_functions_0 rfl (lv_at hl 0 rfl) ?_
  refine pr_geti (v := (σ.1 2 5)) hx hb hts prs_G hown hK hP 2 5 (by decide) rfl (hts _ prw_79) rfl rfl prd_G_functions_1 ?_
  exact pr_reti E hP hS (pr_ro hf) prd_G_functions_4
-- G_parametersOf
set_option maxHeartbeats 4000000 in
set_option maxRecDepth 100000 in
theorem prc_G_parametersOf {l : Launch} {D : va_G} {ad : Nat → Nat} {dA : Nat → ClassId} {A : Nat → Prop} {t : Nat} (hD : ∀ σ : pr_St, va_D A (pr_w prc_L ad dA σ)) (hX : pr_Xok A (prX t A)) (h : Nat) (hh : 1 ≤ h) (σ : pr_St) (x1 : Int32) (res : Int32) (hf : prf_G_parametersOf σ x1 = some res) : Met l pry_G_parametersOf (Cond.code pry_G_parametersOf prb_G_parametersOf 2 (some .int) :: pr_U) (pr_rm h) (pr_Pc (prX t A) D pr_cl prc_L ad dA [.ref (ad 2), .int x1] σ) (pr_Qi D pr_cl prc_L ad dA A (res, σ)) 0 0 A := by
  refine pr_entry (cc := prb_G_parametersOf) (maxL := 2) (ret := (some .int)) (by decide) (Nat.le_of_ble_eq_true rfl) hD hX ?_
  intro p e s m args below meth c E H locs hP hS ls hl
  have hl : lv_has ls 2 [(0, .ref (ad 2)), (1, .int x1)] := hl
  have hf := hf.symm
  unfold prf_G_parametersOf at hf
  obtain ⟨hx, hb, hml, hown, hts, hr, hlocks, hK, hD, hX, hXs⟩ := id E
  refine lv_aload_n hx hb prd_G_parametersOf_0 rfl (lv_at hl 0 rfl) ?_
  refine lv_iload_n hx hb prd_G_parametersOf_1 rfl (lv_at hl 1 rfl) ?_
  obtain ⟨r4, hr4, hf⟩ := pr_bi hf
  refine pr_callVr (rest := []) (r := r4) ⟨hx, hb, hml, hown, hts⟩ 2 (prc_G_isFunction hD hX 0 (Nat.le_refl _) σ x1 r4 hr4) (prg_G_isFunction hts prw_228 (by have := hh; omega)) hX hXs hK hP hS (by decide) rfl rfl rfl rfl hl.1 (Nat.le_of_ble_eq_true rfl) prd_G_parametersOf_2 (fun H locs hP hS => ?_)
  refine lv_if_eq (tgt := 17) hx hb prd_G_parametersOf_5 (by decide) (fun c5 => ?_) (fun c5 => ?_)
  · have hf := pr_it c5 hf
    refine lv_iconst (v := 0) hx hb prd_G_parametersOf_17 (by decide) ?_
    exact pr_reti E hP hS (pr_ro hf) prd_G_parametersOf_18
  · have hf := pr_ie c5 hf
    refine lv_aload_n hx hb prd_G_parametersOf_8 rfl (lv_at hl 0 rfl) ?_
    refine pr_getr (t := 13) hx hb hts prs_G hown hK hP 2 1 (by decide) rfl (hts _ prw_104) rfl prd_G_parametersOf_9 ?_
    refine lv_iload_n hx hb prd_G_parametersOf_12 rfl (lv_at hl 1 rfl) ?_
    obtain ⟨hi6, hf⟩ := pr_ck_in hf
    refine pr_iald (f := (σ.2.1 13)) hx hb hK hP 13 (by decide) rfl hi6 rfl prd_G_parametersOf_13 ?_
    refine lv_goto (tgt := 18) hx hb prd_G_parametersOf_14 (by decide) ?_
    exact pr_reti E hP hS (pr_ro hf) prd_G_parametersOf_18
-- G_nameOf
set_option maxHeartbeats 4000000 in
set_option maxRecDepth 100000 in
theorem prc_G_nameOf {l : Launch} {D : va_G} {ad : Nat → Nat} {dA : Nat → ClassId} {A : Nat → Prop} {t : Nat} (hD : ∀ σ : pr_St, va_D A (pr_w prc_L ad dA σ)) (hX : pr_Xok A (prX t A)) (h : Nat) (hh : 1 ≤ h) (σ : pr_St) (x1 : Int32) (res : Int32) (hf : prf_G_nameOf σ x1 = some res) : Met l pry_G_nameOf (Cond.code pry_G_nameOf prb_G_nameOf 2 (some .int) :: pr_U) (pr_rm h) (pr_Pc (prX t A) D pr_cl prc_L ad dA [.ref (ad 2), .int x1] σ) (pr_Qi D pr_cl prc_L ad dA A (res, σ)) 0 0 A := by
  refine pr_entry (cc := prb_G_nameOf) (maxL := 2) (ret := (some .int)) (by decide) (Nat.le_of_ble_eq_true rfl) hD hX ?_
  intro p e s m args below meth c E H locs hP hS ls hl
  have hl : lv_has ls 2 [(0, .ref (ad 2)), (1, .int x1)] := hl
  have hf := hf.symm
  unfold prf_G_nameOf at hf
  obtain ⟨hx, hb, hml, hown, hts, hr, hlocks, hK, hD, hX, hXs⟩ := id E
  refine lv_aload_n hx hb prd_G_nameOf_0 rfl (lv_at hl 0 rfl) ?_
  refine lv_iload_n hx hb prd_G_nameOf_1 rfl (lv_at hl 1 rfl) ?_
  obtain ⟨r4, hr4, hf⟩ := pr_bi hf
  refine pr_callVr (rest := []) (r := r4) ⟨hx, hb, hml, hown, hts⟩ 2 (prc_G_isFunction hD hX 0 (Nat.le_refl _) σ x1 r4 hr4) (prg_G_isFunction hts prw_228 (by have := hh; omega)) hX hXs hK hP hS (by decide) rfl rfl rfl rfl hl.1 (Nat.le_of_ble_eq_true rfl) prd_G_nameOf_2 (fun H locs hP hS => ?_)
  refine lv_if_eq (tgt := 17) hx hb prd_G_nameOf_5 (by decide) (fun c5 => ?_) (fun c5 => ?_)
  · have hf := pr_it c5 hf
    refine lv_iconst (v := (-1)) hx hb prd_G_nameOf_17 (by decide) ?_
    exact pr_reti E hP hS (pr_ro hf) prd_G_nameOf_18
  · have hf := pr_ie c5 hf
    refine lv_aload_n hx hb prd_G_nameOf_8 rfl (lv_at hl 0 rfl) ?_
    refine pr_getr (t := 12) hx hb hts prs_G hown hK hP 2 0 (by decide) rfl (hts _ prw_103) rfl prd_G_nameOf_9 ?_
    refine lv_iload_n hx hb prd_G_nameOf_12 rfl (lv_at hl 1 rfl) ?_
    obtain ⟨hi6, hf⟩ := pr_ck_in hf
    refine pr_iald (f := (σ.2.1 12)) hx hb hK hP 12 (by decide) rfl hi6 rfl prd_G_nameOf_13 ?_
    refine lv_goto (tgt := 18) hx hb prd_G_nameOf_14 (by decide) ?_
    exact pr_reti E hP hS (pr_ro hf) prd_G_nameOf_18
-- G_beginOf
set_option maxHeartbeats 4000000 in
set_option maxRecDepth 100000 in
theorem prc_G_beginOf {l : Launch} {D : va_G} {ad : Nat → Nat} {dA : Nat → ClassId} {A : Nat → Prop} {t : Nat} (hD : ∀ σ : pr_St, va_D A (pr_w prc_L ad dA σ)) (hX : pr_Xok A (prX t A)) (h : Nat) (hh : 1 ≤ h) (σ : pr_St) (x1 : Int32) (res : Int32) (hf : prf_G_beginOf σ x1 = some res) : Met l pry_G_beginOf (Cond.code pry_G_beginOf prb_G_beginOf 2 (some .int) :: pr_U) (pr_rm h) (pr_Pc (prX t A) D pr_cl prc_L ad dA [.ref (ad 2), .int x1] σ) (pr_Qi D pr_cl prc_L ad dA A (res, σ)) 0 0 A := by
  refine pr_entry (cc := prb_G_beginOf) (maxL := 2) (ret := (some .int)) (by decide) (Nat.le_of_ble_eq_true rfl) hD hX ?_
  intro p e s m args below meth c E H locs hP hS ls hl
  have hl : lv_has ls 2 [(0, .ref (ad 2)), (1, .int x1)] := hl
  have hf := hf.symm
  unfold prf_G_beginOf at hf
  obtain ⟨hx, hb, hml, hown, hts, hr, hlocks, hK, hD, hX, hXs⟩ := id E
  refine lv_aload_n hx hb prd_G_beginOf_0 rfl (lv_at hl 0 rfl) ?_
  refine lv_iload_n hx hb prd_G_beginOf_1 rfl (lv_at hl 1 rfl) ?_
  obtain ⟨r4, hr4, hf⟩ := pr_bi hf
  refine pr_callVr (rest := []) (r := r4) ⟨hx, hb, hml, hown, hts⟩ 2 (prc_G_isFunction hD hX 0 (Nat.le_refl _) σ x1 r4 hr4) (prg_G_isFunction hts prw_228 (by have := hh; omega)) hX hXs hK hP hS (by decide) rfl rfl rfl rfl hl.1 (Nat.le_of_ble_eq_true rfl) prd_G_beginOf_2 (fun H locs hP hS => ?_)
  refine lv_if_eq (tgt := 17) hx hb prd_G_beginOf_5 (by decide) (fun c5 => ?_) (fun c5 => ?_)
  · have hf := pr_it c5 hf
    refine lv_iconst (v := 0) hx hb prd_G_beginOf_17 (by decide) ?_
    exact pr_reti E hP hS (pr_ro hf) prd_G_beginOf_18
  · have hf := pr_ie c5 hf
    refine lv_aload_n hx hb prd_G_beginOf_8 rfl (lv_at hl 0 rfl) ?_
    refine pr_getr (t := 14) hx hb hts prs_G hown hK hP 2 2 (by decide) rfl (hts _ prw_105) rfl prd_G_beginOf_9 ?_
    refine lv_iload_n hx hb prd_G_beginOf_12 rfl (lv_at hl 1 rfl) ?_
    obtain ⟨hi6, hf⟩ := pr_ck_in hf
    refine pr_iald (f := (σ.2.1 14)) hx hb hK hP 14 (by decide) rfl hi6 rfl prd_G_beginOf_13 ?_
    refine lv_goto (tgt := 18) hx hb prd_G_beginOf_14 (by decide) ?_
    exact pr_reti E hP hS (pr_ro hf) prd_G_beginOf_18
-- G_endOf
set_option maxHeartbeats 4000000 in
set_option maxRecDepth 100000 in
theorem prc_G_endOf {l : Launch} {D : va_G} {ad : Nat → Nat} {dA : Nat → ClassId} {A : Nat → Prop} {t : Nat} (hD : ∀ σ : pr_St, va_D A (pr_w prc_L ad dA σ)) (hX : pr_Xok A (prX t A)) (h : Nat) (hh : 1 ≤ h) (σ : pr_St) (x1 : Int32) (res : Int32) (hf : prf_G_endOf σ x1 = some res) : Met l pry_G_endOf (Cond.code pry_G_endOf prb_G_endOf 2 (some .int) :: pr_U) (pr_rm h) (pr_Pc (prX t A) D pr_cl prc_L ad dA [.ref (ad 2), .int x1] σ) (pr_Qi D pr_cl prc_L ad dA A (res, σ)) 0 0 A := by
  refine pr_entry (cc := prb_G_endOf) (maxL := 2) (ret := (some .int)) (by decide) (Nat.le_of_ble_eq_true rfl) hD hX ?_
  intro p e s m args below meth c E H locs hP hS ls hl
  have hl : lv_has ls 2 [(0, .ref (ad 2)), (1, .int x1)] := hl
  have hf := hf.symm
  unfold prf_G_endOf at hf
  obtain ⟨hx, hb, hml, hown, hts, hr, hlocks, hK, hD, hX, hXs⟩ := id E
  refine lv_aload_n hx hb prd_G_endOf_0 rfl (lv_at hl 0 rfl) ?_
  refine lv_iload_n hx hb prd_G_endOf_1 rfl (lv_at hl 1 rfl) ?_
  obtain ⟨r4, hr4, hf⟩ := pr_bi hf
  refine pr_callVr (rest := []) (r := r4) ⟨hx, hb, hml, hown, hts⟩ 2 (prc_G_isFunction hD hX 0 (Nat.le_refl _) σ x1 r4 hr4) (prg_G_isFunction hts prw_228 (by have := hh; omega)) hX hXs hK hP hS (by decide) rfl rfl rfl rfl hl.1 (Nat.le_of_ble_eq_true rfl) prd_G_endOf_2 (fun H locs hP hS => ?_)
  refine lv_if_eq (tgt := 17) hx hb prd_G_endOf_5 (by decide) (fun c5 => ?_) (fun c5 => ?_)
  · have hf := pr_it c5 hf
    refine lv_iconst (v := 0) hx hb prd_G_endOf_17 (by decide) ?_
    exact pr_reti E hP hS (pr_ro hf) prd_G_endOf_18
  · have hf := pr_ie c5 hf
    refine lv_aload_n hx hb prd_G_endOf_8 rfl (lv_at hl 0 rfl) ?_
    refine pr_getr (t := 15) hx hb hts prs_G hown hK hP 2 3 (by decide) rfl (hts _ prw_229) rfl prd_G_endOf_9 ?_
    refine lv_iload_n hx hb prd_G_endOf_12 rfl (lv_at hl 1 rfl) ?_
    obtain ⟨hi6, hf⟩ := pr_ck_in hf
    refine pr_iald (f := (σ.2.1 15)) hx hb hK hP 15 (by decide) rfl hi6 rfl prd_G_endOf_13 ?_
    refine lv_goto (tgt := 18) hx hb prd_G_endOf_14 (by decide) ?_
    exact pr_reti E hP hS (pr_ro hf) prd_G_endOf_18
-- G_behind
set_option maxHeartbeats 4000000 in
set_option maxRecDepth 100000 in
theorem prc_G_behind {l : Launch} {D : va_G} {ad : Nat → Nat} {dA : Nat → ClassId} {A : Nat → Prop} {t : Nat} (hD : ∀ σ : pr_St, va_D A (pr_w prc_L ad dA σ)) (hX : pr_Xok A (prX t A)) (h : Nat) (hh : 1 ≤ h) (σ : pr_St) (x1 : Int32) (res : Int32) (hf : prf_G_behind σ x1 = some res) : Met l pry_G_behind (Cond.code pry_G_behind prb_G_behind 2 (some .int) :: pr_U) (pr_rm h) (pr_Pc (prX t A) D pr_cl prc_L ad dA [.ref (ad 2), .int x1] σ) (pr_Qi D pr_cl prc_L ad dA A (res, σ)) 0 0 A := by
  refine pr_entry (cc := prb_G_behind) (maxL := 2) (ret := (some .int)) (by decide) (Nat.le_of_ble_eq_true rfl) hD hX ?_
  intro p e s m args below meth c E H locs hP hS ls hl
  have hl : lv_has ls 2 [(0, .ref (ad 2)), (1, .int x1)] := hl
  have hf := hf.symm
  unfold prf_G_behind at hf
  obtain ⟨hx, hb, hml, hown, hts, hr, hlocks, hK, hD, hX, hXs⟩ := id E
  refine lv_aload_n hx hb prd_G_behind_0 rfl (lv_at hl 0 rfl) ?_
  refine lv_iload_n hx hb prd_G_behind_1 rfl (lv_at hl 1 rfl) ?_
  obtain ⟨r4, hr4, hf⟩ := pr_bi hf
  refine pr_callVr (rest := []) (r := r4) ⟨hx, hb, hml, hown, hts⟩ 2 (prc_G_isStatement hD hX 0 (Nat.le_refl _) σ x1 r4 hr4) (prg_G_isStatement hts prw_165 (by have := hh; omega)) hX hXs hK hP hS (by decide) rfl rfl rfl rfl hl.1 (Nat.le_of_ble_eq_true rfl) prd_G_behind_2 (fun H locs hP hS => ?_)
  refine lv_if_eq (tgt := 17) hx hb prd_G_behind_5 (by decide) (fun c5 => ?_) (fun c5 => ?_)
  · have hf := pr_it c5 hf
    refine lv_aload_n hx hb prd_G_behind_17 rfl (lv_at hl 0 rfl) ?_
    refine pr_geti (v := (σ.1 2 11)) hx hb hts prs_G hown hK hP 2 11 (by decide) rfl (hts _ prw_80) rfl rfl prd_G_behind_18 ?_
    exact pr_reti E hP hS (pr_ro hf) prd_G_behind_21
  · have hf := pr_ie c5 hf
    refine lv_aload_n hx hb prd_G_behind_8 rfl (lv_at hl 0 rfl) ?_
    refine pr_getr (t := 21) hx hb hts prs_G hown hK hP 2 10 (by decide) rfl (hts _ prw_201) rfl prd_G_behind_9 ?_
    refine lv_iload_n hx hb prd_G_behind_12 rfl (lv_at hl 1 rfl) ?_
    obtain ⟨hi6, hf⟩ := pr_ck_in hf
    refine pr_iald (f := (σ.2.1 21)) hx hb hK hP 21 (by decide) rfl hi6 rfl prd_G_behind_13 ?_
    refine lv_goto (tgt := 21) hx hb prd_G_behind_14 (by decide) ?_
    exact pr_reti E hP hS (pr_ro hf) prd_G_behind_21
-- G_kindOf
set_option maxHeartbeats 4000000 in
set_option maxRecDepth 100000 in
theorem prc_G_kindOf {l : Launch} {D : va_G} {ad : Nat → Nat} {dA : Nat → ClassId} {A : Nat → Prop} {t : Nat} (hD : ∀ σ : pr_St, va_D A (pr_w prc_L ad dA σ)) (hX : pr_Xok A (prX t A)) (h : Nat) (hh : 1 ≤ h) (σ : pr_St) (x1 : Int32) (res : Int32) (hf : prf_G_kindOf σ x1 = some res) : Met l pry_G_kindOf (Cond.code pry_G_kindOf prb_G_kindOf 2 (some .int) :: pr_U) (pr_rm h) (pr_Pc (prX t A) D pr_cl prc_L ad dA [.ref (ad 2), .int x1] σ) (pr_Qi D pr_cl prc_L ad dA A (res, σ)) 0 0 A := by
  refine pr_entry (cc := prb_G_kindOf) (maxL := 2) (ret := (some .int)) (by decide) (Nat.le_of_ble_eq_true rfl) hD hX ?_
  intro p e s m args below meth c E H locs hP hS ls hl
  have hl : lv_has ls 2 [(0, .ref (ad 2)), (1, .int x1)] := hl
  have hf := hf.symm
  unfold prf_G_kindOf at hf
  obtain ⟨hx, hb, hml, hown, hts, hr, hlocks, hK, hD, hX, hXs⟩ := id E
  refine lv_aload_n hx hb prd_G_kindOf_0 rfl (lv_at hl 0 rfl) ?_
  refine lv_iload_n hx hb prd_G_kindOf_1 rfl (lv_at hl 1 rfl) ?_
  obtain ⟨r4, hr4, hf⟩ := pr_bi hf
  refine pr_callVr (rest := []) (r := r4) ⟨hx, hb, hml, hown, hts⟩ 2 (prc_G_isStatement hD hX 0 (Nat.le_refl _) σ x1 r4 hr4) (prg_G_isStatement hts prw_165 (by have := hh; omega)) hX hXs hK hP hS (by decide) rfl rfl rfl rfl hl.1 (Nat.le_of_ble_eq_true rfl) prd_G_kindOf_2 (fun H locs hP hS => ?_)
  refine lv_if_eq (tgt := 17) hx hb prd_G_kindOf_5 (by decide) (fun c5 => ?_) (fun c5 => ?_)
  · have hf := pr_it c5 hf
    refine lv_iconst (v := 0) hx hb prd_G_kindOf_17 (by decide) ?_
    exact pr_reti E hP hS (pr_ro hf) prd_G_kindOf_18
  · have hf := pr_ie c5 hf
    refine lv_aload_n hx hb prd_G_kindOf_8 rfl (lv_at hl 0 rfl) ?_
    refine pr_getr (t := 17) hx hb hts prs_G hown hK hP 2 6 (by decide) rfl (hts _ prw_127) rfl prd_G_kindOf_9 ?_
    refine lv_iload_n hx hb prd_G_kindOf_12 rfl (lv_at hl 1 rfl) ?_
    obtain ⟨hi6, hf⟩ := pr_ck_in hf
    refine pr_bald (f := (σ.2.1 17)) hx hb hK hP 17 (by decide) rfl hi6 rfl prd_G_kindOf_13 ?_
    refine lv_goto (tgt := 18) hx hb prd_G_kindOf_14 (by decide) ?_
    exact pr_reti E hP hS (pr_ro hf) prd_G_kindOf_18
-- G_firstTokenOf
set_option maxHeartbeats 4000000 in
set_option maxRecDepth 100000 in
theorem prc_G_firstTokenOf {l : Launch} {D : va_G} {ad : Nat → Nat} {dA : Nat → ClassId} {A : Nat → Prop} {t : Nat} (hD : ∀ σ : pr_St, va_D A (pr_w prc_L ad dA σ)) (hX : pr_Xok A (prX t A)) (h : Nat) (hh : 1 ≤ h) (σ : pr_St) (x1 : Int32) (res : Int32) (hf : prf_G_firstTokenOf σ x1 = some res) : Met l pry_G_firstTokenOf (Cond.code pry_G_firstTokenOf prb_G_firstTokenOf 2 (some .int) :: pr_U) (pr_rm h) (pr_Pc (prX t A) D pr_cl prc_L ad dA [.ref (ad 2), .int x1] σ) (pr_Qi D pr_cl prc_L ad dA A (res, σ)) 0 0 A := by
  refine pr_entry (cc := prb_G_firstTokenOf) (maxL := 2) (ret := (some .int)) (by decide) (Nat.le_of_ble_eq_true rfl) hD hX ?_
  intro p e s m args below meth c E H locs hP hS ls hl
  have hl : lv_has ls 2 [(0, .ref (ad 2)), (1, .int x1)] := hl
  have hf := hf.symm
  unfold prf_G_firstTokenOf at hf
  obtain ⟨hx, hb, hml, hown, hts, hr, hlocks, hK, hD, hX, hXs⟩ := id E
  refine lv_aload_n hx hb prd_G_firstTokenOf_0 rfl (lv_at hl 0 rfl) ?_
  refine lv_iload_n hx hb prd_G_firstTokenOf_1 rfl (lv_at hl 1 rfl) ?_
  obtain ⟨r4, hr4, hf⟩ := pr_bi hf
  refine pr_callVr (rest := []) (r := r4) ⟨hx, hb, hml, hown, hts⟩ 2 (prc_G_isStatement hD hX 0 (Nat.le_refl _) σ x1 r4 hr4) (prg_G_isStatement hts prw_165 (by have := hh; omega)) hX hXs hK hP hS (by decide) rfl rfl rfl rfl hl.1 (Nat.le_of_ble_eq_true rfl) prd_G_firstTokenOf_2 (fun H locs hP hS => ?_)
  refine lv_if_eq (tgt := 17) hx hb prd_G_firstTokenOf_5 (by decide) (fun c5 => ?_) (fun c5 => ?_)
  · have hf := pr_it c5 hf
    refine lv_iconst (v := (-1)) hx hb prd_G_firstTokenOf_17 (by decide) ?_
    exact pr_reti E hP hS (pr_ro hf) prd_G_firstTokenOf_18
  · have hf := pr_ie c5 hf
    refine lv_aload_n hx hb prd_G_firstTokenOf_8 rfl (lv_at hl 0 rfl) ?_
    refine pr_getr (t := 18) hx hb hts prs_G hown hK hP 2 7 (by decide) rfl (hts _ prw_128) rfl prd_G_firstTokenOf_9 ?_
    refine lv_iload_n hx hb prd_G_firstTokenOf_12 rfl (lv_at hl 1 rfl) ?_
    obtain ⟨hi6, hf⟩ := pr_ck_in hf
    refine pr_iald (f := (σ.2.1 18)) hx hb hK hP 18 (by decide) rfl hi6 rfl prd_G_firstTokenOf_13 ?_
    refine lv_goto (tgt := 18) hx hb prd_G_firstTokenOf_14 (by decide) ?_
    exact pr_reti E hP hS (pr_ro hf) prd_G_firstTokenOf_18
-- G_detailOf
set_option maxHeartbeats 4000000 in
set_option maxRecDepth 100000 in
theorem prc_G_detailOf {l : Launch} {D : va_G} {ad : Nat → Nat} {dA : Nat → ClassId} {A : Nat → Prop} {t : Nat} (hD : ∀ σ : pr_St, va_D A (pr_w prc_L ad dA σ)) (hX : pr_Xok A (prX t A)) (h : Nat) (hh : 1 ≤ h) (σ : pr_St) (x1 : Int32) (res : Int32) (hf : prf_G_detailOf σ x1 = some res) : Met l pry_G_detailOf (Cond.code pry_G_detailOf prb_G_detailOf 2 (some .int) :: pr_U) (pr_rm h) (pr_Pc (prX t A) D pr_cl prc_L ad dA [.ref (ad 2), .int x1] σ) (pr_Qi D pr_cl prc_L ad dA A (res, σ)) 0 0 A := by
  refine pr_entry (cc := prb_G_detailOf) (maxL := 2) (ret := (some .int)) (by decide) (Nat.le_of_ble_eq_true rfl) hD hX ?_
  intro p e s m args below meth c E H locs hP hS ls hl
  have hl : lv_has ls 2 [(0, .ref (ad 2)), (1, .int x1)] := hl
  have hf := hf.symm
  unfold prf_G_detailOf at hf
  obtain ⟨hx, hb, hml, hown, hts, hr, hlocks, hK, hD, hX, hXs⟩ := id E
  refine lv_aload_n hx hb prd_G_detailOf_0 rfl (lv_at hl 0 rfl) ?_
  refine lv_iload_n hx hb prd_G_detailOf_1 rfl (lv_at hl 1 rfl) ?_
  obtain ⟨r4, hr4, hf⟩ := pr_bi hf
  refine pr_callVr (rest := []) (r := r4) ⟨hx, hb, hml, hown, hts⟩ 2 (prc_G_isStatement hD hX 0 (Nat.le_refl _) σ x1 r4 hr4) (prg_G_isStatement hts prw_165 (by have := hh; omega)) hX hXs hK hP hS (by decide) rfl rfl rfl rfl hl.1 (Nat.le_of_ble_eq_true rfl) prd_G_detailOf_2 (fun H locs hP hS => ?_)
  refine lv_if_eq (tgt := 17) hx hb prd_G_detailOf_5 (by decide) (fun c5 => ?_) (fun c5 => ?_)
  · have hf := pr_it c5 hf
    refine lv_iconst (v := 0) hx hb prd_G_detailOf_17 (by decide) ?_
    exact pr_reti E hP hS (pr_ro hf) prd_G_detailOf_18
  · have hf := pr_ie c5 hf
    refine lv_aload_n hx hb prd_G_detailOf_8 rfl (lv_at hl 0 rfl) ?_
    refine pr_getr (t := 20) hx hb hts prs_G hown hK hP 2 9 (by decide) rfl (hts _ prw_130) rfl prd_G_detailOf_9 ?_
    refine lv_iload_n hx hb prd_G_detailOf_12 rfl (lv_at hl 1 rfl) ?_
    obtain ⟨hi6, hf⟩ := pr_ck_in hf
    refine pr_iald (f := (σ.2.1 20)) hx hb hK hP 20 (by decide) rfl hi6 rfl prd_G_detailOf_13 ?_
    refine lv_goto (tgt := 18) hx hb prd_G_detailOf_14 (by decide) ?_
    exact pr_reti E hP hS (pr_ro hf) prd_G_detailOf_18
-- G_returns
set_option maxHeartbeats 4000000 in
set_option maxRecDepth 100000 in
theorem prc_G_returns {l : Launch} {D : va_G} {ad : Nat → Nat} {dA : Nat → ClassId} {A : Nat → Prop} {t : Nat} (hD : ∀ σ : pr_St, va_D A (pr_w prc_L ad dA σ)) (hX : pr_Xok A (prX t A)) (h : Nat) (hh : 1 ≤ h) (σ : pr_St) (x1 : Int32) (res : Int32) (hf : prf_G_returns σ x1 = some res) : Met l pry_G_returns (Cond.code pry_G_returns prb_G_returns 2 (some .boolean) :: pr_U) (pr_rm h) (pr_Pc (prX t A) D pr_cl prc_L ad dA [.ref (ad 2), .int x1] σ) (pr_Qi D pr_cl prc_L ad dA A (res, σ)) 0 0 A := by
  refine pr_entry (cc := prb_G_returns) (maxL := 2) (ret := (some .boolean)) (by decide) (Nat.le_of_ble_eq_true rfl) hD hX ?_
  intro p e s m args below meth c E H locs hP hS ls hl
  have hl : lv_has ls 2 [(0, .ref (ad 2)), (1, .int x1)] := hl
  have hf := hf.symm
  unfold prf_G_returns at hf
  obtain ⟨hx, hb, hml, hown, hts, hr, hlocks, hK, hD, hX, hXs⟩ := id E
  refine lv_aload_n hx hb prd_G_returns_0 rfl (lv_at hl 0 rfl) ?_
  refine lv_iload_n hx hb prd_G_returns_1 rfl (lv_at hl 1 rfl) ?_
  obtain ⟨r5, hr5, hf⟩ := pr_bi hf
  refine pr_callVr (rest := []) (r := r5) ⟨hx, hb, hml, hown, hts⟩ 2 (prc_G_isFunction hD hX 0 (Nat.le_refl _) σ x1 r5 hr5) (prg_G_isFunction hts prw_228 (by have := hh; omega)) hX hXs hK hP hS (by decide) rfl rfl rfl rfl hl.1 (Nat.le_of_ble_eq_true rfl) prd_G_returns_2 (fun H locs hP hS => ?_)
  refine lv_if_eq (tgt := 21) hx hb prd_G_returns_5 (by decide) (fun c6 => ?_) (fun c6 => ?_)
  · have hf := pr_it c6 hf
    refine lv_iconst (v := 0) hx hb prd_G_returns_21 (by decide) ?_
    exact pr_retz E (Or.inl rfl) hP hS (pr_ro hf) prd_G_returns_22
  · have hf := pr_ie c6 hf
    refine lv_aload_n hx hb prd_G_returns_8 rfl (lv_at hl 0 rfl) ?_
    refine pr_getr (t := 16) hx hb hts prs_G hown hK hP 2 4 (by decide) rfl (hts _ prw_230) rfl prd_G_returns_9 ?_
    refine lv_iload_n hx hb prd_G_returns_12 rfl (lv_at hl 1 rfl) ?_
    obtain ⟨hi7, hf⟩ := pr_ck_in hf
    refine pr_zald (f := (σ.2.1 16)) hx hb hK hP 16 (by decide) rfl hi7 rfl prd_G_returns_13 ?_
    refine lv_if_eq (tgt := 21) hx hb prd_G_returns_14 (by decide) (fun c8 => ?_) (fun c8 => ?_)
    · have hf := pr_it c8 hf
      refine lv_iconst (v := 0) hx hb prd_G_returns_21 (by decide) ?_
      exact pr_retz E (Or.inl rfl) hP hS (pr_ro hf) prd_G_returns_22
    · have hf := pr_ie c8 hf
      refine lv_iconst (v := 1) hx hb prd_G_returns_17 (by decide) ?_
      refine lv_goto (tgt := 22) hx hb prd_G_returns_18 (by decide) ?_
      exact pr_retz E (Or.inr rfl) hP hS (pr_ro hf) prd_G_returns_22
-- G_setSlot
set_option maxHeartbeats 4000000 in
set_option maxRecDepth 100000 in
theorem prc_G_setSlot {l : Launch} {D : va_G} {ad : Nat → Nat} {dA : Nat → ClassId} {A : Nat → Prop} {t : Nat} (hD : ∀ σ : pr_St, va_D A (pr_w prc_L ad dA σ)) (hX : pr_Xok A (prX t A)) (h : Nat) (hh : 0 ≤ h) (σ : pr_St) (x1 : Int32) (x2 : Int32) (res : pr_St) (hf : prf_G_setSlot σ x1 x2 = some res) : Met l pry_G_setSlot (Cond.code pry_G_setSlot prb_G_setSlot 3 none :: pr_U) (pr_rm h) (pr_Pc (prX t A) D pr_cl prc_L ad dA [.ref (ad 2), .int x1, .int x2] σ) (pr_Qv D pr_cl prc_L ad dA A res) 0 0 A := by
  refine pr_entry (cc := prb_G_setSlot) (maxL := 3) (ret := none) (by decide) (Nat.le_of_ble_eq_true rfl) hD hX ?_
  intro p e s m args below meth c E H locs hP hS ls hl
  have hl : lv_has ls 3 [(0, .ref (ad 2)), (1, .int x1), (2, .int x2)] := hl
  have hf := hf.symm
  unfold prf_G_setSlot at hf
  obtain ⟨hx, hb, hml, hown, hts, hr, hlocks, hK, hD, hX, hXs⟩ := id E
  refine lv_iload_n hx hb prd_G_setSlot_0 rfl (lv_at hl 1 rfl) ?_
  refine lv_if_lt (tgt := 20) hx hb prd_G_setSlot_1 (by decide) (fun c4 => ?_) (fun c4 => ?_)
  · have hf := pr_it c4 hf
    exact pr_retv E hP hS (pr_so hf) prd_G_setSlot_20
  · have hf := pr_ie c4 hf
    refine lv_iload_n hx hb prd_G_setSlot_4 rfl (lv_at hl 1 rfl) ?_
    refine lv_aload_n hx hb prd_G_setSlot_5 rfl (lv_at hl 0 rfl) ?_
    refine pr_getr (t := 24) hx hb hts prs_G hown hK hP 2 15 (by decide) rfl (hts _ prw_478) rfl prd_G_setSlot_6 ?_
    refine pr_alen (v := 8001) hx hb hK hP 24 (by decide) (by decide) prd_G_setSlot_9 ?_
    refine lv_icmp_ge (tgt := 20) hx hb prd_G_setSlot_10 (by decide) (fun c5 => ?_) (fun c5 => ?_)
    · have hf := pr_it c5 hf
      exact pr_retv E hP hS (pr_so hf) prd_G_setSlot_20
    · have hf := pr_ie c5 hf
      refine lv_aload_n hx hb prd_G_setSlot_13 rfl (lv_at hl 0 rfl) ?_
      refine pr_getr (t := 24) hx hb hts prs_G hown hK hP 2 15 (by decide) rfl (hts _ prw_478) rfl prd_G_setSlot_14 ?_
      refine lv_iload_n hx hb prd_G_setSlot_17 rfl (lv_at hl 1 rfl) ?_
      refine lv_iload_n hx hb prd_G_setSlot_18 rfl (lv_at hl 2 rfl) ?_
      obtain ⟨hi6, hf⟩ := pr_ck_in hf
      refine pr_iast (f := (σ.2.1 24)) hx hb hK hP (hD _) hS 24 (by decide) rfl hi6 rfl prd_G_setSlot_19 (fun H locs hP hS => ?_)
      exact pr_retv E hP hS (pr_so hf) prd_G_setSlot_20
-- G_parameterToken
set_option maxHeartbeats 4000000 in
set_option maxRecDepth 100000 in
theorem prc_G_parameterToken {l : Launch} {D : va_G} {ad : Nat → Nat} {dA : Nat → ClassId} {A : Nat → Prop} {t : Nat} (hD : ∀ σ : pr_St, va_D A (pr_w prc_L ad dA σ)) (hX : pr_Xok A (prX t A)) (h : Nat) (hh : 2 ≤ h) (σ : pr_St) (x1 : Int32) (x2 : Int32) (res : Int32) (hf : prf_G_parameterToken σ x1 x2 = some res) : Met l pry_G_parameterToken (Cond.code pry_G_parameterToken prb_G_parameterToken 3 (some .int) :: pr_U) (pr_rm h) (pr_Pc (prX t A) D pr_cl prc_L ad dA [.ref (ad 2), .int x1, .int x2] σ) (pr_Qi D pr_cl prc_L ad dA A (res, σ)) 0 0 A := by
  refine pr_entry (cc := prb_G_parameterToken) (maxL := 3) (ret := (some .int)) (by decide) (Nat.le_of_ble_eq_true rfl) hD hX ?_
  intro p e s m args below meth c E H locs hP hS ls hl
  have hl : lv_has ls 3 [(0, .ref (ad 2)), (1, .int x1), (2, .int x2)] := hl
  have hf := hf.symm
  unfold prf_G_parameterToken at hf
  obtain ⟨hx, hb, hml, hown, hts, hr, hlocks, hK, hD, hX, hXs⟩ := id E
  refine lv_aload_n hx hb prd_G_parameterToken_0 rfl (lv_at hl 0 rfl) ?_
  refine lv_iload_n hx hb prd_G_parameterToken_1 rfl (lv_at hl 1 rfl) ?_
  obtain ⟨r2, hr2, hf⟩ := pr_bi hf
  refine pr_callVr (rest := []) (r := r2) ⟨hx, hb, hml, hown, hts⟩ 2 (prc_G_nameOf hD hX 1 (Nat.le_refl _) σ x1 r2 hr2) (prg_G_nameOf hts prw_507 (by have := hh; omega)) hX hXs hK hP hS (by decide) rfl rfl rfl rfl hl.1 (Nat.le_of_ble_eq_true rfl) prd_G_parameterToken_2 (fun H locs hP hS => ?_)
  refine lv_iconst (v := 2) hx hb prd_G_parameterToken_5 (by decide) ?_
  refine lv_iadd hx hb prd_G_parameterToken_6 ?_
  refine lv_iconst (v := 2) hx hb prd_G_parameterToken_7 (by decide) ?_
  refine lv_iload_n hx hb prd_G_parameterToken_8 rfl (lv_at hl 2 rfl) ?_
  refine lv_imul hx hb prd_G_parameterToken_9 ?_
  refine lv_iadd hx hb prd_G_parameterToken_10 ?_
  exact pr_reti E hP hS (pr_ro hf) prd_G_parameterToken_11
-- G_slotOf
set_option maxHeartbeats 4000000 in
set_option maxRecDepth 100000 in
theorem prc_G_slotOf {l : Launch} {D : va_G} {ad : Nat → Nat} {dA : Nat → ClassId} {A : Nat → Prop} {t : Nat} (hD : ∀ σ : pr_St, va_D A (pr_w prc_L ad dA σ)) (hX : pr_Xok A (prX t A)) (h : Nat) (hh : 0 ≤ h) (σ : pr_St) (x1 : Int32) (res : Int32) (hf : prf_G_slotOf σ x1 = some res) : Met l pry_G_slotOf (Cond.code pry_G_slotOf prb_G_slotOf 2 (some .int) :: pr_U) (pr_rm h) (pr_Pc (prX t A) D pr_cl prc_L ad dA [.ref (ad 2), .int x1] σ) (pr_Qi D pr_cl prc_L ad dA A (res, σ)) 0 0 A := by
  refine pr_entry (cc := prb_G_slotOf) (maxL := 2) (ret := (some .int)) (by decide) (Nat.le_of_ble_eq_true rfl) hD hX ?_
  intro p e s m args below meth c E H locs hP hS ls hl
  have hl : lv_has ls 2 [(0, .ref (ad 2)), (1, .int x1)] := hl
  have hf := hf.symm
  unfold prf_G_slotOf at hf
  obtain ⟨hx, hb, hml, hown, hts, hr, hlocks, hK, hD, hX, hXs⟩ := id E
  refine lv_iload_n hx hb prd_G_slotOf_0 rfl (lv_at hl 1 rfl) ?_
  refine lv_if_lt (tgt := 22) hx hb prd_G_slotOf_1 (by decide) (fun c4 => ?_) (fun c4 => ?_)
  · have hf := pr_it c4 hf
    refine lv_iconst (v := (-1)) hx hb prd_G_slotOf_22 (by decide) ?_
    exact pr_reti E hP hS (pr_ro hf) prd_G_slotOf_23
  · have hf := pr_ie c4 hf
    refine lv_iload_n hx hb prd_G_slotOf_4 rfl (lv_at hl 1 rfl) ?_
    refine lv_aload_n hx hb prd_G_slotOf_5 rfl (lv_at hl 0 rfl) ?_
    refine pr_getr (t := 24) hx hb hts prs_G hown hK hP 2 15 (by decide) rfl (hts _ prw_478) rfl prd_G_slotOf_6 ?_
    refine pr_alen (v := 8001) hx hb hK hP 24 (by decide) (by decide) prd_G_slotOf_9 ?_
    refine lv_icmp_ge (tgt := 22) hx hb prd_G_slotOf_10 (by decide) (fun c5 => ?_) (fun c5 => ?_)
    · have hf := pr_it c5 hf
      refine lv_iconst (v := (-1)) hx hb prd_G_slotOf_22 (by decide) ?_
      exact pr_reti E hP hS (pr_ro hf) prd_G_slotOf_23
    · have hf := pr_ie c5 hf
      refine lv_aload_n hx hb prd_G_slotOf_13 rfl (lv_at hl 0 rfl) ?_
      refine pr_getr (t := 24) hx hb hts prs_G hown hK hP 2 15 (by decide) rfl (hts _ prw_478) rfl prd_G_slotOf_14 ?_
      refine lv_iload_n hx hb prd_G_slotOf_17 rfl (lv_at hl 1 rfl) ?_
      obtain ⟨hi6, hf⟩ := pr_ck_in hf
      refine pr_iald (f := (σ.2.1 24)) hx hb hK hP 24 (by decide) rfl hi6 rfl prd_G_slotOf_18 ?_
      refine lv_goto (tgt := 23) hx hb prd_G_slotOf_19 (by decide) ?_
      exact pr_reti E hP hS (pr_ro hf) prd_G_slotOf_23
-- G_firstOperationOf
set_option maxHeartbeats 4000000 in
set_option maxRecDepth 100000 in
theorem prc_G_firstOperationOf {l : Launch} {D : va_G} {ad : Nat → Nat} {dA : Nat → ClassId} {A : Nat → Prop} {t : Nat} (hD : ∀ σ : pr_St, va_D A (pr_w prc_L ad dA σ)) (hX : pr_Xok A (prX t A)) (h : Nat) (hh : 1 ≤ h) (σ : pr_St) (x1 : Int32) (res : Int32) (hf : prf_G_firstOperationOf σ x1 = some res) : Met l pry_G_firstOperationOf (Cond.code pry_G_firstOperationOf prb_G_firstOperationOf 2 (some .int) :: pr_U) (pr_rm h) (pr_Pc (prX t A) D pr_cl prc_L ad dA [.ref (ad 2), .int x1] σ) (pr_Qi D pr_cl prc_L ad dA A (res, σ)) 0 0 A := by
  refine pr_entry (cc := prb_G_firstOperationOf) (maxL := 2) (ret := (some .int)) (by decide) (Nat.le_of_ble_eq_true rfl) hD hX ?_
  intro p e s m args below meth c E H locs hP hS ls hl
  have hl : lv_has ls 2 [(0, .ref (ad 2)), (1, .int x1)] := hl
  have hf := hf.symm
  unfold prf_G_firstOperationOf at hf
  obtain ⟨hx, hb, hml, hown, hts, hr, hlocks, hK, hD, hX, hXs⟩ := id E
  refine lv_aload_n hx hb prd_G_firstOperationOf_0 rfl (lv_at hl 0 rfl) ?_
  refine lv_iload_n hx hb prd_G_firstOperationOf_1 rfl (lv_at hl 1 rfl) ?_
  obtain ⟨r4, hr4, hf⟩ := pr_bi hf
  refine pr_callVr (rest := []) (r := r4) ⟨hx, hb, hml, hown, hts⟩ 2 (prc_G_isStatement hD hX 0 (Nat.le_refl _) σ x1 r4 hr4) (prg_G_isStatement hts prw_165 (by have := hh; omega)) hX hXs hK hP hS (by decide) rfl rfl rfl rfl hl.1 (Nat.le_of_ble_eq_true rfl) prd_G_firstOperationOf_2 (fun H locs hP hS => ?_)
  refine lv_if_eq (tgt := 17) hx hb prd_G_firstOperationOf_5 (by decide) (fun c5 => ?_) (fun c5 => ?_)
  · have hf := pr_it c5 hf
    refine lv_aload_n hx hb prd_G_firstOperationOf_17 rfl (lv_at hl 0 rfl) ?_
    refine pr_geti (v := (σ.1 2 14)) hx hb hts prs_G hown hK hP 2 14 (by decide) rfl (hts _ prw_81) rfl rfl prd_G_firstOperationOf_18 ?_
    exact pr_reti E hP hS (pr_ro hf) prd_G_firstOperationOf_21
  · have hf := pr_ie c5 hf
    refine lv_aload_n hx hb prd_G_firstOperationOf_8 rfl (lv_at hl 0 rfl) ?_
    refine pr_getr (t := 19) hx hb hts prs_G hown hK hP 2 8 (by decide) rfl (hts _ prw_129) rfl prd_G_firstOperationOf_9 ?_
    refine lv_iload_n hx hb prd_G_firstOperationOf_12 rfl (lv_at hl 1 rfl) ?_
    obtain ⟨hi6, hf⟩ := pr_ck_in hf
    refine pr_iald (f := (σ.2.1 19)) hx hb hK hP 19 (by decide) rfl hi6 rfl prd_G_firstOperationOf_13 ?_
    refine lv_goto (tgt := 21) hx hb prd_G_firstOperationOf_14 (by decide) ?_
    exact pr_reti E hP hS (pr_ro hf) prd_G_firstOperationOf_21
-- G_operationAt
set_option maxHeartbeats 4000000 in
set_option maxRecDepth 100000 in
theorem prc_G_operationAt {l : Launch} {D : va_G} {ad : Nat → Nat} {dA : Nat → ClassId} {A : Nat → Prop} {t : Nat} (hD : ∀ σ : pr_St, va_D A (pr_w prc_L ad dA σ)) (hX : pr_Xok A (prX t A)) (h : Nat) (hh : 1 ≤ h) (σ : pr_St) (x1 : Int32) (res : Int32) (hf : prf_G_operationAt σ x1 = some res) : Met l pry_G_operationAt (Cond.code pry_G_operationAt prb_G_operationAt 2 (some .int) :: pr_U) (pr_rm h) (pr_Pc (prX t A) D pr_cl prc_L ad dA [.ref (ad 2), .int x1] σ) (pr_Qi D pr_cl prc_L ad dA A (res, σ)) 0 0 A := by
  refine pr_entry (cc := prb_G_operationAt) (maxL := 2) (ret := (some .int)) (by decide) (Nat.le_of_ble_eq_true rfl) hD hX ?_
  intro p e s m args below meth c E H locs hP hS ls hl
  have hl : lv_has ls 2 [(0, .ref (ad 2)), (1, .int x1)] := hl
  have hf := hf.symm
  unfold prf_G_operationAt at hf
  obtain ⟨hx, hb, hml, hown, hts, hr, hlocks, hK, hD, hX, hXs⟩ := id E
  refine lv_aload_n hx hb prd_G_operationAt_0 rfl (lv_at hl 0 rfl) ?_
  refine lv_iload_n hx hb prd_G_operationAt_1 rfl (lv_at hl 1 rfl) ?_
  obtain ⟨r4, hr4, hf⟩ := pr_bi hf
  refine pr_callVr (rest := []) (r := r4) ⟨hx, hb, hml, hown, hts⟩ 2 (prc_G_isOperation hD hX 0 (Nat.le_refl _) σ x1 r4 hr4) (prg_G_isOperation hts prw_179 (by have := hh; omega)) hX hXs hK hP hS (by decide) rfl rfl rfl rfl hl.1 (Nat.le_of_ble_eq_true rfl) prd_G_operationAt_2 (fun H locs hP hS => ?_)
  refine lv_if_eq (tgt := 17) hx hb prd_G_operationAt_5 (by decide) (fun c5 => ?_) (fun c5 => ?_)
  · have hf := pr_it c5 hf
    refine lv_iconst (v := 0) hx hb prd_G_operationAt_17 (by decide) ?_
    exact pr_reti E hP hS (pr_ro hf) prd_G_operationAt_18
  · have hf := pr_ie c5 hf
    refine lv_aload_n hx hb prd_G_operationAt_8 rfl (lv_at hl 0 rfl) ?_
    refine pr_getr (t := 22) hx hb hts prs_G hown hK hP 2 12 (by decide) rfl (hts _ prw_134) rfl prd_G_operationAt_9 ?_
    refine lv_iload_n hx hb prd_G_operationAt_12 rfl (lv_at hl 1 rfl) ?_
    obtain ⟨hi6, hf⟩ := pr_ck_in hf
    refine pr_bald (f := (σ.2.1 22)) hx hb hK hP 22 (by decide) rfl hi6 rfl prd_G_operationAt_13 ?_
    refine lv_goto (tgt := 18) hx hb prd_G_operationAt_14 (by decide) ?_
    exact pr_reti E hP hS (pr_ro hf) prd_G_operationAt_18
-- G_operandAt
set_option maxHeartbeats 4000000 in
set_option maxRecDepth 100000 in
theorem prc_G_operandAt {l : Launch} {D : va_G} {ad : Nat → Nat} {dA : Nat → ClassId} {A : Nat → Prop} {t : Nat} (hD : ∀ σ : pr_St, va_D A (pr_w prc_L ad dA σ)) (hX : pr_Xok A (prX t A)) (h : Nat) (hh : 1 ≤ h) (σ : pr_St) (x1 : Int32) (res : Int32) (hf : prf_G_operandAt σ x1 = some res) : Met l pry_G_operandAt (Cond.code pry_G_operandAt prb_G_operandAt 2 (some .int) :: pr_U) (pr_rm h) (pr_Pc (prX t A) D pr_cl prc_L ad dA [.ref (ad 2), .int x1] σ) (pr_Qi D pr_cl prc_L ad dA A (res, σ)) 0 0 A := by
  refine pr_entry (cc := prb_G_operandAt) (maxL := 2) (ret := (some .int)) (by decide) (Nat.le_of_ble_eq_true rfl) hD hX ?_
  intro p e s m args below meth c E H locs hP hS ls hl
  have hl : lv_has ls 2 [(0, .ref (ad 2)), (1, .int x1)] := hl
  have hf := hf.symm
  unfold prf_G_operandAt at hf
  obtain ⟨hx, hb, hml, hown, hts, hr, hlocks, hK, hD, hX, hXs⟩ := id E
  refine lv_aload_n hx hb prd_G_operandAt_0 rfl (lv_at hl 0 rfl) ?_
  refine lv_iload_n hx hb prd_G_operandAt_1 rfl (lv_at hl 1 rfl) ?_
  obtain ⟨r4, hr4, hf⟩ := pr_bi hf
  refine pr_callVr (rest := []) (r := r4) ⟨hx, hb, hml, hown, hts⟩ 2 (prc_G_isOperation hD hX 0 (Nat.le_refl _) σ x1 r4 hr4) (prg_G_isOperation hts prw_179 (by have := hh; omega)) hX hXs hK hP hS (by decide) rfl rfl rfl rfl hl.1 (Nat.le_of_ble_eq_true rfl) prd_G_operandAt_2 (fun H locs hP hS => ?_)
  refine lv_if_eq (tgt := 17) hx hb prd_G_operandAt_5 (by decide) (fun c5 => ?_) (fun c5 => ?_)
  · have hf := pr_it c5 hf
    refine lv_iconst (v := (-1)) hx hb prd_G_operandAt_17 (by decide) ?_
    exact pr_reti E hP hS (pr_ro hf) prd_G_operandAt_18
  · have hf := pr_ie c5 hf
    refine lv_aload_n hx hb prd_G_operandAt_8 rfl (lv_at hl 0 rfl) ?_
    refine pr_getr (t := 23) hx hb hts prs_G hown hK hP 2 13 (by decide) rfl (hts _ prw_135) rfl prd_G_operandAt_9 ?_
    refine lv_iload_n hx hb prd_G_operandAt_12 rfl (lv_at hl 1 rfl) ?_
    obtain ⟨hi6, hf⟩ := pr_ck_in hf
    refine pr_iald (f := (σ.2.1 23)) hx hb hK hP 23 (by decide) rfl hi6 rfl prd_G_operandAt_13 ?_
    refine lv_goto (tgt := 18) hx hb prd_G_operandAt_14 (by decide) ?_
    exact pr_reti E hP hS (pr_ro hf) prd_G_operandAt_18
