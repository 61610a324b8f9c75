-- Y_isWrong
set_option maxHeartbeats 4000000 in
set_option maxRecDepth 100000 in
theorem prc_Y_isWrong {l : Launch} {D : va_G} {ad : Nat → Nat} {dA : Nat → ClassId} {A : Nat → Prop} {t : Nat} (hD : ∀ σ : pr_St, va_D A (pr_w prc_L ad dA σ)) (hX : pr_Xok A (prX t A)) (h : Nat) (hh : 1 ≤ h) (σ : pr_St) (x1 : Int32) (x2 : Int32) (res : (Int32 × pr_St)) (hf : prf_Y_isWrong σ x1 x2 = some res) : Met l pry_Y_isWrong (Cond.code pry_Y_isWrong prb_Y_isWrong 3 (some .boolean) :: pr_U) (pr_rm h) (pr_Pc (prX t A) D pr_cl prc_L ad dA [.ref (ad 6), .int x1, .int x2] σ) (pr_Qi D pr_cl prc_L ad dA A res) 0 0 A := by
  refine pr_entry (cc := prb_Y_isWrong) (maxL := 3) (ret := (some .boolean)) (by decide) (Nat.le_of_ble_eq_true rfl) hD hX ?_
  intro p e s m args below meth c E H locs hP hS ls hl
  have hl : lv_has ls 3 [(0, .ref (ad 6)), (1, .int x1), (2, .int x2)] := hl
  have hf := hf.symm
  unfold prf_Y_isWrong at hf
  obtain ⟨hx, hb, hml, hown, hts, hr, hlocks, hK, hD, hX, hXs⟩ := id E
  refine lv_aload_n hx hb prd_Y_isWrong_0 rfl (lv_at hl 0 rfl) ?_
  refine lv_iload_n hx hb prd_Y_isWrong_1 rfl (lv_at hl 1 rfl) ?_
  refine pr_puti (ty := .int) hx hb hts prs_Y prq_Y prtt_Y prtn_Y hown hK hP (hD _) hS 6 14 (by decide) rfl (hts _ prw_309) rfl rfl (prtt_Y 14 (by decide)) rfl rfl prd_Y_isWrong_2 (fun H locs hP hS => ?_)
  refine lv_aload_n hx hb prd_Y_isWrong_5 rfl (lv_at hl 0 rfl) ?_
  refine lv_aload_n hx hb prd_Y_isWrong_6 rfl (lv_at hl 0 rfl) ?_
  refine pr_getr (t := 1) hx hb hts prs_Y hown hK hP 6 0 (by decide) rfl (hts _ prw_310) rfl prd_Y_isWrong_7 ?_
  refine lv_iload_n hx hb prd_Y_isWrong_10 rfl (lv_at hl 2 rfl) ?_
  obtain ⟨r2, hr2, hf⟩ := pr_bi hf
  refine pr_callVr (rest := [.ref (ad 6)]) (r := r2) ⟨hx, hb, hml, hown, hts⟩ 1 (prc_T_placeAt hD hX 0 (Nat.le_refl _) (pr_sI σ 6 14 x1) x2 r2 hr2) (prg_T_placeAt hts prw_311 (by have := hh; omega)) hX hXs hK hP hS (by decide) rfl rfl rfl rfl hl.1 (Nat.le_of_ble_eq_true rfl) prd_Y_isWrong_11 (fun H locs hP hS => ?_)
  refine pr_puti (ty := .int) hx hb hts prs_Y prq_Y prtt_Y prtn_Y hown hK hP (hD _) hS 6 15 (by decide) rfl (hts _ prw_312) rfl rfl (prtt_Y 15 (by decide)) rfl rfl prd_Y_isWrong_14 (fun H locs hP hS => ?_)
  refine lv_iconst (v := 0) hx hb prd_Y_isWrong_17 (by decide) ?_
  exact pr_retz E (Or.inl rfl) hP hS (pr_so hf) prd_Y_isWrong_18
-- Y_openBlock
set_option maxHeartbeats 4000000 in
set_option maxRecDepth 100000 in
theorem prc_Y_openBlock {l : Launch} {D : va_G} {ad : Nat → Nat} {dA : Nat → ClassId} {A : Nat → Prop} {t : Nat} (hD : ∀ σ : pr_St, va_D A (pr_w prc_L ad dA σ)) (hX : pr_Xok A (prX t A)) (h : Nat) (hh : 2 ≤ h) (σ : pr_St) (x1 : Int32) (x2 : Int32) (x3 : Int32) (x4 : Int32) (x5 : Int32) (res : pr_St) (hf : prf_Y_openBlock σ x1 x2 x3 x4 x5 = some res) : Met l pry_Y_openBlock (Cond.code pry_Y_openBlock prb_Y_openBlock 6 none :: pr_U) (pr_rm h) (pr_Pc (prX t A) D pr_cl prc_L ad dA [.ref (ad 6), .int x1, .int x2, .int x3, .int x4, .int x5] σ) (pr_Qv D pr_cl prc_L ad dA A res) 0 0 A := by
  refine pr_entry (cc := prb_Y_openBlock) (maxL := 6) (ret := none) (by decide) (Nat.le_of_ble_eq_true rfl) hD hX ?_
  intro p e s m args below meth c E H locs hP hS ls hl
  have hl : lv_has ls 6 [(0, .ref (ad 6)), (1, .int x1), (2, .int x2), (3, .int x3), (4, .int x4), (5, .int x5)] := hl
  have hf := hf.symm
  unfold prf_Y_openBlock at hf
  obtain ⟨hx, hb, hml, hown, hts, hr, hlocks, hK, hD, hX, hXs⟩ := id E
  refine lv_aload_n hx hb prd_Y_openBlock_0 rfl (lv_at hl 0 rfl) ?_
  refine pr_geti (v := (σ.1 6 9)) hx hb hts prs_Y hown hK hP 6 9 (by decide) rfl (hts _ prw_326) rfl rfl prd_Y_openBlock_1 ?_
  refine lv_if_lt (tgt := 19) hx hb prd_Y_openBlock_4 (by decide) (fun c10 => ?_) (fun c10 => ?_)
  · have hf := pr_it c10 hf
    exact pr_retv E hP hS (pr_so hf) prd_Y_openBlock_19
  · have hf := pr_ie c10 hf
    refine lv_aload_n hx hb prd_Y_openBlock_7 rfl (lv_at hl 0 rfl) ?_
    refine pr_geti (v := (σ.1 6 9)) hx hb hts prs_Y hown hK hP 6 9 (by decide) rfl (hts _ prw_326) rfl rfl prd_Y_openBlock_8 ?_
    refine lv_aload_n hx hb prd_Y_openBlock_11 rfl (lv_at hl 0 rfl) ?_
    refine pr_getr (t := 45) hx hb hts prs_Y hown hK hP 6 7 (by decide) rfl (hts _ prw_327) rfl prd_Y_openBlock_12 ?_
    refine pr_alen (v := 250) hx hb hK hP 45 (by decide) (by decide) prd_Y_openBlock_15 ?_
    refine lv_icmp_lt (tgt := 20) hx hb prd_Y_openBlock_16 (by decide) (fun c11 => ?_) (fun c11 => ?_)
    · have hf := pr_it c11 hf
      refine lv_aload_n hx hb prd_Y_openBlock_20 rfl (lv_at hl 0 rfl) ?_
      refine pr_getr (t := 45) hx hb hts prs_Y hown hK hP 6 7 (by decide) rfl (hts _ prw_327) rfl prd_Y_openBlock_21 ?_
      refine lv_aload_n hx hb prd_Y_openBlock_24 rfl (lv_at hl 0 rfl) ?_
      refine pr_geti (v := (σ.1 6 9)) hx hb hts prs_Y hown hK hP 6 9 (by decide) rfl (hts _ prw_326) rfl rfl prd_Y_openBlock_25 ?_
      refine lv_iload_n hx hb prd_Y_openBlock_28 rfl (lv_at hl 1 rfl) ?_
      obtain ⟨hi12, hf⟩ := pr_ck_in hf
      refine pr_iast (f := (σ.2.1 45)) hx hb hK hP (hD _) hS 45 (by decide) rfl hi12 rfl prd_Y_openBlock_29 (fun H locs hP hS => ?_)
      refine lv_aload_n hx hb prd_Y_openBlock_30 rfl (lv_at hl 0 rfl) ?_
      refine pr_getr (t := 46) hx hb hts prs_Y hown hK hP 6 8 (by decide) rfl (hts _ prw_328) rfl prd_Y_openBlock_31 ?_
      refine lv_aload_n hx hb prd_Y_openBlock_34 rfl (lv_at hl 0 rfl) ?_
      refine pr_geti (v := (σ.1 6 9)) hx hb hts prs_Y hown hK hP 6 9 (by decide) rfl (hts _ prw_326) rfl rfl prd_Y_openBlock_35 ?_
      refine lv_iload_n hx hb prd_Y_openBlock_38 rfl (lv_at hl 2 rfl) ?_
      obtain ⟨hi13, hf⟩ := pr_ck_in hf
      refine pr_iast (f := (σ.2.1 46)) hx hb hK hP (hD _) hS 46 (by decide) rfl hi13 rfl prd_Y_openBlock_39 (fun H locs hP hS => ?_)
      refine lv_aload_n hx hb prd_Y_openBlock_40 rfl (lv_at hl 0 rfl) ?_
      refine pr_getr (t := 42) hx hb hts prs_Y hown hK hP 6 4 (by decide) rfl (hts _ prw_329) rfl prd_Y_openBlock_41 ?_
      refine lv_aload_n hx hb prd_Y_openBlock_44 rfl (lv_at hl 0 rfl) ?_
      refine pr_geti (v := (σ.1 6 9)) hx hb hts prs_Y hown hK hP 6 9 (by decide) rfl (hts _ prw_326) rfl rfl prd_Y_openBlock_45 ?_
      refine lv_iload_n hx hb prd_Y_openBlock_48 rfl (lv_at hl 3 rfl) ?_
      obtain ⟨hi14, hf⟩ := pr_ck_in hf
      refine pr_iast (f := (σ.2.1 42)) hx hb hK hP (hD _) hS 42 (by decide) rfl hi14 rfl prd_Y_openBlock_49 (fun H locs hP hS => ?_)
      refine lv_aload_n hx hb prd_Y_openBlock_50 rfl (lv_at hl 0 rfl) ?_
      refine pr_getr (t := 43) hx hb hts prs_Y hown hK hP 6 5 (by decide) rfl (hts _ prw_330) rfl prd_Y_openBlock_51 ?_
      refine lv_aload_n hx hb prd_Y_openBlock_54 rfl (lv_at hl 0 rfl) ?_
      refine pr_geti (v := (σ.1 6 9)) hx hb hts prs_Y hown hK hP 6 9 (by decide) rfl (hts _ prw_326) rfl rfl prd_Y_openBlock_55 ?_
      refine lv_iload hx hb prd_Y_openBlock_58 (lv_at hl 4 rfl) ?_
      obtain ⟨hi15, hf⟩ := pr_ck_in hf
      refine pr_iast (f := (σ.2.1 43)) hx hb hK hP (hD _) hS 43 (by decide) rfl hi15 rfl prd_Y_openBlock_60 (fun H locs hP hS => ?_)
      refine lv_aload_n hx hb prd_Y_openBlock_61 rfl (lv_at hl 0 rfl) ?_
      refine pr_getr (t := 44) hx hb hts prs_Y hown hK hP 6 6 (by decide) rfl (hts _ prw_331) rfl prd_Y_openBlock_62 ?_
      refine lv_aload_n hx hb prd_Y_openBlock_65 rfl (lv_at hl 0 rfl) ?_
      refine pr_geti (v := (σ.1 6 9)) hx hb hts prs_Y hown hK hP 6 9 (by decide) rfl (hts _ prw_326) rfl rfl prd_Y_openBlock_66 ?_
      refine lv_iload hx hb prd_Y_openBlock_69 (lv_at hl 5 rfl) ?_
      obtain ⟨hi16, hf⟩ := pr_ck_in hf
      refine pr_iast (f := (σ.2.1 44)) hx hb hK hP (hD _) hS 44 (by decide) rfl hi16 rfl prd_Y_openBlock_71 (fun H locs hP hS => ?_)
      refine lv_aload_n hx hb prd_Y_openBlock_72 rfl (lv_at hl 0 rfl) ?_
      refine lv_dup hx hb prd_Y_openBlock_73 rfl ?_
      refine pr_geti (v := (σ.1 6 9)) hx hb hts prs_Y hown hK hP 6 9 (by decide) rfl (hts _ prw_326) rfl rfl prd_Y_openBlock_74 ?_
      refine lv_iconst (v := 1) hx hb prd_Y_openBlock_77 (by decide) ?_
      refine lv_iadd hx hb prd_Y_openBlock_78 ?_
      refine pr_puti (ty := .int) hx hb hts prs_Y prq_Y prtt_Y prtn_Y hown hK hP (hD _) hS 6 9 (by decide) rfl (hts _ prw_326) rfl rfl (prtt_Y 9 (by decide)) rfl rfl prd_Y_openBlock_79 (fun H locs hP hS => ?_)
      refine lv_iload_n hx hb prd_Y_openBlock_82 rfl (lv_at hl 3 rfl) ?_
      refine lv_iload hx hb prd_Y_openBlock_83 (lv_at hl 4 rfl) ?_
      refine lv_icmp_ge (tgt := 96) hx hb prd_Y_openBlock_85 (by decide) (fun c17 => ?_) (fun c17 => ?_)
      · have hf := pr_it c17 hf
        exact pr_retv E hP hS (pr_so hf) prd_Y_openBlock_96
      · have hf := pr_ie c17 hf
        refine lv_aload_n hx hb prd_Y_openBlock_88 rfl (lv_at hl 0 rfl) ?_
        refine pr_getr (t := 4) hx hb hts prs_Y hown hK hP 6 2 (by decide) rfl (hts _ prw_332) rfl prd_Y_openBlock_89 ?_
        refine lv_iload_n hx hb prd_Y_openBlock_92 rfl (lv_at hl 1 rfl) ?_
        obtain ⟨r18, hr18, hf⟩ := pr_bi hf
        refine pr_callVv (rest := []) (res := r18) ⟨hx, hb, hml, hown, hts⟩ 4 (prc_O_goInto hD hX 1 (Nat.le_refl _) (pr_sI (pr_sA (pr_sA (pr_sA (pr_sA (pr_sA σ 45 (upd (σ.2.1 45) (σ.1 6 9).toNatClampNeg x1)) 46 (upd (σ.2.1 46) (σ.1 6 9).toNatClampNeg x2)) 42 (upd (σ.2.1 42) (σ.1 6 9).toNatClampNeg x3)) 43 (upd (σ.2.1 43) (σ.1 6 9).toNatClampNeg x4)) 44 (upd (σ.2.1 44) (σ.1 6 9).toNatClampNeg x5)) 6 9 ((σ.1 6 9) + 1)) x1 r18 hr18) (prg_O_goInto hts prw_333 (by have := hh; omega)) hX hXs hK hP hS (by decide) rfl rfl rfl rfl hl.1 (Nat.le_of_ble_eq_true rfl) prd_Y_openBlock_93 (fun H locs hP hS => ?_)
        exact pr_retv E hP hS (pr_so hf) prd_Y_openBlock_96
    · have hf := pr_ie c11 hf
      exact pr_retv E hP hS (pr_so hf) prd_Y_openBlock_19
-- Y_openFunction
set_option maxHeartbeats 4000000 in
set_option maxRecDepth 100000 in
theorem prc_Y_openFunction {l : Launch} {D : va_G} {ad : Nat → Nat} {dA : Nat → ClassId} {A : Nat → Prop} {t : Nat} (hD : ∀ σ : pr_St, va_D A (pr_w prc_L ad dA σ)) (hX : pr_Xok A (prX t A)) (h : Nat) (hh : 3 ≤ h) (σ : pr_St) (x1 : Int32) (x2 : Int32) (res : pr_St) (hf : prf_Y_openFunction σ x1 x2 = some res) : Met l pry_Y_openFunction (Cond.code pry_Y_openFunction prb_Y_openFunction 3 none :: pr_U) (pr_rm h) (pr_Pc (prX t A) D pr_cl prc_L ad dA [.ref (ad 6), .int x1, .int x2] σ) (pr_Qv D pr_cl prc_L ad dA A res) 0 0 A := by
  refine pr_entry (cc := prb_Y_openFunction) (maxL := 3) (ret := none) (by decide) (Nat.le_of_ble_eq_true rfl) hD hX ?_
  intro p e s m args below meth c E H locs hP hS ls hl
  have hl : lv_has ls 3 [(0, .ref (ad 6)), (1, .int x1), (2, .int x2)] := hl
  have hf := hf.symm
  unfold prf_Y_openFunction at hf
  obtain ⟨hx, hb, hml, hown, hts, hr, hlocks, hK, hD, hX, hXs⟩ := id E
  refine lv_aload_n hx hb prd_Y_openFunction_0 rfl (lv_at hl 0 rfl) ?_
  refine lv_iload_n hx hb prd_Y_openFunction_1 rfl (lv_at hl 2 rfl) ?_
  refine lv_iload_n hx hb prd_Y_openFunction_2 rfl (lv_at hl 1 rfl) ?_
  refine lv_aload_n hx hb prd_Y_openFunction_3 rfl (lv_at hl 0 rfl) ?_
  refine pr_getr (t := 2) hx hb hts prs_Y hown hK hP 6 1 (by decide) rfl (hts _ prw_337) rfl prd_Y_openFunction_4 ?_
  refine lv_iload_n hx hb prd_Y_openFunction_7 rfl (lv_at hl 1 rfl) ?_
  obtain ⟨r5, hr5, hf⟩ := pr_bi hf
  refine pr_callVr (rest := [.int x1, .int x2, .ref (ad 6)]) (r := r5) ⟨hx, hb, hml, hown, hts⟩ 2 (prc_G_beginOf hD hX 1 (Nat.le_refl _) σ x1 r5 hr5) (prg_G_beginOf hts prw_338 (by have := hh; omega)) hX hXs hK hP hS (by decide) rfl rfl rfl rfl hl.1 (Nat.le_of_ble_eq_true rfl) prd_Y_openFunction_8 (fun H locs hP hS => ?_)
  refine lv_aload_n hx hb prd_Y_openFunction_11 rfl (lv_at hl 0 rfl) ?_
  refine pr_getr (t := 2) hx hb hts prs_Y hown hK hP 6 1 (by decide) rfl (hts _ prw_337) rfl prd_Y_openFunction_12 ?_
  refine lv_iload_n hx hb prd_Y_openFunction_15 rfl (lv_at hl 1 rfl) ?_
  obtain ⟨r6, hr6, hf⟩ := pr_bi hf
  refine pr_callVr (rest := [.int r5, .int x1, .int x2, .ref (ad 6)]) (r := r6) ⟨hx, hb, hml, hown, hts⟩ 2 (prc_G_endOf hD hX 1 (Nat.le_refl _) σ x1 r6 hr6) (prg_G_endOf hts prw_339 (by have := hh; omega)) hX hXs hK hP hS (by decide) rfl rfl rfl rfl hl.1 (Nat.le_of_ble_eq_true rfl) prd_Y_openFunction_16 (fun H locs hP hS => ?_)
  refine lv_aload_n hx hb prd_Y_openFunction_19 rfl (lv_at hl 0 rfl) ?_
  refine pr_getr (t := 2) hx hb hts prs_Y hown hK hP 6 1 (by decide) rfl (hts _ prw_337) rfl prd_Y_openFunction_20 ?_
  refine lv_iload_n hx hb prd_Y_openFunction_23 rfl (lv_at hl 1 rfl) ?_
  obtain ⟨r7, hr7, hf⟩ := pr_bi hf
  refine pr_callVr (rest := [.int r6, .int r5, .int x1, .int x2, .ref (ad 6)]) (r := r7) ⟨hx, hb, hml, hown, hts⟩ 2 (prc_G_endOf hD hX 1 (Nat.le_refl _) σ x1 r7 hr7) (prg_G_endOf hts prw_339 (by have := hh; omega)) hX hXs hK hP hS (by decide) rfl rfl rfl rfl hl.1 (Nat.le_of_ble_eq_true rfl) prd_Y_openFunction_24 (fun H locs hP hS => ?_)
  obtain ⟨r8, hr8, hf⟩ := pr_bi hf
  refine pr_callVv (rest := []) (res := r8) ⟨hx, hb, hml, hown, hts⟩ 6 (prc_Y_openBlock hD hX 2 (Nat.le_refl _) σ x2 x1 r5 r6 r7 r8 hr8) (prg_Y_openBlock hts prw_340 (by have := hh; omega)) hX hXs hK hP hS (by decide) rfl rfl rfl rfl hl.1 (Nat.le_of_ble_eq_true rfl) prd_Y_openFunction_27 (fun H locs hP hS => ?_)
  exact pr_retv E hP hS (pr_so hf) prd_Y_openFunction_30
-- Y_isOpen
set_option maxHeartbeats 4000000 in
set_option maxRecDepth 100000 in
theorem prc_Y_isOpen {l : Launch} {D : va_G} {ad : Nat → Nat} {dA : Nat → ClassId} {A : Nat → Prop} {t : Nat} (hD : ∀ σ : pr_St, va_D A (pr_w prc_L ad dA σ)) (hX : pr_Xok A (prX t A)) (h : Nat) (hh : 0 ≤ h) (σ : pr_St)  (res : Int32) (hf : prf_Y_isOpen σ  = some res) : Met l pry_Y_isOpen (Cond.code pry_Y_isOpen prb_Y_isOpen 1 (some .boolean) :: pr_U) (pr_rm h) (pr_Pc (prX t A) D pr_cl prc_L ad dA [.ref (ad 6)] σ) (pr_Qi D pr_cl prc_L ad dA A (res, σ)) 0 0 A := by
  refine pr_entry (cc := prb_Y_isOpen) (maxL := 1) (ret := (some .boolean)) (by decide) (Nat.le_of_ble_eq_true rfl) hD hX ?_
  intro p e s m args below meth c E H locs hP hS ls hl
  have hl : lv_has ls 1 [(0, .ref (ad 6))] := hl
  have hf := hf.symm
  unfold prf_Y_isOpen at hf
  obtain ⟨hx, hb, hml, hown, hts, hr, hlocks, hK, hD, hX, hXs⟩ := id E
  refine lv_aload_n hx hb prd_Y_isOpen_0 rfl (lv_at hl 0 rfl) ?_
  refine pr_geti (v := (σ.1 6 10)) hx hb hts prs_Y hown hK hP 6 10 (by decide) rfl (hts _ prw_344) rfl rfl prd_Y_isOpen_1 ?_
  refine lv_if_lt (tgt := 34) hx hb prd_Y_isOpen_4 (by decide) (fun c4 => ?_) (fun c4 => ?_)
  · have hf := pr_it c4 hf
    refine lv_iconst (v := 0) hx hb prd_Y_isOpen_34 (by decide) ?_
    exact pr_retz E (Or.inl rfl) hP hS (pr_ro hf) prd_Y_isOpen_35
  · have hf := pr_ie c4 hf
    refine lv_aload_n hx hb prd_Y_isOpen_7 rfl (lv_at hl 0 rfl) ?_
    refine pr_geti (v := (σ.1 6 10)) hx hb hts prs_Y hown hK hP 6 10 (by decide) rfl (hts _ prw_344) rfl rfl prd_Y_isOpen_8 ?_
    refine lv_aload_n hx hb prd_Y_isOpen_11 rfl (lv_at hl 0 rfl) ?_
    refine pr_geti (v := (σ.1 6 9)) hx hb hts prs_Y hown hK hP 6 9 (by decide) rfl (hts _ prw_326) rfl rfl prd_Y_isOpen_12 ?_
    refine lv_icmp_ge (tgt := 34) hx hb prd_Y_isOpen_15 (by decide) (fun c5 => ?_) (fun c5 => ?_)
    · have hf := pr_it c5 hf
      refine lv_iconst (v := 0) hx hb prd_Y_isOpen_34 (by decide) ?_
      exact pr_retz E (Or.inl rfl) hP hS (pr_ro hf) prd_Y_isOpen_35
    · have hf := pr_ie c5 hf
      refine lv_aload_n hx hb prd_Y_isOpen_18 rfl (lv_at hl 0 rfl) ?_
      refine pr_geti (v := (σ.1 6 10)) hx hb hts prs_Y hown hK hP 6 10 (by decide) rfl (hts _ prw_344) rfl rfl prd_Y_isOpen_19 ?_
      refine lv_aload_n hx hb prd_Y_isOpen_22 rfl (lv_at hl 0 rfl) ?_
      refine pr_getr (t := 45) hx hb hts prs_Y hown hK hP 6 7 (by decide) rfl (hts _ prw_327) rfl prd_Y_isOpen_23 ?_
      refine pr_alen (v := 250) hx hb hK hP 45 (by decide) (by decide) prd_Y_isOpen_26 ?_
      refine lv_icmp_ge (tgt := 34) hx hb prd_Y_isOpen_27 (by decide) (fun c6 => ?_) (fun c6 => ?_)
      · have hf := pr_it c6 hf
        refine lv_iconst (v := 0) hx hb prd_Y_isOpen_34 (by decide) ?_
        exact pr_retz E (Or.inl rfl) hP hS (pr_ro hf) prd_Y_isOpen_35
      · have hf := pr_ie c6 hf
        refine lv_iconst (v := 1) hx hb prd_Y_isOpen_30 (by decide) ?_
        refine lv_goto (tgt := 35) hx hb prd_Y_isOpen_31 (by decide) ?_
        exact pr_retz E (Or.inr rfl) hP hS (pr_ro hf) prd_Y_isOpen_35
-- Y_takeStatement
set_option maxHeartbeats 4000000 in
set_option maxRecDepth 100000 in
theorem prc_Y_takeStatement {l : Launch} {D : va_G} {ad : Nat → Nat} {dA : Nat → ClassId} {A : Nat → Prop} {t : Nat} (hD : ∀ σ : pr_St, va_D A (pr_w prc_L ad dA σ)) (hX : pr_Xok A (prX t A)) (h : Nat) (hh : 2 ≤ h) (σ : pr_St)  (res : (Int32 × pr_St)) (hf : prf_Y_takeStatement σ  = some res) : Met l pry_Y_takeStatement (Cond.code pry_Y_takeStatement prb_Y_takeStatement 2 (some .int) :: pr_U) (pr_rm h) (pr_Pc (prX t A) D pr_cl prc_L ad dA [.ref (ad 6)] σ) (pr_Qi D pr_cl prc_L ad dA A res) 0 0 A := by
  refine pr_entry (cc := prb_Y_takeStatement) (maxL := 2) (ret := (some .int)) (by decide) (Nat.le_of_ble_eq_true rfl) hD hX ?_
  intro p e s m args below meth c E H locs hP hS ls hl
  have hl : lv_has ls 2 [(0, .ref (ad 6))] := hl
  have hf := hf.symm
  unfold prf_Y_takeStatement at hf
  obtain ⟨hx, hb, hml, hown, hts, hr, hlocks, hK, hD, hX, hXs⟩ := id E
  refine lv_aload_n hx hb prd_Y_takeStatement_0 rfl (lv_at hl 0 rfl) ?_
  obtain ⟨r9, hr9, hf⟩ := pr_bi hf
  refine pr_callVr (rest := []) (r := r9) ⟨hx, hb, hml, hown, hts⟩ 6 (prc_Y_isOpen hD hX 0 (Nat.le_refl _) σ  r9 hr9) (prg_Y_isOpen hts prw_351 (by have := hh; omega)) hX hXs hK hP hS (by decide) rfl rfl rfl rfl hl.1 (Nat.le_of_ble_eq_true rfl) prd_Y_takeStatement_1 (fun H locs hP hS => ?_)
  refine lv_if_eq (tgt := 28) hx hb prd_Y_takeStatement_4 (by decide) (fun c10 => ?_) (fun c10 => ?_)
  · have hf := pr_it c10 hf
    refine lv_iconst (v := (-1)) hx hb prd_Y_takeStatement_28 (by decide) ?_
    exact pr_reti E hP hS (pr_so hf) prd_Y_takeStatement_29
  · have hf := pr_ie c10 hf
    refine lv_aload_n hx hb prd_Y_takeStatement_7 rfl (lv_at hl 0 rfl) ?_
    refine pr_getr (t := 42) hx hb hts prs_Y hown hK hP 6 4 (by decide) rfl (hts _ prw_329) rfl prd_Y_takeStatement_8 ?_
    refine lv_aload_n hx hb prd_Y_takeStatement_11 rfl (lv_at hl 0 rfl) ?_
    refine pr_geti (v := (σ.1 6 10)) hx hb hts prs_Y hown hK hP 6 10 (by decide) rfl (hts _ prw_344) rfl rfl prd_Y_takeStatement_12 ?_
    obtain ⟨hi11, hf⟩ := pr_ck_in hf
    refine pr_iald (f := (σ.2.1 42)) hx hb hK hP 42 (by decide) rfl hi11 rfl prd_Y_takeStatement_15 ?_
    refine lv_aload_n hx hb prd_Y_takeStatement_16 rfl (lv_at hl 0 rfl) ?_
    refine pr_getr (t := 43) hx hb hts prs_Y hown hK hP 6 5 (by decide) rfl (hts _ prw_330) rfl prd_Y_takeStatement_17 ?_
    refine lv_aload_n hx hb prd_Y_takeStatement_20 rfl (lv_at hl 0 rfl) ?_
    refine pr_geti (v := (σ.1 6 10)) hx hb hts prs_Y hown hK hP 6 10 (by decide) rfl (hts _ prw_344) rfl rfl prd_Y_takeStatement_21 ?_
    obtain ⟨hi12, hf⟩ := pr_ck_in hf
    refine pr_iald (f := (σ.2.1 43)) hx hb hK hP 43 (by decide) rfl hi12 rfl prd_Y_takeStatement_24 ?_
    refine lv_icmp_lt (tgt := 30) hx hb prd_Y_takeStatement_25 (by decide) (fun c13 => ?_) (fun c13 => ?_)
    · have hf := pr_it c13 hf
      refine lv_aload_n hx hb prd_Y_takeStatement_30 rfl (lv_at hl 0 rfl) ?_
      refine pr_getr (t := 42) hx hb hts prs_Y hown hK hP 6 4 (by decide) rfl (hts _ prw_329) rfl prd_Y_takeStatement_31 ?_
      refine lv_aload_n hx hb prd_Y_takeStatement_34 rfl (lv_at hl 0 rfl) ?_
      refine pr_geti (v := (σ.1 6 10)) hx hb hts prs_Y hown hK hP 6 10 (by decide) rfl (hts _ prw_344) rfl rfl prd_Y_takeStatement_35 ?_
      obtain ⟨hi14, hf⟩ := pr_ck_in hf
      refine pr_iald (f := (σ.2.1 42)) hx hb hK hP 42 (by decide) rfl hi14 rfl prd_Y_takeStatement_38 ?_
      refine lv_istore_n (lv' := [(1, .int ((σ.2.1 42) (σ.1 6 10).toNatClampNeg)), (0, .ref (ad 6))]) hx hb prd_Y_takeStatement_39 rfl hl (by decide) rfl (fun ls hl => ?_)
      refine lv_aload_n hx hb prd_Y_takeStatement_40 rfl (lv_at hl 1 rfl) ?_
      refine pr_getr (t := 42) hx hb hts prs_Y hown hK hP 6 4 (by decide) rfl (hts _ prw_329) rfl prd_Y_takeStatement_41 ?_
      refine lv_aload_n hx hb prd_Y_takeStatement_44 rfl (lv_at hl 1 rfl) ?_
      refine pr_geti (v := (σ.1 6 10)) hx hb hts prs_Y hown hK hP 6 10 (by decide) rfl (hts _ prw_344) rfl rfl prd_Y_takeStatement_45 ?_
      refine lv_aload_n hx hb prd_Y_takeStatement_48 rfl (lv_at hl 1 rfl) ?_
      refine pr_getr (t := 2) hx hb hts prs_Y hown hK hP 6 1 (by decide) rfl (hts _ prw_337) rfl prd_Y_takeStatement_49 ?_
      refine lv_iload_n hx hb prd_Y_takeStatement_52 rfl (lv_at hl 0 rfl) ?_
      obtain ⟨r15, hr15, hf⟩ := pr_bi hf
      refine pr_callVr (rest := [.int (σ.1 6 10), .ref (ad 42)]) (r := r15) ⟨hx, hb, hml, hown, hts⟩ 2 (prc_G_behind hD hX 1 (Nat.le_refl _) σ ((σ.2.1 42) (σ.1 6 10).toNatClampNeg) r15 hr15) (prg_G_behind hts prw_352 (by have := hh; omega)) hX hXs hK hP hS (by decide) rfl rfl rfl rfl hl.1 (Nat.le_of_ble_eq_true rfl) prd_Y_takeStatement_53 (fun H locs hP hS => ?_)
      obtain ⟨hi16, hf⟩ := pr_ck_in hf
      refine pr_iast (f := (σ.2.1 42)) hx hb hK hP (hD _) hS 42 (by decide) rfl hi16 rfl prd_Y_takeStatement_56 (fun H locs hP hS => ?_)
      refine lv_iload_n hx hb prd_Y_takeStatement_57 rfl (lv_at hl 0 rfl) ?_
      exact pr_reti E hP hS (pr_so hf) prd_Y_takeStatement_58
    · have hf := pr_ie c13 hf
      refine lv_iconst (v := (-1)) hx hb prd_Y_takeStatement_28 (by decide) ?_
      exact pr_reti E hP hS (pr_so hf) prd_Y_takeStatement_29
-- Y_parent
set_option maxHeartbeats 4000000 in
set_option maxRecDepth 100000 in
theorem prc_Y_parent {l : Launch} {D : va_G} {ad : Nat → Nat} {dA : Nat → ClassId} {A : Nat → Prop} {t : Nat} (hD : ∀ σ : pr_St, va_D A (pr_w prc_L ad dA σ)) (hX : pr_Xok A (prX t A)) (h : Nat) (hh : 1 ≤ h) (σ : pr_St)  (res : Int32) (hf : prf_Y_parent σ  = some res) : Met l pry_Y_parent (Cond.code pry_Y_parent prb_Y_parent 1 (some .int) :: pr_U) (pr_rm h) (pr_Pc (prX t A) D pr_cl prc_L ad dA [.ref (ad 6)] σ) (pr_Qi D pr_cl prc_L ad dA A (res, σ)) 0 0 A := by
  refine pr_entry (cc := prb_Y_parent) (maxL := 1) (ret := (some .int)) (by decide) (Nat.le_of_ble_eq_true rfl) hD hX ?_
  intro p e s m args below meth c E H locs hP hS ls hl
  have hl : lv_has ls 1 [(0, .ref (ad 6))] := hl
  have hf := hf.symm
  unfold prf_Y_parent at hf
  obtain ⟨hx, hb, hml, hown, hts, hr, hlocks, hK, hD, hX, hXs⟩ := id E
  refine lv_aload_n hx hb prd_Y_parent_0 rfl (lv_at hl 0 rfl) ?_
  obtain ⟨r4, hr4, hf⟩ := pr_bi hf
  refine pr_callVr (rest := []) (r := r4) ⟨hx, hb, hml, hown, hts⟩ 6 (prc_Y_isOpen hD hX 0 (Nat.le_refl _) σ  r4 hr4) (prg_Y_isOpen hts prw_351 (by have := hh; omega)) hX hXs hK hP hS (by decide) rfl rfl rfl rfl hl.1 (Nat.le_of_ble_eq_true rfl) prd_Y_parent_1 (fun H locs hP hS => ?_)
  refine lv_if_eq (tgt := 19) hx hb prd_Y_parent_4 (by decide) (fun c5 => ?_) (fun c5 => ?_)
  · have hf := pr_it c5 hf
    refine lv_iconst (v := (-1)) hx hb prd_Y_parent_19 (by decide) ?_
    exact pr_reti E hP hS (pr_ro hf) prd_Y_parent_20
  · have hf := pr_ie c5 hf
    refine lv_aload_n hx hb prd_Y_parent_7 rfl (lv_at hl 0 rfl) ?_
    refine pr_getr (t := 45) hx hb hts prs_Y hown hK hP 6 7 (by decide) rfl (hts _ prw_327) rfl prd_Y_parent_8 ?_
    refine lv_aload_n hx hb prd_Y_parent_11 rfl (lv_at hl 0 rfl) ?_
    refine pr_geti (v := (σ.1 6 10)) hx hb hts prs_Y hown hK hP 6 10 (by decide) rfl (hts _ prw_344) rfl rfl prd_Y_parent_12 ?_
    obtain ⟨hi6, hf⟩ := pr_ck_in hf
    refine pr_iald (f := (σ.2.1 45)) hx hb hK hP 45 (by decide) rfl hi6 rfl prd_Y_parent_15 ?_
    refine lv_goto (tgt := 20) hx hb prd_Y_parent_16 (by decide) ?_
    exact pr_reti E hP hS (pr_ro hf) prd_Y_parent_20
-- Y_endBlock
set_option maxHeartbeats 4000000 in
set_option maxRecDepth 100000 in
theorem prc_Y_endBlock {l : Launch} {D : va_G} {ad : Nat → Nat} {dA : Nat → ClassId} {A : Nat → Prop} {t : Nat} (hD : ∀ σ : pr_St, va_D A (pr_w prc_L ad dA σ)) (hX : pr_Xok A (prX t A)) (h : Nat) (hh : 2 ≤ h) (σ : pr_St)  (res : pr_St) (hf : prf_Y_endBlock σ  = some res) : Met l pry_Y_endBlock (Cond.code pry_Y_endBlock prb_Y_endBlock 2 none :: pr_U) (pr_rm h) (pr_Pc (prX t A) D pr_cl prc_L ad dA [.ref (ad 6)] σ) (pr_Qv D pr_cl prc_L ad dA A res) 0 0 A := by
  refine pr_entry (cc := prb_Y_endBlock) (maxL := 2) (ret := none) (by decide) (Nat.le_of_ble_eq_true rfl) hD hX ?_
  intro p e s m args below meth c E H locs hP hS ls hl
  have hl : lv_has ls 2 [(0, .ref (ad 6))] := hl
  have hf := hf.symm
  unfold prf_Y_endBlock at hf
  obtain ⟨hx, hb, hml, hown, hts, hr, hlocks, hK, hD, hX, hXs⟩ := id E
  refine lv_aload_n hx hb prd_Y_endBlock_0 rfl (lv_at hl 0 rfl) ?_
  obtain ⟨r15, hr15, hf⟩ := pr_bi hf
  refine pr_callVr (rest := []) (r := r15) ⟨hx, hb, hml, hown, hts⟩ 6 (prc_Y_parent hD hX 1 (Nat.le_refl _) σ  r15 hr15) (prg_Y_parent hts prw_371 (by have := hh; omega)) hX hXs hK hP hS (by decide) rfl rfl rfl rfl hl.1 (Nat.le_of_ble_eq_true rfl) prd_Y_endBlock_1 (fun H locs hP hS => ?_)
  refine lv_istore_n (lv' := [(1, .int r15), (0, .ref (ad 6))]) hx hb prd_Y_endBlock_4 rfl hl (by decide) rfl (fun ls hl => ?_)
  refine lv_aload_n hx hb prd_Y_endBlock_5 rfl (lv_at hl 1 rfl) ?_
  refine pr_getr (t := 5) hx hb hts prs_Y hown hK hP 6 3 (by decide) rfl (hts _ prw_372) rfl prd_Y_endBlock_6 ?_
  refine lv_aload_n hx hb prd_Y_endBlock_9 rfl (lv_at hl 1 rfl) ?_
  refine pr_getr (t := 4) hx hb hts prs_Y hown hK hP 6 2 (by decide) rfl (hts _ prw_332) rfl prd_Y_endBlock_10 ?_
  refine lv_iload_n hx hb prd_Y_endBlock_13 rfl (lv_at hl 0 rfl) ?_
  obtain ⟨r16, hr16, hf⟩ := pr_bi hf
  refine pr_callVr (rest := [.ref (ad 5)]) (r := r16) ⟨hx, hb, hml, hown, hts⟩ 4 (prc_O_numbersAt hD hX 1 (Nat.le_refl _) σ r15 r16 hr16) (prg_O_numbersAt hts prw_373 (by have := hh; omega)) hX hXs hK hP hS (by decide) rfl rfl rfl rfl hl.1 (Nat.le_of_ble_eq_true rfl) prd_Y_endBlock_14 (fun H locs hP hS => ?_)
  refine lv_aload_n hx hb prd_Y_endBlock_17 rfl (lv_at hl 1 rfl) ?_
  refine pr_getr (t := 4) hx hb hts prs_Y hown hK hP 6 2 (by decide) rfl (hts _ prw_332) rfl prd_Y_endBlock_18 ?_
  refine lv_iload_n hx hb prd_Y_endBlock_21 rfl (lv_at hl 0 rfl) ?_
  obtain ⟨r17, hr17, hf⟩ := pr_bi hf
  refine pr_callVr (rest := [.int r16, .ref (ad 5)]) (r := r17) ⟨hx, hb, hml, hown, hts⟩ 4 (prc_O_arraysAt hD hX 1 (Nat.le_refl _) σ r15 r17 hr17) (prg_O_arraysAt hts prw_374 (by have := hh; omega)) hX hXs hK hP hS (by decide) rfl rfl rfl rfl hl.1 (Nat.le_of_ble_eq_true rfl) prd_Y_endBlock_22 (fun H locs hP hS => ?_)
  obtain ⟨r18, hr18, hf⟩ := pr_bi hf
  refine pr_callVv (rest := []) (res := r18) ⟨hx, hb, hml, hown, hts⟩ 5 (prc_S_cutTo hD hX 0 (Nat.le_refl _) σ r16 r17 r18 hr18) (prg_S_cutTo hts prw_375 (by have := hh; omega)) hX hXs hK hP hS (by decide) rfl rfl rfl rfl hl.1 (Nat.le_of_ble_eq_true rfl) prd_Y_endBlock_25 (fun H locs hP hS => ?_)
  refine lv_aload_n hx hb prd_Y_endBlock_28 rfl (lv_at hl 1 rfl) ?_
  obtain ⟨r19, hr19, hf⟩ := pr_bi hf
  refine pr_callVr (rest := []) (r := r19) ⟨hx, hb, hml, hown, hts⟩ 6 (prc_Y_isOpen hD hX 0 (Nat.le_refl _) r18  r19 hr19) (prg_Y_isOpen hts prw_351 (by have := hh; omega)) hX hXs hK hP hS (by decide) rfl rfl rfl rfl hl.1 (Nat.le_of_ble_eq_true rfl) prd_Y_endBlock_29 (fun H locs hP hS => ?_)
  refine lv_if_eq (tgt := 85) hx hb prd_Y_endBlock_32 (by decide) (fun c20 => ?_) (fun c20 => ?_)
  · have hf := pr_it c20 hf
    refine lv_aload_n hx hb prd_Y_endBlock_85 rfl (lv_at hl 1 rfl) ?_
    refine pr_getr (t := 4) hx hb hts prs_Y hown hK hP 6 2 (by decide) rfl (hts _ prw_332) rfl prd_Y_endBlock_86 ?_
    refine lv_iload_n hx hb prd_Y_endBlock_89 rfl (lv_at hl 0 rfl) ?_
    obtain ⟨r21, hr21, hf⟩ := pr_bi hf
    refine pr_callVv (rest := []) (res := r21) ⟨hx, hb, hml, hown, hts⟩ 4 (prc_O_close hD hX 1 (Nat.le_refl _) r18 r15 r21 hr21) (prg_O_close hts prw_376 (by have := hh; omega)) hX hXs hK hP hS (by decide) rfl rfl rfl rfl hl.1 (Nat.le_of_ble_eq_true rfl) prd_Y_endBlock_90 (fun H locs hP hS => ?_)
    refine lv_aload_n hx hb prd_Y_endBlock_93 rfl (lv_at hl 1 rfl) ?_
    refine lv_dup hx hb prd_Y_endBlock_94 rfl ?_
    refine pr_geti (v := (r21.1 6 9)) hx hb hts prs_Y hown hK hP 6 9 (by decide) rfl (hts _ prw_326) rfl rfl prd_Y_endBlock_95 ?_
    refine lv_iconst (v := 1) hx hb prd_Y_endBlock_98 (by decide) ?_
    refine lv_isub hx hb prd_Y_endBlock_99 ?_
    refine pr_puti (ty := .int) hx hb hts prs_Y prq_Y prtt_Y prtn_Y hown hK hP (hD _) hS 6 9 (by decide) rfl (hts _ prw_326) rfl rfl (prtt_Y 9 (by decide)) rfl rfl prd_Y_endBlock_100 (fun H locs hP hS => ?_)
    exact pr_retv E hP hS (pr_so hf) prd_Y_endBlock_103
  · have hf := pr_ie c20 hf
    refine lv_aload_n hx hb prd_Y_endBlock_35 rfl (lv_at hl 1 rfl) ?_
    refine pr_getr (t := 43) hx hb hts prs_Y hown hK hP 6 5 (by decide) rfl (hts _ prw_330) rfl prd_Y_endBlock_36 ?_
    refine lv_aload_n hx hb prd_Y_endBlock_39 rfl (lv_at hl 1 rfl) ?_
    refine pr_geti (v := (r18.1 6 10)) hx hb hts prs_Y hown hK hP 6 10 (by decide) rfl (hts _ prw_344) rfl rfl prd_Y_endBlock_40 ?_
    obtain ⟨hi22, hf⟩ := pr_ck_in hf
    refine pr_iald (f := (r18.2.1 43)) hx hb hK hP 43 (by decide) rfl hi22 rfl prd_Y_endBlock_43 ?_
    refine lv_aload_n hx hb prd_Y_endBlock_44 rfl (lv_at hl 1 rfl) ?_
    refine pr_getr (t := 44) hx hb hts prs_Y hown hK hP 6 6 (by decide) rfl (hts _ prw_331) rfl prd_Y_endBlock_45 ?_
    refine lv_aload_n hx hb prd_Y_endBlock_48 rfl (lv_at hl 1 rfl) ?_
    refine pr_geti (v := (r18.1 6 10)) hx hb hts prs_Y hown hK hP 6 10 (by decide) rfl (hts _ prw_344) rfl rfl prd_Y_endBlock_49 ?_
    obtain ⟨hi23, hf⟩ := pr_ck_in hf
    refine pr_iald (f := (r18.2.1 44)) hx hb hK hP 44 (by decide) rfl hi23 rfl prd_Y_endBlock_52 ?_
    refine lv_icmp_ge (tgt := 85) hx hb prd_Y_endBlock_53 (by decide) (fun c24 => ?_) (fun c24 => ?_)
    · have hf := pr_it c24 hf
      refine lv_aload_n hx hb prd_Y_endBlock_85 rfl (lv_at hl 1 rfl) ?_
      refine pr_getr (t := 4) hx hb hts prs_Y hown hK hP 6 2 (by decide) rfl (hts _ prw_332) rfl prd_Y_endBlock_86 ?_
      refine lv_iload_n hx hb prd_Y_endBlock_89 rfl (lv_at hl 0 rfl) ?_
      obtain ⟨r25, hr25, hf⟩ := pr_bi hf
      refine pr_callVv (rest := []) (res := r25) ⟨hx, hb, hml, hown, hts⟩ 4 (prc_O_close hD hX 1 (Nat.le_refl _) r18 r15 r25 hr25) (prg_O_close hts prw_376 (by have := hh; omega)) hX hXs hK hP hS (by decide) rfl rfl rfl rfl hl.1 (Nat.le_of_ble_eq_true rfl) prd_Y_endBlock_90 (fun H locs hP hS => ?_)
      refine lv_aload_n hx hb prd_Y_endBlock_93 rfl (lv_at hl 1 rfl) ?_
      refine lv_dup hx hb prd_Y_endBlock_94 rfl ?_
      refine pr_geti (v := (r25.1 6 9)) hx hb hts prs_Y hown hK hP 6 9 (by decide) rfl (hts _ prw_326) rfl rfl prd_Y_endBlock_95 ?_
      refine lv_iconst (v := 1) hx hb prd_Y_endBlock_98 (by decide) ?_
      refine lv_isub hx hb prd_Y_endBlock_99 ?_
      refine pr_puti (ty := .int) hx hb hts prs_Y prq_Y prtt_Y prtn_Y hown hK hP (hD _) hS 6 9 (by decide) rfl (hts _ prw_326) rfl rfl (prtt_Y 9 (by decide)) rfl rfl prd_Y_endBlock_100 (fun H locs hP hS => ?_)
      exact pr_retv E hP hS (pr_so hf) prd_Y_endBlock_103
    · have hf := pr_ie c24 hf
      refine lv_aload_n hx hb prd_Y_endBlock_56 rfl (lv_at hl 1 rfl) ?_
      refine pr_getr (t := 43) hx hb hts prs_Y hown hK hP 6 5 (by decide) rfl (hts _ prw_330) rfl prd_Y_endBlock_57 ?_
      refine lv_aload_n hx hb prd_Y_endBlock_60 rfl (lv_at hl 1 rfl) ?_
      refine pr_geti (v := (r18.1 6 10)) hx hb hts prs_Y hown hK hP 6 10 (by decide) rfl (hts _ prw_344) rfl rfl prd_Y_endBlock_61 ?_
      refine lv_aload_n hx hb prd_Y_endBlock_64 rfl (lv_at hl 1 rfl) ?_
      refine pr_getr (t := 44) hx hb hts prs_Y hown hK hP 6 6 (by decide) rfl (hts _ prw_331) rfl prd_Y_endBlock_65 ?_
      refine lv_aload_n hx hb prd_Y_endBlock_68 rfl (lv_at hl 1 rfl) ?_
      refine pr_geti (v := (r18.1 6 10)) hx hb hts prs_Y hown hK hP 6 10 (by decide) rfl (hts _ prw_344) rfl rfl prd_Y_endBlock_69 ?_
      obtain ⟨hi26, hf⟩ := pr_ck_in hf
      refine pr_iald (f := (r18.2.1 44)) hx hb hK hP 44 (by decide) rfl hi26 rfl prd_Y_endBlock_72 ?_
      obtain ⟨hi27, hf⟩ := pr_ck_in hf
      refine pr_iast (f := (r18.2.1 43)) hx hb hK hP (hD _) hS 43 (by decide) rfl hi27 rfl prd_Y_endBlock_73 (fun H locs hP hS => ?_)
      refine lv_aload_n hx hb prd_Y_endBlock_74 rfl (lv_at hl 1 rfl) ?_
      refine pr_getr (t := 4) hx hb hts prs_Y hown hK hP 6 2 (by decide) rfl (hts _ prw_332) rfl prd_Y_endBlock_75 ?_
      refine lv_iload_n hx hb prd_Y_endBlock_78 rfl (lv_at hl 0 rfl) ?_
      obtain ⟨r28, hr28, hf⟩ := pr_bi hf
      refine pr_callVv (rest := []) (res := r28) ⟨hx, hb, hml, hown, hts⟩ 4 (prc_O_beginOther hD hX 1 (Nat.le_refl _) (pr_sA r18 43 (upd (r18.2.1 43) (r18.1 6 10).toNatClampNeg ((r18.2.1 44) (r18.1 6 10).toNatClampNeg))) r15 r28 hr28) (prg_O_beginOther hts prw_377 (by have := hh; omega)) hX hXs hK hP hS (by decide) rfl rfl rfl rfl hl.1 (Nat.le_of_ble_eq_true rfl) prd_Y_endBlock_79 (fun H locs hP hS => ?_)
      refine lv_goto (tgt := 103) hx hb prd_Y_endBlock_82 (by decide) ?_
      exact pr_retv E hP hS (pr_so hf) prd_Y_endBlock_103
-- Y_findForeign
set_option maxHeartbeats 4000000 in
set_option maxRecDepth 100000 in
theorem prc_Y_findForeign {l : Launch} {D : va_G} {ad : Nat → Nat} {dA : Nat → ClassId} {A : Nat → Prop} {t : Nat} (hD : ∀ σ : pr_St, va_D A (pr_w prc_L ad dA σ)) (hX : pr_Xok A (prX t A)) (h : Nat) (hh : 2 ≤ h) (σ : pr_St)  (res : pr_St) (hf : prf_Y_findForeign σ  = some res) : Met l pry_Y_findForeign (Cond.code pry_Y_findForeign prb_Y_findForeign 3 none :: pr_U) (pr_rm h) (pr_Pc (prX t A) D pr_cl prc_L ad dA [.ref (ad 6)] σ) (pr_Qv D pr_cl prc_L ad dA A res) 0 0 A := by
  refine pr_entry (cc := prb_Y_findForeign) (maxL := 3) (ret := none) (by decide) (Nat.le_of_ble_eq_true rfl) hD hX ?_
  intro p e s m args below meth c E H locs hP hS ls hl
  have hl : lv_has ls 3 [(0, .ref (ad 6))] := hl
  have hf := hf.symm
  unfold prf_Y_findForeign at hf
  obtain ⟨hx, hb, hml, hown, hts, hr, hlocks, hK, hD, hX, hXs⟩ := id E
  refine lv_aload_n hx hb prd_Y_findForeign_0 rfl (lv_at hl 0 rfl) ?_
  obtain ⟨r22, hr22, hf⟩ := pr_bi hf
  refine pr_callVr (rest := []) (r := r22) ⟨hx, hb, hml, hown, hts⟩ 6 (prc_Y_parent hD hX 1 (Nat.le_refl _) σ  r22 hr22) (prg_Y_parent hts prw_371 (by have := hh; omega)) hX hXs hK hP hS (by decide) rfl rfl rfl rfl hl.1 (Nat.le_of_ble_eq_true rfl) prd_Y_findForeign_1 (fun H locs hP hS => ?_)
  refine lv_istore_n (lv' := [(1, .int r22), (0, .ref (ad 6))]) hx hb prd_Y_findForeign_4 rfl hl (by decide) rfl (fun ls hl => ?_)
  refine lv_aload_n hx hb prd_Y_findForeign_5 rfl (lv_at hl 1 rfl) ?_
  refine pr_getr (t := 4) hx hb hts prs_Y hown hK hP 6 2 (by decide) rfl (hts _ prw_332) rfl prd_Y_findForeign_6 ?_
  refine lv_iload_n hx hb prd_Y_findForeign_9 rfl (lv_at hl 0 rfl) ?_
  obtain ⟨r23, hr23, hf⟩ := pr_bi hf
  refine pr_callVr (rest := []) (r := r23) ⟨hx, hb, hml, hown, hts⟩ 4 (prc_O_kindOf hD hX 1 (Nat.le_refl _) σ r22 r23 hr23) (prg_O_kindOf hts prw_399 (by have := hh; omega)) hX hXs hK hP hS (by decide) rfl rfl rfl rfl hl.1 (Nat.le_of_ble_eq_true rfl) prd_Y_findForeign_10 (fun H locs hP hS => ?_)
  refine lv_iconst (v := 4) hx hb prd_Y_findForeign_13 (by decide) ?_
  refine lv_icmp_ne (tgt := 21) hx hb prd_Y_findForeign_14 (by decide) (fun c24 => ?_) (fun c24 => ?_)
  · have hf := pr_ie c24 hf
    refine lv_iconst (v := 0) hx hb prd_Y_findForeign_21 (by decide) ?_
    refine lv_istore_n (lv' := [(2, .int 0), (1, .int r22), (0, .ref (ad 6))]) hx hb prd_Y_findForeign_22 rfl hl (by decide) rfl (fun ls hl => ?_)
    refine lv_aload_n hx hb prd_Y_findForeign_23 rfl (lv_at hl 2 rfl) ?_
    refine lv_iload_n hx hb prd_Y_findForeign_24 rfl (lv_at hl 0 rfl) ?_
    refine lv_if_eq (tgt := 39) hx hb prd_Y_findForeign_25 (by decide) (fun c25 => ?_) (fun c25 => ?_)
    · have hf := pr_it c25 hf
      refine lv_aload_n hx hb prd_Y_findForeign_39 rfl (lv_at hl 2 rfl) ?_
      refine pr_getr (t := 4) hx hb hts prs_Y hown hK hP 6 2 (by decide) rfl (hts _ prw_332) rfl prd_Y_findForeign_40 ?_
      refine lv_iload_n hx hb prd_Y_findForeign_43 rfl (lv_at hl 1 rfl) ?_
      obtain ⟨r26, hr26, hf⟩ := pr_bi hf
      refine pr_callVr (rest := [.ref (ad 6)]) (r := r26) ⟨hx, hb, hml, hown, hts⟩ 4 (prc_O_foreignNumbersAt hD hX 1 (Nat.le_refl _) σ r22 r26 hr26) (prg_O_foreignNumbersAt hts prw_400 (by have := hh; omega)) hX hXs hK hP hS (by decide) rfl rfl rfl rfl hl.1 (Nat.le_of_ble_eq_true rfl) prd_Y_findForeign_44 (fun H locs hP hS => ?_)
      refine pr_puti (ty := .int) hx hb hts prs_Y prq_Y prtt_Y prtn_Y hown hK hP (hD _) hS 6 11 (by decide) rfl (hts _ prw_401) rfl rfl (prtt_Y 11 (by decide)) rfl rfl prd_Y_findForeign_47 (fun H locs hP hS => ?_)
      refine lv_aload_n hx hb prd_Y_findForeign_50 rfl (lv_at hl 2 rfl) ?_
      refine lv_iload_n hx hb prd_Y_findForeign_51 rfl (lv_at hl 0 rfl) ?_
      refine lv_if_eq (tgt := 66) hx hb prd_Y_findForeign_52 (by decide) (fun c27 => ?_) (fun c27 => ?_)
      · have hf := pr_it c27 hf
        refine lv_aload_n hx hb prd_Y_findForeign_66 rfl (lv_at hl 2 rfl) ?_
        refine pr_getr (t := 4) hx hb hts prs_Y hown hK hP 6 2 (by decide) rfl (hts _ prw_332) rfl prd_Y_findForeign_67 ?_
        refine lv_iload_n hx hb prd_Y_findForeign_70 rfl (lv_at hl 1 rfl) ?_
        obtain ⟨r28, hr28, hf⟩ := pr_bi hf
        refine pr_callVr (rest := [.ref (ad 6)]) (r := r28) ⟨hx, hb, hml, hown, hts⟩ 4 (prc_O_foreignArraysAt hD hX 1 (Nat.le_refl _) (pr_sI σ 6 11 r26) r22 r28 hr28) (prg_O_foreignArraysAt hts prw_402 (by have := hh; omega)) hX hXs hK hP hS (by decide) rfl rfl rfl rfl hl.1 (Nat.le_of_ble_eq_true rfl) prd_Y_findForeign_71 (fun H locs hP hS => ?_)
        refine pr_puti (ty := .int) hx hb hts prs_Y prq_Y prtt_Y prtn_Y hown hK hP (hD _) hS 6 12 (by decide) rfl (hts _ prw_403) rfl rfl (prtt_Y 12 (by decide)) rfl rfl prd_Y_findForeign_74 (fun H locs hP hS => ?_)
        exact pr_retv E hP hS (pr_so hf) prd_Y_findForeign_77
      · have hf := pr_ie c27 hf
        refine lv_aload_n hx hb prd_Y_findForeign_55 rfl (lv_at hl 2 rfl) ?_
        refine pr_getr (t := 4) hx hb hts prs_Y hown hK hP 6 2 (by decide) rfl (hts _ prw_332) rfl prd_Y_findForeign_56 ?_
        refine lv_iload_n hx hb prd_Y_findForeign_59 rfl (lv_at hl 1 rfl) ?_
        obtain ⟨r29, hr29, hf⟩ := pr_bi hf
        refine pr_callVr (rest := [.ref (ad 6)]) (r := r29) ⟨hx, hb, hml, hown, hts⟩ 4 (prc_O_arraysAt hD hX 1 (Nat.le_refl _) (pr_sI σ 6 11 r26) r22 r29 hr29) (prg_O_arraysAt hts prw_374 (by have := hh; omega)) hX hXs hK hP hS (by decide) rfl rfl rfl rfl hl.1 (Nat.le_of_ble_eq_true rfl) prd_Y_findForeign_60 (fun H locs hP hS => ?_)
        refine lv_goto (tgt := 74) hx hb prd_Y_findForeign_63 (by decide) ?_
        refine pr_puti (ty := .int) hx hb hts prs_Y prq_Y prtt_Y prtn_Y hown hK hP (hD _) hS 6 12 (by decide) rfl (hts _ prw_403) rfl rfl (prtt_Y 12 (by decide)) rfl rfl prd_Y_findForeign_74 (fun H locs hP hS => ?_)
        exact pr_retv E hP hS (pr_so hf) prd_Y_findForeign_77
    · have hf := pr_ie c25 hf
      refine lv_aload_n hx hb prd_Y_findForeign_28 rfl (lv_at hl 2 rfl) ?_
      refine pr_getr (t := 4) hx hb hts prs_Y hown hK hP 6 2 (by decide) rfl (hts _ prw_332) rfl prd_Y_findForeign_29 ?_
      refine lv_iload_n hx hb prd_Y_findForeign_32 rfl (lv_at hl 1 rfl) ?_
      obtain ⟨r30, hr30, hf⟩ := pr_bi hf
      refine pr_callVr (rest := [.ref (ad 6)]) (r := r30) ⟨hx, hb, hml, hown, hts⟩ 4 (prc_O_numbersAt hD hX 1 (Nat.le_refl _) σ r22 r30 hr30) (prg_O_numbersAt hts prw_373 (by have := hh; omega)) hX hXs hK hP hS (by decide) rfl rfl rfl rfl hl.1 (Nat.le_of_ble_eq_true rfl) prd_Y_findForeign_33 (fun H locs hP hS => ?_)
      refine lv_goto (tgt := 47) hx hb prd_Y_findForeign_36 (by decide) ?_
      refine pr_puti (ty := .int) hx hb hts prs_Y prq_Y prtt_Y prtn_Y hown hK hP (hD _) hS 6 11 (by decide) rfl (hts _ prw_401) rfl rfl (prtt_Y 11 (by decide)) rfl rfl prd_Y_findForeign_47 (fun H locs hP hS => ?_)
      refine lv_aload_n hx hb prd_Y_findForeign_50 rfl (lv_at hl 2 rfl) ?_
      refine lv_iload_n hx hb prd_Y_findForeign_51 rfl (lv_at hl 0 rfl) ?_
      refine lv_if_eq (tgt := 66) hx hb prd_Y_findForeign_52 (by decide) (fun c31 => ?_) (fun c31 => ?_)
      · have hf := pr_it c31 hf
        refine lv_aload_n hx hb prd_Y_findForeign_66 rfl (lv_at hl 2 rfl) ?_
        refine pr_getr (t := 4) hx hb hts prs_Y hown hK hP 6 2 (by decide) rfl (hts _ prw_332) rfl prd_Y_findForeign_67 ?_
        refine lv_iload_n hx hb prd_Y_findForeign_70 rfl (lv_at hl 1 rfl) ?_
        obtain ⟨r32, hr32, hf⟩ := pr_bi hf
        refine pr_callVr (rest := [.ref (ad 6)]) (r := r32) ⟨hx, hb, hml, hown, hts⟩ 4 (prc_O_foreignArraysAt hD hX 1 (Nat.le_refl _) (pr_sI σ 6 11 r30) r22 r32 hr32) (prg_O_foreignArraysAt hts prw_402 (by have := hh; omega)) hX hXs hK hP hS (by decide) rfl rfl rfl rfl hl.1 (Nat.le_of_ble_eq_true rfl) prd_Y_findForeign_71 (fun H locs hP hS => ?_)
        refine pr_puti (ty := .int) hx hb hts prs_Y prq_Y prtt_Y prtn_Y hown hK hP (hD _) hS 6 12 (by decide) rfl (hts _ prw_403) rfl rfl (prtt_Y 12 (by decide)) rfl rfl prd_Y_findForeign_74 (fun H locs hP hS => ?_)
        exact pr_retv E hP hS (pr_so hf) prd_Y_findForeign_77
      · have hf := pr_ie c31 hf
        refine lv_aload_n hx hb prd_Y_findForeign_55 rfl (lv_at hl 2 rfl) ?_
        refine pr_getr (t := 4) hx hb hts prs_Y hown hK hP 6 2 (by decide) rfl (hts _ prw_332) rfl prd_Y_findForeign_56 ?_
        refine lv_iload_n hx hb prd_Y_findForeign_59 rfl (lv_at hl 1 rfl) ?_
        obtain ⟨r33, hr33, hf⟩ := pr_bi hf
        refine pr_callVr (rest := [.ref (ad 6)]) (r := r33) ⟨hx, hb, hml, hown, hts⟩ 4 (prc_O_arraysAt hD hX 1 (Nat.le_refl _) (pr_sI σ 6 11 r30) r22 r33 hr33) (prg_O_arraysAt hts prw_374 (by have := hh; omega)) hX hXs hK hP hS (by decide) rfl rfl rfl rfl hl.1 (Nat.le_of_ble_eq_true rfl) prd_Y_findForeign_60 (fun H locs hP hS => ?_)
        refine lv_goto (tgt := 74) hx hb prd_Y_findForeign_63 (by decide) ?_
        refine pr_puti (ty := .int) hx hb hts prs_Y prq_Y prtt_Y prtn_Y hown hK hP (hD _) hS 6 12 (by decide) rfl (hts _ prw_403) rfl rfl (prtt_Y 12 (by decide)) rfl rfl prd_Y_findForeign_74 (fun H locs hP hS => ?_)
        exact pr_retv E hP hS (pr_so hf) prd_Y_findForeign_77
  · have hf := pr_it c24 hf
    refine lv_iconst (v := 1) hx hb prd_Y_findForeign_17 (by decide) ?_
    refine lv_goto (tgt := 22) hx hb prd_Y_findForeign_18 (by decide) ?_
    refine lv_istore_n (lv' := [(2, .int 1), (1, .int r22), (0, .ref (ad 6))]) hx hb prd_Y_findForeign_22 rfl hl (by decide) rfl (fun ls hl => ?_)
    refine lv_aload_n hx hb prd_Y_findForeign_23 rfl (lv_at hl 2 rfl) ?_
    refine lv_iload_n hx hb prd_Y_findForeign_24 rfl (lv_at hl 0 rfl) ?_
    refine lv_if_eq (tgt := 39) hx hb prd_Y_findForeign_25 (by decide) (fun c34 => ?_) (fun c34 => ?_)
    · have hf := pr_it c34 hf
      refine lv_aload_n hx hb prd_Y_findForeign_39 rfl (lv_at hl 2 rfl) ?_
      refine pr_getr (t := 4) hx hb hts prs_Y hown hK hP 6 2 (by decide) rfl (hts _ prw_332) rfl prd_Y_findForeign_40 ?_
      refine lv_iload_n hx hb prd_Y_findForeign_43 rfl (lv_at hl 1 rfl) ?_
      obtain ⟨r35, hr35, hf⟩ := pr_bi hf
      refine pr_callVr (rest := [.ref (ad 6)]) (r := r35) ⟨hx, hb, hml, hown, hts⟩ 4 (prc_O_foreignNumbersAt hD hX 1 (Nat.le_refl _) σ r22 r35 hr35) (prg_O_foreignNumbersAt hts prw_400 (by have := hh; omega)) hX hXs hK hP hS (by decide) rfl rfl rfl rfl hl.1 (Nat.le_of_ble_eq_true rfl) prd_Y_findForeign_44 (fun H locs hP hS => ?_)
      refine pr_puti (ty := .int) hx hb hts prs_Y prq_Y prtt_Y prtn_Y hown hK hP (hD _) hS 6 11 (by decide) rfl (hts _ prw_401) rfl rfl (prtt_Y 11 (by decide)) rfl rfl prd_Y_findForeign_47 (fun H locs hP hS => ?_)
      refine lv_aload_n hx hb prd_Y_findForeign_50 rfl (lv_at hl 2 rfl) ?_
      refine lv_iload_n hx hb prd_Y_findForeign_51 rfl (lv_at hl 0 rfl) ?_
      refine lv_if_eq (tgt := 66) hx hb prd_Y_findForeign_52 (by decide) (fun c36 => ?_) (fun c36 => ?_)
      · have hf := pr_it c36 hf
        refine lv_aload_n hx hb prd_Y_findForeign_66 rfl (lv_at hl 2 rfl) ?_
        refine pr_getr (t := 4) hx hb hts prs_Y hown hK hP 6 2 (by decide) rfl (hts _ prw_332) rfl prd_Y_findForeign_67 ?_
        refine lv_iload_n hx hb prd_Y_findForeign_70 rfl (lv_at hl 1 rfl) ?_
        obtain ⟨r37, hr37, hf⟩ := pr_bi hf
        refine pr_callVr (rest := [.ref (ad 6)]) (r := r37) ⟨hx, hb, hml, hown, hts⟩ 4 (prc_O_foreignArraysAt hD hX 1 (Nat.le_refl _) (pr_sI σ 6 11 r35) r22 r37 hr37) (prg_O_foreignArraysAt hts prw_402 (by have := hh; omega)) hX hXs hK hP hS (by decide) rfl rfl rfl rfl hl.1 (Nat.le_of_ble_eq_true rfl) prd_Y_findForeign_71 (fun H locs hP hS => ?_)
        refine pr_puti (ty := .int) hx hb hts prs_Y prq_Y prtt_Y prtn_Y hown hK hP (hD _) hS 6 12 (by decide) rfl (hts _ prw_403) rfl rfl (prtt_Y 12 (by decide)) rfl rfl prd_Y_findForeign_74 (fun H locs hP hS => ?_)
        exact pr_retv E hP hS (pr_so hf) prd_Y_findForeign_77
      · have hf := pr_ie c36 hf
        refine lv_aload_n hx hb prd_Y_findForeign_55 rfl (lv_at hl 2 rfl) ?_
        refine pr_getr (t := 4) hx hb hts prs_Y hown hK hP 6 2 (by decide) rfl (hts _ prw_332) rfl prd_Y_findForeign_56 ?_
        refine lv_iload_n hx hb prd_Y_findForeign_59 rfl (lv_at hl 1 rfl) ?_
        obtain ⟨r38, hr38, hf⟩ := pr_bi hf
        refine pr_callVr (rest := [.ref (ad 6)]) (r := r38) ⟨hx, hb, hml, hown, hts⟩ 4 (prc_O_arraysAt hD hX 1 (Nat.le_refl _) (pr_sI σ 6 11 r35) r22 r38 hr38) (prg_O_arraysAt hts prw_374 (by have := hh; omega)) hX hXs hK hP hS (by decide) rfl rfl rfl rfl hl.1 (Nat.le_of_ble_eq_true rfl) prd_Y_findForeign_60 (fun H locs hP hS => ?_)
        refine lv_goto (tgt := 74) hx hb prd_Y_findForeign_63 (by decide) ?_
        refine pr_puti (ty := .int) hx hb hts prs_Y prq_Y prtt_Y prtn_Y hown hK hP (hD _) hS 6 12 (by decide) rfl (hts _ prw_403) rfl rfl (prtt_Y 12 (by decide)) rfl rfl prd_Y_findForeign_74 (fun H locs hP hS => ?_)
        exact pr_retv E hP hS (pr_so hf) prd_Y_findForeign_77
    · have hf := pr_ie c34 hf
      refine lv_aload_n hx hb prd_Y_findForeign_28 rfl (lv_at hl 2 rfl) ?_
      refine pr_getr (t := 4) hx hb hts prs_Y hown hK hP 6 2 (by decide) rfl (hts _ prw_332) rfl prd_Y_findForeign_29 ?_
      refine lv_iload_n hx hb prd_Y_findForeign_32 rfl (lv_at hl 1 rfl) ?_
      obtain ⟨r39, hr39, hf⟩ := pr_bi hf
      refine pr_callVr (rest := [.ref (ad 6)]) (r := r39) ⟨hx, hb, hml, hown, hts⟩ 4 (prc_O_numbersAt hD hX 1 (Nat.le_refl _) σ r22 r39 hr39) (prg_O_numbersAt hts prw_373 (by have := hh; omega)) hX hXs hK hP hS (by decide) rfl rfl rfl rfl hl.1 (Nat.le_of_ble_eq_true rfl) prd_Y_findForeign_33 (fun H locs hP hS => ?_)
      refine lv_goto (tgt := 47) hx hb prd_Y_findForeign_36 (by decide) ?_
      refine pr_puti (ty := .int) hx hb hts prs_Y prq_Y prtt_Y prtn_Y hown hK hP (hD _) hS 6 11 (by decide) rfl (hts _ prw_401) rfl rfl (prtt_Y 11 (by decide)) rfl rfl prd_Y_findForeign_47 (fun H locs hP hS => ?_)
      refine lv_aload_n hx hb prd_Y_findForeign_50 rfl (lv_at hl 2 rfl) ?_
      refine lv_iload_n hx hb prd_Y_findForeign_51 rfl (lv_at hl 0 rfl) ?_
      refine lv_if_eq (tgt := 66) hx hb prd_Y_findForeign_52 (by decide) (fun c40 => ?_) (fun c40 => ?_)
      · have hf := pr_it c40 hf
        refine lv_aload_n hx hb prd_Y_findForeign_66 rfl (lv_at hl 2 rfl) ?_
        refine pr_getr (t := 4) hx hb hts prs_Y hown hK hP 6 2 (by decide) rfl (hts _ prw_332) rfl prd_Y_findForeign_67 ?_
        refine lv_iload_n hx hb prd_Y_findForeign_70 rfl (lv_at hl 1 rfl) ?_
        obtain ⟨r41, hr41, hf⟩ := pr_bi hf
        refine pr_callVr (rest := [.ref (ad 6)]) (r := r41) ⟨hx, hb, hml, hown, hts⟩ 4 (prc_O_foreignArraysAt hD hX 1 (Nat.le_refl _) (pr_sI σ 6 11 r39) r22 r41 hr41) (prg_O_foreignArraysAt hts prw_402 (by have := hh; omega)) hX hXs hK hP hS (by decide) rfl rfl rfl rfl hl.1 (Nat.le_of_ble_eq_true rfl) prd_Y_findForeign_71 (fun H locs hP hS => ?_)
        refine pr_puti (ty := .int) hx hb hts prs_Y prq_Y prtt_Y prtn_Y hown hK hP (hD _) hS 6 12 (by decide) rfl (hts _ prw_403) rfl rfl (prtt_Y 12 (by decide)) rfl rfl prd_Y_findForeign_74 (fun H locs hP hS => ?_)
        exact pr_retv E hP hS (pr_so hf) prd_Y_findForeign_77
      · have hf := pr_ie c40 hf
        refine lv_aload_n hx hb prd_Y_findForeign_55 rfl (lv_at hl 2 rfl) ?_
        refine pr_getr (t := 4) hx hb hts prs_Y hown hK hP 6 2 (by decide) rfl (hts _ prw_332) rfl prd_Y_findForeign_56 ?_
        refine lv_iload_n hx hb prd_Y_findForeign_59 rfl (lv_at hl 1 rfl) ?_
        obtain ⟨r42, hr42, hf⟩ := pr_bi hf
        refine pr_callVr (rest := [.ref (ad 6)]) (r := r42) ⟨hx, hb, hml, hown, hts⟩ 4 (prc_O_arraysAt hD hX 1 (Nat.le_refl _) (pr_sI σ 6 11 r39) r22 r42 hr42) (prg_O_arraysAt hts prw_374 (by have := hh; omega)) hX hXs hK hP hS (by decide) rfl rfl rfl rfl hl.1 (Nat.le_of_ble_eq_true rfl) prd_Y_findForeign_60 (fun H locs hP hS => ?_)
        refine lv_goto (tgt := 74) hx hb prd_Y_findForeign_63 (by decide) ?_
        refine pr_puti (ty := .int) hx hb hts prs_Y prq_Y prtt_Y prtn_Y hown hK hP (hD _) hS 6 12 (by decide) rfl (hts _ prw_403) rfl rfl (prtt_Y 12 (by decide)) rfl rfl prd_Y_findForeign_74 (fun H locs hP hS => ?_)
        exact pr_retv E hP hS (pr_so hf) prd_Y_findForeign_77
-- Y_isLast
set_option maxHeartbeats 4000000 in
set_option maxRecDepth 100000 in
theorem prc_Y_isLast {l : Launch} {D : va_G} {ad : Nat → Nat} {dA : Nat → ClassId} {A : Nat → Prop} {t : Nat} (hD : ∀ σ : pr_St, va_D A (pr_w prc_L ad dA σ)) (hX : pr_Xok A (prX t A)) (h : Nat) (hh : 2 ≤ h) (σ : pr_St) (x1 : Int32) (res : Int32) (hf : prf_Y_isLast σ x1 = some res) : Met l pry_Y_isLast (Cond.code pry_Y_isLast prb_Y_isLast 2 (some .boolean) :: pr_U) (pr_rm h) (pr_Pc (prX t A) D pr_cl prc_L ad dA [.ref (ad 6), .int x1] σ) (pr_Qi D pr_cl prc_L ad dA A (res, σ)) 0 0 A := by
  refine pr_entry (cc := prb_Y_isLast) (maxL := 2) (ret := (some .boolean)) (by decide) (Nat.le_of_ble_eq_true rfl) hD hX ?_
  intro p e s m args below meth c E H locs hP hS ls hl
  have hl : lv_has ls 2 [(0, .ref (ad 6)), (1, .int x1)] := hl
  have hf := hf.symm
  unfold prf_Y_isLast at hf
  obtain ⟨hx, hb, hml, hown, hts, hr, hlocks, hK, hD, hX, hXs⟩ := id E
  refine lv_aload_n hx hb prd_Y_isLast_0 rfl (lv_at hl 0 rfl) ?_
  obtain ⟨r6, hr6, hf⟩ := pr_bi hf
  refine pr_callVr (rest := []) (r := r6) ⟨hx, hb, hml, hown, hts⟩ 6 (prc_Y_isOpen hD hX 0 (Nat.le_refl _) σ  r6 hr6) (prg_Y_isOpen hts prw_351 (by have := hh; omega)) hX hXs hK hP hS (by decide) rfl rfl rfl rfl hl.1 (Nat.le_of_ble_eq_true rfl) prd_Y_isLast_1 (fun H locs hP hS => ?_)
  refine lv_if_eq (tgt := 31) hx hb prd_Y_isLast_4 (by decide) (fun c7 => ?_) (fun c7 => ?_)
  · have hf := pr_it c7 hf
    refine lv_iconst (v := 0) hx hb prd_Y_isLast_31 (by decide) ?_
    exact pr_retz E (Or.inl rfl) hP hS (pr_ro hf) prd_Y_isLast_32
  · have hf := pr_ie c7 hf
    refine lv_aload_n hx hb prd_Y_isLast_7 rfl (lv_at hl 0 rfl) ?_
    refine pr_getr (t := 2) hx hb hts prs_Y hown hK hP 6 1 (by decide) rfl (hts _ prw_337) rfl prd_Y_isLast_8 ?_
    refine lv_iload_n hx hb prd_Y_isLast_11 rfl (lv_at hl 1 rfl) ?_
    obtain ⟨r8, hr8, hf⟩ := pr_bi hf
    refine pr_callVr (rest := []) (r := r8) ⟨hx, hb, hml, hown, hts⟩ 2 (prc_G_behind hD hX 1 (Nat.le_refl _) σ x1 r8 hr8) (prg_G_behind hts prw_352 (by have := hh; omega)) hX hXs hK hP hS (by decide) rfl rfl rfl rfl hl.1 (Nat.le_of_ble_eq_true rfl) prd_Y_isLast_12 (fun H locs hP hS => ?_)
    refine lv_aload_n hx hb prd_Y_isLast_15 rfl (lv_at hl 0 rfl) ?_
    refine pr_getr (t := 43) hx hb hts prs_Y hown hK hP 6 5 (by decide) rfl (hts _ prw_330) rfl prd_Y_isLast_16 ?_
    refine lv_aload_n hx hb prd_Y_isLast_19 rfl (lv_at hl 0 rfl) ?_
    refine pr_geti (v := (σ.1 6 10)) hx hb hts prs_Y hown hK hP 6 10 (by decide) rfl (hts _ prw_344) rfl rfl prd_Y_isLast_20 ?_
    obtain ⟨hi9, hf⟩ := pr_ck_in hf
    refine pr_iald (f := (σ.2.1 43)) hx hb hK hP 43 (by decide) rfl hi9 rfl prd_Y_isLast_23 ?_
    refine lv_icmp_ne (tgt := 31) hx hb prd_Y_isLast_24 (by decide) (fun c10 => ?_) (fun c10 => ?_)
    · have hf := pr_ie c10 hf
      refine lv_iconst (v := 0) hx hb prd_Y_isLast_31 (by decide) ?_
      exact pr_retz E (Or.inl rfl) hP hS (pr_ro hf) prd_Y_isLast_32
    · have hf := pr_it c10 hf
      refine lv_iconst (v := 1) hx hb prd_Y_isLast_27 (by decide) ?_
      refine lv_goto (tgt := 32) hx hb prd_Y_isLast_28 (by decide) ?_
      exact pr_retz E (Or.inr rfl) hP hS (pr_ro hf) prd_Y_isLast_32
-- Y_returnHolds
set_option maxHeartbeats 4000000 in
set_option maxRecDepth 100000 in
theorem prk_Y_returnHolds_33 {l : Launch} {D : va_G} {ad : Nat → Nat} {dA : Nat → ClassId} {A : Nat → Prop} {t : Nat} {p : Program} {e : Env} {s : State} {m : MethodId} {args : Array Value} {below : List Frame} {meth : Method} {c : Code} {h : Nat} (hh : 3 ≤ h) (E : pr_cx prn_Y prb_Y_returnHolds 5 (some .boolean) D pr_cl prc_L ad dA A (prX t A) p s m args meth c) : ∀ (σ : pr_St) (x1 : Int32) (x2 : Int32) (x3 : Int32) (res : (Int32 × pr_St)), some res = prf_Y_returnHolds_33 σ x1 x2 x3 → ∀ (H : Heap) (locs : List Loc) (ls : Array Slot), va_P D pr_cl (pr_w prc_L ad dA σ) H → va_S A s.heap H locs → lv_has ls 5 [(0, .ref (ad 6)), (1, .int x1), (2, .int x2), (3, .int x3)] → W p l e (pr_rm h) s m args below meth c H locs 0 0 (MQ below (pr_Qi D pr_cl prc_L ad dA A res) args s 0 0 A) (F0 m 33 ls []) := by
  obtain ⟨hx, hb, hml, hown, hts, hr, hlocks, hK, hD, hX, hXs⟩ := id E
  intro σ x1 x2 x3 res hf H locs ls hP hS hl
  unfold prf_Y_returnHolds_33 at hf
  refine lv_iconst (v := 1) hx hb prd_Y_returnHolds_33 (by decide) ?_
  refine lv_goto (tgt := 38) hx hb prd_Y_returnHolds_34 (by decide) ?_
  refine lv_istore (lv' := [(4, .int 1), (0, .ref (ad 6)), (1, .int x1), (2, .int x2), (3, .int x3)]) hx hb prd_Y_returnHolds_38 hl (by decide) rfl (fun ls hl => ?_)
  refine lv_iload hx hb prd_Y_returnHolds_40 (lv_at hl 0 rfl) ?_
  refine lv_if_eq (tgt := 53) hx hb prd_Y_returnHolds_42 (by decide) (fun c41 => ?_) (fun c41 => ?_)
  · have hf := pr_it c41 hf
    refine lv_aload_n hx hb prd_Y_returnHolds_53 rfl (lv_at hl 1 rfl) ?_
    refine lv_bipush (v := 6) hx hb prd_Y_returnHolds_54 (by decide) ?_
    refine lv_iload_n hx hb prd_Y_returnHolds_56 rfl (lv_at hl 3 rfl) ?_
    obtain ⟨r42, hr42, hf⟩ := pr_bi hf
    refine pr_callVi (rest := []) (res := r42) ⟨hx, hb, hml, hown, hts⟩ 6 (prc_Y_isWrong hD hX 1 (Nat.le_refl _) σ 6 x2 r42 hr42) (prg_Y_isWrong hts prw_410 (by have := hh; omega)) hX hXs hK hP hS (by decide) rfl rfl rfl rfl hl.1 (Nat.le_of_ble_eq_true rfl) prd_Y_returnHolds_57 (fun H locs hP hS => ?_)
    obtain ⟨hz43, hf⟩ := pr_z_in hf
    exact pr_retz E hz43 hP hS (pr_so hf) prd_Y_returnHolds_60
  · have hf := pr_ie c41 hf
    refine lv_aload_n hx hb prd_Y_returnHolds_45 rfl (lv_at hl 1 rfl) ?_
    refine lv_iload_n hx hb prd_Y_returnHolds_46 rfl (lv_at hl 2 rfl) ?_
    obtain ⟨r44, hr44, hf⟩ := pr_bi hf
    refine pr_callVr (rest := []) (r := r44) ⟨hx, hb, hml, hown, hts⟩ 6 (prc_Y_isLast hD hX 2 (Nat.le_refl _) σ x1 r44 hr44) (prg_Y_isLast hts prw_411 (by have := hh; omega)) hX hXs hK hP hS (by decide) rfl rfl rfl rfl hl.1 (Nat.le_of_ble_eq_true rfl) prd_Y_returnHolds_47 (fun H locs hP hS => ?_)
    refine lv_if_ne (tgt := 61) hx hb prd_Y_returnHolds_50 (by decide) (fun c45 => ?_) (fun c45 => ?_)
    · have hf := pr_ie c45 hf
      refine lv_iload_n hx hb prd_Y_returnHolds_61 rfl (lv_at hl 4 rfl) ?_
      refine lv_if_eq (tgt := 75) hx hb prd_Y_returnHolds_62 (by decide) (fun c46 => ?_) (fun c46 => ?_)
      · have hf := pr_it c46 hf
        refine lv_iconst (v := 1) hx hb prd_Y_returnHolds_75 (by decide) ?_
        refine lv_goto (tgt := 80) hx hb prd_Y_returnHolds_76 (by decide) ?_
        exact pr_retz E (Or.inr rfl) hP hS (pr_so hf) prd_Y_returnHolds_80
      · have hf := pr_ie c46 hf
        refine lv_aload_n hx hb prd_Y_returnHolds_65 rfl (lv_at hl 1 rfl) ?_
        refine lv_bipush (v := 7) hx hb prd_Y_returnHolds_66 (by decide) ?_
        refine lv_iload_n hx hb prd_Y_returnHolds_68 rfl (lv_at hl 3 rfl) ?_
        obtain ⟨r47, hr47, hf⟩ := pr_bi hf
        refine pr_callVi (rest := []) (res := r47) ⟨hx, hb, hml, hown, hts⟩ 6 (prc_Y_isWrong hD hX 1 (Nat.le_refl _) σ 7 x2 r47 hr47) (prg_Y_isWrong hts prw_410 (by have := hh; omega)) hX hXs hK hP hS (by decide) rfl rfl rfl rfl hl.1 (Nat.le_of_ble_eq_true rfl) prd_Y_returnHolds_69 (fun H locs hP hS => ?_)
        refine lv_if_eq (tgt := 79) hx hb prd_Y_returnHolds_72 (by decide) (fun c48 => ?_) (fun c48 => ?_)
        · have hf := pr_it c48 hf
          refine lv_iconst (v := 0) hx hb prd_Y_returnHolds_79 (by decide) ?_
          exact pr_retz E (Or.inl rfl) hP hS (pr_so hf) prd_Y_returnHolds_80
        · have hf := pr_ie c48 hf
          refine lv_iconst (v := 1) hx hb prd_Y_returnHolds_75 (by decide) ?_
          refine lv_goto (tgt := 80) hx hb prd_Y_returnHolds_76 (by decide) ?_
          exact pr_retz E (Or.inr rfl) hP hS (pr_so hf) prd_Y_returnHolds_80
    · have hf := pr_it c45 hf
      refine lv_aload_n hx hb prd_Y_returnHolds_53 rfl (lv_at hl 1 rfl) ?_
      refine lv_bipush (v := 6) hx hb prd_Y_returnHolds_54 (by decide) ?_
      refine lv_iload_n hx hb prd_Y_returnHolds_56 rfl (lv_at hl 3 rfl) ?_
      obtain ⟨r49, hr49, hf⟩ := pr_bi hf
      refine pr_callVi (rest := []) (res := r49) ⟨hx, hb, hml, hown, hts⟩ 6 (prc_Y_isWrong hD hX 1 (Nat.le_refl _) σ 6 x2 r49 hr49) (prg_Y_isWrong hts prw_410 (by have := hh; omega)) hX hXs hK hP hS (by decide) rfl rfl rfl rfl hl.1 (Nat.le_of_ble_eq_true rfl) prd_Y_returnHolds_57 (fun H locs hP hS => ?_)
      obtain ⟨hz50, hf⟩ := pr_z_in hf
      exact pr_retz E hz50 hP hS (pr_so hf) prd_Y_returnHolds_60
set_option maxHeartbeats 4000000 in
set_option maxRecDepth 100000 in
theorem prc_Y_returnHolds {l : Launch} {D : va_G} {ad : Nat → Nat} {dA : Nat → ClassId} {A : Nat → Prop} {t : Nat} (hD : ∀ σ : pr_St, va_D A (pr_w prc_L ad dA σ)) (hX : pr_Xok A (prX t A)) (h : Nat) (hh : 3 ≤ h) (σ : pr_St) (x1 : Int32) (x2 : Int32) (res : (Int32 × pr_St)) (hf : prf_Y_returnHolds σ x1 x2 = some res) : Met l pry_Y_returnHolds (Cond.code pry_Y_returnHolds prb_Y_returnHolds 5 (some .boolean) :: pr_U) (pr_rm h) (pr_Pc (prX t A) D pr_cl prc_L ad dA [.ref (ad 6), .int x1, .int x2] σ) (pr_Qi D pr_cl prc_L ad dA A res) 0 0 A := by
  refine pr_entry (cc := prb_Y_returnHolds) (maxL := 5) (ret := (some .boolean)) (by decide) (Nat.le_of_ble_eq_true rfl) hD hX ?_
  intro p e s m args below meth c E H locs hP hS ls hl
  have hl : lv_has ls 5 [(0, .ref (ad 6)), (1, .int x1), (2, .int x2)] := hl
  have hf := hf.symm
  unfold prf_Y_returnHolds at hf
  obtain ⟨hx, hb, hml, hown, hts, hr, hlocks, hK, hD, hX, hXs⟩ := id E
  refine lv_aload_n hx hb prd_Y_returnHolds_0 rfl (lv_at hl 0 rfl) ?_
  obtain ⟨r51, hr51, hf⟩ := pr_bi hf
  refine pr_callVr (rest := []) (r := r51) ⟨hx, hb, hml, hown, hts⟩ 6 (prc_Y_parent hD hX 1 (Nat.le_refl _) σ  r51 hr51) (prg_Y_parent hts prw_371 (by have := hh; omega)) hX hXs hK hP hS (by decide) rfl rfl rfl rfl hl.1 (Nat.le_of_ble_eq_true rfl) prd_Y_returnHolds_1 (fun H locs hP hS => ?_)
  refine lv_iconst (v := (-1)) hx hb prd_Y_returnHolds_4 (by decide) ?_
  refine lv_icmp_ne (tgt := 12) hx hb prd_Y_returnHolds_5 (by decide) (fun c52 => ?_) (fun c52 => ?_)
  · have hf := pr_ie c52 hf
    refine lv_iconst (v := 0) hx hb prd_Y_returnHolds_12 (by decide) ?_
    refine lv_istore_n (lv' := [(3, .int 0), (0, .ref (ad 6)), (1, .int x1), (2, .int x2)]) hx hb prd_Y_returnHolds_13 rfl hl (by decide) rfl (fun ls hl => ?_)
    refine lv_iload_n hx hb prd_Y_returnHolds_14 rfl (lv_at hl 0 rfl) ?_
    refine lv_if_ne (tgt := 33) hx hb prd_Y_returnHolds_15 (by decide) (fun c53 => ?_) (fun c53 => ?_)
    · have hf := pr_ie c53 hf
      exact prk_Y_returnHolds_33 hh E σ x1 x2 0 _ hf _ _ _ hP hS (lv_sub hl [1, 2, 3, 0] rfl)
    · have hf := pr_it c53 hf
      refine lv_aload_n hx hb prd_Y_returnHolds_18 rfl (lv_at hl 1 rfl) ?_
      refine pr_getr (t := 4) hx hb hts prs_Y hown hK hP 6 2 (by decide) rfl (hts _ prw_332) rfl prd_Y_returnHolds_19 ?_
      refine lv_aload_n hx hb prd_Y_returnHolds_22 rfl (lv_at hl 1 rfl) ?_
      obtain ⟨r54, hr54, hf⟩ := pr_bi hf
      refine pr_callVr (rest := [.ref (ad 4)]) (r := r54) ⟨hx, hb, hml, hown, hts⟩ 6 (prc_Y_parent hD hX 1 (Nat.le_refl _) σ  r54 hr54) (prg_Y_parent hts prw_371 (by have := hh; omega)) hX hXs hK hP hS (by decide) rfl rfl rfl rfl hl.1 (Nat.le_of_ble_eq_true rfl) prd_Y_returnHolds_23 (fun H locs hP hS => ?_)
      obtain ⟨r55, hr55, hf⟩ := pr_bi hf
      refine pr_callVr (rest := []) (r := r55) ⟨hx, hb, hml, hown, hts⟩ 4 (prc_O_kindOf hD hX 1 (Nat.le_refl _) σ r54 r55 hr55) (prg_O_kindOf hts prw_399 (by have := hh; omega)) hX hXs hK hP hS (by decide) rfl rfl rfl rfl hl.1 (Nat.le_of_ble_eq_true rfl) prd_Y_returnHolds_26 (fun H locs hP hS => ?_)
      refine lv_iconst (v := 4) hx hb prd_Y_returnHolds_29 (by decide) ?_
      refine lv_icmp_ne (tgt := 37) hx hb prd_Y_returnHolds_30 (by decide) (fun c56 => ?_) (fun c56 => ?_)
      · have hf := pr_ie c56 hf
        refine lv_iconst (v := 0) hx hb prd_Y_returnHolds_37 (by decide) ?_
        refine lv_istore (lv' := [(4, .int 0), (3, .int 0), (0, .ref (ad 6)), (1, .int x1), (2, .int x2)]) hx hb prd_Y_returnHolds_38 hl (by decide) rfl (fun ls hl => ?_)
        refine lv_iload hx hb prd_Y_returnHolds_40 (lv_at hl 0 rfl) ?_
        refine lv_if_eq (tgt := 53) hx hb prd_Y_returnHolds_42 (by decide) (fun c57 => ?_) (fun c57 => ?_)
        · have hf := pr_it c57 hf
          refine lv_aload_n hx hb prd_Y_returnHolds_53 rfl (lv_at hl 2 rfl) ?_
          refine lv_bipush (v := 6) hx hb prd_Y_returnHolds_54 (by decide) ?_
          refine lv_iload_n hx hb prd_Y_returnHolds_56 rfl (lv_at hl 4 rfl) ?_
          obtain ⟨r58, hr58, hf⟩ := pr_bi hf
          refine pr_callVi (rest := []) (res := r58) ⟨hx, hb, hml, hown, hts⟩ 6 (prc_Y_isWrong hD hX 1 (Nat.le_refl _) σ 6 x2 r58 hr58) (prg_Y_isWrong hts prw_410 (by have := hh; omega)) hX hXs hK hP hS (by decide) rfl rfl rfl rfl hl.1 (Nat.le_of_ble_eq_true rfl) prd_Y_returnHolds_57 (fun H locs hP hS => ?_)
          obtain ⟨hz59, hf⟩ := pr_z_in hf
          exact pr_retz E hz59 hP hS (pr_so hf) prd_Y_returnHolds_60
        · have hf := pr_ie c57 hf
          refine lv_aload_n hx hb prd_Y_returnHolds_45 rfl (lv_at hl 2 rfl) ?_
          refine lv_iload_n hx hb prd_Y_returnHolds_46 rfl (lv_at hl 3 rfl) ?_
          obtain ⟨r60, hr60, hf⟩ := pr_bi hf
          refine pr_callVr (rest := []) (r := r60) ⟨hx, hb, hml, hown, hts⟩ 6 (prc_Y_isLast hD hX 2 (Nat.le_refl _) σ x1 r60 hr60) (prg_Y_isLast hts prw_411 (by have := hh; omega)) hX hXs hK hP hS (by decide) rfl rfl rfl rfl hl.1 (Nat.le_of_ble_eq_true rfl) prd_Y_returnHolds_47 (fun H locs hP hS => ?_)
          refine lv_if_ne (tgt := 61) hx hb prd_Y_returnHolds_50 (by decide) (fun c61 => ?_) (fun c61 => ?_)
          · have hf := pr_ie c61 hf
            refine lv_iload_n hx hb prd_Y_returnHolds_61 rfl (lv_at hl 1 rfl) ?_
            refine lv_if_eq (tgt := 75) hx hb prd_Y_returnHolds_62 (by decide) (fun c62 => ?_) (fun c62 => ?_)
            · have hf := pr_it c62 hf
              refine lv_iconst (v := 1) hx hb prd_Y_returnHolds_75 (by decide) ?_
              refine lv_goto (tgt := 80) hx hb prd_Y_returnHolds_76 (by decide) ?_
              exact pr_retz E (Or.inr rfl) hP hS (pr_so hf) prd_Y_returnHolds_80
            · have hf := pr_ie c62 hf
              refine lv_aload_n hx hb prd_Y_returnHolds_65 rfl (lv_at hl 2 rfl) ?_
              refine lv_bipush (v := 7) hx hb prd_Y_returnHolds_66 (by decide) ?_
              refine lv_iload_n hx hb prd_Y_returnHolds_68 rfl (lv_at hl 4 rfl) ?_
              obtain ⟨r63, hr63, hf⟩ := pr_bi hf
              refine pr_callVi (rest := []) (res := r63) ⟨hx, hb, hml, hown, hts⟩ 6 (prc_Y_isWrong hD hX 1 (Nat.le_refl _) σ 7 x2 r63 hr63) (prg_Y_isWrong hts prw_410 (by have := hh; omega)) hX hXs hK hP hS (by decide) rfl rfl rfl rfl hl.1 (Nat.le_of_ble_eq_true rfl) prd_Y_returnHolds_69 (fun H locs hP hS => ?_)
              refine lv_if_eq (tgt := 79) hx hb prd_Y_returnHolds_72 (by decide) (fun c64 => ?_) (fun c64 => ?_)
              · have hf := pr_it c64 hf
                refine lv_iconst (v := 0) hx hb prd_Y_returnHolds_79 (by decide) ?_
                exact pr_retz E (Or.inl rfl) hP hS (pr_so hf) prd_Y_returnHolds_80
              · have hf := pr_ie c64 hf
                refine lv_iconst (v := 1) hx hb prd_Y_returnHolds_75 (by decide) ?_
                refine lv_goto (tgt := 80) hx hb prd_Y_returnHolds_76 (by decide) ?_
                exact pr_retz E (Or.inr rfl) hP hS (pr_so hf) prd_Y_returnHolds_80
          · have hf := pr_it c61 hf
            refine lv_aload_n hx hb prd_Y_returnHolds_53 rfl (lv_at hl 2 rfl) ?_
            refine lv_bipush (v := 6) hx hb prd_Y_returnHolds_54 (by decide) ?_
            refine lv_iload_n hx hb prd_Y_returnHolds_56 rfl (lv_at hl 4 rfl) ?_
            obtain ⟨r65, hr65, hf⟩ := pr_bi hf
            refine pr_callVi (rest := []) (res := r65) ⟨hx, hb, hml, hown, hts⟩ 6 (prc_Y_isWrong hD hX 1 (Nat.le_refl _) σ 6 x2 r65 hr65) (prg_Y_isWrong hts prw_410 (by have := hh; omega)) hX hXs hK hP hS (by decide) rfl rfl rfl rfl hl.1 (Nat.le_of_ble_eq_true rfl) prd_Y_returnHolds_57 (fun H locs hP hS => ?_)
            obtain ⟨hz66, hf⟩ := pr_z_in hf
            exact pr_retz E hz66 hP hS (pr_so hf) prd_Y_returnHolds_60
      · have hf := pr_it c56 hf
        exact prk_Y_returnHolds_33 hh E σ x1 x2 0 _ hf _ _ _ hP hS (lv_sub hl [1, 2, 3, 0] rfl)
  · have hf := pr_it c52 hf
    refine lv_iconst (v := 1) hx hb prd_Y_returnHolds_8 (by decide) ?_
    refine lv_goto (tgt := 13) hx hb prd_Y_returnHolds_9 (by decide) ?_
    refine lv_istore_n (lv' := [(3, .int 1), (0, .ref (ad 6)), (1, .int x1), (2, .int x2)]) hx hb prd_Y_returnHolds_13 rfl hl (by decide) rfl (fun ls hl => ?_)
    refine lv_iload_n hx hb prd_Y_returnHolds_14 rfl (lv_at hl 0 rfl) ?_
    refine lv_if_ne (tgt := 33) hx hb prd_Y_returnHolds_15 (by decide) (fun c67 => ?_) (fun c67 => ?_)
    · have hf := pr_ie c67 hf
      exact prk_Y_returnHolds_33 hh E σ x1 x2 1 _ hf _ _ _ hP hS (lv_sub hl [1, 2, 3, 0] rfl)
    · have hf := pr_it c67 hf
      refine lv_aload_n hx hb prd_Y_returnHolds_18 rfl (lv_at hl 1 rfl) ?_
      refine pr_getr (t := 4) hx hb hts prs_Y hown hK hP 6 2 (by decide) rfl (hts _ prw_332) rfl prd_Y_returnHolds_19 ?_
      refine lv_aload_n hx hb prd_Y_returnHolds_22 rfl (lv_at hl 1 rfl) ?_
      obtain ⟨r68, hr68, hf⟩ := pr_bi hf
      refine pr_callVr (rest := [.ref (ad 4)]) (r := r68) ⟨hx, hb, hml, hown, hts⟩ 6 (prc_Y_parent hD hX 1 (Nat.le_refl _) σ  r68 hr68) (prg_Y_parent hts prw_371 (by have := hh; omega)) hX hXs hK hP hS (by decide) rfl rfl rfl rfl hl.1 (Nat.le_of_ble_eq_true rfl) prd_Y_returnHolds_23 (fun H locs hP hS => ?_)
      obtain ⟨r69, hr69, hf⟩ := pr_bi hf
      refine pr_callVr (rest := []) (r := r69) ⟨hx, hb, hml, hown, hts⟩ 4 (prc_O_kindOf hD hX 1 (Nat.le_refl _) σ r68 r69 hr69) (prg_O_kindOf hts prw_399 (by have := hh; omega)) hX hXs hK hP hS (by decide) rfl rfl rfl rfl hl.1 (Nat.le_of_ble_eq_true rfl) prd_Y_returnHolds_26 (fun H locs hP hS => ?_)
      refine lv_iconst (v := 4) hx hb prd_Y_returnHolds_29 (by decide) ?_
      refine lv_icmp_ne (tgt := 37) hx hb prd_Y_returnHolds_30 (by decide) (fun c70 => ?_) (fun c70 => ?_)
      · have hf := pr_ie c70 hf
        refine lv_iconst (v := 0) hx hb prd_Y_returnHolds_37 (by decide) ?_
        refine lv_istore (lv' := [(4, .int 0), (3, .int 1), (0, .ref (ad 6)), (1, .int x1), (2, .int x2)]) hx hb prd_Y_returnHolds_38 hl (by decide) rfl (fun ls hl => ?_)
        refine lv_iload hx hb prd_Y_returnHolds_40 (lv_at hl 0 rfl) ?_
        refine lv_if_eq (tgt := 53) hx hb prd_Y_returnHolds_42 (by decide) (fun c71 => ?_) (fun c71 => ?_)
        · have hf := pr_it c71 hf
          refine lv_aload_n hx hb prd_Y_returnHolds_53 rfl (lv_at hl 2 rfl) ?_
          refine lv_bipush (v := 6) hx hb prd_Y_returnHolds_54 (by decide) ?_
          refine lv_iload_n hx hb prd_Y_returnHolds_56 rfl (lv_at hl 4 rfl) ?_
          obtain ⟨r72, hr72, hf⟩ := pr_bi hf
          refine pr_callVi (rest := []) (res := r72) ⟨hx, hb, hml, hown, hts⟩ 6 (prc_Y_isWrong hD hX 1 (Nat.le_refl _) σ 6 x2 r72 hr72) (prg_Y_isWrong hts prw_410 (by have := hh; omega)) hX hXs hK hP hS (by decide) rfl rfl rfl rfl hl.1 (Nat.le_of_ble_eq_true rfl) prd_Y_returnHolds_57 (fun H locs hP hS => ?_)
          obtain ⟨hz73, hf⟩ := pr_z_in hf
          exact pr_retz E hz73 hP hS (pr_so hf) prd_Y_returnHolds_60
        · have hf := pr_ie c71 hf
          refine lv_aload_n hx hb prd_Y_returnHolds_45 rfl (lv_at hl 2 rfl) ?_
          refine lv_iload_n hx hb prd_Y_returnHolds_46 rfl (lv_at hl 3 rfl) ?_
          obtain ⟨r74, hr74, hf⟩ := pr_bi hf
          refine pr_callVr (rest := []) (r := r74) ⟨hx, hb, hml, hown, hts⟩ 6 (prc_Y_isLast hD hX 2 (Nat.le_refl _) σ x1 r74 hr74) (prg_Y_isLast hts prw_411 (by have := hh; omega)) hX hXs hK hP hS (by decide) rfl rfl rfl rfl hl.1 (Nat.le_of_ble_eq_true rfl) prd_Y_returnHolds_47 (fun H locs hP hS => ?_)
          refine lv_if_ne (tgt := 61) hx hb prd_Y_returnHolds_50 (by decide) (fun c75 => ?_) (fun c75 => ?_)
          · have hf := pr_ie c75 hf
            refine lv_iload_n hx hb prd_Y_returnHolds_61 rfl (lv_at hl 1 rfl) ?_
            refine lv_if_eq (tgt := 75) hx hb prd_Y_returnHolds_62 (by decide) (fun c76 => ?_) (fun c76 => ?_)
            · have hf := pr_it c76 hf
              refine lv_iconst (v := 1) hx hb prd_Y_returnHolds_75 (by decide) ?_
              refine lv_goto (tgt := 80) hx hb prd_Y_returnHolds_76 (by decide) ?_
              exact pr_retz E (Or.inr rfl) hP hS (pr_so hf) prd_Y_returnHolds_80
            · have hf := pr_ie c76 hf
              refine lv_aload_n hx hb prd_Y_returnHolds_65 rfl (lv_at hl 2 rfl) ?_
              refine lv_bipush (v := 7) hx hb prd_Y_returnHolds_66 (by decide) ?_
              refine lv_iload_n hx hb prd_Y_returnHolds_68 rfl (lv_at hl 4 rfl) ?_
              obtain ⟨r77, hr77, hf⟩ := pr_bi hf
              refine pr_callVi (rest := []) (res := r77) ⟨hx, hb, hml, hown, hts⟩ 6 (prc_Y_isWrong hD hX 1 (Nat.le_refl _) σ 7 x2 r77 hr77) (prg_Y_isWrong hts prw_410 (by have := hh; omega)) hX hXs hK hP hS (by decide) rfl rfl rfl rfl hl.1 (Nat.le_of_ble_eq_true rfl) prd_Y_returnHolds_69 (fun H locs hP hS => ?_)
              refine lv_if_eq (tgt := 79) hx hb prd_Y_returnHolds_72 (by decide) (fun c78 => ?_) (fun c78 => ?_)
              · have hf := pr_it c78 hf
                refine lv_iconst (v := 0) hx hb prd_Y_returnHolds_79 (by decide) ?_
                exact pr_retz E (Or.inl rfl) hP hS (pr_so hf) prd_Y_returnHolds_80
              · have hf := pr_ie c78 hf
                refine lv_iconst (v := 1) hx hb prd_Y_returnHolds_75 (by decide) ?_
                refine lv_goto (tgt := 80) hx hb prd_Y_returnHolds_76 (by decide) ?_
                exact pr_retz E (Or.inr rfl) hP hS (pr_so hf) prd_Y_returnHolds_80
          · have hf := pr_it c75 hf
            refine lv_aload_n hx hb prd_Y_returnHolds_53 rfl (lv_at hl 2 rfl) ?_
            refine lv_bipush (v := 6) hx hb prd_Y_returnHolds_54 (by decide) ?_
            refine lv_iload_n hx hb prd_Y_returnHolds_56 rfl (lv_at hl 4 rfl) ?_
            obtain ⟨r79, hr79, hf⟩ := pr_bi hf
            refine pr_callVi (rest := []) (res := r79) ⟨hx, hb, hml, hown, hts⟩ 6 (prc_Y_isWrong hD hX 1 (Nat.le_refl _) σ 6 x2 r79 hr79) (prg_Y_isWrong hts prw_410 (by have := hh; omega)) hX hXs hK hP hS (by decide) rfl rfl rfl rfl hl.1 (Nat.le_of_ble_eq_true rfl) prd_Y_returnHolds_57 (fun H locs hP hS => ?_)
            obtain ⟨hz80, hf⟩ := pr_z_in hf
            exact pr_retz E hz80 hP hS (pr_so hf) prd_Y_returnHolds_60
      · have hf := pr_it c70 hf
        exact prk_Y_returnHolds_33 hh E σ x1 x2 1 _ hf _ _ _ hP hS (lv_sub hl [1, 2, 3, 0] rfl)
-- Y_blockBegin
set_option maxHeartbeats 4000000 in
set_option maxRecDepth 100000 in
theorem prc_Y_blockBegin {l : Launch} {D : va_G} {ad : Nat → Nat} {dA : Nat → ClassId} {A : Nat → Prop} {t : Nat} (hD : ∀ σ : pr_St, va_D A (pr_w prc_L ad dA σ)) (hX : pr_Xok A (prX t A)) (h : Nat) (hh : 2 ≤ h) (σ : pr_St)  (res : Int32) (hf : prf_Y_blockBegin σ  = some res) : Met l pry_Y_blockBegin (Cond.code pry_Y_blockBegin prb_Y_blockBegin 1 (some .int) :: pr_U) (pr_rm h) (pr_Pc (prX t A) D pr_cl prc_L ad dA [.ref (ad 6)] σ) (pr_Qi D pr_cl prc_L ad dA A (res, σ)) 0 0 A := by
  refine pr_entry (cc := prb_Y_blockBegin) (maxL := 1) (ret := (some .int)) (by decide) (Nat.le_of_ble_eq_true rfl) hD hX ?_
  intro p e s m args below meth c E H locs hP hS ls hl
  have hl : lv_has ls 1 [(0, .ref (ad 6))] := hl
  have hf := hf.symm
  unfold prf_Y_blockBegin at hf
  obtain ⟨hx, hb, hml, hown, hts, hr, hlocks, hK, hD, hX, hXs⟩ := id E
  refine lv_aload_n hx hb prd_Y_blockBegin_0 rfl (lv_at hl 0 rfl) ?_
  refine pr_getr (t := 4) hx hb hts prs_Y hown hK hP 6 2 (by decide) rfl (hts _ prw_332) rfl prd_Y_blockBegin_1 ?_
  refine lv_aload_n hx hb prd_Y_blockBegin_4 rfl (lv_at hl 0 rfl) ?_
  obtain ⟨r5, hr5, hf⟩ := pr_bi hf
  refine pr_callVr (rest := [.ref (ad 4)]) (r := r5) ⟨hx, hb, hml, hown, hts⟩ 6 (prc_Y_parent hD hX 1 (Nat.le_refl _) σ  r5 hr5) (prg_Y_parent hts prw_371 (by have := hh; omega)) hX hXs hK hP hS (by decide) rfl rfl rfl rfl hl.1 (Nat.le_of_ble_eq_true rfl) prd_Y_blockBegin_5 (fun H locs hP hS => ?_)
  obtain ⟨r6, hr6, hf⟩ := pr_bi hf
  refine pr_callVr (rest := []) (r := r6) ⟨hx, hb, hml, hown, hts⟩ 4 (prc_O_numbersAt hD hX 1 (Nat.le_refl _) σ r5 r6 hr6) (prg_O_numbersAt hts prw_373 (by have := hh; omega)) hX hXs hK hP hS (by decide) rfl rfl rfl rfl hl.1 (Nat.le_of_ble_eq_true rfl) prd_Y_blockBegin_8 (fun H locs hP hS => ?_)
  refine lv_aload_n hx hb prd_Y_blockBegin_11 rfl (lv_at hl 0 rfl) ?_
  refine pr_getr (t := 4) hx hb hts prs_Y hown hK hP 6 2 (by decide) rfl (hts _ prw_332) rfl prd_Y_blockBegin_12 ?_
  refine lv_aload_n hx hb prd_Y_blockBegin_15 rfl (lv_at hl 0 rfl) ?_
  obtain ⟨r7, hr7, hf⟩ := pr_bi hf
  refine pr_callVr (rest := [.ref (ad 4), .int r6]) (r := r7) ⟨hx, hb, hml, hown, hts⟩ 6 (prc_Y_parent hD hX 1 (Nat.le_refl _) σ  r7 hr7) (prg_Y_parent hts prw_371 (by have := hh; omega)) hX hXs hK hP hS (by decide) rfl rfl rfl rfl hl.1 (Nat.le_of_ble_eq_true rfl) prd_Y_blockBegin_16 (fun H locs hP hS => ?_)
  obtain ⟨r8, hr8, hf⟩ := pr_bi hf
  refine pr_callVr (rest := [.int r6]) (r := r8) ⟨hx, hb, hml, hown, hts⟩ 4 (prc_O_arraysAt hD hX 1 (Nat.le_refl _) σ r7 r8 hr8) (prg_O_arraysAt hts prw_374 (by have := hh; omega)) hX hXs hK hP hS (by decide) rfl rfl rfl rfl hl.1 (Nat.le_of_ble_eq_true rfl) prd_Y_blockBegin_19 (fun H locs hP hS => ?_)
  refine lv_iadd hx hb prd_Y_blockBegin_22 ?_
  exact pr_reti E hP hS (pr_ro hf) prd_Y_blockBegin_23
-- Y_varHolds
set_option maxHeartbeats 4000000 in
set_option maxRecDepth 100000 in
theorem prc_Y_varHolds {l : Launch} {D : va_G} {ad : Nat → Nat} {dA : Nat → ClassId} {A : Nat → Prop} {t : Nat} (hD : ∀ σ : pr_St, va_D A (pr_w prc_L ad dA σ)) (hX : pr_Xok A (prX t A)) (h : Nat) (hh : 3 ≤ h) (σ : pr_St) (x1 : Int32) (res : (Int32 × pr_St)) (hf : prf_Y_varHolds σ x1 = some res) : Met l pry_Y_varHolds (Cond.code pry_Y_varHolds prb_Y_varHolds 3 (some .boolean) :: pr_U) (pr_rm h) (pr_Pc (prX t A) D pr_cl prc_L ad dA [.ref (ad 6), .int x1] σ) (pr_Qi D pr_cl prc_L ad dA A res) 0 0 A := by
  refine pr_entry (cc := prb_Y_varHolds) (maxL := 3) (ret := (some .boolean)) (by decide) (Nat.le_of_ble_eq_true rfl) hD hX ?_
  intro p e s m args below meth c E H locs hP hS ls hl
  have hl : lv_has ls 3 [(0, .ref (ad 6)), (1, .int x1)] := hl
  have hf := hf.symm
  unfold prf_Y_varHolds at hf
  obtain ⟨hx, hb, hml, hown, hts, hr, hlocks, hK, hD, hX, hXs⟩ := id E
  refine lv_aload_n hx hb prd_Y_varHolds_0 rfl (lv_at hl 0 rfl) ?_
  refine pr_getr (t := 5) hx hb hts prs_Y hown hK hP 6 3 (by decide) rfl (hts _ prw_372) rfl prd_Y_varHolds_1 ?_
  refine lv_iload_n hx hb prd_Y_varHolds_4 rfl (lv_at hl 1 rfl) ?_
  refine lv_iconst (v := 1) hx hb prd_Y_varHolds_5 (by decide) ?_
  refine lv_iadd hx hb prd_Y_varHolds_6 ?_
  refine lv_aload_n hx hb prd_Y_varHolds_7 rfl (lv_at hl 0 rfl) ?_
  obtain ⟨r15, hr15, hf⟩ := pr_bi hf
  refine pr_callVr (rest := [.int (x1 + 1), .ref (ad 5)]) (r := r15) ⟨hx, hb, hml, hown, hts⟩ 6 (prc_Y_blockBegin hD hX 2 (Nat.le_refl _) σ  r15 hr15) (prg_Y_blockBegin hts prw_436 (by have := hh; omega)) hX hXs hK hP hS (by decide) rfl rfl rfl rfl hl.1 (Nat.le_of_ble_eq_true rfl) prd_Y_varHolds_8 (fun H locs hP hS => ?_)
  obtain ⟨r16, hr16, hf⟩ := pr_bi hf
  refine pr_callVr (rest := []) (r := r16) ⟨hx, hb, hml, hown, hts⟩ 5 (prc_S_find hD hX 2 (Nat.le_refl _) σ (x1 + 1) r15 r16 hr16) (prg_S_find hts prw_437 (by have := hh; omega)) hX hXs hK hP hS (by decide) rfl rfl rfl rfl hl.1 (Nat.le_of_ble_eq_true rfl) prd_Y_varHolds_11 (fun H locs hP hS => ?_)
  refine lv_iconst (v := (-1)) hx hb prd_Y_varHolds_14 (by decide) ?_
  refine lv_icmp_eq (tgt := 27) hx hb prd_Y_varHolds_15 (by decide) (fun c17 => ?_) (fun c17 => ?_)
  · have hf := pr_it c17 hf
    refine lv_aload_n hx hb prd_Y_varHolds_27 rfl (lv_at hl 0 rfl) ?_
    refine pr_getr (t := 1) hx hb hts prs_Y hown hK hP 6 0 (by decide) rfl (hts _ prw_310) rfl prd_Y_varHolds_28 ?_
    refine lv_iload_n hx hb prd_Y_varHolds_31 rfl (lv_at hl 1 rfl) ?_
    refine lv_iconst (v := 2) hx hb prd_Y_varHolds_32 (by decide) ?_
    refine lv_iadd hx hb prd_Y_varHolds_33 ?_
    obtain ⟨r18, hr18, hf⟩ := pr_bi hf
    refine pr_callVr (rest := []) (r := r18) ⟨hx, hb, hml, hown, hts⟩ 1 (prc_T_kindAt hD hX 0 (Nat.le_refl _) σ (x1 + 2) r18 hr18) (prg_T_kindAt hts prw_438 (by have := hh; omega)) hX hXs hK hP hS (by decide) rfl rfl rfl rfl hl.1 (Nat.le_of_ble_eq_true rfl) prd_Y_varHolds_34 (fun H locs hP hS => ?_)
    refine lv_bipush (v := 16) hx hb prd_Y_varHolds_37 (by decide) ?_
    refine lv_icmp_eq (tgt := 44) hx hb prd_Y_varHolds_39 (by decide) (fun c19 => ?_) (fun c19 => ?_)
    · have hf := pr_it c19 hf
      refine lv_aload_n hx hb prd_Y_varHolds_44 rfl (lv_at hl 0 rfl) ?_
      refine pr_getr (t := 1) hx hb hts prs_Y hown hK hP 6 0 (by decide) rfl (hts _ prw_310) rfl prd_Y_varHolds_45 ?_
      refine lv_iload_n hx hb prd_Y_varHolds_48 rfl (lv_at hl 1 rfl) ?_
      refine lv_iconst (v := 3) hx hb prd_Y_varHolds_49 (by decide) ?_
      refine lv_iadd hx hb prd_Y_varHolds_50 ?_
      obtain ⟨r20, hr20, hf⟩ := pr_bi hf
      refine pr_callVr (rest := []) (r := r20) ⟨hx, hb, hml, hown, hts⟩ 1 (prc_T_valueAt hD hX 0 (Nat.le_refl _) σ (x1 + 3) r20 hr20) (prg_T_valueAt hts prw_439 (by have := hh; omega)) hX hXs hK hP hS (by decide) rfl rfl rfl rfl hl.1 (Nat.le_of_ble_eq_true rfl) prd_Y_varHolds_51 (fun H locs hP hS => ?_)
      refine lv_istore_n (lv' := [(2, .int r20), (0, .ref (ad 6)), (1, .int x1)]) hx hb prd_Y_varHolds_54 rfl hl (by decide) rfl (fun ls hl => ?_)
      refine lv_iload_n hx hb prd_Y_varHolds_55 rfl (lv_at hl 0 rfl) ?_
      refine lv_iconst (v := 1) hx hb prd_Y_varHolds_56 (by decide) ?_
      refine lv_icmp_lt (tgt := 66) hx hb prd_Y_varHolds_57 (by decide) (fun c21 => ?_) (fun c21 => ?_)
      · have hf := pr_it c21 hf
        refine lv_aload_n hx hb prd_Y_varHolds_66 rfl (lv_at hl 1 rfl) ?_
        refine lv_bipush (v := 9) hx hb prd_Y_varHolds_67 (by decide) ?_
        refine lv_iload_n hx hb prd_Y_varHolds_69 rfl (lv_at hl 2 rfl) ?_
        refine lv_iconst (v := 3) hx hb prd_Y_varHolds_70 (by decide) ?_
        refine lv_iadd hx hb prd_Y_varHolds_71 ?_
        obtain ⟨r22, hr22, hf⟩ := pr_bi hf
        refine pr_callVi (rest := []) (res := r22) ⟨hx, hb, hml, hown, hts⟩ 6 (prc_Y_isWrong hD hX 1 (Nat.le_refl _) σ 9 (x1 + 3) r22 hr22) (prg_Y_isWrong hts prw_410 (by have := hh; omega)) hX hXs hK hP hS (by decide) rfl rfl rfl rfl hl.1 (Nat.le_of_ble_eq_true rfl) prd_Y_varHolds_72 (fun H locs hP hS => ?_)
        refine lv_if_eq (tgt := 82) hx hb prd_Y_varHolds_75 (by decide) (fun c23 => ?_) (fun c23 => ?_)
        · have hf := pr_it c23 hf
          refine lv_iconst (v := 0) hx hb prd_Y_varHolds_82 (by decide) ?_
          exact pr_retz E (Or.inl rfl) hP hS (pr_so hf) prd_Y_varHolds_83
        · have hf := pr_ie c23 hf
          refine lv_iconst (v := 1) hx hb prd_Y_varHolds_78 (by decide) ?_
          refine lv_goto (tgt := 83) hx hb prd_Y_varHolds_79 (by decide) ?_
          exact pr_retz E (Or.inr rfl) hP hS (pr_so hf) prd_Y_varHolds_83
      · have hf := pr_ie c21 hf
        refine lv_iload_n hx hb prd_Y_varHolds_60 rfl (lv_at hl 0 rfl) ?_
        refine lv_bipush (v := 64) hx hb prd_Y_varHolds_61 (by decide) ?_
        refine lv_icmp_le (tgt := 78) hx hb prd_Y_varHolds_63 (by decide) (fun c24 => ?_) (fun c24 => ?_)
        · have hf := pr_it c24 hf
          refine lv_iconst (v := 1) hx hb prd_Y_varHolds_78 (by decide) ?_
          refine lv_goto (tgt := 83) hx hb prd_Y_varHolds_79 (by decide) ?_
          exact pr_retz E (Or.inr rfl) hP hS (pr_so hf) prd_Y_varHolds_83
        · have hf := pr_ie c24 hf
          refine lv_aload_n hx hb prd_Y_varHolds_66 rfl (lv_at hl 1 rfl) ?_
          refine lv_bipush (v := 9) hx hb prd_Y_varHolds_67 (by decide) ?_
          refine lv_iload_n hx hb prd_Y_varHolds_69 rfl (lv_at hl 2 rfl) ?_
          refine lv_iconst (v := 3) hx hb prd_Y_varHolds_70 (by decide) ?_
          refine lv_iadd hx hb prd_Y_varHolds_71 ?_
          obtain ⟨r25, hr25, hf⟩ := pr_bi hf
          refine pr_callVi (rest := []) (res := r25) ⟨hx, hb, hml, hown, hts⟩ 6 (prc_Y_isWrong hD hX 1 (Nat.le_refl _) σ 9 (x1 + 3) r25 hr25) (prg_Y_isWrong hts prw_410 (by have := hh; omega)) hX hXs hK hP hS (by decide) rfl rfl rfl rfl hl.1 (Nat.le_of_ble_eq_true rfl) prd_Y_varHolds_72 (fun H locs hP hS => ?_)
          refine lv_if_eq (tgt := 82) hx hb prd_Y_varHolds_75 (by decide) (fun c26 => ?_) (fun c26 => ?_)
          · have hf := pr_it c26 hf
            refine lv_iconst (v := 0) hx hb prd_Y_varHolds_82 (by decide) ?_
            exact pr_retz E (Or.inl rfl) hP hS (pr_so hf) prd_Y_varHolds_83
          · have hf := pr_ie c26 hf
            refine lv_iconst (v := 1) hx hb prd_Y_varHolds_78 (by decide) ?_
            refine lv_goto (tgt := 83) hx hb prd_Y_varHolds_79 (by decide) ?_
            exact pr_retz E (Or.inr rfl) hP hS (pr_so hf) prd_Y_varHolds_83
    · have hf := pr_ie c19 hf
      refine lv_iconst (v := 1) hx hb prd_Y_varHolds_42 (by decide) ?_
      exact pr_retz E (Or.inr rfl) hP hS (pr_so hf) prd_Y_varHolds_43
  · have hf := pr_ie c17 hf
    refine lv_aload_n hx hb prd_Y_varHolds_18 rfl (lv_at hl 0 rfl) ?_
    refine lv_iconst (v := 2) hx hb prd_Y_varHolds_19 (by decide) ?_
    refine lv_iload_n hx hb prd_Y_varHolds_20 rfl (lv_at hl 1 rfl) ?_
    refine lv_iconst (v := 1) hx hb prd_Y_varHolds_21 (by decide) ?_
    refine lv_iadd hx hb prd_Y_varHolds_22 ?_
    obtain ⟨r27, hr27, hf⟩ := pr_bi hf
    refine pr_callVi (rest := []) (res := r27) ⟨hx, hb, hml, hown, hts⟩ 6 (prc_Y_isWrong hD hX 1 (Nat.le_refl _) σ 2 (x1 + 1) r27 hr27) (prg_Y_isWrong hts prw_410 (by have := hh; omega)) hX hXs hK hP hS (by decide) rfl rfl rfl rfl hl.1 (Nat.le_of_ble_eq_true rfl) prd_Y_varHolds_23 (fun H locs hP hS => ?_)
    obtain ⟨hz28, hf⟩ := pr_z_in hf
    exact pr_retz E hz28 hP hS (pr_so hf) prd_Y_varHolds_26
-- Y_function
set_option maxHeartbeats 4000000 in
set_option maxRecDepth 100000 in
theorem prc_Y_function {l : Launch} {D : va_G} {ad : Nat → Nat} {dA : Nat → ClassId} {A : Nat → Prop} {t : Nat} (hD : ∀ σ : pr_St, va_D A (pr_w prc_L ad dA σ)) (hX : pr_Xok A (prX t A)) (h : Nat) (hh : 1 ≤ h) (σ : pr_St)  (res : Int32) (hf : prf_Y_function σ  = some res) : Met l pry_Y_function (Cond.code pry_Y_function prb_Y_function 1 (some .int) :: pr_U) (pr_rm h) (pr_Pc (prX t A) D pr_cl prc_L ad dA [.ref (ad 6)] σ) (pr_Qi D pr_cl prc_L ad dA A (res, σ)) 0 0 A := by
  refine pr_entry (cc := prb_Y_function) (maxL := 1) (ret := (some .int)) (by decide) (Nat.le_of_ble_eq_true rfl) hD hX ?_
  intro p e s m args below meth c E H locs hP hS ls hl
  have hl : lv_has ls 1 [(0, .ref (ad 6))] := hl
  have hf := hf.symm
  unfold prf_Y_function at hf
  obtain ⟨hx, hb, hml, hown, hts, hr, hlocks, hK, hD, hX, hXs⟩ := id E
  refine lv_aload_n hx hb prd_Y_function_0 rfl (lv_at hl 0 rfl) ?_
  obtain ⟨r4, hr4, hf⟩ := pr_bi hf
  refine pr_callVr (rest := []) (r := r4) ⟨hx, hb, hml, hown, hts⟩ 6 (prc_Y_isOpen hD hX 0 (Nat.le_refl _) σ  r4 hr4) (prg_Y_isOpen hts prw_351 (by have := hh; omega)) hX hXs hK hP hS (by decide) rfl rfl rfl rfl hl.1 (Nat.le_of_ble_eq_true rfl) prd_Y_function_1 (fun H locs hP hS => ?_)
  refine lv_if_eq (tgt := 19) hx hb prd_Y_function_4 (by decide) (fun c5 => ?_) (fun c5 => ?_)
  · have hf := pr_it c5 hf
    refine lv_iconst (v := (-1)) hx hb prd_Y_function_19 (by decide) ?_
    exact pr_reti E hP hS (pr_ro hf) prd_Y_function_20
  · have hf := pr_ie c5 hf
    refine lv_aload_n hx hb prd_Y_function_7 rfl (lv_at hl 0 rfl) ?_
    refine pr_getr (t := 46) hx hb hts prs_Y hown hK hP 6 8 (by decide) rfl (hts _ prw_328) rfl prd_Y_function_8 ?_
    refine lv_aload_n hx hb prd_Y_function_11 rfl (lv_at hl 0 rfl) ?_
    refine pr_geti (v := (σ.1 6 10)) hx hb hts prs_Y hown hK hP 6 10 (by decide) rfl (hts _ prw_344) rfl rfl prd_Y_function_12 ?_
    obtain ⟨hi6, hf⟩ := pr_ck_in hf
    refine pr_iald (f := (σ.2.1 46)) hx hb hK hP 46 (by decide) rfl hi6 rfl prd_Y_function_15 ?_
    refine lv_goto (tgt := 20) hx hb prd_Y_function_16 (by decide) ?_
    exact pr_reti E hP hS (pr_ro hf) prd_Y_function_20
-- Y_functionMeant
set_option maxHeartbeats 4000000 in
set_option maxRecDepth 100000 in
theorem prk_Y_functionMeant_7 {l : Launch} {D : va_G} {ad : Nat → Nat} {dA : Nat → ClassId} {A : Nat → Prop} {t : Nat} {p : Program} {e : Env} {s : State} {m : MethodId} {args : Array Value} {below : List Frame} {meth : Method} {c : Code} {h : Nat} (hh : 2 ≤ h) (E : pr_cx prn_Y prb_Y_functionMeant 3 (some .int) D pr_cl prc_L ad dA A (prX t A) p s m args meth c) : ∀ n : Nat, ∀ (σ : pr_St) (x1 : Int32) (x2 : Int32) (res : Int32), some res = prf_Y_functionMeant_7 n σ x1 x2 → ∀ (H : Heap) (locs : List Loc) (ls : Array Slot), va_P D pr_cl (pr_w prc_L ad dA σ) H → va_S A s.heap H locs → lv_has ls 3 [(0, .ref (ad 6)), (1, .int x1), (2, .int x2)] → W p l e (pr_rm h) s m args below meth c H locs 0 0 (MQ below (pr_Qi D pr_cl prc_L ad dA A (res, σ)) args s 0 0 A) (F0 m 7 ls []) := by
  obtain ⟨hx, hb, hml, hown, hts, hr, hlocks, hK, hD, hX, hXs⟩ := id E
  intro n
  induction n with
  | zero =>
    intro σ x1 x2 res hf
    rw [prf_Y_functionMeant_7] at hf
    cases hf
  | succ n ih =>
    intro σ x1 x2 res hf H locs ls hP hS hl
    rw [prf_Y_functionMeant_7] at hf
    refine lv_iload_n hx hb prd_Y_functionMeant_7 rfl (lv_at hl 2 rfl) ?_
    refine lv_if_lt (tgt := 38) hx hb prd_Y_functionMeant_8 (by decide) (fun c6 => ?_) (fun c6 => ?_)
    · have hf := pr_it c6 hf
      refine lv_iconst (v := (-1)) hx hb prd_Y_functionMeant_38 (by decide) ?_
      exact pr_reti E hP hS (pr_ro hf) prd_Y_functionMeant_39
    · have hf := pr_ie c6 hf
      refine lv_aload_n hx hb prd_Y_functionMeant_11 rfl (lv_at hl 0 rfl) ?_
      refine pr_getr (t := 1) hx hb hts prs_Y hown hK hP 6 0 (by decide) rfl (hts _ prw_310) rfl prd_Y_functionMeant_12 ?_
      refine lv_aload_n hx hb prd_Y_functionMeant_15 rfl (lv_at hl 0 rfl) ?_
      refine pr_getr (t := 2) hx hb hts prs_Y hown hK hP 6 1 (by decide) rfl (hts _ prw_337) rfl prd_Y_functionMeant_16 ?_
      refine lv_iload_n hx hb prd_Y_functionMeant_19 rfl (lv_at hl 2 rfl) ?_
      obtain ⟨r7, hr7, hf⟩ := pr_bi hf
      refine pr_callVr (rest := [.ref (ad 1)]) (r := r7) ⟨hx, hb, hml, hown, hts⟩ 2 (prc_G_nameOf hD hX 1 (Nat.le_refl _) σ x2 r7 hr7) (prg_G_nameOf hts prw_450 (by have := hh; omega)) hX hXs hK hP hS (by decide) rfl rfl rfl rfl hl.1 (Nat.le_of_ble_eq_true rfl) prd_Y_functionMeant_20 (fun H locs hP hS => ?_)
      refine lv_iload_n hx hb prd_Y_functionMeant_23 rfl (lv_at hl 1 rfl) ?_
      obtain ⟨r8, hr8, hf⟩ := pr_bi hf
      refine pr_callVr (rest := []) (r := r8) ⟨hx, hb, hml, hown, hts⟩ 1 (prc_T_sameName hD hX 1 (Nat.le_refl _) σ r7 x1 r8 hr8) (prg_T_sameName hts prw_451 (by have := hh; omega)) hX hXs hK hP hS (by decide) rfl rfl rfl rfl hl.1 (Nat.le_of_ble_eq_true rfl) prd_Y_functionMeant_24 (fun H locs hP hS => ?_)
      refine lv_if_eq (tgt := 32) hx hb prd_Y_functionMeant_27 (by decide) (fun c9 => ?_) (fun c9 => ?_)
      · have hf := pr_it c9 hf
        refine lv_iinc (v := (x2 + (-1))) (lv' := [(2, .int (x2 + (-1))), (0, .ref (ad 6)), (1, .int x1)]) hx hb prd_Y_functionMeant_32 hl (k := 2) rfl rfl (by decide) rfl (fun ls hl => ?_)
        refine lv_goto (tgt := 7) hx hb prd_Y_functionMeant_35 (by decide) ?_
        exact ih σ x1 (x2 + (-1)) _ hf _ _ _ hP hS (lv_sub hl [1, 2, 0] rfl)
      · have hf := pr_ie c9 hf
        refine lv_iload_n hx hb prd_Y_functionMeant_30 rfl (lv_at hl 2 rfl) ?_
        exact pr_reti E hP hS (pr_ro hf) prd_Y_functionMeant_31
set_option maxHeartbeats 4000000 in
set_option maxRecDepth 100000 in
theorem prc_Y_functionMeant {l : Launch} {D : va_G} {ad : Nat → Nat} {dA : Nat → ClassId} {A : Nat → Prop} {t : Nat} (hD : ∀ σ : pr_St, va_D A (pr_w prc_L ad dA σ)) (hX : pr_Xok A (prX t A)) (h : Nat) (hh : 2 ≤ h) (σ : pr_St) (x1 : Int32) (res : Int32) (hf : prf_Y_functionMeant σ x1 = some res) : Met l pry_Y_functionMeant (Cond.code pry_Y_functionMeant prb_Y_functionMeant 3 (some .int) :: pr_U) (pr_rm h) (pr_Pc (prX t A) D pr_cl prc_L ad dA [.ref (ad 6), .int x1] σ) (pr_Qi D pr_cl prc_L ad dA A (res, σ)) 0 0 A := by
  refine pr_entry (cc := prb_Y_functionMeant) (maxL := 3) (ret := (some .int)) (by decide) (Nat.le_of_ble_eq_true rfl) hD hX ?_
  intro p e s m args below meth c E H locs hP hS ls hl
  have hl : lv_has ls 3 [(0, .ref (ad 6)), (1, .int x1)] := hl
  have hf := hf.symm
  unfold prf_Y_functionMeant at hf
  obtain ⟨hx, hb, hml, hown, hts, hr, hlocks, hK, hD, hX, hXs⟩ := id E
  refine lv_aload_n hx hb prd_Y_functionMeant_0 rfl (lv_at hl 0 rfl) ?_
  obtain ⟨r10, hr10, hf⟩ := pr_bi hf
  refine pr_callVr (rest := []) (r := r10) ⟨hx, hb, hml, hown, hts⟩ 6 (prc_Y_function hD hX 1 (Nat.le_refl _) σ  r10 hr10) (prg_Y_function hts prw_449 (by have := hh; omega)) hX hXs hK hP hS (by decide) rfl rfl rfl rfl hl.1 (Nat.le_of_ble_eq_true rfl) prd_Y_functionMeant_1 (fun H locs hP hS => ?_)
  refine lv_iconst (v := 1) hx hb prd_Y_functionMeant_4 (by decide) ?_
  refine lv_isub hx hb prd_Y_functionMeant_5 ?_
  refine lv_istore_n (lv' := [(2, .int (r10 - 1)), (0, .ref (ad 6)), (1, .int x1)]) hx hb prd_Y_functionMeant_6 rfl hl (by decide) rfl (fun ls hl => ?_)
  exact prk_Y_functionMeant_7 hh E pr_FU σ x1 (r10 - 1) _ hf _ _ _ hP hS (lv_sub hl [1, 2, 0] rfl)
-- Y_callHolds
set_option maxHeartbeats 4000000 in
set_option maxRecDepth 100000 in
theorem prc_Y_callHolds {l : Launch} {D : va_G} {ad : Nat → Nat} {dA : Nat → ClassId} {A : Nat → Prop} {t : Nat} (hD : ∀ σ : pr_St, va_D A (pr_w prc_L ad dA σ)) (hX : pr_Xok A (prX t A)) (h : Nat) (hh : 3 ≤ h) (σ : pr_St) (x1 : Int32) (x2 : Int32) (res : (Int32 × pr_St)) (hf : prf_Y_callHolds σ x1 x2 = some res) : Met l pry_Y_callHolds (Cond.code pry_Y_callHolds prb_Y_callHolds 5 (some .boolean) :: pr_U) (pr_rm h) (pr_Pc (prX t A) D pr_cl prc_L ad dA [.ref (ad 6), .int x1, .int x2] σ) (pr_Qi D pr_cl prc_L ad dA A res) 0 0 A := by
  refine pr_entry (cc := prb_Y_callHolds) (maxL := 5) (ret := (some .boolean)) (by decide) (Nat.le_of_ble_eq_true rfl) hD hX ?_
  intro p e s m args below meth c E H locs hP hS ls hl
  have hl : lv_has ls 5 [(0, .ref (ad 6)), (1, .int x1), (2, .int x2)] := hl
  have hf := hf.symm
  unfold prf_Y_callHolds at hf
  obtain ⟨hx, hb, hml, hown, hts, hr, hlocks, hK, hD, hX, hXs⟩ := id E
  refine lv_aload_n hx hb prd_Y_callHolds_0 rfl (lv_at hl 0 rfl) ?_
  refine lv_iload_n hx hb prd_Y_callHolds_1 rfl (lv_at hl 2 rfl) ?_
  obtain ⟨r22, hr22, hf⟩ := pr_bi hf
  refine pr_callVr (rest := []) (r := r22) ⟨hx, hb, hml, hown, hts⟩ 6 (prc_Y_functionMeant hD hX 2 (Nat.le_refl _) σ x2 r22 hr22) (prg_Y_functionMeant hts prw_461 (by have := hh; omega)) hX hXs hK hP hS (by decide) rfl rfl rfl rfl hl.1 (Nat.le_of_ble_eq_true rfl) prd_Y_callHolds_2 (fun H locs hP hS => ?_)
  refine lv_istore_n (lv' := [(3, .int r22), (0, .ref (ad 6)), (1, .int x1), (2, .int x2)]) hx hb prd_Y_callHolds_5 rfl hl (by decide) rfl (fun ls hl => ?_)
  refine lv_iload_n hx hb prd_Y_callHolds_6 rfl (lv_at hl 0 rfl) ?_
  refine lv_iconst (v := (-1)) hx hb prd_Y_callHolds_7 (by decide) ?_
  refine lv_icmp_ne (tgt := 18) hx hb prd_Y_callHolds_8 (by decide) (fun c23 => ?_) (fun c23 => ?_)
  · have hf := pr_ie c23 hf
    refine lv_aload_n hx hb prd_Y_callHolds_18 rfl (lv_at hl 1 rfl) ?_
    refine pr_getr (t := 2) hx hb hts prs_Y hown hK hP 6 1 (by decide) rfl (hts _ prw_337) rfl prd_Y_callHolds_19 ?_
    refine lv_iload_n hx hb prd_Y_callHolds_22 rfl (lv_at hl 2 rfl) ?_
    obtain ⟨r24, hr24, hf⟩ := pr_bi hf
    refine pr_callVr (rest := []) (r := r24) ⟨hx, hb, hml, hown, hts⟩ 2 (prc_G_detailOf hD hX 1 (Nat.le_refl _) σ x1 r24 hr24) (prg_G_detailOf hts prw_462 (by have := hh; omega)) hX hXs hK hP hS (by decide) rfl rfl rfl rfl hl.1 (Nat.le_of_ble_eq_true rfl) prd_Y_callHolds_23 (fun H locs hP hS => ?_)
    refine lv_aload_n hx hb prd_Y_callHolds_26 rfl (lv_at hl 1 rfl) ?_
    refine pr_getr (t := 2) hx hb hts prs_Y hown hK hP 6 1 (by decide) rfl (hts _ prw_337) rfl prd_Y_callHolds_27 ?_
    refine lv_iload_n hx hb prd_Y_callHolds_30 rfl (lv_at hl 0 rfl) ?_
    obtain ⟨r25, hr25, hf⟩ := pr_bi hf
    refine pr_callVr (rest := [.int r24]) (r := r25) ⟨hx, hb, hml, hown, hts⟩ 2 (prc_G_parametersOf hD hX 1 (Nat.le_refl _) σ r22 r25 hr25) (prg_G_parametersOf hts prw_463 (by have := hh; omega)) hX hXs hK hP hS (by decide) rfl rfl rfl rfl hl.1 (Nat.le_of_ble_eq_true rfl) prd_Y_callHolds_31 (fun H locs hP hS => ?_)
    refine lv_icmp_eq (tgt := 44) hx hb prd_Y_callHolds_34 (by decide) (fun c26 => ?_) (fun c26 => ?_)
    · have hf := pr_it c26 hf
      refine lv_iload_n hx hb prd_Y_callHolds_44 rfl (lv_at hl 3 rfl) ?_
      refine lv_aload_n hx hb prd_Y_callHolds_45 rfl (lv_at hl 1 rfl) ?_
      refine pr_getr (t := 2) hx hb hts prs_Y hown hK hP 6 1 (by decide) rfl (hts _ prw_337) rfl prd_Y_callHolds_46 ?_
      refine lv_iload_n hx hb prd_Y_callHolds_49 rfl (lv_at hl 2 rfl) ?_
      obtain ⟨r27, hr27, hf⟩ := pr_bi hf
      refine pr_callVr (rest := [.int x2]) (r := r27) ⟨hx, hb, hml, hown, hts⟩ 2 (prc_G_firstTokenOf hD hX 1 (Nat.le_refl _) σ x1 r27 hr27) (prg_G_firstTokenOf hts prw_464 (by have := hh; omega)) hX hXs hK hP hS (by decide) rfl rfl rfl rfl hl.1 (Nat.le_of_ble_eq_true rfl) prd_Y_callHolds_50 (fun H locs hP hS => ?_)
      refine lv_icmp_eq (tgt := 60) hx hb prd_Y_callHolds_53 (by decide) (fun c28 => ?_) (fun c28 => ?_)
      · have hf := pr_it c28 hf
        refine lv_iconst (v := 0) hx hb prd_Y_callHolds_60 (by decide) ?_
        refine lv_istore (lv' := [(4, .int 0), (3, .int r22), (0, .ref (ad 6)), (1, .int x1), (2, .int x2)]) hx hb prd_Y_callHolds_61 hl (by decide) rfl (fun ls hl => ?_)
        refine lv_iload hx hb prd_Y_callHolds_63 (lv_at hl 0 rfl) ?_
        refine lv_if_eq (tgt := 87) hx hb prd_Y_callHolds_65 (by decide) (fun c29 => ?_) (fun c29 => ?_)
        · have hf := pr_it c29 hf
          refine lv_aload_n hx hb prd_Y_callHolds_87 rfl (lv_at hl 2 rfl) ?_
          refine lv_iload_n hx hb prd_Y_callHolds_88 rfl (lv_at hl 1 rfl) ?_
          refine pr_puti (ty := .int) hx hb hts prs_Y prq_Y prtt_Y prtn_Y hown hK hP (hD _) hS 6 13 (by decide) rfl (hts _ prw_465) rfl rfl (prtt_Y 13 (by decide)) rfl rfl prd_Y_callHolds_89 (fun H locs hP hS => ?_)
          refine lv_iconst (v := 1) hx hb prd_Y_callHolds_92 (by decide) ?_
          exact pr_retz E (Or.inr rfl) hP hS (pr_so hf) prd_Y_callHolds_93
        · have hf := pr_ie c29 hf
          refine lv_aload_n hx hb prd_Y_callHolds_68 rfl (lv_at hl 2 rfl) ?_
          refine pr_getr (t := 2) hx hb hts prs_Y hown hK hP 6 1 (by decide) rfl (hts _ prw_337) rfl prd_Y_callHolds_69 ?_
          refine lv_iload_n hx hb prd_Y_callHolds_72 rfl (lv_at hl 1 rfl) ?_
          obtain ⟨r30, hr30, hf⟩ := pr_bi hf
          refine pr_callVr (rest := []) (r := r30) ⟨hx, hb, hml, hown, hts⟩ 2 (prc_G_returns hD hX 1 (Nat.le_refl _) σ r22 r30 hr30) (prg_G_returns hts prw_466 (by have := hh; omega)) hX hXs hK hP hS (by decide) rfl rfl rfl rfl hl.1 (Nat.le_of_ble_eq_true rfl) prd_Y_callHolds_73 (fun H locs hP hS => ?_)
          refine lv_if_ne (tgt := 87) hx hb prd_Y_callHolds_76 (by decide) (fun c31 => ?_) (fun c31 => ?_)
          · have hf := pr_ie c31 hf
            refine lv_aload_n hx hb prd_Y_callHolds_87 rfl (lv_at hl 2 rfl) ?_
            refine lv_iload_n hx hb prd_Y_callHolds_88 rfl (lv_at hl 1 rfl) ?_
            refine pr_puti (ty := .int) hx hb hts prs_Y prq_Y prtt_Y prtn_Y hown hK hP (hD _) hS 6 13 (by decide) rfl (hts _ prw_465) rfl rfl (prtt_Y 13 (by decide)) rfl rfl prd_Y_callHolds_89 (fun H locs hP hS => ?_)
            refine lv_iconst (v := 1) hx hb prd_Y_callHolds_92 (by decide) ?_
            exact pr_retz E (Or.inr rfl) hP hS (pr_so hf) prd_Y_callHolds_93
          · have hf := pr_it c31 hf
            refine lv_aload_n hx hb prd_Y_callHolds_79 rfl (lv_at hl 2 rfl) ?_
            refine lv_bipush (v := 6) hx hb prd_Y_callHolds_80 (by decide) ?_
            refine lv_iload_n hx hb prd_Y_callHolds_82 rfl (lv_at hl 4 rfl) ?_
            obtain ⟨r32, hr32, hf⟩ := pr_bi hf
            refine pr_callVi (rest := []) (res := r32) ⟨hx, hb, hml, hown, hts⟩ 6 (prc_Y_isWrong hD hX 1 (Nat.le_refl _) σ 6 x2 r32 hr32) (prg_Y_isWrong hts prw_410 (by have := hh; omega)) hX hXs hK hP hS (by decide) rfl rfl rfl rfl hl.1 (Nat.le_of_ble_eq_true rfl) prd_Y_callHolds_83 (fun H locs hP hS => ?_)
            obtain ⟨hz33, hf⟩ := pr_z_in hf
            exact pr_retz E hz33 hP hS (pr_so hf) prd_Y_callHolds_86
      · have hf := pr_ie c28 hf
        refine lv_iconst (v := 1) hx hb prd_Y_callHolds_56 (by decide) ?_
        refine lv_goto (tgt := 61) hx hb prd_Y_callHolds_57 (by decide) ?_
        refine lv_istore (lv' := [(4, .int 1), (3, .int r22), (0, .ref (ad 6)), (1, .int x1), (2, .int x2)]) hx hb prd_Y_callHolds_61 hl (by decide) rfl (fun ls hl => ?_)
        refine lv_iload hx hb prd_Y_callHolds_63 (lv_at hl 0 rfl) ?_
        refine lv_if_eq (tgt := 87) hx hb prd_Y_callHolds_65 (by decide) (fun c34 => ?_) (fun c34 => ?_)
        · have hf := pr_it c34 hf
          refine lv_aload_n hx hb prd_Y_callHolds_87 rfl (lv_at hl 2 rfl) ?_
          refine lv_iload_n hx hb prd_Y_callHolds_88 rfl (lv_at hl 1 rfl) ?_
          refine pr_puti (ty := .int) hx hb hts prs_Y prq_Y prtt_Y prtn_Y hown hK hP (hD _) hS 6 13 (by decide) rfl (hts _ prw_465) rfl rfl (prtt_Y 13 (by decide)) rfl rfl prd_Y_callHolds_89 (fun H locs hP hS => ?_)
          refine lv_iconst (v := 1) hx hb prd_Y_callHolds_92 (by decide) ?_
          exact pr_retz E (Or.inr rfl) hP hS (pr_so hf) prd_Y_callHolds_93
        · have hf := pr_ie c34 hf
          refine lv_aload_n hx hb prd_Y_callHolds_68 rfl (lv_at hl 2 rfl) ?_
          refine pr_getr (t := 2) hx hb hts prs_Y hown hK hP 6 1 (by decide) rfl (hts _ prw_337) rfl prd_Y_callHolds_69 ?_
          refine lv_iload_n hx hb prd_Y_callHolds_72 rfl (lv_at hl 1 rfl) ?_
          obtain ⟨r35, hr35, hf⟩ := pr_bi hf
          refine pr_callVr (rest := []) (r := r35) ⟨hx, hb, hml, hown, hts⟩ 2 (prc_G_returns hD hX 1 (Nat.le_refl _) σ r22 r35 hr35) (prg_G_returns hts prw_466 (by have := hh; omega)) hX hXs hK hP hS (by decide) rfl rfl rfl rfl hl.1 (Nat.le_of_ble_eq_true rfl) prd_Y_callHolds_73 (fun H locs hP hS => ?_)
          refine lv_if_ne (tgt := 87) hx hb prd_Y_callHolds_76 (by decide) (fun c36 => ?_) (fun c36 => ?_)
          · have hf := pr_ie c36 hf
            refine lv_aload_n hx hb prd_Y_callHolds_87 rfl (lv_at hl 2 rfl) ?_
            refine lv_iload_n hx hb prd_Y_callHolds_88 rfl (lv_at hl 1 rfl) ?_
            refine pr_puti (ty := .int) hx hb hts prs_Y prq_Y prtt_Y prtn_Y hown hK hP (hD _) hS 6 13 (by decide) rfl (hts _ prw_465) rfl rfl (prtt_Y 13 (by decide)) rfl rfl prd_Y_callHolds_89 (fun H locs hP hS => ?_)
            refine lv_iconst (v := 1) hx hb prd_Y_callHolds_92 (by decide) ?_
            exact pr_retz E (Or.inr rfl) hP hS (pr_so hf) prd_Y_callHolds_93
          · have hf := pr_it c36 hf
            refine lv_aload_n hx hb prd_Y_callHolds_79 rfl (lv_at hl 2 rfl) ?_
            refine lv_bipush (v := 6) hx hb prd_Y_callHolds_80 (by decide) ?_
            refine lv_iload_n hx hb prd_Y_callHolds_82 rfl (lv_at hl 4 rfl) ?_
            obtain ⟨r37, hr37, hf⟩ := pr_bi hf
            refine pr_callVi (rest := []) (res := r37) ⟨hx, hb, hml, hown, hts⟩ 6 (prc_Y_isWrong hD hX 1 (Nat.le_refl _) σ 6 x2 r37 hr37) (prg_Y_isWrong hts prw_410 (by have := hh; omega)) hX hXs hK hP hS (by decide) rfl rfl rfl rfl hl.1 (Nat.le_of_ble_eq_true rfl) prd_Y_callHolds_83 (fun H locs hP hS => ?_)
            obtain ⟨hz38, hf⟩ := pr_z_in hf
            exact pr_retz E hz38 hP hS (pr_so hf) prd_Y_callHolds_86
    · have hf := pr_ie c26 hf
      refine lv_aload_n hx hb prd_Y_callHolds_37 rfl (lv_at hl 1 rfl) ?_
      refine lv_iconst (v := 5) hx hb prd_Y_callHolds_38 (by decide) ?_
      refine lv_iload_n hx hb prd_Y_callHolds_39 rfl (lv_at hl 3 rfl) ?_
      obtain ⟨r39, hr39, hf⟩ := pr_bi hf
      refine pr_callVi (rest := []) (res := r39) ⟨hx, hb, hml, hown, hts⟩ 6 (prc_Y_isWrong hD hX 1 (Nat.le_refl _) σ 5 x2 r39 hr39) (prg_Y_isWrong hts prw_410 (by have := hh; omega)) hX hXs hK hP hS (by decide) rfl rfl rfl rfl hl.1 (Nat.le_of_ble_eq_true rfl) prd_Y_callHolds_40 (fun H locs hP hS => ?_)
      obtain ⟨hz40, hf⟩ := pr_z_in hf
      exact pr_retz E hz40 hP hS (pr_so hf) prd_Y_callHolds_43
  · have hf := pr_it c23 hf
    refine lv_aload_n hx hb prd_Y_callHolds_11 rfl (lv_at hl 1 rfl) ?_
    refine lv_iconst (v := 4) hx hb prd_Y_callHolds_12 (by decide) ?_
    refine lv_iload_n hx hb prd_Y_callHolds_13 rfl (lv_at hl 3 rfl) ?_
    obtain ⟨r41, hr41, hf⟩ := pr_bi hf
    refine pr_callVi (rest := []) (res := r41) ⟨hx, hb, hml, hown, hts⟩ 6 (prc_Y_isWrong hD hX 1 (Nat.le_refl _) σ 4 x2 r41 hr41) (prg_Y_isWrong hts prw_410 (by have := hh; omega)) hX hXs hK hP hS (by decide) rfl rfl rfl rfl hl.1 (Nat.le_of_ble_eq_true rfl) prd_Y_callHolds_14 (fun H locs hP hS => ?_)
    obtain ⟨hz42, hf⟩ := pr_z_in hf
    exact pr_retz E hz42 hP hS (pr_so hf) prd_Y_callHolds_17
-- Y_nameHolds
set_option maxHeartbeats 4000000 in
set_option maxRecDepth 100000 in
theorem prc_Y_nameHolds {l : Launch} {D : va_G} {ad : Nat → Nat} {dA : Nat → ClassId} {A : Nat → Prop} {t : Nat} (hD : ∀ σ : pr_St, va_D A (pr_w prc_L ad dA σ)) (hX : pr_Xok A (prX t A)) (h : Nat) (hh : 3 ≤ h) (σ : pr_St) (x1 : Int32) (x2 : Int32) (res : (Int32 × pr_St)) (hf : prf_Y_nameHolds σ x1 x2 = some res) : Met l pry_Y_nameHolds (Cond.code pry_Y_nameHolds prb_Y_nameHolds 4 (some .boolean) :: pr_U) (pr_rm h) (pr_Pc (prX t A) D pr_cl prc_L ad dA [.ref (ad 6), .int x1, .int x2] σ) (pr_Qi D pr_cl prc_L ad dA A res) 0 0 A := by
  refine pr_entry (cc := prb_Y_nameHolds) (maxL := 4) (ret := (some .boolean)) (by decide) (Nat.le_of_ble_eq_true rfl) hD hX ?_
  intro p e s m args below meth c E H locs hP hS ls hl
  have hl : lv_has ls 4 [(0, .ref (ad 6)), (1, .int x1), (2, .int x2)] := hl
  have hf := hf.symm
  unfold prf_Y_nameHolds at hf
  obtain ⟨hx, hb, hml, hown, hts, hr, hlocks, hK, hD, hX, hXs⟩ := id E
  refine lv_aload_n hx hb prd_Y_nameHolds_0 rfl (lv_at hl 0 rfl) ?_
  refine pr_getr (t := 5) hx hb hts prs_Y hown hK hP 6 3 (by decide) rfl (hts _ prw_372) rfl prd_Y_nameHolds_1 ?_
  refine lv_iload_n hx hb prd_Y_nameHolds_4 rfl (lv_at hl 1 rfl) ?_
  refine lv_aload_n hx hb prd_Y_nameHolds_5 rfl (lv_at hl 0 rfl) ?_
  refine pr_geti (v := (σ.1 6 11)) hx hb hts prs_Y hown hK hP 6 11 (by decide) rfl (hts _ prw_401) rfl rfl prd_Y_nameHolds_6 ?_
  refine lv_aload_n hx hb prd_Y_nameHolds_9 rfl (lv_at hl 0 rfl) ?_
  refine pr_geti (v := (σ.1 6 12)) hx hb hts prs_Y hown hK hP 6 12 (by decide) rfl (hts _ prw_403) rfl rfl prd_Y_nameHolds_10 ?_
  refine lv_iadd hx hb prd_Y_nameHolds_13 ?_
  obtain ⟨r13, hr13, hf⟩ := pr_bi hf
  refine pr_callVr (rest := []) (r := r13) ⟨hx, hb, hml, hown, hts⟩ 5 (prc_S_find hD hX 2 (Nat.le_refl _) σ x1 ((σ.1 6 11) + (σ.1 6 12)) r13 hr13) (prg_S_find hts prw_437 (by have := hh; omega)) hX hXs hK hP hS (by decide) rfl rfl rfl rfl hl.1 (Nat.le_of_ble_eq_true rfl) prd_Y_nameHolds_14 (fun H locs hP hS => ?_)
  refine lv_istore_n (lv' := [(3, .int r13), (0, .ref (ad 6)), (1, .int x1), (2, .int x2)]) hx hb prd_Y_nameHolds_17 rfl hl (by decide) rfl (fun ls hl => ?_)
  refine lv_iload_n hx hb prd_Y_nameHolds_18 rfl (lv_at hl 0 rfl) ?_
  refine lv_iconst (v := (-1)) hx hb prd_Y_nameHolds_19 (by decide) ?_
  refine lv_icmp_ne (tgt := 30) hx hb prd_Y_nameHolds_20 (by decide) (fun c14 => ?_) (fun c14 => ?_)
  · have hf := pr_ie c14 hf
    refine lv_aload_n hx hb prd_Y_nameHolds_30 rfl (lv_at hl 1 rfl) ?_
    refine pr_getr (t := 5) hx hb hts prs_Y hown hK hP 6 3 (by decide) rfl (hts _ prw_372) rfl prd_Y_nameHolds_31 ?_
    refine lv_iload_n hx hb prd_Y_nameHolds_34 rfl (lv_at hl 0 rfl) ?_
    obtain ⟨r15, hr15, hf⟩ := pr_bi hf
    refine pr_callVr (rest := []) (r := r15) ⟨hx, hb, hml, hown, hts⟩ 5 (prc_S_isArray hD hX 1 (Nat.le_refl _) σ r13 r15 hr15) (prg_S_isArray hts prw_482 (by have := hh; omega)) hX hXs hK hP hS (by decide) rfl rfl rfl rfl hl.1 (Nat.le_of_ble_eq_true rfl) prd_Y_nameHolds_35 (fun H locs hP hS => ?_)
    refine lv_iload_n hx hb prd_Y_nameHolds_38 rfl (lv_at hl 3 rfl) ?_
    refine lv_icmp_eq (tgt := 49) hx hb prd_Y_nameHolds_39 (by decide) (fun c16 => ?_) (fun c16 => ?_)
    · have hf := pr_it c16 hf
      refine lv_aload_n hx hb prd_Y_nameHolds_49 rfl (lv_at hl 1 rfl) ?_
      refine pr_getr (t := 2) hx hb hts prs_Y hown hK hP 6 1 (by decide) rfl (hts _ prw_337) rfl prd_Y_nameHolds_50 ?_
      refine lv_iload_n hx hb prd_Y_nameHolds_53 rfl (lv_at hl 2 rfl) ?_
      refine lv_aload_n hx hb prd_Y_nameHolds_54 rfl (lv_at hl 1 rfl) ?_
      refine pr_getr (t := 5) hx hb hts prs_Y hown hK hP 6 3 (by decide) rfl (hts _ prw_372) rfl prd_Y_nameHolds_55 ?_
      refine lv_iload_n hx hb prd_Y_nameHolds_58 rfl (lv_at hl 0 rfl) ?_
      obtain ⟨r17, hr17, hf⟩ := pr_bi hf
      refine pr_callVr (rest := [.int x1, .ref (ad 2)]) (r := r17) ⟨hx, hb, hml, hown, hts⟩ 5 (prc_S_slotOf hD hX 1 (Nat.le_refl _) σ r13 r17 hr17) (prg_S_slotOf hts prw_483 (by have := hh; omega)) hX hXs hK hP hS (by decide) rfl rfl rfl rfl hl.1 (Nat.le_of_ble_eq_true rfl) prd_Y_nameHolds_59 (fun H locs hP hS => ?_)
      refine lv_iload_n hx hb prd_Y_nameHolds_62 rfl (lv_at hl 3 rfl) ?_
      refine lv_if_eq (tgt := 73) hx hb prd_Y_nameHolds_63 (by decide) (fun c18 => ?_) (fun c18 => ?_)
      · have hf := pr_it c18 hf
        refine lv_aload_n hx hb prd_Y_nameHolds_73 rfl (lv_at hl 1 rfl) ?_
        refine pr_geti (v := (σ.1 6 11)) hx hb hts prs_Y hown hK hP 6 11 (by decide) rfl (hts _ prw_401) rfl rfl prd_Y_nameHolds_74 ?_
        refine lv_isub hx hb prd_Y_nameHolds_77 ?_
        obtain ⟨r19, hr19, hf⟩ := pr_bi hf
        refine pr_callVv (rest := []) (res := r19) ⟨hx, hb, hml, hown, hts⟩ 2 (prc_G_setSlot hD hX 0 (Nat.le_refl _) σ x1 (r17 - (σ.1 6 11)) r19 hr19) (prg_G_setSlot hts prw_484 (by have := hh; omega)) hX hXs hK hP hS (by decide) rfl rfl rfl rfl hl.1 (Nat.le_of_ble_eq_true rfl) prd_Y_nameHolds_78 (fun H locs hP hS => ?_)
        refine lv_iconst (v := 1) hx hb prd_Y_nameHolds_81 (by decide) ?_
        exact pr_retz E (Or.inr rfl) hP hS (pr_so hf) prd_Y_nameHolds_82
      · have hf := pr_ie c18 hf
        refine lv_aload_n hx hb prd_Y_nameHolds_66 rfl (lv_at hl 1 rfl) ?_
        refine pr_geti (v := (σ.1 6 12)) hx hb hts prs_Y hown hK hP 6 12 (by decide) rfl (hts _ prw_403) rfl rfl prd_Y_nameHolds_67 ?_
        refine lv_goto (tgt := 77) hx hb prd_Y_nameHolds_70 (by decide) ?_
        refine lv_isub hx hb prd_Y_nameHolds_77 ?_
        obtain ⟨r20, hr20, hf⟩ := pr_bi hf
        refine pr_callVv (rest := []) (res := r20) ⟨hx, hb, hml, hown, hts⟩ 2 (prc_G_setSlot hD hX 0 (Nat.le_refl _) σ x1 (r17 - (σ.1 6 12)) r20 hr20) (prg_G_setSlot hts prw_484 (by have := hh; omega)) hX hXs hK hP hS (by decide) rfl rfl rfl rfl hl.1 (Nat.le_of_ble_eq_true rfl) prd_Y_nameHolds_78 (fun H locs hP hS => ?_)
        refine lv_iconst (v := 1) hx hb prd_Y_nameHolds_81 (by decide) ?_
        exact pr_retz E (Or.inr rfl) hP hS (pr_so hf) prd_Y_nameHolds_82
    · have hf := pr_ie c16 hf
      refine lv_aload_n hx hb prd_Y_nameHolds_42 rfl (lv_at hl 1 rfl) ?_
      refine lv_iconst (v := 3) hx hb prd_Y_nameHolds_43 (by decide) ?_
      refine lv_iload_n hx hb prd_Y_nameHolds_44 rfl (lv_at hl 2 rfl) ?_
      obtain ⟨r21, hr21, hf⟩ := pr_bi hf
      refine pr_callVi (rest := []) (res := r21) ⟨hx, hb, hml, hown, hts⟩ 6 (prc_Y_isWrong hD hX 1 (Nat.le_refl _) σ 3 x1 r21 hr21) (prg_Y_isWrong hts prw_410 (by have := hh; omega)) hX hXs hK hP hS (by decide) rfl rfl rfl rfl hl.1 (Nat.le_of_ble_eq_true rfl) prd_Y_nameHolds_45 (fun H locs hP hS => ?_)
      obtain ⟨hz22, hf⟩ := pr_z_in hf
      exact pr_retz E hz22 hP hS (pr_so hf) prd_Y_nameHolds_48
  · have hf := pr_it c14 hf
    refine lv_aload_n hx hb prd_Y_nameHolds_23 rfl (lv_at hl 1 rfl) ?_
    refine lv_iconst (v := 1) hx hb prd_Y_nameHolds_24 (by decide) ?_
    refine lv_iload_n hx hb prd_Y_nameHolds_25 rfl (lv_at hl 2 rfl) ?_
    obtain ⟨r23, hr23, hf⟩ := pr_bi hf
    refine pr_callVi (rest := []) (res := r23) ⟨hx, hb, hml, hown, hts⟩ 6 (prc_Y_isWrong hD hX 1 (Nat.le_refl _) σ 1 x1 r23 hr23) (prg_Y_isWrong hts prw_410 (by have := hh; omega)) hX hXs hK hP hS (by decide) rfl rfl rfl rfl hl.1 (Nat.le_of_ble_eq_true rfl) prd_Y_nameHolds_26 (fun H locs hP hS => ?_)
    obtain ⟨hz24, hf⟩ := pr_z_in hf
    exact pr_retz E hz24 hP hS (pr_so hf) prd_Y_nameHolds_29
-- Y_limitsHold
set_option maxHeartbeats 4000000 in
set_option maxRecDepth 100000 in
theorem prc_Y_limitsHold {l : Launch} {D : va_G} {ad : Nat → Nat} {dA : Nat → ClassId} {A : Nat → Prop} {t : Nat} (hD : ∀ σ : pr_St, va_D A (pr_w prc_L ad dA σ)) (hX : pr_Xok A (prX t A)) (h : Nat) (hh : 2 ≤ h) (σ : pr_St) (x1 : Int32) (res : (Int32 × pr_St)) (hf : prf_Y_limitsHold σ x1 = some res) : Met l pry_Y_limitsHold (Cond.code pry_Y_limitsHold prb_Y_limitsHold 3 (some .boolean) :: pr_U) (pr_rm h) (pr_Pc (prX t A) D pr_cl prc_L ad dA [.ref (ad 6), .int x1] σ) (pr_Qi D pr_cl prc_L ad dA A res) 0 0 A := by
  refine pr_entry (cc := prb_Y_limitsHold) (maxL := 3) (ret := (some .boolean)) (by decide) (Nat.le_of_ble_eq_true rfl) hD hX ?_
  intro p e s m args below meth c E H locs hP hS ls hl
  have hl : lv_has ls 3 [(0, .ref (ad 6)), (1, .int x1)] := hl
  have hf := hf.symm
  unfold prf_Y_limitsHold at hf
  obtain ⟨hx, hb, hml, hown, hts, hr, hlocks, hK, hD, hX, hXs⟩ := id E
  refine lv_aload_n hx hb prd_Y_limitsHold_0 rfl (lv_at hl 0 rfl) ?_
  refine pr_getr (t := 1) hx hb hts prs_Y hown hK hP 6 0 (by decide) rfl (hts _ prw_310) rfl prd_Y_limitsHold_1 ?_
  refine lv_iload_n hx hb prd_Y_limitsHold_4 rfl (lv_at hl 1 rfl) ?_
  obtain ⟨r7, hr7, hf⟩ := pr_bi hf
  refine pr_callVr (rest := []) (r := r7) ⟨hx, hb, hml, hown, hts⟩ 1 (prc_T_secondLimit hD hX 1 (Nat.le_refl _) σ x1 r7 hr7) (prg_T_secondLimit hts prw_495 (by have := hh; omega)) hX hXs hK hP hS (by decide) rfl rfl rfl rfl hl.1 (Nat.le_of_ble_eq_true rfl) prd_Y_limitsHold_5 (fun H locs hP hS => ?_)
  refine lv_istore_n (lv' := [(2, .int r7), (0, .ref (ad 6)), (1, .int x1)]) hx hb prd_Y_limitsHold_8 rfl hl (by decide) rfl (fun ls hl => ?_)
  refine lv_aload_n hx hb prd_Y_limitsHold_9 rfl (lv_at hl 1 rfl) ?_
  refine pr_getr (t := 1) hx hb hts prs_Y hown hK hP 6 0 (by decide) rfl (hts _ prw_310) rfl prd_Y_limitsHold_10 ?_
  refine lv_iload_n hx hb prd_Y_limitsHold_13 rfl (lv_at hl 2 rfl) ?_
  obtain ⟨r8, hr8, hf⟩ := pr_bi hf
  refine pr_callVr (rest := []) (r := r8) ⟨hx, hb, hml, hown, hts⟩ 1 (prc_T_limitAt hD hX 1 (Nat.le_refl _) σ x1 r8 hr8) (prg_T_limitAt hts prw_496 (by have := hh; omega)) hX hXs hK hP hS (by decide) rfl rfl rfl rfl hl.1 (Nat.le_of_ble_eq_true rfl) prd_Y_limitsHold_14 (fun H locs hP hS => ?_)
  refine lv_aload_n hx hb prd_Y_limitsHold_17 rfl (lv_at hl 1 rfl) ?_
  refine pr_getr (t := 1) hx hb hts prs_Y hown hK hP 6 0 (by decide) rfl (hts _ prw_310) rfl prd_Y_limitsHold_18 ?_
  refine lv_iload_n hx hb prd_Y_limitsHold_21 rfl (lv_at hl 0 rfl) ?_
  obtain ⟨r9, hr9, hf⟩ := pr_bi hf
  refine pr_callVr (rest := [.int r8]) (r := r9) ⟨hx, hb, hml, hown, hts⟩ 1 (prc_T_limitAt hD hX 1 (Nat.le_refl _) σ r7 r9 hr9) (prg_T_limitAt hts prw_496 (by have := hh; omega)) hX hXs hK hP hS (by decide) rfl rfl rfl rfl hl.1 (Nat.le_of_ble_eq_true rfl) prd_Y_limitsHold_22 (fun H locs hP hS => ?_)
  refine lv_icmp_le (tgt := 38) hx hb prd_Y_limitsHold_25 (by decide) (fun c10 => ?_) (fun c10 => ?_)
  · have hf := pr_it c10 hf
    refine lv_iconst (v := 1) hx hb prd_Y_limitsHold_38 (by decide) ?_
    refine lv_goto (tgt := 43) hx hb prd_Y_limitsHold_39 (by decide) ?_
    exact pr_retz E (Or.inr rfl) hP hS (pr_so hf) prd_Y_limitsHold_43
  · have hf := pr_ie c10 hf
    refine lv_aload_n hx hb prd_Y_limitsHold_28 rfl (lv_at hl 1 rfl) ?_
    refine lv_bipush (v := 8) hx hb prd_Y_limitsHold_29 (by decide) ?_
    refine lv_iload_n hx hb prd_Y_limitsHold_31 rfl (lv_at hl 2 rfl) ?_
    obtain ⟨r11, hr11, hf⟩ := pr_bi hf
    refine pr_callVi (rest := []) (res := r11) ⟨hx, hb, hml, hown, hts⟩ 6 (prc_Y_isWrong hD hX 1 (Nat.le_refl _) σ 8 x1 r11 hr11) (prg_Y_isWrong hts prw_410 (by have := hh; omega)) hX hXs hK hP hS (by decide) rfl rfl rfl rfl hl.1 (Nat.le_of_ble_eq_true rfl) prd_Y_limitsHold_32 (fun H locs hP hS => ?_)
    refine lv_if_eq (tgt := 42) hx hb prd_Y_limitsHold_35 (by decide) (fun c12 => ?_) (fun c12 => ?_)
    · have hf := pr_it c12 hf
      refine lv_iconst (v := 0) hx hb prd_Y_limitsHold_42 (by decide) ?_
      exact pr_retz E (Or.inl rfl) hP hS (pr_so hf) prd_Y_limitsHold_43
    · have hf := pr_ie c12 hf
      refine lv_iconst (v := 1) hx hb prd_Y_limitsHold_38 (by decide) ?_
      refine lv_goto (tgt := 43) hx hb prd_Y_limitsHold_39 (by decide) ?_
      exact pr_retz E (Or.inr rfl) hP hS (pr_so hf) prd_Y_limitsHold_43
-- Y_tokensHold
set_option maxHeartbeats 4000000 in
set_option maxRecDepth 100000 in
theorem prk_Y_tokensHold_5 {l : Launch} {D : va_G} {ad : Nat → Nat} {dA : Nat → ClassId} {A : Nat → Prop} {t : Nat} {p : Program} {e : Env} {s : State} {m : MethodId} {args : Array Value} {below : List Frame} {meth : Method} {c : Code} {h : Nat} (hh : 4 ≤ h) (E : pr_cx prn_Y prb_Y_tokensHold 7 (some .boolean) D pr_cl prc_L ad dA A (prX t A) p s m args meth c) : ∀ n : Nat, ∀ (σ : pr_St) (x1 : Int32) (x3 : Int32) (x4 : Int32) (res : (Int32 × pr_St)), some res = prf_Y_tokensHold_5 n σ x1 x3 x4 → ∀ (H : Heap) (locs : List Loc) (ls : Array Slot), va_P D pr_cl (pr_w prc_L ad dA σ) H → va_S A s.heap H locs → lv_has ls 7 [(0, .ref (ad 6)), (1, .int x1), (3, .int x3), (4, .int x4)] → W p l e (pr_rm h) s m args below meth c H locs 0 0 (MQ below (pr_Qi D pr_cl prc_L ad dA A res) args s 0 0 A) (F0 m 5 ls []) := by
  obtain ⟨hx, hb, hml, hown, hts, hr, hlocks, hK, hD, hX, hXs⟩ := id E
  intro n
  induction n with
  | zero =>
    intro σ x1 x3 x4 res hf
    rw [prf_Y_tokensHold_5] at hf
    cases hf
  | succ n ih =>
    intro σ x1 x3 x4 res hf H locs ls hP hS hl
    rw [prf_Y_tokensHold_5] at hf
    refine lv_iload hx hb prd_Y_tokensHold_5 (lv_at hl 3 rfl) ?_
    refine lv_aload_n hx hb prd_Y_tokensHold_7 rfl (lv_at hl 0 rfl) ?_
    refine pr_getr (t := 1) hx hb hts prs_Y hown hK hP 6 0 (by decide) rfl (hts _ prw_310) rfl prd_Y_tokensHold_8 ?_
    obtain ⟨r19, hr19, hf⟩ := pr_bi hf
    refine pr_callVr (rest := [.int x4]) (r := r19) ⟨hx, hb, hml, hown, hts⟩ 1 (prc_T_count hD hX 0 (Nat.le_refl _) σ  r19 hr19) (prg_T_count hts prw_500 (by have := hh; omega)) hX hXs hK hP hS (by decide) rfl rfl rfl rfl hl.1 (Nat.le_of_ble_eq_true rfl) prd_Y_tokensHold_11 (fun H locs hP hS => ?_)
    refine lv_icmp_ge (tgt := 135) hx hb prd_Y_tokensHold_14 (by decide) (fun c20 => ?_) (fun c20 => ?_)
    · have hf := pr_it c20 hf
      refine lv_iload_n hx hb prd_Y_tokensHold_135 rfl (lv_at hl 2 rfl) ?_
      obtain ⟨hz21, hf⟩ := pr_z_in hf
      exact pr_retz E hz21 hP hS (pr_so hf) prd_Y_tokensHold_136
    · have hf := pr_ie c20 hf
      refine lv_iload_n hx hb prd_Y_tokensHold_17 rfl (lv_at hl 2 rfl) ?_
      refine lv_if_eq (tgt := 135) hx hb prd_Y_tokensHold_18 (by decide) (fun c22 => ?_) (fun c22 => ?_)
      · have hf := pr_it c22 hf
        refine lv_iload_n hx hb prd_Y_tokensHold_135 rfl (lv_at hl 2 rfl) ?_
        obtain ⟨hz23, hf⟩ := pr_z_in hf
        exact pr_retz E hz23 hP hS (pr_so hf) prd_Y_tokensHold_136
      · have hf := pr_ie c22 hf
        refine lv_aload_n hx hb prd_Y_tokensHold_21 rfl (lv_at hl 0 rfl) ?_
        refine pr_getr (t := 1) hx hb hts prs_Y hown hK hP 6 0 (by decide) rfl (hts _ prw_310) rfl prd_Y_tokensHold_22 ?_
        refine lv_iload hx hb prd_Y_tokensHold_25 (lv_at hl 3 rfl) ?_
        obtain ⟨r24, hr24, hf⟩ := pr_bi hf
        refine pr_callVr (rest := []) (r := r24) ⟨hx, hb, hml, hown, hts⟩ 1 (prc_T_kindAt hD hX 0 (Nat.le_refl _) σ x4 r24 hr24) (prg_T_kindAt hts prw_438 (by have := hh; omega)) hX hXs hK hP hS (by decide) rfl rfl rfl rfl hl.1 (Nat.le_of_ble_eq_true rfl) prd_Y_tokensHold_27 (fun H locs hP hS => ?_)
        refine lv_istore (lv' := [(5, .int r24), (0, .ref (ad 6)), (1, .int x1), (3, .int x3), (4, .int x4)]) hx hb prd_Y_tokensHold_30 hl (by decide) rfl (fun ls hl => ?_)
        refine lv_iload hx hb prd_Y_tokensHold_32 (lv_at hl 0 rfl) ?_
        refine lv_bipush (v := 19) hx hb prd_Y_tokensHold_34 (by decide) ?_
        refine lv_icmp_eq (tgt := 46) hx hb prd_Y_tokensHold_36 (by decide) (fun c25 => ?_) (fun c25 => ?_)
        · have hf := pr_it c25 hf
          refine lv_iconst (v := 1) hx hb prd_Y_tokensHold_46 (by decide) ?_
          exact pr_retz E (Or.inr rfl) hP hS (pr_so hf) prd_Y_tokensHold_47
        · have hf := pr_ie c25 hf
          refine lv_iload hx hb prd_Y_tokensHold_39 (lv_at hl 0 rfl) ?_
          refine lv_bipush (v := 14) hx hb prd_Y_tokensHold_41 (by decide) ?_
          refine lv_icmp_ne (tgt := 48) hx hb prd_Y_tokensHold_43 (by decide) (fun c26 => ?_) (fun c26 => ?_)
          · have hf := pr_ie c26 hf
            refine lv_aload_n hx hb prd_Y_tokensHold_48 rfl (lv_at hl 1 rfl) ?_
            refine pr_getr (t := 1) hx hb hts prs_Y hown hK hP 6 0 (by decide) rfl (hts _ prw_310) rfl prd_Y_tokensHold_49 ?_
            refine lv_iload hx hb prd_Y_tokensHold_52 (lv_at hl 4 rfl) ?_
            refine lv_iconst (v := 1) hx hb prd_Y_tokensHold_54 (by decide) ?_
            refine lv_iadd hx hb prd_Y_tokensHold_55 ?_
            obtain ⟨r27, hr27, hf⟩ := pr_bi hf
            refine pr_callVr (rest := []) (r := r27) ⟨hx, hb, hml, hown, hts⟩ 1 (prc_T_kindAt hD hX 0 (Nat.le_refl _) σ (x4 + 1) r27 hr27) (prg_T_kindAt hts prw_438 (by have := hh; omega)) hX hXs hK hP hS (by decide) rfl rfl rfl rfl hl.1 (Nat.le_of_ble_eq_true rfl) prd_Y_tokensHold_56 (fun H locs hP hS => ?_)
            refine lv_istore (lv' := [(6, .int r27), (5, .int r24), (0, .ref (ad 6)), (1, .int x1), (3, .int x3), (4, .int x4)]) hx hb prd_Y_tokensHold_59 hl (by decide) rfl (fun ls hl => ?_)
            refine lv_iload hx hb prd_Y_tokensHold_61 (lv_at hl 1 rfl) ?_
            refine lv_iconst (v := 2) hx hb prd_Y_tokensHold_63 (by decide) ?_
            refine lv_icmp_ne (tgt := 106) hx hb prd_Y_tokensHold_64 (by decide) (fun c28 => ?_) (fun c28 => ?_)
            · have hf := pr_ie c28 hf
              refine lv_iload hx hb prd_Y_tokensHold_106 (lv_at hl 1 rfl) ?_
              refine lv_bipush (v := 11) hx hb prd_Y_tokensHold_108 (by decide) ?_
              refine lv_icmp_ne (tgt := 129) hx hb prd_Y_tokensHold_110 (by decide) (fun c29 => ?_) (fun c29 => ?_)
              · have hf := pr_ie c29 hf
                refine lv_iinc (v := (x4 + 1)) (lv' := [(4, .int (x4 + 1)), (6, .int r27), (5, .int r24), (0, .ref (ad 6)), (1, .int x1), (3, .int x3)]) hx hb prd_Y_tokensHold_129 hl (k := 5) rfl rfl (by decide) rfl (fun ls hl => ?_)
                refine lv_goto (tgt := 5) hx hb prd_Y_tokensHold_132 (by decide) ?_
                exact ih σ x1 x3 (x4 + 1) _ hf _ _ _ hP hS (lv_sub hl [3, 4, 5, 0] rfl)
              · have hf := pr_it c29 hf
                refine lv_iload hx hb prd_Y_tokensHold_113 (lv_at hl 0 rfl) ?_
                refine lv_bipush (v := 12) hx hb prd_Y_tokensHold_115 (by decide) ?_
                refine lv_icmp_ne (tgt := 129) hx hb prd_Y_tokensHold_117 (by decide) (fun c30 => ?_) (fun c30 => ?_)
                · have hf := pr_ie c30 hf
                  refine lv_iinc (v := (x4 + 1)) (lv' := [(4, .int (x4 + 1)), (6, .int r27), (5, .int r24), (0, .ref (ad 6)), (1, .int x1), (3, .int x3)]) hx hb prd_Y_tokensHold_129 hl (k := 5) rfl rfl (by decide) rfl (fun ls hl => ?_)
                  refine lv_goto (tgt := 5) hx hb prd_Y_tokensHold_132 (by decide) ?_
                  exact ih σ x1 x3 (x4 + 1) _ hf _ _ _ hP hS (lv_sub hl [3, 4, 5, 0] rfl)
                · have hf := pr_it c30 hf
                  refine lv_aload_n hx hb prd_Y_tokensHold_120 rfl (lv_at hl 2 rfl) ?_
                  refine lv_iload hx hb prd_Y_tokensHold_121 (lv_at hl 5 rfl) ?_
                  refine lv_iconst (v := 2) hx hb prd_Y_tokensHold_123 (by decide) ?_
                  refine lv_iadd hx hb prd_Y_tokensHold_124 ?_
                  obtain ⟨r31, hr31, hf⟩ := pr_bi hf
                  refine pr_callVi (rest := []) (res := r31) ⟨hx, hb, hml, hown, hts⟩ 6 (prc_Y_limitsHold hD hX 2 (Nat.le_refl _) σ (x4 + 2) r31 hr31) (prg_Y_limitsHold hts prw_501 (by have := hh; omega)) hX hXs hK hP hS (by decide) rfl rfl rfl rfl hl.1 (Nat.le_of_ble_eq_true rfl) prd_Y_tokensHold_125 (fun H locs hP hS => ?_)
                  refine lv_istore_n (lv' := [(3, .int r31.1), (6, .int r27), (5, .int r24), (0, .ref (ad 6)), (1, .int x1), (4, .int x4)]) hx hb prd_Y_tokensHold_128 rfl hl (by decide) rfl (fun ls hl => ?_)
                  refine lv_iinc (v := (x4 + 1)) (lv' := [(4, .int (x4 + 1)), (3, .int r31.1), (6, .int r27), (5, .int r24), (0, .ref (ad 6)), (1, .int x1)]) hx hb prd_Y_tokensHold_129 hl (k := 5) rfl rfl (by decide) rfl (fun ls hl => ?_)
                  refine lv_goto (tgt := 5) hx hb prd_Y_tokensHold_132 (by decide) ?_
                  exact ih r31.2 x1 r31.1 (x4 + 1) _ hf _ _ _ hP hS (lv_sub hl [4, 5, 1, 0] rfl)
            · have hf := pr_it c28 hf
              refine lv_iload hx hb prd_Y_tokensHold_67 (lv_at hl 0 rfl) ?_
              refine lv_bipush (v := 12) hx hb prd_Y_tokensHold_69 (by decide) ?_
              refine lv_icmp_ne (tgt := 84) hx hb prd_Y_tokensHold_71 (by decide) (fun c32 => ?_) (fun c32 => ?_)
              · have hf := pr_ie c32 hf
                refine lv_aload_n hx hb prd_Y_tokensHold_84 rfl (lv_at hl 2 rfl) ?_
                refine lv_iload hx hb prd_Y_tokensHold_85 (lv_at hl 5 rfl) ?_
                refine lv_iload hx hb prd_Y_tokensHold_87 (lv_at hl 0 rfl) ?_
                refine lv_bipush (v := 16) hx hb prd_Y_tokensHold_89 (by decide) ?_
                refine lv_icmp_ne (tgt := 98) hx hb prd_Y_tokensHold_91 (by decide) (fun c33 => ?_) (fun c33 => ?_)
                · have hf := pr_ie c33 hf
                  refine lv_iconst (v := 0) hx hb prd_Y_tokensHold_98 (by decide) ?_
                  obtain ⟨r34, hr34, hf⟩ := pr_bi hf
                  refine pr_callVi (rest := []) (res := r34) ⟨hx, hb, hml, hown, hts⟩ 6 (prc_Y_nameHolds hD hX 3 (Nat.le_refl _) σ x4 0 r34 hr34) (prg_Y_nameHolds hts prw_502 (by have := hh; omega)) hX hXs hK hP hS (by decide) rfl rfl rfl rfl hl.1 (Nat.le_of_ble_eq_true rfl) prd_Y_tokensHold_99 (fun H locs hP hS => ?_)
                  refine lv_istore_n (lv' := [(3, .int r34.1), (6, .int r27), (5, .int r24), (0, .ref (ad 6)), (1, .int x1), (4, .int x4)]) hx hb prd_Y_tokensHold_102 rfl hl (by decide) rfl (fun ls hl => ?_)
                  refine lv_goto (tgt := 129) hx hb prd_Y_tokensHold_103 (by decide) ?_
                  refine lv_iinc (v := (x4 + 1)) (lv' := [(4, .int (x4 + 1)), (3, .int r34.1), (6, .int r27), (5, .int r24), (0, .ref (ad 6)), (1, .int x1)]) hx hb prd_Y_tokensHold_129 hl (k := 5) rfl rfl (by decide) rfl (fun ls hl => ?_)
                  refine lv_goto (tgt := 5) hx hb prd_Y_tokensHold_132 (by decide) ?_
                  exact ih r34.2 x1 r34.1 (x4 + 1) _ hf _ _ _ hP hS (lv_sub hl [4, 5, 1, 0] rfl)
                · have hf := pr_it c33 hf
                  refine lv_iconst (v := 1) hx hb prd_Y_tokensHold_94 (by decide) ?_
                  refine lv_goto (tgt := 99) hx hb prd_Y_tokensHold_95 (by decide) ?_
                  obtain ⟨r35, hr35, hf⟩ := pr_bi hf
                  refine pr_callVi (rest := []) (res := r35) ⟨hx, hb, hml, hown, hts⟩ 6 (prc_Y_nameHolds hD hX 3 (Nat.le_refl _) σ x4 1 r35 hr35) (prg_Y_nameHolds hts prw_502 (by have := hh; omega)) hX hXs hK hP hS (by decide) rfl rfl rfl rfl hl.1 (Nat.le_of_ble_eq_true rfl) prd_Y_tokensHold_99 (fun H locs hP hS => ?_)
                  refine lv_istore_n (lv' := [(3, .int r35.1), (6, .int r27), (5, .int r24), (0, .ref (ad 6)), (1, .int x1), (4, .int x4)]) hx hb prd_Y_tokensHold_102 rfl hl (by decide) rfl (fun ls hl => ?_)
                  refine lv_goto (tgt := 129) hx hb prd_Y_tokensHold_103 (by decide) ?_
                  refine lv_iinc (v := (x4 + 1)) (lv' := [(4, .int (x4 + 1)), (3, .int r35.1), (6, .int r27), (5, .int r24), (0, .ref (ad 6)), (1, .int x1)]) hx hb prd_Y_tokensHold_129 hl (k := 5) rfl rfl (by decide) rfl (fun ls hl => ?_)
                  refine lv_goto (tgt := 5) hx hb prd_Y_tokensHold_132 (by decide) ?_
                  exact ih r35.2 x1 r35.1 (x4 + 1) _ hf _ _ _ hP hS (lv_sub hl [4, 5, 1, 0] rfl)
              · have hf := pr_it c32 hf
                refine lv_aload_n hx hb prd_Y_tokensHold_74 rfl (lv_at hl 2 rfl) ?_
                refine lv_iload_n hx hb prd_Y_tokensHold_75 rfl (lv_at hl 3 rfl) ?_
                refine lv_iload hx hb prd_Y_tokensHold_76 (lv_at hl 5 rfl) ?_
                obtain ⟨r36, hr36, hf⟩ := pr_bi hf
                refine pr_callVi (rest := []) (res := r36) ⟨hx, hb, hml, hown, hts⟩ 6 (prc_Y_callHolds hD hX 3 (Nat.le_refl _) σ x1 x4 r36 hr36) (prg_Y_callHolds hts prw_503 (by have := hh; omega)) hX hXs hK hP hS (by decide) rfl rfl rfl rfl hl.1 (Nat.le_of_ble_eq_true rfl) prd_Y_tokensHold_78 (fun H locs hP hS => ?_)
                refine lv_goto (tgt := 102) hx hb prd_Y_tokensHold_81 (by decide) ?_
                refine lv_istore_n (lv' := [(3, .int r36.1), (6, .int r27), (5, .int r24), (0, .ref (ad 6)), (1, .int x1), (4, .int x4)]) hx hb prd_Y_tokensHold_102 rfl hl (by decide) rfl (fun ls hl => ?_)
                refine lv_goto (tgt := 129) hx hb prd_Y_tokensHold_103 (by decide) ?_
                refine lv_iinc (v := (x4 + 1)) (lv' := [(4, .int (x4 + 1)), (3, .int r36.1), (6, .int r27), (5, .int r24), (0, .ref (ad 6)), (1, .int x1)]) hx hb prd_Y_tokensHold_129 hl (k := 5) rfl rfl (by decide) rfl (fun ls hl => ?_)
                refine lv_goto (tgt := 5) hx hb prd_Y_tokensHold_132 (by decide) ?_
                exact ih r36.2 x1 r36.1 (x4 + 1) _ hf _ _ _ hP hS (lv_sub hl [4, 5, 1, 0] rfl)
          · have hf := pr_it c26 hf
            refine lv_iconst (v := 1) hx hb prd_Y_tokensHold_46 (by decide) ?_
            exact pr_retz E (Or.inr rfl) hP hS (pr_so hf) prd_Y_tokensHold_47
set_option maxHeartbeats 4000000 in
set_option maxRecDepth 100000 in
theorem prc_Y_tokensHold {l : Launch} {D : va_G} {ad : Nat → Nat} {dA : Nat → ClassId} {A : Nat → Prop} {t : Nat} (hD : ∀ σ : pr_St, va_D A (pr_w prc_L ad dA σ)) (hX : pr_Xok A (prX t A)) (h : Nat) (hh : 4 ≤ h) (σ : pr_St) (x1 : Int32) (x2 : Int32) (res : (Int32 × pr_St)) (hf : prf_Y_tokensHold σ x1 x2 = some res) : Met l pry_Y_tokensHold (Cond.code pry_Y_tokensHold prb_Y_tokensHold 7 (some .boolean) :: pr_U) (pr_rm h) (pr_Pc (prX t A) D pr_cl prc_L ad dA [.ref (ad 6), .int x1, .int x2] σ) (pr_Qi D pr_cl prc_L ad dA A res) 0 0 A := by
  refine pr_entry (cc := prb_Y_tokensHold) (maxL := 7) (ret := (some .boolean)) (by decide) (Nat.le_of_ble_eq_true rfl) hD hX ?_
  intro p e s m args below meth c E H locs hP hS ls hl
  have hl : lv_has ls 7 [(0, .ref (ad 6)), (1, .int x1), (2, .int x2)] := hl
  have hf := hf.symm
  unfold prf_Y_tokensHold at hf
  obtain ⟨hx, hb, hml, hown, hts, hr, hlocks, hK, hD, hX, hXs⟩ := id E
  refine lv_iconst (v := 1) hx hb prd_Y_tokensHold_0 (by decide) ?_
  refine lv_istore_n (lv' := [(3, .int 1), (0, .ref (ad 6)), (1, .int x1), (2, .int x2)]) hx hb prd_Y_tokensHold_1 rfl hl (by decide) rfl (fun ls hl => ?_)
  refine lv_iload_n hx hb prd_Y_tokensHold_2 rfl (lv_at hl 3 rfl) ?_
  refine lv_istore (lv' := [(4, .int x2), (3, .int 1), (0, .ref (ad 6)), (1, .int x1), (2, .int x2)]) hx hb prd_Y_tokensHold_3 hl (by decide) rfl (fun ls hl => ?_)
  exact prk_Y_tokensHold_5 hh E pr_FU σ x1 1 x2 _ hf _ _ _ hP hS (lv_sub hl [2, 3, 1, 0] rfl)
-- Y_parametersHold
set_option maxHeartbeats 4000000 in
set_option maxRecDepth 100000 in
theorem prk_Y_parametersHold_32 {l : Launch} {D : va_G} {ad : Nat → Nat} {dA : Nat → ClassId} {A : Nat → Prop} {t : Nat} {p : Program} {e : Env} {s : State} {m : MethodId} {args : Array Value} {below : List Frame} {meth : Method} {c : Code} {h : Nat} (hh : 3 ≤ h) (E : pr_cx prn_Y prb_Y_parametersHold 4 (some .boolean) D pr_cl prc_L ad dA A (prX t A) p s m args meth c) {kk2 : pr_St → Int32 → Option (Int32 × pr_St)} (Hk2 : ∀ (σ : pr_St) (x1 : Int32) (res : (Int32 × pr_St)), some res = kk2 σ x1 → ∀ (H : Heap) (locs : List Loc) (ls : Array Slot), va_P D pr_cl (pr_w prc_L ad dA σ) H → va_S A s.heap H locs → lv_has ls 4 [(0, .ref (ad 6)), (1, .int x1)] → W p l e (pr_rm h) s m args below meth c H locs 0 0 (MQ below (pr_Qi D pr_cl prc_L ad dA A res) args s 0 0 A) (F0 m 2 ls [])) : ∀ n : Nat, ∀ (σ : pr_St) (x1 : Int32) (x2 : Int32) (x3 : Int32) (res : (Int32 × pr_St)), some res = prf_Y_parametersHold_32 kk2 n σ x1 x2 x3 → ∀ (H : Heap) (locs : List Loc) (ls : Array Slot), va_P D pr_cl (pr_w prc_L ad dA σ) H → va_S A s.heap H locs → lv_has ls 4 [(0, .ref (ad 6)), (1, .int x1), (2, .int x2), (3, .int x3)] → W p l e (pr_rm h) s m args below meth c H locs 0 0 (MQ below (pr_Qi D pr_cl prc_L ad dA A res) args s 0 0 A) (F0 m 32 ls []) := by
  obtain ⟨hx, hb, hml, hown, hts, hr, hlocks, hK, hD, hX, hXs⟩ := id E
  intro n
  induction n with
  | zero =>
    intro σ x1 x2 x3 res hf
    rw [prf_Y_parametersHold_32] at hf
    cases hf
  | succ n ih =>
    intro σ x1 x2 x3 res hf H locs ls hP hS hl
    rw [prf_Y_parametersHold_32] at hf
    refine lv_iload_n hx hb prd_Y_parametersHold_32 rfl (lv_at hl 3 rfl) ?_
    refine lv_iload_n hx hb prd_Y_parametersHold_33 rfl (lv_at hl 1 rfl) ?_
    refine lv_icmp_ge (tgt := 73) hx hb prd_Y_parametersHold_34 (by decide) (fun c10 => ?_) (fun c10 => ?_)
    · have hf := pr_it c10 hf
      refine lv_iinc (v := (x1 + 1)) (lv' := [(1, .int (x1 + 1)), (0, .ref (ad 6)), (2, .int x2), (3, .int x3)]) hx hb prd_Y_parametersHold_73 hl (k := 1) rfl rfl (by decide) rfl (fun ls hl => ?_)
      refine lv_goto (tgt := 2) hx hb prd_Y_parametersHold_76 (by decide) ?_
      exact Hk2 σ (x1 + 1) _ hf _ _ _ hP hS (lv_sub hl [1, 0] rfl)
    · have hf := pr_ie c10 hf
      refine lv_aload_n hx hb prd_Y_parametersHold_37 rfl (lv_at hl 0 rfl) ?_
      refine pr_getr (t := 1) hx hb hts prs_Y hown hK hP 6 0 (by decide) rfl (hts _ prw_310) rfl prd_Y_parametersHold_38 ?_
      refine lv_iload_n hx hb prd_Y_parametersHold_41 rfl (lv_at hl 2 rfl) ?_
      refine lv_aload_n hx hb prd_Y_parametersHold_42 rfl (lv_at hl 0 rfl) ?_
      refine pr_getr (t := 2) hx hb hts prs_Y hown hK hP 6 1 (by decide) rfl (hts _ prw_337) rfl prd_Y_parametersHold_43 ?_
      refine lv_aload_n hx hb prd_Y_parametersHold_46 rfl (lv_at hl 0 rfl) ?_
      refine pr_geti (v := (σ.1 6 13)) hx hb hts prs_Y hown hK hP 6 13 (by decide) rfl (hts _ prw_465) rfl rfl prd_Y_parametersHold_47 ?_
      refine lv_iload_n hx hb prd_Y_parametersHold_50 rfl (lv_at hl 3 rfl) ?_
      obtain ⟨r11, hr11, hf⟩ := pr_bi hf
      refine pr_callVr (rest := [.int x2, .ref (ad 1)]) (r := r11) ⟨hx, hb, hml, hown, hts⟩ 2 (prc_G_parameterToken hD hX 2 (Nat.le_refl _) σ (σ.1 6 13) x3 r11 hr11) (prg_G_parameterToken hts prw_511 (by have := hh; omega)) hX hXs hK hP hS (by decide) rfl rfl rfl rfl hl.1 (Nat.le_of_ble_eq_true rfl) prd_Y_parametersHold_51 (fun H locs hP hS => ?_)
      obtain ⟨r12, hr12, hf⟩ := pr_bi hf
      refine pr_callVr (rest := []) (r := r12) ⟨hx, hb, hml, hown, hts⟩ 1 (prc_T_sameName hD hX 1 (Nat.le_refl _) σ x2 r11 r12 hr12) (prg_T_sameName hts prw_451 (by have := hh; omega)) hX hXs hK hP hS (by decide) rfl rfl rfl rfl hl.1 (Nat.le_of_ble_eq_true rfl) prd_Y_parametersHold_54 (fun H locs hP hS => ?_)
      refine lv_if_eq (tgt := 67) hx hb prd_Y_parametersHold_57 (by decide) (fun c13 => ?_) (fun c13 => ?_)
      · have hf := pr_it c13 hf
        refine lv_iinc (v := (x3 + 1)) (lv' := [(3, .int (x3 + 1)), (0, .ref (ad 6)), (1, .int x1), (2, .int x2)]) hx hb prd_Y_parametersHold_67 hl (k := 3) rfl rfl (by decide) rfl (fun ls hl => ?_)
        refine lv_goto (tgt := 32) hx hb prd_Y_parametersHold_70 (by decide) ?_
        exact ih σ x1 x2 (x3 + 1) _ hf _ _ _ hP hS (lv_sub hl [1, 2, 3, 0] rfl)
      · have hf := pr_ie c13 hf
        refine lv_aload_n hx hb prd_Y_parametersHold_60 rfl (lv_at hl 0 rfl) ?_
        refine lv_iconst (v := 2) hx hb prd_Y_parametersHold_61 (by decide) ?_
        refine lv_iload_n hx hb prd_Y_parametersHold_62 rfl (lv_at hl 2 rfl) ?_
        obtain ⟨r14, hr14, hf⟩ := pr_bi hf
        refine pr_callVi (rest := []) (res := r14) ⟨hx, hb, hml, hown, hts⟩ 6 (prc_Y_isWrong hD hX 1 (Nat.le_refl _) σ 2 x2 r14 hr14) (prg_Y_isWrong hts prw_410 (by have := hh; omega)) hX hXs hK hP hS (by decide) rfl rfl rfl rfl hl.1 (Nat.le_of_ble_eq_true rfl) prd_Y_parametersHold_63 (fun H locs hP hS => ?_)
        obtain ⟨hz15, hf⟩ := pr_z_in hf
        exact pr_retz E hz15 hP hS (pr_so hf) prd_Y_parametersHold_66
set_option maxHeartbeats 4000000 in
set_option maxRecDepth 100000 in
theorem prk_Y_parametersHold_2 {l : Launch} {D : va_G} {ad : Nat → Nat} {dA : Nat → ClassId} {A : Nat → Prop} {t : Nat} {p : Program} {e : Env} {s : State} {m : MethodId} {args : Array Value} {below : List Frame} {meth : Method} {c : Code} {h : Nat} (hh : 3 ≤ h) (E : pr_cx prn_Y prb_Y_parametersHold 4 (some .boolean) D pr_cl prc_L ad dA A (prX t A) p s m args meth c) : ∀ n : Nat, ∀ (σ : pr_St) (x1 : Int32) (res : (Int32 × pr_St)), some res = prf_Y_parametersHold_2 n σ x1 → ∀ (H : Heap) (locs : List Loc) (ls : Array Slot), va_P D pr_cl (pr_w prc_L ad dA σ) H → va_S A s.heap H locs → lv_has ls 4 [(0, .ref (ad 6)), (1, .int x1)] → W p l e (pr_rm h) s m args below meth c H locs 0 0 (MQ below (pr_Qi D pr_cl prc_L ad dA A res) args s 0 0 A) (F0 m 2 ls []) := by
  obtain ⟨hx, hb, hml, hown, hts, hr, hlocks, hK, hD, hX, hXs⟩ := id E
  intro n
  induction n with
  | zero =>
    intro σ x1 res hf
    rw [prf_Y_parametersHold_2] at hf
    cases hf
  | succ n ih =>
    intro σ x1 res hf H locs ls hP hS hl
    rw [prf_Y_parametersHold_2] at hf
    refine lv_iload_n hx hb prd_Y_parametersHold_2 rfl (lv_at hl 1 rfl) ?_
    refine lv_aload_n hx hb prd_Y_parametersHold_3 rfl (lv_at hl 0 rfl) ?_
    refine pr_getr (t := 2) hx hb hts prs_Y hown hK hP 6 1 (by decide) rfl (hts _ prw_337) rfl prd_Y_parametersHold_4 ?_
    refine lv_aload_n hx hb prd_Y_parametersHold_7 rfl (lv_at hl 0 rfl) ?_
    refine pr_geti (v := (σ.1 6 13)) hx hb hts prs_Y hown hK hP 6 13 (by decide) rfl (hts _ prw_465) rfl rfl prd_Y_parametersHold_8 ?_
    obtain ⟨r16, hr16, hf⟩ := pr_bi hf
    refine pr_callVr (rest := [.int x1]) (r := r16) ⟨hx, hb, hml, hown, hts⟩ 2 (prc_G_parametersOf hD hX 1 (Nat.le_refl _) σ (σ.1 6 13) r16 hr16) (prg_G_parametersOf hts prw_463 (by have := hh; omega)) hX hXs hK hP hS (by decide) rfl rfl rfl rfl hl.1 (Nat.le_of_ble_eq_true rfl) prd_Y_parametersHold_11 (fun H locs hP hS => ?_)
    refine lv_icmp_ge (tgt := 79) hx hb prd_Y_parametersHold_14 (by decide) (fun c17 => ?_) (fun c17 => ?_)
    · have hf := pr_it c17 hf
      refine lv_iconst (v := 1) hx hb prd_Y_parametersHold_79 (by decide) ?_
      exact pr_retz E (Or.inr rfl) hP hS (pr_so hf) prd_Y_parametersHold_80
    · have hf := pr_ie c17 hf
      refine lv_aload_n hx hb prd_Y_parametersHold_17 rfl (lv_at hl 0 rfl) ?_
      refine pr_getr (t := 2) hx hb hts prs_Y hown hK hP 6 1 (by decide) rfl (hts _ prw_337) rfl prd_Y_parametersHold_18 ?_
      refine lv_aload_n hx hb prd_Y_parametersHold_21 rfl (lv_at hl 0 rfl) ?_
      refine pr_geti (v := (σ.1 6 13)) hx hb hts prs_Y hown hK hP 6 13 (by decide) rfl (hts _ prw_465) rfl rfl prd_Y_parametersHold_22 ?_
      refine lv_iload_n hx hb prd_Y_parametersHold_25 rfl (lv_at hl 1 rfl) ?_
      obtain ⟨r18, hr18, hf⟩ := pr_bi hf
      refine pr_callVr (rest := []) (r := r18) ⟨hx, hb, hml, hown, hts⟩ 2 (prc_G_parameterToken hD hX 2 (Nat.le_refl _) σ (σ.1 6 13) x1 r18 hr18) (prg_G_parameterToken hts prw_511 (by have := hh; omega)) hX hXs hK hP hS (by decide) rfl rfl rfl rfl hl.1 (Nat.le_of_ble_eq_true rfl) prd_Y_parametersHold_26 (fun H locs hP hS => ?_)
      refine lv_istore_n (lv' := [(2, .int r18), (0, .ref (ad 6)), (1, .int x1)]) hx hb prd_Y_parametersHold_29 rfl hl (by decide) rfl (fun ls hl => ?_)
      refine lv_iconst (v := 0) hx hb prd_Y_parametersHold_30 (by decide) ?_
      refine lv_istore_n (lv' := [(3, .int 0), (2, .int r18), (0, .ref (ad 6)), (1, .int x1)]) hx hb prd_Y_parametersHold_31 rfl hl (by decide) rfl (fun ls hl => ?_)
      exact prk_Y_parametersHold_32 hh E ih pr_FU σ x1 r18 0 _ hf _ _ _ hP hS (lv_sub hl [2, 3, 1, 0] rfl)
set_option maxHeartbeats 4000000 in
set_option maxRecDepth 100000 in
theorem prc_Y_parametersHold {l : Launch} {D : va_G} {ad : Nat → Nat} {dA : Nat → ClassId} {A : Nat → Prop} {t : Nat} (hD : ∀ σ : pr_St, va_D A (pr_w prc_L ad dA σ)) (hX : pr_Xok A (prX t A)) (h : Nat) (hh : 3 ≤ h) (σ : pr_St)  (res : (Int32 × pr_St)) (hf : prf_Y_parametersHold σ  = some res) : Met l pry_Y_parametersHold (Cond.code pry_Y_parametersHold prb_Y_parametersHold 4 (some .boolean) :: pr_U) (pr_rm h) (pr_Pc (prX t A) D pr_cl prc_L ad dA [.ref (ad 6)] σ) (pr_Qi D pr_cl prc_L ad dA A res) 0 0 A := by
  refine pr_entry (cc := prb_Y_parametersHold) (maxL := 4) (ret := (some .boolean)) (by decide) (Nat.le_of_ble_eq_true rfl) hD hX ?_
  intro p e s m args below meth c E H locs hP hS ls hl
  have hl : lv_has ls 4 [(0, .ref (ad 6))] := hl
  have hf := hf.symm
  unfold prf_Y_parametersHold at hf
  obtain ⟨hx, hb, hml, hown, hts, hr, hlocks, hK, hD, hX, hXs⟩ := id E
  refine lv_iconst (v := 1) hx hb prd_Y_parametersHold_0 (by decide) ?_
  refine lv_istore_n (lv' := [(1, .int 1), (0, .ref (ad 6))]) hx hb prd_Y_parametersHold_1 rfl hl (by decide) rfl (fun ls hl => ?_)
  exact prk_Y_parametersHold_2 hh E pr_FU σ 1 _ hf _ _ _ hP hS (lv_sub hl [1, 0] rfl)
-- Y_thereIsRoom
set_option maxHeartbeats 4000000 in
set_option maxRecDepth 100000 in
theorem prk_Y_thereIsRoom_48 {l : Launch} {D : va_G} {ad : Nat → Nat} {dA : Nat → ClassId} {A : Nat → Prop} {t : Nat} {p : Program} {e : Env} {s : State} {m : MethodId} {args : Array Value} {below : List Frame} {meth : Method} {c : Code} {h : Nat} (hh : 2 ≤ h) (E : pr_cx prn_Y prb_Y_thereIsRoom 4 (some .boolean) D pr_cl prc_L ad dA A (prX t A) p s m args meth c) : ∀ (σ : pr_St) (x1 : Int32) (x2 : Int32) (res : (Int32 × pr_St)), some res = prf_Y_thereIsRoom_48 σ x1 x2 → ∀ (H : Heap) (locs : List Loc) (ls : Array Slot), va_P D pr_cl (pr_w prc_L ad dA σ) H → va_S A s.heap H locs → lv_has ls 4 [(0, .ref (ad 6)), (1, .int x1), (2, .int x2)] → W p l e (pr_rm h) s m args below meth c H locs 0 0 (MQ below (pr_Qi D pr_cl prc_L ad dA A res) args s 0 0 A) (F0 m 48 ls []) := by
  obtain ⟨hx, hb, hml, hown, hts, hr, hlocks, hK, hD, hX, hXs⟩ := id E
  intro σ x1 x2 res hf H locs ls hP hS hl
  unfold prf_Y_thereIsRoom_48 at hf
  refine lv_iload_n hx hb prd_Y_thereIsRoom_48 rfl (lv_at hl 1 rfl) ?_
  refine lv_iconst (v := 1) hx hb prd_Y_thereIsRoom_49 (by decide) ?_
  refine lv_icmp_ne (tgt := 57) hx hb prd_Y_thereIsRoom_50 (by decide) (fun c18 => ?_) (fun c18 => ?_)
  · have hf := pr_ie c18 hf
    refine lv_aload_n hx hb prd_Y_thereIsRoom_57 rfl (lv_at hl 0 rfl) ?_
    refine pr_getr (t := 2) hx hb hts prs_Y hown hK hP 6 1 (by decide) rfl (hts _ prw_337) rfl prd_Y_thereIsRoom_58 ?_
    refine lv_aload_n hx hb prd_Y_thereIsRoom_61 rfl (lv_at hl 0 rfl) ?_
    refine pr_geti (v := (σ.1 6 13)) hx hb hts prs_Y hown hK hP 6 13 (by decide) rfl (hts _ prw_465) rfl rfl prd_Y_thereIsRoom_62 ?_
    obtain ⟨r19, hr19, hf⟩ := pr_bi hf
    refine pr_callVr (rest := []) (r := r19) ⟨hx, hb, hml, hown, hts⟩ 2 (prc_G_parametersOf hD hX 1 (Nat.le_refl _) σ (σ.1 6 13) r19 hr19) (prg_G_parametersOf hts prw_463 (by have := hh; omega)) hX hXs hK hP hS (by decide) rfl rfl rfl rfl hl.1 (Nat.le_of_ble_eq_true rfl) prd_Y_thereIsRoom_65 (fun H locs hP hS => ?_)
    refine lv_istore_n (lv' := [(3, .int r19), (0, .ref (ad 6)), (1, .int x1), (2, .int x2)]) hx hb prd_Y_thereIsRoom_68 rfl hl (by decide) rfl (fun ls hl => ?_)
    refine lv_aload_n hx hb prd_Y_thereIsRoom_69 rfl (lv_at hl 1 rfl) ?_
    refine pr_getr (t := 5) hx hb hts prs_Y hown hK hP 6 3 (by decide) rfl (hts _ prw_372) rfl prd_Y_thereIsRoom_70 ?_
    obtain ⟨r20, hr20, hf⟩ := pr_bi hf
    refine pr_callVr (rest := []) (r := r20) ⟨hx, hb, hml, hown, hts⟩ 5 (prc_S_numbers hD hX 0 (Nat.le_refl _) σ  r20 hr20) (prg_S_numbers hts prw_522 (by have := hh; omega)) hX hXs hK hP hS (by decide) rfl rfl rfl rfl hl.1 (Nat.le_of_ble_eq_true rfl) prd_Y_thereIsRoom_73 (fun H locs hP hS => ?_)
    refine lv_iload_n hx hb prd_Y_thereIsRoom_76 rfl (lv_at hl 0 rfl) ?_
    refine lv_iadd hx hb prd_Y_thereIsRoom_77 ?_
    refine lv_bipush (v := 12) hx hb prd_Y_thereIsRoom_78 (by decide) ?_
    refine lv_icmp_le (tgt := 93) hx hb prd_Y_thereIsRoom_80 (by decide) (fun c21 => ?_) (fun c21 => ?_)
    · have hf := pr_it c21 hf
      refine lv_iconst (v := 1) hx hb prd_Y_thereIsRoom_93 (by decide) ?_
      refine lv_goto (tgt := 98) hx hb prd_Y_thereIsRoom_94 (by decide) ?_
      exact pr_retz E (Or.inr rfl) hP hS (pr_so hf) prd_Y_thereIsRoom_98
    · have hf := pr_ie c21 hf
      refine lv_aload_n hx hb prd_Y_thereIsRoom_83 rfl (lv_at hl 1 rfl) ?_
      refine lv_bipush (v := 10) hx hb prd_Y_thereIsRoom_84 (by decide) ?_
      refine lv_iload_n hx hb prd_Y_thereIsRoom_86 rfl (lv_at hl 3 rfl) ?_
      obtain ⟨r22, hr22, hf⟩ := pr_bi hf
      refine pr_callVi (rest := []) (res := r22) ⟨hx, hb, hml, hown, hts⟩ 6 (prc_Y_isWrong hD hX 1 (Nat.le_refl _) σ 10 x2 r22 hr22) (prg_Y_isWrong hts prw_410 (by have := hh; omega)) hX hXs hK hP hS (by decide) rfl rfl rfl rfl hl.1 (Nat.le_of_ble_eq_true rfl) prd_Y_thereIsRoom_87 (fun H locs hP hS => ?_)
      refine lv_if_eq (tgt := 97) hx hb prd_Y_thereIsRoom_90 (by decide) (fun c23 => ?_) (fun c23 => ?_)
      · have hf := pr_it c23 hf
        refine lv_iconst (v := 0) hx hb prd_Y_thereIsRoom_97 (by decide) ?_
        exact pr_retz E (Or.inl rfl) hP hS (pr_so hf) prd_Y_thereIsRoom_98
      · have hf := pr_ie c23 hf
        refine lv_iconst (v := 1) hx hb prd_Y_thereIsRoom_93 (by decide) ?_
        refine lv_goto (tgt := 98) hx hb prd_Y_thereIsRoom_94 (by decide) ?_
        exact pr_retz E (Or.inr rfl) hP hS (pr_so hf) prd_Y_thereIsRoom_98
  · have hf := pr_it c18 hf
    refine lv_iconst (v := 1) hx hb prd_Y_thereIsRoom_53 (by decide) ?_
    refine lv_goto (tgt := 68) hx hb prd_Y_thereIsRoom_54 (by decide) ?_
    refine lv_istore_n (lv' := [(3, .int 1), (0, .ref (ad 6)), (1, .int x1), (2, .int x2)]) hx hb prd_Y_thereIsRoom_68 rfl hl (by decide) rfl (fun ls hl => ?_)
    refine lv_aload_n hx hb prd_Y_thereIsRoom_69 rfl (lv_at hl 1 rfl) ?_
    refine pr_getr (t := 5) hx hb hts prs_Y hown hK hP 6 3 (by decide) rfl (hts _ prw_372) rfl prd_Y_thereIsRoom_70 ?_
    obtain ⟨r24, hr24, hf⟩ := pr_bi hf
    refine pr_callVr (rest := []) (r := r24) ⟨hx, hb, hml, hown, hts⟩ 5 (prc_S_numbers hD hX 0 (Nat.le_refl _) σ  r24 hr24) (prg_S_numbers hts prw_522 (by have := hh; omega)) hX hXs hK hP hS (by decide) rfl rfl rfl rfl hl.1 (Nat.le_of_ble_eq_true rfl) prd_Y_thereIsRoom_73 (fun H locs hP hS => ?_)
    refine lv_iload_n hx hb prd_Y_thereIsRoom_76 rfl (lv_at hl 0 rfl) ?_
    refine lv_iadd hx hb prd_Y_thereIsRoom_77 ?_
    refine lv_bipush (v := 12) hx hb prd_Y_thereIsRoom_78 (by decide) ?_
    refine lv_icmp_le (tgt := 93) hx hb prd_Y_thereIsRoom_80 (by decide) (fun c25 => ?_) (fun c25 => ?_)
    · have hf := pr_it c25 hf
      refine lv_iconst (v := 1) hx hb prd_Y_thereIsRoom_93 (by decide) ?_
      refine lv_goto (tgt := 98) hx hb prd_Y_thereIsRoom_94 (by decide) ?_
      exact pr_retz E (Or.inr rfl) hP hS (pr_so hf) prd_Y_thereIsRoom_98
    · have hf := pr_ie c25 hf
      refine lv_aload_n hx hb prd_Y_thereIsRoom_83 rfl (lv_at hl 1 rfl) ?_
      refine lv_bipush (v := 10) hx hb prd_Y_thereIsRoom_84 (by decide) ?_
      refine lv_iload_n hx hb prd_Y_thereIsRoom_86 rfl (lv_at hl 3 rfl) ?_
      obtain ⟨r26, hr26, hf⟩ := pr_bi hf
      refine pr_callVi (rest := []) (res := r26) ⟨hx, hb, hml, hown, hts⟩ 6 (prc_Y_isWrong hD hX 1 (Nat.le_refl _) σ 10 x2 r26 hr26) (prg_Y_isWrong hts prw_410 (by have := hh; omega)) hX hXs hK hP hS (by decide) rfl rfl rfl rfl hl.1 (Nat.le_of_ble_eq_true rfl) prd_Y_thereIsRoom_87 (fun H locs hP hS => ?_)
      refine lv_if_eq (tgt := 97) hx hb prd_Y_thereIsRoom_90 (by decide) (fun c27 => ?_) (fun c27 => ?_)
      · have hf := pr_it c27 hf
        refine lv_iconst (v := 0) hx hb prd_Y_thereIsRoom_97 (by decide) ?_
        exact pr_retz E (Or.inl rfl) hP hS (pr_so hf) prd_Y_thereIsRoom_98
      · have hf := pr_ie c27 hf
        refine lv_iconst (v := 1) hx hb prd_Y_thereIsRoom_93 (by decide) ?_
        refine lv_goto (tgt := 98) hx hb prd_Y_thereIsRoom_94 (by decide) ?_
        exact pr_retz E (Or.inr rfl) hP hS (pr_so hf) prd_Y_thereIsRoom_98
set_option maxHeartbeats 4000000 in
set_option maxRecDepth 100000 in
theorem prc_Y_thereIsRoom {l : Launch} {D : va_G} {ad : Nat → Nat} {dA : Nat → ClassId} {A : Nat → Prop} {t : Nat} (hD : ∀ σ : pr_St, va_D A (pr_w prc_L ad dA σ)) (hX : pr_Xok A (prX t A)) (h : Nat) (hh : 2 ≤ h) (σ : pr_St) (x1 : Int32) (x2 : Int32) (res : (Int32 × pr_St)) (hf : prf_Y_thereIsRoom σ x1 x2 = some res) : Met l pry_Y_thereIsRoom (Cond.code pry_Y_thereIsRoom prb_Y_thereIsRoom 4 (some .boolean) :: pr_U) (pr_rm h) (pr_Pc (prX t A) D pr_cl prc_L ad dA [.ref (ad 6), .int x1, .int x2] σ) (pr_Qi D pr_cl prc_L ad dA A res) 0 0 A := by
  refine pr_entry (cc := prb_Y_thereIsRoom) (maxL := 4) (ret := (some .boolean)) (by decide) (Nat.le_of_ble_eq_true rfl) hD hX ?_
  intro p e s m args below meth c E H locs hP hS ls hl
  have hl : lv_has ls 4 [(0, .ref (ad 6)), (1, .int x1), (2, .int x2)] := hl
  have hf := hf.symm
  unfold prf_Y_thereIsRoom at hf
  obtain ⟨hx, hb, hml, hown, hts, hr, hlocks, hK, hD, hX, hXs⟩ := id E
  refine lv_iload_n hx hb prd_Y_thereIsRoom_0 rfl (lv_at hl 1 rfl) ?_
  refine lv_iconst (v := 1) hx hb prd_Y_thereIsRoom_1 (by decide) ?_
  refine lv_icmp_ne (tgt := 48) hx hb prd_Y_thereIsRoom_2 (by decide) (fun c28 => ?_) (fun c28 => ?_)
  · have hf := pr_ie c28 hf
    exact prk_Y_thereIsRoom_48 hh E σ x1 x2 _ hf _ _ _ hP hS (lv_sub hl [0, 1, 2] rfl)
  · have hf := pr_it c28 hf
    refine lv_aload_n hx hb prd_Y_thereIsRoom_5 rfl (lv_at hl 0 rfl) ?_
    refine pr_getr (t := 1) hx hb hts prs_Y hown hK hP 6 0 (by decide) rfl (hts _ prw_310) rfl prd_Y_thereIsRoom_6 ?_
    refine lv_iload_n hx hb prd_Y_thereIsRoom_9 rfl (lv_at hl 2 rfl) ?_
    refine lv_iconst (v := 2) hx hb prd_Y_thereIsRoom_10 (by decide) ?_
    refine lv_iadd hx hb prd_Y_thereIsRoom_11 ?_
    obtain ⟨r29, hr29, hf⟩ := pr_bi hf
    refine pr_callVr (rest := []) (r := r29) ⟨hx, hb, hml, hown, hts⟩ 1 (prc_T_kindAt hD hX 0 (Nat.le_refl _) σ (x2 + 2) r29 hr29) (prg_T_kindAt hts prw_438 (by have := hh; omega)) hX hXs hK hP hS (by decide) rfl rfl rfl rfl hl.1 (Nat.le_of_ble_eq_true rfl) prd_Y_thereIsRoom_12 (fun H locs hP hS => ?_)
    refine lv_bipush (v := 16) hx hb prd_Y_thereIsRoom_15 (by decide) ?_
    refine lv_icmp_ne (tgt := 48) hx hb prd_Y_thereIsRoom_17 (by decide) (fun c30 => ?_) (fun c30 => ?_)
    · have hf := pr_ie c30 hf
      exact prk_Y_thereIsRoom_48 hh E σ x1 x2 _ hf _ _ _ hP hS (lv_sub hl [0, 1, 2] rfl)
    · have hf := pr_it c30 hf
      refine lv_aload_n hx hb prd_Y_thereIsRoom_20 rfl (lv_at hl 0 rfl) ?_
      refine pr_getr (t := 5) hx hb hts prs_Y hown hK hP 6 3 (by decide) rfl (hts _ prw_372) rfl prd_Y_thereIsRoom_21 ?_
      obtain ⟨r31, hr31, hf⟩ := pr_bi hf
      refine pr_callVr (rest := []) (r := r31) ⟨hx, hb, hml, hown, hts⟩ 5 (prc_S_arrays hD hX 0 (Nat.le_refl _) σ  r31 hr31) (prg_S_arrays hts prw_521 (by have := hh; omega)) hX hXs hK hP hS (by decide) rfl rfl rfl rfl hl.1 (Nat.le_of_ble_eq_true rfl) prd_Y_thereIsRoom_24 (fun H locs hP hS => ?_)
      refine lv_bipush (v := 6) hx hb prd_Y_thereIsRoom_27 (by decide) ?_
      refine lv_icmp_lt (tgt := 42) hx hb prd_Y_thereIsRoom_29 (by decide) (fun c32 => ?_) (fun c32 => ?_)
      · have hf := pr_it c32 hf
        refine lv_iconst (v := 1) hx hb prd_Y_thereIsRoom_42 (by decide) ?_
        refine lv_goto (tgt := 47) hx hb prd_Y_thereIsRoom_43 (by decide) ?_
        exact pr_retz E (Or.inr rfl) hP hS (pr_so hf) prd_Y_thereIsRoom_47
      · have hf := pr_ie c32 hf
        refine lv_aload_n hx hb prd_Y_thereIsRoom_32 rfl (lv_at hl 0 rfl) ?_
        refine lv_bipush (v := 13) hx hb prd_Y_thereIsRoom_33 (by decide) ?_
        refine lv_iload_n hx hb prd_Y_thereIsRoom_35 rfl (lv_at hl 2 rfl) ?_
        obtain ⟨r33, hr33, hf⟩ := pr_bi hf
        refine pr_callVi (rest := []) (res := r33) ⟨hx, hb, hml, hown, hts⟩ 6 (prc_Y_isWrong hD hX 1 (Nat.le_refl _) σ 13 x2 r33 hr33) (prg_Y_isWrong hts prw_410 (by have := hh; omega)) hX hXs hK hP hS (by decide) rfl rfl rfl rfl hl.1 (Nat.le_of_ble_eq_true rfl) prd_Y_thereIsRoom_36 (fun H locs hP hS => ?_)
        refine lv_if_eq (tgt := 46) hx hb prd_Y_thereIsRoom_39 (by decide) (fun c34 => ?_) (fun c34 => ?_)
        · have hf := pr_it c34 hf
          refine lv_iconst (v := 0) hx hb prd_Y_thereIsRoom_46 (by decide) ?_
          exact pr_retz E (Or.inl rfl) hP hS (pr_so hf) prd_Y_thereIsRoom_47
        · have hf := pr_ie c34 hf
          refine lv_iconst (v := 1) hx hb prd_Y_thereIsRoom_42 (by decide) ?_
          refine lv_goto (tgt := 47) hx hb prd_Y_thereIsRoom_43 (by decide) ?_
          exact pr_retz E (Or.inr rfl) hP hS (pr_so hf) prd_Y_thereIsRoom_47
-- Y_holds
set_option maxHeartbeats 4000000 in
set_option maxRecDepth 100000 in
theorem prk_Y_holds_82 {l : Launch} {D : va_G} {ad : Nat → Nat} {dA : Nat → ClassId} {A : Nat → Prop} {t : Nat} {p : Program} {e : Env} {s : State} {m : MethodId} {args : Array Value} {below : List Frame} {meth : Method} {c : Code} {h : Nat} (hh : 5 ≤ h) (E : pr_cx prn_Y prb_Y_holds 5 (some .boolean) D pr_cl prc_L ad dA A (prX t A) p s m args meth c) : ∀ (σ : pr_St) (x1 : Int32) (x2 : Int32) (x3 : Int32) (res : (Int32 × pr_St)), some res = prf_Y_holds_82 σ x1 x2 x3 → ∀ (H : Heap) (locs : List Loc) (ls : Array Slot), va_P D pr_cl (pr_w prc_L ad dA σ) H → va_S A s.heap H locs → lv_has ls 5 [(0, .ref (ad 6)), (1, .int x1), (2, .int x2), (3, .int x3)] → W p l e (pr_rm h) s m args below meth c H locs 0 0 (MQ below (pr_Qi D pr_cl prc_L ad dA A res) args s 0 0 A) (F0 m 82 ls []) := by
  obtain ⟨hx, hb, hml, hown, hts, hr, hlocks, hK, hD, hX, hXs⟩ := id E
  intro σ x1 x2 x3 res hf H locs ls hP hS hl
  unfold prf_Y_holds_82 at hf
  refine lv_iload_n hx hb prd_Y_holds_82 rfl (lv_at hl 2 rfl) ?_
  refine lv_iconst (v := 1) hx hb prd_Y_holds_83 (by decide) ?_
  refine lv_icmp_ne (tgt := 93) hx hb prd_Y_holds_84 (by decide) (fun c27 => ?_) (fun c27 => ?_)
  · have hf := pr_ie c27 hf
    refine lv_iload_n hx hb prd_Y_holds_93 rfl (lv_at hl 3 rfl) ?_
    refine lv_istore (lv' := [(4, .int x3), (0, .ref (ad 6)), (1, .int x1), (2, .int x2), (3, .int x3)]) hx hb prd_Y_holds_94 hl (by decide) rfl (fun ls hl => ?_)
    refine lv_aload_n hx hb prd_Y_holds_96 rfl (lv_at hl 1 rfl) ?_
    refine lv_iload_n hx hb prd_Y_holds_97 rfl (lv_at hl 2 rfl) ?_
    refine lv_iload hx hb prd_Y_holds_98 (lv_at hl 0 rfl) ?_
    obtain ⟨r28, hr28, hf⟩ := pr_bi hf
    refine pr_callVi (rest := []) (res := r28) ⟨hx, hb, hml, hown, hts⟩ 6 (prc_Y_tokensHold hD hX 4 (Nat.le_refl _) σ x1 x3 r28 hr28) (prg_Y_tokensHold hts prw_531 (by have := hh; omega)) hX hXs hK hP hS (by decide) rfl rfl rfl rfl hl.1 (Nat.le_of_ble_eq_true rfl) prd_Y_holds_100 (fun H locs hP hS => ?_)
    refine lv_if_eq (tgt := 126) hx hb prd_Y_holds_103 (by decide) (fun c29 => ?_) (fun c29 => ?_)
    · have hf := pr_it c29 hf
      refine lv_iconst (v := 0) hx hb prd_Y_holds_126 (by decide) ?_
      exact pr_retz E (Or.inl rfl) hP hS (pr_so hf) prd_Y_holds_127
    · have hf := pr_ie c29 hf
      refine lv_aload_n hx hb prd_Y_holds_106 rfl (lv_at hl 1 rfl) ?_
      obtain ⟨r30, hr30, hf⟩ := pr_bi hf
      refine pr_callVi (rest := []) (res := r30) ⟨hx, hb, hml, hown, hts⟩ 6 (prc_Y_parametersHold hD hX 3 (Nat.le_refl _) r28.2  r30 hr30) (prg_Y_parametersHold hts prw_532 (by have := hh; omega)) hX hXs hK hP hS (by decide) rfl rfl rfl rfl hl.1 (Nat.le_of_ble_eq_true rfl) prd_Y_holds_107 (fun H locs hP hS => ?_)
      refine lv_if_eq (tgt := 126) hx hb prd_Y_holds_110 (by decide) (fun c31 => ?_) (fun c31 => ?_)
      · have hf := pr_it c31 hf
        refine lv_iconst (v := 0) hx hb prd_Y_holds_126 (by decide) ?_
        exact pr_retz E (Or.inl rfl) hP hS (pr_so hf) prd_Y_holds_127
      · have hf := pr_ie c31 hf
        refine lv_aload_n hx hb prd_Y_holds_113 rfl (lv_at hl 1 rfl) ?_
        refine lv_iload_n hx hb prd_Y_holds_114 rfl (lv_at hl 3 rfl) ?_
        refine lv_iload_n hx hb prd_Y_holds_115 rfl (lv_at hl 4 rfl) ?_
        obtain ⟨r32, hr32, hf⟩ := pr_bi hf
        refine pr_callVi (rest := []) (res := r32) ⟨hx, hb, hml, hown, hts⟩ 6 (prc_Y_thereIsRoom hD hX 2 (Nat.le_refl _) r30.2 x2 x3 r32 hr32) (prg_Y_thereIsRoom hts prw_533 (by have := hh; omega)) hX hXs hK hP hS (by decide) rfl rfl rfl rfl hl.1 (Nat.le_of_ble_eq_true rfl) prd_Y_holds_116 (fun H locs hP hS => ?_)
        refine lv_if_eq (tgt := 126) hx hb prd_Y_holds_119 (by decide) (fun c33 => ?_) (fun c33 => ?_)
        · have hf := pr_it c33 hf
          refine lv_iconst (v := 0) hx hb prd_Y_holds_126 (by decide) ?_
          exact pr_retz E (Or.inl rfl) hP hS (pr_so hf) prd_Y_holds_127
        · have hf := pr_ie c33 hf
          refine lv_iconst (v := 1) hx hb prd_Y_holds_122 (by decide) ?_
          refine lv_goto (tgt := 127) hx hb prd_Y_holds_123 (by decide) ?_
          exact pr_retz E (Or.inr rfl) hP hS (pr_so hf) prd_Y_holds_127
  · have hf := pr_it c27 hf
    refine lv_iload_n hx hb prd_Y_holds_87 rfl (lv_at hl 3 rfl) ?_
    refine lv_iconst (v := 2) hx hb prd_Y_holds_88 (by decide) ?_
    refine lv_iadd hx hb prd_Y_holds_89 ?_
    refine lv_goto (tgt := 94) hx hb prd_Y_holds_90 (by decide) ?_
    refine lv_istore (lv' := [(4, .int (x3 + 2)), (0, .ref (ad 6)), (1, .int x1), (2, .int x2), (3, .int x3)]) hx hb prd_Y_holds_94 hl (by decide) rfl (fun ls hl => ?_)
    refine lv_aload_n hx hb prd_Y_holds_96 rfl (lv_at hl 1 rfl) ?_
    refine lv_iload_n hx hb prd_Y_holds_97 rfl (lv_at hl 2 rfl) ?_
    refine lv_iload hx hb prd_Y_holds_98 (lv_at hl 0 rfl) ?_
    obtain ⟨r34, hr34, hf⟩ := pr_bi hf
    refine pr_callVi (rest := []) (res := r34) ⟨hx, hb, hml, hown, hts⟩ 6 (prc_Y_tokensHold hD hX 4 (Nat.le_refl _) σ x1 (x3 + 2) r34 hr34) (prg_Y_tokensHold hts prw_531 (by have := hh; omega)) hX hXs hK hP hS (by decide) rfl rfl rfl rfl hl.1 (Nat.le_of_ble_eq_true rfl) prd_Y_holds_100 (fun H locs hP hS => ?_)
    refine lv_if_eq (tgt := 126) hx hb prd_Y_holds_103 (by decide) (fun c35 => ?_) (fun c35 => ?_)
    · have hf := pr_it c35 hf
      refine lv_iconst (v := 0) hx hb prd_Y_holds_126 (by decide) ?_
      exact pr_retz E (Or.inl rfl) hP hS (pr_so hf) prd_Y_holds_127
    · have hf := pr_ie c35 hf
      refine lv_aload_n hx hb prd_Y_holds_106 rfl (lv_at hl 1 rfl) ?_
      obtain ⟨r36, hr36, hf⟩ := pr_bi hf
      refine pr_callVi (rest := []) (res := r36) ⟨hx, hb, hml, hown, hts⟩ 6 (prc_Y_parametersHold hD hX 3 (Nat.le_refl _) r34.2  r36 hr36) (prg_Y_parametersHold hts prw_532 (by have := hh; omega)) hX hXs hK hP hS (by decide) rfl rfl rfl rfl hl.1 (Nat.le_of_ble_eq_true rfl) prd_Y_holds_107 (fun H locs hP hS => ?_)
      refine lv_if_eq (tgt := 126) hx hb prd_Y_holds_110 (by decide) (fun c37 => ?_) (fun c37 => ?_)
      · have hf := pr_it c37 hf
        refine lv_iconst (v := 0) hx hb prd_Y_holds_126 (by decide) ?_
        exact pr_retz E (Or.inl rfl) hP hS (pr_so hf) prd_Y_holds_127
      · have hf := pr_ie c37 hf
        refine lv_aload_n hx hb prd_Y_holds_113 rfl (lv_at hl 1 rfl) ?_
        refine lv_iload_n hx hb prd_Y_holds_114 rfl (lv_at hl 3 rfl) ?_
        refine lv_iload_n hx hb prd_Y_holds_115 rfl (lv_at hl 4 rfl) ?_
        obtain ⟨r38, hr38, hf⟩ := pr_bi hf
        refine pr_callVi (rest := []) (res := r38) ⟨hx, hb, hml, hown, hts⟩ 6 (prc_Y_thereIsRoom hD hX 2 (Nat.le_refl _) r36.2 x2 x3 r38 hr38) (prg_Y_thereIsRoom hts prw_533 (by have := hh; omega)) hX hXs hK hP hS (by decide) rfl rfl rfl rfl hl.1 (Nat.le_of_ble_eq_true rfl) prd_Y_holds_116 (fun H locs hP hS => ?_)
        refine lv_if_eq (tgt := 126) hx hb prd_Y_holds_119 (by decide) (fun c39 => ?_) (fun c39 => ?_)
        · have hf := pr_it c39 hf
          refine lv_iconst (v := 0) hx hb prd_Y_holds_126 (by decide) ?_
          exact pr_retz E (Or.inl rfl) hP hS (pr_so hf) prd_Y_holds_127
        · have hf := pr_ie c39 hf
          refine lv_iconst (v := 1) hx hb prd_Y_holds_122 (by decide) ?_
          refine lv_goto (tgt := 127) hx hb prd_Y_holds_123 (by decide) ?_
          exact pr_retz E (Or.inr rfl) hP hS (pr_so hf) prd_Y_holds_127
set_option maxHeartbeats 4000000 in
set_option maxRecDepth 100000 in
theorem prk_Y_holds_67 {l : Launch} {D : va_G} {ad : Nat → Nat} {dA : Nat → ClassId} {A : Nat → Prop} {t : Nat} {p : Program} {e : Env} {s : State} {m : MethodId} {args : Array Value} {below : List Frame} {meth : Method} {c : Code} {h : Nat} (hh : 5 ≤ h) (E : pr_cx prn_Y prb_Y_holds 5 (some .boolean) D pr_cl prc_L ad dA A (prX t A) p s m args meth c) : ∀ (σ : pr_St) (x1 : Int32) (x2 : Int32) (x3 : Int32) (res : (Int32 × pr_St)), some res = prf_Y_holds_67 σ x1 x2 x3 → ∀ (H : Heap) (locs : List Loc) (ls : Array Slot), va_P D pr_cl (pr_w prc_L ad dA σ) H → va_S A s.heap H locs → lv_has ls 5 [(0, .ref (ad 6)), (1, .int x1), (2, .int x2), (3, .int x3)] → W p l e (pr_rm h) s m args below meth c H locs 0 0 (MQ below (pr_Qi D pr_cl prc_L ad dA A res) args s 0 0 A) (F0 m 67 ls []) := by
  obtain ⟨hx, hb, hml, hown, hts, hr, hlocks, hK, hD, hX, hXs⟩ := id E
  intro σ x1 x2 x3 res hf H locs ls hP hS hl
  unfold prf_Y_holds_67 at hf
  refine lv_iload_n hx hb prd_Y_holds_67 rfl (lv_at hl 2 rfl) ?_
  refine lv_iconst (v := 1) hx hb prd_Y_holds_68 (by decide) ?_
  refine lv_icmp_ne (tgt := 82) hx hb prd_Y_holds_69 (by decide) (fun c40 => ?_) (fun c40 => ?_)
  · have hf := pr_ie c40 hf
    exact prk_Y_holds_82 hh E σ x1 x2 x3 _ hf _ _ _ hP hS (lv_sub hl [0, 1, 2, 3] rfl)
  · have hf := pr_it c40 hf
    refine lv_aload_n hx hb prd_Y_holds_72 rfl (lv_at hl 0 rfl) ?_
    refine lv_iload_n hx hb prd_Y_holds_73 rfl (lv_at hl 3 rfl) ?_
    obtain ⟨r41, hr41, hf⟩ := pr_bi hf
    refine pr_callVi (rest := []) (res := r41) ⟨hx, hb, hml, hown, hts⟩ 6 (prc_Y_varHolds hD hX 3 (Nat.le_refl _) σ x3 r41 hr41) (prg_Y_varHolds hts prw_530 (by have := hh; omega)) hX hXs hK hP hS (by decide) rfl rfl rfl rfl hl.1 (Nat.le_of_ble_eq_true rfl) prd_Y_holds_74 (fun H locs hP hS => ?_)
    refine lv_if_ne (tgt := 82) hx hb prd_Y_holds_77 (by decide) (fun c42 => ?_) (fun c42 => ?_)
    · have hf := pr_ie c42 hf
      exact prk_Y_holds_82 hh E r41.2 x1 x2 x3 _ hf _ _ _ hP hS (lv_sub hl [0, 1, 2, 3] rfl)
    · have hf := pr_it c42 hf
      refine lv_iconst (v := 0) hx hb prd_Y_holds_80 (by decide) ?_
      exact pr_retz E (Or.inl rfl) hP hS (pr_so hf) prd_Y_holds_81
set_option maxHeartbeats 4000000 in
set_option maxRecDepth 100000 in
theorem prc_Y_holds {l : Launch} {D : va_G} {ad : Nat → Nat} {dA : Nat → ClassId} {A : Nat → Prop} {t : Nat} (hD : ∀ σ : pr_St, va_D A (pr_w prc_L ad dA σ)) (hX : pr_Xok A (prX t A)) (h : Nat) (hh : 5 ≤ h) (σ : pr_St) (x1 : Int32) (res : (Int32 × pr_St)) (hf : prf_Y_holds σ x1 = some res) : Met l pry_Y_holds (Cond.code pry_Y_holds prb_Y_holds 5 (some .boolean) :: pr_U) (pr_rm h) (pr_Pc (prX t A) D pr_cl prc_L ad dA [.ref (ad 6), .int x1] σ) (pr_Qi D pr_cl prc_L ad dA A res) 0 0 A := by
  refine pr_entry (cc := prb_Y_holds) (maxL := 5) (ret := (some .boolean)) (by decide) (Nat.le_of_ble_eq_true rfl) hD hX ?_
  intro p e s m args below meth c E H locs hP hS ls hl
  have hl : lv_has ls 5 [(0, .ref (ad 6)), (1, .int x1)] := hl
  have hf := hf.symm
  unfold prf_Y_holds at hf
  obtain ⟨hx, hb, hml, hown, hts, hr, hlocks, hK, hD, hX, hXs⟩ := id E
  refine lv_aload_n hx hb prd_Y_holds_0 rfl (lv_at hl 0 rfl) ?_
  refine pr_getr (t := 2) hx hb hts prs_Y hown hK hP 6 1 (by decide) rfl (hts _ prw_337) rfl prd_Y_holds_1 ?_
  refine lv_iload_n hx hb prd_Y_holds_4 rfl (lv_at hl 1 rfl) ?_
  obtain ⟨r43, hr43, hf⟩ := pr_bi hf
  refine pr_callVr (rest := []) (r := r43) ⟨hx, hb, hml, hown, hts⟩ 2 (prc_G_kindOf hD hX 1 (Nat.le_refl _) σ x1 r43 hr43) (prg_G_kindOf hts prw_526 (by have := hh; omega)) hX hXs hK hP hS (by decide) rfl rfl rfl rfl hl.1 (Nat.le_of_ble_eq_true rfl) prd_Y_holds_5 (fun H locs hP hS => ?_)
  refine lv_istore_n (lv' := [(2, .int r43), (0, .ref (ad 6)), (1, .int x1)]) hx hb prd_Y_holds_8 rfl hl (by decide) rfl (fun ls hl => ?_)
  refine lv_aload_n hx hb prd_Y_holds_9 rfl (lv_at hl 1 rfl) ?_
  refine pr_getr (t := 2) hx hb hts prs_Y hown hK hP 6 1 (by decide) rfl (hts _ prw_337) rfl prd_Y_holds_10 ?_
  refine lv_iload_n hx hb prd_Y_holds_13 rfl (lv_at hl 2 rfl) ?_
  obtain ⟨r44, hr44, hf⟩ := pr_bi hf
  refine pr_callVr (rest := []) (r := r44) ⟨hx, hb, hml, hown, hts⟩ 2 (prc_G_firstTokenOf hD hX 1 (Nat.le_refl _) σ x1 r44 hr44) (prg_G_firstTokenOf hts prw_464 (by have := hh; omega)) hX hXs hK hP hS (by decide) rfl rfl rfl rfl hl.1 (Nat.le_of_ble_eq_true rfl) prd_Y_holds_14 (fun H locs hP hS => ?_)
  refine lv_istore_n (lv' := [(3, .int r44), (2, .int r43), (0, .ref (ad 6)), (1, .int x1)]) hx hb prd_Y_holds_17 rfl hl (by decide) rfl (fun ls hl => ?_)
  refine lv_aload_n hx hb prd_Y_holds_18 rfl (lv_at hl 2 rfl) ?_
  refine pr_getr (t := 4) hx hb hts prs_Y hown hK hP 6 2 (by decide) rfl (hts _ prw_332) rfl prd_Y_holds_19 ?_
  obtain ⟨r45, hr45, hf⟩ := pr_bi hf
  refine pr_callVr (rest := []) (r := r45) ⟨hx, hb, hml, hown, hts⟩ 4 (prc_O_count hD hX 0 (Nat.le_refl _) σ  r45 hr45) (prg_O_count hts prw_527 (by have := hh; omega)) hX hXs hK hP hS (by decide) rfl rfl rfl rfl hl.1 (Nat.le_of_ble_eq_true rfl) prd_Y_holds_22 (fun H locs hP hS => ?_)
  refine lv_iconst (v := 2) hx hb prd_Y_holds_25 (by decide) ?_
  refine lv_iadd hx hb prd_Y_holds_26 ?_
  refine lv_sipush (v := 250) hx hb prd_Y_holds_27 (by decide) ?_
  refine lv_icmp_le (tgt := 41) hx hb prd_Y_holds_30 (by decide) (fun c46 => ?_) (fun c46 => ?_)
  · have hf := pr_it c46 hf
    refine lv_aload_n hx hb prd_Y_holds_41 rfl (lv_at hl 2 rfl) ?_
    refine lv_iconst (v := (-1)) hx hb prd_Y_holds_42 (by decide) ?_
    refine pr_puti (ty := .int) hx hb hts prs_Y prq_Y prtt_Y prtn_Y hown hK hP (hD _) hS 6 13 (by decide) rfl (hts _ prw_465) rfl rfl (prtt_Y 13 (by decide)) rfl rfl prd_Y_holds_43 (fun H locs hP hS => ?_)
    refine lv_aload_n hx hb prd_Y_holds_46 rfl (lv_at hl 2 rfl) ?_
    obtain ⟨r47, hr47, hf⟩ := pr_bi hf
    refine pr_callVv (rest := []) (res := r47) ⟨hx, hb, hml, hown, hts⟩ 6 (prc_Y_findForeign hD hX 2 (Nat.le_refl _) (pr_sI σ 6 13 (-1))  r47 hr47) (prg_Y_findForeign hts prw_528 (by have := hh; omega)) hX hXs hK hP hS (by decide) rfl rfl rfl rfl hl.1 (Nat.le_of_ble_eq_true rfl) prd_Y_holds_47 (fun H locs hP hS => ?_)
    refine lv_iload_n hx hb prd_Y_holds_50 rfl (lv_at hl 1 rfl) ?_
    refine lv_bipush (v := 8) hx hb prd_Y_holds_51 (by decide) ?_
    refine lv_icmp_ne (tgt := 67) hx hb prd_Y_holds_53 (by decide) (fun c48 => ?_) (fun c48 => ?_)
    · have hf := pr_ie c48 hf
      exact prk_Y_holds_67 hh E r47 x1 r43 r44 _ hf _ _ _ hP hS (lv_sub hl [2, 3, 1, 0] rfl)
    · have hf := pr_it c48 hf
      refine lv_aload_n hx hb prd_Y_holds_56 rfl (lv_at hl 2 rfl) ?_
      refine lv_iload_n hx hb prd_Y_holds_57 rfl (lv_at hl 3 rfl) ?_
      refine lv_iload_n hx hb prd_Y_holds_58 rfl (lv_at hl 0 rfl) ?_
      obtain ⟨r49, hr49, hf⟩ := pr_bi hf
      refine pr_callVi (rest := []) (res := r49) ⟨hx, hb, hml, hown, hts⟩ 6 (prc_Y_returnHolds hD hX 3 (Nat.le_refl _) r47 x1 r44 r49 hr49) (prg_Y_returnHolds hts prw_529 (by have := hh; omega)) hX hXs hK hP hS (by decide) rfl rfl rfl rfl hl.1 (Nat.le_of_ble_eq_true rfl) prd_Y_holds_59 (fun H locs hP hS => ?_)
      refine lv_if_ne (tgt := 67) hx hb prd_Y_holds_62 (by decide) (fun c50 => ?_) (fun c50 => ?_)
      · have hf := pr_ie c50 hf
        exact prk_Y_holds_67 hh E r49.2 x1 r43 r44 _ hf _ _ _ hP hS (lv_sub hl [2, 3, 1, 0] rfl)
      · have hf := pr_it c50 hf
        refine lv_iconst (v := 0) hx hb prd_Y_holds_65 (by decide) ?_
        exact pr_retz E (Or.inl rfl) hP hS (pr_so hf) prd_Y_holds_66
  · have hf := pr_ie c46 hf
    refine lv_aload_n hx hb prd_Y_holds_33 rfl (lv_at hl 2 rfl) ?_
    refine lv_bipush (v := 11) hx hb prd_Y_holds_34 (by decide) ?_
    refine lv_iload_n hx hb prd_Y_holds_36 rfl (lv_at hl 0 rfl) ?_
    obtain ⟨r51, hr51, hf⟩ := pr_bi hf
    refine pr_callVi (rest := []) (res := r51) ⟨hx, hb, hml, hown, hts⟩ 6 (prc_Y_isWrong hD hX 1 (Nat.le_refl _) σ 11 r44 r51 hr51) (prg_Y_isWrong hts prw_410 (by have := hh; omega)) hX hXs hK hP hS (by decide) rfl rfl rfl rfl hl.1 (Nat.le_of_ble_eq_true rfl) prd_Y_holds_37 (fun H locs hP hS => ?_)
    obtain ⟨hz52, hf⟩ := pr_z_in hf
    exact pr_retz E hz52 hP hS (pr_so hf) prd_Y_holds_40
-- Y_layCall
set_option maxHeartbeats 4000000 in
set_option maxRecDepth 100000 in
theorem prk_Y_layCall_38 {l : Launch} {D : va_G} {ad : Nat → Nat} {dA : Nat → ClassId} {A : Nat → Prop} {t : Nat} {p : Program} {e : Env} {s : State} {m : MethodId} {args : Array Value} {below : List Frame} {meth : Method} {c : Code} {h : Nat} (hh : 4 ≤ h) (E : pr_cx prn_Y prb_Y_layCall 4 none D pr_cl prc_L ad dA A (prX t A) p s m args meth c) : ∀ n : Nat, ∀ (σ : pr_St) (x1 : Int32) (x3 : Int32) (res : pr_St), some res = prf_Y_layCall_38 n σ x1 x3 → ∀ (H : Heap) (locs : List Loc) (ls : Array Slot), va_P D pr_cl (pr_w prc_L ad dA σ) H → va_S A s.heap H locs → lv_has ls 4 [(0, .ref (ad 6)), (1, .int x1), (3, .int x3)] → W p l e (pr_rm h) s m args below meth c H locs 0 0 (MQ below (pr_Qv D pr_cl prc_L ad dA A res) args s 0 0 A) (F0 m 38 ls []) := by
  obtain ⟨hx, hb, hml, hown, hts, hr, hlocks, hK, hD, hX, hXs⟩ := id E
  intro n
  induction n with
  | zero =>
    intro σ x1 x3 res hf
    rw [prf_Y_layCall_38] at hf
    cases hf
  | succ n ih =>
    intro σ x1 x3 res hf H locs ls hP hS hl
    rw [prf_Y_layCall_38] at hf
    refine lv_iload_n hx hb prd_Y_layCall_38 rfl (lv_at hl 2 rfl) ?_
    refine lv_aload_n hx hb prd_Y_layCall_39 rfl (lv_at hl 0 rfl) ?_
    refine pr_getr (t := 2) hx hb hts prs_Y hown hK hP 6 1 (by decide) rfl (hts _ prw_337) rfl prd_Y_layCall_40 ?_
    refine lv_aload_n hx hb prd_Y_layCall_43 rfl (lv_at hl 0 rfl) ?_
    refine pr_geti (v := (σ.1 6 13)) hx hb hts prs_Y hown hK hP 6 13 (by decide) rfl (hts _ prw_465) rfl rfl prd_Y_layCall_44 ?_
    obtain ⟨r10, hr10, hf⟩ := pr_bi hf
    refine pr_callVr (rest := [.int x3]) (r := r10) ⟨hx, hb, hml, hown, hts⟩ 2 (prc_G_parametersOf hD hX 1 (Nat.le_refl _) σ (σ.1 6 13) r10 hr10) (prg_G_parametersOf hts prw_463 (by have := hh; omega)) hX hXs hK hP hS (by decide) rfl rfl rfl rfl hl.1 (Nat.le_of_ble_eq_true rfl) prd_Y_layCall_47 (fun H locs hP hS => ?_)
    refine lv_icmp_ge (tgt := 79) hx hb prd_Y_layCall_50 (by decide) (fun c11 => ?_) (fun c11 => ?_)
    · have hf := pr_it c11 hf
      refine lv_aload_n hx hb prd_Y_layCall_79 rfl (lv_at hl 0 rfl) ?_
      refine lv_aload_n hx hb prd_Y_layCall_80 rfl (lv_at hl 0 rfl) ?_
      refine pr_geti (v := (σ.1 6 13)) hx hb hts prs_Y hown hK hP 6 13 (by decide) rfl (hts _ prw_465) rfl rfl prd_Y_layCall_81 ?_
      refine lv_iload_n hx hb prd_Y_layCall_84 rfl (lv_at hl 1 rfl) ?_
      obtain ⟨r12, hr12, hf⟩ := pr_bi hf
      refine pr_callVv (rest := []) (res := r12) ⟨hx, hb, hml, hown, hts⟩ 6 (prc_Y_openFunction hD hX 3 (Nat.le_refl _) σ (σ.1 6 13) x1 r12 hr12) (prg_Y_openFunction hts prw_548 (by have := hh; omega)) hX hXs hK hP hS (by decide) rfl rfl rfl rfl hl.1 (Nat.le_of_ble_eq_true rfl) prd_Y_layCall_85 (fun H locs hP hS => ?_)
      exact pr_retv E hP hS (pr_so hf) prd_Y_layCall_88
    · have hf := pr_ie c11 hf
      refine lv_aload_n hx hb prd_Y_layCall_53 rfl (lv_at hl 0 rfl) ?_
      refine pr_getr (t := 5) hx hb hts prs_Y hown hK hP 6 3 (by decide) rfl (hts _ prw_372) rfl prd_Y_layCall_54 ?_
      refine lv_aload_n hx hb prd_Y_layCall_57 rfl (lv_at hl 0 rfl) ?_
      refine pr_getr (t := 2) hx hb hts prs_Y hown hK hP 6 1 (by decide) rfl (hts _ prw_337) rfl prd_Y_layCall_58 ?_
      refine lv_aload_n hx hb prd_Y_layCall_61 rfl (lv_at hl 0 rfl) ?_
      refine pr_geti (v := (σ.1 6 13)) hx hb hts prs_Y hown hK hP 6 13 (by decide) rfl (hts _ prw_465) rfl rfl prd_Y_layCall_62 ?_
      refine lv_iload_n hx hb prd_Y_layCall_65 rfl (lv_at hl 2 rfl) ?_
      obtain ⟨r13, hr13, hf⟩ := pr_bi hf
      refine pr_callVr (rest := [.ref (ad 5)]) (r := r13) ⟨hx, hb, hml, hown, hts⟩ 2 (prc_G_parameterToken hD hX 2 (Nat.le_refl _) σ (σ.1 6 13) x3 r13 hr13) (prg_G_parameterToken hts prw_511 (by have := hh; omega)) hX hXs hK hP hS (by decide) rfl rfl rfl rfl hl.1 (Nat.le_of_ble_eq_true rfl) prd_Y_layCall_66 (fun H locs hP hS => ?_)
      refine lv_iconst (v := 0) hx hb prd_Y_layCall_69 (by decide) ?_
      obtain ⟨r14, hr14, hf⟩ := pr_bi hf
      refine pr_callVv (rest := []) (res := r14) ⟨hx, hb, hml, hown, hts⟩ 5 (prc_S_add hD hX 0 (Nat.le_refl _) σ r13 0 r14 hr14) (prg_S_add hts prw_549 (by have := hh; omega)) hX hXs hK hP hS (by decide) rfl rfl rfl rfl hl.1 (Nat.le_of_ble_eq_true rfl) prd_Y_layCall_70 (fun H locs hP hS => ?_)
      refine lv_iinc (v := (x3 + 1)) (lv' := [(3, .int (x3 + 1)), (0, .ref (ad 6)), (1, .int x1)]) hx hb prd_Y_layCall_73 hl (k := 2) rfl rfl (by decide) rfl (fun ls hl => ?_)
      refine lv_goto (tgt := 38) hx hb prd_Y_layCall_76 (by decide) ?_
      exact ih r14 x1 (x3 + 1) _ hf _ _ _ hP hS (lv_sub hl [1, 2, 0] rfl)
set_option maxHeartbeats 4000000 in
set_option maxRecDepth 100000 in
theorem prc_Y_layCall {l : Launch} {D : va_G} {ad : Nat → Nat} {dA : Nat → ClassId} {A : Nat → Prop} {t : Nat} (hD : ∀ σ : pr_St, va_D A (pr_w prc_L ad dA σ)) (hX : pr_Xok A (prX t A)) (h : Nat) (hh : 4 ≤ h) (σ : pr_St) (x1 : Int32) (x2 : Int32) (res : pr_St) (hf : prf_Y_layCall σ x1 x2 = some res) : Met l pry_Y_layCall (Cond.code pry_Y_layCall prb_Y_layCall 4 none :: pr_U) (pr_rm h) (pr_Pc (prX t A) D pr_cl prc_L ad dA [.ref (ad 6), .int x1, .int x2] σ) (pr_Qv D pr_cl prc_L ad dA A res) 0 0 A := by
  refine pr_entry (cc := prb_Y_layCall) (maxL := 4) (ret := none) (by decide) (Nat.le_of_ble_eq_true rfl) hD hX ?_
  intro p e s m args below meth c E H locs hP hS ls hl
  have hl : lv_has ls 4 [(0, .ref (ad 6)), (1, .int x1), (2, .int x2)] := hl
  have hf := hf.symm
  unfold prf_Y_layCall at hf
  obtain ⟨hx, hb, hml, hown, hts, hr, hlocks, hK, hD, hX, hXs⟩ := id E
  refine lv_aload_n hx hb prd_Y_layCall_0 rfl (lv_at hl 0 rfl) ?_
  refine pr_getr (t := 1) hx hb hts prs_Y hown hK hP 6 0 (by decide) rfl (hts _ prw_310) rfl prd_Y_layCall_1 ?_
  refine lv_iload_n hx hb prd_Y_layCall_4 rfl (lv_at hl 2 rfl) ?_
  refine lv_iconst (v := 1) hx hb prd_Y_layCall_5 (by decide) ?_
  refine lv_iadd hx hb prd_Y_layCall_6 ?_
  obtain ⟨r15, hr15, hf⟩ := pr_bi hf
  refine pr_callVr (rest := []) (r := r15) ⟨hx, hb, hml, hown, hts⟩ 1 (prc_T_kindAt hD hX 0 (Nat.le_refl _) σ (x2 + 1) r15 hr15) (prg_T_kindAt hts prw_438 (by have := hh; omega)) hX hXs hK hP hS (by decide) rfl rfl rfl rfl hl.1 (Nat.le_of_ble_eq_true rfl) prd_Y_layCall_7 (fun H locs hP hS => ?_)
  refine lv_bipush (v := 20) hx hb prd_Y_layCall_10 (by decide) ?_
  refine lv_icmp_ne (tgt := 36) hx hb prd_Y_layCall_12 (by decide) (fun c16 => ?_) (fun c16 => ?_)
  · have hf := pr_ie c16 hf
    refine lv_iconst (v := 0) hx hb prd_Y_layCall_36 (by decide) ?_
    refine lv_istore_n (lv' := [(3, .int 0), (0, .ref (ad 6)), (1, .int x1), (2, .int x2)]) hx hb prd_Y_layCall_37 rfl hl (by decide) rfl (fun ls hl => ?_)
    exact prk_Y_layCall_38 hh E pr_FU σ x1 0 _ hf _ _ _ hP hS (lv_sub hl [1, 2, 0] rfl)
  · have hf := pr_it c16 hf
    refine lv_aload_n hx hb prd_Y_layCall_15 rfl (lv_at hl 0 rfl) ?_
    refine pr_getr (t := 4) hx hb hts prs_Y hown hK hP 6 2 (by decide) rfl (hts _ prw_332) rfl prd_Y_layCall_16 ?_
    refine lv_iload_n hx hb prd_Y_layCall_19 rfl (lv_at hl 1 rfl) ?_
    refine lv_aload_n hx hb prd_Y_layCall_20 rfl (lv_at hl 0 rfl) ?_
    refine pr_geti (v := (σ.1 6 11)) hx hb hts prs_Y hown hK hP 6 11 (by decide) rfl (hts _ prw_401) rfl rfl prd_Y_layCall_21 ?_
    refine lv_aload_n hx hb prd_Y_layCall_24 rfl (lv_at hl 0 rfl) ?_
    refine pr_getr (t := 2) hx hb hts prs_Y hown hK hP 6 1 (by decide) rfl (hts _ prw_337) rfl prd_Y_layCall_25 ?_
    refine lv_iload_n hx hb prd_Y_layCall_28 rfl (lv_at hl 2 rfl) ?_
    obtain ⟨r17, hr17, hf⟩ := pr_bi hf
    refine pr_callVr (rest := [.int (σ.1 6 11), .int x1, .ref (ad 4)]) (r := r17) ⟨hx, hb, hml, hown, hts⟩ 2 (prc_G_slotOf hD hX 0 (Nat.le_refl _) σ x2 r17 hr17) (prg_G_slotOf hts prw_546 (by have := hh; omega)) hX hXs hK hP hS (by decide) rfl rfl rfl rfl hl.1 (Nat.le_of_ble_eq_true rfl) prd_Y_layCall_29 (fun H locs hP hS => ?_)
    refine lv_iadd hx hb prd_Y_layCall_32 ?_
    obtain ⟨r18, hr18, hf⟩ := pr_bi hf
    refine pr_callVv (rest := []) (res := r18) ⟨hx, hb, hml, hown, hts⟩ 4 (prc_O_setTarget hD hX 1 (Nat.le_refl _) σ x1 ((σ.1 6 11) + r17) r18 hr18) (prg_O_setTarget hts prw_547 (by have := hh; omega)) hX hXs hK hP hS (by decide) rfl rfl rfl rfl hl.1 (Nat.le_of_ble_eq_true rfl) prd_Y_layCall_33 (fun H locs hP hS => ?_)
    refine lv_iconst (v := 0) hx hb prd_Y_layCall_36 (by decide) ?_
    refine lv_istore_n (lv' := [(3, .int 0), (0, .ref (ad 6)), (1, .int x1), (2, .int x2)]) hx hb prd_Y_layCall_37 rfl hl (by decide) rfl (fun ls hl => ?_)
    exact prk_Y_layCall_38 hh E pr_FU r18 x1 0 _ hf _ _ _ hP hS (lv_sub hl [1, 2, 0] rfl)
-- Y_layStatement
set_option maxHeartbeats 4000000 in
set_option maxRecDepth 100000 in
theorem prc_Y_layStatement {l : Launch} {D : va_G} {ad : Nat → Nat} {dA : Nat → ClassId} {A : Nat → Prop} {t : Nat} (hD : ∀ σ : pr_St, va_D A (pr_w prc_L ad dA σ)) (hX : pr_Xok A (prX t A)) (h : Nat) (hh : 5 ≤ h) (σ : pr_St) (x1 : Int32) (res : pr_St) (hf : prf_Y_layStatement σ x1 = some res) : Met l pry_Y_layStatement (Cond.code pry_Y_layStatement prb_Y_layStatement 4 none :: pr_U) (pr_rm h) (pr_Pc (prX t A) D pr_cl prc_L ad dA [.ref (ad 6), .int x1] σ) (pr_Qv D pr_cl prc_L ad dA A res) 0 0 A := by
  refine pr_entry (cc := prb_Y_layStatement) (maxL := 4) (ret := none) (by decide) (Nat.le_of_ble_eq_true rfl) hD hX ?_
  intro p e s m args below meth c E H locs hP hS ls hl
  have hl : lv_has ls 4 [(0, .ref (ad 6)), (1, .int x1)] := hl
  have hf := hf.symm
  unfold prf_Y_layStatement at hf
  obtain ⟨hx, hb, hml, hown, hts, hr, hlocks, hK, hD, hX, hXs⟩ := id E
  refine lv_aload_n hx hb prd_Y_layStatement_0 rfl (lv_at hl 0 rfl) ?_
  refine pr_getr (t := 2) hx hb hts prs_Y hown hK hP 6 1 (by decide) rfl (hts _ prw_337) rfl prd_Y_layStatement_1 ?_
  refine lv_iload_n hx hb prd_Y_layStatement_4 rfl (lv_at hl 1 rfl) ?_
  obtain ⟨r32, hr32, hf⟩ := pr_bi hf
  refine pr_callVr (rest := []) (r := r32) ⟨hx, hb, hml, hown, hts⟩ 2 (prc_G_firstTokenOf hD hX 1 (Nat.le_refl _) σ x1 r32 hr32) (prg_G_firstTokenOf hts prw_464 (by have := hh; omega)) hX hXs hK hP hS (by decide) rfl rfl rfl rfl hl.1 (Nat.le_of_ble_eq_true rfl) prd_Y_layStatement_5 (fun H locs hP hS => ?_)
  refine lv_istore_n (lv' := [(2, .int r32), (0, .ref (ad 6)), (1, .int x1)]) hx hb prd_Y_layStatement_8 rfl hl (by decide) rfl (fun ls hl => ?_)
  refine lv_aload_n hx hb prd_Y_layStatement_9 rfl (lv_at hl 1 rfl) ?_
  refine pr_getr (t := 4) hx hb hts prs_Y hown hK hP 6 2 (by decide) rfl (hts _ prw_332) rfl prd_Y_layStatement_10 ?_
  refine lv_aload_n hx hb prd_Y_layStatement_13 rfl (lv_at hl 1 rfl) ?_
  refine pr_getr (t := 2) hx hb hts prs_Y hown hK hP 6 1 (by decide) rfl (hts _ prw_337) rfl prd_Y_layStatement_14 ?_
  refine lv_iload_n hx hb prd_Y_layStatement_17 rfl (lv_at hl 2 rfl) ?_
  obtain ⟨r33, hr33, hf⟩ := pr_bi hf
  refine pr_callVr (rest := [.ref (ad 4)]) (r := r33) ⟨hx, hb, hml, hown, hts⟩ 2 (prc_G_kindOf hD hX 1 (Nat.le_refl _) σ x1 r33 hr33) (prg_G_kindOf hts prw_526 (by have := hh; omega)) hX hXs hK hP hS (by decide) rfl rfl rfl rfl hl.1 (Nat.le_of_ble_eq_true rfl) prd_Y_layStatement_18 (fun H locs hP hS => ?_)
  refine lv_aload_n hx hb prd_Y_layStatement_21 rfl (lv_at hl 1 rfl) ?_
  refine pr_getr (t := 1) hx hb hts prs_Y hown hK hP 6 0 (by decide) rfl (hts _ prw_310) rfl prd_Y_layStatement_22 ?_
  refine lv_iload_n hx hb prd_Y_layStatement_25 rfl (lv_at hl 0 rfl) ?_
  obtain ⟨r34, hr34, hf⟩ := pr_bi hf
  refine pr_callVr (rest := [.int r33, .ref (ad 4)]) (r := r34) ⟨hx, hb, hml, hown, hts⟩ 1 (prc_T_placeAt hD hX 0 (Nat.le_refl _) σ r32 r34 hr34) (prg_T_placeAt hts prw_311 (by have := hh; omega)) hX hXs hK hP hS (by decide) rfl rfl rfl rfl hl.1 (Nat.le_of_ble_eq_true rfl) prd_Y_layStatement_26 (fun H locs hP hS => ?_)
  refine lv_iload_n hx hb prd_Y_layStatement_29 rfl (lv_at hl 2 rfl) ?_
  obtain ⟨r35, hr35, hf⟩ := pr_bi hf
  refine pr_callVi (rest := []) (res := r35) ⟨hx, hb, hml, hown, hts⟩ 4 (prc_O_add hD hX 0 (Nat.le_refl _) σ r33 r34 x1 r35 hr35) (prg_O_add hts prw_553 (by have := hh; omega)) hX hXs hK hP hS (by decide) rfl rfl rfl rfl hl.1 (Nat.le_of_ble_eq_true rfl) prd_Y_layStatement_30 (fun H locs hP hS => ?_)
  refine lv_istore_n (lv' := [(3, .int r35.1), (2, .int r32), (0, .ref (ad 6)), (1, .int x1)]) hx hb prd_Y_layStatement_33 rfl hl (by decide) rfl (fun ls hl => ?_)
  refine lv_aload_n hx hb prd_Y_layStatement_34 rfl (lv_at hl 2 rfl) ?_
  refine pr_getr (t := 4) hx hb hts prs_Y hown hK hP 6 2 (by decide) rfl (hts _ prw_332) rfl prd_Y_layStatement_35 ?_
  refine lv_iload_n hx hb prd_Y_layStatement_38 rfl (lv_at hl 0 rfl) ?_
  refine lv_aload_n hx hb prd_Y_layStatement_39 rfl (lv_at hl 2 rfl) ?_
  obtain ⟨r36, hr36, hf⟩ := pr_bi hf
  refine pr_callVr (rest := [.int r35.1, .ref (ad 4)]) (r := r36) ⟨hx, hb, hml, hown, hts⟩ 6 (prc_Y_parent hD hX 1 (Nat.le_refl _) r35.2  r36 hr36) (prg_Y_parent hts prw_371 (by have := hh; omega)) hX hXs hK hP hS (by decide) rfl rfl rfl rfl hl.1 (Nat.le_of_ble_eq_true rfl) prd_Y_layStatement_40 (fun H locs hP hS => ?_)
  refine lv_aload_n hx hb prd_Y_layStatement_43 rfl (lv_at hl 2 rfl) ?_
  refine lv_iload_n hx hb prd_Y_layStatement_44 rfl (lv_at hl 3 rfl) ?_
  obtain ⟨r37, hr37, hf⟩ := pr_bi hf
  refine pr_callVr (rest := [.int r36, .int r35.1, .ref (ad 4)]) (r := r37) ⟨hx, hb, hml, hown, hts⟩ 6 (prc_Y_isLast hD hX 2 (Nat.le_refl _) r35.2 x1 r37 hr37) (prg_Y_isLast hts prw_411 (by have := hh; omega)) hX hXs hK hP hS (by decide) rfl rfl rfl rfl hl.1 (Nat.le_of_ble_eq_true rfl) prd_Y_layStatement_45 (fun H locs hP hS => ?_)
  obtain ⟨r38, hr38, hf⟩ := pr_bi hf
  refine pr_callVv (rest := []) (res := r38) ⟨hx, hb, hml, hown, hts⟩ 4 (prc_O_setParent hD hX 1 (Nat.le_refl _) r35.2 r35.1 r36 r37 r38 hr38) (prg_O_setParent hts prw_554 (by have := hh; omega)) hX hXs hK hP hS (by decide) rfl rfl rfl rfl hl.1 (Nat.le_of_ble_eq_true rfl) prd_Y_layStatement_48 (fun H locs hP hS => ?_)
  refine lv_aload_n hx hb prd_Y_layStatement_51 rfl (lv_at hl 2 rfl) ?_
  refine pr_getr (t := 4) hx hb hts prs_Y hown hK hP 6 2 (by decide) rfl (hts _ prw_332) rfl prd_Y_layStatement_52 ?_
  refine lv_iload_n hx hb prd_Y_layStatement_55 rfl (lv_at hl 0 rfl) ?_
  refine lv_aload_n hx hb prd_Y_layStatement_56 rfl (lv_at hl 2 rfl) ?_
  refine pr_getr (t := 5) hx hb hts prs_Y hown hK hP 6 3 (by decide) rfl (hts _ prw_372) rfl prd_Y_layStatement_57 ?_
  obtain ⟨r39, hr39, hf⟩ := pr_bi hf
  refine pr_callVr (rest := [.int r35.1, .ref (ad 4)]) (r := r39) ⟨hx, hb, hml, hown, hts⟩ 5 (prc_S_numbers hD hX 0 (Nat.le_refl _) r38  r39 hr39) (prg_S_numbers hts prw_522 (by have := hh; omega)) hX hXs hK hP hS (by decide) rfl rfl rfl rfl hl.1 (Nat.le_of_ble_eq_true rfl) prd_Y_layStatement_60 (fun H locs hP hS => ?_)
  refine lv_aload_n hx hb prd_Y_layStatement_63 rfl (lv_at hl 2 rfl) ?_
  refine pr_getr (t := 5) hx hb hts prs_Y hown hK hP 6 3 (by decide) rfl (hts _ prw_372) rfl prd_Y_layStatement_64 ?_
  obtain ⟨r40, hr40, hf⟩ := pr_bi hf
  refine pr_callVr (rest := [.int r39, .int r35.1, .ref (ad 4)]) (r := r40) ⟨hx, hb, hml, hown, hts⟩ 5 (prc_S_arrays hD hX 0 (Nat.le_refl _) r38  r40 hr40) (prg_S_arrays hts prw_521 (by have := hh; omega)) hX hXs hK hP hS (by decide) rfl rfl rfl rfl hl.1 (Nat.le_of_ble_eq_true rfl) prd_Y_layStatement_67 (fun H locs hP hS => ?_)
  obtain ⟨r41, hr41, hf⟩ := pr_bi hf
  refine pr_callVv (rest := []) (res := r41) ⟨hx, hb, hml, hown, hts⟩ 4 (prc_O_setThere hD hX 1 (Nat.le_refl _) r38 r35.1 r39 r40 r41 hr41) (prg_O_setThere hts prw_555 (by have := hh; omega)) hX hXs hK hP hS (by decide) rfl rfl rfl rfl hl.1 (Nat.le_of_ble_eq_true rfl) prd_Y_layStatement_70 (fun H locs hP hS => ?_)
  refine lv_aload_n hx hb prd_Y_layStatement_73 rfl (lv_at hl 2 rfl) ?_
  refine pr_getr (t := 4) hx hb hts prs_Y hown hK hP 6 2 (by decide) rfl (hts _ prw_332) rfl prd_Y_layStatement_74 ?_
  refine lv_iload_n hx hb prd_Y_layStatement_77 rfl (lv_at hl 0 rfl) ?_
  refine lv_aload_n hx hb prd_Y_layStatement_78 rfl (lv_at hl 2 rfl) ?_
  refine pr_geti (v := (r41.1 6 11)) hx hb hts prs_Y hown hK hP 6 11 (by decide) rfl (hts _ prw_401) rfl rfl prd_Y_layStatement_79 ?_
  refine lv_aload_n hx hb prd_Y_layStatement_82 rfl (lv_at hl 2 rfl) ?_
  refine pr_geti (v := (r41.1 6 12)) hx hb hts prs_Y hown hK hP 6 12 (by decide) rfl (hts _ prw_403) rfl rfl prd_Y_layStatement_83 ?_
  obtain ⟨r42, hr42, hf⟩ := pr_bi hf
  refine pr_callVv (rest := []) (res := r42) ⟨hx, hb, hml, hown, hts⟩ 4 (prc_O_setForeign hD hX 1 (Nat.le_refl _) r41 r35.1 (r41.1 6 11) (r41.1 6 12) r42 hr42) (prg_O_setForeign hts prw_556 (by have := hh; omega)) hX hXs hK hP hS (by decide) rfl rfl rfl rfl hl.1 (Nat.le_of_ble_eq_true rfl) prd_Y_layStatement_86 (fun H locs hP hS => ?_)
  refine lv_aload_n hx hb prd_Y_layStatement_89 rfl (lv_at hl 2 rfl) ?_
  refine pr_getr (t := 2) hx hb hts prs_Y hown hK hP 6 1 (by decide) rfl (hts _ prw_337) rfl prd_Y_layStatement_90 ?_
  refine lv_iload_n hx hb prd_Y_layStatement_93 rfl (lv_at hl 3 rfl) ?_
  obtain ⟨r43, hr43, hf⟩ := pr_bi hf
  refine pr_callVr (rest := []) (r := r43) ⟨hx, hb, hml, hown, hts⟩ 2 (prc_G_kindOf hD hX 1 (Nat.le_refl _) r42 x1 r43 hr43) (prg_G_kindOf hts prw_526 (by have := hh; omega)) hX hXs hK hP hS (by decide) rfl rfl rfl rfl hl.1 (Nat.le_of_ble_eq_true rfl) prd_Y_layStatement_94 (fun H locs hP hS => ?_)
  by_cases c44 : r43 = 1
  · have hf := pr_it c44 hf
    refine lv_tableIn (tgt := 136) (off := 39) hx hb prd_Y_layStatement_97 (by rw [c44]; decide) (by rw [c44]; decide) (by rw [c44] <;> rfl) (by decide) ?_
    refine lv_aload_n hx hb prd_Y_layStatement_136 rfl (lv_at hl 2 rfl) ?_
    refine pr_getr (t := 5) hx hb hts prs_Y hown hK hP 6 3 (by decide) rfl (hts _ prw_372) rfl prd_Y_layStatement_137 ?_
    refine lv_iload_n hx hb prd_Y_layStatement_140 rfl (lv_at hl 1 rfl) ?_
    refine lv_iconst (v := 1) hx hb prd_Y_layStatement_141 (by decide) ?_
    refine lv_iadd hx hb prd_Y_layStatement_142 ?_
    refine lv_aload_n hx hb prd_Y_layStatement_143 rfl (lv_at hl 2 rfl) ?_
    refine pr_getr (t := 1) hx hb hts prs_Y hown hK hP 6 0 (by decide) rfl (hts _ prw_310) rfl prd_Y_layStatement_144 ?_
    refine lv_iload_n hx hb prd_Y_layStatement_147 rfl (lv_at hl 1 rfl) ?_
    refine lv_iconst (v := 2) hx hb prd_Y_layStatement_148 (by decide) ?_
    refine lv_iadd hx hb prd_Y_layStatement_149 ?_
    obtain ⟨r45, hr45, hf⟩ := pr_bi hf
    refine pr_callVr (rest := [.int (r32 + 1), .ref (ad 5)]) (r := r45) ⟨hx, hb, hml, hown, hts⟩ 1 (prc_T_kindAt hD hX 0 (Nat.le_refl _) r42 (r32 + 2) r45 hr45) (prg_T_kindAt hts prw_438 (by have := hh; omega)) hX hXs hK hP hS (by decide) rfl rfl rfl rfl hl.1 (Nat.le_of_ble_eq_true rfl) prd_Y_layStatement_150 (fun H locs hP hS => ?_)
    refine lv_bipush (v := 16) hx hb prd_Y_layStatement_153 (by decide) ?_
    refine lv_icmp_ne (tgt := 162) hx hb prd_Y_layStatement_155 (by decide) (fun c46 => ?_) (fun c46 => ?_)
    · have hf := pr_ie c46 hf
      refine lv_iconst (v := 0) hx hb prd_Y_layStatement_162 (by decide) ?_
      obtain ⟨r47, hr47, hf⟩ := pr_bi hf
      refine pr_callVv (rest := []) (res := r47) ⟨hx, hb, hml, hown, hts⟩ 5 (prc_S_add hD hX 0 (Nat.le_refl _) r42 (r32 + 1) 0 r47 hr47) (prg_S_add hts prw_549 (by have := hh; omega)) hX hXs hK hP hS (by decide) rfl rfl rfl rfl hl.1 (Nat.le_of_ble_eq_true rfl) prd_Y_layStatement_163 (fun H locs hP hS => ?_)
      refine lv_goto (tgt := 240) hx hb prd_Y_layStatement_166 (by decide) ?_
      exact pr_retv E hP hS (pr_so hf) prd_Y_layStatement_240
    · have hf := pr_it c46 hf
      refine lv_iconst (v := 1) hx hb prd_Y_layStatement_158 (by decide) ?_
      refine lv_goto (tgt := 163) hx hb prd_Y_layStatement_159 (by decide) ?_
      obtain ⟨r48, hr48, hf⟩ := pr_bi hf
      refine pr_callVv (rest := []) (res := r48) ⟨hx, hb, hml, hown, hts⟩ 5 (prc_S_add hD hX 0 (Nat.le_refl _) r42 (r32 + 1) 1 r48 hr48) (prg_S_add hts prw_549 (by have := hh; omega)) hX hXs hK hP hS (by decide) rfl rfl rfl rfl hl.1 (Nat.le_of_ble_eq_true rfl) prd_Y_layStatement_163 (fun H locs hP hS => ?_)
      refine lv_goto (tgt := 240) hx hb prd_Y_layStatement_166 (by decide) ?_
      exact pr_retv E hP hS (pr_so hf) prd_Y_layStatement_240
  · have hf := pr_ie c44 hf
    by_cases c49 : r43 = 2
    · have hf := pr_it c49 hf
      refine lv_tableIn (tgt := 240) (off := 143) hx hb prd_Y_layStatement_97 (by rw [c49]; decide) (by rw [c49]; decide) (by rw [c49] <;> rfl) (by decide) ?_
      exact pr_retv E hP hS (pr_so hf) prd_Y_layStatement_240
    · have hf := pr_ie c49 hf
      by_cases c50 : r43 = 3
      · have hf := pr_it c50 hf
        refine lv_tableIn (tgt := 240) (off := 143) hx hb prd_Y_layStatement_97 (by rw [c50]; decide) (by rw [c50]; decide) (by rw [c50] <;> rfl) (by decide) ?_
        exact pr_retv E hP hS (pr_so hf) prd_Y_layStatement_240
      · have hf := pr_ie c50 hf
        by_cases c51 : r43 = 4
        · have hf := pr_it c51 hf
          refine lv_tableIn (tgt := 231) (off := 134) hx hb prd_Y_layStatement_97 (by rw [c51]; decide) (by rw [c51]; decide) (by rw [c51] <;> rfl) (by decide) ?_
          refine lv_aload_n hx hb prd_Y_layStatement_231 rfl (lv_at hl 2 rfl) ?_
          refine lv_iload_n hx hb prd_Y_layStatement_232 rfl (lv_at hl 0 rfl) ?_
          refine lv_iload_n hx hb prd_Y_layStatement_233 rfl (lv_at hl 1 rfl) ?_
          obtain ⟨r52, hr52, hf⟩ := pr_bi hf
          refine pr_callVv (rest := []) (res := r52) ⟨hx, hb, hml, hown, hts⟩ 6 (prc_Y_layCall hD hX 4 (Nat.le_refl _) r42 r35.1 r32 r52 hr52) (prg_Y_layCall hts prw_557 (by have := hh; omega)) hX hXs hK hP hS (by decide) rfl rfl rfl rfl hl.1 (Nat.le_of_ble_eq_true rfl) prd_Y_layStatement_234 (fun H locs hP hS => ?_)
          refine lv_goto (tgt := 240) hx hb prd_Y_layStatement_237 (by decide) ?_
          exact pr_retv E hP hS (pr_so hf) prd_Y_layStatement_240
        · have hf := pr_ie c51 hf
          by_cases c53 : r43 = 5
          · have hf := pr_it c53 hf
            refine lv_tableIn (tgt := 169) (off := 72) hx hb prd_Y_layStatement_97 (by rw [c53]; decide) (by rw [c53]; decide) (by rw [c53] <;> rfl) (by decide) ?_
            refine lv_aload_n hx hb prd_Y_layStatement_169 rfl (lv_at hl 2 rfl) ?_
            refine lv_iload_n hx hb prd_Y_layStatement_170 rfl (lv_at hl 0 rfl) ?_
            refine lv_aload_n hx hb prd_Y_layStatement_171 rfl (lv_at hl 2 rfl) ?_
            obtain ⟨r54, hr54, hf⟩ := pr_bi hf
            refine pr_callVr (rest := [.int r35.1, .ref (ad 6)]) (r := r54) ⟨hx, hb, hml, hown, hts⟩ 6 (prc_Y_function hD hX 1 (Nat.le_refl _) r42  r54 hr54) (prg_Y_function hts prw_449 (by have := hh; omega)) hX hXs hK hP hS (by decide) rfl rfl rfl rfl hl.1 (Nat.le_of_ble_eq_true rfl) prd_Y_layStatement_172 (fun H locs hP hS => ?_)
            refine lv_iload_n hx hb prd_Y_layStatement_175 rfl (lv_at hl 3 rfl) ?_
            refine lv_iconst (v := 1) hx hb prd_Y_layStatement_176 (by decide) ?_
            refine lv_iadd hx hb prd_Y_layStatement_177 ?_
            refine lv_aload_n hx hb prd_Y_layStatement_178 rfl (lv_at hl 2 rfl) ?_
            refine pr_getr (t := 2) hx hb hts prs_Y hown hK hP 6 1 (by decide) rfl (hts _ prw_337) rfl prd_Y_layStatement_179 ?_
            refine lv_iload_n hx hb prd_Y_layStatement_182 rfl (lv_at hl 3 rfl) ?_
            obtain ⟨r55, hr55, hf⟩ := pr_bi hf
            refine pr_callVr (rest := [.int (x1 + 1), .int r54, .int r35.1, .ref (ad 6)]) (r := r55) ⟨hx, hb, hml, hown, hts⟩ 2 (prc_G_detailOf hD hX 1 (Nat.le_refl _) r42 x1 r55 hr55) (prg_G_detailOf hts prw_462 (by have := hh; omega)) hX hXs hK hP hS (by decide) rfl rfl rfl rfl hl.1 (Nat.le_of_ble_eq_true rfl) prd_Y_layStatement_183 (fun H locs hP hS => ?_)
            refine lv_aload_n hx hb prd_Y_layStatement_186 rfl (lv_at hl 2 rfl) ?_
            refine pr_getr (t := 2) hx hb hts prs_Y hown hK hP 6 1 (by decide) rfl (hts _ prw_337) rfl prd_Y_layStatement_187 ?_
            refine lv_iload_n hx hb prd_Y_layStatement_190 rfl (lv_at hl 3 rfl) ?_
            obtain ⟨r56, hr56, hf⟩ := pr_bi hf
            refine pr_callVr (rest := [.int r55, .int (x1 + 1), .int r54, .int r35.1, .ref (ad 6)]) (r := r56) ⟨hx, hb, hml, hown, hts⟩ 2 (prc_G_behind hD hX 1 (Nat.le_refl _) r42 x1 r56 hr56) (prg_G_behind hts prw_352 (by have := hh; omega)) hX hXs hK hP hS (by decide) rfl rfl rfl rfl hl.1 (Nat.le_of_ble_eq_true rfl) prd_Y_layStatement_191 (fun H locs hP hS => ?_)
            obtain ⟨r57, hr57, hf⟩ := pr_bi hf
            refine pr_callVv (rest := []) (res := r57) ⟨hx, hb, hml, hown, hts⟩ 6 (prc_Y_openBlock hD hX 2 (Nat.le_refl _) r42 r35.1 r54 (x1 + 1) r55 r56 r57 hr57) (prg_Y_openBlock hts prw_340 (by have := hh; omega)) hX hXs hK hP hS (by decide) rfl rfl rfl rfl hl.1 (Nat.le_of_ble_eq_true rfl) prd_Y_layStatement_194 (fun H locs hP hS => ?_)
            refine lv_goto (tgt := 240) hx hb prd_Y_layStatement_197 (by decide) ?_
            exact pr_retv E hP hS (pr_so hf) prd_Y_layStatement_240
          · have hf := pr_ie c53 hf
            by_cases c58 : r43 = 6
            · have hf := pr_it c58 hf
              refine lv_tableIn (tgt := 200) (off := 103) hx hb prd_Y_layStatement_97 (by rw [c58]; decide) (by rw [c58]; decide) (by rw [c58] <;> rfl) (by decide) ?_
              refine lv_aload_n hx hb prd_Y_layStatement_200 rfl (lv_at hl 2 rfl) ?_
              refine lv_iload_n hx hb prd_Y_layStatement_201 rfl (lv_at hl 0 rfl) ?_
              refine lv_aload_n hx hb prd_Y_layStatement_202 rfl (lv_at hl 2 rfl) ?_
              obtain ⟨r59, hr59, hf⟩ := pr_bi hf
              refine pr_callVr (rest := [.int r35.1, .ref (ad 6)]) (r := r59) ⟨hx, hb, hml, hown, hts⟩ 6 (prc_Y_function hD hX 1 (Nat.le_refl _) r42  r59 hr59) (prg_Y_function hts prw_449 (by have := hh; omega)) hX hXs hK hP hS (by decide) rfl rfl rfl rfl hl.1 (Nat.le_of_ble_eq_true rfl) prd_Y_layStatement_203 (fun H locs hP hS => ?_)
              refine lv_iload_n hx hb prd_Y_layStatement_206 rfl (lv_at hl 3 rfl) ?_
              refine lv_iconst (v := 1) hx hb prd_Y_layStatement_207 (by decide) ?_
              refine lv_iadd hx hb prd_Y_layStatement_208 ?_
              refine lv_aload_n hx hb prd_Y_layStatement_209 rfl (lv_at hl 2 rfl) ?_
              refine pr_getr (t := 2) hx hb hts prs_Y hown hK hP 6 1 (by decide) rfl (hts _ prw_337) rfl prd_Y_layStatement_210 ?_
              refine lv_iload_n hx hb prd_Y_layStatement_213 rfl (lv_at hl 3 rfl) ?_
              obtain ⟨r60, hr60, hf⟩ := pr_bi hf
              refine pr_callVr (rest := [.int (x1 + 1), .int r59, .int r35.1, .ref (ad 6)]) (r := r60) ⟨hx, hb, hml, hown, hts⟩ 2 (prc_G_behind hD hX 1 (Nat.le_refl _) r42 x1 r60 hr60) (prg_G_behind hts prw_352 (by have := hh; omega)) hX hXs hK hP hS (by decide) rfl rfl rfl rfl hl.1 (Nat.le_of_ble_eq_true rfl) prd_Y_layStatement_214 (fun H locs hP hS => ?_)
              refine lv_aload_n hx hb prd_Y_layStatement_217 rfl (lv_at hl 2 rfl) ?_
              refine pr_getr (t := 2) hx hb hts prs_Y hown hK hP 6 1 (by decide) rfl (hts _ prw_337) rfl prd_Y_layStatement_218 ?_
              refine lv_iload_n hx hb prd_Y_layStatement_221 rfl (lv_at hl 3 rfl) ?_
              obtain ⟨r61, hr61, hf⟩ := pr_bi hf
              refine pr_callVr (rest := [.int r60, .int (x1 + 1), .int r59, .int r35.1, .ref (ad 6)]) (r := r61) ⟨hx, hb, hml, hown, hts⟩ 2 (prc_G_behind hD hX 1 (Nat.le_refl _) r42 x1 r61 hr61) (prg_G_behind hts prw_352 (by have := hh; omega)) hX hXs hK hP hS (by decide) rfl rfl rfl rfl hl.1 (Nat.le_of_ble_eq_true rfl) prd_Y_layStatement_222 (fun H locs hP hS => ?_)
              obtain ⟨r62, hr62, hf⟩ := pr_bi hf
              refine pr_callVv (rest := []) (res := r62) ⟨hx, hb, hml, hown, hts⟩ 6 (prc_Y_openBlock hD hX 2 (Nat.le_refl _) r42 r35.1 r59 (x1 + 1) r60 r61 r62 hr62) (prg_Y_openBlock hts prw_340 (by have := hh; omega)) hX hXs hK hP hS (by decide) rfl rfl rfl rfl hl.1 (Nat.le_of_ble_eq_true rfl) prd_Y_layStatement_225 (fun H locs hP hS => ?_)
              refine lv_goto (tgt := 240) hx hb prd_Y_layStatement_228 (by decide) ?_
              exact pr_retv E hP hS (pr_so hf) prd_Y_layStatement_240
            · have hf := pr_ie c58 hf
              refine lv_tableOut (tgt := 240) hx hb prd_Y_layStatement_97 (by have w0 := lv_neT (a := 1) c44 (by decide); have w1 := lv_neT (a := 2) c49 (by decide); have w2 := lv_neT (a := 3) c50 (by decide); have w3 := lv_neT (a := 4) c51 (by decide); have w4 := lv_neT (a := 5) c53 (by decide); have w5 := lv_neT (a := 6) c58 (by decide); omega) (by decide) ?_
              exact pr_retv E hP hS (pr_so hf) prd_Y_layStatement_240
-- Y_layProgram
set_option maxHeartbeats 4000000 in
set_option maxRecDepth 100000 in
theorem prk_Y_layProgram_65 {l : Launch} {D : va_G} {ad : Nat → Nat} {dA : Nat → ClassId} {A : Nat → Prop} {t : Nat} {p : Program} {e : Env} {s : State} {m : MethodId} {args : Array Value} {below : List Frame} {meth : Method} {c : Code} {h : Nat} (hh : 6 ≤ h) (E : pr_cx prn_Y prb_Y_layProgram 4 (some .boolean) D pr_cl prc_L ad dA A (prX t A) p s m args meth c) : ∀ n : Nat, ∀ (σ : pr_St) (x2 : Int32) (res : (Int32 × pr_St)), some res = prf_Y_layProgram_65 n σ x2 → ∀ (H : Heap) (locs : List Loc) (ls : Array Slot), va_P D pr_cl (pr_w prc_L ad dA σ) H → va_S A s.heap H locs → lv_has ls 4 [(0, .ref (ad 6)), (2, .int x2)] → W p l e (pr_rm h) s m args below meth c H locs 0 0 (MQ below (pr_Qi D pr_cl prc_L ad dA A res) args s 0 0 A) (F0 m 65 ls []) := by
  obtain ⟨hx, hb, hml, hown, hts, hr, hlocks, hK, hD, hX, hXs⟩ := id E
  intro n
  induction n with
  | zero =>
    intro σ x2 res hf
    rw [prf_Y_layProgram_65] at hf
    cases hf
  | succ n ih =>
    intro σ x2 res hf H locs ls hP hS hl
    rw [prf_Y_layProgram_65] at hf
    refine lv_iload_n hx hb prd_Y_layProgram_65 rfl (lv_at hl 1 rfl) ?_
    refine lv_sipush (v := 1000) hx hb prd_Y_layProgram_66 (by decide) ?_
    refine lv_icmp_ge (tgt := 130) hx hb prd_Y_layProgram_69 (by decide) (fun c20 => ?_) (fun c20 => ?_)
    · have hf := pr_it c20 hf
      refine lv_aload_n hx hb prd_Y_layProgram_130 rfl (lv_at hl 0 rfl) ?_
      refine pr_getr (t := 4) hx hb hts prs_Y hown hK hP 6 2 (by decide) rfl (hts _ prw_332) rfl prd_Y_layProgram_131 ?_
      obtain ⟨r21, hr21, hf⟩ := pr_bi hf
      refine pr_callVv (rest := []) (res := r21) ⟨hx, hb, hml, hown, hts⟩ 4 (prc_O_finish hD hX 3 (Nat.le_refl _) σ  r21 hr21) (prg_O_finish hts prw_570 (by have := hh; omega)) hX hXs hK hP hS (by decide) rfl rfl rfl rfl hl.1 (Nat.le_of_ble_eq_true rfl) prd_Y_layProgram_134 (fun H locs hP hS => ?_)
      refine lv_iconst (v := 1) hx hb prd_Y_layProgram_137 (by decide) ?_
      exact pr_retz E (Or.inr rfl) hP hS (pr_so hf) prd_Y_layProgram_138
    · have hf := pr_ie c20 hf
      refine lv_aload_n hx hb prd_Y_layProgram_72 rfl (lv_at hl 0 rfl) ?_
      refine pr_geti (v := (σ.1 6 9)) hx hb hts prs_Y hown hK hP 6 9 (by decide) rfl (hts _ prw_326) rfl rfl prd_Y_layProgram_73 ?_
      refine lv_if_le (tgt := 130) hx hb prd_Y_layProgram_76 (by decide) (fun c22 => ?_) (fun c22 => ?_)
      · have hf := pr_it c22 hf
        refine lv_aload_n hx hb prd_Y_layProgram_130 rfl (lv_at hl 0 rfl) ?_
        refine pr_getr (t := 4) hx hb hts prs_Y hown hK hP 6 2 (by decide) rfl (hts _ prw_332) rfl prd_Y_layProgram_131 ?_
        obtain ⟨r23, hr23, hf⟩ := pr_bi hf
        refine pr_callVv (rest := []) (res := r23) ⟨hx, hb, hml, hown, hts⟩ 4 (prc_O_finish hD hX 3 (Nat.le_refl _) σ  r23 hr23) (prg_O_finish hts prw_570 (by have := hh; omega)) hX hXs hK hP hS (by decide) rfl rfl rfl rfl hl.1 (Nat.le_of_ble_eq_true rfl) prd_Y_layProgram_134 (fun H locs hP hS => ?_)
        refine lv_iconst (v := 1) hx hb prd_Y_layProgram_137 (by decide) ?_
        exact pr_retz E (Or.inr rfl) hP hS (pr_so hf) prd_Y_layProgram_138
      · have hf := pr_ie c22 hf
        refine lv_aload_n hx hb prd_Y_layProgram_79 rfl (lv_at hl 0 rfl) ?_
        refine lv_aload_n hx hb prd_Y_layProgram_80 rfl (lv_at hl 0 rfl) ?_
        refine pr_geti (v := (σ.1 6 9)) hx hb hts prs_Y hown hK hP 6 9 (by decide) rfl (hts _ prw_326) rfl rfl prd_Y_layProgram_81 ?_
        refine lv_iconst (v := 1) hx hb prd_Y_layProgram_84 (by decide) ?_
        refine lv_isub hx hb prd_Y_layProgram_85 ?_
        refine pr_puti (ty := .int) hx hb hts prs_Y prq_Y prtt_Y prtn_Y hown hK hP (hD _) hS 6 10 (by decide) rfl (hts _ prw_344) rfl rfl (prtt_Y 10 (by decide)) rfl rfl prd_Y_layProgram_86 (fun H locs hP hS => ?_)
        refine lv_aload_n hx hb prd_Y_layProgram_89 rfl (lv_at hl 0 rfl) ?_
        obtain ⟨r24, hr24, hf⟩ := pr_bi hf
        refine pr_callVi (rest := []) (res := r24) ⟨hx, hb, hml, hown, hts⟩ 6 (prc_Y_takeStatement hD hX 2 (Nat.le_refl _) (pr_sI σ 6 10 ((σ.1 6 9) - 1))  r24 hr24) (prg_Y_takeStatement hts prw_571 (by have := hh; omega)) hX hXs hK hP hS (by decide) rfl rfl rfl rfl hl.1 (Nat.le_of_ble_eq_true rfl) prd_Y_layProgram_90 (fun H locs hP hS => ?_)
        refine lv_istore_n (lv' := [(3, .int r24.1), (0, .ref (ad 6)), (2, .int x2)]) hx hb prd_Y_layProgram_93 rfl hl (by decide) rfl (fun ls hl => ?_)
        refine lv_iload_n hx hb prd_Y_layProgram_94 rfl (lv_at hl 0 rfl) ?_
        refine lv_iconst (v := (-1)) hx hb prd_Y_layProgram_95 (by decide) ?_
        refine lv_icmp_ne (tgt := 106) hx hb prd_Y_layProgram_96 (by decide) (fun c25 => ?_) (fun c25 => ?_)
        · have hf := pr_ie c25 hf
          refine lv_aload_n hx hb prd_Y_layProgram_106 rfl (lv_at hl 1 rfl) ?_
          refine lv_iload_n hx hb prd_Y_layProgram_107 rfl (lv_at hl 0 rfl) ?_
          obtain ⟨r26, hr26, hf⟩ := pr_bi hf
          refine pr_callVi (rest := []) (res := r26) ⟨hx, hb, hml, hown, hts⟩ 6 (prc_Y_holds hD hX 5 (Nat.le_refl _) r24.2 r24.1 r26 hr26) (prg_Y_holds hts prw_572 (by have := hh; omega)) hX hXs hK hP hS (by decide) rfl rfl rfl rfl hl.1 (Nat.le_of_ble_eq_true rfl) prd_Y_layProgram_108 (fun H locs hP hS => ?_)
          refine lv_if_eq (tgt := 122) hx hb prd_Y_layProgram_111 (by decide) (fun c27 => ?_) (fun c27 => ?_)
          · have hf := pr_it c27 hf
            refine lv_iconst (v := 0) hx hb prd_Y_layProgram_122 (by decide) ?_
            exact pr_retz E (Or.inl rfl) hP hS (pr_so hf) prd_Y_layProgram_123
          · have hf := pr_ie c27 hf
            refine lv_aload_n hx hb prd_Y_layProgram_114 rfl (lv_at hl 1 rfl) ?_
            refine lv_iload_n hx hb prd_Y_layProgram_115 rfl (lv_at hl 0 rfl) ?_
            obtain ⟨r28, hr28, hf⟩ := pr_bi hf
            refine pr_callVv (rest := []) (res := r28) ⟨hx, hb, hml, hown, hts⟩ 6 (prc_Y_layStatement hD hX 5 (Nat.le_refl _) r26.2 r24.1 r28 hr28) (prg_Y_layStatement hts prw_573 (by have := hh; omega)) hX hXs hK hP hS (by decide) rfl rfl rfl rfl hl.1 (Nat.le_of_ble_eq_true rfl) prd_Y_layProgram_116 (fun H locs hP hS => ?_)
            refine lv_goto (tgt := 124) hx hb prd_Y_layProgram_119 (by decide) ?_
            refine lv_iinc (v := (x2 + 1)) (lv' := [(2, .int (x2 + 1)), (3, .int r24.1), (0, .ref (ad 6))]) hx hb prd_Y_layProgram_124 hl (k := 2) rfl rfl (by decide) rfl (fun ls hl => ?_)
            refine lv_goto (tgt := 65) hx hb prd_Y_layProgram_127 (by decide) ?_
            exact ih r28 (x2 + 1) _ hf _ _ _ hP hS (lv_sub hl [2, 0] rfl)
        · have hf := pr_it c25 hf
          refine lv_aload_n hx hb prd_Y_layProgram_99 rfl (lv_at hl 1 rfl) ?_
          obtain ⟨r29, hr29, hf⟩ := pr_bi hf
          refine pr_callVv (rest := []) (res := r29) ⟨hx, hb, hml, hown, hts⟩ 6 (prc_Y_endBlock hD hX 2 (Nat.le_refl _) r24.2  r29 hr29) (prg_Y_endBlock hts prw_574 (by have := hh; omega)) hX hXs hK hP hS (by decide) rfl rfl rfl rfl hl.1 (Nat.le_of_ble_eq_true rfl) prd_Y_layProgram_100 (fun H locs hP hS => ?_)
          refine lv_goto (tgt := 124) hx hb prd_Y_layProgram_103 (by decide) ?_
          refine lv_iinc (v := (x2 + 1)) (lv' := [(2, .int (x2 + 1)), (3, .int r24.1), (0, .ref (ad 6))]) hx hb prd_Y_layProgram_124 hl (k := 2) rfl rfl (by decide) rfl (fun ls hl => ?_)
          refine lv_goto (tgt := 65) hx hb prd_Y_layProgram_127 (by decide) ?_
          exact ih r29 (x2 + 1) _ hf _ _ _ hP hS (lv_sub hl [2, 0] rfl)
set_option maxHeartbeats 4000000 in
set_option maxRecDepth 100000 in
theorem prc_Y_layProgram {l : Launch} {D : va_G} {ad : Nat → Nat} {dA : Nat → ClassId} {A : Nat → Prop} {t : Nat} (hD : ∀ σ : pr_St, va_D A (pr_w prc_L ad dA σ)) (hX : pr_Xok A (prX t A)) (h : Nat) (hh : 6 ≤ h) (σ : pr_St)  (res : (Int32 × pr_St)) (hf : prf_Y_layProgram σ  = some res) : Met l pry_Y_layProgram (Cond.code pry_Y_layProgram prb_Y_layProgram 4 (some .boolean) :: pr_U) (pr_rm h) (pr_Pc (prX t A) D pr_cl prc_L ad dA [.ref (ad 6)] σ) (pr_Qi D pr_cl prc_L ad dA A res) 0 0 A := by
  refine pr_entry (cc := prb_Y_layProgram) (maxL := 4) (ret := (some .boolean)) (by decide) (Nat.le_of_ble_eq_true rfl) hD hX ?_
  intro p e s m args below meth c E H locs hP hS ls hl
  have hl : lv_has ls 4 [(0, .ref (ad 6))] := hl
  have hf := hf.symm
  unfold prf_Y_layProgram at hf
  obtain ⟨hx, hb, hml, hown, hts, hr, hlocks, hK, hD, hX, hXs⟩ := id E
  refine lv_aload_n hx hb prd_Y_layProgram_0 rfl (lv_at hl 0 rfl) ?_
  refine pr_getr (t := 4) hx hb hts prs_Y hown hK hP 6 2 (by decide) rfl (hts _ prw_332) rfl prd_Y_layProgram_1 ?_
  obtain ⟨r30, hr30, hf⟩ := pr_bi hf
  refine pr_callVv (rest := []) (res := r30) ⟨hx, hb, hml, hown, hts⟩ 4 (prc_O_clear hD hX 0 (Nat.le_refl _) σ  r30 hr30) (prg_O_clear hts prw_568 (by have := hh; omega)) hX hXs hK hP hS (by decide) rfl rfl rfl rfl hl.1 (Nat.le_of_ble_eq_true rfl) prd_Y_layProgram_4 (fun H locs hP hS => ?_)
  refine lv_aload_n hx hb prd_Y_layProgram_7 rfl (lv_at hl 0 rfl) ?_
  refine pr_getr (t := 5) hx hb hts prs_Y hown hK hP 6 3 (by decide) rfl (hts _ prw_372) rfl prd_Y_layProgram_8 ?_
  refine lv_iconst (v := 0) hx hb prd_Y_layProgram_11 (by decide) ?_
  refine lv_iconst (v := 0) hx hb prd_Y_layProgram_12 (by decide) ?_
  obtain ⟨r31, hr31, hf⟩ := pr_bi hf
  refine pr_callVv (rest := []) (res := r31) ⟨hx, hb, hml, hown, hts⟩ 5 (prc_S_cutTo hD hX 0 (Nat.le_refl _) r30 0 0 r31 hr31) (prg_S_cutTo hts prw_375 (by have := hh; omega)) hX hXs hK hP hS (by decide) rfl rfl rfl rfl hl.1 (Nat.le_of_ble_eq_true rfl) prd_Y_layProgram_13 (fun H locs hP hS => ?_)
  refine lv_aload_n hx hb prd_Y_layProgram_16 rfl (lv_at hl 0 rfl) ?_
  refine lv_iconst (v := 0) hx hb prd_Y_layProgram_17 (by decide) ?_
  refine pr_puti (ty := .int) hx hb hts prs_Y prq_Y prtt_Y prtn_Y hown hK hP (hD _) hS 6 9 (by decide) rfl (hts _ prw_326) rfl rfl (prtt_Y 9 (by decide)) rfl rfl prd_Y_layProgram_18 (fun H locs hP hS => ?_)
  refine lv_aload_n hx hb prd_Y_layProgram_21 rfl (lv_at hl 0 rfl) ?_
  refine pr_getr (t := 2) hx hb hts prs_Y hown hK hP 6 1 (by decide) rfl (hts _ prw_337) rfl prd_Y_layProgram_22 ?_
  obtain ⟨r32, hr32, hf⟩ := pr_bi hf
  refine pr_callVr (rest := []) (r := r32) ⟨hx, hb, hml, hown, hts⟩ 2 (prc_G_functions hD hX 0 (Nat.le_refl _) (pr_sI r31 6 9 0)  r32 hr32) (prg_G_functions hts prw_569 (by have := hh; omega)) hX hXs hK hP hS (by decide) rfl rfl rfl rfl hl.1 (Nat.le_of_ble_eq_true rfl) prd_Y_layProgram_25 (fun H locs hP hS => ?_)
  refine lv_iconst (v := 1) hx hb prd_Y_layProgram_28 (by decide) ?_
  refine lv_isub hx hb prd_Y_layProgram_29 ?_
  refine lv_istore_n (lv' := [(1, .int (r32 - 1)), (0, .ref (ad 6))]) hx hb prd_Y_layProgram_30 rfl hl (by decide) rfl (fun ls hl => ?_)
  refine lv_aload_n hx hb prd_Y_layProgram_31 rfl (lv_at hl 1 rfl) ?_
  refine pr_getr (t := 2) hx hb hts prs_Y hown hK hP 6 1 (by decide) rfl (hts _ prw_337) rfl prd_Y_layProgram_32 ?_
  refine lv_iload_n hx hb prd_Y_layProgram_35 rfl (lv_at hl 0 rfl) ?_
  obtain ⟨r33, hr33, hf⟩ := pr_bi hf
  refine pr_callVr (rest := []) (r := r33) ⟨hx, hb, hml, hown, hts⟩ 2 (prc_G_parametersOf hD hX 1 (Nat.le_refl _) (pr_sI r31 6 9 0) (r32 - 1) r33 hr33) (prg_G_parametersOf hts prw_463 (by have := hh; omega)) hX hXs hK hP hS (by decide) rfl rfl rfl rfl hl.1 (Nat.le_of_ble_eq_true rfl) prd_Y_layProgram_36 (fun H locs hP hS => ?_)
  refine lv_if_le (tgt := 57) hx hb prd_Y_layProgram_39 (by decide) (fun c34 => ?_) (fun c34 => ?_)
  · have hf := pr_it c34 hf
    refine lv_aload_n hx hb prd_Y_layProgram_57 rfl (lv_at hl 1 rfl) ?_
    refine lv_iload_n hx hb prd_Y_layProgram_58 rfl (lv_at hl 0 rfl) ?_
    refine lv_iconst (v := (-1)) hx hb prd_Y_layProgram_59 (by decide) ?_
    obtain ⟨r35, hr35, hf⟩ := pr_bi hf
    refine pr_callVv (rest := []) (res := r35) ⟨hx, hb, hml, hown, hts⟩ 6 (prc_Y_openFunction hD hX 3 (Nat.le_refl _) (pr_sI r31 6 9 0) (r32 - 1) (-1) r35 hr35) (prg_Y_openFunction hts prw_548 (by have := hh; omega)) hX hXs hK hP hS (by decide) rfl rfl rfl rfl hl.1 (Nat.le_of_ble_eq_true rfl) prd_Y_layProgram_60 (fun H locs hP hS => ?_)
    refine lv_iconst (v := 0) hx hb prd_Y_layProgram_63 (by decide) ?_
    refine lv_istore_n (lv' := [(2, .int 0), (1, .int (r32 - 1)), (0, .ref (ad 6))]) hx hb prd_Y_layProgram_64 rfl hl (by decide) rfl (fun ls hl => ?_)
    exact prk_Y_layProgram_65 hh E pr_FU r35 0 _ hf _ _ _ hP hS (lv_sub hl [2, 0] rfl)
  · have hf := pr_ie c34 hf
    refine lv_aload_n hx hb prd_Y_layProgram_42 rfl (lv_at hl 1 rfl) ?_
    refine lv_bipush (v := 7) hx hb prd_Y_layProgram_43 (by decide) ?_
    refine lv_aload_n hx hb prd_Y_layProgram_45 rfl (lv_at hl 1 rfl) ?_
    refine pr_getr (t := 2) hx hb hts prs_Y hown hK hP 6 1 (by decide) rfl (hts _ prw_337) rfl prd_Y_layProgram_46 ?_
    refine lv_iload_n hx hb prd_Y_layProgram_49 rfl (lv_at hl 0 rfl) ?_
    obtain ⟨r36, hr36, hf⟩ := pr_bi hf
    refine pr_callVr (rest := [.int 7, .ref (ad 6)]) (r := r36) ⟨hx, hb, hml, hown, hts⟩ 2 (prc_G_nameOf hD hX 1 (Nat.le_refl _) (pr_sI r31 6 9 0) (r32 - 1) r36 hr36) (prg_G_nameOf hts prw_450 (by have := hh; omega)) hX hXs hK hP hS (by decide) rfl rfl rfl rfl hl.1 (Nat.le_of_ble_eq_true rfl) prd_Y_layProgram_50 (fun H locs hP hS => ?_)
    obtain ⟨r37, hr37, hf⟩ := pr_bi hf
    refine pr_callVi (rest := []) (res := r37) ⟨hx, hb, hml, hown, hts⟩ 6 (prc_Y_isWrong hD hX 1 (Nat.le_refl _) (pr_sI r31 6 9 0) 7 r36 r37 hr37) (prg_Y_isWrong hts prw_410 (by have := hh; omega)) hX hXs hK hP hS (by decide) rfl rfl rfl rfl hl.1 (Nat.le_of_ble_eq_true rfl) prd_Y_layProgram_53 (fun H locs hP hS => ?_)
    obtain ⟨hz38, hf⟩ := pr_z_in hf
    exact pr_retz E hz38 hP hS (pr_so hf) prd_Y_layProgram_56
-- Y_whatIsWrong
set_option maxHeartbeats 4000000 in
set_option maxRecDepth 100000 in
theorem prc_Y_whatIsWrong {l : Launch} {D : va_G} {ad : Nat → Nat} {dA : Nat → ClassId} {A : Nat → Prop} {t : Nat} (hD : ∀ σ : pr_St, va_D A (pr_w prc_L ad dA σ)) (hX : pr_Xok A (prX t A)) (h : Nat) (hh : 0 ≤ h) (σ : pr_St)  (res : Int32) (hf : prf_Y_whatIsWrong σ  = some res) : Met l pry_Y_whatIsWrong (Cond.code pry_Y_whatIsWrong prb_Y_whatIsWrong 1 (some .int) :: pr_U) (pr_rm h) (pr_Pc (prX t A) D pr_cl prc_L ad dA [.ref (ad 6)] σ) (pr_Qi D pr_cl prc_L ad dA A (res, σ)) 0 0 A := by
  refine pr_entry (cc := prb_Y_whatIsWrong) (maxL := 1) (ret := (some .int)) (by decide) (Nat.le_of_ble_eq_true rfl) hD hX ?_
  intro p e s m args below meth c E H locs hP hS ls hl
  have hl : lv_has ls 1 [(0, .ref (ad 6))] := hl
  have hf := hf.symm
  unfold prf_Y_whatIsWrong at hf
  obtain ⟨hx, hb, hml, hown, hts, hr, hlocks, hK, hD, hX, hXs⟩ := id E
  refine lv_aload_n hx hb prd_Y_whatIsWrong_0 rfl (lv_at hl 0 rfl) ?_
  refine pr_geti (v := (σ.1 6 14)) hx hb hts prs_Y hown hK hP 6 14 (by decide) rfl (hts _ prw_309) rfl rfl prd_Y_whatIsWrong_1 ?_
  exact pr_reti E hP hS (pr_ro hf) prd_Y_whatIsWrong_4
-- Y_whereItIs
set_option maxHeartbeats 4000000 in
set_option maxRecDepth 100000 in
theorem prc_Y_whereItIs {l : Launch} {D : va_G} {ad : Nat → Nat} {dA : Nat → ClassId} {A : Nat → Prop} {t : Nat} (hD : ∀ σ : pr_St, va_D A (pr_w prc_L ad dA σ)) (hX : pr_Xok A (prX t A)) (h : Nat) (hh : 0 ≤ h) (σ : pr_St)  (res : Int32) (hf : prf_Y_whereItIs σ  = some res) : Met l pry_Y_whereItIs (Cond.code pry_Y_whereItIs prb_Y_whereItIs 1 (some .int) :: pr_U) (pr_rm h) (pr_Pc (prX t A) D pr_cl prc_L ad dA [.ref (ad 6)] σ) (pr_Qi D pr_cl prc_L ad dA A (res, σ)) 0 0 A := by
  refine pr_entry (cc := prb_Y_whereItIs) (maxL := 1) (ret := (some .int)) (by decide) (Nat.le_of_ble_eq_true rfl) hD hX ?_
  intro p e s m args below meth c E H locs hP hS ls hl
  have hl : lv_has ls 1 [(0, .ref (ad 6))] := hl
  have hf := hf.symm
  unfold prf_Y_whereItIs at hf
  obtain ⟨hx, hb, hml, hown, hts, hr, hlocks, hK, hD, hX, hXs⟩ := id E
  refine lv_aload_n hx hb prd_Y_whereItIs_0 rfl (lv_at hl 0 rfl) ?_
  refine pr_geti (v := (σ.1 6 15)) hx hb hts prs_Y hown hK hP 6 15 (by decide) rfl (hts _ prw_312) rfl rfl prd_Y_whereItIs_1 ?_
  exact pr_reti E hP hS (pr_ro hf) prd_Y_whereItIs_4
