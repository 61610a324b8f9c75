-- P_feed
set_option maxHeartbeats 4000000 in
set_option maxRecDepth 100000 in
theorem prc_P_feed {l : Launch} {D : va_G} {ad : Nat → Nat} {dA : Nat → ClassId} {A : Nat → Prop} {t : Nat} (hD : ∀ σ : pr_St, va_D A (pr_w prc_L ad dA σ)) (hX : pr_Xok A (prX t A)) (h : Nat) (hh : 1 ≤ h) (σ : pr_St) (x1 : Int32) (x2 : Int32) (x3 : Int32) (x4 : Int32) (x5 : Int32) (res : (Int32 × pr_St)) (hf : prf_P_feed σ x1 x2 x3 x4 x5 = some res) : Met l pry_P_feed (Cond.code pry_P_feed prb_P_feed 6 (some .int) :: pr_U) (pr_rm h) (pr_Pc (prX t A) D pr_cl prc_L ad dA [.ref (ad 0), .int x1, .int x2, .int x3, .int x4, .int x5] σ) (pr_Qi D pr_cl prc_L ad dA A res) 0 0 A := by
  refine pr_entry (cc := prb_P_feed) (maxL := 6) (ret := (some .int)) (by decide) (Nat.le_of_ble_eq_true rfl) hD hX ?_
  intro p e s m args below meth c E H locs hP hS ls hl
  have hl : lv_has ls 6 [(0, .ref (ad 0)), (1, .int x1), (2, .int x2), (3, .int x3), (4, .int x4), (5, .int x5)] := hl
  have hf := hf.symm
  unfold prf_P_feed at hf
  obtain ⟨hx, hb, hml, hown, hts, hr, hlocks, hK, hD, hX, hXs⟩ := id E
  refine lv_aload_n hx hb prd_P_feed_0 rfl (lv_at hl 0 rfl) ?_
  refine pr_getr (t := 1) hx hb hts prs_P hown hK hP 0 0 (by decide) rfl (hts _ prw_9) rfl prd_P_feed_1 ?_
  obtain ⟨r9, hr9, hf⟩ := pr_bi hf
  refine pr_callVr (rest := []) (r := r9) ⟨hx, hb, hml, hown, hts⟩ 1 (prc_T_bytes hD hX 0 (Nat.le_refl _) σ  r9 hr9) (prg_T_bytes hts prw_10 (by have := hh; omega)) hX hXs hK hP hS (by decide) rfl rfl rfl rfl hl.1 (Nat.le_of_ble_eq_true rfl) prd_P_feed_4 (fun H locs hP hS => ?_)
  refine lv_bipush (v := 20) hx hb prd_P_feed_7 (by decide) ?_
  refine lv_iadd hx hb prd_P_feed_9 ?_
  refine lv_sipush (v := 8000) hx hb prd_P_feed_10 (by decide) ?_
  refine lv_icmp_le (tgt := 18) hx hb prd_P_feed_13 (by decide) (fun c10 => ?_) (fun c10 => ?_)
  · have hf := pr_it c10 hf
    refine lv_aload_n hx hb prd_P_feed_18 rfl (lv_at hl 0 rfl) ?_
    refine pr_getr (t := 1) hx hb hts prs_P hown hK hP 0 0 (by decide) rfl (hts _ prw_9) rfl prd_P_feed_19 ?_
    refine lv_iload_n hx hb prd_P_feed_22 rfl (lv_at hl 1 rfl) ?_
    obtain ⟨r11, hr11, hf⟩ := pr_bi hf
    refine pr_callVv (rest := []) (res := r11) ⟨hx, hb, hml, hown, hts⟩ 1 (prc_T_addBytes hD hX 0 (Nat.le_refl _) σ x1 r11 hr11) (prg_T_addBytes hts prw_11 (by have := hh; omega)) hX hXs hK hP hS (by decide) rfl rfl rfl rfl hl.1 (Nat.le_of_ble_eq_true rfl) prd_P_feed_23 (fun H locs hP hS => ?_)
    refine lv_aload_n hx hb prd_P_feed_26 rfl (lv_at hl 0 rfl) ?_
    refine pr_getr (t := 1) hx hb hts prs_P hown hK hP 0 0 (by decide) rfl (hts _ prw_9) rfl prd_P_feed_27 ?_
    refine lv_iload_n hx hb prd_P_feed_30 rfl (lv_at hl 2 rfl) ?_
    obtain ⟨r12, hr12, hf⟩ := pr_bi hf
    refine pr_callVv (rest := []) (res := r12) ⟨hx, hb, hml, hown, hts⟩ 1 (prc_T_addBytes hD hX 0 (Nat.le_refl _) r11 x2 r12 hr12) (prg_T_addBytes hts prw_11 (by have := hh; omega)) hX hXs hK hP hS (by decide) rfl rfl rfl rfl hl.1 (Nat.le_of_ble_eq_true rfl) prd_P_feed_31 (fun H locs hP hS => ?_)
    refine lv_aload_n hx hb prd_P_feed_34 rfl (lv_at hl 0 rfl) ?_
    refine pr_getr (t := 1) hx hb hts prs_P hown hK hP 0 0 (by decide) rfl (hts _ prw_9) rfl prd_P_feed_35 ?_
    refine lv_iload_n hx hb prd_P_feed_38 rfl (lv_at hl 3 rfl) ?_
    obtain ⟨r13, hr13, hf⟩ := pr_bi hf
    refine pr_callVv (rest := []) (res := r13) ⟨hx, hb, hml, hown, hts⟩ 1 (prc_T_addBytes hD hX 0 (Nat.le_refl _) r12 x3 r13 hr13) (prg_T_addBytes hts prw_11 (by have := hh; omega)) hX hXs hK hP hS (by decide) rfl rfl rfl rfl hl.1 (Nat.le_of_ble_eq_true rfl) prd_P_feed_39 (fun H locs hP hS => ?_)
    refine lv_aload_n hx hb prd_P_feed_42 rfl (lv_at hl 0 rfl) ?_
    refine pr_getr (t := 1) hx hb hts prs_P hown hK hP 0 0 (by decide) rfl (hts _ prw_9) rfl prd_P_feed_43 ?_
    refine lv_iload hx hb prd_P_feed_46 (lv_at hl 4 rfl) ?_
    obtain ⟨r14, hr14, hf⟩ := pr_bi hf
    refine pr_callVv (rest := []) (res := r14) ⟨hx, hb, hml, hown, hts⟩ 1 (prc_T_addBytes hD hX 0 (Nat.le_refl _) r13 x4 r14 hr14) (prg_T_addBytes hts prw_11 (by have := hh; omega)) hX hXs hK hP hS (by decide) rfl rfl rfl rfl hl.1 (Nat.le_of_ble_eq_true rfl) prd_P_feed_48 (fun H locs hP hS => ?_)
    refine lv_aload_n hx hb prd_P_feed_51 rfl (lv_at hl 0 rfl) ?_
    refine pr_getr (t := 1) hx hb hts prs_P hown hK hP 0 0 (by decide) rfl (hts _ prw_9) rfl prd_P_feed_52 ?_
    refine lv_iload hx hb prd_P_feed_55 (lv_at hl 5 rfl) ?_
    obtain ⟨r15, hr15, hf⟩ := pr_bi hf
    refine pr_callVv (rest := []) (res := r15) ⟨hx, hb, hml, hown, hts⟩ 1 (prc_T_addBytes hD hX 0 (Nat.le_refl _) r14 x5 r15 hr15) (prg_T_addBytes hts prw_11 (by have := hh; omega)) hX hXs hK hP hS (by decide) rfl rfl rfl rfl hl.1 (Nat.le_of_ble_eq_true rfl) prd_P_feed_57 (fun H locs hP hS => ?_)
    refine lv_aload_n hx hb prd_P_feed_60 rfl (lv_at hl 0 rfl) ?_
    refine pr_getr (t := 1) hx hb hts prs_P hown hK hP 0 0 (by decide) rfl (hts _ prw_9) rfl prd_P_feed_61 ?_
    obtain ⟨r16, hr16, hf⟩ := pr_bi hf
    refine pr_callVr (rest := []) (r := r16) ⟨hx, hb, hml, hown, hts⟩ 1 (prc_T_bytes hD hX 0 (Nat.le_refl _) r15  r16 hr16) (prg_T_bytes hts prw_10 (by have := hh; omega)) hX hXs hK hP hS (by decide) rfl rfl rfl rfl hl.1 (Nat.le_of_ble_eq_true rfl) prd_P_feed_64 (fun H locs hP hS => ?_)
    exact pr_reti E hP hS (pr_so hf) prd_P_feed_67
  · have hf := pr_ie c10 hf
    refine lv_iconst (v := (-1)) hx hb prd_P_feed_16 (by decide) ?_
    exact pr_reti E hP hS (pr_so hf) prd_P_feed_17
-- P_end
set_option maxHeartbeats 4000000 in
set_option maxRecDepth 100000 in
theorem prc_P_end {l : Launch} {D : va_G} {ad : Nat → Nat} {dA : Nat → ClassId} {A : Nat → Prop} {t : Nat} (hD : ∀ σ : pr_St, va_D A (pr_w prc_L ad dA σ)) (hX : pr_Xok A (prX t A)) (h : Nat) (hh : 642 ≤ h) (σ : pr_St) (x1 : Int32) (res : (Int32 × pr_St)) (hf : prf_P_end σ x1 = some res) : Met l pry_P_end (Cond.code pry_P_end prb_P_end 2 (some .int) :: pr_U) (pr_rm h) (pr_Pc (prX t A) D pr_cl prc_L ad dA [.ref (ad 0), .int x1] σ) (pr_Qi D pr_cl prc_L ad dA A res) 0 0 A := by
  refine pr_entry (cc := prb_P_end) (maxL := 2) (ret := (some .int)) (by decide) (Nat.le_of_ble_eq_true rfl) hD hX ?_
  intro p e s m args below meth c E H locs hP hS ls hl
  have hl : lv_has ls 2 [(0, .ref (ad 0)), (1, .int x1)] := hl
  have hf := hf.symm
  unfold prf_P_end at hf
  obtain ⟨hx, hb, hml, hown, hts, hr, hlocks, hK, hD, hX, hXs⟩ := id E
  refine lv_iload_n hx hb prd_P_end_0 rfl (lv_at hl 1 rfl) ?_
  refine lv_if_lt (tgt := 15) hx hb prd_P_end_1 (by decide) (fun c15 => ?_) (fun c15 => ?_)
  · have hf := pr_it c15 hf
    refine lv_iconst (v := (-1)) hx hb prd_P_end_15 (by decide) ?_
    exact pr_reti E hP hS (pr_so hf) prd_P_end_16
  · have hf := pr_ie c15 hf
    refine lv_iload_n hx hb prd_P_end_4 rfl (lv_at hl 1 rfl) ?_
    refine lv_aload_n hx hb prd_P_end_5 rfl (lv_at hl 0 rfl) ?_
    refine pr_getr (t := 1) hx hb hts prs_P hown hK hP 0 0 (by decide) rfl (hts _ prw_9) rfl prd_P_end_6 ?_
    obtain ⟨r16, hr16, hf⟩ := pr_bi hf
    refine pr_callVr (rest := [.int x1]) (r := r16) ⟨hx, hb, hml, hown, hts⟩ 1 (prc_T_bytes hD hX 0 (Nat.le_refl _) σ  r16 hr16) (prg_T_bytes hts prw_10 (by have := hh; omega)) hX hXs hK hP hS (by decide) rfl rfl rfl rfl hl.1 (Nat.le_of_ble_eq_true rfl) prd_P_end_9 (fun H locs hP hS => ?_)
    refine lv_icmp_le (tgt := 17) hx hb prd_P_end_12 (by decide) (fun c17 => ?_) (fun c17 => ?_)
    · have hf := pr_it c17 hf
      refine lv_aload_n hx hb prd_P_end_17 rfl (lv_at hl 0 rfl) ?_
      refine lv_iconst (v := 1) hx hb prd_P_end_18 (by decide) ?_
      refine pr_puti (ty := .boolean) hx hb hts prs_P prq_P prtt_P prtn_P hown hK hP (hD _) hS 0 5 (by decide) rfl (hts _ prw_584) rfl rfl (prtt_P 5 (by decide)) (by decide) (by decide) prd_P_end_19 (fun H locs hP hS => ?_)
      refine lv_aload_n hx hb prd_P_end_22 rfl (lv_at hl 0 rfl) ?_
      refine lv_iconst (v := 0) hx hb prd_P_end_23 (by decide) ?_
      refine pr_puti (ty := .int) hx hb hts prs_P prq_P prtt_P prtn_P hown hK hP (hD _) hS 0 6 (by decide) rfl (hts _ prw_585) rfl rfl (prtt_P 6 (by decide)) rfl rfl prd_P_end_24 (fun H locs hP hS => ?_)
      refine lv_aload_n hx hb prd_P_end_27 rfl (lv_at hl 0 rfl) ?_
      refine lv_iconst (v := 0) hx hb prd_P_end_28 (by decide) ?_
      refine pr_puti (ty := .int) hx hb hts prs_P prq_P prtt_P prtn_P hown hK hP (hD _) hS 0 7 (by decide) rfl (hts _ prw_586) rfl rfl (prtt_P 7 (by decide)) rfl rfl prd_P_end_29 (fun H locs hP hS => ?_)
      refine lv_aload_n hx hb prd_P_end_32 rfl (lv_at hl 0 rfl) ?_
      refine pr_getr (t := 7) hx hb hts prs_P hown hK hP 0 4 (by decide) rfl (hts _ prw_587) rfl prd_P_end_33 ?_
      obtain ⟨r18, hr18, hf⟩ := pr_bi hf
      refine pr_callVv (rest := []) (res := r18) ⟨hx, hb, hml, hown, hts⟩ 7 (prc_M_forget hD hX 0 (Nat.le_refl _) (pr_sI (pr_sI (pr_sI σ 0 5 1) 0 6 0) 0 7 0)  r18 hr18) (prg_M_forget hts prw_588 (by have := hh; omega)) hX hXs hK hP hS (by decide) rfl rfl rfl rfl hl.1 (Nat.le_of_ble_eq_true rfl) prd_P_end_36 (fun H locs hP hS => ?_)
      refine lv_aload_n hx hb prd_P_end_39 rfl (lv_at hl 0 rfl) ?_
      refine pr_getr (t := 1) hx hb hts prs_P hown hK hP 0 0 (by decide) rfl (hts _ prw_9) rfl prd_P_end_40 ?_
      refine lv_iload_n hx hb prd_P_end_43 rfl (lv_at hl 1 rfl) ?_
      obtain ⟨r19, hr19, hf⟩ := pr_bi hf
      refine pr_callVv (rest := []) (res := r19) ⟨hx, hb, hml, hown, hts⟩ 1 (prc_T_readText hD hX 4 (Nat.le_refl _) r18 x1 r19 hr19) (prg_T_readText hts prw_589 (by have := hh; omega)) hX hXs hK hP hS (by decide) rfl rfl rfl rfl hl.1 (Nat.le_of_ble_eq_true rfl) prd_P_end_44 (fun H locs hP hS => ?_)
      refine lv_aload_n hx hb prd_P_end_47 rfl (lv_at hl 0 rfl) ?_
      refine pr_getr (t := 3) hx hb hts prs_P hown hK hP 0 1 (by decide) rfl (hts _ prw_590) rfl prd_P_end_48 ?_
      obtain ⟨r20, hr20, hf⟩ := pr_bi hf
      refine pr_callVi (rest := []) (res := r20) ⟨hx, hb, hml, hown, hts⟩ 3 (prc_R_readText hD hX 641 (Nat.le_refl _) r19  r20 hr20) (prg_R_readText hts prw_591 (by have := hh; omega)) hX hXs hK hP hS (by decide) rfl rfl rfl rfl hl.1 (Nat.le_of_ble_eq_true rfl) prd_P_end_51 (fun H locs hP hS => ?_)
      refine lv_if_ne (tgt := 77) hx hb prd_P_end_54 (by decide) (fun c21 => ?_) (fun c21 => ?_)
      · have hf := pr_ie c21 hf
        refine lv_aload_n hx hb prd_P_end_77 rfl (lv_at hl 0 rfl) ?_
        refine pr_getr (t := 6) hx hb hts prs_P hown hK hP 0 3 (by decide) rfl (hts _ prw_592) rfl prd_P_end_78 ?_
        obtain ⟨r22, hr22, hf⟩ := pr_bi hf
        refine pr_callVi (rest := []) (res := r22) ⟨hx, hb, hml, hown, hts⟩ 6 (prc_Y_layProgram hD hX 6 (Nat.le_refl _) r20.2  r22 hr22) (prg_Y_layProgram hts prw_593 (by have := hh; omega)) hX hXs hK hP hS (by decide) rfl rfl rfl rfl hl.1 (Nat.le_of_ble_eq_true rfl) prd_P_end_81 (fun H locs hP hS => ?_)
        refine lv_if_ne (tgt := 118) hx hb prd_P_end_84 (by decide) (fun c23 => ?_) (fun c23 => ?_)
        · have hf := pr_ie c23 hf
          refine lv_iconst (v := 0) hx hb prd_P_end_118 (by decide) ?_
          exact pr_reti E hP hS (pr_so hf) prd_P_end_119
        · have hf := pr_it c23 hf
          refine lv_aload_n hx hb prd_P_end_87 rfl (lv_at hl 0 rfl) ?_
          refine lv_aload_n hx hb prd_P_end_88 rfl (lv_at hl 0 rfl) ?_
          refine pr_getr (t := 6) hx hb hts prs_P hown hK hP 0 3 (by decide) rfl (hts _ prw_592) rfl prd_P_end_89 ?_
          obtain ⟨r24, hr24, hf⟩ := pr_bi hf
          refine pr_callVr (rest := [.ref (ad 0)]) (r := r24) ⟨hx, hb, hml, hown, hts⟩ 6 (prc_Y_whatIsWrong hD hX 0 (Nat.le_refl _) r22.2  r24 hr24) (prg_Y_whatIsWrong hts prw_594 (by have := hh; omega)) hX hXs hK hP hS (by decide) rfl rfl rfl rfl hl.1 (Nat.le_of_ble_eq_true rfl) prd_P_end_92 (fun H locs hP hS => ?_)
          refine pr_puti (ty := .int) hx hb hts prs_P prq_P prtt_P prtn_P hown hK hP (hD _) hS 0 6 (by decide) rfl (hts _ prw_585) rfl rfl (prtt_P 6 (by decide)) rfl rfl prd_P_end_95 (fun H locs hP hS => ?_)
          refine lv_aload_n hx hb prd_P_end_98 rfl (lv_at hl 0 rfl) ?_
          refine lv_aload_n hx hb prd_P_end_99 rfl (lv_at hl 0 rfl) ?_
          refine pr_getr (t := 6) hx hb hts prs_P hown hK hP 0 3 (by decide) rfl (hts _ prw_592) rfl prd_P_end_100 ?_
          obtain ⟨r25, hr25, hf⟩ := pr_bi hf
          refine pr_callVr (rest := [.ref (ad 0)]) (r := r25) ⟨hx, hb, hml, hown, hts⟩ 6 (prc_Y_whereItIs hD hX 0 (Nat.le_refl _) (pr_sI r22.2 0 6 r24)  r25 hr25) (prg_Y_whereItIs hts prw_595 (by have := hh; omega)) hX hXs hK hP hS (by decide) rfl rfl rfl rfl hl.1 (Nat.le_of_ble_eq_true rfl) prd_P_end_103 (fun H locs hP hS => ?_)
          refine pr_puti (ty := .int) hx hb hts prs_P prq_P prtt_P prtn_P hown hK hP (hD _) hS 0 7 (by decide) rfl (hts _ prw_586) rfl rfl (prtt_P 7 (by decide)) rfl rfl prd_P_end_106 (fun H locs hP hS => ?_)
          refine lv_aload_n hx hb prd_P_end_109 rfl (lv_at hl 0 rfl) ?_
          refine pr_getr (t := 4) hx hb hts prs_P hown hK hP 0 2 (by decide) rfl (hts _ prw_596) rfl prd_P_end_110 ?_
          obtain ⟨r26, hr26, hf⟩ := pr_bi hf
          refine pr_callVv (rest := []) (res := r26) ⟨hx, hb, hml, hown, hts⟩ 4 (prc_O_leaveOnlyTheEnd hD hX 3 (Nat.le_refl _) (pr_sI (pr_sI r22.2 0 6 r24) 0 7 r25)  r26 hr26) (prg_O_leaveOnlyTheEnd hts prw_597 (by have := hh; omega)) hX hXs hK hP hS (by decide) rfl rfl rfl rfl hl.1 (Nat.le_of_ble_eq_true rfl) prd_P_end_113 (fun H locs hP hS => ?_)
          refine lv_iconst (v := 2) hx hb prd_P_end_116 (by decide) ?_
          exact pr_reti E hP hS (pr_so hf) prd_P_end_117
      · have hf := pr_it c21 hf
        refine lv_aload_n hx hb prd_P_end_57 rfl (lv_at hl 0 rfl) ?_
        refine lv_aload_n hx hb prd_P_end_58 rfl (lv_at hl 0 rfl) ?_
        refine pr_getr (t := 3) hx hb hts prs_P hown hK hP 0 1 (by decide) rfl (hts _ prw_590) rfl prd_P_end_59 ?_
        obtain ⟨r27, hr27, hf⟩ := pr_bi hf
        refine pr_callVr (rest := [.ref (ad 0)]) (r := r27) ⟨hx, hb, hml, hown, hts⟩ 3 (prc_R_faultPlace hD hX 1 (Nat.le_refl _) r20.2  r27 hr27) (prg_R_faultPlace hts prw_598 (by have := hh; omega)) hX hXs hK hP hS (by decide) rfl rfl rfl rfl hl.1 (Nat.le_of_ble_eq_true rfl) prd_P_end_62 (fun H locs hP hS => ?_)
        refine pr_puti (ty := .int) hx hb hts prs_P prq_P prtt_P prtn_P hown hK hP (hD _) hS 0 7 (by decide) rfl (hts _ prw_586) rfl rfl (prtt_P 7 (by decide)) rfl rfl prd_P_end_65 (fun H locs hP hS => ?_)
        refine lv_aload_n hx hb prd_P_end_68 rfl (lv_at hl 0 rfl) ?_
        refine pr_getr (t := 4) hx hb hts prs_P hown hK hP 0 2 (by decide) rfl (hts _ prw_596) rfl prd_P_end_69 ?_
        obtain ⟨r28, hr28, hf⟩ := pr_bi hf
        refine pr_callVv (rest := []) (res := r28) ⟨hx, hb, hml, hown, hts⟩ 4 (prc_O_leaveOnlyTheEnd hD hX 3 (Nat.le_refl _) (pr_sI r20.2 0 7 r27)  r28 hr28) (prg_O_leaveOnlyTheEnd hts prw_597 (by have := hh; omega)) hX hXs hK hP hS (by decide) rfl rfl rfl rfl hl.1 (Nat.le_of_ble_eq_true rfl) prd_P_end_72 (fun H locs hP hS => ?_)
        refine lv_iconst (v := 1) hx hb prd_P_end_75 (by decide) ?_
        exact pr_reti E hP hS (pr_so hf) prd_P_end_76
    · have hf := pr_ie c17 hf
      refine lv_iconst (v := (-1)) hx hb prd_P_end_15 (by decide) ?_
      exact pr_reti E hP hS (pr_so hf) prd_P_end_16
-- P_told
set_option maxHeartbeats 4000000 in
set_option maxRecDepth 100000 in
theorem prc_P_told {l : Launch} {D : va_G} {ad : Nat → Nat} {dA : Nat → ClassId} {A : Nat → Prop} {t : Nat} (hD : ∀ σ : pr_St, va_D A (pr_w prc_L ad dA σ)) (hX : pr_Xok A (prX t A)) (h : Nat) (hh : 0 ≤ h) (σ : pr_St) (x1 : Int32) (res : Int32) (hf : prf_P_told σ x1 = some res) : Met l pry_P_told (Cond.code pry_P_told prb_P_told 2 (some .int) :: pr_U) (pr_rm h) (pr_Pc (prX t A) D pr_cl prc_L ad dA [.ref (ad 0), .int x1] σ) (pr_Qi D pr_cl prc_L ad dA A (res, σ)) 0 0 A := by
  refine pr_entry (cc := prb_P_told) (maxL := 2) (ret := (some .int)) (by decide) (Nat.le_of_ble_eq_true rfl) hD hX ?_
  intro p e s m args below meth c E H locs hP hS ls hl
  have hl : lv_has ls 2 [(0, .ref (ad 0)), (1, .int x1)] := hl
  have hf := hf.symm
  unfold prf_P_told at hf
  obtain ⟨hx, hb, hml, hown, hts, hr, hlocks, hK, hD, hX, hXs⟩ := id E
  refine lv_aload_n hx hb prd_P_told_0 rfl (lv_at hl 0 rfl) ?_
  refine pr_geti (v := (σ.1 0 5)) hx hb hts prs_P hown hK hP 0 5 (by decide) rfl (hts _ prw_584) rfl rfl prd_P_told_1 ?_
  refine lv_if_eq (tgt := 16) hx hb prd_P_told_4 (by decide) (fun c5 => ?_) (fun c5 => ?_)
  · have hf := pr_it c5 hf
    refine lv_iconst (v := (-1)) hx hb prd_P_told_16 (by decide) ?_
    exact pr_reti E hP hS (pr_ro hf) prd_P_told_17
  · have hf := pr_ie c5 hf
    refine lv_iload_n hx hb prd_P_told_7 rfl (lv_at hl 1 rfl) ?_
    refine lv_if_lt (tgt := 16) hx hb prd_P_told_8 (by decide) (fun c6 => ?_) (fun c6 => ?_)
    · have hf := pr_it c6 hf
      refine lv_iconst (v := (-1)) hx hb prd_P_told_16 (by decide) ?_
      exact pr_reti E hP hS (pr_ro hf) prd_P_told_17
    · have hf := pr_ie c6 hf
      refine lv_iload_n hx hb prd_P_told_11 rfl (lv_at hl 1 rfl) ?_
      refine lv_iconst (v := 1) hx hb prd_P_told_12 (by decide) ?_
      refine lv_icmp_le (tgt := 18) hx hb prd_P_told_13 (by decide) (fun c7 => ?_) (fun c7 => ?_)
      · have hf := pr_it c7 hf
        refine lv_iload_n hx hb prd_P_told_18 rfl (lv_at hl 1 rfl) ?_
        refine lv_if_ne (tgt := 29) hx hb prd_P_told_19 (by decide) (fun c8 => ?_) (fun c8 => ?_)
        · have hf := pr_ie c8 hf
          refine lv_aload_n hx hb prd_P_told_29 rfl (lv_at hl 0 rfl) ?_
          refine pr_geti (v := (σ.1 0 7)) hx hb hts prs_P hown hK hP 0 7 (by decide) rfl (hts _ prw_586) rfl rfl prd_P_told_30 ?_
          exact pr_reti E hP hS (pr_ro hf) prd_P_told_33
        · have hf := pr_it c8 hf
          refine lv_aload_n hx hb prd_P_told_22 rfl (lv_at hl 0 rfl) ?_
          refine pr_geti (v := (σ.1 0 6)) hx hb hts prs_P hown hK hP 0 6 (by decide) rfl (hts _ prw_585) rfl rfl prd_P_told_23 ?_
          refine lv_goto (tgt := 33) hx hb prd_P_told_26 (by decide) ?_
          exact pr_reti E hP hS (pr_ro hf) prd_P_told_33
      · have hf := pr_ie c7 hf
        refine lv_iconst (v := (-1)) hx hb prd_P_told_16 (by decide) ?_
        exact pr_reti E hP hS (pr_ro hf) prd_P_told_17
-- P_points
set_option maxHeartbeats 4000000 in
set_option maxRecDepth 100000 in
theorem prc_P_points {l : Launch} {D : va_G} {ad : Nat → Nat} {dA : Nat → ClassId} {A : Nat → Prop} {t : Nat} (hD : ∀ σ : pr_St, va_D A (pr_w prc_L ad dA σ)) (hX : pr_Xok A (prX t A)) (h : Nat) (hh : 1 ≤ h) (σ : pr_St)  (res : Int32) (hf : prf_P_points σ  = some res) : Met l pry_P_points (Cond.code pry_P_points prb_P_points 1 (some .int) :: pr_U) (pr_rm h) (pr_Pc (prX t A) D pr_cl prc_L ad dA [.ref (ad 0)] σ) (pr_Qi D pr_cl prc_L ad dA A (res, σ)) 0 0 A := by
  refine pr_entry (cc := prb_P_points) (maxL := 1) (ret := (some .int)) (by decide) (Nat.le_of_ble_eq_true rfl) hD hX ?_
  intro p e s m args below meth c E H locs hP hS ls hl
  have hl : lv_has ls 1 [(0, .ref (ad 0))] := hl
  have hf := hf.symm
  unfold prf_P_points at hf
  obtain ⟨hx, hb, hml, hown, hts, hr, hlocks, hK, hD, hX, hXs⟩ := id E
  refine lv_aload_n hx hb prd_P_points_0 rfl (lv_at hl 0 rfl) ?_
  refine pr_getr (t := 4) hx hb hts prs_P hown hK hP 0 2 (by decide) rfl (hts _ prw_596) rfl prd_P_points_1 ?_
  obtain ⟨r2, hr2, hf⟩ := pr_bi hf
  refine pr_callVr (rest := []) (r := r2) ⟨hx, hb, hml, hown, hts⟩ 4 (prc_O_count hD hX 0 (Nat.le_refl _) σ  r2 hr2) (prg_O_count hts prw_605 (by have := hh; omega)) hX hXs hK hP hS (by decide) rfl rfl rfl rfl hl.1 (Nat.le_of_ble_eq_true rfl) prd_P_points_4 (fun H locs hP hS => ?_)
  exact pr_reti E hP hS (pr_ro hf) prd_P_points_7
-- P_point
set_option maxHeartbeats 4000000 in
set_option maxRecDepth 100000 in
theorem prc_P_point {l : Launch} {D : va_G} {ad : Nat → Nat} {dA : Nat → ClassId} {A : Nat → Prop} {t : Nat} (hD : ∀ σ : pr_St, va_D A (pr_w prc_L ad dA σ)) (hX : pr_Xok A (prX t A)) (h : Nat) (hh : 2 ≤ h) (σ : pr_St) (x1 : Int32) (x2 : Int32) (res : Int32) (hf : prf_P_point σ x1 x2 = some res) : Met l pry_P_point (Cond.code pry_P_point prb_P_point 3 (some .int) :: pr_U) (pr_rm h) (pr_Pc (prX t A) D pr_cl prc_L ad dA [.ref (ad 0), .int x1, .int x2] σ) (pr_Qi D pr_cl prc_L ad dA A (res, σ)) 0 0 A := by
  refine pr_entry (cc := prb_P_point) (maxL := 3) (ret := (some .int)) (by decide) (Nat.le_of_ble_eq_true rfl) hD hX ?_
  intro p e s m args below meth c E H locs hP hS ls hl
  have hl : lv_has ls 3 [(0, .ref (ad 0)), (1, .int x1), (2, .int x2)] := hl
  have hf := hf.symm
  unfold prf_P_point at hf
  obtain ⟨hx, hb, hml, hown, hts, hr, hlocks, hK, hD, hX, hXs⟩ := id E
  refine lv_iload_n hx hb prd_P_point_0 rfl (lv_at hl 1 rfl) ?_
  refine lv_if_lt (tgt := 15) hx hb prd_P_point_1 (by decide) (fun c14 => ?_) (fun c14 => ?_)
  · have hf := pr_it c14 hf
    refine lv_iconst (v := (-1)) hx hb prd_P_point_15 (by decide) ?_
    exact pr_reti E hP hS (pr_ro hf) prd_P_point_16
  · have hf := pr_ie c14 hf
    refine lv_iload_n hx hb prd_P_point_4 rfl (lv_at hl 1 rfl) ?_
    refine lv_aload_n hx hb prd_P_point_5 rfl (lv_at hl 0 rfl) ?_
    refine pr_getr (t := 4) hx hb hts prs_P hown hK hP 0 2 (by decide) rfl (hts _ prw_596) rfl prd_P_point_6 ?_
    obtain ⟨r15, hr15, hf⟩ := pr_bi hf
    refine pr_callVr (rest := [.int x1]) (r := r15) ⟨hx, hb, hml, hown, hts⟩ 4 (prc_O_count hD hX 0 (Nat.le_refl _) σ  r15 hr15) (prg_O_count hts prw_605 (by have := hh; omega)) hX hXs hK hP hS (by decide) rfl rfl rfl rfl hl.1 (Nat.le_of_ble_eq_true rfl) prd_P_point_9 (fun H locs hP hS => ?_)
    refine lv_icmp_lt (tgt := 17) hx hb prd_P_point_12 (by decide) (fun c16 => ?_) (fun c16 => ?_)
    · have hf := pr_it c16 hf
      refine lv_iload_n hx hb prd_P_point_17 rfl (lv_at hl 2 rfl) ?_
      by_cases c17 : x2 = 0
      · have hf := pr_it c17 hf
        refine lv_tableIn (tgt := 52) (off := 34) hx hb prd_P_point_18 (by rw [c17]; decide) (by rw [c17]; decide) (by rw [c17] <;> rfl) (by decide) ?_
        refine lv_aload_n hx hb prd_P_point_52 rfl (lv_at hl 0 rfl) ?_
        refine pr_getr (t := 4) hx hb hts prs_P hown hK hP 0 2 (by decide) rfl (hts _ prw_596) rfl prd_P_point_53 ?_
        refine lv_iload_n hx hb prd_P_point_56 rfl (lv_at hl 1 rfl) ?_
        obtain ⟨r18, hr18, hf⟩ := pr_bi hf
        refine pr_callVr (rest := []) (r := r18) ⟨hx, hb, hml, hown, hts⟩ 4 (prc_O_kindOf hD hX 1 (Nat.le_refl _) σ x1 r18 hr18) (prg_O_kindOf hts prw_615 (by have := hh; omega)) hX hXs hK hP hS (by decide) rfl rfl rfl rfl hl.1 (Nat.le_of_ble_eq_true rfl) prd_P_point_57 (fun H locs hP hS => ?_)
        exact pr_reti E hP hS (pr_ro hf) prd_P_point_60
      · have hf := pr_ie c17 hf
        by_cases c19 : x2 = 1
        · have hf := pr_it c19 hf
          refine lv_tableIn (tgt := 61) (off := 43) hx hb prd_P_point_18 (by rw [c19]; decide) (by rw [c19]; decide) (by rw [c19] <;> rfl) (by decide) ?_
          refine lv_aload_n hx hb prd_P_point_61 rfl (lv_at hl 0 rfl) ?_
          refine pr_getr (t := 4) hx hb hts prs_P hown hK hP 0 2 (by decide) rfl (hts _ prw_596) rfl prd_P_point_62 ?_
          refine lv_iload_n hx hb prd_P_point_65 rfl (lv_at hl 1 rfl) ?_
          obtain ⟨r20, hr20, hf⟩ := pr_bi hf
          refine pr_callVr (rest := []) (r := r20) ⟨hx, hb, hml, hown, hts⟩ 4 (prc_O_placeOf hD hX 1 (Nat.le_refl _) σ x1 r20 hr20) (prg_O_placeOf hts prw_616 (by have := hh; omega)) hX hXs hK hP hS (by decide) rfl rfl rfl rfl hl.1 (Nat.le_of_ble_eq_true rfl) prd_P_point_66 (fun H locs hP hS => ?_)
          exact pr_reti E hP hS (pr_ro hf) prd_P_point_69
        · have hf := pr_ie c19 hf
          by_cases c21 : x2 = 2
          · have hf := pr_it c21 hf
            refine lv_tableIn (tgt := 70) (off := 52) hx hb prd_P_point_18 (by rw [c21]; decide) (by rw [c21]; decide) (by rw [c21] <;> rfl) (by decide) ?_
            refine lv_aload_n hx hb prd_P_point_70 rfl (lv_at hl 0 rfl) ?_
            refine pr_getr (t := 4) hx hb hts prs_P hown hK hP 0 2 (by decide) rfl (hts _ prw_596) rfl prd_P_point_71 ?_
            refine lv_iload_n hx hb prd_P_point_74 rfl (lv_at hl 1 rfl) ?_
            obtain ⟨r22, hr22, hf⟩ := pr_bi hf
            refine pr_callVr (rest := []) (r := r22) ⟨hx, hb, hml, hown, hts⟩ 4 (prc_O_numbersAt hD hX 1 (Nat.le_refl _) σ x1 r22 hr22) (prg_O_numbersAt hts prw_617 (by have := hh; omega)) hX hXs hK hP hS (by decide) rfl rfl rfl rfl hl.1 (Nat.le_of_ble_eq_true rfl) prd_P_point_75 (fun H locs hP hS => ?_)
            exact pr_reti E hP hS (pr_ro hf) prd_P_point_78
          · have hf := pr_ie c21 hf
            by_cases c23 : x2 = 3
            · have hf := pr_it c23 hf
              refine lv_tableIn (tgt := 79) (off := 61) hx hb prd_P_point_18 (by rw [c23]; decide) (by rw [c23]; decide) (by rw [c23] <;> rfl) (by decide) ?_
              refine lv_aload_n hx hb prd_P_point_79 rfl (lv_at hl 0 rfl) ?_
              refine pr_getr (t := 4) hx hb hts prs_P hown hK hP 0 2 (by decide) rfl (hts _ prw_596) rfl prd_P_point_80 ?_
              refine lv_iload_n hx hb prd_P_point_83 rfl (lv_at hl 1 rfl) ?_
              obtain ⟨r24, hr24, hf⟩ := pr_bi hf
              refine pr_callVr (rest := []) (r := r24) ⟨hx, hb, hml, hown, hts⟩ 4 (prc_O_arraysAt hD hX 1 (Nat.le_refl _) σ x1 r24 hr24) (prg_O_arraysAt hts prw_618 (by have := hh; omega)) hX hXs hK hP hS (by decide) rfl rfl rfl rfl hl.1 (Nat.le_of_ble_eq_true rfl) prd_P_point_84 (fun H locs hP hS => ?_)
              exact pr_reti E hP hS (pr_ro hf) prd_P_point_87
            · have hf := pr_ie c23 hf
              by_cases c25 : x2 = 4
              · have hf := pr_it c25 hf
                refine lv_tableIn (tgt := 88) (off := 70) hx hb prd_P_point_18 (by rw [c25]; decide) (by rw [c25]; decide) (by rw [c25] <;> rfl) (by decide) ?_
                refine lv_aload_n hx hb prd_P_point_88 rfl (lv_at hl 0 rfl) ?_
                refine pr_getr (t := 4) hx hb hts prs_P hown hK hP 0 2 (by decide) rfl (hts _ prw_596) rfl prd_P_point_89 ?_
                refine lv_iload_n hx hb prd_P_point_92 rfl (lv_at hl 1 rfl) ?_
                obtain ⟨r26, hr26, hf⟩ := pr_bi hf
                refine pr_callVr (rest := []) (r := r26) ⟨hx, hb, hml, hown, hts⟩ 4 (prc_O_nextOf hD hX 1 (Nat.le_refl _) σ x1 r26 hr26) (prg_O_nextOf hts prw_619 (by have := hh; omega)) hX hXs hK hP hS (by decide) rfl rfl rfl rfl hl.1 (Nat.le_of_ble_eq_true rfl) prd_P_point_93 (fun H locs hP hS => ?_)
                exact pr_reti E hP hS (pr_ro hf) prd_P_point_96
              · have hf := pr_ie c25 hf
                refine lv_tableOut (tgt := 97) hx hb prd_P_point_18 (by have w0 := lv_neT (a := 0) c17 (by decide); have w1 := lv_neT (a := 1) c19 (by decide); have w2 := lv_neT (a := 2) c21 (by decide); have w3 := lv_neT (a := 3) c23 (by decide); have w4 := lv_neT (a := 4) c25 (by decide); omega) (by decide) ?_
                refine lv_iconst (v := (-1)) hx hb prd_P_point_97 (by decide) ?_
                exact pr_reti E hP hS (pr_ro hf) prd_P_point_98
    · have hf := pr_ie c16 hf
      refine lv_iconst (v := (-1)) hx hb prd_P_point_15 (by decide) ?_
      exact pr_reti E hP hS (pr_ro hf) prd_P_point_16
-- P_input
set_option maxHeartbeats 4000000 in
set_option maxRecDepth 100000 in
theorem prc_P_input {l : Launch} {D : va_G} {ad : Nat → Nat} {dA : Nat → ClassId} {A : Nat → Prop} {t : Nat} (hD : ∀ σ : pr_St, va_D A (pr_w prc_L ad dA σ)) (hX : pr_Xok A (prX t A)) (h : Nat) (hh : 1 ≤ h) (σ : pr_St) (x1 : Int32) (res : (Int32 × pr_St)) (hf : prf_P_input σ x1 = some res) : Met l pry_P_input (Cond.code pry_P_input prb_P_input 2 (some .int) :: pr_U) (pr_rm h) (pr_Pc (prX t A) D pr_cl prc_L ad dA [.ref (ad 0), .int x1] σ) (pr_Qi D pr_cl prc_L ad dA A res) 0 0 A := by
  refine pr_entry (cc := prb_P_input) (maxL := 2) (ret := (some .int)) (by decide) (Nat.le_of_ble_eq_true rfl) hD hX ?_
  intro p e s m args below meth c E H locs hP hS ls hl
  have hl : lv_has ls 2 [(0, .ref (ad 0)), (1, .int x1)] := hl
  have hf := hf.symm
  unfold prf_P_input at hf
  obtain ⟨hx, hb, hml, hown, hts, hr, hlocks, hK, hD, hX, hXs⟩ := id E
  refine lv_aload_n hx hb prd_P_input_0 rfl (lv_at hl 0 rfl) ?_
  refine pr_getr (t := 7) hx hb hts prs_P hown hK hP 0 4 (by decide) rfl (hts _ prw_587) rfl prd_P_input_1 ?_
  refine lv_iload_n hx hb prd_P_input_4 rfl (lv_at hl 1 rfl) ?_
  obtain ⟨r2, hr2, hf⟩ := pr_bi hf
  refine pr_callVi (rest := []) (res := r2) ⟨hx, hb, hml, hown, hts⟩ 7 (prc_M_addInput hD hX 0 (Nat.le_refl _) σ x1 r2 hr2) (prg_M_addInput hts prw_628 (by have := hh; omega)) hX hXs hK hP hS (by decide) rfl rfl rfl rfl hl.1 (Nat.le_of_ble_eq_true rfl) prd_P_input_5 (fun H locs hP hS => ?_)
  exact pr_reti E hP hS (pr_so hf) prd_P_input_8
-- P_drop
set_option maxHeartbeats 4000000 in
set_option maxRecDepth 100000 in
theorem prc_P_drop {l : Launch} {D : va_G} {ad : Nat → Nat} {dA : Nat → ClassId} {A : Nat → Prop} {t : Nat} (hD : ∀ σ : pr_St, va_D A (pr_w prc_L ad dA σ)) (hX : pr_Xok A (prX t A)) (h : Nat) (hh : 1 ≤ h) (σ : pr_St)  (res : (Int32 × pr_St)) (hf : prf_P_drop σ  = some res) : Met l pry_P_drop (Cond.code pry_P_drop prb_P_drop 1 (some .int) :: pr_U) (pr_rm h) (pr_Pc (prX t A) D pr_cl prc_L ad dA [.ref (ad 0)] σ) (pr_Qi D pr_cl prc_L ad dA A res) 0 0 A := by
  refine pr_entry (cc := prb_P_drop) (maxL := 1) (ret := (some .int)) (by decide) (Nat.le_of_ble_eq_true rfl) hD hX ?_
  intro p e s m args below meth c E H locs hP hS ls hl
  have hl : lv_has ls 1 [(0, .ref (ad 0))] := hl
  have hf := hf.symm
  unfold prf_P_drop at hf
  obtain ⟨hx, hb, hml, hown, hts, hr, hlocks, hK, hD, hX, hXs⟩ := id E
  refine lv_aload_n hx hb prd_P_drop_0 rfl (lv_at hl 0 rfl) ?_
  refine pr_getr (t := 7) hx hb hts prs_P hown hK hP 0 4 (by decide) rfl (hts _ prw_587) rfl prd_P_drop_1 ?_
  obtain ⟨r2, hr2, hf⟩ := pr_bi hf
  refine pr_callVi (rest := []) (res := r2) ⟨hx, hb, hml, hown, hts⟩ 7 (prc_M_dropInputs hD hX 0 (Nat.le_refl _) σ  r2 hr2) (prg_M_dropInputs hts prw_635 (by have := hh; omega)) hX hXs hK hP hS (by decide) rfl rfl rfl rfl hl.1 (Nat.le_of_ble_eq_true rfl) prd_P_drop_4 (fun H locs hP hS => ?_)
  exact pr_reti E hP hS (pr_so hf) prd_P_drop_7
-- P_run
set_option maxHeartbeats 4000000 in
set_option maxRecDepth 100000 in
theorem prc_P_run {l : Launch} {D : va_G} {ad : Nat → Nat} {dA : Nat → ClassId} {A : Nat → Prop} {t : Nat} (hD : ∀ σ : pr_St, va_D A (pr_w prc_L ad dA σ)) (hX : pr_Xok A (prX t A)) (h : Nat) (hh : 7 ≤ h) (σ : pr_St) (x1 : Int32) (res : (Int32 × pr_St)) (hf : prf_P_run σ x1 = some res) : Met l pry_P_run (Cond.code pry_P_run prb_P_run 2 (some .int) :: pr_U) (pr_rm h) (pr_Pc (prX t A) D pr_cl prc_L ad dA [.ref (ad 0), .int x1] σ) (pr_Qi D pr_cl prc_L ad dA A res) 0 0 A := by
  refine pr_entry (cc := prb_P_run) (maxL := 2) (ret := (some .int)) (by decide) (Nat.le_of_ble_eq_true rfl) hD hX ?_
  intro p e s m args below meth c E H locs hP hS ls hl
  have hl : lv_has ls 2 [(0, .ref (ad 0)), (1, .int x1)] := hl
  have hf := hf.symm
  unfold prf_P_run at hf
  obtain ⟨hx, hb, hml, hown, hts, hr, hlocks, hK, hD, hX, hXs⟩ := id E
  refine lv_iload_n hx hb prd_P_run_0 rfl (lv_at hl 1 rfl) ?_
  refine lv_if_lt (tgt := 11) hx hb prd_P_run_1 (by decide) (fun c4 => ?_) (fun c4 => ?_)
  · have hf := pr_it c4 hf
    refine lv_iconst (v := (-1)) hx hb prd_P_run_11 (by decide) ?_
    exact pr_reti E hP hS (pr_so hf) prd_P_run_12
  · have hf := pr_ie c4 hf
    refine lv_iload_n hx hb prd_P_run_4 rfl (lv_at hl 1 rfl) ?_
    refine lv_sipush (v := 2000) hx hb prd_P_run_5 (by decide) ?_
    refine lv_icmp_le (tgt := 13) hx hb prd_P_run_8 (by decide) (fun c5 => ?_) (fun c5 => ?_)
    · have hf := pr_it c5 hf
      refine lv_aload_n hx hb prd_P_run_13 rfl (lv_at hl 0 rfl) ?_
      refine pr_getr (t := 7) hx hb hts prs_P hown hK hP 0 4 (by decide) rfl (hts _ prw_587) rfl prd_P_run_14 ?_
      refine lv_iload_n hx hb prd_P_run_17 rfl (lv_at hl 1 rfl) ?_
      obtain ⟨r6, hr6, hf⟩ := pr_bi hf
      refine pr_callVi (rest := []) (res := r6) ⟨hx, hb, hml, hown, hts⟩ 7 (prc_M_runSteps hD hX 6 (Nat.le_refl _) σ x1 r6 hr6) (prg_M_runSteps hts prw_789 (by have := hh; omega)) hX hXs hK hP hS (by decide) rfl rfl rfl rfl hl.1 (Nat.le_of_ble_eq_true rfl) prd_P_run_18 (fun H locs hP hS => ?_)
      exact pr_reti E hP hS (pr_so hf) prd_P_run_21
    · have hf := pr_ie c5 hf
      refine lv_iconst (v := (-1)) hx hb prd_P_run_11 (by decide) ?_
      exact pr_reti E hP hS (pr_so hf) prd_P_run_12
-- P_ran
set_option maxHeartbeats 4000000 in
set_option maxRecDepth 100000 in
theorem prc_P_ran {l : Launch} {D : va_G} {ad : Nat → Nat} {dA : Nat → ClassId} {A : Nat → Prop} {t : Nat} (hD : ∀ σ : pr_St, va_D A (pr_w prc_L ad dA σ)) (hX : pr_Xok A (prX t A)) (h : Nat) (hh : 1 ≤ h) (σ : pr_St) (x1 : Int32) (res : Int32) (hf : prf_P_ran σ x1 = some res) : Met l pry_P_ran (Cond.code pry_P_ran prb_P_ran 2 (some .int) :: pr_U) (pr_rm h) (pr_Pc (prX t A) D pr_cl prc_L ad dA [.ref (ad 0), .int x1] σ) (pr_Qi D pr_cl prc_L ad dA A (res, σ)) 0 0 A := by
  refine pr_entry (cc := prb_P_ran) (maxL := 2) (ret := (some .int)) (by decide) (Nat.le_of_ble_eq_true rfl) hD hX ?_
  intro p e s m args below meth c E H locs hP hS ls hl
  have hl : lv_has ls 2 [(0, .ref (ad 0)), (1, .int x1)] := hl
  have hf := hf.symm
  unfold prf_P_ran at hf
  obtain ⟨hx, hb, hml, hown, hts, hr, hlocks, hK, hD, hX, hXs⟩ := id E
  refine lv_iload_n hx hb prd_P_ran_0 rfl (lv_at hl 1 rfl) ?_
  by_cases c7 : x1 = 0
  · have hf := pr_it c7 hf
    refine lv_tableIn (tgt := 28) (off := 27) hx hb prd_P_ran_1 (by rw [c7]; decide) (by rw [c7]; decide) (by rw [c7] <;> rfl) (by decide) ?_
    refine lv_aload_n hx hb prd_P_ran_28 rfl (lv_at hl 0 rfl) ?_
    refine pr_getr (t := 7) hx hb hts prs_P hown hK hP 0 4 (by decide) rfl (hts _ prw_587) rfl prd_P_ran_29 ?_
    obtain ⟨r8, hr8, hf⟩ := pr_bi hf
    refine pr_callVr (rest := []) (r := r8) ⟨hx, hb, hml, hown, hts⟩ 7 (prc_M_standsAt hD hX 0 (Nat.le_refl _) σ  r8 hr8) (prg_M_standsAt hts prw_802 (by have := hh; omega)) hX hXs hK hP hS (by decide) rfl rfl rfl rfl hl.1 (Nat.le_of_ble_eq_true rfl) prd_P_ran_32 (fun H locs hP hS => ?_)
    exact pr_reti E hP hS (pr_ro hf) prd_P_ran_35
  · have hf := pr_ie c7 hf
    by_cases c9 : x1 = 1
    · have hf := pr_it c9 hf
      refine lv_tableIn (tgt := 36) (off := 35) hx hb prd_P_ran_1 (by rw [c9]; decide) (by rw [c9]; decide) (by rw [c9] <;> rfl) (by decide) ?_
      refine lv_aload_n hx hb prd_P_ran_36 rfl (lv_at hl 0 rfl) ?_
      refine pr_getr (t := 7) hx hb hts prs_P hown hK hP 0 4 (by decide) rfl (hts _ prw_587) rfl prd_P_ran_37 ?_
      obtain ⟨r10, hr10, hf⟩ := pr_bi hf
      refine pr_callVr (rest := []) (r := r10) ⟨hx, hb, hml, hown, hts⟩ 7 (prc_M_stepsDone hD hX 0 (Nat.le_refl _) σ  r10 hr10) (prg_M_stepsDone hts prw_803 (by have := hh; omega)) hX hXs hK hP hS (by decide) rfl rfl rfl rfl hl.1 (Nat.le_of_ble_eq_true rfl) prd_P_ran_40 (fun H locs hP hS => ?_)
      exact pr_reti E hP hS (pr_ro hf) prd_P_ran_43
    · have hf := pr_ie c9 hf
      by_cases c11 : x1 = 2
      · have hf := pr_it c11 hf
        refine lv_tableIn (tgt := 44) (off := 43) hx hb prd_P_ran_1 (by rw [c11]; decide) (by rw [c11]; decide) (by rw [c11] <;> rfl) (by decide) ?_
        refine lv_aload_n hx hb prd_P_ran_44 rfl (lv_at hl 0 rfl) ?_
        refine pr_getr (t := 7) hx hb hts prs_P hown hK hP 0 4 (by decide) rfl (hts _ prw_587) rfl prd_P_ran_45 ?_
        obtain ⟨r12, hr12, hf⟩ := pr_bi hf
        refine pr_callVr (rest := []) (r := r12) ⟨hx, hb, hml, hown, hts⟩ 7 (prc_M_inputsTaken hD hX 0 (Nat.le_refl _) σ  r12 hr12) (prg_M_inputsTaken hts prw_804 (by have := hh; omega)) hX hXs hK hP hS (by decide) rfl rfl rfl rfl hl.1 (Nat.le_of_ble_eq_true rfl) prd_P_ran_48 (fun H locs hP hS => ?_)
        exact pr_reti E hP hS (pr_ro hf) prd_P_ran_51
      · have hf := pr_ie c11 hf
        refine lv_tableOut (tgt := 52) hx hb prd_P_ran_1 (by have w0 := lv_neT (a := 0) c7 (by decide); have w1 := lv_neT (a := 1) c9 (by decide); have w2 := lv_neT (a := 2) c11 (by decide); omega) (by decide) ?_
        refine lv_iconst (v := (-1)) hx hb prd_P_ran_52 (by decide) ?_
        exact pr_reti E hP hS (pr_ro hf) prd_P_ran_53
-- P_value
set_option maxHeartbeats 4000000 in
set_option maxRecDepth 100000 in
theorem prc_P_value {l : Launch} {D : va_G} {ad : Nat → Nat} {dA : Nat → ClassId} {A : Nat → Prop} {t : Nat} (hD : ∀ σ : pr_St, va_D A (pr_w prc_L ad dA σ)) (hX : pr_Xok A (prX t A)) (h : Nat) (hh : 3 ≤ h) (σ : pr_St) (x1 : Int32) (res : Int32) (hf : prf_P_value σ x1 = some res) : Met l pry_P_value (Cond.code pry_P_value prb_P_value 2 (some .int) :: pr_U) (pr_rm h) (pr_Pc (prX t A) D pr_cl prc_L ad dA [.ref (ad 0), .int x1] σ) (pr_Qi D pr_cl prc_L ad dA A (res, σ)) 0 0 A := by
  refine pr_entry (cc := prb_P_value) (maxL := 2) (ret := (some .int)) (by decide) (Nat.le_of_ble_eq_true rfl) hD hX ?_
  intro p e s m args below meth c E H locs hP hS ls hl
  have hl : lv_has ls 2 [(0, .ref (ad 0)), (1, .int x1)] := hl
  have hf := hf.symm
  unfold prf_P_value at hf
  obtain ⟨hx, hb, hml, hown, hts, hr, hlocks, hK, hD, hX, hXs⟩ := id E
  refine lv_aload_n hx hb prd_P_value_0 rfl (lv_at hl 0 rfl) ?_
  refine pr_getr (t := 7) hx hb hts prs_P hown hK hP 0 4 (by decide) rfl (hts _ prw_587) rfl prd_P_value_1 ?_
  refine lv_iload_n hx hb prd_P_value_4 rfl (lv_at hl 1 rfl) ?_
  obtain ⟨r2, hr2, hf⟩ := pr_bi hf
  refine pr_callVr (rest := []) (r := r2) ⟨hx, hb, hml, hown, hts⟩ 7 (prc_M_numberIn hD hX 2 (Nat.le_refl _) σ x1 r2 hr2) (prg_M_numberIn hts prw_811 (by have := hh; omega)) hX hXs hK hP hS (by decide) rfl rfl rfl rfl hl.1 (Nat.le_of_ble_eq_true rfl) prd_P_value_5 (fun H locs hP hS => ?_)
  exact pr_reti E hP hS (pr_ro hf) prd_P_value_8
-- P_place
set_option maxHeartbeats 4000000 in
set_option maxRecDepth 100000 in
theorem prc_P_place {l : Launch} {D : va_G} {ad : Nat → Nat} {dA : Nat → ClassId} {A : Nat → Prop} {t : Nat} (hD : ∀ σ : pr_St, va_D A (pr_w prc_L ad dA σ)) (hX : pr_Xok A (prX t A)) (h : Nat) (hh : 3 ≤ h) (σ : pr_St) (x1 : Int32) (x2 : Int32) (res : Int32) (hf : prf_P_place σ x1 x2 = some res) : Met l pry_P_place (Cond.code pry_P_place prb_P_place 3 (some .int) :: pr_U) (pr_rm h) (pr_Pc (prX t A) D pr_cl prc_L ad dA [.ref (ad 0), .int x1, .int x2] σ) (pr_Qi D pr_cl prc_L ad dA A (res, σ)) 0 0 A := by
  refine pr_entry (cc := prb_P_place) (maxL := 3) (ret := (some .int)) (by decide) (Nat.le_of_ble_eq_true rfl) hD hX ?_
  intro p e s m args below meth c E H locs hP hS ls hl
  have hl : lv_has ls 3 [(0, .ref (ad 0)), (1, .int x1), (2, .int x2)] := hl
  have hf := hf.symm
  unfold prf_P_place at hf
  obtain ⟨hx, hb, hml, hown, hts, hr, hlocks, hK, hD, hX, hXs⟩ := id E
  refine lv_aload_n hx hb prd_P_place_0 rfl (lv_at hl 0 rfl) ?_
  refine pr_getr (t := 7) hx hb hts prs_P hown hK hP 0 4 (by decide) rfl (hts _ prw_587) rfl prd_P_place_1 ?_
  refine lv_iload_n hx hb prd_P_place_4 rfl (lv_at hl 1 rfl) ?_
  refine lv_iload_n hx hb prd_P_place_5 rfl (lv_at hl 2 rfl) ?_
  obtain ⟨r2, hr2, hf⟩ := pr_bi hf
  refine pr_callVr (rest := []) (r := r2) ⟨hx, hb, hml, hown, hts⟩ 7 (prc_M_placeIn hD hX 2 (Nat.le_refl _) σ x1 x2 r2 hr2) (prg_M_placeIn hts prw_818 (by have := hh; omega)) hX hXs hK hP hS (by decide) rfl rfl rfl rfl hl.1 (Nat.le_of_ble_eq_true rfl) prd_P_place_6 (fun H locs hP hS => ?_)
  exact pr_reti E hP hS (pr_ro hf) prd_P_place_9
