-- O_clear
set_option maxHeartbeats 4000000 in
set_option maxRecDepth 100000 in
theorem prc_O_clear {l : Launch} {D : va_G} {ad : Nat → Nat} {dA : Nat → ClassId} {A : Nat → Prop} {t : Nat} (hD : ∀ σ : pr_St, va_D A (pr_w prc_L ad dA σ)) (hX : pr_Xok A (prX t A)) (h : Nat) (hh : 0 ≤ h) (σ : pr_St)  (res : pr_St) (hf : prf_O_clear σ  = some res) : Met l pry_O_clear (Cond.code pry_O_clear prb_O_clear 1 none :: pr_U) (pr_rm h) (pr_Pc (prX t A) D pr_cl prc_L ad dA [.ref (ad 4)] σ) (pr_Qv D pr_cl prc_L ad dA A res) 0 0 A := by
  refine pr_entry (cc := prb_O_clear) (maxL := 1) (ret := none) (by decide) (Nat.le_of_ble_eq_true rfl) hD hX ?_
  intro p e s m args below meth c E H locs hP hS ls hl
  have hl : lv_has ls 1 [(0, .ref (ad 4))] := hl
  have hf := hf.symm
  unfold prf_O_clear at hf
  obtain ⟨hx, hb, hml, hown, hts, hr, hlocks, hK, hD, hX, hXs⟩ := id E
  refine lv_aload_n hx hb prd_O_clear_0 rfl (lv_at hl 0 rfl) ?_
  refine lv_iconst (v := 0) hx hb prd_O_clear_1 (by decide) ?_
  refine pr_puti (ty := .int) hx hb hts prs_O prq_O prtt_O prtn_O hown hK hP (hD _) hS 4 14 (by decide) rfl (hts _ prw_247) rfl rfl (prtt_O 14 (by decide)) rfl rfl prd_O_clear_2 (fun H locs hP hS => ?_)
  exact pr_retv E hP hS (pr_so hf) prd_O_clear_5
-- O_add
set_option maxHeartbeats 4000000 in
set_option maxRecDepth 100000 in
theorem prc_O_add {l : Launch} {D : va_G} {ad : Nat → Nat} {dA : Nat → ClassId} {A : Nat → Prop} {t : Nat} (hD : ∀ σ : pr_St, va_D A (pr_w prc_L ad dA σ)) (hX : pr_Xok A (prX t A)) (h : Nat) (hh : 0 ≤ h) (σ : pr_St) (x1 : Int32) (x2 : Int32) (x3 : Int32) (res : (Int32 × pr_St)) (hf : prf_O_add σ x1 x2 x3 = some res) : Met l pry_O_add (Cond.code pry_O_add prb_O_add 5 (some .int) :: pr_U) (pr_rm h) (pr_Pc (prX t A) D pr_cl prc_L ad dA [.ref (ad 4), .int x1, .int x2, .int x3] σ) (pr_Qi D pr_cl prc_L ad dA A res) 0 0 A := by
  refine pr_entry (cc := prb_O_add) (maxL := 5) (ret := (some .int)) (by decide) (Nat.le_of_ble_eq_true rfl) hD hX ?_
  intro p e s m args below meth c E H locs hP hS ls hl
  have hl : lv_has ls 5 [(0, .ref (ad 4)), (1, .int x1), (2, .int x2), (3, .int x3)] := hl
  have hf := hf.symm
  unfold prf_O_add at hf
  obtain ⟨hx, hb, hml, hown, hts, hr, hlocks, hK, hD, hX, hXs⟩ := id E
  refine lv_aload_n hx hb prd_O_add_0 rfl (lv_at hl 0 rfl) ?_
  refine pr_geti (v := (σ.1 4 14)) hx hb hts prs_O hown hK hP 4 14 (by decide) rfl (hts _ prw_247) rfl rfl prd_O_add_1 ?_
  refine lv_aload_n hx hb prd_O_add_4 rfl (lv_at hl 0 rfl) ?_
  refine pr_getr (t := 25) hx hb hts prs_O hown hK hP 4 0 (by decide) rfl (hts _ prw_252) rfl prd_O_add_5 ?_
  refine pr_alen (v := 250) hx hb hK hP 25 (by decide) (by decide) prd_O_add_8 ?_
  refine lv_icmp_lt (tgt := 14) hx hb prd_O_add_9 (by decide) (fun c9 => ?_) (fun c9 => ?_)
  · have hf := pr_it c9 hf
    refine lv_aload_n hx hb prd_O_add_14 rfl (lv_at hl 0 rfl) ?_
    refine pr_geti (v := (σ.1 4 14)) hx hb hts prs_O hown hK hP 4 14 (by decide) rfl (hts _ prw_247) rfl rfl prd_O_add_15 ?_
    refine lv_istore (lv' := [(4, .int (σ.1 4 14)), (0, .ref (ad 4)), (1, .int x1), (2, .int x2), (3, .int x3)]) hx hb prd_O_add_18 hl (by decide) rfl (fun ls hl => ?_)
    refine lv_aload_n hx hb prd_O_add_20 rfl (lv_at hl 1 rfl) ?_
    refine pr_getr (t := 25) hx hb hts prs_O hown hK hP 4 0 (by decide) rfl (hts _ prw_252) rfl prd_O_add_21 ?_
    refine lv_iload hx hb prd_O_add_24 (lv_at hl 0 rfl) ?_
    refine lv_iload_n hx hb prd_O_add_26 rfl (lv_at hl 2 rfl) ?_
    refine lv_i2b (v := x1.toInt8.toInt32) hx hb prd_O_add_27 rfl ?_
    obtain ⟨hi10, hf⟩ := pr_ck_in hf
    refine pr_bast (f := (σ.2.1 25)) hx hb hK hP (hD _) hS 25 (by decide) rfl hi10 rfl prd_O_add_28 (fun H locs hP hS => ?_)
    refine lv_aload_n hx hb prd_O_add_29 rfl (lv_at hl 1 rfl) ?_
    refine pr_getr (t := 26) hx hb hts prs_O hown hK hP 4 1 (by decide) rfl (hts _ prw_253) rfl prd_O_add_30 ?_
    refine lv_iload hx hb prd_O_add_33 (lv_at hl 0 rfl) ?_
    refine lv_iload_n hx hb prd_O_add_35 rfl (lv_at hl 3 rfl) ?_
    obtain ⟨hi11, hf⟩ := pr_ck_in hf
    refine pr_iast (f := (σ.2.1 26)) hx hb hK hP (hD _) hS 26 (by decide) rfl hi11 rfl prd_O_add_36 (fun H locs hP hS => ?_)
    refine lv_aload_n hx hb prd_O_add_37 rfl (lv_at hl 1 rfl) ?_
    refine pr_getr (t := 27) hx hb hts prs_O hown hK hP 4 2 (by decide) rfl (hts _ prw_254) rfl prd_O_add_38 ?_
    refine lv_iload hx hb prd_O_add_41 (lv_at hl 0 rfl) ?_
    refine lv_iload_n hx hb prd_O_add_43 rfl (lv_at hl 4 rfl) ?_
    obtain ⟨hi12, hf⟩ := pr_ck_in hf
    refine pr_iast (f := (σ.2.1 27)) hx hb hK hP (hD _) hS 27 (by decide) rfl hi12 rfl prd_O_add_44 (fun H locs hP hS => ?_)
    refine lv_aload_n hx hb prd_O_add_45 rfl (lv_at hl 1 rfl) ?_
    refine pr_getr (t := 34) hx hb hts prs_O hown hK hP 4 9 (by decide) rfl (hts _ prw_255) rfl prd_O_add_46 ?_
    refine lv_iload hx hb prd_O_add_49 (lv_at hl 0 rfl) ?_
    refine lv_iconst (v := (-1)) hx hb prd_O_add_51 (by decide) ?_
    obtain ⟨hi13, hf⟩ := pr_ck_in hf
    refine pr_iast (f := (σ.2.1 34)) hx hb hK hP (hD _) hS 34 (by decide) rfl hi13 rfl prd_O_add_52 (fun H locs hP hS => ?_)
    refine lv_aload_n hx hb prd_O_add_53 rfl (lv_at hl 1 rfl) ?_
    refine pr_getr (t := 35) hx hb hts prs_O hown hK hP 4 10 (by decide) rfl (hts _ prw_256) rfl prd_O_add_54 ?_
    refine lv_iload hx hb prd_O_add_57 (lv_at hl 0 rfl) ?_
    refine lv_iload hx hb prd_O_add_59 (lv_at hl 0 rfl) ?_
    refine lv_iconst (v := 1) hx hb prd_O_add_61 (by decide) ?_
    refine lv_iadd hx hb prd_O_add_62 ?_
    obtain ⟨hi14, hf⟩ := pr_ck_in hf
    refine pr_iast (f := (σ.2.1 35)) hx hb hK hP (hD _) hS 35 (by decide) rfl hi14 rfl prd_O_add_63 (fun H locs hP hS => ?_)
    refine lv_aload_n hx hb prd_O_add_64 rfl (lv_at hl 1 rfl) ?_
    refine pr_getr (t := 36) hx hb hts prs_O hown hK hP 4 11 (by decide) rfl (hts _ prw_257) rfl prd_O_add_65 ?_
    refine lv_iload hx hb prd_O_add_68 (lv_at hl 0 rfl) ?_
    refine lv_iconst (v := (-1)) hx hb prd_O_add_70 (by decide) ?_
    obtain ⟨hi15, hf⟩ := pr_ck_in hf
    refine pr_iast (f := (σ.2.1 36)) hx hb hK hP (hD _) hS 36 (by decide) rfl hi15 rfl prd_O_add_71 (fun H locs hP hS => ?_)
    refine lv_aload_n hx hb prd_O_add_72 rfl (lv_at hl 1 rfl) ?_
    refine pr_getr (t := 37) hx hb hts prs_O hown hK hP 4 12 (by decide) rfl (hts _ prw_258) rfl prd_O_add_73 ?_
    refine lv_iload hx hb prd_O_add_76 (lv_at hl 0 rfl) ?_
    refine lv_iconst (v := (-1)) hx hb prd_O_add_78 (by decide) ?_
    obtain ⟨hi16, hf⟩ := pr_ck_in hf
    refine pr_iast (f := (σ.2.1 37)) hx hb hK hP (hD _) hS 37 (by decide) rfl hi16 rfl prd_O_add_79 (fun H locs hP hS => ?_)
    refine lv_aload_n hx hb prd_O_add_80 rfl (lv_at hl 1 rfl) ?_
    refine lv_dup hx hb prd_O_add_81 rfl ?_
    refine pr_geti (v := (σ.1 4 14)) hx hb hts prs_O hown hK hP 4 14 (by decide) rfl (hts _ prw_247) rfl rfl prd_O_add_82 ?_
    refine lv_iconst (v := 1) hx hb prd_O_add_85 (by decide) ?_
    refine lv_iadd hx hb prd_O_add_86 ?_
    refine pr_puti (ty := .int) hx hb hts prs_O prq_O prtt_O prtn_O hown hK hP (hD _) hS 4 14 (by decide) rfl (hts _ prw_247) rfl rfl (prtt_O 14 (by decide)) rfl rfl prd_O_add_87 (fun H locs hP hS => ?_)
    refine lv_iload hx hb prd_O_add_90 (lv_at hl 0 rfl) ?_
    exact pr_reti E hP hS (pr_so hf) prd_O_add_92
  · have hf := pr_ie c9 hf
    refine lv_iconst (v := (-1)) hx hb prd_O_add_12 (by decide) ?_
    exact pr_reti E hP hS (pr_so hf) prd_O_add_13
-- O_isPoint
set_option maxHeartbeats 4000000 in
set_option maxRecDepth 100000 in
theorem prc_O_isPoint {l : Launch} {D : va_G} {ad : Nat → Nat} {dA : Nat → ClassId} {A : Nat → Prop} {t : Nat} (hD : ∀ σ : pr_St, va_D A (pr_w prc_L ad dA σ)) (hX : pr_Xok A (prX t A)) (h : Nat) (hh : 0 ≤ h) (σ : pr_St) (x1 : Int32) (res : Int32) (hf : prf_O_isPoint σ x1 = some res) : Met l pry_O_isPoint (Cond.code pry_O_isPoint prb_O_isPoint 2 (some .boolean) :: pr_U) (pr_rm h) (pr_Pc (prX t A) D pr_cl prc_L ad dA [.ref (ad 4), .int x1] σ) (pr_Qi D pr_cl prc_L ad dA A (res, σ)) 0 0 A := by
  refine pr_entry (cc := prb_O_isPoint) (maxL := 2) (ret := (some .boolean)) (by decide) (Nat.le_of_ble_eq_true rfl) hD hX ?_
  intro p e s m args below meth c E H locs hP hS ls hl
  have hl : lv_has ls 2 [(0, .ref (ad 4)), (1, .int x1)] := hl
  have hf := hf.symm
  unfold prf_O_isPoint at hf
  obtain ⟨hx, hb, hml, hown, hts, hr, hlocks, hK, hD, hX, hXs⟩ := id E
  refine lv_iload_n hx hb prd_O_isPoint_0 rfl (lv_at hl 1 rfl) ?_
  refine lv_if_lt (tgt := 16) hx hb prd_O_isPoint_1 (by decide) (fun c3 => ?_) (fun c3 => ?_)
  · have hf := pr_it c3 hf
    refine lv_iconst (v := 0) hx hb prd_O_isPoint_16 (by decide) ?_
    exact pr_retz E (Or.inl rfl) hP hS (pr_ro hf) prd_O_isPoint_17
  · have hf := pr_ie c3 hf
    refine lv_iload_n hx hb prd_O_isPoint_4 rfl (lv_at hl 1 rfl) ?_
    refine lv_aload_n hx hb prd_O_isPoint_5 rfl (lv_at hl 0 rfl) ?_
    refine pr_geti (v := (σ.1 4 14)) hx hb hts prs_O hown hK hP 4 14 (by decide) rfl (hts _ prw_247) rfl rfl prd_O_isPoint_6 ?_
    refine lv_icmp_ge (tgt := 16) hx hb prd_O_isPoint_9 (by decide) (fun c4 => ?_) (fun c4 => ?_)
    · have hf := pr_it c4 hf
      refine lv_iconst (v := 0) hx hb prd_O_isPoint_16 (by decide) ?_
      exact pr_retz E (Or.inl rfl) hP hS (pr_ro hf) prd_O_isPoint_17
    · have hf := pr_ie c4 hf
      refine lv_iconst (v := 1) hx hb prd_O_isPoint_12 (by decide) ?_
      refine lv_goto (tgt := 17) hx hb prd_O_isPoint_13 (by decide) ?_
      exact pr_retz E (Or.inr rfl) hP hS (pr_ro hf) prd_O_isPoint_17
-- O_setParent
set_option maxHeartbeats 4000000 in
set_option maxRecDepth 100000 in
theorem prc_O_setParent {l : Launch} {D : va_G} {ad : Nat → Nat} {dA : Nat → ClassId} {A : Nat → Prop} {t : Nat} (hD : ∀ σ : pr_St, va_D A (pr_w prc_L ad dA σ)) (hX : pr_Xok A (prX t A)) (h : Nat) (hh : 1 ≤ h) (σ : pr_St) (x1 : Int32) (x2 : Int32) (x3 : Int32) (res : pr_St) (hf : prf_O_setParent σ x1 x2 x3 = some res) : Met l pry_O_setParent (Cond.code pry_O_setParent prb_O_setParent 4 none :: pr_U) (pr_rm h) (pr_Pc (prX t A) D pr_cl prc_L ad dA [.ref (ad 4), .int x1, .int x2, .int x3] σ) (pr_Qv D pr_cl prc_L ad dA A res) 0 0 A := by
  refine pr_entry (cc := prb_O_setParent) (maxL := 4) (ret := none) (by decide) (Nat.le_of_ble_eq_true rfl) hD hX ?_
  intro p e s m args below meth c E H locs hP hS ls hl
  have hl : lv_has ls 4 [(0, .ref (ad 4)), (1, .int x1), (2, .int x2), (3, .int x3)] := hl
  have hf := hf.symm
  unfold prf_O_setParent at hf
  obtain ⟨hx, hb, hml, hown, hts, hr, hlocks, hK, hD, hX, hXs⟩ := id E
  refine lv_aload_n hx hb prd_O_setParent_0 rfl (lv_at hl 0 rfl) ?_
  refine lv_iload_n hx hb prd_O_setParent_1 rfl (lv_at hl 1 rfl) ?_
  obtain ⟨r6, hr6, hf⟩ := pr_bi hf
  refine pr_callVr (rest := []) (r := r6) ⟨hx, hb, hml, hown, hts⟩ 4 (prc_O_isPoint hD hX 0 (Nat.le_refl _) σ x1 r6 hr6) (prg_O_isPoint hts prw_265 (by have := hh; omega)) hX hXs hK hP hS (by decide) rfl rfl rfl rfl hl.1 (Nat.le_of_ble_eq_true rfl) prd_O_setParent_2 (fun H locs hP hS => ?_)
  refine lv_if_eq (tgt := 22) hx hb prd_O_setParent_5 (by decide) (fun c7 => ?_) (fun c7 => ?_)
  · have hf := pr_it c7 hf
    exact pr_retv E hP hS (pr_so hf) prd_O_setParent_22
  · have hf := pr_ie c7 hf
    refine lv_aload_n hx hb prd_O_setParent_8 rfl (lv_at hl 0 rfl) ?_
    refine pr_getr (t := 32) hx hb hts prs_O hown hK hP 4 7 (by decide) rfl (hts _ prw_266) rfl prd_O_setParent_9 ?_
    refine lv_iload_n hx hb prd_O_setParent_12 rfl (lv_at hl 1 rfl) ?_
    refine lv_iload_n hx hb prd_O_setParent_13 rfl (lv_at hl 2 rfl) ?_
    obtain ⟨hi8, hf⟩ := pr_ck_in hf
    refine pr_iast (f := (σ.2.1 32)) hx hb hK hP (hD _) hS 32 (by decide) rfl hi8 rfl prd_O_setParent_14 (fun H locs hP hS => ?_)
    refine lv_aload_n hx hb prd_O_setParent_15 rfl (lv_at hl 0 rfl) ?_
    refine pr_getr (t := 33) hx hb hts prs_O hown hK hP 4 8 (by decide) rfl (hts _ prw_267) rfl prd_O_setParent_16 ?_
    refine lv_iload_n hx hb prd_O_setParent_19 rfl (lv_at hl 1 rfl) ?_
    refine lv_iload_n hx hb prd_O_setParent_20 rfl (lv_at hl 3 rfl) ?_
    obtain ⟨hi9, hf⟩ := pr_ck_in hf
    obtain ⟨hz10, hf⟩ := pr_z_in hf
    refine pr_zast (f := (σ.2.1 33)) hx hb hK hP (hD _) hS 33 (by decide) rfl hi9 hz10 rfl prd_O_setParent_21 (fun H locs hP hS => ?_)
    exact pr_retv E hP hS (pr_so hf) prd_O_setParent_22
-- O_setThere
set_option maxHeartbeats 4000000 in
set_option maxRecDepth 100000 in
theorem prc_O_setThere {l : Launch} {D : va_G} {ad : Nat → Nat} {dA : Nat → ClassId} {A : Nat → Prop} {t : Nat} (hD : ∀ σ : pr_St, va_D A (pr_w prc_L ad dA σ)) (hX : pr_Xok A (prX t A)) (h : Nat) (hh : 1 ≤ h) (σ : pr_St) (x1 : Int32) (x2 : Int32) (x3 : Int32) (res : pr_St) (hf : prf_O_setThere σ x1 x2 x3 = some res) : Met l pry_O_setThere (Cond.code pry_O_setThere prb_O_setThere 4 none :: pr_U) (pr_rm h) (pr_Pc (prX t A) D pr_cl prc_L ad dA [.ref (ad 4), .int x1, .int x2, .int x3] σ) (pr_Qv D pr_cl prc_L ad dA A res) 0 0 A := by
  refine pr_entry (cc := prb_O_setThere) (maxL := 4) (ret := none) (by decide) (Nat.le_of_ble_eq_true rfl) hD hX ?_
  intro p e s m args below meth c E H locs hP hS ls hl
  have hl : lv_has ls 4 [(0, .ref (ad 4)), (1, .int x1), (2, .int x2), (3, .int x3)] := hl
  have hf := hf.symm
  unfold prf_O_setThere at hf
  obtain ⟨hx, hb, hml, hown, hts, hr, hlocks, hK, hD, hX, hXs⟩ := id E
  refine lv_aload_n hx hb prd_O_setThere_0 rfl (lv_at hl 0 rfl) ?_
  refine lv_iload_n hx hb prd_O_setThere_1 rfl (lv_at hl 1 rfl) ?_
  obtain ⟨r5, hr5, hf⟩ := pr_bi hf
  refine pr_callVr (rest := []) (r := r5) ⟨hx, hb, hml, hown, hts⟩ 4 (prc_O_isPoint hD hX 0 (Nat.le_refl _) σ x1 r5 hr5) (prg_O_isPoint hts prw_265 (by have := hh; omega)) hX hXs hK hP hS (by decide) rfl rfl rfl rfl hl.1 (Nat.le_of_ble_eq_true rfl) prd_O_setThere_2 (fun H locs hP hS => ?_)
  refine lv_if_eq (tgt := 22) hx hb prd_O_setThere_5 (by decide) (fun c6 => ?_) (fun c6 => ?_)
  · have hf := pr_it c6 hf
    exact pr_retv E hP hS (pr_so hf) prd_O_setThere_22
  · have hf := pr_ie c6 hf
    refine lv_aload_n hx hb prd_O_setThere_8 rfl (lv_at hl 0 rfl) ?_
    refine pr_getr (t := 28) hx hb hts prs_O hown hK hP 4 3 (by decide) rfl (hts _ prw_271) rfl prd_O_setThere_9 ?_
    refine lv_iload_n hx hb prd_O_setThere_12 rfl (lv_at hl 1 rfl) ?_
    refine lv_iload_n hx hb prd_O_setThere_13 rfl (lv_at hl 2 rfl) ?_
    obtain ⟨hi7, hf⟩ := pr_ck_in hf
    refine pr_iast (f := (σ.2.1 28)) hx hb hK hP (hD _) hS 28 (by decide) rfl hi7 rfl prd_O_setThere_14 (fun H locs hP hS => ?_)
    refine lv_aload_n hx hb prd_O_setThere_15 rfl (lv_at hl 0 rfl) ?_
    refine pr_getr (t := 29) hx hb hts prs_O hown hK hP 4 4 (by decide) rfl (hts _ prw_272) rfl prd_O_setThere_16 ?_
    refine lv_iload_n hx hb prd_O_setThere_19 rfl (lv_at hl 1 rfl) ?_
    refine lv_iload_n hx hb prd_O_setThere_20 rfl (lv_at hl 3 rfl) ?_
    obtain ⟨hi8, hf⟩ := pr_ck_in hf
    refine pr_iast (f := (σ.2.1 29)) hx hb hK hP (hD _) hS 29 (by decide) rfl hi8 rfl prd_O_setThere_21 (fun H locs hP hS => ?_)
    exact pr_retv E hP hS (pr_so hf) prd_O_setThere_22
-- O_setForeign
set_option maxHeartbeats 4000000 in
set_option maxRecDepth 100000 in
theorem prc_O_setForeign {l : Launch} {D : va_G} {ad : Nat → Nat} {dA : Nat → ClassId} {A : Nat → Prop} {t : Nat} (hD : ∀ σ : pr_St, va_D A (pr_w prc_L ad dA σ)) (hX : pr_Xok A (prX t A)) (h : Nat) (hh : 1 ≤ h) (σ : pr_St) (x1 : Int32) (x2 : Int32) (x3 : Int32) (res : pr_St) (hf : prf_O_setForeign σ x1 x2 x3 = some res) : Met l pry_O_setForeign (Cond.code pry_O_setForeign prb_O_setForeign 4 none :: pr_U) (pr_rm h) (pr_Pc (prX t A) D pr_cl prc_L ad dA [.ref (ad 4), .int x1, .int x2, .int x3] σ) (pr_Qv D pr_cl prc_L ad dA A res) 0 0 A := by
  refine pr_entry (cc := prb_O_setForeign) (maxL := 4) (ret := none) (by decide) (Nat.le_of_ble_eq_true rfl) hD hX ?_
  intro p e s m args below meth c E H locs hP hS ls hl
  have hl : lv_has ls 4 [(0, .ref (ad 4)), (1, .int x1), (2, .int x2), (3, .int x3)] := hl
  have hf := hf.symm
  unfold prf_O_setForeign at hf
  obtain ⟨hx, hb, hml, hown, hts, hr, hlocks, hK, hD, hX, hXs⟩ := id E
  refine lv_aload_n hx hb prd_O_setForeign_0 rfl (lv_at hl 0 rfl) ?_
  refine lv_iload_n hx hb prd_O_setForeign_1 rfl (lv_at hl 1 rfl) ?_
  obtain ⟨r5, hr5, hf⟩ := pr_bi hf
  refine pr_callVr (rest := []) (r := r5) ⟨hx, hb, hml, hown, hts⟩ 4 (prc_O_isPoint hD hX 0 (Nat.le_refl _) σ x1 r5 hr5) (prg_O_isPoint hts prw_265 (by have := hh; omega)) hX hXs hK hP hS (by decide) rfl rfl rfl rfl hl.1 (Nat.le_of_ble_eq_true rfl) prd_O_setForeign_2 (fun H locs hP hS => ?_)
  refine lv_if_eq (tgt := 22) hx hb prd_O_setForeign_5 (by decide) (fun c6 => ?_) (fun c6 => ?_)
  · have hf := pr_it c6 hf
    exact pr_retv E hP hS (pr_so hf) prd_O_setForeign_22
  · have hf := pr_ie c6 hf
    refine lv_aload_n hx hb prd_O_setForeign_8 rfl (lv_at hl 0 rfl) ?_
    refine pr_getr (t := 30) hx hb hts prs_O hown hK hP 4 5 (by decide) rfl (hts _ prw_276) rfl prd_O_setForeign_9 ?_
    refine lv_iload_n hx hb prd_O_setForeign_12 rfl (lv_at hl 1 rfl) ?_
    refine lv_iload_n hx hb prd_O_setForeign_13 rfl (lv_at hl 2 rfl) ?_
    obtain ⟨hi7, hf⟩ := pr_ck_in hf
    refine pr_iast (f := (σ.2.1 30)) hx hb hK hP (hD _) hS 30 (by decide) rfl hi7 rfl prd_O_setForeign_14 (fun H locs hP hS => ?_)
    refine lv_aload_n hx hb prd_O_setForeign_15 rfl (lv_at hl 0 rfl) ?_
    refine pr_getr (t := 31) hx hb hts prs_O hown hK hP 4 6 (by decide) rfl (hts _ prw_277) rfl prd_O_setForeign_16 ?_
    refine lv_iload_n hx hb prd_O_setForeign_19 rfl (lv_at hl 1 rfl) ?_
    refine lv_iload_n hx hb prd_O_setForeign_20 rfl (lv_at hl 3 rfl) ?_
    obtain ⟨hi8, hf⟩ := pr_ck_in hf
    refine pr_iast (f := (σ.2.1 31)) hx hb hK hP (hD _) hS 31 (by decide) rfl hi8 rfl prd_O_setForeign_21 (fun H locs hP hS => ?_)
    exact pr_retv E hP hS (pr_so hf) prd_O_setForeign_22
-- O_addTheEnd
set_option maxHeartbeats 4000000 in
set_option maxRecDepth 100000 in
theorem prc_O_addTheEnd {l : Launch} {D : va_G} {ad : Nat → Nat} {dA : Nat → ClassId} {A : Nat → Prop} {t : Nat} (hD : ∀ σ : pr_St, va_D A (pr_w prc_L ad dA σ)) (hX : pr_Xok A (prX t A)) (h : Nat) (hh : 2 ≤ h) (σ : pr_St)  (res : pr_St) (hf : prf_O_addTheEnd σ  = some res) : Met l pry_O_addTheEnd (Cond.code pry_O_addTheEnd prb_O_addTheEnd 2 none :: pr_U) (pr_rm h) (pr_Pc (prX t A) D pr_cl prc_L ad dA [.ref (ad 4)] σ) (pr_Qv D pr_cl prc_L ad dA A res) 0 0 A := by
  refine pr_entry (cc := prb_O_addTheEnd) (maxL := 2) (ret := none) (by decide) (Nat.le_of_ble_eq_true rfl) hD hX ?_
  intro p e s m args below meth c E H locs hP hS ls hl
  have hl : lv_has ls 2 [(0, .ref (ad 4))] := hl
  have hf := hf.symm
  unfold prf_O_addTheEnd at hf
  obtain ⟨hx, hb, hml, hown, hts, hr, hlocks, hK, hD, hX, hXs⟩ := id E
  refine lv_aload_n hx hb prd_O_addTheEnd_0 rfl (lv_at hl 0 rfl) ?_
  refine lv_iconst (v := 0) hx hb prd_O_addTheEnd_1 (by decide) ?_
  refine lv_iconst (v := 0) hx hb prd_O_addTheEnd_2 (by decide) ?_
  refine lv_iconst (v := (-1)) hx hb prd_O_addTheEnd_3 (by decide) ?_
  obtain ⟨r8, hr8, hf⟩ := pr_bi hf
  refine pr_callVi (rest := []) (res := r8) ⟨hx, hb, hml, hown, hts⟩ 4 (prc_O_add hD hX 0 (Nat.le_refl _) σ 0 0 (-1) r8 hr8) (prg_O_add hts prw_281 (by have := hh; omega)) hX hXs hK hP hS (by decide) rfl rfl rfl rfl hl.1 (Nat.le_of_ble_eq_true rfl) prd_O_addTheEnd_4 (fun H locs hP hS => ?_)
  refine lv_istore_n (lv' := [(1, .int r8.1), (0, .ref (ad 4))]) hx hb prd_O_addTheEnd_7 rfl hl (by decide) rfl (fun ls hl => ?_)
  refine lv_aload_n hx hb prd_O_addTheEnd_8 rfl (lv_at hl 1 rfl) ?_
  refine lv_iload_n hx hb prd_O_addTheEnd_9 rfl (lv_at hl 0 rfl) ?_
  refine lv_iconst (v := (-1)) hx hb prd_O_addTheEnd_10 (by decide) ?_
  refine lv_iconst (v := 1) hx hb prd_O_addTheEnd_11 (by decide) ?_
  obtain ⟨r9, hr9, hf⟩ := pr_bi hf
  refine pr_callVv (rest := []) (res := r9) ⟨hx, hb, hml, hown, hts⟩ 4 (prc_O_setParent hD hX 1 (Nat.le_refl _) r8.2 r8.1 (-1) 1 r9 hr9) (prg_O_setParent hts prw_282 (by have := hh; omega)) hX hXs hK hP hS (by decide) rfl rfl rfl rfl hl.1 (Nat.le_of_ble_eq_true rfl) prd_O_addTheEnd_12 (fun H locs hP hS => ?_)
  refine lv_aload_n hx hb prd_O_addTheEnd_15 rfl (lv_at hl 1 rfl) ?_
  refine lv_iload_n hx hb prd_O_addTheEnd_16 rfl (lv_at hl 0 rfl) ?_
  refine lv_iconst (v := 0) hx hb prd_O_addTheEnd_17 (by decide) ?_
  refine lv_iconst (v := 0) hx hb prd_O_addTheEnd_18 (by decide) ?_
  obtain ⟨r10, hr10, hf⟩ := pr_bi hf
  refine pr_callVv (rest := []) (res := r10) ⟨hx, hb, hml, hown, hts⟩ 4 (prc_O_setThere hD hX 1 (Nat.le_refl _) r9 r8.1 0 0 r10 hr10) (prg_O_setThere hts prw_283 (by have := hh; omega)) hX hXs hK hP hS (by decide) rfl rfl rfl rfl hl.1 (Nat.le_of_ble_eq_true rfl) prd_O_addTheEnd_19 (fun H locs hP hS => ?_)
  refine lv_aload_n hx hb prd_O_addTheEnd_22 rfl (lv_at hl 1 rfl) ?_
  refine lv_iload_n hx hb prd_O_addTheEnd_23 rfl (lv_at hl 0 rfl) ?_
  refine lv_iconst (v := 0) hx hb prd_O_addTheEnd_24 (by decide) ?_
  refine lv_iconst (v := 0) hx hb prd_O_addTheEnd_25 (by decide) ?_
  obtain ⟨r11, hr11, hf⟩ := pr_bi hf
  refine pr_callVv (rest := []) (res := r11) ⟨hx, hb, hml, hown, hts⟩ 4 (prc_O_setForeign hD hX 1 (Nat.le_refl _) r10 r8.1 0 0 r11 hr11) (prg_O_setForeign hts prw_284 (by have := hh; omega)) hX hXs hK hP hS (by decide) rfl rfl rfl rfl hl.1 (Nat.le_of_ble_eq_true rfl) prd_O_addTheEnd_26 (fun H locs hP hS => ?_)
  refine lv_aload_n hx hb prd_O_addTheEnd_29 rfl (lv_at hl 1 rfl) ?_
  refine lv_iload_n hx hb prd_O_addTheEnd_30 rfl (lv_at hl 0 rfl) ?_
  obtain ⟨r12, hr12, hf⟩ := pr_bi hf
  refine pr_callVr (rest := []) (r := r12) ⟨hx, hb, hml, hown, hts⟩ 4 (prc_O_isPoint hD hX 0 (Nat.le_refl _) r11 r8.1 r12 hr12) (prg_O_isPoint hts prw_265 (by have := hh; omega)) hX hXs hK hP hS (by decide) rfl rfl rfl rfl hl.1 (Nat.le_of_ble_eq_true rfl) prd_O_addTheEnd_31 (fun H locs hP hS => ?_)
  refine lv_if_eq (tgt := 44) hx hb prd_O_addTheEnd_34 (by decide) (fun c13 => ?_) (fun c13 => ?_)
  · have hf := pr_it c13 hf
    exact pr_retv E hP hS (pr_so hf) prd_O_addTheEnd_44
  · have hf := pr_ie c13 hf
    refine lv_aload_n hx hb prd_O_addTheEnd_37 rfl (lv_at hl 1 rfl) ?_
    refine pr_getr (t := 38) hx hb hts prs_O hown hK hP 4 13 (by decide) rfl (hts _ prw_285) rfl prd_O_addTheEnd_38 ?_
    refine lv_iload_n hx hb prd_O_addTheEnd_41 rfl (lv_at hl 0 rfl) ?_
    refine lv_iload_n hx hb prd_O_addTheEnd_42 rfl (lv_at hl 0 rfl) ?_
    obtain ⟨hi14, hf⟩ := pr_ck_in hf
    refine pr_iast (f := (r11.2.1 38)) hx hb hK hP (hD _) hS 38 (by decide) rfl hi14 rfl prd_O_addTheEnd_43 (fun H locs hP hS => ?_)
    exact pr_retv E hP hS (pr_so hf) prd_O_addTheEnd_44
-- O_leaveOnlyTheEnd
set_option maxHeartbeats 4000000 in
set_option maxRecDepth 100000 in
theorem prc_O_leaveOnlyTheEnd {l : Launch} {D : va_G} {ad : Nat → Nat} {dA : Nat → ClassId} {A : Nat → Prop} {t : Nat} (hD : ∀ σ : pr_St, va_D A (pr_w prc_L ad dA σ)) (hX : pr_Xok A (prX t A)) (h : Nat) (hh : 3 ≤ h) (σ : pr_St)  (res : pr_St) (hf : prf_O_leaveOnlyTheEnd σ  = some res) : Met l pry_O_leaveOnlyTheEnd (Cond.code pry_O_leaveOnlyTheEnd prb_O_leaveOnlyTheEnd 1 none :: pr_U) (pr_rm h) (pr_Pc (prX t A) D pr_cl prc_L ad dA [.ref (ad 4)] σ) (pr_Qv D pr_cl prc_L ad dA A res) 0 0 A := by
  refine pr_entry (cc := prb_O_leaveOnlyTheEnd) (maxL := 1) (ret := none) (by decide) (Nat.le_of_ble_eq_true rfl) hD hX ?_
  intro p e s m args below meth c E H locs hP hS ls hl
  have hl : lv_has ls 1 [(0, .ref (ad 4))] := hl
  have hf := hf.symm
  unfold prf_O_leaveOnlyTheEnd at hf
  obtain ⟨hx, hb, hml, hown, hts, hr, hlocks, hK, hD, hX, hXs⟩ := id E
  refine lv_aload_n hx hb prd_O_leaveOnlyTheEnd_0 rfl (lv_at hl 0 rfl) ?_
  obtain ⟨r3, hr3, hf⟩ := pr_bi hf
  refine pr_callVv (rest := []) (res := r3) ⟨hx, hb, hml, hown, hts⟩ 4 (prc_O_clear hD hX 0 (Nat.le_refl _) σ  r3 hr3) (prg_O_clear hts prw_289 (by have := hh; omega)) hX hXs hK hP hS (by decide) rfl rfl rfl rfl hl.1 (Nat.le_of_ble_eq_true rfl) prd_O_leaveOnlyTheEnd_1 (fun H locs hP hS => ?_)
  refine lv_aload_n hx hb prd_O_leaveOnlyTheEnd_4 rfl (lv_at hl 0 rfl) ?_
  obtain ⟨r4, hr4, hf⟩ := pr_bi hf
  refine pr_callVv (rest := []) (res := r4) ⟨hx, hb, hml, hown, hts⟩ 4 (prc_O_addTheEnd hD hX 2 (Nat.le_refl _) r3  r4 hr4) (prg_O_addTheEnd hts prw_290 (by have := hh; omega)) hX hXs hK hP hS (by decide) rfl rfl rfl rfl hl.1 (Nat.le_of_ble_eq_true rfl) prd_O_leaveOnlyTheEnd_5 (fun H locs hP hS => ?_)
  exact pr_retv E hP hS (pr_so hf) prd_O_leaveOnlyTheEnd_8
-- O_goInto
set_option maxHeartbeats 4000000 in
set_option maxRecDepth 100000 in
theorem prc_O_goInto {l : Launch} {D : va_G} {ad : Nat → Nat} {dA : Nat → ClassId} {A : Nat → Prop} {t : Nat} (hD : ∀ σ : pr_St, va_D A (pr_w prc_L ad dA σ)) (hX : pr_Xok A (prX t A)) (h : Nat) (hh : 1 ≤ h) (σ : pr_St) (x1 : Int32) (res : pr_St) (hf : prf_O_goInto σ x1 = some res) : Met l pry_O_goInto (Cond.code pry_O_goInto prb_O_goInto 2 none :: pr_U) (pr_rm h) (pr_Pc (prX t A) D pr_cl prc_L ad dA [.ref (ad 4), .int x1] σ) (pr_Qv D pr_cl prc_L ad dA A res) 0 0 A := by
  refine pr_entry (cc := prb_O_goInto) (maxL := 2) (ret := none) (by decide) (Nat.le_of_ble_eq_true rfl) hD hX ?_
  intro p e s m args below meth c E H locs hP hS ls hl
  have hl : lv_has ls 2 [(0, .ref (ad 4)), (1, .int x1)] := hl
  have hf := hf.symm
  unfold prf_O_goInto at hf
  obtain ⟨hx, hb, hml, hown, hts, hr, hlocks, hK, hD, hX, hXs⟩ := id E
  refine lv_aload_n hx hb prd_O_goInto_0 rfl (lv_at hl 0 rfl) ?_
  refine lv_iload_n hx hb prd_O_goInto_1 rfl (lv_at hl 1 rfl) ?_
  obtain ⟨r4, hr4, hf⟩ := pr_bi hf
  refine pr_callVr (rest := []) (r := r4) ⟨hx, hb, hml, hown, hts⟩ 4 (prc_O_isPoint hD hX 0 (Nat.le_refl _) σ x1 r4 hr4) (prg_O_isPoint hts prw_265 (by have := hh; omega)) hX hXs hK hP hS (by decide) rfl rfl rfl rfl hl.1 (Nat.le_of_ble_eq_true rfl) prd_O_goInto_2 (fun H locs hP hS => ?_)
  refine lv_if_eq (tgt := 17) hx hb prd_O_goInto_5 (by decide) (fun c5 => ?_) (fun c5 => ?_)
  · have hf := pr_it c5 hf
    exact pr_retv E hP hS (pr_so hf) prd_O_goInto_17
  · have hf := pr_ie c5 hf
    refine lv_aload_n hx hb prd_O_goInto_8 rfl (lv_at hl 0 rfl) ?_
    refine pr_getr (t := 36) hx hb hts prs_O hown hK hP 4 11 (by decide) rfl (hts _ prw_257) rfl prd_O_goInto_9 ?_
    refine lv_iload_n hx hb prd_O_goInto_12 rfl (lv_at hl 1 rfl) ?_
    refine lv_iload_n hx hb prd_O_goInto_13 rfl (lv_at hl 1 rfl) ?_
    refine lv_iconst (v := 1) hx hb prd_O_goInto_14 (by decide) ?_
    refine lv_iadd hx hb prd_O_goInto_15 ?_
    obtain ⟨hi6, hf⟩ := pr_ck_in hf
    refine pr_iast (f := (σ.2.1 36)) hx hb hK hP (hD _) hS 36 (by decide) rfl hi6 rfl prd_O_goInto_16 (fun H locs hP hS => ?_)
    exact pr_retv E hP hS (pr_so hf) prd_O_goInto_17
-- O_numbersAt
set_option maxHeartbeats 4000000 in
set_option maxRecDepth 100000 in
theorem prc_O_numbersAt {l : Launch} {D : va_G} {ad : Nat → Nat} {dA : Nat → ClassId} {A : Nat → Prop} {t : Nat} (hD : ∀ σ : pr_St, va_D A (pr_w prc_L ad dA σ)) (hX : pr_Xok A (prX t A)) (h : Nat) (hh : 1 ≤ h) (σ : pr_St) (x1 : Int32) (res : Int32) (hf : prf_O_numbersAt σ x1 = some res) : Met l pry_O_numbersAt (Cond.code pry_O_numbersAt prb_O_numbersAt 2 (some .int) :: pr_U) (pr_rm h) (pr_Pc (prX t A) D pr_cl prc_L ad dA [.ref (ad 4), .int x1] σ) (pr_Qi D pr_cl prc_L ad dA A (res, σ)) 0 0 A := by
  refine pr_entry (cc := prb_O_numbersAt) (maxL := 2) (ret := (some .int)) (by decide) (Nat.le_of_ble_eq_true rfl) hD hX ?_
  intro p e s m args below meth c E H locs hP hS ls hl
  have hl : lv_has ls 2 [(0, .ref (ad 4)), (1, .int x1)] := hl
  have hf := hf.symm
  unfold prf_O_numbersAt at hf
  obtain ⟨hx, hb, hml, hown, hts, hr, hlocks, hK, hD, hX, hXs⟩ := id E
  refine lv_aload_n hx hb prd_O_numbersAt_0 rfl (lv_at hl 0 rfl) ?_
  refine lv_iload_n hx hb prd_O_numbersAt_1 rfl (lv_at hl 1 rfl) ?_
  obtain ⟨r4, hr4, hf⟩ := pr_bi hf
  refine pr_callVr (rest := []) (r := r4) ⟨hx, hb, hml, hown, hts⟩ 4 (prc_O_isPoint hD hX 0 (Nat.le_refl _) σ x1 r4 hr4) (prg_O_isPoint hts prw_265 (by have := hh; omega)) hX hXs hK hP hS (by decide) rfl rfl rfl rfl hl.1 (Nat.le_of_ble_eq_true rfl) prd_O_numbersAt_2 (fun H locs hP hS => ?_)
  refine lv_if_eq (tgt := 17) hx hb prd_O_numbersAt_5 (by decide) (fun c5 => ?_) (fun c5 => ?_)
  · have hf := pr_it c5 hf
    refine lv_iconst (v := 0) hx hb prd_O_numbersAt_17 (by decide) ?_
    exact pr_reti E hP hS (pr_ro hf) prd_O_numbersAt_18
  · have hf := pr_ie c5 hf
    refine lv_aload_n hx hb prd_O_numbersAt_8 rfl (lv_at hl 0 rfl) ?_
    refine pr_getr (t := 28) hx hb hts prs_O hown hK hP 4 3 (by decide) rfl (hts _ prw_271) rfl prd_O_numbersAt_9 ?_
    refine lv_iload_n hx hb prd_O_numbersAt_12 rfl (lv_at hl 1 rfl) ?_
    obtain ⟨hi6, hf⟩ := pr_ck_in hf
    refine pr_iald (f := (σ.2.1 28)) hx hb hK hP 28 (by decide) rfl hi6 rfl prd_O_numbersAt_13 ?_
    refine lv_goto (tgt := 18) hx hb prd_O_numbersAt_14 (by decide) ?_
    exact pr_reti E hP hS (pr_ro hf) prd_O_numbersAt_18
-- O_arraysAt
set_option maxHeartbeats 4000000 in
set_option maxRecDepth 100000 in
theorem prc_O_arraysAt {l : Launch} {D : va_G} {ad : Nat → Nat} {dA : Nat → ClassId} {A : Nat → Prop} {t : Nat} (hD : ∀ σ : pr_St, va_D A (pr_w prc_L ad dA σ)) (hX : pr_Xok A (prX t A)) (h : Nat) (hh : 1 ≤ h) (σ : pr_St) (x1 : Int32) (res : Int32) (hf : prf_O_arraysAt σ x1 = some res) : Met l pry_O_arraysAt (Cond.code pry_O_arraysAt prb_O_arraysAt 2 (some .int) :: pr_U) (pr_rm h) (pr_Pc (prX t A) D pr_cl prc_L ad dA [.ref (ad 4), .int x1] σ) (pr_Qi D pr_cl prc_L ad dA A (res, σ)) 0 0 A := by
  refine pr_entry (cc := prb_O_arraysAt) (maxL := 2) (ret := (some .int)) (by decide) (Nat.le_of_ble_eq_true rfl) hD hX ?_
  intro p e s m args below meth c E H locs hP hS ls hl
  have hl : lv_has ls 2 [(0, .ref (ad 4)), (1, .int x1)] := hl
  have hf := hf.symm
  unfold prf_O_arraysAt at hf
  obtain ⟨hx, hb, hml, hown, hts, hr, hlocks, hK, hD, hX, hXs⟩ := id E
  refine lv_aload_n hx hb prd_O_arraysAt_0 rfl (lv_at hl 0 rfl) ?_
  refine lv_iload_n hx hb prd_O_arraysAt_1 rfl (lv_at hl 1 rfl) ?_
  obtain ⟨r4, hr4, hf⟩ := pr_bi hf
  refine pr_callVr (rest := []) (r := r4) ⟨hx, hb, hml, hown, hts⟩ 4 (prc_O_isPoint hD hX 0 (Nat.le_refl _) σ x1 r4 hr4) (prg_O_isPoint hts prw_265 (by have := hh; omega)) hX hXs hK hP hS (by decide) rfl rfl rfl rfl hl.1 (Nat.le_of_ble_eq_true rfl) prd_O_arraysAt_2 (fun H locs hP hS => ?_)
  refine lv_if_eq (tgt := 17) hx hb prd_O_arraysAt_5 (by decide) (fun c5 => ?_) (fun c5 => ?_)
  · have hf := pr_it c5 hf
    refine lv_iconst (v := 0) hx hb prd_O_arraysAt_17 (by decide) ?_
    exact pr_reti E hP hS (pr_ro hf) prd_O_arraysAt_18
  · have hf := pr_ie c5 hf
    refine lv_aload_n hx hb prd_O_arraysAt_8 rfl (lv_at hl 0 rfl) ?_
    refine pr_getr (t := 29) hx hb hts prs_O hown hK hP 4 4 (by decide) rfl (hts _ prw_272) rfl prd_O_arraysAt_9 ?_
    refine lv_iload_n hx hb prd_O_arraysAt_12 rfl (lv_at hl 1 rfl) ?_
    obtain ⟨hi6, hf⟩ := pr_ck_in hf
    refine pr_iald (f := (σ.2.1 29)) hx hb hK hP 29 (by decide) rfl hi6 rfl prd_O_arraysAt_13 ?_
    refine lv_goto (tgt := 18) hx hb prd_O_arraysAt_14 (by decide) ?_
    exact pr_reti E hP hS (pr_ro hf) prd_O_arraysAt_18
-- O_beginOther
set_option maxHeartbeats 4000000 in
set_option maxRecDepth 100000 in
theorem prc_O_beginOther {l : Launch} {D : va_G} {ad : Nat → Nat} {dA : Nat → ClassId} {A : Nat → Prop} {t : Nat} (hD : ∀ σ : pr_St, va_D A (pr_w prc_L ad dA σ)) (hX : pr_Xok A (prX t A)) (h : Nat) (hh : 1 ≤ h) (σ : pr_St) (x1 : Int32) (res : pr_St) (hf : prf_O_beginOther σ x1 = some res) : Met l pry_O_beginOther (Cond.code pry_O_beginOther prb_O_beginOther 2 none :: pr_U) (pr_rm h) (pr_Pc (prX t A) D pr_cl prc_L ad dA [.ref (ad 4), .int x1] σ) (pr_Qv D pr_cl prc_L ad dA A res) 0 0 A := by
  refine pr_entry (cc := prb_O_beginOther) (maxL := 2) (ret := none) (by decide) (Nat.le_of_ble_eq_true rfl) hD hX ?_
  intro p e s m args below meth c E H locs hP hS ls hl
  have hl : lv_has ls 2 [(0, .ref (ad 4)), (1, .int x1)] := hl
  have hf := hf.symm
  unfold prf_O_beginOther at hf
  obtain ⟨hx, hb, hml, hown, hts, hr, hlocks, hK, hD, hX, hXs⟩ := id E
  refine lv_aload_n hx hb prd_O_beginOther_0 rfl (lv_at hl 0 rfl) ?_
  refine lv_iload_n hx hb prd_O_beginOther_1 rfl (lv_at hl 1 rfl) ?_
  obtain ⟨r4, hr4, hf⟩ := pr_bi hf
  refine pr_callVr (rest := []) (r := r4) ⟨hx, hb, hml, hown, hts⟩ 4 (prc_O_isPoint hD hX 0 (Nat.le_refl _) σ x1 r4 hr4) (prg_O_isPoint hts prw_265 (by have := hh; omega)) hX hXs hK hP hS (by decide) rfl rfl rfl rfl hl.1 (Nat.le_of_ble_eq_true rfl) prd_O_beginOther_2 (fun H locs hP hS => ?_)
  refine lv_if_eq (tgt := 18) hx hb prd_O_beginOther_5 (by decide) (fun c5 => ?_) (fun c5 => ?_)
  · have hf := pr_it c5 hf
    exact pr_retv E hP hS (pr_so hf) prd_O_beginOther_18
  · have hf := pr_ie c5 hf
    refine lv_aload_n hx hb prd_O_beginOther_8 rfl (lv_at hl 0 rfl) ?_
    refine pr_getr (t := 37) hx hb hts prs_O hown hK hP 4 12 (by decide) rfl (hts _ prw_258) rfl prd_O_beginOther_9 ?_
    refine lv_iload_n hx hb prd_O_beginOther_12 rfl (lv_at hl 1 rfl) ?_
    refine lv_aload_n hx hb prd_O_beginOther_13 rfl (lv_at hl 0 rfl) ?_
    refine pr_geti (v := (σ.1 4 14)) hx hb hts prs_O hown hK hP 4 14 (by decide) rfl (hts _ prw_247) rfl rfl prd_O_beginOther_14 ?_
    obtain ⟨hi6, hf⟩ := pr_ck_in hf
    refine pr_iast (f := (σ.2.1 37)) hx hb hK hP (hD _) hS 37 (by decide) rfl hi6 rfl prd_O_beginOther_17 (fun H locs hP hS => ?_)
    exact pr_retv E hP hS (pr_so hf) prd_O_beginOther_18
-- O_close
set_option maxHeartbeats 4000000 in
set_option maxRecDepth 100000 in
theorem prc_O_close {l : Launch} {D : va_G} {ad : Nat → Nat} {dA : Nat → ClassId} {A : Nat → Prop} {t : Nat} (hD : ∀ σ : pr_St, va_D A (pr_w prc_L ad dA σ)) (hX : pr_Xok A (prX t A)) (h : Nat) (hh : 1 ≤ h) (σ : pr_St) (x1 : Int32) (res : pr_St) (hf : prf_O_close σ x1 = some res) : Met l pry_O_close (Cond.code pry_O_close prb_O_close 2 none :: pr_U) (pr_rm h) (pr_Pc (prX t A) D pr_cl prc_L ad dA [.ref (ad 4), .int x1] σ) (pr_Qv D pr_cl prc_L ad dA A res) 0 0 A := by
  refine pr_entry (cc := prb_O_close) (maxL := 2) (ret := none) (by decide) (Nat.le_of_ble_eq_true rfl) hD hX ?_
  intro p e s m args below meth c E H locs hP hS ls hl
  have hl : lv_has ls 2 [(0, .ref (ad 4)), (1, .int x1)] := hl
  have hf := hf.symm
  unfold prf_O_close at hf
  obtain ⟨hx, hb, hml, hown, hts, hr, hlocks, hK, hD, hX, hXs⟩ := id E
  refine lv_aload_n hx hb prd_O_close_0 rfl (lv_at hl 0 rfl) ?_
  refine lv_iload_n hx hb prd_O_close_1 rfl (lv_at hl 1 rfl) ?_
  obtain ⟨r4, hr4, hf⟩ := pr_bi hf
  refine pr_callVr (rest := []) (r := r4) ⟨hx, hb, hml, hown, hts⟩ 4 (prc_O_isPoint hD hX 0 (Nat.le_refl _) σ x1 r4 hr4) (prg_O_isPoint hts prw_265 (by have := hh; omega)) hX hXs hK hP hS (by decide) rfl rfl rfl rfl hl.1 (Nat.le_of_ble_eq_true rfl) prd_O_close_2 (fun H locs hP hS => ?_)
  refine lv_if_eq (tgt := 18) hx hb prd_O_close_5 (by decide) (fun c5 => ?_) (fun c5 => ?_)
  · have hf := pr_it c5 hf
    exact pr_retv E hP hS (pr_so hf) prd_O_close_18
  · have hf := pr_ie c5 hf
    refine lv_aload_n hx hb prd_O_close_8 rfl (lv_at hl 0 rfl) ?_
    refine pr_getr (t := 35) hx hb hts prs_O hown hK hP 4 10 (by decide) rfl (hts _ prw_256) rfl prd_O_close_9 ?_
    refine lv_iload_n hx hb prd_O_close_12 rfl (lv_at hl 1 rfl) ?_
    refine lv_aload_n hx hb prd_O_close_13 rfl (lv_at hl 0 rfl) ?_
    refine pr_geti (v := (σ.1 4 14)) hx hb hts prs_O hown hK hP 4 14 (by decide) rfl (hts _ prw_247) rfl rfl prd_O_close_14 ?_
    obtain ⟨hi6, hf⟩ := pr_ck_in hf
    refine pr_iast (f := (σ.2.1 35)) hx hb hK hP (hD _) hS 35 (by decide) rfl hi6 rfl prd_O_close_17 (fun H locs hP hS => ?_)
    exact pr_retv E hP hS (pr_so hf) prd_O_close_18
-- O_count
set_option maxHeartbeats 4000000 in
set_option maxRecDepth 100000 in
theorem prc_O_count {l : Launch} {D : va_G} {ad : Nat → Nat} {dA : Nat → ClassId} {A : Nat → Prop} {t : Nat} (hD : ∀ σ : pr_St, va_D A (pr_w prc_L ad dA σ)) (hX : pr_Xok A (prX t A)) (h : Nat) (hh : 0 ≤ h) (σ : pr_St)  (res : Int32) (hf : prf_O_count σ  = some res) : Met l pry_O_count (Cond.code pry_O_count prb_O_count 1 (some .int) :: pr_U) (pr_rm h) (pr_Pc (prX t A) D pr_cl prc_L ad dA [.ref (ad 4)] σ) (pr_Qi D pr_cl prc_L ad dA A (res, σ)) 0 0 A := by
  refine pr_entry (cc := prb_O_count) (maxL := 1) (ret := (some .int)) (by decide) (Nat.le_of_ble_eq_true rfl) hD hX ?_
  intro p e s m args below meth c E H locs hP hS ls hl
  have hl : lv_has ls 1 [(0, .ref (ad 4))] := hl
  have hf := hf.symm
  unfold prf_O_count at hf
  obtain ⟨hx, hb, hml, hown, hts, hr, hlocks, hK, hD, hX, hXs⟩ := id E
  refine lv_aload_n hx hb prd_O_count_0 rfl (lv_at hl 0 rfl) ?_
  refine pr_geti (v := (σ.1 4 14)) hx hb hts prs_O hown hK hP 4 14 (by decide) rfl (hts _ prw_247) rfl rfl prd_O_count_1 ?_
  exact pr_reti E hP hS (pr_ro hf) prd_O_count_4
-- O_kindOf
set_option maxHeartbeats 4000000 in
set_option maxRecDepth 100000 in
theorem prc_O_kindOf {l : Launch} {D : va_G} {ad : Nat → Nat} {dA : Nat → ClassId} {A : Nat → Prop} {t : Nat} (hD : ∀ σ : pr_St, va_D A (pr_w prc_L ad dA σ)) (hX : pr_Xok A (prX t A)) (h : Nat) (hh : 1 ≤ h) (σ : pr_St) (x1 : Int32) (res : Int32) (hf : prf_O_kindOf σ x1 = some res) : Met l pry_O_kindOf (Cond.code pry_O_kindOf prb_O_kindOf 2 (some .int) :: pr_U) (pr_rm h) (pr_Pc (prX t A) D pr_cl prc_L ad dA [.ref (ad 4), .int x1] σ) (pr_Qi D pr_cl prc_L ad dA A (res, σ)) 0 0 A := by
  refine pr_entry (cc := prb_O_kindOf) (maxL := 2) (ret := (some .int)) (by decide) (Nat.le_of_ble_eq_true rfl) hD hX ?_
  intro p e s m args below meth c E H locs hP hS ls hl
  have hl : lv_has ls 2 [(0, .ref (ad 4)), (1, .int x1)] := hl
  have hf := hf.symm
  unfold prf_O_kindOf at hf
  obtain ⟨hx, hb, hml, hown, hts, hr, hlocks, hK, hD, hX, hXs⟩ := id E
  refine lv_aload_n hx hb prd_O_kindOf_0 rfl (lv_at hl 0 rfl) ?_
  refine lv_iload_n hx hb prd_O_kindOf_1 rfl (lv_at hl 1 rfl) ?_
  obtain ⟨r4, hr4, hf⟩ := pr_bi hf
  refine pr_callVr (rest := []) (r := r4) ⟨hx, hb, hml, hown, hts⟩ 4 (prc_O_isPoint hD hX 0 (Nat.le_refl _) σ x1 r4 hr4) (prg_O_isPoint hts prw_265 (by have := hh; omega)) hX hXs hK hP hS (by decide) rfl rfl rfl rfl hl.1 (Nat.le_of_ble_eq_true rfl) prd_O_kindOf_2 (fun H locs hP hS => ?_)
  refine lv_if_eq (tgt := 17) hx hb prd_O_kindOf_5 (by decide) (fun c5 => ?_) (fun c5 => ?_)
  · have hf := pr_it c5 hf
    refine lv_iconst (v := 0) hx hb prd_O_kindOf_17 (by decide) ?_
    exact pr_reti E hP hS (pr_ro hf) prd_O_kindOf_18
  · have hf := pr_ie c5 hf
    refine lv_aload_n hx hb prd_O_kindOf_8 rfl (lv_at hl 0 rfl) ?_
    refine pr_getr (t := 25) hx hb hts prs_O hown hK hP 4 0 (by decide) rfl (hts _ prw_252) rfl prd_O_kindOf_9 ?_
    refine lv_iload_n hx hb prd_O_kindOf_12 rfl (lv_at hl 1 rfl) ?_
    obtain ⟨hi6, hf⟩ := pr_ck_in hf
    refine pr_bald (f := (σ.2.1 25)) hx hb hK hP 25 (by decide) rfl hi6 rfl prd_O_kindOf_13 ?_
    refine lv_goto (tgt := 18) hx hb prd_O_kindOf_14 (by decide) ?_
    exact pr_reti E hP hS (pr_ro hf) prd_O_kindOf_18
-- O_foreignNumbersAt
set_option maxHeartbeats 4000000 in
set_option maxRecDepth 100000 in
theorem prc_O_foreignNumbersAt {l : Launch} {D : va_G} {ad : Nat → Nat} {dA : Nat → ClassId} {A : Nat → Prop} {t : Nat} (hD : ∀ σ : pr_St, va_D A (pr_w prc_L ad dA σ)) (hX : pr_Xok A (prX t A)) (h : Nat) (hh : 1 ≤ h) (σ : pr_St) (x1 : Int32) (res : Int32) (hf : prf_O_foreignNumbersAt σ x1 = some res) : Met l pry_O_foreignNumbersAt (Cond.code pry_O_foreignNumbersAt prb_O_foreignNumbersAt 2 (some .int) :: pr_U) (pr_rm h) (pr_Pc (prX t A) D pr_cl prc_L ad dA [.ref (ad 4), .int x1] σ) (pr_Qi D pr_cl prc_L ad dA A (res, σ)) 0 0 A := by
  refine pr_entry (cc := prb_O_foreignNumbersAt) (maxL := 2) (ret := (some .int)) (by decide) (Nat.le_of_ble_eq_true rfl) hD hX ?_
  intro p e s m args below meth c E H locs hP hS ls hl
  have hl : lv_has ls 2 [(0, .ref (ad 4)), (1, .int x1)] := hl
  have hf := hf.symm
  unfold prf_O_foreignNumbersAt at hf
  obtain ⟨hx, hb, hml, hown, hts, hr, hlocks, hK, hD, hX, hXs⟩ := id E
  refine lv_aload_n hx hb prd_O_foreignNumbersAt_0 rfl (lv_at hl 0 rfl) ?_
  refine lv_iload_n hx hb prd_O_foreignNumbersAt_1 rfl (lv_at hl 1 rfl) ?_
  obtain ⟨r4, hr4, hf⟩ := pr_bi hf
  refine pr_callVr (rest := []) (r := r4) ⟨hx, hb, hml, hown, hts⟩ 4 (prc_O_isPoint hD hX 0 (Nat.le_refl _) σ x1 r4 hr4) (prg_O_isPoint hts prw_265 (by have := hh; omega)) hX hXs hK hP hS (by decide) rfl rfl rfl rfl hl.1 (Nat.le_of_ble_eq_true rfl) prd_O_foreignNumbersAt_2 (fun H locs hP hS => ?_)
  refine lv_if_eq (tgt := 17) hx hb prd_O_foreignNumbersAt_5 (by decide) (fun c5 => ?_) (fun c5 => ?_)
  · have hf := pr_it c5 hf
    refine lv_iconst (v := 0) hx hb prd_O_foreignNumbersAt_17 (by decide) ?_
    exact pr_reti E hP hS (pr_ro hf) prd_O_foreignNumbersAt_18
  · have hf := pr_ie c5 hf
    refine lv_aload_n hx hb prd_O_foreignNumbersAt_8 rfl (lv_at hl 0 rfl) ?_
    refine pr_getr (t := 30) hx hb hts prs_O hown hK hP 4 5 (by decide) rfl (hts _ prw_276) rfl prd_O_foreignNumbersAt_9 ?_
    refine lv_iload_n hx hb prd_O_foreignNumbersAt_12 rfl (lv_at hl 1 rfl) ?_
    obtain ⟨hi6, hf⟩ := pr_ck_in hf
    refine pr_iald (f := (σ.2.1 30)) hx hb hK hP 30 (by decide) rfl hi6 rfl prd_O_foreignNumbersAt_13 ?_
    refine lv_goto (tgt := 18) hx hb prd_O_foreignNumbersAt_14 (by decide) ?_
    exact pr_reti E hP hS (pr_ro hf) prd_O_foreignNumbersAt_18
-- O_foreignArraysAt
set_option maxHeartbeats 4000000 in
set_option maxRecDepth 100000 in
theorem prc_O_foreignArraysAt {l : Launch} {D : va_G} {ad : Nat → Nat} {dA : Nat → ClassId} {A : Nat → Prop} {t : Nat} (hD : ∀ σ : pr_St, va_D A (pr_w prc_L ad dA σ)) (hX : pr_Xok A (prX t A)) (h : Nat) (hh : 1 ≤ h) (σ : pr_St) (x1 : Int32) (res : Int32) (hf : prf_O_foreignArraysAt σ x1 = some res) : Met l pry_O_foreignArraysAt (Cond.code pry_O_foreignArraysAt prb_O_foreignArraysAt 2 (some .int) :: pr_U) (pr_rm h) (pr_Pc (prX t A) D pr_cl prc_L ad dA [.ref (ad 4), .int x1] σ) (pr_Qi D pr_cl prc_L ad dA A (res, σ)) 0 0 A := by
  refine pr_entry (cc := prb_O_foreignArraysAt) (maxL := 2) (ret := (some .int)) (by decide) (Nat.le_of_ble_eq_true rfl) hD hX ?_
  intro p e s m args below meth c E H locs hP hS ls hl
  have hl : lv_has ls 2 [(0, .ref (ad 4)), (1, .int x1)] := hl
  have hf := hf.symm
  unfold prf_O_foreignArraysAt at hf
  obtain ⟨hx, hb, hml, hown, hts, hr, hlocks, hK, hD, hX, hXs⟩ := id E
  refine lv_aload_n hx hb prd_O_foreignArraysAt_0 rfl (lv_at hl 0 rfl) ?_
  refine lv_iload_n hx hb prd_O_foreignArraysAt_1 rfl (lv_at hl 1 rfl) ?_
  obtain ⟨r4, hr4, hf⟩ := pr_bi hf
  refine pr_callVr (rest := []) (r := r4) ⟨hx, hb, hml, hown, hts⟩ 4 (prc_O_isPoint hD hX 0 (Nat.le_refl _) σ x1 r4 hr4) (prg_O_isPoint hts prw_265 (by have := hh; omega)) hX hXs hK hP hS (by decide) rfl rfl rfl rfl hl.1 (Nat.le_of_ble_eq_true rfl) prd_O_foreignArraysAt_2 (fun H locs hP hS => ?_)
  refine lv_if_eq (tgt := 17) hx hb prd_O_foreignArraysAt_5 (by decide) (fun c5 => ?_) (fun c5 => ?_)
  · have hf := pr_it c5 hf
    refine lv_iconst (v := 0) hx hb prd_O_foreignArraysAt_17 (by decide) ?_
    exact pr_reti E hP hS (pr_ro hf) prd_O_foreignArraysAt_18
  · have hf := pr_ie c5 hf
    refine lv_aload_n hx hb prd_O_foreignArraysAt_8 rfl (lv_at hl 0 rfl) ?_
    refine pr_getr (t := 31) hx hb hts prs_O hown hK hP 4 6 (by decide) rfl (hts _ prw_277) rfl prd_O_foreignArraysAt_9 ?_
    refine lv_iload_n hx hb prd_O_foreignArraysAt_12 rfl (lv_at hl 1 rfl) ?_
    obtain ⟨hi6, hf⟩ := pr_ck_in hf
    refine pr_iald (f := (σ.2.1 31)) hx hb hK hP 31 (by decide) rfl hi6 rfl prd_O_foreignArraysAt_13 ?_
    refine lv_goto (tgt := 18) hx hb prd_O_foreignArraysAt_14 (by decide) ?_
    exact pr_reti E hP hS (pr_ro hf) prd_O_foreignArraysAt_18
-- O_setTarget
set_option maxHeartbeats 4000000 in
set_option maxRecDepth 100000 in
theorem prc_O_setTarget {l : Launch} {D : va_G} {ad : Nat → Nat} {dA : Nat → ClassId} {A : Nat → Prop} {t : Nat} (hD : ∀ σ : pr_St, va_D A (pr_w prc_L ad dA σ)) (hX : pr_Xok A (prX t A)) (h : Nat) (hh : 1 ≤ h) (σ : pr_St) (x1 : Int32) (x2 : Int32) (res : pr_St) (hf : prf_O_setTarget σ x1 x2 = some res) : Met l pry_O_setTarget (Cond.code pry_O_setTarget prb_O_setTarget 3 none :: pr_U) (pr_rm h) (pr_Pc (prX t A) D pr_cl prc_L ad dA [.ref (ad 4), .int x1, .int x2] σ) (pr_Qv D pr_cl prc_L ad dA A res) 0 0 A := by
  refine pr_entry (cc := prb_O_setTarget) (maxL := 3) (ret := none) (by decide) (Nat.le_of_ble_eq_true rfl) hD hX ?_
  intro p e s m args below meth c E H locs hP hS ls hl
  have hl : lv_has ls 3 [(0, .ref (ad 4)), (1, .int x1), (2, .int x2)] := hl
  have hf := hf.symm
  unfold prf_O_setTarget at hf
  obtain ⟨hx, hb, hml, hown, hts, hr, hlocks, hK, hD, hX, hXs⟩ := id E
  refine lv_aload_n hx hb prd_O_setTarget_0 rfl (lv_at hl 0 rfl) ?_
  refine lv_iload_n hx hb prd_O_setTarget_1 rfl (lv_at hl 1 rfl) ?_
  obtain ⟨r4, hr4, hf⟩ := pr_bi hf
  refine pr_callVr (rest := []) (r := r4) ⟨hx, hb, hml, hown, hts⟩ 4 (prc_O_isPoint hD hX 0 (Nat.le_refl _) σ x1 r4 hr4) (prg_O_isPoint hts prw_265 (by have := hh; omega)) hX hXs hK hP hS (by decide) rfl rfl rfl rfl hl.1 (Nat.le_of_ble_eq_true rfl) prd_O_setTarget_2 (fun H locs hP hS => ?_)
  refine lv_if_eq (tgt := 15) hx hb prd_O_setTarget_5 (by decide) (fun c5 => ?_) (fun c5 => ?_)
  · have hf := pr_it c5 hf
    exact pr_retv E hP hS (pr_so hf) prd_O_setTarget_15
  · have hf := pr_ie c5 hf
    refine lv_aload_n hx hb prd_O_setTarget_8 rfl (lv_at hl 0 rfl) ?_
    refine pr_getr (t := 34) hx hb hts prs_O hown hK hP 4 9 (by decide) rfl (hts _ prw_255) rfl prd_O_setTarget_9 ?_
    refine lv_iload_n hx hb prd_O_setTarget_12 rfl (lv_at hl 1 rfl) ?_
    refine lv_iload_n hx hb prd_O_setTarget_13 rfl (lv_at hl 2 rfl) ?_
    obtain ⟨hi6, hf⟩ := pr_ck_in hf
    refine pr_iast (f := (σ.2.1 34)) hx hb hK hP (hD _) hS 34 (by decide) rfl hi6 rfl prd_O_setTarget_14 (fun H locs hP hS => ?_)
    exact pr_retv E hP hS (pr_so hf) prd_O_setTarget_15
-- O_behindBlock
set_option maxHeartbeats 4000000 in
set_option maxRecDepth 100000 in
theorem prc_O_behindBlock {l : Launch} {D : va_G} {ad : Nat → Nat} {dA : Nat → ClassId} {A : Nat → Prop} {t : Nat} (hD : ∀ σ : pr_St, va_D A (pr_w prc_L ad dA σ)) (hX : pr_Xok A (prX t A)) (h : Nat) (hh : 1 ≤ h) (σ : pr_St) (x1 : Int32) (x2 : Int32) (res : Int32) (hf : prf_O_behindBlock σ x1 x2 = some res) : Met l pry_O_behindBlock (Cond.code pry_O_behindBlock prb_O_behindBlock 3 (some .int) :: pr_U) (pr_rm h) (pr_Pc (prX t A) D pr_cl prc_L ad dA [.ref (ad 4), .int x1, .int x2] σ) (pr_Qi D pr_cl prc_L ad dA A (res, σ)) 0 0 A := by
  refine pr_entry (cc := prb_O_behindBlock) (maxL := 3) (ret := (some .int)) (by decide) (Nat.le_of_ble_eq_true rfl) hD hX ?_
  intro p e s m args below meth c E H locs hP hS ls hl
  have hl : lv_has ls 3 [(0, .ref (ad 4)), (1, .int x1), (2, .int x2)] := hl
  have hf := hf.symm
  unfold prf_O_behindBlock at hf
  obtain ⟨hx, hb, hml, hown, hts, hr, hlocks, hK, hD, hX, hXs⟩ := id E
  refine lv_aload_n hx hb prd_O_behindBlock_0 rfl (lv_at hl 0 rfl) ?_
  refine lv_iload_n hx hb prd_O_behindBlock_1 rfl (lv_at hl 1 rfl) ?_
  obtain ⟨r6, hr6, hf⟩ := pr_bi hf
  refine pr_callVr (rest := []) (r := r6) ⟨hx, hb, hml, hown, hts⟩ 4 (prc_O_isPoint hD hX 0 (Nat.le_refl _) σ x1 r6 hr6) (prg_O_isPoint hts prw_265 (by have := hh; omega)) hX hXs hK hP hS (by decide) rfl rfl rfl rfl hl.1 (Nat.le_of_ble_eq_true rfl) prd_O_behindBlock_2 (fun H locs hP hS => ?_)
  refine lv_if_ne (tgt := 10) hx hb prd_O_behindBlock_5 (by decide) (fun c7 => ?_) (fun c7 => ?_)
  · have hf := pr_ie c7 hf
    refine lv_aload_n hx hb prd_O_behindBlock_10 rfl (lv_at hl 0 rfl) ?_
    refine pr_getr (t := 25) hx hb hts prs_O hown hK hP 4 0 (by decide) rfl (hts _ prw_252) rfl prd_O_behindBlock_11 ?_
    refine lv_iload_n hx hb prd_O_behindBlock_14 rfl (lv_at hl 1 rfl) ?_
    obtain ⟨hi8, hf⟩ := pr_ck_in hf
    refine pr_bald (f := (σ.2.1 25)) hx hb hK hP 25 (by decide) rfl hi8 rfl prd_O_behindBlock_15 ?_
    refine lv_bipush (v := 6) hx hb prd_O_behindBlock_16 (by decide) ?_
    refine lv_icmp_ne (tgt := 25) hx hb prd_O_behindBlock_18 (by decide) (fun c9 => ?_) (fun c9 => ?_)
    · have hf := pr_ie c9 hf
      refine lv_aload_n hx hb prd_O_behindBlock_25 rfl (lv_at hl 0 rfl) ?_
      refine pr_getr (t := 38) hx hb hts prs_O hown hK hP 4 13 (by decide) rfl (hts _ prw_285) rfl prd_O_behindBlock_26 ?_
      refine lv_iload_n hx hb prd_O_behindBlock_29 rfl (lv_at hl 1 rfl) ?_
      obtain ⟨hi10, hf⟩ := pr_ck_in hf
      refine pr_iald (f := (σ.2.1 38)) hx hb hK hP 38 (by decide) rfl hi10 rfl prd_O_behindBlock_30 ?_
      exact pr_reti E hP hS (pr_ro hf) prd_O_behindBlock_31
    · have hf := pr_it c9 hf
      refine lv_iload_n hx hb prd_O_behindBlock_21 rfl (lv_at hl 1 rfl) ?_
      refine lv_goto (tgt := 31) hx hb prd_O_behindBlock_22 (by decide) ?_
      exact pr_reti E hP hS (pr_ro hf) prd_O_behindBlock_31
  · have hf := pr_it c7 hf
    refine lv_iload_n hx hb prd_O_behindBlock_8 rfl (lv_at hl 2 rfl) ?_
    exact pr_reti E hP hS (pr_ro hf) prd_O_behindBlock_9
-- O_finish
set_option maxHeartbeats 4000000 in
set_option maxRecDepth 100000 in
theorem prk_O_finish_11 {l : Launch} {D : va_G} {ad : Nat → Nat} {dA : Nat → ClassId} {A : Nat → Prop} {t : Nat} {p : Program} {e : Env} {s : State} {m : MethodId} {args : Array Value} {below : List Frame} {meth : Method} {c : Code} {h : Nat} (hh : 3 ≤ h) (E : pr_cx prn_O prb_O_finish 4 none D pr_cl prc_L ad dA A (prX t A) p s m args meth c) : ∀ n : Nat, ∀ (σ : pr_St) (x1 : Int32) (x2 : Int32) (res : pr_St), some res = prf_O_finish_11 n σ x1 x2 → ∀ (H : Heap) (locs : List Loc) (ls : Array Slot), va_P D pr_cl (pr_w prc_L ad dA σ) H → va_S A s.heap H locs → lv_has ls 4 [(0, .ref (ad 4)), (1, .int x1), (2, .int x2)] → W p l e (pr_rm h) s m args below meth c H locs 0 0 (MQ below (pr_Qv D pr_cl prc_L ad dA A res) args s 0 0 A) (F0 m 11 ls []) := by
  obtain ⟨hx, hb, hml, hown, hts, hr, hlocks, hK, hD, hX, hXs⟩ := id E
  intro n
  induction n with
  | zero =>
    intro σ x1 x2 res hf
    rw [prf_O_finish_11] at hf
    cases hf
  | succ n ih =>
    intro σ x1 x2 res hf H locs ls hP hS hl
    rw [prf_O_finish_11] at hf
    refine lv_iload_n hx hb prd_O_finish_11 rfl (lv_at hl 2 rfl) ?_
    refine lv_iload_n hx hb prd_O_finish_12 rfl (lv_at hl 1 rfl) ?_
    refine lv_icmp_ge (tgt := 145) hx hb prd_O_finish_13 (by decide) (fun c85 => ?_) (fun c85 => ?_)
    · have hf := pr_it c85 hf
      exact pr_retv E hP hS (pr_so hf) prd_O_finish_145
    · have hf := pr_ie c85 hf
      refine lv_iload_n hx hb prd_O_finish_16 rfl (lv_at hl 2 rfl) ?_
      refine lv_aload_n hx hb prd_O_finish_17 rfl (lv_at hl 0 rfl) ?_
      refine pr_getr (t := 38) hx hb hts prs_O hown hK hP 4 13 (by decide) rfl (hts _ prw_285) rfl prd_O_finish_18 ?_
      refine pr_alen (v := 250) hx hb hK hP 38 (by decide) (by decide) prd_O_finish_21 ?_
      refine lv_icmp_ge (tgt := 145) hx hb prd_O_finish_22 (by decide) (fun c86 => ?_) (fun c86 => ?_)
      · have hf := pr_it c86 hf
        exact pr_retv E hP hS (pr_so hf) prd_O_finish_145
      · have hf := pr_ie c86 hf
        refine lv_aload_n hx hb prd_O_finish_25 rfl (lv_at hl 0 rfl) ?_
        refine pr_getr (t := 38) hx hb hts prs_O hown hK hP 4 13 (by decide) rfl (hts _ prw_285) rfl prd_O_finish_26 ?_
        refine lv_iload_n hx hb prd_O_finish_29 rfl (lv_at hl 2 rfl) ?_
        refine lv_aload_n hx hb prd_O_finish_30 rfl (lv_at hl 0 rfl) ?_
        refine pr_getr (t := 33) hx hb hts prs_O hown hK hP 4 8 (by decide) rfl (hts _ prw_267) rfl prd_O_finish_31 ?_
        refine lv_iload_n hx hb prd_O_finish_34 rfl (lv_at hl 2 rfl) ?_
        obtain ⟨hi87, hf⟩ := pr_ck_in hf
        refine pr_zald (f := (σ.2.1 33)) hx hb hK hP 33 (by decide) rfl hi87 rfl prd_O_finish_35 ?_
        refine lv_if_eq (tgt := 53) hx hb prd_O_finish_36 (by decide) (fun c88 => ?_) (fun c88 => ?_)
        · have hf := pr_it c88 hf
          refine lv_aload_n hx hb prd_O_finish_53 rfl (lv_at hl 0 rfl) ?_
          refine pr_getr (t := 35) hx hb hts prs_O hown hK hP 4 10 (by decide) rfl (hts _ prw_256) rfl prd_O_finish_54 ?_
          refine lv_iload_n hx hb prd_O_finish_57 rfl (lv_at hl 2 rfl) ?_
          obtain ⟨hi89, hf⟩ := pr_ck_in hf
          refine pr_iald (f := (σ.2.1 35)) hx hb hK hP 35 (by decide) rfl hi89 rfl prd_O_finish_58 ?_
          obtain ⟨hi90, hf⟩ := pr_ck_in hf
          refine pr_iast (f := (σ.2.1 38)) hx hb hK hP (hD _) hS 38 (by decide) rfl hi90 rfl prd_O_finish_59 (fun H locs hP hS => ?_)
          refine lv_aload_n hx hb prd_O_finish_60 rfl (lv_at hl 0 rfl) ?_
          refine pr_getr (t := 25) hx hb hts prs_O hown hK hP 4 0 (by decide) rfl (hts _ prw_252) rfl prd_O_finish_61 ?_
          refine lv_iload_n hx hb prd_O_finish_64 rfl (lv_at hl 2 rfl) ?_
          obtain ⟨hi91, hf⟩ := pr_ck_in hf
          refine pr_bald (f := (σ.2.1 25)) hx hb hK hP 25 (by decide) rfl hi91 rfl prd_O_finish_65 ?_
          refine lv_bipush (v := 6) hx hb prd_O_finish_66 (by decide) ?_
          refine lv_icmp_ne (tgt := 75) hx hb prd_O_finish_68 (by decide) (fun c92 => ?_) (fun c92 => ?_)
          · have hf := pr_ie c92 hf
            refine lv_aload_n hx hb prd_O_finish_75 rfl (lv_at hl 0 rfl) ?_
            refine pr_getr (t := 38) hx hb hts prs_O hown hK hP 4 13 (by decide) rfl (hts _ prw_285) rfl prd_O_finish_76 ?_
            refine lv_iload_n hx hb prd_O_finish_79 rfl (lv_at hl 2 rfl) ?_
            obtain ⟨hi93, hf⟩ := pr_ck_in hf
            refine pr_iald (f := (upd (σ.2.1 38) x2.toNatClampNeg ((σ.2.1 35) x2.toNatClampNeg))) hx hb hK hP 38 (by decide) rfl hi93 rfl prd_O_finish_80 ?_
            refine lv_istore_n (lv' := [(3, .int ((upd (σ.2.1 38) x2.toNatClampNeg ((σ.2.1 35) x2.toNatClampNeg)) x2.toNatClampNeg)), (0, .ref (ad 4)), (1, .int x1), (2, .int x2)]) hx hb prd_O_finish_81 rfl hl (by decide) rfl (fun ls hl => ?_)
            refine lv_aload_n hx hb prd_O_finish_82 rfl (lv_at hl 1 rfl) ?_
            refine pr_getr (t := 36) hx hb hts prs_O hown hK hP 4 11 (by decide) rfl (hts _ prw_257) rfl prd_O_finish_83 ?_
            refine lv_iload_n hx hb prd_O_finish_86 rfl (lv_at hl 3 rfl) ?_
            refine lv_aload_n hx hb prd_O_finish_87 rfl (lv_at hl 1 rfl) ?_
            refine pr_getr (t := 36) hx hb hts prs_O hown hK hP 4 11 (by decide) rfl (hts _ prw_257) rfl prd_O_finish_88 ?_
            refine lv_iload_n hx hb prd_O_finish_91 rfl (lv_at hl 3 rfl) ?_
            obtain ⟨hi94, hf⟩ := pr_ck_in hf
            refine pr_iald (f := (σ.2.1 36)) hx hb hK hP 36 (by decide) rfl hi94 rfl prd_O_finish_92 ?_
            refine lv_iconst (v := (-1)) hx hb prd_O_finish_93 (by decide) ?_
            refine lv_icmp_ne (tgt := 101) hx hb prd_O_finish_94 (by decide) (fun c95 => ?_) (fun c95 => ?_)
            · have hf := pr_ie c95 hf
              refine lv_aload_n hx hb prd_O_finish_101 rfl (lv_at hl 1 rfl) ?_
              refine pr_getr (t := 36) hx hb hts prs_O hown hK hP 4 11 (by decide) rfl (hts _ prw_257) rfl prd_O_finish_102 ?_
              refine lv_iload_n hx hb prd_O_finish_105 rfl (lv_at hl 3 rfl) ?_
              obtain ⟨hi96, hf⟩ := pr_ck_in hf
              refine pr_iald (f := (σ.2.1 36)) hx hb hK hP 36 (by decide) rfl hi96 rfl prd_O_finish_106 ?_
              obtain ⟨hi97, hf⟩ := pr_ck_in hf
              refine pr_iast (f := (σ.2.1 36)) hx hb hK hP (hD _) hS 36 (by decide) rfl hi97 rfl prd_O_finish_107 (fun H locs hP hS => ?_)
              refine lv_aload_n hx hb prd_O_finish_108 rfl (lv_at hl 1 rfl) ?_
              refine pr_getr (t := 37) hx hb hts prs_O hown hK hP 4 12 (by decide) rfl (hts _ prw_258) rfl prd_O_finish_109 ?_
              refine lv_iload_n hx hb prd_O_finish_112 rfl (lv_at hl 3 rfl) ?_
              refine lv_aload_n hx hb prd_O_finish_113 rfl (lv_at hl 1 rfl) ?_
              refine pr_getr (t := 37) hx hb hts prs_O hown hK hP 4 12 (by decide) rfl (hts _ prw_258) rfl prd_O_finish_114 ?_
              refine lv_iload_n hx hb prd_O_finish_117 rfl (lv_at hl 3 rfl) ?_
              obtain ⟨hi98, hf⟩ := pr_ck_in hf
              refine pr_iald (f := (σ.2.1 37)) hx hb hK hP 37 (by decide) rfl hi98 rfl prd_O_finish_118 ?_
              refine lv_iconst (v := (-1)) hx hb prd_O_finish_119 (by decide) ?_
              refine lv_icmp_ne (tgt := 132) hx hb prd_O_finish_120 (by decide) (fun c99 => ?_) (fun c99 => ?_)
              · have hf := pr_ie c99 hf
                refine lv_aload_n hx hb prd_O_finish_132 rfl (lv_at hl 1 rfl) ?_
                refine pr_getr (t := 37) hx hb hts prs_O hown hK hP 4 12 (by decide) rfl (hts _ prw_258) rfl prd_O_finish_133 ?_
                refine lv_iload_n hx hb prd_O_finish_136 rfl (lv_at hl 3 rfl) ?_
                obtain ⟨hi100, hf⟩ := pr_ck_in hf
                refine pr_iald (f := (σ.2.1 37)) hx hb hK hP 37 (by decide) rfl hi100 rfl prd_O_finish_137 ?_
                obtain ⟨hi101, hf⟩ := pr_ck_in hf
                refine pr_iast (f := (σ.2.1 37)) hx hb hK hP (hD _) hS 37 (by decide) rfl hi101 rfl prd_O_finish_138 (fun H locs hP hS => ?_)
                refine lv_iinc (v := (x2 + 1)) (lv' := [(2, .int (x2 + 1)), (3, .int ((upd (σ.2.1 38) x2.toNatClampNeg ((σ.2.1 35) x2.toNatClampNeg)) x2.toNatClampNeg)), (0, .ref (ad 4)), (1, .int x1)]) hx hb prd_O_finish_139 hl (k := 3) rfl rfl (by decide) rfl (fun ls hl => ?_)
                refine lv_goto (tgt := 11) hx hb prd_O_finish_142 (by decide) ?_
                exact ih (pr_sA (pr_sA (pr_sA σ 38 (upd (σ.2.1 38) x2.toNatClampNeg ((σ.2.1 35) x2.toNatClampNeg))) 36 (upd (σ.2.1 36) x2.toNatClampNeg ((σ.2.1 36) x2.toNatClampNeg))) 37 (upd (σ.2.1 37) x2.toNatClampNeg ((σ.2.1 37) x2.toNatClampNeg))) x1 (x2 + 1) _ hf _ _ _ hP hS (lv_sub hl [2, 3, 0] rfl)
              · have hf := pr_it c99 hf
                refine lv_aload_n hx hb prd_O_finish_123 rfl (lv_at hl 1 rfl) ?_
                refine pr_getr (t := 38) hx hb hts prs_O hown hK hP 4 13 (by decide) rfl (hts _ prw_285) rfl prd_O_finish_124 ?_
                refine lv_iload_n hx hb prd_O_finish_127 rfl (lv_at hl 3 rfl) ?_
                obtain ⟨hi102, hf⟩ := pr_ck_in hf
                refine pr_iald (f := (upd (σ.2.1 38) x2.toNatClampNeg ((σ.2.1 35) x2.toNatClampNeg))) hx hb hK hP 38 (by decide) rfl hi102 rfl prd_O_finish_128 ?_
                refine lv_goto (tgt := 138) hx hb prd_O_finish_129 (by decide) ?_
                obtain ⟨hi103, hf⟩ := pr_ck_in hf
                refine pr_iast (f := (σ.2.1 37)) hx hb hK hP (hD _) hS 37 (by decide) rfl hi103 rfl prd_O_finish_138 (fun H locs hP hS => ?_)
                refine lv_iinc (v := (x2 + 1)) (lv' := [(2, .int (x2 + 1)), (3, .int ((upd (σ.2.1 38) x2.toNatClampNeg ((σ.2.1 35) x2.toNatClampNeg)) x2.toNatClampNeg)), (0, .ref (ad 4)), (1, .int x1)]) hx hb prd_O_finish_139 hl (k := 3) rfl rfl (by decide) rfl (fun ls hl => ?_)
                refine lv_goto (tgt := 11) hx hb prd_O_finish_142 (by decide) ?_
                exact ih (pr_sA (pr_sA (pr_sA σ 38 (upd (σ.2.1 38) x2.toNatClampNeg ((σ.2.1 35) x2.toNatClampNeg))) 36 (upd (σ.2.1 36) x2.toNatClampNeg ((σ.2.1 36) x2.toNatClampNeg))) 37 (upd (σ.2.1 37) x2.toNatClampNeg ((upd (σ.2.1 38) x2.toNatClampNeg ((σ.2.1 35) x2.toNatClampNeg)) x2.toNatClampNeg))) x1 (x2 + 1) _ hf _ _ _ hP hS (lv_sub hl [2, 3, 0] rfl)
            · have hf := pr_it c95 hf
              refine lv_iload_n hx hb prd_O_finish_97 rfl (lv_at hl 0 rfl) ?_
              refine lv_goto (tgt := 107) hx hb prd_O_finish_98 (by decide) ?_
              obtain ⟨hi104, hf⟩ := pr_ck_in hf
              refine pr_iast (f := (σ.2.1 36)) hx hb hK hP (hD _) hS 36 (by decide) rfl hi104 rfl prd_O_finish_107 (fun H locs hP hS => ?_)
              refine lv_aload_n hx hb prd_O_finish_108 rfl (lv_at hl 1 rfl) ?_
              refine pr_getr (t := 37) hx hb hts prs_O hown hK hP 4 12 (by decide) rfl (hts _ prw_258) rfl prd_O_finish_109 ?_
              refine lv_iload_n hx hb prd_O_finish_112 rfl (lv_at hl 3 rfl) ?_
              refine lv_aload_n hx hb prd_O_finish_113 rfl (lv_at hl 1 rfl) ?_
              refine pr_getr (t := 37) hx hb hts prs_O hown hK hP 4 12 (by decide) rfl (hts _ prw_258) rfl prd_O_finish_114 ?_
              refine lv_iload_n hx hb prd_O_finish_117 rfl (lv_at hl 3 rfl) ?_
              obtain ⟨hi105, hf⟩ := pr_ck_in hf
              refine pr_iald (f := (σ.2.1 37)) hx hb hK hP 37 (by decide) rfl hi105 rfl prd_O_finish_118 ?_
              refine lv_iconst (v := (-1)) hx hb prd_O_finish_119 (by decide) ?_
              refine lv_icmp_ne (tgt := 132) hx hb prd_O_finish_120 (by decide) (fun c106 => ?_) (fun c106 => ?_)
              · have hf := pr_ie c106 hf
                refine lv_aload_n hx hb prd_O_finish_132 rfl (lv_at hl 1 rfl) ?_
                refine pr_getr (t := 37) hx hb hts prs_O hown hK hP 4 12 (by decide) rfl (hts _ prw_258) rfl prd_O_finish_133 ?_
                refine lv_iload_n hx hb prd_O_finish_136 rfl (lv_at hl 3 rfl) ?_
                obtain ⟨hi107, hf⟩ := pr_ck_in hf
                refine pr_iald (f := (σ.2.1 37)) hx hb hK hP 37 (by decide) rfl hi107 rfl prd_O_finish_137 ?_
                obtain ⟨hi108, hf⟩ := pr_ck_in hf
                refine pr_iast (f := (σ.2.1 37)) hx hb hK hP (hD _) hS 37 (by decide) rfl hi108 rfl prd_O_finish_138 (fun H locs hP hS => ?_)
                refine lv_iinc (v := (x2 + 1)) (lv' := [(2, .int (x2 + 1)), (3, .int ((upd (σ.2.1 38) x2.toNatClampNeg ((σ.2.1 35) x2.toNatClampNeg)) x2.toNatClampNeg)), (0, .ref (ad 4)), (1, .int x1)]) hx hb prd_O_finish_139 hl (k := 3) rfl rfl (by decide) rfl (fun ls hl => ?_)
                refine lv_goto (tgt := 11) hx hb prd_O_finish_142 (by decide) ?_
                exact ih (pr_sA (pr_sA (pr_sA σ 38 (upd (σ.2.1 38) x2.toNatClampNeg ((σ.2.1 35) x2.toNatClampNeg))) 36 (upd (σ.2.1 36) x2.toNatClampNeg ((upd (σ.2.1 38) x2.toNatClampNeg ((σ.2.1 35) x2.toNatClampNeg)) x2.toNatClampNeg))) 37 (upd (σ.2.1 37) x2.toNatClampNeg ((σ.2.1 37) x2.toNatClampNeg))) x1 (x2 + 1) _ hf _ _ _ hP hS (lv_sub hl [2, 3, 0] rfl)
              · have hf := pr_it c106 hf
                refine lv_aload_n hx hb prd_O_finish_123 rfl (lv_at hl 1 rfl) ?_
                refine pr_getr (t := 38) hx hb hts prs_O hown hK hP 4 13 (by decide) rfl (hts _ prw_285) rfl prd_O_finish_124 ?_
                refine lv_iload_n hx hb prd_O_finish_127 rfl (lv_at hl 3 rfl) ?_
                obtain ⟨hi109, hf⟩ := pr_ck_in hf
                refine pr_iald (f := (upd (σ.2.1 38) x2.toNatClampNeg ((σ.2.1 35) x2.toNatClampNeg))) hx hb hK hP 38 (by decide) rfl hi109 rfl prd_O_finish_128 ?_
                refine lv_goto (tgt := 138) hx hb prd_O_finish_129 (by decide) ?_
                obtain ⟨hi110, hf⟩ := pr_ck_in hf
                refine pr_iast (f := (σ.2.1 37)) hx hb hK hP (hD _) hS 37 (by decide) rfl hi110 rfl prd_O_finish_138 (fun H locs hP hS => ?_)
                refine lv_iinc (v := (x2 + 1)) (lv' := [(2, .int (x2 + 1)), (3, .int ((upd (σ.2.1 38) x2.toNatClampNeg ((σ.2.1 35) x2.toNatClampNeg)) x2.toNatClampNeg)), (0, .ref (ad 4)), (1, .int x1)]) hx hb prd_O_finish_139 hl (k := 3) rfl rfl (by decide) rfl (fun ls hl => ?_)
                refine lv_goto (tgt := 11) hx hb prd_O_finish_142 (by decide) ?_
                exact ih (pr_sA (pr_sA (pr_sA σ 38 (upd (σ.2.1 38) x2.toNatClampNeg ((σ.2.1 35) x2.toNatClampNeg))) 36 (upd (σ.2.1 36) x2.toNatClampNeg ((upd (σ.2.1 38) x2.toNatClampNeg ((σ.2.1 35) x2.toNatClampNeg)) x2.toNatClampNeg))) 37 (upd (σ.2.1 37) x2.toNatClampNeg ((upd (σ.2.1 38) x2.toNatClampNeg ((σ.2.1 35) x2.toNatClampNeg)) x2.toNatClampNeg))) x1 (x2 + 1) _ hf _ _ _ hP hS (lv_sub hl [2, 3, 0] rfl)
          · have hf := pr_it c92 hf
            refine lv_iload_n hx hb prd_O_finish_71 rfl (lv_at hl 2 rfl) ?_
            refine lv_goto (tgt := 81) hx hb prd_O_finish_72 (by decide) ?_
            refine lv_istore_n (lv' := [(3, .int x2), (0, .ref (ad 4)), (1, .int x1), (2, .int x2)]) hx hb prd_O_finish_81 rfl hl (by decide) rfl (fun ls hl => ?_)
            refine lv_aload_n hx hb prd_O_finish_82 rfl (lv_at hl 1 rfl) ?_
            refine pr_getr (t := 36) hx hb hts prs_O hown hK hP 4 11 (by decide) rfl (hts _ prw_257) rfl prd_O_finish_83 ?_
            refine lv_iload_n hx hb prd_O_finish_86 rfl (lv_at hl 3 rfl) ?_
            refine lv_aload_n hx hb prd_O_finish_87 rfl (lv_at hl 1 rfl) ?_
            refine pr_getr (t := 36) hx hb hts prs_O hown hK hP 4 11 (by decide) rfl (hts _ prw_257) rfl prd_O_finish_88 ?_
            refine lv_iload_n hx hb prd_O_finish_91 rfl (lv_at hl 3 rfl) ?_
            obtain ⟨hi111, hf⟩ := pr_ck_in hf
            refine pr_iald (f := (σ.2.1 36)) hx hb hK hP 36 (by decide) rfl hi111 rfl prd_O_finish_92 ?_
            refine lv_iconst (v := (-1)) hx hb prd_O_finish_93 (by decide) ?_
            refine lv_icmp_ne (tgt := 101) hx hb prd_O_finish_94 (by decide) (fun c112 => ?_) (fun c112 => ?_)
            · have hf := pr_ie c112 hf
              refine lv_aload_n hx hb prd_O_finish_101 rfl (lv_at hl 1 rfl) ?_
              refine pr_getr (t := 36) hx hb hts prs_O hown hK hP 4 11 (by decide) rfl (hts _ prw_257) rfl prd_O_finish_102 ?_
              refine lv_iload_n hx hb prd_O_finish_105 rfl (lv_at hl 3 rfl) ?_
              obtain ⟨hi113, hf⟩ := pr_ck_in hf
              refine pr_iald (f := (σ.2.1 36)) hx hb hK hP 36 (by decide) rfl hi113 rfl prd_O_finish_106 ?_
              obtain ⟨hi114, hf⟩ := pr_ck_in hf
              refine pr_iast (f := (σ.2.1 36)) hx hb hK hP (hD _) hS 36 (by decide) rfl hi114 rfl prd_O_finish_107 (fun H locs hP hS => ?_)
              refine lv_aload_n hx hb prd_O_finish_108 rfl (lv_at hl 1 rfl) ?_
              refine pr_getr (t := 37) hx hb hts prs_O hown hK hP 4 12 (by decide) rfl (hts _ prw_258) rfl prd_O_finish_109 ?_
              refine lv_iload_n hx hb prd_O_finish_112 rfl (lv_at hl 3 rfl) ?_
              refine lv_aload_n hx hb prd_O_finish_113 rfl (lv_at hl 1 rfl) ?_
              refine pr_getr (t := 37) hx hb hts prs_O hown hK hP 4 12 (by decide) rfl (hts _ prw_258) rfl prd_O_finish_114 ?_
              refine lv_iload_n hx hb prd_O_finish_117 rfl (lv_at hl 3 rfl) ?_
              obtain ⟨hi115, hf⟩ := pr_ck_in hf
              refine pr_iald (f := (σ.2.1 37)) hx hb hK hP 37 (by decide) rfl hi115 rfl prd_O_finish_118 ?_
              refine lv_iconst (v := (-1)) hx hb prd_O_finish_119 (by decide) ?_
              refine lv_icmp_ne (tgt := 132) hx hb prd_O_finish_120 (by decide) (fun c116 => ?_) (fun c116 => ?_)
              · have hf := pr_ie c116 hf
                refine lv_aload_n hx hb prd_O_finish_132 rfl (lv_at hl 1 rfl) ?_
                refine pr_getr (t := 37) hx hb hts prs_O hown hK hP 4 12 (by decide) rfl (hts _ prw_258) rfl prd_O_finish_133 ?_
                refine lv_iload_n hx hb prd_O_finish_136 rfl (lv_at hl 3 rfl) ?_
                obtain ⟨hi117, hf⟩ := pr_ck_in hf
                refine pr_iald (f := (σ.2.1 37)) hx hb hK hP 37 (by decide) rfl hi117 rfl prd_O_finish_137 ?_
                obtain ⟨hi118, hf⟩ := pr_ck_in hf
                refine pr_iast (f := (σ.2.1 37)) hx hb hK hP (hD _) hS 37 (by decide) rfl hi118 rfl prd_O_finish_138 (fun H locs hP hS => ?_)
                refine lv_iinc (v := (x2 + 1)) (lv' := [(2, .int (x2 + 1)), (3, .int x2), (0, .ref (ad 4)), (1, .int x1)]) hx hb prd_O_finish_139 hl (k := 3) rfl rfl (by decide) rfl (fun ls hl => ?_)
                refine lv_goto (tgt := 11) hx hb prd_O_finish_142 (by decide) ?_
                exact ih (pr_sA (pr_sA (pr_sA σ 38 (upd (σ.2.1 38) x2.toNatClampNeg ((σ.2.1 35) x2.toNatClampNeg))) 36 (upd (σ.2.1 36) x2.toNatClampNeg ((σ.2.1 36) x2.toNatClampNeg))) 37 (upd (σ.2.1 37) x2.toNatClampNeg ((σ.2.1 37) x2.toNatClampNeg))) x1 (x2 + 1) _ hf _ _ _ hP hS (lv_sub hl [2, 3, 0] rfl)
              · have hf := pr_it c116 hf
                refine lv_aload_n hx hb prd_O_finish_123 rfl (lv_at hl 1 rfl) ?_
                refine pr_getr (t := 38) hx hb hts prs_O hown hK hP 4 13 (by decide) rfl (hts _ prw_285) rfl prd_O_finish_124 ?_
                refine lv_iload_n hx hb prd_O_finish_127 rfl (lv_at hl 3 rfl) ?_
                obtain ⟨hi119, hf⟩ := pr_ck_in hf
                refine pr_iald (f := (upd (σ.2.1 38) x2.toNatClampNeg ((σ.2.1 35) x2.toNatClampNeg))) hx hb hK hP 38 (by decide) rfl hi119 rfl prd_O_finish_128 ?_
                refine lv_goto (tgt := 138) hx hb prd_O_finish_129 (by decide) ?_
                obtain ⟨hi120, hf⟩ := pr_ck_in hf
                refine pr_iast (f := (σ.2.1 37)) hx hb hK hP (hD _) hS 37 (by decide) rfl hi120 rfl prd_O_finish_138 (fun H locs hP hS => ?_)
                refine lv_iinc (v := (x2 + 1)) (lv' := [(2, .int (x2 + 1)), (3, .int x2), (0, .ref (ad 4)), (1, .int x1)]) hx hb prd_O_finish_139 hl (k := 3) rfl rfl (by decide) rfl (fun ls hl => ?_)
                refine lv_goto (tgt := 11) hx hb prd_O_finish_142 (by decide) ?_
                exact ih (pr_sA (pr_sA (pr_sA σ 38 (upd (σ.2.1 38) x2.toNatClampNeg ((σ.2.1 35) x2.toNatClampNeg))) 36 (upd (σ.2.1 36) x2.toNatClampNeg ((σ.2.1 36) x2.toNatClampNeg))) 37 (upd (σ.2.1 37) x2.toNatClampNeg ((upd (σ.2.1 38) x2.toNatClampNeg ((σ.2.1 35) x2.toNatClampNeg)) x2.toNatClampNeg))) x1 (x2 + 1) _ hf _ _ _ hP hS (lv_sub hl [2, 3, 0] rfl)
            · have hf := pr_it c112 hf
              refine lv_iload_n hx hb prd_O_finish_97 rfl (lv_at hl 0 rfl) ?_
              refine lv_goto (tgt := 107) hx hb prd_O_finish_98 (by decide) ?_
              obtain ⟨hi121, hf⟩ := pr_ck_in hf
              refine pr_iast (f := (σ.2.1 36)) hx hb hK hP (hD _) hS 36 (by decide) rfl hi121 rfl prd_O_finish_107 (fun H locs hP hS => ?_)
              refine lv_aload_n hx hb prd_O_finish_108 rfl (lv_at hl 1 rfl) ?_
              refine pr_getr (t := 37) hx hb hts prs_O hown hK hP 4 12 (by decide) rfl (hts _ prw_258) rfl prd_O_finish_109 ?_
              refine lv_iload_n hx hb prd_O_finish_112 rfl (lv_at hl 3 rfl) ?_
              refine lv_aload_n hx hb prd_O_finish_113 rfl (lv_at hl 1 rfl) ?_
              refine pr_getr (t := 37) hx hb hts prs_O hown hK hP 4 12 (by decide) rfl (hts _ prw_258) rfl prd_O_finish_114 ?_
              refine lv_iload_n hx hb prd_O_finish_117 rfl (lv_at hl 3 rfl) ?_
              obtain ⟨hi122, hf⟩ := pr_ck_in hf
              refine pr_iald (f := (σ.2.1 37)) hx hb hK hP 37 (by decide) rfl hi122 rfl prd_O_finish_118 ?_
              refine lv_iconst (v := (-1)) hx hb prd_O_finish_119 (by decide) ?_
              refine lv_icmp_ne (tgt := 132) hx hb prd_O_finish_120 (by decide) (fun c123 => ?_) (fun c123 => ?_)
              · have hf := pr_ie c123 hf
                refine lv_aload_n hx hb prd_O_finish_132 rfl (lv_at hl 1 rfl) ?_
                refine pr_getr (t := 37) hx hb hts prs_O hown hK hP 4 12 (by decide) rfl (hts _ prw_258) rfl prd_O_finish_133 ?_
                refine lv_iload_n hx hb prd_O_finish_136 rfl (lv_at hl 3 rfl) ?_
                obtain ⟨hi124, hf⟩ := pr_ck_in hf
                refine pr_iald (f := (σ.2.1 37)) hx hb hK hP 37 (by decide) rfl hi124 rfl prd_O_finish_137 ?_
                obtain ⟨hi125, hf⟩ := pr_ck_in hf
                refine pr_iast (f := (σ.2.1 37)) hx hb hK hP (hD _) hS 37 (by decide) rfl hi125 rfl prd_O_finish_138 (fun H locs hP hS => ?_)
                refine lv_iinc (v := (x2 + 1)) (lv' := [(2, .int (x2 + 1)), (3, .int x2), (0, .ref (ad 4)), (1, .int x1)]) hx hb prd_O_finish_139 hl (k := 3) rfl rfl (by decide) rfl (fun ls hl => ?_)
                refine lv_goto (tgt := 11) hx hb prd_O_finish_142 (by decide) ?_
                exact ih (pr_sA (pr_sA (pr_sA σ 38 (upd (σ.2.1 38) x2.toNatClampNeg ((σ.2.1 35) x2.toNatClampNeg))) 36 (upd (σ.2.1 36) x2.toNatClampNeg x2)) 37 (upd (σ.2.1 37) x2.toNatClampNeg ((σ.2.1 37) x2.toNatClampNeg))) x1 (x2 + 1) _ hf _ _ _ hP hS (lv_sub hl [2, 3, 0] rfl)
              · have hf := pr_it c123 hf
                refine lv_aload_n hx hb prd_O_finish_123 rfl (lv_at hl 1 rfl) ?_
                refine pr_getr (t := 38) hx hb hts prs_O hown hK hP 4 13 (by decide) rfl (hts _ prw_285) rfl prd_O_finish_124 ?_
                refine lv_iload_n hx hb prd_O_finish_127 rfl (lv_at hl 3 rfl) ?_
                obtain ⟨hi126, hf⟩ := pr_ck_in hf
                refine pr_iald (f := (upd (σ.2.1 38) x2.toNatClampNeg ((σ.2.1 35) x2.toNatClampNeg))) hx hb hK hP 38 (by decide) rfl hi126 rfl prd_O_finish_128 ?_
                refine lv_goto (tgt := 138) hx hb prd_O_finish_129 (by decide) ?_
                obtain ⟨hi127, hf⟩ := pr_ck_in hf
                refine pr_iast (f := (σ.2.1 37)) hx hb hK hP (hD _) hS 37 (by decide) rfl hi127 rfl prd_O_finish_138 (fun H locs hP hS => ?_)
                refine lv_iinc (v := (x2 + 1)) (lv' := [(2, .int (x2 + 1)), (3, .int x2), (0, .ref (ad 4)), (1, .int x1)]) hx hb prd_O_finish_139 hl (k := 3) rfl rfl (by decide) rfl (fun ls hl => ?_)
                refine lv_goto (tgt := 11) hx hb prd_O_finish_142 (by decide) ?_
                exact ih (pr_sA (pr_sA (pr_sA σ 38 (upd (σ.2.1 38) x2.toNatClampNeg ((σ.2.1 35) x2.toNatClampNeg))) 36 (upd (σ.2.1 36) x2.toNatClampNeg x2)) 37 (upd (σ.2.1 37) x2.toNatClampNeg ((upd (σ.2.1 38) x2.toNatClampNeg ((σ.2.1 35) x2.toNatClampNeg)) x2.toNatClampNeg))) x1 (x2 + 1) _ hf _ _ _ hP hS (lv_sub hl [2, 3, 0] rfl)
        · have hf := pr_ie c88 hf
          refine lv_aload_n hx hb prd_O_finish_39 rfl (lv_at hl 0 rfl) ?_
          refine lv_aload_n hx hb prd_O_finish_40 rfl (lv_at hl 0 rfl) ?_
          refine pr_getr (t := 32) hx hb hts prs_O hown hK hP 4 7 (by decide) rfl (hts _ prw_266) rfl prd_O_finish_41 ?_
          refine lv_iload_n hx hb prd_O_finish_44 rfl (lv_at hl 2 rfl) ?_
          obtain ⟨hi128, hf⟩ := pr_ck_in hf
          refine pr_iald (f := (σ.2.1 32)) hx hb hK hP 32 (by decide) rfl hi128 rfl prd_O_finish_45 ?_
          refine lv_iload_n hx hb prd_O_finish_46 rfl (lv_at hl 1 rfl) ?_
          obtain ⟨r129, hr129, hf⟩ := pr_bi hf
          refine pr_callVr (rest := [.int x2, .ref (ad 38)]) (r := r129) ⟨hx, hb, hml, hown, hts⟩ 4 (prc_O_behindBlock hD hX 1 (Nat.le_refl _) σ ((σ.2.1 32) x2.toNatClampNeg) x1 r129 hr129) (prg_O_behindBlock hts prw_564 (by have := hh; omega)) hX hXs hK hP hS (by decide) rfl rfl rfl rfl hl.1 (Nat.le_of_ble_eq_true rfl) prd_O_finish_47 (fun H locs hP hS => ?_)
          refine lv_goto (tgt := 59) hx hb prd_O_finish_50 (by decide) ?_
          obtain ⟨hi130, hf⟩ := pr_ck_in hf
          refine pr_iast (f := (σ.2.1 38)) hx hb hK hP (hD _) hS 38 (by decide) rfl hi130 rfl prd_O_finish_59 (fun H locs hP hS => ?_)
          refine lv_aload_n hx hb prd_O_finish_60 rfl (lv_at hl 0 rfl) ?_
          refine pr_getr (t := 25) hx hb hts prs_O hown hK hP 4 0 (by decide) rfl (hts _ prw_252) rfl prd_O_finish_61 ?_
          refine lv_iload_n hx hb prd_O_finish_64 rfl (lv_at hl 2 rfl) ?_
          obtain ⟨hi131, hf⟩ := pr_ck_in hf
          refine pr_bald (f := (σ.2.1 25)) hx hb hK hP 25 (by decide) rfl hi131 rfl prd_O_finish_65 ?_
          refine lv_bipush (v := 6) hx hb prd_O_finish_66 (by decide) ?_
          refine lv_icmp_ne (tgt := 75) hx hb prd_O_finish_68 (by decide) (fun c132 => ?_) (fun c132 => ?_)
          · have hf := pr_ie c132 hf
            refine lv_aload_n hx hb prd_O_finish_75 rfl (lv_at hl 0 rfl) ?_
            refine pr_getr (t := 38) hx hb hts prs_O hown hK hP 4 13 (by decide) rfl (hts _ prw_285) rfl prd_O_finish_76 ?_
            refine lv_iload_n hx hb prd_O_finish_79 rfl (lv_at hl 2 rfl) ?_
            obtain ⟨hi133, hf⟩ := pr_ck_in hf
            refine pr_iald (f := (upd (σ.2.1 38) x2.toNatClampNeg r129)) hx hb hK hP 38 (by decide) rfl hi133 rfl prd_O_finish_80 ?_
            refine lv_istore_n (lv' := [(3, .int ((upd (σ.2.1 38) x2.toNatClampNeg r129) x2.toNatClampNeg)), (0, .ref (ad 4)), (1, .int x1), (2, .int x2)]) hx hb prd_O_finish_81 rfl hl (by decide) rfl (fun ls hl => ?_)
            refine lv_aload_n hx hb prd_O_finish_82 rfl (lv_at hl 1 rfl) ?_
            refine pr_getr (t := 36) hx hb hts prs_O hown hK hP 4 11 (by decide) rfl (hts _ prw_257) rfl prd_O_finish_83 ?_
            refine lv_iload_n hx hb prd_O_finish_86 rfl (lv_at hl 3 rfl) ?_
            refine lv_aload_n hx hb prd_O_finish_87 rfl (lv_at hl 1 rfl) ?_
            refine pr_getr (t := 36) hx hb hts prs_O hown hK hP 4 11 (by decide) rfl (hts _ prw_257) rfl prd_O_finish_88 ?_
            refine lv_iload_n hx hb prd_O_finish_91 rfl (lv_at hl 3 rfl) ?_
            obtain ⟨hi134, hf⟩ := pr_ck_in hf
            refine pr_iald (f := (σ.2.1 36)) hx hb hK hP 36 (by decide) rfl hi134 rfl prd_O_finish_92 ?_
            refine lv_iconst (v := (-1)) hx hb prd_O_finish_93 (by decide) ?_
            refine lv_icmp_ne (tgt := 101) hx hb prd_O_finish_94 (by decide) (fun c135 => ?_) (fun c135 => ?_)
            · have hf := pr_ie c135 hf
              refine lv_aload_n hx hb prd_O_finish_101 rfl (lv_at hl 1 rfl) ?_
              refine pr_getr (t := 36) hx hb hts prs_O hown hK hP 4 11 (by decide) rfl (hts _ prw_257) rfl prd_O_finish_102 ?_
              refine lv_iload_n hx hb prd_O_finish_105 rfl (lv_at hl 3 rfl) ?_
              obtain ⟨hi136, hf⟩ := pr_ck_in hf
              refine pr_iald (f := (σ.2.1 36)) hx hb hK hP 36 (by decide) rfl hi136 rfl prd_O_finish_106 ?_
              obtain ⟨hi137, hf⟩ := pr_ck_in hf
              refine pr_iast (f := (σ.2.1 36)) hx hb hK hP (hD _) hS 36 (by decide) rfl hi137 rfl prd_O_finish_107 (fun H locs hP hS => ?_)
              refine lv_aload_n hx hb prd_O_finish_108 rfl (lv_at hl 1 rfl) ?_
              refine pr_getr (t := 37) hx hb hts prs_O hown hK hP 4 12 (by decide) rfl (hts _ prw_258) rfl prd_O_finish_109 ?_
              refine lv_iload_n hx hb prd_O_finish_112 rfl (lv_at hl 3 rfl) ?_
              refine lv_aload_n hx hb prd_O_finish_113 rfl (lv_at hl 1 rfl) ?_
              refine pr_getr (t := 37) hx hb hts prs_O hown hK hP 4 12 (by decide) rfl (hts _ prw_258) rfl prd_O_finish_114 ?_
              refine lv_iload_n hx hb prd_O_finish_117 rfl (lv_at hl 3 rfl) ?_
              obtain ⟨hi138, hf⟩ := pr_ck_in hf
              refine pr_iald (f := (σ.2.1 37)) hx hb hK hP 37 (by decide) rfl hi138 rfl prd_O_finish_118 ?_
              refine lv_iconst (v := (-1)) hx hb prd_O_finish_119 (by decide) ?_
              refine lv_icmp_ne (tgt := 132) hx hb prd_O_finish_120 (by decide) (fun c139 => ?_) (fun c139 => ?_)
              · have hf := pr_ie c139 hf
                refine lv_aload_n hx hb prd_O_finish_132 rfl (lv_at hl 1 rfl) ?_
                refine pr_getr (t := 37) hx hb hts prs_O hown hK hP 4 12 (by decide) rfl (hts _ prw_258) rfl prd_O_finish_133 ?_
                refine lv_iload_n hx hb prd_O_finish_136 rfl (lv_at hl 3 rfl) ?_
                obtain ⟨hi140, hf⟩ := pr_ck_in hf
                refine pr_iald (f := (σ.2.1 37)) hx hb hK hP 37 (by decide) rfl hi140 rfl prd_O_finish_137 ?_
                obtain ⟨hi141, hf⟩ := pr_ck_in hf
                refine pr_iast (f := (σ.2.1 37)) hx hb hK hP (hD _) hS 37 (by decide) rfl hi141 rfl prd_O_finish_138 (fun H locs hP hS => ?_)
                refine lv_iinc (v := (x2 + 1)) (lv' := [(2, .int (x2 + 1)), (3, .int ((upd (σ.2.1 38) x2.toNatClampNeg r129) x2.toNatClampNeg)), (0, .ref (ad 4)), (1, .int x1)]) hx hb prd_O_finish_139 hl (k := 3) rfl rfl (by decide) rfl (fun ls hl => ?_)
                refine lv_goto (tgt := 11) hx hb prd_O_finish_142 (by decide) ?_
                exact ih (pr_sA (pr_sA (pr_sA σ 38 (upd (σ.2.1 38) x2.toNatClampNeg r129)) 36 (upd (σ.2.1 36) x2.toNatClampNeg ((σ.2.1 36) x2.toNatClampNeg))) 37 (upd (σ.2.1 37) x2.toNatClampNeg ((σ.2.1 37) x2.toNatClampNeg))) x1 (x2 + 1) _ hf _ _ _ hP hS (lv_sub hl [2, 3, 0] rfl)
              · have hf := pr_it c139 hf
                refine lv_aload_n hx hb prd_O_finish_123 rfl (lv_at hl 1 rfl) ?_
                refine pr_getr (t := 38) hx hb hts prs_O hown hK hP 4 13 (by decide) rfl (hts _ prw_285) rfl prd_O_finish_124 ?_
                refine lv_iload_n hx hb prd_O_finish_127 rfl (lv_at hl 3 rfl) ?_
                obtain ⟨hi142, hf⟩ := pr_ck_in hf
                refine pr_iald (f := (upd (σ.2.1 38) x2.toNatClampNeg r129)) hx hb hK hP 38 (by decide) rfl hi142 rfl prd_O_finish_128 ?_
                refine lv_goto (tgt := 138) hx hb prd_O_finish_129 (by decide) ?_
                obtain ⟨hi143, hf⟩ := pr_ck_in hf
                refine pr_iast (f := (σ.2.1 37)) hx hb hK hP (hD _) hS 37 (by decide) rfl hi143 rfl prd_O_finish_138 (fun H locs hP hS => ?_)
                refine lv_iinc (v := (x2 + 1)) (lv' := [(2, .int (x2 + 1)), (3, .int ((upd (σ.2.1 38) x2.toNatClampNeg r129) x2.toNatClampNeg)), (0, .ref (ad 4)), (1, .int x1)]) hx hb prd_O_finish_139 hl (k := 3) rfl rfl (by decide) rfl (fun ls hl => ?_)
                refine lv_goto (tgt := 11) hx hb prd_O_finish_142 (by decide) ?_
                exact ih (pr_sA (pr_sA (pr_sA σ 38 (upd (σ.2.1 38) x2.toNatClampNeg r129)) 36 (upd (σ.2.1 36) x2.toNatClampNeg ((σ.2.1 36) x2.toNatClampNeg))) 37 (upd (σ.2.1 37) x2.toNatClampNeg ((upd (σ.2.1 38) x2.toNatClampNeg r129) x2.toNatClampNeg))) x1 (x2 + 1) _ hf _ _ _ hP hS (lv_sub hl [2, 3, 0] rfl)
            · have hf := pr_it c135 hf
              refine lv_iload_n hx hb prd_O_finish_97 rfl (lv_at hl 0 rfl) ?_
              refine lv_goto (tgt := 107) hx hb prd_O_finish_98 (by decide) ?_
              obtain ⟨hi144, hf⟩ := pr_ck_in hf
              refine pr_iast (f := (σ.2.1 36)) hx hb hK hP (hD _) hS 36 (by decide) rfl hi144 rfl prd_O_finish_107 (fun H locs hP hS => ?_)
              refine lv_aload_n hx hb prd_O_finish_108 rfl (lv_at hl 1 rfl) ?_
              refine pr_getr (t := 37) hx hb hts prs_O hown hK hP 4 12 (by decide) rfl (hts _ prw_258) rfl prd_O_finish_109 ?_
              refine lv_iload_n hx hb prd_O_finish_112 rfl (lv_at hl 3 rfl) ?_
              refine lv_aload_n hx hb prd_O_finish_113 rfl (lv_at hl 1 rfl) ?_
              refine pr_getr (t := 37) hx hb hts prs_O hown hK hP 4 12 (by decide) rfl (hts _ prw_258) rfl prd_O_finish_114 ?_
              refine lv_iload_n hx hb prd_O_finish_117 rfl (lv_at hl 3 rfl) ?_
              obtain ⟨hi145, hf⟩ := pr_ck_in hf
              refine pr_iald (f := (σ.2.1 37)) hx hb hK hP 37 (by decide) rfl hi145 rfl prd_O_finish_118 ?_
              refine lv_iconst (v := (-1)) hx hb prd_O_finish_119 (by decide) ?_
              refine lv_icmp_ne (tgt := 132) hx hb prd_O_finish_120 (by decide) (fun c146 => ?_) (fun c146 => ?_)
              · have hf := pr_ie c146 hf
                refine lv_aload_n hx hb prd_O_finish_132 rfl (lv_at hl 1 rfl) ?_
                refine pr_getr (t := 37) hx hb hts prs_O hown hK hP 4 12 (by decide) rfl (hts _ prw_258) rfl prd_O_finish_133 ?_
                refine lv_iload_n hx hb prd_O_finish_136 rfl (lv_at hl 3 rfl) ?_
                obtain ⟨hi147, hf⟩ := pr_ck_in hf
                refine pr_iald (f := (σ.2.1 37)) hx hb hK hP 37 (by decide) rfl hi147 rfl prd_O_finish_137 ?_
                obtain ⟨hi148, hf⟩ := pr_ck_in hf
                refine pr_iast (f := (σ.2.1 37)) hx hb hK hP (hD _) hS 37 (by decide) rfl hi148 rfl prd_O_finish_138 (fun H locs hP hS => ?_)
                refine lv_iinc (v := (x2 + 1)) (lv' := [(2, .int (x2 + 1)), (3, .int ((upd (σ.2.1 38) x2.toNatClampNeg r129) x2.toNatClampNeg)), (0, .ref (ad 4)), (1, .int x1)]) hx hb prd_O_finish_139 hl (k := 3) rfl rfl (by decide) rfl (fun ls hl => ?_)
                refine lv_goto (tgt := 11) hx hb prd_O_finish_142 (by decide) ?_
                exact ih (pr_sA (pr_sA (pr_sA σ 38 (upd (σ.2.1 38) x2.toNatClampNeg r129)) 36 (upd (σ.2.1 36) x2.toNatClampNeg ((upd (σ.2.1 38) x2.toNatClampNeg r129) x2.toNatClampNeg))) 37 (upd (σ.2.1 37) x2.toNatClampNeg ((σ.2.1 37) x2.toNatClampNeg))) x1 (x2 + 1) _ hf _ _ _ hP hS (lv_sub hl [2, 3, 0] rfl)
              · have hf := pr_it c146 hf
                refine lv_aload_n hx hb prd_O_finish_123 rfl (lv_at hl 1 rfl) ?_
                refine pr_getr (t := 38) hx hb hts prs_O hown hK hP 4 13 (by decide) rfl (hts _ prw_285) rfl prd_O_finish_124 ?_
                refine lv_iload_n hx hb prd_O_finish_127 rfl (lv_at hl 3 rfl) ?_
                obtain ⟨hi149, hf⟩ := pr_ck_in hf
                refine pr_iald (f := (upd (σ.2.1 38) x2.toNatClampNeg r129)) hx hb hK hP 38 (by decide) rfl hi149 rfl prd_O_finish_128 ?_
                refine lv_goto (tgt := 138) hx hb prd_O_finish_129 (by decide) ?_
                obtain ⟨hi150, hf⟩ := pr_ck_in hf
                refine pr_iast (f := (σ.2.1 37)) hx hb hK hP (hD _) hS 37 (by decide) rfl hi150 rfl prd_O_finish_138 (fun H locs hP hS => ?_)
                refine lv_iinc (v := (x2 + 1)) (lv' := [(2, .int (x2 + 1)), (3, .int ((upd (σ.2.1 38) x2.toNatClampNeg r129) x2.toNatClampNeg)), (0, .ref (ad 4)), (1, .int x1)]) hx hb prd_O_finish_139 hl (k := 3) rfl rfl (by decide) rfl (fun ls hl => ?_)
                refine lv_goto (tgt := 11) hx hb prd_O_finish_142 (by decide) ?_
                exact ih (pr_sA (pr_sA (pr_sA σ 38 (upd (σ.2.1 38) x2.toNatClampNeg r129)) 36 (upd (σ.2.1 36) x2.toNatClampNeg ((upd (σ.2.1 38) x2.toNatClampNeg r129) x2.toNatClampNeg))) 37 (upd (σ.2.1 37) x2.toNatClampNeg ((upd (σ.2.1 38) x2.toNatClampNeg r129) x2.toNatClampNeg))) x1 (x2 + 1) _ hf _ _ _ hP hS (lv_sub hl [2, 3, 0] rfl)
          · have hf := pr_it c132 hf
            refine lv_iload_n hx hb prd_O_finish_71 rfl (lv_at hl 2 rfl) ?_
            refine lv_goto (tgt := 81) hx hb prd_O_finish_72 (by decide) ?_
            refine lv_istore_n (lv' := [(3, .int x2), (0, .ref (ad 4)), (1, .int x1), (2, .int x2)]) hx hb prd_O_finish_81 rfl hl (by decide) rfl (fun ls hl => ?_)
            refine lv_aload_n hx hb prd_O_finish_82 rfl (lv_at hl 1 rfl) ?_
            refine pr_getr (t := 36) hx hb hts prs_O hown hK hP 4 11 (by decide) rfl (hts _ prw_257) rfl prd_O_finish_83 ?_
            refine lv_iload_n hx hb prd_O_finish_86 rfl (lv_at hl 3 rfl) ?_
            refine lv_aload_n hx hb prd_O_finish_87 rfl (lv_at hl 1 rfl) ?_
            refine pr_getr (t := 36) hx hb hts prs_O hown hK hP 4 11 (by decide) rfl (hts _ prw_257) rfl prd_O_finish_88 ?_
            refine lv_iload_n hx hb prd_O_finish_91 rfl (lv_at hl 3 rfl) ?_
            obtain ⟨hi151, hf⟩ := pr_ck_in hf
            refine pr_iald (f := (σ.2.1 36)) hx hb hK hP 36 (by decide) rfl hi151 rfl prd_O_finish_92 ?_
            refine lv_iconst (v := (-1)) hx hb prd_O_finish_93 (by decide) ?_
            refine lv_icmp_ne (tgt := 101) hx hb prd_O_finish_94 (by decide) (fun c152 => ?_) (fun c152 => ?_)
            · have hf := pr_ie c152 hf
              refine lv_aload_n hx hb prd_O_finish_101 rfl (lv_at hl 1 rfl) ?_
              refine pr_getr (t := 36) hx hb hts prs_O hown hK hP 4 11 (by decide) rfl (hts _ prw_257) rfl prd_O_finish_102 ?_
              refine lv_iload_n hx hb prd_O_finish_105 rfl (lv_at hl 3 rfl) ?_
              obtain ⟨hi153, hf⟩ := pr_ck_in hf
              refine pr_iald (f := (σ.2.1 36)) hx hb hK hP 36 (by decide) rfl hi153 rfl prd_O_finish_106 ?_
              obtain ⟨hi154, hf⟩ := pr_ck_in hf
              refine pr_iast (f := (σ.2.1 36)) hx hb hK hP (hD _) hS 36 (by decide) rfl hi154 rfl prd_O_finish_107 (fun H locs hP hS => ?_)
              refine lv_aload_n hx hb prd_O_finish_108 rfl (lv_at hl 1 rfl) ?_
              refine pr_getr (t := 37) hx hb hts prs_O hown hK hP 4 12 (by decide) rfl (hts _ prw_258) rfl prd_O_finish_109 ?_
              refine lv_iload_n hx hb prd_O_finish_112 rfl (lv_at hl 3 rfl) ?_
              refine lv_aload_n hx hb prd_O_finish_113 rfl (lv_at hl 1 rfl) ?_
              refine pr_getr (t := 37) hx hb hts prs_O hown hK hP 4 12 (by decide) rfl (hts _ prw_258) rfl prd_O_finish_114 ?_
              refine lv_iload_n hx hb prd_O_finish_117 rfl (lv_at hl 3 rfl) ?_
              obtain ⟨hi155, hf⟩ := pr_ck_in hf
              refine pr_iald (f := (σ.2.1 37)) hx hb hK hP 37 (by decide) rfl hi155 rfl prd_O_finish_118 ?_
              refine lv_iconst (v := (-1)) hx hb prd_O_finish_119 (by decide) ?_
              refine lv_icmp_ne (tgt := 132) hx hb prd_O_finish_120 (by decide) (fun c156 => ?_) (fun c156 => ?_)
              · have hf := pr_ie c156 hf
                refine lv_aload_n hx hb prd_O_finish_132 rfl (lv_at hl 1 rfl) ?_
                refine pr_getr (t := 37) hx hb hts prs_O hown hK hP 4 12 (by decide) rfl (hts _ prw_258) rfl prd_O_finish_133 ?_
                refine lv_iload_n hx hb prd_O_finish_136 rfl (lv_at hl 3 rfl) ?_
                obtain ⟨hi157, hf⟩ := pr_ck_in hf
                refine pr_iald (f := (σ.2.1 37)) hx hb hK hP 37 (by decide) rfl hi157 rfl prd_O_finish_137 ?_
                obtain ⟨hi158, hf⟩ := pr_ck_in hf
                refine pr_iast (f := (σ.2.1 37)) hx hb hK hP (hD _) hS 37 (by decide) rfl hi158 rfl prd_O_finish_138 (fun H locs hP hS => ?_)
                refine lv_iinc (v := (x2 + 1)) (lv' := [(2, .int (x2 + 1)), (3, .int x2), (0, .ref (ad 4)), (1, .int x1)]) hx hb prd_O_finish_139 hl (k := 3) rfl rfl (by decide) rfl (fun ls hl => ?_)
                refine lv_goto (tgt := 11) hx hb prd_O_finish_142 (by decide) ?_
                exact ih (pr_sA (pr_sA (pr_sA σ 38 (upd (σ.2.1 38) x2.toNatClampNeg r129)) 36 (upd (σ.2.1 36) x2.toNatClampNeg ((σ.2.1 36) x2.toNatClampNeg))) 37 (upd (σ.2.1 37) x2.toNatClampNeg ((σ.2.1 37) x2.toNatClampNeg))) x1 (x2 + 1) _ hf _ _ _ hP hS (lv_sub hl [2, 3, 0] rfl)
              · have hf := pr_it c156 hf
                refine lv_aload_n hx hb prd_O_finish_123 rfl (lv_at hl 1 rfl) ?_
                refine pr_getr (t := 38) hx hb hts prs_O hown hK hP 4 13 (by decide) rfl (hts _ prw_285) rfl prd_O_finish_124 ?_
                refine lv_iload_n hx hb prd_O_finish_127 rfl (lv_at hl 3 rfl) ?_
                obtain ⟨hi159, hf⟩ := pr_ck_in hf
                refine pr_iald (f := (upd (σ.2.1 38) x2.toNatClampNeg r129)) hx hb hK hP 38 (by decide) rfl hi159 rfl prd_O_finish_128 ?_
                refine lv_goto (tgt := 138) hx hb prd_O_finish_129 (by decide) ?_
                obtain ⟨hi160, hf⟩ := pr_ck_in hf
                refine pr_iast (f := (σ.2.1 37)) hx hb hK hP (hD _) hS 37 (by decide) rfl hi160 rfl prd_O_finish_138 (fun H locs hP hS => ?_)
                refine lv_iinc (v := (x2 + 1)) (lv' := [(2, .int (x2 + 1)), (3, .int x2), (0, .ref (ad 4)), (1, .int x1)]) hx hb prd_O_finish_139 hl (k := 3) rfl rfl (by decide) rfl (fun ls hl => ?_)
                refine lv_goto (tgt := 11) hx hb prd_O_finish_142 (by decide) ?_
                exact ih (pr_sA (pr_sA (pr_sA σ 38 (upd (σ.2.1 38) x2.toNatClampNeg r129)) 36 (upd (σ.2.1 36) x2.toNatClampNeg ((σ.2.1 36) x2.toNatClampNeg))) 37 (upd (σ.2.1 37) x2.toNatClampNeg ((upd (σ.2.1 38) x2.toNatClampNeg r129) x2.toNatClampNeg))) x1 (x2 + 1) _ hf _ _ _ hP hS (lv_sub hl [2, 3, 0] rfl)
            · have hf := pr_it c152 hf
              refine lv_iload_n hx hb prd_O_finish_97 rfl (lv_at hl 0 rfl) ?_
              refine lv_goto (tgt := 107) hx hb prd_O_finish_98 (by decide) ?_
              obtain ⟨hi161, hf⟩ := pr_ck_in hf
              refine pr_iast (f := (σ.2.1 36)) hx hb hK hP (hD _) hS 36 (by decide) rfl hi161 rfl prd_O_finish_107 (fun H locs hP hS => ?_)
              refine lv_aload_n hx hb prd_O_finish_108 rfl (lv_at hl 1 rfl) ?_
              refine pr_getr (t := 37) hx hb hts prs_O hown hK hP 4 12 (by decide) rfl (hts _ prw_258) rfl prd_O_finish_109 ?_
              refine lv_iload_n hx hb prd_O_finish_112 rfl (lv_at hl 3 rfl) ?_
              refine lv_aload_n hx hb prd_O_finish_113 rfl (lv_at hl 1 rfl) ?_
              refine pr_getr (t := 37) hx hb hts prs_O hown hK hP 4 12 (by decide) rfl (hts _ prw_258) rfl prd_O_finish_114 ?_
              refine lv_iload_n hx hb prd_O_finish_117 rfl (lv_at hl 3 rfl) ?_
              obtain ⟨hi162, hf⟩ := pr_ck_in hf
              refine pr_iald (f := (σ.2.1 37)) hx hb hK hP 37 (by decide) rfl hi162 rfl prd_O_finish_118 ?_
              refine lv_iconst (v := (-1)) hx hb prd_O_finish_119 (by decide) ?_
              refine lv_icmp_ne (tgt := 132) hx hb prd_O_finish_120 (by decide) (fun c163 => ?_) (fun c163 => ?_)
              · have hf := pr_ie c163 hf
                refine lv_aload_n hx hb prd_O_finish_132 rfl (lv_at hl 1 rfl) ?_
                refine pr_getr (t := 37) hx hb hts prs_O hown hK hP 4 12 (by decide) rfl (hts _ prw_258) rfl prd_O_finish_133 ?_
                refine lv_iload_n hx hb prd_O_finish_136 rfl (lv_at hl 3 rfl) ?_
                obtain ⟨hi164, hf⟩ := pr_ck_in hf
                refine pr_iald (f := (σ.2.1 37)) hx hb hK hP 37 (by decide) rfl hi164 rfl prd_O_finish_137 ?_
                obtain ⟨hi165, hf⟩ := pr_ck_in hf
                refine pr_iast (f := (σ.2.1 37)) hx hb hK hP (hD _) hS 37 (by decide) rfl hi165 rfl prd_O_finish_138 (fun H locs hP hS => ?_)
                refine lv_iinc (v := (x2 + 1)) (lv' := [(2, .int (x2 + 1)), (3, .int x2), (0, .ref (ad 4)), (1, .int x1)]) hx hb prd_O_finish_139 hl (k := 3) rfl rfl (by decide) rfl (fun ls hl => ?_)
                refine lv_goto (tgt := 11) hx hb prd_O_finish_142 (by decide) ?_
                exact ih (pr_sA (pr_sA (pr_sA σ 38 (upd (σ.2.1 38) x2.toNatClampNeg r129)) 36 (upd (σ.2.1 36) x2.toNatClampNeg x2)) 37 (upd (σ.2.1 37) x2.toNatClampNeg ((σ.2.1 37) x2.toNatClampNeg))) x1 (x2 + 1) _ hf _ _ _ hP hS (lv_sub hl [2, 3, 0] rfl)
              · have hf := pr_it c163 hf
                refine lv_aload_n hx hb prd_O_finish_123 rfl (lv_at hl 1 rfl) ?_
                refine pr_getr (t := 38) hx hb hts prs_O hown hK hP 4 13 (by decide) rfl (hts _ prw_285) rfl prd_O_finish_124 ?_
                refine lv_iload_n hx hb prd_O_finish_127 rfl (lv_at hl 3 rfl) ?_
                obtain ⟨hi166, hf⟩ := pr_ck_in hf
                refine pr_iald (f := (upd (σ.2.1 38) x2.toNatClampNeg r129)) hx hb hK hP 38 (by decide) rfl hi166 rfl prd_O_finish_128 ?_
                refine lv_goto (tgt := 138) hx hb prd_O_finish_129 (by decide) ?_
                obtain ⟨hi167, hf⟩ := pr_ck_in hf
                refine pr_iast (f := (σ.2.1 37)) hx hb hK hP (hD _) hS 37 (by decide) rfl hi167 rfl prd_O_finish_138 (fun H locs hP hS => ?_)
                refine lv_iinc (v := (x2 + 1)) (lv' := [(2, .int (x2 + 1)), (3, .int x2), (0, .ref (ad 4)), (1, .int x1)]) hx hb prd_O_finish_139 hl (k := 3) rfl rfl (by decide) rfl (fun ls hl => ?_)
                refine lv_goto (tgt := 11) hx hb prd_O_finish_142 (by decide) ?_
                exact ih (pr_sA (pr_sA (pr_sA σ 38 (upd (σ.2.1 38) x2.toNatClampNeg r129)) 36 (upd (σ.2.1 36) x2.toNatClampNeg x2)) 37 (upd (σ.2.1 37) x2.toNatClampNeg ((upd (σ.2.1 38) x2.toNatClampNeg r129) x2.toNatClampNeg))) x1 (x2 + 1) _ hf _ _ _ hP hS (lv_sub hl [2, 3, 0] rfl)
set_option maxHeartbeats 4000000 in
set_option maxRecDepth 100000 in
theorem prc_O_finish {l : Launch} {D : va_G} {ad : Nat → Nat} {dA : Nat → ClassId} {A : Nat → Prop} {t : Nat} (hD : ∀ σ : pr_St, va_D A (pr_w prc_L ad dA σ)) (hX : pr_Xok A (prX t A)) (h : Nat) (hh : 3 ≤ h) (σ : pr_St)  (res : pr_St) (hf : prf_O_finish σ  = some res) : Met l pry_O_finish (Cond.code pry_O_finish prb_O_finish 4 none :: pr_U) (pr_rm h) (pr_Pc (prX t A) D pr_cl prc_L ad dA [.ref (ad 4)] σ) (pr_Qv D pr_cl prc_L ad dA A res) 0 0 A := by
  refine pr_entry (cc := prb_O_finish) (maxL := 4) (ret := none) (by decide) (Nat.le_of_ble_eq_true rfl) hD hX ?_
  intro p e s m args below meth c E H locs hP hS ls hl
  have hl : lv_has ls 4 [(0, .ref (ad 4))] := hl
  have hf := hf.symm
  unfold prf_O_finish at hf
  obtain ⟨hx, hb, hml, hown, hts, hr, hlocks, hK, hD, hX, hXs⟩ := id E
  refine lv_aload_n hx hb prd_O_finish_0 rfl (lv_at hl 0 rfl) ?_
  refine pr_geti (v := (σ.1 4 14)) hx hb hts prs_O hown hK hP 4 14 (by decide) rfl (hts _ prw_247) rfl rfl prd_O_finish_1 ?_
  refine lv_istore_n (lv' := [(1, .int (σ.1 4 14)), (0, .ref (ad 4))]) hx hb prd_O_finish_4 rfl hl (by decide) rfl (fun ls hl => ?_)
  refine lv_aload_n hx hb prd_O_finish_5 rfl (lv_at hl 1 rfl) ?_
  obtain ⟨r168, hr168, hf⟩ := pr_bi hf
  refine pr_callVv (rest := []) (res := r168) ⟨hx, hb, hml, hown, hts⟩ 4 (prc_O_addTheEnd hD hX 2 (Nat.le_refl _) σ  r168 hr168) (prg_O_addTheEnd hts prw_290 (by have := hh; omega)) hX hXs hK hP hS (by decide) rfl rfl rfl rfl hl.1 (Nat.le_of_ble_eq_true rfl) prd_O_finish_6 (fun H locs hP hS => ?_)
  refine lv_iconst (v := 0) hx hb prd_O_finish_9 (by decide) ?_
  refine lv_istore_n (lv' := [(2, .int 0), (1, .int (σ.1 4 14)), (0, .ref (ad 4))]) hx hb prd_O_finish_10 rfl hl (by decide) rfl (fun ls hl => ?_)
  exact prk_O_finish_11 hh E pr_FU r168 (σ.1 4 14) 0 _ hf _ _ _ hP hS (lv_sub hl [2, 1, 0] rfl)
-- O_placeOf
set_option maxHeartbeats 4000000 in
set_option maxRecDepth 100000 in
theorem prc_O_placeOf {l : Launch} {D : va_G} {ad : Nat → Nat} {dA : Nat → ClassId} {A : Nat → Prop} {t : Nat} (hD : ∀ σ : pr_St, va_D A (pr_w prc_L ad dA σ)) (hX : pr_Xok A (prX t A)) (h : Nat) (hh : 1 ≤ h) (σ : pr_St) (x1 : Int32) (res : Int32) (hf : prf_O_placeOf σ x1 = some res) : Met l pry_O_placeOf (Cond.code pry_O_placeOf prb_O_placeOf 2 (some .int) :: pr_U) (pr_rm h) (pr_Pc (prX t A) D pr_cl prc_L ad dA [.ref (ad 4), .int x1] σ) (pr_Qi D pr_cl prc_L ad dA A (res, σ)) 0 0 A := by
  refine pr_entry (cc := prb_O_placeOf) (maxL := 2) (ret := (some .int)) (by decide) (Nat.le_of_ble_eq_true rfl) hD hX ?_
  intro p e s m args below meth c E H locs hP hS ls hl
  have hl : lv_has ls 2 [(0, .ref (ad 4)), (1, .int x1)] := hl
  have hf := hf.symm
  unfold prf_O_placeOf at hf
  obtain ⟨hx, hb, hml, hown, hts, hr, hlocks, hK, hD, hX, hXs⟩ := id E
  refine lv_aload_n hx hb prd_O_placeOf_0 rfl (lv_at hl 0 rfl) ?_
  refine lv_iload_n hx hb prd_O_placeOf_1 rfl (lv_at hl 1 rfl) ?_
  obtain ⟨r4, hr4, hf⟩ := pr_bi hf
  refine pr_callVr (rest := []) (r := r4) ⟨hx, hb, hml, hown, hts⟩ 4 (prc_O_isPoint hD hX 0 (Nat.le_refl _) σ x1 r4 hr4) (prg_O_isPoint hts prw_265 (by have := hh; omega)) hX hXs hK hP hS (by decide) rfl rfl rfl rfl hl.1 (Nat.le_of_ble_eq_true rfl) prd_O_placeOf_2 (fun H locs hP hS => ?_)
  refine lv_if_eq (tgt := 17) hx hb prd_O_placeOf_5 (by decide) (fun c5 => ?_) (fun c5 => ?_)
  · have hf := pr_it c5 hf
    refine lv_iconst (v := 0) hx hb prd_O_placeOf_17 (by decide) ?_
    exact pr_reti E hP hS (pr_ro hf) prd_O_placeOf_18
  · have hf := pr_ie c5 hf
    refine lv_aload_n hx hb prd_O_placeOf_8 rfl (lv_at hl 0 rfl) ?_
    refine pr_getr (t := 26) hx hb hts prs_O hown hK hP 4 1 (by decide) rfl (hts _ prw_253) rfl prd_O_placeOf_9 ?_
    refine lv_iload_n hx hb prd_O_placeOf_12 rfl (lv_at hl 1 rfl) ?_
    obtain ⟨hi6, hf⟩ := pr_ck_in hf
    refine pr_iald (f := (σ.2.1 26)) hx hb hK hP 26 (by decide) rfl hi6 rfl prd_O_placeOf_13 ?_
    refine lv_goto (tgt := 18) hx hb prd_O_placeOf_14 (by decide) ?_
    exact pr_reti E hP hS (pr_ro hf) prd_O_placeOf_18
-- O_nextOf
set_option maxHeartbeats 4000000 in
set_option maxRecDepth 100000 in
theorem prc_O_nextOf {l : Launch} {D : va_G} {ad : Nat → Nat} {dA : Nat → ClassId} {A : Nat → Prop} {t : Nat} (hD : ∀ σ : pr_St, va_D A (pr_w prc_L ad dA σ)) (hX : pr_Xok A (prX t A)) (h : Nat) (hh : 1 ≤ h) (σ : pr_St) (x1 : Int32) (res : Int32) (hf : prf_O_nextOf σ x1 = some res) : Met l pry_O_nextOf (Cond.code pry_O_nextOf prb_O_nextOf 2 (some .int) :: pr_U) (pr_rm h) (pr_Pc (prX t A) D pr_cl prc_L ad dA [.ref (ad 4), .int x1] σ) (pr_Qi D pr_cl prc_L ad dA A (res, σ)) 0 0 A := by
  refine pr_entry (cc := prb_O_nextOf) (maxL := 2) (ret := (some .int)) (by decide) (Nat.le_of_ble_eq_true rfl) hD hX ?_
  intro p e s m args below meth c E H locs hP hS ls hl
  have hl : lv_has ls 2 [(0, .ref (ad 4)), (1, .int x1)] := hl
  have hf := hf.symm
  unfold prf_O_nextOf at hf
  obtain ⟨hx, hb, hml, hown, hts, hr, hlocks, hK, hD, hX, hXs⟩ := id E
  refine lv_aload_n hx hb prd_O_nextOf_0 rfl (lv_at hl 0 rfl) ?_
  refine lv_iload_n hx hb prd_O_nextOf_1 rfl (lv_at hl 1 rfl) ?_
  obtain ⟨r4, hr4, hf⟩ := pr_bi hf
  refine pr_callVr (rest := []) (r := r4) ⟨hx, hb, hml, hown, hts⟩ 4 (prc_O_isPoint hD hX 0 (Nat.le_refl _) σ x1 r4 hr4) (prg_O_isPoint hts prw_265 (by have := hh; omega)) hX hXs hK hP hS (by decide) rfl rfl rfl rfl hl.1 (Nat.le_of_ble_eq_true rfl) prd_O_nextOf_2 (fun H locs hP hS => ?_)
  refine lv_if_eq (tgt := 17) hx hb prd_O_nextOf_5 (by decide) (fun c5 => ?_) (fun c5 => ?_)
  · have hf := pr_it c5 hf
    refine lv_iconst (v := (-1)) hx hb prd_O_nextOf_17 (by decide) ?_
    exact pr_reti E hP hS (pr_ro hf) prd_O_nextOf_18
  · have hf := pr_ie c5 hf
    refine lv_aload_n hx hb prd_O_nextOf_8 rfl (lv_at hl 0 rfl) ?_
    refine pr_getr (t := 38) hx hb hts prs_O hown hK hP 4 13 (by decide) rfl (hts _ prw_285) rfl prd_O_nextOf_9 ?_
    refine lv_iload_n hx hb prd_O_nextOf_12 rfl (lv_at hl 1 rfl) ?_
    obtain ⟨hi6, hf⟩ := pr_ck_in hf
    refine pr_iald (f := (σ.2.1 38)) hx hb hK hP 38 (by decide) rfl hi6 rfl prd_O_nextOf_13 ?_
    refine lv_goto (tgt := 18) hx hb prd_O_nextOf_14 (by decide) ?_
    exact pr_reti E hP hS (pr_ro hf) prd_O_nextOf_18
-- O_statementOf
set_option maxHeartbeats 4000000 in
set_option maxRecDepth 100000 in
theorem prc_O_statementOf {l : Launch} {D : va_G} {ad : Nat → Nat} {dA : Nat → ClassId} {A : Nat → Prop} {t : Nat} (hD : ∀ σ : pr_St, va_D A (pr_w prc_L ad dA σ)) (hX : pr_Xok A (prX t A)) (h : Nat) (hh : 1 ≤ h) (σ : pr_St) (x1 : Int32) (res : Int32) (hf : prf_O_statementOf σ x1 = some res) : Met l pry_O_statementOf (Cond.code pry_O_statementOf prb_O_statementOf 2 (some .int) :: pr_U) (pr_rm h) (pr_Pc (prX t A) D pr_cl prc_L ad dA [.ref (ad 4), .int x1] σ) (pr_Qi D pr_cl prc_L ad dA A (res, σ)) 0 0 A := by
  refine pr_entry (cc := prb_O_statementOf) (maxL := 2) (ret := (some .int)) (by decide) (Nat.le_of_ble_eq_true rfl) hD hX ?_
  intro p e s m args below meth c E H locs hP hS ls hl
  have hl : lv_has ls 2 [(0, .ref (ad 4)), (1, .int x1)] := hl
  have hf := hf.symm
  unfold prf_O_statementOf at hf
  obtain ⟨hx, hb, hml, hown, hts, hr, hlocks, hK, hD, hX, hXs⟩ := id E
  refine lv_aload_n hx hb prd_O_statementOf_0 rfl (lv_at hl 0 rfl) ?_
  refine lv_iload_n hx hb prd_O_statementOf_1 rfl (lv_at hl 1 rfl) ?_
  obtain ⟨r4, hr4, hf⟩ := pr_bi hf
  refine pr_callVr (rest := []) (r := r4) ⟨hx, hb, hml, hown, hts⟩ 4 (prc_O_isPoint hD hX 0 (Nat.le_refl _) σ x1 r4 hr4) (prg_O_isPoint hts prw_265 (by have := hh; omega)) hX hXs hK hP hS (by decide) rfl rfl rfl rfl hl.1 (Nat.le_of_ble_eq_true rfl) prd_O_statementOf_2 (fun H locs hP hS => ?_)
  refine lv_if_eq (tgt := 17) hx hb prd_O_statementOf_5 (by decide) (fun c5 => ?_) (fun c5 => ?_)
  · have hf := pr_it c5 hf
    refine lv_iconst (v := (-1)) hx hb prd_O_statementOf_17 (by decide) ?_
    exact pr_reti E hP hS (pr_ro hf) prd_O_statementOf_18
  · have hf := pr_ie c5 hf
    refine lv_aload_n hx hb prd_O_statementOf_8 rfl (lv_at hl 0 rfl) ?_
    refine pr_getr (t := 27) hx hb hts prs_O hown hK hP 4 2 (by decide) rfl (hts _ prw_254) rfl prd_O_statementOf_9 ?_
    refine lv_iload_n hx hb prd_O_statementOf_12 rfl (lv_at hl 1 rfl) ?_
    obtain ⟨hi6, hf⟩ := pr_ck_in hf
    refine pr_iald (f := (σ.2.1 27)) hx hb hK hP 27 (by decide) rfl hi6 rfl prd_O_statementOf_13 ?_
    refine lv_goto (tgt := 18) hx hb prd_O_statementOf_14 (by decide) ?_
    exact pr_reti E hP hS (pr_ro hf) prd_O_statementOf_18
-- O_intoOf
set_option maxHeartbeats 4000000 in
set_option maxRecDepth 100000 in
theorem prc_O_intoOf {l : Launch} {D : va_G} {ad : Nat → Nat} {dA : Nat → ClassId} {A : Nat → Prop} {t : Nat} (hD : ∀ σ : pr_St, va_D A (pr_w prc_L ad dA σ)) (hX : pr_Xok A (prX t A)) (h : Nat) (hh : 1 ≤ h) (σ : pr_St) (x1 : Int32) (res : Int32) (hf : prf_O_intoOf σ x1 = some res) : Met l pry_O_intoOf (Cond.code pry_O_intoOf prb_O_intoOf 2 (some .int) :: pr_U) (pr_rm h) (pr_Pc (prX t A) D pr_cl prc_L ad dA [.ref (ad 4), .int x1] σ) (pr_Qi D pr_cl prc_L ad dA A (res, σ)) 0 0 A := by
  refine pr_entry (cc := prb_O_intoOf) (maxL := 2) (ret := (some .int)) (by decide) (Nat.le_of_ble_eq_true rfl) hD hX ?_
  intro p e s m args below meth c E H locs hP hS ls hl
  have hl : lv_has ls 2 [(0, .ref (ad 4)), (1, .int x1)] := hl
  have hf := hf.symm
  unfold prf_O_intoOf at hf
  obtain ⟨hx, hb, hml, hown, hts, hr, hlocks, hK, hD, hX, hXs⟩ := id E
  refine lv_aload_n hx hb prd_O_intoOf_0 rfl (lv_at hl 0 rfl) ?_
  refine lv_iload_n hx hb prd_O_intoOf_1 rfl (lv_at hl 1 rfl) ?_
  obtain ⟨r4, hr4, hf⟩ := pr_bi hf
  refine pr_callVr (rest := []) (r := r4) ⟨hx, hb, hml, hown, hts⟩ 4 (prc_O_isPoint hD hX 0 (Nat.le_refl _) σ x1 r4 hr4) (prg_O_isPoint hts prw_265 (by have := hh; omega)) hX hXs hK hP hS (by decide) rfl rfl rfl rfl hl.1 (Nat.le_of_ble_eq_true rfl) prd_O_intoOf_2 (fun H locs hP hS => ?_)
  refine lv_if_eq (tgt := 17) hx hb prd_O_intoOf_5 (by decide) (fun c5 => ?_) (fun c5 => ?_)
  · have hf := pr_it c5 hf
    refine lv_iconst (v := (-1)) hx hb prd_O_intoOf_17 (by decide) ?_
    exact pr_reti E hP hS (pr_ro hf) prd_O_intoOf_18
  · have hf := pr_ie c5 hf
    refine lv_aload_n hx hb prd_O_intoOf_8 rfl (lv_at hl 0 rfl) ?_
    refine pr_getr (t := 36) hx hb hts prs_O hown hK hP 4 11 (by decide) rfl (hts _ prw_257) rfl prd_O_intoOf_9 ?_
    refine lv_iload_n hx hb prd_O_intoOf_12 rfl (lv_at hl 1 rfl) ?_
    obtain ⟨hi6, hf⟩ := pr_ck_in hf
    refine pr_iald (f := (σ.2.1 36)) hx hb hK hP 36 (by decide) rfl hi6 rfl prd_O_intoOf_13 ?_
    refine lv_goto (tgt := 18) hx hb prd_O_intoOf_14 (by decide) ?_
    exact pr_reti E hP hS (pr_ro hf) prd_O_intoOf_18
-- O_otherOf
set_option maxHeartbeats 4000000 in
set_option maxRecDepth 100000 in
theorem prc_O_otherOf {l : Launch} {D : va_G} {ad : Nat → Nat} {dA : Nat → ClassId} {A : Nat → Prop} {t : Nat} (hD : ∀ σ : pr_St, va_D A (pr_w prc_L ad dA σ)) (hX : pr_Xok A (prX t A)) (h : Nat) (hh : 1 ≤ h) (σ : pr_St) (x1 : Int32) (res : Int32) (hf : prf_O_otherOf σ x1 = some res) : Met l pry_O_otherOf (Cond.code pry_O_otherOf prb_O_otherOf 2 (some .int) :: pr_U) (pr_rm h) (pr_Pc (prX t A) D pr_cl prc_L ad dA [.ref (ad 4), .int x1] σ) (pr_Qi D pr_cl prc_L ad dA A (res, σ)) 0 0 A := by
  refine pr_entry (cc := prb_O_otherOf) (maxL := 2) (ret := (some .int)) (by decide) (Nat.le_of_ble_eq_true rfl) hD hX ?_
  intro p e s m args below meth c E H locs hP hS ls hl
  have hl : lv_has ls 2 [(0, .ref (ad 4)), (1, .int x1)] := hl
  have hf := hf.symm
  unfold prf_O_otherOf at hf
  obtain ⟨hx, hb, hml, hown, hts, hr, hlocks, hK, hD, hX, hXs⟩ := id E
  refine lv_aload_n hx hb prd_O_otherOf_0 rfl (lv_at hl 0 rfl) ?_
  refine lv_iload_n hx hb prd_O_otherOf_1 rfl (lv_at hl 1 rfl) ?_
  obtain ⟨r4, hr4, hf⟩ := pr_bi hf
  refine pr_callVr (rest := []) (r := r4) ⟨hx, hb, hml, hown, hts⟩ 4 (prc_O_isPoint hD hX 0 (Nat.le_refl _) σ x1 r4 hr4) (prg_O_isPoint hts prw_265 (by have := hh; omega)) hX hXs hK hP hS (by decide) rfl rfl rfl rfl hl.1 (Nat.le_of_ble_eq_true rfl) prd_O_otherOf_2 (fun H locs hP hS => ?_)
  refine lv_if_eq (tgt := 17) hx hb prd_O_otherOf_5 (by decide) (fun c5 => ?_) (fun c5 => ?_)
  · have hf := pr_it c5 hf
    refine lv_iconst (v := (-1)) hx hb prd_O_otherOf_17 (by decide) ?_
    exact pr_reti E hP hS (pr_ro hf) prd_O_otherOf_18
  · have hf := pr_ie c5 hf
    refine lv_aload_n hx hb prd_O_otherOf_8 rfl (lv_at hl 0 rfl) ?_
    refine pr_getr (t := 37) hx hb hts prs_O hown hK hP 4 12 (by decide) rfl (hts _ prw_258) rfl prd_O_otherOf_9 ?_
    refine lv_iload_n hx hb prd_O_otherOf_12 rfl (lv_at hl 1 rfl) ?_
    obtain ⟨hi6, hf⟩ := pr_ck_in hf
    refine pr_iald (f := (σ.2.1 37)) hx hb hK hP 37 (by decide) rfl hi6 rfl prd_O_otherOf_13 ?_
    refine lv_goto (tgt := 18) hx hb prd_O_otherOf_14 (by decide) ?_
    exact pr_reti E hP hS (pr_ro hf) prd_O_otherOf_18
-- O_parentOf
set_option maxHeartbeats 4000000 in
set_option maxRecDepth 100000 in
theorem prc_O_parentOf {l : Launch} {D : va_G} {ad : Nat → Nat} {dA : Nat → ClassId} {A : Nat → Prop} {t : Nat} (hD : ∀ σ : pr_St, va_D A (pr_w prc_L ad dA σ)) (hX : pr_Xok A (prX t A)) (h : Nat) (hh : 1 ≤ h) (σ : pr_St) (x1 : Int32) (res : Int32) (hf : prf_O_parentOf σ x1 = some res) : Met l pry_O_parentOf (Cond.code pry_O_parentOf prb_O_parentOf 2 (some .int) :: pr_U) (pr_rm h) (pr_Pc (prX t A) D pr_cl prc_L ad dA [.ref (ad 4), .int x1] σ) (pr_Qi D pr_cl prc_L ad dA A (res, σ)) 0 0 A := by
  refine pr_entry (cc := prb_O_parentOf) (maxL := 2) (ret := (some .int)) (by decide) (Nat.le_of_ble_eq_true rfl) hD hX ?_
  intro p e s m args below meth c E H locs hP hS ls hl
  have hl : lv_has ls 2 [(0, .ref (ad 4)), (1, .int x1)] := hl
  have hf := hf.symm
  unfold prf_O_parentOf at hf
  obtain ⟨hx, hb, hml, hown, hts, hr, hlocks, hK, hD, hX, hXs⟩ := id E
  refine lv_aload_n hx hb prd_O_parentOf_0 rfl (lv_at hl 0 rfl) ?_
  refine lv_iload_n hx hb prd_O_parentOf_1 rfl (lv_at hl 1 rfl) ?_
  obtain ⟨r4, hr4, hf⟩ := pr_bi hf
  refine pr_callVr (rest := []) (r := r4) ⟨hx, hb, hml, hown, hts⟩ 4 (prc_O_isPoint hD hX 0 (Nat.le_refl _) σ x1 r4 hr4) (prg_O_isPoint hts prw_265 (by have := hh; omega)) hX hXs hK hP hS (by decide) rfl rfl rfl rfl hl.1 (Nat.le_of_ble_eq_true rfl) prd_O_parentOf_2 (fun H locs hP hS => ?_)
  refine lv_if_eq (tgt := 17) hx hb prd_O_parentOf_5 (by decide) (fun c5 => ?_) (fun c5 => ?_)
  · have hf := pr_it c5 hf
    refine lv_iconst (v := (-1)) hx hb prd_O_parentOf_17 (by decide) ?_
    exact pr_reti E hP hS (pr_ro hf) prd_O_parentOf_18
  · have hf := pr_ie c5 hf
    refine lv_aload_n hx hb prd_O_parentOf_8 rfl (lv_at hl 0 rfl) ?_
    refine pr_getr (t := 32) hx hb hts prs_O hown hK hP 4 7 (by decide) rfl (hts _ prw_266) rfl prd_O_parentOf_9 ?_
    refine lv_iload_n hx hb prd_O_parentOf_12 rfl (lv_at hl 1 rfl) ?_
    obtain ⟨hi6, hf⟩ := pr_ck_in hf
    refine pr_iald (f := (σ.2.1 32)) hx hb hK hP 32 (by decide) rfl hi6 rfl prd_O_parentOf_13 ?_
    refine lv_goto (tgt := 18) hx hb prd_O_parentOf_14 (by decide) ?_
    exact pr_reti E hP hS (pr_ro hf) prd_O_parentOf_18
-- O_targetOf
set_option maxHeartbeats 4000000 in
set_option maxRecDepth 100000 in
theorem prc_O_targetOf {l : Launch} {D : va_G} {ad : Nat → Nat} {dA : Nat → ClassId} {A : Nat → Prop} {t : Nat} (hD : ∀ σ : pr_St, va_D A (pr_w prc_L ad dA σ)) (hX : pr_Xok A (prX t A)) (h : Nat) (hh : 1 ≤ h) (σ : pr_St) (x1 : Int32) (res : Int32) (hf : prf_O_targetOf σ x1 = some res) : Met l pry_O_targetOf (Cond.code pry_O_targetOf prb_O_targetOf 2 (some .int) :: pr_U) (pr_rm h) (pr_Pc (prX t A) D pr_cl prc_L ad dA [.ref (ad 4), .int x1] σ) (pr_Qi D pr_cl prc_L ad dA A (res, σ)) 0 0 A := by
  refine pr_entry (cc := prb_O_targetOf) (maxL := 2) (ret := (some .int)) (by decide) (Nat.le_of_ble_eq_true rfl) hD hX ?_
  intro p e s m args below meth c E H locs hP hS ls hl
  have hl : lv_has ls 2 [(0, .ref (ad 4)), (1, .int x1)] := hl
  have hf := hf.symm
  unfold prf_O_targetOf at hf
  obtain ⟨hx, hb, hml, hown, hts, hr, hlocks, hK, hD, hX, hXs⟩ := id E
  refine lv_aload_n hx hb prd_O_targetOf_0 rfl (lv_at hl 0 rfl) ?_
  refine lv_iload_n hx hb prd_O_targetOf_1 rfl (lv_at hl 1 rfl) ?_
  obtain ⟨r4, hr4, hf⟩ := pr_bi hf
  refine pr_callVr (rest := []) (r := r4) ⟨hx, hb, hml, hown, hts⟩ 4 (prc_O_isPoint hD hX 0 (Nat.le_refl _) σ x1 r4 hr4) (prg_O_isPoint hts prw_265 (by have := hh; omega)) hX hXs hK hP hS (by decide) rfl rfl rfl rfl hl.1 (Nat.le_of_ble_eq_true rfl) prd_O_targetOf_2 (fun H locs hP hS => ?_)
  refine lv_if_eq (tgt := 17) hx hb prd_O_targetOf_5 (by decide) (fun c5 => ?_) (fun c5 => ?_)
  · have hf := pr_it c5 hf
    refine lv_iconst (v := (-1)) hx hb prd_O_targetOf_17 (by decide) ?_
    exact pr_reti E hP hS (pr_ro hf) prd_O_targetOf_18
  · have hf := pr_ie c5 hf
    refine lv_aload_n hx hb prd_O_targetOf_8 rfl (lv_at hl 0 rfl) ?_
    refine pr_getr (t := 34) hx hb hts prs_O hown hK hP 4 9 (by decide) rfl (hts _ prw_255) rfl prd_O_targetOf_9 ?_
    refine lv_iload_n hx hb prd_O_targetOf_12 rfl (lv_at hl 1 rfl) ?_
    obtain ⟨hi6, hf⟩ := pr_ck_in hf
    refine pr_iald (f := (σ.2.1 34)) hx hb hK hP 34 (by decide) rfl hi6 rfl prd_O_targetOf_13 ?_
    refine lv_goto (tgt := 18) hx hb prd_O_targetOf_14 (by decide) ?_
    exact pr_reti E hP hS (pr_ro hf) prd_O_targetOf_18
