-- R_take
set_option maxHeartbeats 4000000 in
set_option maxRecDepth 100000 in
theorem prc_R_take {l : Launch} {D : va_G} {ad : Nat → Nat} {dA : Nat → ClassId} {A : Nat → Prop} {t : Nat} (hD : ∀ σ : pr_St, va_D A (pr_w prc_L ad dA σ)) (hX : pr_Xok A (prX t A)) (h : Nat) (hh : 1 ≤ h) (σ : pr_St) (x1 : Int32) (res : (Int32 × pr_St)) (hf : prf_R_take σ x1 = some res) : Met l pry_R_take (Cond.code pry_R_take prb_R_take 2 (some .boolean) :: pr_U) (pr_rm h) (pr_Pc (prX t A) D pr_cl prc_L ad dA [.ref (ad 3), .int x1] σ) (pr_Qi D pr_cl prc_L ad dA A res) 0 0 A := by
  refine pr_entry (cc := prb_R_take) (maxL := 2) (ret := (some .boolean)) (by decide) (Nat.le_of_ble_eq_true rfl) hD hX ?_
  intro p e s m args below meth c E H locs hP hS ls hl
  have hl : lv_has ls 2 [(0, .ref (ad 3)), (1, .int x1)] := hl
  have hf := hf.symm
  unfold prf_R_take at hf
  obtain ⟨hx, hb, hml, hown, hts, hr, hlocks, hK, hD, hX, hXs⟩ := id E
  refine lv_aload_n hx hb prd_R_take_0 rfl (lv_at hl 0 rfl) ?_
  refine pr_getr (t := 1) hx hb hts prs_R hown hK hP 3 0 (by decide) rfl (hts _ prw_89) rfl prd_R_take_1 ?_
  refine lv_aload_n hx hb prd_R_take_4 rfl (lv_at hl 0 rfl) ?_
  refine pr_geti (v := (σ.1 3 2)) hx hb hts prs_R hown hK hP 3 2 (by decide) rfl (hts _ prw_90) rfl rfl prd_R_take_5 ?_
  obtain ⟨r3, hr3, hf⟩ := pr_bi hf
  refine pr_callVr (rest := []) (r := r3) ⟨hx, hb, hml, hown, hts⟩ 1 (prc_T_kindAt hD hX 0 (Nat.le_refl _) σ (σ.1 3 2) r3 hr3) (prg_T_kindAt hts prw_91 (by have := hh; omega)) hX hXs hK hP hS (by decide) rfl rfl rfl rfl hl.1 (Nat.le_of_ble_eq_true rfl) prd_R_take_8 (fun H locs hP hS => ?_)
  refine lv_iload_n hx hb prd_R_take_11 rfl (lv_at hl 1 rfl) ?_
  refine lv_icmp_eq (tgt := 17) hx hb prd_R_take_12 (by decide) (fun c4 => ?_) (fun c4 => ?_)
  · have hf := pr_it c4 hf
    refine lv_aload_n hx hb prd_R_take_17 rfl (lv_at hl 0 rfl) ?_
    refine lv_dup hx hb prd_R_take_18 rfl ?_
    refine pr_geti (v := (σ.1 3 2)) hx hb hts prs_R hown hK hP 3 2 (by decide) rfl (hts _ prw_90) rfl rfl prd_R_take_19 ?_
    refine lv_iconst (v := 1) hx hb prd_R_take_22 (by decide) ?_
    refine lv_iadd hx hb prd_R_take_23 ?_
    refine pr_puti (ty := .int) hx hb hts prs_R prq_R prtt_R prtn_R hown hK hP (hD _) hS 3 2 (by decide) rfl (hts _ prw_90) rfl rfl (prtt_R 2 (by decide)) rfl rfl prd_R_take_24 (fun H locs hP hS => ?_)
    refine lv_iconst (v := 1) hx hb prd_R_take_27 (by decide) ?_
    exact pr_retz E (Or.inr rfl) hP hS (pr_so hf) prd_R_take_28
  · have hf := pr_ie c4 hf
    refine lv_iconst (v := 0) hx hb prd_R_take_15 (by decide) ?_
    exact pr_retz E (Or.inl rfl) hP hS (pr_so hf) prd_R_take_16
-- R_now
set_option maxHeartbeats 4000000 in
set_option maxRecDepth 100000 in
theorem prc_R_now {l : Launch} {D : va_G} {ad : Nat → Nat} {dA : Nat → ClassId} {A : Nat → Prop} {t : Nat} (hD : ∀ σ : pr_St, va_D A (pr_w prc_L ad dA σ)) (hX : pr_Xok A (prX t A)) (h : Nat) (hh : 1 ≤ h) (σ : pr_St)  (res : Int32) (hf : prf_R_now σ  = some res) : Met l pry_R_now (Cond.code pry_R_now prb_R_now 1 (some .int) :: pr_U) (pr_rm h) (pr_Pc (prX t A) D pr_cl prc_L ad dA [.ref (ad 3)] σ) (pr_Qi D pr_cl prc_L ad dA A (res, σ)) 0 0 A := by
  refine pr_entry (cc := prb_R_now) (maxL := 1) (ret := (some .int)) (by decide) (Nat.le_of_ble_eq_true rfl) hD hX ?_
  intro p e s m args below meth c E H locs hP hS ls hl
  have hl : lv_has ls 1 [(0, .ref (ad 3))] := hl
  have hf := hf.symm
  unfold prf_R_now at hf
  obtain ⟨hx, hb, hml, hown, hts, hr, hlocks, hK, hD, hX, hXs⟩ := id E
  refine lv_aload_n hx hb prd_R_now_0 rfl (lv_at hl 0 rfl) ?_
  refine pr_getr (t := 1) hx hb hts prs_R hown hK hP 3 0 (by decide) rfl (hts _ prw_89) rfl prd_R_now_1 ?_
  refine lv_aload_n hx hb prd_R_now_4 rfl (lv_at hl 0 rfl) ?_
  refine pr_geti (v := (σ.1 3 2)) hx hb hts prs_R hown hK hP 3 2 (by decide) rfl (hts _ prw_90) rfl rfl prd_R_now_5 ?_
  obtain ⟨r2, hr2, hf⟩ := pr_bi hf
  refine pr_callVr (rest := []) (r := r2) ⟨hx, hb, hml, hown, hts⟩ 1 (prc_T_kindAt hD hX 0 (Nat.le_refl _) σ (σ.1 3 2) r2 hr2) (prg_T_kindAt hts prw_91 (by have := hh; omega)) hX hXs hK hP hS (by decide) rfl rfl rfl rfl hl.1 (Nat.le_of_ble_eq_true rfl) prd_R_now_8 (fun H locs hP hS => ?_)
  exact pr_reti E hP hS (pr_ro hf) prd_R_now_11
-- R_readNames
set_option maxHeartbeats 4000000 in
set_option maxRecDepth 100000 in
theorem prk_R_readNames_14 {l : Launch} {D : va_G} {ad : Nat → Nat} {dA : Nat → ClassId} {A : Nat → Prop} {t : Nat} {p : Program} {e : Env} {s : State} {m : MethodId} {args : Array Value} {below : List Frame} {meth : Method} {c : Code} {h : Nat} (hh : 2 ≤ h) (E : pr_cx prn_R prb_R_readNames 3 (some .int) D pr_cl prc_L ad dA A (prX t A) p s m args meth c) : ∀ n : Nat, ∀ (σ : pr_St) (x1 : Int32) (x2 : Int32) (res : (Int32 × pr_St)), some res = prf_R_readNames_14 n σ x1 x2 → ∀ (H : Heap) (locs : List Loc) (ls : Array Slot), va_P D pr_cl (pr_w prc_L ad dA σ) H → va_S A s.heap H locs → lv_has ls 3 [(0, .ref (ad 3)), (1, .int x1), (2, .int x2)] → W p l e (pr_rm h) s m args below meth c H locs 0 0 (MQ below (pr_Qi D pr_cl prc_L ad dA A res) args s 0 0 A) (F0 m 14 ls []) := by
  obtain ⟨hx, hb, hml, hown, hts, hr, hlocks, hK, hD, hX, hXs⟩ := id E
  intro n
  induction n with
  | zero =>
    intro σ x1 x2 res hf
    rw [prf_R_readNames_14] at hf
    cases hf
  | succ n ih =>
    intro σ x1 x2 res hf H locs ls hP hS hl
    rw [prf_R_readNames_14] at hf
    refine lv_iload_n hx hb prd_R_readNames_14 rfl (lv_at hl 2 rfl) ?_
    refine lv_sipush (v := 8000) hx hb prd_R_readNames_15 (by decide) ?_
    refine lv_icmp_ge (tgt := 49) hx hb prd_R_readNames_18 (by decide) (fun c8 => ?_) (fun c8 => ?_)
    · have hf := pr_it c8 hf
      refine lv_iload_n hx hb prd_R_readNames_49 rfl (lv_at hl 1 rfl) ?_
      exact pr_reti E hP hS (pr_so hf) prd_R_readNames_50
    · have hf := pr_ie c8 hf
      refine lv_aload_n hx hb prd_R_readNames_21 rfl (lv_at hl 0 rfl) ?_
      refine lv_bipush (v := 18) hx hb prd_R_readNames_22 (by decide) ?_
      obtain ⟨r9, hr9, hf⟩ := pr_bi hf
      refine pr_callVi (rest := []) (res := r9) ⟨hx, hb, hml, hown, hts⟩ 3 (prc_R_take hD hX 1 (Nat.le_refl _) σ 18 r9 hr9) (prg_R_take hts prw_99 (by have := hh; omega)) hX hXs hK hP hS (by decide) rfl rfl rfl rfl hl.1 (Nat.le_of_ble_eq_true rfl) prd_R_readNames_24 (fun H locs hP hS => ?_)
      refine lv_if_eq (tgt := 49) hx hb prd_R_readNames_27 (by decide) (fun c10 => ?_) (fun c10 => ?_)
      · have hf := pr_it c10 hf
        refine lv_iload_n hx hb prd_R_readNames_49 rfl (lv_at hl 1 rfl) ?_
        exact pr_reti E hP hS (pr_so hf) prd_R_readNames_50
      · have hf := pr_ie c10 hf
        refine lv_aload_n hx hb prd_R_readNames_30 rfl (lv_at hl 0 rfl) ?_
        refine lv_iconst (v := 2) hx hb prd_R_readNames_31 (by decide) ?_
        obtain ⟨r11, hr11, hf⟩ := pr_bi hf
        refine pr_callVi (rest := []) (res := r11) ⟨hx, hb, hml, hown, hts⟩ 3 (prc_R_take hD hX 1 (Nat.le_refl _) r9.2 2 r11 hr11) (prg_R_take hts prw_99 (by have := hh; omega)) hX hXs hK hP hS (by decide) rfl rfl rfl rfl hl.1 (Nat.le_of_ble_eq_true rfl) prd_R_readNames_32 (fun H locs hP hS => ?_)
        refine lv_if_ne (tgt := 40) hx hb prd_R_readNames_35 (by decide) (fun c12 => ?_) (fun c12 => ?_)
        · have hf := pr_ie c12 hf
          refine lv_iinc (v := (x1 + 1)) (lv' := [(1, .int (x1 + 1)), (0, .ref (ad 3)), (2, .int x2)]) hx hb prd_R_readNames_40 hl (k := 1) rfl rfl (by decide) rfl (fun ls hl => ?_)
          refine lv_iinc (v := (x2 + 1)) (lv' := [(2, .int (x2 + 1)), (1, .int (x1 + 1)), (0, .ref (ad 3))]) hx hb prd_R_readNames_43 hl (k := 2) rfl rfl (by decide) rfl (fun ls hl => ?_)
          refine lv_goto (tgt := 14) hx hb prd_R_readNames_46 (by decide) ?_
          exact ih r11.2 (x1 + 1) (x2 + 1) _ hf _ _ _ hP hS (lv_sub hl [2, 1, 0] rfl)
        · have hf := pr_it c12 hf
          refine lv_iconst (v := (-1)) hx hb prd_R_readNames_38 (by decide) ?_
          exact pr_reti E hP hS (pr_so hf) prd_R_readNames_39
set_option maxHeartbeats 4000000 in
set_option maxRecDepth 100000 in
theorem prc_R_readNames {l : Launch} {D : va_G} {ad : Nat → Nat} {dA : Nat → ClassId} {A : Nat → Prop} {t : Nat} (hD : ∀ σ : pr_St, va_D A (pr_w prc_L ad dA σ)) (hX : pr_Xok A (prX t A)) (h : Nat) (hh : 2 ≤ h) (σ : pr_St)  (res : (Int32 × pr_St)) (hf : prf_R_readNames σ  = some res) : Met l pry_R_readNames (Cond.code pry_R_readNames prb_R_readNames 3 (some .int) :: pr_U) (pr_rm h) (pr_Pc (prX t A) D pr_cl prc_L ad dA [.ref (ad 3)] σ) (pr_Qi D pr_cl prc_L ad dA A res) 0 0 A := by
  refine pr_entry (cc := prb_R_readNames) (maxL := 3) (ret := (some .int)) (by decide) (Nat.le_of_ble_eq_true rfl) hD hX ?_
  intro p e s m args below meth c E H locs hP hS ls hl
  have hl : lv_has ls 3 [(0, .ref (ad 3))] := hl
  have hf := hf.symm
  unfold prf_R_readNames at hf
  obtain ⟨hx, hb, hml, hown, hts, hr, hlocks, hK, hD, hX, hXs⟩ := id E
  refine lv_aload_n hx hb prd_R_readNames_0 rfl (lv_at hl 0 rfl) ?_
  refine lv_iconst (v := 2) hx hb prd_R_readNames_1 (by decide) ?_
  obtain ⟨r13, hr13, hf⟩ := pr_bi hf
  refine pr_callVi (rest := []) (res := r13) ⟨hx, hb, hml, hown, hts⟩ 3 (prc_R_take hD hX 1 (Nat.le_refl _) σ 2 r13 hr13) (prg_R_take hts prw_99 (by have := hh; omega)) hX hXs hK hP hS (by decide) rfl rfl rfl rfl hl.1 (Nat.le_of_ble_eq_true rfl) prd_R_readNames_2 (fun H locs hP hS => ?_)
  refine lv_if_ne (tgt := 10) hx hb prd_R_readNames_5 (by decide) (fun c14 => ?_) (fun c14 => ?_)
  · have hf := pr_ie c14 hf
    refine lv_iconst (v := 1) hx hb prd_R_readNames_10 (by decide) ?_
    refine lv_istore_n (lv' := [(1, .int 1), (0, .ref (ad 3))]) hx hb prd_R_readNames_11 rfl hl (by decide) rfl (fun ls hl => ?_)
    refine lv_iconst (v := 0) hx hb prd_R_readNames_12 (by decide) ?_
    refine lv_istore_n (lv' := [(2, .int 0), (1, .int 1), (0, .ref (ad 3))]) hx hb prd_R_readNames_13 rfl hl (by decide) rfl (fun ls hl => ?_)
    exact prk_R_readNames_14 hh E pr_FU r13.2 1 0 _ hf _ _ _ hP hS (lv_sub hl [2, 1, 0] rfl)
  · have hf := pr_it c14 hf
    refine lv_iconst (v := (-1)) hx hb prd_R_readNames_8 (by decide) ?_
    exact pr_reti E hP hS (pr_so hf) prd_R_readNames_9
-- R_readHead
set_option maxHeartbeats 4000000 in
set_option maxRecDepth 100000 in
theorem prk_R_readHead_50 {l : Launch} {D : va_G} {ad : Nat → Nat} {dA : Nat → ClassId} {A : Nat → Prop} {t : Nat} {p : Program} {e : Env} {s : State} {m : MethodId} {args : Array Value} {below : List Frame} {meth : Method} {c : Code} {h : Nat} (hh : 3 ≤ h) (E : pr_cx prn_R prb_R_readHead 3 (some .boolean) D pr_cl prc_L ad dA A (prX t A) p s m args meth c) : ∀ (σ : pr_St) (x1 : Int32) (x2 : Int32) (res : (Int32 × pr_St)), some res = prf_R_readHead_50 σ x1 x2 → ∀ (H : Heap) (locs : List Loc) (ls : Array Slot), va_P D pr_cl (pr_w prc_L ad dA σ) H → va_S A s.heap H locs → lv_has ls 3 [(0, .ref (ad 3)), (1, .int x1), (2, .int x2)] → W p l e (pr_rm h) s m args below meth c H locs 0 0 (MQ below (pr_Qi D pr_cl prc_L ad dA A res) args s 0 0 A) (F0 m 50 ls []) := by
  obtain ⟨hx, hb, hml, hown, hts, hr, hlocks, hK, hD, hX, hXs⟩ := id E
  intro σ x1 x2 res hf H locs ls hP hS hl
  unfold prf_R_readHead_50 at hf
  refine lv_iload_n hx hb prd_R_readHead_50 rfl (lv_at hl 2 rfl) ?_
  refine lv_iconst (v := (-1)) hx hb prd_R_readHead_51 (by decide) ?_
  refine lv_icmp_eq (tgt := 80) hx hb prd_R_readHead_52 (by decide) (fun c15 => ?_) (fun c15 => ?_)
  · have hf := pr_it c15 hf
    refine lv_iconst (v := 0) hx hb prd_R_readHead_80 (by decide) ?_
    exact pr_retz E (Or.inl rfl) hP hS (pr_so hf) prd_R_readHead_81
  · have hf := pr_ie c15 hf
    refine lv_aload_n hx hb prd_R_readHead_55 rfl (lv_at hl 0 rfl) ?_
    refine lv_bipush (v := 13) hx hb prd_R_readHead_56 (by decide) ?_
    obtain ⟨r16, hr16, hf⟩ := pr_bi hf
    refine pr_callVi (rest := []) (res := r16) ⟨hx, hb, hml, hown, hts⟩ 3 (prc_R_take hD hX 1 (Nat.le_refl _) σ 13 r16 hr16) (prg_R_take hts prw_99 (by have := hh; omega)) hX hXs hK hP hS (by decide) rfl rfl rfl rfl hl.1 (Nat.le_of_ble_eq_true rfl) prd_R_readHead_58 (fun H locs hP hS => ?_)
    refine lv_if_eq (tgt := 80) hx hb prd_R_readHead_61 (by decide) (fun c17 => ?_) (fun c17 => ?_)
    · have hf := pr_it c17 hf
      refine lv_iconst (v := 0) hx hb prd_R_readHead_80 (by decide) ?_
      exact pr_retz E (Or.inl rfl) hP hS (pr_so hf) prd_R_readHead_81
    · have hf := pr_ie c17 hf
      refine lv_aload_n hx hb prd_R_readHead_64 rfl (lv_at hl 0 rfl) ?_
      refine pr_getr (t := 2) hx hb hts prs_R hown hK hP 3 1 (by decide) rfl (hts _ prw_111) rfl prd_R_readHead_65 ?_
      refine lv_iload_n hx hb prd_R_readHead_68 rfl (lv_at hl 1 rfl) ?_
      refine lv_iload_n hx hb prd_R_readHead_69 rfl (lv_at hl 2 rfl) ?_
      obtain ⟨r18, hr18, hf⟩ := pr_bi hf
      refine pr_callVi (rest := []) (res := r18) ⟨hx, hb, hml, hown, hts⟩ 2 (prc_G_openFunction hD hX 0 (Nat.le_refl _) r16.2 x1 x2 r18 hr18) (prg_G_openFunction hts prw_112 (by have := hh; omega)) hX hXs hK hP hS (by decide) rfl rfl rfl rfl hl.1 (Nat.le_of_ble_eq_true rfl) prd_R_readHead_70 (fun H locs hP hS => ?_)
      refine lv_if_eq (tgt := 80) hx hb prd_R_readHead_73 (by decide) (fun c19 => ?_) (fun c19 => ?_)
      · have hf := pr_it c19 hf
        refine lv_iconst (v := 0) hx hb prd_R_readHead_80 (by decide) ?_
        exact pr_retz E (Or.inl rfl) hP hS (pr_so hf) prd_R_readHead_81
      · have hf := pr_ie c19 hf
        refine lv_iconst (v := 1) hx hb prd_R_readHead_76 (by decide) ?_
        refine lv_goto (tgt := 81) hx hb prd_R_readHead_77 (by decide) ?_
        exact pr_retz E (Or.inr rfl) hP hS (pr_so hf) prd_R_readHead_81
set_option maxHeartbeats 4000000 in
set_option maxRecDepth 100000 in
theorem prc_R_readHead {l : Launch} {D : va_G} {ad : Nat → Nat} {dA : Nat → ClassId} {A : Nat → Prop} {t : Nat} (hD : ∀ σ : pr_St, va_D A (pr_w prc_L ad dA σ)) (hX : pr_Xok A (prX t A)) (h : Nat) (hh : 3 ≤ h) (σ : pr_St)  (res : (Int32 × pr_St)) (hf : prf_R_readHead σ  = some res) : Met l pry_R_readHead (Cond.code pry_R_readHead prb_R_readHead 3 (some .boolean) :: pr_U) (pr_rm h) (pr_Pc (prX t A) D pr_cl prc_L ad dA [.ref (ad 3)] σ) (pr_Qi D pr_cl prc_L ad dA A res) 0 0 A := by
  refine pr_entry (cc := prb_R_readHead) (maxL := 3) (ret := (some .boolean)) (by decide) (Nat.le_of_ble_eq_true rfl) hD hX ?_
  intro p e s m args below meth c E H locs hP hS ls hl
  have hl : lv_has ls 3 [(0, .ref (ad 3))] := hl
  have hf := hf.symm
  unfold prf_R_readHead at hf
  obtain ⟨hx, hb, hml, hown, hts, hr, hlocks, hK, hD, hX, hXs⟩ := id E
  refine lv_aload_n hx hb prd_R_readHead_0 rfl (lv_at hl 0 rfl) ?_
  refine lv_iconst (v := 4) hx hb prd_R_readHead_1 (by decide) ?_
  obtain ⟨r20, hr20, hf⟩ := pr_bi hf
  refine pr_callVi (rest := []) (res := r20) ⟨hx, hb, hml, hown, hts⟩ 3 (prc_R_take hD hX 1 (Nat.le_refl _) σ 4 r20 hr20) (prg_R_take hts prw_99 (by have := hh; omega)) hX hXs hK hP hS (by decide) rfl rfl rfl rfl hl.1 (Nat.le_of_ble_eq_true rfl) prd_R_readHead_2 (fun H locs hP hS => ?_)
  refine lv_if_ne (tgt := 10) hx hb prd_R_readHead_5 (by decide) (fun c21 => ?_) (fun c21 => ?_)
  · have hf := pr_ie c21 hf
    refine lv_aload_n hx hb prd_R_readHead_10 rfl (lv_at hl 0 rfl) ?_
    refine pr_geti (v := (r20.2.1 3 2)) hx hb hts prs_R hown hK hP 3 2 (by decide) rfl (hts _ prw_90) rfl rfl prd_R_readHead_11 ?_
    refine lv_istore_n (lv' := [(1, .int (r20.2.1 3 2)), (0, .ref (ad 3))]) hx hb prd_R_readHead_14 rfl hl (by decide) rfl (fun ls hl => ?_)
    refine lv_aload_n hx hb prd_R_readHead_15 rfl (lv_at hl 1 rfl) ?_
    refine lv_iconst (v := 2) hx hb prd_R_readHead_16 (by decide) ?_
    obtain ⟨r22, hr22, hf⟩ := pr_bi hf
    refine pr_callVi (rest := []) (res := r22) ⟨hx, hb, hml, hown, hts⟩ 3 (prc_R_take hD hX 1 (Nat.le_refl _) r20.2 2 r22 hr22) (prg_R_take hts prw_99 (by have := hh; omega)) hX hXs hK hP hS (by decide) rfl rfl rfl rfl hl.1 (Nat.le_of_ble_eq_true rfl) prd_R_readHead_17 (fun H locs hP hS => ?_)
    refine lv_if_eq (tgt := 32) hx hb prd_R_readHead_20 (by decide) (fun c23 => ?_) (fun c23 => ?_)
    · have hf := pr_it c23 hf
      refine lv_iconst (v := 0) hx hb prd_R_readHead_32 (by decide) ?_
      exact pr_retz E (Or.inl rfl) hP hS (pr_so hf) prd_R_readHead_33
    · have hf := pr_ie c23 hf
      refine lv_aload_n hx hb prd_R_readHead_23 rfl (lv_at hl 1 rfl) ?_
      refine lv_bipush (v := 12) hx hb prd_R_readHead_24 (by decide) ?_
      obtain ⟨r24, hr24, hf⟩ := pr_bi hf
      refine pr_callVi (rest := []) (res := r24) ⟨hx, hb, hml, hown, hts⟩ 3 (prc_R_take hD hX 1 (Nat.le_refl _) r22.2 12 r24 hr24) (prg_R_take hts prw_99 (by have := hh; omega)) hX hXs hK hP hS (by decide) rfl rfl rfl rfl hl.1 (Nat.le_of_ble_eq_true rfl) prd_R_readHead_26 (fun H locs hP hS => ?_)
      refine lv_if_ne (tgt := 34) hx hb prd_R_readHead_29 (by decide) (fun c25 => ?_) (fun c25 => ?_)
      · have hf := pr_ie c25 hf
        refine lv_iconst (v := 0) hx hb prd_R_readHead_34 (by decide) ?_
        refine lv_istore_n (lv' := [(2, .int 0), (1, .int (r20.2.1 3 2)), (0, .ref (ad 3))]) hx hb prd_R_readHead_35 rfl hl (by decide) rfl (fun ls hl => ?_)
        refine lv_aload_n hx hb prd_R_readHead_36 rfl (lv_at hl 2 rfl) ?_
        obtain ⟨r26, hr26, hf⟩ := pr_bi hf
        refine pr_callVr (rest := []) (r := r26) ⟨hx, hb, hml, hown, hts⟩ 3 (prc_R_now hD hX 1 (Nat.le_refl _) r24.2  r26 hr26) (prg_R_now hts prw_109 (by have := hh; omega)) hX hXs hK hP hS (by decide) rfl rfl rfl rfl hl.1 (Nat.le_of_ble_eq_true rfl) prd_R_readHead_37 (fun H locs hP hS => ?_)
        refine lv_bipush (v := 13) hx hb prd_R_readHead_40 (by decide) ?_
        refine lv_icmp_eq (tgt := 50) hx hb prd_R_readHead_42 (by decide) (fun c27 => ?_) (fun c27 => ?_)
        · have hf := pr_it c27 hf
          exact prk_R_readHead_50 hh E r24.2 (r20.2.1 3 2) 0 _ hf _ _ _ hP hS (lv_sub hl [2, 1, 0] rfl)
        · have hf := pr_ie c27 hf
          refine lv_aload_n hx hb prd_R_readHead_45 rfl (lv_at hl 2 rfl) ?_
          obtain ⟨r28, hr28, hf⟩ := pr_bi hf
          refine pr_callVi (rest := []) (res := r28) ⟨hx, hb, hml, hown, hts⟩ 3 (prc_R_readNames hD hX 2 (Nat.le_refl _) r24.2  r28 hr28) (prg_R_readNames hts prw_110 (by have := hh; omega)) hX hXs hK hP hS (by decide) rfl rfl rfl rfl hl.1 (Nat.le_of_ble_eq_true rfl) prd_R_readHead_46 (fun H locs hP hS => ?_)
          refine lv_istore_n (lv' := [(2, .int r28.1), (1, .int (r20.2.1 3 2)), (0, .ref (ad 3))]) hx hb prd_R_readHead_49 rfl hl (by decide) rfl (fun ls hl => ?_)
          exact prk_R_readHead_50 hh E r28.2 (r20.2.1 3 2) r28.1 _ hf _ _ _ hP hS (lv_sub hl [2, 1, 0] rfl)
      · have hf := pr_it c25 hf
        refine lv_iconst (v := 0) hx hb prd_R_readHead_32 (by decide) ?_
        exact pr_retz E (Or.inl rfl) hP hS (pr_so hf) prd_R_readHead_33
  · have hf := pr_it c21 hf
    refine lv_iconst (v := 0) hx hb prd_R_readHead_8 (by decide) ?_
    exact pr_retz E (Or.inl rfl) hP hS (pr_so hf) prd_R_readHead_9
-- R_isCallAt
set_option maxHeartbeats 4000000 in
set_option maxRecDepth 100000 in
theorem prc_R_isCallAt {l : Launch} {D : va_G} {ad : Nat → Nat} {dA : Nat → ClassId} {A : Nat → Prop} {t : Nat} (hD : ∀ σ : pr_St, va_D A (pr_w prc_L ad dA σ)) (hX : pr_Xok A (prX t A)) (h : Nat) (hh : 1 ≤ h) (σ : pr_St) (x1 : Int32) (res : Int32) (hf : prf_R_isCallAt σ x1 = some res) : Met l pry_R_isCallAt (Cond.code pry_R_isCallAt prb_R_isCallAt 2 (some .boolean) :: pr_U) (pr_rm h) (pr_Pc (prX t A) D pr_cl prc_L ad dA [.ref (ad 3), .int x1] σ) (pr_Qi D pr_cl prc_L ad dA A (res, σ)) 0 0 A := by
  refine pr_entry (cc := prb_R_isCallAt) (maxL := 2) (ret := (some .boolean)) (by decide) (Nat.le_of_ble_eq_true rfl) hD hX ?_
  intro p e s m args below meth c E H locs hP hS ls hl
  have hl : lv_has ls 2 [(0, .ref (ad 3)), (1, .int x1)] := hl
  have hf := hf.symm
  unfold prf_R_isCallAt at hf
  obtain ⟨hx, hb, hml, hown, hts, hr, hlocks, hK, hD, hX, hXs⟩ := id E
  refine lv_aload_n hx hb prd_R_isCallAt_0 rfl (lv_at hl 0 rfl) ?_
  refine pr_getr (t := 1) hx hb hts prs_R hown hK hP 3 0 (by decide) rfl (hts _ prw_89) rfl prd_R_isCallAt_1 ?_
  refine lv_iload_n hx hb prd_R_isCallAt_4 rfl (lv_at hl 1 rfl) ?_
  obtain ⟨r5, hr5, hf⟩ := pr_bi hf
  refine pr_callVr (rest := []) (r := r5) ⟨hx, hb, hml, hown, hts⟩ 1 (prc_T_kindAt hD hX 0 (Nat.le_refl _) σ x1 r5 hr5) (prg_T_kindAt hts prw_91 (by have := hh; omega)) hX hXs hK hP hS (by decide) rfl rfl rfl rfl hl.1 (Nat.le_of_ble_eq_true rfl) prd_R_isCallAt_5 (fun H locs hP hS => ?_)
  refine lv_iconst (v := 2) hx hb prd_R_isCallAt_8 (by decide) ?_
  refine lv_icmp_ne (tgt := 31) hx hb prd_R_isCallAt_9 (by decide) (fun c6 => ?_) (fun c6 => ?_)
  · have hf := pr_ie c6 hf
    refine lv_iconst (v := 0) hx hb prd_R_isCallAt_31 (by decide) ?_
    exact pr_retz E (Or.inl rfl) hP hS (pr_ro hf) prd_R_isCallAt_32
  · have hf := pr_it c6 hf
    refine lv_aload_n hx hb prd_R_isCallAt_12 rfl (lv_at hl 0 rfl) ?_
    refine pr_getr (t := 1) hx hb hts prs_R hown hK hP 3 0 (by decide) rfl (hts _ prw_89) rfl prd_R_isCallAt_13 ?_
    refine lv_iload_n hx hb prd_R_isCallAt_16 rfl (lv_at hl 1 rfl) ?_
    refine lv_iconst (v := 1) hx hb prd_R_isCallAt_17 (by decide) ?_
    refine lv_iadd hx hb prd_R_isCallAt_18 ?_
    obtain ⟨r7, hr7, hf⟩ := pr_bi hf
    refine pr_callVr (rest := []) (r := r7) ⟨hx, hb, hml, hown, hts⟩ 1 (prc_T_kindAt hD hX 0 (Nat.le_refl _) σ (x1 + 1) r7 hr7) (prg_T_kindAt hts prw_91 (by have := hh; omega)) hX hXs hK hP hS (by decide) rfl rfl rfl rfl hl.1 (Nat.le_of_ble_eq_true rfl) prd_R_isCallAt_19 (fun H locs hP hS => ?_)
    refine lv_bipush (v := 12) hx hb prd_R_isCallAt_22 (by decide) ?_
    refine lv_icmp_ne (tgt := 31) hx hb prd_R_isCallAt_24 (by decide) (fun c8 => ?_) (fun c8 => ?_)
    · have hf := pr_ie c8 hf
      refine lv_iconst (v := 0) hx hb prd_R_isCallAt_31 (by decide) ?_
      exact pr_retz E (Or.inl rfl) hP hS (pr_ro hf) prd_R_isCallAt_32
    · have hf := pr_it c8 hf
      refine lv_iconst (v := 1) hx hb prd_R_isCallAt_27 (by decide) ?_
      refine lv_goto (tgt := 32) hx hb prd_R_isCallAt_28 (by decide) ?_
      exact pr_retz E (Or.inr rfl) hP hS (pr_ro hf) prd_R_isCallAt_32
-- R_kindBehindName
set_option maxHeartbeats 4000000 in
set_option maxRecDepth 100000 in
theorem prc_R_kindBehindName {l : Launch} {D : va_G} {ad : Nat → Nat} {dA : Nat → ClassId} {A : Nat → Prop} {t : Nat} (hD : ∀ σ : pr_St, va_D A (pr_w prc_L ad dA σ)) (hX : pr_Xok A (prX t A)) (h : Nat) (hh : 2 ≤ h) (σ : pr_St)  (res : Int32) (hf : prf_R_kindBehindName σ  = some res) : Met l pry_R_kindBehindName (Cond.code pry_R_kindBehindName prb_R_kindBehindName 2 (some .int) :: pr_U) (pr_rm h) (pr_Pc (prX t A) D pr_cl prc_L ad dA [.ref (ad 3)] σ) (pr_Qi D pr_cl prc_L ad dA A (res, σ)) 0 0 A := by
  refine pr_entry (cc := prb_R_kindBehindName) (maxL := 2) (ret := (some .int)) (by decide) (Nat.le_of_ble_eq_true rfl) hD hX ?_
  intro p e s m args below meth c E H locs hP hS ls hl
  have hl : lv_has ls 2 [(0, .ref (ad 3))] := hl
  have hf := hf.symm
  unfold prf_R_kindBehindName at hf
  obtain ⟨hx, hb, hml, hown, hts, hr, hlocks, hK, hD, hX, hXs⟩ := id E
  refine lv_aload_n hx hb prd_R_kindBehindName_0 rfl (lv_at hl 0 rfl) ?_
  refine pr_getr (t := 1) hx hb hts prs_R hown hK hP 3 0 (by decide) rfl (hts _ prw_89) rfl prd_R_kindBehindName_1 ?_
  refine lv_aload_n hx hb prd_R_kindBehindName_4 rfl (lv_at hl 0 rfl) ?_
  refine pr_geti (v := (σ.1 3 2)) hx hb hts prs_R hown hK hP 3 2 (by decide) rfl (hts _ prw_90) rfl rfl prd_R_kindBehindName_5 ?_
  refine lv_iconst (v := 1) hx hb prd_R_kindBehindName_8 (by decide) ?_
  refine lv_iadd hx hb prd_R_kindBehindName_9 ?_
  obtain ⟨r8, hr8, hf⟩ := pr_bi hf
  refine pr_callVr (rest := []) (r := r8) ⟨hx, hb, hml, hown, hts⟩ 1 (prc_T_kindAt hD hX 0 (Nat.le_refl _) σ ((σ.1 3 2) + 1) r8 hr8) (prg_T_kindAt hts prw_91 (by have := hh; omega)) hX hXs hK hP hS (by decide) rfl rfl rfl rfl hl.1 (Nat.le_of_ble_eq_true rfl) prd_R_kindBehindName_10 (fun H locs hP hS => ?_)
  refine lv_istore_n (lv' := [(1, .int r8), (0, .ref (ad 3))]) hx hb prd_R_kindBehindName_13 rfl hl (by decide) rfl (fun ls hl => ?_)
  refine lv_iload_n hx hb prd_R_kindBehindName_14 rfl (lv_at hl 0 rfl) ?_
  refine lv_bipush (v := 12) hx hb prd_R_kindBehindName_15 (by decide) ?_
  refine lv_icmp_eq (tgt := 39) hx hb prd_R_kindBehindName_17 (by decide) (fun c9 => ?_) (fun c9 => ?_)
  · have hf := pr_it c9 hf
    refine lv_iconst (v := 4) hx hb prd_R_kindBehindName_39 (by decide) ?_
    exact pr_reti E hP hS (pr_ro hf) prd_R_kindBehindName_40
  · have hf := pr_ie c9 hf
    refine lv_iload_n hx hb prd_R_kindBehindName_20 rfl (lv_at hl 0 rfl) ?_
    refine lv_bipush (v := 20) hx hb prd_R_kindBehindName_21 (by decide) ?_
    refine lv_icmp_ne (tgt := 41) hx hb prd_R_kindBehindName_23 (by decide) (fun c10 => ?_) (fun c10 => ?_)
    · have hf := pr_ie c10 hf
      refine lv_iload_n hx hb prd_R_kindBehindName_41 rfl (lv_at hl 0 rfl) ?_
      refine lv_bipush (v := 16) hx hb prd_R_kindBehindName_42 (by decide) ?_
      refine lv_icmp_ne (tgt := 51) hx hb prd_R_kindBehindName_44 (by decide) (fun c11 => ?_) (fun c11 => ?_)
      · have hf := pr_ie c11 hf
        refine lv_iconst (v := 2) hx hb prd_R_kindBehindName_51 (by decide) ?_
        exact pr_reti E hP hS (pr_ro hf) prd_R_kindBehindName_52
      · have hf := pr_it c11 hf
        refine lv_iconst (v := 3) hx hb prd_R_kindBehindName_47 (by decide) ?_
        refine lv_goto (tgt := 52) hx hb prd_R_kindBehindName_48 (by decide) ?_
        exact pr_reti E hP hS (pr_ro hf) prd_R_kindBehindName_52
    · have hf := pr_it c10 hf
      refine lv_aload_n hx hb prd_R_kindBehindName_26 rfl (lv_at hl 1 rfl) ?_
      refine lv_aload_n hx hb prd_R_kindBehindName_27 rfl (lv_at hl 1 rfl) ?_
      refine pr_geti (v := (σ.1 3 2)) hx hb hts prs_R hown hK hP 3 2 (by decide) rfl (hts _ prw_90) rfl rfl prd_R_kindBehindName_28 ?_
      refine lv_iconst (v := 2) hx hb prd_R_kindBehindName_31 (by decide) ?_
      refine lv_iadd hx hb prd_R_kindBehindName_32 ?_
      obtain ⟨r12, hr12, hf⟩ := pr_bi hf
      refine pr_callVr (rest := []) (r := r12) ⟨hx, hb, hml, hown, hts⟩ 3 (prc_R_isCallAt hD hX 1 (Nat.le_refl _) σ ((σ.1 3 2) + 2) r12 hr12) (prg_R_isCallAt hts prw_119 (by have := hh; omega)) hX hXs hK hP hS (by decide) rfl rfl rfl rfl hl.1 (Nat.le_of_ble_eq_true rfl) prd_R_kindBehindName_33 (fun H locs hP hS => ?_)
      refine lv_if_eq (tgt := 41) hx hb prd_R_kindBehindName_36 (by decide) (fun c13 => ?_) (fun c13 => ?_)
      · have hf := pr_it c13 hf
        refine lv_iload_n hx hb prd_R_kindBehindName_41 rfl (lv_at hl 0 rfl) ?_
        refine lv_bipush (v := 16) hx hb prd_R_kindBehindName_42 (by decide) ?_
        refine lv_icmp_ne (tgt := 51) hx hb prd_R_kindBehindName_44 (by decide) (fun c14 => ?_) (fun c14 => ?_)
        · have hf := pr_ie c14 hf
          refine lv_iconst (v := 2) hx hb prd_R_kindBehindName_51 (by decide) ?_
          exact pr_reti E hP hS (pr_ro hf) prd_R_kindBehindName_52
        · have hf := pr_it c14 hf
          refine lv_iconst (v := 3) hx hb prd_R_kindBehindName_47 (by decide) ?_
          refine lv_goto (tgt := 52) hx hb prd_R_kindBehindName_48 (by decide) ?_
          exact pr_reti E hP hS (pr_ro hf) prd_R_kindBehindName_52
      · have hf := pr_ie c13 hf
        refine lv_iconst (v := 4) hx hb prd_R_kindBehindName_39 (by decide) ?_
        exact pr_reti E hP hS (pr_ro hf) prd_R_kindBehindName_40
-- R_statementKind
set_option maxHeartbeats 4000000 in
set_option maxRecDepth 100000 in
theorem prc_R_statementKind {l : Launch} {D : va_G} {ad : Nat → Nat} {dA : Nat → ClassId} {A : Nat → Prop} {t : Nat} (hD : ∀ σ : pr_St, va_D A (pr_w prc_L ad dA σ)) (hX : pr_Xok A (prX t A)) (h : Nat) (hh : 3 ≤ h) (σ : pr_St)  (res : Int32) (hf : prf_R_statementKind σ  = some res) : Met l pry_R_statementKind (Cond.code pry_R_statementKind prb_R_statementKind 1 (some .int) :: pr_U) (pr_rm h) (pr_Pc (prX t A) D pr_cl prc_L ad dA [.ref (ad 3)] σ) (pr_Qi D pr_cl prc_L ad dA A (res, σ)) 0 0 A := by
  refine pr_entry (cc := prb_R_statementKind) (maxL := 1) (ret := (some .int)) (by decide) (Nat.le_of_ble_eq_true rfl) hD hX ?_
  intro p e s m args below meth c E H locs hP hS ls hl
  have hl : lv_has ls 1 [(0, .ref (ad 3))] := hl
  have hf := hf.symm
  unfold prf_R_statementKind at hf
  obtain ⟨hx, hb, hml, hown, hts, hr, hlocks, hK, hD, hX, hXs⟩ := id E
  refine lv_aload_n hx hb prd_R_statementKind_0 rfl (lv_at hl 0 rfl) ?_
  obtain ⟨r12, hr12, hf⟩ := pr_bi hf
  refine pr_callVr (rest := []) (r := r12) ⟨hx, hb, hml, hown, hts⟩ 3 (prc_R_now hD hX 1 (Nat.le_refl _) σ  r12 hr12) (prg_R_now hts prw_109 (by have := hh; omega)) hX hXs hK hP hS (by decide) rfl rfl rfl rfl hl.1 (Nat.le_of_ble_eq_true rfl) prd_R_statementKind_1 (fun H locs hP hS => ?_)
  by_cases c13 : r12 = 2
  · have hf := pr_it c13 hf
    refine lv_tableIn (tgt := 69) (off := 65) hx hb prd_R_statementKind_4 (by rw [c13]; decide) (by rw [c13]; decide) (by rw [c13] <;> rfl) (by decide) ?_
    refine lv_aload_n hx hb prd_R_statementKind_69 rfl (lv_at hl 0 rfl) ?_
    obtain ⟨r14, hr14, hf⟩ := pr_bi hf
    refine pr_callVr (rest := []) (r := r14) ⟨hx, hb, hml, hown, hts⟩ 3 (prc_R_kindBehindName hD hX 2 (Nat.le_refl _) σ  r14 hr14) (prg_R_kindBehindName hts prw_123 (by have := hh; omega)) hX hXs hK hP hS (by decide) rfl rfl rfl rfl hl.1 (Nat.le_of_ble_eq_true rfl) prd_R_statementKind_70 (fun H locs hP hS => ?_)
    exact pr_reti E hP hS (pr_ro hf) prd_R_statementKind_73
  · have hf := pr_ie c13 hf
    by_cases c15 : r12 = 3
    · have hf := pr_it c15 hf
      refine lv_tableIn (tgt := 74) (off := 70) hx hb prd_R_statementKind_4 (by rw [c15]; decide) (by rw [c15]; decide) (by rw [c15] <;> rfl) (by decide) ?_
      refine lv_iconst (v := 0) hx hb prd_R_statementKind_74 (by decide) ?_
      exact pr_reti E hP hS (pr_ro hf) prd_R_statementKind_75
    · have hf := pr_ie c15 hf
      by_cases c16 : r12 = 4
      · have hf := pr_it c16 hf
        refine lv_tableIn (tgt := 74) (off := 70) hx hb prd_R_statementKind_4 (by rw [c16]; decide) (by rw [c16]; decide) (by rw [c16] <;> rfl) (by decide) ?_
        refine lv_iconst (v := 0) hx hb prd_R_statementKind_74 (by decide) ?_
        exact pr_reti E hP hS (pr_ro hf) prd_R_statementKind_75
      · have hf := pr_ie c16 hf
        by_cases c17 : r12 = 5
        · have hf := pr_it c17 hf
          refine lv_tableIn (tgt := 56) (off := 52) hx hb prd_R_statementKind_4 (by rw [c17]; decide) (by rw [c17]; decide) (by rw [c17] <;> rfl) (by decide) ?_
          refine lv_iconst (v := 1) hx hb prd_R_statementKind_56 (by decide) ?_
          exact pr_reti E hP hS (pr_ro hf) prd_R_statementKind_57
        · have hf := pr_ie c17 hf
          by_cases c18 : r12 = 6
          · have hf := pr_it c18 hf
            refine lv_tableIn (tgt := 58) (off := 54) hx hb prd_R_statementKind_4 (by rw [c18]; decide) (by rw [c18]; decide) (by rw [c18] <;> rfl) (by decide) ?_
            refine lv_iconst (v := 5) hx hb prd_R_statementKind_58 (by decide) ?_
            exact pr_reti E hP hS (pr_ro hf) prd_R_statementKind_59
          · have hf := pr_ie c18 hf
            by_cases c19 : r12 = 7
            · have hf := pr_it c19 hf
              refine lv_tableIn (tgt := 74) (off := 70) hx hb prd_R_statementKind_4 (by rw [c19]; decide) (by rw [c19]; decide) (by rw [c19] <;> rfl) (by decide) ?_
              refine lv_iconst (v := 0) hx hb prd_R_statementKind_74 (by decide) ?_
              exact pr_reti E hP hS (pr_ro hf) prd_R_statementKind_75
            · have hf := pr_ie c19 hf
              by_cases c20 : r12 = 8
              · have hf := pr_it c20 hf
                refine lv_tableIn (tgt := 60) (off := 56) hx hb prd_R_statementKind_4 (by rw [c20]; decide) (by rw [c20]; decide) (by rw [c20] <;> rfl) (by decide) ?_
                refine lv_bipush (v := 6) hx hb prd_R_statementKind_60 (by decide) ?_
                exact pr_reti E hP hS (pr_ro hf) prd_R_statementKind_62
              · have hf := pr_ie c20 hf
                by_cases c21 : r12 = 9
                · have hf := pr_it c21 hf
                  refine lv_tableIn (tgt := 63) (off := 59) hx hb prd_R_statementKind_4 (by rw [c21]; decide) (by rw [c21]; decide) (by rw [c21] <;> rfl) (by decide) ?_
                  refine lv_bipush (v := 7) hx hb prd_R_statementKind_63 (by decide) ?_
                  exact pr_reti E hP hS (pr_ro hf) prd_R_statementKind_65
                · have hf := pr_ie c21 hf
                  by_cases c22 : r12 = 10
                  · have hf := pr_it c22 hf
                    refine lv_tableIn (tgt := 66) (off := 62) hx hb prd_R_statementKind_4 (by rw [c22]; decide) (by rw [c22]; decide) (by rw [c22] <;> rfl) (by decide) ?_
                    refine lv_bipush (v := 8) hx hb prd_R_statementKind_66 (by decide) ?_
                    exact pr_reti E hP hS (pr_ro hf) prd_R_statementKind_68
                  · have hf := pr_ie c22 hf
                    refine lv_tableOut (tgt := 74) hx hb prd_R_statementKind_4 (by have w0 := lv_neT (a := 2) c13 (by decide); have w1 := lv_neT (a := 3) c15 (by decide); have w2 := lv_neT (a := 4) c16 (by decide); have w3 := lv_neT (a := 5) c17 (by decide); have w4 := lv_neT (a := 6) c18 (by decide); have w5 := lv_neT (a := 7) c19 (by decide); have w6 := lv_neT (a := 8) c20 (by decide); have w7 := lv_neT (a := 9) c21 (by decide); have w8 := lv_neT (a := 10) c22 (by decide); omega) (by decide) ?_
                    refine lv_iconst (v := 0) hx hb prd_R_statementKind_74 (by decide) ?_
                    exact pr_reti E hP hS (pr_ro hf) prd_R_statementKind_75
-- R_readLimit
set_option maxHeartbeats 4000000 in
set_option maxRecDepth 100000 in
theorem prc_R_readLimit {l : Launch} {D : va_G} {ad : Nat → Nat} {dA : Nat → ClassId} {A : Nat → Prop} {t : Nat} (hD : ∀ σ : pr_St, va_D A (pr_w prc_L ad dA σ)) (hX : pr_Xok A (prX t A)) (h : Nat) (hh : 2 ≤ h) (σ : pr_St)  (res : (Int32 × pr_St)) (hf : prf_R_readLimit σ  = some res) : Met l pry_R_readLimit (Cond.code pry_R_readLimit prb_R_readLimit 1 (some .boolean) :: pr_U) (pr_rm h) (pr_Pc (prX t A) D pr_cl prc_L ad dA [.ref (ad 3)] σ) (pr_Qi D pr_cl prc_L ad dA A res) 0 0 A := by
  refine pr_entry (cc := prb_R_readLimit) (maxL := 1) (ret := (some .boolean)) (by decide) (Nat.le_of_ble_eq_true rfl) hD hX ?_
  intro p e s m args below meth c E H locs hP hS ls hl
  have hl : lv_has ls 1 [(0, .ref (ad 3))] := hl
  have hf := hf.symm
  unfold prf_R_readLimit at hf
  obtain ⟨hx, hb, hml, hown, hts, hr, hlocks, hK, hD, hX, hXs⟩ := id E
  refine lv_aload_n hx hb prd_R_readLimit_0 rfl (lv_at hl 0 rfl) ?_
  obtain ⟨r7, hr7, hf⟩ := pr_bi hf
  refine pr_callVr (rest := []) (r := r7) ⟨hx, hb, hml, hown, hts⟩ 3 (prc_R_now hD hX 1 (Nat.le_refl _) σ  r7 hr7) (prg_R_now hts prw_109 (by have := hh; omega)) hX hXs hK hP hS (by decide) rfl rfl rfl rfl hl.1 (Nat.le_of_ble_eq_true rfl) prd_R_readLimit_1 (fun H locs hP hS => ?_)
  refine lv_bipush (v := 22) hx hb prd_R_readLimit_4 (by decide) ?_
  refine lv_icmp_ne (tgt := 19) hx hb prd_R_readLimit_6 (by decide) (fun c8 => ?_) (fun c8 => ?_)
  · have hf := pr_ie c8 hf
    refine lv_aload_n hx hb prd_R_readLimit_19 rfl (lv_at hl 0 rfl) ?_
    refine lv_iconst (v := 3) hx hb prd_R_readLimit_20 (by decide) ?_
    obtain ⟨r9, hr9, hf⟩ := pr_bi hf
    refine pr_callVi (rest := []) (res := r9) ⟨hx, hb, hml, hown, hts⟩ 3 (prc_R_take hD hX 1 (Nat.le_refl _) σ 3 r9 hr9) (prg_R_take hts prw_99 (by have := hh; omega)) hX hXs hK hP hS (by decide) rfl rfl rfl rfl hl.1 (Nat.le_of_ble_eq_true rfl) prd_R_readLimit_21 (fun H locs hP hS => ?_)
    obtain ⟨hz10, hf⟩ := pr_z_in hf
    exact pr_retz E hz10 hP hS (pr_so hf) prd_R_readLimit_24
  · have hf := pr_it c8 hf
    refine lv_aload_n hx hb prd_R_readLimit_9 rfl (lv_at hl 0 rfl) ?_
    refine lv_dup hx hb prd_R_readLimit_10 rfl ?_
    refine pr_geti (v := (σ.1 3 2)) hx hb hts prs_R hown hK hP 3 2 (by decide) rfl (hts _ prw_90) rfl rfl prd_R_readLimit_11 ?_
    refine lv_iconst (v := 1) hx hb prd_R_readLimit_14 (by decide) ?_
    refine lv_iadd hx hb prd_R_readLimit_15 ?_
    refine pr_puti (ty := .int) hx hb hts prs_R prq_R prtt_R prtn_R hown hK hP (hD _) hS 3 2 (by decide) rfl (hts _ prw_90) rfl rfl (prtt_R 2 (by decide)) rfl rfl prd_R_readLimit_16 (fun H locs hP hS => ?_)
    refine lv_aload_n hx hb prd_R_readLimit_19 rfl (lv_at hl 0 rfl) ?_
    refine lv_iconst (v := 3) hx hb prd_R_readLimit_20 (by decide) ?_
    obtain ⟨r11, hr11, hf⟩ := pr_bi hf
    refine pr_callVi (rest := []) (res := r11) ⟨hx, hb, hml, hown, hts⟩ 3 (prc_R_take hD hX 1 (Nat.le_refl _) (pr_sI σ 3 2 ((σ.1 3 2) + 1)) 3 r11 hr11) (prg_R_take hts prw_99 (by have := hh; omega)) hX hXs hK hP hS (by decide) rfl rfl rfl rfl hl.1 (Nat.le_of_ble_eq_true rfl) prd_R_readLimit_21 (fun H locs hP hS => ?_)
    obtain ⟨hz12, hf⟩ := pr_z_in hf
    exact pr_retz E hz12 hP hS (pr_so hf) prd_R_readLimit_24
-- R_readTerm
set_option maxHeartbeats 4000000 in
set_option maxRecDepth 100000 in
theorem prk_R_readTerm_12 {l : Launch} {D : va_G} {ad : Nat → Nat} {dA : Nat → ClassId} {A : Nat → Prop} {t : Nat} {p : Program} {e : Env} {s : State} {m : MethodId} {args : Array Value} {below : List Frame} {meth : Method} {c : Code} (hd : Nat) (hb0 : 3 ≤ hd) {h : Nat} (hh : hd + 1 ≤ h) (E : pr_cx prn_R prb_R_readTerm 4 (some .boolean) D pr_cl prc_L ad dA A (prX t A) p s m args meth c) {rc : pr_St → Int32 → Option (Int32 × pr_St)} (Hrc0 : ∀ (σ : pr_St) (x1 : Int32) (res : (Int32 × pr_St)), rc σ x1 = some res → Met l pry_R_readFactor (Cond.code pry_R_readFactor prb_R_readFactor 3 (some .boolean) :: pr_U) (pr_rm hd) (pr_Pc (prX t A) D pr_cl prc_L ad dA [.ref (ad 3), .int x1] σ) (pr_Qi D pr_cl prc_L ad dA A res) 0 0 A) : ∀ n : Nat, ∀ (σ : pr_St) (x1 : Int32) (x2 : Int32) (res : (Int32 × pr_St)), some res = prf_R_readTerm_12 rc n σ x1 x2 → ∀ (H : Heap) (locs : List Loc) (ls : Array Slot), va_P D pr_cl (pr_w prc_L ad dA σ) H → va_S A s.heap H locs → lv_has ls 4 [(0, .ref (ad 3)), (1, .int x1), (2, .int x2)] → W p l e (pr_rm h) s m args below meth c H locs 0 0 (MQ below (pr_Qi D pr_cl prc_L ad dA A res) args s 0 0 A) (F0 m 12 ls []) := by
  obtain ⟨hx, hb, hml, hown, hts, hr, hlocks, hK, hD, hX, hXs⟩ := id E
  intro n
  induction n with
  | zero =>
    intro σ x1 x2 res hf
    rw [prf_R_readTerm_12] at hf
    cases hf
  | succ n ih =>
    intro σ x1 x2 res hf H locs ls hP hS hl
    rw [prf_R_readTerm_12] at hf
    refine lv_iload_n hx hb prd_R_readTerm_12 rfl (lv_at hl 2 rfl) ?_
    refine lv_sipush (v := 8000) hx hb prd_R_readTerm_13 (by decide) ?_
    refine lv_icmp_ge (tgt := 77) hx hb prd_R_readTerm_16 (by decide) (fun c12 => ?_) (fun c12 => ?_)
    · have hf := pr_it c12 hf
      refine lv_iconst (v := 1) hx hb prd_R_readTerm_77 (by decide) ?_
      exact pr_retz E (Or.inr rfl) hP hS (pr_so hf) prd_R_readTerm_78
    · have hf := pr_ie c12 hf
      refine lv_aload_n hx hb prd_R_readTerm_19 rfl (lv_at hl 0 rfl) ?_
      obtain ⟨r13, hr13, hf⟩ := pr_bi hf
      refine pr_callVr (rest := []) (r := r13) ⟨hx, hb, hml, hown, hts⟩ 3 (prc_R_now hD hX 1 (Nat.le_refl _) σ  r13 hr13) (prg_R_now hts prw_109 (by have := hh; omega)) hX hXs hK hP hS (by decide) rfl rfl rfl rfl hl.1 (Nat.le_of_ble_eq_true rfl) prd_R_readTerm_20 (fun H locs hP hS => ?_)
      refine lv_bipush (v := 23) hx hb prd_R_readTerm_23 (by decide) ?_
      refine lv_icmp_lt (tgt := 77) hx hb prd_R_readTerm_25 (by decide) (fun c14 => ?_) (fun c14 => ?_)
      · have hf := pr_it c14 hf
        refine lv_iconst (v := 1) hx hb prd_R_readTerm_77 (by decide) ?_
        exact pr_retz E (Or.inr rfl) hP hS (pr_so hf) prd_R_readTerm_78
      · have hf := pr_ie c14 hf
        refine lv_aload_n hx hb prd_R_readTerm_28 rfl (lv_at hl 0 rfl) ?_
        obtain ⟨r15, hr15, hf⟩ := pr_bi hf
        refine pr_callVr (rest := []) (r := r15) ⟨hx, hb, hml, hown, hts⟩ 3 (prc_R_now hD hX 1 (Nat.le_refl _) σ  r15 hr15) (prg_R_now hts prw_109 (by have := hh; omega)) hX hXs hK hP hS (by decide) rfl rfl rfl rfl hl.1 (Nat.le_of_ble_eq_true rfl) prd_R_readTerm_29 (fun H locs hP hS => ?_)
        refine lv_bipush (v := 25) hx hb prd_R_readTerm_32 (by decide) ?_
        refine lv_icmp_gt (tgt := 77) hx hb prd_R_readTerm_34 (by decide) (fun c16 => ?_) (fun c16 => ?_)
        · have hf := pr_it c16 hf
          refine lv_iconst (v := 1) hx hb prd_R_readTerm_77 (by decide) ?_
          exact pr_retz E (Or.inr rfl) hP hS (pr_so hf) prd_R_readTerm_78
        · have hf := pr_ie c16 hf
          refine lv_aload_n hx hb prd_R_readTerm_37 rfl (lv_at hl 0 rfl) ?_
          obtain ⟨r17, hr17, hf⟩ := pr_bi hf
          refine pr_callVr (rest := []) (r := r17) ⟨hx, hb, hml, hown, hts⟩ 3 (prc_R_now hD hX 1 (Nat.le_refl _) σ  r17 hr17) (prg_R_now hts prw_109 (by have := hh; omega)) hX hXs hK hP hS (by decide) rfl rfl rfl rfl hl.1 (Nat.le_of_ble_eq_true rfl) prd_R_readTerm_38 (fun H locs hP hS => ?_)
          refine lv_istore_n (lv' := [(3, .int r17), (0, .ref (ad 3)), (1, .int x1), (2, .int x2)]) hx hb prd_R_readTerm_41 rfl hl (by decide) rfl (fun ls hl => ?_)
          refine lv_aload_n hx hb prd_R_readTerm_42 rfl (lv_at hl 1 rfl) ?_
          refine lv_dup hx hb prd_R_readTerm_43 rfl ?_
          refine pr_geti (v := (σ.1 3 2)) hx hb hts prs_R hown hK hP 3 2 (by decide) rfl (hts _ prw_90) rfl rfl prd_R_readTerm_44 ?_
          refine lv_iconst (v := 1) hx hb prd_R_readTerm_47 (by decide) ?_
          refine lv_iadd hx hb prd_R_readTerm_48 ?_
          refine pr_puti (ty := .int) hx hb hts prs_R prq_R prtt_R prtn_R hown hK hP (hD _) hS 3 2 (by decide) rfl (hts _ prw_90) rfl rfl (prtt_R 2 (by decide)) rfl rfl prd_R_readTerm_49 (fun H locs hP hS => ?_)
          refine lv_aload_n hx hb prd_R_readTerm_52 rfl (lv_at hl 1 rfl) ?_
          refine lv_iload_n hx hb prd_R_readTerm_53 rfl (lv_at hl 2 rfl) ?_
          obtain ⟨r18, hr18, hf⟩ := pr_bi hf
          refine pr_callVi (rest := []) (res := r18) ⟨hx, hb, hml, hown, hts⟩ 3 (Hrc0 (pr_sI σ 3 2 ((σ.1 3 2) + 1)) x1 r18 hr18) (prg_R_readFactor hts prw_142 (by have := hh; omega)) hX hXs hK hP hS (by decide) rfl rfl rfl rfl hl.1 (Nat.le_of_ble_eq_true rfl) prd_R_readTerm_54 (fun H locs hP hS => ?_)
          refine lv_if_ne (tgt := 62) hx hb prd_R_readTerm_57 (by decide) (fun c19 => ?_) (fun c19 => ?_)
          · have hf := pr_ie c19 hf
            refine lv_aload_n hx hb prd_R_readTerm_62 rfl (lv_at hl 1 rfl) ?_
            refine pr_getr (t := 2) hx hb hts prs_R hown hK hP 3 1 (by decide) rfl (hts _ prw_111) rfl prd_R_readTerm_63 ?_
            refine lv_iload_n hx hb prd_R_readTerm_66 rfl (lv_at hl 0 rfl) ?_
            refine lv_iconst (v := (-1)) hx hb prd_R_readTerm_67 (by decide) ?_
            obtain ⟨r20, hr20, hf⟩ := pr_bi hf
            refine pr_callVv (rest := []) (res := r20) ⟨hx, hb, hml, hown, hts⟩ 2 (prc_G_addOperation hD hX 0 (Nat.le_refl _) r18.2 r17 (-1) r20 hr20) (prg_G_addOperation hts prw_143 (by have := hh; omega)) hX hXs hK hP hS (by decide) rfl rfl rfl rfl hl.1 (Nat.le_of_ble_eq_true rfl) prd_R_readTerm_68 (fun H locs hP hS => ?_)
            refine lv_iinc (v := (x2 + 1)) (lv' := [(2, .int (x2 + 1)), (3, .int r17), (0, .ref (ad 3)), (1, .int x1)]) hx hb prd_R_readTerm_71 hl (k := 3) rfl rfl (by decide) rfl (fun ls hl => ?_)
            refine lv_goto (tgt := 12) hx hb prd_R_readTerm_74 (by decide) ?_
            exact ih r20 x1 (x2 + 1) _ hf _ _ _ hP hS (lv_sub hl [2, 3, 0] rfl)
          · have hf := pr_it c19 hf
            refine lv_iconst (v := 0) hx hb prd_R_readTerm_60 (by decide) ?_
            exact pr_retz E (Or.inl rfl) hP hS (pr_so hf) prd_R_readTerm_61
set_option maxHeartbeats 4000000 in
set_option maxRecDepth 100000 in
theorem prc_R_readTerm {l : Launch} {D : va_G} {ad : Nat → Nat} {dA : Nat → ClassId} {A : Nat → Prop} {t : Nat} (hD : ∀ σ : pr_St, va_D A (pr_w prc_L ad dA σ)) (hX : pr_Xok A (prX t A)) (hd : Nat) (hb0 : 3 ≤ hd) (h : Nat) (hh : hd + 1 ≤ h) {rc : pr_St → Int32 → Option (Int32 × pr_St)} (Hrc0 : ∀ (σ : pr_St) (x1 : Int32) (res : (Int32 × pr_St)), rc σ x1 = some res → Met l pry_R_readFactor (Cond.code pry_R_readFactor prb_R_readFactor 3 (some .boolean) :: pr_U) (pr_rm hd) (pr_Pc (prX t A) D pr_cl prc_L ad dA [.ref (ad 3), .int x1] σ) (pr_Qi D pr_cl prc_L ad dA A res) 0 0 A) (σ : pr_St) (x1 : Int32) (res : (Int32 × pr_St)) (hf : prf_R_readTerm rc σ x1 = some res) : Met l pry_R_readTerm (Cond.code pry_R_readTerm prb_R_readTerm 4 (some .boolean) :: pr_U) (pr_rm h) (pr_Pc (prX t A) D pr_cl prc_L ad dA [.ref (ad 3), .int x1] σ) (pr_Qi D pr_cl prc_L ad dA A res) 0 0 A := by
  refine pr_entry (cc := prb_R_readTerm) (maxL := 4) (ret := (some .boolean)) (by decide) (Nat.le_of_ble_eq_true rfl) hD hX ?_
  intro p e s m args below meth c E H locs hP hS ls hl
  have hl : lv_has ls 4 [(0, .ref (ad 3)), (1, .int x1)] := hl
  have hf := hf.symm
  unfold prf_R_readTerm at hf
  obtain ⟨hx, hb, hml, hown, hts, hr, hlocks, hK, hD, hX, hXs⟩ := id E
  refine lv_aload_n hx hb prd_R_readTerm_0 rfl (lv_at hl 0 rfl) ?_
  refine lv_iload_n hx hb prd_R_readTerm_1 rfl (lv_at hl 1 rfl) ?_
  obtain ⟨r21, hr21, hf⟩ := pr_bi hf
  refine pr_callVi (rest := []) (res := r21) ⟨hx, hb, hml, hown, hts⟩ 3 (Hrc0 σ x1 r21 hr21) (prg_R_readFactor hts prw_142 (by have := hh; omega)) hX hXs hK hP hS (by decide) rfl rfl rfl rfl hl.1 (Nat.le_of_ble_eq_true rfl) prd_R_readTerm_2 (fun H locs hP hS => ?_)
  refine lv_if_ne (tgt := 10) hx hb prd_R_readTerm_5 (by decide) (fun c22 => ?_) (fun c22 => ?_)
  · have hf := pr_ie c22 hf
    refine lv_iconst (v := 0) hx hb prd_R_readTerm_10 (by decide) ?_
    refine lv_istore_n (lv' := [(2, .int 0), (0, .ref (ad 3)), (1, .int x1)]) hx hb prd_R_readTerm_11 rfl hl (by decide) rfl (fun ls hl => ?_)
    exact prk_R_readTerm_12 hd hb0 hh E Hrc0 pr_FU r21.2 x1 0 _ hf _ _ _ hP hS (lv_sub hl [1, 2, 0] rfl)
  · have hf := pr_it c22 hf
    refine lv_iconst (v := 0) hx hb prd_R_readTerm_8 (by decide) ?_
    exact pr_retz E (Or.inl rfl) hP hS (pr_so hf) prd_R_readTerm_9
-- R_readSum
set_option maxHeartbeats 4000000 in
set_option maxRecDepth 100000 in
theorem prk_R_readSum_43 {l : Launch} {D : va_G} {ad : Nat → Nat} {dA : Nat → ClassId} {A : Nat → Prop} {t : Nat} {p : Program} {e : Env} {s : State} {m : MethodId} {args : Array Value} {below : List Frame} {meth : Method} {c : Code} (hd : Nat) (hb0 : 3 ≤ hd) {h : Nat} (hh : hd + 2 ≤ h) (E : pr_cx prn_R prb_R_readSum 4 (some .boolean) D pr_cl prc_L ad dA A (prX t A) p s m args meth c) {rc : pr_St → Int32 → Option (Int32 × pr_St)} (Hrc0 : ∀ (σ : pr_St) (x1 : Int32) (res : (Int32 × pr_St)), rc σ x1 = some res → Met l pry_R_readFactor (Cond.code pry_R_readFactor prb_R_readFactor 3 (some .boolean) :: pr_U) (pr_rm hd) (pr_Pc (prX t A) D pr_cl prc_L ad dA [.ref (ad 3), .int x1] σ) (pr_Qi D pr_cl prc_L ad dA A res) 0 0 A) {kk18 : pr_St → Int32 → Int32 → Option (Int32 × pr_St)} (Hk18 : ∀ (σ : pr_St) (x1 : Int32) (x2 : Int32) (res : (Int32 × pr_St)), some res = kk18 σ x1 x2 → ∀ (H : Heap) (locs : List Loc) (ls : Array Slot), va_P D pr_cl (pr_w prc_L ad dA σ) H → va_S A s.heap H locs → lv_has ls 4 [(0, .ref (ad 3)), (1, .int x1), (2, .int x2)] → W p l e (pr_rm h) s m args below meth c H locs 0 0 (MQ below (pr_Qi D pr_cl prc_L ad dA A res) args s 0 0 A) (F0 m 18 ls [])) : ∀ (σ : pr_St) (x1 : Int32) (x2 : Int32) (res : (Int32 × pr_St)), some res = prf_R_readSum_43 rc kk18 σ x1 x2 → ∀ (H : Heap) (locs : List Loc) (ls : Array Slot), va_P D pr_cl (pr_w prc_L ad dA σ) H → va_S A s.heap H locs → lv_has ls 4 [(0, .ref (ad 3)), (1, .int x1), (2, .int x2)] → W p l e (pr_rm h) s m args below meth c H locs 0 0 (MQ below (pr_Qi D pr_cl prc_L ad dA A res) args s 0 0 A) (F0 m 43 ls []) := by
  obtain ⟨hx, hb, hml, hown, hts, hr, hlocks, hK, hD, hX, hXs⟩ := id E
  intro σ x1 x2 res hf H locs ls hP hS hl
  unfold prf_R_readSum_43 at hf
  refine lv_aload_n hx hb prd_R_readSum_43 rfl (lv_at hl 0 rfl) ?_
  obtain ⟨r13, hr13, hf⟩ := pr_bi hf
  refine pr_callVr (rest := []) (r := r13) ⟨hx, hb, hml, hown, hts⟩ 3 (prc_R_now hD hX 1 (Nat.le_refl _) σ  r13 hr13) (prg_R_now hts prw_109 (by have := hh; omega)) hX hXs hK hP hS (by decide) rfl rfl rfl rfl hl.1 (Nat.le_of_ble_eq_true rfl) prd_R_readSum_44 (fun H locs hP hS => ?_)
  refine lv_istore_n (lv' := [(3, .int r13), (0, .ref (ad 3)), (1, .int x1), (2, .int x2)]) hx hb prd_R_readSum_47 rfl hl (by decide) rfl (fun ls hl => ?_)
  refine lv_aload_n hx hb prd_R_readSum_48 rfl (lv_at hl 1 rfl) ?_
  refine lv_dup hx hb prd_R_readSum_49 rfl ?_
  refine pr_geti (v := (σ.1 3 2)) hx hb hts prs_R hown hK hP 3 2 (by decide) rfl (hts _ prw_90) rfl rfl prd_R_readSum_50 ?_
  refine lv_iconst (v := 1) hx hb prd_R_readSum_53 (by decide) ?_
  refine lv_iadd hx hb prd_R_readSum_54 ?_
  refine pr_puti (ty := .int) hx hb hts prs_R prq_R prtt_R prtn_R hown hK hP (hD _) hS 3 2 (by decide) rfl (hts _ prw_90) rfl rfl (prtt_R 2 (by decide)) rfl rfl prd_R_readSum_55 (fun H locs hP hS => ?_)
  refine lv_aload_n hx hb prd_R_readSum_58 rfl (lv_at hl 1 rfl) ?_
  refine lv_iload_n hx hb prd_R_readSum_59 rfl (lv_at hl 2 rfl) ?_
  obtain ⟨r14, hr14, hf⟩ := pr_bi hf
  refine pr_callVi (rest := []) (res := r14) ⟨hx, hb, hml, hown, hts⟩ 3 (prc_R_readTerm hD hX hd hb0 (hd + 1) (Nat.le_refl _) Hrc0 (pr_sI σ 3 2 ((σ.1 3 2) + 1)) x1 r14 hr14) (prg_R_readTerm hts prw_147 (by have := hh; omega)) hX hXs hK hP hS (by decide) rfl rfl rfl rfl hl.1 (Nat.le_of_ble_eq_true rfl) prd_R_readSum_60 (fun H locs hP hS => ?_)
  refine lv_if_ne (tgt := 68) hx hb prd_R_readSum_63 (by decide) (fun c15 => ?_) (fun c15 => ?_)
  · have hf := pr_ie c15 hf
    refine lv_aload_n hx hb prd_R_readSum_68 rfl (lv_at hl 1 rfl) ?_
    refine pr_getr (t := 2) hx hb hts prs_R hown hK hP 3 1 (by decide) rfl (hts _ prw_111) rfl prd_R_readSum_69 ?_
    refine lv_iload_n hx hb prd_R_readSum_72 rfl (lv_at hl 0 rfl) ?_
    refine lv_iconst (v := (-1)) hx hb prd_R_readSum_73 (by decide) ?_
    obtain ⟨r16, hr16, hf⟩ := pr_bi hf
    refine pr_callVv (rest := []) (res := r16) ⟨hx, hb, hml, hown, hts⟩ 2 (prc_G_addOperation hD hX 0 (Nat.le_refl _) r14.2 r13 (-1) r16 hr16) (prg_G_addOperation hts prw_143 (by have := hh; omega)) hX hXs hK hP hS (by decide) rfl rfl rfl rfl hl.1 (Nat.le_of_ble_eq_true rfl) prd_R_readSum_74 (fun H locs hP hS => ?_)
    refine lv_iinc (v := (x2 + 1)) (lv' := [(2, .int (x2 + 1)), (3, .int r13), (0, .ref (ad 3)), (1, .int x1)]) hx hb prd_R_readSum_77 hl (k := 3) rfl rfl (by decide) rfl (fun ls hl => ?_)
    refine lv_goto (tgt := 18) hx hb prd_R_readSum_80 (by decide) ?_
    exact Hk18 r16 x1 (x2 + 1) _ hf _ _ _ hP hS (lv_sub hl [2, 3, 0] rfl)
  · have hf := pr_it c15 hf
    refine lv_iconst (v := 0) hx hb prd_R_readSum_66 (by decide) ?_
    exact pr_retz E (Or.inl rfl) hP hS (pr_so hf) prd_R_readSum_67
set_option maxHeartbeats 4000000 in
set_option maxRecDepth 100000 in
theorem prk_R_readSum_18 {l : Launch} {D : va_G} {ad : Nat → Nat} {dA : Nat → ClassId} {A : Nat → Prop} {t : Nat} {p : Program} {e : Env} {s : State} {m : MethodId} {args : Array Value} {below : List Frame} {meth : Method} {c : Code} (hd : Nat) (hb0 : 3 ≤ hd) {h : Nat} (hh : hd + 2 ≤ h) (E : pr_cx prn_R prb_R_readSum 4 (some .boolean) D pr_cl prc_L ad dA A (prX t A) p s m args meth c) {rc : pr_St → Int32 → Option (Int32 × pr_St)} (Hrc0 : ∀ (σ : pr_St) (x1 : Int32) (res : (Int32 × pr_St)), rc σ x1 = some res → Met l pry_R_readFactor (Cond.code pry_R_readFactor prb_R_readFactor 3 (some .boolean) :: pr_U) (pr_rm hd) (pr_Pc (prX t A) D pr_cl prc_L ad dA [.ref (ad 3), .int x1] σ) (pr_Qi D pr_cl prc_L ad dA A res) 0 0 A) : ∀ n : Nat, ∀ (σ : pr_St) (x1 : Int32) (x2 : Int32) (res : (Int32 × pr_St)), some res = prf_R_readSum_18 rc n σ x1 x2 → ∀ (H : Heap) (locs : List Loc) (ls : Array Slot), va_P D pr_cl (pr_w prc_L ad dA σ) H → va_S A s.heap H locs → lv_has ls 4 [(0, .ref (ad 3)), (1, .int x1), (2, .int x2)] → W p l e (pr_rm h) s m args below meth c H locs 0 0 (MQ below (pr_Qi D pr_cl prc_L ad dA A res) args s 0 0 A) (F0 m 18 ls []) := by
  obtain ⟨hx, hb, hml, hown, hts, hr, hlocks, hK, hD, hX, hXs⟩ := id E
  intro n
  induction n with
  | zero =>
    intro σ x1 x2 res hf
    rw [prf_R_readSum_18] at hf
    cases hf
  | succ n ih =>
    intro σ x1 x2 res hf H locs ls hP hS hl
    rw [prf_R_readSum_18] at hf
    refine lv_iload_n hx hb prd_R_readSum_18 rfl (lv_at hl 2 rfl) ?_
    refine lv_sipush (v := 8000) hx hb prd_R_readSum_19 (by decide) ?_
    refine lv_icmp_ge (tgt := 83) hx hb prd_R_readSum_22 (by decide) (fun c17 => ?_) (fun c17 => ?_)
    · have hf := pr_it c17 hf
      refine lv_iconst (v := 1) hx hb prd_R_readSum_83 (by decide) ?_
      exact pr_retz E (Or.inr rfl) hP hS (pr_so hf) prd_R_readSum_84
    · have hf := pr_ie c17 hf
      refine lv_aload_n hx hb prd_R_readSum_25 rfl (lv_at hl 0 rfl) ?_
      obtain ⟨r18, hr18, hf⟩ := pr_bi hf
      refine pr_callVr (rest := []) (r := r18) ⟨hx, hb, hml, hown, hts⟩ 3 (prc_R_now hD hX 1 (Nat.le_refl _) σ  r18 hr18) (prg_R_now hts prw_109 (by have := hh; omega)) hX hXs hK hP hS (by decide) rfl rfl rfl rfl hl.1 (Nat.le_of_ble_eq_true rfl) prd_R_readSum_26 (fun H locs hP hS => ?_)
      refine lv_bipush (v := 21) hx hb prd_R_readSum_29 (by decide) ?_
      refine lv_icmp_eq (tgt := 43) hx hb prd_R_readSum_31 (by decide) (fun c19 => ?_) (fun c19 => ?_)
      · have hf := pr_it c19 hf
        exact prk_R_readSum_43 hd hb0 hh E Hrc0 ih σ x1 x2 _ hf _ _ _ hP hS (lv_sub hl [0, 1, 2] rfl)
      · have hf := pr_ie c19 hf
        refine lv_aload_n hx hb prd_R_readSum_34 rfl (lv_at hl 0 rfl) ?_
        obtain ⟨r20, hr20, hf⟩ := pr_bi hf
        refine pr_callVr (rest := []) (r := r20) ⟨hx, hb, hml, hown, hts⟩ 3 (prc_R_now hD hX 1 (Nat.le_refl _) σ  r20 hr20) (prg_R_now hts prw_109 (by have := hh; omega)) hX hXs hK hP hS (by decide) rfl rfl rfl rfl hl.1 (Nat.le_of_ble_eq_true rfl) prd_R_readSum_35 (fun H locs hP hS => ?_)
        refine lv_bipush (v := 22) hx hb prd_R_readSum_38 (by decide) ?_
        refine lv_icmp_ne (tgt := 83) hx hb prd_R_readSum_40 (by decide) (fun c21 => ?_) (fun c21 => ?_)
        · have hf := pr_ie c21 hf
          refine lv_iconst (v := 1) hx hb prd_R_readSum_83 (by decide) ?_
          exact pr_retz E (Or.inr rfl) hP hS (pr_so hf) prd_R_readSum_84
        · have hf := pr_it c21 hf
          exact prk_R_readSum_43 hd hb0 hh E Hrc0 ih σ x1 x2 _ hf _ _ _ hP hS (lv_sub hl [0, 1, 2] rfl)
set_option maxHeartbeats 4000000 in
set_option maxRecDepth 100000 in
theorem prc_R_readSum {l : Launch} {D : va_G} {ad : Nat → Nat} {dA : Nat → ClassId} {A : Nat → Prop} {t : Nat} (hD : ∀ σ : pr_St, va_D A (pr_w prc_L ad dA σ)) (hX : pr_Xok A (prX t A)) (hd : Nat) (hb0 : 3 ≤ hd) (h : Nat) (hh : hd + 2 ≤ h) {rc : pr_St → Int32 → Option (Int32 × pr_St)} (Hrc0 : ∀ (σ : pr_St) (x1 : Int32) (res : (Int32 × pr_St)), rc σ x1 = some res → Met l pry_R_readFactor (Cond.code pry_R_readFactor prb_R_readFactor 3 (some .boolean) :: pr_U) (pr_rm hd) (pr_Pc (prX t A) D pr_cl prc_L ad dA [.ref (ad 3), .int x1] σ) (pr_Qi D pr_cl prc_L ad dA A res) 0 0 A) (σ : pr_St) (x1 : Int32) (res : (Int32 × pr_St)) (hf : prf_R_readSum rc σ x1 = some res) : Met l pry_R_readSum (Cond.code pry_R_readSum prb_R_readSum 4 (some .boolean) :: pr_U) (pr_rm h) (pr_Pc (prX t A) D pr_cl prc_L ad dA [.ref (ad 3), .int x1] σ) (pr_Qi D pr_cl prc_L ad dA A res) 0 0 A := by
  refine pr_entry (cc := prb_R_readSum) (maxL := 4) (ret := (some .boolean)) (by decide) (Nat.le_of_ble_eq_true rfl) hD hX ?_
  intro p e s m args below meth c E H locs hP hS ls hl
  have hl : lv_has ls 4 [(0, .ref (ad 3)), (1, .int x1)] := hl
  have hf := hf.symm
  unfold prf_R_readSum at hf
  obtain ⟨hx, hb, hml, hown, hts, hr, hlocks, hK, hD, hX, hXs⟩ := id E
  refine lv_iload_n hx hb prd_R_readSum_0 rfl (lv_at hl 1 rfl) ?_
  refine lv_bipush (v := 60) hx hb prd_R_readSum_1 (by decide) ?_
  refine lv_icmp_gt (tgt := 14) hx hb prd_R_readSum_3 (by decide) (fun c22 => ?_) (fun c22 => ?_)
  · have hf := pr_it c22 hf
    refine lv_iconst (v := 0) hx hb prd_R_readSum_14 (by decide) ?_
    exact pr_retz E (Or.inl rfl) hP hS (pr_so hf) prd_R_readSum_15
  · have hf := pr_ie c22 hf
    refine lv_aload_n hx hb prd_R_readSum_6 rfl (lv_at hl 0 rfl) ?_
    refine lv_iload_n hx hb prd_R_readSum_7 rfl (lv_at hl 1 rfl) ?_
    obtain ⟨r23, hr23, hf⟩ := pr_bi hf
    refine pr_callVi (rest := []) (res := r23) ⟨hx, hb, hml, hown, hts⟩ 3 (prc_R_readTerm hD hX hd hb0 (hd + 1) (Nat.le_refl _) Hrc0 σ x1 r23 hr23) (prg_R_readTerm hts prw_147 (by have := hh; omega)) hX hXs hK hP hS (by decide) rfl rfl rfl rfl hl.1 (Nat.le_of_ble_eq_true rfl) prd_R_readSum_8 (fun H locs hP hS => ?_)
    refine lv_if_ne (tgt := 16) hx hb prd_R_readSum_11 (by decide) (fun c24 => ?_) (fun c24 => ?_)
    · have hf := pr_ie c24 hf
      refine lv_iconst (v := 0) hx hb prd_R_readSum_16 (by decide) ?_
      refine lv_istore_n (lv' := [(2, .int 0), (0, .ref (ad 3)), (1, .int x1)]) hx hb prd_R_readSum_17 rfl hl (by decide) rfl (fun ls hl => ?_)
      exact prk_R_readSum_18 hd hb0 hh E Hrc0 pr_FU r23.2 x1 0 _ hf _ _ _ hP hS (lv_sub hl [1, 2, 0] rfl)
    · have hf := pr_it c24 hf
      refine lv_iconst (v := 0) hx hb prd_R_readSum_14 (by decide) ?_
      exact pr_retz E (Or.inl rfl) hP hS (pr_so hf) prd_R_readSum_15
-- R_readFactor
set_option maxHeartbeats 4000000 in
set_option maxRecDepth 100000 in
theorem prc_R_readFactor {l : Launch} {D : va_G} {ad : Nat → Nat} {dA : Nat → ClassId} {A : Nat → Prop} {t : Nat} (hD : ∀ σ : pr_St, va_D A (pr_w prc_L ad dA σ)) (hX : pr_Xok A (prX t A)) (hd : Nat) (hb0 : 3 ≤ hd) (h : Nat) (hh : hd + 3 ≤ h) {rc : pr_St → Int32 → Option (Int32 × pr_St)} (Hrc0 : ∀ (σ : pr_St) (x1 : Int32) (res : (Int32 × pr_St)), rc σ x1 = some res → Met l pry_R_readFactor (Cond.code pry_R_readFactor prb_R_readFactor 3 (some .boolean) :: pr_U) (pr_rm hd) (pr_Pc (prX t A) D pr_cl prc_L ad dA [.ref (ad 3), .int x1] σ) (pr_Qi D pr_cl prc_L ad dA A res) 0 0 A) (σ : pr_St) (x1 : Int32) (res : (Int32 × pr_St)) (hf : prf_R_readFactor rc σ x1 = some res) : Met l pry_R_readFactor (Cond.code pry_R_readFactor prb_R_readFactor 3 (some .boolean) :: pr_U) (pr_rm h) (pr_Pc (prX t A) D pr_cl prc_L ad dA [.ref (ad 3), .int x1] σ) (pr_Qi D pr_cl prc_L ad dA A res) 0 0 A := by
  refine pr_entry (cc := prb_R_readFactor) (maxL := 3) (ret := (some .boolean)) (by decide) (Nat.le_of_ble_eq_true rfl) hD hX ?_
  intro p e s m args below meth c E H locs hP hS ls hl
  have hl : lv_has ls 3 [(0, .ref (ad 3)), (1, .int x1)] := hl
  have hf := hf.symm
  unfold prf_R_readFactor at hf
  obtain ⟨hx, hb, hml, hown, hts, hr, hlocks, hK, hD, hX, hXs⟩ := id E
  refine lv_aload_n hx hb prd_R_readFactor_0 rfl (lv_at hl 0 rfl) ?_
  refine pr_geti (v := (σ.1 3 2)) hx hb hts prs_R hown hK hP 3 2 (by decide) rfl (hts _ prw_90) rfl rfl prd_R_readFactor_1 ?_
  refine lv_istore_n (lv' := [(2, .int (σ.1 3 2)), (0, .ref (ad 3)), (1, .int x1)]) hx hb prd_R_readFactor_4 rfl hl (by decide) rfl (fun ls hl => ?_)
  refine lv_aload_n hx hb prd_R_readFactor_5 rfl (lv_at hl 1 rfl) ?_
  obtain ⟨r38, hr38, hf⟩ := pr_bi hf
  refine pr_callVr (rest := []) (r := r38) ⟨hx, hb, hml, hown, hts⟩ 3 (prc_R_now hD hX 1 (Nat.le_refl _) σ  r38 hr38) (prg_R_now hts prw_109 (by have := hh; omega)) hX hXs hK hP hS (by decide) rfl rfl rfl rfl hl.1 (Nat.le_of_ble_eq_true rfl) prd_R_readFactor_6 (fun H locs hP hS => ?_)
  by_cases c39 : r38 = 2
  · have hf := pr_it c39 hf
    refine lv_lookup (tgt := 217) (off := 208) hx hb prd_R_readFactor_9 (by decide) (by rw [c39] <;> rfl) (by decide) ?_
    refine lv_aload_n hx hb prd_R_readFactor_217 rfl (lv_at hl 1 rfl) ?_
    refine lv_dup hx hb prd_R_readFactor_218 rfl ?_
    refine pr_geti (v := (σ.1 3 2)) hx hb hts prs_R hown hK hP 3 2 (by decide) rfl (hts _ prw_90) rfl rfl prd_R_readFactor_219 ?_
    refine lv_iconst (v := 1) hx hb prd_R_readFactor_222 (by decide) ?_
    refine lv_iadd hx hb prd_R_readFactor_223 ?_
    refine pr_puti (ty := .int) hx hb hts prs_R prq_R prtt_R prtn_R hown hK hP (hD _) hS 3 2 (by decide) rfl (hts _ prw_90) rfl rfl (prtt_R 2 (by decide)) rfl rfl prd_R_readFactor_224 (fun H locs hP hS => ?_)
    refine lv_aload_n hx hb prd_R_readFactor_227 rfl (lv_at hl 1 rfl) ?_
    refine lv_bipush (v := 16) hx hb prd_R_readFactor_228 (by decide) ?_
    obtain ⟨r40, hr40, hf⟩ := pr_bi hf
    refine pr_callVi (rest := []) (res := r40) ⟨hx, hb, hml, hown, hts⟩ 3 (prc_R_take hD hX 1 (Nat.le_refl _) (pr_sI σ 3 2 ((σ.1 3 2) + 1)) 16 r40 hr40) (prg_R_take hts prw_99 (by have := hh; omega)) hX hXs hK hP hS (by decide) rfl rfl rfl rfl hl.1 (Nat.le_of_ble_eq_true rfl) prd_R_readFactor_230 (fun H locs hP hS => ?_)
    refine lv_if_ne (tgt := 247) hx hb prd_R_readFactor_233 (by decide) (fun c41 => ?_) (fun c41 => ?_)
    · have hf := pr_ie c41 hf
      refine lv_aload_n hx hb prd_R_readFactor_247 rfl (lv_at hl 1 rfl) ?_
      refine pr_getr (t := 2) hx hb hts prs_R hown hK hP 3 1 (by decide) rfl (hts _ prw_111) rfl prd_R_readFactor_248 ?_
      refine lv_bipush (v := 36) hx hb prd_R_readFactor_251 (by decide) ?_
      refine lv_iload_n hx hb prd_R_readFactor_253 rfl (lv_at hl 0 rfl) ?_
      obtain ⟨r42, hr42, hf⟩ := pr_bi hf
      refine pr_callVv (rest := []) (res := r42) ⟨hx, hb, hml, hown, hts⟩ 2 (prc_G_addOperation hD hX 0 (Nat.le_refl _) r40.2 36 (σ.1 3 2) r42 hr42) (prg_G_addOperation hts prw_143 (by have := hh; omega)) hX hXs hK hP hS (by decide) rfl rfl rfl rfl hl.1 (Nat.le_of_ble_eq_true rfl) prd_R_readFactor_254 (fun H locs hP hS => ?_)
      refine lv_aload_n hx hb prd_R_readFactor_257 rfl (lv_at hl 1 rfl) ?_
      refine lv_iload_n hx hb prd_R_readFactor_258 rfl (lv_at hl 2 rfl) ?_
      refine lv_iconst (v := 1) hx hb prd_R_readFactor_259 (by decide) ?_
      refine lv_iadd hx hb prd_R_readFactor_260 ?_
      obtain ⟨r43, hr43, hf⟩ := pr_bi hf
      refine pr_callVi (rest := []) (res := r43) ⟨hx, hb, hml, hown, hts⟩ 3 (prc_R_readSum hD hX hd hb0 (hd + 2) (Nat.le_refl _) Hrc0 r42 (x1 + 1) r43 hr43) (prg_R_readSum hts prw_151 (by have := hh; omega)) hX hXs hK hP hS (by decide) rfl rfl rfl rfl hl.1 (Nat.le_of_ble_eq_true rfl) prd_R_readFactor_261 (fun H locs hP hS => ?_)
      refine lv_if_eq (tgt := 276) hx hb prd_R_readFactor_264 (by decide) (fun c44 => ?_) (fun c44 => ?_)
      · have hf := pr_it c44 hf
        refine lv_iconst (v := 0) hx hb prd_R_readFactor_276 (by decide) ?_
        exact pr_retz E (Or.inl rfl) hP hS (pr_so hf) prd_R_readFactor_277
      · have hf := pr_ie c44 hf
        refine lv_aload_n hx hb prd_R_readFactor_267 rfl (lv_at hl 1 rfl) ?_
        refine lv_bipush (v := 17) hx hb prd_R_readFactor_268 (by decide) ?_
        obtain ⟨r45, hr45, hf⟩ := pr_bi hf
        refine pr_callVi (rest := []) (res := r45) ⟨hx, hb, hml, hown, hts⟩ 3 (prc_R_take hD hX 1 (Nat.le_refl _) r43.2 17 r45 hr45) (prg_R_take hts prw_99 (by have := hh; omega)) hX hXs hK hP hS (by decide) rfl rfl rfl rfl hl.1 (Nat.le_of_ble_eq_true rfl) prd_R_readFactor_270 (fun H locs hP hS => ?_)
        refine lv_if_ne (tgt := 278) hx hb prd_R_readFactor_273 (by decide) (fun c46 => ?_) (fun c46 => ?_)
        · have hf := pr_ie c46 hf
          refine lv_aload_n hx hb prd_R_readFactor_278 rfl (lv_at hl 1 rfl) ?_
          refine pr_getr (t := 2) hx hb hts prs_R hown hK hP 3 1 (by decide) rfl (hts _ prw_111) rfl prd_R_readFactor_279 ?_
          refine lv_bipush (v := 38) hx hb prd_R_readFactor_282 (by decide) ?_
          refine lv_iconst (v := (-1)) hx hb prd_R_readFactor_284 (by decide) ?_
          obtain ⟨r47, hr47, hf⟩ := pr_bi hf
          refine pr_callVv (rest := []) (res := r47) ⟨hx, hb, hml, hown, hts⟩ 2 (prc_G_addOperation hD hX 0 (Nat.le_refl _) r45.2 38 (-1) r47 hr47) (prg_G_addOperation hts prw_143 (by have := hh; omega)) hX hXs hK hP hS (by decide) rfl rfl rfl rfl hl.1 (Nat.le_of_ble_eq_true rfl) prd_R_readFactor_285 (fun H locs hP hS => ?_)
          refine lv_iconst (v := 1) hx hb prd_R_readFactor_288 (by decide) ?_
          exact pr_retz E (Or.inr rfl) hP hS (pr_so hf) prd_R_readFactor_289
        · have hf := pr_it c46 hf
          refine lv_iconst (v := 0) hx hb prd_R_readFactor_276 (by decide) ?_
          exact pr_retz E (Or.inl rfl) hP hS (pr_so hf) prd_R_readFactor_277
    · have hf := pr_it c41 hf
      refine lv_aload_n hx hb prd_R_readFactor_236 rfl (lv_at hl 1 rfl) ?_
      refine pr_getr (t := 2) hx hb hts prs_R hown hK hP 3 1 (by decide) rfl (hts _ prw_111) rfl prd_R_readFactor_237 ?_
      refine lv_iconst (v := 2) hx hb prd_R_readFactor_240 (by decide) ?_
      refine lv_iload_n hx hb prd_R_readFactor_241 rfl (lv_at hl 0 rfl) ?_
      obtain ⟨r48, hr48, hf⟩ := pr_bi hf
      refine pr_callVv (rest := []) (res := r48) ⟨hx, hb, hml, hown, hts⟩ 2 (prc_G_addOperation hD hX 0 (Nat.le_refl _) r40.2 2 (σ.1 3 2) r48 hr48) (prg_G_addOperation hts prw_143 (by have := hh; omega)) hX hXs hK hP hS (by decide) rfl rfl rfl rfl hl.1 (Nat.le_of_ble_eq_true rfl) prd_R_readFactor_242 (fun H locs hP hS => ?_)
      refine lv_iconst (v := 1) hx hb prd_R_readFactor_245 (by decide) ?_
      exact pr_retz E (Or.inr rfl) hP hS (pr_so hf) prd_R_readFactor_246
  · have hf := pr_ie c39 hf
    by_cases c49 : r38 = 3
    · have hf := pr_it c49 hf
      refine lv_lookup (tgt := 60) (off := 51) hx hb prd_R_readFactor_9 (by decide) (by rw [c49] <;> rfl) (by decide) ?_
      refine lv_aload_n hx hb prd_R_readFactor_60 rfl (lv_at hl 1 rfl) ?_
      refine pr_getr (t := 2) hx hb hts prs_R hown hK hP 3 1 (by decide) rfl (hts _ prw_111) rfl prd_R_readFactor_61 ?_
      refine lv_iconst (v := 3) hx hb prd_R_readFactor_64 (by decide) ?_
      refine lv_iload_n hx hb prd_R_readFactor_65 rfl (lv_at hl 0 rfl) ?_
      obtain ⟨r50, hr50, hf⟩ := pr_bi hf
      refine pr_callVv (rest := []) (res := r50) ⟨hx, hb, hml, hown, hts⟩ 2 (prc_G_addOperation hD hX 0 (Nat.le_refl _) σ 3 (σ.1 3 2) r50 hr50) (prg_G_addOperation hts prw_143 (by have := hh; omega)) hX hXs hK hP hS (by decide) rfl rfl rfl rfl hl.1 (Nat.le_of_ble_eq_true rfl) prd_R_readFactor_66 (fun H locs hP hS => ?_)
      refine lv_aload_n hx hb prd_R_readFactor_69 rfl (lv_at hl 1 rfl) ?_
      refine lv_iconst (v := 3) hx hb prd_R_readFactor_70 (by decide) ?_
      obtain ⟨r51, hr51, hf⟩ := pr_bi hf
      refine pr_callVi (rest := []) (res := r51) ⟨hx, hb, hml, hown, hts⟩ 3 (prc_R_take hD hX 1 (Nat.le_refl _) r50 3 r51 hr51) (prg_R_take hts prw_99 (by have := hh; omega)) hX hXs hK hP hS (by decide) rfl rfl rfl rfl hl.1 (Nat.le_of_ble_eq_true rfl) prd_R_readFactor_71 (fun H locs hP hS => ?_)
      obtain ⟨hz52, hf⟩ := pr_z_in hf
      exact pr_retz E hz52 hP hS (pr_so hf) prd_R_readFactor_74
    · have hf := pr_ie c49 hf
      by_cases c53 : r38 = 11
      · have hf := pr_it c53 hf
        refine lv_lookup (tgt := 75) (off := 66) hx hb prd_R_readFactor_9 (by decide) (by rw [c53] <;> rfl) (by decide) ?_
        refine lv_aload_n hx hb prd_R_readFactor_75 rfl (lv_at hl 1 rfl) ?_
        refine pr_getr (t := 2) hx hb hts prs_R hown hK hP 3 1 (by decide) rfl (hts _ prw_111) rfl prd_R_readFactor_76 ?_
        refine lv_bipush (v := 11) hx hb prd_R_readFactor_79 (by decide) ?_
        refine lv_iload_n hx hb prd_R_readFactor_81 rfl (lv_at hl 0 rfl) ?_
        obtain ⟨r54, hr54, hf⟩ := pr_bi hf
        refine pr_callVv (rest := []) (res := r54) ⟨hx, hb, hml, hown, hts⟩ 2 (prc_G_addOperation hD hX 0 (Nat.le_refl _) σ 11 (σ.1 3 2) r54 hr54) (prg_G_addOperation hts prw_143 (by have := hh; omega)) hX hXs hK hP hS (by decide) rfl rfl rfl rfl hl.1 (Nat.le_of_ble_eq_true rfl) prd_R_readFactor_82 (fun H locs hP hS => ?_)
        refine lv_aload_n hx hb prd_R_readFactor_85 rfl (lv_at hl 1 rfl) ?_
        refine lv_dup hx hb prd_R_readFactor_86 rfl ?_
        refine pr_geti (v := (r54.1 3 2)) hx hb hts prs_R hown hK hP 3 2 (by decide) rfl (hts _ prw_90) rfl rfl prd_R_readFactor_87 ?_
        refine lv_iconst (v := 1) hx hb prd_R_readFactor_90 (by decide) ?_
        refine lv_iadd hx hb prd_R_readFactor_91 ?_
        refine pr_puti (ty := .int) hx hb hts prs_R prq_R prtt_R prtn_R hown hK hP (hD _) hS 3 2 (by decide) rfl (hts _ prw_90) rfl rfl (prtt_R 2 (by decide)) rfl rfl prd_R_readFactor_92 (fun H locs hP hS => ?_)
        refine lv_aload_n hx hb prd_R_readFactor_95 rfl (lv_at hl 1 rfl) ?_
        refine lv_bipush (v := 12) hx hb prd_R_readFactor_96 (by decide) ?_
        obtain ⟨r55, hr55, hf⟩ := pr_bi hf
        refine pr_callVi (rest := []) (res := r55) ⟨hx, hb, hml, hown, hts⟩ 3 (prc_R_take hD hX 1 (Nat.le_refl _) (pr_sI r54 3 2 ((r54.1 3 2) + 1)) 12 r55 hr55) (prg_R_take hts prw_99 (by have := hh; omega)) hX hXs hK hP hS (by decide) rfl rfl rfl rfl hl.1 (Nat.le_of_ble_eq_true rfl) prd_R_readFactor_98 (fun H locs hP hS => ?_)
        refine lv_if_eq (tgt := 136) hx hb prd_R_readFactor_101 (by decide) (fun c56 => ?_) (fun c56 => ?_)
        · have hf := pr_it c56 hf
          refine lv_iconst (v := 1) hx hb prd_R_readFactor_136 (by decide) ?_
          refine lv_goto (tgt := 141) hx hb prd_R_readFactor_137 (by decide) ?_
          exact pr_retz E (Or.inr rfl) hP hS (pr_so hf) prd_R_readFactor_141
        · have hf := pr_ie c56 hf
          refine lv_aload_n hx hb prd_R_readFactor_104 rfl (lv_at hl 1 rfl) ?_
          obtain ⟨r57, hr57, hf⟩ := pr_bi hf
          refine pr_callVi (rest := []) (res := r57) ⟨hx, hb, hml, hown, hts⟩ 3 (prc_R_readLimit hD hX 2 (Nat.le_refl _) r55.2  r57 hr57) (prg_R_readLimit hts prw_152 (by have := hh; omega)) hX hXs hK hP hS (by decide) rfl rfl rfl rfl hl.1 (Nat.le_of_ble_eq_true rfl) prd_R_readFactor_105 (fun H locs hP hS => ?_)
          refine lv_if_eq (tgt := 140) hx hb prd_R_readFactor_108 (by decide) (fun c58 => ?_) (fun c58 => ?_)
          · have hf := pr_it c58 hf
            refine lv_iconst (v := 0) hx hb prd_R_readFactor_140 (by decide) ?_
            exact pr_retz E (Or.inl rfl) hP hS (pr_so hf) prd_R_readFactor_141
          · have hf := pr_ie c58 hf
            refine lv_aload_n hx hb prd_R_readFactor_111 rfl (lv_at hl 1 rfl) ?_
            refine lv_bipush (v := 18) hx hb prd_R_readFactor_112 (by decide) ?_
            obtain ⟨r59, hr59, hf⟩ := pr_bi hf
            refine pr_callVi (rest := []) (res := r59) ⟨hx, hb, hml, hown, hts⟩ 3 (prc_R_take hD hX 1 (Nat.le_refl _) r57.2 18 r59 hr59) (prg_R_take hts prw_99 (by have := hh; omega)) hX hXs hK hP hS (by decide) rfl rfl rfl rfl hl.1 (Nat.le_of_ble_eq_true rfl) prd_R_readFactor_114 (fun H locs hP hS => ?_)
            refine lv_if_eq (tgt := 140) hx hb prd_R_readFactor_117 (by decide) (fun c60 => ?_) (fun c60 => ?_)
            · have hf := pr_it c60 hf
              refine lv_iconst (v := 0) hx hb prd_R_readFactor_140 (by decide) ?_
              exact pr_retz E (Or.inl rfl) hP hS (pr_so hf) prd_R_readFactor_141
            · have hf := pr_ie c60 hf
              refine lv_aload_n hx hb prd_R_readFactor_120 rfl (lv_at hl 1 rfl) ?_
              obtain ⟨r61, hr61, hf⟩ := pr_bi hf
              refine pr_callVi (rest := []) (res := r61) ⟨hx, hb, hml, hown, hts⟩ 3 (prc_R_readLimit hD hX 2 (Nat.le_refl _) r59.2  r61 hr61) (prg_R_readLimit hts prw_152 (by have := hh; omega)) hX hXs hK hP hS (by decide) rfl rfl rfl rfl hl.1 (Nat.le_of_ble_eq_true rfl) prd_R_readFactor_121 (fun H locs hP hS => ?_)
              refine lv_if_eq (tgt := 140) hx hb prd_R_readFactor_124 (by decide) (fun c62 => ?_) (fun c62 => ?_)
              · have hf := pr_it c62 hf
                refine lv_iconst (v := 0) hx hb prd_R_readFactor_140 (by decide) ?_
                exact pr_retz E (Or.inl rfl) hP hS (pr_so hf) prd_R_readFactor_141
              · have hf := pr_ie c62 hf
                refine lv_aload_n hx hb prd_R_readFactor_127 rfl (lv_at hl 1 rfl) ?_
                refine lv_bipush (v := 13) hx hb prd_R_readFactor_128 (by decide) ?_
                obtain ⟨r63, hr63, hf⟩ := pr_bi hf
                refine pr_callVi (rest := []) (res := r63) ⟨hx, hb, hml, hown, hts⟩ 3 (prc_R_take hD hX 1 (Nat.le_refl _) r61.2 13 r63 hr63) (prg_R_take hts prw_99 (by have := hh; omega)) hX hXs hK hP hS (by decide) rfl rfl rfl rfl hl.1 (Nat.le_of_ble_eq_true rfl) prd_R_readFactor_130 (fun H locs hP hS => ?_)
                refine lv_if_eq (tgt := 140) hx hb prd_R_readFactor_133 (by decide) (fun c64 => ?_) (fun c64 => ?_)
                · have hf := pr_it c64 hf
                  refine lv_iconst (v := 0) hx hb prd_R_readFactor_140 (by decide) ?_
                  exact pr_retz E (Or.inl rfl) hP hS (pr_so hf) prd_R_readFactor_141
                · have hf := pr_ie c64 hf
                  refine lv_iconst (v := 1) hx hb prd_R_readFactor_136 (by decide) ?_
                  refine lv_goto (tgt := 141) hx hb prd_R_readFactor_137 (by decide) ?_
                  exact pr_retz E (Or.inr rfl) hP hS (pr_so hf) prd_R_readFactor_141
      · have hf := pr_ie c53 hf
        by_cases c65 : r38 = 12
        · have hf := pr_it c65 hf
          refine lv_lookup (tgt := 142) (off := 133) hx hb prd_R_readFactor_9 (by decide) (by rw [c65] <;> rfl) (by decide) ?_
          refine lv_aload_n hx hb prd_R_readFactor_142 rfl (lv_at hl 1 rfl) ?_
          refine lv_dup hx hb prd_R_readFactor_143 rfl ?_
          refine pr_geti (v := (σ.1 3 2)) hx hb hts prs_R hown hK hP 3 2 (by decide) rfl (hts _ prw_90) rfl rfl prd_R_readFactor_144 ?_
          refine lv_iconst (v := 1) hx hb prd_R_readFactor_147 (by decide) ?_
          refine lv_iadd hx hb prd_R_readFactor_148 ?_
          refine pr_puti (ty := .int) hx hb hts prs_R prq_R prtt_R prtn_R hown hK hP (hD _) hS 3 2 (by decide) rfl (hts _ prw_90) rfl rfl (prtt_R 2 (by decide)) rfl rfl prd_R_readFactor_149 (fun H locs hP hS => ?_)
          refine lv_aload_n hx hb prd_R_readFactor_152 rfl (lv_at hl 1 rfl) ?_
          refine lv_iload_n hx hb prd_R_readFactor_153 rfl (lv_at hl 2 rfl) ?_
          refine lv_iconst (v := 1) hx hb prd_R_readFactor_154 (by decide) ?_
          refine lv_iadd hx hb prd_R_readFactor_155 ?_
          obtain ⟨r66, hr66, hf⟩ := pr_bi hf
          refine pr_callVi (rest := []) (res := r66) ⟨hx, hb, hml, hown, hts⟩ 3 (prc_R_readSum hD hX hd hb0 (hd + 2) (Nat.le_refl _) Hrc0 (pr_sI σ 3 2 ((σ.1 3 2) + 1)) (x1 + 1) r66 hr66) (prg_R_readSum hts prw_151 (by have := hh; omega)) hX hXs hK hP hS (by decide) rfl rfl rfl rfl hl.1 (Nat.le_of_ble_eq_true rfl) prd_R_readFactor_156 (fun H locs hP hS => ?_)
          refine lv_if_eq (tgt := 175) hx hb prd_R_readFactor_159 (by decide) (fun c67 => ?_) (fun c67 => ?_)
          · have hf := pr_it c67 hf
            refine lv_iconst (v := 0) hx hb prd_R_readFactor_175 (by decide) ?_
            exact pr_retz E (Or.inl rfl) hP hS (pr_so hf) prd_R_readFactor_176
          · have hf := pr_ie c67 hf
            refine lv_aload_n hx hb prd_R_readFactor_162 rfl (lv_at hl 1 rfl) ?_
            refine lv_bipush (v := 13) hx hb prd_R_readFactor_163 (by decide) ?_
            obtain ⟨r68, hr68, hf⟩ := pr_bi hf
            refine pr_callVi (rest := []) (res := r68) ⟨hx, hb, hml, hown, hts⟩ 3 (prc_R_take hD hX 1 (Nat.le_refl _) r66.2 13 r68 hr68) (prg_R_take hts prw_99 (by have := hh; omega)) hX hXs hK hP hS (by decide) rfl rfl rfl rfl hl.1 (Nat.le_of_ble_eq_true rfl) prd_R_readFactor_165 (fun H locs hP hS => ?_)
            refine lv_if_eq (tgt := 175) hx hb prd_R_readFactor_168 (by decide) (fun c69 => ?_) (fun c69 => ?_)
            · have hf := pr_it c69 hf
              refine lv_iconst (v := 0) hx hb prd_R_readFactor_175 (by decide) ?_
              exact pr_retz E (Or.inl rfl) hP hS (pr_so hf) prd_R_readFactor_176
            · have hf := pr_ie c69 hf
              refine lv_iconst (v := 1) hx hb prd_R_readFactor_171 (by decide) ?_
              refine lv_goto (tgt := 176) hx hb prd_R_readFactor_172 (by decide) ?_
              exact pr_retz E (Or.inr rfl) hP hS (pr_so hf) prd_R_readFactor_176
        · have hf := pr_ie c65 hf
          by_cases c70 : r38 = 22
          · have hf := pr_it c70 hf
            refine lv_lookup (tgt := 177) (off := 168) hx hb prd_R_readFactor_9 (by decide) (by rw [c70] <;> rfl) (by decide) ?_
            refine lv_aload_n hx hb prd_R_readFactor_177 rfl (lv_at hl 1 rfl) ?_
            refine lv_dup hx hb prd_R_readFactor_178 rfl ?_
            refine pr_geti (v := (σ.1 3 2)) hx hb hts prs_R hown hK hP 3 2 (by decide) rfl (hts _ prw_90) rfl rfl prd_R_readFactor_179 ?_
            refine lv_iconst (v := 1) hx hb prd_R_readFactor_182 (by decide) ?_
            refine lv_iadd hx hb prd_R_readFactor_183 ?_
            refine pr_puti (ty := .int) hx hb hts prs_R prq_R prtt_R prtn_R hown hK hP (hD _) hS 3 2 (by decide) rfl (hts _ prw_90) rfl rfl (prtt_R 2 (by decide)) rfl rfl prd_R_readFactor_184 (fun H locs hP hS => ?_)
            refine lv_iload_n hx hb prd_R_readFactor_187 rfl (lv_at hl 2 rfl) ?_
            refine lv_bipush (v := 60) hx hb prd_R_readFactor_188 (by decide) ?_
            refine lv_icmp_ge (tgt := 203) hx hb prd_R_readFactor_190 (by decide) (fun c71 => ?_) (fun c71 => ?_)
            · have hf := pr_it c71 hf
              refine lv_iconst (v := 0) hx hb prd_R_readFactor_203 (by decide) ?_
              exact pr_retz E (Or.inl rfl) hP hS (pr_so hf) prd_R_readFactor_204
            · have hf := pr_ie c71 hf
              refine lv_aload_n hx hb prd_R_readFactor_193 rfl (lv_at hl 1 rfl) ?_
              refine lv_iload_n hx hb prd_R_readFactor_194 rfl (lv_at hl 2 rfl) ?_
              refine lv_iconst (v := 1) hx hb prd_R_readFactor_195 (by decide) ?_
              refine lv_iadd hx hb prd_R_readFactor_196 ?_
              obtain ⟨r72, hr72, hf⟩ := pr_bi hf
              refine pr_callVi (rest := []) (res := r72) ⟨hx, hb, hml, hown, hts⟩ 3 (Hrc0 (pr_sI σ 3 2 ((σ.1 3 2) + 1)) (x1 + 1) r72 hr72) (prg_R_readFactor hts prw_142 (by have := hh; omega)) hX hXs hK hP hS (by decide) rfl rfl rfl rfl hl.1 (Nat.le_of_ble_eq_true rfl) prd_R_readFactor_197 (fun H locs hP hS => ?_)
              refine lv_if_ne (tgt := 205) hx hb prd_R_readFactor_200 (by decide) (fun c73 => ?_) (fun c73 => ?_)
              · have hf := pr_ie c73 hf
                refine lv_aload_n hx hb prd_R_readFactor_205 rfl (lv_at hl 1 rfl) ?_
                refine pr_getr (t := 2) hx hb hts prs_R hown hK hP 3 1 (by decide) rfl (hts _ prw_111) rfl prd_R_readFactor_206 ?_
                refine lv_bipush (v := 35) hx hb prd_R_readFactor_209 (by decide) ?_
                refine lv_iconst (v := (-1)) hx hb prd_R_readFactor_211 (by decide) ?_
                obtain ⟨r74, hr74, hf⟩ := pr_bi hf
                refine pr_callVv (rest := []) (res := r74) ⟨hx, hb, hml, hown, hts⟩ 2 (prc_G_addOperation hD hX 0 (Nat.le_refl _) r72.2 35 (-1) r74 hr74) (prg_G_addOperation hts prw_143 (by have := hh; omega)) hX hXs hK hP hS (by decide) rfl rfl rfl rfl hl.1 (Nat.le_of_ble_eq_true rfl) prd_R_readFactor_212 (fun H locs hP hS => ?_)
                refine lv_iconst (v := 1) hx hb prd_R_readFactor_215 (by decide) ?_
                exact pr_retz E (Or.inr rfl) hP hS (pr_so hf) prd_R_readFactor_216
              · have hf := pr_it c73 hf
                refine lv_iconst (v := 0) hx hb prd_R_readFactor_203 (by decide) ?_
                exact pr_retz E (Or.inl rfl) hP hS (pr_so hf) prd_R_readFactor_204
          · have hf := pr_ie c70 hf
            refine lv_lookup (tgt := 290) (off := 281) hx hb prd_R_readFactor_9 (by decide) (by show Op.lookupswitch.offset [(2, 208), (3, 51), (11, 66), (12, 133), (22, 168)] 281 _ = _; rw [lv_osw c39 (by decide), lv_osw c49 (by decide), lv_osw c53 (by decide), lv_osw c65 (by decide), lv_osw c70 (by decide)] <;> rfl) (by decide) ?_
            refine lv_iconst (v := 0) hx hb prd_R_readFactor_290 (by decide) ?_
            exact pr_retz E (Or.inl rfl) hP hS (pr_so hf) prd_R_readFactor_291
-- prF_R_readFactor
set_option maxHeartbeats 4000000 in
theorem prF_R_readFactor_ok {l : Launch} {D : va_G} {ad : Nat → Nat} {dA : Nat → ClassId} {A : Nat → Prop} {t : Nat} (hD : ∀ σ : pr_St, va_D A (pr_w prc_L ad dA σ)) (hX : pr_Xok A (prX t A)) : ∀ n : Nat, (∀ (σ : pr_St) (x1 : Int32) (res : (Int32 × pr_St)), prF_R_readFactor n σ x1 = some res → Met l pry_R_readFactor (Cond.code pry_R_readFactor prb_R_readFactor 3 (some .boolean) :: pr_U) (pr_rm (3 + 3 * n)) (pr_Pc (prX t A) D pr_cl prc_L ad dA [.ref (ad 3), .int x1] σ) (pr_Qi D pr_cl prc_L ad dA A res) 0 0 A) := by
  intro n
  induction n with
  | zero => exact (fun σ x1 res hf => by cases hf)
  | succ n ih =>
    have i0 := ih
    exact fun σ x1 res hf => prc_R_readFactor hD hX (3 + 3 * n) (by omega) (3 + 3 * (n + 1)) (by omega) i0 σ x1 res hf
theorem prct_R_readFactor {l : Launch} {D : va_G} {ad : Nat → Nat} {dA : Nat → ClassId} {A : Nat → Prop} {t : Nat} (hD : ∀ σ : pr_St, va_D A (pr_w prc_L ad dA σ)) (hX : pr_Xok A (prX t A)) (σ : pr_St) (x1 : Int32) (res : (Int32 × pr_St)) (hf : prf_R_readFactor (prF_R_readFactor 70) σ x1 = some res) : Met l pry_R_readFactor (Cond.code pry_R_readFactor prb_R_readFactor 3 (some .boolean) :: pr_U) (pr_rm 216) (pr_Pc (prX t A) D pr_cl prc_L ad dA [.ref (ad 3), .int x1] σ) (pr_Qi D pr_cl prc_L ad dA A res) 0 0 A :=
  prc_R_readFactor hD hX (3 + 3 * 70) (by decide) 216 (by decide) (prF_R_readFactor_ok hD hX 70) σ x1 res hf
theorem prct_R_readTerm {l : Launch} {D : va_G} {ad : Nat → Nat} {dA : Nat → ClassId} {A : Nat → Prop} {t : Nat} (hD : ∀ σ : pr_St, va_D A (pr_w prc_L ad dA σ)) (hX : pr_Xok A (prX t A)) (σ : pr_St) (x1 : Int32) (res : (Int32 × pr_St)) (hf : prf_R_readTerm (prF_R_readFactor 70) σ x1 = some res) : Met l pry_R_readTerm (Cond.code pry_R_readTerm prb_R_readTerm 4 (some .boolean) :: pr_U) (pr_rm 214) (pr_Pc (prX t A) D pr_cl prc_L ad dA [.ref (ad 3), .int x1] σ) (pr_Qi D pr_cl prc_L ad dA A res) 0 0 A :=
  prc_R_readTerm hD hX (3 + 3 * 70) (by decide) 214 (by decide) (prF_R_readFactor_ok hD hX 70) σ x1 res hf
theorem prct_R_readSum {l : Launch} {D : va_G} {ad : Nat → Nat} {dA : Nat → ClassId} {A : Nat → Prop} {t : Nat} (hD : ∀ σ : pr_St, va_D A (pr_w prc_L ad dA σ)) (hX : pr_Xok A (prX t A)) (σ : pr_St) (x1 : Int32) (res : (Int32 × pr_St)) (hf : prf_R_readSum (prF_R_readFactor 70) σ x1 = some res) : Met l pry_R_readSum (Cond.code pry_R_readSum prb_R_readSum 4 (some .boolean) :: pr_U) (pr_rm 215) (pr_Pc (prX t A) D pr_cl prc_L ad dA [.ref (ad 3), .int x1] σ) (pr_Qi D pr_cl prc_L ad dA A res) 0 0 A :=
  prc_R_readSum hD hX (3 + 3 * 70) (by decide) 215 (by decide) (prF_R_readFactor_ok hD hX 70) σ x1 res hf
-- R_readVar
set_option maxHeartbeats 4000000 in
set_option maxRecDepth 100000 in
theorem prc_R_readVar {l : Launch} {D : va_G} {ad : Nat → Nat} {dA : Nat → ClassId} {A : Nat → Prop} {t : Nat} (hD : ∀ σ : pr_St, va_D A (pr_w prc_L ad dA σ)) (hX : pr_Xok A (prX t A)) (h : Nat) (hh : 216 ≤ h) (σ : pr_St) (x1 : Int32) (res : (Int32 × pr_St)) (hf : prf_R_readVar σ x1 = some res) : Met l pry_R_readVar (Cond.code pry_R_readVar prb_R_readVar 2 (some .boolean) :: pr_U) (pr_rm h) (pr_Pc (prX t A) D pr_cl prc_L ad dA [.ref (ad 3), .int x1] σ) (pr_Qi D pr_cl prc_L ad dA A res) 0 0 A := by
  refine pr_entry (cc := prb_R_readVar) (maxL := 2) (ret := (some .boolean)) (by decide) (Nat.le_of_ble_eq_true rfl) hD hX ?_
  intro p e s m args below meth c E H locs hP hS ls hl
  have hl : lv_has ls 2 [(0, .ref (ad 3)), (1, .int x1)] := hl
  have hf := hf.symm
  unfold prf_R_readVar at hf
  obtain ⟨hx, hb, hml, hown, hts, hr, hlocks, hK, hD, hX, hXs⟩ := id E
  refine lv_aload_n hx hb prd_R_readVar_0 rfl (lv_at hl 0 rfl) ?_
  refine lv_iconst (v := 5) hx hb prd_R_readVar_1 (by decide) ?_
  obtain ⟨r15, hr15, hf⟩ := pr_bi hf
  refine pr_callVi (rest := []) (res := r15) ⟨hx, hb, hml, hown, hts⟩ 3 (prc_R_take hD hX 1 (Nat.le_refl _) σ 5 r15 hr15) (prg_R_take hts prw_99 (by have := hh; omega)) hX hXs hK hP hS (by decide) rfl rfl rfl rfl hl.1 (Nat.le_of_ble_eq_true rfl) prd_R_readVar_2 (fun H locs hP hS => ?_)
  refine lv_if_eq (tgt := 16) hx hb prd_R_readVar_5 (by decide) (fun c16 => ?_) (fun c16 => ?_)
  · have hf := pr_it c16 hf
    refine lv_iconst (v := 0) hx hb prd_R_readVar_16 (by decide) ?_
    exact pr_retz E (Or.inl rfl) hP hS (pr_so hf) prd_R_readVar_17
  · have hf := pr_ie c16 hf
    refine lv_aload_n hx hb prd_R_readVar_8 rfl (lv_at hl 0 rfl) ?_
    refine lv_iconst (v := 2) hx hb prd_R_readVar_9 (by decide) ?_
    obtain ⟨r17, hr17, hf⟩ := pr_bi hf
    refine pr_callVi (rest := []) (res := r17) ⟨hx, hb, hml, hown, hts⟩ 3 (prc_R_take hD hX 1 (Nat.le_refl _) r15.2 2 r17 hr17) (prg_R_take hts prw_99 (by have := hh; omega)) hX hXs hK hP hS (by decide) rfl rfl rfl rfl hl.1 (Nat.le_of_ble_eq_true rfl) prd_R_readVar_10 (fun H locs hP hS => ?_)
    refine lv_if_ne (tgt := 18) hx hb prd_R_readVar_13 (by decide) (fun c18 => ?_) (fun c18 => ?_)
    · have hf := pr_ie c18 hf
      refine lv_aload_n hx hb prd_R_readVar_18 rfl (lv_at hl 0 rfl) ?_
      refine lv_bipush (v := 16) hx hb prd_R_readVar_19 (by decide) ?_
      obtain ⟨r19, hr19, hf⟩ := pr_bi hf
      refine pr_callVi (rest := []) (res := r19) ⟨hx, hb, hml, hown, hts⟩ 3 (prc_R_take hD hX 1 (Nat.le_refl _) r17.2 16 r19 hr19) (prg_R_take hts prw_99 (by have := hh; omega)) hX hXs hK hP hS (by decide) rfl rfl rfl rfl hl.1 (Nat.le_of_ble_eq_true rfl) prd_R_readVar_21 (fun H locs hP hS => ?_)
      refine lv_if_eq (tgt := 50) hx hb prd_R_readVar_24 (by decide) (fun c20 => ?_) (fun c20 => ?_)
      · have hf := pr_it c20 hf
        refine lv_aload_n hx hb prd_R_readVar_50 rfl (lv_at hl 0 rfl) ?_
        refine lv_bipush (v := 20) hx hb prd_R_readVar_51 (by decide) ?_
        obtain ⟨r21, hr21, hf⟩ := pr_bi hf
        refine pr_callVi (rest := []) (res := r21) ⟨hx, hb, hml, hown, hts⟩ 3 (prc_R_take hD hX 1 (Nat.le_refl _) r19.2 20 r21 hr21) (prg_R_take hts prw_99 (by have := hh; omega)) hX hXs hK hP hS (by decide) rfl rfl rfl rfl hl.1 (Nat.le_of_ble_eq_true rfl) prd_R_readVar_53 (fun H locs hP hS => ?_)
        refine lv_if_eq (tgt := 69) hx hb prd_R_readVar_56 (by decide) (fun c22 => ?_) (fun c22 => ?_)
        · have hf := pr_it c22 hf
          refine lv_iconst (v := 1) hx hb prd_R_readVar_69 (by decide) ?_
          refine lv_goto (tgt := 74) hx hb prd_R_readVar_70 (by decide) ?_
          exact pr_retz E (Or.inr rfl) hP hS (pr_so hf) prd_R_readVar_74
        · have hf := pr_ie c22 hf
          refine lv_aload_n hx hb prd_R_readVar_59 rfl (lv_at hl 0 rfl) ?_
          refine lv_iload_n hx hb prd_R_readVar_60 rfl (lv_at hl 1 rfl) ?_
          refine lv_iconst (v := 1) hx hb prd_R_readVar_61 (by decide) ?_
          refine lv_iadd hx hb prd_R_readVar_62 ?_
          obtain ⟨r23, hr23, hf⟩ := pr_bi hf
          refine pr_callVi (rest := []) (res := r23) ⟨hx, hb, hml, hown, hts⟩ 3 (prct_R_readSum hD hX r21.2 (x1 + 1) r23 hr23) (prg_R_readSum hts prw_151 (by have := hh; omega)) hX hXs hK hP hS (by decide) rfl rfl rfl rfl hl.1 (Nat.le_of_ble_eq_true rfl) prd_R_readVar_63 (fun H locs hP hS => ?_)
          refine lv_if_eq (tgt := 73) hx hb prd_R_readVar_66 (by decide) (fun c24 => ?_) (fun c24 => ?_)
          · have hf := pr_it c24 hf
            refine lv_iconst (v := 0) hx hb prd_R_readVar_73 (by decide) ?_
            exact pr_retz E (Or.inl rfl) hP hS (pr_so hf) prd_R_readVar_74
          · have hf := pr_ie c24 hf
            refine lv_iconst (v := 1) hx hb prd_R_readVar_69 (by decide) ?_
            refine lv_goto (tgt := 74) hx hb prd_R_readVar_70 (by decide) ?_
            exact pr_retz E (Or.inr rfl) hP hS (pr_so hf) prd_R_readVar_74
      · have hf := pr_ie c20 hf
        refine lv_aload_n hx hb prd_R_readVar_27 rfl (lv_at hl 0 rfl) ?_
        refine lv_iconst (v := 3) hx hb prd_R_readVar_28 (by decide) ?_
        obtain ⟨r25, hr25, hf⟩ := pr_bi hf
        refine pr_callVi (rest := []) (res := r25) ⟨hx, hb, hml, hown, hts⟩ 3 (prc_R_take hD hX 1 (Nat.le_refl _) r19.2 3 r25 hr25) (prg_R_take hts prw_99 (by have := hh; omega)) hX hXs hK hP hS (by decide) rfl rfl rfl rfl hl.1 (Nat.le_of_ble_eq_true rfl) prd_R_readVar_29 (fun H locs hP hS => ?_)
        refine lv_if_eq (tgt := 48) hx hb prd_R_readVar_32 (by decide) (fun c26 => ?_) (fun c26 => ?_)
        · have hf := pr_it c26 hf
          refine lv_iconst (v := 0) hx hb prd_R_readVar_48 (by decide) ?_
          exact pr_retz E (Or.inl rfl) hP hS (pr_so hf) prd_R_readVar_49
        · have hf := pr_ie c26 hf
          refine lv_aload_n hx hb prd_R_readVar_35 rfl (lv_at hl 0 rfl) ?_
          refine lv_bipush (v := 17) hx hb prd_R_readVar_36 (by decide) ?_
          obtain ⟨r27, hr27, hf⟩ := pr_bi hf
          refine pr_callVi (rest := []) (res := r27) ⟨hx, hb, hml, hown, hts⟩ 3 (prc_R_take hD hX 1 (Nat.le_refl _) r25.2 17 r27 hr27) (prg_R_take hts prw_99 (by have := hh; omega)) hX hXs hK hP hS (by decide) rfl rfl rfl rfl hl.1 (Nat.le_of_ble_eq_true rfl) prd_R_readVar_38 (fun H locs hP hS => ?_)
          refine lv_if_eq (tgt := 48) hx hb prd_R_readVar_41 (by decide) (fun c28 => ?_) (fun c28 => ?_)
          · have hf := pr_it c28 hf
            refine lv_iconst (v := 0) hx hb prd_R_readVar_48 (by decide) ?_
            exact pr_retz E (Or.inl rfl) hP hS (pr_so hf) prd_R_readVar_49
          · have hf := pr_ie c28 hf
            refine lv_iconst (v := 1) hx hb prd_R_readVar_44 (by decide) ?_
            refine lv_goto (tgt := 49) hx hb prd_R_readVar_45 (by decide) ?_
            exact pr_retz E (Or.inr rfl) hP hS (pr_so hf) prd_R_readVar_49
    · have hf := pr_it c18 hf
      refine lv_iconst (v := 0) hx hb prd_R_readVar_16 (by decide) ?_
      exact pr_retz E (Or.inl rfl) hP hS (pr_so hf) prd_R_readVar_17
-- R_readSetPlace
set_option maxHeartbeats 4000000 in
set_option maxRecDepth 100000 in
theorem prc_R_readSetPlace {l : Launch} {D : va_G} {ad : Nat → Nat} {dA : Nat → ClassId} {A : Nat → Prop} {t : Nat} (hD : ∀ σ : pr_St, va_D A (pr_w prc_L ad dA σ)) (hX : pr_Xok A (prX t A)) (h : Nat) (hh : 216 ≤ h) (σ : pr_St) (x1 : Int32) (res : (Int32 × pr_St)) (hf : prf_R_readSetPlace σ x1 = some res) : Met l pry_R_readSetPlace (Cond.code pry_R_readSetPlace prb_R_readSetPlace 2 (some .boolean) :: pr_U) (pr_rm h) (pr_Pc (prX t A) D pr_cl prc_L ad dA [.ref (ad 3), .int x1] σ) (pr_Qi D pr_cl prc_L ad dA A res) 0 0 A := by
  refine pr_entry (cc := prb_R_readSetPlace) (maxL := 2) (ret := (some .boolean)) (by decide) (Nat.le_of_ble_eq_true rfl) hD hX ?_
  intro p e s m args below meth c E H locs hP hS ls hl
  have hl : lv_has ls 2 [(0, .ref (ad 3)), (1, .int x1)] := hl
  have hf := hf.symm
  unfold prf_R_readSetPlace at hf
  obtain ⟨hx, hb, hml, hown, hts, hr, hlocks, hK, hD, hX, hXs⟩ := id E
  refine lv_aload_n hx hb prd_R_readSetPlace_0 rfl (lv_at hl 0 rfl) ?_
  refine pr_getr (t := 2) hx hb hts prs_R hown hK hP 3 1 (by decide) rfl (hts _ prw_111) rfl prd_R_readSetPlace_1 ?_
  refine lv_bipush (v := 36) hx hb prd_R_readSetPlace_4 (by decide) ?_
  refine lv_aload_n hx hb prd_R_readSetPlace_6 rfl (lv_at hl 0 rfl) ?_
  refine pr_geti (v := (σ.1 3 2)) hx hb hts prs_R hown hK hP 3 2 (by decide) rfl (hts _ prw_90) rfl rfl prd_R_readSetPlace_7 ?_
  obtain ⟨r15, hr15, hf⟩ := pr_bi hf
  refine pr_callVv (rest := []) (res := r15) ⟨hx, hb, hml, hown, hts⟩ 2 (prc_G_addOperation hD hX 0 (Nat.le_refl _) σ 36 (σ.1 3 2) r15 hr15) (prg_G_addOperation hts prw_143 (by have := hh; omega)) hX hXs hK hP hS (by decide) rfl rfl rfl rfl hl.1 (Nat.le_of_ble_eq_true rfl) prd_R_readSetPlace_10 (fun H locs hP hS => ?_)
  refine lv_aload_n hx hb prd_R_readSetPlace_13 rfl (lv_at hl 0 rfl) ?_
  refine lv_iconst (v := 2) hx hb prd_R_readSetPlace_14 (by decide) ?_
  obtain ⟨r16, hr16, hf⟩ := pr_bi hf
  refine pr_callVi (rest := []) (res := r16) ⟨hx, hb, hml, hown, hts⟩ 3 (prc_R_take hD hX 1 (Nat.le_refl _) r15 2 r16 hr16) (prg_R_take hts prw_99 (by have := hh; omega)) hX hXs hK hP hS (by decide) rfl rfl rfl rfl hl.1 (Nat.le_of_ble_eq_true rfl) prd_R_readSetPlace_15 (fun H locs hP hS => ?_)
  refine lv_if_eq (tgt := 49) hx hb prd_R_readSetPlace_18 (by decide) (fun c17 => ?_) (fun c17 => ?_)
  · have hf := pr_it c17 hf
    refine lv_iconst (v := 0) hx hb prd_R_readSetPlace_49 (by decide) ?_
    exact pr_retz E (Or.inl rfl) hP hS (pr_so hf) prd_R_readSetPlace_50
  · have hf := pr_ie c17 hf
    refine lv_aload_n hx hb prd_R_readSetPlace_21 rfl (lv_at hl 0 rfl) ?_
    refine lv_bipush (v := 16) hx hb prd_R_readSetPlace_22 (by decide) ?_
    obtain ⟨r18, hr18, hf⟩ := pr_bi hf
    refine pr_callVi (rest := []) (res := r18) ⟨hx, hb, hml, hown, hts⟩ 3 (prc_R_take hD hX 1 (Nat.le_refl _) r16.2 16 r18 hr18) (prg_R_take hts prw_99 (by have := hh; omega)) hX hXs hK hP hS (by decide) rfl rfl rfl rfl hl.1 (Nat.le_of_ble_eq_true rfl) prd_R_readSetPlace_24 (fun H locs hP hS => ?_)
    refine lv_if_eq (tgt := 49) hx hb prd_R_readSetPlace_27 (by decide) (fun c19 => ?_) (fun c19 => ?_)
    · have hf := pr_it c19 hf
      refine lv_iconst (v := 0) hx hb prd_R_readSetPlace_49 (by decide) ?_
      exact pr_retz E (Or.inl rfl) hP hS (pr_so hf) prd_R_readSetPlace_50
    · have hf := pr_ie c19 hf
      refine lv_aload_n hx hb prd_R_readSetPlace_30 rfl (lv_at hl 0 rfl) ?_
      refine lv_iload_n hx hb prd_R_readSetPlace_31 rfl (lv_at hl 1 rfl) ?_
      refine lv_iconst (v := 1) hx hb prd_R_readSetPlace_32 (by decide) ?_
      refine lv_iadd hx hb prd_R_readSetPlace_33 ?_
      obtain ⟨r20, hr20, hf⟩ := pr_bi hf
      refine pr_callVi (rest := []) (res := r20) ⟨hx, hb, hml, hown, hts⟩ 3 (prct_R_readSum hD hX r18.2 (x1 + 1) r20 hr20) (prg_R_readSum hts prw_151 (by have := hh; omega)) hX hXs hK hP hS (by decide) rfl rfl rfl rfl hl.1 (Nat.le_of_ble_eq_true rfl) prd_R_readSetPlace_34 (fun H locs hP hS => ?_)
      refine lv_if_eq (tgt := 49) hx hb prd_R_readSetPlace_37 (by decide) (fun c21 => ?_) (fun c21 => ?_)
      · have hf := pr_it c21 hf
        refine lv_iconst (v := 0) hx hb prd_R_readSetPlace_49 (by decide) ?_
        exact pr_retz E (Or.inl rfl) hP hS (pr_so hf) prd_R_readSetPlace_50
      · have hf := pr_ie c21 hf
        refine lv_aload_n hx hb prd_R_readSetPlace_40 rfl (lv_at hl 0 rfl) ?_
        refine lv_bipush (v := 17) hx hb prd_R_readSetPlace_41 (by decide) ?_
        obtain ⟨r22, hr22, hf⟩ := pr_bi hf
        refine pr_callVi (rest := []) (res := r22) ⟨hx, hb, hml, hown, hts⟩ 3 (prc_R_take hD hX 1 (Nat.le_refl _) r20.2 17 r22 hr22) (prg_R_take hts prw_99 (by have := hh; omega)) hX hXs hK hP hS (by decide) rfl rfl rfl rfl hl.1 (Nat.le_of_ble_eq_true rfl) prd_R_readSetPlace_43 (fun H locs hP hS => ?_)
        refine lv_if_ne (tgt := 51) hx hb prd_R_readSetPlace_46 (by decide) (fun c23 => ?_) (fun c23 => ?_)
        · have hf := pr_ie c23 hf
          refine lv_aload_n hx hb prd_R_readSetPlace_51 rfl (lv_at hl 0 rfl) ?_
          refine pr_getr (t := 2) hx hb hts prs_R hown hK hP 3 1 (by decide) rfl (hts _ prw_111) rfl prd_R_readSetPlace_52 ?_
          refine lv_bipush (v := 37) hx hb prd_R_readSetPlace_55 (by decide) ?_
          refine lv_iconst (v := (-1)) hx hb prd_R_readSetPlace_57 (by decide) ?_
          obtain ⟨r24, hr24, hf⟩ := pr_bi hf
          refine pr_callVv (rest := []) (res := r24) ⟨hx, hb, hml, hown, hts⟩ 2 (prc_G_addOperation hD hX 0 (Nat.le_refl _) r22.2 37 (-1) r24 hr24) (prg_G_addOperation hts prw_143 (by have := hh; omega)) hX hXs hK hP hS (by decide) rfl rfl rfl rfl hl.1 (Nat.le_of_ble_eq_true rfl) prd_R_readSetPlace_58 (fun H locs hP hS => ?_)
          refine lv_aload_n hx hb prd_R_readSetPlace_61 rfl (lv_at hl 0 rfl) ?_
          refine lv_bipush (v := 20) hx hb prd_R_readSetPlace_62 (by decide) ?_
          obtain ⟨r25, hr25, hf⟩ := pr_bi hf
          refine pr_callVi (rest := []) (res := r25) ⟨hx, hb, hml, hown, hts⟩ 3 (prc_R_take hD hX 1 (Nat.le_refl _) r24 20 r25 hr25) (prg_R_take hts prw_99 (by have := hh; omega)) hX hXs hK hP hS (by decide) rfl rfl rfl rfl hl.1 (Nat.le_of_ble_eq_true rfl) prd_R_readSetPlace_64 (fun H locs hP hS => ?_)
          refine lv_if_eq (tgt := 84) hx hb prd_R_readSetPlace_67 (by decide) (fun c26 => ?_) (fun c26 => ?_)
          · have hf := pr_it c26 hf
            refine lv_iconst (v := 0) hx hb prd_R_readSetPlace_84 (by decide) ?_
            exact pr_retz E (Or.inl rfl) hP hS (pr_so hf) prd_R_readSetPlace_85
          · have hf := pr_ie c26 hf
            refine lv_aload_n hx hb prd_R_readSetPlace_70 rfl (lv_at hl 0 rfl) ?_
            refine lv_iload_n hx hb prd_R_readSetPlace_71 rfl (lv_at hl 1 rfl) ?_
            refine lv_iconst (v := 1) hx hb prd_R_readSetPlace_72 (by decide) ?_
            refine lv_iadd hx hb prd_R_readSetPlace_73 ?_
            obtain ⟨r27, hr27, hf⟩ := pr_bi hf
            refine pr_callVi (rest := []) (res := r27) ⟨hx, hb, hml, hown, hts⟩ 3 (prct_R_readSum hD hX r25.2 (x1 + 1) r27 hr27) (prg_R_readSum hts prw_151 (by have := hh; omega)) hX hXs hK hP hS (by decide) rfl rfl rfl rfl hl.1 (Nat.le_of_ble_eq_true rfl) prd_R_readSetPlace_74 (fun H locs hP hS => ?_)
            refine lv_if_eq (tgt := 84) hx hb prd_R_readSetPlace_77 (by decide) (fun c28 => ?_) (fun c28 => ?_)
            · have hf := pr_it c28 hf
              refine lv_iconst (v := 0) hx hb prd_R_readSetPlace_84 (by decide) ?_
              exact pr_retz E (Or.inl rfl) hP hS (pr_so hf) prd_R_readSetPlace_85
            · have hf := pr_ie c28 hf
              refine lv_iconst (v := 1) hx hb prd_R_readSetPlace_80 (by decide) ?_
              refine lv_goto (tgt := 85) hx hb prd_R_readSetPlace_81 (by decide) ?_
              exact pr_retz E (Or.inr rfl) hP hS (pr_so hf) prd_R_readSetPlace_85
        · have hf := pr_it c23 hf
          refine lv_iconst (v := 0) hx hb prd_R_readSetPlace_49 (by decide) ?_
          exact pr_retz E (Or.inl rfl) hP hS (pr_so hf) prd_R_readSetPlace_50
-- R_readCall
set_option maxHeartbeats 4000000 in
set_option maxRecDepth 100000 in
theorem prk_R_readCall_60 {l : Launch} {D : va_G} {ad : Nat → Nat} {dA : Nat → ClassId} {A : Nat → Prop} {t : Nat} {p : Program} {e : Env} {s : State} {m : MethodId} {args : Array Value} {below : List Frame} {meth : Method} {c : Code} {h : Nat} (hh : 216 ≤ h) (E : pr_cx prn_R prb_R_readCall 5 (some .boolean) D pr_cl prc_L ad dA A (prX t A) p s m args meth c) : ∀ n : Nat, ∀ (σ : pr_St) (x1 : Int32) (x2 : Int32) (x3 : Int32) (x4 : Int32) (res : (Int32 × pr_St)), some res = prf_R_readCall_60 n σ x1 x2 x3 x4 → ∀ (H : Heap) (locs : List Loc) (ls : Array Slot), va_P D pr_cl (pr_w prc_L ad dA σ) H → va_S A s.heap H locs → lv_has ls 5 [(0, .ref (ad 3)), (1, .int x1), (2, .int x2), (3, .int x3), (4, .int x4)] → W p l e (pr_rm h) s m args below meth c H locs 0 0 (MQ below (pr_Qi D pr_cl prc_L ad dA A res) args s 0 0 A) (F0 m 60 ls []) := by
  obtain ⟨hx, hb, hml, hown, hts, hr, hlocks, hK, hD, hX, hXs⟩ := id E
  intro n
  induction n with
  | zero =>
    intro σ x1 x2 x3 x4 res hf
    rw [prf_R_readCall_60] at hf
    cases hf
  | succ n ih =>
    intro σ x1 x2 x3 x4 res hf H locs ls hP hS hl
    rw [prf_R_readCall_60] at hf
    refine lv_iload hx hb prd_R_readCall_60 (lv_at hl 4 rfl) ?_
    refine lv_sipush (v := 8000) hx hb prd_R_readCall_62 (by decide) ?_
    refine lv_icmp_ge (tgt := 98) hx hb prd_R_readCall_65 (by decide) (fun c28 => ?_) (fun c28 => ?_)
    · have hf := pr_it c28 hf
      refine lv_aload_n hx hb prd_R_readCall_98 rfl (lv_at hl 0 rfl) ?_
      refine pr_getr (t := 2) hx hb hts prs_R hown hK hP 3 1 (by decide) rfl (hts _ prw_111) rfl prd_R_readCall_99 ?_
      refine lv_iload_n hx hb prd_R_readCall_102 rfl (lv_at hl 1 rfl) ?_
      refine lv_iload_n hx hb prd_R_readCall_103 rfl (lv_at hl 3 rfl) ?_
      obtain ⟨r29, hr29, hf⟩ := pr_bi hf
      refine pr_callVv (rest := []) (res := r29) ⟨hx, hb, hml, hown, hts⟩ 2 (prc_G_setDetail hD hX 1 (Nat.le_refl _) σ x1 x3 r29 hr29) (prg_G_setDetail hts prw_169 (by have := hh; omega)) hX hXs hK hP hS (by decide) rfl rfl rfl rfl hl.1 (Nat.le_of_ble_eq_true rfl) prd_R_readCall_104 (fun H locs hP hS => ?_)
      refine lv_aload_n hx hb prd_R_readCall_107 rfl (lv_at hl 0 rfl) ?_
      refine lv_bipush (v := 13) hx hb prd_R_readCall_108 (by decide) ?_
      obtain ⟨r30, hr30, hf⟩ := pr_bi hf
      refine pr_callVi (rest := []) (res := r30) ⟨hx, hb, hml, hown, hts⟩ 3 (prc_R_take hD hX 1 (Nat.le_refl _) r29 13 r30 hr30) (prg_R_take hts prw_99 (by have := hh; omega)) hX hXs hK hP hS (by decide) rfl rfl rfl rfl hl.1 (Nat.le_of_ble_eq_true rfl) prd_R_readCall_110 (fun H locs hP hS => ?_)
      obtain ⟨hz31, hf⟩ := pr_z_in hf
      exact pr_retz E hz31 hP hS (pr_so hf) prd_R_readCall_113
    · have hf := pr_ie c28 hf
      refine lv_aload_n hx hb prd_R_readCall_68 rfl (lv_at hl 0 rfl) ?_
      refine lv_bipush (v := 18) hx hb prd_R_readCall_69 (by decide) ?_
      obtain ⟨r32, hr32, hf⟩ := pr_bi hf
      refine pr_callVi (rest := []) (res := r32) ⟨hx, hb, hml, hown, hts⟩ 3 (prc_R_take hD hX 1 (Nat.le_refl _) σ 18 r32 hr32) (prg_R_take hts prw_99 (by have := hh; omega)) hX hXs hK hP hS (by decide) rfl rfl rfl rfl hl.1 (Nat.le_of_ble_eq_true rfl) prd_R_readCall_71 (fun H locs hP hS => ?_)
      refine lv_if_eq (tgt := 98) hx hb prd_R_readCall_74 (by decide) (fun c33 => ?_) (fun c33 => ?_)
      · have hf := pr_it c33 hf
        refine lv_aload_n hx hb prd_R_readCall_98 rfl (lv_at hl 0 rfl) ?_
        refine pr_getr (t := 2) hx hb hts prs_R hown hK hP 3 1 (by decide) rfl (hts _ prw_111) rfl prd_R_readCall_99 ?_
        refine lv_iload_n hx hb prd_R_readCall_102 rfl (lv_at hl 1 rfl) ?_
        refine lv_iload_n hx hb prd_R_readCall_103 rfl (lv_at hl 3 rfl) ?_
        obtain ⟨r34, hr34, hf⟩ := pr_bi hf
        refine pr_callVv (rest := []) (res := r34) ⟨hx, hb, hml, hown, hts⟩ 2 (prc_G_setDetail hD hX 1 (Nat.le_refl _) r32.2 x1 x3 r34 hr34) (prg_G_setDetail hts prw_169 (by have := hh; omega)) hX hXs hK hP hS (by decide) rfl rfl rfl rfl hl.1 (Nat.le_of_ble_eq_true rfl) prd_R_readCall_104 (fun H locs hP hS => ?_)
        refine lv_aload_n hx hb prd_R_readCall_107 rfl (lv_at hl 0 rfl) ?_
        refine lv_bipush (v := 13) hx hb prd_R_readCall_108 (by decide) ?_
        obtain ⟨r35, hr35, hf⟩ := pr_bi hf
        refine pr_callVi (rest := []) (res := r35) ⟨hx, hb, hml, hown, hts⟩ 3 (prc_R_take hD hX 1 (Nat.le_refl _) r34 13 r35 hr35) (prg_R_take hts prw_99 (by have := hh; omega)) hX hXs hK hP hS (by decide) rfl rfl rfl rfl hl.1 (Nat.le_of_ble_eq_true rfl) prd_R_readCall_110 (fun H locs hP hS => ?_)
        obtain ⟨hz36, hf⟩ := pr_z_in hf
        exact pr_retz E hz36 hP hS (pr_so hf) prd_R_readCall_113
      · have hf := pr_ie c33 hf
        refine lv_aload_n hx hb prd_R_readCall_77 rfl (lv_at hl 0 rfl) ?_
        refine lv_iload_n hx hb prd_R_readCall_78 rfl (lv_at hl 2 rfl) ?_
        refine lv_iconst (v := 1) hx hb prd_R_readCall_79 (by decide) ?_
        refine lv_iadd hx hb prd_R_readCall_80 ?_
        obtain ⟨r37, hr37, hf⟩ := pr_bi hf
        refine pr_callVi (rest := []) (res := r37) ⟨hx, hb, hml, hown, hts⟩ 3 (prct_R_readSum hD hX r32.2 (x2 + 1) r37 hr37) (prg_R_readSum hts prw_151 (by have := hh; omega)) hX hXs hK hP hS (by decide) rfl rfl rfl rfl hl.1 (Nat.le_of_ble_eq_true rfl) prd_R_readCall_81 (fun H locs hP hS => ?_)
        refine lv_if_ne (tgt := 89) hx hb prd_R_readCall_84 (by decide) (fun c38 => ?_) (fun c38 => ?_)
        · have hf := pr_ie c38 hf
          refine lv_iinc (v := (x3 + 1)) (lv' := [(3, .int (x3 + 1)), (0, .ref (ad 3)), (1, .int x1), (2, .int x2), (4, .int x4)]) hx hb prd_R_readCall_89 hl (k := 3) rfl rfl (by decide) rfl (fun ls hl => ?_)
          refine lv_iinc (v := (x4 + 1)) (lv' := [(4, .int (x4 + 1)), (3, .int (x3 + 1)), (0, .ref (ad 3)), (1, .int x1), (2, .int x2)]) hx hb prd_R_readCall_92 hl (k := 4) rfl rfl (by decide) rfl (fun ls hl => ?_)
          refine lv_goto (tgt := 60) hx hb prd_R_readCall_95 (by decide) ?_
          exact ih r37.2 x1 x2 (x3 + 1) (x4 + 1) _ hf _ _ _ hP hS (lv_sub hl [2, 3, 4, 1, 0] rfl)
        · have hf := pr_it c38 hf
          refine lv_iconst (v := 0) hx hb prd_R_readCall_87 (by decide) ?_
          exact pr_retz E (Or.inl rfl) hP hS (pr_so hf) prd_R_readCall_88
set_option maxHeartbeats 4000000 in
set_option maxRecDepth 100000 in
theorem prc_R_readCall {l : Launch} {D : va_G} {ad : Nat → Nat} {dA : Nat → ClassId} {A : Nat → Prop} {t : Nat} (hD : ∀ σ : pr_St, va_D A (pr_w prc_L ad dA σ)) (hX : pr_Xok A (prX t A)) (h : Nat) (hh : 216 ≤ h) (σ : pr_St) (x1 : Int32) (x2 : Int32) (res : (Int32 × pr_St)) (hf : prf_R_readCall σ x1 x2 = some res) : Met l pry_R_readCall (Cond.code pry_R_readCall prb_R_readCall 5 (some .boolean) :: pr_U) (pr_rm h) (pr_Pc (prX t A) D pr_cl prc_L ad dA [.ref (ad 3), .int x1, .int x2] σ) (pr_Qi D pr_cl prc_L ad dA A res) 0 0 A := by
  refine pr_entry (cc := prb_R_readCall) (maxL := 5) (ret := (some .boolean)) (by decide) (Nat.le_of_ble_eq_true rfl) hD hX ?_
  intro p e s m args below meth c E H locs hP hS ls hl
  have hl : lv_has ls 5 [(0, .ref (ad 3)), (1, .int x1), (2, .int x2)] := hl
  have hf := hf.symm
  unfold prf_R_readCall at hf
  obtain ⟨hx, hb, hml, hown, hts, hr, hlocks, hK, hD, hX, hXs⟩ := id E
  refine lv_aload_n hx hb prd_R_readCall_0 rfl (lv_at hl 0 rfl) ?_
  refine lv_dup hx hb prd_R_readCall_1 rfl ?_
  refine pr_geti (v := (σ.1 3 2)) hx hb hts prs_R hown hK hP 3 2 (by decide) rfl (hts _ prw_90) rfl rfl prd_R_readCall_2 ?_
  refine lv_aload_n hx hb prd_R_readCall_5 rfl (lv_at hl 0 rfl) ?_
  refine pr_getr (t := 1) hx hb hts prs_R hown hK hP 3 0 (by decide) rfl (hts _ prw_89) rfl prd_R_readCall_6 ?_
  refine lv_aload_n hx hb prd_R_readCall_9 rfl (lv_at hl 0 rfl) ?_
  refine pr_geti (v := (σ.1 3 2)) hx hb hts prs_R hown hK hP 3 2 (by decide) rfl (hts _ prw_90) rfl rfl prd_R_readCall_10 ?_
  refine lv_iconst (v := 1) hx hb prd_R_readCall_13 (by decide) ?_
  refine lv_iadd hx hb prd_R_readCall_14 ?_
  obtain ⟨r39, hr39, hf⟩ := pr_bi hf
  refine pr_callVr (rest := [.int (σ.1 3 2), .ref (ad 3)]) (r := r39) ⟨hx, hb, hml, hown, hts⟩ 1 (prc_T_kindAt hD hX 0 (Nat.le_refl _) σ ((σ.1 3 2) + 1) r39 hr39) (prg_T_kindAt hts prw_91 (by have := hh; omega)) hX hXs hK hP hS (by decide) rfl rfl rfl rfl hl.1 (Nat.le_of_ble_eq_true rfl) prd_R_readCall_15 (fun H locs hP hS => ?_)
  refine lv_bipush (v := 20) hx hb prd_R_readCall_18 (by decide) ?_
  refine lv_icmp_ne (tgt := 27) hx hb prd_R_readCall_20 (by decide) (fun c40 => ?_) (fun c40 => ?_)
  · have hf := pr_ie c40 hf
    refine lv_iconst (v := 2) hx hb prd_R_readCall_27 (by decide) ?_
    refine lv_iadd hx hb prd_R_readCall_28 ?_
    refine pr_puti (ty := .int) hx hb hts prs_R prq_R prtt_R prtn_R hown hK hP (hD _) hS 3 2 (by decide) rfl (hts _ prw_90) rfl rfl (prtt_R 2 (by decide)) rfl rfl prd_R_readCall_29 (fun H locs hP hS => ?_)
    refine lv_iconst (v := 0) hx hb prd_R_readCall_32 (by decide) ?_
    refine lv_istore_n (lv' := [(3, .int 0), (0, .ref (ad 3)), (1, .int x1), (2, .int x2)]) hx hb prd_R_readCall_33 rfl hl (by decide) rfl (fun ls hl => ?_)
    refine lv_aload_n hx hb prd_R_readCall_34 rfl (lv_at hl 1 rfl) ?_
    obtain ⟨r41, hr41, hf⟩ := pr_bi hf
    refine pr_callVr (rest := []) (r := r41) ⟨hx, hb, hml, hown, hts⟩ 3 (prc_R_now hD hX 1 (Nat.le_refl _) (pr_sI σ 3 2 ((σ.1 3 2) + 2))  r41 hr41) (prg_R_now hts prw_109 (by have := hh; omega)) hX hXs hK hP hS (by decide) rfl rfl rfl rfl hl.1 (Nat.le_of_ble_eq_true rfl) prd_R_readCall_35 (fun H locs hP hS => ?_)
    refine lv_bipush (v := 13) hx hb prd_R_readCall_38 (by decide) ?_
    refine lv_icmp_eq (tgt := 98) hx hb prd_R_readCall_40 (by decide) (fun c42 => ?_) (fun c42 => ?_)
    · have hf := pr_it c42 hf
      refine lv_aload_n hx hb prd_R_readCall_98 rfl (lv_at hl 1 rfl) ?_
      refine pr_getr (t := 2) hx hb hts prs_R hown hK hP 3 1 (by decide) rfl (hts _ prw_111) rfl prd_R_readCall_99 ?_
      refine lv_iload_n hx hb prd_R_readCall_102 rfl (lv_at hl 2 rfl) ?_
      refine lv_iload_n hx hb prd_R_readCall_103 rfl (lv_at hl 0 rfl) ?_
      obtain ⟨r43, hr43, hf⟩ := pr_bi hf
      refine pr_callVv (rest := []) (res := r43) ⟨hx, hb, hml, hown, hts⟩ 2 (prc_G_setDetail hD hX 1 (Nat.le_refl _) (pr_sI σ 3 2 ((σ.1 3 2) + 2)) x1 0 r43 hr43) (prg_G_setDetail hts prw_169 (by have := hh; omega)) hX hXs hK hP hS (by decide) rfl rfl rfl rfl hl.1 (Nat.le_of_ble_eq_true rfl) prd_R_readCall_104 (fun H locs hP hS => ?_)
      refine lv_aload_n hx hb prd_R_readCall_107 rfl (lv_at hl 1 rfl) ?_
      refine lv_bipush (v := 13) hx hb prd_R_readCall_108 (by decide) ?_
      obtain ⟨r44, hr44, hf⟩ := pr_bi hf
      refine pr_callVi (rest := []) (res := r44) ⟨hx, hb, hml, hown, hts⟩ 3 (prc_R_take hD hX 1 (Nat.le_refl _) r43 13 r44 hr44) (prg_R_take hts prw_99 (by have := hh; omega)) hX hXs hK hP hS (by decide) rfl rfl rfl rfl hl.1 (Nat.le_of_ble_eq_true rfl) prd_R_readCall_110 (fun H locs hP hS => ?_)
      obtain ⟨hz45, hf⟩ := pr_z_in hf
      exact pr_retz E hz45 hP hS (pr_so hf) prd_R_readCall_113
    · have hf := pr_ie c42 hf
      refine lv_aload_n hx hb prd_R_readCall_43 rfl (lv_at hl 1 rfl) ?_
      refine lv_iload_n hx hb prd_R_readCall_44 rfl (lv_at hl 3 rfl) ?_
      refine lv_iconst (v := 1) hx hb prd_R_readCall_45 (by decide) ?_
      refine lv_iadd hx hb prd_R_readCall_46 ?_
      obtain ⟨r46, hr46, hf⟩ := pr_bi hf
      refine pr_callVi (rest := []) (res := r46) ⟨hx, hb, hml, hown, hts⟩ 3 (prct_R_readSum hD hX (pr_sI σ 3 2 ((σ.1 3 2) + 2)) (x2 + 1) r46 hr46) (prg_R_readSum hts prw_151 (by have := hh; omega)) hX hXs hK hP hS (by decide) rfl rfl rfl rfl hl.1 (Nat.le_of_ble_eq_true rfl) prd_R_readCall_47 (fun H locs hP hS => ?_)
      refine lv_if_ne (tgt := 55) hx hb prd_R_readCall_50 (by decide) (fun c47 => ?_) (fun c47 => ?_)
      · have hf := pr_ie c47 hf
        refine lv_iconst (v := 1) hx hb prd_R_readCall_55 (by decide) ?_
        refine lv_istore_n (lv' := [(3, .int 1), (0, .ref (ad 3)), (1, .int x1), (2, .int x2)]) hx hb prd_R_readCall_56 rfl hl (by decide) rfl (fun ls hl => ?_)
        refine lv_iconst (v := 0) hx hb prd_R_readCall_57 (by decide) ?_
        refine lv_istore (lv' := [(4, .int 0), (3, .int 1), (0, .ref (ad 3)), (1, .int x1), (2, .int x2)]) hx hb prd_R_readCall_58 hl (by decide) rfl (fun ls hl => ?_)
        exact prk_R_readCall_60 hh E pr_FU r46.2 x1 x2 1 0 _ hf _ _ _ hP hS (lv_sub hl [2, 3, 4, 1, 0] rfl)
      · have hf := pr_it c47 hf
        refine lv_iconst (v := 0) hx hb prd_R_readCall_53 (by decide) ?_
        exact pr_retz E (Or.inl rfl) hP hS (pr_so hf) prd_R_readCall_54
  · have hf := pr_it c40 hf
    refine lv_iconst (v := 4) hx hb prd_R_readCall_23 (by decide) ?_
    refine lv_goto (tgt := 28) hx hb prd_R_readCall_24 (by decide) ?_
    refine lv_iadd hx hb prd_R_readCall_28 ?_
    refine pr_puti (ty := .int) hx hb hts prs_R prq_R prtt_R prtn_R hown hK hP (hD _) hS 3 2 (by decide) rfl (hts _ prw_90) rfl rfl (prtt_R 2 (by decide)) rfl rfl prd_R_readCall_29 (fun H locs hP hS => ?_)
    refine lv_iconst (v := 0) hx hb prd_R_readCall_32 (by decide) ?_
    refine lv_istore_n (lv' := [(3, .int 0), (0, .ref (ad 3)), (1, .int x1), (2, .int x2)]) hx hb prd_R_readCall_33 rfl hl (by decide) rfl (fun ls hl => ?_)
    refine lv_aload_n hx hb prd_R_readCall_34 rfl (lv_at hl 1 rfl) ?_
    obtain ⟨r48, hr48, hf⟩ := pr_bi hf
    refine pr_callVr (rest := []) (r := r48) ⟨hx, hb, hml, hown, hts⟩ 3 (prc_R_now hD hX 1 (Nat.le_refl _) (pr_sI σ 3 2 ((σ.1 3 2) + 4))  r48 hr48) (prg_R_now hts prw_109 (by have := hh; omega)) hX hXs hK hP hS (by decide) rfl rfl rfl rfl hl.1 (Nat.le_of_ble_eq_true rfl) prd_R_readCall_35 (fun H locs hP hS => ?_)
    refine lv_bipush (v := 13) hx hb prd_R_readCall_38 (by decide) ?_
    refine lv_icmp_eq (tgt := 98) hx hb prd_R_readCall_40 (by decide) (fun c49 => ?_) (fun c49 => ?_)
    · have hf := pr_it c49 hf
      refine lv_aload_n hx hb prd_R_readCall_98 rfl (lv_at hl 1 rfl) ?_
      refine pr_getr (t := 2) hx hb hts prs_R hown hK hP 3 1 (by decide) rfl (hts _ prw_111) rfl prd_R_readCall_99 ?_
      refine lv_iload_n hx hb prd_R_readCall_102 rfl (lv_at hl 2 rfl) ?_
      refine lv_iload_n hx hb prd_R_readCall_103 rfl (lv_at hl 0 rfl) ?_
      obtain ⟨r50, hr50, hf⟩ := pr_bi hf
      refine pr_callVv (rest := []) (res := r50) ⟨hx, hb, hml, hown, hts⟩ 2 (prc_G_setDetail hD hX 1 (Nat.le_refl _) (pr_sI σ 3 2 ((σ.1 3 2) + 4)) x1 0 r50 hr50) (prg_G_setDetail hts prw_169 (by have := hh; omega)) hX hXs hK hP hS (by decide) rfl rfl rfl rfl hl.1 (Nat.le_of_ble_eq_true rfl) prd_R_readCall_104 (fun H locs hP hS => ?_)
      refine lv_aload_n hx hb prd_R_readCall_107 rfl (lv_at hl 1 rfl) ?_
      refine lv_bipush (v := 13) hx hb prd_R_readCall_108 (by decide) ?_
      obtain ⟨r51, hr51, hf⟩ := pr_bi hf
      refine pr_callVi (rest := []) (res := r51) ⟨hx, hb, hml, hown, hts⟩ 3 (prc_R_take hD hX 1 (Nat.le_refl _) r50 13 r51 hr51) (prg_R_take hts prw_99 (by have := hh; omega)) hX hXs hK hP hS (by decide) rfl rfl rfl rfl hl.1 (Nat.le_of_ble_eq_true rfl) prd_R_readCall_110 (fun H locs hP hS => ?_)
      obtain ⟨hz52, hf⟩ := pr_z_in hf
      exact pr_retz E hz52 hP hS (pr_so hf) prd_R_readCall_113
    · have hf := pr_ie c49 hf
      refine lv_aload_n hx hb prd_R_readCall_43 rfl (lv_at hl 1 rfl) ?_
      refine lv_iload_n hx hb prd_R_readCall_44 rfl (lv_at hl 3 rfl) ?_
      refine lv_iconst (v := 1) hx hb prd_R_readCall_45 (by decide) ?_
      refine lv_iadd hx hb prd_R_readCall_46 ?_
      obtain ⟨r53, hr53, hf⟩ := pr_bi hf
      refine pr_callVi (rest := []) (res := r53) ⟨hx, hb, hml, hown, hts⟩ 3 (prct_R_readSum hD hX (pr_sI σ 3 2 ((σ.1 3 2) + 4)) (x2 + 1) r53 hr53) (prg_R_readSum hts prw_151 (by have := hh; omega)) hX hXs hK hP hS (by decide) rfl rfl rfl rfl hl.1 (Nat.le_of_ble_eq_true rfl) prd_R_readCall_47 (fun H locs hP hS => ?_)
      refine lv_if_ne (tgt := 55) hx hb prd_R_readCall_50 (by decide) (fun c54 => ?_) (fun c54 => ?_)
      · have hf := pr_ie c54 hf
        refine lv_iconst (v := 1) hx hb prd_R_readCall_55 (by decide) ?_
        refine lv_istore_n (lv' := [(3, .int 1), (0, .ref (ad 3)), (1, .int x1), (2, .int x2)]) hx hb prd_R_readCall_56 rfl hl (by decide) rfl (fun ls hl => ?_)
        refine lv_iconst (v := 0) hx hb prd_R_readCall_57 (by decide) ?_
        refine lv_istore (lv' := [(4, .int 0), (3, .int 1), (0, .ref (ad 3)), (1, .int x1), (2, .int x2)]) hx hb prd_R_readCall_58 hl (by decide) rfl (fun ls hl => ?_)
        exact prk_R_readCall_60 hh E pr_FU r53.2 x1 x2 1 0 _ hf _ _ _ hP hS (lv_sub hl [2, 3, 4, 1, 0] rfl)
      · have hf := pr_it c54 hf
        refine lv_iconst (v := 0) hx hb prd_R_readCall_53 (by decide) ?_
        exact pr_retz E (Or.inl rfl) hP hS (pr_so hf) prd_R_readCall_54
-- R_readBoth
set_option maxHeartbeats 4000000 in
set_option maxRecDepth 100000 in
theorem prk_R_readBoth_12 {l : Launch} {D : va_G} {ad : Nat → Nat} {dA : Nat → ClassId} {A : Nat → Prop} {t : Nat} {p : Program} {e : Env} {s : State} {m : MethodId} {args : Array Value} {below : List Frame} {meth : Method} {c : Code} (hd : Nat) (hb0 : 216 ≤ hd) {h : Nat} (hh : hd + 1 ≤ h) (E : pr_cx prn_R prb_R_readBoth 4 (some .boolean) D pr_cl prc_L ad dA A (prX t A) p s m args meth c) {rc : pr_St → Int32 → Option (Int32 × pr_St)} (Hrc0 : ∀ (σ : pr_St) (x1 : Int32) (res : (Int32 × pr_St)), rc σ x1 = some res → Met l pry_R_readTest (Cond.code pry_R_readTest prb_R_readTest 3 (some .boolean) :: pr_U) (pr_rm hd) (pr_Pc (prX t A) D pr_cl prc_L ad dA [.ref (ad 3), .int x1] σ) (pr_Qi D pr_cl prc_L ad dA A res) 0 0 A) : ∀ n : Nat, ∀ (σ : pr_St) (x1 : Int32) (x2 : Int32) (res : (Int32 × pr_St)), some res = prf_R_readBoth_12 rc n σ x1 x2 → ∀ (H : Heap) (locs : List Loc) (ls : Array Slot), va_P D pr_cl (pr_w prc_L ad dA σ) H → va_S A s.heap H locs → lv_has ls 4 [(0, .ref (ad 3)), (1, .int x1), (2, .int x2)] → W p l e (pr_rm h) s m args below meth c H locs 0 0 (MQ below (pr_Qi D pr_cl prc_L ad dA A res) args s 0 0 A) (F0 m 12 ls []) := by
  obtain ⟨hx, hb, hml, hown, hts, hr, hlocks, hK, hD, hX, hXs⟩ := id E
  intro n
  induction n with
  | zero =>
    intro σ x1 x2 res hf
    rw [prf_R_readBoth_12] at hf
    cases hf
  | succ n ih =>
    intro σ x1 x2 res hf H locs ls hP hS hl
    rw [prf_R_readBoth_12] at hf
    refine lv_iload_n hx hb prd_R_readBoth_12 rfl (lv_at hl 2 rfl) ?_
    refine lv_sipush (v := 8000) hx hb prd_R_readBoth_13 (by decide) ?_
    refine lv_icmp_ge (tgt := 70) hx hb prd_R_readBoth_16 (by decide) (fun c11 => ?_) (fun c11 => ?_)
    · have hf := pr_it c11 hf
      refine lv_iconst (v := 1) hx hb prd_R_readBoth_70 (by decide) ?_
      exact pr_retz E (Or.inr rfl) hP hS (pr_so hf) prd_R_readBoth_71
    · have hf := pr_ie c11 hf
      refine lv_aload_n hx hb prd_R_readBoth_19 rfl (lv_at hl 0 rfl) ?_
      refine lv_bipush (v := 32) hx hb prd_R_readBoth_20 (by decide) ?_
      obtain ⟨r12, hr12, hf⟩ := pr_bi hf
      refine pr_callVi (rest := []) (res := r12) ⟨hx, hb, hml, hown, hts⟩ 3 (prc_R_take hD hX 1 (Nat.le_refl _) σ 32 r12 hr12) (prg_R_take hts prw_99 (by have := hh; omega)) hX hXs hK hP hS (by decide) rfl rfl rfl rfl hl.1 (Nat.le_of_ble_eq_true rfl) prd_R_readBoth_22 (fun H locs hP hS => ?_)
      refine lv_if_eq (tgt := 70) hx hb prd_R_readBoth_25 (by decide) (fun c13 => ?_) (fun c13 => ?_)
      · have hf := pr_it c13 hf
        refine lv_iconst (v := 1) hx hb prd_R_readBoth_70 (by decide) ?_
        exact pr_retz E (Or.inr rfl) hP hS (pr_so hf) prd_R_readBoth_71
      · have hf := pr_ie c13 hf
        refine lv_aload_n hx hb prd_R_readBoth_28 rfl (lv_at hl 0 rfl) ?_
        refine pr_getr (t := 2) hx hb hts prs_R hown hK hP 3 1 (by decide) rfl (hts _ prw_111) rfl prd_R_readBoth_29 ?_
        obtain ⟨r14, hr14, hf⟩ := pr_bi hf
        refine pr_callVr (rest := []) (r := r14) ⟨hx, hb, hml, hown, hts⟩ 2 (prc_G_operationCount hD hX 0 (Nat.le_refl _) r12.2  r14 hr14) (prg_G_operationCount hts prw_184 (by have := hh; omega)) hX hXs hK hP hS (by decide) rfl rfl rfl rfl hl.1 (Nat.le_of_ble_eq_true rfl) prd_R_readBoth_32 (fun H locs hP hS => ?_)
        refine lv_istore_n (lv' := [(3, .int r14), (0, .ref (ad 3)), (1, .int x1), (2, .int x2)]) hx hb prd_R_readBoth_35 rfl hl (by decide) rfl (fun ls hl => ?_)
        refine lv_aload_n hx hb prd_R_readBoth_36 rfl (lv_at hl 1 rfl) ?_
        refine pr_getr (t := 2) hx hb hts prs_R hown hK hP 3 1 (by decide) rfl (hts _ prw_111) rfl prd_R_readBoth_37 ?_
        refine lv_bipush (v := 32) hx hb prd_R_readBoth_40 (by decide) ?_
        refine lv_iconst (v := (-1)) hx hb prd_R_readBoth_42 (by decide) ?_
        obtain ⟨r15, hr15, hf⟩ := pr_bi hf
        refine pr_callVv (rest := []) (res := r15) ⟨hx, hb, hml, hown, hts⟩ 2 (prc_G_addOperation hD hX 0 (Nat.le_refl _) r12.2 32 (-1) r15 hr15) (prg_G_addOperation hts prw_143 (by have := hh; omega)) hX hXs hK hP hS (by decide) rfl rfl rfl rfl hl.1 (Nat.le_of_ble_eq_true rfl) prd_R_readBoth_43 (fun H locs hP hS => ?_)
        refine lv_aload_n hx hb prd_R_readBoth_46 rfl (lv_at hl 1 rfl) ?_
        refine lv_iload_n hx hb prd_R_readBoth_47 rfl (lv_at hl 2 rfl) ?_
        obtain ⟨r16, hr16, hf⟩ := pr_bi hf
        refine pr_callVi (rest := []) (res := r16) ⟨hx, hb, hml, hown, hts⟩ 3 (Hrc0 r15 x1 r16 hr16) (prg_R_readTest hts prw_183 (by have := hh; omega)) hX hXs hK hP hS (by decide) rfl rfl rfl rfl hl.1 (Nat.le_of_ble_eq_true rfl) prd_R_readBoth_48 (fun H locs hP hS => ?_)
        refine lv_if_ne (tgt := 56) hx hb prd_R_readBoth_51 (by decide) (fun c17 => ?_) (fun c17 => ?_)
        · have hf := pr_ie c17 hf
          refine lv_aload_n hx hb prd_R_readBoth_56 rfl (lv_at hl 1 rfl) ?_
          refine pr_getr (t := 2) hx hb hts prs_R hown hK hP 3 1 (by decide) rfl (hts _ prw_111) rfl prd_R_readBoth_57 ?_
          refine lv_iload_n hx hb prd_R_readBoth_60 rfl (lv_at hl 0 rfl) ?_
          obtain ⟨r18, hr18, hf⟩ := pr_bi hf
          refine pr_callVv (rest := []) (res := r18) ⟨hx, hb, hml, hown, hts⟩ 2 (prc_G_leapToHere hD hX 1 (Nat.le_refl _) r16.2 r14 r18 hr18) (prg_G_leapToHere hts prw_185 (by have := hh; omega)) hX hXs hK hP hS (by decide) rfl rfl rfl rfl hl.1 (Nat.le_of_ble_eq_true rfl) prd_R_readBoth_61 (fun H locs hP hS => ?_)
          refine lv_iinc (v := (x2 + 1)) (lv' := [(2, .int (x2 + 1)), (3, .int r14), (0, .ref (ad 3)), (1, .int x1)]) hx hb prd_R_readBoth_64 hl (k := 3) rfl rfl (by decide) rfl (fun ls hl => ?_)
          refine lv_goto (tgt := 12) hx hb prd_R_readBoth_67 (by decide) ?_
          exact ih r18 x1 (x2 + 1) _ hf _ _ _ hP hS (lv_sub hl [2, 3, 0] rfl)
        · have hf := pr_it c17 hf
          refine lv_iconst (v := 0) hx hb prd_R_readBoth_54 (by decide) ?_
          exact pr_retz E (Or.inl rfl) hP hS (pr_so hf) prd_R_readBoth_55
set_option maxHeartbeats 4000000 in
set_option maxRecDepth 100000 in
theorem prc_R_readBoth {l : Launch} {D : va_G} {ad : Nat → Nat} {dA : Nat → ClassId} {A : Nat → Prop} {t : Nat} (hD : ∀ σ : pr_St, va_D A (pr_w prc_L ad dA σ)) (hX : pr_Xok A (prX t A)) (hd : Nat) (hb0 : 216 ≤ hd) (h : Nat) (hh : hd + 1 ≤ h) {rc : pr_St → Int32 → Option (Int32 × pr_St)} (Hrc0 : ∀ (σ : pr_St) (x1 : Int32) (res : (Int32 × pr_St)), rc σ x1 = some res → Met l pry_R_readTest (Cond.code pry_R_readTest prb_R_readTest 3 (some .boolean) :: pr_U) (pr_rm hd) (pr_Pc (prX t A) D pr_cl prc_L ad dA [.ref (ad 3), .int x1] σ) (pr_Qi D pr_cl prc_L ad dA A res) 0 0 A) (σ : pr_St) (x1 : Int32) (res : (Int32 × pr_St)) (hf : prf_R_readBoth rc σ x1 = some res) : Met l pry_R_readBoth (Cond.code pry_R_readBoth prb_R_readBoth 4 (some .boolean) :: pr_U) (pr_rm h) (pr_Pc (prX t A) D pr_cl prc_L ad dA [.ref (ad 3), .int x1] σ) (pr_Qi D pr_cl prc_L ad dA A res) 0 0 A := by
  refine pr_entry (cc := prb_R_readBoth) (maxL := 4) (ret := (some .boolean)) (by decide) (Nat.le_of_ble_eq_true rfl) hD hX ?_
  intro p e s m args below meth c E H locs hP hS ls hl
  have hl : lv_has ls 4 [(0, .ref (ad 3)), (1, .int x1)] := hl
  have hf := hf.symm
  unfold prf_R_readBoth at hf
  obtain ⟨hx, hb, hml, hown, hts, hr, hlocks, hK, hD, hX, hXs⟩ := id E
  refine lv_aload_n hx hb prd_R_readBoth_0 rfl (lv_at hl 0 rfl) ?_
  refine lv_iload_n hx hb prd_R_readBoth_1 rfl (lv_at hl 1 rfl) ?_
  obtain ⟨r19, hr19, hf⟩ := pr_bi hf
  refine pr_callVi (rest := []) (res := r19) ⟨hx, hb, hml, hown, hts⟩ 3 (Hrc0 σ x1 r19 hr19) (prg_R_readTest hts prw_183 (by have := hh; omega)) hX hXs hK hP hS (by decide) rfl rfl rfl rfl hl.1 (Nat.le_of_ble_eq_true rfl) prd_R_readBoth_2 (fun H locs hP hS => ?_)
  refine lv_if_ne (tgt := 10) hx hb prd_R_readBoth_5 (by decide) (fun c20 => ?_) (fun c20 => ?_)
  · have hf := pr_ie c20 hf
    refine lv_iconst (v := 0) hx hb prd_R_readBoth_10 (by decide) ?_
    refine lv_istore_n (lv' := [(2, .int 0), (0, .ref (ad 3)), (1, .int x1)]) hx hb prd_R_readBoth_11 rfl hl (by decide) rfl (fun ls hl => ?_)
    exact prk_R_readBoth_12 hd hb0 hh E Hrc0 pr_FU r19.2 x1 0 _ hf _ _ _ hP hS (lv_sub hl [1, 2, 0] rfl)
  · have hf := pr_it c20 hf
    refine lv_iconst (v := 0) hx hb prd_R_readBoth_8 (by decide) ?_
    exact pr_retz E (Or.inl rfl) hP hS (pr_so hf) prd_R_readBoth_9
-- R_readCond
set_option maxHeartbeats 4000000 in
set_option maxRecDepth 100000 in
theorem prk_R_readCond_18 {l : Launch} {D : va_G} {ad : Nat → Nat} {dA : Nat → ClassId} {A : Nat → Prop} {t : Nat} {p : Program} {e : Env} {s : State} {m : MethodId} {args : Array Value} {below : List Frame} {meth : Method} {c : Code} (hd : Nat) (hb0 : 216 ≤ hd) {h : Nat} (hh : hd + 2 ≤ h) (E : pr_cx prn_R prb_R_readCond 4 (some .boolean) D pr_cl prc_L ad dA A (prX t A) p s m args meth c) {rc : pr_St → Int32 → Option (Int32 × pr_St)} (Hrc0 : ∀ (σ : pr_St) (x1 : Int32) (res : (Int32 × pr_St)), rc σ x1 = some res → Met l pry_R_readTest (Cond.code pry_R_readTest prb_R_readTest 3 (some .boolean) :: pr_U) (pr_rm hd) (pr_Pc (prX t A) D pr_cl prc_L ad dA [.ref (ad 3), .int x1] σ) (pr_Qi D pr_cl prc_L ad dA A res) 0 0 A) : ∀ n : Nat, ∀ (σ : pr_St) (x1 : Int32) (x2 : Int32) (res : (Int32 × pr_St)), some res = prf_R_readCond_18 rc n σ x1 x2 → ∀ (H : Heap) (locs : List Loc) (ls : Array Slot), va_P D pr_cl (pr_w prc_L ad dA σ) H → va_S A s.heap H locs → lv_has ls 4 [(0, .ref (ad 3)), (1, .int x1), (2, .int x2)] → W p l e (pr_rm h) s m args below meth c H locs 0 0 (MQ below (pr_Qi D pr_cl prc_L ad dA A res) args s 0 0 A) (F0 m 18 ls []) := by
  obtain ⟨hx, hb, hml, hown, hts, hr, hlocks, hK, hD, hX, hXs⟩ := id E
  intro n
  induction n with
  | zero =>
    intro σ x1 x2 res hf
    rw [prf_R_readCond_18] at hf
    cases hf
  | succ n ih =>
    intro σ x1 x2 res hf H locs ls hP hS hl
    rw [prf_R_readCond_18] at hf
    refine lv_iload_n hx hb prd_R_readCond_18 rfl (lv_at hl 2 rfl) ?_
    refine lv_sipush (v := 8000) hx hb prd_R_readCond_19 (by decide) ?_
    refine lv_icmp_ge (tgt := 76) hx hb prd_R_readCond_22 (by decide) (fun c12 => ?_) (fun c12 => ?_)
    · have hf := pr_it c12 hf
      refine lv_iconst (v := 1) hx hb prd_R_readCond_76 (by decide) ?_
      exact pr_retz E (Or.inr rfl) hP hS (pr_so hf) prd_R_readCond_77
    · have hf := pr_ie c12 hf
      refine lv_aload_n hx hb prd_R_readCond_25 rfl (lv_at hl 0 rfl) ?_
      refine lv_bipush (v := 33) hx hb prd_R_readCond_26 (by decide) ?_
      obtain ⟨r13, hr13, hf⟩ := pr_bi hf
      refine pr_callVi (rest := []) (res := r13) ⟨hx, hb, hml, hown, hts⟩ 3 (prc_R_take hD hX 1 (Nat.le_refl _) σ 33 r13 hr13) (prg_R_take hts prw_99 (by have := hh; omega)) hX hXs hK hP hS (by decide) rfl rfl rfl rfl hl.1 (Nat.le_of_ble_eq_true rfl) prd_R_readCond_28 (fun H locs hP hS => ?_)
      refine lv_if_eq (tgt := 76) hx hb prd_R_readCond_31 (by decide) (fun c14 => ?_) (fun c14 => ?_)
      · have hf := pr_it c14 hf
        refine lv_iconst (v := 1) hx hb prd_R_readCond_76 (by decide) ?_
        exact pr_retz E (Or.inr rfl) hP hS (pr_so hf) prd_R_readCond_77
      · have hf := pr_ie c14 hf
        refine lv_aload_n hx hb prd_R_readCond_34 rfl (lv_at hl 0 rfl) ?_
        refine pr_getr (t := 2) hx hb hts prs_R hown hK hP 3 1 (by decide) rfl (hts _ prw_111) rfl prd_R_readCond_35 ?_
        obtain ⟨r15, hr15, hf⟩ := pr_bi hf
        refine pr_callVr (rest := []) (r := r15) ⟨hx, hb, hml, hown, hts⟩ 2 (prc_G_operationCount hD hX 0 (Nat.le_refl _) r13.2  r15 hr15) (prg_G_operationCount hts prw_184 (by have := hh; omega)) hX hXs hK hP hS (by decide) rfl rfl rfl rfl hl.1 (Nat.le_of_ble_eq_true rfl) prd_R_readCond_38 (fun H locs hP hS => ?_)
        refine lv_istore_n (lv' := [(3, .int r15), (0, .ref (ad 3)), (1, .int x1), (2, .int x2)]) hx hb prd_R_readCond_41 rfl hl (by decide) rfl (fun ls hl => ?_)
        refine lv_aload_n hx hb prd_R_readCond_42 rfl (lv_at hl 1 rfl) ?_
        refine pr_getr (t := 2) hx hb hts prs_R hown hK hP 3 1 (by decide) rfl (hts _ prw_111) rfl prd_R_readCond_43 ?_
        refine lv_bipush (v := 33) hx hb prd_R_readCond_46 (by decide) ?_
        refine lv_iconst (v := (-1)) hx hb prd_R_readCond_48 (by decide) ?_
        obtain ⟨r16, hr16, hf⟩ := pr_bi hf
        refine pr_callVv (rest := []) (res := r16) ⟨hx, hb, hml, hown, hts⟩ 2 (prc_G_addOperation hD hX 0 (Nat.le_refl _) r13.2 33 (-1) r16 hr16) (prg_G_addOperation hts prw_143 (by have := hh; omega)) hX hXs hK hP hS (by decide) rfl rfl rfl rfl hl.1 (Nat.le_of_ble_eq_true rfl) prd_R_readCond_49 (fun H locs hP hS => ?_)
        refine lv_aload_n hx hb prd_R_readCond_52 rfl (lv_at hl 1 rfl) ?_
        refine lv_iload_n hx hb prd_R_readCond_53 rfl (lv_at hl 2 rfl) ?_
        obtain ⟨r17, hr17, hf⟩ := pr_bi hf
        refine pr_callVi (rest := []) (res := r17) ⟨hx, hb, hml, hown, hts⟩ 3 (prc_R_readBoth hD hX hd hb0 (hd + 1) (Nat.le_refl _) Hrc0 r16 x1 r17 hr17) (prg_R_readBoth hts prw_189 (by have := hh; omega)) hX hXs hK hP hS (by decide) rfl rfl rfl rfl hl.1 (Nat.le_of_ble_eq_true rfl) prd_R_readCond_54 (fun H locs hP hS => ?_)
        refine lv_if_ne (tgt := 62) hx hb prd_R_readCond_57 (by decide) (fun c18 => ?_) (fun c18 => ?_)
        · have hf := pr_ie c18 hf
          refine lv_aload_n hx hb prd_R_readCond_62 rfl (lv_at hl 1 rfl) ?_
          refine pr_getr (t := 2) hx hb hts prs_R hown hK hP 3 1 (by decide) rfl (hts _ prw_111) rfl prd_R_readCond_63 ?_
          refine lv_iload_n hx hb prd_R_readCond_66 rfl (lv_at hl 0 rfl) ?_
          obtain ⟨r19, hr19, hf⟩ := pr_bi hf
          refine pr_callVv (rest := []) (res := r19) ⟨hx, hb, hml, hown, hts⟩ 2 (prc_G_leapToHere hD hX 1 (Nat.le_refl _) r17.2 r15 r19 hr19) (prg_G_leapToHere hts prw_185 (by have := hh; omega)) hX hXs hK hP hS (by decide) rfl rfl rfl rfl hl.1 (Nat.le_of_ble_eq_true rfl) prd_R_readCond_67 (fun H locs hP hS => ?_)
          refine lv_iinc (v := (x2 + 1)) (lv' := [(2, .int (x2 + 1)), (3, .int r15), (0, .ref (ad 3)), (1, .int x1)]) hx hb prd_R_readCond_70 hl (k := 3) rfl rfl (by decide) rfl (fun ls hl => ?_)
          refine lv_goto (tgt := 18) hx hb prd_R_readCond_73 (by decide) ?_
          exact ih r19 x1 (x2 + 1) _ hf _ _ _ hP hS (lv_sub hl [2, 3, 0] rfl)
        · have hf := pr_it c18 hf
          refine lv_iconst (v := 0) hx hb prd_R_readCond_60 (by decide) ?_
          exact pr_retz E (Or.inl rfl) hP hS (pr_so hf) prd_R_readCond_61
set_option maxHeartbeats 4000000 in
set_option maxRecDepth 100000 in
theorem prc_R_readCond {l : Launch} {D : va_G} {ad : Nat → Nat} {dA : Nat → ClassId} {A : Nat → Prop} {t : Nat} (hD : ∀ σ : pr_St, va_D A (pr_w prc_L ad dA σ)) (hX : pr_Xok A (prX t A)) (hd : Nat) (hb0 : 216 ≤ hd) (h : Nat) (hh : hd + 2 ≤ h) {rc : pr_St → Int32 → Option (Int32 × pr_St)} (Hrc0 : ∀ (σ : pr_St) (x1 : Int32) (res : (Int32 × pr_St)), rc σ x1 = some res → Met l pry_R_readTest (Cond.code pry_R_readTest prb_R_readTest 3 (some .boolean) :: pr_U) (pr_rm hd) (pr_Pc (prX t A) D pr_cl prc_L ad dA [.ref (ad 3), .int x1] σ) (pr_Qi D pr_cl prc_L ad dA A res) 0 0 A) (σ : pr_St) (x1 : Int32) (res : (Int32 × pr_St)) (hf : prf_R_readCond rc σ x1 = some res) : Met l pry_R_readCond (Cond.code pry_R_readCond prb_R_readCond 4 (some .boolean) :: pr_U) (pr_rm h) (pr_Pc (prX t A) D pr_cl prc_L ad dA [.ref (ad 3), .int x1] σ) (pr_Qi D pr_cl prc_L ad dA A res) 0 0 A := by
  refine pr_entry (cc := prb_R_readCond) (maxL := 4) (ret := (some .boolean)) (by decide) (Nat.le_of_ble_eq_true rfl) hD hX ?_
  intro p e s m args below meth c E H locs hP hS ls hl
  have hl : lv_has ls 4 [(0, .ref (ad 3)), (1, .int x1)] := hl
  have hf := hf.symm
  unfold prf_R_readCond at hf
  obtain ⟨hx, hb, hml, hown, hts, hr, hlocks, hK, hD, hX, hXs⟩ := id E
  refine lv_iload_n hx hb prd_R_readCond_0 rfl (lv_at hl 1 rfl) ?_
  refine lv_bipush (v := 60) hx hb prd_R_readCond_1 (by decide) ?_
  refine lv_icmp_gt (tgt := 14) hx hb prd_R_readCond_3 (by decide) (fun c20 => ?_) (fun c20 => ?_)
  · have hf := pr_it c20 hf
    refine lv_iconst (v := 0) hx hb prd_R_readCond_14 (by decide) ?_
    exact pr_retz E (Or.inl rfl) hP hS (pr_so hf) prd_R_readCond_15
  · have hf := pr_ie c20 hf
    refine lv_aload_n hx hb prd_R_readCond_6 rfl (lv_at hl 0 rfl) ?_
    refine lv_iload_n hx hb prd_R_readCond_7 rfl (lv_at hl 1 rfl) ?_
    obtain ⟨r21, hr21, hf⟩ := pr_bi hf
    refine pr_callVi (rest := []) (res := r21) ⟨hx, hb, hml, hown, hts⟩ 3 (prc_R_readBoth hD hX hd hb0 (hd + 1) (Nat.le_refl _) Hrc0 σ x1 r21 hr21) (prg_R_readBoth hts prw_189 (by have := hh; omega)) hX hXs hK hP hS (by decide) rfl rfl rfl rfl hl.1 (Nat.le_of_ble_eq_true rfl) prd_R_readCond_8 (fun H locs hP hS => ?_)
    refine lv_if_ne (tgt := 16) hx hb prd_R_readCond_11 (by decide) (fun c22 => ?_) (fun c22 => ?_)
    · have hf := pr_ie c22 hf
      refine lv_iconst (v := 0) hx hb prd_R_readCond_16 (by decide) ?_
      refine lv_istore_n (lv' := [(2, .int 0), (0, .ref (ad 3)), (1, .int x1)]) hx hb prd_R_readCond_17 rfl hl (by decide) rfl (fun ls hl => ?_)
      exact prk_R_readCond_18 hd hb0 hh E Hrc0 pr_FU r21.2 x1 0 _ hf _ _ _ hP hS (lv_sub hl [1, 2, 0] rfl)
    · have hf := pr_it c22 hf
      refine lv_iconst (v := 0) hx hb prd_R_readCond_14 (by decide) ?_
      exact pr_retz E (Or.inl rfl) hP hS (pr_so hf) prd_R_readCond_15
-- R_readTest
set_option maxHeartbeats 4000000 in
set_option maxRecDepth 100000 in
theorem prc_R_readTest {l : Launch} {D : va_G} {ad : Nat → Nat} {dA : Nat → ClassId} {A : Nat → Prop} {t : Nat} (hD : ∀ σ : pr_St, va_D A (pr_w prc_L ad dA σ)) (hX : pr_Xok A (prX t A)) (hd : Nat) (hb0 : 216 ≤ hd) (h : Nat) (hh : hd + 3 ≤ h) {rc : pr_St → Int32 → Option (Int32 × pr_St)} (Hrc0 : ∀ (σ : pr_St) (x1 : Int32) (res : (Int32 × pr_St)), rc σ x1 = some res → Met l pry_R_readTest (Cond.code pry_R_readTest prb_R_readTest 3 (some .boolean) :: pr_U) (pr_rm hd) (pr_Pc (prX t A) D pr_cl prc_L ad dA [.ref (ad 3), .int x1] σ) (pr_Qi D pr_cl prc_L ad dA A res) 0 0 A) (σ : pr_St) (x1 : Int32) (res : (Int32 × pr_St)) (hf : prf_R_readTest rc σ x1 = some res) : Met l pry_R_readTest (Cond.code pry_R_readTest prb_R_readTest 3 (some .boolean) :: pr_U) (pr_rm h) (pr_Pc (prX t A) D pr_cl prc_L ad dA [.ref (ad 3), .int x1] σ) (pr_Qi D pr_cl prc_L ad dA A res) 0 0 A := by
  refine pr_entry (cc := prb_R_readTest) (maxL := 3) (ret := (some .boolean)) (by decide) (Nat.le_of_ble_eq_true rfl) hD hX ?_
  intro p e s m args below meth c E H locs hP hS ls hl
  have hl : lv_has ls 3 [(0, .ref (ad 3)), (1, .int x1)] := hl
  have hf := hf.symm
  unfold prf_R_readTest at hf
  obtain ⟨hx, hb, hml, hown, hts, hr, hlocks, hK, hD, hX, hXs⟩ := id E
  refine lv_aload_n hx hb prd_R_readTest_0 rfl (lv_at hl 0 rfl) ?_
  refine lv_bipush (v := 34) hx hb prd_R_readTest_1 (by decide) ?_
  obtain ⟨r21, hr21, hf⟩ := pr_bi hf
  refine pr_callVi (rest := []) (res := r21) ⟨hx, hb, hml, hown, hts⟩ 3 (prc_R_take hD hX 1 (Nat.le_refl _) σ 34 r21 hr21) (prg_R_take hts prw_99 (by have := hh; omega)) hX hXs hK hP hS (by decide) rfl rfl rfl rfl hl.1 (Nat.le_of_ble_eq_true rfl) prd_R_readTest_3 (fun H locs hP hS => ?_)
  refine lv_if_eq (tgt := 39) hx hb prd_R_readTest_6 (by decide) (fun c22 => ?_) (fun c22 => ?_)
  · have hf := pr_it c22 hf
    refine lv_aload_n hx hb prd_R_readTest_39 rfl (lv_at hl 0 rfl) ?_
    refine lv_bipush (v := 16) hx hb prd_R_readTest_40 (by decide) ?_
    obtain ⟨r23, hr23, hf⟩ := pr_bi hf
    refine pr_callVi (rest := []) (res := r23) ⟨hx, hb, hml, hown, hts⟩ 3 (prc_R_take hD hX 1 (Nat.le_refl _) r21.2 16 r23 hr23) (prg_R_take hts prw_99 (by have := hh; omega)) hX hXs hK hP hS (by decide) rfl rfl rfl rfl hl.1 (Nat.le_of_ble_eq_true rfl) prd_R_readTest_42 (fun H locs hP hS => ?_)
    refine lv_if_eq (tgt := 73) hx hb prd_R_readTest_45 (by decide) (fun c24 => ?_) (fun c24 => ?_)
    · have hf := pr_it c24 hf
      refine lv_aload_n hx hb prd_R_readTest_73 rfl (lv_at hl 0 rfl) ?_
      refine lv_iload_n hx hb prd_R_readTest_74 rfl (lv_at hl 1 rfl) ?_
      refine lv_iconst (v := 1) hx hb prd_R_readTest_75 (by decide) ?_
      refine lv_iadd hx hb prd_R_readTest_76 ?_
      obtain ⟨r25, hr25, hf⟩ := pr_bi hf
      refine pr_callVi (rest := []) (res := r25) ⟨hx, hb, hml, hown, hts⟩ 3 (prct_R_readSum hD hX r23.2 (x1 + 1) r25 hr25) (prg_R_readSum hts prw_151 (by have := hh; omega)) hX hXs hK hP hS (by decide) rfl rfl rfl rfl hl.1 (Nat.le_of_ble_eq_true rfl) prd_R_readTest_77 (fun H locs hP hS => ?_)
      refine lv_if_ne (tgt := 85) hx hb prd_R_readTest_80 (by decide) (fun c26 => ?_) (fun c26 => ?_)
      · have hf := pr_ie c26 hf
        refine lv_aload_n hx hb prd_R_readTest_85 rfl (lv_at hl 0 rfl) ?_
        obtain ⟨r27, hr27, hf⟩ := pr_bi hf
        refine pr_callVr (rest := []) (r := r27) ⟨hx, hb, hml, hown, hts⟩ 3 (prc_R_now hD hX 1 (Nat.le_refl _) r25.2  r27 hr27) (prg_R_now hts prw_109 (by have := hh; omega)) hX hXs hK hP hS (by decide) rfl rfl rfl rfl hl.1 (Nat.le_of_ble_eq_true rfl) prd_R_readTest_86 (fun H locs hP hS => ?_)
        refine lv_istore_n (lv' := [(2, .int r27), (0, .ref (ad 3)), (1, .int x1)]) hx hb prd_R_readTest_89 rfl hl (by decide) rfl (fun ls hl => ?_)
        refine lv_iload_n hx hb prd_R_readTest_90 rfl (lv_at hl 0 rfl) ?_
        refine lv_bipush (v := 26) hx hb prd_R_readTest_91 (by decide) ?_
        refine lv_icmp_lt (tgt := 102) hx hb prd_R_readTest_93 (by decide) (fun c28 => ?_) (fun c28 => ?_)
        · have hf := pr_it c28 hf
          refine lv_iconst (v := 0) hx hb prd_R_readTest_102 (by decide) ?_
          exact pr_retz E (Or.inl rfl) hP hS (pr_so hf) prd_R_readTest_103
        · have hf := pr_ie c28 hf
          refine lv_iload_n hx hb prd_R_readTest_96 rfl (lv_at hl 0 rfl) ?_
          refine lv_bipush (v := 31) hx hb prd_R_readTest_97 (by decide) ?_
          refine lv_icmp_le (tgt := 104) hx hb prd_R_readTest_99 (by decide) (fun c29 => ?_) (fun c29 => ?_)
          · have hf := pr_it c29 hf
            refine lv_aload_n hx hb prd_R_readTest_104 rfl (lv_at hl 1 rfl) ?_
            refine lv_dup hx hb prd_R_readTest_105 rfl ?_
            refine pr_geti (v := (r25.2.1 3 2)) hx hb hts prs_R hown hK hP 3 2 (by decide) rfl (hts _ prw_90) rfl rfl prd_R_readTest_106 ?_
            refine lv_iconst (v := 1) hx hb prd_R_readTest_109 (by decide) ?_
            refine lv_iadd hx hb prd_R_readTest_110 ?_
            refine pr_puti (ty := .int) hx hb hts prs_R prq_R prtt_R prtn_R hown hK hP (hD _) hS 3 2 (by decide) rfl (hts _ prw_90) rfl rfl (prtt_R 2 (by decide)) rfl rfl prd_R_readTest_111 (fun H locs hP hS => ?_)
            refine lv_aload_n hx hb prd_R_readTest_114 rfl (lv_at hl 1 rfl) ?_
            refine lv_iload_n hx hb prd_R_readTest_115 rfl (lv_at hl 2 rfl) ?_
            refine lv_iconst (v := 1) hx hb prd_R_readTest_116 (by decide) ?_
            refine lv_iadd hx hb prd_R_readTest_117 ?_
            obtain ⟨r30, hr30, hf⟩ := pr_bi hf
            refine pr_callVi (rest := []) (res := r30) ⟨hx, hb, hml, hown, hts⟩ 3 (prct_R_readSum hD hX (pr_sI r25.2 3 2 ((r25.2.1 3 2) + 1)) (x1 + 1) r30 hr30) (prg_R_readSum hts prw_151 (by have := hh; omega)) hX hXs hK hP hS (by decide) rfl rfl rfl rfl hl.1 (Nat.le_of_ble_eq_true rfl) prd_R_readTest_118 (fun H locs hP hS => ?_)
            refine lv_if_ne (tgt := 126) hx hb prd_R_readTest_121 (by decide) (fun c31 => ?_) (fun c31 => ?_)
            · have hf := pr_ie c31 hf
              refine lv_aload_n hx hb prd_R_readTest_126 rfl (lv_at hl 1 rfl) ?_
              refine pr_getr (t := 2) hx hb hts prs_R hown hK hP 3 1 (by decide) rfl (hts _ prw_111) rfl prd_R_readTest_127 ?_
              refine lv_iload_n hx hb prd_R_readTest_130 rfl (lv_at hl 0 rfl) ?_
              refine lv_iconst (v := (-1)) hx hb prd_R_readTest_131 (by decide) ?_
              obtain ⟨r32, hr32, hf⟩ := pr_bi hf
              refine pr_callVv (rest := []) (res := r32) ⟨hx, hb, hml, hown, hts⟩ 2 (prc_G_addOperation hD hX 0 (Nat.le_refl _) r30.2 r27 (-1) r32 hr32) (prg_G_addOperation hts prw_143 (by have := hh; omega)) hX hXs hK hP hS (by decide) rfl rfl rfl rfl hl.1 (Nat.le_of_ble_eq_true rfl) prd_R_readTest_132 (fun H locs hP hS => ?_)
              refine lv_iconst (v := 1) hx hb prd_R_readTest_135 (by decide) ?_
              exact pr_retz E (Or.inr rfl) hP hS (pr_so hf) prd_R_readTest_136
            · have hf := pr_it c31 hf
              refine lv_iconst (v := 0) hx hb prd_R_readTest_124 (by decide) ?_
              exact pr_retz E (Or.inl rfl) hP hS (pr_so hf) prd_R_readTest_125
          · have hf := pr_ie c29 hf
            refine lv_iconst (v := 0) hx hb prd_R_readTest_102 (by decide) ?_
            exact pr_retz E (Or.inl rfl) hP hS (pr_so hf) prd_R_readTest_103
      · have hf := pr_it c26 hf
        refine lv_iconst (v := 0) hx hb prd_R_readTest_83 (by decide) ?_
        exact pr_retz E (Or.inl rfl) hP hS (pr_so hf) prd_R_readTest_84
    · have hf := pr_ie c24 hf
      refine lv_aload_n hx hb prd_R_readTest_48 rfl (lv_at hl 0 rfl) ?_
      refine lv_iload_n hx hb prd_R_readTest_49 rfl (lv_at hl 1 rfl) ?_
      refine lv_iconst (v := 1) hx hb prd_R_readTest_50 (by decide) ?_
      refine lv_iadd hx hb prd_R_readTest_51 ?_
      obtain ⟨r33, hr33, hf⟩ := pr_bi hf
      refine pr_callVi (rest := []) (res := r33) ⟨hx, hb, hml, hown, hts⟩ 3 (prc_R_readCond hD hX hd hb0 (hd + 2) (Nat.le_refl _) Hrc0 r23.2 (x1 + 1) r33 hr33) (prg_R_readCond hts prw_193 (by have := hh; omega)) hX hXs hK hP hS (by decide) rfl rfl rfl rfl hl.1 (Nat.le_of_ble_eq_true rfl) prd_R_readTest_52 (fun H locs hP hS => ?_)
      refine lv_if_eq (tgt := 71) hx hb prd_R_readTest_55 (by decide) (fun c34 => ?_) (fun c34 => ?_)
      · have hf := pr_it c34 hf
        refine lv_iconst (v := 0) hx hb prd_R_readTest_71 (by decide) ?_
        exact pr_retz E (Or.inl rfl) hP hS (pr_so hf) prd_R_readTest_72
      · have hf := pr_ie c34 hf
        refine lv_aload_n hx hb prd_R_readTest_58 rfl (lv_at hl 0 rfl) ?_
        refine lv_bipush (v := 17) hx hb prd_R_readTest_59 (by decide) ?_
        obtain ⟨r35, hr35, hf⟩ := pr_bi hf
        refine pr_callVi (rest := []) (res := r35) ⟨hx, hb, hml, hown, hts⟩ 3 (prc_R_take hD hX 1 (Nat.le_refl _) r33.2 17 r35 hr35) (prg_R_take hts prw_99 (by have := hh; omega)) hX hXs hK hP hS (by decide) rfl rfl rfl rfl hl.1 (Nat.le_of_ble_eq_true rfl) prd_R_readTest_61 (fun H locs hP hS => ?_)
        refine lv_if_eq (tgt := 71) hx hb prd_R_readTest_64 (by decide) (fun c36 => ?_) (fun c36 => ?_)
        · have hf := pr_it c36 hf
          refine lv_iconst (v := 0) hx hb prd_R_readTest_71 (by decide) ?_
          exact pr_retz E (Or.inl rfl) hP hS (pr_so hf) prd_R_readTest_72
        · have hf := pr_ie c36 hf
          refine lv_iconst (v := 1) hx hb prd_R_readTest_67 (by decide) ?_
          refine lv_goto (tgt := 72) hx hb prd_R_readTest_68 (by decide) ?_
          exact pr_retz E (Or.inr rfl) hP hS (pr_so hf) prd_R_readTest_72
  · have hf := pr_ie c22 hf
    refine lv_iload_n hx hb prd_R_readTest_9 rfl (lv_at hl 1 rfl) ?_
    refine lv_bipush (v := 60) hx hb prd_R_readTest_10 (by decide) ?_
    refine lv_icmp_ge (tgt := 25) hx hb prd_R_readTest_12 (by decide) (fun c37 => ?_) (fun c37 => ?_)
    · have hf := pr_it c37 hf
      refine lv_iconst (v := 0) hx hb prd_R_readTest_25 (by decide) ?_
      exact pr_retz E (Or.inl rfl) hP hS (pr_so hf) prd_R_readTest_26
    · have hf := pr_ie c37 hf
      refine lv_aload_n hx hb prd_R_readTest_15 rfl (lv_at hl 0 rfl) ?_
      refine lv_iload_n hx hb prd_R_readTest_16 rfl (lv_at hl 1 rfl) ?_
      refine lv_iconst (v := 1) hx hb prd_R_readTest_17 (by decide) ?_
      refine lv_iadd hx hb prd_R_readTest_18 ?_
      obtain ⟨r38, hr38, hf⟩ := pr_bi hf
      refine pr_callVi (rest := []) (res := r38) ⟨hx, hb, hml, hown, hts⟩ 3 (Hrc0 r21.2 (x1 + 1) r38 hr38) (prg_R_readTest hts prw_183 (by have := hh; omega)) hX hXs hK hP hS (by decide) rfl rfl rfl rfl hl.1 (Nat.le_of_ble_eq_true rfl) prd_R_readTest_19 (fun H locs hP hS => ?_)
      refine lv_if_ne (tgt := 27) hx hb prd_R_readTest_22 (by decide) (fun c39 => ?_) (fun c39 => ?_)
      · have hf := pr_ie c39 hf
        refine lv_aload_n hx hb prd_R_readTest_27 rfl (lv_at hl 0 rfl) ?_
        refine pr_getr (t := 2) hx hb hts prs_R hown hK hP 3 1 (by decide) rfl (hts _ prw_111) rfl prd_R_readTest_28 ?_
        refine lv_bipush (v := 34) hx hb prd_R_readTest_31 (by decide) ?_
        refine lv_iconst (v := (-1)) hx hb prd_R_readTest_33 (by decide) ?_
        obtain ⟨r40, hr40, hf⟩ := pr_bi hf
        refine pr_callVv (rest := []) (res := r40) ⟨hx, hb, hml, hown, hts⟩ 2 (prc_G_addOperation hD hX 0 (Nat.le_refl _) r38.2 34 (-1) r40 hr40) (prg_G_addOperation hts prw_143 (by have := hh; omega)) hX hXs hK hP hS (by decide) rfl rfl rfl rfl hl.1 (Nat.le_of_ble_eq_true rfl) prd_R_readTest_34 (fun H locs hP hS => ?_)
        refine lv_iconst (v := 1) hx hb prd_R_readTest_37 (by decide) ?_
        exact pr_retz E (Or.inr rfl) hP hS (pr_so hf) prd_R_readTest_38
      · have hf := pr_it c39 hf
        refine lv_iconst (v := 0) hx hb prd_R_readTest_25 (by decide) ?_
        exact pr_retz E (Or.inl rfl) hP hS (pr_so hf) prd_R_readTest_26
-- prF_R_readTest
set_option maxHeartbeats 4000000 in
theorem prF_R_readTest_ok {l : Launch} {D : va_G} {ad : Nat → Nat} {dA : Nat → ClassId} {A : Nat → Prop} {t : Nat} (hD : ∀ σ : pr_St, va_D A (pr_w prc_L ad dA σ)) (hX : pr_Xok A (prX t A)) : ∀ n : Nat, (∀ (σ : pr_St) (x1 : Int32) (res : (Int32 × pr_St)), prF_R_readTest n σ x1 = some res → Met l pry_R_readTest (Cond.code pry_R_readTest prb_R_readTest 3 (some .boolean) :: pr_U) (pr_rm (216 + 3 * n)) (pr_Pc (prX t A) D pr_cl prc_L ad dA [.ref (ad 3), .int x1] σ) (pr_Qi D pr_cl prc_L ad dA A res) 0 0 A) := by
  intro n
  induction n with
  | zero => exact (fun σ x1 res hf => by cases hf)
  | succ n ih =>
    have i0 := ih
    exact fun σ x1 res hf => prc_R_readTest hD hX (216 + 3 * n) (by omega) (216 + 3 * (n + 1)) (by omega) i0 σ x1 res hf
theorem prct_R_readTest {l : Launch} {D : va_G} {ad : Nat → Nat} {dA : Nat → ClassId} {A : Nat → Prop} {t : Nat} (hD : ∀ σ : pr_St, va_D A (pr_w prc_L ad dA σ)) (hX : pr_Xok A (prX t A)) (σ : pr_St) (x1 : Int32) (res : (Int32 × pr_St)) (hf : prf_R_readTest (prF_R_readTest 70) σ x1 = some res) : Met l pry_R_readTest (Cond.code pry_R_readTest prb_R_readTest 3 (some .boolean) :: pr_U) (pr_rm 429) (pr_Pc (prX t A) D pr_cl prc_L ad dA [.ref (ad 3), .int x1] σ) (pr_Qi D pr_cl prc_L ad dA A res) 0 0 A :=
  prc_R_readTest hD hX (216 + 3 * 70) (by decide) 429 (by decide) (prF_R_readTest_ok hD hX 70) σ x1 res hf
theorem prct_R_readBoth {l : Launch} {D : va_G} {ad : Nat → Nat} {dA : Nat → ClassId} {A : Nat → Prop} {t : Nat} (hD : ∀ σ : pr_St, va_D A (pr_w prc_L ad dA σ)) (hX : pr_Xok A (prX t A)) (σ : pr_St) (x1 : Int32) (res : (Int32 × pr_St)) (hf : prf_R_readBoth (prF_R_readTest 70) σ x1 = some res) : Met l pry_R_readBoth (Cond.code pry_R_readBoth prb_R_readBoth 4 (some .boolean) :: pr_U) (pr_rm 427) (pr_Pc (prX t A) D pr_cl prc_L ad dA [.ref (ad 3), .int x1] σ) (pr_Qi D pr_cl prc_L ad dA A res) 0 0 A :=
  prc_R_readBoth hD hX (216 + 3 * 70) (by decide) 427 (by decide) (prF_R_readTest_ok hD hX 70) σ x1 res hf
theorem prct_R_readCond {l : Launch} {D : va_G} {ad : Nat → Nat} {dA : Nat → ClassId} {A : Nat → Prop} {t : Nat} (hD : ∀ σ : pr_St, va_D A (pr_w prc_L ad dA σ)) (hX : pr_Xok A (prX t A)) (σ : pr_St) (x1 : Int32) (res : (Int32 × pr_St)) (hf : prf_R_readCond (prF_R_readTest 70) σ x1 = some res) : Met l pry_R_readCond (Cond.code pry_R_readCond prb_R_readCond 4 (some .boolean) :: pr_U) (pr_rm 428) (pr_Pc (prX t A) D pr_cl prc_L ad dA [.ref (ad 3), .int x1] σ) (pr_Qi D pr_cl prc_L ad dA A res) 0 0 A :=
  prc_R_readCond hD hX (216 + 3 * 70) (by decide) 428 (by decide) (prF_R_readTest_ok hD hX 70) σ x1 res hf
-- R_readBlock
set_option maxHeartbeats 4000000 in
set_option maxRecDepth 100000 in
theorem prk_R_readBlock_19 {l : Launch} {D : va_G} {ad : Nat → Nat} {dA : Nat → ClassId} {A : Nat → Prop} {t : Nat} {p : Program} {e : Env} {s : State} {m : MethodId} {args : Array Value} {below : List Frame} {meth : Method} {c : Code} (hd : Nat) (hb0 : 429 ≤ hd) {h : Nat} (hh : hd + 1 ≤ h) (E : pr_cx prn_R prb_R_readBlock 3 (some .boolean) D pr_cl prc_L ad dA A (prX t A) p s m args meth c) {rc : pr_St → Int32 → Option (Int32 × pr_St)} (Hrc0 : ∀ (σ : pr_St) (x1 : Int32) (res : (Int32 × pr_St)), rc σ x1 = some res → Met l pry_R_readStatement (Cond.code pry_R_readStatement prb_R_readStatement 5 (some .boolean) :: pr_U) (pr_rm hd) (pr_Pc (prX t A) D pr_cl prc_L ad dA [.ref (ad 3), .int x1] σ) (pr_Qi D pr_cl prc_L ad dA A res) 0 0 A) : ∀ n : Nat, ∀ (σ : pr_St) (x1 : Int32) (x2 : Int32) (res : (Int32 × pr_St)), some res = prf_R_readBlock_19 rc n σ x1 x2 → ∀ (H : Heap) (locs : List Loc) (ls : Array Slot), va_P D pr_cl (pr_w prc_L ad dA σ) H → va_S A s.heap H locs → lv_has ls 3 [(0, .ref (ad 3)), (1, .int x1), (2, .int x2)] → W p l e (pr_rm h) s m args below meth c H locs 0 0 (MQ below (pr_Qi D pr_cl prc_L ad dA A res) args s 0 0 A) (F0 m 19 ls []) := by
  obtain ⟨hx, hb, hml, hown, hts, hr, hlocks, hK, hD, hX, hXs⟩ := id E
  intro n
  induction n with
  | zero =>
    intro σ x1 x2 res hf
    rw [prf_R_readBlock_19] at hf
    cases hf
  | succ n ih =>
    intro σ x1 x2 res hf H locs ls hP hS hl
    rw [prf_R_readBlock_19] at hf
    refine lv_iload_n hx hb prd_R_readBlock_19 rfl (lv_at hl 2 rfl) ?_
    refine lv_sipush (v := 8000) hx hb prd_R_readBlock_20 (by decide) ?_
    refine lv_icmp_ge (tgt := 51) hx hb prd_R_readBlock_23 (by decide) (fun c13 => ?_) (fun c13 => ?_)
    · have hf := pr_it c13 hf
      refine lv_aload_n hx hb prd_R_readBlock_51 rfl (lv_at hl 0 rfl) ?_
      refine lv_bipush (v := 15) hx hb prd_R_readBlock_52 (by decide) ?_
      obtain ⟨r14, hr14, hf⟩ := pr_bi hf
      refine pr_callVi (rest := []) (res := r14) ⟨hx, hb, hml, hown, hts⟩ 3 (prc_R_take hD hX 1 (Nat.le_refl _) σ 15 r14 hr14) (prg_R_take hts prw_99 (by have := hh; omega)) hX hXs hK hP hS (by decide) rfl rfl rfl rfl hl.1 (Nat.le_of_ble_eq_true rfl) prd_R_readBlock_54 (fun H locs hP hS => ?_)
      obtain ⟨hz15, hf⟩ := pr_z_in hf
      exact pr_retz E hz15 hP hS (pr_so hf) prd_R_readBlock_57
    · have hf := pr_ie c13 hf
      refine lv_aload_n hx hb prd_R_readBlock_26 rfl (lv_at hl 0 rfl) ?_
      obtain ⟨r16, hr16, hf⟩ := pr_bi hf
      refine pr_callVr (rest := []) (r := r16) ⟨hx, hb, hml, hown, hts⟩ 3 (prc_R_now hD hX 1 (Nat.le_refl _) σ  r16 hr16) (prg_R_now hts prw_109 (by have := hh; omega)) hX hXs hK hP hS (by decide) rfl rfl rfl rfl hl.1 (Nat.le_of_ble_eq_true rfl) prd_R_readBlock_27 (fun H locs hP hS => ?_)
      refine lv_bipush (v := 15) hx hb prd_R_readBlock_30 (by decide) ?_
      refine lv_icmp_eq (tgt := 51) hx hb prd_R_readBlock_32 (by decide) (fun c17 => ?_) (fun c17 => ?_)
      · have hf := pr_it c17 hf
        refine lv_aload_n hx hb prd_R_readBlock_51 rfl (lv_at hl 0 rfl) ?_
        refine lv_bipush (v := 15) hx hb prd_R_readBlock_52 (by decide) ?_
        obtain ⟨r18, hr18, hf⟩ := pr_bi hf
        refine pr_callVi (rest := []) (res := r18) ⟨hx, hb, hml, hown, hts⟩ 3 (prc_R_take hD hX 1 (Nat.le_refl _) σ 15 r18 hr18) (prg_R_take hts prw_99 (by have := hh; omega)) hX hXs hK hP hS (by decide) rfl rfl rfl rfl hl.1 (Nat.le_of_ble_eq_true rfl) prd_R_readBlock_54 (fun H locs hP hS => ?_)
        obtain ⟨hz19, hf⟩ := pr_z_in hf
        exact pr_retz E hz19 hP hS (pr_so hf) prd_R_readBlock_57
      · have hf := pr_ie c17 hf
        refine lv_aload_n hx hb prd_R_readBlock_35 rfl (lv_at hl 0 rfl) ?_
        refine lv_iload_n hx hb prd_R_readBlock_36 rfl (lv_at hl 1 rfl) ?_
        obtain ⟨r20, hr20, hf⟩ := pr_bi hf
        refine pr_callVi (rest := []) (res := r20) ⟨hx, hb, hml, hown, hts⟩ 3 (Hrc0 σ x1 r20 hr20) (prg_R_readStatement hts prw_205 (by have := hh; omega)) hX hXs hK hP hS (by decide) rfl rfl rfl rfl hl.1 (Nat.le_of_ble_eq_true rfl) prd_R_readBlock_37 (fun H locs hP hS => ?_)
        refine lv_if_ne (tgt := 45) hx hb prd_R_readBlock_40 (by decide) (fun c21 => ?_) (fun c21 => ?_)
        · have hf := pr_ie c21 hf
          refine lv_iinc (v := (x2 + 1)) (lv' := [(2, .int (x2 + 1)), (0, .ref (ad 3)), (1, .int x1)]) hx hb prd_R_readBlock_45 hl (k := 2) rfl rfl (by decide) rfl (fun ls hl => ?_)
          refine lv_goto (tgt := 19) hx hb prd_R_readBlock_48 (by decide) ?_
          exact ih r20.2 x1 (x2 + 1) _ hf _ _ _ hP hS (lv_sub hl [1, 2, 0] rfl)
        · have hf := pr_it c21 hf
          refine lv_iconst (v := 0) hx hb prd_R_readBlock_43 (by decide) ?_
          exact pr_retz E (Or.inl rfl) hP hS (pr_so hf) prd_R_readBlock_44
set_option maxHeartbeats 4000000 in
set_option maxRecDepth 100000 in
theorem prc_R_readBlock {l : Launch} {D : va_G} {ad : Nat → Nat} {dA : Nat → ClassId} {A : Nat → Prop} {t : Nat} (hD : ∀ σ : pr_St, va_D A (pr_w prc_L ad dA σ)) (hX : pr_Xok A (prX t A)) (hd : Nat) (hb0 : 429 ≤ hd) (h : Nat) (hh : hd + 1 ≤ h) {rc : pr_St → Int32 → Option (Int32 × pr_St)} (Hrc0 : ∀ (σ : pr_St) (x1 : Int32) (res : (Int32 × pr_St)), rc σ x1 = some res → Met l pry_R_readStatement (Cond.code pry_R_readStatement prb_R_readStatement 5 (some .boolean) :: pr_U) (pr_rm hd) (pr_Pc (prX t A) D pr_cl prc_L ad dA [.ref (ad 3), .int x1] σ) (pr_Qi D pr_cl prc_L ad dA A res) 0 0 A) (σ : pr_St) (x1 : Int32) (res : (Int32 × pr_St)) (hf : prf_R_readBlock rc σ x1 = some res) : Met l pry_R_readBlock (Cond.code pry_R_readBlock prb_R_readBlock 3 (some .boolean) :: pr_U) (pr_rm h) (pr_Pc (prX t A) D pr_cl prc_L ad dA [.ref (ad 3), .int x1] σ) (pr_Qi D pr_cl prc_L ad dA A res) 0 0 A := by
  refine pr_entry (cc := prb_R_readBlock) (maxL := 3) (ret := (some .boolean)) (by decide) (Nat.le_of_ble_eq_true rfl) hD hX ?_
  intro p e s m args below meth c E H locs hP hS ls hl
  have hl : lv_has ls 3 [(0, .ref (ad 3)), (1, .int x1)] := hl
  have hf := hf.symm
  unfold prf_R_readBlock at hf
  obtain ⟨hx, hb, hml, hown, hts, hr, hlocks, hK, hD, hX, hXs⟩ := id E
  refine lv_iload_n hx hb prd_R_readBlock_0 rfl (lv_at hl 1 rfl) ?_
  refine lv_bipush (v := 60) hx hb prd_R_readBlock_1 (by decide) ?_
  refine lv_icmp_gt (tgt := 15) hx hb prd_R_readBlock_3 (by decide) (fun c22 => ?_) (fun c22 => ?_)
  · have hf := pr_it c22 hf
    refine lv_iconst (v := 0) hx hb prd_R_readBlock_15 (by decide) ?_
    exact pr_retz E (Or.inl rfl) hP hS (pr_so hf) prd_R_readBlock_16
  · have hf := pr_ie c22 hf
    refine lv_aload_n hx hb prd_R_readBlock_6 rfl (lv_at hl 0 rfl) ?_
    refine lv_bipush (v := 14) hx hb prd_R_readBlock_7 (by decide) ?_
    obtain ⟨r23, hr23, hf⟩ := pr_bi hf
    refine pr_callVi (rest := []) (res := r23) ⟨hx, hb, hml, hown, hts⟩ 3 (prc_R_take hD hX 1 (Nat.le_refl _) σ 14 r23 hr23) (prg_R_take hts prw_99 (by have := hh; omega)) hX hXs hK hP hS (by decide) rfl rfl rfl rfl hl.1 (Nat.le_of_ble_eq_true rfl) prd_R_readBlock_9 (fun H locs hP hS => ?_)
    refine lv_if_ne (tgt := 17) hx hb prd_R_readBlock_12 (by decide) (fun c24 => ?_) (fun c24 => ?_)
    · have hf := pr_ie c24 hf
      refine lv_iconst (v := 0) hx hb prd_R_readBlock_17 (by decide) ?_
      refine lv_istore_n (lv' := [(2, .int 0), (0, .ref (ad 3)), (1, .int x1)]) hx hb prd_R_readBlock_18 rfl hl (by decide) rfl (fun ls hl => ?_)
      exact prk_R_readBlock_19 hd hb0 hh E Hrc0 pr_FU r23.2 x1 0 _ hf _ _ _ hP hS (lv_sub hl [1, 2, 0] rfl)
    · have hf := pr_it c24 hf
      refine lv_iconst (v := 0) hx hb prd_R_readBlock_15 (by decide) ?_
      exact pr_retz E (Or.inl rfl) hP hS (pr_so hf) prd_R_readBlock_16
-- R_readBranch
set_option maxHeartbeats 4000000 in
set_option maxRecDepth 100000 in
theorem prc_R_readBranch {l : Launch} {D : va_G} {ad : Nat → Nat} {dA : Nat → ClassId} {A : Nat → Prop} {t : Nat} (hD : ∀ σ : pr_St, va_D A (pr_w prc_L ad dA σ)) (hX : pr_Xok A (prX t A)) (hd : Nat) (hb0 : 429 ≤ hd) (h : Nat) (hh : hd + 2 ≤ h) {rc : pr_St → Int32 → Option (Int32 × pr_St)} (Hrc0 : ∀ (σ : pr_St) (x1 : Int32) (res : (Int32 × pr_St)), rc σ x1 = some res → Met l pry_R_readStatement (Cond.code pry_R_readStatement prb_R_readStatement 5 (some .boolean) :: pr_U) (pr_rm hd) (pr_Pc (prX t A) D pr_cl prc_L ad dA [.ref (ad 3), .int x1] σ) (pr_Qi D pr_cl prc_L ad dA A res) 0 0 A) (σ : pr_St) (x1 : Int32) (x2 : Int32) (x3 : Int32) (res : (Int32 × pr_St)) (hf : prf_R_readBranch rc σ x1 x2 x3 = some res) : Met l pry_R_readBranch (Cond.code pry_R_readBranch prb_R_readBranch 4 (some .boolean) :: pr_U) (pr_rm h) (pr_Pc (prX t A) D pr_cl prc_L ad dA [.ref (ad 3), .int x1, .int x2, .int x3] σ) (pr_Qi D pr_cl prc_L ad dA A res) 0 0 A := by
  refine pr_entry (cc := prb_R_readBranch) (maxL := 4) (ret := (some .boolean)) (by decide) (Nat.le_of_ble_eq_true rfl) hD hX ?_
  intro p e s m args below meth c E H locs hP hS ls hl
  have hl : lv_has ls 4 [(0, .ref (ad 3)), (1, .int x1), (2, .int x2), (3, .int x3)] := hl
  have hf := hf.symm
  unfold prf_R_readBranch at hf
  obtain ⟨hx, hb, hml, hown, hts, hr, hlocks, hK, hD, hX, hXs⟩ := id E
  refine lv_aload_n hx hb prd_R_readBranch_0 rfl (lv_at hl 0 rfl) ?_
  refine lv_dup hx hb prd_R_readBranch_1 rfl ?_
  refine pr_geti (v := (σ.1 3 2)) hx hb hts prs_R hown hK hP 3 2 (by decide) rfl (hts _ prw_90) rfl rfl prd_R_readBranch_2 ?_
  refine lv_iconst (v := 1) hx hb prd_R_readBranch_5 (by decide) ?_
  refine lv_iadd hx hb prd_R_readBranch_6 ?_
  refine pr_puti (ty := .int) hx hb hts prs_R prq_R prtt_R prtn_R hown hK hP (hD _) hS 3 2 (by decide) rfl (hts _ prw_90) rfl rfl (prtt_R 2 (by decide)) rfl rfl prd_R_readBranch_7 (fun H locs hP hS => ?_)
  refine lv_aload_n hx hb prd_R_readBranch_10 rfl (lv_at hl 0 rfl) ?_
  refine lv_bipush (v := 12) hx hb prd_R_readBranch_11 (by decide) ?_
  obtain ⟨r15, hr15, hf⟩ := pr_bi hf
  refine pr_callVi (rest := []) (res := r15) ⟨hx, hb, hml, hown, hts⟩ 3 (prc_R_take hD hX 1 (Nat.le_refl _) (pr_sI σ 3 2 ((σ.1 3 2) + 1)) 12 r15 hr15) (prg_R_take hts prw_99 (by have := hh; omega)) hX hXs hK hP hS (by decide) rfl rfl rfl rfl hl.1 (Nat.le_of_ble_eq_true rfl) prd_R_readBranch_13 (fun H locs hP hS => ?_)
  refine lv_if_eq (tgt := 48) hx hb prd_R_readBranch_16 (by decide) (fun c16 => ?_) (fun c16 => ?_)
  · have hf := pr_it c16 hf
    refine lv_iconst (v := 0) hx hb prd_R_readBranch_48 (by decide) ?_
    exact pr_retz E (Or.inl rfl) hP hS (pr_so hf) prd_R_readBranch_49
  · have hf := pr_ie c16 hf
    refine lv_aload_n hx hb prd_R_readBranch_19 rfl (lv_at hl 0 rfl) ?_
    refine lv_iload_n hx hb prd_R_readBranch_20 rfl (lv_at hl 3 rfl) ?_
    refine lv_iconst (v := 1) hx hb prd_R_readBranch_21 (by decide) ?_
    refine lv_iadd hx hb prd_R_readBranch_22 ?_
    obtain ⟨r17, hr17, hf⟩ := pr_bi hf
    refine pr_callVi (rest := []) (res := r17) ⟨hx, hb, hml, hown, hts⟩ 3 (prct_R_readCond hD hX r15.2 (x3 + 1) r17 hr17) (prg_R_readCond hts prw_193 (by have := hh; omega)) hX hXs hK hP hS (by decide) rfl rfl rfl rfl hl.1 (Nat.le_of_ble_eq_true rfl) prd_R_readBranch_23 (fun H locs hP hS => ?_)
    refine lv_if_eq (tgt := 48) hx hb prd_R_readBranch_26 (by decide) (fun c18 => ?_) (fun c18 => ?_)
    · have hf := pr_it c18 hf
      refine lv_iconst (v := 0) hx hb prd_R_readBranch_48 (by decide) ?_
      exact pr_retz E (Or.inl rfl) hP hS (pr_so hf) prd_R_readBranch_49
    · have hf := pr_ie c18 hf
      refine lv_aload_n hx hb prd_R_readBranch_29 rfl (lv_at hl 0 rfl) ?_
      refine lv_bipush (v := 13) hx hb prd_R_readBranch_30 (by decide) ?_
      obtain ⟨r19, hr19, hf⟩ := pr_bi hf
      refine pr_callVi (rest := []) (res := r19) ⟨hx, hb, hml, hown, hts⟩ 3 (prc_R_take hD hX 1 (Nat.le_refl _) r17.2 13 r19 hr19) (prg_R_take hts prw_99 (by have := hh; omega)) hX hXs hK hP hS (by decide) rfl rfl rfl rfl hl.1 (Nat.le_of_ble_eq_true rfl) prd_R_readBranch_32 (fun H locs hP hS => ?_)
      refine lv_if_eq (tgt := 48) hx hb prd_R_readBranch_35 (by decide) (fun c20 => ?_) (fun c20 => ?_)
      · have hf := pr_it c20 hf
        refine lv_iconst (v := 0) hx hb prd_R_readBranch_48 (by decide) ?_
        exact pr_retz E (Or.inl rfl) hP hS (pr_so hf) prd_R_readBranch_49
      · have hf := pr_ie c20 hf
        refine lv_aload_n hx hb prd_R_readBranch_38 rfl (lv_at hl 0 rfl) ?_
        refine lv_iload_n hx hb prd_R_readBranch_39 rfl (lv_at hl 3 rfl) ?_
        refine lv_iconst (v := 1) hx hb prd_R_readBranch_40 (by decide) ?_
        refine lv_iadd hx hb prd_R_readBranch_41 ?_
        obtain ⟨r21, hr21, hf⟩ := pr_bi hf
        refine pr_callVi (rest := []) (res := r21) ⟨hx, hb, hml, hown, hts⟩ 3 (prc_R_readBlock hD hX hd hb0 (hd + 1) (Nat.le_refl _) Hrc0 r19.2 (x3 + 1) r21 hr21) (prg_R_readBlock hts prw_209 (by have := hh; omega)) hX hXs hK hP hS (by decide) rfl rfl rfl rfl hl.1 (Nat.le_of_ble_eq_true rfl) prd_R_readBranch_42 (fun H locs hP hS => ?_)
        refine lv_if_ne (tgt := 50) hx hb prd_R_readBranch_45 (by decide) (fun c22 => ?_) (fun c22 => ?_)
        · have hf := pr_ie c22 hf
          refine lv_aload_n hx hb prd_R_readBranch_50 rfl (lv_at hl 0 rfl) ?_
          refine pr_getr (t := 2) hx hb hts prs_R hown hK hP 3 1 (by decide) rfl (hts _ prw_111) rfl prd_R_readBranch_51 ?_
          refine lv_iload_n hx hb prd_R_readBranch_54 rfl (lv_at hl 1 rfl) ?_
          obtain ⟨r23, hr23, hf⟩ := pr_bi hf
          refine pr_callVv (rest := []) (res := r23) ⟨hx, hb, hml, hown, hts⟩ 2 (prc_G_closeFirstBlock hD hX 2 (Nat.le_refl _) r21.2 x1 r23 hr23) (prg_G_closeFirstBlock hts prw_210 (by have := hh; omega)) hX hXs hK hP hS (by decide) rfl rfl rfl rfl hl.1 (Nat.le_of_ble_eq_true rfl) prd_R_readBranch_55 (fun H locs hP hS => ?_)
          refine lv_iload_n hx hb prd_R_readBranch_58 rfl (lv_at hl 2 rfl) ?_
          refine lv_bipush (v := 6) hx hb prd_R_readBranch_59 (by decide) ?_
          refine lv_icmp_eq (tgt := 83) hx hb prd_R_readBranch_61 (by decide) (fun c24 => ?_) (fun c24 => ?_)
          · have hf := pr_it c24 hf
            refine lv_iconst (v := 1) hx hb prd_R_readBranch_83 (by decide) ?_
            refine lv_goto (tgt := 88) hx hb prd_R_readBranch_84 (by decide) ?_
            exact pr_retz E (Or.inr rfl) hP hS (pr_so hf) prd_R_readBranch_88
          · have hf := pr_ie c24 hf
            refine lv_aload_n hx hb prd_R_readBranch_64 rfl (lv_at hl 0 rfl) ?_
            refine lv_bipush (v := 7) hx hb prd_R_readBranch_65 (by decide) ?_
            obtain ⟨r25, hr25, hf⟩ := pr_bi hf
            refine pr_callVi (rest := []) (res := r25) ⟨hx, hb, hml, hown, hts⟩ 3 (prc_R_take hD hX 1 (Nat.le_refl _) r23 7 r25 hr25) (prg_R_take hts prw_99 (by have := hh; omega)) hX hXs hK hP hS (by decide) rfl rfl rfl rfl hl.1 (Nat.le_of_ble_eq_true rfl) prd_R_readBranch_67 (fun H locs hP hS => ?_)
            refine lv_if_eq (tgt := 83) hx hb prd_R_readBranch_70 (by decide) (fun c26 => ?_) (fun c26 => ?_)
            · have hf := pr_it c26 hf
              refine lv_iconst (v := 1) hx hb prd_R_readBranch_83 (by decide) ?_
              refine lv_goto (tgt := 88) hx hb prd_R_readBranch_84 (by decide) ?_
              exact pr_retz E (Or.inr rfl) hP hS (pr_so hf) prd_R_readBranch_88
            · have hf := pr_ie c26 hf
              refine lv_aload_n hx hb prd_R_readBranch_73 rfl (lv_at hl 0 rfl) ?_
              refine lv_iload_n hx hb prd_R_readBranch_74 rfl (lv_at hl 3 rfl) ?_
              refine lv_iconst (v := 1) hx hb prd_R_readBranch_75 (by decide) ?_
              refine lv_iadd hx hb prd_R_readBranch_76 ?_
              obtain ⟨r27, hr27, hf⟩ := pr_bi hf
              refine pr_callVi (rest := []) (res := r27) ⟨hx, hb, hml, hown, hts⟩ 3 (prc_R_readBlock hD hX hd hb0 (hd + 1) (Nat.le_refl _) Hrc0 r25.2 (x3 + 1) r27 hr27) (prg_R_readBlock hts prw_209 (by have := hh; omega)) hX hXs hK hP hS (by decide) rfl rfl rfl rfl hl.1 (Nat.le_of_ble_eq_true rfl) prd_R_readBranch_77 (fun H locs hP hS => ?_)
              refine lv_if_eq (tgt := 87) hx hb prd_R_readBranch_80 (by decide) (fun c28 => ?_) (fun c28 => ?_)
              · have hf := pr_it c28 hf
                refine lv_iconst (v := 0) hx hb prd_R_readBranch_87 (by decide) ?_
                exact pr_retz E (Or.inl rfl) hP hS (pr_so hf) prd_R_readBranch_88
              · have hf := pr_ie c28 hf
                refine lv_iconst (v := 1) hx hb prd_R_readBranch_83 (by decide) ?_
                refine lv_goto (tgt := 88) hx hb prd_R_readBranch_84 (by decide) ?_
                exact pr_retz E (Or.inr rfl) hP hS (pr_so hf) prd_R_readBranch_88
        · have hf := pr_it c22 hf
          refine lv_iconst (v := 0) hx hb prd_R_readBranch_48 (by decide) ?_
          exact pr_retz E (Or.inl rfl) hP hS (pr_so hf) prd_R_readBranch_49
-- R_readStatement
set_option maxHeartbeats 4000000 in
set_option maxRecDepth 100000 in
theorem prc_R_readStatement {l : Launch} {D : va_G} {ad : Nat → Nat} {dA : Nat → ClassId} {A : Nat → Prop} {t : Nat} (hD : ∀ σ : pr_St, va_D A (pr_w prc_L ad dA σ)) (hX : pr_Xok A (prX t A)) (hd : Nat) (hb0 : 429 ≤ hd) (h : Nat) (hh : hd + 3 ≤ h) {rc : pr_St → Int32 → Option (Int32 × pr_St)} (Hrc0 : ∀ (σ : pr_St) (x1 : Int32) (res : (Int32 × pr_St)), rc σ x1 = some res → Met l pry_R_readStatement (Cond.code pry_R_readStatement prb_R_readStatement 5 (some .boolean) :: pr_U) (pr_rm hd) (pr_Pc (prX t A) D pr_cl prc_L ad dA [.ref (ad 3), .int x1] σ) (pr_Qi D pr_cl prc_L ad dA A res) 0 0 A) (σ : pr_St) (x1 : Int32) (res : (Int32 × pr_St)) (hf : prf_R_readStatement rc σ x1 = some res) : Met l pry_R_readStatement (Cond.code pry_R_readStatement prb_R_readStatement 5 (some .boolean) :: pr_U) (pr_rm h) (pr_Pc (prX t A) D pr_cl prc_L ad dA [.ref (ad 3), .int x1] σ) (pr_Qi D pr_cl prc_L ad dA A res) 0 0 A := by
  refine pr_entry (cc := prb_R_readStatement) (maxL := 5) (ret := (some .boolean)) (by decide) (Nat.le_of_ble_eq_true rfl) hD hX ?_
  intro p e s m args below meth c E H locs hP hS ls hl
  have hl : lv_has ls 5 [(0, .ref (ad 3)), (1, .int x1)] := hl
  have hf := hf.symm
  unfold prf_R_readStatement at hf
  obtain ⟨hx, hb, hml, hown, hts, hr, hlocks, hK, hD, hX, hXs⟩ := id E
  refine lv_aload_n hx hb prd_R_readStatement_0 rfl (lv_at hl 0 rfl) ?_
  obtain ⟨r160, hr160, hf⟩ := pr_bi hf
  refine pr_callVr (rest := []) (r := r160) ⟨hx, hb, hml, hown, hts⟩ 3 (prc_R_statementKind hD hX 3 (Nat.le_refl _) σ  r160 hr160) (prg_R_statementKind hts prw_214 (by have := hh; omega)) hX hXs hK hP hS (by decide) rfl rfl rfl rfl hl.1 (Nat.le_of_ble_eq_true rfl) prd_R_readStatement_1 (fun H locs hP hS => ?_)
  refine lv_istore_n (lv' := [(2, .int r160), (0, .ref (ad 3)), (1, .int x1)]) hx hb prd_R_readStatement_4 rfl hl (by decide) rfl (fun ls hl => ?_)
  refine lv_iload_n hx hb prd_R_readStatement_5 rfl (lv_at hl 0 rfl) ?_
  refine lv_if_ne (tgt := 13) hx hb prd_R_readStatement_6 (by decide) (fun c161 => ?_) (fun c161 => ?_)
  · have hf := pr_ie c161 hf
    refine lv_aload_n hx hb prd_R_readStatement_13 rfl (lv_at hl 1 rfl) ?_
    refine pr_getr (t := 2) hx hb hts prs_R hown hK hP 3 1 (by decide) rfl (hts _ prw_111) rfl prd_R_readStatement_14 ?_
    refine lv_iload_n hx hb prd_R_readStatement_17 rfl (lv_at hl 0 rfl) ?_
    refine lv_aload_n hx hb prd_R_readStatement_18 rfl (lv_at hl 1 rfl) ?_
    refine pr_geti (v := (σ.1 3 2)) hx hb hts prs_R hown hK hP 3 2 (by decide) rfl (hts _ prw_90) rfl rfl prd_R_readStatement_19 ?_
    obtain ⟨r162, hr162, hf⟩ := pr_bi hf
    refine pr_callVi (rest := []) (res := r162) ⟨hx, hb, hml, hown, hts⟩ 2 (prc_G_openStatement hD hX 0 (Nat.le_refl _) σ r160 (σ.1 3 2) r162 hr162) (prg_G_openStatement hts prw_215 (by have := hh; omega)) hX hXs hK hP hS (by decide) rfl rfl rfl rfl hl.1 (Nat.le_of_ble_eq_true rfl) prd_R_readStatement_22 (fun H locs hP hS => ?_)
    refine lv_istore_n (lv' := [(3, .int r162.1), (2, .int r160), (0, .ref (ad 3)), (1, .int x1)]) hx hb prd_R_readStatement_25 rfl hl (by decide) rfl (fun ls hl => ?_)
    refine lv_iload_n hx hb prd_R_readStatement_26 rfl (lv_at hl 0 rfl) ?_
    refine lv_iconst (v := (-1)) hx hb prd_R_readStatement_27 (by decide) ?_
    refine lv_icmp_ne (tgt := 33) hx hb prd_R_readStatement_28 (by decide) (fun c163 => ?_) (fun c163 => ?_)
    · have hf := pr_ie c163 hf
      refine lv_iload_n hx hb prd_R_readStatement_33 rfl (lv_at hl 1 rfl) ?_
      by_cases c164 : r160 = 1
      · have hf := pr_it c164 hf
        refine lv_tableIn (tgt := 80) (off := 46) hx hb prd_R_readStatement_34 (by rw [c164]; decide) (by rw [c164]; decide) (by rw [c164] <;> rfl) (by decide) ?_
        refine lv_aload_n hx hb prd_R_readStatement_80 rfl (lv_at hl 2 rfl) ?_
        refine lv_iload_n hx hb prd_R_readStatement_81 rfl (lv_at hl 3 rfl) ?_
        obtain ⟨r165, hr165, hf⟩ := pr_bi hf
        refine pr_callVi (rest := []) (res := r165) ⟨hx, hb, hml, hown, hts⟩ 3 (prc_R_readVar hD hX 216 (Nat.le_refl _) r162.2 x1 r165 hr165) (prg_R_readVar hts prw_216 (by have := hh; omega)) hX hXs hK hP hS (by decide) rfl rfl rfl rfl hl.1 (Nat.le_of_ble_eq_true rfl) prd_R_readStatement_82 (fun H locs hP hS => ?_)
        refine lv_if_eq (tgt := 101) hx hb prd_R_readStatement_85 (by decide) (fun c166 => ?_) (fun c166 => ?_)
        · have hf := pr_it c166 hf
          refine lv_iconst (v := 0) hx hb prd_R_readStatement_101 (by decide) ?_
          refine lv_istore (lv' := [(4, .int 0), (3, .int r162.1), (2, .int r160), (0, .ref (ad 3)), (1, .int x1)]) hx hb prd_R_readStatement_102 hl (by decide) rfl (fun ls hl => ?_)
          refine lv_goto (tgt := 311) hx hb prd_R_readStatement_104 (by decide) ?_
          refine lv_aload_n hx hb prd_R_readStatement_311 rfl (lv_at hl 3 rfl) ?_
          refine pr_getr (t := 2) hx hb hts prs_R hown hK hP 3 1 (by decide) rfl (hts _ prw_111) rfl prd_R_readStatement_312 ?_
          refine lv_iload_n hx hb prd_R_readStatement_315 rfl (lv_at hl 1 rfl) ?_
          obtain ⟨r167, hr167, hf⟩ := pr_bi hf
          refine pr_callVv (rest := []) (res := r167) ⟨hx, hb, hml, hown, hts⟩ 2 (prc_G_closeStatement hD hX 1 (Nat.le_refl _) r165.2 r162.1 r167 hr167) (prg_G_closeStatement hts prw_217 (by have := hh; omega)) hX hXs hK hP hS (by decide) rfl rfl rfl rfl hl.1 (Nat.le_of_ble_eq_true rfl) prd_R_readStatement_316 (fun H locs hP hS => ?_)
          refine lv_aload_n hx hb prd_R_readStatement_319 rfl (lv_at hl 3 rfl) ?_
          refine lv_iload_n hx hb prd_R_readStatement_320 rfl (lv_at hl 2 rfl) ?_
          refine pr_puti (ty := .int) hx hb hts prs_R prq_R prtt_R prtn_R hown hK hP (hD _) hS 3 3 (by decide) rfl (hts _ prw_218) rfl rfl (prtt_R 3 (by decide)) rfl rfl prd_R_readStatement_321 (fun H locs hP hS => ?_)
          refine lv_iload hx hb prd_R_readStatement_324 (lv_at hl 0 rfl) ?_
          exact pr_retz E (Or.inl rfl) hP hS (pr_so hf) prd_R_readStatement_326
        · have hf := pr_ie c166 hf
          refine lv_aload_n hx hb prd_R_readStatement_88 rfl (lv_at hl 2 rfl) ?_
          refine lv_bipush (v := 19) hx hb prd_R_readStatement_89 (by decide) ?_
          obtain ⟨r168, hr168, hf⟩ := pr_bi hf
          refine pr_callVi (rest := []) (res := r168) ⟨hx, hb, hml, hown, hts⟩ 3 (prc_R_take hD hX 1 (Nat.le_refl _) r165.2 19 r168 hr168) (prg_R_take hts prw_99 (by have := hh; omega)) hX hXs hK hP hS (by decide) rfl rfl rfl rfl hl.1 (Nat.le_of_ble_eq_true rfl) prd_R_readStatement_91 (fun H locs hP hS => ?_)
          refine lv_if_eq (tgt := 101) hx hb prd_R_readStatement_94 (by decide) (fun c169 => ?_) (fun c169 => ?_)
          · have hf := pr_it c169 hf
            refine lv_iconst (v := 0) hx hb prd_R_readStatement_101 (by decide) ?_
            refine lv_istore (lv' := [(4, .int 0), (3, .int r162.1), (2, .int r160), (0, .ref (ad 3)), (1, .int x1)]) hx hb prd_R_readStatement_102 hl (by decide) rfl (fun ls hl => ?_)
            refine lv_goto (tgt := 311) hx hb prd_R_readStatement_104 (by decide) ?_
            refine lv_aload_n hx hb prd_R_readStatement_311 rfl (lv_at hl 3 rfl) ?_
            refine pr_getr (t := 2) hx hb hts prs_R hown hK hP 3 1 (by decide) rfl (hts _ prw_111) rfl prd_R_readStatement_312 ?_
            refine lv_iload_n hx hb prd_R_readStatement_315 rfl (lv_at hl 1 rfl) ?_
            obtain ⟨r170, hr170, hf⟩ := pr_bi hf
            refine pr_callVv (rest := []) (res := r170) ⟨hx, hb, hml, hown, hts⟩ 2 (prc_G_closeStatement hD hX 1 (Nat.le_refl _) r168.2 r162.1 r170 hr170) (prg_G_closeStatement hts prw_217 (by have := hh; omega)) hX hXs hK hP hS (by decide) rfl rfl rfl rfl hl.1 (Nat.le_of_ble_eq_true rfl) prd_R_readStatement_316 (fun H locs hP hS => ?_)
            refine lv_aload_n hx hb prd_R_readStatement_319 rfl (lv_at hl 3 rfl) ?_
            refine lv_iload_n hx hb prd_R_readStatement_320 rfl (lv_at hl 2 rfl) ?_
            refine pr_puti (ty := .int) hx hb hts prs_R prq_R prtt_R prtn_R hown hK hP (hD _) hS 3 3 (by decide) rfl (hts _ prw_218) rfl rfl (prtt_R 3 (by decide)) rfl rfl prd_R_readStatement_321 (fun H locs hP hS => ?_)
            refine lv_iload hx hb prd_R_readStatement_324 (lv_at hl 0 rfl) ?_
            exact pr_retz E (Or.inl rfl) hP hS (pr_so hf) prd_R_readStatement_326
          · have hf := pr_ie c169 hf
            refine lv_iconst (v := 1) hx hb prd_R_readStatement_97 (by decide) ?_
            refine lv_goto (tgt := 102) hx hb prd_R_readStatement_98 (by decide) ?_
            refine lv_istore (lv' := [(4, .int 1), (3, .int r162.1), (2, .int r160), (0, .ref (ad 3)), (1, .int x1)]) hx hb prd_R_readStatement_102 hl (by decide) rfl (fun ls hl => ?_)
            refine lv_goto (tgt := 311) hx hb prd_R_readStatement_104 (by decide) ?_
            refine lv_aload_n hx hb prd_R_readStatement_311 rfl (lv_at hl 3 rfl) ?_
            refine pr_getr (t := 2) hx hb hts prs_R hown hK hP 3 1 (by decide) rfl (hts _ prw_111) rfl prd_R_readStatement_312 ?_
            refine lv_iload_n hx hb prd_R_readStatement_315 rfl (lv_at hl 1 rfl) ?_
            obtain ⟨r171, hr171, hf⟩ := pr_bi hf
            refine pr_callVv (rest := []) (res := r171) ⟨hx, hb, hml, hown, hts⟩ 2 (prc_G_closeStatement hD hX 1 (Nat.le_refl _) r168.2 r162.1 r171 hr171) (prg_G_closeStatement hts prw_217 (by have := hh; omega)) hX hXs hK hP hS (by decide) rfl rfl rfl rfl hl.1 (Nat.le_of_ble_eq_true rfl) prd_R_readStatement_316 (fun H locs hP hS => ?_)
            refine lv_aload_n hx hb prd_R_readStatement_319 rfl (lv_at hl 3 rfl) ?_
            refine lv_iload_n hx hb prd_R_readStatement_320 rfl (lv_at hl 2 rfl) ?_
            refine pr_puti (ty := .int) hx hb hts prs_R prq_R prtt_R prtn_R hown hK hP (hD _) hS 3 3 (by decide) rfl (hts _ prw_218) rfl rfl (prtt_R 3 (by decide)) rfl rfl prd_R_readStatement_321 (fun H locs hP hS => ?_)
            refine lv_iload hx hb prd_R_readStatement_324 (lv_at hl 0 rfl) ?_
            exact pr_retz E (Or.inr rfl) hP hS (pr_so hf) prd_R_readStatement_326
      · have hf := pr_ie c164 hf
        by_cases c172 : r160 = 2
        · have hf := pr_it c172 hf
          refine lv_tableIn (tgt := 107) (off := 73) hx hb prd_R_readStatement_34 (by rw [c172]; decide) (by rw [c172]; decide) (by rw [c172] <;> rfl) (by decide) ?_
          refine lv_aload_n hx hb prd_R_readStatement_107 rfl (lv_at hl 2 rfl) ?_
          refine lv_iconst (v := 2) hx hb prd_R_readStatement_108 (by decide) ?_
          obtain ⟨r173, hr173, hf⟩ := pr_bi hf
          refine pr_callVi (rest := []) (res := r173) ⟨hx, hb, hml, hown, hts⟩ 3 (prc_R_take hD hX 1 (Nat.le_refl _) r162.2 2 r173 hr173) (prg_R_take hts prw_99 (by have := hh; omega)) hX hXs hK hP hS (by decide) rfl rfl rfl rfl hl.1 (Nat.le_of_ble_eq_true rfl) prd_R_readStatement_109 (fun H locs hP hS => ?_)
          refine lv_if_eq (tgt := 147) hx hb prd_R_readStatement_112 (by decide) (fun c174 => ?_) (fun c174 => ?_)
          · have hf := pr_it c174 hf
            refine lv_iconst (v := 0) hx hb prd_R_readStatement_147 (by decide) ?_
            refine lv_istore (lv' := [(4, .int 0), (3, .int r162.1), (2, .int r160), (0, .ref (ad 3)), (1, .int x1)]) hx hb prd_R_readStatement_148 hl (by decide) rfl (fun ls hl => ?_)
            refine lv_goto (tgt := 311) hx hb prd_R_readStatement_150 (by decide) ?_
            refine lv_aload_n hx hb prd_R_readStatement_311 rfl (lv_at hl 3 rfl) ?_
            refine pr_getr (t := 2) hx hb hts prs_R hown hK hP 3 1 (by decide) rfl (hts _ prw_111) rfl prd_R_readStatement_312 ?_
            refine lv_iload_n hx hb prd_R_readStatement_315 rfl (lv_at hl 1 rfl) ?_
            obtain ⟨r175, hr175, hf⟩ := pr_bi hf
            refine pr_callVv (rest := []) (res := r175) ⟨hx, hb, hml, hown, hts⟩ 2 (prc_G_closeStatement hD hX 1 (Nat.le_refl _) r173.2 r162.1 r175 hr175) (prg_G_closeStatement hts prw_217 (by have := hh; omega)) hX hXs hK hP hS (by decide) rfl rfl rfl rfl hl.1 (Nat.le_of_ble_eq_true rfl) prd_R_readStatement_316 (fun H locs hP hS => ?_)
            refine lv_aload_n hx hb prd_R_readStatement_319 rfl (lv_at hl 3 rfl) ?_
            refine lv_iload_n hx hb prd_R_readStatement_320 rfl (lv_at hl 2 rfl) ?_
            refine pr_puti (ty := .int) hx hb hts prs_R prq_R prtt_R prtn_R hown hK hP (hD _) hS 3 3 (by decide) rfl (hts _ prw_218) rfl rfl (prtt_R 3 (by decide)) rfl rfl prd_R_readStatement_321 (fun H locs hP hS => ?_)
            refine lv_iload hx hb prd_R_readStatement_324 (lv_at hl 0 rfl) ?_
            exact pr_retz E (Or.inl rfl) hP hS (pr_so hf) prd_R_readStatement_326
          · have hf := pr_ie c174 hf
            refine lv_aload_n hx hb prd_R_readStatement_115 rfl (lv_at hl 2 rfl) ?_
            refine lv_bipush (v := 20) hx hb prd_R_readStatement_116 (by decide) ?_
            obtain ⟨r176, hr176, hf⟩ := pr_bi hf
            refine pr_callVi (rest := []) (res := r176) ⟨hx, hb, hml, hown, hts⟩ 3 (prc_R_take hD hX 1 (Nat.le_refl _) r173.2 20 r176 hr176) (prg_R_take hts prw_99 (by have := hh; omega)) hX hXs hK hP hS (by decide) rfl rfl rfl rfl hl.1 (Nat.le_of_ble_eq_true rfl) prd_R_readStatement_118 (fun H locs hP hS => ?_)
            refine lv_if_eq (tgt := 147) hx hb prd_R_readStatement_121 (by decide) (fun c177 => ?_) (fun c177 => ?_)
            · have hf := pr_it c177 hf
              refine lv_iconst (v := 0) hx hb prd_R_readStatement_147 (by decide) ?_
              refine lv_istore (lv' := [(4, .int 0), (3, .int r162.1), (2, .int r160), (0, .ref (ad 3)), (1, .int x1)]) hx hb prd_R_readStatement_148 hl (by decide) rfl (fun ls hl => ?_)
              refine lv_goto (tgt := 311) hx hb prd_R_readStatement_150 (by decide) ?_
              refine lv_aload_n hx hb prd_R_readStatement_311 rfl (lv_at hl 3 rfl) ?_
              refine pr_getr (t := 2) hx hb hts prs_R hown hK hP 3 1 (by decide) rfl (hts _ prw_111) rfl prd_R_readStatement_312 ?_
              refine lv_iload_n hx hb prd_R_readStatement_315 rfl (lv_at hl 1 rfl) ?_
              obtain ⟨r178, hr178, hf⟩ := pr_bi hf
              refine pr_callVv (rest := []) (res := r178) ⟨hx, hb, hml, hown, hts⟩ 2 (prc_G_closeStatement hD hX 1 (Nat.le_refl _) r176.2 r162.1 r178 hr178) (prg_G_closeStatement hts prw_217 (by have := hh; omega)) hX hXs hK hP hS (by decide) rfl rfl rfl rfl hl.1 (Nat.le_of_ble_eq_true rfl) prd_R_readStatement_316 (fun H locs hP hS => ?_)
              refine lv_aload_n hx hb prd_R_readStatement_319 rfl (lv_at hl 3 rfl) ?_
              refine lv_iload_n hx hb prd_R_readStatement_320 rfl (lv_at hl 2 rfl) ?_
              refine pr_puti (ty := .int) hx hb hts prs_R prq_R prtt_R prtn_R hown hK hP (hD _) hS 3 3 (by decide) rfl (hts _ prw_218) rfl rfl (prtt_R 3 (by decide)) rfl rfl prd_R_readStatement_321 (fun H locs hP hS => ?_)
              refine lv_iload hx hb prd_R_readStatement_324 (lv_at hl 0 rfl) ?_
              exact pr_retz E (Or.inl rfl) hP hS (pr_so hf) prd_R_readStatement_326
            · have hf := pr_ie c177 hf
              refine lv_aload_n hx hb prd_R_readStatement_124 rfl (lv_at hl 2 rfl) ?_
              refine lv_iload_n hx hb prd_R_readStatement_125 rfl (lv_at hl 3 rfl) ?_
              refine lv_iconst (v := 1) hx hb prd_R_readStatement_126 (by decide) ?_
              refine lv_iadd hx hb prd_R_readStatement_127 ?_
              obtain ⟨r179, hr179, hf⟩ := pr_bi hf
              refine pr_callVi (rest := []) (res := r179) ⟨hx, hb, hml, hown, hts⟩ 3 (prct_R_readSum hD hX r176.2 (x1 + 1) r179 hr179) (prg_R_readSum hts prw_151 (by have := hh; omega)) hX hXs hK hP hS (by decide) rfl rfl rfl rfl hl.1 (Nat.le_of_ble_eq_true rfl) prd_R_readStatement_128 (fun H locs hP hS => ?_)
              refine lv_if_eq (tgt := 147) hx hb prd_R_readStatement_131 (by decide) (fun c180 => ?_) (fun c180 => ?_)
              · have hf := pr_it c180 hf
                refine lv_iconst (v := 0) hx hb prd_R_readStatement_147 (by decide) ?_
                refine lv_istore (lv' := [(4, .int 0), (3, .int r162.1), (2, .int r160), (0, .ref (ad 3)), (1, .int x1)]) hx hb prd_R_readStatement_148 hl (by decide) rfl (fun ls hl => ?_)
                refine lv_goto (tgt := 311) hx hb prd_R_readStatement_150 (by decide) ?_
                refine lv_aload_n hx hb prd_R_readStatement_311 rfl (lv_at hl 3 rfl) ?_
                refine pr_getr (t := 2) hx hb hts prs_R hown hK hP 3 1 (by decide) rfl (hts _ prw_111) rfl prd_R_readStatement_312 ?_
                refine lv_iload_n hx hb prd_R_readStatement_315 rfl (lv_at hl 1 rfl) ?_
                obtain ⟨r181, hr181, hf⟩ := pr_bi hf
                refine pr_callVv (rest := []) (res := r181) ⟨hx, hb, hml, hown, hts⟩ 2 (prc_G_closeStatement hD hX 1 (Nat.le_refl _) r179.2 r162.1 r181 hr181) (prg_G_closeStatement hts prw_217 (by have := hh; omega)) hX hXs hK hP hS (by decide) rfl rfl rfl rfl hl.1 (Nat.le_of_ble_eq_true rfl) prd_R_readStatement_316 (fun H locs hP hS => ?_)
                refine lv_aload_n hx hb prd_R_readStatement_319 rfl (lv_at hl 3 rfl) ?_
                refine lv_iload_n hx hb prd_R_readStatement_320 rfl (lv_at hl 2 rfl) ?_
                refine pr_puti (ty := .int) hx hb hts prs_R prq_R prtt_R prtn_R hown hK hP (hD _) hS 3 3 (by decide) rfl (hts _ prw_218) rfl rfl (prtt_R 3 (by decide)) rfl rfl prd_R_readStatement_321 (fun H locs hP hS => ?_)
                refine lv_iload hx hb prd_R_readStatement_324 (lv_at hl 0 rfl) ?_
                exact pr_retz E (Or.inl rfl) hP hS (pr_so hf) prd_R_readStatement_326
              · have hf := pr_ie c180 hf
                refine lv_aload_n hx hb prd_R_readStatement_134 rfl (lv_at hl 2 rfl) ?_
                refine lv_bipush (v := 19) hx hb prd_R_readStatement_135 (by decide) ?_
                obtain ⟨r182, hr182, hf⟩ := pr_bi hf
                refine pr_callVi (rest := []) (res := r182) ⟨hx, hb, hml, hown, hts⟩ 3 (prc_R_take hD hX 1 (Nat.le_refl _) r179.2 19 r182 hr182) (prg_R_take hts prw_99 (by have := hh; omega)) hX hXs hK hP hS (by decide) rfl rfl rfl rfl hl.1 (Nat.le_of_ble_eq_true rfl) prd_R_readStatement_137 (fun H locs hP hS => ?_)
                refine lv_if_eq (tgt := 147) hx hb prd_R_readStatement_140 (by decide) (fun c183 => ?_) (fun c183 => ?_)
                · have hf := pr_it c183 hf
                  refine lv_iconst (v := 0) hx hb prd_R_readStatement_147 (by decide) ?_
                  refine lv_istore (lv' := [(4, .int 0), (3, .int r162.1), (2, .int r160), (0, .ref (ad 3)), (1, .int x1)]) hx hb prd_R_readStatement_148 hl (by decide) rfl (fun ls hl => ?_)
                  refine lv_goto (tgt := 311) hx hb prd_R_readStatement_150 (by decide) ?_
                  refine lv_aload_n hx hb prd_R_readStatement_311 rfl (lv_at hl 3 rfl) ?_
                  refine pr_getr (t := 2) hx hb hts prs_R hown hK hP 3 1 (by decide) rfl (hts _ prw_111) rfl prd_R_readStatement_312 ?_
                  refine lv_iload_n hx hb prd_R_readStatement_315 rfl (lv_at hl 1 rfl) ?_
                  obtain ⟨r184, hr184, hf⟩ := pr_bi hf
                  refine pr_callVv (rest := []) (res := r184) ⟨hx, hb, hml, hown, hts⟩ 2 (prc_G_closeStatement hD hX 1 (Nat.le_refl _) r182.2 r162.1 r184 hr184) (prg_G_closeStatement hts prw_217 (by have := hh; omega)) hX hXs hK hP hS (by decide) rfl rfl rfl rfl hl.1 (Nat.le_of_ble_eq_true rfl) prd_R_readStatement_316 (fun H locs hP hS => ?_)
                  refine lv_aload_n hx hb prd_R_readStatement_319 rfl (lv_at hl 3 rfl) ?_
                  refine lv_iload_n hx hb prd_R_readStatement_320 rfl (lv_at hl 2 rfl) ?_
                  refine pr_puti (ty := .int) hx hb hts prs_R prq_R prtt_R prtn_R hown hK hP (hD _) hS 3 3 (by decide) rfl (hts _ prw_218) rfl rfl (prtt_R 3 (by decide)) rfl rfl prd_R_readStatement_321 (fun H locs hP hS => ?_)
                  refine lv_iload hx hb prd_R_readStatement_324 (lv_at hl 0 rfl) ?_
                  exact pr_retz E (Or.inl rfl) hP hS (pr_so hf) prd_R_readStatement_326
                · have hf := pr_ie c183 hf
                  refine lv_iconst (v := 1) hx hb prd_R_readStatement_143 (by decide) ?_
                  refine lv_goto (tgt := 148) hx hb prd_R_readStatement_144 (by decide) ?_
                  refine lv_istore (lv' := [(4, .int 1), (3, .int r162.1), (2, .int r160), (0, .ref (ad 3)), (1, .int x1)]) hx hb prd_R_readStatement_148 hl (by decide) rfl (fun ls hl => ?_)
                  refine lv_goto (tgt := 311) hx hb prd_R_readStatement_150 (by decide) ?_
                  refine lv_aload_n hx hb prd_R_readStatement_311 rfl (lv_at hl 3 rfl) ?_
                  refine pr_getr (t := 2) hx hb hts prs_R hown hK hP 3 1 (by decide) rfl (hts _ prw_111) rfl prd_R_readStatement_312 ?_
                  refine lv_iload_n hx hb prd_R_readStatement_315 rfl (lv_at hl 1 rfl) ?_
                  obtain ⟨r185, hr185, hf⟩ := pr_bi hf
                  refine pr_callVv (rest := []) (res := r185) ⟨hx, hb, hml, hown, hts⟩ 2 (prc_G_closeStatement hD hX 1 (Nat.le_refl _) r182.2 r162.1 r185 hr185) (prg_G_closeStatement hts prw_217 (by have := hh; omega)) hX hXs hK hP hS (by decide) rfl rfl rfl rfl hl.1 (Nat.le_of_ble_eq_true rfl) prd_R_readStatement_316 (fun H locs hP hS => ?_)
                  refine lv_aload_n hx hb prd_R_readStatement_319 rfl (lv_at hl 3 rfl) ?_
                  refine lv_iload_n hx hb prd_R_readStatement_320 rfl (lv_at hl 2 rfl) ?_
                  refine pr_puti (ty := .int) hx hb hts prs_R prq_R prtt_R prtn_R hown hK hP (hD _) hS 3 3 (by decide) rfl (hts _ prw_218) rfl rfl (prtt_R 3 (by decide)) rfl rfl prd_R_readStatement_321 (fun H locs hP hS => ?_)
                  refine lv_iload hx hb prd_R_readStatement_324 (lv_at hl 0 rfl) ?_
                  exact pr_retz E (Or.inr rfl) hP hS (pr_so hf) prd_R_readStatement_326
        · have hf := pr_ie c172 hf
          by_cases c186 : r160 = 3
          · have hf := pr_it c186 hf
            refine lv_tableIn (tgt := 153) (off := 119) hx hb prd_R_readStatement_34 (by rw [c186]; decide) (by rw [c186]; decide) (by rw [c186] <;> rfl) (by decide) ?_
            refine lv_aload_n hx hb prd_R_readStatement_153 rfl (lv_at hl 2 rfl) ?_
            refine lv_iload_n hx hb prd_R_readStatement_154 rfl (lv_at hl 3 rfl) ?_
            obtain ⟨r187, hr187, hf⟩ := pr_bi hf
            refine pr_callVi (rest := []) (res := r187) ⟨hx, hb, hml, hown, hts⟩ 3 (prc_R_readSetPlace hD hX 216 (Nat.le_refl _) r162.2 x1 r187 hr187) (prg_R_readSetPlace hts prw_219 (by have := hh; omega)) hX hXs hK hP hS (by decide) rfl rfl rfl rfl hl.1 (Nat.le_of_ble_eq_true rfl) prd_R_readStatement_155 (fun H locs hP hS => ?_)
            refine lv_if_eq (tgt := 174) hx hb prd_R_readStatement_158 (by decide) (fun c188 => ?_) (fun c188 => ?_)
            · have hf := pr_it c188 hf
              refine lv_iconst (v := 0) hx hb prd_R_readStatement_174 (by decide) ?_
              refine lv_istore (lv' := [(4, .int 0), (3, .int r162.1), (2, .int r160), (0, .ref (ad 3)), (1, .int x1)]) hx hb prd_R_readStatement_175 hl (by decide) rfl (fun ls hl => ?_)
              refine lv_goto (tgt := 311) hx hb prd_R_readStatement_177 (by decide) ?_
              refine lv_aload_n hx hb prd_R_readStatement_311 rfl (lv_at hl 3 rfl) ?_
              refine pr_getr (t := 2) hx hb hts prs_R hown hK hP 3 1 (by decide) rfl (hts _ prw_111) rfl prd_R_readStatement_312 ?_
              refine lv_iload_n hx hb prd_R_readStatement_315 rfl (lv_at hl 1 rfl) ?_
              obtain ⟨r189, hr189, hf⟩ := pr_bi hf
              refine pr_callVv (rest := []) (res := r189) ⟨hx, hb, hml, hown, hts⟩ 2 (prc_G_closeStatement hD hX 1 (Nat.le_refl _) r187.2 r162.1 r189 hr189) (prg_G_closeStatement hts prw_217 (by have := hh; omega)) hX hXs hK hP hS (by decide) rfl rfl rfl rfl hl.1 (Nat.le_of_ble_eq_true rfl) prd_R_readStatement_316 (fun H locs hP hS => ?_)
              refine lv_aload_n hx hb prd_R_readStatement_319 rfl (lv_at hl 3 rfl) ?_
              refine lv_iload_n hx hb prd_R_readStatement_320 rfl (lv_at hl 2 rfl) ?_
              refine pr_puti (ty := .int) hx hb hts prs_R prq_R prtt_R prtn_R hown hK hP (hD _) hS 3 3 (by decide) rfl (hts _ prw_218) rfl rfl (prtt_R 3 (by decide)) rfl rfl prd_R_readStatement_321 (fun H locs hP hS => ?_)
              refine lv_iload hx hb prd_R_readStatement_324 (lv_at hl 0 rfl) ?_
              exact pr_retz E (Or.inl rfl) hP hS (pr_so hf) prd_R_readStatement_326
            · have hf := pr_ie c188 hf
              refine lv_aload_n hx hb prd_R_readStatement_161 rfl (lv_at hl 2 rfl) ?_
              refine lv_bipush (v := 19) hx hb prd_R_readStatement_162 (by decide) ?_
              obtain ⟨r190, hr190, hf⟩ := pr_bi hf
              refine pr_callVi (rest := []) (res := r190) ⟨hx, hb, hml, hown, hts⟩ 3 (prc_R_take hD hX 1 (Nat.le_refl _) r187.2 19 r190 hr190) (prg_R_take hts prw_99 (by have := hh; omega)) hX hXs hK hP hS (by decide) rfl rfl rfl rfl hl.1 (Nat.le_of_ble_eq_true rfl) prd_R_readStatement_164 (fun H locs hP hS => ?_)
              refine lv_if_eq (tgt := 174) hx hb prd_R_readStatement_167 (by decide) (fun c191 => ?_) (fun c191 => ?_)
              · have hf := pr_it c191 hf
                refine lv_iconst (v := 0) hx hb prd_R_readStatement_174 (by decide) ?_
                refine lv_istore (lv' := [(4, .int 0), (3, .int r162.1), (2, .int r160), (0, .ref (ad 3)), (1, .int x1)]) hx hb prd_R_readStatement_175 hl (by decide) rfl (fun ls hl => ?_)
                refine lv_goto (tgt := 311) hx hb prd_R_readStatement_177 (by decide) ?_
                refine lv_aload_n hx hb prd_R_readStatement_311 rfl (lv_at hl 3 rfl) ?_
                refine pr_getr (t := 2) hx hb hts prs_R hown hK hP 3 1 (by decide) rfl (hts _ prw_111) rfl prd_R_readStatement_312 ?_
                refine lv_iload_n hx hb prd_R_readStatement_315 rfl (lv_at hl 1 rfl) ?_
                obtain ⟨r192, hr192, hf⟩ := pr_bi hf
                refine pr_callVv (rest := []) (res := r192) ⟨hx, hb, hml, hown, hts⟩ 2 (prc_G_closeStatement hD hX 1 (Nat.le_refl _) r190.2 r162.1 r192 hr192) (prg_G_closeStatement hts prw_217 (by have := hh; omega)) hX hXs hK hP hS (by decide) rfl rfl rfl rfl hl.1 (Nat.le_of_ble_eq_true rfl) prd_R_readStatement_316 (fun H locs hP hS => ?_)
                refine lv_aload_n hx hb prd_R_readStatement_319 rfl (lv_at hl 3 rfl) ?_
                refine lv_iload_n hx hb prd_R_readStatement_320 rfl (lv_at hl 2 rfl) ?_
                refine pr_puti (ty := .int) hx hb hts prs_R prq_R prtt_R prtn_R hown hK hP (hD _) hS 3 3 (by decide) rfl (hts _ prw_218) rfl rfl (prtt_R 3 (by decide)) rfl rfl prd_R_readStatement_321 (fun H locs hP hS => ?_)
                refine lv_iload hx hb prd_R_readStatement_324 (lv_at hl 0 rfl) ?_
                exact pr_retz E (Or.inl rfl) hP hS (pr_so hf) prd_R_readStatement_326
              · have hf := pr_ie c191 hf
                refine lv_iconst (v := 1) hx hb prd_R_readStatement_170 (by decide) ?_
                refine lv_goto (tgt := 175) hx hb prd_R_readStatement_171 (by decide) ?_
                refine lv_istore (lv' := [(4, .int 1), (3, .int r162.1), (2, .int r160), (0, .ref (ad 3)), (1, .int x1)]) hx hb prd_R_readStatement_175 hl (by decide) rfl (fun ls hl => ?_)
                refine lv_goto (tgt := 311) hx hb prd_R_readStatement_177 (by decide) ?_
                refine lv_aload_n hx hb prd_R_readStatement_311 rfl (lv_at hl 3 rfl) ?_
                refine pr_getr (t := 2) hx hb hts prs_R hown hK hP 3 1 (by decide) rfl (hts _ prw_111) rfl prd_R_readStatement_312 ?_
                refine lv_iload_n hx hb prd_R_readStatement_315 rfl (lv_at hl 1 rfl) ?_
                obtain ⟨r193, hr193, hf⟩ := pr_bi hf
                refine pr_callVv (rest := []) (res := r193) ⟨hx, hb, hml, hown, hts⟩ 2 (prc_G_closeStatement hD hX 1 (Nat.le_refl _) r190.2 r162.1 r193 hr193) (prg_G_closeStatement hts prw_217 (by have := hh; omega)) hX hXs hK hP hS (by decide) rfl rfl rfl rfl hl.1 (Nat.le_of_ble_eq_true rfl) prd_R_readStatement_316 (fun H locs hP hS => ?_)
                refine lv_aload_n hx hb prd_R_readStatement_319 rfl (lv_at hl 3 rfl) ?_
                refine lv_iload_n hx hb prd_R_readStatement_320 rfl (lv_at hl 2 rfl) ?_
                refine pr_puti (ty := .int) hx hb hts prs_R prq_R prtt_R prtn_R hown hK hP (hD _) hS 3 3 (by decide) rfl (hts _ prw_218) rfl rfl (prtt_R 3 (by decide)) rfl rfl prd_R_readStatement_321 (fun H locs hP hS => ?_)
                refine lv_iload hx hb prd_R_readStatement_324 (lv_at hl 0 rfl) ?_
                exact pr_retz E (Or.inr rfl) hP hS (pr_so hf) prd_R_readStatement_326
          · have hf := pr_ie c186 hf
            by_cases c194 : r160 = 4
            · have hf := pr_it c194 hf
              refine lv_tableIn (tgt := 180) (off := 146) hx hb prd_R_readStatement_34 (by rw [c194]; decide) (by rw [c194]; decide) (by rw [c194] <;> rfl) (by decide) ?_
              refine lv_aload_n hx hb prd_R_readStatement_180 rfl (lv_at hl 2 rfl) ?_
              refine lv_iload_n hx hb prd_R_readStatement_181 rfl (lv_at hl 0 rfl) ?_
              refine lv_iload_n hx hb prd_R_readStatement_182 rfl (lv_at hl 3 rfl) ?_
              obtain ⟨r195, hr195, hf⟩ := pr_bi hf
              refine pr_callVi (rest := []) (res := r195) ⟨hx, hb, hml, hown, hts⟩ 3 (prc_R_readCall hD hX 216 (Nat.le_refl _) r162.2 r162.1 x1 r195 hr195) (prg_R_readCall hts prw_220 (by have := hh; omega)) hX hXs hK hP hS (by decide) rfl rfl rfl rfl hl.1 (Nat.le_of_ble_eq_true rfl) prd_R_readStatement_183 (fun H locs hP hS => ?_)
              refine lv_if_eq (tgt := 202) hx hb prd_R_readStatement_186 (by decide) (fun c196 => ?_) (fun c196 => ?_)
              · have hf := pr_it c196 hf
                refine lv_iconst (v := 0) hx hb prd_R_readStatement_202 (by decide) ?_
                refine lv_istore (lv' := [(4, .int 0), (3, .int r162.1), (2, .int r160), (0, .ref (ad 3)), (1, .int x1)]) hx hb prd_R_readStatement_203 hl (by decide) rfl (fun ls hl => ?_)
                refine lv_goto (tgt := 311) hx hb prd_R_readStatement_205 (by decide) ?_
                refine lv_aload_n hx hb prd_R_readStatement_311 rfl (lv_at hl 3 rfl) ?_
                refine pr_getr (t := 2) hx hb hts prs_R hown hK hP 3 1 (by decide) rfl (hts _ prw_111) rfl prd_R_readStatement_312 ?_
                refine lv_iload_n hx hb prd_R_readStatement_315 rfl (lv_at hl 1 rfl) ?_
                obtain ⟨r197, hr197, hf⟩ := pr_bi hf
                refine pr_callVv (rest := []) (res := r197) ⟨hx, hb, hml, hown, hts⟩ 2 (prc_G_closeStatement hD hX 1 (Nat.le_refl _) r195.2 r162.1 r197 hr197) (prg_G_closeStatement hts prw_217 (by have := hh; omega)) hX hXs hK hP hS (by decide) rfl rfl rfl rfl hl.1 (Nat.le_of_ble_eq_true rfl) prd_R_readStatement_316 (fun H locs hP hS => ?_)
                refine lv_aload_n hx hb prd_R_readStatement_319 rfl (lv_at hl 3 rfl) ?_
                refine lv_iload_n hx hb prd_R_readStatement_320 rfl (lv_at hl 2 rfl) ?_
                refine pr_puti (ty := .int) hx hb hts prs_R prq_R prtt_R prtn_R hown hK hP (hD _) hS 3 3 (by decide) rfl (hts _ prw_218) rfl rfl (prtt_R 3 (by decide)) rfl rfl prd_R_readStatement_321 (fun H locs hP hS => ?_)
                refine lv_iload hx hb prd_R_readStatement_324 (lv_at hl 0 rfl) ?_
                exact pr_retz E (Or.inl rfl) hP hS (pr_so hf) prd_R_readStatement_326
              · have hf := pr_ie c196 hf
                refine lv_aload_n hx hb prd_R_readStatement_189 rfl (lv_at hl 2 rfl) ?_
                refine lv_bipush (v := 19) hx hb prd_R_readStatement_190 (by decide) ?_
                obtain ⟨r198, hr198, hf⟩ := pr_bi hf
                refine pr_callVi (rest := []) (res := r198) ⟨hx, hb, hml, hown, hts⟩ 3 (prc_R_take hD hX 1 (Nat.le_refl _) r195.2 19 r198 hr198) (prg_R_take hts prw_99 (by have := hh; omega)) hX hXs hK hP hS (by decide) rfl rfl rfl rfl hl.1 (Nat.le_of_ble_eq_true rfl) prd_R_readStatement_192 (fun H locs hP hS => ?_)
                refine lv_if_eq (tgt := 202) hx hb prd_R_readStatement_195 (by decide) (fun c199 => ?_) (fun c199 => ?_)
                · have hf := pr_it c199 hf
                  refine lv_iconst (v := 0) hx hb prd_R_readStatement_202 (by decide) ?_
                  refine lv_istore (lv' := [(4, .int 0), (3, .int r162.1), (2, .int r160), (0, .ref (ad 3)), (1, .int x1)]) hx hb prd_R_readStatement_203 hl (by decide) rfl (fun ls hl => ?_)
                  refine lv_goto (tgt := 311) hx hb prd_R_readStatement_205 (by decide) ?_
                  refine lv_aload_n hx hb prd_R_readStatement_311 rfl (lv_at hl 3 rfl) ?_
                  refine pr_getr (t := 2) hx hb hts prs_R hown hK hP 3 1 (by decide) rfl (hts _ prw_111) rfl prd_R_readStatement_312 ?_
                  refine lv_iload_n hx hb prd_R_readStatement_315 rfl (lv_at hl 1 rfl) ?_
                  obtain ⟨r200, hr200, hf⟩ := pr_bi hf
                  refine pr_callVv (rest := []) (res := r200) ⟨hx, hb, hml, hown, hts⟩ 2 (prc_G_closeStatement hD hX 1 (Nat.le_refl _) r198.2 r162.1 r200 hr200) (prg_G_closeStatement hts prw_217 (by have := hh; omega)) hX hXs hK hP hS (by decide) rfl rfl rfl rfl hl.1 (Nat.le_of_ble_eq_true rfl) prd_R_readStatement_316 (fun H locs hP hS => ?_)
                  refine lv_aload_n hx hb prd_R_readStatement_319 rfl (lv_at hl 3 rfl) ?_
                  refine lv_iload_n hx hb prd_R_readStatement_320 rfl (lv_at hl 2 rfl) ?_
                  refine pr_puti (ty := .int) hx hb hts prs_R prq_R prtt_R prtn_R hown hK hP (hD _) hS 3 3 (by decide) rfl (hts _ prw_218) rfl rfl (prtt_R 3 (by decide)) rfl rfl prd_R_readStatement_321 (fun H locs hP hS => ?_)
                  refine lv_iload hx hb prd_R_readStatement_324 (lv_at hl 0 rfl) ?_
                  exact pr_retz E (Or.inl rfl) hP hS (pr_so hf) prd_R_readStatement_326
                · have hf := pr_ie c199 hf
                  refine lv_iconst (v := 1) hx hb prd_R_readStatement_198 (by decide) ?_
                  refine lv_goto (tgt := 203) hx hb prd_R_readStatement_199 (by decide) ?_
                  refine lv_istore (lv' := [(4, .int 1), (3, .int r162.1), (2, .int r160), (0, .ref (ad 3)), (1, .int x1)]) hx hb prd_R_readStatement_203 hl (by decide) rfl (fun ls hl => ?_)
                  refine lv_goto (tgt := 311) hx hb prd_R_readStatement_205 (by decide) ?_
                  refine lv_aload_n hx hb prd_R_readStatement_311 rfl (lv_at hl 3 rfl) ?_
                  refine pr_getr (t := 2) hx hb hts prs_R hown hK hP 3 1 (by decide) rfl (hts _ prw_111) rfl prd_R_readStatement_312 ?_
                  refine lv_iload_n hx hb prd_R_readStatement_315 rfl (lv_at hl 1 rfl) ?_
                  obtain ⟨r201, hr201, hf⟩ := pr_bi hf
                  refine pr_callVv (rest := []) (res := r201) ⟨hx, hb, hml, hown, hts⟩ 2 (prc_G_closeStatement hD hX 1 (Nat.le_refl _) r198.2 r162.1 r201 hr201) (prg_G_closeStatement hts prw_217 (by have := hh; omega)) hX hXs hK hP hS (by decide) rfl rfl rfl rfl hl.1 (Nat.le_of_ble_eq_true rfl) prd_R_readStatement_316 (fun H locs hP hS => ?_)
                  refine lv_aload_n hx hb prd_R_readStatement_319 rfl (lv_at hl 3 rfl) ?_
                  refine lv_iload_n hx hb prd_R_readStatement_320 rfl (lv_at hl 2 rfl) ?_
                  refine pr_puti (ty := .int) hx hb hts prs_R prq_R prtt_R prtn_R hown hK hP (hD _) hS 3 3 (by decide) rfl (hts _ prw_218) rfl rfl (prtt_R 3 (by decide)) rfl rfl prd_R_readStatement_321 (fun H locs hP hS => ?_)
                  refine lv_iload hx hb prd_R_readStatement_324 (lv_at hl 0 rfl) ?_
                  exact pr_retz E (Or.inr rfl) hP hS (pr_so hf) prd_R_readStatement_326
            · have hf := pr_ie c194 hf
              by_cases c202 : r160 = 5
              · have hf := pr_it c202 hf
                refine lv_tableIn (tgt := 302) (off := 268) hx hb prd_R_readStatement_34 (by rw [c202]; decide) (by rw [c202]; decide) (by rw [c202] <;> rfl) (by decide) ?_
                refine lv_aload_n hx hb prd_R_readStatement_302 rfl (lv_at hl 2 rfl) ?_
                refine lv_iload_n hx hb prd_R_readStatement_303 rfl (lv_at hl 0 rfl) ?_
                refine lv_iload_n hx hb prd_R_readStatement_304 rfl (lv_at hl 1 rfl) ?_
                refine lv_iload_n hx hb prd_R_readStatement_305 rfl (lv_at hl 3 rfl) ?_
                obtain ⟨r203, hr203, hf⟩ := pr_bi hf
                refine pr_callVi (rest := []) (res := r203) ⟨hx, hb, hml, hown, hts⟩ 3 (prc_R_readBranch hD hX hd hb0 (hd + 2) (Nat.le_refl _) Hrc0 r162.2 r162.1 r160 x1 r203 hr203) (prg_R_readBranch hts prw_221 (by have := hh; omega)) hX hXs hK hP hS (by decide) rfl rfl rfl rfl hl.1 (Nat.le_of_ble_eq_true rfl) prd_R_readStatement_306 (fun H locs hP hS => ?_)
                refine lv_istore (lv' := [(4, .int r203.1), (3, .int r162.1), (2, .int r160), (0, .ref (ad 3)), (1, .int x1)]) hx hb prd_R_readStatement_309 hl (by decide) rfl (fun ls hl => ?_)
                refine lv_aload_n hx hb prd_R_readStatement_311 rfl (lv_at hl 3 rfl) ?_
                refine pr_getr (t := 2) hx hb hts prs_R hown hK hP 3 1 (by decide) rfl (hts _ prw_111) rfl prd_R_readStatement_312 ?_
                refine lv_iload_n hx hb prd_R_readStatement_315 rfl (lv_at hl 1 rfl) ?_
                obtain ⟨r204, hr204, hf⟩ := pr_bi hf
                refine pr_callVv (rest := []) (res := r204) ⟨hx, hb, hml, hown, hts⟩ 2 (prc_G_closeStatement hD hX 1 (Nat.le_refl _) r203.2 r162.1 r204 hr204) (prg_G_closeStatement hts prw_217 (by have := hh; omega)) hX hXs hK hP hS (by decide) rfl rfl rfl rfl hl.1 (Nat.le_of_ble_eq_true rfl) prd_R_readStatement_316 (fun H locs hP hS => ?_)
                refine lv_aload_n hx hb prd_R_readStatement_319 rfl (lv_at hl 3 rfl) ?_
                refine lv_iload_n hx hb prd_R_readStatement_320 rfl (lv_at hl 2 rfl) ?_
                refine pr_puti (ty := .int) hx hb hts prs_R prq_R prtt_R prtn_R hown hK hP (hD _) hS 3 3 (by decide) rfl (hts _ prw_218) rfl rfl (prtt_R 3 (by decide)) rfl rfl prd_R_readStatement_321 (fun H locs hP hS => ?_)
                refine lv_iload hx hb prd_R_readStatement_324 (lv_at hl 0 rfl) ?_
                obtain ⟨hz205, hf⟩ := pr_z_in hf
                exact pr_retz E hz205 hP hS (pr_so hf) prd_R_readStatement_326
              · have hf := pr_ie c202 hf
                by_cases c206 : r160 = 6
                · have hf := pr_it c206 hf
                  refine lv_tableIn (tgt := 302) (off := 268) hx hb prd_R_readStatement_34 (by rw [c206]; decide) (by rw [c206]; decide) (by rw [c206] <;> rfl) (by decide) ?_
                  refine lv_aload_n hx hb prd_R_readStatement_302 rfl (lv_at hl 2 rfl) ?_
                  refine lv_iload_n hx hb prd_R_readStatement_303 rfl (lv_at hl 0 rfl) ?_
                  refine lv_iload_n hx hb prd_R_readStatement_304 rfl (lv_at hl 1 rfl) ?_
                  refine lv_iload_n hx hb prd_R_readStatement_305 rfl (lv_at hl 3 rfl) ?_
                  obtain ⟨r207, hr207, hf⟩ := pr_bi hf
                  refine pr_callVi (rest := []) (res := r207) ⟨hx, hb, hml, hown, hts⟩ 3 (prc_R_readBranch hD hX hd hb0 (hd + 2) (Nat.le_refl _) Hrc0 r162.2 r162.1 r160 x1 r207 hr207) (prg_R_readBranch hts prw_221 (by have := hh; omega)) hX hXs hK hP hS (by decide) rfl rfl rfl rfl hl.1 (Nat.le_of_ble_eq_true rfl) prd_R_readStatement_306 (fun H locs hP hS => ?_)
                  refine lv_istore (lv' := [(4, .int r207.1), (3, .int r162.1), (2, .int r160), (0, .ref (ad 3)), (1, .int x1)]) hx hb prd_R_readStatement_309 hl (by decide) rfl (fun ls hl => ?_)
                  refine lv_aload_n hx hb prd_R_readStatement_311 rfl (lv_at hl 3 rfl) ?_
                  refine pr_getr (t := 2) hx hb hts prs_R hown hK hP 3 1 (by decide) rfl (hts _ prw_111) rfl prd_R_readStatement_312 ?_
                  refine lv_iload_n hx hb prd_R_readStatement_315 rfl (lv_at hl 1 rfl) ?_
                  obtain ⟨r208, hr208, hf⟩ := pr_bi hf
                  refine pr_callVv (rest := []) (res := r208) ⟨hx, hb, hml, hown, hts⟩ 2 (prc_G_closeStatement hD hX 1 (Nat.le_refl _) r207.2 r162.1 r208 hr208) (prg_G_closeStatement hts prw_217 (by have := hh; omega)) hX hXs hK hP hS (by decide) rfl rfl rfl rfl hl.1 (Nat.le_of_ble_eq_true rfl) prd_R_readStatement_316 (fun H locs hP hS => ?_)
                  refine lv_aload_n hx hb prd_R_readStatement_319 rfl (lv_at hl 3 rfl) ?_
                  refine lv_iload_n hx hb prd_R_readStatement_320 rfl (lv_at hl 2 rfl) ?_
                  refine pr_puti (ty := .int) hx hb hts prs_R prq_R prtt_R prtn_R hown hK hP (hD _) hS 3 3 (by decide) rfl (hts _ prw_218) rfl rfl (prtt_R 3 (by decide)) rfl rfl prd_R_readStatement_321 (fun H locs hP hS => ?_)
                  refine lv_iload hx hb prd_R_readStatement_324 (lv_at hl 0 rfl) ?_
                  obtain ⟨hz209, hf⟩ := pr_z_in hf
                  exact pr_retz E hz209 hP hS (pr_so hf) prd_R_readStatement_326
                · have hf := pr_ie c206 hf
                  by_cases c210 : r160 = 7
                  · have hf := pr_it c210 hf
                    refine lv_tableIn (tgt := 208) (off := 174) hx hb prd_R_readStatement_34 (by rw [c210]; decide) (by rw [c210]; decide) (by rw [c210] <;> rfl) (by decide) ?_
                    refine lv_aload_n hx hb prd_R_readStatement_208 rfl (lv_at hl 2 rfl) ?_
                    refine lv_bipush (v := 9) hx hb prd_R_readStatement_209 (by decide) ?_
                    obtain ⟨r211, hr211, hf⟩ := pr_bi hf
                    refine pr_callVi (rest := []) (res := r211) ⟨hx, hb, hml, hown, hts⟩ 3 (prc_R_take hD hX 1 (Nat.le_refl _) r162.2 9 r211 hr211) (prg_R_take hts prw_99 (by have := hh; omega)) hX hXs hK hP hS (by decide) rfl rfl rfl rfl hl.1 (Nat.le_of_ble_eq_true rfl) prd_R_readStatement_211 (fun H locs hP hS => ?_)
                    refine lv_if_eq (tgt := 258) hx hb prd_R_readStatement_214 (by decide) (fun c212 => ?_) (fun c212 => ?_)
                    · have hf := pr_it c212 hf
                      refine lv_iconst (v := 0) hx hb prd_R_readStatement_258 (by decide) ?_
                      refine lv_istore (lv' := [(4, .int 0), (3, .int r162.1), (2, .int r160), (0, .ref (ad 3)), (1, .int x1)]) hx hb prd_R_readStatement_259 hl (by decide) rfl (fun ls hl => ?_)
                      refine lv_goto (tgt := 311) hx hb prd_R_readStatement_261 (by decide) ?_
                      refine lv_aload_n hx hb prd_R_readStatement_311 rfl (lv_at hl 3 rfl) ?_
                      refine pr_getr (t := 2) hx hb hts prs_R hown hK hP 3 1 (by decide) rfl (hts _ prw_111) rfl prd_R_readStatement_312 ?_
                      refine lv_iload_n hx hb prd_R_readStatement_315 rfl (lv_at hl 1 rfl) ?_
                      obtain ⟨r213, hr213, hf⟩ := pr_bi hf
                      refine pr_callVv (rest := []) (res := r213) ⟨hx, hb, hml, hown, hts⟩ 2 (prc_G_closeStatement hD hX 1 (Nat.le_refl _) r211.2 r162.1 r213 hr213) (prg_G_closeStatement hts prw_217 (by have := hh; omega)) hX hXs hK hP hS (by decide) rfl rfl rfl rfl hl.1 (Nat.le_of_ble_eq_true rfl) prd_R_readStatement_316 (fun H locs hP hS => ?_)
                      refine lv_aload_n hx hb prd_R_readStatement_319 rfl (lv_at hl 3 rfl) ?_
                      refine lv_iload_n hx hb prd_R_readStatement_320 rfl (lv_at hl 2 rfl) ?_
                      refine pr_puti (ty := .int) hx hb hts prs_R prq_R prtt_R prtn_R hown hK hP (hD _) hS 3 3 (by decide) rfl (hts _ prw_218) rfl rfl (prtt_R 3 (by decide)) rfl rfl prd_R_readStatement_321 (fun H locs hP hS => ?_)
                      refine lv_iload hx hb prd_R_readStatement_324 (lv_at hl 0 rfl) ?_
                      exact pr_retz E (Or.inl rfl) hP hS (pr_so hf) prd_R_readStatement_326
                    · have hf := pr_ie c212 hf
                      refine lv_aload_n hx hb prd_R_readStatement_217 rfl (lv_at hl 2 rfl) ?_
                      refine lv_bipush (v := 12) hx hb prd_R_readStatement_218 (by decide) ?_
                      obtain ⟨r214, hr214, hf⟩ := pr_bi hf
                      refine pr_callVi (rest := []) (res := r214) ⟨hx, hb, hml, hown, hts⟩ 3 (prc_R_take hD hX 1 (Nat.le_refl _) r211.2 12 r214 hr214) (prg_R_take hts prw_99 (by have := hh; omega)) hX hXs hK hP hS (by decide) rfl rfl rfl rfl hl.1 (Nat.le_of_ble_eq_true rfl) prd_R_readStatement_220 (fun H locs hP hS => ?_)
                      refine lv_if_eq (tgt := 258) hx hb prd_R_readStatement_223 (by decide) (fun c215 => ?_) (fun c215 => ?_)
                      · have hf := pr_it c215 hf
                        refine lv_iconst (v := 0) hx hb prd_R_readStatement_258 (by decide) ?_
                        refine lv_istore (lv' := [(4, .int 0), (3, .int r162.1), (2, .int r160), (0, .ref (ad 3)), (1, .int x1)]) hx hb prd_R_readStatement_259 hl (by decide) rfl (fun ls hl => ?_)
                        refine lv_goto (tgt := 311) hx hb prd_R_readStatement_261 (by decide) ?_
                        refine lv_aload_n hx hb prd_R_readStatement_311 rfl (lv_at hl 3 rfl) ?_
                        refine pr_getr (t := 2) hx hb hts prs_R hown hK hP 3 1 (by decide) rfl (hts _ prw_111) rfl prd_R_readStatement_312 ?_
                        refine lv_iload_n hx hb prd_R_readStatement_315 rfl (lv_at hl 1 rfl) ?_
                        obtain ⟨r216, hr216, hf⟩ := pr_bi hf
                        refine pr_callVv (rest := []) (res := r216) ⟨hx, hb, hml, hown, hts⟩ 2 (prc_G_closeStatement hD hX 1 (Nat.le_refl _) r214.2 r162.1 r216 hr216) (prg_G_closeStatement hts prw_217 (by have := hh; omega)) hX hXs hK hP hS (by decide) rfl rfl rfl rfl hl.1 (Nat.le_of_ble_eq_true rfl) prd_R_readStatement_316 (fun H locs hP hS => ?_)
                        refine lv_aload_n hx hb prd_R_readStatement_319 rfl (lv_at hl 3 rfl) ?_
                        refine lv_iload_n hx hb prd_R_readStatement_320 rfl (lv_at hl 2 rfl) ?_
                        refine pr_puti (ty := .int) hx hb hts prs_R prq_R prtt_R prtn_R hown hK hP (hD _) hS 3 3 (by decide) rfl (hts _ prw_218) rfl rfl (prtt_R 3 (by decide)) rfl rfl prd_R_readStatement_321 (fun H locs hP hS => ?_)
                        refine lv_iload hx hb prd_R_readStatement_324 (lv_at hl 0 rfl) ?_
                        exact pr_retz E (Or.inl rfl) hP hS (pr_so hf) prd_R_readStatement_326
                      · have hf := pr_ie c215 hf
                        refine lv_aload_n hx hb prd_R_readStatement_226 rfl (lv_at hl 2 rfl) ?_
                        refine lv_iload_n hx hb prd_R_readStatement_227 rfl (lv_at hl 3 rfl) ?_
                        refine lv_iconst (v := 1) hx hb prd_R_readStatement_228 (by decide) ?_
                        refine lv_iadd hx hb prd_R_readStatement_229 ?_
                        obtain ⟨r217, hr217, hf⟩ := pr_bi hf
                        refine pr_callVi (rest := []) (res := r217) ⟨hx, hb, hml, hown, hts⟩ 3 (prct_R_readCond hD hX r214.2 (x1 + 1) r217 hr217) (prg_R_readCond hts prw_193 (by have := hh; omega)) hX hXs hK hP hS (by decide) rfl rfl rfl rfl hl.1 (Nat.le_of_ble_eq_true rfl) prd_R_readStatement_230 (fun H locs hP hS => ?_)
                        refine lv_if_eq (tgt := 258) hx hb prd_R_readStatement_233 (by decide) (fun c218 => ?_) (fun c218 => ?_)
                        · have hf := pr_it c218 hf
                          refine lv_iconst (v := 0) hx hb prd_R_readStatement_258 (by decide) ?_
                          refine lv_istore (lv' := [(4, .int 0), (3, .int r162.1), (2, .int r160), (0, .ref (ad 3)), (1, .int x1)]) hx hb prd_R_readStatement_259 hl (by decide) rfl (fun ls hl => ?_)
                          refine lv_goto (tgt := 311) hx hb prd_R_readStatement_261 (by decide) ?_
                          refine lv_aload_n hx hb prd_R_readStatement_311 rfl (lv_at hl 3 rfl) ?_
                          refine pr_getr (t := 2) hx hb hts prs_R hown hK hP 3 1 (by decide) rfl (hts _ prw_111) rfl prd_R_readStatement_312 ?_
                          refine lv_iload_n hx hb prd_R_readStatement_315 rfl (lv_at hl 1 rfl) ?_
                          obtain ⟨r219, hr219, hf⟩ := pr_bi hf
                          refine pr_callVv (rest := []) (res := r219) ⟨hx, hb, hml, hown, hts⟩ 2 (prc_G_closeStatement hD hX 1 (Nat.le_refl _) r217.2 r162.1 r219 hr219) (prg_G_closeStatement hts prw_217 (by have := hh; omega)) hX hXs hK hP hS (by decide) rfl rfl rfl rfl hl.1 (Nat.le_of_ble_eq_true rfl) prd_R_readStatement_316 (fun H locs hP hS => ?_)
                          refine lv_aload_n hx hb prd_R_readStatement_319 rfl (lv_at hl 3 rfl) ?_
                          refine lv_iload_n hx hb prd_R_readStatement_320 rfl (lv_at hl 2 rfl) ?_
                          refine pr_puti (ty := .int) hx hb hts prs_R prq_R prtt_R prtn_R hown hK hP (hD _) hS 3 3 (by decide) rfl (hts _ prw_218) rfl rfl (prtt_R 3 (by decide)) rfl rfl prd_R_readStatement_321 (fun H locs hP hS => ?_)
                          refine lv_iload hx hb prd_R_readStatement_324 (lv_at hl 0 rfl) ?_
                          exact pr_retz E (Or.inl rfl) hP hS (pr_so hf) prd_R_readStatement_326
                        · have hf := pr_ie c218 hf
                          refine lv_aload_n hx hb prd_R_readStatement_236 rfl (lv_at hl 2 rfl) ?_
                          refine lv_bipush (v := 13) hx hb prd_R_readStatement_237 (by decide) ?_
                          obtain ⟨r220, hr220, hf⟩ := pr_bi hf
                          refine pr_callVi (rest := []) (res := r220) ⟨hx, hb, hml, hown, hts⟩ 3 (prc_R_take hD hX 1 (Nat.le_refl _) r217.2 13 r220 hr220) (prg_R_take hts prw_99 (by have := hh; omega)) hX hXs hK hP hS (by decide) rfl rfl rfl rfl hl.1 (Nat.le_of_ble_eq_true rfl) prd_R_readStatement_239 (fun H locs hP hS => ?_)
                          refine lv_if_eq (tgt := 258) hx hb prd_R_readStatement_242 (by decide) (fun c221 => ?_) (fun c221 => ?_)
                          · have hf := pr_it c221 hf
                            refine lv_iconst (v := 0) hx hb prd_R_readStatement_258 (by decide) ?_
                            refine lv_istore (lv' := [(4, .int 0), (3, .int r162.1), (2, .int r160), (0, .ref (ad 3)), (1, .int x1)]) hx hb prd_R_readStatement_259 hl (by decide) rfl (fun ls hl => ?_)
                            refine lv_goto (tgt := 311) hx hb prd_R_readStatement_261 (by decide) ?_
                            refine lv_aload_n hx hb prd_R_readStatement_311 rfl (lv_at hl 3 rfl) ?_
                            refine pr_getr (t := 2) hx hb hts prs_R hown hK hP 3 1 (by decide) rfl (hts _ prw_111) rfl prd_R_readStatement_312 ?_
                            refine lv_iload_n hx hb prd_R_readStatement_315 rfl (lv_at hl 1 rfl) ?_
                            obtain ⟨r222, hr222, hf⟩ := pr_bi hf
                            refine pr_callVv (rest := []) (res := r222) ⟨hx, hb, hml, hown, hts⟩ 2 (prc_G_closeStatement hD hX 1 (Nat.le_refl _) r220.2 r162.1 r222 hr222) (prg_G_closeStatement hts prw_217 (by have := hh; omega)) hX hXs hK hP hS (by decide) rfl rfl rfl rfl hl.1 (Nat.le_of_ble_eq_true rfl) prd_R_readStatement_316 (fun H locs hP hS => ?_)
                            refine lv_aload_n hx hb prd_R_readStatement_319 rfl (lv_at hl 3 rfl) ?_
                            refine lv_iload_n hx hb prd_R_readStatement_320 rfl (lv_at hl 2 rfl) ?_
                            refine pr_puti (ty := .int) hx hb hts prs_R prq_R prtt_R prtn_R hown hK hP (hD _) hS 3 3 (by decide) rfl (hts _ prw_218) rfl rfl (prtt_R 3 (by decide)) rfl rfl prd_R_readStatement_321 (fun H locs hP hS => ?_)
                            refine lv_iload hx hb prd_R_readStatement_324 (lv_at hl 0 rfl) ?_
                            exact pr_retz E (Or.inl rfl) hP hS (pr_so hf) prd_R_readStatement_326
                          · have hf := pr_ie c221 hf
                            refine lv_aload_n hx hb prd_R_readStatement_245 rfl (lv_at hl 2 rfl) ?_
                            refine lv_bipush (v := 19) hx hb prd_R_readStatement_246 (by decide) ?_
                            obtain ⟨r223, hr223, hf⟩ := pr_bi hf
                            refine pr_callVi (rest := []) (res := r223) ⟨hx, hb, hml, hown, hts⟩ 3 (prc_R_take hD hX 1 (Nat.le_refl _) r220.2 19 r223 hr223) (prg_R_take hts prw_99 (by have := hh; omega)) hX hXs hK hP hS (by decide) rfl rfl rfl rfl hl.1 (Nat.le_of_ble_eq_true rfl) prd_R_readStatement_248 (fun H locs hP hS => ?_)
                            refine lv_if_eq (tgt := 258) hx hb prd_R_readStatement_251 (by decide) (fun c224 => ?_) (fun c224 => ?_)
                            · have hf := pr_it c224 hf
                              refine lv_iconst (v := 0) hx hb prd_R_readStatement_258 (by decide) ?_
                              refine lv_istore (lv' := [(4, .int 0), (3, .int r162.1), (2, .int r160), (0, .ref (ad 3)), (1, .int x1)]) hx hb prd_R_readStatement_259 hl (by decide) rfl (fun ls hl => ?_)
                              refine lv_goto (tgt := 311) hx hb prd_R_readStatement_261 (by decide) ?_
                              refine lv_aload_n hx hb prd_R_readStatement_311 rfl (lv_at hl 3 rfl) ?_
                              refine pr_getr (t := 2) hx hb hts prs_R hown hK hP 3 1 (by decide) rfl (hts _ prw_111) rfl prd_R_readStatement_312 ?_
                              refine lv_iload_n hx hb prd_R_readStatement_315 rfl (lv_at hl 1 rfl) ?_
                              obtain ⟨r225, hr225, hf⟩ := pr_bi hf
                              refine pr_callVv (rest := []) (res := r225) ⟨hx, hb, hml, hown, hts⟩ 2 (prc_G_closeStatement hD hX 1 (Nat.le_refl _) r223.2 r162.1 r225 hr225) (prg_G_closeStatement hts prw_217 (by have := hh; omega)) hX hXs hK hP hS (by decide) rfl rfl rfl rfl hl.1 (Nat.le_of_ble_eq_true rfl) prd_R_readStatement_316 (fun H locs hP hS => ?_)
                              refine lv_aload_n hx hb prd_R_readStatement_319 rfl (lv_at hl 3 rfl) ?_
                              refine lv_iload_n hx hb prd_R_readStatement_320 rfl (lv_at hl 2 rfl) ?_
                              refine pr_puti (ty := .int) hx hb hts prs_R prq_R prtt_R prtn_R hown hK hP (hD _) hS 3 3 (by decide) rfl (hts _ prw_218) rfl rfl (prtt_R 3 (by decide)) rfl rfl prd_R_readStatement_321 (fun H locs hP hS => ?_)
                              refine lv_iload hx hb prd_R_readStatement_324 (lv_at hl 0 rfl) ?_
                              exact pr_retz E (Or.inl rfl) hP hS (pr_so hf) prd_R_readStatement_326
                            · have hf := pr_ie c224 hf
                              refine lv_iconst (v := 1) hx hb prd_R_readStatement_254 (by decide) ?_
                              refine lv_goto (tgt := 259) hx hb prd_R_readStatement_255 (by decide) ?_
                              refine lv_istore (lv' := [(4, .int 1), (3, .int r162.1), (2, .int r160), (0, .ref (ad 3)), (1, .int x1)]) hx hb prd_R_readStatement_259 hl (by decide) rfl (fun ls hl => ?_)
                              refine lv_goto (tgt := 311) hx hb prd_R_readStatement_261 (by decide) ?_
                              refine lv_aload_n hx hb prd_R_readStatement_311 rfl (lv_at hl 3 rfl) ?_
                              refine pr_getr (t := 2) hx hb hts prs_R hown hK hP 3 1 (by decide) rfl (hts _ prw_111) rfl prd_R_readStatement_312 ?_
                              refine lv_iload_n hx hb prd_R_readStatement_315 rfl (lv_at hl 1 rfl) ?_
                              obtain ⟨r226, hr226, hf⟩ := pr_bi hf
                              refine pr_callVv (rest := []) (res := r226) ⟨hx, hb, hml, hown, hts⟩ 2 (prc_G_closeStatement hD hX 1 (Nat.le_refl _) r223.2 r162.1 r226 hr226) (prg_G_closeStatement hts prw_217 (by have := hh; omega)) hX hXs hK hP hS (by decide) rfl rfl rfl rfl hl.1 (Nat.le_of_ble_eq_true rfl) prd_R_readStatement_316 (fun H locs hP hS => ?_)
                              refine lv_aload_n hx hb prd_R_readStatement_319 rfl (lv_at hl 3 rfl) ?_
                              refine lv_iload_n hx hb prd_R_readStatement_320 rfl (lv_at hl 2 rfl) ?_
                              refine pr_puti (ty := .int) hx hb hts prs_R prq_R prtt_R prtn_R hown hK hP (hD _) hS 3 3 (by decide) rfl (hts _ prw_218) rfl rfl (prtt_R 3 (by decide)) rfl rfl prd_R_readStatement_321 (fun H locs hP hS => ?_)
                              refine lv_iload hx hb prd_R_readStatement_324 (lv_at hl 0 rfl) ?_
                              exact pr_retz E (Or.inr rfl) hP hS (pr_so hf) prd_R_readStatement_326
                  · have hf := pr_ie c210 hf
                    by_cases c227 : r160 = 8
                    · have hf := pr_it c227 hf
                      refine lv_tableIn (tgt := 264) (off := 230) hx hb prd_R_readStatement_34 (by rw [c227]; decide) (by rw [c227]; decide) (by rw [c227] <;> rfl) (by decide) ?_
                      refine lv_aload_n hx hb prd_R_readStatement_264 rfl (lv_at hl 2 rfl) ?_
                      refine lv_bipush (v := 10) hx hb prd_R_readStatement_265 (by decide) ?_
                      obtain ⟨r228, hr228, hf⟩ := pr_bi hf
                      refine pr_callVi (rest := []) (res := r228) ⟨hx, hb, hml, hown, hts⟩ 3 (prc_R_take hD hX 1 (Nat.le_refl _) r162.2 10 r228 hr228) (prg_R_take hts prw_99 (by have := hh; omega)) hX hXs hK hP hS (by decide) rfl rfl rfl rfl hl.1 (Nat.le_of_ble_eq_true rfl) prd_R_readStatement_267 (fun H locs hP hS => ?_)
                      refine lv_if_eq (tgt := 296) hx hb prd_R_readStatement_270 (by decide) (fun c229 => ?_) (fun c229 => ?_)
                      · have hf := pr_it c229 hf
                        refine lv_iconst (v := 0) hx hb prd_R_readStatement_296 (by decide) ?_
                        refine lv_istore (lv' := [(4, .int 0), (3, .int r162.1), (2, .int r160), (0, .ref (ad 3)), (1, .int x1)]) hx hb prd_R_readStatement_297 hl (by decide) rfl (fun ls hl => ?_)
                        refine lv_goto (tgt := 311) hx hb prd_R_readStatement_299 (by decide) ?_
                        refine lv_aload_n hx hb prd_R_readStatement_311 rfl (lv_at hl 3 rfl) ?_
                        refine pr_getr (t := 2) hx hb hts prs_R hown hK hP 3 1 (by decide) rfl (hts _ prw_111) rfl prd_R_readStatement_312 ?_
                        refine lv_iload_n hx hb prd_R_readStatement_315 rfl (lv_at hl 1 rfl) ?_
                        obtain ⟨r230, hr230, hf⟩ := pr_bi hf
                        refine pr_callVv (rest := []) (res := r230) ⟨hx, hb, hml, hown, hts⟩ 2 (prc_G_closeStatement hD hX 1 (Nat.le_refl _) r228.2 r162.1 r230 hr230) (prg_G_closeStatement hts prw_217 (by have := hh; omega)) hX hXs hK hP hS (by decide) rfl rfl rfl rfl hl.1 (Nat.le_of_ble_eq_true rfl) prd_R_readStatement_316 (fun H locs hP hS => ?_)
                        refine lv_aload_n hx hb prd_R_readStatement_319 rfl (lv_at hl 3 rfl) ?_
                        refine lv_iload_n hx hb prd_R_readStatement_320 rfl (lv_at hl 2 rfl) ?_
                        refine pr_puti (ty := .int) hx hb hts prs_R prq_R prtt_R prtn_R hown hK hP (hD _) hS 3 3 (by decide) rfl (hts _ prw_218) rfl rfl (prtt_R 3 (by decide)) rfl rfl prd_R_readStatement_321 (fun H locs hP hS => ?_)
                        refine lv_iload hx hb prd_R_readStatement_324 (lv_at hl 0 rfl) ?_
                        exact pr_retz E (Or.inl rfl) hP hS (pr_so hf) prd_R_readStatement_326
                      · have hf := pr_ie c229 hf
                        refine lv_aload_n hx hb prd_R_readStatement_273 rfl (lv_at hl 2 rfl) ?_
                        refine lv_iload_n hx hb prd_R_readStatement_274 rfl (lv_at hl 3 rfl) ?_
                        refine lv_iconst (v := 1) hx hb prd_R_readStatement_275 (by decide) ?_
                        refine lv_iadd hx hb prd_R_readStatement_276 ?_
                        obtain ⟨r231, hr231, hf⟩ := pr_bi hf
                        refine pr_callVi (rest := []) (res := r231) ⟨hx, hb, hml, hown, hts⟩ 3 (prct_R_readSum hD hX r228.2 (x1 + 1) r231 hr231) (prg_R_readSum hts prw_151 (by have := hh; omega)) hX hXs hK hP hS (by decide) rfl rfl rfl rfl hl.1 (Nat.le_of_ble_eq_true rfl) prd_R_readStatement_277 (fun H locs hP hS => ?_)
                        refine lv_if_eq (tgt := 296) hx hb prd_R_readStatement_280 (by decide) (fun c232 => ?_) (fun c232 => ?_)
                        · have hf := pr_it c232 hf
                          refine lv_iconst (v := 0) hx hb prd_R_readStatement_296 (by decide) ?_
                          refine lv_istore (lv' := [(4, .int 0), (3, .int r162.1), (2, .int r160), (0, .ref (ad 3)), (1, .int x1)]) hx hb prd_R_readStatement_297 hl (by decide) rfl (fun ls hl => ?_)
                          refine lv_goto (tgt := 311) hx hb prd_R_readStatement_299 (by decide) ?_
                          refine lv_aload_n hx hb prd_R_readStatement_311 rfl (lv_at hl 3 rfl) ?_
                          refine pr_getr (t := 2) hx hb hts prs_R hown hK hP 3 1 (by decide) rfl (hts _ prw_111) rfl prd_R_readStatement_312 ?_
                          refine lv_iload_n hx hb prd_R_readStatement_315 rfl (lv_at hl 1 rfl) ?_
                          obtain ⟨r233, hr233, hf⟩ := pr_bi hf
                          refine pr_callVv (rest := []) (res := r233) ⟨hx, hb, hml, hown, hts⟩ 2 (prc_G_closeStatement hD hX 1 (Nat.le_refl _) r231.2 r162.1 r233 hr233) (prg_G_closeStatement hts prw_217 (by have := hh; omega)) hX hXs hK hP hS (by decide) rfl rfl rfl rfl hl.1 (Nat.le_of_ble_eq_true rfl) prd_R_readStatement_316 (fun H locs hP hS => ?_)
                          refine lv_aload_n hx hb prd_R_readStatement_319 rfl (lv_at hl 3 rfl) ?_
                          refine lv_iload_n hx hb prd_R_readStatement_320 rfl (lv_at hl 2 rfl) ?_
                          refine pr_puti (ty := .int) hx hb hts prs_R prq_R prtt_R prtn_R hown hK hP (hD _) hS 3 3 (by decide) rfl (hts _ prw_218) rfl rfl (prtt_R 3 (by decide)) rfl rfl prd_R_readStatement_321 (fun H locs hP hS => ?_)
                          refine lv_iload hx hb prd_R_readStatement_324 (lv_at hl 0 rfl) ?_
                          exact pr_retz E (Or.inl rfl) hP hS (pr_so hf) prd_R_readStatement_326
                        · have hf := pr_ie c232 hf
                          refine lv_aload_n hx hb prd_R_readStatement_283 rfl (lv_at hl 2 rfl) ?_
                          refine lv_bipush (v := 19) hx hb prd_R_readStatement_284 (by decide) ?_
                          obtain ⟨r234, hr234, hf⟩ := pr_bi hf
                          refine pr_callVi (rest := []) (res := r234) ⟨hx, hb, hml, hown, hts⟩ 3 (prc_R_take hD hX 1 (Nat.le_refl _) r231.2 19 r234 hr234) (prg_R_take hts prw_99 (by have := hh; omega)) hX hXs hK hP hS (by decide) rfl rfl rfl rfl hl.1 (Nat.le_of_ble_eq_true rfl) prd_R_readStatement_286 (fun H locs hP hS => ?_)
                          refine lv_if_eq (tgt := 296) hx hb prd_R_readStatement_289 (by decide) (fun c235 => ?_) (fun c235 => ?_)
                          · have hf := pr_it c235 hf
                            refine lv_iconst (v := 0) hx hb prd_R_readStatement_296 (by decide) ?_
                            refine lv_istore (lv' := [(4, .int 0), (3, .int r162.1), (2, .int r160), (0, .ref (ad 3)), (1, .int x1)]) hx hb prd_R_readStatement_297 hl (by decide) rfl (fun ls hl => ?_)
                            refine lv_goto (tgt := 311) hx hb prd_R_readStatement_299 (by decide) ?_
                            refine lv_aload_n hx hb prd_R_readStatement_311 rfl (lv_at hl 3 rfl) ?_
                            refine pr_getr (t := 2) hx hb hts prs_R hown hK hP 3 1 (by decide) rfl (hts _ prw_111) rfl prd_R_readStatement_312 ?_
                            refine lv_iload_n hx hb prd_R_readStatement_315 rfl (lv_at hl 1 rfl) ?_
                            obtain ⟨r236, hr236, hf⟩ := pr_bi hf
                            refine pr_callVv (rest := []) (res := r236) ⟨hx, hb, hml, hown, hts⟩ 2 (prc_G_closeStatement hD hX 1 (Nat.le_refl _) r234.2 r162.1 r236 hr236) (prg_G_closeStatement hts prw_217 (by have := hh; omega)) hX hXs hK hP hS (by decide) rfl rfl rfl rfl hl.1 (Nat.le_of_ble_eq_true rfl) prd_R_readStatement_316 (fun H locs hP hS => ?_)
                            refine lv_aload_n hx hb prd_R_readStatement_319 rfl (lv_at hl 3 rfl) ?_
                            refine lv_iload_n hx hb prd_R_readStatement_320 rfl (lv_at hl 2 rfl) ?_
                            refine pr_puti (ty := .int) hx hb hts prs_R prq_R prtt_R prtn_R hown hK hP (hD _) hS 3 3 (by decide) rfl (hts _ prw_218) rfl rfl (prtt_R 3 (by decide)) rfl rfl prd_R_readStatement_321 (fun H locs hP hS => ?_)
                            refine lv_iload hx hb prd_R_readStatement_324 (lv_at hl 0 rfl) ?_
                            exact pr_retz E (Or.inl rfl) hP hS (pr_so hf) prd_R_readStatement_326
                          · have hf := pr_ie c235 hf
                            refine lv_iconst (v := 1) hx hb prd_R_readStatement_292 (by decide) ?_
                            refine lv_goto (tgt := 297) hx hb prd_R_readStatement_293 (by decide) ?_
                            refine lv_istore (lv' := [(4, .int 1), (3, .int r162.1), (2, .int r160), (0, .ref (ad 3)), (1, .int x1)]) hx hb prd_R_readStatement_297 hl (by decide) rfl (fun ls hl => ?_)
                            refine lv_goto (tgt := 311) hx hb prd_R_readStatement_299 (by decide) ?_
                            refine lv_aload_n hx hb prd_R_readStatement_311 rfl (lv_at hl 3 rfl) ?_
                            refine pr_getr (t := 2) hx hb hts prs_R hown hK hP 3 1 (by decide) rfl (hts _ prw_111) rfl prd_R_readStatement_312 ?_
                            refine lv_iload_n hx hb prd_R_readStatement_315 rfl (lv_at hl 1 rfl) ?_
                            obtain ⟨r237, hr237, hf⟩ := pr_bi hf
                            refine pr_callVv (rest := []) (res := r237) ⟨hx, hb, hml, hown, hts⟩ 2 (prc_G_closeStatement hD hX 1 (Nat.le_refl _) r234.2 r162.1 r237 hr237) (prg_G_closeStatement hts prw_217 (by have := hh; omega)) hX hXs hK hP hS (by decide) rfl rfl rfl rfl hl.1 (Nat.le_of_ble_eq_true rfl) prd_R_readStatement_316 (fun H locs hP hS => ?_)
                            refine lv_aload_n hx hb prd_R_readStatement_319 rfl (lv_at hl 3 rfl) ?_
                            refine lv_iload_n hx hb prd_R_readStatement_320 rfl (lv_at hl 2 rfl) ?_
                            refine pr_puti (ty := .int) hx hb hts prs_R prq_R prtt_R prtn_R hown hK hP (hD _) hS 3 3 (by decide) rfl (hts _ prw_218) rfl rfl (prtt_R 3 (by decide)) rfl rfl prd_R_readStatement_321 (fun H locs hP hS => ?_)
                            refine lv_iload hx hb prd_R_readStatement_324 (lv_at hl 0 rfl) ?_
                            exact pr_retz E (Or.inr rfl) hP hS (pr_so hf) prd_R_readStatement_326
                    · have hf := pr_ie c227 hf
                      refine lv_tableOut (tgt := 302) hx hb prd_R_readStatement_34 (by have w0 := lv_neT (a := 1) c164 (by decide); have w1 := lv_neT (a := 2) c172 (by decide); have w2 := lv_neT (a := 3) c186 (by decide); have w3 := lv_neT (a := 4) c194 (by decide); have w4 := lv_neT (a := 5) c202 (by decide); have w5 := lv_neT (a := 6) c206 (by decide); have w6 := lv_neT (a := 7) c210 (by decide); have w7 := lv_neT (a := 8) c227 (by decide); omega) (by decide) ?_
                      refine lv_aload_n hx hb prd_R_readStatement_302 rfl (lv_at hl 2 rfl) ?_
                      refine lv_iload_n hx hb prd_R_readStatement_303 rfl (lv_at hl 0 rfl) ?_
                      refine lv_iload_n hx hb prd_R_readStatement_304 rfl (lv_at hl 1 rfl) ?_
                      refine lv_iload_n hx hb prd_R_readStatement_305 rfl (lv_at hl 3 rfl) ?_
                      obtain ⟨r238, hr238, hf⟩ := pr_bi hf
                      refine pr_callVi (rest := []) (res := r238) ⟨hx, hb, hml, hown, hts⟩ 3 (prc_R_readBranch hD hX hd hb0 (hd + 2) (Nat.le_refl _) Hrc0 r162.2 r162.1 r160 x1 r238 hr238) (prg_R_readBranch hts prw_221 (by have := hh; omega)) hX hXs hK hP hS (by decide) rfl rfl rfl rfl hl.1 (Nat.le_of_ble_eq_true rfl) prd_R_readStatement_306 (fun H locs hP hS => ?_)
                      refine lv_istore (lv' := [(4, .int r238.1), (3, .int r162.1), (2, .int r160), (0, .ref (ad 3)), (1, .int x1)]) hx hb prd_R_readStatement_309 hl (by decide) rfl (fun ls hl => ?_)
                      refine lv_aload_n hx hb prd_R_readStatement_311 rfl (lv_at hl 3 rfl) ?_
                      refine pr_getr (t := 2) hx hb hts prs_R hown hK hP 3 1 (by decide) rfl (hts _ prw_111) rfl prd_R_readStatement_312 ?_
                      refine lv_iload_n hx hb prd_R_readStatement_315 rfl (lv_at hl 1 rfl) ?_
                      obtain ⟨r239, hr239, hf⟩ := pr_bi hf
                      refine pr_callVv (rest := []) (res := r239) ⟨hx, hb, hml, hown, hts⟩ 2 (prc_G_closeStatement hD hX 1 (Nat.le_refl _) r238.2 r162.1 r239 hr239) (prg_G_closeStatement hts prw_217 (by have := hh; omega)) hX hXs hK hP hS (by decide) rfl rfl rfl rfl hl.1 (Nat.le_of_ble_eq_true rfl) prd_R_readStatement_316 (fun H locs hP hS => ?_)
                      refine lv_aload_n hx hb prd_R_readStatement_319 rfl (lv_at hl 3 rfl) ?_
                      refine lv_iload_n hx hb prd_R_readStatement_320 rfl (lv_at hl 2 rfl) ?_
                      refine pr_puti (ty := .int) hx hb hts prs_R prq_R prtt_R prtn_R hown hK hP (hD _) hS 3 3 (by decide) rfl (hts _ prw_218) rfl rfl (prtt_R 3 (by decide)) rfl rfl prd_R_readStatement_321 (fun H locs hP hS => ?_)
                      refine lv_iload hx hb prd_R_readStatement_324 (lv_at hl 0 rfl) ?_
                      obtain ⟨hz240, hf⟩ := pr_z_in hf
                      exact pr_retz E hz240 hP hS (pr_so hf) prd_R_readStatement_326
    · have hf := pr_it c163 hf
      refine lv_iconst (v := 0) hx hb prd_R_readStatement_31 (by decide) ?_
      exact pr_retz E (Or.inl rfl) hP hS (pr_so hf) prd_R_readStatement_32
  · have hf := pr_it c161 hf
    refine lv_iconst (v := (-1)) hx hb prd_R_readStatement_9 (by decide) ?_
    refine lv_goto (tgt := 25) hx hb prd_R_readStatement_10 (by decide) ?_
    refine lv_istore_n (lv' := [(3, .int (-1)), (2, .int r160), (0, .ref (ad 3)), (1, .int x1)]) hx hb prd_R_readStatement_25 rfl hl (by decide) rfl (fun ls hl => ?_)
    refine lv_iload_n hx hb prd_R_readStatement_26 rfl (lv_at hl 0 rfl) ?_
    refine lv_iconst (v := (-1)) hx hb prd_R_readStatement_27 (by decide) ?_
    refine lv_icmp_ne (tgt := 33) hx hb prd_R_readStatement_28 (by decide) (fun c241 => ?_) (fun c241 => ?_)
    · have hf := pr_ie c241 hf
      refine lv_iload_n hx hb prd_R_readStatement_33 rfl (lv_at hl 1 rfl) ?_
      by_cases c242 : r160 = 1
      · have hf := pr_it c242 hf
        refine lv_tableIn (tgt := 80) (off := 46) hx hb prd_R_readStatement_34 (by rw [c242]; decide) (by rw [c242]; decide) (by rw [c242] <;> rfl) (by decide) ?_
        refine lv_aload_n hx hb prd_R_readStatement_80 rfl (lv_at hl 2 rfl) ?_
        refine lv_iload_n hx hb prd_R_readStatement_81 rfl (lv_at hl 3 rfl) ?_
        obtain ⟨r243, hr243, hf⟩ := pr_bi hf
        refine pr_callVi (rest := []) (res := r243) ⟨hx, hb, hml, hown, hts⟩ 3 (prc_R_readVar hD hX 216 (Nat.le_refl _) σ x1 r243 hr243) (prg_R_readVar hts prw_216 (by have := hh; omega)) hX hXs hK hP hS (by decide) rfl rfl rfl rfl hl.1 (Nat.le_of_ble_eq_true rfl) prd_R_readStatement_82 (fun H locs hP hS => ?_)
        refine lv_if_eq (tgt := 101) hx hb prd_R_readStatement_85 (by decide) (fun c244 => ?_) (fun c244 => ?_)
        · have hf := pr_it c244 hf
          refine lv_iconst (v := 0) hx hb prd_R_readStatement_101 (by decide) ?_
          refine lv_istore (lv' := [(4, .int 0), (3, .int (-1)), (2, .int r160), (0, .ref (ad 3)), (1, .int x1)]) hx hb prd_R_readStatement_102 hl (by decide) rfl (fun ls hl => ?_)
          refine lv_goto (tgt := 311) hx hb prd_R_readStatement_104 (by decide) ?_
          refine lv_aload_n hx hb prd_R_readStatement_311 rfl (lv_at hl 3 rfl) ?_
          refine pr_getr (t := 2) hx hb hts prs_R hown hK hP 3 1 (by decide) rfl (hts _ prw_111) rfl prd_R_readStatement_312 ?_
          refine lv_iload_n hx hb prd_R_readStatement_315 rfl (lv_at hl 1 rfl) ?_
          obtain ⟨r245, hr245, hf⟩ := pr_bi hf
          refine pr_callVv (rest := []) (res := r245) ⟨hx, hb, hml, hown, hts⟩ 2 (prc_G_closeStatement hD hX 1 (Nat.le_refl _) r243.2 (-1) r245 hr245) (prg_G_closeStatement hts prw_217 (by have := hh; omega)) hX hXs hK hP hS (by decide) rfl rfl rfl rfl hl.1 (Nat.le_of_ble_eq_true rfl) prd_R_readStatement_316 (fun H locs hP hS => ?_)
          refine lv_aload_n hx hb prd_R_readStatement_319 rfl (lv_at hl 3 rfl) ?_
          refine lv_iload_n hx hb prd_R_readStatement_320 rfl (lv_at hl 2 rfl) ?_
          refine pr_puti (ty := .int) hx hb hts prs_R prq_R prtt_R prtn_R hown hK hP (hD _) hS 3 3 (by decide) rfl (hts _ prw_218) rfl rfl (prtt_R 3 (by decide)) rfl rfl prd_R_readStatement_321 (fun H locs hP hS => ?_)
          refine lv_iload hx hb prd_R_readStatement_324 (lv_at hl 0 rfl) ?_
          exact pr_retz E (Or.inl rfl) hP hS (pr_so hf) prd_R_readStatement_326
        · have hf := pr_ie c244 hf
          refine lv_aload_n hx hb prd_R_readStatement_88 rfl (lv_at hl 2 rfl) ?_
          refine lv_bipush (v := 19) hx hb prd_R_readStatement_89 (by decide) ?_
          obtain ⟨r246, hr246, hf⟩ := pr_bi hf
          refine pr_callVi (rest := []) (res := r246) ⟨hx, hb, hml, hown, hts⟩ 3 (prc_R_take hD hX 1 (Nat.le_refl _) r243.2 19 r246 hr246) (prg_R_take hts prw_99 (by have := hh; omega)) hX hXs hK hP hS (by decide) rfl rfl rfl rfl hl.1 (Nat.le_of_ble_eq_true rfl) prd_R_readStatement_91 (fun H locs hP hS => ?_)
          refine lv_if_eq (tgt := 101) hx hb prd_R_readStatement_94 (by decide) (fun c247 => ?_) (fun c247 => ?_)
          · have hf := pr_it c247 hf
            refine lv_iconst (v := 0) hx hb prd_R_readStatement_101 (by decide) ?_
            refine lv_istore (lv' := [(4, .int 0), (3, .int (-1)), (2, .int r160), (0, .ref (ad 3)), (1, .int x1)]) hx hb prd_R_readStatement_102 hl (by decide) rfl (fun ls hl => ?_)
            refine lv_goto (tgt := 311) hx hb prd_R_readStatement_104 (by decide) ?_
            refine lv_aload_n hx hb prd_R_readStatement_311 rfl (lv_at hl 3 rfl) ?_
            refine pr_getr (t := 2) hx hb hts prs_R hown hK hP 3 1 (by decide) rfl (hts _ prw_111) rfl prd_R_readStatement_312 ?_
            refine lv_iload_n hx hb prd_R_readStatement_315 rfl (lv_at hl 1 rfl) ?_
            obtain ⟨r248, hr248, hf⟩ := pr_bi hf
            refine pr_callVv (rest := []) (res := r248) ⟨hx, hb, hml, hown, hts⟩ 2 (prc_G_closeStatement hD hX 1 (Nat.le_refl _) r246.2 (-1) r248 hr248) (prg_G_closeStatement hts prw_217 (by have := hh; omega)) hX hXs hK hP hS (by decide) rfl rfl rfl rfl hl.1 (Nat.le_of_ble_eq_true rfl) prd_R_readStatement_316 (fun H locs hP hS => ?_)
            refine lv_aload_n hx hb prd_R_readStatement_319 rfl (lv_at hl 3 rfl) ?_
            refine lv_iload_n hx hb prd_R_readStatement_320 rfl (lv_at hl 2 rfl) ?_
            refine pr_puti (ty := .int) hx hb hts prs_R prq_R prtt_R prtn_R hown hK hP (hD _) hS 3 3 (by decide) rfl (hts _ prw_218) rfl rfl (prtt_R 3 (by decide)) rfl rfl prd_R_readStatement_321 (fun H locs hP hS => ?_)
            refine lv_iload hx hb prd_R_readStatement_324 (lv_at hl 0 rfl) ?_
            exact pr_retz E (Or.inl rfl) hP hS (pr_so hf) prd_R_readStatement_326
          · have hf := pr_ie c247 hf
            refine lv_iconst (v := 1) hx hb prd_R_readStatement_97 (by decide) ?_
            refine lv_goto (tgt := 102) hx hb prd_R_readStatement_98 (by decide) ?_
            refine lv_istore (lv' := [(4, .int 1), (3, .int (-1)), (2, .int r160), (0, .ref (ad 3)), (1, .int x1)]) hx hb prd_R_readStatement_102 hl (by decide) rfl (fun ls hl => ?_)
            refine lv_goto (tgt := 311) hx hb prd_R_readStatement_104 (by decide) ?_
            refine lv_aload_n hx hb prd_R_readStatement_311 rfl (lv_at hl 3 rfl) ?_
            refine pr_getr (t := 2) hx hb hts prs_R hown hK hP 3 1 (by decide) rfl (hts _ prw_111) rfl prd_R_readStatement_312 ?_
            refine lv_iload_n hx hb prd_R_readStatement_315 rfl (lv_at hl 1 rfl) ?_
            obtain ⟨r249, hr249, hf⟩ := pr_bi hf
            refine pr_callVv (rest := []) (res := r249) ⟨hx, hb, hml, hown, hts⟩ 2 (prc_G_closeStatement hD hX 1 (Nat.le_refl _) r246.2 (-1) r249 hr249) (prg_G_closeStatement hts prw_217 (by have := hh; omega)) hX hXs hK hP hS (by decide) rfl rfl rfl rfl hl.1 (Nat.le_of_ble_eq_true rfl) prd_R_readStatement_316 (fun H locs hP hS => ?_)
            refine lv_aload_n hx hb prd_R_readStatement_319 rfl (lv_at hl 3 rfl) ?_
            refine lv_iload_n hx hb prd_R_readStatement_320 rfl (lv_at hl 2 rfl) ?_
            refine pr_puti (ty := .int) hx hb hts prs_R prq_R prtt_R prtn_R hown hK hP (hD _) hS 3 3 (by decide) rfl (hts _ prw_218) rfl rfl (prtt_R 3 (by decide)) rfl rfl prd_R_readStatement_321 (fun H locs hP hS => ?_)
            refine lv_iload hx hb prd_R_readStatement_324 (lv_at hl 0 rfl) ?_
            exact pr_retz E (Or.inr rfl) hP hS (pr_so hf) prd_R_readStatement_326
      · have hf := pr_ie c242 hf
        by_cases c250 : r160 = 2
        · have hf := pr_it c250 hf
          refine lv_tableIn (tgt := 107) (off := 73) hx hb prd_R_readStatement_34 (by rw [c250]; decide) (by rw [c250]; decide) (by rw [c250] <;> rfl) (by decide) ?_
          refine lv_aload_n hx hb prd_R_readStatement_107 rfl (lv_at hl 2 rfl) ?_
          refine lv_iconst (v := 2) hx hb prd_R_readStatement_108 (by decide) ?_
          obtain ⟨r251, hr251, hf⟩ := pr_bi hf
          refine pr_callVi (rest := []) (res := r251) ⟨hx, hb, hml, hown, hts⟩ 3 (prc_R_take hD hX 1 (Nat.le_refl _) σ 2 r251 hr251) (prg_R_take hts prw_99 (by have := hh; omega)) hX hXs hK hP hS (by decide) rfl rfl rfl rfl hl.1 (Nat.le_of_ble_eq_true rfl) prd_R_readStatement_109 (fun H locs hP hS => ?_)
          refine lv_if_eq (tgt := 147) hx hb prd_R_readStatement_112 (by decide) (fun c252 => ?_) (fun c252 => ?_)
          · have hf := pr_it c252 hf
            refine lv_iconst (v := 0) hx hb prd_R_readStatement_147 (by decide) ?_
            refine lv_istore (lv' := [(4, .int 0), (3, .int (-1)), (2, .int r160), (0, .ref (ad 3)), (1, .int x1)]) hx hb prd_R_readStatement_148 hl (by decide) rfl (fun ls hl => ?_)
            refine lv_goto (tgt := 311) hx hb prd_R_readStatement_150 (by decide) ?_
            refine lv_aload_n hx hb prd_R_readStatement_311 rfl (lv_at hl 3 rfl) ?_
            refine pr_getr (t := 2) hx hb hts prs_R hown hK hP 3 1 (by decide) rfl (hts _ prw_111) rfl prd_R_readStatement_312 ?_
            refine lv_iload_n hx hb prd_R_readStatement_315 rfl (lv_at hl 1 rfl) ?_
            obtain ⟨r253, hr253, hf⟩ := pr_bi hf
            refine pr_callVv (rest := []) (res := r253) ⟨hx, hb, hml, hown, hts⟩ 2 (prc_G_closeStatement hD hX 1 (Nat.le_refl _) r251.2 (-1) r253 hr253) (prg_G_closeStatement hts prw_217 (by have := hh; omega)) hX hXs hK hP hS (by decide) rfl rfl rfl rfl hl.1 (Nat.le_of_ble_eq_true rfl) prd_R_readStatement_316 (fun H locs hP hS => ?_)
            refine lv_aload_n hx hb prd_R_readStatement_319 rfl (lv_at hl 3 rfl) ?_
            refine lv_iload_n hx hb prd_R_readStatement_320 rfl (lv_at hl 2 rfl) ?_
            refine pr_puti (ty := .int) hx hb hts prs_R prq_R prtt_R prtn_R hown hK hP (hD _) hS 3 3 (by decide) rfl (hts _ prw_218) rfl rfl (prtt_R 3 (by decide)) rfl rfl prd_R_readStatement_321 (fun H locs hP hS => ?_)
            refine lv_iload hx hb prd_R_readStatement_324 (lv_at hl 0 rfl) ?_
            exact pr_retz E (Or.inl rfl) hP hS (pr_so hf) prd_R_readStatement_326
          · have hf := pr_ie c252 hf
            refine lv_aload_n hx hb prd_R_readStatement_115 rfl (lv_at hl 2 rfl) ?_
            refine lv_bipush (v := 20) hx hb prd_R_readStatement_116 (by decide) ?_
            obtain ⟨r254, hr254, hf⟩ := pr_bi hf
            refine pr_callVi (rest := []) (res := r254) ⟨hx, hb, hml, hown, hts⟩ 3 (prc_R_take hD hX 1 (Nat.le_refl _) r251.2 20 r254 hr254) (prg_R_take hts prw_99 (by have := hh; omega)) hX hXs hK hP hS (by decide) rfl rfl rfl rfl hl.1 (Nat.le_of_ble_eq_true rfl) prd_R_readStatement_118 (fun H locs hP hS => ?_)
            refine lv_if_eq (tgt := 147) hx hb prd_R_readStatement_121 (by decide) (fun c255 => ?_) (fun c255 => ?_)
            · have hf := pr_it c255 hf
              refine lv_iconst (v := 0) hx hb prd_R_readStatement_147 (by decide) ?_
              refine lv_istore (lv' := [(4, .int 0), (3, .int (-1)), (2, .int r160), (0, .ref (ad 3)), (1, .int x1)]) hx hb prd_R_readStatement_148 hl (by decide) rfl (fun ls hl => ?_)
              refine lv_goto (tgt := 311) hx hb prd_R_readStatement_150 (by decide) ?_
              refine lv_aload_n hx hb prd_R_readStatement_311 rfl (lv_at hl 3 rfl) ?_
              refine pr_getr (t := 2) hx hb hts prs_R hown hK hP 3 1 (by decide) rfl (hts _ prw_111) rfl prd_R_readStatement_312 ?_
              refine lv_iload_n hx hb prd_R_readStatement_315 rfl (lv_at hl 1 rfl) ?_
              obtain ⟨r256, hr256, hf⟩ := pr_bi hf
              refine pr_callVv (rest := []) (res := r256) ⟨hx, hb, hml, hown, hts⟩ 2 (prc_G_closeStatement hD hX 1 (Nat.le_refl _) r254.2 (-1) r256 hr256) (prg_G_closeStatement hts prw_217 (by have := hh; omega)) hX hXs hK hP hS (by decide) rfl rfl rfl rfl hl.1 (Nat.le_of_ble_eq_true rfl) prd_R_readStatement_316 (fun H locs hP hS => ?_)
              refine lv_aload_n hx hb prd_R_readStatement_319 rfl (lv_at hl 3 rfl) ?_
              refine lv_iload_n hx hb prd_R_readStatement_320 rfl (lv_at hl 2 rfl) ?_
              refine pr_puti (ty := .int) hx hb hts prs_R prq_R prtt_R prtn_R hown hK hP (hD _) hS 3 3 (by decide) rfl (hts _ prw_218) rfl rfl (prtt_R 3 (by decide)) rfl rfl prd_R_readStatement_321 (fun H locs hP hS => ?_)
              refine lv_iload hx hb prd_R_readStatement_324 (lv_at hl 0 rfl) ?_
              exact pr_retz E (Or.inl rfl) hP hS (pr_so hf) prd_R_readStatement_326
            · have hf := pr_ie c255 hf
              refine lv_aload_n hx hb prd_R_readStatement_124 rfl (lv_at hl 2 rfl) ?_
              refine lv_iload_n hx hb prd_R_readStatement_125 rfl (lv_at hl 3 rfl) ?_
              refine lv_iconst (v := 1) hx hb prd_R_readStatement_126 (by decide) ?_
              refine lv_iadd hx hb prd_R_readStatement_127 ?_
              obtain ⟨r257, hr257, hf⟩ := pr_bi hf
              refine pr_callVi (rest := []) (res := r257) ⟨hx, hb, hml, hown, hts⟩ 3 (prct_R_readSum hD hX r254.2 (x1 + 1) r257 hr257) (prg_R_readSum hts prw_151 (by have := hh; omega)) hX hXs hK hP hS (by decide) rfl rfl rfl rfl hl.1 (Nat.le_of_ble_eq_true rfl) prd_R_readStatement_128 (fun H locs hP hS => ?_)
              refine lv_if_eq (tgt := 147) hx hb prd_R_readStatement_131 (by decide) (fun c258 => ?_) (fun c258 => ?_)
              · have hf := pr_it c258 hf
                refine lv_iconst (v := 0) hx hb prd_R_readStatement_147 (by decide) ?_
                refine lv_istore (lv' := [(4, .int 0), (3, .int (-1)), (2, .int r160), (0, .ref (ad 3)), (1, .int x1)]) hx hb prd_R_readStatement_148 hl (by decide) rfl (fun ls hl => ?_)
                refine lv_goto (tgt := 311) hx hb prd_R_readStatement_150 (by decide) ?_
                refine lv_aload_n hx hb prd_R_readStatement_311 rfl (lv_at hl 3 rfl) ?_
                refine pr_getr (t := 2) hx hb hts prs_R hown hK hP 3 1 (by decide) rfl (hts _ prw_111) rfl prd_R_readStatement_312 ?_
                refine lv_iload_n hx hb prd_R_readStatement_315 rfl (lv_at hl 1 rfl) ?_
                obtain ⟨r259, hr259, hf⟩ := pr_bi hf
                refine pr_callVv (rest := []) (res := r259) ⟨hx, hb, hml, hown, hts⟩ 2 (prc_G_closeStatement hD hX 1 (Nat.le_refl _) r257.2 (-1) r259 hr259) (prg_G_closeStatement hts prw_217 (by have := hh; omega)) hX hXs hK hP hS (by decide) rfl rfl rfl rfl hl.1 (Nat.le_of_ble_eq_true rfl) prd_R_readStatement_316 (fun H locs hP hS => ?_)
                refine lv_aload_n hx hb prd_R_readStatement_319 rfl (lv_at hl 3 rfl) ?_
                refine lv_iload_n hx hb prd_R_readStatement_320 rfl (lv_at hl 2 rfl) ?_
                refine pr_puti (ty := .int) hx hb hts prs_R prq_R prtt_R prtn_R hown hK hP (hD _) hS 3 3 (by decide) rfl (hts _ prw_218) rfl rfl (prtt_R 3 (by decide)) rfl rfl prd_R_readStatement_321 (fun H locs hP hS => ?_)
                refine lv_iload hx hb prd_R_readStatement_324 (lv_at hl 0 rfl) ?_
                exact pr_retz E (Or.inl rfl) hP hS (pr_so hf) prd_R_readStatement_326
              · have hf := pr_ie c258 hf
                refine lv_aload_n hx hb prd_R_readStatement_134 rfl (lv_at hl 2 rfl) ?_
                refine lv_bipush (v := 19) hx hb prd_R_readStatement_135 (by decide) ?_
                obtain ⟨r260, hr260, hf⟩ := pr_bi hf
                refine pr_callVi (rest := []) (res := r260) ⟨hx, hb, hml, hown, hts⟩ 3 (prc_R_take hD hX 1 (Nat.le_refl _) r257.2 19 r260 hr260) (prg_R_take hts prw_99 (by have := hh; omega)) hX hXs hK hP hS (by decide) rfl rfl rfl rfl hl.1 (Nat.le_of_ble_eq_true rfl) prd_R_readStatement_137 (fun H locs hP hS => ?_)
                refine lv_if_eq (tgt := 147) hx hb prd_R_readStatement_140 (by decide) (fun c261 => ?_) (fun c261 => ?_)
                · have hf := pr_it c261 hf
                  refine lv_iconst (v := 0) hx hb prd_R_readStatement_147 (by decide) ?_
                  refine lv_istore (lv' := [(4, .int 0), (3, .int (-1)), (2, .int r160), (0, .ref (ad 3)), (1, .int x1)]) hx hb prd_R_readStatement_148 hl (by decide) rfl (fun ls hl => ?_)
                  refine lv_goto (tgt := 311) hx hb prd_R_readStatement_150 (by decide) ?_
                  refine lv_aload_n hx hb prd_R_readStatement_311 rfl (lv_at hl 3 rfl) ?_
                  refine pr_getr (t := 2) hx hb hts prs_R hown hK hP 3 1 (by decide) rfl (hts _ prw_111) rfl prd_R_readStatement_312 ?_
                  refine lv_iload_n hx hb prd_R_readStatement_315 rfl (lv_at hl 1 rfl) ?_
                  obtain ⟨r262, hr262, hf⟩ := pr_bi hf
                  refine pr_callVv (rest := []) (res := r262) ⟨hx, hb, hml, hown, hts⟩ 2 (prc_G_closeStatement hD hX 1 (Nat.le_refl _) r260.2 (-1) r262 hr262) (prg_G_closeStatement hts prw_217 (by have := hh; omega)) hX hXs hK hP hS (by decide) rfl rfl rfl rfl hl.1 (Nat.le_of_ble_eq_true rfl) prd_R_readStatement_316 (fun H locs hP hS => ?_)
                  refine lv_aload_n hx hb prd_R_readStatement_319 rfl (lv_at hl 3 rfl) ?_
                  refine lv_iload_n hx hb prd_R_readStatement_320 rfl (lv_at hl 2 rfl) ?_
                  refine pr_puti (ty := .int) hx hb hts prs_R prq_R prtt_R prtn_R hown hK hP (hD _) hS 3 3 (by decide) rfl (hts _ prw_218) rfl rfl (prtt_R 3 (by decide)) rfl rfl prd_R_readStatement_321 (fun H locs hP hS => ?_)
                  refine lv_iload hx hb prd_R_readStatement_324 (lv_at hl 0 rfl) ?_
                  exact pr_retz E (Or.inl rfl) hP hS (pr_so hf) prd_R_readStatement_326
                · have hf := pr_ie c261 hf
                  refine lv_iconst (v := 1) hx hb prd_R_readStatement_143 (by decide) ?_
                  refine lv_goto (tgt := 148) hx hb prd_R_readStatement_144 (by decide) ?_
                  refine lv_istore (lv' := [(4, .int 1), (3, .int (-1)), (2, .int r160), (0, .ref (ad 3)), (1, .int x1)]) hx hb prd_R_readStatement_148 hl (by decide) rfl (fun ls hl => ?_)
                  refine lv_goto (tgt := 311) hx hb prd_R_readStatement_150 (by decide) ?_
                  refine lv_aload_n hx hb prd_R_readStatement_311 rfl (lv_at hl 3 rfl) ?_
                  refine pr_getr (t := 2) hx hb hts prs_R hown hK hP 3 1 (by decide) rfl (hts _ prw_111) rfl prd_R_readStatement_312 ?_
                  refine lv_iload_n hx hb prd_R_readStatement_315 rfl (lv_at hl 1 rfl) ?_
                  obtain ⟨r263, hr263, hf⟩ := pr_bi hf
                  refine pr_callVv (rest := []) (res := r263) ⟨hx, hb, hml, hown, hts⟩ 2 (prc_G_closeStatement hD hX 1 (Nat.le_refl _) r260.2 (-1) r263 hr263) (prg_G_closeStatement hts prw_217 (by have := hh; omega)) hX hXs hK hP hS (by decide) rfl rfl rfl rfl hl.1 (Nat.le_of_ble_eq_true rfl) prd_R_readStatement_316 (fun H locs hP hS => ?_)
                  refine lv_aload_n hx hb prd_R_readStatement_319 rfl (lv_at hl 3 rfl) ?_
                  refine lv_iload_n hx hb prd_R_readStatement_320 rfl (lv_at hl 2 rfl) ?_
                  refine pr_puti (ty := .int) hx hb hts prs_R prq_R prtt_R prtn_R hown hK hP (hD _) hS 3 3 (by decide) rfl (hts _ prw_218) rfl rfl (prtt_R 3 (by decide)) rfl rfl prd_R_readStatement_321 (fun H locs hP hS => ?_)
                  refine lv_iload hx hb prd_R_readStatement_324 (lv_at hl 0 rfl) ?_
                  exact pr_retz E (Or.inr rfl) hP hS (pr_so hf) prd_R_readStatement_326
        · have hf := pr_ie c250 hf
          by_cases c264 : r160 = 3
          · have hf := pr_it c264 hf
            refine lv_tableIn (tgt := 153) (off := 119) hx hb prd_R_readStatement_34 (by rw [c264]; decide) (by rw [c264]; decide) (by rw [c264] <;> rfl) (by decide) ?_
            refine lv_aload_n hx hb prd_R_readStatement_153 rfl (lv_at hl 2 rfl) ?_
            refine lv_iload_n hx hb prd_R_readStatement_154 rfl (lv_at hl 3 rfl) ?_
            obtain ⟨r265, hr265, hf⟩ := pr_bi hf
            refine pr_callVi (rest := []) (res := r265) ⟨hx, hb, hml, hown, hts⟩ 3 (prc_R_readSetPlace hD hX 216 (Nat.le_refl _) σ x1 r265 hr265) (prg_R_readSetPlace hts prw_219 (by have := hh; omega)) hX hXs hK hP hS (by decide) rfl rfl rfl rfl hl.1 (Nat.le_of_ble_eq_true rfl) prd_R_readStatement_155 (fun H locs hP hS => ?_)
            refine lv_if_eq (tgt := 174) hx hb prd_R_readStatement_158 (by decide) (fun c266 => ?_) (fun c266 => ?_)
            · have hf := pr_it c266 hf
              refine lv_iconst (v := 0) hx hb prd_R_readStatement_174 (by decide) ?_
              refine lv_istore (lv' := [(4, .int 0), (3, .int (-1)), (2, .int r160), (0, .ref (ad 3)), (1, .int x1)]) hx hb prd_R_readStatement_175 hl (by decide) rfl (fun ls hl => ?_)
              refine lv_goto (tgt := 311) hx hb prd_R_readStatement_177 (by decide) ?_
              refine lv_aload_n hx hb prd_R_readStatement_311 rfl (lv_at hl 3 rfl) ?_
              refine pr_getr (t := 2) hx hb hts prs_R hown hK hP 3 1 (by decide) rfl (hts _ prw_111) rfl prd_R_readStatement_312 ?_
              refine lv_iload_n hx hb prd_R_readStatement_315 rfl (lv_at hl 1 rfl) ?_
              obtain ⟨r267, hr267, hf⟩ := pr_bi hf
              refine pr_callVv (rest := []) (res := r267) ⟨hx, hb, hml, hown, hts⟩ 2 (prc_G_closeStatement hD hX 1 (Nat.le_refl _) r265.2 (-1) r267 hr267) (prg_G_closeStatement hts prw_217 (by have := hh; omega)) hX hXs hK hP hS (by decide) rfl rfl rfl rfl hl.1 (Nat.le_of_ble_eq_true rfl) prd_R_readStatement_316 (fun H locs hP hS => ?_)
              refine lv_aload_n hx hb prd_R_readStatement_319 rfl (lv_at hl 3 rfl) ?_
              refine lv_iload_n hx hb prd_R_readStatement_320 rfl (lv_at hl 2 rfl) ?_
              refine pr_puti (ty := .int) hx hb hts prs_R prq_R prtt_R prtn_R hown hK hP (hD _) hS 3 3 (by decide) rfl (hts _ prw_218) rfl rfl (prtt_R 3 (by decide)) rfl rfl prd_R_readStatement_321 (fun H locs hP hS => ?_)
              refine lv_iload hx hb prd_R_readStatement_324 (lv_at hl 0 rfl) ?_
              exact pr_retz E (Or.inl rfl) hP hS (pr_so hf) prd_R_readStatement_326
            · have hf := pr_ie c266 hf
              refine lv_aload_n hx hb prd_R_readStatement_161 rfl (lv_at hl 2 rfl) ?_
              refine lv_bipush (v := 19) hx hb prd_R_readStatement_162 (by decide) ?_
              obtain ⟨r268, hr268, hf⟩ := pr_bi hf
              refine pr_callVi (rest := []) (res := r268) ⟨hx, hb, hml, hown, hts⟩ 3 (prc_R_take hD hX 1 (Nat.le_refl _) r265.2 19 r268 hr268) (prg_R_take hts prw_99 (by have := hh; omega)) hX hXs hK hP hS (by decide) rfl rfl rfl rfl hl.1 (Nat.le_of_ble_eq_true rfl) prd_R_readStatement_164 (fun H locs hP hS => ?_)
              refine lv_if_eq (tgt := 174) hx hb prd_R_readStatement_167 (by decide) (fun c269 => ?_) (fun c269 => ?_)
              · have hf := pr_it c269 hf
                refine lv_iconst (v := 0) hx hb prd_R_readStatement_174 (by decide) ?_
                refine lv_istore (lv' := [(4, .int 0), (3, .int (-1)), (2, .int r160), (0, .ref (ad 3)), (1, .int x1)]) hx hb prd_R_readStatement_175 hl (by decide) rfl (fun ls hl => ?_)
                refine lv_goto (tgt := 311) hx hb prd_R_readStatement_177 (by decide) ?_
                refine lv_aload_n hx hb prd_R_readStatement_311 rfl (lv_at hl 3 rfl) ?_
                refine pr_getr (t := 2) hx hb hts prs_R hown hK hP 3 1 (by decide) rfl (hts _ prw_111) rfl prd_R_readStatement_312 ?_
                refine lv_iload_n hx hb prd_R_readStatement_315 rfl (lv_at hl 1 rfl) ?_
                obtain ⟨r270, hr270, hf⟩ := pr_bi hf
                refine pr_callVv (rest := []) (res := r270) ⟨hx, hb, hml, hown, hts⟩ 2 (prc_G_closeStatement hD hX 1 (Nat.le_refl _) r268.2 (-1) r270 hr270) (prg_G_closeStatement hts prw_217 (by have := hh; omega)) hX hXs hK hP hS (by decide) rfl rfl rfl rfl hl.1 (Nat.le_of_ble_eq_true rfl) prd_R_readStatement_316 (fun H locs hP hS => ?_)
                refine lv_aload_n hx hb prd_R_readStatement_319 rfl (lv_at hl 3 rfl) ?_
                refine lv_iload_n hx hb prd_R_readStatement_320 rfl (lv_at hl 2 rfl) ?_
                refine pr_puti (ty := .int) hx hb hts prs_R prq_R prtt_R prtn_R hown hK hP (hD _) hS 3 3 (by decide) rfl (hts _ prw_218) rfl rfl (prtt_R 3 (by decide)) rfl rfl prd_R_readStatement_321 (fun H locs hP hS => ?_)
                refine lv_iload hx hb prd_R_readStatement_324 (lv_at hl 0 rfl) ?_
                exact pr_retz E (Or.inl rfl) hP hS (pr_so hf) prd_R_readStatement_326
              · have hf := pr_ie c269 hf
                refine lv_iconst (v := 1) hx hb prd_R_readStatement_170 (by decide) ?_
                refine lv_goto (tgt := 175) hx hb prd_R_readStatement_171 (by decide) ?_
                refine lv_istore (lv' := [(4, .int 1), (3, .int (-1)), (2, .int r160), (0, .ref (ad 3)), (1, .int x1)]) hx hb prd_R_readStatement_175 hl (by decide) rfl (fun ls hl => ?_)
                refine lv_goto (tgt := 311) hx hb prd_R_readStatement_177 (by decide) ?_
                refine lv_aload_n hx hb prd_R_readStatement_311 rfl (lv_at hl 3 rfl) ?_
                refine pr_getr (t := 2) hx hb hts prs_R hown hK hP 3 1 (by decide) rfl (hts _ prw_111) rfl prd_R_readStatement_312 ?_
                refine lv_iload_n hx hb prd_R_readStatement_315 rfl (lv_at hl 1 rfl) ?_
                obtain ⟨r271, hr271, hf⟩ := pr_bi hf
                refine pr_callVv (rest := []) (res := r271) ⟨hx, hb, hml, hown, hts⟩ 2 (prc_G_closeStatement hD hX 1 (Nat.le_refl _) r268.2 (-1) r271 hr271) (prg_G_closeStatement hts prw_217 (by have := hh; omega)) hX hXs hK hP hS (by decide) rfl rfl rfl rfl hl.1 (Nat.le_of_ble_eq_true rfl) prd_R_readStatement_316 (fun H locs hP hS => ?_)
                refine lv_aload_n hx hb prd_R_readStatement_319 rfl (lv_at hl 3 rfl) ?_
                refine lv_iload_n hx hb prd_R_readStatement_320 rfl (lv_at hl 2 rfl) ?_
                refine pr_puti (ty := .int) hx hb hts prs_R prq_R prtt_R prtn_R hown hK hP (hD _) hS 3 3 (by decide) rfl (hts _ prw_218) rfl rfl (prtt_R 3 (by decide)) rfl rfl prd_R_readStatement_321 (fun H locs hP hS => ?_)
                refine lv_iload hx hb prd_R_readStatement_324 (lv_at hl 0 rfl) ?_
                exact pr_retz E (Or.inr rfl) hP hS (pr_so hf) prd_R_readStatement_326
          · have hf := pr_ie c264 hf
            by_cases c272 : r160 = 4
            · have hf := pr_it c272 hf
              refine lv_tableIn (tgt := 180) (off := 146) hx hb prd_R_readStatement_34 (by rw [c272]; decide) (by rw [c272]; decide) (by rw [c272] <;> rfl) (by decide) ?_
              refine lv_aload_n hx hb prd_R_readStatement_180 rfl (lv_at hl 2 rfl) ?_
              refine lv_iload_n hx hb prd_R_readStatement_181 rfl (lv_at hl 0 rfl) ?_
              refine lv_iload_n hx hb prd_R_readStatement_182 rfl (lv_at hl 3 rfl) ?_
              obtain ⟨r273, hr273, hf⟩ := pr_bi hf
              refine pr_callVi (rest := []) (res := r273) ⟨hx, hb, hml, hown, hts⟩ 3 (prc_R_readCall hD hX 216 (Nat.le_refl _) σ (-1) x1 r273 hr273) (prg_R_readCall hts prw_220 (by have := hh; omega)) hX hXs hK hP hS (by decide) rfl rfl rfl rfl hl.1 (Nat.le_of_ble_eq_true rfl) prd_R_readStatement_183 (fun H locs hP hS => ?_)
              refine lv_if_eq (tgt := 202) hx hb prd_R_readStatement_186 (by decide) (fun c274 => ?_) (fun c274 => ?_)
              · have hf := pr_it c274 hf
                refine lv_iconst (v := 0) hx hb prd_R_readStatement_202 (by decide) ?_
                refine lv_istore (lv' := [(4, .int 0), (3, .int (-1)), (2, .int r160), (0, .ref (ad 3)), (1, .int x1)]) hx hb prd_R_readStatement_203 hl (by decide) rfl (fun ls hl => ?_)
                refine lv_goto (tgt := 311) hx hb prd_R_readStatement_205 (by decide) ?_
                refine lv_aload_n hx hb prd_R_readStatement_311 rfl (lv_at hl 3 rfl) ?_
                refine pr_getr (t := 2) hx hb hts prs_R hown hK hP 3 1 (by decide) rfl (hts _ prw_111) rfl prd_R_readStatement_312 ?_
                refine lv_iload_n hx hb prd_R_readStatement_315 rfl (lv_at hl 1 rfl) ?_
                obtain ⟨r275, hr275, hf⟩ := pr_bi hf
                refine pr_callVv (rest := []) (res := r275) ⟨hx, hb, hml, hown, hts⟩ 2 (prc_G_closeStatement hD hX 1 (Nat.le_refl _) r273.2 (-1) r275 hr275) (prg_G_closeStatement hts prw_217 (by have := hh; omega)) hX hXs hK hP hS (by decide) rfl rfl rfl rfl hl.1 (Nat.le_of_ble_eq_true rfl) prd_R_readStatement_316 (fun H locs hP hS => ?_)
                refine lv_aload_n hx hb prd_R_readStatement_319 rfl (lv_at hl 3 rfl) ?_
                refine lv_iload_n hx hb prd_R_readStatement_320 rfl (lv_at hl 2 rfl) ?_
                refine pr_puti (ty := .int) hx hb hts prs_R prq_R prtt_R prtn_R hown hK hP (hD _) hS 3 3 (by decide) rfl (hts _ prw_218) rfl rfl (prtt_R 3 (by decide)) rfl rfl prd_R_readStatement_321 (fun H locs hP hS => ?_)
                refine lv_iload hx hb prd_R_readStatement_324 (lv_at hl 0 rfl) ?_
                exact pr_retz E (Or.inl rfl) hP hS (pr_so hf) prd_R_readStatement_326
              · have hf := pr_ie c274 hf
                refine lv_aload_n hx hb prd_R_readStatement_189 rfl (lv_at hl 2 rfl) ?_
                refine lv_bipush (v := 19) hx hb prd_R_readStatement_190 (by decide) ?_
                obtain ⟨r276, hr276, hf⟩ := pr_bi hf
                refine pr_callVi (rest := []) (res := r276) ⟨hx, hb, hml, hown, hts⟩ 3 (prc_R_take hD hX 1 (Nat.le_refl _) r273.2 19 r276 hr276) (prg_R_take hts prw_99 (by have := hh; omega)) hX hXs hK hP hS (by decide) rfl rfl rfl rfl hl.1 (Nat.le_of_ble_eq_true rfl) prd_R_readStatement_192 (fun H locs hP hS => ?_)
                refine lv_if_eq (tgt := 202) hx hb prd_R_readStatement_195 (by decide) (fun c277 => ?_) (fun c277 => ?_)
                · have hf := pr_it c277 hf
                  refine lv_iconst (v := 0) hx hb prd_R_readStatement_202 (by decide) ?_
                  refine lv_istore (lv' := [(4, .int 0), (3, .int (-1)), (2, .int r160), (0, .ref (ad 3)), (1, .int x1)]) hx hb prd_R_readStatement_203 hl (by decide) rfl (fun ls hl => ?_)
                  refine lv_goto (tgt := 311) hx hb prd_R_readStatement_205 (by decide) ?_
                  refine lv_aload_n hx hb prd_R_readStatement_311 rfl (lv_at hl 3 rfl) ?_
                  refine pr_getr (t := 2) hx hb hts prs_R hown hK hP 3 1 (by decide) rfl (hts _ prw_111) rfl prd_R_readStatement_312 ?_
                  refine lv_iload_n hx hb prd_R_readStatement_315 rfl (lv_at hl 1 rfl) ?_
                  obtain ⟨r278, hr278, hf⟩ := pr_bi hf
                  refine pr_callVv (rest := []) (res := r278) ⟨hx, hb, hml, hown, hts⟩ 2 (prc_G_closeStatement hD hX 1 (Nat.le_refl _) r276.2 (-1) r278 hr278) (prg_G_closeStatement hts prw_217 (by have := hh; omega)) hX hXs hK hP hS (by decide) rfl rfl rfl rfl hl.1 (Nat.le_of_ble_eq_true rfl) prd_R_readStatement_316 (fun H locs hP hS => ?_)
                  refine lv_aload_n hx hb prd_R_readStatement_319 rfl (lv_at hl 3 rfl) ?_
                  refine lv_iload_n hx hb prd_R_readStatement_320 rfl (lv_at hl 2 rfl) ?_
                  refine pr_puti (ty := .int) hx hb hts prs_R prq_R prtt_R prtn_R hown hK hP (hD _) hS 3 3 (by decide) rfl (hts _ prw_218) rfl rfl (prtt_R 3 (by decide)) rfl rfl prd_R_readStatement_321 (fun H locs hP hS => ?_)
                  refine lv_iload hx hb prd_R_readStatement_324 (lv_at hl 0 rfl) ?_
                  exact pr_retz E (Or.inl rfl) hP hS (pr_so hf) prd_R_readStatement_326
                · have hf := pr_ie c277 hf
                  refine lv_iconst (v := 1) hx hb prd_R_readStatement_198 (by decide) ?_
                  refine lv_goto (tgt := 203) hx hb prd_R_readStatement_199 (by decide) ?_
                  refine lv_istore (lv' := [(4, .int 1), (3, .int (-1)), (2, .int r160), (0, .ref (ad 3)), (1, .int x1)]) hx hb prd_R_readStatement_203 hl (by decide) rfl (fun ls hl => ?_)
                  refine lv_goto (tgt := 311) hx hb prd_R_readStatement_205 (by decide) ?_
                  refine lv_aload_n hx hb prd_R_readStatement_311 rfl (lv_at hl 3 rfl) ?_
                  refine pr_getr (t := 2) hx hb hts prs_R hown hK hP 3 1 (by decide) rfl (hts _ prw_111) rfl prd_R_readStatement_312 ?_
                  refine lv_iload_n hx hb prd_R_readStatement_315 rfl (lv_at hl 1 rfl) ?_
                  obtain ⟨r279, hr279, hf⟩ := pr_bi hf
                  refine pr_callVv (rest := []) (res := r279) ⟨hx, hb, hml, hown, hts⟩ 2 (prc_G_closeStatement hD hX 1 (Nat.le_refl _) r276.2 (-1) r279 hr279) (prg_G_closeStatement hts prw_217 (by have := hh; omega)) hX hXs hK hP hS (by decide) rfl rfl rfl rfl hl.1 (Nat.le_of_ble_eq_true rfl) prd_R_readStatement_316 (fun H locs hP hS => ?_)
                  refine lv_aload_n hx hb prd_R_readStatement_319 rfl (lv_at hl 3 rfl) ?_
                  refine lv_iload_n hx hb prd_R_readStatement_320 rfl (lv_at hl 2 rfl) ?_
                  refine pr_puti (ty := .int) hx hb hts prs_R prq_R prtt_R prtn_R hown hK hP (hD _) hS 3 3 (by decide) rfl (hts _ prw_218) rfl rfl (prtt_R 3 (by decide)) rfl rfl prd_R_readStatement_321 (fun H locs hP hS => ?_)
                  refine lv_iload hx hb prd_R_readStatement_324 (lv_at hl 0 rfl) ?_
                  exact pr_retz E (Or.inr rfl) hP hS (pr_so hf) prd_R_readStatement_326
            · have hf := pr_ie c272 hf
              by_cases c280 : r160 = 5
              · have hf := pr_it c280 hf
                refine lv_tableIn (tgt := 302) (off := 268) hx hb prd_R_readStatement_34 (by rw [c280]; decide) (by rw [c280]; decide) (by rw [c280] <;> rfl) (by decide) ?_
                refine lv_aload_n hx hb prd_R_readStatement_302 rfl (lv_at hl 2 rfl) ?_
                refine lv_iload_n hx hb prd_R_readStatement_303 rfl (lv_at hl 0 rfl) ?_
                refine lv_iload_n hx hb prd_R_readStatement_304 rfl (lv_at hl 1 rfl) ?_
                refine lv_iload_n hx hb prd_R_readStatement_305 rfl (lv_at hl 3 rfl) ?_
                obtain ⟨r281, hr281, hf⟩ := pr_bi hf
                refine pr_callVi (rest := []) (res := r281) ⟨hx, hb, hml, hown, hts⟩ 3 (prc_R_readBranch hD hX hd hb0 (hd + 2) (Nat.le_refl _) Hrc0 σ (-1) r160 x1 r281 hr281) (prg_R_readBranch hts prw_221 (by have := hh; omega)) hX hXs hK hP hS (by decide) rfl rfl rfl rfl hl.1 (Nat.le_of_ble_eq_true rfl) prd_R_readStatement_306 (fun H locs hP hS => ?_)
                refine lv_istore (lv' := [(4, .int r281.1), (3, .int (-1)), (2, .int r160), (0, .ref (ad 3)), (1, .int x1)]) hx hb prd_R_readStatement_309 hl (by decide) rfl (fun ls hl => ?_)
                refine lv_aload_n hx hb prd_R_readStatement_311 rfl (lv_at hl 3 rfl) ?_
                refine pr_getr (t := 2) hx hb hts prs_R hown hK hP 3 1 (by decide) rfl (hts _ prw_111) rfl prd_R_readStatement_312 ?_
                refine lv_iload_n hx hb prd_R_readStatement_315 rfl (lv_at hl 1 rfl) ?_
                obtain ⟨r282, hr282, hf⟩ := pr_bi hf
                refine pr_callVv (rest := []) (res := r282) ⟨hx, hb, hml, hown, hts⟩ 2 (prc_G_closeStatement hD hX 1 (Nat.le_refl _) r281.2 (-1) r282 hr282) (prg_G_closeStatement hts prw_217 (by have := hh; omega)) hX hXs hK hP hS (by decide) rfl rfl rfl rfl hl.1 (Nat.le_of_ble_eq_true rfl) prd_R_readStatement_316 (fun H locs hP hS => ?_)
                refine lv_aload_n hx hb prd_R_readStatement_319 rfl (lv_at hl 3 rfl) ?_
                refine lv_iload_n hx hb prd_R_readStatement_320 rfl (lv_at hl 2 rfl) ?_
                refine pr_puti (ty := .int) hx hb hts prs_R prq_R prtt_R prtn_R hown hK hP (hD _) hS 3 3 (by decide) rfl (hts _ prw_218) rfl rfl (prtt_R 3 (by decide)) rfl rfl prd_R_readStatement_321 (fun H locs hP hS => ?_)
                refine lv_iload hx hb prd_R_readStatement_324 (lv_at hl 0 rfl) ?_
                obtain ⟨hz283, hf⟩ := pr_z_in hf
                exact pr_retz E hz283 hP hS (pr_so hf) prd_R_readStatement_326
              · have hf := pr_ie c280 hf
                by_cases c284 : r160 = 6
                · have hf := pr_it c284 hf
                  refine lv_tableIn (tgt := 302) (off := 268) hx hb prd_R_readStatement_34 (by rw [c284]; decide) (by rw [c284]; decide) (by rw [c284] <;> rfl) (by decide) ?_
                  refine lv_aload_n hx hb prd_R_readStatement_302 rfl (lv_at hl 2 rfl) ?_
                  refine lv_iload_n hx hb prd_R_readStatement_303 rfl (lv_at hl 0 rfl) ?_
                  refine lv_iload_n hx hb prd_R_readStatement_304 rfl (lv_at hl 1 rfl) ?_
                  refine lv_iload_n hx hb prd_R_readStatement_305 rfl (lv_at hl 3 rfl) ?_
                  obtain ⟨r285, hr285, hf⟩ := pr_bi hf
                  refine pr_callVi (rest := []) (res := r285) ⟨hx, hb, hml, hown, hts⟩ 3 (prc_R_readBranch hD hX hd hb0 (hd + 2) (Nat.le_refl _) Hrc0 σ (-1) r160 x1 r285 hr285) (prg_R_readBranch hts prw_221 (by have := hh; omega)) hX hXs hK hP hS (by decide) rfl rfl rfl rfl hl.1 (Nat.le_of_ble_eq_true rfl) prd_R_readStatement_306 (fun H locs hP hS => ?_)
                  refine lv_istore (lv' := [(4, .int r285.1), (3, .int (-1)), (2, .int r160), (0, .ref (ad 3)), (1, .int x1)]) hx hb prd_R_readStatement_309 hl (by decide) rfl (fun ls hl => ?_)
                  refine lv_aload_n hx hb prd_R_readStatement_311 rfl (lv_at hl 3 rfl) ?_
                  refine pr_getr (t := 2) hx hb hts prs_R hown hK hP 3 1 (by decide) rfl (hts _ prw_111) rfl prd_R_readStatement_312 ?_
                  refine lv_iload_n hx hb prd_R_readStatement_315 rfl (lv_at hl 1 rfl) ?_
                  obtain ⟨r286, hr286, hf⟩ := pr_bi hf
                  refine pr_callVv (rest := []) (res := r286) ⟨hx, hb, hml, hown, hts⟩ 2 (prc_G_closeStatement hD hX 1 (Nat.le_refl _) r285.2 (-1) r286 hr286) (prg_G_closeStatement hts prw_217 (by have := hh; omega)) hX hXs hK hP hS (by decide) rfl rfl rfl rfl hl.1 (Nat.le_of_ble_eq_true rfl) prd_R_readStatement_316 (fun H locs hP hS => ?_)
                  refine lv_aload_n hx hb prd_R_readStatement_319 rfl (lv_at hl 3 rfl) ?_
                  refine lv_iload_n hx hb prd_R_readStatement_320 rfl (lv_at hl 2 rfl) ?_
                  refine pr_puti (ty := .int) hx hb hts prs_R prq_R prtt_R prtn_R hown hK hP (hD _) hS 3 3 (by decide) rfl (hts _ prw_218) rfl rfl (prtt_R 3 (by decide)) rfl rfl prd_R_readStatement_321 (fun H locs hP hS => ?_)
                  refine lv_iload hx hb prd_R_readStatement_324 (lv_at hl 0 rfl) ?_
                  obtain ⟨hz287, hf⟩ := pr_z_in hf
                  exact pr_retz E hz287 hP hS (pr_so hf) prd_R_readStatement_326
                · have hf := pr_ie c284 hf
                  by_cases c288 : r160 = 7
                  · have hf := pr_it c288 hf
                    refine lv_tableIn (tgt := 208) (off := 174) hx hb prd_R_readStatement_34 (by rw [c288]; decide) (by rw [c288]; decide) (by rw [c288] <;> rfl) (by decide) ?_
                    refine lv_aload_n hx hb prd_R_readStatement_208 rfl (lv_at hl 2 rfl) ?_
                    refine lv_bipush (v := 9) hx hb prd_R_readStatement_209 (by decide) ?_
                    obtain ⟨r289, hr289, hf⟩ := pr_bi hf
                    refine pr_callVi (rest := []) (res := r289) ⟨hx, hb, hml, hown, hts⟩ 3 (prc_R_take hD hX 1 (Nat.le_refl _) σ 9 r289 hr289) (prg_R_take hts prw_99 (by have := hh; omega)) hX hXs hK hP hS (by decide) rfl rfl rfl rfl hl.1 (Nat.le_of_ble_eq_true rfl) prd_R_readStatement_211 (fun H locs hP hS => ?_)
                    refine lv_if_eq (tgt := 258) hx hb prd_R_readStatement_214 (by decide) (fun c290 => ?_) (fun c290 => ?_)
                    · have hf := pr_it c290 hf
                      refine lv_iconst (v := 0) hx hb prd_R_readStatement_258 (by decide) ?_
                      refine lv_istore (lv' := [(4, .int 0), (3, .int (-1)), (2, .int r160), (0, .ref (ad 3)), (1, .int x1)]) hx hb prd_R_readStatement_259 hl (by decide) rfl (fun ls hl => ?_)
                      refine lv_goto (tgt := 311) hx hb prd_R_readStatement_261 (by decide) ?_
                      refine lv_aload_n hx hb prd_R_readStatement_311 rfl (lv_at hl 3 rfl) ?_
                      refine pr_getr (t := 2) hx hb hts prs_R hown hK hP 3 1 (by decide) rfl (hts _ prw_111) rfl prd_R_readStatement_312 ?_
                      refine lv_iload_n hx hb prd_R_readStatement_315 rfl (lv_at hl 1 rfl) ?_
                      obtain ⟨r291, hr291, hf⟩ := pr_bi hf
                      refine pr_callVv (rest := []) (res := r291) ⟨hx, hb, hml, hown, hts⟩ 2 (prc_G_closeStatement hD hX 1 (Nat.le_refl _) r289.2 (-1) r291 hr291) (prg_G_closeStatement hts prw_217 (by have := hh; omega)) hX hXs hK hP hS (by decide) rfl rfl rfl rfl hl.1 (Nat.le_of_ble_eq_true rfl) prd_R_readStatement_316 (fun H locs hP hS => ?_)
                      refine lv_aload_n hx hb prd_R_readStatement_319 rfl (lv_at hl 3 rfl) ?_
                      refine lv_iload_n hx hb prd_R_readStatement_320 rfl (lv_at hl 2 rfl) ?_
                      refine pr_puti (ty := .int) hx hb hts prs_R prq_R prtt_R prtn_R hown hK hP (hD _) hS 3 3 (by decide) rfl (hts _ prw_218) rfl rfl (prtt_R 3 (by decide)) rfl rfl prd_R_readStatement_321 (fun H locs hP hS => ?_)
                      refine lv_iload hx hb prd_R_readStatement_324 (lv_at hl 0 rfl) ?_
                      exact pr_retz E (Or.inl rfl) hP hS (pr_so hf) prd_R_readStatement_326
                    · have hf := pr_ie c290 hf
                      refine lv_aload_n hx hb prd_R_readStatement_217 rfl (lv_at hl 2 rfl) ?_
                      refine lv_bipush (v := 12) hx hb prd_R_readStatement_218 (by decide) ?_
                      obtain ⟨r292, hr292, hf⟩ := pr_bi hf
                      refine pr_callVi (rest := []) (res := r292) ⟨hx, hb, hml, hown, hts⟩ 3 (prc_R_take hD hX 1 (Nat.le_refl _) r289.2 12 r292 hr292) (prg_R_take hts prw_99 (by have := hh; omega)) hX hXs hK hP hS (by decide) rfl rfl rfl rfl hl.1 (Nat.le_of_ble_eq_true rfl) prd_R_readStatement_220 (fun H locs hP hS => ?_)
                      refine lv_if_eq (tgt := 258) hx hb prd_R_readStatement_223 (by decide) (fun c293 => ?_) (fun c293 => ?_)
                      · have hf := pr_it c293 hf
                        refine lv_iconst (v := 0) hx hb prd_R_readStatement_258 (by decide) ?_
                        refine lv_istore (lv' := [(4, .int 0), (3, .int (-1)), (2, .int r160), (0, .ref (ad 3)), (1, .int x1)]) hx hb prd_R_readStatement_259 hl (by decide) rfl (fun ls hl => ?_)
                        refine lv_goto (tgt := 311) hx hb prd_R_readStatement_261 (by decide) ?_
                        refine lv_aload_n hx hb prd_R_readStatement_311 rfl (lv_at hl 3 rfl) ?_
                        refine pr_getr (t := 2) hx hb hts prs_R hown hK hP 3 1 (by decide) rfl (hts _ prw_111) rfl prd_R_readStatement_312 ?_
                        refine lv_iload_n hx hb prd_R_readStatement_315 rfl (lv_at hl 1 rfl) ?_
                        obtain ⟨r294, hr294, hf⟩ := pr_bi hf
                        refine pr_callVv (rest := []) (res := r294) ⟨hx, hb, hml, hown, hts⟩ 2 (prc_G_closeStatement hD hX 1 (Nat.le_refl _) r292.2 (-1) r294 hr294) (prg_G_closeStatement hts prw_217 (by have := hh; omega)) hX hXs hK hP hS (by decide) rfl rfl rfl rfl hl.1 (Nat.le_of_ble_eq_true rfl) prd_R_readStatement_316 (fun H locs hP hS => ?_)
                        refine lv_aload_n hx hb prd_R_readStatement_319 rfl (lv_at hl 3 rfl) ?_
                        refine lv_iload_n hx hb prd_R_readStatement_320 rfl (lv_at hl 2 rfl) ?_
                        refine pr_puti (ty := .int) hx hb hts prs_R prq_R prtt_R prtn_R hown hK hP (hD _) hS 3 3 (by decide) rfl (hts _ prw_218) rfl rfl (prtt_R 3 (by decide)) rfl rfl prd_R_readStatement_321 (fun H locs hP hS => ?_)
                        refine lv_iload hx hb prd_R_readStatement_324 (lv_at hl 0 rfl) ?_
                        exact pr_retz E (Or.inl rfl) hP hS (pr_so hf) prd_R_readStatement_326
                      · have hf := pr_ie c293 hf
                        refine lv_aload_n hx hb prd_R_readStatement_226 rfl (lv_at hl 2 rfl) ?_
                        refine lv_iload_n hx hb prd_R_readStatement_227 rfl (lv_at hl 3 rfl) ?_
                        refine lv_iconst (v := 1) hx hb prd_R_readStatement_228 (by decide) ?_
                        refine lv_iadd hx hb prd_R_readStatement_229 ?_
                        obtain ⟨r295, hr295, hf⟩ := pr_bi hf
                        refine pr_callVi (rest := []) (res := r295) ⟨hx, hb, hml, hown, hts⟩ 3 (prct_R_readCond hD hX r292.2 (x1 + 1) r295 hr295) (prg_R_readCond hts prw_193 (by have := hh; omega)) hX hXs hK hP hS (by decide) rfl rfl rfl rfl hl.1 (Nat.le_of_ble_eq_true rfl) prd_R_readStatement_230 (fun H locs hP hS => ?_)
                        refine lv_if_eq (tgt := 258) hx hb prd_R_readStatement_233 (by decide) (fun c296 => ?_) (fun c296 => ?_)
                        · have hf := pr_it c296 hf
                          refine lv_iconst (v := 0) hx hb prd_R_readStatement_258 (by decide) ?_
                          refine lv_istore (lv' := [(4, .int 0), (3, .int (-1)), (2, .int r160), (0, .ref (ad 3)), (1, .int x1)]) hx hb prd_R_readStatement_259 hl (by decide) rfl (fun ls hl => ?_)
                          refine lv_goto (tgt := 311) hx hb prd_R_readStatement_261 (by decide) ?_
                          refine lv_aload_n hx hb prd_R_readStatement_311 rfl (lv_at hl 3 rfl) ?_
                          refine pr_getr (t := 2) hx hb hts prs_R hown hK hP 3 1 (by decide) rfl (hts _ prw_111) rfl prd_R_readStatement_312 ?_
                          refine lv_iload_n hx hb prd_R_readStatement_315 rfl (lv_at hl 1 rfl) ?_
                          obtain ⟨r297, hr297, hf⟩ := pr_bi hf
                          refine pr_callVv (rest := []) (res := r297) ⟨hx, hb, hml, hown, hts⟩ 2 (prc_G_closeStatement hD hX 1 (Nat.le_refl _) r295.2 (-1) r297 hr297) (prg_G_closeStatement hts prw_217 (by have := hh; omega)) hX hXs hK hP hS (by decide) rfl rfl rfl rfl hl.1 (Nat.le_of_ble_eq_true rfl) prd_R_readStatement_316 (fun H locs hP hS => ?_)
                          refine lv_aload_n hx hb prd_R_readStatement_319 rfl (lv_at hl 3 rfl) ?_
                          refine lv_iload_n hx hb prd_R_readStatement_320 rfl (lv_at hl 2 rfl) ?_
                          refine pr_puti (ty := .int) hx hb hts prs_R prq_R prtt_R prtn_R hown hK hP (hD _) hS 3 3 (by decide) rfl (hts _ prw_218) rfl rfl (prtt_R 3 (by decide)) rfl rfl prd_R_readStatement_321 (fun H locs hP hS => ?_)
                          refine lv_iload hx hb prd_R_readStatement_324 (lv_at hl 0 rfl) ?_
                          exact pr_retz E (Or.inl rfl) hP hS (pr_so hf) prd_R_readStatement_326
                        · have hf := pr_ie c296 hf
                          refine lv_aload_n hx hb prd_R_readStatement_236 rfl (lv_at hl 2 rfl) ?_
                          refine lv_bipush (v := 13) hx hb prd_R_readStatement_237 (by decide) ?_
                          obtain ⟨r298, hr298, hf⟩ := pr_bi hf
                          refine pr_callVi (rest := []) (res := r298) ⟨hx, hb, hml, hown, hts⟩ 3 (prc_R_take hD hX 1 (Nat.le_refl _) r295.2 13 r298 hr298) (prg_R_take hts prw_99 (by have := hh; omega)) hX hXs hK hP hS (by decide) rfl rfl rfl rfl hl.1 (Nat.le_of_ble_eq_true rfl) prd_R_readStatement_239 (fun H locs hP hS => ?_)
                          refine lv_if_eq (tgt := 258) hx hb prd_R_readStatement_242 (by decide) (fun c299 => ?_) (fun c299 => ?_)
                          · have hf := pr_it c299 hf
                            refine lv_iconst (v := 0) hx hb prd_R_readStatement_258 (by decide) ?_
                            refine lv_istore (lv' := [(4, .int 0), (3, .int (-1)), (2, .int r160), (0, .ref (ad 3)), (1, .int x1)]) hx hb prd_R_readStatement_259 hl (by decide) rfl (fun ls hl => ?_)
                            refine lv_goto (tgt := 311) hx hb prd_R_readStatement_261 (by decide) ?_
                            refine lv_aload_n hx hb prd_R_readStatement_311 rfl (lv_at hl 3 rfl) ?_
                            refine pr_getr (t := 2) hx hb hts prs_R hown hK hP 3 1 (by decide) rfl (hts _ prw_111) rfl prd_R_readStatement_312 ?_
                            refine lv_iload_n hx hb prd_R_readStatement_315 rfl (lv_at hl 1 rfl) ?_
                            obtain ⟨r300, hr300, hf⟩ := pr_bi hf
                            refine pr_callVv (rest := []) (res := r300) ⟨hx, hb, hml, hown, hts⟩ 2 (prc_G_closeStatement hD hX 1 (Nat.le_refl _) r298.2 (-1) r300 hr300) (prg_G_closeStatement hts prw_217 (by have := hh; omega)) hX hXs hK hP hS (by decide) rfl rfl rfl rfl hl.1 (Nat.le_of_ble_eq_true rfl) prd_R_readStatement_316 (fun H locs hP hS => ?_)
                            refine lv_aload_n hx hb prd_R_readStatement_319 rfl (lv_at hl 3 rfl) ?_
                            refine lv_iload_n hx hb prd_R_readStatement_320 rfl (lv_at hl 2 rfl) ?_
                            refine pr_puti (ty := .int) hx hb hts prs_R prq_R prtt_R prtn_R hown hK hP (hD _) hS 3 3 (by decide) rfl (hts _ prw_218) rfl rfl (prtt_R 3 (by decide)) rfl rfl prd_R_readStatement_321 (fun H locs hP hS => ?_)
                            refine lv_iload hx hb prd_R_readStatement_324 (lv_at hl 0 rfl) ?_
                            exact pr_retz E (Or.inl rfl) hP hS (pr_so hf) prd_R_readStatement_326
                          · have hf := pr_ie c299 hf
                            refine lv_aload_n hx hb prd_R_readStatement_245 rfl (lv_at hl 2 rfl) ?_
                            refine lv_bipush (v := 19) hx hb prd_R_readStatement_246 (by decide) ?_
                            obtain ⟨r301, hr301, hf⟩ := pr_bi hf
                            refine pr_callVi (rest := []) (res := r301) ⟨hx, hb, hml, hown, hts⟩ 3 (prc_R_take hD hX 1 (Nat.le_refl _) r298.2 19 r301 hr301) (prg_R_take hts prw_99 (by have := hh; omega)) hX hXs hK hP hS (by decide) rfl rfl rfl rfl hl.1 (Nat.le_of_ble_eq_true rfl) prd_R_readStatement_248 (fun H locs hP hS => ?_)
                            refine lv_if_eq (tgt := 258) hx hb prd_R_readStatement_251 (by decide) (fun c302 => ?_) (fun c302 => ?_)
                            · have hf := pr_it c302 hf
                              refine lv_iconst (v := 0) hx hb prd_R_readStatement_258 (by decide) ?_
                              refine lv_istore (lv' := [(4, .int 0), (3, .int (-1)), (2, .int r160), (0, .ref (ad 3)), (1, .int x1)]) hx hb prd_R_readStatement_259 hl (by decide) rfl (fun ls hl => ?_)
                              refine lv_goto (tgt := 311) hx hb prd_R_readStatement_261 (by decide) ?_
                              refine lv_aload_n hx hb prd_R_readStatement_311 rfl (lv_at hl 3 rfl) ?_
                              refine pr_getr (t := 2) hx hb hts prs_R hown hK hP 3 1 (by decide) rfl (hts _ prw_111) rfl prd_R_readStatement_312 ?_
                              refine lv_iload_n hx hb prd_R_readStatement_315 rfl (lv_at hl 1 rfl) ?_
                              obtain ⟨r303, hr303, hf⟩ := pr_bi hf
                              refine pr_callVv (rest := []) (res := r303) ⟨hx, hb, hml, hown, hts⟩ 2 (prc_G_closeStatement hD hX 1 (Nat.le_refl _) r301.2 (-1) r303 hr303) (prg_G_closeStatement hts prw_217 (by have := hh; omega)) hX hXs hK hP hS (by decide) rfl rfl rfl rfl hl.1 (Nat.le_of_ble_eq_true rfl) prd_R_readStatement_316 (fun H locs hP hS => ?_)
                              refine lv_aload_n hx hb prd_R_readStatement_319 rfl (lv_at hl 3 rfl) ?_
                              refine lv_iload_n hx hb prd_R_readStatement_320 rfl (lv_at hl 2 rfl) ?_
                              refine pr_puti (ty := .int) hx hb hts prs_R prq_R prtt_R prtn_R hown hK hP (hD _) hS 3 3 (by decide) rfl (hts _ prw_218) rfl rfl (prtt_R 3 (by decide)) rfl rfl prd_R_readStatement_321 (fun H locs hP hS => ?_)
                              refine lv_iload hx hb prd_R_readStatement_324 (lv_at hl 0 rfl) ?_
                              exact pr_retz E (Or.inl rfl) hP hS (pr_so hf) prd_R_readStatement_326
                            · have hf := pr_ie c302 hf
                              refine lv_iconst (v := 1) hx hb prd_R_readStatement_254 (by decide) ?_
                              refine lv_goto (tgt := 259) hx hb prd_R_readStatement_255 (by decide) ?_
                              refine lv_istore (lv' := [(4, .int 1), (3, .int (-1)), (2, .int r160), (0, .ref (ad 3)), (1, .int x1)]) hx hb prd_R_readStatement_259 hl (by decide) rfl (fun ls hl => ?_)
                              refine lv_goto (tgt := 311) hx hb prd_R_readStatement_261 (by decide) ?_
                              refine lv_aload_n hx hb prd_R_readStatement_311 rfl (lv_at hl 3 rfl) ?_
                              refine pr_getr (t := 2) hx hb hts prs_R hown hK hP 3 1 (by decide) rfl (hts _ prw_111) rfl prd_R_readStatement_312 ?_
                              refine lv_iload_n hx hb prd_R_readStatement_315 rfl (lv_at hl 1 rfl) ?_
                              obtain ⟨r304, hr304, hf⟩ := pr_bi hf
                              refine pr_callVv (rest := []) (res := r304) ⟨hx, hb, hml, hown, hts⟩ 2 (prc_G_closeStatement hD hX 1 (Nat.le_refl _) r301.2 (-1) r304 hr304) (prg_G_closeStatement hts prw_217 (by have := hh; omega)) hX hXs hK hP hS (by decide) rfl rfl rfl rfl hl.1 (Nat.le_of_ble_eq_true rfl) prd_R_readStatement_316 (fun H locs hP hS => ?_)
                              refine lv_aload_n hx hb prd_R_readStatement_319 rfl (lv_at hl 3 rfl) ?_
                              refine lv_iload_n hx hb prd_R_readStatement_320 rfl (lv_at hl 2 rfl) ?_
                              refine pr_puti (ty := .int) hx hb hts prs_R prq_R prtt_R prtn_R hown hK hP (hD _) hS 3 3 (by decide) rfl (hts _ prw_218) rfl rfl (prtt_R 3 (by decide)) rfl rfl prd_R_readStatement_321 (fun H locs hP hS => ?_)
                              refine lv_iload hx hb prd_R_readStatement_324 (lv_at hl 0 rfl) ?_
                              exact pr_retz E (Or.inr rfl) hP hS (pr_so hf) prd_R_readStatement_326
                  · have hf := pr_ie c288 hf
                    by_cases c305 : r160 = 8
                    · have hf := pr_it c305 hf
                      refine lv_tableIn (tgt := 264) (off := 230) hx hb prd_R_readStatement_34 (by rw [c305]; decide) (by rw [c305]; decide) (by rw [c305] <;> rfl) (by decide) ?_
                      refine lv_aload_n hx hb prd_R_readStatement_264 rfl (lv_at hl 2 rfl) ?_
                      refine lv_bipush (v := 10) hx hb prd_R_readStatement_265 (by decide) ?_
                      obtain ⟨r306, hr306, hf⟩ := pr_bi hf
                      refine pr_callVi (rest := []) (res := r306) ⟨hx, hb, hml, hown, hts⟩ 3 (prc_R_take hD hX 1 (Nat.le_refl _) σ 10 r306 hr306) (prg_R_take hts prw_99 (by have := hh; omega)) hX hXs hK hP hS (by decide) rfl rfl rfl rfl hl.1 (Nat.le_of_ble_eq_true rfl) prd_R_readStatement_267 (fun H locs hP hS => ?_)
                      refine lv_if_eq (tgt := 296) hx hb prd_R_readStatement_270 (by decide) (fun c307 => ?_) (fun c307 => ?_)
                      · have hf := pr_it c307 hf
                        refine lv_iconst (v := 0) hx hb prd_R_readStatement_296 (by decide) ?_
                        refine lv_istore (lv' := [(4, .int 0), (3, .int (-1)), (2, .int r160), (0, .ref (ad 3)), (1, .int x1)]) hx hb prd_R_readStatement_297 hl (by decide) rfl (fun ls hl => ?_)
                        refine lv_goto (tgt := 311) hx hb prd_R_readStatement_299 (by decide) ?_
                        refine lv_aload_n hx hb prd_R_readStatement_311 rfl (lv_at hl 3 rfl) ?_
                        refine pr_getr (t := 2) hx hb hts prs_R hown hK hP 3 1 (by decide) rfl (hts _ prw_111) rfl prd_R_readStatement_312 ?_
                        refine lv_iload_n hx hb prd_R_readStatement_315 rfl (lv_at hl 1 rfl) ?_
                        obtain ⟨r308, hr308, hf⟩ := pr_bi hf
                        refine pr_callVv (rest := []) (res := r308) ⟨hx, hb, hml, hown, hts⟩ 2 (prc_G_closeStatement hD hX 1 (Nat.le_refl _) r306.2 (-1) r308 hr308) (prg_G_closeStatement hts prw_217 (by have := hh; omega)) hX hXs hK hP hS (by decide) rfl rfl rfl rfl hl.1 (Nat.le_of_ble_eq_true rfl) prd_R_readStatement_316 (fun H locs hP hS => ?_)
                        refine lv_aload_n hx hb prd_R_readStatement_319 rfl (lv_at hl 3 rfl) ?_
                        refine lv_iload_n hx hb prd_R_readStatement_320 rfl (lv_at hl 2 rfl) ?_
                        refine pr_puti (ty := .int) hx hb hts prs_R prq_R prtt_R prtn_R hown hK hP (hD _) hS 3 3 (by decide) rfl (hts _ prw_218) rfl rfl (prtt_R 3 (by decide)) rfl rfl prd_R_readStatement_321 (fun H locs hP hS => ?_)
                        refine lv_iload hx hb prd_R_readStatement_324 (lv_at hl 0 rfl) ?_
                        exact pr_retz E (Or.inl rfl) hP hS (pr_so hf) prd_R_readStatement_326
                      · have hf := pr_ie c307 hf
                        refine lv_aload_n hx hb prd_R_readStatement_273 rfl (lv_at hl 2 rfl) ?_
                        refine lv_iload_n hx hb prd_R_readStatement_274 rfl (lv_at hl 3 rfl) ?_
                        refine lv_iconst (v := 1) hx hb prd_R_readStatement_275 (by decide) ?_
                        refine lv_iadd hx hb prd_R_readStatement_276 ?_
                        obtain ⟨r309, hr309, hf⟩ := pr_bi hf
                        refine pr_callVi (rest := []) (res := r309) ⟨hx, hb, hml, hown, hts⟩ 3 (prct_R_readSum hD hX r306.2 (x1 + 1) r309 hr309) (prg_R_readSum hts prw_151 (by have := hh; omega)) hX hXs hK hP hS (by decide) rfl rfl rfl rfl hl.1 (Nat.le_of_ble_eq_true rfl) prd_R_readStatement_277 (fun H locs hP hS => ?_)
                        refine lv_if_eq (tgt := 296) hx hb prd_R_readStatement_280 (by decide) (fun c310 => ?_) (fun c310 => ?_)
                        · have hf := pr_it c310 hf
                          refine lv_iconst (v := 0) hx hb prd_R_readStatement_296 (by decide) ?_
                          refine lv_istore (lv' := [(4, .int 0), (3, .int (-1)), (2, .int r160), (0, .ref (ad 3)), (1, .int x1)]) hx hb prd_R_readStatement_297 hl (by decide) rfl (fun ls hl => ?_)
                          refine lv_goto (tgt := 311) hx hb prd_R_readStatement_299 (by decide) ?_
                          refine lv_aload_n hx hb prd_R_readStatement_311 rfl (lv_at hl 3 rfl) ?_
                          refine pr_getr (t := 2) hx hb hts prs_R hown hK hP 3 1 (by decide) rfl (hts _ prw_111) rfl prd_R_readStatement_312 ?_
                          refine lv_iload_n hx hb prd_R_readStatement_315 rfl (lv_at hl 1 rfl) ?_
                          obtain ⟨r311, hr311, hf⟩ := pr_bi hf
                          refine pr_callVv (rest := []) (res := r311) ⟨hx, hb, hml, hown, hts⟩ 2 (prc_G_closeStatement hD hX 1 (Nat.le_refl _) r309.2 (-1) r311 hr311) (prg_G_closeStatement hts prw_217 (by have := hh; omega)) hX hXs hK hP hS (by decide) rfl rfl rfl rfl hl.1 (Nat.le_of_ble_eq_true rfl) prd_R_readStatement_316 (fun H locs hP hS => ?_)
                          refine lv_aload_n hx hb prd_R_readStatement_319 rfl (lv_at hl 3 rfl) ?_
                          refine lv_iload_n hx hb prd_R_readStatement_320 rfl (lv_at hl 2 rfl) ?_
                          refine pr_puti (ty := .int) hx hb hts prs_R prq_R prtt_R prtn_R hown hK hP (hD _) hS 3 3 (by decide) rfl (hts _ prw_218) rfl rfl (prtt_R 3 (by decide)) rfl rfl prd_R_readStatement_321 (fun H locs hP hS => ?_)
                          refine lv_iload hx hb prd_R_readStatement_324 (lv_at hl 0 rfl) ?_
                          exact pr_retz E (Or.inl rfl) hP hS (pr_so hf) prd_R_readStatement_326
                        · have hf := pr_ie c310 hf
                          refine lv_aload_n hx hb prd_R_readStatement_283 rfl (lv_at hl 2 rfl) ?_
                          refine lv_bipush (v := 19) hx hb prd_R_readStatement_284 (by decide) ?_
                          obtain ⟨r312, hr312, hf⟩ := pr_bi hf
                          refine pr_callVi (rest := []) (res := r312) ⟨hx, hb, hml, hown, hts⟩ 3 (prc_R_take hD hX 1 (Nat.le_refl _) r309.2 19 r312 hr312) (prg_R_take hts prw_99 (by have := hh; omega)) hX hXs hK hP hS (by decide) rfl rfl rfl rfl hl.1 (Nat.le_of_ble_eq_true rfl) prd_R_readStatement_286 (fun H locs hP hS => ?_)
                          refine lv_if_eq (tgt := 296) hx hb prd_R_readStatement_289 (by decide) (fun c313 => ?_) (fun c313 => ?_)
                          · have hf := pr_it c313 hf
                            refine lv_iconst (v := 0) hx hb prd_R_readStatement_296 (by decide) ?_
                            refine lv_istore (lv' := [(4, .int 0), (3, .int (-1)), (2, .int r160), (0, .ref (ad 3)), (1, .int x1)]) hx hb prd_R_readStatement_297 hl (by decide) rfl (fun ls hl => ?_)
                            refine lv_goto (tgt := 311) hx hb prd_R_readStatement_299 (by decide) ?_
                            refine lv_aload_n hx hb prd_R_readStatement_311 rfl (lv_at hl 3 rfl) ?_
                            refine pr_getr (t := 2) hx hb hts prs_R hown hK hP 3 1 (by decide) rfl (hts _ prw_111) rfl prd_R_readStatement_312 ?_
                            refine lv_iload_n hx hb prd_R_readStatement_315 rfl (lv_at hl 1 rfl) ?_
                            obtain ⟨r314, hr314, hf⟩ := pr_bi hf
                            refine pr_callVv (rest := []) (res := r314) ⟨hx, hb, hml, hown, hts⟩ 2 (prc_G_closeStatement hD hX 1 (Nat.le_refl _) r312.2 (-1) r314 hr314) (prg_G_closeStatement hts prw_217 (by have := hh; omega)) hX hXs hK hP hS (by decide) rfl rfl rfl rfl hl.1 (Nat.le_of_ble_eq_true rfl) prd_R_readStatement_316 (fun H locs hP hS => ?_)
                            refine lv_aload_n hx hb prd_R_readStatement_319 rfl (lv_at hl 3 rfl) ?_
                            refine lv_iload_n hx hb prd_R_readStatement_320 rfl (lv_at hl 2 rfl) ?_
                            refine pr_puti (ty := .int) hx hb hts prs_R prq_R prtt_R prtn_R hown hK hP (hD _) hS 3 3 (by decide) rfl (hts _ prw_218) rfl rfl (prtt_R 3 (by decide)) rfl rfl prd_R_readStatement_321 (fun H locs hP hS => ?_)
                            refine lv_iload hx hb prd_R_readStatement_324 (lv_at hl 0 rfl) ?_
                            exact pr_retz E (Or.inl rfl) hP hS (pr_so hf) prd_R_readStatement_326
                          · have hf := pr_ie c313 hf
                            refine lv_iconst (v := 1) hx hb prd_R_readStatement_292 (by decide) ?_
                            refine lv_goto (tgt := 297) hx hb prd_R_readStatement_293 (by decide) ?_
                            refine lv_istore (lv' := [(4, .int 1), (3, .int (-1)), (2, .int r160), (0, .ref (ad 3)), (1, .int x1)]) hx hb prd_R_readStatement_297 hl (by decide) rfl (fun ls hl => ?_)
                            refine lv_goto (tgt := 311) hx hb prd_R_readStatement_299 (by decide) ?_
                            refine lv_aload_n hx hb prd_R_readStatement_311 rfl (lv_at hl 3 rfl) ?_
                            refine pr_getr (t := 2) hx hb hts prs_R hown hK hP 3 1 (by decide) rfl (hts _ prw_111) rfl prd_R_readStatement_312 ?_
                            refine lv_iload_n hx hb prd_R_readStatement_315 rfl (lv_at hl 1 rfl) ?_
                            obtain ⟨r315, hr315, hf⟩ := pr_bi hf
                            refine pr_callVv (rest := []) (res := r315) ⟨hx, hb, hml, hown, hts⟩ 2 (prc_G_closeStatement hD hX 1 (Nat.le_refl _) r312.2 (-1) r315 hr315) (prg_G_closeStatement hts prw_217 (by have := hh; omega)) hX hXs hK hP hS (by decide) rfl rfl rfl rfl hl.1 (Nat.le_of_ble_eq_true rfl) prd_R_readStatement_316 (fun H locs hP hS => ?_)
                            refine lv_aload_n hx hb prd_R_readStatement_319 rfl (lv_at hl 3 rfl) ?_
                            refine lv_iload_n hx hb prd_R_readStatement_320 rfl (lv_at hl 2 rfl) ?_
                            refine pr_puti (ty := .int) hx hb hts prs_R prq_R prtt_R prtn_R hown hK hP (hD _) hS 3 3 (by decide) rfl (hts _ prw_218) rfl rfl (prtt_R 3 (by decide)) rfl rfl prd_R_readStatement_321 (fun H locs hP hS => ?_)
                            refine lv_iload hx hb prd_R_readStatement_324 (lv_at hl 0 rfl) ?_
                            exact pr_retz E (Or.inr rfl) hP hS (pr_so hf) prd_R_readStatement_326
                    · have hf := pr_ie c305 hf
                      refine lv_tableOut (tgt := 302) hx hb prd_R_readStatement_34 (by have w0 := lv_neT (a := 1) c242 (by decide); have w1 := lv_neT (a := 2) c250 (by decide); have w2 := lv_neT (a := 3) c264 (by decide); have w3 := lv_neT (a := 4) c272 (by decide); have w4 := lv_neT (a := 5) c280 (by decide); have w5 := lv_neT (a := 6) c284 (by decide); have w6 := lv_neT (a := 7) c288 (by decide); have w7 := lv_neT (a := 8) c305 (by decide); omega) (by decide) ?_
                      refine lv_aload_n hx hb prd_R_readStatement_302 rfl (lv_at hl 2 rfl) ?_
                      refine lv_iload_n hx hb prd_R_readStatement_303 rfl (lv_at hl 0 rfl) ?_
                      refine lv_iload_n hx hb prd_R_readStatement_304 rfl (lv_at hl 1 rfl) ?_
                      refine lv_iload_n hx hb prd_R_readStatement_305 rfl (lv_at hl 3 rfl) ?_
                      obtain ⟨r316, hr316, hf⟩ := pr_bi hf
                      refine pr_callVi (rest := []) (res := r316) ⟨hx, hb, hml, hown, hts⟩ 3 (prc_R_readBranch hD hX hd hb0 (hd + 2) (Nat.le_refl _) Hrc0 σ (-1) r160 x1 r316 hr316) (prg_R_readBranch hts prw_221 (by have := hh; omega)) hX hXs hK hP hS (by decide) rfl rfl rfl rfl hl.1 (Nat.le_of_ble_eq_true rfl) prd_R_readStatement_306 (fun H locs hP hS => ?_)
                      refine lv_istore (lv' := [(4, .int r316.1), (3, .int (-1)), (2, .int r160), (0, .ref (ad 3)), (1, .int x1)]) hx hb prd_R_readStatement_309 hl (by decide) rfl (fun ls hl => ?_)
                      refine lv_aload_n hx hb prd_R_readStatement_311 rfl (lv_at hl 3 rfl) ?_
                      refine pr_getr (t := 2) hx hb hts prs_R hown hK hP 3 1 (by decide) rfl (hts _ prw_111) rfl prd_R_readStatement_312 ?_
                      refine lv_iload_n hx hb prd_R_readStatement_315 rfl (lv_at hl 1 rfl) ?_
                      obtain ⟨r317, hr317, hf⟩ := pr_bi hf
                      refine pr_callVv (rest := []) (res := r317) ⟨hx, hb, hml, hown, hts⟩ 2 (prc_G_closeStatement hD hX 1 (Nat.le_refl _) r316.2 (-1) r317 hr317) (prg_G_closeStatement hts prw_217 (by have := hh; omega)) hX hXs hK hP hS (by decide) rfl rfl rfl rfl hl.1 (Nat.le_of_ble_eq_true rfl) prd_R_readStatement_316 (fun H locs hP hS => ?_)
                      refine lv_aload_n hx hb prd_R_readStatement_319 rfl (lv_at hl 3 rfl) ?_
                      refine lv_iload_n hx hb prd_R_readStatement_320 rfl (lv_at hl 2 rfl) ?_
                      refine pr_puti (ty := .int) hx hb hts prs_R prq_R prtt_R prtn_R hown hK hP (hD _) hS 3 3 (by decide) rfl (hts _ prw_218) rfl rfl (prtt_R 3 (by decide)) rfl rfl prd_R_readStatement_321 (fun H locs hP hS => ?_)
                      refine lv_iload hx hb prd_R_readStatement_324 (lv_at hl 0 rfl) ?_
                      obtain ⟨hz318, hf⟩ := pr_z_in hf
                      exact pr_retz E hz318 hP hS (pr_so hf) prd_R_readStatement_326
    · have hf := pr_it c241 hf
      refine lv_iconst (v := 0) hx hb prd_R_readStatement_31 (by decide) ?_
      exact pr_retz E (Or.inl rfl) hP hS (pr_so hf) prd_R_readStatement_32
-- prF_R_readStatement
set_option maxHeartbeats 4000000 in
theorem prF_R_readStatement_ok {l : Launch} {D : va_G} {ad : Nat → Nat} {dA : Nat → ClassId} {A : Nat → Prop} {t : Nat} (hD : ∀ σ : pr_St, va_D A (pr_w prc_L ad dA σ)) (hX : pr_Xok A (prX t A)) : ∀ n : Nat, (∀ (σ : pr_St) (x1 : Int32) (res : (Int32 × pr_St)), prF_R_readStatement n σ x1 = some res → Met l pry_R_readStatement (Cond.code pry_R_readStatement prb_R_readStatement 5 (some .boolean) :: pr_U) (pr_rm (429 + 3 * n)) (pr_Pc (prX t A) D pr_cl prc_L ad dA [.ref (ad 3), .int x1] σ) (pr_Qi D pr_cl prc_L ad dA A res) 0 0 A) := by
  intro n
  induction n with
  | zero => exact (fun σ x1 res hf => by cases hf)
  | succ n ih =>
    have i0 := ih
    exact fun σ x1 res hf => prc_R_readStatement hD hX (429 + 3 * n) (by omega) (429 + 3 * (n + 1)) (by omega) i0 σ x1 res hf
theorem prct_R_readBranch {l : Launch} {D : va_G} {ad : Nat → Nat} {dA : Nat → ClassId} {A : Nat → Prop} {t : Nat} (hD : ∀ σ : pr_St, va_D A (pr_w prc_L ad dA σ)) (hX : pr_Xok A (prX t A)) (σ : pr_St) (x1 x2 x3 : Int32) (res : (Int32 × pr_St)) (hf : prf_R_readBranch (prF_R_readStatement 70) σ x1 x2 x3 = some res) : Met l pry_R_readBranch (Cond.code pry_R_readBranch prb_R_readBranch 4 (some .boolean) :: pr_U) (pr_rm 641) (pr_Pc (prX t A) D pr_cl prc_L ad dA [.ref (ad 3), .int x1, .int x2, .int x3] σ) (pr_Qi D pr_cl prc_L ad dA A res) 0 0 A :=
  prc_R_readBranch hD hX (429 + 3 * 70) (by decide) 641 (by decide) (prF_R_readStatement_ok hD hX 70) σ x1 x2 x3 res hf
theorem prct_R_readStatement {l : Launch} {D : va_G} {ad : Nat → Nat} {dA : Nat → ClassId} {A : Nat → Prop} {t : Nat} (hD : ∀ σ : pr_St, va_D A (pr_w prc_L ad dA σ)) (hX : pr_Xok A (prX t A)) (σ : pr_St) (x1 : Int32) (res : (Int32 × pr_St)) (hf : prf_R_readStatement (prF_R_readStatement 70) σ x1 = some res) : Met l pry_R_readStatement (Cond.code pry_R_readStatement prb_R_readStatement 5 (some .boolean) :: pr_U) (pr_rm 642) (pr_Pc (prX t A) D pr_cl prc_L ad dA [.ref (ad 3), .int x1] σ) (pr_Qi D pr_cl prc_L ad dA A res) 0 0 A :=
  prc_R_readStatement hD hX (429 + 3 * 70) (by decide) 642 (by decide) (prF_R_readStatement_ok hD hX 70) σ x1 res hf
theorem prct_R_readBlock {l : Launch} {D : va_G} {ad : Nat → Nat} {dA : Nat → ClassId} {A : Nat → Prop} {t : Nat} (hD : ∀ σ : pr_St, va_D A (pr_w prc_L ad dA σ)) (hX : pr_Xok A (prX t A)) (σ : pr_St) (x1 : Int32) (res : (Int32 × pr_St)) (hf : prf_R_readBlock (prF_R_readStatement 70) σ x1 = some res) : Met l pry_R_readBlock (Cond.code pry_R_readBlock prb_R_readBlock 3 (some .boolean) :: pr_U) (pr_rm 640) (pr_Pc (prX t A) D pr_cl prc_L ad dA [.ref (ad 3), .int x1] σ) (pr_Qi D pr_cl prc_L ad dA A res) 0 0 A :=
  prc_R_readBlock hD hX (429 + 3 * 70) (by decide) 640 (by decide) (prF_R_readStatement_ok hD hX 70) σ x1 res hf
-- R_readText
set_option maxHeartbeats 4000000 in
set_option maxRecDepth 100000 in
theorem prk_R_readText_14 {l : Launch} {D : va_G} {ad : Nat → Nat} {dA : Nat → ClassId} {A : Nat → Prop} {t : Nat} {p : Program} {e : Env} {s : State} {m : MethodId} {args : Array Value} {below : List Frame} {meth : Method} {c : Code} {h : Nat} (hh : 641 ≤ h) (E : pr_cx prn_R prb_R_readText 2 (some .boolean) D pr_cl prc_L ad dA A (prX t A) p s m args meth c) : ∀ n : Nat, ∀ (σ : pr_St) (x1 : Int32) (res : (Int32 × pr_St)), some res = prf_R_readText_14 n σ x1 → ∀ (H : Heap) (locs : List Loc) (ls : Array Slot), va_P D pr_cl (pr_w prc_L ad dA σ) H → va_S A s.heap H locs → lv_has ls 2 [(0, .ref (ad 3)), (1, .int x1)] → W p l e (pr_rm h) s m args below meth c H locs 0 0 (MQ below (pr_Qi D pr_cl prc_L ad dA A res) args s 0 0 A) (F0 m 14 ls []) := by
  obtain ⟨hx, hb, hml, hown, hts, hr, hlocks, hK, hD, hX, hXs⟩ := id E
  intro n
  induction n with
  | zero =>
    intro σ x1 res hf
    rw [prf_R_readText_14] at hf
    cases hf
  | succ n ih =>
    intro σ x1 res hf H locs ls hP hS hl
    rw [prf_R_readText_14] at hf
    refine lv_iload_n hx hb prd_R_readText_14 rfl (lv_at hl 1 rfl) ?_
    refine lv_sipush (v := 889) hx hb prd_R_readText_15 (by decide) ?_
    refine lv_icmp_ge (tgt := 79) hx hb prd_R_readText_18 (by decide) (fun c14 => ?_) (fun c14 => ?_)
    · have hf := pr_it c14 hf
      refine lv_iconst (v := 0) hx hb prd_R_readText_79 (by decide) ?_
      exact pr_retz E (Or.inl rfl) hP hS (pr_so hf) prd_R_readText_80
    · have hf := pr_ie c14 hf
      refine lv_aload_n hx hb prd_R_readText_21 rfl (lv_at hl 0 rfl) ?_
      refine lv_iconst (v := 0) hx hb prd_R_readText_22 (by decide) ?_
      refine pr_puti (ty := .int) hx hb hts prs_R prq_R prtt_R prtn_R hown hK hP (hD _) hS 3 3 (by decide) rfl (hts _ prw_218) rfl rfl (prtt_R 3 (by decide)) rfl rfl prd_R_readText_23 (fun H locs hP hS => ?_)
      refine lv_aload_n hx hb prd_R_readText_26 rfl (lv_at hl 0 rfl) ?_
      obtain ⟨r15, hr15, hf⟩ := pr_bi hf
      refine pr_callVi (rest := []) (res := r15) ⟨hx, hb, hml, hown, hts⟩ 3 (prc_R_readHead hD hX 3 (Nat.le_refl _) (pr_sI σ 3 3 0)  r15 hr15) (prg_R_readHead hts prw_235 (by have := hh; omega)) hX hXs hK hP hS (by decide) rfl rfl rfl rfl hl.1 (Nat.le_of_ble_eq_true rfl) prd_R_readText_27 (fun H locs hP hS => ?_)
      refine lv_if_eq (tgt := 41) hx hb prd_R_readText_30 (by decide) (fun c16 => ?_) (fun c16 => ?_)
      · have hf := pr_it c16 hf
        refine lv_iconst (v := 0) hx hb prd_R_readText_41 (by decide) ?_
        exact pr_retz E (Or.inl rfl) hP hS (pr_so hf) prd_R_readText_42
      · have hf := pr_ie c16 hf
        refine lv_aload_n hx hb prd_R_readText_33 rfl (lv_at hl 0 rfl) ?_
        refine lv_iconst (v := 1) hx hb prd_R_readText_34 (by decide) ?_
        obtain ⟨r17, hr17, hf⟩ := pr_bi hf
        refine pr_callVi (rest := []) (res := r17) ⟨hx, hb, hml, hown, hts⟩ 3 (prct_R_readBlock hD hX r15.2 1 r17 hr17) (prg_R_readBlock hts prw_209 (by have := hh; omega)) hX hXs hK hP hS (by decide) rfl rfl rfl rfl hl.1 (Nat.le_of_ble_eq_true rfl) prd_R_readText_35 (fun H locs hP hS => ?_)
        refine lv_if_ne (tgt := 43) hx hb prd_R_readText_38 (by decide) (fun c18 => ?_) (fun c18 => ?_)
        · have hf := pr_ie c18 hf
          refine lv_aload_n hx hb prd_R_readText_43 rfl (lv_at hl 0 rfl) ?_
          refine pr_getr (t := 2) hx hb hts prs_R hown hK hP 3 1 (by decide) rfl (hts _ prw_111) rfl prd_R_readText_44 ?_
          refine lv_aload_n hx hb prd_R_readText_47 rfl (lv_at hl 0 rfl) ?_
          refine pr_geti (v := (r17.2.1 3 3)) hx hb hts prs_R hown hK hP 3 3 (by decide) rfl (hts _ prw_218) rfl rfl prd_R_readText_48 ?_
          refine lv_bipush (v := 8) hx hb prd_R_readText_51 (by decide) ?_
          refine lv_icmp_ne (tgt := 60) hx hb prd_R_readText_53 (by decide) (fun c19 => ?_) (fun c19 => ?_)
          · have hf := pr_ie c19 hf
            refine lv_iconst (v := 0) hx hb prd_R_readText_60 (by decide) ?_
            obtain ⟨r20, hr20, hf⟩ := pr_bi hf
            refine pr_callVv (rest := []) (res := r20) ⟨hx, hb, hml, hown, hts⟩ 2 (prc_G_closeFunction hD hX 1 (Nat.le_refl _) r17.2 0 r20 hr20) (prg_G_closeFunction hts prw_236 (by have := hh; omega)) hX hXs hK hP hS (by decide) rfl rfl rfl rfl hl.1 (Nat.le_of_ble_eq_true rfl) prd_R_readText_61 (fun H locs hP hS => ?_)
            refine lv_aload_n hx hb prd_R_readText_64 rfl (lv_at hl 0 rfl) ?_
            obtain ⟨r21, hr21, hf⟩ := pr_bi hf
            refine pr_callVr (rest := []) (r := r21) ⟨hx, hb, hml, hown, hts⟩ 3 (prc_R_now hD hX 1 (Nat.le_refl _) r20  r21 hr21) (prg_R_now hts prw_109 (by have := hh; omega)) hX hXs hK hP hS (by decide) rfl rfl rfl rfl hl.1 (Nat.le_of_ble_eq_true rfl) prd_R_readText_65 (fun H locs hP hS => ?_)
            refine lv_if_ne (tgt := 73) hx hb prd_R_readText_68 (by decide) (fun c22 => ?_) (fun c22 => ?_)
            · have hf := pr_ie c22 hf
              refine lv_iinc (v := (x1 + 1)) (lv' := [(1, .int (x1 + 1)), (0, .ref (ad 3))]) hx hb prd_R_readText_73 hl (k := 1) rfl rfl (by decide) rfl (fun ls hl => ?_)
              refine lv_goto (tgt := 14) hx hb prd_R_readText_76 (by decide) ?_
              exact ih r20 (x1 + 1) _ hf _ _ _ hP hS (lv_sub hl [1, 0] rfl)
            · have hf := pr_it c22 hf
              refine lv_iconst (v := 1) hx hb prd_R_readText_71 (by decide) ?_
              exact pr_retz E (Or.inr rfl) hP hS (pr_so hf) prd_R_readText_72
          · have hf := pr_it c19 hf
            refine lv_iconst (v := 1) hx hb prd_R_readText_56 (by decide) ?_
            refine lv_goto (tgt := 61) hx hb prd_R_readText_57 (by decide) ?_
            obtain ⟨r23, hr23, hf⟩ := pr_bi hf
            refine pr_callVv (rest := []) (res := r23) ⟨hx, hb, hml, hown, hts⟩ 2 (prc_G_closeFunction hD hX 1 (Nat.le_refl _) r17.2 1 r23 hr23) (prg_G_closeFunction hts prw_236 (by have := hh; omega)) hX hXs hK hP hS (by decide) rfl rfl rfl rfl hl.1 (Nat.le_of_ble_eq_true rfl) prd_R_readText_61 (fun H locs hP hS => ?_)
            refine lv_aload_n hx hb prd_R_readText_64 rfl (lv_at hl 0 rfl) ?_
            obtain ⟨r24, hr24, hf⟩ := pr_bi hf
            refine pr_callVr (rest := []) (r := r24) ⟨hx, hb, hml, hown, hts⟩ 3 (prc_R_now hD hX 1 (Nat.le_refl _) r23  r24 hr24) (prg_R_now hts prw_109 (by have := hh; omega)) hX hXs hK hP hS (by decide) rfl rfl rfl rfl hl.1 (Nat.le_of_ble_eq_true rfl) prd_R_readText_65 (fun H locs hP hS => ?_)
            refine lv_if_ne (tgt := 73) hx hb prd_R_readText_68 (by decide) (fun c25 => ?_) (fun c25 => ?_)
            · have hf := pr_ie c25 hf
              refine lv_iinc (v := (x1 + 1)) (lv' := [(1, .int (x1 + 1)), (0, .ref (ad 3))]) hx hb prd_R_readText_73 hl (k := 1) rfl rfl (by decide) rfl (fun ls hl => ?_)
              refine lv_goto (tgt := 14) hx hb prd_R_readText_76 (by decide) ?_
              exact ih r23 (x1 + 1) _ hf _ _ _ hP hS (lv_sub hl [1, 0] rfl)
            · have hf := pr_it c25 hf
              refine lv_iconst (v := 1) hx hb prd_R_readText_71 (by decide) ?_
              exact pr_retz E (Or.inr rfl) hP hS (pr_so hf) prd_R_readText_72
        · have hf := pr_it c18 hf
          refine lv_iconst (v := 0) hx hb prd_R_readText_41 (by decide) ?_
          exact pr_retz E (Or.inl rfl) hP hS (pr_so hf) prd_R_readText_42
set_option maxHeartbeats 4000000 in
set_option maxRecDepth 100000 in
theorem prc_R_readText {l : Launch} {D : va_G} {ad : Nat → Nat} {dA : Nat → ClassId} {A : Nat → Prop} {t : Nat} (hD : ∀ σ : pr_St, va_D A (pr_w prc_L ad dA σ)) (hX : pr_Xok A (prX t A)) (h : Nat) (hh : 641 ≤ h) (σ : pr_St)  (res : (Int32 × pr_St)) (hf : prf_R_readText σ  = some res) : Met l pry_R_readText (Cond.code pry_R_readText prb_R_readText 2 (some .boolean) :: pr_U) (pr_rm h) (pr_Pc (prX t A) D pr_cl prc_L ad dA [.ref (ad 3)] σ) (pr_Qi D pr_cl prc_L ad dA A res) 0 0 A := by
  refine pr_entry (cc := prb_R_readText) (maxL := 2) (ret := (some .boolean)) (by decide) (Nat.le_of_ble_eq_true rfl) hD hX ?_
  intro p e s m args below meth c E H locs hP hS ls hl
  have hl : lv_has ls 2 [(0, .ref (ad 3))] := hl
  have hf := hf.symm
  unfold prf_R_readText at hf
  obtain ⟨hx, hb, hml, hown, hts, hr, hlocks, hK, hD, hX, hXs⟩ := id E
  refine lv_aload_n hx hb prd_R_readText_0 rfl (lv_at hl 0 rfl) ?_
  refine lv_iconst (v := 0) hx hb prd_R_readText_1 (by decide) ?_
  refine pr_puti (ty := .int) hx hb hts prs_R prq_R prtt_R prtn_R hown hK hP (hD _) hS 3 2 (by decide) rfl (hts _ prw_90) rfl rfl (prtt_R 2 (by decide)) rfl rfl prd_R_readText_2 (fun H locs hP hS => ?_)
  refine lv_aload_n hx hb prd_R_readText_5 rfl (lv_at hl 0 rfl) ?_
  refine pr_getr (t := 2) hx hb hts prs_R hown hK hP 3 1 (by decide) rfl (hts _ prw_111) rfl prd_R_readText_6 ?_
  obtain ⟨r26, hr26, hf⟩ := pr_bi hf
  refine pr_callVv (rest := []) (res := r26) ⟨hx, hb, hml, hown, hts⟩ 2 (prc_G_clear hD hX 0 (Nat.le_refl _) (pr_sI σ 3 2 0)  r26 hr26) (prg_G_clear hts prw_234 (by have := hh; omega)) hX hXs hK hP hS (by decide) rfl rfl rfl rfl hl.1 (Nat.le_of_ble_eq_true rfl) prd_R_readText_9 (fun H locs hP hS => ?_)
  refine lv_iconst (v := 0) hx hb prd_R_readText_12 (by decide) ?_
  refine lv_istore_n (lv' := [(1, .int 0), (0, .ref (ad 3))]) hx hb prd_R_readText_13 rfl hl (by decide) rfl (fun ls hl => ?_)
  exact prk_R_readText_14 hh E pr_FU r26 0 _ hf _ _ _ hP hS (lv_sub hl [1, 0] rfl)
-- R_faultPlace
set_option maxHeartbeats 4000000 in
set_option maxRecDepth 100000 in
theorem prc_R_faultPlace {l : Launch} {D : va_G} {ad : Nat → Nat} {dA : Nat → ClassId} {A : Nat → Prop} {t : Nat} (hD : ∀ σ : pr_St, va_D A (pr_w prc_L ad dA σ)) (hX : pr_Xok A (prX t A)) (h : Nat) (hh : 1 ≤ h) (σ : pr_St)  (res : Int32) (hf : prf_R_faultPlace σ  = some res) : Met l pry_R_faultPlace (Cond.code pry_R_faultPlace prb_R_faultPlace 1 (some .int) :: pr_U) (pr_rm h) (pr_Pc (prX t A) D pr_cl prc_L ad dA [.ref (ad 3)] σ) (pr_Qi D pr_cl prc_L ad dA A (res, σ)) 0 0 A := by
  refine pr_entry (cc := prb_R_faultPlace) (maxL := 1) (ret := (some .int)) (by decide) (Nat.le_of_ble_eq_true rfl) hD hX ?_
  intro p e s m args below meth c E H locs hP hS ls hl
  have hl : lv_has ls 1 [(0, .ref (ad 3))] := hl
  have hf := hf.symm
  unfold prf_R_faultPlace at hf
  obtain ⟨hx, hb, hml, hown, hts, hr, hlocks, hK, hD, hX, hXs⟩ := id E
  refine lv_aload_n hx hb prd_R_faultPlace_0 rfl (lv_at hl 0 rfl) ?_
  refine pr_getr (t := 1) hx hb hts prs_R hown hK hP 3 0 (by decide) rfl (hts _ prw_89) rfl prd_R_faultPlace_1 ?_
  refine lv_aload_n hx hb prd_R_faultPlace_4 rfl (lv_at hl 0 rfl) ?_
  refine pr_geti (v := (σ.1 3 2)) hx hb hts prs_R hown hK hP 3 2 (by decide) rfl (hts _ prw_90) rfl rfl prd_R_faultPlace_5 ?_
  obtain ⟨r2, hr2, hf⟩ := pr_bi hf
  refine pr_callVr (rest := []) (r := r2) ⟨hx, hb, hml, hown, hts⟩ 1 (prc_T_placeAt hD hX 0 (Nat.le_refl _) σ (σ.1 3 2) r2 hr2) (prg_T_placeAt hts prw_243 (by have := hh; omega)) hX hXs hK hP hS (by decide) rfl rfl rfl rfl hl.1 (Nat.le_of_ble_eq_true rfl) prd_R_faultPlace_8 (fun H locs hP hS => ?_)
  exact pr_reti E hP hS (pr_ro hf) prd_R_faultPlace_11
