-- T_bytes
set_option maxHeartbeats 4000000 in
set_option maxRecDepth 100000 in
theorem prc_T_bytes {l : Launch} {D : va_G} {ad : Nat → Nat} {dA : Nat → ClassId} {A : Nat → Prop} {t : Nat} (hD : ∀ σ : pr_St, va_D A (pr_w prc_L ad dA σ)) (hX : pr_Xok A (prX t A)) (h : Nat) (hh : 0 ≤ h) (σ : pr_St)  (res : Int32) (hf : prf_T_bytes σ  = some res) : Met l pry_T_bytes (Cond.code pry_T_bytes prb_T_bytes 1 (some .int) :: pr_U) (pr_rm h) (pr_Pc (prX t A) D pr_cl prc_L ad dA [.ref (ad 1)] σ) (pr_Qi D pr_cl prc_L ad dA A (res, σ)) 0 0 A := by
  refine pr_entry (cc := prb_T_bytes) (maxL := 1) (ret := (some .int)) (by decide) (Nat.le_of_ble_eq_true rfl) hD hX ?_
  intro p e s m args below meth c E H locs hP hS ls hl
  have hl : lv_has ls 1 [(0, .ref (ad 1))] := hl
  have hf := hf.symm
  unfold prf_T_bytes at hf
  obtain ⟨hx, hb, hml, hown, hts, hr, hlocks, hK, hD, hX, hXs⟩ := id E
  refine lv_aload_n hx hb prd_T_bytes_0 rfl (lv_at hl 0 rfl) ?_
  refine pr_geti (v := (σ.1 1 1)) hx hb hts prs_T hown hK hP 1 1 (by decide) rfl (hts _ prw_0) rfl rfl prd_T_bytes_1 ?_
  exact pr_reti E hP hS (pr_ro hf) prd_T_bytes_4
-- T_addBytes
set_option maxHeartbeats 4000000 in
set_option maxRecDepth 100000 in
theorem prk_T_addBytes_3 {l : Launch} {D : va_G} {ad : Nat → Nat} {dA : Nat → ClassId} {A : Nat → Prop} {t : Nat} {p : Program} {e : Env} {s : State} {m : MethodId} {args : Array Value} {below : List Frame} {meth : Method} {c : Code} {h : Nat} (hh : 0 ≤ h) (E : pr_cx prn_T prb_T_addBytes 3 none D pr_cl prc_L ad dA A (prX t A) p s m args meth c) : ∀ n : Nat, ∀ (σ : pr_St) (x1 : Int32) (x2 : Int32) (res : pr_St), some res = prf_T_addBytes_3 n σ x1 x2 → ∀ (H : Heap) (locs : List Loc) (ls : Array Slot), va_P D pr_cl (pr_w prc_L ad dA σ) H → va_S A s.heap H locs → lv_has ls 3 [(0, .ref (ad 1)), (1, .int x1), (2, .int x2)] → W p l e (pr_rm h) s m args below meth c H locs 0 0 (MQ below (pr_Qv D pr_cl prc_L ad dA A res) args s 0 0 A) (F0 m 3 ls []) := by
  obtain ⟨hx, hb, hml, hown, hts, hr, hlocks, hK, hD, hX, hXs⟩ := id E
  intro n
  induction n with
  | zero =>
    intro σ x1 x2 res hf
    rw [prf_T_addBytes_3] at hf
    cases hf
  | succ n ih =>
    intro σ x1 x2 res hf H locs ls hP hS hl
    rw [prf_T_addBytes_3] at hf
    refine lv_iload_n hx hb prd_T_addBytes_3 rfl (lv_at hl 2 rfl) ?_
    refine lv_if_lt (tgt := 55) hx hb prd_T_addBytes_4 (by decide) (fun c5 => ?_) (fun c5 => ?_)
    · have hf := pr_it c5 hf
      exact pr_retv E hP hS (pr_so hf) prd_T_addBytes_55
    · have hf := pr_ie c5 hf
      refine lv_aload_n hx hb prd_T_addBytes_7 rfl (lv_at hl 0 rfl) ?_
      refine pr_geti (v := (σ.1 1 1)) hx hb hts prs_T hown hK hP 1 1 (by decide) rfl (hts _ prw_0) rfl rfl prd_T_addBytes_8 ?_
      refine lv_if_lt (tgt := 49) hx hb prd_T_addBytes_11 (by decide) (fun c6 => ?_) (fun c6 => ?_)
      · have hf := pr_it c6 hf
        refine lv_iinc (v := (x2 + (-8))) (lv' := [(2, .int (x2 + (-8))), (0, .ref (ad 1)), (1, .int x1)]) hx hb prd_T_addBytes_49 hl (k := 2) rfl rfl (by decide) rfl (fun ls hl => ?_)
        refine lv_goto (tgt := 3) hx hb prd_T_addBytes_52 (by decide) ?_
        exact ih σ x1 (x2 + (-8)) _ hf _ _ _ hP hS (lv_sub hl [1, 2, 0] rfl)
      · have hf := pr_ie c6 hf
        refine lv_aload_n hx hb prd_T_addBytes_14 rfl (lv_at hl 0 rfl) ?_
        refine pr_geti (v := (σ.1 1 1)) hx hb hts prs_T hown hK hP 1 1 (by decide) rfl (hts _ prw_0) rfl rfl prd_T_addBytes_15 ?_
        refine lv_aload_n hx hb prd_T_addBytes_18 rfl (lv_at hl 0 rfl) ?_
        refine pr_getr (t := 8) hx hb hts prs_T hown hK hP 1 0 (by decide) rfl (hts _ prw_5) rfl prd_T_addBytes_19 ?_
        refine pr_alen (v := 8000) hx hb hK hP 8 (by decide) (by decide) prd_T_addBytes_22 ?_
        refine lv_icmp_ge (tgt := 49) hx hb prd_T_addBytes_23 (by decide) (fun c7 => ?_) (fun c7 => ?_)
        · have hf := pr_it c7 hf
          refine lv_iinc (v := (x2 + (-8))) (lv' := [(2, .int (x2 + (-8))), (0, .ref (ad 1)), (1, .int x1)]) hx hb prd_T_addBytes_49 hl (k := 2) rfl rfl (by decide) rfl (fun ls hl => ?_)
          refine lv_goto (tgt := 3) hx hb prd_T_addBytes_52 (by decide) ?_
          exact ih σ x1 (x2 + (-8)) _ hf _ _ _ hP hS (lv_sub hl [1, 2, 0] rfl)
        · have hf := pr_ie c7 hf
          refine lv_aload_n hx hb prd_T_addBytes_26 rfl (lv_at hl 0 rfl) ?_
          refine pr_getr (t := 8) hx hb hts prs_T hown hK hP 1 0 (by decide) rfl (hts _ prw_5) rfl prd_T_addBytes_27 ?_
          refine lv_aload_n hx hb prd_T_addBytes_30 rfl (lv_at hl 0 rfl) ?_
          refine pr_geti (v := (σ.1 1 1)) hx hb hts prs_T hown hK hP 1 1 (by decide) rfl (hts _ prw_0) rfl rfl prd_T_addBytes_31 ?_
          refine lv_iload_n hx hb prd_T_addBytes_34 rfl (lv_at hl 1 rfl) ?_
          refine lv_iload_n hx hb prd_T_addBytes_35 rfl (lv_at hl 2 rfl) ?_
          refine lv_ishr hx hb prd_T_addBytes_36 ?_
          refine lv_i2b (v := (x1 >>> (x2 &&& 31)).toInt8.toInt32) hx hb prd_T_addBytes_37 rfl ?_
          obtain ⟨hi8, hf⟩ := pr_ck_in hf
          refine pr_bast (f := (σ.2.1 8)) hx hb hK hP (hD _) hS 8 (by decide) rfl hi8 rfl prd_T_addBytes_38 (fun H locs hP hS => ?_)
          refine lv_aload_n hx hb prd_T_addBytes_39 rfl (lv_at hl 0 rfl) ?_
          refine lv_dup hx hb prd_T_addBytes_40 rfl ?_
          refine pr_geti (v := (σ.1 1 1)) hx hb hts prs_T hown hK hP 1 1 (by decide) rfl (hts _ prw_0) rfl rfl prd_T_addBytes_41 ?_
          refine lv_iconst (v := 1) hx hb prd_T_addBytes_44 (by decide) ?_
          refine lv_iadd hx hb prd_T_addBytes_45 ?_
          refine pr_puti (ty := .int) hx hb hts prs_T prq_T prtt_T prtn_T hown hK hP (hD _) hS 1 1 (by decide) rfl (hts _ prw_0) rfl rfl (prtt_T 1 (by decide)) rfl rfl prd_T_addBytes_46 (fun H locs hP hS => ?_)
          refine lv_iinc (v := (x2 + (-8))) (lv' := [(2, .int (x2 + (-8))), (0, .ref (ad 1)), (1, .int x1)]) hx hb prd_T_addBytes_49 hl (k := 2) rfl rfl (by decide) rfl (fun ls hl => ?_)
          refine lv_goto (tgt := 3) hx hb prd_T_addBytes_52 (by decide) ?_
          exact ih (pr_sI (pr_sA σ 8 (upd (σ.2.1 8) (σ.1 1 1).toNatClampNeg ((x1 >>> (x2 &&& 31)).toInt8.toInt32).toInt8.toInt32)) 1 1 ((σ.1 1 1) + 1)) x1 (x2 + (-8)) _ hf _ _ _ hP hS (lv_sub hl [1, 2, 0] rfl)
set_option maxHeartbeats 4000000 in
set_option maxRecDepth 100000 in
theorem prc_T_addBytes {l : Launch} {D : va_G} {ad : Nat → Nat} {dA : Nat → ClassId} {A : Nat → Prop} {t : Nat} (hD : ∀ σ : pr_St, va_D A (pr_w prc_L ad dA σ)) (hX : pr_Xok A (prX t A)) (h : Nat) (hh : 0 ≤ h) (σ : pr_St) (x1 : Int32) (res : pr_St) (hf : prf_T_addBytes σ x1 = some res) : Met l pry_T_addBytes (Cond.code pry_T_addBytes prb_T_addBytes 3 none :: pr_U) (pr_rm h) (pr_Pc (prX t A) D pr_cl prc_L ad dA [.ref (ad 1), .int x1] σ) (pr_Qv D pr_cl prc_L ad dA A res) 0 0 A := by
  refine pr_entry (cc := prb_T_addBytes) (maxL := 3) (ret := none) (by decide) (Nat.le_of_ble_eq_true rfl) hD hX ?_
  intro p e s m args below meth c E H locs hP hS ls hl
  have hl : lv_has ls 3 [(0, .ref (ad 1)), (1, .int x1)] := hl
  have hf := hf.symm
  unfold prf_T_addBytes at hf
  obtain ⟨hx, hb, hml, hown, hts, hr, hlocks, hK, hD, hX, hXs⟩ := id E
  refine lv_bipush (v := 24) hx hb prd_T_addBytes_0 (by decide) ?_
  refine lv_istore_n (lv' := [(2, .int 24), (0, .ref (ad 1)), (1, .int x1)]) hx hb prd_T_addBytes_2 rfl hl (by decide) rfl (fun ls hl => ?_)
  exact prk_T_addBytes_3 hh E pr_FU σ x1 24 _ hf _ _ _ hP hS (lv_sub hl [1, 2, 0] rfl)
-- T_byteAt
set_option maxHeartbeats 4000000 in
set_option maxRecDepth 100000 in
theorem prc_T_byteAt {l : Launch} {D : va_G} {ad : Nat → Nat} {dA : Nat → ClassId} {A : Nat → Prop} {t : Nat} (hD : ∀ σ : pr_St, va_D A (pr_w prc_L ad dA σ)) (hX : pr_Xok A (prX t A)) (h : Nat) (hh : 0 ≤ h) (σ : pr_St) (x1 : Int32) (res : Int32) (hf : prf_T_byteAt σ x1 = some res) : Met l pry_T_byteAt (Cond.code pry_T_byteAt prb_T_byteAt 2 (some .int) :: pr_U) (pr_rm h) (pr_Pc (prX t A) D pr_cl prc_L ad dA [.ref (ad 1), .int x1] σ) (pr_Qi D pr_cl prc_L ad dA A (res, σ)) 0 0 A := by
  refine pr_entry (cc := prb_T_byteAt) (maxL := 2) (ret := (some .int)) (by decide) (Nat.le_of_ble_eq_true rfl) hD hX ?_
  intro p e s m args below meth c E H locs hP hS ls hl
  have hl : lv_has ls 2 [(0, .ref (ad 1)), (1, .int x1)] := hl
  have hf := hf.symm
  unfold prf_T_byteAt at hf
  obtain ⟨hx, hb, hml, hown, hts, hr, hlocks, hK, hD, hX, hXs⟩ := id E
  refine lv_iload_n hx hb prd_T_byteAt_0 rfl (lv_at hl 1 rfl) ?_
  refine lv_if_lt (tgt := 34) hx hb prd_T_byteAt_1 (by decide) (fun c5 => ?_) (fun c5 => ?_)
  · have hf := pr_it c5 hf
    refine lv_iconst (v := 0) hx hb prd_T_byteAt_34 (by decide) ?_
    exact pr_reti E hP hS (pr_ro hf) prd_T_byteAt_35
  · have hf := pr_ie c5 hf
    refine lv_iload_n hx hb prd_T_byteAt_4 rfl (lv_at hl 1 rfl) ?_
    refine lv_aload_n hx hb prd_T_byteAt_5 rfl (lv_at hl 0 rfl) ?_
    refine pr_geti (v := (σ.1 1 5)) hx hb hts prs_T hown hK hP 1 5 (by decide) rfl (hts _ prw_24) rfl rfl prd_T_byteAt_6 ?_
    refine lv_icmp_ge (tgt := 34) hx hb prd_T_byteAt_9 (by decide) (fun c6 => ?_) (fun c6 => ?_)
    · have hf := pr_it c6 hf
      refine lv_iconst (v := 0) hx hb prd_T_byteAt_34 (by decide) ?_
      exact pr_reti E hP hS (pr_ro hf) prd_T_byteAt_35
    · have hf := pr_ie c6 hf
      refine lv_iload_n hx hb prd_T_byteAt_12 rfl (lv_at hl 1 rfl) ?_
      refine lv_aload_n hx hb prd_T_byteAt_13 rfl (lv_at hl 0 rfl) ?_
      refine pr_getr (t := 8) hx hb hts prs_T hown hK hP 1 0 (by decide) rfl (hts _ prw_5) rfl prd_T_byteAt_14 ?_
      refine pr_alen (v := 8000) hx hb hK hP 8 (by decide) (by decide) prd_T_byteAt_17 ?_
      refine lv_icmp_ge (tgt := 34) hx hb prd_T_byteAt_18 (by decide) (fun c7 => ?_) (fun c7 => ?_)
      · have hf := pr_it c7 hf
        refine lv_iconst (v := 0) hx hb prd_T_byteAt_34 (by decide) ?_
        exact pr_reti E hP hS (pr_ro hf) prd_T_byteAt_35
      · have hf := pr_ie c7 hf
        refine lv_aload_n hx hb prd_T_byteAt_21 rfl (lv_at hl 0 rfl) ?_
        refine pr_getr (t := 8) hx hb hts prs_T hown hK hP 1 0 (by decide) rfl (hts _ prw_5) rfl prd_T_byteAt_22 ?_
        refine lv_iload_n hx hb prd_T_byteAt_25 rfl (lv_at hl 1 rfl) ?_
        obtain ⟨hi8, hf⟩ := pr_ck_in hf
        refine pr_bald (f := (σ.2.1 8)) hx hb hK hP 8 (by decide) rfl hi8 rfl prd_T_byteAt_26 ?_
        refine lv_sipush (v := 255) hx hb prd_T_byteAt_27 (by decide) ?_
        refine lv_iand hx hb prd_T_byteAt_30 ?_
        refine lv_goto (tgt := 35) hx hb prd_T_byteAt_31 (by decide) ?_
        exact pr_reti E hP hS (pr_ro hf) prd_T_byteAt_35
-- T_behindBlanks
set_option maxHeartbeats 4000000 in
set_option maxRecDepth 100000 in
theorem prk_T_behindBlanks_63 {l : Launch} {D : va_G} {ad : Nat → Nat} {dA : Nat → ClassId} {A : Nat → Prop} {t : Nat} {p : Program} {e : Env} {s : State} {m : MethodId} {args : Array Value} {below : List Frame} {meth : Method} {c : Code} {h : Nat} (hh : 1 ≤ h) (E : pr_cx prn_T prb_T_behindBlanks 5 (some .int) D pr_cl prc_L ad dA A (prX t A) p s m args meth c) {kk4 : pr_St → Int32 → Int32 → Option Int32} (Hk4 : ∀ (σ : pr_St) (x2 : Int32) (x3 : Int32) (res : Int32), some res = kk4 σ x2 x3 → ∀ (H : Heap) (locs : List Loc) (ls : Array Slot), va_P D pr_cl (pr_w prc_L ad dA σ) H → va_S A s.heap H locs → lv_has ls 5 [(0, .ref (ad 1)), (2, .int x2), (3, .int x3)] → W p l e (pr_rm h) s m args below meth c H locs 0 0 (MQ below (pr_Qi D pr_cl prc_L ad dA A (res, σ)) args s 0 0 A) (F0 m 4 ls [])) : ∀ (σ : pr_St) (x2 : Int32) (x3 : Int32) (x4 : Int32) (res : Int32), some res = prf_T_behindBlanks_63 kk4 σ x2 x3 x4 → ∀ (H : Heap) (locs : List Loc) (ls : Array Slot), va_P D pr_cl (pr_w prc_L ad dA σ) H → va_S A s.heap H locs → lv_has ls 5 [(0, .ref (ad 1)), (2, .int x2), (3, .int x3), (4, .int x4)] → W p l e (pr_rm h) s m args below meth c H locs 0 0 (MQ below (pr_Qi D pr_cl prc_L ad dA A (res, σ)) args s 0 0 A) (F0 m 63 ls []) := by
  obtain ⟨hx, hb, hml, hown, hts, hr, hlocks, hK, hD, hX, hXs⟩ := id E
  intro σ x2 x3 x4 res hf H locs ls hP hS hl
  unfold prf_T_behindBlanks_63 at hf
  refine lv_iload hx hb prd_T_behindBlanks_63 (lv_at hl 3 rfl) ?_
  refine lv_bipush (v := 9) hx hb prd_T_behindBlanks_65 (by decide) ?_
  refine lv_icmp_eq (tgt := 93) hx hb prd_T_behindBlanks_67 (by decide) (fun c12 => ?_) (fun c12 => ?_)
  · have hf := pr_it c12 hf
    refine lv_iinc (v := (x3 + 1)) (lv' := [(3, .int (x3 + 1)), (0, .ref (ad 1)), (2, .int x2), (4, .int x4)]) hx hb prd_T_behindBlanks_93 hl (k := 2) rfl rfl (by decide) rfl (fun ls hl => ?_)
    refine lv_goto (tgt := 4) hx hb prd_T_behindBlanks_96 (by decide) ?_
    exact Hk4 σ x2 (x3 + 1) _ hf _ _ _ hP hS (lv_sub hl [1, 2, 0] rfl)
  · have hf := pr_ie c12 hf
    refine lv_iload hx hb prd_T_behindBlanks_70 (lv_at hl 3 rfl) ?_
    refine lv_bipush (v := 10) hx hb prd_T_behindBlanks_72 (by decide) ?_
    refine lv_icmp_eq (tgt := 93) hx hb prd_T_behindBlanks_74 (by decide) (fun c13 => ?_) (fun c13 => ?_)
    · have hf := pr_it c13 hf
      refine lv_iinc (v := (x3 + 1)) (lv' := [(3, .int (x3 + 1)), (0, .ref (ad 1)), (2, .int x2), (4, .int x4)]) hx hb prd_T_behindBlanks_93 hl (k := 2) rfl rfl (by decide) rfl (fun ls hl => ?_)
      refine lv_goto (tgt := 4) hx hb prd_T_behindBlanks_96 (by decide) ?_
      exact Hk4 σ x2 (x3 + 1) _ hf _ _ _ hP hS (lv_sub hl [1, 2, 0] rfl)
    · have hf := pr_ie c13 hf
      refine lv_iload hx hb prd_T_behindBlanks_77 (lv_at hl 3 rfl) ?_
      refine lv_bipush (v := 13) hx hb prd_T_behindBlanks_79 (by decide) ?_
      refine lv_icmp_eq (tgt := 93) hx hb prd_T_behindBlanks_81 (by decide) (fun c14 => ?_) (fun c14 => ?_)
      · have hf := pr_it c14 hf
        refine lv_iinc (v := (x3 + 1)) (lv' := [(3, .int (x3 + 1)), (0, .ref (ad 1)), (2, .int x2), (4, .int x4)]) hx hb prd_T_behindBlanks_93 hl (k := 2) rfl rfl (by decide) rfl (fun ls hl => ?_)
        refine lv_goto (tgt := 4) hx hb prd_T_behindBlanks_96 (by decide) ?_
        exact Hk4 σ x2 (x3 + 1) _ hf _ _ _ hP hS (lv_sub hl [1, 2, 0] rfl)
      · have hf := pr_ie c14 hf
        refine lv_iload hx hb prd_T_behindBlanks_84 (lv_at hl 3 rfl) ?_
        refine lv_bipush (v := 32) hx hb prd_T_behindBlanks_86 (by decide) ?_
        refine lv_icmp_eq (tgt := 93) hx hb prd_T_behindBlanks_88 (by decide) (fun c15 => ?_) (fun c15 => ?_)
        · have hf := pr_it c15 hf
          refine lv_iinc (v := (x3 + 1)) (lv' := [(3, .int (x3 + 1)), (0, .ref (ad 1)), (2, .int x2), (4, .int x4)]) hx hb prd_T_behindBlanks_93 hl (k := 2) rfl rfl (by decide) rfl (fun ls hl => ?_)
          refine lv_goto (tgt := 4) hx hb prd_T_behindBlanks_96 (by decide) ?_
          exact Hk4 σ x2 (x3 + 1) _ hf _ _ _ hP hS (lv_sub hl [1, 2, 0] rfl)
        · have hf := pr_ie c15 hf
          refine lv_iload_n hx hb prd_T_behindBlanks_91 rfl (lv_at hl 2 rfl) ?_
          exact pr_reti E hP hS (pr_ro hf) prd_T_behindBlanks_92
set_option maxHeartbeats 4000000 in
set_option maxRecDepth 100000 in
theorem prk_T_behindBlanks_4 {l : Launch} {D : va_G} {ad : Nat → Nat} {dA : Nat → ClassId} {A : Nat → Prop} {t : Nat} {p : Program} {e : Env} {s : State} {m : MethodId} {args : Array Value} {below : List Frame} {meth : Method} {c : Code} {h : Nat} (hh : 1 ≤ h) (E : pr_cx prn_T prb_T_behindBlanks 5 (some .int) D pr_cl prc_L ad dA A (prX t A) p s m args meth c) : ∀ n : Nat, ∀ (σ : pr_St) (x2 : Int32) (x3 : Int32) (res : Int32), some res = prf_T_behindBlanks_4 n σ x2 x3 → ∀ (H : Heap) (locs : List Loc) (ls : Array Slot), va_P D pr_cl (pr_w prc_L ad dA σ) H → va_S A s.heap H locs → lv_has ls 5 [(0, .ref (ad 1)), (2, .int x2), (3, .int x3)] → W p l e (pr_rm h) s m args below meth c H locs 0 0 (MQ below (pr_Qi D pr_cl prc_L ad dA A (res, σ)) args s 0 0 A) (F0 m 4 ls []) := by
  obtain ⟨hx, hb, hml, hown, hts, hr, hlocks, hK, hD, hX, hXs⟩ := id E
  intro n
  induction n with
  | zero =>
    intro σ x2 x3 res hf
    rw [prf_T_behindBlanks_4] at hf
    cases hf
  | succ n ih =>
    intro σ x2 x3 res hf H locs ls hP hS hl
    rw [prf_T_behindBlanks_4] at hf
    refine lv_iload_n hx hb prd_T_behindBlanks_4 rfl (lv_at hl 2 rfl) ?_
    refine lv_aload_n hx hb prd_T_behindBlanks_5 rfl (lv_at hl 0 rfl) ?_
    refine pr_geti (v := (σ.1 1 5)) hx hb hts prs_T hown hK hP 1 5 (by decide) rfl (hts _ prw_24) rfl rfl prd_T_behindBlanks_6 ?_
    refine lv_icmp_ge (tgt := 99) hx hb prd_T_behindBlanks_9 (by decide) (fun c16 => ?_) (fun c16 => ?_)
    · have hf := pr_it c16 hf
      refine lv_aload_n hx hb prd_T_behindBlanks_99 rfl (lv_at hl 0 rfl) ?_
      refine pr_geti (v := (σ.1 1 5)) hx hb hts prs_T hown hK hP 1 5 (by decide) rfl (hts _ prw_24) rfl rfl prd_T_behindBlanks_100 ?_
      exact pr_reti E hP hS (pr_ro hf) prd_T_behindBlanks_103
    · have hf := pr_ie c16 hf
      refine lv_aload_n hx hb prd_T_behindBlanks_12 rfl (lv_at hl 0 rfl) ?_
      refine lv_iload_n hx hb prd_T_behindBlanks_13 rfl (lv_at hl 2 rfl) ?_
      obtain ⟨r17, hr17, hf⟩ := pr_bi hf
      refine pr_callVr (rest := []) (r := r17) ⟨hx, hb, hml, hown, hts⟩ 1 (prc_T_byteAt hD hX 0 (Nat.le_refl _) σ x3 r17 hr17) (prg_T_byteAt hts prw_28 (by have := hh; omega)) hX hXs hK hP hS (by decide) rfl rfl rfl rfl hl.1 (Nat.le_of_ble_eq_true rfl) prd_T_behindBlanks_14 (fun H locs hP hS => ?_)
      refine lv_istore (lv' := [(4, .int r17), (0, .ref (ad 1)), (2, .int x2), (3, .int x3)]) hx hb prd_T_behindBlanks_17 hl (by decide) rfl (fun ls hl => ?_)
      refine lv_iload_n hx hb prd_T_behindBlanks_19 rfl (lv_at hl 2 rfl) ?_
      refine lv_if_eq (tgt := 39) hx hb prd_T_behindBlanks_20 (by decide) (fun c18 => ?_) (fun c18 => ?_)
      · have hf := pr_it c18 hf
        refine lv_iload hx hb prd_T_behindBlanks_39 (lv_at hl 0 rfl) ?_
        refine lv_bipush (v := 47) hx hb prd_T_behindBlanks_41 (by decide) ?_
        refine lv_icmp_ne (tgt := 63) hx hb prd_T_behindBlanks_43 (by decide) (fun c19 => ?_) (fun c19 => ?_)
        · have hf := pr_ie c19 hf
          exact prk_T_behindBlanks_63 hh E ih σ x2 x3 r17 _ hf _ _ _ hP hS (lv_sub hl [1, 2, 3, 0] rfl)
        · have hf := pr_it c19 hf
          refine lv_aload_n hx hb prd_T_behindBlanks_46 rfl (lv_at hl 1 rfl) ?_
          refine lv_iload_n hx hb prd_T_behindBlanks_47 rfl (lv_at hl 3 rfl) ?_
          refine lv_iconst (v := 1) hx hb prd_T_behindBlanks_48 (by decide) ?_
          refine lv_iadd hx hb prd_T_behindBlanks_49 ?_
          obtain ⟨r20, hr20, hf⟩ := pr_bi hf
          refine pr_callVr (rest := []) (r := r20) ⟨hx, hb, hml, hown, hts⟩ 1 (prc_T_byteAt hD hX 0 (Nat.le_refl _) σ (x3 + 1) r20 hr20) (prg_T_byteAt hts prw_28 (by have := hh; omega)) hX hXs hK hP hS (by decide) rfl rfl rfl rfl hl.1 (Nat.le_of_ble_eq_true rfl) prd_T_behindBlanks_50 (fun H locs hP hS => ?_)
          refine lv_bipush (v := 47) hx hb prd_T_behindBlanks_53 (by decide) ?_
          refine lv_icmp_ne (tgt := 63) hx hb prd_T_behindBlanks_55 (by decide) (fun c21 => ?_) (fun c21 => ?_)
          · have hf := pr_ie c21 hf
            exact prk_T_behindBlanks_63 hh E ih σ x2 x3 r17 _ hf _ _ _ hP hS (lv_sub hl [1, 2, 3, 0] rfl)
          · have hf := pr_it c21 hf
            refine lv_iconst (v := 1) hx hb prd_T_behindBlanks_58 (by decide) ?_
            refine lv_istore_n (lv' := [(2, .int 1), (4, .int r17), (0, .ref (ad 1)), (3, .int x3)]) hx hb prd_T_behindBlanks_59 rfl hl (by decide) rfl (fun ls hl => ?_)
            refine lv_goto (tgt := 93) hx hb prd_T_behindBlanks_60 (by decide) ?_
            refine lv_iinc (v := (x3 + 1)) (lv' := [(3, .int (x3 + 1)), (2, .int 1), (4, .int r17), (0, .ref (ad 1))]) hx hb prd_T_behindBlanks_93 hl (k := 3) rfl rfl (by decide) rfl (fun ls hl => ?_)
            refine lv_goto (tgt := 4) hx hb prd_T_behindBlanks_96 (by decide) ?_
            exact ih σ 1 (x3 + 1) _ hf _ _ _ hP hS (lv_sub hl [3, 1, 0] rfl)
      · have hf := pr_ie c18 hf
        refine lv_iload hx hb prd_T_behindBlanks_23 (lv_at hl 0 rfl) ?_
        refine lv_bipush (v := 10) hx hb prd_T_behindBlanks_25 (by decide) ?_
        refine lv_icmp_eq (tgt := 34) hx hb prd_T_behindBlanks_27 (by decide) (fun c22 => ?_) (fun c22 => ?_)
        · have hf := pr_it c22 hf
          refine lv_iconst (v := 0) hx hb prd_T_behindBlanks_34 (by decide) ?_
          refine lv_istore_n (lv' := [(2, .int 0), (4, .int r17), (0, .ref (ad 1)), (3, .int x3)]) hx hb prd_T_behindBlanks_35 rfl hl (by decide) rfl (fun ls hl => ?_)
          refine lv_goto (tgt := 93) hx hb prd_T_behindBlanks_36 (by decide) ?_
          refine lv_iinc (v := (x3 + 1)) (lv' := [(3, .int (x3 + 1)), (2, .int 0), (4, .int r17), (0, .ref (ad 1))]) hx hb prd_T_behindBlanks_93 hl (k := 3) rfl rfl (by decide) rfl (fun ls hl => ?_)
          refine lv_goto (tgt := 4) hx hb prd_T_behindBlanks_96 (by decide) ?_
          exact ih σ 0 (x3 + 1) _ hf _ _ _ hP hS (lv_sub hl [3, 1, 0] rfl)
        · have hf := pr_ie c22 hf
          refine lv_iconst (v := 1) hx hb prd_T_behindBlanks_30 (by decide) ?_
          refine lv_goto (tgt := 35) hx hb prd_T_behindBlanks_31 (by decide) ?_
          refine lv_istore_n (lv' := [(2, .int 1), (4, .int r17), (0, .ref (ad 1)), (3, .int x3)]) hx hb prd_T_behindBlanks_35 rfl hl (by decide) rfl (fun ls hl => ?_)
          refine lv_goto (tgt := 93) hx hb prd_T_behindBlanks_36 (by decide) ?_
          refine lv_iinc (v := (x3 + 1)) (lv' := [(3, .int (x3 + 1)), (2, .int 1), (4, .int r17), (0, .ref (ad 1))]) hx hb prd_T_behindBlanks_93 hl (k := 3) rfl rfl (by decide) rfl (fun ls hl => ?_)
          refine lv_goto (tgt := 4) hx hb prd_T_behindBlanks_96 (by decide) ?_
          exact ih σ 1 (x3 + 1) _ hf _ _ _ hP hS (lv_sub hl [3, 1, 0] rfl)
set_option maxHeartbeats 4000000 in
set_option maxRecDepth 100000 in
theorem prc_T_behindBlanks {l : Launch} {D : va_G} {ad : Nat → Nat} {dA : Nat → ClassId} {A : Nat → Prop} {t : Nat} (hD : ∀ σ : pr_St, va_D A (pr_w prc_L ad dA σ)) (hX : pr_Xok A (prX t A)) (h : Nat) (hh : 1 ≤ h) (σ : pr_St) (x1 : Int32) (res : Int32) (hf : prf_T_behindBlanks σ x1 = some res) : Met l pry_T_behindBlanks (Cond.code pry_T_behindBlanks prb_T_behindBlanks 5 (some .int) :: pr_U) (pr_rm h) (pr_Pc (prX t A) D pr_cl prc_L ad dA [.ref (ad 1), .int x1] σ) (pr_Qi D pr_cl prc_L ad dA A (res, σ)) 0 0 A := by
  refine pr_entry (cc := prb_T_behindBlanks) (maxL := 5) (ret := (some .int)) (by decide) (Nat.le_of_ble_eq_true rfl) hD hX ?_
  intro p e s m args below meth c E H locs hP hS ls hl
  have hl : lv_has ls 5 [(0, .ref (ad 1)), (1, .int x1)] := hl
  have hf := hf.symm
  unfold prf_T_behindBlanks at hf
  obtain ⟨hx, hb, hml, hown, hts, hr, hlocks, hK, hD, hX, hXs⟩ := id E
  refine lv_iconst (v := 0) hx hb prd_T_behindBlanks_0 (by decide) ?_
  refine lv_istore_n (lv' := [(2, .int 0), (0, .ref (ad 1)), (1, .int x1)]) hx hb prd_T_behindBlanks_1 rfl hl (by decide) rfl (fun ls hl => ?_)
  refine lv_iload_n hx hb prd_T_behindBlanks_2 rfl (lv_at hl 2 rfl) ?_
  refine lv_istore_n (lv' := [(3, .int x1), (2, .int 0), (0, .ref (ad 1)), (1, .int x1)]) hx hb prd_T_behindBlanks_3 rfl hl (by decide) rfl (fun ls hl => ?_)
  exact prk_T_behindBlanks_4 hh E pr_FU σ 0 x1 _ hf _ _ _ hP hS (lv_sub hl [2, 1, 0] rfl)
-- T_isDigit
set_option maxHeartbeats 4000000 in
set_option maxRecDepth 100000 in
theorem prc_T_isDigit {l : Launch} {D : va_G} {ad : Nat → Nat} {dA : Nat → ClassId} {A : Nat → Prop} {t : Nat} (hD : ∀ σ : pr_St, va_D A (pr_w prc_L ad dA σ)) (hX : pr_Xok A (prX t A)) (h : Nat) (hh : 0 ≤ h) (σ : pr_St) (x0 : Int32) (res : Int32) (hf : prf_T_isDigit σ x0 = some res) : Met l pry_T_isDigit (Cond.code pry_T_isDigit prb_T_isDigit 1 (some .boolean) :: pr_U) (pr_rm h) (pr_Pc (prX t A) D pr_cl prc_L ad dA [.int x0] σ) (pr_Qi D pr_cl prc_L ad dA A (res, σ)) 0 0 A := by
  refine pr_entry (cc := prb_T_isDigit) (maxL := 1) (ret := (some .boolean)) (by decide) (Nat.le_of_ble_eq_true rfl) hD hX ?_
  intro p e s m args below meth c E H locs hP hS ls hl
  have hl : lv_has ls 1 [(0, .int x0)] := hl
  have hf := hf.symm
  unfold prf_T_isDigit at hf
  obtain ⟨hx, hb, hml, hown, hts, hr, hlocks, hK, hD, hX, hXs⟩ := id E
  refine lv_iload_n hx hb prd_T_isDigit_0 rfl (lv_at hl 0 rfl) ?_
  refine lv_bipush (v := 48) hx hb prd_T_isDigit_1 (by decide) ?_
  refine lv_icmp_lt (tgt := 16) hx hb prd_T_isDigit_3 (by decide) (fun c3 => ?_) (fun c3 => ?_)
  · have hf := pr_it c3 hf
    refine lv_iconst (v := 0) hx hb prd_T_isDigit_16 (by decide) ?_
    exact pr_retz E (Or.inl rfl) hP hS (pr_ro hf) prd_T_isDigit_17
  · have hf := pr_ie c3 hf
    refine lv_iload_n hx hb prd_T_isDigit_6 rfl (lv_at hl 0 rfl) ?_
    refine lv_bipush (v := 57) hx hb prd_T_isDigit_7 (by decide) ?_
    refine lv_icmp_gt (tgt := 16) hx hb prd_T_isDigit_9 (by decide) (fun c4 => ?_) (fun c4 => ?_)
    · have hf := pr_it c4 hf
      refine lv_iconst (v := 0) hx hb prd_T_isDigit_16 (by decide) ?_
      exact pr_retz E (Or.inl rfl) hP hS (pr_ro hf) prd_T_isDigit_17
    · have hf := pr_ie c4 hf
      refine lv_iconst (v := 1) hx hb prd_T_isDigit_12 (by decide) ?_
      refine lv_goto (tgt := 17) hx hb prd_T_isDigit_13 (by decide) ?_
      exact pr_retz E (Or.inr rfl) hP hS (pr_ro hf) prd_T_isDigit_17
-- T_isInName
set_option maxHeartbeats 4000000 in
set_option maxRecDepth 100000 in
theorem prk_T_isInName_12 {l : Launch} {D : va_G} {ad : Nat → Nat} {dA : Nat → ClassId} {A : Nat → Prop} {t : Nat} {p : Program} {e : Env} {s : State} {m : MethodId} {args : Array Value} {below : List Frame} {meth : Method} {c : Code} {h : Nat} (hh : 1 ≤ h) (E : pr_cx prn_T prb_T_isInName 1 (some .boolean) D pr_cl prc_L ad dA A (prX t A) p s m args meth c) : ∀ (σ : pr_St) (x0 : Int32) (res : Int32), some res = prf_T_isInName_12 σ x0 → ∀ (H : Heap) (locs : List Loc) (ls : Array Slot), va_P D pr_cl (pr_w prc_L ad dA σ) H → va_S A s.heap H locs → lv_has ls 1 [(0, .int x0)] → W p l e (pr_rm h) s m args below meth c H locs 0 0 (MQ below (pr_Qi D pr_cl prc_L ad dA A (res, σ)) args s 0 0 A) (F0 m 12 ls []) := by
  obtain ⟨hx, hb, hml, hown, hts, hr, hlocks, hK, hD, hX, hXs⟩ := id E
  intro σ x0 res hf H locs ls hP hS hl
  unfold prf_T_isInName_12 at hf
  refine lv_iload_n hx hb prd_T_isInName_12 rfl (lv_at hl 0 rfl) ?_
  refine lv_bipush (v := 65) hx hb prd_T_isInName_13 (by decide) ?_
  refine lv_icmp_lt (tgt := 24) hx hb prd_T_isInName_15 (by decide) (fun c11 => ?_) (fun c11 => ?_)
  · have hf := pr_it c11 hf
    refine lv_iload_n hx hb prd_T_isInName_24 rfl (lv_at hl 0 rfl) ?_
    refine lv_bipush (v := 95) hx hb prd_T_isInName_25 (by decide) ?_
    refine lv_icmp_eq (tgt := 37) hx hb prd_T_isInName_27 (by decide) (fun c12 => ?_) (fun c12 => ?_)
    · have hf := pr_it c12 hf
      refine lv_iconst (v := 1) hx hb prd_T_isInName_37 (by decide) ?_
      refine lv_goto (tgt := 42) hx hb prd_T_isInName_38 (by decide) ?_
      exact pr_retz E (Or.inr rfl) hP hS (pr_ro hf) prd_T_isInName_42
    · have hf := pr_ie c12 hf
      refine lv_iload_n hx hb prd_T_isInName_30 rfl (lv_at hl 0 rfl) ?_
      obtain ⟨r13, hr13, hf⟩ := pr_bi hf
      refine pr_callSr (rest := []) (r := r13) ⟨hx, hb, hml, hown, hts⟩ (prc_T_isDigit hD hX 0 (Nat.le_refl _) σ x0 r13 hr13) (prg_T_isDigit hts prw_34 (by have := hh; omega)) hX hXs hK hP hS rfl rfl hl.1 (Nat.le_of_ble_eq_true rfl) prd_T_isInName_31 (fun H locs hP hS => ?_)
      refine lv_if_eq (tgt := 41) hx hb prd_T_isInName_34 (by decide) (fun c14 => ?_) (fun c14 => ?_)
      · have hf := pr_it c14 hf
        refine lv_iconst (v := 0) hx hb prd_T_isInName_41 (by decide) ?_
        exact pr_retz E (Or.inl rfl) hP hS (pr_ro hf) prd_T_isInName_42
      · have hf := pr_ie c14 hf
        refine lv_iconst (v := 1) hx hb prd_T_isInName_37 (by decide) ?_
        refine lv_goto (tgt := 42) hx hb prd_T_isInName_38 (by decide) ?_
        exact pr_retz E (Or.inr rfl) hP hS (pr_ro hf) prd_T_isInName_42
  · have hf := pr_ie c11 hf
    refine lv_iload_n hx hb prd_T_isInName_18 rfl (lv_at hl 0 rfl) ?_
    refine lv_bipush (v := 90) hx hb prd_T_isInName_19 (by decide) ?_
    refine lv_icmp_le (tgt := 37) hx hb prd_T_isInName_21 (by decide) (fun c15 => ?_) (fun c15 => ?_)
    · have hf := pr_it c15 hf
      refine lv_iconst (v := 1) hx hb prd_T_isInName_37 (by decide) ?_
      refine lv_goto (tgt := 42) hx hb prd_T_isInName_38 (by decide) ?_
      exact pr_retz E (Or.inr rfl) hP hS (pr_ro hf) prd_T_isInName_42
    · have hf := pr_ie c15 hf
      refine lv_iload_n hx hb prd_T_isInName_24 rfl (lv_at hl 0 rfl) ?_
      refine lv_bipush (v := 95) hx hb prd_T_isInName_25 (by decide) ?_
      refine lv_icmp_eq (tgt := 37) hx hb prd_T_isInName_27 (by decide) (fun c16 => ?_) (fun c16 => ?_)
      · have hf := pr_it c16 hf
        refine lv_iconst (v := 1) hx hb prd_T_isInName_37 (by decide) ?_
        refine lv_goto (tgt := 42) hx hb prd_T_isInName_38 (by decide) ?_
        exact pr_retz E (Or.inr rfl) hP hS (pr_ro hf) prd_T_isInName_42
      · have hf := pr_ie c16 hf
        refine lv_iload_n hx hb prd_T_isInName_30 rfl (lv_at hl 0 rfl) ?_
        obtain ⟨r17, hr17, hf⟩ := pr_bi hf
        refine pr_callSr (rest := []) (r := r17) ⟨hx, hb, hml, hown, hts⟩ (prc_T_isDigit hD hX 0 (Nat.le_refl _) σ x0 r17 hr17) (prg_T_isDigit hts prw_34 (by have := hh; omega)) hX hXs hK hP hS rfl rfl hl.1 (Nat.le_of_ble_eq_true rfl) prd_T_isInName_31 (fun H locs hP hS => ?_)
        refine lv_if_eq (tgt := 41) hx hb prd_T_isInName_34 (by decide) (fun c18 => ?_) (fun c18 => ?_)
        · have hf := pr_it c18 hf
          refine lv_iconst (v := 0) hx hb prd_T_isInName_41 (by decide) ?_
          exact pr_retz E (Or.inl rfl) hP hS (pr_ro hf) prd_T_isInName_42
        · have hf := pr_ie c18 hf
          refine lv_iconst (v := 1) hx hb prd_T_isInName_37 (by decide) ?_
          refine lv_goto (tgt := 42) hx hb prd_T_isInName_38 (by decide) ?_
          exact pr_retz E (Or.inr rfl) hP hS (pr_ro hf) prd_T_isInName_42
set_option maxHeartbeats 4000000 in
set_option maxRecDepth 100000 in
theorem prc_T_isInName {l : Launch} {D : va_G} {ad : Nat → Nat} {dA : Nat → ClassId} {A : Nat → Prop} {t : Nat} (hD : ∀ σ : pr_St, va_D A (pr_w prc_L ad dA σ)) (hX : pr_Xok A (prX t A)) (h : Nat) (hh : 1 ≤ h) (σ : pr_St) (x0 : Int32) (res : Int32) (hf : prf_T_isInName σ x0 = some res) : Met l pry_T_isInName (Cond.code pry_T_isInName prb_T_isInName 1 (some .boolean) :: pr_U) (pr_rm h) (pr_Pc (prX t A) D pr_cl prc_L ad dA [.int x0] σ) (pr_Qi D pr_cl prc_L ad dA A (res, σ)) 0 0 A := by
  refine pr_entry (cc := prb_T_isInName) (maxL := 1) (ret := (some .boolean)) (by decide) (Nat.le_of_ble_eq_true rfl) hD hX ?_
  intro p e s m args below meth c E H locs hP hS ls hl
  have hl : lv_has ls 1 [(0, .int x0)] := hl
  have hf := hf.symm
  unfold prf_T_isInName at hf
  obtain ⟨hx, hb, hml, hown, hts, hr, hlocks, hK, hD, hX, hXs⟩ := id E
  refine lv_iload_n hx hb prd_T_isInName_0 rfl (lv_at hl 0 rfl) ?_
  refine lv_bipush (v := 97) hx hb prd_T_isInName_1 (by decide) ?_
  refine lv_icmp_lt (tgt := 12) hx hb prd_T_isInName_3 (by decide) (fun c19 => ?_) (fun c19 => ?_)
  · have hf := pr_it c19 hf
    exact prk_T_isInName_12 hh E σ x0 _ hf _ _ _ hP hS (lv_sub hl [0] rfl)
  · have hf := pr_ie c19 hf
    refine lv_iload_n hx hb prd_T_isInName_6 rfl (lv_at hl 0 rfl) ?_
    refine lv_bipush (v := 122) hx hb prd_T_isInName_7 (by decide) ?_
    refine lv_icmp_le (tgt := 37) hx hb prd_T_isInName_9 (by decide) (fun c20 => ?_) (fun c20 => ?_)
    · have hf := pr_it c20 hf
      refine lv_iconst (v := 1) hx hb prd_T_isInName_37 (by decide) ?_
      refine lv_goto (tgt := 42) hx hb prd_T_isInName_38 (by decide) ?_
      exact pr_retz E (Or.inr rfl) hP hS (pr_ro hf) prd_T_isInName_42
    · have hf := pr_ie c20 hf
      exact prk_T_isInName_12 hh E σ x0 _ hf _ _ _ hP hS (lv_sub hl [0] rfl)
-- T_add
set_option maxHeartbeats 4000000 in
set_option maxRecDepth 100000 in
theorem prc_T_add {l : Launch} {D : va_G} {ad : Nat → Nat} {dA : Nat → ClassId} {A : Nat → Prop} {t : Nat} (hD : ∀ σ : pr_St, va_D A (pr_w prc_L ad dA σ)) (hX : pr_Xok A (prX t A)) (h : Nat) (hh : 0 ≤ h) (σ : pr_St) (x1 : Int32) (x2 : Int32) (x3 : Int32) (res : pr_St) (hf : prf_T_add σ x1 x2 x3 = some res) : Met l pry_T_add (Cond.code pry_T_add prb_T_add 4 none :: pr_U) (pr_rm h) (pr_Pc (prX t A) D pr_cl prc_L ad dA [.ref (ad 1), .int x1, .int x2, .int x3] σ) (pr_Qv D pr_cl prc_L ad dA A res) 0 0 A := by
  refine pr_entry (cc := prb_T_add) (maxL := 4) (ret := none) (by decide) (Nat.le_of_ble_eq_true rfl) hD hX ?_
  intro p e s m args below meth c E H locs hP hS ls hl
  have hl : lv_has ls 4 [(0, .ref (ad 1)), (1, .int x1), (2, .int x2), (3, .int x3)] := hl
  have hf := hf.symm
  unfold prf_T_add at hf
  obtain ⟨hx, hb, hml, hown, hts, hr, hlocks, hK, hD, hX, hXs⟩ := id E
  refine lv_aload_n hx hb prd_T_add_0 rfl (lv_at hl 0 rfl) ?_
  refine pr_geti (v := (σ.1 1 6)) hx hb hts prs_T hown hK hP 1 6 (by decide) rfl (hts _ prw_37) rfl rfl prd_T_add_1 ?_
  refine lv_aload_n hx hb prd_T_add_4 rfl (lv_at hl 0 rfl) ?_
  refine pr_getr (t := 9) hx hb hts prs_T hown hK hP 1 2 (by decide) rfl (hts _ prw_38) rfl prd_T_add_5 ?_
  refine pr_alen (v := 8001) hx hb hK hP 9 (by decide) (by decide) prd_T_add_8 ?_
  refine lv_icmp_ge (tgt := 53) hx hb prd_T_add_9 (by decide) (fun c5 => ?_) (fun c5 => ?_)
  · have hf := pr_it c5 hf
    exact pr_retv E hP hS (pr_so hf) prd_T_add_53
  · have hf := pr_ie c5 hf
    refine lv_aload_n hx hb prd_T_add_12 rfl (lv_at hl 0 rfl) ?_
    refine pr_getr (t := 9) hx hb hts prs_T hown hK hP 1 2 (by decide) rfl (hts _ prw_38) rfl prd_T_add_13 ?_
    refine lv_aload_n hx hb prd_T_add_16 rfl (lv_at hl 0 rfl) ?_
    refine pr_geti (v := (σ.1 1 6)) hx hb hts prs_T hown hK hP 1 6 (by decide) rfl (hts _ prw_37) rfl rfl prd_T_add_17 ?_
    refine lv_iload_n hx hb prd_T_add_20 rfl (lv_at hl 1 rfl) ?_
    refine lv_i2b (v := x1.toInt8.toInt32) hx hb prd_T_add_21 rfl ?_
    obtain ⟨hi6, hf⟩ := pr_ck_in hf
    refine pr_bast (f := (σ.2.1 9)) hx hb hK hP (hD _) hS 9 (by decide) rfl hi6 rfl prd_T_add_22 (fun H locs hP hS => ?_)
    refine lv_aload_n hx hb prd_T_add_23 rfl (lv_at hl 0 rfl) ?_
    refine pr_getr (t := 10) hx hb hts prs_T hown hK hP 1 3 (by decide) rfl (hts _ prw_39) rfl prd_T_add_24 ?_
    refine lv_aload_n hx hb prd_T_add_27 rfl (lv_at hl 0 rfl) ?_
    refine pr_geti (v := (σ.1 1 6)) hx hb hts prs_T hown hK hP 1 6 (by decide) rfl (hts _ prw_37) rfl rfl prd_T_add_28 ?_
    refine lv_iload_n hx hb prd_T_add_31 rfl (lv_at hl 2 rfl) ?_
    obtain ⟨hi7, hf⟩ := pr_ck_in hf
    refine pr_iast (f := (σ.2.1 10)) hx hb hK hP (hD _) hS 10 (by decide) rfl hi7 rfl prd_T_add_32 (fun H locs hP hS => ?_)
    refine lv_aload_n hx hb prd_T_add_33 rfl (lv_at hl 0 rfl) ?_
    refine pr_getr (t := 11) hx hb hts prs_T hown hK hP 1 4 (by decide) rfl (hts _ prw_40) rfl prd_T_add_34 ?_
    refine lv_aload_n hx hb prd_T_add_37 rfl (lv_at hl 0 rfl) ?_
    refine pr_geti (v := (σ.1 1 6)) hx hb hts prs_T hown hK hP 1 6 (by decide) rfl (hts _ prw_37) rfl rfl prd_T_add_38 ?_
    refine lv_iload_n hx hb prd_T_add_41 rfl (lv_at hl 3 rfl) ?_
    obtain ⟨hi8, hf⟩ := pr_ck_in hf
    refine pr_iast (f := (σ.2.1 11)) hx hb hK hP (hD _) hS 11 (by decide) rfl hi8 rfl prd_T_add_42 (fun H locs hP hS => ?_)
    refine lv_aload_n hx hb prd_T_add_43 rfl (lv_at hl 0 rfl) ?_
    refine lv_dup hx hb prd_T_add_44 rfl ?_
    refine pr_geti (v := (σ.1 1 6)) hx hb hts prs_T hown hK hP 1 6 (by decide) rfl (hts _ prw_37) rfl rfl prd_T_add_45 ?_
    refine lv_iconst (v := 1) hx hb prd_T_add_48 (by decide) ?_
    refine lv_iadd hx hb prd_T_add_49 ?_
    refine pr_puti (ty := .int) hx hb hts prs_T prq_T prtt_T prtn_T hown hK hP (hD _) hS 1 6 (by decide) rfl (hts _ prw_37) rfl rfl (prtt_T 6 (by decide)) rfl rfl prd_T_add_50 (fun H locs hP hS => ?_)
    exact pr_retv E hP hS (pr_so hf) prd_T_add_53
-- T_readNumber
set_option maxHeartbeats 4000000 in
set_option maxRecDepth 100000 in
theorem prk_T_readNumber_80 {l : Launch} {D : va_G} {ad : Nat → Nat} {dA : Nat → ClassId} {A : Nat → Prop} {t : Nat} {p : Program} {e : Env} {s : State} {m : MethodId} {args : Array Value} {below : List Frame} {meth : Method} {c : Code} {h : Nat} (hh : 2 ≤ h) (E : pr_cx prn_T prb_T_readNumber 6 (some .int) D pr_cl prc_L ad dA A (prX t A) p s m args meth c) : ∀ (σ : pr_St) (x1 : Int32) (x2 : Int32) (x3 : Int64) (res : (Int32 × pr_St)), some res = prf_T_readNumber_80 σ x1 x2 x3 → ∀ (H : Heap) (locs : List Loc) (ls : Array Slot), va_P D pr_cl (pr_w prc_L ad dA σ) H → va_S A s.heap H locs → lv_has ls 6 [(0, .ref (ad 1)), (1, .int x1), (2, .int x2), (3, .long x3)] → W p l e (pr_rm h) s m args below meth c H locs 0 0 (MQ below (pr_Qi D pr_cl prc_L ad dA A res) args s 0 0 A) (F0 m 80 ls []) := by
  obtain ⟨hx, hb, hml, hown, hts, hr, hlocks, hK, hD, hX, hXs⟩ := id E
  intro σ x1 x2 x3 res hf H locs ls hP hS hl
  unfold prf_T_readNumber_80 at hf
  refine lv_iconst (v := 0) hx hb prd_T_readNumber_80 (by decide) ?_
  refine lv_istore (lv' := [(5, .int 0), (0, .ref (ad 1)), (1, .int x1), (2, .int x2), (3, .long x3)]) hx hb prd_T_readNumber_81 hl (by decide) rfl (fun ls hl => ?_)
  refine lv_iload_n hx hb prd_T_readNumber_83 rfl (lv_at hl 3 rfl) ?_
  refine lv_bipush (v := 10) hx hb prd_T_readNumber_84 (by decide) ?_
  refine lv_icmp_gt (tgt := 115) hx hb prd_T_readNumber_86 (by decide) (fun c24 => ?_) (fun c24 => ?_)
  · have hf := pr_it c24 hf
    refine lv_iconst (v := 0) hx hb prd_T_readNumber_115 (by decide) ?_
    exact pr_reti E hP hS (pr_so hf) prd_T_readNumber_116
  · have hf := pr_ie c24 hf
    refine lv_iload hx hb prd_T_readNumber_89 (lv_at hl 0 rfl) ?_
    refine lv_if_ne (tgt := 115) hx hb prd_T_readNumber_91 (by decide) (fun c25 => ?_) (fun c25 => ?_)
    · have hf := pr_ie c25 hf
      refine lv_iconst (v := 0) hx hb prd_T_readNumber_115 (by decide) ?_
      exact pr_reti E hP hS (pr_so hf) prd_T_readNumber_116
    · have hf := pr_it c25 hf
      refine lv_lload_n hx hb prd_T_readNumber_94 rfl (lv_at hl 4 rfl) ?_
      refine lv_ldc2 (v := 2147483647) hx hb hown (hts _ prw_46) prd_T_readNumber_95 ?_
      refine W.lcmp hx hb prd_T_readNumber_98 ?_
      refine lv_if_gt (tgt := 115) hx hb prd_T_readNumber_99 (by decide) (fun c26 => ?_) (fun c26 => ?_)
      · have hf := pr_it c26 hf
        refine lv_iconst (v := 0) hx hb prd_T_readNumber_115 (by decide) ?_
        exact pr_reti E hP hS (pr_so hf) prd_T_readNumber_116
      · have hf := pr_ie c26 hf
        refine lv_aload_n hx hb prd_T_readNumber_102 rfl (lv_at hl 1 rfl) ?_
        refine lv_iload_n hx hb prd_T_readNumber_103 rfl (lv_at hl 2 rfl) ?_
        refine lv_iload_n hx hb prd_T_readNumber_104 rfl (lv_at hl 3 rfl) ?_
        refine lv_iadd hx hb prd_T_readNumber_105 ?_
        obtain ⟨r27, hr27, hf⟩ := pr_bi hf
        refine pr_callVr (rest := []) (r := r27) ⟨hx, hb, hml, hown, hts⟩ 1 (prc_T_byteAt hD hX 0 (Nat.le_refl _) σ (x1 + x2) r27 hr27) (prg_T_byteAt hts prw_28 (by have := hh; omega)) hX hXs hK hP hS (by decide) rfl rfl rfl rfl hl.1 (Nat.le_of_ble_eq_true rfl) prd_T_readNumber_106 (fun H locs hP hS => ?_)
        obtain ⟨r28, hr28, hf⟩ := pr_bi hf
        refine pr_callSr (rest := []) (r := r28) ⟨hx, hb, hml, hown, hts⟩ (prc_T_isInName hD hX 1 (Nat.le_refl _) σ r27 r28 hr28) (prg_T_isInName hts prw_47 (by have := hh; omega)) hX hXs hK hP hS rfl rfl hl.1 (Nat.le_of_ble_eq_true rfl) prd_T_readNumber_109 (fun H locs hP hS => ?_)
        refine lv_if_eq (tgt := 117) hx hb prd_T_readNumber_112 (by decide) (fun c29 => ?_) (fun c29 => ?_)
        · have hf := pr_it c29 hf
          refine lv_aload_n hx hb prd_T_readNumber_117 rfl (lv_at hl 1 rfl) ?_
          refine lv_iconst (v := 3) hx hb prd_T_readNumber_118 (by decide) ?_
          refine lv_iload_n hx hb prd_T_readNumber_119 rfl (lv_at hl 2 rfl) ?_
          refine lv_lload_n hx hb prd_T_readNumber_120 rfl (lv_at hl 4 rfl) ?_
          refine lv_l2i (v := x3.toInt32) hx hb prd_T_readNumber_121 rfl ?_
          obtain ⟨r30, hr30, hf⟩ := pr_bi hf
          refine pr_callVv (rest := []) (res := r30) ⟨hx, hb, hml, hown, hts⟩ 1 (prc_T_add hD hX 0 (Nat.le_refl _) σ 3 x1 x3.toInt32 r30 hr30) (prg_T_add hts prw_48 (by have := hh; omega)) hX hXs hK hP hS (by decide) rfl rfl rfl rfl hl.1 (Nat.le_of_ble_eq_true rfl) prd_T_readNumber_122 (fun H locs hP hS => ?_)
          refine lv_iload_n hx hb prd_T_readNumber_125 rfl (lv_at hl 3 rfl) ?_
          exact pr_reti E hP hS (pr_so hf) prd_T_readNumber_126
        · have hf := pr_ie c29 hf
          refine lv_iconst (v := 0) hx hb prd_T_readNumber_115 (by decide) ?_
          exact pr_reti E hP hS (pr_so hf) prd_T_readNumber_116
set_option maxHeartbeats 4000000 in
set_option maxRecDepth 100000 in
theorem prk_T_readNumber_61 {l : Launch} {D : va_G} {ad : Nat → Nat} {dA : Nat → ClassId} {A : Nat → Prop} {t : Nat} {p : Program} {e : Env} {s : State} {m : MethodId} {args : Array Value} {below : List Frame} {meth : Method} {c : Code} {h : Nat} (hh : 2 ≤ h) (E : pr_cx prn_T prb_T_readNumber 6 (some .int) D pr_cl prc_L ad dA A (prX t A) p s m args meth c) : ∀ (σ : pr_St) (x1 : Int32) (x2 : Int32) (x3 : Int64) (res : (Int32 × pr_St)), some res = prf_T_readNumber_61 σ x1 x2 x3 → ∀ (H : Heap) (locs : List Loc) (ls : Array Slot), va_P D pr_cl (pr_w prc_L ad dA σ) H → va_S A s.heap H locs → lv_has ls 6 [(0, .ref (ad 1)), (1, .int x1), (2, .int x2), (3, .long x3)] → W p l e (pr_rm h) s m args below meth c H locs 0 0 (MQ below (pr_Qi D pr_cl prc_L ad dA A res) args s 0 0 A) (F0 m 61 ls []) := by
  obtain ⟨hx, hb, hml, hown, hts, hr, hlocks, hK, hD, hX, hXs⟩ := id E
  intro σ x1 x2 x3 res hf H locs ls hP hS hl
  unfold prf_T_readNumber_61 at hf
  refine lv_iload_n hx hb prd_T_readNumber_61 rfl (lv_at hl 2 rfl) ?_
  refine lv_iconst (v := 1) hx hb prd_T_readNumber_62 (by decide) ?_
  refine lv_icmp_le (tgt := 80) hx hb prd_T_readNumber_63 (by decide) (fun c31 => ?_) (fun c31 => ?_)
  · have hf := pr_it c31 hf
    exact prk_T_readNumber_80 hh E σ x1 x2 x3 _ hf _ _ _ hP hS (lv_sub hl [0, 1, 2, 3] rfl)
  · have hf := pr_ie c31 hf
    refine lv_aload_n hx hb prd_T_readNumber_66 rfl (lv_at hl 0 rfl) ?_
    refine lv_iload_n hx hb prd_T_readNumber_67 rfl (lv_at hl 1 rfl) ?_
    obtain ⟨r32, hr32, hf⟩ := pr_bi hf
    refine pr_callVr (rest := []) (r := r32) ⟨hx, hb, hml, hown, hts⟩ 1 (prc_T_byteAt hD hX 0 (Nat.le_refl _) σ x1 r32 hr32) (prg_T_byteAt hts prw_28 (by have := hh; omega)) hX hXs hK hP hS (by decide) rfl rfl rfl rfl hl.1 (Nat.le_of_ble_eq_true rfl) prd_T_readNumber_68 (fun H locs hP hS => ?_)
    refine lv_bipush (v := 48) hx hb prd_T_readNumber_71 (by decide) ?_
    refine lv_icmp_ne (tgt := 80) hx hb prd_T_readNumber_73 (by decide) (fun c33 => ?_) (fun c33 => ?_)
    · have hf := pr_ie c33 hf
      exact prk_T_readNumber_80 hh E σ x1 x2 x3 _ hf _ _ _ hP hS (lv_sub hl [0, 1, 2, 3] rfl)
    · have hf := pr_it c33 hf
      refine lv_iconst (v := 1) hx hb prd_T_readNumber_76 (by decide) ?_
      refine lv_goto (tgt := 81) hx hb prd_T_readNumber_77 (by decide) ?_
      refine lv_istore (lv' := [(5, .int 1), (0, .ref (ad 1)), (1, .int x1), (2, .int x2), (3, .long x3)]) hx hb prd_T_readNumber_81 hl (by decide) rfl (fun ls hl => ?_)
      refine lv_iload_n hx hb prd_T_readNumber_83 rfl (lv_at hl 3 rfl) ?_
      refine lv_bipush (v := 10) hx hb prd_T_readNumber_84 (by decide) ?_
      refine lv_icmp_gt (tgt := 115) hx hb prd_T_readNumber_86 (by decide) (fun c34 => ?_) (fun c34 => ?_)
      · have hf := pr_it c34 hf
        refine lv_iconst (v := 0) hx hb prd_T_readNumber_115 (by decide) ?_
        exact pr_reti E hP hS (pr_so hf) prd_T_readNumber_116
      · have hf := pr_ie c34 hf
        refine lv_iload hx hb prd_T_readNumber_89 (lv_at hl 0 rfl) ?_
        refine lv_if_ne (tgt := 115) hx hb prd_T_readNumber_91 (by decide) (fun c35 => ?_) (fun c35 => ?_)
        · have hf := pr_ie c35 hf
          refine lv_iconst (v := 0) hx hb prd_T_readNumber_115 (by decide) ?_
          exact pr_reti E hP hS (pr_so hf) prd_T_readNumber_116
        · have hf := pr_it c35 hf
          refine lv_lload_n hx hb prd_T_readNumber_94 rfl (lv_at hl 4 rfl) ?_
          refine lv_ldc2 (v := 2147483647) hx hb hown (hts _ prw_46) prd_T_readNumber_95 ?_
          refine W.lcmp hx hb prd_T_readNumber_98 ?_
          refine lv_if_gt (tgt := 115) hx hb prd_T_readNumber_99 (by decide) (fun c36 => ?_) (fun c36 => ?_)
          · have hf := pr_it c36 hf
            refine lv_iconst (v := 0) hx hb prd_T_readNumber_115 (by decide) ?_
            exact pr_reti E hP hS (pr_so hf) prd_T_readNumber_116
          · have hf := pr_ie c36 hf
            refine lv_aload_n hx hb prd_T_readNumber_102 rfl (lv_at hl 1 rfl) ?_
            refine lv_iload_n hx hb prd_T_readNumber_103 rfl (lv_at hl 2 rfl) ?_
            refine lv_iload_n hx hb prd_T_readNumber_104 rfl (lv_at hl 3 rfl) ?_
            refine lv_iadd hx hb prd_T_readNumber_105 ?_
            obtain ⟨r37, hr37, hf⟩ := pr_bi hf
            refine pr_callVr (rest := []) (r := r37) ⟨hx, hb, hml, hown, hts⟩ 1 (prc_T_byteAt hD hX 0 (Nat.le_refl _) σ (x1 + x2) r37 hr37) (prg_T_byteAt hts prw_28 (by have := hh; omega)) hX hXs hK hP hS (by decide) rfl rfl rfl rfl hl.1 (Nat.le_of_ble_eq_true rfl) prd_T_readNumber_106 (fun H locs hP hS => ?_)
            obtain ⟨r38, hr38, hf⟩ := pr_bi hf
            refine pr_callSr (rest := []) (r := r38) ⟨hx, hb, hml, hown, hts⟩ (prc_T_isInName hD hX 1 (Nat.le_refl _) σ r37 r38 hr38) (prg_T_isInName hts prw_47 (by have := hh; omega)) hX hXs hK hP hS rfl rfl hl.1 (Nat.le_of_ble_eq_true rfl) prd_T_readNumber_109 (fun H locs hP hS => ?_)
            refine lv_if_eq (tgt := 117) hx hb prd_T_readNumber_112 (by decide) (fun c39 => ?_) (fun c39 => ?_)
            · have hf := pr_it c39 hf
              refine lv_aload_n hx hb prd_T_readNumber_117 rfl (lv_at hl 1 rfl) ?_
              refine lv_iconst (v := 3) hx hb prd_T_readNumber_118 (by decide) ?_
              refine lv_iload_n hx hb prd_T_readNumber_119 rfl (lv_at hl 2 rfl) ?_
              refine lv_lload_n hx hb prd_T_readNumber_120 rfl (lv_at hl 4 rfl) ?_
              refine lv_l2i (v := x3.toInt32) hx hb prd_T_readNumber_121 rfl ?_
              obtain ⟨r40, hr40, hf⟩ := pr_bi hf
              refine pr_callVv (rest := []) (res := r40) ⟨hx, hb, hml, hown, hts⟩ 1 (prc_T_add hD hX 0 (Nat.le_refl _) σ 3 x1 x3.toInt32 r40 hr40) (prg_T_add hts prw_48 (by have := hh; omega)) hX hXs hK hP hS (by decide) rfl rfl rfl rfl hl.1 (Nat.le_of_ble_eq_true rfl) prd_T_readNumber_122 (fun H locs hP hS => ?_)
              refine lv_iload_n hx hb prd_T_readNumber_125 rfl (lv_at hl 3 rfl) ?_
              exact pr_reti E hP hS (pr_so hf) prd_T_readNumber_126
            · have hf := pr_ie c39 hf
              refine lv_iconst (v := 0) hx hb prd_T_readNumber_115 (by decide) ?_
              exact pr_reti E hP hS (pr_so hf) prd_T_readNumber_116
set_option maxHeartbeats 4000000 in
set_option maxRecDepth 100000 in
theorem prk_T_readNumber_7 {l : Launch} {D : va_G} {ad : Nat → Nat} {dA : Nat → ClassId} {A : Nat → Prop} {t : Nat} {p : Program} {e : Env} {s : State} {m : MethodId} {args : Array Value} {below : List Frame} {meth : Method} {c : Code} {h : Nat} (hh : 2 ≤ h) (E : pr_cx prn_T prb_T_readNumber 6 (some .int) D pr_cl prc_L ad dA A (prX t A) p s m args meth c) : ∀ n : Nat, ∀ (σ : pr_St) (x1 : Int32) (x2 : Int32) (x3 : Int64) (x5 : Int32) (res : (Int32 × pr_St)), some res = prf_T_readNumber_7 n σ x1 x2 x3 x5 → ∀ (H : Heap) (locs : List Loc) (ls : Array Slot), va_P D pr_cl (pr_w prc_L ad dA σ) H → va_S A s.heap H locs → lv_has ls 6 [(0, .ref (ad 1)), (1, .int x1), (2, .int x2), (3, .long x3), (5, .int x5)] → W p l e (pr_rm h) s m args below meth c H locs 0 0 (MQ below (pr_Qi D pr_cl prc_L ad dA A res) args s 0 0 A) (F0 m 7 ls []) := by
  obtain ⟨hx, hb, hml, hown, hts, hr, hlocks, hK, hD, hX, hXs⟩ := id E
  intro n
  induction n with
  | zero =>
    intro σ x1 x2 x3 x5 res hf
    rw [prf_T_readNumber_7] at hf
    cases hf
  | succ n ih =>
    intro σ x1 x2 x3 x5 res hf H locs ls hP hS hl
    rw [prf_T_readNumber_7] at hf
    refine lv_iload hx hb prd_T_readNumber_7 (lv_at hl 4 rfl) ?_
    refine lv_aload_n hx hb prd_T_readNumber_9 rfl (lv_at hl 0 rfl) ?_
    refine pr_geti (v := (σ.1 1 5)) hx hb hts prs_T hown hK hP 1 5 (by decide) rfl (hts _ prw_24) rfl rfl prd_T_readNumber_10 ?_
    refine lv_icmp_ge (tgt := 61) hx hb prd_T_readNumber_13 (by decide) (fun c41 => ?_) (fun c41 => ?_)
    · have hf := pr_it c41 hf
      exact prk_T_readNumber_61 hh E σ x1 x2 x3 _ hf _ _ _ hP hS (lv_sub hl [0, 1, 2, 3] rfl)
    · have hf := pr_ie c41 hf
      refine lv_aload_n hx hb prd_T_readNumber_16 rfl (lv_at hl 0 rfl) ?_
      refine lv_iload hx hb prd_T_readNumber_17 (lv_at hl 4 rfl) ?_
      obtain ⟨r42, hr42, hf⟩ := pr_bi hf
      refine pr_callVr (rest := []) (r := r42) ⟨hx, hb, hml, hown, hts⟩ 1 (prc_T_byteAt hD hX 0 (Nat.le_refl _) σ x5 r42 hr42) (prg_T_byteAt hts prw_28 (by have := hh; omega)) hX hXs hK hP hS (by decide) rfl rfl rfl rfl hl.1 (Nat.le_of_ble_eq_true rfl) prd_T_readNumber_19 (fun H locs hP hS => ?_)
      obtain ⟨r43, hr43, hf⟩ := pr_bi hf
      refine pr_callSr (rest := []) (r := r43) ⟨hx, hb, hml, hown, hts⟩ (prc_T_isDigit hD hX 0 (Nat.le_refl _) σ r42 r43 hr43) (prg_T_isDigit hts prw_34 (by have := hh; omega)) hX hXs hK hP hS rfl rfl hl.1 (Nat.le_of_ble_eq_true rfl) prd_T_readNumber_22 (fun H locs hP hS => ?_)
      refine lv_if_eq (tgt := 61) hx hb prd_T_readNumber_25 (by decide) (fun c44 => ?_) (fun c44 => ?_)
      · have hf := pr_it c44 hf
        exact prk_T_readNumber_61 hh E σ x1 x2 x3 _ hf _ _ _ hP hS (lv_sub hl [0, 1, 2, 3] rfl)
      · have hf := pr_ie c44 hf
        refine lv_iload_n hx hb prd_T_readNumber_28 rfl (lv_at hl 2 rfl) ?_
        refine lv_bipush (v := 10) hx hb prd_T_readNumber_29 (by decide) ?_
        refine lv_icmp_ge (tgt := 52) hx hb prd_T_readNumber_31 (by decide) (fun c45 => ?_) (fun c45 => ?_)
        · have hf := pr_it c45 hf
          refine lv_iinc (v := (x2 + 1)) (lv' := [(2, .int (x2 + 1)), (0, .ref (ad 1)), (1, .int x1), (3, .long x3), (5, .int x5)]) hx hb prd_T_readNumber_52 hl (k := 2) rfl rfl (by decide) rfl (fun ls hl => ?_)
          refine lv_iinc (v := (x5 + 1)) (lv' := [(5, .int (x5 + 1)), (2, .int (x2 + 1)), (0, .ref (ad 1)), (1, .int x1), (3, .long x3)]) hx hb prd_T_readNumber_55 hl (k := 4) rfl rfl (by decide) rfl (fun ls hl => ?_)
          refine lv_goto (tgt := 7) hx hb prd_T_readNumber_58 (by decide) ?_
          exact ih σ x1 (x2 + 1) x3 (x5 + 1) _ hf _ _ _ hP hS (lv_sub hl [2, 3, 1, 4, 0] rfl)
        · have hf := pr_ie c45 hf
          refine lv_lload_n hx hb prd_T_readNumber_34 rfl (lv_at hl 3 rfl) ?_
          refine lv_ldc2 (v := 10) hx hb hown (hts _ prw_44) prd_T_readNumber_35 ?_
          refine lv_lmul hx hb prd_T_readNumber_38 ?_
          refine lv_aload_n hx hb prd_T_readNumber_39 rfl (lv_at hl 0 rfl) ?_
          refine lv_iload hx hb prd_T_readNumber_40 (lv_at hl 4 rfl) ?_
          obtain ⟨r46, hr46, hf⟩ := pr_bi hf
          refine pr_callVr (rest := [.long (x3 * 10)]) (r := r46) ⟨hx, hb, hml, hown, hts⟩ 1 (prc_T_byteAt hD hX 0 (Nat.le_refl _) σ x5 r46 hr46) (prg_T_byteAt hts prw_28 (by have := hh; omega)) hX hXs hK hP hS (by decide) rfl rfl rfl rfl hl.1 (Nat.le_of_ble_eq_true rfl) prd_T_readNumber_42 (fun H locs hP hS => ?_)
          refine lv_i2l (v := r46.toInt64) hx hb prd_T_readNumber_45 rfl ?_
          refine lv_ladd hx hb prd_T_readNumber_46 ?_
          refine lv_ldc2 (v := 48) hx hb hown (hts _ prw_45) prd_T_readNumber_47 ?_
          refine lv_lsub hx hb prd_T_readNumber_50 ?_
          refine lv_lstore_n (lv' := [(3, .long (((x3 * 10) + r46.toInt64) - 48)), (0, .ref (ad 1)), (1, .int x1), (2, .int x2), (5, .int x5)]) hx hb prd_T_readNumber_51 rfl hl (by decide) rfl (fun ls hl => ?_)
          refine lv_iinc (v := (x2 + 1)) (lv' := [(2, .int (x2 + 1)), (3, .long (((x3 * 10) + r46.toInt64) - 48)), (0, .ref (ad 1)), (1, .int x1), (5, .int x5)]) hx hb prd_T_readNumber_52 hl (k := 3) rfl rfl (by decide) rfl (fun ls hl => ?_)
          refine lv_iinc (v := (x5 + 1)) (lv' := [(5, .int (x5 + 1)), (2, .int (x2 + 1)), (3, .long (((x3 * 10) + r46.toInt64) - 48)), (0, .ref (ad 1)), (1, .int x1)]) hx hb prd_T_readNumber_55 hl (k := 4) rfl rfl (by decide) rfl (fun ls hl => ?_)
          refine lv_goto (tgt := 7) hx hb prd_T_readNumber_58 (by decide) ?_
          exact ih σ x1 (x2 + 1) (((x3 * 10) + r46.toInt64) - 48) (x5 + 1) _ hf _ _ _ hP hS (lv_sub hl [3, 4, 1, 2, 0] rfl)
set_option maxHeartbeats 4000000 in
set_option maxRecDepth 100000 in
theorem prc_T_readNumber {l : Launch} {D : va_G} {ad : Nat → Nat} {dA : Nat → ClassId} {A : Nat → Prop} {t : Nat} (hD : ∀ σ : pr_St, va_D A (pr_w prc_L ad dA σ)) (hX : pr_Xok A (prX t A)) (h : Nat) (hh : 2 ≤ h) (σ : pr_St) (x1 : Int32) (res : (Int32 × pr_St)) (hf : prf_T_readNumber σ x1 = some res) : Met l pry_T_readNumber (Cond.code pry_T_readNumber prb_T_readNumber 6 (some .int) :: pr_U) (pr_rm h) (pr_Pc (prX t A) D pr_cl prc_L ad dA [.ref (ad 1), .int x1] σ) (pr_Qi D pr_cl prc_L ad dA A res) 0 0 A := by
  refine pr_entry (cc := prb_T_readNumber) (maxL := 6) (ret := (some .int)) (by decide) (Nat.le_of_ble_eq_true rfl) hD hX ?_
  intro p e s m args below meth c E H locs hP hS ls hl
  have hl : lv_has ls 6 [(0, .ref (ad 1)), (1, .int x1)] := hl
  have hf := hf.symm
  unfold prf_T_readNumber at hf
  obtain ⟨hx, hb, hml, hown, hts, hr, hlocks, hK, hD, hX, hXs⟩ := id E
  refine lv_iconst (v := 0) hx hb prd_T_readNumber_0 (by decide) ?_
  refine lv_istore_n (lv' := [(2, .int 0), (0, .ref (ad 1)), (1, .int x1)]) hx hb prd_T_readNumber_1 rfl hl (by decide) rfl (fun ls hl => ?_)
  refine lv_lconst (v := 0) hx hb prd_T_readNumber_2 (by decide) ?_
  refine lv_lstore_n (lv' := [(3, .long 0), (2, .int 0), (0, .ref (ad 1)), (1, .int x1)]) hx hb prd_T_readNumber_3 rfl hl (by decide) rfl (fun ls hl => ?_)
  refine lv_iload_n hx hb prd_T_readNumber_4 rfl (lv_at hl 3 rfl) ?_
  refine lv_istore (lv' := [(5, .int x1), (3, .long 0), (2, .int 0), (0, .ref (ad 1)), (1, .int x1)]) hx hb prd_T_readNumber_5 hl (by decide) rfl (fun ls hl => ?_)
  exact prk_T_readNumber_7 hh E pr_FU σ x1 0 0 x1 _ hf _ _ _ hP hS (lv_sub hl [3, 4, 2, 1, 0] rfl)
-- T_wordOrName
set_option maxHeartbeats 4000000 in
set_option maxRecDepth 100000 in
theorem prk_T_wordOrName_8 {l : Launch} {D : va_G} {ad : Nat → Nat} {dA : Nat → ClassId} {A : Nat → Prop} {t : Nat} {p : Program} {e : Env} {s : State} {m : MethodId} {args : Array Value} {below : List Frame} {meth : Method} {c : Code} {h : Nat} (hh : 1 ≤ h) (E : pr_cx prn_T prb_T_wordOrName 6 (some .int) D pr_cl prc_L ad dA A (prX t A) p s m args meth c) : ∀ n : Nat, ∀ (σ : pr_St) (x1 : Int32) (x2 : Int32) (x3 : Int32) (x4 : Int32) (x5 : Int32) (res : Int32), some res = prf_T_wordOrName_8 n σ x1 x2 x3 x4 x5 → ∀ (H : Heap) (locs : List Loc) (ls : Array Slot), va_P D pr_cl (pr_w prc_L ad dA σ) H → va_S A s.heap H locs → lv_has ls 6 [(0, .ref (ad 1)), (1, .int x1), (2, .int x2), (3, .int x3), (4, .int x4), (5, .int x5)] → W p l e (pr_rm h) s m args below meth c H locs 0 0 (MQ below (pr_Qi D pr_cl prc_L ad dA A (res, σ)) args s 0 0 A) (F0 m 8 ls []) := by
  obtain ⟨hx, hb, hml, hown, hts, hr, hlocks, hK, hD, hX, hXs⟩ := id E
  intro n
  induction n with
  | zero =>
    intro σ x1 x2 x3 x4 x5 res hf
    rw [prf_T_wordOrName_8] at hf
    cases hf
  | succ n ih =>
    intro σ x1 x2 x3 x4 x5 res hf H locs ls hP hS hl
    rw [prf_T_wordOrName_8] at hf
    refine lv_iload hx hb prd_T_wordOrName_8 (lv_at hl 5 rfl) ?_
    refine va_getsN hx hb hXs.1 hS hown (va_Nw.use rfl hXs.2.2) (fun _ h => h) prd_T_wordOrName_10 ?_
    refine va_tlen (v := 40) hx hb hXs.2.1 hS (by decide) prd_T_wordOrName_13 ?_
    refine lv_icmp_ge (tgt := 88) hx hb prd_T_wordOrName_14 (by decide) (fun c10 => ?_) (fun c10 => ?_)
    · have hf := pr_it c10 hf
      refine lv_iconst (v := 2) hx hb prd_T_wordOrName_88 (by decide) ?_
      exact pr_reti E hP hS (pr_ro hf) prd_T_wordOrName_89
    · have hf := pr_ie c10 hf
      refine va_getsN hx hb hXs.1 hS hown (va_Nw.use rfl hXs.2.2) (fun _ h => h) prd_T_wordOrName_17 ?_
      refine lv_iload hx hb prd_T_wordOrName_20 (lv_at hl 5 rfl) ?_
      obtain ⟨hi11, hf⟩ := pr_ck_in hf
      refine va_tc (v := .int (pr_wd x5.toNatClampNeg)) hx hb hXs.2.1 hS hi11 rfl prd_T_wordOrName_22 ?_
      refine lv_bipush (v := 32) hx hb prd_T_wordOrName_23 (by decide) ?_
      refine lv_icmp_ne (tgt := 45) hx hb prd_T_wordOrName_25 (by decide) (fun c12 => ?_) (fun c12 => ?_)
      · have hf := pr_ie c12 hf
        refine lv_iload hx hb prd_T_wordOrName_45 (lv_at hl 4 rfl) ?_
        refine lv_if_lt (tgt := 79) hx hb prd_T_wordOrName_47 (by decide) (fun c13 => ?_) (fun c13 => ?_)
        · have hf := pr_it c13 hf
          refine lv_iconst (v := (-1)) hx hb prd_T_wordOrName_79 (by decide) ?_
          refine lv_istore (lv' := [(4, .int (-1)), (0, .ref (ad 1)), (1, .int x1), (2, .int x2), (3, .int x3), (5, .int x5)]) hx hb prd_T_wordOrName_80 hl (by decide) rfl (fun ls hl => ?_)
          refine lv_iinc (v := (x5 + 1)) (lv' := [(5, .int (x5 + 1)), (4, .int (-1)), (0, .ref (ad 1)), (1, .int x1), (2, .int x2), (3, .int x3)]) hx hb prd_T_wordOrName_82 hl (k := 5) rfl rfl (by decide) rfl (fun ls hl => ?_)
          refine lv_goto (tgt := 8) hx hb prd_T_wordOrName_85 (by decide) ?_
          exact ih σ x1 x2 x3 (-1) (x5 + 1) _ hf _ _ _ hP hS (lv_sub hl [2, 3, 4, 5, 1, 0] rfl)
        · have hf := pr_ie c13 hf
          refine lv_iload hx hb prd_T_wordOrName_50 (lv_at hl 4 rfl) ?_
          refine lv_iload_n hx hb prd_T_wordOrName_52 rfl (lv_at hl 2 rfl) ?_
          refine lv_icmp_ge (tgt := 79) hx hb prd_T_wordOrName_53 (by decide) (fun c14 => ?_) (fun c14 => ?_)
          · have hf := pr_it c14 hf
            refine lv_iconst (v := (-1)) hx hb prd_T_wordOrName_79 (by decide) ?_
            refine lv_istore (lv' := [(4, .int (-1)), (0, .ref (ad 1)), (1, .int x1), (2, .int x2), (3, .int x3), (5, .int x5)]) hx hb prd_T_wordOrName_80 hl (by decide) rfl (fun ls hl => ?_)
            refine lv_iinc (v := (x5 + 1)) (lv' := [(5, .int (x5 + 1)), (4, .int (-1)), (0, .ref (ad 1)), (1, .int x1), (2, .int x2), (3, .int x3)]) hx hb prd_T_wordOrName_82 hl (k := 5) rfl rfl (by decide) rfl (fun ls hl => ?_)
            refine lv_goto (tgt := 8) hx hb prd_T_wordOrName_85 (by decide) ?_
            exact ih σ x1 x2 x3 (-1) (x5 + 1) _ hf _ _ _ hP hS (lv_sub hl [2, 3, 4, 5, 1, 0] rfl)
          · have hf := pr_ie c14 hf
            refine lv_aload_n hx hb prd_T_wordOrName_56 rfl (lv_at hl 0 rfl) ?_
            refine lv_iload_n hx hb prd_T_wordOrName_57 rfl (lv_at hl 1 rfl) ?_
            refine lv_iload hx hb prd_T_wordOrName_58 (lv_at hl 4 rfl) ?_
            refine lv_iadd hx hb prd_T_wordOrName_60 ?_
            obtain ⟨r15, hr15, hf⟩ := pr_bi hf
            refine pr_callVr (rest := []) (r := r15) ⟨hx, hb, hml, hown, hts⟩ 1 (prc_T_byteAt hD hX 0 (Nat.le_refl _) σ (x1 + x4) r15 hr15) (prg_T_byteAt hts prw_28 (by have := hh; omega)) hX hXs hK hP hS (by decide) rfl rfl rfl rfl hl.1 (Nat.le_of_ble_eq_true rfl) prd_T_wordOrName_61 (fun H locs hP hS => ?_)
            refine va_getsN hx hb hXs.1 hS hown (va_Nw.use rfl hXs.2.2) (fun _ h => h) prd_T_wordOrName_64 ?_
            refine lv_iload hx hb prd_T_wordOrName_67 (lv_at hl 5 rfl) ?_
            obtain ⟨hi16, hf⟩ := pr_ck_in hf
            refine va_tc (v := .int (pr_wd x5.toNatClampNeg)) hx hb hXs.2.1 hS hi16 rfl prd_T_wordOrName_69 ?_
            refine lv_icmp_ne (tgt := 79) hx hb prd_T_wordOrName_70 (by decide) (fun c17 => ?_) (fun c17 => ?_)
            · have hf := pr_ie c17 hf
              refine lv_iconst (v := (-1)) hx hb prd_T_wordOrName_79 (by decide) ?_
              refine lv_istore (lv' := [(4, .int (-1)), (0, .ref (ad 1)), (1, .int x1), (2, .int x2), (3, .int x3), (5, .int x5)]) hx hb prd_T_wordOrName_80 hl (by decide) rfl (fun ls hl => ?_)
              refine lv_iinc (v := (x5 + 1)) (lv' := [(5, .int (x5 + 1)), (4, .int (-1)), (0, .ref (ad 1)), (1, .int x1), (2, .int x2), (3, .int x3)]) hx hb prd_T_wordOrName_82 hl (k := 5) rfl rfl (by decide) rfl (fun ls hl => ?_)
              refine lv_goto (tgt := 8) hx hb prd_T_wordOrName_85 (by decide) ?_
              exact ih σ x1 x2 x3 (-1) (x5 + 1) _ hf _ _ _ hP hS (lv_sub hl [2, 3, 4, 5, 1, 0] rfl)
            · have hf := pr_it c17 hf
              refine lv_iinc (v := (x4 + 1)) (lv' := [(4, .int (x4 + 1)), (0, .ref (ad 1)), (1, .int x1), (2, .int x2), (3, .int x3), (5, .int x5)]) hx hb prd_T_wordOrName_73 hl (k := 4) rfl rfl (by decide) rfl (fun ls hl => ?_)
              refine lv_goto (tgt := 82) hx hb prd_T_wordOrName_76 (by decide) ?_
              refine lv_iinc (v := (x5 + 1)) (lv' := [(5, .int (x5 + 1)), (4, .int (x4 + 1)), (0, .ref (ad 1)), (1, .int x1), (2, .int x2), (3, .int x3)]) hx hb prd_T_wordOrName_82 hl (k := 5) rfl rfl (by decide) rfl (fun ls hl => ?_)
              refine lv_goto (tgt := 8) hx hb prd_T_wordOrName_85 (by decide) ?_
              exact ih σ x1 x2 x3 (x4 + 1) (x5 + 1) _ hf _ _ _ hP hS (lv_sub hl [2, 3, 4, 5, 1, 0] rfl)
      · have hf := pr_it c12 hf
        refine lv_iload hx hb prd_T_wordOrName_28 (lv_at hl 4 rfl) ?_
        refine lv_iload_n hx hb prd_T_wordOrName_30 rfl (lv_at hl 2 rfl) ?_
        refine lv_icmp_ne (tgt := 36) hx hb prd_T_wordOrName_31 (by decide) (fun c18 => ?_) (fun c18 => ?_)
        · have hf := pr_ie c18 hf
          refine lv_iinc (v := (x3 + 1)) (lv' := [(3, .int (x3 + 1)), (0, .ref (ad 1)), (1, .int x1), (2, .int x2), (4, .int x4), (5, .int x5)]) hx hb prd_T_wordOrName_36 hl (k := 3) rfl rfl (by decide) rfl (fun ls hl => ?_)
          refine lv_iconst (v := 0) hx hb prd_T_wordOrName_39 (by decide) ?_
          refine lv_istore (lv' := [(4, .int 0), (3, .int (x3 + 1)), (0, .ref (ad 1)), (1, .int x1), (2, .int x2), (5, .int x5)]) hx hb prd_T_wordOrName_40 hl (by decide) rfl (fun ls hl => ?_)
          refine lv_goto (tgt := 82) hx hb prd_T_wordOrName_42 (by decide) ?_
          refine lv_iinc (v := (x5 + 1)) (lv' := [(5, .int (x5 + 1)), (4, .int 0), (3, .int (x3 + 1)), (0, .ref (ad 1)), (1, .int x1), (2, .int x2)]) hx hb prd_T_wordOrName_82 hl (k := 5) rfl rfl (by decide) rfl (fun ls hl => ?_)
          refine lv_goto (tgt := 8) hx hb prd_T_wordOrName_85 (by decide) ?_
          exact ih σ x1 x2 (x3 + 1) 0 (x5 + 1) _ hf _ _ _ hP hS (lv_sub hl [3, 4, 5, 2, 1, 0] rfl)
        · have hf := pr_it c18 hf
          refine lv_iload_n hx hb prd_T_wordOrName_34 rfl (lv_at hl 3 rfl) ?_
          exact pr_reti E hP hS (pr_ro hf) prd_T_wordOrName_35
set_option maxHeartbeats 4000000 in
set_option maxRecDepth 100000 in
theorem prc_T_wordOrName {l : Launch} {D : va_G} {ad : Nat → Nat} {dA : Nat → ClassId} {A : Nat → Prop} {t : Nat} (hD : ∀ σ : pr_St, va_D A (pr_w prc_L ad dA σ)) (hX : pr_Xok A (prX t A)) (h : Nat) (hh : 1 ≤ h) (σ : pr_St) (x1 : Int32) (x2 : Int32) (res : Int32) (hf : prf_T_wordOrName σ x1 x2 = some res) : Met l pry_T_wordOrName (Cond.code pry_T_wordOrName prb_T_wordOrName 6 (some .int) :: pr_U) (pr_rm h) (pr_Pc (prX t A) D pr_cl prc_L ad dA [.ref (ad 1), .int x1, .int x2] σ) (pr_Qi D pr_cl prc_L ad dA A (res, σ)) 0 0 A := by
  refine pr_entry (cc := prb_T_wordOrName) (maxL := 6) (ret := (some .int)) (by decide) (Nat.le_of_ble_eq_true rfl) hD hX ?_
  intro p e s m args below meth c E H locs hP hS ls hl
  have hl : lv_has ls 6 [(0, .ref (ad 1)), (1, .int x1), (2, .int x2)] := hl
  have hf := hf.symm
  unfold prf_T_wordOrName at hf
  obtain ⟨hx, hb, hml, hown, hts, hr, hlocks, hK, hD, hX, hXs⟩ := id E
  refine lv_iconst (v := 4) hx hb prd_T_wordOrName_0 (by decide) ?_
  refine lv_istore_n (lv' := [(3, .int 4), (0, .ref (ad 1)), (1, .int x1), (2, .int x2)]) hx hb prd_T_wordOrName_1 rfl hl (by decide) rfl (fun ls hl => ?_)
  refine lv_iconst (v := 0) hx hb prd_T_wordOrName_2 (by decide) ?_
  refine lv_istore (lv' := [(4, .int 0), (3, .int 4), (0, .ref (ad 1)), (1, .int x1), (2, .int x2)]) hx hb prd_T_wordOrName_3 hl (by decide) rfl (fun ls hl => ?_)
  refine lv_iconst (v := 0) hx hb prd_T_wordOrName_5 (by decide) ?_
  refine lv_istore (lv' := [(5, .int 0), (4, .int 0), (3, .int 4), (0, .ref (ad 1)), (1, .int x1), (2, .int x2)]) hx hb prd_T_wordOrName_6 hl (by decide) rfl (fun ls hl => ?_)
  exact prk_T_wordOrName_8 hh E pr_FU σ x1 x2 4 0 0 _ hf _ _ _ hP hS (lv_sub hl [3, 4, 5, 2, 1, 0] rfl)
-- T_readName
set_option maxHeartbeats 4000000 in
set_option maxRecDepth 100000 in
theorem prk_T_readName_32 {l : Launch} {D : va_G} {ad : Nat → Nat} {dA : Nat → ClassId} {A : Nat → Prop} {t : Nat} {p : Program} {e : Env} {s : State} {m : MethodId} {args : Array Value} {below : List Frame} {meth : Method} {c : Code} {h : Nat} (hh : 2 ≤ h) (E : pr_cx prn_T prb_T_readName 4 (some .int) D pr_cl prc_L ad dA A (prX t A) p s m args meth c) : ∀ (σ : pr_St) (x1 : Int32) (x2 : Int32) (res : (Int32 × pr_St)), some res = prf_T_readName_32 σ x1 x2 → ∀ (H : Heap) (locs : List Loc) (ls : Array Slot), va_P D pr_cl (pr_w prc_L ad dA σ) H → va_S A s.heap H locs → lv_has ls 4 [(0, .ref (ad 1)), (1, .int x1), (2, .int x2)] → W p l e (pr_rm h) s m args below meth c H locs 0 0 (MQ below (pr_Qi D pr_cl prc_L ad dA A res) args s 0 0 A) (F0 m 32 ls []) := by
  obtain ⟨hx, hb, hml, hown, hts, hr, hlocks, hK, hD, hX, hXs⟩ := id E
  intro σ x1 x2 res hf H locs ls hP hS hl
  unfold prf_T_readName_32 at hf
  refine lv_iload_n hx hb prd_T_readName_32 rfl (lv_at hl 2 rfl) ?_
  refine lv_bipush (v := 30) hx hb prd_T_readName_33 (by decide) ?_
  refine lv_icmp_le (tgt := 40) hx hb prd_T_readName_35 (by decide) (fun c8 => ?_) (fun c8 => ?_)
  · have hf := pr_it c8 hf
    refine lv_aload_n hx hb prd_T_readName_40 rfl (lv_at hl 0 rfl) ?_
    refine lv_aload_n hx hb prd_T_readName_41 rfl (lv_at hl 0 rfl) ?_
    refine lv_iload_n hx hb prd_T_readName_42 rfl (lv_at hl 1 rfl) ?_
    refine lv_iload_n hx hb prd_T_readName_43 rfl (lv_at hl 2 rfl) ?_
    obtain ⟨r9, hr9, hf⟩ := pr_bi hf
    refine pr_callVr (rest := [.ref (ad 1)]) (r := r9) ⟨hx, hb, hml, hown, hts⟩ 1 (prc_T_wordOrName hD hX 1 (Nat.le_refl _) σ x1 x2 r9 hr9) (prg_T_wordOrName hts prw_55 (by have := hh; omega)) hX hXs hK hP hS (by decide) rfl rfl rfl rfl hl.1 (Nat.le_of_ble_eq_true rfl) prd_T_readName_44 (fun H locs hP hS => ?_)
    refine lv_iload_n hx hb prd_T_readName_47 rfl (lv_at hl 1 rfl) ?_
    refine lv_iload_n hx hb prd_T_readName_48 rfl (lv_at hl 2 rfl) ?_
    obtain ⟨r10, hr10, hf⟩ := pr_bi hf
    refine pr_callVv (rest := []) (res := r10) ⟨hx, hb, hml, hown, hts⟩ 1 (prc_T_add hD hX 0 (Nat.le_refl _) σ r9 x1 x2 r10 hr10) (prg_T_add hts prw_48 (by have := hh; omega)) hX hXs hK hP hS (by decide) rfl rfl rfl rfl hl.1 (Nat.le_of_ble_eq_true rfl) prd_T_readName_49 (fun H locs hP hS => ?_)
    refine lv_iload_n hx hb prd_T_readName_52 rfl (lv_at hl 2 rfl) ?_
    exact pr_reti E hP hS (pr_so hf) prd_T_readName_53
  · have hf := pr_ie c8 hf
    refine lv_iconst (v := 0) hx hb prd_T_readName_38 (by decide) ?_
    exact pr_reti E hP hS (pr_so hf) prd_T_readName_39
set_option maxHeartbeats 4000000 in
set_option maxRecDepth 100000 in
theorem prk_T_readName_4 {l : Launch} {D : va_G} {ad : Nat → Nat} {dA : Nat → ClassId} {A : Nat → Prop} {t : Nat} {p : Program} {e : Env} {s : State} {m : MethodId} {args : Array Value} {below : List Frame} {meth : Method} {c : Code} {h : Nat} (hh : 2 ≤ h) (E : pr_cx prn_T prb_T_readName 4 (some .int) D pr_cl prc_L ad dA A (prX t A) p s m args meth c) : ∀ n : Nat, ∀ (σ : pr_St) (x1 : Int32) (x2 : Int32) (x3 : Int32) (res : (Int32 × pr_St)), some res = prf_T_readName_4 n σ x1 x2 x3 → ∀ (H : Heap) (locs : List Loc) (ls : Array Slot), va_P D pr_cl (pr_w prc_L ad dA σ) H → va_S A s.heap H locs → lv_has ls 4 [(0, .ref (ad 1)), (1, .int x1), (2, .int x2), (3, .int x3)] → W p l e (pr_rm h) s m args below meth c H locs 0 0 (MQ below (pr_Qi D pr_cl prc_L ad dA A res) args s 0 0 A) (F0 m 4 ls []) := by
  obtain ⟨hx, hb, hml, hown, hts, hr, hlocks, hK, hD, hX, hXs⟩ := id E
  intro n
  induction n with
  | zero =>
    intro σ x1 x2 x3 res hf
    rw [prf_T_readName_4] at hf
    cases hf
  | succ n ih =>
    intro σ x1 x2 x3 res hf H locs ls hP hS hl
    rw [prf_T_readName_4] at hf
    refine lv_iload_n hx hb prd_T_readName_4 rfl (lv_at hl 3 rfl) ?_
    refine lv_aload_n hx hb prd_T_readName_5 rfl (lv_at hl 0 rfl) ?_
    refine pr_geti (v := (σ.1 1 5)) hx hb hts prs_T hown hK hP 1 5 (by decide) rfl (hts _ prw_24) rfl rfl prd_T_readName_6 ?_
    refine lv_icmp_ge (tgt := 32) hx hb prd_T_readName_9 (by decide) (fun c11 => ?_) (fun c11 => ?_)
    · have hf := pr_it c11 hf
      exact prk_T_readName_32 hh E σ x1 x2 _ hf _ _ _ hP hS (lv_sub hl [0, 1, 2] rfl)
    · have hf := pr_ie c11 hf
      refine lv_aload_n hx hb prd_T_readName_12 rfl (lv_at hl 0 rfl) ?_
      refine lv_iload_n hx hb prd_T_readName_13 rfl (lv_at hl 3 rfl) ?_
      obtain ⟨r12, hr12, hf⟩ := pr_bi hf
      refine pr_callVr (rest := []) (r := r12) ⟨hx, hb, hml, hown, hts⟩ 1 (prc_T_byteAt hD hX 0 (Nat.le_refl _) σ x3 r12 hr12) (prg_T_byteAt hts prw_28 (by have := hh; omega)) hX hXs hK hP hS (by decide) rfl rfl rfl rfl hl.1 (Nat.le_of_ble_eq_true rfl) prd_T_readName_14 (fun H locs hP hS => ?_)
      obtain ⟨r13, hr13, hf⟩ := pr_bi hf
      refine pr_callSr (rest := []) (r := r13) ⟨hx, hb, hml, hown, hts⟩ (prc_T_isInName hD hX 1 (Nat.le_refl _) σ r12 r13 hr13) (prg_T_isInName hts prw_47 (by have := hh; omega)) hX hXs hK hP hS rfl rfl hl.1 (Nat.le_of_ble_eq_true rfl) prd_T_readName_17 (fun H locs hP hS => ?_)
      refine lv_if_eq (tgt := 32) hx hb prd_T_readName_20 (by decide) (fun c14 => ?_) (fun c14 => ?_)
      · have hf := pr_it c14 hf
        exact prk_T_readName_32 hh E σ x1 x2 _ hf _ _ _ hP hS (lv_sub hl [0, 1, 2] rfl)
      · have hf := pr_ie c14 hf
        refine lv_iinc (v := (x2 + 1)) (lv' := [(2, .int (x2 + 1)), (0, .ref (ad 1)), (1, .int x1), (3, .int x3)]) hx hb prd_T_readName_23 hl (k := 2) rfl rfl (by decide) rfl (fun ls hl => ?_)
        refine lv_iinc (v := (x3 + 1)) (lv' := [(3, .int (x3 + 1)), (2, .int (x2 + 1)), (0, .ref (ad 1)), (1, .int x1)]) hx hb prd_T_readName_26 hl (k := 3) rfl rfl (by decide) rfl (fun ls hl => ?_)
        refine lv_goto (tgt := 4) hx hb prd_T_readName_29 (by decide) ?_
        exact ih σ x1 (x2 + 1) (x3 + 1) _ hf _ _ _ hP hS (lv_sub hl [2, 3, 1, 0] rfl)
set_option maxHeartbeats 4000000 in
set_option maxRecDepth 100000 in
theorem prc_T_readName {l : Launch} {D : va_G} {ad : Nat → Nat} {dA : Nat → ClassId} {A : Nat → Prop} {t : Nat} (hD : ∀ σ : pr_St, va_D A (pr_w prc_L ad dA σ)) (hX : pr_Xok A (prX t A)) (h : Nat) (hh : 2 ≤ h) (σ : pr_St) (x1 : Int32) (res : (Int32 × pr_St)) (hf : prf_T_readName σ x1 = some res) : Met l pry_T_readName (Cond.code pry_T_readName prb_T_readName 4 (some .int) :: pr_U) (pr_rm h) (pr_Pc (prX t A) D pr_cl prc_L ad dA [.ref (ad 1), .int x1] σ) (pr_Qi D pr_cl prc_L ad dA A res) 0 0 A := by
  refine pr_entry (cc := prb_T_readName) (maxL := 4) (ret := (some .int)) (by decide) (Nat.le_of_ble_eq_true rfl) hD hX ?_
  intro p e s m args below meth c E H locs hP hS ls hl
  have hl : lv_has ls 4 [(0, .ref (ad 1)), (1, .int x1)] := hl
  have hf := hf.symm
  unfold prf_T_readName at hf
  obtain ⟨hx, hb, hml, hown, hts, hr, hlocks, hK, hD, hX, hXs⟩ := id E
  refine lv_iconst (v := 0) hx hb prd_T_readName_0 (by decide) ?_
  refine lv_istore_n (lv' := [(2, .int 0), (0, .ref (ad 1)), (1, .int x1)]) hx hb prd_T_readName_1 rfl hl (by decide) rfl (fun ls hl => ?_)
  refine lv_iload_n hx hb prd_T_readName_2 rfl (lv_at hl 2 rfl) ?_
  refine lv_istore_n (lv' := [(3, .int x1), (2, .int 0), (0, .ref (ad 1)), (1, .int x1)]) hx hb prd_T_readName_3 rfl hl (by decide) rfl (fun ls hl => ?_)
  exact prk_T_readName_4 hh E pr_FU σ x1 0 x1 _ hf _ _ _ hP hS (lv_sub hl [2, 3, 1, 0] rfl)
-- T_signOfTwo
set_option maxHeartbeats 4000000 in
set_option maxRecDepth 100000 in
theorem prc_T_signOfTwo {l : Launch} {D : va_G} {ad : Nat → Nat} {dA : Nat → ClassId} {A : Nat → Prop} {t : Nat} (hD : ∀ σ : pr_St, va_D A (pr_w prc_L ad dA σ)) (hX : pr_Xok A (prX t A)) (h : Nat) (hh : 0 ≤ h) (σ : pr_St) (x0 : Int32) (x1 : Int32) (res : Int32) (hf : prf_T_signOfTwo σ x0 x1 = some res) : Met l pry_T_signOfTwo (Cond.code pry_T_signOfTwo prb_T_signOfTwo 2 (some .int) :: pr_U) (pr_rm h) (pr_Pc (prX t A) D pr_cl prc_L ad dA [.int x0, .int x1] σ) (pr_Qi D pr_cl prc_L ad dA A (res, σ)) 0 0 A := by
  refine pr_entry (cc := prb_T_signOfTwo) (maxL := 2) (ret := (some .int)) (by decide) (Nat.le_of_ble_eq_true rfl) hD hX ?_
  intro p e s m args below meth c E H locs hP hS ls hl
  have hl : lv_has ls 2 [(0, .int x0), (1, .int x1)] := hl
  have hf := hf.symm
  unfold prf_T_signOfTwo at hf
  obtain ⟨hx, hb, hml, hown, hts, hr, hlocks, hK, hD, hX, hXs⟩ := id E
  refine lv_iload_n hx hb prd_T_signOfTwo_0 rfl (lv_at hl 1 rfl) ?_
  refine lv_bipush (v := 61) hx hb prd_T_signOfTwo_1 (by decide) ?_
  refine lv_icmp_ne (tgt := 62) hx hb prd_T_signOfTwo_3 (by decide) (fun c12 => ?_) (fun c12 => ?_)
  · have hf := pr_ie c12 hf
    refine lv_iload_n hx hb prd_T_signOfTwo_62 rfl (lv_at hl 0 rfl) ?_
    refine lv_bipush (v := 38) hx hb prd_T_signOfTwo_63 (by decide) ?_
    refine lv_icmp_ne (tgt := 77) hx hb prd_T_signOfTwo_65 (by decide) (fun c13 => ?_) (fun c13 => ?_)
    · have hf := pr_ie c13 hf
      refine lv_iload_n hx hb prd_T_signOfTwo_77 rfl (lv_at hl 0 rfl) ?_
      refine lv_bipush (v := 124) hx hb prd_T_signOfTwo_78 (by decide) ?_
      refine lv_icmp_ne (tgt := 94) hx hb prd_T_signOfTwo_80 (by decide) (fun c14 => ?_) (fun c14 => ?_)
      · have hf := pr_ie c14 hf
        refine lv_iconst (v := 1) hx hb prd_T_signOfTwo_94 (by decide) ?_
        exact pr_reti E hP hS (pr_ro hf) prd_T_signOfTwo_95
      · have hf := pr_it c14 hf
        refine lv_iload_n hx hb prd_T_signOfTwo_83 rfl (lv_at hl 1 rfl) ?_
        refine lv_bipush (v := 124) hx hb prd_T_signOfTwo_84 (by decide) ?_
        refine lv_icmp_ne (tgt := 94) hx hb prd_T_signOfTwo_86 (by decide) (fun c15 => ?_) (fun c15 => ?_)
        · have hf := pr_ie c15 hf
          refine lv_iconst (v := 1) hx hb prd_T_signOfTwo_94 (by decide) ?_
          exact pr_reti E hP hS (pr_ro hf) prd_T_signOfTwo_95
        · have hf := pr_it c15 hf
          refine lv_bipush (v := 33) hx hb prd_T_signOfTwo_89 (by decide) ?_
          refine lv_goto (tgt := 95) hx hb prd_T_signOfTwo_91 (by decide) ?_
          exact pr_reti E hP hS (pr_ro hf) prd_T_signOfTwo_95
    · have hf := pr_it c13 hf
      refine lv_iload_n hx hb prd_T_signOfTwo_68 rfl (lv_at hl 1 rfl) ?_
      refine lv_bipush (v := 38) hx hb prd_T_signOfTwo_69 (by decide) ?_
      refine lv_icmp_ne (tgt := 77) hx hb prd_T_signOfTwo_71 (by decide) (fun c16 => ?_) (fun c16 => ?_)
      · have hf := pr_ie c16 hf
        refine lv_iload_n hx hb prd_T_signOfTwo_77 rfl (lv_at hl 0 rfl) ?_
        refine lv_bipush (v := 124) hx hb prd_T_signOfTwo_78 (by decide) ?_
        refine lv_icmp_ne (tgt := 94) hx hb prd_T_signOfTwo_80 (by decide) (fun c17 => ?_) (fun c17 => ?_)
        · have hf := pr_ie c17 hf
          refine lv_iconst (v := 1) hx hb prd_T_signOfTwo_94 (by decide) ?_
          exact pr_reti E hP hS (pr_ro hf) prd_T_signOfTwo_95
        · have hf := pr_it c17 hf
          refine lv_iload_n hx hb prd_T_signOfTwo_83 rfl (lv_at hl 1 rfl) ?_
          refine lv_bipush (v := 124) hx hb prd_T_signOfTwo_84 (by decide) ?_
          refine lv_icmp_ne (tgt := 94) hx hb prd_T_signOfTwo_86 (by decide) (fun c18 => ?_) (fun c18 => ?_)
          · have hf := pr_ie c18 hf
            refine lv_iconst (v := 1) hx hb prd_T_signOfTwo_94 (by decide) ?_
            exact pr_reti E hP hS (pr_ro hf) prd_T_signOfTwo_95
          · have hf := pr_it c18 hf
            refine lv_bipush (v := 33) hx hb prd_T_signOfTwo_89 (by decide) ?_
            refine lv_goto (tgt := 95) hx hb prd_T_signOfTwo_91 (by decide) ?_
            exact pr_reti E hP hS (pr_ro hf) prd_T_signOfTwo_95
      · have hf := pr_it c16 hf
        refine lv_bipush (v := 32) hx hb prd_T_signOfTwo_74 (by decide) ?_
        exact pr_reti E hP hS (pr_ro hf) prd_T_signOfTwo_76
  · have hf := pr_it c12 hf
    refine lv_iload_n hx hb prd_T_signOfTwo_6 rfl (lv_at hl 0 rfl) ?_
    by_cases c19 : x0 = 33
    · have hf := pr_it c19 hf
      refine lv_lookup (tgt := 57) (off := 50) hx hb prd_T_signOfTwo_7 (by decide) (by rw [c19] <;> rfl) (by decide) ?_
      refine lv_bipush (v := 31) hx hb prd_T_signOfTwo_57 (by decide) ?_
      exact pr_reti E hP hS (pr_ro hf) prd_T_signOfTwo_59
    · have hf := pr_ie c19 hf
      by_cases c20 : x0 = 60
      · have hf := pr_it c20 hf
        refine lv_lookup (tgt := 48) (off := 41) hx hb prd_T_signOfTwo_7 (by decide) (by rw [c20] <;> rfl) (by decide) ?_
        refine lv_bipush (v := 27) hx hb prd_T_signOfTwo_48 (by decide) ?_
        exact pr_reti E hP hS (pr_ro hf) prd_T_signOfTwo_50
      · have hf := pr_ie c20 hf
        by_cases c21 : x0 = 61
        · have hf := pr_it c21 hf
          refine lv_lookup (tgt := 54) (off := 47) hx hb prd_T_signOfTwo_7 (by decide) (by rw [c21] <;> rfl) (by decide) ?_
          refine lv_bipush (v := 30) hx hb prd_T_signOfTwo_54 (by decide) ?_
          exact pr_reti E hP hS (pr_ro hf) prd_T_signOfTwo_56
        · have hf := pr_ie c21 hf
          by_cases c22 : x0 = 62
          · have hf := pr_it c22 hf
            refine lv_lookup (tgt := 51) (off := 44) hx hb prd_T_signOfTwo_7 (by decide) (by rw [c22] <;> rfl) (by decide) ?_
            refine lv_bipush (v := 29) hx hb prd_T_signOfTwo_51 (by decide) ?_
            exact pr_reti E hP hS (pr_ro hf) prd_T_signOfTwo_53
          · have hf := pr_ie c22 hf
            refine lv_lookup (tgt := 60) (off := 53) hx hb prd_T_signOfTwo_7 (by decide) (by show Op.lookupswitch.offset [(33, 50), (60, 41), (61, 47), (62, 44)] 53 _ = _; rw [lv_osw c19 (by decide), lv_osw c20 (by decide), lv_osw c21 (by decide), lv_osw c22 (by decide)] <;> rfl) (by decide) ?_
            refine lv_iconst (v := 1) hx hb prd_T_signOfTwo_60 (by decide) ?_
            exact pr_reti E hP hS (pr_ro hf) prd_T_signOfTwo_61
-- T_signOfOne
set_option maxHeartbeats 4000000 in
set_option maxRecDepth 100000 in
theorem prc_T_signOfOne {l : Launch} {D : va_G} {ad : Nat → Nat} {dA : Nat → ClassId} {A : Nat → Prop} {t : Nat} (hD : ∀ σ : pr_St, va_D A (pr_w prc_L ad dA σ)) (hX : pr_Xok A (prX t A)) (h : Nat) (hh : 0 ≤ h) (σ : pr_St) (x0 : Int32) (res : Int32) (hf : prf_T_signOfOne σ x0 = some res) : Met l pry_T_signOfOne (Cond.code pry_T_signOfOne prb_T_signOfOne 1 (some .int) :: pr_U) (pr_rm h) (pr_Pc (prX t A) D pr_cl prc_L ad dA [.int x0] σ) (pr_Qi D pr_cl prc_L ad dA A (res, σ)) 0 0 A := by
  refine pr_entry (cc := prb_T_signOfOne) (maxL := 1) (ret := (some .int)) (by decide) (Nat.le_of_ble_eq_true rfl) hD hX ?_
  intro p e s m args below meth c E H locs hP hS ls hl
  have hl : lv_has ls 1 [(0, .int x0)] := hl
  have hf := hf.symm
  unfold prf_T_signOfOne at hf
  obtain ⟨hx, hb, hml, hown, hts, hr, hlocks, hK, hD, hX, hXs⟩ := id E
  refine lv_iload_n hx hb prd_T_signOfOne_0 rfl (lv_at hl 0 rfl) ?_
  by_cases c18 : x0 = 33
  · have hf := pr_it c18 hf
    refine lv_lookup (tgt := 196) (off := 195) hx hb prd_T_signOfOne_1 (by decide) (by rw [c18] <;> rfl) (by decide) ?_
    refine lv_bipush (v := 34) hx hb prd_T_signOfOne_196 (by decide) ?_
    exact pr_reti E hP hS (pr_ro hf) prd_T_signOfOne_198
  · have hf := pr_ie c18 hf
    by_cases c19 : x0 = 37
    · have hf := pr_it c19 hf
      refine lv_lookup (tgt := 187) (off := 186) hx hb prd_T_signOfOne_1 (by decide) (by rw [c19] <;> rfl) (by decide) ?_
      refine lv_bipush (v := 25) hx hb prd_T_signOfOne_187 (by decide) ?_
      exact pr_reti E hP hS (pr_ro hf) prd_T_signOfOne_189
    · have hf := pr_ie c19 hf
      by_cases c20 : x0 = 40
      · have hf := pr_it c20 hf
        refine lv_lookup (tgt := 148) (off := 147) hx hb prd_T_signOfOne_1 (by decide) (by rw [c20] <;> rfl) (by decide) ?_
        refine lv_bipush (v := 12) hx hb prd_T_signOfOne_148 (by decide) ?_
        exact pr_reti E hP hS (pr_ro hf) prd_T_signOfOne_150
      · have hf := pr_ie c20 hf
        by_cases c21 : x0 = 41
        · have hf := pr_it c21 hf
          refine lv_lookup (tgt := 151) (off := 150) hx hb prd_T_signOfOne_1 (by decide) (by rw [c21] <;> rfl) (by decide) ?_
          refine lv_bipush (v := 13) hx hb prd_T_signOfOne_151 (by decide) ?_
          exact pr_reti E hP hS (pr_ro hf) prd_T_signOfOne_153
        · have hf := pr_ie c21 hf
          by_cases c22 : x0 = 42
          · have hf := pr_it c22 hf
            refine lv_lookup (tgt := 181) (off := 180) hx hb prd_T_signOfOne_1 (by decide) (by rw [c22] <;> rfl) (by decide) ?_
            refine lv_bipush (v := 23) hx hb prd_T_signOfOne_181 (by decide) ?_
            exact pr_reti E hP hS (pr_ro hf) prd_T_signOfOne_183
          · have hf := pr_ie c22 hf
            by_cases c23 : x0 = 43
            · have hf := pr_it c23 hf
              refine lv_lookup (tgt := 175) (off := 174) hx hb prd_T_signOfOne_1 (by decide) (by rw [c23] <;> rfl) (by decide) ?_
              refine lv_bipush (v := 21) hx hb prd_T_signOfOne_175 (by decide) ?_
              exact pr_reti E hP hS (pr_ro hf) prd_T_signOfOne_177
            · have hf := pr_ie c23 hf
              by_cases c24 : x0 = 44
              · have hf := pr_it c24 hf
                refine lv_lookup (tgt := 166) (off := 165) hx hb prd_T_signOfOne_1 (by decide) (by rw [c24] <;> rfl) (by decide) ?_
                refine lv_bipush (v := 18) hx hb prd_T_signOfOne_166 (by decide) ?_
                exact pr_reti E hP hS (pr_ro hf) prd_T_signOfOne_168
              · have hf := pr_ie c24 hf
                by_cases c25 : x0 = 45
                · have hf := pr_it c25 hf
                  refine lv_lookup (tgt := 178) (off := 177) hx hb prd_T_signOfOne_1 (by decide) (by rw [c25] <;> rfl) (by decide) ?_
                  refine lv_bipush (v := 22) hx hb prd_T_signOfOne_178 (by decide) ?_
                  exact pr_reti E hP hS (pr_ro hf) prd_T_signOfOne_180
                · have hf := pr_ie c25 hf
                  by_cases c26 : x0 = 47
                  · have hf := pr_it c26 hf
                    refine lv_lookup (tgt := 184) (off := 183) hx hb prd_T_signOfOne_1 (by decide) (by rw [c26] <;> rfl) (by decide) ?_
                    refine lv_bipush (v := 24) hx hb prd_T_signOfOne_184 (by decide) ?_
                    exact pr_reti E hP hS (pr_ro hf) prd_T_signOfOne_186
                  · have hf := pr_ie c26 hf
                    by_cases c27 : x0 = 59
                    · have hf := pr_it c27 hf
                      refine lv_lookup (tgt := 169) (off := 168) hx hb prd_T_signOfOne_1 (by decide) (by rw [c27] <;> rfl) (by decide) ?_
                      refine lv_bipush (v := 19) hx hb prd_T_signOfOne_169 (by decide) ?_
                      exact pr_reti E hP hS (pr_ro hf) prd_T_signOfOne_171
                    · have hf := pr_ie c27 hf
                      by_cases c28 : x0 = 60
                      · have hf := pr_it c28 hf
                        refine lv_lookup (tgt := 190) (off := 189) hx hb prd_T_signOfOne_1 (by decide) (by rw [c28] <;> rfl) (by decide) ?_
                        refine lv_bipush (v := 26) hx hb prd_T_signOfOne_190 (by decide) ?_
                        exact pr_reti E hP hS (pr_ro hf) prd_T_signOfOne_192
                      · have hf := pr_ie c28 hf
                        by_cases c29 : x0 = 61
                        · have hf := pr_it c29 hf
                          refine lv_lookup (tgt := 172) (off := 171) hx hb prd_T_signOfOne_1 (by decide) (by rw [c29] <;> rfl) (by decide) ?_
                          refine lv_bipush (v := 20) hx hb prd_T_signOfOne_172 (by decide) ?_
                          exact pr_reti E hP hS (pr_ro hf) prd_T_signOfOne_174
                        · have hf := pr_ie c29 hf
                          by_cases c30 : x0 = 62
                          · have hf := pr_it c30 hf
                            refine lv_lookup (tgt := 193) (off := 192) hx hb prd_T_signOfOne_1 (by decide) (by rw [c30] <;> rfl) (by decide) ?_
                            refine lv_bipush (v := 28) hx hb prd_T_signOfOne_193 (by decide) ?_
                            exact pr_reti E hP hS (pr_ro hf) prd_T_signOfOne_195
                          · have hf := pr_ie c30 hf
                            by_cases c31 : x0 = 91
                            · have hf := pr_it c31 hf
                              refine lv_lookup (tgt := 160) (off := 159) hx hb prd_T_signOfOne_1 (by decide) (by rw [c31] <;> rfl) (by decide) ?_
                              refine lv_bipush (v := 16) hx hb prd_T_signOfOne_160 (by decide) ?_
                              exact pr_reti E hP hS (pr_ro hf) prd_T_signOfOne_162
                            · have hf := pr_ie c31 hf
                              by_cases c32 : x0 = 93
                              · have hf := pr_it c32 hf
                                refine lv_lookup (tgt := 163) (off := 162) hx hb prd_T_signOfOne_1 (by decide) (by rw [c32] <;> rfl) (by decide) ?_
                                refine lv_bipush (v := 17) hx hb prd_T_signOfOne_163 (by decide) ?_
                                exact pr_reti E hP hS (pr_ro hf) prd_T_signOfOne_165
                              · have hf := pr_ie c32 hf
                                by_cases c33 : x0 = 123
                                · have hf := pr_it c33 hf
                                  refine lv_lookup (tgt := 154) (off := 153) hx hb prd_T_signOfOne_1 (by decide) (by rw [c33] <;> rfl) (by decide) ?_
                                  refine lv_bipush (v := 14) hx hb prd_T_signOfOne_154 (by decide) ?_
                                  exact pr_reti E hP hS (pr_ro hf) prd_T_signOfOne_156
                                · have hf := pr_ie c33 hf
                                  by_cases c34 : x0 = 125
                                  · have hf := pr_it c34 hf
                                    refine lv_lookup (tgt := 157) (off := 156) hx hb prd_T_signOfOne_1 (by decide) (by rw [c34] <;> rfl) (by decide) ?_
                                    refine lv_bipush (v := 15) hx hb prd_T_signOfOne_157 (by decide) ?_
                                    exact pr_reti E hP hS (pr_ro hf) prd_T_signOfOne_159
                                  · have hf := pr_ie c34 hf
                                    refine lv_lookup (tgt := 199) (off := 198) hx hb prd_T_signOfOne_1 (by decide) (by show Op.lookupswitch.offset [(33, 195), (37, 186), (40, 147), (41, 150), (42, 180), (43, 174), (44, 165), (45, 177), (47, 183), (59, 168), (60, 189), (61, 171), (62, 192), (91, 159), (93, 162), (123, 153), (125, 156)] 198 _ = _; rw [lv_osw c18 (by decide), lv_osw c19 (by decide), lv_osw c20 (by decide), lv_osw c21 (by decide), lv_osw c22 (by decide), lv_osw c23 (by decide), lv_osw c24 (by decide), lv_osw c25 (by decide), lv_osw c26 (by decide), lv_osw c27 (by decide), lv_osw c28 (by decide), lv_osw c29 (by decide), lv_osw c30 (by decide), lv_osw c31 (by decide), lv_osw c32 (by decide), lv_osw c33 (by decide), lv_osw c34 (by decide)] <;> rfl) (by decide) ?_
                                    refine lv_iconst (v := 1) hx hb prd_T_signOfOne_199 (by decide) ?_
                                    exact pr_reti E hP hS (pr_ro hf) prd_T_signOfOne_200
-- T_readSign
set_option maxHeartbeats 4000000 in
set_option maxRecDepth 100000 in
theorem prc_T_readSign {l : Launch} {D : va_G} {ad : Nat → Nat} {dA : Nat → ClassId} {A : Nat → Prop} {t : Nat} (hD : ∀ σ : pr_St, va_D A (pr_w prc_L ad dA σ)) (hX : pr_Xok A (prX t A)) (h : Nat) (hh : 1 ≤ h) (σ : pr_St) (x1 : Int32) (res : (Int32 × pr_St)) (hf : prf_T_readSign σ x1 = some res) : Met l pry_T_readSign (Cond.code pry_T_readSign prb_T_readSign 4 (some .int) :: pr_U) (pr_rm h) (pr_Pc (prX t A) D pr_cl prc_L ad dA [.ref (ad 1), .int x1] σ) (pr_Qi D pr_cl prc_L ad dA A res) 0 0 A := by
  refine pr_entry (cc := prb_T_readSign) (maxL := 4) (ret := (some .int)) (by decide) (Nat.le_of_ble_eq_true rfl) hD hX ?_
  intro p e s m args below meth c E H locs hP hS ls hl
  have hl : lv_has ls 4 [(0, .ref (ad 1)), (1, .int x1)] := hl
  have hf := hf.symm
  unfold prf_T_readSign at hf
  obtain ⟨hx, hb, hml, hown, hts, hr, hlocks, hK, hD, hX, hXs⟩ := id E
  refine lv_aload_n hx hb prd_T_readSign_0 rfl (lv_at hl 0 rfl) ?_
  refine lv_iload_n hx hb prd_T_readSign_1 rfl (lv_at hl 1 rfl) ?_
  obtain ⟨r9, hr9, hf⟩ := pr_bi hf
  refine pr_callVr (rest := []) (r := r9) ⟨hx, hb, hml, hown, hts⟩ 1 (prc_T_byteAt hD hX 0 (Nat.le_refl _) σ x1 r9 hr9) (prg_T_byteAt hts prw_28 (by have := hh; omega)) hX hXs hK hP hS (by decide) rfl rfl rfl rfl hl.1 (Nat.le_of_ble_eq_true rfl) prd_T_readSign_2 (fun H locs hP hS => ?_)
  refine lv_istore_n (lv' := [(2, .int r9), (0, .ref (ad 1)), (1, .int x1)]) hx hb prd_T_readSign_5 rfl hl (by decide) rfl (fun ls hl => ?_)
  refine lv_iload_n hx hb prd_T_readSign_6 rfl (lv_at hl 0 rfl) ?_
  refine lv_aload_n hx hb prd_T_readSign_7 rfl (lv_at hl 1 rfl) ?_
  refine lv_iload_n hx hb prd_T_readSign_8 rfl (lv_at hl 2 rfl) ?_
  refine lv_iconst (v := 1) hx hb prd_T_readSign_9 (by decide) ?_
  refine lv_iadd hx hb prd_T_readSign_10 ?_
  obtain ⟨r10, hr10, hf⟩ := pr_bi hf
  refine pr_callVr (rest := [.int r9]) (r := r10) ⟨hx, hb, hml, hown, hts⟩ 1 (prc_T_byteAt hD hX 0 (Nat.le_refl _) σ (x1 + 1) r10 hr10) (prg_T_byteAt hts prw_28 (by have := hh; omega)) hX hXs hK hP hS (by decide) rfl rfl rfl rfl hl.1 (Nat.le_of_ble_eq_true rfl) prd_T_readSign_11 (fun H locs hP hS => ?_)
  obtain ⟨r11, hr11, hf⟩ := pr_bi hf
  refine pr_callSr (rest := []) (r := r11) ⟨hx, hb, hml, hown, hts⟩ (prc_T_signOfTwo hD hX 0 (Nat.le_refl _) σ r9 r10 r11 hr11) (prg_T_signOfTwo hts prw_63 (by have := hh; omega)) hX hXs hK hP hS rfl rfl hl.1 (Nat.le_of_ble_eq_true rfl) prd_T_readSign_14 (fun H locs hP hS => ?_)
  refine lv_istore_n (lv' := [(3, .int r11), (2, .int r9), (0, .ref (ad 1)), (1, .int x1)]) hx hb prd_T_readSign_17 rfl hl (by decide) rfl (fun ls hl => ?_)
  refine lv_iload_n hx hb prd_T_readSign_18 rfl (lv_at hl 0 rfl) ?_
  refine lv_iconst (v := 1) hx hb prd_T_readSign_19 (by decide) ?_
  refine lv_icmp_eq (tgt := 32) hx hb prd_T_readSign_20 (by decide) (fun c12 => ?_) (fun c12 => ?_)
  · have hf := pr_it c12 hf
    refine lv_iload_n hx hb prd_T_readSign_32 rfl (lv_at hl 1 rfl) ?_
    obtain ⟨r13, hr13, hf⟩ := pr_bi hf
    refine pr_callSr (rest := []) (r := r13) ⟨hx, hb, hml, hown, hts⟩ (prc_T_signOfOne hD hX 0 (Nat.le_refl _) σ r9 r13 hr13) (prg_T_signOfOne hts prw_64 (by have := hh; omega)) hX hXs hK hP hS rfl rfl hl.1 (Nat.le_of_ble_eq_true rfl) prd_T_readSign_33 (fun H locs hP hS => ?_)
    refine lv_istore_n (lv' := [(3, .int r13), (2, .int r9), (0, .ref (ad 1)), (1, .int x1)]) hx hb prd_T_readSign_36 rfl hl (by decide) rfl (fun ls hl => ?_)
    refine lv_iload_n hx hb prd_T_readSign_37 rfl (lv_at hl 0 rfl) ?_
    refine lv_iconst (v := 1) hx hb prd_T_readSign_38 (by decide) ?_
    refine lv_icmp_ne (tgt := 44) hx hb prd_T_readSign_39 (by decide) (fun c14 => ?_) (fun c14 => ?_)
    · have hf := pr_ie c14 hf
      refine lv_aload_n hx hb prd_T_readSign_44 rfl (lv_at hl 2 rfl) ?_
      refine lv_iload_n hx hb prd_T_readSign_45 rfl (lv_at hl 0 rfl) ?_
      refine lv_iload_n hx hb prd_T_readSign_46 rfl (lv_at hl 3 rfl) ?_
      refine lv_iconst (v := 0) hx hb prd_T_readSign_47 (by decide) ?_
      obtain ⟨r15, hr15, hf⟩ := pr_bi hf
      refine pr_callVv (rest := []) (res := r15) ⟨hx, hb, hml, hown, hts⟩ 1 (prc_T_add hD hX 0 (Nat.le_refl _) σ r13 x1 0 r15 hr15) (prg_T_add hts prw_48 (by have := hh; omega)) hX hXs hK hP hS (by decide) rfl rfl rfl rfl hl.1 (Nat.le_of_ble_eq_true rfl) prd_T_readSign_48 (fun H locs hP hS => ?_)
      refine lv_iconst (v := 1) hx hb prd_T_readSign_51 (by decide) ?_
      exact pr_reti E hP hS (pr_so hf) prd_T_readSign_52
    · have hf := pr_it c14 hf
      refine lv_iconst (v := 0) hx hb prd_T_readSign_42 (by decide) ?_
      exact pr_reti E hP hS (pr_so hf) prd_T_readSign_43
  · have hf := pr_ie c12 hf
    refine lv_aload_n hx hb prd_T_readSign_23 rfl (lv_at hl 2 rfl) ?_
    refine lv_iload_n hx hb prd_T_readSign_24 rfl (lv_at hl 0 rfl) ?_
    refine lv_iload_n hx hb prd_T_readSign_25 rfl (lv_at hl 3 rfl) ?_
    refine lv_iconst (v := 0) hx hb prd_T_readSign_26 (by decide) ?_
    obtain ⟨r16, hr16, hf⟩ := pr_bi hf
    refine pr_callVv (rest := []) (res := r16) ⟨hx, hb, hml, hown, hts⟩ 1 (prc_T_add hD hX 0 (Nat.le_refl _) σ r11 x1 0 r16 hr16) (prg_T_add hts prw_48 (by have := hh; omega)) hX hXs hK hP hS (by decide) rfl rfl rfl rfl hl.1 (Nat.le_of_ble_eq_true rfl) prd_T_readSign_27 (fun H locs hP hS => ?_)
    refine lv_iconst (v := 2) hx hb prd_T_readSign_30 (by decide) ?_
    exact pr_reti E hP hS (pr_so hf) prd_T_readSign_31
-- T_readToken
set_option maxHeartbeats 4000000 in
set_option maxRecDepth 100000 in
theorem prc_T_readToken {l : Launch} {D : va_G} {ad : Nat → Nat} {dA : Nat → ClassId} {A : Nat → Prop} {t : Nat} (hD : ∀ σ : pr_St, va_D A (pr_w prc_L ad dA σ)) (hX : pr_Xok A (prX t A)) (h : Nat) (hh : 3 ≤ h) (σ : pr_St) (x1 : Int32) (res : (Int32 × pr_St)) (hf : prf_T_readToken σ x1 = some res) : Met l pry_T_readToken (Cond.code pry_T_readToken prb_T_readToken 3 (some .int) :: pr_U) (pr_rm h) (pr_Pc (prX t A) D pr_cl prc_L ad dA [.ref (ad 1), .int x1] σ) (pr_Qi D pr_cl prc_L ad dA A res) 0 0 A := by
  refine pr_entry (cc := prb_T_readToken) (maxL := 3) (ret := (some .int)) (by decide) (Nat.le_of_ble_eq_true rfl) hD hX ?_
  intro p e s m args below meth c E H locs hP hS ls hl
  have hl : lv_has ls 3 [(0, .ref (ad 1)), (1, .int x1)] := hl
  have hf := hf.symm
  unfold prf_T_readToken at hf
  obtain ⟨hx, hb, hml, hown, hts, hr, hlocks, hK, hD, hX, hXs⟩ := id E
  refine lv_aload_n hx hb prd_T_readToken_0 rfl (lv_at hl 0 rfl) ?_
  refine lv_iload_n hx hb prd_T_readToken_1 rfl (lv_at hl 1 rfl) ?_
  obtain ⟨r9, hr9, hf⟩ := pr_bi hf
  refine pr_callVr (rest := []) (r := r9) ⟨hx, hb, hml, hown, hts⟩ 1 (prc_T_byteAt hD hX 0 (Nat.le_refl _) σ x1 r9 hr9) (prg_T_byteAt hts prw_28 (by have := hh; omega)) hX hXs hK hP hS (by decide) rfl rfl rfl rfl hl.1 (Nat.le_of_ble_eq_true rfl) prd_T_readToken_2 (fun H locs hP hS => ?_)
  refine lv_istore_n (lv' := [(2, .int r9), (0, .ref (ad 1)), (1, .int x1)]) hx hb prd_T_readToken_5 rfl hl (by decide) rfl (fun ls hl => ?_)
  refine lv_iload_n hx hb prd_T_readToken_6 rfl (lv_at hl 0 rfl) ?_
  obtain ⟨r10, hr10, hf⟩ := pr_bi hf
  refine pr_callSr (rest := []) (r := r10) ⟨hx, hb, hml, hown, hts⟩ (prc_T_isDigit hD hX 0 (Nat.le_refl _) σ r9 r10 hr10) (prg_T_isDigit hts prw_34 (by have := hh; omega)) hX hXs hK hP hS rfl rfl hl.1 (Nat.le_of_ble_eq_true rfl) prd_T_readToken_7 (fun H locs hP hS => ?_)
  refine lv_if_eq (tgt := 19) hx hb prd_T_readToken_10 (by decide) (fun c11 => ?_) (fun c11 => ?_)
  · have hf := pr_it c11 hf
    refine lv_iload_n hx hb prd_T_readToken_19 rfl (lv_at hl 0 rfl) ?_
    obtain ⟨r12, hr12, hf⟩ := pr_bi hf
    refine pr_callSr (rest := []) (r := r12) ⟨hx, hb, hml, hown, hts⟩ (prc_T_isInName hD hX 1 (Nat.le_refl _) σ r9 r12 hr12) (prg_T_isInName hts prw_47 (by have := hh; omega)) hX hXs hK hP hS rfl rfl hl.1 (Nat.le_of_ble_eq_true rfl) prd_T_readToken_20 (fun H locs hP hS => ?_)
    refine lv_if_eq (tgt := 32) hx hb prd_T_readToken_23 (by decide) (fun c13 => ?_) (fun c13 => ?_)
    · have hf := pr_it c13 hf
      refine lv_aload_n hx hb prd_T_readToken_32 rfl (lv_at hl 1 rfl) ?_
      refine lv_iload_n hx hb prd_T_readToken_33 rfl (lv_at hl 2 rfl) ?_
      obtain ⟨r14, hr14, hf⟩ := pr_bi hf
      refine pr_callVi (rest := []) (res := r14) ⟨hx, hb, hml, hown, hts⟩ 1 (prc_T_readSign hD hX 1 (Nat.le_refl _) σ x1 r14 hr14) (prg_T_readSign hts prw_68 (by have := hh; omega)) hX hXs hK hP hS (by decide) rfl rfl rfl rfl hl.1 (Nat.le_of_ble_eq_true rfl) prd_T_readToken_34 (fun H locs hP hS => ?_)
      exact pr_reti E hP hS (pr_so hf) prd_T_readToken_37
    · have hf := pr_ie c13 hf
      refine lv_aload_n hx hb prd_T_readToken_26 rfl (lv_at hl 1 rfl) ?_
      refine lv_iload_n hx hb prd_T_readToken_27 rfl (lv_at hl 2 rfl) ?_
      obtain ⟨r15, hr15, hf⟩ := pr_bi hf
      refine pr_callVi (rest := []) (res := r15) ⟨hx, hb, hml, hown, hts⟩ 1 (prc_T_readName hD hX 2 (Nat.le_refl _) σ x1 r15 hr15) (prg_T_readName hts prw_69 (by have := hh; omega)) hX hXs hK hP hS (by decide) rfl rfl rfl rfl hl.1 (Nat.le_of_ble_eq_true rfl) prd_T_readToken_28 (fun H locs hP hS => ?_)
      exact pr_reti E hP hS (pr_so hf) prd_T_readToken_31
  · have hf := pr_ie c11 hf
    refine lv_aload_n hx hb prd_T_readToken_13 rfl (lv_at hl 1 rfl) ?_
    refine lv_iload_n hx hb prd_T_readToken_14 rfl (lv_at hl 2 rfl) ?_
    obtain ⟨r16, hr16, hf⟩ := pr_bi hf
    refine pr_callVi (rest := []) (res := r16) ⟨hx, hb, hml, hown, hts⟩ 1 (prc_T_readNumber hD hX 2 (Nat.le_refl _) σ x1 r16 hr16) (prg_T_readNumber hts prw_70 (by have := hh; omega)) hX hXs hK hP hS (by decide) rfl rfl rfl rfl hl.1 (Nat.le_of_ble_eq_true rfl) prd_T_readToken_15 (fun H locs hP hS => ?_)
    exact pr_reti E hP hS (pr_so hf) prd_T_readToken_18
-- T_readText
set_option maxHeartbeats 4000000 in
set_option maxRecDepth 100000 in
theorem prk_T_readText_23 {l : Launch} {D : va_G} {ad : Nat → Nat} {dA : Nat → ClassId} {A : Nat → Prop} {t : Nat} {p : Program} {e : Env} {s : State} {m : MethodId} {args : Array Value} {below : List Frame} {meth : Method} {c : Code} {h : Nat} (hh : 4 ≤ h) (E : pr_cx prn_T prb_T_readText 5 none D pr_cl prc_L ad dA A (prX t A) p s m args meth c) : ∀ n : Nat, ∀ (σ : pr_St) (x2 : Int32) (x3 : Int32) (res : pr_St), some res = prf_T_readText_23 n σ x2 x3 → ∀ (H : Heap) (locs : List Loc) (ls : Array Slot), va_P D pr_cl (pr_w prc_L ad dA σ) H → va_S A s.heap H locs → lv_has ls 5 [(0, .ref (ad 1)), (2, .int x2), (3, .int x3)] → W p l e (pr_rm h) s m args below meth c H locs 0 0 (MQ below (pr_Qv D pr_cl prc_L ad dA A res) args s 0 0 A) (F0 m 23 ls []) := by
  obtain ⟨hx, hb, hml, hown, hts, hr, hlocks, hK, hD, hX, hXs⟩ := id E
  intro n
  induction n with
  | zero =>
    intro σ x2 x3 res hf
    rw [prf_T_readText_23] at hf
    cases hf
  | succ n ih =>
    intro σ x2 x3 res hf H locs ls hP hS hl
    rw [prf_T_readText_23] at hf
    refine lv_iload_n hx hb prd_T_readText_23 rfl (lv_at hl 2 rfl) ?_
    refine lv_sipush (v := 8000) hx hb prd_T_readText_24 (by decide) ?_
    refine lv_icmp_ge (tgt := 73) hx hb prd_T_readText_27 (by decide) (fun c10 => ?_) (fun c10 => ?_)
    · have hf := pr_it c10 hf
      refine lv_aload_n hx hb prd_T_readText_73 rfl (lv_at hl 0 rfl) ?_
      refine lv_iconst (v := 0) hx hb prd_T_readText_74 (by decide) ?_
      refine lv_aload_n hx hb prd_T_readText_75 rfl (lv_at hl 0 rfl) ?_
      refine pr_geti (v := (σ.1 1 5)) hx hb hts prs_T hown hK hP 1 5 (by decide) rfl (hts _ prw_24) rfl rfl prd_T_readText_76 ?_
      refine lv_iconst (v := 0) hx hb prd_T_readText_79 (by decide) ?_
      obtain ⟨r11, hr11, hf⟩ := pr_bi hf
      refine pr_callVv (rest := []) (res := r11) ⟨hx, hb, hml, hown, hts⟩ 1 (prc_T_add hD hX 0 (Nat.le_refl _) σ 0 (σ.1 1 5) 0 r11 hr11) (prg_T_add hts prw_48 (by have := hh; omega)) hX hXs hK hP hS (by decide) rfl rfl rfl rfl hl.1 (Nat.le_of_ble_eq_true rfl) prd_T_readText_80 (fun H locs hP hS => ?_)
      exact pr_retv E hP hS (pr_so hf) prd_T_readText_83
    · have hf := pr_ie c10 hf
      refine lv_iload_n hx hb prd_T_readText_30 rfl (lv_at hl 1 rfl) ?_
      refine lv_aload_n hx hb prd_T_readText_31 rfl (lv_at hl 0 rfl) ?_
      refine pr_geti (v := (σ.1 1 5)) hx hb hts prs_T hown hK hP 1 5 (by decide) rfl (hts _ prw_24) rfl rfl prd_T_readText_32 ?_
      refine lv_icmp_ge (tgt := 73) hx hb prd_T_readText_35 (by decide) (fun c12 => ?_) (fun c12 => ?_)
      · have hf := pr_it c12 hf
        refine lv_aload_n hx hb prd_T_readText_73 rfl (lv_at hl 0 rfl) ?_
        refine lv_iconst (v := 0) hx hb prd_T_readText_74 (by decide) ?_
        refine lv_aload_n hx hb prd_T_readText_75 rfl (lv_at hl 0 rfl) ?_
        refine pr_geti (v := (σ.1 1 5)) hx hb hts prs_T hown hK hP 1 5 (by decide) rfl (hts _ prw_24) rfl rfl prd_T_readText_76 ?_
        refine lv_iconst (v := 0) hx hb prd_T_readText_79 (by decide) ?_
        obtain ⟨r13, hr13, hf⟩ := pr_bi hf
        refine pr_callVv (rest := []) (res := r13) ⟨hx, hb, hml, hown, hts⟩ 1 (prc_T_add hD hX 0 (Nat.le_refl _) σ 0 (σ.1 1 5) 0 r13 hr13) (prg_T_add hts prw_48 (by have := hh; omega)) hX hXs hK hP hS (by decide) rfl rfl rfl rfl hl.1 (Nat.le_of_ble_eq_true rfl) prd_T_readText_80 (fun H locs hP hS => ?_)
        exact pr_retv E hP hS (pr_so hf) prd_T_readText_83
      · have hf := pr_ie c12 hf
        refine lv_aload_n hx hb prd_T_readText_38 rfl (lv_at hl 0 rfl) ?_
        refine lv_iload_n hx hb prd_T_readText_39 rfl (lv_at hl 1 rfl) ?_
        obtain ⟨r14, hr14, hf⟩ := pr_bi hf
        refine pr_callVi (rest := []) (res := r14) ⟨hx, hb, hml, hown, hts⟩ 1 (prc_T_readToken hD hX 3 (Nat.le_refl _) σ x2 r14 hr14) (prg_T_readToken hts prw_75 (by have := hh; omega)) hX hXs hK hP hS (by decide) rfl rfl rfl rfl hl.1 (Nat.le_of_ble_eq_true rfl) prd_T_readText_40 (fun H locs hP hS => ?_)
        refine lv_istore (lv' := [(4, .int r14.1), (0, .ref (ad 1)), (2, .int x2), (3, .int x3)]) hx hb prd_T_readText_43 hl (by decide) rfl (fun ls hl => ?_)
        refine lv_iload hx hb prd_T_readText_45 (lv_at hl 0 rfl) ?_
        refine lv_if_ne (tgt := 58) hx hb prd_T_readText_47 (by decide) (fun c15 => ?_) (fun c15 => ?_)
        · have hf := pr_ie c15 hf
          refine lv_aload_n hx hb prd_T_readText_58 rfl (lv_at hl 1 rfl) ?_
          refine lv_iload_n hx hb prd_T_readText_59 rfl (lv_at hl 2 rfl) ?_
          refine lv_iload hx hb prd_T_readText_60 (lv_at hl 0 rfl) ?_
          refine lv_iadd hx hb prd_T_readText_62 ?_
          obtain ⟨r16, hr16, hf⟩ := pr_bi hf
          refine pr_callVr (rest := []) (r := r16) ⟨hx, hb, hml, hown, hts⟩ 1 (prc_T_behindBlanks hD hX 1 (Nat.le_refl _) r14.2 (x2 + r14.1) r16 hr16) (prg_T_behindBlanks hts prw_74 (by have := hh; omega)) hX hXs hK hP hS (by decide) rfl rfl rfl rfl hl.1 (Nat.le_of_ble_eq_true rfl) prd_T_readText_63 (fun H locs hP hS => ?_)
          refine lv_istore_n (lv' := [(2, .int r16), (4, .int r14.1), (0, .ref (ad 1)), (3, .int x3)]) hx hb prd_T_readText_66 rfl hl (by decide) rfl (fun ls hl => ?_)
          refine lv_iinc (v := (x3 + 1)) (lv' := [(3, .int (x3 + 1)), (2, .int r16), (4, .int r14.1), (0, .ref (ad 1))]) hx hb prd_T_readText_67 hl (k := 3) rfl rfl (by decide) rfl (fun ls hl => ?_)
          refine lv_goto (tgt := 23) hx hb prd_T_readText_70 (by decide) ?_
          exact ih r14.2 r16 (x3 + 1) _ hf _ _ _ hP hS (lv_sub hl [3, 1, 0] rfl)
        · have hf := pr_it c15 hf
          refine lv_aload_n hx hb prd_T_readText_50 rfl (lv_at hl 1 rfl) ?_
          refine lv_iconst (v := 1) hx hb prd_T_readText_51 (by decide) ?_
          refine lv_iload_n hx hb prd_T_readText_52 rfl (lv_at hl 2 rfl) ?_
          refine lv_iconst (v := 0) hx hb prd_T_readText_53 (by decide) ?_
          obtain ⟨r17, hr17, hf⟩ := pr_bi hf
          refine pr_callVv (rest := []) (res := r17) ⟨hx, hb, hml, hown, hts⟩ 1 (prc_T_add hD hX 0 (Nat.le_refl _) r14.2 1 x2 0 r17 hr17) (prg_T_add hts prw_48 (by have := hh; omega)) hX hXs hK hP hS (by decide) rfl rfl rfl rfl hl.1 (Nat.le_of_ble_eq_true rfl) prd_T_readText_54 (fun H locs hP hS => ?_)
          exact pr_retv E hP hS (pr_so hf) prd_T_readText_57
set_option maxHeartbeats 4000000 in
set_option maxRecDepth 100000 in
theorem prc_T_readText {l : Launch} {D : va_G} {ad : Nat → Nat} {dA : Nat → ClassId} {A : Nat → Prop} {t : Nat} (hD : ∀ σ : pr_St, va_D A (pr_w prc_L ad dA σ)) (hX : pr_Xok A (prX t A)) (h : Nat) (hh : 4 ≤ h) (σ : pr_St) (x1 : Int32) (res : pr_St) (hf : prf_T_readText σ x1 = some res) : Met l pry_T_readText (Cond.code pry_T_readText prb_T_readText 5 none :: pr_U) (pr_rm h) (pr_Pc (prX t A) D pr_cl prc_L ad dA [.ref (ad 1), .int x1] σ) (pr_Qv D pr_cl prc_L ad dA A res) 0 0 A := by
  refine pr_entry (cc := prb_T_readText) (maxL := 5) (ret := none) (by decide) (Nat.le_of_ble_eq_true rfl) hD hX ?_
  intro p e s m args below meth c E H locs hP hS ls hl
  have hl : lv_has ls 5 [(0, .ref (ad 1)), (1, .int x1)] := hl
  have hf := hf.symm
  unfold prf_T_readText at hf
  obtain ⟨hx, hb, hml, hown, hts, hr, hlocks, hK, hD, hX, hXs⟩ := id E
  refine lv_aload_n hx hb prd_T_readText_0 rfl (lv_at hl 0 rfl) ?_
  refine lv_iconst (v := 0) hx hb prd_T_readText_1 (by decide) ?_
  refine pr_puti (ty := .int) hx hb hts prs_T prq_T prtt_T prtn_T hown hK hP (hD _) hS 1 1 (by decide) rfl (hts _ prw_0) rfl rfl (prtt_T 1 (by decide)) rfl rfl prd_T_readText_2 (fun H locs hP hS => ?_)
  refine lv_aload_n hx hb prd_T_readText_5 rfl (lv_at hl 0 rfl) ?_
  refine lv_iload_n hx hb prd_T_readText_6 rfl (lv_at hl 1 rfl) ?_
  refine pr_puti (ty := .int) hx hb hts prs_T prq_T prtt_T prtn_T hown hK hP (hD _) hS 1 5 (by decide) rfl (hts _ prw_24) rfl rfl (prtt_T 5 (by decide)) rfl rfl prd_T_readText_7 (fun H locs hP hS => ?_)
  refine lv_aload_n hx hb prd_T_readText_10 rfl (lv_at hl 0 rfl) ?_
  refine lv_iconst (v := 0) hx hb prd_T_readText_11 (by decide) ?_
  refine pr_puti (ty := .int) hx hb hts prs_T prq_T prtt_T prtn_T hown hK hP (hD _) hS 1 6 (by decide) rfl (hts _ prw_37) rfl rfl (prtt_T 6 (by decide)) rfl rfl prd_T_readText_12 (fun H locs hP hS => ?_)
  refine lv_aload_n hx hb prd_T_readText_15 rfl (lv_at hl 0 rfl) ?_
  refine lv_iconst (v := 0) hx hb prd_T_readText_16 (by decide) ?_
  obtain ⟨r18, hr18, hf⟩ := pr_bi hf
  refine pr_callVr (rest := []) (r := r18) ⟨hx, hb, hml, hown, hts⟩ 1 (prc_T_behindBlanks hD hX 1 (Nat.le_refl _) (pr_sI (pr_sI (pr_sI σ 1 1 0) 1 5 x1) 1 6 0) 0 r18 hr18) (prg_T_behindBlanks hts prw_74 (by have := hh; omega)) hX hXs hK hP hS (by decide) rfl rfl rfl rfl hl.1 (Nat.le_of_ble_eq_true rfl) prd_T_readText_17 (fun H locs hP hS => ?_)
  refine lv_istore_n (lv' := [(2, .int r18), (0, .ref (ad 1)), (1, .int x1)]) hx hb prd_T_readText_20 rfl hl (by decide) rfl (fun ls hl => ?_)
  refine lv_iconst (v := 0) hx hb prd_T_readText_21 (by decide) ?_
  refine lv_istore_n (lv' := [(3, .int 0), (2, .int r18), (0, .ref (ad 1)), (1, .int x1)]) hx hb prd_T_readText_22 rfl hl (by decide) rfl (fun ls hl => ?_)
  exact prk_T_readText_23 hh E pr_FU (pr_sI (pr_sI (pr_sI σ 1 1 0) 1 5 x1) 1 6 0) r18 0 _ hf _ _ _ hP hS (lv_sub hl [2, 1, 0] rfl)
-- T_kindAt
set_option maxHeartbeats 4000000 in
set_option maxRecDepth 100000 in
theorem prc_T_kindAt {l : Launch} {D : va_G} {ad : Nat → Nat} {dA : Nat → ClassId} {A : Nat → Prop} {t : Nat} (hD : ∀ σ : pr_St, va_D A (pr_w prc_L ad dA σ)) (hX : pr_Xok A (prX t A)) (h : Nat) (hh : 0 ≤ h) (σ : pr_St) (x1 : Int32) (res : Int32) (hf : prf_T_kindAt σ x1 = some res) : Met l pry_T_kindAt (Cond.code pry_T_kindAt prb_T_kindAt 2 (some .int) :: pr_U) (pr_rm h) (pr_Pc (prX t A) D pr_cl prc_L ad dA [.ref (ad 1), .int x1] σ) (pr_Qi D pr_cl prc_L ad dA A (res, σ)) 0 0 A := by
  refine pr_entry (cc := prb_T_kindAt) (maxL := 2) (ret := (some .int)) (by decide) (Nat.le_of_ble_eq_true rfl) hD hX ?_
  intro p e s m args below meth c E H locs hP hS ls hl
  have hl : lv_has ls 2 [(0, .ref (ad 1)), (1, .int x1)] := hl
  have hf := hf.symm
  unfold prf_T_kindAt at hf
  obtain ⟨hx, hb, hml, hown, hts, hr, hlocks, hK, hD, hX, hXs⟩ := id E
  refine lv_iload_n hx hb prd_T_kindAt_0 rfl (lv_at hl 1 rfl) ?_
  refine lv_if_lt (tgt := 21) hx hb prd_T_kindAt_1 (by decide) (fun c4 => ?_) (fun c4 => ?_)
  · have hf := pr_it c4 hf
    refine lv_iconst (v := 0) hx hb prd_T_kindAt_21 (by decide) ?_
    exact pr_reti E hP hS (pr_ro hf) prd_T_kindAt_22
  · have hf := pr_ie c4 hf
    refine lv_iload_n hx hb prd_T_kindAt_4 rfl (lv_at hl 1 rfl) ?_
    refine lv_aload_n hx hb prd_T_kindAt_5 rfl (lv_at hl 0 rfl) ?_
    refine pr_geti (v := (σ.1 1 6)) hx hb hts prs_T hown hK hP 1 6 (by decide) rfl (hts _ prw_37) rfl rfl prd_T_kindAt_6 ?_
    refine lv_icmp_ge (tgt := 21) hx hb prd_T_kindAt_9 (by decide) (fun c5 => ?_) (fun c5 => ?_)
    · have hf := pr_it c5 hf
      refine lv_iconst (v := 0) hx hb prd_T_kindAt_21 (by decide) ?_
      exact pr_reti E hP hS (pr_ro hf) prd_T_kindAt_22
    · have hf := pr_ie c5 hf
      refine lv_aload_n hx hb prd_T_kindAt_12 rfl (lv_at hl 0 rfl) ?_
      refine pr_getr (t := 9) hx hb hts prs_T hown hK hP 1 2 (by decide) rfl (hts _ prw_38) rfl prd_T_kindAt_13 ?_
      refine lv_iload_n hx hb prd_T_kindAt_16 rfl (lv_at hl 1 rfl) ?_
      obtain ⟨hi6, hf⟩ := pr_ck_in hf
      refine pr_bald (f := (σ.2.1 9)) hx hb hK hP 9 (by decide) rfl hi6 rfl prd_T_kindAt_17 ?_
      refine lv_goto (tgt := 22) hx hb prd_T_kindAt_18 (by decide) ?_
      exact pr_reti E hP hS (pr_ro hf) prd_T_kindAt_22
-- T_placeAt
set_option maxHeartbeats 4000000 in
set_option maxRecDepth 100000 in
theorem prc_T_placeAt {l : Launch} {D : va_G} {ad : Nat → Nat} {dA : Nat → ClassId} {A : Nat → Prop} {t : Nat} (hD : ∀ σ : pr_St, va_D A (pr_w prc_L ad dA σ)) (hX : pr_Xok A (prX t A)) (h : Nat) (hh : 0 ≤ h) (σ : pr_St) (x1 : Int32) (res : Int32) (hf : prf_T_placeAt σ x1 = some res) : Met l pry_T_placeAt (Cond.code pry_T_placeAt prb_T_placeAt 2 (some .int) :: pr_U) (pr_rm h) (pr_Pc (prX t A) D pr_cl prc_L ad dA [.ref (ad 1), .int x1] σ) (pr_Qi D pr_cl prc_L ad dA A (res, σ)) 0 0 A := by
  refine pr_entry (cc := prb_T_placeAt) (maxL := 2) (ret := (some .int)) (by decide) (Nat.le_of_ble_eq_true rfl) hD hX ?_
  intro p e s m args below meth c E H locs hP hS ls hl
  have hl : lv_has ls 2 [(0, .ref (ad 1)), (1, .int x1)] := hl
  have hf := hf.symm
  unfold prf_T_placeAt at hf
  obtain ⟨hx, hb, hml, hown, hts, hr, hlocks, hK, hD, hX, hXs⟩ := id E
  refine lv_iload_n hx hb prd_T_placeAt_0 rfl (lv_at hl 1 rfl) ?_
  refine lv_if_lt (tgt := 21) hx hb prd_T_placeAt_1 (by decide) (fun c4 => ?_) (fun c4 => ?_)
  · have hf := pr_it c4 hf
    refine lv_aload_n hx hb prd_T_placeAt_21 rfl (lv_at hl 0 rfl) ?_
    refine pr_geti (v := (σ.1 1 5)) hx hb hts prs_T hown hK hP 1 5 (by decide) rfl (hts _ prw_24) rfl rfl prd_T_placeAt_22 ?_
    exact pr_reti E hP hS (pr_ro hf) prd_T_placeAt_25
  · have hf := pr_ie c4 hf
    refine lv_iload_n hx hb prd_T_placeAt_4 rfl (lv_at hl 1 rfl) ?_
    refine lv_aload_n hx hb prd_T_placeAt_5 rfl (lv_at hl 0 rfl) ?_
    refine pr_geti (v := (σ.1 1 6)) hx hb hts prs_T hown hK hP 1 6 (by decide) rfl (hts _ prw_37) rfl rfl prd_T_placeAt_6 ?_
    refine lv_icmp_ge (tgt := 21) hx hb prd_T_placeAt_9 (by decide) (fun c5 => ?_) (fun c5 => ?_)
    · have hf := pr_it c5 hf
      refine lv_aload_n hx hb prd_T_placeAt_21 rfl (lv_at hl 0 rfl) ?_
      refine pr_geti (v := (σ.1 1 5)) hx hb hts prs_T hown hK hP 1 5 (by decide) rfl (hts _ prw_24) rfl rfl prd_T_placeAt_22 ?_
      exact pr_reti E hP hS (pr_ro hf) prd_T_placeAt_25
    · have hf := pr_ie c5 hf
      refine lv_aload_n hx hb prd_T_placeAt_12 rfl (lv_at hl 0 rfl) ?_
      refine pr_getr (t := 10) hx hb hts prs_T hown hK hP 1 3 (by decide) rfl (hts _ prw_39) rfl prd_T_placeAt_13 ?_
      refine lv_iload_n hx hb prd_T_placeAt_16 rfl (lv_at hl 1 rfl) ?_
      obtain ⟨hi6, hf⟩ := pr_ck_in hf
      refine pr_iald (f := (σ.2.1 10)) hx hb hK hP 10 (by decide) rfl hi6 rfl prd_T_placeAt_17 ?_
      refine lv_goto (tgt := 25) hx hb prd_T_placeAt_18 (by decide) ?_
      exact pr_reti E hP hS (pr_ro hf) prd_T_placeAt_25
-- T_valueAt
set_option maxHeartbeats 4000000 in
set_option maxRecDepth 100000 in
theorem prc_T_valueAt {l : Launch} {D : va_G} {ad : Nat → Nat} {dA : Nat → ClassId} {A : Nat → Prop} {t : Nat} (hD : ∀ σ : pr_St, va_D A (pr_w prc_L ad dA σ)) (hX : pr_Xok A (prX t A)) (h : Nat) (hh : 0 ≤ h) (σ : pr_St) (x1 : Int32) (res : Int32) (hf : prf_T_valueAt σ x1 = some res) : Met l pry_T_valueAt (Cond.code pry_T_valueAt prb_T_valueAt 2 (some .int) :: pr_U) (pr_rm h) (pr_Pc (prX t A) D pr_cl prc_L ad dA [.ref (ad 1), .int x1] σ) (pr_Qi D pr_cl prc_L ad dA A (res, σ)) 0 0 A := by
  refine pr_entry (cc := prb_T_valueAt) (maxL := 2) (ret := (some .int)) (by decide) (Nat.le_of_ble_eq_true rfl) hD hX ?_
  intro p e s m args below meth c E H locs hP hS ls hl
  have hl : lv_has ls 2 [(0, .ref (ad 1)), (1, .int x1)] := hl
  have hf := hf.symm
  unfold prf_T_valueAt at hf
  obtain ⟨hx, hb, hml, hown, hts, hr, hlocks, hK, hD, hX, hXs⟩ := id E
  refine lv_iload_n hx hb prd_T_valueAt_0 rfl (lv_at hl 1 rfl) ?_
  refine lv_if_lt (tgt := 21) hx hb prd_T_valueAt_1 (by decide) (fun c4 => ?_) (fun c4 => ?_)
  · have hf := pr_it c4 hf
    refine lv_iconst (v := 0) hx hb prd_T_valueAt_21 (by decide) ?_
    exact pr_reti E hP hS (pr_ro hf) prd_T_valueAt_22
  · have hf := pr_ie c4 hf
    refine lv_iload_n hx hb prd_T_valueAt_4 rfl (lv_at hl 1 rfl) ?_
    refine lv_aload_n hx hb prd_T_valueAt_5 rfl (lv_at hl 0 rfl) ?_
    refine pr_geti (v := (σ.1 1 6)) hx hb hts prs_T hown hK hP 1 6 (by decide) rfl (hts _ prw_37) rfl rfl prd_T_valueAt_6 ?_
    refine lv_icmp_ge (tgt := 21) hx hb prd_T_valueAt_9 (by decide) (fun c5 => ?_) (fun c5 => ?_)
    · have hf := pr_it c5 hf
      refine lv_iconst (v := 0) hx hb prd_T_valueAt_21 (by decide) ?_
      exact pr_reti E hP hS (pr_ro hf) prd_T_valueAt_22
    · have hf := pr_ie c5 hf
      refine lv_aload_n hx hb prd_T_valueAt_12 rfl (lv_at hl 0 rfl) ?_
      refine pr_getr (t := 11) hx hb hts prs_T hown hK hP 1 4 (by decide) rfl (hts _ prw_40) rfl prd_T_valueAt_13 ?_
      refine lv_iload_n hx hb prd_T_valueAt_16 rfl (lv_at hl 1 rfl) ?_
      obtain ⟨hi6, hf⟩ := pr_ck_in hf
      refine pr_iald (f := (σ.2.1 11)) hx hb hK hP 11 (by decide) rfl hi6 rfl prd_T_valueAt_17 ?_
      refine lv_goto (tgt := 22) hx hb prd_T_valueAt_18 (by decide) ?_
      exact pr_reti E hP hS (pr_ro hf) prd_T_valueAt_22
-- T_sameName
set_option maxHeartbeats 4000000 in
set_option maxRecDepth 100000 in
theorem prk_T_sameName_63 {l : Launch} {D : va_G} {ad : Nat → Nat} {dA : Nat → ClassId} {A : Nat → Prop} {t : Nat} {p : Program} {e : Env} {s : State} {m : MethodId} {args : Array Value} {below : List Frame} {meth : Method} {c : Code} {h : Nat} (hh : 1 ≤ h) (E : pr_cx prn_T prb_T_sameName 8 (some .boolean) D pr_cl prc_L ad dA A (prX t A) p s m args meth c) : ∀ n : Nat, ∀ (σ : pr_St) (x3 : Int32) (x4 : Int32) (x5 : Int32) (x6 : Int32) (x7 : Int32) (res : Int32), some res = prf_T_sameName_63 n σ x3 x4 x5 x6 x7 → ∀ (H : Heap) (locs : List Loc) (ls : Array Slot), va_P D pr_cl (pr_w prc_L ad dA σ) H → va_S A s.heap H locs → lv_has ls 8 [(0, .ref (ad 1)), (3, .int x3), (4, .int x4), (5, .int x5), (6, .int x6), (7, .int x7)] → W p l e (pr_rm h) s m args below meth c H locs 0 0 (MQ below (pr_Qi D pr_cl prc_L ad dA A (res, σ)) args s 0 0 A) (F0 m 63 ls []) := by
  obtain ⟨hx, hb, hml, hown, hts, hr, hlocks, hK, hD, hX, hXs⟩ := id E
  intro n
  induction n with
  | zero =>
    intro σ x3 x4 x5 x6 x7 res hf
    rw [prf_T_sameName_63] at hf
    cases hf
  | succ n ih =>
    intro σ x3 x4 x5 x6 x7 res hf H locs ls hP hS hl
    rw [prf_T_sameName_63] at hf
    refine lv_iload hx hb prd_T_sameName_63 (lv_at hl 5 rfl) ?_
    refine lv_iload_n hx hb prd_T_sameName_65 rfl (lv_at hl 1 rfl) ?_
    refine lv_icmp_ge (tgt := 110) hx hb prd_T_sameName_66 (by decide) (fun c15 => ?_) (fun c15 => ?_)
    · have hf := pr_it c15 hf
      refine lv_iload hx hb prd_T_sameName_110 (lv_at hl 4 rfl) ?_
      obtain ⟨hz16, hf⟩ := pr_z_in hf
      exact pr_retz E hz16 hP hS (pr_ro hf) prd_T_sameName_112
    · have hf := pr_ie c15 hf
      refine lv_iload hx hb prd_T_sameName_69 (lv_at hl 4 rfl) ?_
      refine lv_if_eq (tgt := 110) hx hb prd_T_sameName_71 (by decide) (fun c17 => ?_) (fun c17 => ?_)
      · have hf := pr_it c17 hf
        refine lv_iload hx hb prd_T_sameName_110 (lv_at hl 4 rfl) ?_
        obtain ⟨hz18, hf⟩ := pr_z_in hf
        exact pr_retz E hz18 hP hS (pr_ro hf) prd_T_sameName_112
      · have hf := pr_ie c17 hf
        refine lv_aload_n hx hb prd_T_sameName_74 rfl (lv_at hl 0 rfl) ?_
        refine pr_getr (t := 8) hx hb hts prs_T hown hK hP 1 0 (by decide) rfl (hts _ prw_5) rfl prd_T_sameName_75 ?_
        refine lv_iload hx hb prd_T_sameName_78 (lv_at hl 2 rfl) ?_
        refine lv_iload hx hb prd_T_sameName_80 (lv_at hl 5 rfl) ?_
        refine lv_iadd hx hb prd_T_sameName_82 ?_
        obtain ⟨hi19, hf⟩ := pr_ck_in hf
        refine pr_bald (f := (σ.2.1 8)) hx hb hK hP 8 (by decide) rfl hi19 rfl prd_T_sameName_83 ?_
        refine lv_aload_n hx hb prd_T_sameName_84 rfl (lv_at hl 0 rfl) ?_
        refine pr_getr (t := 8) hx hb hts prs_T hown hK hP 1 0 (by decide) rfl (hts _ prw_5) rfl prd_T_sameName_85 ?_
        refine lv_iload hx hb prd_T_sameName_88 (lv_at hl 3 rfl) ?_
        refine lv_iload hx hb prd_T_sameName_90 (lv_at hl 5 rfl) ?_
        refine lv_iadd hx hb prd_T_sameName_92 ?_
        obtain ⟨hi20, hf⟩ := pr_ck_in hf
        refine pr_bald (f := (σ.2.1 8)) hx hb hK hP 8 (by decide) rfl hi20 rfl prd_T_sameName_93 ?_
        refine lv_icmp_ne (tgt := 101) hx hb prd_T_sameName_94 (by decide) (fun c21 => ?_) (fun c21 => ?_)
        · have hf := pr_ie c21 hf
          refine lv_iconst (v := 0) hx hb prd_T_sameName_101 (by decide) ?_
          refine lv_istore (lv' := [(6, .int 0), (0, .ref (ad 1)), (3, .int x3), (4, .int x4), (5, .int x5), (7, .int x7)]) hx hb prd_T_sameName_102 hl (by decide) rfl (fun ls hl => ?_)
          refine lv_iinc (v := (x7 + 1)) (lv' := [(7, .int (x7 + 1)), (6, .int 0), (0, .ref (ad 1)), (3, .int x3), (4, .int x4), (5, .int x5)]) hx hb prd_T_sameName_104 hl (k := 5) rfl rfl (by decide) rfl (fun ls hl => ?_)
          refine lv_goto (tgt := 63) hx hb prd_T_sameName_107 (by decide) ?_
          exact ih σ x3 x4 x5 0 (x7 + 1) _ hf _ _ _ hP hS (lv_sub hl [2, 3, 4, 5, 1, 0] rfl)
        · have hf := pr_it c21 hf
          refine lv_iconst (v := 1) hx hb prd_T_sameName_97 (by decide) ?_
          refine lv_goto (tgt := 102) hx hb prd_T_sameName_98 (by decide) ?_
          refine lv_istore (lv' := [(6, .int 1), (0, .ref (ad 1)), (3, .int x3), (4, .int x4), (5, .int x5), (7, .int x7)]) hx hb prd_T_sameName_102 hl (by decide) rfl (fun ls hl => ?_)
          refine lv_iinc (v := (x7 + 1)) (lv' := [(7, .int (x7 + 1)), (6, .int 1), (0, .ref (ad 1)), (3, .int x3), (4, .int x4), (5, .int x5)]) hx hb prd_T_sameName_104 hl (k := 5) rfl rfl (by decide) rfl (fun ls hl => ?_)
          refine lv_goto (tgt := 63) hx hb prd_T_sameName_107 (by decide) ?_
          exact ih σ x3 x4 x5 1 (x7 + 1) _ hf _ _ _ hP hS (lv_sub hl [2, 3, 4, 5, 1, 0] rfl)
set_option maxHeartbeats 4000000 in
set_option maxRecDepth 100000 in
theorem prc_T_sameName {l : Launch} {D : va_G} {ad : Nat → Nat} {dA : Nat → ClassId} {A : Nat → Prop} {t : Nat} (hD : ∀ σ : pr_St, va_D A (pr_w prc_L ad dA σ)) (hX : pr_Xok A (prX t A)) (h : Nat) (hh : 1 ≤ h) (σ : pr_St) (x1 : Int32) (x2 : Int32) (res : Int32) (hf : prf_T_sameName σ x1 x2 = some res) : Met l pry_T_sameName (Cond.code pry_T_sameName prb_T_sameName 8 (some .boolean) :: pr_U) (pr_rm h) (pr_Pc (prX t A) D pr_cl prc_L ad dA [.ref (ad 1), .int x1, .int x2] σ) (pr_Qi D pr_cl prc_L ad dA A (res, σ)) 0 0 A := by
  refine pr_entry (cc := prb_T_sameName) (maxL := 8) (ret := (some .boolean)) (by decide) (Nat.le_of_ble_eq_true rfl) hD hX ?_
  intro p e s m args below meth c E H locs hP hS ls hl
  have hl : lv_has ls 8 [(0, .ref (ad 1)), (1, .int x1), (2, .int x2)] := hl
  have hf := hf.symm
  unfold prf_T_sameName at hf
  obtain ⟨hx, hb, hml, hown, hts, hr, hlocks, hK, hD, hX, hXs⟩ := id E
  refine lv_aload_n hx hb prd_T_sameName_0 rfl (lv_at hl 0 rfl) ?_
  refine lv_iload_n hx hb prd_T_sameName_1 rfl (lv_at hl 1 rfl) ?_
  obtain ⟨r22, hr22, hf⟩ := pr_bi hf
  refine pr_callVr (rest := []) (r := r22) ⟨hx, hb, hml, hown, hts⟩ 1 (prc_T_valueAt hD hX 0 (Nat.le_refl _) σ x1 r22 hr22) (prg_T_valueAt hts prw_425 (by have := hh; omega)) hX hXs hK hP hS (by decide) rfl rfl rfl rfl hl.1 (Nat.le_of_ble_eq_true rfl) prd_T_sameName_2 (fun H locs hP hS => ?_)
  refine lv_istore_n (lv' := [(3, .int r22), (0, .ref (ad 1)), (1, .int x1), (2, .int x2)]) hx hb prd_T_sameName_5 rfl hl (by decide) rfl (fun ls hl => ?_)
  refine lv_aload_n hx hb prd_T_sameName_6 rfl (lv_at hl 1 rfl) ?_
  refine lv_iload_n hx hb prd_T_sameName_7 rfl (lv_at hl 2 rfl) ?_
  obtain ⟨r23, hr23, hf⟩ := pr_bi hf
  refine pr_callVr (rest := []) (r := r23) ⟨hx, hb, hml, hown, hts⟩ 1 (prc_T_placeAt hD hX 0 (Nat.le_refl _) σ x1 r23 hr23) (prg_T_placeAt hts prw_426 (by have := hh; omega)) hX hXs hK hP hS (by decide) rfl rfl rfl rfl hl.1 (Nat.le_of_ble_eq_true rfl) prd_T_sameName_8 (fun H locs hP hS => ?_)
  refine lv_istore (lv' := [(4, .int r23), (3, .int r22), (0, .ref (ad 1)), (1, .int x1), (2, .int x2)]) hx hb prd_T_sameName_11 hl (by decide) rfl (fun ls hl => ?_)
  refine lv_aload_n hx hb prd_T_sameName_13 rfl (lv_at hl 2 rfl) ?_
  refine lv_iload_n hx hb prd_T_sameName_14 rfl (lv_at hl 4 rfl) ?_
  obtain ⟨r24, hr24, hf⟩ := pr_bi hf
  refine pr_callVr (rest := []) (r := r24) ⟨hx, hb, hml, hown, hts⟩ 1 (prc_T_placeAt hD hX 0 (Nat.le_refl _) σ x2 r24 hr24) (prg_T_placeAt hts prw_426 (by have := hh; omega)) hX hXs hK hP hS (by decide) rfl rfl rfl rfl hl.1 (Nat.le_of_ble_eq_true rfl) prd_T_sameName_15 (fun H locs hP hS => ?_)
  refine lv_istore (lv' := [(5, .int r24), (4, .int r23), (3, .int r22), (0, .ref (ad 1)), (1, .int x1), (2, .int x2)]) hx hb prd_T_sameName_18 hl (by decide) rfl (fun ls hl => ?_)
  refine lv_iload_n hx hb prd_T_sameName_20 rfl (lv_at hl 2 rfl) ?_
  refine lv_aload_n hx hb prd_T_sameName_21 rfl (lv_at hl 3 rfl) ?_
  refine lv_iload_n hx hb prd_T_sameName_22 rfl (lv_at hl 5 rfl) ?_
  obtain ⟨r25, hr25, hf⟩ := pr_bi hf
  refine pr_callVr (rest := [.int r22]) (r := r25) ⟨hx, hb, hml, hown, hts⟩ 1 (prc_T_valueAt hD hX 0 (Nat.le_refl _) σ x2 r25 hr25) (prg_T_valueAt hts prw_425 (by have := hh; omega)) hX hXs hK hP hS (by decide) rfl rfl rfl rfl hl.1 (Nat.le_of_ble_eq_true rfl) prd_T_sameName_23 (fun H locs hP hS => ?_)
  refine lv_icmp_ne (tgt := 57) hx hb prd_T_sameName_26 (by decide) (fun c26 => ?_) (fun c26 => ?_)
  · have hf := pr_ie c26 hf
    refine lv_iconst (v := 0) hx hb prd_T_sameName_57 (by decide) ?_
    refine lv_istore (lv' := [(6, .int 0), (5, .int r24), (4, .int r23), (3, .int r22), (0, .ref (ad 1)), (1, .int x1), (2, .int x2)]) hx hb prd_T_sameName_58 hl (by decide) rfl (fun ls hl => ?_)
    refine lv_iconst (v := 0) hx hb prd_T_sameName_60 (by decide) ?_
    refine lv_istore (lv' := [(7, .int 0), (6, .int 0), (5, .int r24), (4, .int r23), (3, .int r22), (0, .ref (ad 1)), (1, .int x1), (2, .int x2)]) hx hb prd_T_sameName_61 hl (by decide) rfl (fun ls hl => ?_)
    exact prk_T_sameName_63 hh E pr_FU σ r22 r23 r24 0 0 _ hf _ _ _ hP hS (lv_sub hl [5, 4, 3, 2, 1, 0] rfl)
  · have hf := pr_it c26 hf
    refine lv_iload hx hb prd_T_sameName_29 (lv_at hl 1 rfl) ?_
    refine lv_iload_n hx hb prd_T_sameName_31 rfl (lv_at hl 2 rfl) ?_
    refine lv_iadd hx hb prd_T_sameName_32 ?_
    refine lv_aload_n hx hb prd_T_sameName_33 rfl (lv_at hl 3 rfl) ?_
    refine pr_getr (t := 8) hx hb hts prs_T hown hK hP 1 0 (by decide) rfl (hts _ prw_5) rfl prd_T_sameName_34 ?_
    refine pr_alen (v := 8000) hx hb hK hP 8 (by decide) (by decide) prd_T_sameName_37 ?_
    refine lv_icmp_gt (tgt := 57) hx hb prd_T_sameName_38 (by decide) (fun c27 => ?_) (fun c27 => ?_)
    · have hf := pr_it c27 hf
      refine lv_iconst (v := 0) hx hb prd_T_sameName_57 (by decide) ?_
      refine lv_istore (lv' := [(6, .int 0), (5, .int r24), (4, .int r23), (3, .int r22), (0, .ref (ad 1)), (1, .int x1), (2, .int x2)]) hx hb prd_T_sameName_58 hl (by decide) rfl (fun ls hl => ?_)
      refine lv_iconst (v := 0) hx hb prd_T_sameName_60 (by decide) ?_
      refine lv_istore (lv' := [(7, .int 0), (6, .int 0), (5, .int r24), (4, .int r23), (3, .int r22), (0, .ref (ad 1)), (1, .int x1), (2, .int x2)]) hx hb prd_T_sameName_61 hl (by decide) rfl (fun ls hl => ?_)
      exact prk_T_sameName_63 hh E pr_FU σ r22 r23 r24 0 0 _ hf _ _ _ hP hS (lv_sub hl [5, 4, 3, 2, 1, 0] rfl)
    · have hf := pr_ie c27 hf
      refine lv_iload hx hb prd_T_sameName_41 (lv_at hl 0 rfl) ?_
      refine lv_iload_n hx hb prd_T_sameName_43 rfl (lv_at hl 2 rfl) ?_
      refine lv_iadd hx hb prd_T_sameName_44 ?_
      refine lv_aload_n hx hb prd_T_sameName_45 rfl (lv_at hl 3 rfl) ?_
      refine pr_getr (t := 8) hx hb hts prs_T hown hK hP 1 0 (by decide) rfl (hts _ prw_5) rfl prd_T_sameName_46 ?_
      refine pr_alen (v := 8000) hx hb hK hP 8 (by decide) (by decide) prd_T_sameName_49 ?_
      refine lv_icmp_gt (tgt := 57) hx hb prd_T_sameName_50 (by decide) (fun c28 => ?_) (fun c28 => ?_)
      · have hf := pr_it c28 hf
        refine lv_iconst (v := 0) hx hb prd_T_sameName_57 (by decide) ?_
        refine lv_istore (lv' := [(6, .int 0), (5, .int r24), (4, .int r23), (3, .int r22), (0, .ref (ad 1)), (1, .int x1), (2, .int x2)]) hx hb prd_T_sameName_58 hl (by decide) rfl (fun ls hl => ?_)
        refine lv_iconst (v := 0) hx hb prd_T_sameName_60 (by decide) ?_
        refine lv_istore (lv' := [(7, .int 0), (6, .int 0), (5, .int r24), (4, .int r23), (3, .int r22), (0, .ref (ad 1)), (1, .int x1), (2, .int x2)]) hx hb prd_T_sameName_61 hl (by decide) rfl (fun ls hl => ?_)
        exact prk_T_sameName_63 hh E pr_FU σ r22 r23 r24 0 0 _ hf _ _ _ hP hS (lv_sub hl [5, 4, 3, 2, 1, 0] rfl)
      · have hf := pr_ie c28 hf
        refine lv_iconst (v := 1) hx hb prd_T_sameName_53 (by decide) ?_
        refine lv_goto (tgt := 58) hx hb prd_T_sameName_54 (by decide) ?_
        refine lv_istore (lv' := [(6, .int 1), (5, .int r24), (4, .int r23), (3, .int r22), (0, .ref (ad 1)), (1, .int x1), (2, .int x2)]) hx hb prd_T_sameName_58 hl (by decide) rfl (fun ls hl => ?_)
        refine lv_iconst (v := 0) hx hb prd_T_sameName_60 (by decide) ?_
        refine lv_istore (lv' := [(7, .int 0), (6, .int 1), (5, .int r24), (4, .int r23), (3, .int r22), (0, .ref (ad 1)), (1, .int x1), (2, .int x2)]) hx hb prd_T_sameName_61 hl (by decide) rfl (fun ls hl => ?_)
        exact prk_T_sameName_63 hh E pr_FU σ r22 r23 r24 1 0 _ hf _ _ _ hP hS (lv_sub hl [5, 4, 3, 2, 1, 0] rfl)
-- T_count
set_option maxHeartbeats 4000000 in
set_option maxRecDepth 100000 in
theorem prc_T_count {l : Launch} {D : va_G} {ad : Nat → Nat} {dA : Nat → ClassId} {A : Nat → Prop} {t : Nat} (hD : ∀ σ : pr_St, va_D A (pr_w prc_L ad dA σ)) (hX : pr_Xok A (prX t A)) (h : Nat) (hh : 0 ≤ h) (σ : pr_St)  (res : Int32) (hf : prf_T_count σ  = some res) : Met l pry_T_count (Cond.code pry_T_count prb_T_count 1 (some .int) :: pr_U) (pr_rm h) (pr_Pc (prX t A) D pr_cl prc_L ad dA [.ref (ad 1)] σ) (pr_Qi D pr_cl prc_L ad dA A (res, σ)) 0 0 A := by
  refine pr_entry (cc := prb_T_count) (maxL := 1) (ret := (some .int)) (by decide) (Nat.le_of_ble_eq_true rfl) hD hX ?_
  intro p e s m args below meth c E H locs hP hS ls hl
  have hl : lv_has ls 1 [(0, .ref (ad 1))] := hl
  have hf := hf.symm
  unfold prf_T_count at hf
  obtain ⟨hx, hb, hml, hown, hts, hr, hlocks, hK, hD, hX, hXs⟩ := id E
  refine lv_aload_n hx hb prd_T_count_0 rfl (lv_at hl 0 rfl) ?_
  refine pr_geti (v := (σ.1 1 6)) hx hb hts prs_T hown hK hP 1 6 (by decide) rfl (hts _ prw_37) rfl rfl prd_T_count_1 ?_
  exact pr_reti E hP hS (pr_ro hf) prd_T_count_4
-- T_secondLimit
set_option maxHeartbeats 4000000 in
set_option maxRecDepth 100000 in
theorem prc_T_secondLimit {l : Launch} {D : va_G} {ad : Nat → Nat} {dA : Nat → ClassId} {A : Nat → Prop} {t : Nat} (hD : ∀ σ : pr_St, va_D A (pr_w prc_L ad dA σ)) (hX : pr_Xok A (prX t A)) (h : Nat) (hh : 1 ≤ h) (σ : pr_St) (x1 : Int32) (res : Int32) (hf : prf_T_secondLimit σ x1 = some res) : Met l pry_T_secondLimit (Cond.code pry_T_secondLimit prb_T_secondLimit 2 (some .int) :: pr_U) (pr_rm h) (pr_Pc (prX t A) D pr_cl prc_L ad dA [.ref (ad 1), .int x1] σ) (pr_Qi D pr_cl prc_L ad dA A (res, σ)) 0 0 A := by
  refine pr_entry (cc := prb_T_secondLimit) (maxL := 2) (ret := (some .int)) (by decide) (Nat.le_of_ble_eq_true rfl) hD hX ?_
  intro p e s m args below meth c E H locs hP hS ls hl
  have hl : lv_has ls 2 [(0, .ref (ad 1)), (1, .int x1)] := hl
  have hf := hf.symm
  unfold prf_T_secondLimit at hf
  obtain ⟨hx, hb, hml, hown, hts, hr, hlocks, hK, hD, hX, hXs⟩ := id E
  refine lv_iload_n hx hb prd_T_secondLimit_0 rfl (lv_at hl 1 rfl) ?_
  refine lv_aload_n hx hb prd_T_secondLimit_1 rfl (lv_at hl 0 rfl) ?_
  refine lv_iload_n hx hb prd_T_secondLimit_2 rfl (lv_at hl 1 rfl) ?_
  obtain ⟨r3, hr3, hf⟩ := pr_bi hf
  refine pr_callVr (rest := [.int x1]) (r := r3) ⟨hx, hb, hml, hown, hts⟩ 1 (prc_T_kindAt hD hX 0 (Nat.le_refl _) σ x1 r3 hr3) (prg_T_kindAt hts prw_488 (by have := hh; omega)) hX hXs hK hP hS (by decide) rfl rfl rfl rfl hl.1 (Nat.le_of_ble_eq_true rfl) prd_T_secondLimit_3 (fun H locs hP hS => ?_)
  refine lv_bipush (v := 22) hx hb prd_T_secondLimit_6 (by decide) ?_
  refine lv_icmp_ne (tgt := 15) hx hb prd_T_secondLimit_8 (by decide) (fun c4 => ?_) (fun c4 => ?_)
  · have hf := pr_ie c4 hf
    refine lv_iconst (v := 2) hx hb prd_T_secondLimit_15 (by decide) ?_
    refine lv_iadd hx hb prd_T_secondLimit_16 ?_
    exact pr_reti E hP hS (pr_ro hf) prd_T_secondLimit_17
  · have hf := pr_it c4 hf
    refine lv_iconst (v := 3) hx hb prd_T_secondLimit_11 (by decide) ?_
    refine lv_goto (tgt := 16) hx hb prd_T_secondLimit_12 (by decide) ?_
    refine lv_iadd hx hb prd_T_secondLimit_16 ?_
    exact pr_reti E hP hS (pr_ro hf) prd_T_secondLimit_17
-- T_limitAt
set_option maxHeartbeats 4000000 in
set_option maxRecDepth 100000 in
theorem prc_T_limitAt {l : Launch} {D : va_G} {ad : Nat → Nat} {dA : Nat → ClassId} {A : Nat → Prop} {t : Nat} (hD : ∀ σ : pr_St, va_D A (pr_w prc_L ad dA σ)) (hX : pr_Xok A (prX t A)) (h : Nat) (hh : 1 ≤ h) (σ : pr_St) (x1 : Int32) (res : Int32) (hf : prf_T_limitAt σ x1 = some res) : Met l pry_T_limitAt (Cond.code pry_T_limitAt prb_T_limitAt 2 (some .int) :: pr_U) (pr_rm h) (pr_Pc (prX t A) D pr_cl prc_L ad dA [.ref (ad 1), .int x1] σ) (pr_Qi D pr_cl prc_L ad dA A (res, σ)) 0 0 A := by
  refine pr_entry (cc := prb_T_limitAt) (maxL := 2) (ret := (some .int)) (by decide) (Nat.le_of_ble_eq_true rfl) hD hX ?_
  intro p e s m args below meth c E H locs hP hS ls hl
  have hl : lv_has ls 2 [(0, .ref (ad 1)), (1, .int x1)] := hl
  have hf := hf.symm
  unfold prf_T_limitAt at hf
  obtain ⟨hx, hb, hml, hown, hts, hr, hlocks, hK, hD, hX, hXs⟩ := id E
  refine lv_aload_n hx hb prd_T_limitAt_0 rfl (lv_at hl 0 rfl) ?_
  refine lv_iload_n hx hb prd_T_limitAt_1 rfl (lv_at hl 1 rfl) ?_
  obtain ⟨r5, hr5, hf⟩ := pr_bi hf
  refine pr_callVr (rest := []) (r := r5) ⟨hx, hb, hml, hown, hts⟩ 1 (prc_T_kindAt hD hX 0 (Nat.le_refl _) σ x1 r5 hr5) (prg_T_kindAt hts prw_488 (by have := hh; omega)) hX hXs hK hP hS (by decide) rfl rfl rfl rfl hl.1 (Nat.le_of_ble_eq_true rfl) prd_T_limitAt_2 (fun H locs hP hS => ?_)
  refine lv_bipush (v := 22) hx hb prd_T_limitAt_5 (by decide) ?_
  refine lv_icmp_ne (tgt := 21) hx hb prd_T_limitAt_7 (by decide) (fun c6 => ?_) (fun c6 => ?_)
  · have hf := pr_ie c6 hf
    refine lv_aload_n hx hb prd_T_limitAt_21 rfl (lv_at hl 0 rfl) ?_
    refine lv_iload_n hx hb prd_T_limitAt_22 rfl (lv_at hl 1 rfl) ?_
    obtain ⟨r7, hr7, hf⟩ := pr_bi hf
    refine pr_callVr (rest := []) (r := r7) ⟨hx, hb, hml, hown, hts⟩ 1 (prc_T_valueAt hD hX 0 (Nat.le_refl _) σ x1 r7 hr7) (prg_T_valueAt hts prw_425 (by have := hh; omega)) hX hXs hK hP hS (by decide) rfl rfl rfl rfl hl.1 (Nat.le_of_ble_eq_true rfl) prd_T_limitAt_23 (fun H locs hP hS => ?_)
    exact pr_reti E hP hS (pr_ro hf) prd_T_limitAt_26
  · have hf := pr_it c6 hf
    refine lv_aload_n hx hb prd_T_limitAt_10 rfl (lv_at hl 0 rfl) ?_
    refine lv_iload_n hx hb prd_T_limitAt_11 rfl (lv_at hl 1 rfl) ?_
    refine lv_iconst (v := 1) hx hb prd_T_limitAt_12 (by decide) ?_
    refine lv_iadd hx hb prd_T_limitAt_13 ?_
    obtain ⟨r8, hr8, hf⟩ := pr_bi hf
    refine pr_callVr (rest := []) (r := r8) ⟨hx, hb, hml, hown, hts⟩ 1 (prc_T_valueAt hD hX 0 (Nat.le_refl _) σ (x1 + 1) r8 hr8) (prg_T_valueAt hts prw_425 (by have := hh; omega)) hX hXs hK hP hS (by decide) rfl rfl rfl rfl hl.1 (Nat.le_of_ble_eq_true rfl) prd_T_limitAt_14 (fun H locs hP hS => ?_)
    refine lv_ineg hx hb prd_T_limitAt_17 ?_
    refine lv_goto (tgt := 26) hx hb prd_T_limitAt_18 (by decide) ?_
    exact pr_reti E hP hS (pr_ro hf) prd_T_limitAt_26
