-- X_nothing
set_option maxHeartbeats 4000000 in
set_option maxRecDepth 100000 in
theorem prc_X_nothing {l : Launch} {D : va_G} {ad : Nat → Nat} {dA : Nat → ClassId} {A : Nat → Prop} {v : Nat → Nat} {r : Value} (hD : ∀ σ : pr_St, va_D A (pr_w prx_L ad dA σ)) (hX : pr_Xok A (prY ad v r A)) (h : Nat) (hh : 0 ≤ h) (σ : pr_St)  (res : pr_St) (hf : prf_X_nothing σ  = some res) : Met l pry_X_nothing (Cond.code pry_X_nothing prb_X_nothing 1 none :: pr_U) (pr_rm h) (pr_Pc (prY ad v r A) D pr_cl prx_L ad dA [.ref (ad 0)] σ) (pr_Qv D pr_cl prx_L ad dA A res) 0 0 A := by
  refine pr_entry (cc := prb_X_nothing) (maxL := 1) (ret := none) (by decide) (Nat.le_of_ble_eq_true rfl) hD hX ?_
  intro p e s m args below meth c E H locs hP hS ls hl
  have hl : lv_has ls 1 [(0, .ref (ad 0))] := hl
  have hf := hf.symm
  unfold prf_X_nothing at hf
  obtain ⟨hx, hb, hml, hown, hts, hr, hlocks, hK, hD, hX, hXs⟩ := id E
  refine lv_aload_n hx hb prd_X_nothing_0 rfl (lv_at hl 0 rfl) ?_
  refine lv_iconst (v := 1) hx hb prd_X_nothing_1 (by decide) ?_
  refine pr_puti (ty := .int) hx hb hts prs_X prq_X prtt_X prtn_X hown hK hP (hD _) hS 0 33 (by decide) rfl (hts _ prw_822) rfl rfl (prtt_X 33 (by decide)) rfl rfl prd_X_nothing_2 (fun H locs hP hS => ?_)
  refine lv_aload_n hx hb prd_X_nothing_5 rfl (lv_at hl 0 rfl) ?_
  refine pr_getr (t := 20) hx hb hts prs_X hown hK hP 0 28 (by decide) rfl (hts _ prw_823) rfl prd_X_nothing_6 ?_
  refine lv_iconst (v := 0) hx hb prd_X_nothing_9 (by decide) ?_
  refine lv_iconst (v := (-1)) hx hb prd_X_nothing_10 (by decide) ?_
  obtain ⟨hi6, hf⟩ := pr_ck_in hf
  refine pr_iast (f := (σ.2.1 20)) hx hb hK hP (hD _) hS 20 (by decide) rfl hi6 rfl prd_X_nothing_11 (fun H locs hP hS => ?_)
  refine lv_aload_n hx hb prd_X_nothing_12 rfl (lv_at hl 0 rfl) ?_
  refine pr_getr (t := 21) hx hb hts prs_X hown hK hP 0 29 (by decide) rfl (hts _ prw_824) rfl prd_X_nothing_13 ?_
  refine lv_iconst (v := 0) hx hb prd_X_nothing_16 (by decide) ?_
  refine lv_iconst (v := (-1)) hx hb prd_X_nothing_17 (by decide) ?_
  obtain ⟨hi7, hf⟩ := pr_ck_in hf
  refine pr_iast (f := (σ.2.1 21)) hx hb hK hP (hD _) hS 21 (by decide) rfl hi7 rfl prd_X_nothing_18 (fun H locs hP hS => ?_)
  refine lv_aload_n hx hb prd_X_nothing_19 rfl (lv_at hl 0 rfl) ?_
  refine pr_getr (t := 22) hx hb hts prs_X hown hK hP 0 30 (by decide) rfl (hts _ prw_825) rfl prd_X_nothing_20 ?_
  refine lv_iconst (v := 0) hx hb prd_X_nothing_23 (by decide) ?_
  refine lv_iconst (v := 1) hx hb prd_X_nothing_24 (by decide) ?_
  obtain ⟨hi8, hf⟩ := pr_ck_in hf
  refine pr_iast (f := (σ.2.1 22)) hx hb hK hP (hD _) hS 22 (by decide) rfl hi8 rfl prd_X_nothing_25 (fun H locs hP hS => ?_)
  refine lv_aload_n hx hb prd_X_nothing_26 rfl (lv_at hl 0 rfl) ?_
  refine pr_getr (t := 23) hx hb hts prs_X hown hK hP 0 31 (by decide) rfl (hts _ prw_826) rfl prd_X_nothing_27 ?_
  refine lv_iconst (v := 0) hx hb prd_X_nothing_30 (by decide) ?_
  refine lv_iconst (v := 0) hx hb prd_X_nothing_31 (by decide) ?_
  obtain ⟨hi9, hf⟩ := pr_ck_in hf
  refine pr_iast (f := (σ.2.1 23)) hx hb hK hP (hD _) hS 23 (by decide) rfl hi9 rfl prd_X_nothing_32 (fun H locs hP hS => ?_)
  refine lv_aload_n hx hb prd_X_nothing_33 rfl (lv_at hl 0 rfl) ?_
  refine pr_getr (t := 24) hx hb hts prs_X hown hK hP 0 32 (by decide) rfl (hts _ prw_827) rfl prd_X_nothing_34 ?_
  refine lv_iconst (v := 0) hx hb prd_X_nothing_37 (by decide) ?_
  refine lv_iconst (v := 0) hx hb prd_X_nothing_38 (by decide) ?_
  obtain ⟨hi10, hf⟩ := pr_ck_in hf
  refine pr_iast (f := (σ.2.1 24)) hx hb hK hP (hD _) hS 24 (by decide) rfl hi10 rfl prd_X_nothing_39 (fun H locs hP hS => ?_)
  refine lv_aload_n hx hb prd_X_nothing_40 rfl (lv_at hl 0 rfl) ?_
  refine lv_iconst (v := 0) hx hb prd_X_nothing_41 (by decide) ?_
  refine pr_puti (ty := .int) hx hb hts prs_X prq_X prtt_X prtn_X hown hK hP (hD _) hS 0 55 (by decide) rfl (hts _ prw_828) rfl rfl (prtt_X 55 (by decide)) rfl rfl prd_X_nothing_42 (fun H locs hP hS => ?_)
  refine lv_aload_n hx hb prd_X_nothing_45 rfl (lv_at hl 0 rfl) ?_
  refine lv_iconst (v := 0) hx hb prd_X_nothing_46 (by decide) ?_
  refine pr_puti (ty := .int) hx hb hts prs_X prq_X prtt_X prtn_X hown hK hP (hD _) hS 0 56 (by decide) rfl (hts _ prw_829) rfl rfl (prtt_X 56 (by decide)) rfl rfl prd_X_nothing_47 (fun H locs hP hS => ?_)
  refine lv_aload_n hx hb prd_X_nothing_50 rfl (lv_at hl 0 rfl) ?_
  refine lv_iconst (v := 0) hx hb prd_X_nothing_51 (by decide) ?_
  refine pr_puti (ty := .int) hx hb hts prs_X prq_X prtt_X prtn_X hown hK hP (hD _) hS 0 57 (by decide) rfl (hts _ prw_830) rfl rfl (prtt_X 57 (by decide)) rfl rfl prd_X_nothing_52 (fun H locs hP hS => ?_)
  exact pr_retv E hP hS (pr_so hf) prd_X_nothing_55
-- X_add
set_option maxHeartbeats 4000000 in
set_option maxRecDepth 100000 in
theorem prk_X_add_55 {l : Launch} {D : va_G} {ad : Nat → Nat} {dA : Nat → ClassId} {A : Nat → Prop} {v : Nat → Nat} {r : Value} {p : Program} {e : Env} {s : State} {m : MethodId} {args : Array Value} {below : List Frame} {meth : Method} {c : Code} {h : Nat} (hh : 0 ≤ h) (E : pr_cx prn_X prb_X_add 6 (some .int) D pr_cl prx_L ad dA A (prY ad v r A) p s m args meth c) : ∀ n : Nat, ∀ (σ : pr_St) (x5 : Int32) (res : (Int32 × pr_St)), some res = prf_X_add_55 n σ x5 → ∀ (H : Heap) (locs : List Loc) (ls : Array Slot), va_P D pr_cl (pr_w prx_L ad dA σ) H → va_S A s.heap H locs → lv_has ls 6 [(0, .ref (ad 0)), (5, .int x5)] → W p l e (pr_rm h) s m args below meth c H locs 0 0 (MQ below (pr_Qi D pr_cl prx_L ad dA A res) args s 0 0 A) (F0 m 55 ls []) := by
  obtain ⟨hx, hb, hml, hown, hts, hr, hlocks, hK, hD, hX, hXs⟩ := id E
  intro n
  induction n with
  | zero =>
    intro σ x5 res hf
    rw [prf_X_add_55] at hf
    cases hf
  | succ n ih =>
    intro σ x5 res hf H locs ls hP hS hl
    rw [prf_X_add_55] at hf
    refine lv_iload hx hb prd_X_add_55 (lv_at hl 1 rfl) ?_
    refine lv_iconst (v := (-1)) hx hb prd_X_add_57 (by decide) ?_
    refine lv_icmp_eq (tgt := 84) hx hb prd_X_add_58 (by decide) (fun c10 => ?_) (fun c10 => ?_)
    · have hf := pr_it c10 hf
      refine lv_aload_n hx hb prd_X_add_84 rfl (lv_at hl 0 rfl) ?_
      refine lv_dup hx hb prd_X_add_85 rfl ?_
      refine pr_geti (v := (σ.1 0 24)) hx hb hts prs_X hown hK hP 0 24 (by decide) rfl (hts _ prw_836) rfl rfl prd_X_add_86 ?_
      refine lv_iconst (v := 1) hx hb prd_X_add_89 (by decide) ?_
      refine lv_iadd hx hb prd_X_add_90 ?_
      refine pr_puti (ty := .int) hx hb hts prs_X prq_X prtt_X prtn_X hown hK hP (hD _) hS 0 24 (by decide) rfl (hts _ prw_836) rfl rfl (prtt_X 24 (by decide)) rfl rfl prd_X_add_91 (fun H locs hP hS => ?_)
      refine lv_aload_n hx hb prd_X_add_94 rfl (lv_at hl 0 rfl) ?_
      refine pr_geti (v := ((σ.1 0 24) + 1)) hx hb hts prs_X hown hK hP 0 24 (by decide) rfl (hts _ prw_836) rfl rfl prd_X_add_95 ?_
      refine lv_iconst (v := 1) hx hb prd_X_add_98 (by decide) ?_
      refine lv_isub hx hb prd_X_add_99 ?_
      exact pr_reti E hP hS (pr_so hf) prd_X_add_100
    · have hf := pr_ie c10 hf
      refine lv_aload_n hx hb prd_X_add_61 rfl (lv_at hl 0 rfl) ?_
      refine pr_getr (t := 17) hx hb hts prs_X hown hK hP 0 23 (by decide) rfl (hts _ prw_840) rfl prd_X_add_62 ?_
      refine lv_iload hx hb prd_X_add_65 (lv_at hl 1 rfl) ?_
      refine lv_dup2_11 hx hb prd_X_add_67 rfl rfl ?_
      obtain ⟨hi11, hf⟩ := pr_ck_in hf
      refine pr_iald (f := (σ.2.1 17)) hx hb hK hP 17 (by decide) rfl hi11 rfl prd_X_add_68 ?_
      refine lv_iconst (v := 1) hx hb prd_X_add_69 (by decide) ?_
      refine lv_iadd hx hb prd_X_add_70 ?_
      obtain ⟨hi12, hf⟩ := pr_ck_in hf
      refine pr_iast (f := (σ.2.1 17)) hx hb hK hP (hD _) hS 17 (by decide) rfl hi12 rfl prd_X_add_71 (fun H locs hP hS => ?_)
      refine lv_aload_n hx hb prd_X_add_72 rfl (lv_at hl 0 rfl) ?_
      refine pr_getr (t := 16) hx hb hts prs_X hown hK hP 0 22 (by decide) rfl (hts _ prw_839) rfl prd_X_add_73 ?_
      refine lv_iload hx hb prd_X_add_76 (lv_at hl 1 rfl) ?_
      obtain ⟨hi13, hf⟩ := pr_ck_in hf
      refine pr_iald (f := (σ.2.1 16)) hx hb hK hP 16 (by decide) rfl hi13 rfl prd_X_add_78 ?_
      refine lv_istore (lv' := [(5, .int ((σ.2.1 16) x5.toNatClampNeg)), (0, .ref (ad 0))]) hx hb prd_X_add_79 hl (by decide) rfl (fun ls hl => ?_)
      refine lv_goto (tgt := 55) hx hb prd_X_add_81 (by decide) ?_
      exact ih (pr_sA σ 17 (upd (σ.2.1 17) x5.toNatClampNeg (((σ.2.1 17) x5.toNatClampNeg) + 1))) ((σ.2.1 16) x5.toNatClampNeg) _ hf _ _ _ hP hS (lv_sub hl [1, 0] rfl)
set_option maxHeartbeats 4000000 in
set_option maxRecDepth 100000 in
theorem prc_X_add {l : Launch} {D : va_G} {ad : Nat → Nat} {dA : Nat → ClassId} {A : Nat → Prop} {v : Nat → Nat} {r : Value} (hD : ∀ σ : pr_St, va_D A (pr_w prx_L ad dA σ)) (hX : pr_Xok A (prY ad v r A)) (h : Nat) (hh : 0 ≤ h) (σ : pr_St) (x1 : Int32) (x2 : Int32) (x3 : Int32) (x4 : Int32) (res : (Int32 × pr_St)) (hf : prf_X_add σ x1 x2 x3 x4 = some res) : Met l pry_X_add (Cond.code pry_X_add prb_X_add 6 (some .int) :: pr_U) (pr_rm h) (pr_Pc (prY ad v r A) D pr_cl prx_L ad dA [.ref (ad 0), .int x1, .int x2, .int x3, .int x4] σ) (pr_Qi D pr_cl prx_L ad dA A res) 0 0 A := by
  refine pr_entry (cc := prb_X_add) (maxL := 6) (ret := (some .int)) (by decide) (Nat.le_of_ble_eq_true rfl) hD hX ?_
  intro p e s m args below meth c E H locs hP hS ls hl
  have hl : lv_has ls 6 [(0, .ref (ad 0)), (1, .int x1), (2, .int x2), (3, .int x3), (4, .int x4)] := hl
  have hf := hf.symm
  unfold prf_X_add at hf
  obtain ⟨hx, hb, hml, hown, hts, hr, hlocks, hK, hD, hX, hXs⟩ := id E
  refine lv_aload_n hx hb prd_X_add_0 rfl (lv_at hl 0 rfl) ?_
  refine pr_getr (t := 13) hx hb hts prs_X hown hK hP 0 19 (by decide) rfl (hts _ prw_835) rfl prd_X_add_1 ?_
  refine lv_aload_n hx hb prd_X_add_4 rfl (lv_at hl 0 rfl) ?_
  refine pr_geti (v := (σ.1 0 24)) hx hb hts prs_X hown hK hP 0 24 (by decide) rfl (hts _ prw_836) rfl rfl prd_X_add_5 ?_
  refine lv_iload_n hx hb prd_X_add_8 rfl (lv_at hl 1 rfl) ?_
  obtain ⟨hi14, hf⟩ := pr_ck_in hf
  refine pr_iast (f := (σ.2.1 13)) hx hb hK hP (hD _) hS 13 (by decide) rfl hi14 rfl prd_X_add_9 (fun H locs hP hS => ?_)
  refine lv_aload_n hx hb prd_X_add_10 rfl (lv_at hl 0 rfl) ?_
  refine pr_getr (t := 14) hx hb hts prs_X hown hK hP 0 20 (by decide) rfl (hts _ prw_837) rfl prd_X_add_11 ?_
  refine lv_aload_n hx hb prd_X_add_14 rfl (lv_at hl 0 rfl) ?_
  refine pr_geti (v := (σ.1 0 24)) hx hb hts prs_X hown hK hP 0 24 (by decide) rfl (hts _ prw_836) rfl rfl prd_X_add_15 ?_
  refine lv_iload_n hx hb prd_X_add_18 rfl (lv_at hl 2 rfl) ?_
  obtain ⟨hi15, hf⟩ := pr_ck_in hf
  refine pr_iast (f := (σ.2.1 14)) hx hb hK hP (hD _) hS 14 (by decide) rfl hi15 rfl prd_X_add_19 (fun H locs hP hS => ?_)
  refine lv_aload_n hx hb prd_X_add_20 rfl (lv_at hl 0 rfl) ?_
  refine pr_getr (t := 15) hx hb hts prs_X hown hK hP 0 21 (by decide) rfl (hts _ prw_838) rfl prd_X_add_21 ?_
  refine lv_aload_n hx hb prd_X_add_24 rfl (lv_at hl 0 rfl) ?_
  refine pr_geti (v := (σ.1 0 24)) hx hb hts prs_X hown hK hP 0 24 (by decide) rfl (hts _ prw_836) rfl rfl prd_X_add_25 ?_
  refine lv_iload_n hx hb prd_X_add_28 rfl (lv_at hl 3 rfl) ?_
  obtain ⟨hi16, hf⟩ := pr_ck_in hf
  refine pr_iast (f := (σ.2.1 15)) hx hb hK hP (hD _) hS 15 (by decide) rfl hi16 rfl prd_X_add_29 (fun H locs hP hS => ?_)
  refine lv_aload_n hx hb prd_X_add_30 rfl (lv_at hl 0 rfl) ?_
  refine pr_getr (t := 16) hx hb hts prs_X hown hK hP 0 22 (by decide) rfl (hts _ prw_839) rfl prd_X_add_31 ?_
  refine lv_aload_n hx hb prd_X_add_34 rfl (lv_at hl 0 rfl) ?_
  refine pr_geti (v := (σ.1 0 24)) hx hb hts prs_X hown hK hP 0 24 (by decide) rfl (hts _ prw_836) rfl rfl prd_X_add_35 ?_
  refine lv_iload hx hb prd_X_add_38 (lv_at hl 4 rfl) ?_
  obtain ⟨hi17, hf⟩ := pr_ck_in hf
  refine pr_iast (f := (σ.2.1 16)) hx hb hK hP (hD _) hS 16 (by decide) rfl hi17 rfl prd_X_add_40 (fun H locs hP hS => ?_)
  refine lv_aload_n hx hb prd_X_add_41 rfl (lv_at hl 0 rfl) ?_
  refine pr_getr (t := 17) hx hb hts prs_X hown hK hP 0 23 (by decide) rfl (hts _ prw_840) rfl prd_X_add_42 ?_
  refine lv_aload_n hx hb prd_X_add_45 rfl (lv_at hl 0 rfl) ?_
  refine pr_geti (v := (σ.1 0 24)) hx hb hts prs_X hown hK hP 0 24 (by decide) rfl (hts _ prw_836) rfl rfl prd_X_add_46 ?_
  refine lv_iconst (v := 1) hx hb prd_X_add_49 (by decide) ?_
  obtain ⟨hi18, hf⟩ := pr_ck_in hf
  refine pr_iast (f := (σ.2.1 17)) hx hb hK hP (hD _) hS 17 (by decide) rfl hi18 rfl prd_X_add_50 (fun H locs hP hS => ?_)
  refine lv_iload hx hb prd_X_add_51 (lv_at hl 4 rfl) ?_
  refine lv_istore (lv' := [(5, .int x4), (0, .ref (ad 0)), (1, .int x1), (2, .int x2), (3, .int x3), (4, .int x4)]) hx hb prd_X_add_53 hl (by decide) rfl (fun ls hl => ?_)
  exact prk_X_add_55 hh E pr_FU (pr_sA (pr_sA (pr_sA (pr_sA (pr_sA σ 13 (upd (σ.2.1 13) (σ.1 0 24).toNatClampNeg x1)) 14 (upd (σ.2.1 14) (σ.1 0 24).toNatClampNeg x2)) 15 (upd (σ.2.1 15) (σ.1 0 24).toNatClampNeg x3)) 16 (upd (σ.2.1 16) (σ.1 0 24).toNatClampNeg x4)) 17 (upd (σ.2.1 17) (σ.1 0 24).toNatClampNeg 1)) x4 _ hf _ _ _ hP hS (lv_sub hl [1, 0] rfl)
-- X_feed
set_option maxHeartbeats 4000000 in
set_option maxRecDepth 100000 in
theorem prk_X_feed_18 {l : Launch} {D : va_G} {ad : Nat → Nat} {dA : Nat → ClassId} {A : Nat → Prop} {v : Nat → Nat} {r : Value} {p : Program} {e : Env} {s : State} {m : MethodId} {args : Array Value} {below : List Frame} {meth : Method} {c : Code} {h : Nat} (hh : 0 ≤ h) (E : pr_cx prn_X prb_X_feed 8 (some .int) D pr_cl prx_L ad dA A (prY ad v r A) p s m args meth c) : ∀ n : Nat, ∀ (σ : pr_St) (x1 : Int32) (x2 : Int32) (x3 : Int32) (x4 : Int32) (x5 : Int32) (x6 : Int32) (res : (Int32 × pr_St)), some res = prf_X_feed_18 n σ x1 x2 x3 x4 x5 x6 → ∀ (H : Heap) (locs : List Loc) (ls : Array Slot), va_P D pr_cl (pr_w prx_L ad dA σ) H → va_S A s.heap H locs → lv_has ls 8 [(0, .ref (ad 0)), (1, .int x1), (2, .int x2), (3, .int x3), (4, .int x4), (5, .int x5), (6, .int x6)] → W p l e (pr_rm h) s m args below meth c H locs 0 0 (MQ below (pr_Qi D pr_cl prx_L ad dA A res) args s 0 0 A) (F0 m 18 ls []) := by
  obtain ⟨hx, hb, hml, hown, hts, hr, hlocks, hK, hD, hX, hXs⟩ := id E
  intro n
  induction n with
  | zero =>
    intro σ x1 x2 x3 x4 x5 x6 res hf
    rw [prf_X_feed_18] at hf
    cases hf
  | succ n ih =>
    intro σ x1 x2 x3 x4 x5 x6 res hf H locs ls hP hS hl
    rw [prf_X_feed_18] at hf
    refine lv_iload hx hb prd_X_feed_18 (lv_at hl 6 rfl) ?_
    refine lv_bipush (v := 20) hx hb prd_X_feed_20 (by decide) ?_
    refine lv_icmp_ge (tgt := 115) hx hb prd_X_feed_22 (by decide) (fun c17 => ?_) (fun c17 => ?_)
    · have hf := pr_it c17 hf
      refine lv_aload_n hx hb prd_X_feed_115 rfl (lv_at hl 0 rfl) ?_
      refine pr_geti (v := (σ.1 0 2)) hx hb hts prs_X hown hK hP 0 2 (by decide) rfl (hts _ prw_844) rfl rfl prd_X_feed_116 ?_
      exact pr_reti E hP hS (pr_so hf) prd_X_feed_119
    · have hf := pr_ie c17 hf
      refine lv_iload hx hb prd_X_feed_25 (lv_at hl 6 rfl) ?_
      refine lv_iconst (v := 4) hx hb prd_X_feed_27 (by decide) ?_
      refine lv_icmp_ge (tgt := 35) hx hb prd_X_feed_28 (by decide) (fun c18 => ?_) (fun c18 => ?_)
      · have hf := pr_it c18 hf
        refine lv_iload hx hb prd_X_feed_35 (lv_at hl 6 rfl) ?_
        refine lv_bipush (v := 8) hx hb prd_X_feed_37 (by decide) ?_
        refine lv_icmp_ge (tgt := 46) hx hb prd_X_feed_39 (by decide) (fun c19 => ?_) (fun c19 => ?_)
        · have hf := pr_it c19 hf
          refine lv_iload hx hb prd_X_feed_46 (lv_at hl 6 rfl) ?_
          refine lv_bipush (v := 12) hx hb prd_X_feed_48 (by decide) ?_
          refine lv_icmp_ge (tgt := 57) hx hb prd_X_feed_50 (by decide) (fun c20 => ?_) (fun c20 => ?_)
          · have hf := pr_it c20 hf
            refine lv_iload hx hb prd_X_feed_57 (lv_at hl 6 rfl) ?_
            refine lv_bipush (v := 16) hx hb prd_X_feed_59 (by decide) ?_
            refine lv_icmp_ge (tgt := 69) hx hb prd_X_feed_61 (by decide) (fun c21 => ?_) (fun c21 => ?_)
            · have hf := pr_it c21 hf
              refine lv_iload hx hb prd_X_feed_69 (lv_at hl 5 rfl) ?_
              refine lv_istore (lv' := [(7, .int x5), (0, .ref (ad 0)), (1, .int x1), (2, .int x2), (3, .int x3), (4, .int x4), (5, .int x5), (6, .int x6)]) hx hb prd_X_feed_71 hl (by decide) rfl (fun ls hl => ?_)
              refine lv_aload_n hx hb prd_X_feed_73 rfl (lv_at hl 1 rfl) ?_
              refine pr_getr (t := 2) hx hb hts prs_X hown hK hP 0 1 (by decide) rfl (hts _ prw_845) rfl prd_X_feed_74 ?_
              refine lv_aload_n hx hb prd_X_feed_77 rfl (lv_at hl 1 rfl) ?_
              refine pr_geti (v := (σ.1 0 2)) hx hb hts prs_X hown hK hP 0 2 (by decide) rfl (hts _ prw_844) rfl rfl prd_X_feed_78 ?_
              refine lv_iload hx hb prd_X_feed_81 (lv_at hl 0 rfl) ?_
              refine lv_bipush (v := 24) hx hb prd_X_feed_83 (by decide) ?_
              refine lv_bipush (v := 8) hx hb prd_X_feed_85 (by decide) ?_
              refine lv_iload hx hb prd_X_feed_87 (lv_at hl 7 rfl) ?_
              refine lv_iconst (v := 4) hx hb prd_X_feed_89 (by decide) ?_
              obtain ⟨hz22, hf⟩ := pr_nz_in hf
              refine lv_irem hx hb prd_X_feed_90 hz22 ?_
              refine lv_imul hx hb prd_X_feed_91 ?_
              refine lv_isub hx hb prd_X_feed_92 ?_
              refine lv_ishr hx hb prd_X_feed_93 ?_
              refine lv_sipush (v := 255) hx hb prd_X_feed_94 (by decide) ?_
              refine lv_iand hx hb prd_X_feed_97 ?_
              obtain ⟨hi23, hf⟩ := pr_ck_in hf
              refine pr_iast (f := (σ.2.1 2)) hx hb hK hP (hD _) hS 2 (by decide) rfl hi23 rfl prd_X_feed_98 (fun H locs hP hS => ?_)
              refine lv_aload_n hx hb prd_X_feed_99 rfl (lv_at hl 1 rfl) ?_
              refine lv_dup hx hb prd_X_feed_100 rfl ?_
              refine pr_geti (v := (σ.1 0 2)) hx hb hts prs_X hown hK hP 0 2 (by decide) rfl (hts _ prw_844) rfl rfl prd_X_feed_101 ?_
              refine lv_iconst (v := 1) hx hb prd_X_feed_104 (by decide) ?_
              refine lv_iadd hx hb prd_X_feed_105 ?_
              refine pr_puti (ty := .int) hx hb hts prs_X prq_X prtt_X prtn_X hown hK hP (hD _) hS 0 2 (by decide) rfl (hts _ prw_844) rfl rfl (prtt_X 2 (by decide)) rfl rfl prd_X_feed_106 (fun H locs hP hS => ?_)
              refine lv_iinc (v := (x6 + 1)) (lv' := [(6, .int (x6 + 1)), (7, .int x5), (0, .ref (ad 0)), (1, .int x1), (2, .int x2), (3, .int x3), (4, .int x4), (5, .int x5)]) hx hb prd_X_feed_109 hl (k := 7) rfl rfl (by decide) rfl (fun ls hl => ?_)
              refine lv_goto (tgt := 18) hx hb prd_X_feed_112 (by decide) ?_
              exact ih (pr_sI (pr_sA σ 2 (upd (σ.2.1 2) (σ.1 0 2).toNatClampNeg ((x5 >>> ((24 - (8 * (x6 - x6 / 4 * 4))) &&& 31)) &&& 255))) 0 2 ((σ.1 0 2) + 1)) x1 x2 x3 x4 x5 (x6 + 1) _ hf _ _ _ hP hS (lv_sub hl [2, 3, 4, 5, 6, 7, 0] rfl)
            · have hf := pr_ie c21 hf
              refine lv_iload hx hb prd_X_feed_64 (lv_at hl 4 rfl) ?_
              refine lv_goto (tgt := 71) hx hb prd_X_feed_66 (by decide) ?_
              refine lv_istore (lv' := [(7, .int x4), (0, .ref (ad 0)), (1, .int x1), (2, .int x2), (3, .int x3), (4, .int x4), (5, .int x5), (6, .int x6)]) hx hb prd_X_feed_71 hl (by decide) rfl (fun ls hl => ?_)
              refine lv_aload_n hx hb prd_X_feed_73 rfl (lv_at hl 1 rfl) ?_
              refine pr_getr (t := 2) hx hb hts prs_X hown hK hP 0 1 (by decide) rfl (hts _ prw_845) rfl prd_X_feed_74 ?_
              refine lv_aload_n hx hb prd_X_feed_77 rfl (lv_at hl 1 rfl) ?_
              refine pr_geti (v := (σ.1 0 2)) hx hb hts prs_X hown hK hP 0 2 (by decide) rfl (hts _ prw_844) rfl rfl prd_X_feed_78 ?_
              refine lv_iload hx hb prd_X_feed_81 (lv_at hl 0 rfl) ?_
              refine lv_bipush (v := 24) hx hb prd_X_feed_83 (by decide) ?_
              refine lv_bipush (v := 8) hx hb prd_X_feed_85 (by decide) ?_
              refine lv_iload hx hb prd_X_feed_87 (lv_at hl 7 rfl) ?_
              refine lv_iconst (v := 4) hx hb prd_X_feed_89 (by decide) ?_
              obtain ⟨hz24, hf⟩ := pr_nz_in hf
              refine lv_irem hx hb prd_X_feed_90 hz24 ?_
              refine lv_imul hx hb prd_X_feed_91 ?_
              refine lv_isub hx hb prd_X_feed_92 ?_
              refine lv_ishr hx hb prd_X_feed_93 ?_
              refine lv_sipush (v := 255) hx hb prd_X_feed_94 (by decide) ?_
              refine lv_iand hx hb prd_X_feed_97 ?_
              obtain ⟨hi25, hf⟩ := pr_ck_in hf
              refine pr_iast (f := (σ.2.1 2)) hx hb hK hP (hD _) hS 2 (by decide) rfl hi25 rfl prd_X_feed_98 (fun H locs hP hS => ?_)
              refine lv_aload_n hx hb prd_X_feed_99 rfl (lv_at hl 1 rfl) ?_
              refine lv_dup hx hb prd_X_feed_100 rfl ?_
              refine pr_geti (v := (σ.1 0 2)) hx hb hts prs_X hown hK hP 0 2 (by decide) rfl (hts _ prw_844) rfl rfl prd_X_feed_101 ?_
              refine lv_iconst (v := 1) hx hb prd_X_feed_104 (by decide) ?_
              refine lv_iadd hx hb prd_X_feed_105 ?_
              refine pr_puti (ty := .int) hx hb hts prs_X prq_X prtt_X prtn_X hown hK hP (hD _) hS 0 2 (by decide) rfl (hts _ prw_844) rfl rfl (prtt_X 2 (by decide)) rfl rfl prd_X_feed_106 (fun H locs hP hS => ?_)
              refine lv_iinc (v := (x6 + 1)) (lv' := [(6, .int (x6 + 1)), (7, .int x4), (0, .ref (ad 0)), (1, .int x1), (2, .int x2), (3, .int x3), (4, .int x4), (5, .int x5)]) hx hb prd_X_feed_109 hl (k := 7) rfl rfl (by decide) rfl (fun ls hl => ?_)
              refine lv_goto (tgt := 18) hx hb prd_X_feed_112 (by decide) ?_
              exact ih (pr_sI (pr_sA σ 2 (upd (σ.2.1 2) (σ.1 0 2).toNatClampNeg ((x4 >>> ((24 - (8 * (x6 - x6 / 4 * 4))) &&& 31)) &&& 255))) 0 2 ((σ.1 0 2) + 1)) x1 x2 x3 x4 x5 (x6 + 1) _ hf _ _ _ hP hS (lv_sub hl [2, 3, 4, 5, 6, 7, 0] rfl)
          · have hf := pr_ie c20 hf
            refine lv_iload_n hx hb prd_X_feed_53 rfl (lv_at hl 3 rfl) ?_
            refine lv_goto (tgt := 71) hx hb prd_X_feed_54 (by decide) ?_
            refine lv_istore (lv' := [(7, .int x3), (0, .ref (ad 0)), (1, .int x1), (2, .int x2), (3, .int x3), (4, .int x4), (5, .int x5), (6, .int x6)]) hx hb prd_X_feed_71 hl (by decide) rfl (fun ls hl => ?_)
            refine lv_aload_n hx hb prd_X_feed_73 rfl (lv_at hl 1 rfl) ?_
            refine pr_getr (t := 2) hx hb hts prs_X hown hK hP 0 1 (by decide) rfl (hts _ prw_845) rfl prd_X_feed_74 ?_
            refine lv_aload_n hx hb prd_X_feed_77 rfl (lv_at hl 1 rfl) ?_
            refine pr_geti (v := (σ.1 0 2)) hx hb hts prs_X hown hK hP 0 2 (by decide) rfl (hts _ prw_844) rfl rfl prd_X_feed_78 ?_
            refine lv_iload hx hb prd_X_feed_81 (lv_at hl 0 rfl) ?_
            refine lv_bipush (v := 24) hx hb prd_X_feed_83 (by decide) ?_
            refine lv_bipush (v := 8) hx hb prd_X_feed_85 (by decide) ?_
            refine lv_iload hx hb prd_X_feed_87 (lv_at hl 7 rfl) ?_
            refine lv_iconst (v := 4) hx hb prd_X_feed_89 (by decide) ?_
            obtain ⟨hz26, hf⟩ := pr_nz_in hf
            refine lv_irem hx hb prd_X_feed_90 hz26 ?_
            refine lv_imul hx hb prd_X_feed_91 ?_
            refine lv_isub hx hb prd_X_feed_92 ?_
            refine lv_ishr hx hb prd_X_feed_93 ?_
            refine lv_sipush (v := 255) hx hb prd_X_feed_94 (by decide) ?_
            refine lv_iand hx hb prd_X_feed_97 ?_
            obtain ⟨hi27, hf⟩ := pr_ck_in hf
            refine pr_iast (f := (σ.2.1 2)) hx hb hK hP (hD _) hS 2 (by decide) rfl hi27 rfl prd_X_feed_98 (fun H locs hP hS => ?_)
            refine lv_aload_n hx hb prd_X_feed_99 rfl (lv_at hl 1 rfl) ?_
            refine lv_dup hx hb prd_X_feed_100 rfl ?_
            refine pr_geti (v := (σ.1 0 2)) hx hb hts prs_X hown hK hP 0 2 (by decide) rfl (hts _ prw_844) rfl rfl prd_X_feed_101 ?_
            refine lv_iconst (v := 1) hx hb prd_X_feed_104 (by decide) ?_
            refine lv_iadd hx hb prd_X_feed_105 ?_
            refine pr_puti (ty := .int) hx hb hts prs_X prq_X prtt_X prtn_X hown hK hP (hD _) hS 0 2 (by decide) rfl (hts _ prw_844) rfl rfl (prtt_X 2 (by decide)) rfl rfl prd_X_feed_106 (fun H locs hP hS => ?_)
            refine lv_iinc (v := (x6 + 1)) (lv' := [(6, .int (x6 + 1)), (7, .int x3), (0, .ref (ad 0)), (1, .int x1), (2, .int x2), (3, .int x3), (4, .int x4), (5, .int x5)]) hx hb prd_X_feed_109 hl (k := 7) rfl rfl (by decide) rfl (fun ls hl => ?_)
            refine lv_goto (tgt := 18) hx hb prd_X_feed_112 (by decide) ?_
            exact ih (pr_sI (pr_sA σ 2 (upd (σ.2.1 2) (σ.1 0 2).toNatClampNeg ((x3 >>> ((24 - (8 * (x6 - x6 / 4 * 4))) &&& 31)) &&& 255))) 0 2 ((σ.1 0 2) + 1)) x1 x2 x3 x4 x5 (x6 + 1) _ hf _ _ _ hP hS (lv_sub hl [2, 3, 4, 5, 6, 7, 0] rfl)
        · have hf := pr_ie c19 hf
          refine lv_iload_n hx hb prd_X_feed_42 rfl (lv_at hl 2 rfl) ?_
          refine lv_goto (tgt := 71) hx hb prd_X_feed_43 (by decide) ?_
          refine lv_istore (lv' := [(7, .int x2), (0, .ref (ad 0)), (1, .int x1), (2, .int x2), (3, .int x3), (4, .int x4), (5, .int x5), (6, .int x6)]) hx hb prd_X_feed_71 hl (by decide) rfl (fun ls hl => ?_)
          refine lv_aload_n hx hb prd_X_feed_73 rfl (lv_at hl 1 rfl) ?_
          refine pr_getr (t := 2) hx hb hts prs_X hown hK hP 0 1 (by decide) rfl (hts _ prw_845) rfl prd_X_feed_74 ?_
          refine lv_aload_n hx hb prd_X_feed_77 rfl (lv_at hl 1 rfl) ?_
          refine pr_geti (v := (σ.1 0 2)) hx hb hts prs_X hown hK hP 0 2 (by decide) rfl (hts _ prw_844) rfl rfl prd_X_feed_78 ?_
          refine lv_iload hx hb prd_X_feed_81 (lv_at hl 0 rfl) ?_
          refine lv_bipush (v := 24) hx hb prd_X_feed_83 (by decide) ?_
          refine lv_bipush (v := 8) hx hb prd_X_feed_85 (by decide) ?_
          refine lv_iload hx hb prd_X_feed_87 (lv_at hl 7 rfl) ?_
          refine lv_iconst (v := 4) hx hb prd_X_feed_89 (by decide) ?_
          obtain ⟨hz28, hf⟩ := pr_nz_in hf
          refine lv_irem hx hb prd_X_feed_90 hz28 ?_
          refine lv_imul hx hb prd_X_feed_91 ?_
          refine lv_isub hx hb prd_X_feed_92 ?_
          refine lv_ishr hx hb prd_X_feed_93 ?_
          refine lv_sipush (v := 255) hx hb prd_X_feed_94 (by decide) ?_
          refine lv_iand hx hb prd_X_feed_97 ?_
          obtain ⟨hi29, hf⟩ := pr_ck_in hf
          refine pr_iast (f := (σ.2.1 2)) hx hb hK hP (hD _) hS 2 (by decide) rfl hi29 rfl prd_X_feed_98 (fun H locs hP hS => ?_)
          refine lv_aload_n hx hb prd_X_feed_99 rfl (lv_at hl 1 rfl) ?_
          refine lv_dup hx hb prd_X_feed_100 rfl ?_
          refine pr_geti (v := (σ.1 0 2)) hx hb hts prs_X hown hK hP 0 2 (by decide) rfl (hts _ prw_844) rfl rfl prd_X_feed_101 ?_
          refine lv_iconst (v := 1) hx hb prd_X_feed_104 (by decide) ?_
          refine lv_iadd hx hb prd_X_feed_105 ?_
          refine pr_puti (ty := .int) hx hb hts prs_X prq_X prtt_X prtn_X hown hK hP (hD _) hS 0 2 (by decide) rfl (hts _ prw_844) rfl rfl (prtt_X 2 (by decide)) rfl rfl prd_X_feed_106 (fun H locs hP hS => ?_)
          refine lv_iinc (v := (x6 + 1)) (lv' := [(6, .int (x6 + 1)), (7, .int x2), (0, .ref (ad 0)), (1, .int x1), (2, .int x2), (3, .int x3), (4, .int x4), (5, .int x5)]) hx hb prd_X_feed_109 hl (k := 7) rfl rfl (by decide) rfl (fun ls hl => ?_)
          refine lv_goto (tgt := 18) hx hb prd_X_feed_112 (by decide) ?_
          exact ih (pr_sI (pr_sA σ 2 (upd (σ.2.1 2) (σ.1 0 2).toNatClampNeg ((x2 >>> ((24 - (8 * (x6 - x6 / 4 * 4))) &&& 31)) &&& 255))) 0 2 ((σ.1 0 2) + 1)) x1 x2 x3 x4 x5 (x6 + 1) _ hf _ _ _ hP hS (lv_sub hl [2, 3, 4, 5, 6, 7, 0] rfl)
      · have hf := pr_ie c18 hf
        refine lv_iload_n hx hb prd_X_feed_31 rfl (lv_at hl 1 rfl) ?_
        refine lv_goto (tgt := 71) hx hb prd_X_feed_32 (by decide) ?_
        refine lv_istore (lv' := [(7, .int x1), (0, .ref (ad 0)), (1, .int x1), (2, .int x2), (3, .int x3), (4, .int x4), (5, .int x5), (6, .int x6)]) hx hb prd_X_feed_71 hl (by decide) rfl (fun ls hl => ?_)
        refine lv_aload_n hx hb prd_X_feed_73 rfl (lv_at hl 1 rfl) ?_
        refine pr_getr (t := 2) hx hb hts prs_X hown hK hP 0 1 (by decide) rfl (hts _ prw_845) rfl prd_X_feed_74 ?_
        refine lv_aload_n hx hb prd_X_feed_77 rfl (lv_at hl 1 rfl) ?_
        refine pr_geti (v := (σ.1 0 2)) hx hb hts prs_X hown hK hP 0 2 (by decide) rfl (hts _ prw_844) rfl rfl prd_X_feed_78 ?_
        refine lv_iload hx hb prd_X_feed_81 (lv_at hl 0 rfl) ?_
        refine lv_bipush (v := 24) hx hb prd_X_feed_83 (by decide) ?_
        refine lv_bipush (v := 8) hx hb prd_X_feed_85 (by decide) ?_
        refine lv_iload hx hb prd_X_feed_87 (lv_at hl 7 rfl) ?_
        refine lv_iconst (v := 4) hx hb prd_X_feed_89 (by decide) ?_
        obtain ⟨hz30, hf⟩ := pr_nz_in hf
        refine lv_irem hx hb prd_X_feed_90 hz30 ?_
        refine lv_imul hx hb prd_X_feed_91 ?_
        refine lv_isub hx hb prd_X_feed_92 ?_
        refine lv_ishr hx hb prd_X_feed_93 ?_
        refine lv_sipush (v := 255) hx hb prd_X_feed_94 (by decide) ?_
        refine lv_iand hx hb prd_X_feed_97 ?_
        obtain ⟨hi31, hf⟩ := pr_ck_in hf
        refine pr_iast (f := (σ.2.1 2)) hx hb hK hP (hD _) hS 2 (by decide) rfl hi31 rfl prd_X_feed_98 (fun H locs hP hS => ?_)
        refine lv_aload_n hx hb prd_X_feed_99 rfl (lv_at hl 1 rfl) ?_
        refine lv_dup hx hb prd_X_feed_100 rfl ?_
        refine pr_geti (v := (σ.1 0 2)) hx hb hts prs_X hown hK hP 0 2 (by decide) rfl (hts _ prw_844) rfl rfl prd_X_feed_101 ?_
        refine lv_iconst (v := 1) hx hb prd_X_feed_104 (by decide) ?_
        refine lv_iadd hx hb prd_X_feed_105 ?_
        refine pr_puti (ty := .int) hx hb hts prs_X prq_X prtt_X prtn_X hown hK hP (hD _) hS 0 2 (by decide) rfl (hts _ prw_844) rfl rfl (prtt_X 2 (by decide)) rfl rfl prd_X_feed_106 (fun H locs hP hS => ?_)
        refine lv_iinc (v := (x6 + 1)) (lv' := [(6, .int (x6 + 1)), (7, .int x1), (0, .ref (ad 0)), (1, .int x1), (2, .int x2), (3, .int x3), (4, .int x4), (5, .int x5)]) hx hb prd_X_feed_109 hl (k := 7) rfl rfl (by decide) rfl (fun ls hl => ?_)
        refine lv_goto (tgt := 18) hx hb prd_X_feed_112 (by decide) ?_
        exact ih (pr_sI (pr_sA σ 2 (upd (σ.2.1 2) (σ.1 0 2).toNatClampNeg ((x1 >>> ((24 - (8 * (x6 - x6 / 4 * 4))) &&& 31)) &&& 255))) 0 2 ((σ.1 0 2) + 1)) x1 x2 x3 x4 x5 (x6 + 1) _ hf _ _ _ hP hS (lv_sub hl [2, 3, 4, 5, 6, 7, 0] rfl)
set_option maxHeartbeats 4000000 in
set_option maxRecDepth 100000 in
theorem prc_X_feed {l : Launch} {D : va_G} {ad : Nat → Nat} {dA : Nat → ClassId} {A : Nat → Prop} {v : Nat → Nat} {r : Value} (hD : ∀ σ : pr_St, va_D A (pr_w prx_L ad dA σ)) (hX : pr_Xok A (prY ad v r A)) (h : Nat) (hh : 0 ≤ h) (σ : pr_St) (x1 : Int32) (x2 : Int32) (x3 : Int32) (x4 : Int32) (x5 : Int32) (res : (Int32 × pr_St)) (hf : prf_X_feed σ x1 x2 x3 x4 x5 = some res) : Met l pry_X_feed (Cond.code pry_X_feed prb_X_feed 8 (some .int) :: pr_U) (pr_rm h) (pr_Pc (prY ad v r A) D pr_cl prx_L ad dA [.ref (ad 0), .int x1, .int x2, .int x3, .int x4, .int x5] σ) (pr_Qi D pr_cl prx_L ad dA A res) 0 0 A := by
  refine pr_entry (cc := prb_X_feed) (maxL := 8) (ret := (some .int)) (by decide) (Nat.le_of_ble_eq_true rfl) hD hX ?_
  intro p e s m args below meth c E H locs hP hS ls hl
  have hl : lv_has ls 8 [(0, .ref (ad 0)), (1, .int x1), (2, .int x2), (3, .int x3), (4, .int x4), (5, .int x5)] := hl
  have hf := hf.symm
  unfold prf_X_feed at hf
  obtain ⟨hx, hb, hml, hown, hts, hr, hlocks, hK, hD, hX, hXs⟩ := id E
  refine lv_aload_n hx hb prd_X_feed_0 rfl (lv_at hl 0 rfl) ?_
  refine pr_geti (v := (σ.1 0 2)) hx hb hts prs_X hown hK hP 0 2 (by decide) rfl (hts _ prw_844) rfl rfl prd_X_feed_1 ?_
  refine lv_bipush (v := 20) hx hb prd_X_feed_4 (by decide) ?_
  refine lv_iadd hx hb prd_X_feed_6 ?_
  refine lv_sipush (v := 8000) hx hb prd_X_feed_7 (by decide) ?_
  refine lv_icmp_le (tgt := 15) hx hb prd_X_feed_10 (by decide) (fun c32 => ?_) (fun c32 => ?_)
  · have hf := pr_it c32 hf
    refine lv_iconst (v := 0) hx hb prd_X_feed_15 (by decide) ?_
    refine lv_istore (lv' := [(6, .int 0), (0, .ref (ad 0)), (1, .int x1), (2, .int x2), (3, .int x3), (4, .int x4), (5, .int x5)]) hx hb prd_X_feed_16 hl (by decide) rfl (fun ls hl => ?_)
    exact prk_X_feed_18 hh E pr_FU σ x1 x2 x3 x4 x5 0 _ hf _ _ _ hP hS (lv_sub hl [1, 2, 3, 4, 5, 6, 0] rfl)
  · have hf := pr_ie c32 hf
    refine lv_iconst (v := (-1)) hx hb prd_X_feed_13 (by decide) ?_
    exact pr_reti E hP hS (pr_so hf) prd_X_feed_14
-- X_isAt
set_option maxHeartbeats 4000000 in
set_option maxRecDepth 100000 in
theorem prc_X_isAt {l : Launch} {D : va_G} {ad : Nat → Nat} {dA : Nat → ClassId} {A : Nat → Prop} {v : Nat → Nat} {r : Value} (hD : ∀ σ : pr_St, va_D A (pr_w prx_L ad dA σ)) (hX : pr_Xok A (prY ad v r A)) (h : Nat) (hh : 0 ≤ h) (σ : pr_St) (x1 : Int32) (x2 : Int32) (x3 : Int32) (res : Int32) (hf : prf_X_isAt σ x1 x2 x3 = some res) : Met l pry_X_isAt (Cond.code pry_X_isAt prb_X_isAt 4 (some .boolean) :: pr_U) (pr_rm h) (pr_Pc (prY ad v r A) D pr_cl prx_L ad dA [.ref (ad 0), .int x1, .int x2, .int x3] σ) (pr_Qi D pr_cl prx_L ad dA A (res, σ)) 0 0 A := by
  refine pr_entry (cc := prb_X_isAt) (maxL := 4) (ret := (some .boolean)) (by decide) (Nat.le_of_ble_eq_true rfl) hD hX ?_
  intro p e s m args below meth c E H locs hP hS ls hl
  have hl : lv_has ls 4 [(0, .ref (ad 0)), (1, .int x1), (2, .int x2), (3, .int x3)] := hl
  have hf := hf.symm
  unfold prf_X_isAt at hf
  obtain ⟨hx, hb, hml, hown, hts, hr, hlocks, hK, hD, hX, hXs⟩ := id E
  refine lv_iload_n hx hb prd_X_isAt_0 rfl (lv_at hl 1 rfl) ?_
  refine lv_iconst (v := 1) hx hb prd_X_isAt_1 (by decide) ?_
  refine lv_iadd hx hb prd_X_isAt_2 ?_
  refine lv_aload_n hx hb prd_X_isAt_3 rfl (lv_at hl 0 rfl) ?_
  refine pr_geti (v := (σ.1 0 3)) hx hb hts prs_X hown hK hP 0 3 (by decide) rfl (hts _ prw_849) rfl rfl prd_X_isAt_4 ?_
  refine lv_icmp_ge (tgt := 36) hx hb prd_X_isAt_7 (by decide) (fun c6 => ?_) (fun c6 => ?_)
  · have hf := pr_it c6 hf
    refine lv_iconst (v := 0) hx hb prd_X_isAt_36 (by decide) ?_
    exact pr_retz E (Or.inl rfl) hP hS (pr_ro hf) prd_X_isAt_37
  · have hf := pr_ie c6 hf
    refine lv_aload_n hx hb prd_X_isAt_10 rfl (lv_at hl 0 rfl) ?_
    refine pr_getr (t := 2) hx hb hts prs_X hown hK hP 0 1 (by decide) rfl (hts _ prw_845) rfl prd_X_isAt_11 ?_
    refine lv_iload_n hx hb prd_X_isAt_14 rfl (lv_at hl 1 rfl) ?_
    obtain ⟨hi7, hf⟩ := pr_ck_in hf
    refine pr_iald (f := (σ.2.1 2)) hx hb hK hP 2 (by decide) rfl hi7 rfl prd_X_isAt_15 ?_
    refine lv_iload_n hx hb prd_X_isAt_16 rfl (lv_at hl 2 rfl) ?_
    refine lv_icmp_ne (tgt := 36) hx hb prd_X_isAt_17 (by decide) (fun c8 => ?_) (fun c8 => ?_)
    · have hf := pr_ie c8 hf
      refine lv_iconst (v := 0) hx hb prd_X_isAt_36 (by decide) ?_
      exact pr_retz E (Or.inl rfl) hP hS (pr_ro hf) prd_X_isAt_37
    · have hf := pr_it c8 hf
      refine lv_aload_n hx hb prd_X_isAt_20 rfl (lv_at hl 0 rfl) ?_
      refine pr_getr (t := 2) hx hb hts prs_X hown hK hP 0 1 (by decide) rfl (hts _ prw_845) rfl prd_X_isAt_21 ?_
      refine lv_iload_n hx hb prd_X_isAt_24 rfl (lv_at hl 1 rfl) ?_
      refine lv_iconst (v := 1) hx hb prd_X_isAt_25 (by decide) ?_
      refine lv_iadd hx hb prd_X_isAt_26 ?_
      obtain ⟨hi9, hf⟩ := pr_ck_in hf
      refine pr_iald (f := (σ.2.1 2)) hx hb hK hP 2 (by decide) rfl hi9 rfl prd_X_isAt_27 ?_
      refine lv_iload_n hx hb prd_X_isAt_28 rfl (lv_at hl 3 rfl) ?_
      refine lv_icmp_ne (tgt := 36) hx hb prd_X_isAt_29 (by decide) (fun c10 => ?_) (fun c10 => ?_)
      · have hf := pr_ie c10 hf
        refine lv_iconst (v := 0) hx hb prd_X_isAt_36 (by decide) ?_
        exact pr_retz E (Or.inl rfl) hP hS (pr_ro hf) prd_X_isAt_37
      · have hf := pr_it c10 hf
        refine lv_iconst (v := 1) hx hb prd_X_isAt_32 (by decide) ?_
        refine lv_goto (tgt := 37) hx hb prd_X_isAt_33 (by decide) ?_
        exact pr_retz E (Or.inr rfl) hP hS (pr_ro hf) prd_X_isAt_37
-- X_isLetter
set_option maxHeartbeats 4000000 in
set_option maxRecDepth 100000 in
theorem prc_X_isLetter {l : Launch} {D : va_G} {ad : Nat → Nat} {dA : Nat → ClassId} {A : Nat → Prop} {v : Nat → Nat} {r : Value} (hD : ∀ σ : pr_St, va_D A (pr_w prx_L ad dA σ)) (hX : pr_Xok A (prY ad v r A)) (h : Nat) (hh : 0 ≤ h) (σ : pr_St) (x0 : Int32) (res : Int32) (hf : prf_X_isLetter σ x0 = some res) : Met l pry_X_isLetter (Cond.code pry_X_isLetter prb_X_isLetter 1 (some .boolean) :: pr_U) (pr_rm h) (pr_Pc (prY ad v r A) D pr_cl prx_L ad dA [.int x0] σ) (pr_Qi D pr_cl prx_L ad dA A (res, σ)) 0 0 A := by
  refine pr_entry (cc := prb_X_isLetter) (maxL := 1) (ret := (some .boolean)) (by decide) (Nat.le_of_ble_eq_true rfl) hD hX ?_
  intro p e s m args below meth c E H locs hP hS ls hl
  have hl : lv_has ls 1 [(0, .int x0)] := hl
  have hf := hf.symm
  unfold prf_X_isLetter at hf
  obtain ⟨hx, hb, hml, hown, hts, hr, hlocks, hK, hD, hX, hXs⟩ := id E
  refine lv_iload_n hx hb prd_X_isLetter_0 rfl (lv_at hl 0 rfl) ?_
  refine lv_bipush (v := 97) hx hb prd_X_isLetter_1 (by decide) ?_
  refine lv_icmp_lt (tgt := 12) hx hb prd_X_isLetter_3 (by decide) (fun c11 => ?_) (fun c11 => ?_)
  · have hf := pr_it c11 hf
    refine lv_iload_n hx hb prd_X_isLetter_12 rfl (lv_at hl 0 rfl) ?_
    refine lv_bipush (v := 65) hx hb prd_X_isLetter_13 (by decide) ?_
    refine lv_icmp_lt (tgt := 24) hx hb prd_X_isLetter_15 (by decide) (fun c12 => ?_) (fun c12 => ?_)
    · have hf := pr_it c12 hf
      refine lv_iload_n hx hb prd_X_isLetter_24 rfl (lv_at hl 0 rfl) ?_
      refine lv_bipush (v := 95) hx hb prd_X_isLetter_25 (by decide) ?_
      refine lv_icmp_ne (tgt := 34) hx hb prd_X_isLetter_27 (by decide) (fun c13 => ?_) (fun c13 => ?_)
      · have hf := pr_ie c13 hf
        refine lv_iconst (v := 0) hx hb prd_X_isLetter_34 (by decide) ?_
        exact pr_retz E (Or.inl rfl) hP hS (pr_ro hf) prd_X_isLetter_35
      · have hf := pr_it c13 hf
        refine lv_iconst (v := 1) hx hb prd_X_isLetter_30 (by decide) ?_
        refine lv_goto (tgt := 35) hx hb prd_X_isLetter_31 (by decide) ?_
        exact pr_retz E (Or.inr rfl) hP hS (pr_ro hf) prd_X_isLetter_35
    · have hf := pr_ie c12 hf
      refine lv_iload_n hx hb prd_X_isLetter_18 rfl (lv_at hl 0 rfl) ?_
      refine lv_bipush (v := 90) hx hb prd_X_isLetter_19 (by decide) ?_
      refine lv_icmp_le (tgt := 30) hx hb prd_X_isLetter_21 (by decide) (fun c14 => ?_) (fun c14 => ?_)
      · have hf := pr_it c14 hf
        refine lv_iconst (v := 1) hx hb prd_X_isLetter_30 (by decide) ?_
        refine lv_goto (tgt := 35) hx hb prd_X_isLetter_31 (by decide) ?_
        exact pr_retz E (Or.inr rfl) hP hS (pr_ro hf) prd_X_isLetter_35
      · have hf := pr_ie c14 hf
        refine lv_iload_n hx hb prd_X_isLetter_24 rfl (lv_at hl 0 rfl) ?_
        refine lv_bipush (v := 95) hx hb prd_X_isLetter_25 (by decide) ?_
        refine lv_icmp_ne (tgt := 34) hx hb prd_X_isLetter_27 (by decide) (fun c15 => ?_) (fun c15 => ?_)
        · have hf := pr_ie c15 hf
          refine lv_iconst (v := 0) hx hb prd_X_isLetter_34 (by decide) ?_
          exact pr_retz E (Or.inl rfl) hP hS (pr_ro hf) prd_X_isLetter_35
        · have hf := pr_it c15 hf
          refine lv_iconst (v := 1) hx hb prd_X_isLetter_30 (by decide) ?_
          refine lv_goto (tgt := 35) hx hb prd_X_isLetter_31 (by decide) ?_
          exact pr_retz E (Or.inr rfl) hP hS (pr_ro hf) prd_X_isLetter_35
  · have hf := pr_ie c11 hf
    refine lv_iload_n hx hb prd_X_isLetter_6 rfl (lv_at hl 0 rfl) ?_
    refine lv_bipush (v := 122) hx hb prd_X_isLetter_7 (by decide) ?_
    refine lv_icmp_le (tgt := 30) hx hb prd_X_isLetter_9 (by decide) (fun c16 => ?_) (fun c16 => ?_)
    · have hf := pr_it c16 hf
      refine lv_iconst (v := 1) hx hb prd_X_isLetter_30 (by decide) ?_
      refine lv_goto (tgt := 35) hx hb prd_X_isLetter_31 (by decide) ?_
      exact pr_retz E (Or.inr rfl) hP hS (pr_ro hf) prd_X_isLetter_35
    · have hf := pr_ie c16 hf
      refine lv_iload_n hx hb prd_X_isLetter_12 rfl (lv_at hl 0 rfl) ?_
      refine lv_bipush (v := 65) hx hb prd_X_isLetter_13 (by decide) ?_
      refine lv_icmp_lt (tgt := 24) hx hb prd_X_isLetter_15 (by decide) (fun c17 => ?_) (fun c17 => ?_)
      · have hf := pr_it c17 hf
        refine lv_iload_n hx hb prd_X_isLetter_24 rfl (lv_at hl 0 rfl) ?_
        refine lv_bipush (v := 95) hx hb prd_X_isLetter_25 (by decide) ?_
        refine lv_icmp_ne (tgt := 34) hx hb prd_X_isLetter_27 (by decide) (fun c18 => ?_) (fun c18 => ?_)
        · have hf := pr_ie c18 hf
          refine lv_iconst (v := 0) hx hb prd_X_isLetter_34 (by decide) ?_
          exact pr_retz E (Or.inl rfl) hP hS (pr_ro hf) prd_X_isLetter_35
        · have hf := pr_it c18 hf
          refine lv_iconst (v := 1) hx hb prd_X_isLetter_30 (by decide) ?_
          refine lv_goto (tgt := 35) hx hb prd_X_isLetter_31 (by decide) ?_
          exact pr_retz E (Or.inr rfl) hP hS (pr_ro hf) prd_X_isLetter_35
      · have hf := pr_ie c17 hf
        refine lv_iload_n hx hb prd_X_isLetter_18 rfl (lv_at hl 0 rfl) ?_
        refine lv_bipush (v := 90) hx hb prd_X_isLetter_19 (by decide) ?_
        refine lv_icmp_le (tgt := 30) hx hb prd_X_isLetter_21 (by decide) (fun c19 => ?_) (fun c19 => ?_)
        · have hf := pr_it c19 hf
          refine lv_iconst (v := 1) hx hb prd_X_isLetter_30 (by decide) ?_
          refine lv_goto (tgt := 35) hx hb prd_X_isLetter_31 (by decide) ?_
          exact pr_retz E (Or.inr rfl) hP hS (pr_ro hf) prd_X_isLetter_35
        · have hf := pr_ie c19 hf
          refine lv_iload_n hx hb prd_X_isLetter_24 rfl (lv_at hl 0 rfl) ?_
          refine lv_bipush (v := 95) hx hb prd_X_isLetter_25 (by decide) ?_
          refine lv_icmp_ne (tgt := 34) hx hb prd_X_isLetter_27 (by decide) (fun c20 => ?_) (fun c20 => ?_)
          · have hf := pr_ie c20 hf
            refine lv_iconst (v := 0) hx hb prd_X_isLetter_34 (by decide) ?_
            exact pr_retz E (Or.inl rfl) hP hS (pr_ro hf) prd_X_isLetter_35
          · have hf := pr_it c20 hf
            refine lv_iconst (v := 1) hx hb prd_X_isLetter_30 (by decide) ?_
            refine lv_goto (tgt := 35) hx hb prd_X_isLetter_31 (by decide) ?_
            exact pr_retz E (Or.inr rfl) hP hS (pr_ro hf) prd_X_isLetter_35
-- X_isDigit
set_option maxHeartbeats 4000000 in
set_option maxRecDepth 100000 in
theorem prc_X_isDigit {l : Launch} {D : va_G} {ad : Nat → Nat} {dA : Nat → ClassId} {A : Nat → Prop} {v : Nat → Nat} {r : Value} (hD : ∀ σ : pr_St, va_D A (pr_w prx_L ad dA σ)) (hX : pr_Xok A (prY ad v r A)) (h : Nat) (hh : 0 ≤ h) (σ : pr_St) (x0 : Int32) (res : Int32) (hf : prf_X_isDigit σ x0 = some res) : Met l pry_X_isDigit (Cond.code pry_X_isDigit prb_X_isDigit 1 (some .boolean) :: pr_U) (pr_rm h) (pr_Pc (prY ad v r A) D pr_cl prx_L ad dA [.int x0] σ) (pr_Qi D pr_cl prx_L ad dA A (res, σ)) 0 0 A := by
  refine pr_entry (cc := prb_X_isDigit) (maxL := 1) (ret := (some .boolean)) (by decide) (Nat.le_of_ble_eq_true rfl) hD hX ?_
  intro p e s m args below meth c E H locs hP hS ls hl
  have hl : lv_has ls 1 [(0, .int x0)] := hl
  have hf := hf.symm
  unfold prf_X_isDigit at hf
  obtain ⟨hx, hb, hml, hown, hts, hr, hlocks, hK, hD, hX, hXs⟩ := id E
  refine lv_iload_n hx hb prd_X_isDigit_0 rfl (lv_at hl 0 rfl) ?_
  refine lv_bipush (v := 48) hx hb prd_X_isDigit_1 (by decide) ?_
  refine lv_icmp_lt (tgt := 16) hx hb prd_X_isDigit_3 (by decide) (fun c3 => ?_) (fun c3 => ?_)
  · have hf := pr_it c3 hf
    refine lv_iconst (v := 0) hx hb prd_X_isDigit_16 (by decide) ?_
    exact pr_retz E (Or.inl rfl) hP hS (pr_ro hf) prd_X_isDigit_17
  · have hf := pr_ie c3 hf
    refine lv_iload_n hx hb prd_X_isDigit_6 rfl (lv_at hl 0 rfl) ?_
    refine lv_bipush (v := 57) hx hb prd_X_isDigit_7 (by decide) ?_
    refine lv_icmp_gt (tgt := 16) hx hb prd_X_isDigit_9 (by decide) (fun c4 => ?_) (fun c4 => ?_)
    · have hf := pr_it c4 hf
      refine lv_iconst (v := 0) hx hb prd_X_isDigit_16 (by decide) ?_
      exact pr_retz E (Or.inl rfl) hP hS (pr_ro hf) prd_X_isDigit_17
    · have hf := pr_ie c4 hf
      refine lv_iconst (v := 1) hx hb prd_X_isDigit_12 (by decide) ?_
      refine lv_goto (tgt := 17) hx hb prd_X_isDigit_13 (by decide) ?_
      exact pr_retz E (Or.inr rfl) hP hS (pr_ro hf) prd_X_isDigit_17
-- X_isWord
set_option maxHeartbeats 4000000 in
set_option maxRecDepth 100000 in
theorem prc_X_isWord {l : Launch} {D : va_G} {ad : Nat → Nat} {dA : Nat → ClassId} {A : Nat → Prop} {v : Nat → Nat} {r : Value} (hD : ∀ σ : pr_St, va_D A (pr_w prx_L ad dA σ)) (hX : pr_Xok A (prY ad v r A)) (h : Nat) (hh : 1 ≤ h) (σ : pr_St) (x1 : Int32) (res : Int32) (hf : prf_X_isWord σ x1 = some res) : Met l pry_X_isWord (Cond.code pry_X_isWord prb_X_isWord 2 (some .boolean) :: pr_U) (pr_rm h) (pr_Pc (prY ad v r A) D pr_cl prx_L ad dA [.ref (ad 0), .int x1] σ) (pr_Qi D pr_cl prx_L ad dA A (res, σ)) 0 0 A := by
  refine pr_entry (cc := prb_X_isWord) (maxL := 2) (ret := (some .boolean)) (by decide) (Nat.le_of_ble_eq_true rfl) hD hX ?_
  intro p e s m args below meth c E H locs hP hS ls hl
  have hl : lv_has ls 2 [(0, .ref (ad 0)), (1, .int x1)] := hl
  have hf := hf.symm
  unfold prf_X_isWord at hf
  obtain ⟨hx, hb, hml, hown, hts, hr, hlocks, hK, hD, hX, hXs⟩ := id E
  refine lv_iload_n hx hb prd_X_isWord_0 rfl (lv_at hl 1 rfl) ?_
  refine lv_aload_n hx hb prd_X_isWord_1 rfl (lv_at hl 0 rfl) ?_
  refine pr_geti (v := (σ.1 0 3)) hx hb hts prs_X hown hK hP 0 3 (by decide) rfl (hts _ prw_849) rfl rfl prd_X_isWord_2 ?_
  refine lv_icmp_ge (tgt := 36) hx hb prd_X_isWord_5 (by decide) (fun c8 => ?_) (fun c8 => ?_)
  · have hf := pr_it c8 hf
    refine lv_iconst (v := 0) hx hb prd_X_isWord_36 (by decide) ?_
    exact pr_retz E (Or.inl rfl) hP hS (pr_ro hf) prd_X_isWord_37
  · have hf := pr_ie c8 hf
    refine lv_aload_n hx hb prd_X_isWord_8 rfl (lv_at hl 0 rfl) ?_
    refine pr_getr (t := 2) hx hb hts prs_X hown hK hP 0 1 (by decide) rfl (hts _ prw_845) rfl prd_X_isWord_9 ?_
    refine lv_iload_n hx hb prd_X_isWord_12 rfl (lv_at hl 1 rfl) ?_
    obtain ⟨hi9, hf⟩ := pr_ck_in hf
    refine pr_iald (f := (σ.2.1 2)) hx hb hK hP 2 (by decide) rfl hi9 rfl prd_X_isWord_13 ?_
    obtain ⟨r10, hr10, hf⟩ := pr_bi hf
    refine pr_callSr (rest := []) (r := r10) ⟨hx, hb, hml, hown, hts⟩ (prc_X_isLetter hD hX 0 (Nat.le_refl _) σ ((σ.2.1 2) x1.toNatClampNeg) r10 hr10) (prg_X_isLetter hts prw_857 (by have := hh; omega)) hX hXs hK hP hS rfl rfl hl.1 (Nat.le_of_ble_eq_true rfl) prd_X_isWord_14 (fun H locs hP hS => ?_)
    refine lv_if_ne (tgt := 32) hx hb prd_X_isWord_17 (by decide) (fun c11 => ?_) (fun c11 => ?_)
    · have hf := pr_ie c11 hf
      refine lv_iconst (v := 1) hx hb prd_X_isWord_32 (by decide) ?_
      refine lv_goto (tgt := 37) hx hb prd_X_isWord_33 (by decide) ?_
      exact pr_retz E (Or.inr rfl) hP hS (pr_ro hf) prd_X_isWord_37
    · have hf := pr_it c11 hf
      refine lv_aload_n hx hb prd_X_isWord_20 rfl (lv_at hl 0 rfl) ?_
      refine pr_getr (t := 2) hx hb hts prs_X hown hK hP 0 1 (by decide) rfl (hts _ prw_845) rfl prd_X_isWord_21 ?_
      refine lv_iload_n hx hb prd_X_isWord_24 rfl (lv_at hl 1 rfl) ?_
      obtain ⟨hi12, hf⟩ := pr_ck_in hf
      refine pr_iald (f := (σ.2.1 2)) hx hb hK hP 2 (by decide) rfl hi12 rfl prd_X_isWord_25 ?_
      obtain ⟨r13, hr13, hf⟩ := pr_bi hf
      refine pr_callSr (rest := []) (r := r13) ⟨hx, hb, hml, hown, hts⟩ (prc_X_isDigit hD hX 0 (Nat.le_refl _) σ ((σ.2.1 2) x1.toNatClampNeg) r13 hr13) (prg_X_isDigit hts prw_858 (by have := hh; omega)) hX hXs hK hP hS rfl rfl hl.1 (Nat.le_of_ble_eq_true rfl) prd_X_isWord_26 (fun H locs hP hS => ?_)
      refine lv_if_eq (tgt := 36) hx hb prd_X_isWord_29 (by decide) (fun c14 => ?_) (fun c14 => ?_)
      · have hf := pr_it c14 hf
        refine lv_iconst (v := 0) hx hb prd_X_isWord_36 (by decide) ?_
        exact pr_retz E (Or.inl rfl) hP hS (pr_ro hf) prd_X_isWord_37
      · have hf := pr_ie c14 hf
        refine lv_iconst (v := 1) hx hb prd_X_isWord_32 (by decide) ?_
        refine lv_goto (tgt := 37) hx hb prd_X_isWord_33 (by decide) ?_
        exact pr_retz E (Or.inr rfl) hP hS (pr_ro hf) prd_X_isWord_37
-- X_behindBlanks
set_option maxHeartbeats 4000000 in
set_option maxRecDepth 100000 in
theorem prk_X_behindBlanks_70 {l : Launch} {D : va_G} {ad : Nat → Nat} {dA : Nat → ClassId} {A : Nat → Prop} {v : Nat → Nat} {r : Value} {p : Program} {e : Env} {s : State} {m : MethodId} {args : Array Value} {below : List Frame} {meth : Method} {c : Code} {h : Nat} (hh : 1 ≤ h) (E : pr_cx prn_X prb_X_behindBlanks 5 (some .int) D pr_cl prx_L ad dA A (prY ad v r A) p s m args meth c) {kk4 : pr_St → Int32 → Int32 → Option Int32} (Hk4 : ∀ (σ : pr_St) (x2 : Int32) (x3 : Int32) (res : Int32), some res = kk4 σ x2 x3 → ∀ (H : Heap) (locs : List Loc) (ls : Array Slot), va_P D pr_cl (pr_w prx_L ad dA σ) H → va_S A s.heap H locs → lv_has ls 5 [(0, .ref (ad 0)), (2, .int x2), (3, .int x3)] → W p l e (pr_rm h) s m args below meth c H locs 0 0 (MQ below (pr_Qi D pr_cl prx_L ad dA A (res, σ)) args s 0 0 A) (F0 m 4 ls [])) : ∀ n : Nat, ∀ (σ : pr_St) (x2 : Int32) (x3 : Int32) (res : Int32), some res = prf_X_behindBlanks_70 kk4 n σ x2 x3 → ∀ (H : Heap) (locs : List Loc) (ls : Array Slot), va_P D pr_cl (pr_w prx_L ad dA σ) H → va_S A s.heap H locs → lv_has ls 5 [(0, .ref (ad 0)), (2, .int x2), (3, .int x3)] → W p l e (pr_rm h) s m args below meth c H locs 0 0 (MQ below (pr_Qi D pr_cl prx_L ad dA A (res, σ)) args s 0 0 A) (F0 m 70 ls []) := by
  obtain ⟨hx, hb, hml, hown, hts, hr, hlocks, hK, hD, hX, hXs⟩ := id E
  intro n
  induction n with
  | zero =>
    intro σ x2 x3 res hf
    rw [prf_X_behindBlanks_70] at hf
    cases hf
  | succ n ih =>
    intro σ x2 x3 res hf H locs ls hP hS hl
    rw [prf_X_behindBlanks_70] at hf
    refine lv_iload_n hx hb prd_X_behindBlanks_70 rfl (lv_at hl 1 rfl) ?_
    refine lv_aload_n hx hb prd_X_behindBlanks_71 rfl (lv_at hl 0 rfl) ?_
    refine pr_geti (v := (σ.1 0 3)) hx hb hts prs_X hown hK hP 0 3 (by decide) rfl (hts _ prw_849) rfl rfl prd_X_behindBlanks_72 ?_
    refine lv_icmp_ge (tgt := 97) hx hb prd_X_behindBlanks_75 (by decide) (fun c13 => ?_) (fun c13 => ?_)
    · have hf := pr_it c13 hf
      refine lv_goto (tgt := 4) hx hb prd_X_behindBlanks_97 (by decide) ?_
      exact Hk4 σ x2 x3 _ hf _ _ _ hP hS (lv_sub hl [0, 1, 2] rfl)
    · have hf := pr_ie c13 hf
      refine lv_aload_n hx hb prd_X_behindBlanks_78 rfl (lv_at hl 0 rfl) ?_
      refine pr_getr (t := 2) hx hb hts prs_X hown hK hP 0 1 (by decide) rfl (hts _ prw_845) rfl prd_X_behindBlanks_79 ?_
      refine lv_iload_n hx hb prd_X_behindBlanks_82 rfl (lv_at hl 1 rfl) ?_
      obtain ⟨hi14, hf⟩ := pr_ck_in hf
      refine pr_iald (f := (σ.2.1 2)) hx hb hK hP 2 (by decide) rfl hi14 rfl prd_X_behindBlanks_83 ?_
      refine lv_bipush (v := 10) hx hb prd_X_behindBlanks_84 (by decide) ?_
      refine lv_icmp_eq (tgt := 97) hx hb prd_X_behindBlanks_86 (by decide) (fun c15 => ?_) (fun c15 => ?_)
      · have hf := pr_it c15 hf
        refine lv_goto (tgt := 4) hx hb prd_X_behindBlanks_97 (by decide) ?_
        exact Hk4 σ x2 x3 _ hf _ _ _ hP hS (lv_sub hl [0, 1, 2] rfl)
      · have hf := pr_ie c15 hf
        refine lv_iinc (v := (x2 + 1)) (lv' := [(2, .int (x2 + 1)), (0, .ref (ad 0)), (3, .int x3)]) hx hb prd_X_behindBlanks_89 hl (k := 1) rfl rfl (by decide) rfl (fun ls hl => ?_)
        refine lv_goto (tgt := 70) hx hb prd_X_behindBlanks_92 (by decide) ?_
        exact ih σ (x2 + 1) x3 _ hf _ _ _ hP hS (lv_sub hl [1, 0, 2] rfl)
set_option maxHeartbeats 4000000 in
set_option maxRecDepth 100000 in
theorem prk_X_behindBlanks_4 {l : Launch} {D : va_G} {ad : Nat → Nat} {dA : Nat → ClassId} {A : Nat → Prop} {v : Nat → Nat} {r : Value} {p : Program} {e : Env} {s : State} {m : MethodId} {args : Array Value} {below : List Frame} {meth : Method} {c : Code} {h : Nat} (hh : 1 ≤ h) (E : pr_cx prn_X prb_X_behindBlanks 5 (some .int) D pr_cl prx_L ad dA A (prY ad v r A) p s m args meth c) : ∀ n : Nat, ∀ (σ : pr_St) (x2 : Int32) (x3 : Int32) (res : Int32), some res = prf_X_behindBlanks_4 n σ x2 x3 → ∀ (H : Heap) (locs : List Loc) (ls : Array Slot), va_P D pr_cl (pr_w prx_L ad dA σ) H → va_S A s.heap H locs → lv_has ls 5 [(0, .ref (ad 0)), (2, .int x2), (3, .int x3)] → W p l e (pr_rm h) s m args below meth c H locs 0 0 (MQ below (pr_Qi D pr_cl prx_L ad dA A (res, σ)) args s 0 0 A) (F0 m 4 ls []) := by
  obtain ⟨hx, hb, hml, hown, hts, hr, hlocks, hK, hD, hX, hXs⟩ := id E
  intro n
  induction n with
  | zero =>
    intro σ x2 x3 res hf
    rw [prf_X_behindBlanks_4] at hf
    cases hf
  | succ n ih =>
    intro σ x2 x3 res hf H locs ls hP hS hl
    rw [prf_X_behindBlanks_4] at hf
    refine lv_iload_n hx hb prd_X_behindBlanks_4 rfl (lv_at hl 2 rfl) ?_
    refine lv_if_eq (tgt := 100) hx hb prd_X_behindBlanks_5 (by decide) (fun c16 => ?_) (fun c16 => ?_)
    · have hf := pr_it c16 hf
      refine lv_iload_n hx hb prd_X_behindBlanks_100 rfl (lv_at hl 1 rfl) ?_
      exact pr_reti E hP hS (pr_ro hf) prd_X_behindBlanks_101
    · have hf := pr_ie c16 hf
      refine lv_iload_n hx hb prd_X_behindBlanks_8 rfl (lv_at hl 1 rfl) ?_
      refine lv_aload_n hx hb prd_X_behindBlanks_9 rfl (lv_at hl 0 rfl) ?_
      refine pr_geti (v := (σ.1 0 3)) hx hb hts prs_X hown hK hP 0 3 (by decide) rfl (hts _ prw_849) rfl rfl prd_X_behindBlanks_10 ?_
      refine lv_icmp_ge (tgt := 100) hx hb prd_X_behindBlanks_13 (by decide) (fun c17 => ?_) (fun c17 => ?_)
      · have hf := pr_it c17 hf
        refine lv_iload_n hx hb prd_X_behindBlanks_100 rfl (lv_at hl 1 rfl) ?_
        exact pr_reti E hP hS (pr_ro hf) prd_X_behindBlanks_101
      · have hf := pr_ie c17 hf
        refine lv_aload_n hx hb prd_X_behindBlanks_16 rfl (lv_at hl 0 rfl) ?_
        refine pr_getr (t := 2) hx hb hts prs_X hown hK hP 0 1 (by decide) rfl (hts _ prw_845) rfl prd_X_behindBlanks_17 ?_
        refine lv_iload_n hx hb prd_X_behindBlanks_20 rfl (lv_at hl 1 rfl) ?_
        obtain ⟨hi18, hf⟩ := pr_ck_in hf
        refine pr_iald (f := (σ.2.1 2)) hx hb hK hP 2 (by decide) rfl hi18 rfl prd_X_behindBlanks_21 ?_
        refine lv_istore (lv' := [(4, .int ((σ.2.1 2) x2.toNatClampNeg)), (0, .ref (ad 0)), (2, .int x2), (3, .int x3)]) hx hb prd_X_behindBlanks_22 hl (by decide) rfl (fun ls hl => ?_)
        refine lv_iload hx hb prd_X_behindBlanks_24 (lv_at hl 0 rfl) ?_
        refine lv_bipush (v := 9) hx hb prd_X_behindBlanks_26 (by decide) ?_
        refine lv_icmp_eq (tgt := 52) hx hb prd_X_behindBlanks_28 (by decide) (fun c19 => ?_) (fun c19 => ?_)
        · have hf := pr_it c19 hf
          refine lv_iinc (v := (x2 + 1)) (lv' := [(2, .int (x2 + 1)), (4, .int ((σ.2.1 2) x2.toNatClampNeg)), (0, .ref (ad 0)), (3, .int x3)]) hx hb prd_X_behindBlanks_52 hl (k := 2) rfl rfl (by decide) rfl (fun ls hl => ?_)
          refine lv_goto (tgt := 97) hx hb prd_X_behindBlanks_55 (by decide) ?_
          refine lv_goto (tgt := 4) hx hb prd_X_behindBlanks_97 (by decide) ?_
          exact ih σ (x2 + 1) x3 _ hf _ _ _ hP hS (lv_sub hl [2, 0, 3] rfl)
        · have hf := pr_ie c19 hf
          refine lv_iload hx hb prd_X_behindBlanks_31 (lv_at hl 0 rfl) ?_
          refine lv_bipush (v := 10) hx hb prd_X_behindBlanks_33 (by decide) ?_
          refine lv_icmp_eq (tgt := 52) hx hb prd_X_behindBlanks_35 (by decide) (fun c20 => ?_) (fun c20 => ?_)
          · have hf := pr_it c20 hf
            refine lv_iinc (v := (x2 + 1)) (lv' := [(2, .int (x2 + 1)), (4, .int ((σ.2.1 2) x2.toNatClampNeg)), (0, .ref (ad 0)), (3, .int x3)]) hx hb prd_X_behindBlanks_52 hl (k := 2) rfl rfl (by decide) rfl (fun ls hl => ?_)
            refine lv_goto (tgt := 97) hx hb prd_X_behindBlanks_55 (by decide) ?_
            refine lv_goto (tgt := 4) hx hb prd_X_behindBlanks_97 (by decide) ?_
            exact ih σ (x2 + 1) x3 _ hf _ _ _ hP hS (lv_sub hl [2, 0, 3] rfl)
          · have hf := pr_ie c20 hf
            refine lv_iload hx hb prd_X_behindBlanks_38 (lv_at hl 0 rfl) ?_
            refine lv_bipush (v := 13) hx hb prd_X_behindBlanks_40 (by decide) ?_
            refine lv_icmp_eq (tgt := 52) hx hb prd_X_behindBlanks_42 (by decide) (fun c21 => ?_) (fun c21 => ?_)
            · have hf := pr_it c21 hf
              refine lv_iinc (v := (x2 + 1)) (lv' := [(2, .int (x2 + 1)), (4, .int ((σ.2.1 2) x2.toNatClampNeg)), (0, .ref (ad 0)), (3, .int x3)]) hx hb prd_X_behindBlanks_52 hl (k := 2) rfl rfl (by decide) rfl (fun ls hl => ?_)
              refine lv_goto (tgt := 97) hx hb prd_X_behindBlanks_55 (by decide) ?_
              refine lv_goto (tgt := 4) hx hb prd_X_behindBlanks_97 (by decide) ?_
              exact ih σ (x2 + 1) x3 _ hf _ _ _ hP hS (lv_sub hl [2, 0, 3] rfl)
            · have hf := pr_ie c21 hf
              refine lv_iload hx hb prd_X_behindBlanks_45 (lv_at hl 0 rfl) ?_
              refine lv_bipush (v := 32) hx hb prd_X_behindBlanks_47 (by decide) ?_
              refine lv_icmp_ne (tgt := 58) hx hb prd_X_behindBlanks_49 (by decide) (fun c22 => ?_) (fun c22 => ?_)
              · have hf := pr_ie c22 hf
                refine lv_aload_n hx hb prd_X_behindBlanks_58 rfl (lv_at hl 1 rfl) ?_
                refine lv_iload_n hx hb prd_X_behindBlanks_59 rfl (lv_at hl 2 rfl) ?_
                refine lv_bipush (v := 47) hx hb prd_X_behindBlanks_60 (by decide) ?_
                refine lv_bipush (v := 47) hx hb prd_X_behindBlanks_62 (by decide) ?_
                obtain ⟨r23, hr23, hf⟩ := pr_bi hf
                refine pr_callVr (rest := []) (r := r23) ⟨hx, hb, hml, hown, hts⟩ 0 (prc_X_isAt hD hX 0 (Nat.le_refl _) σ x2 47 47 r23 hr23) (prg_X_isAt hts prw_862 (by have := hh; omega)) hX hXs hK hP hS (by decide) rfl rfl rfl rfl hl.1 (Nat.le_of_ble_eq_true rfl) prd_X_behindBlanks_64 (fun H locs hP hS => ?_)
                refine lv_if_eq (tgt := 95) hx hb prd_X_behindBlanks_67 (by decide) (fun c24 => ?_) (fun c24 => ?_)
                · have hf := pr_it c24 hf
                  refine lv_iconst (v := 0) hx hb prd_X_behindBlanks_95 (by decide) ?_
                  refine lv_istore_n (lv' := [(3, .int 0), (4, .int ((σ.2.1 2) x2.toNatClampNeg)), (0, .ref (ad 0)), (2, .int x2)]) hx hb prd_X_behindBlanks_96 rfl hl (by decide) rfl (fun ls hl => ?_)
                  refine lv_goto (tgt := 4) hx hb prd_X_behindBlanks_97 (by decide) ?_
                  exact ih σ x2 0 _ hf _ _ _ hP hS (lv_sub hl [2, 3, 0] rfl)
                · have hf := pr_ie c24 hf
                  exact prk_X_behindBlanks_70 hh E ih pr_FU σ x2 x3 _ hf _ _ _ hP hS (lv_sub hl [1, 2, 3] rfl)
              · have hf := pr_it c22 hf
                refine lv_iinc (v := (x2 + 1)) (lv' := [(2, .int (x2 + 1)), (4, .int ((σ.2.1 2) x2.toNatClampNeg)), (0, .ref (ad 0)), (3, .int x3)]) hx hb prd_X_behindBlanks_52 hl (k := 2) rfl rfl (by decide) rfl (fun ls hl => ?_)
                refine lv_goto (tgt := 97) hx hb prd_X_behindBlanks_55 (by decide) ?_
                refine lv_goto (tgt := 4) hx hb prd_X_behindBlanks_97 (by decide) ?_
                exact ih σ (x2 + 1) x3 _ hf _ _ _ hP hS (lv_sub hl [2, 0, 3] rfl)
set_option maxHeartbeats 4000000 in
set_option maxRecDepth 100000 in
theorem prc_X_behindBlanks {l : Launch} {D : va_G} {ad : Nat → Nat} {dA : Nat → ClassId} {A : Nat → Prop} {v : Nat → Nat} {r : Value} (hD : ∀ σ : pr_St, va_D A (pr_w prx_L ad dA σ)) (hX : pr_Xok A (prY ad v r A)) (h : Nat) (hh : 1 ≤ h) (σ : pr_St) (x1 : Int32) (res : Int32) (hf : prf_X_behindBlanks σ x1 = some res) : Met l pry_X_behindBlanks (Cond.code pry_X_behindBlanks prb_X_behindBlanks 5 (some .int) :: pr_U) (pr_rm h) (pr_Pc (prY ad v r A) D pr_cl prx_L ad dA [.ref (ad 0), .int x1] σ) (pr_Qi D pr_cl prx_L ad dA A (res, σ)) 0 0 A := by
  refine pr_entry (cc := prb_X_behindBlanks) (maxL := 5) (ret := (some .int)) (by decide) (Nat.le_of_ble_eq_true rfl) hD hX ?_
  intro p e s m args below meth c E H locs hP hS ls hl
  have hl : lv_has ls 5 [(0, .ref (ad 0)), (1, .int x1)] := hl
  have hf := hf.symm
  unfold prf_X_behindBlanks at hf
  obtain ⟨hx, hb, hml, hown, hts, hr, hlocks, hK, hD, hX, hXs⟩ := id E
  refine lv_iload_n hx hb prd_X_behindBlanks_0 rfl (lv_at hl 1 rfl) ?_
  refine lv_istore_n (lv' := [(2, .int x1), (0, .ref (ad 0)), (1, .int x1)]) hx hb prd_X_behindBlanks_1 rfl hl (by decide) rfl (fun ls hl => ?_)
  refine lv_iconst (v := 1) hx hb prd_X_behindBlanks_2 (by decide) ?_
  refine lv_istore_n (lv' := [(3, .int 1), (2, .int x1), (0, .ref (ad 0)), (1, .int x1)]) hx hb prd_X_behindBlanks_3 rfl hl (by decide) rfl (fun ls hl => ?_)
  exact prk_X_behindBlanks_4 hh E pr_FU σ x1 1 _ hf _ _ _ hP hS (lv_sub hl [2, 1, 0] rfl)
-- X_wordOf
set_option maxHeartbeats 4000000 in
set_option maxRecDepth 100000 in
theorem prk_X_wordOf_34 {l : Launch} {D : va_G} {ad : Nat → Nat} {dA : Nat → ClassId} {A : Nat → Prop} {v : Nat → Nat} {r : Value} {p : Program} {e : Env} {s : State} {m : MethodId} {args : Array Value} {below : List Frame} {meth : Method} {c : Code} {h : Nat} (hh : 4 ≤ h) (E : pr_cx prn_X prb_X_wordOf 6 (some .int) D pr_cl prx_L ad dA A (prY ad v r A) p s m args meth c) {kk2 : pr_St → Int32 → Int32 → Int32 → Option Int32} (Hk2 : ∀ (σ : pr_St) (x1 : Int32) (x2 : Int32) (x3 : Int32) (res : Int32), some res = kk2 σ x1 x2 x3 → ∀ (H : Heap) (locs : List Loc) (ls : Array Slot), va_P D pr_cl (pr_w prx_L ad dA σ) H → va_S A s.heap H locs → lv_has ls 6 [(0, .ref (ad 0)), (1, .int x1), (2, .int x2), (3, .int x3)] → W p l e (pr_rm h) s m args below meth c H locs 0 0 (MQ below (pr_Qi D pr_cl prx_L ad dA A (res, σ)) args s 0 0 A) (F0 m 2 ls [])) : ∀ n : Nat, ∀ (σ : pr_St) (x1 : Int32) (x2 : Int32) (x3 : Int32) (x4 : Int32) (x5 : Int32) (res : Int32), some res = prf_X_wordOf_34 kk2 n σ x1 x2 x3 x4 x5 → ∀ (H : Heap) (locs : List Loc) (ls : Array Slot), va_P D pr_cl (pr_w prx_L ad dA σ) H → va_S A s.heap H locs → lv_has ls 6 [(0, .ref (ad 0)), (1, .int x1), (2, .int x2), (3, .int x3), (4, .int x4), (5, .int x5)] → W p l e (pr_rm h) s m args below meth c H locs 0 0 (MQ below (pr_Qi D pr_cl prx_L ad dA A (res, σ)) args s 0 0 A) (F0 m 34 ls []) := by
  obtain ⟨hx, hb, hml, hown, hts, hr, hlocks, hK, hD, hX, hXs⟩ := id E
  intro n
  induction n with
  | zero =>
    intro σ x1 x2 x3 x4 x5 res hf
    rw [prf_X_wordOf_34] at hf
    cases hf
  | succ n ih =>
    intro σ x1 x2 x3 x4 x5 res hf H locs ls hP hS hl
    rw [prf_X_wordOf_34] at hf
    refine lv_iload hx hb prd_X_wordOf_34 (lv_at hl 5 rfl) ?_
    refine lv_iload_n hx hb prd_X_wordOf_36 rfl (lv_at hl 2 rfl) ?_
    refine lv_icmp_ge (tgt := 81) hx hb prd_X_wordOf_37 (by decide) (fun c13 => ?_) (fun c13 => ?_)
    · have hf := pr_it c13 hf
      refine lv_iload hx hb prd_X_wordOf_81 (lv_at hl 4 rfl) ?_
      refine lv_if_eq (tgt := 92) hx hb prd_X_wordOf_83 (by decide) (fun c14 => ?_) (fun c14 => ?_)
      · have hf := pr_it c14 hf
        refine lv_iinc (v := (x3 + 1)) (lv' := [(3, .int (x3 + 1)), (0, .ref (ad 0)), (1, .int x1), (2, .int x2), (4, .int x4), (5, .int x5)]) hx hb prd_X_wordOf_92 hl (k := 3) rfl rfl (by decide) rfl (fun ls hl => ?_)
        refine lv_goto (tgt := 2) hx hb prd_X_wordOf_95 (by decide) ?_
        exact Hk2 σ x1 x2 (x3 + 1) _ hf _ _ _ hP hS (lv_sub hl [1, 2, 3, 0] rfl)
      · have hf := pr_ie c14 hf
        refine lv_sipush (v := 300) hx hb prd_X_wordOf_86 (by decide) ?_
        refine lv_iload_n hx hb prd_X_wordOf_89 rfl (lv_at hl 3 rfl) ?_
        refine lv_iadd hx hb prd_X_wordOf_90 ?_
        exact pr_reti E hP hS (pr_ro hf) prd_X_wordOf_91
    · have hf := pr_ie c13 hf
      refine lv_iload hx hb prd_X_wordOf_40 (lv_at hl 4 rfl) ?_
      refine lv_if_eq (tgt := 81) hx hb prd_X_wordOf_42 (by decide) (fun c15 => ?_) (fun c15 => ?_)
      · have hf := pr_it c15 hf
        refine lv_iload hx hb prd_X_wordOf_81 (lv_at hl 4 rfl) ?_
        refine lv_if_eq (tgt := 92) hx hb prd_X_wordOf_83 (by decide) (fun c16 => ?_) (fun c16 => ?_)
        · have hf := pr_it c16 hf
          refine lv_iinc (v := (x3 + 1)) (lv' := [(3, .int (x3 + 1)), (0, .ref (ad 0)), (1, .int x1), (2, .int x2), (4, .int x4), (5, .int x5)]) hx hb prd_X_wordOf_92 hl (k := 3) rfl rfl (by decide) rfl (fun ls hl => ?_)
          refine lv_goto (tgt := 2) hx hb prd_X_wordOf_95 (by decide) ?_
          exact Hk2 σ x1 x2 (x3 + 1) _ hf _ _ _ hP hS (lv_sub hl [1, 2, 3, 0] rfl)
        · have hf := pr_ie c16 hf
          refine lv_sipush (v := 300) hx hb prd_X_wordOf_86 (by decide) ?_
          refine lv_iload_n hx hb prd_X_wordOf_89 rfl (lv_at hl 3 rfl) ?_
          refine lv_iadd hx hb prd_X_wordOf_90 ?_
          exact pr_reti E hP hS (pr_ro hf) prd_X_wordOf_91
      · have hf := pr_ie c15 hf
        refine lv_aload_n hx hb prd_X_wordOf_45 rfl (lv_at hl 0 rfl) ?_
        refine pr_getr (t := 2) hx hb hts prs_X hown hK hP 0 1 (by decide) rfl (hts _ prw_845) rfl prd_X_wordOf_46 ?_
        refine lv_iload_n hx hb prd_X_wordOf_49 rfl (lv_at hl 1 rfl) ?_
        refine lv_iload hx hb prd_X_wordOf_50 (lv_at hl 5 rfl) ?_
        refine lv_iadd hx hb prd_X_wordOf_52 ?_
        obtain ⟨hi17, hf⟩ := pr_ck_in hf
        refine pr_iald (f := (σ.2.1 2)) hx hb hK hP 2 (by decide) rfl hi17 rfl prd_X_wordOf_53 ?_
        refine lv_aload_n hx hb prd_X_wordOf_54 rfl (lv_at hl 0 rfl) ?_
        refine pr_getr (t := 1) hx hb hts prs_X hown hK hP 0 0 (by decide) rfl (hts _ prw_866) rfl prd_X_wordOf_55 ?_
        refine lv_iload_n hx hb prd_X_wordOf_58 rfl (lv_at hl 3 rfl) ?_
        obtain ⟨hi18, hf⟩ := pr_ck_in hf
        refine pr_aald (C := "java/lang/String") hx hb hK hP 1 (by decide) rfl hi18 prd_X_wordOf_59 ?_
        refine lv_iload hx hb prd_X_wordOf_60 (lv_at hl 5 rfl) ?_
        obtain ⟨hi19, hf⟩ := pr_ck_in hf
        refine pr_callTr (rest := [.int ((σ.2.1 2) (x1 + x5).toNatClampNeg)]) (r := (prs_ch x3.toNatClampNeg x5.toNatClampNeg)) ⟨hx, hb, hml, hown, hts⟩ (prJ_cha_c hD hX 3 (Nat.le_refl _) σ x3.toNatClampNeg (Nat.not_le.mp fun q => hi18 (Or.inr q)) x5 hi19) (pr_cwV 1 hts (pr_inU (lw_in6 (List.mem_of_getElem? (i := 124) (rfl : _ = some (Cond.methodLink prn_X 183 prJ_cha)))) rfl) prJw_17 prJw_18 prJw_5 prJw_19 rfl rfl (by decide +kernel) (pr_room (by have := hh; omega) (by decide))) hX hXs hK hP hS (vk_recv (adK := fun i => ad (1000 + i)) (i := x3.toNatClampNeg) hXs.1 (Nat.not_le.mp fun q => hi18 (Or.inr q)) hS) rfl rfl hl.1 (Nat.le_of_ble_eq_true rfl) prd_X_wordOf_62 (fun H locs hP hS => ?_)
        refine lv_icmp_ne (tgt := 72) hx hb prd_X_wordOf_65 (by decide) (fun c20 => ?_) (fun c20 => ?_)
        · have hf := pr_ie c20 hf
          refine lv_iconst (v := 0) hx hb prd_X_wordOf_72 (by decide) ?_
          refine lv_istore (lv' := [(4, .int 0), (0, .ref (ad 0)), (1, .int x1), (2, .int x2), (3, .int x3), (5, .int x5)]) hx hb prd_X_wordOf_73 hl (by decide) rfl (fun ls hl => ?_)
          refine lv_iinc (v := (x5 + 1)) (lv' := [(5, .int (x5 + 1)), (4, .int 0), (0, .ref (ad 0)), (1, .int x1), (2, .int x2), (3, .int x3)]) hx hb prd_X_wordOf_75 hl (k := 5) rfl rfl (by decide) rfl (fun ls hl => ?_)
          refine lv_goto (tgt := 34) hx hb prd_X_wordOf_78 (by decide) ?_
          exact ih σ x1 x2 x3 0 (x5 + 1) _ hf _ _ _ hP hS (lv_sub hl [2, 3, 4, 5, 1, 0] rfl)
        · have hf := pr_it c20 hf
          refine lv_iconst (v := 1) hx hb prd_X_wordOf_68 (by decide) ?_
          refine lv_goto (tgt := 73) hx hb prd_X_wordOf_69 (by decide) ?_
          refine lv_istore (lv' := [(4, .int 1), (0, .ref (ad 0)), (1, .int x1), (2, .int x2), (3, .int x3), (5, .int x5)]) hx hb prd_X_wordOf_73 hl (by decide) rfl (fun ls hl => ?_)
          refine lv_iinc (v := (x5 + 1)) (lv' := [(5, .int (x5 + 1)), (4, .int 1), (0, .ref (ad 0)), (1, .int x1), (2, .int x2), (3, .int x3)]) hx hb prd_X_wordOf_75 hl (k := 5) rfl rfl (by decide) rfl (fun ls hl => ?_)
          refine lv_goto (tgt := 34) hx hb prd_X_wordOf_78 (by decide) ?_
          exact ih σ x1 x2 x3 1 (x5 + 1) _ hf _ _ _ hP hS (lv_sub hl [2, 3, 4, 5, 1, 0] rfl)
set_option maxHeartbeats 4000000 in
set_option maxRecDepth 100000 in
theorem prk_X_wordOf_2 {l : Launch} {D : va_G} {ad : Nat → Nat} {dA : Nat → ClassId} {A : Nat → Prop} {v : Nat → Nat} {r : Value} {p : Program} {e : Env} {s : State} {m : MethodId} {args : Array Value} {below : List Frame} {meth : Method} {c : Code} {h : Nat} (hh : 4 ≤ h) (E : pr_cx prn_X prb_X_wordOf 6 (some .int) D pr_cl prx_L ad dA A (prY ad v r A) p s m args meth c) : ∀ n : Nat, ∀ (σ : pr_St) (x1 : Int32) (x2 : Int32) (x3 : Int32) (res : Int32), some res = prf_X_wordOf_2 n σ x1 x2 x3 → ∀ (H : Heap) (locs : List Loc) (ls : Array Slot), va_P D pr_cl (pr_w prx_L ad dA σ) H → va_S A s.heap H locs → lv_has ls 6 [(0, .ref (ad 0)), (1, .int x1), (2, .int x2), (3, .int x3)] → W p l e (pr_rm h) s m args below meth c H locs 0 0 (MQ below (pr_Qi D pr_cl prx_L ad dA A (res, σ)) args s 0 0 A) (F0 m 2 ls []) := by
  obtain ⟨hx, hb, hml, hown, hts, hr, hlocks, hK, hD, hX, hXs⟩ := id E
  intro n
  induction n with
  | zero =>
    intro σ x1 x2 x3 res hf
    rw [prf_X_wordOf_2] at hf
    cases hf
  | succ n ih =>
    intro σ x1 x2 x3 res hf H locs ls hP hS hl
    rw [prf_X_wordOf_2] at hf
    refine lv_iload_n hx hb prd_X_wordOf_2 rfl (lv_at hl 3 rfl) ?_
    refine lv_aload_n hx hb prd_X_wordOf_3 rfl (lv_at hl 0 rfl) ?_
    refine pr_getr (t := 1) hx hb hts prs_X hown hK hP 0 0 (by decide) rfl (hts _ prw_866) rfl prd_X_wordOf_4 ?_
    refine pr_alen (v := 8) hx hb hK hP 1 (by decide) (by decide) prd_X_wordOf_7 ?_
    refine lv_icmp_ge (tgt := 98) hx hb prd_X_wordOf_8 (by decide) (fun c21 => ?_) (fun c21 => ?_)
    · have hf := pr_it c21 hf
      refine lv_iload_n hx hb prd_X_wordOf_98 rfl (lv_at hl 2 rfl) ?_
      refine lv_bipush (v := 30) hx hb prd_X_wordOf_99 (by decide) ?_
      refine lv_icmp_le (tgt := 108) hx hb prd_X_wordOf_101 (by decide) (fun c22 => ?_) (fun c22 => ?_)
      · have hf := pr_it c22 hf
        refine lv_iconst (v := 2) hx hb prd_X_wordOf_108 (by decide) ?_
        exact pr_reti E hP hS (pr_ro hf) prd_X_wordOf_109
      · have hf := pr_ie c22 hf
        refine lv_iconst (v := 1) hx hb prd_X_wordOf_104 (by decide) ?_
        refine lv_goto (tgt := 109) hx hb prd_X_wordOf_105 (by decide) ?_
        exact pr_reti E hP hS (pr_ro hf) prd_X_wordOf_109
    · have hf := pr_ie c21 hf
      refine lv_iload_n hx hb prd_X_wordOf_11 rfl (lv_at hl 2 rfl) ?_
      refine lv_aload_n hx hb prd_X_wordOf_12 rfl (lv_at hl 0 rfl) ?_
      refine pr_getr (t := 1) hx hb hts prs_X hown hK hP 0 0 (by decide) rfl (hts _ prw_866) rfl prd_X_wordOf_13 ?_
      refine lv_iload_n hx hb prd_X_wordOf_16 rfl (lv_at hl 3 rfl) ?_
      obtain ⟨hi23, hf⟩ := pr_ck_in hf
      refine pr_aald (C := "java/lang/String") hx hb hK hP 1 (by decide) rfl hi23 prd_X_wordOf_17 ?_
      refine pr_callTr (rest := [.int x2]) (r := (Int32.ofNat (prs_ln x3.toNatClampNeg))) ⟨hx, hb, hml, hown, hts⟩ (prJ_len_c hD hX 1 (Nat.le_refl _) σ x3.toNatClampNeg (Nat.not_le.mp fun q => hi23 (Or.inr q))) (pr_cwV 0 hts (pr_inU (lw_in6 (List.mem_of_getElem? (i := 114) (rfl : _ = some (Cond.methodLink prn_X 180 prJ_len)))) rfl) prJw_24 prJw_25 prJw_5 prJw_26 rfl rfl (by decide +kernel) (pr_room (by have := hh; omega) (by decide))) hX hXs hK hP hS (vk_recv (adK := fun i => ad (1000 + i)) (i := x3.toNatClampNeg) hXs.1 (Nat.not_le.mp fun q => hi23 (Or.inr q)) hS) rfl rfl hl.1 (Nat.le_of_ble_eq_true rfl) prd_X_wordOf_18 (fun H locs hP hS => ?_)
      refine lv_icmp_ne (tgt := 28) hx hb prd_X_wordOf_21 (by decide) (fun c24 => ?_) (fun c24 => ?_)
      · have hf := pr_ie c24 hf
        refine lv_iconst (v := 0) hx hb prd_X_wordOf_28 (by decide) ?_
        refine lv_istore (lv' := [(4, .int 0), (0, .ref (ad 0)), (1, .int x1), (2, .int x2), (3, .int x3)]) hx hb prd_X_wordOf_29 hl (by decide) rfl (fun ls hl => ?_)
        refine lv_iconst (v := 0) hx hb prd_X_wordOf_31 (by decide) ?_
        refine lv_istore (lv' := [(5, .int 0), (4, .int 0), (0, .ref (ad 0)), (1, .int x1), (2, .int x2), (3, .int x3)]) hx hb prd_X_wordOf_32 hl (by decide) rfl (fun ls hl => ?_)
        exact prk_X_wordOf_34 hh E ih pr_FU σ x1 x2 x3 0 0 _ hf _ _ _ hP hS (lv_sub hl [2, 3, 4, 5, 1, 0] rfl)
      · have hf := pr_it c24 hf
        refine lv_iconst (v := 1) hx hb prd_X_wordOf_24 (by decide) ?_
        refine lv_goto (tgt := 29) hx hb prd_X_wordOf_25 (by decide) ?_
        refine lv_istore (lv' := [(4, .int 1), (0, .ref (ad 0)), (1, .int x1), (2, .int x2), (3, .int x3)]) hx hb prd_X_wordOf_29 hl (by decide) rfl (fun ls hl => ?_)
        refine lv_iconst (v := 0) hx hb prd_X_wordOf_31 (by decide) ?_
        refine lv_istore (lv' := [(5, .int 0), (4, .int 1), (0, .ref (ad 0)), (1, .int x1), (2, .int x2), (3, .int x3)]) hx hb prd_X_wordOf_32 hl (by decide) rfl (fun ls hl => ?_)
        exact prk_X_wordOf_34 hh E ih pr_FU σ x1 x2 x3 1 0 _ hf _ _ _ hP hS (lv_sub hl [2, 3, 4, 5, 1, 0] rfl)
set_option maxHeartbeats 4000000 in
set_option maxRecDepth 100000 in
theorem prc_X_wordOf {l : Launch} {D : va_G} {ad : Nat → Nat} {dA : Nat → ClassId} {A : Nat → Prop} {v : Nat → Nat} {r : Value} (hD : ∀ σ : pr_St, va_D A (pr_w prx_L ad dA σ)) (hX : pr_Xok A (prY ad v r A)) (h : Nat) (hh : 4 ≤ h) (σ : pr_St) (x1 : Int32) (x2 : Int32) (res : Int32) (hf : prf_X_wordOf σ x1 x2 = some res) : Met l pry_X_wordOf (Cond.code pry_X_wordOf prb_X_wordOf 6 (some .int) :: pr_U) (pr_rm h) (pr_Pc (prY ad v r A) D pr_cl prx_L ad dA [.ref (ad 0), .int x1, .int x2] σ) (pr_Qi D pr_cl prx_L ad dA A (res, σ)) 0 0 A := by
  refine pr_entry (cc := prb_X_wordOf) (maxL := 6) (ret := (some .int)) (by decide) (Nat.le_of_ble_eq_true rfl) hD hX ?_
  intro p e s m args below meth c E H locs hP hS ls hl
  have hl : lv_has ls 6 [(0, .ref (ad 0)), (1, .int x1), (2, .int x2)] := hl
  have hf := hf.symm
  unfold prf_X_wordOf at hf
  obtain ⟨hx, hb, hml, hown, hts, hr, hlocks, hK, hD, hX, hXs⟩ := id E
  refine lv_iconst (v := 0) hx hb prd_X_wordOf_0 (by decide) ?_
  refine lv_istore_n (lv' := [(3, .int 0), (0, .ref (ad 0)), (1, .int x1), (2, .int x2)]) hx hb prd_X_wordOf_1 rfl hl (by decide) rfl (fun ls hl => ?_)
  exact prk_X_wordOf_2 hh E pr_FU σ x1 x2 0 _ hf _ _ _ hP hS (lv_sub hl [1, 2, 3, 0] rfl)
-- X_isNumber
set_option maxHeartbeats 4000000 in
set_option maxRecDepth 100000 in
theorem prk_X_isNumber_46 {l : Launch} {D : va_G} {ad : Nat → Nat} {dA : Nat → ClassId} {A : Nat → Prop} {v : Nat → Nat} {r : Value} {p : Program} {e : Env} {s : State} {m : MethodId} {args : Array Value} {below : List Frame} {meth : Method} {c : Code} {h : Nat} (hh : 2 ≤ h) (E : pr_cx prn_X prb_X_isNumber 6 (some .boolean) D pr_cl prx_L ad dA A (prY ad v r A) p s m args meth c) : ∀ (σ : pr_St) (x1 : Int32) (x2 : Int32) (x3 : Int64) (res : Int32), some res = prf_X_isNumber_46 σ x1 x2 x3 → ∀ (H : Heap) (locs : List Loc) (ls : Array Slot), va_P D pr_cl (pr_w prx_L ad dA σ) H → va_S A s.heap H locs → lv_has ls 6 [(0, .ref (ad 0)), (1, .int x1), (2, .int x2), (3, .long x3)] → W p l e (pr_rm h) s m args below meth c H locs 0 0 (MQ below (pr_Qi D pr_cl prx_L ad dA A (res, σ)) args s 0 0 A) (F0 m 46 ls []) := by
  obtain ⟨hx, hb, hml, hown, hts, hr, hlocks, hK, hD, hX, hXs⟩ := id E
  intro σ x1 x2 x3 res hf H locs ls hP hS hl
  unfold prf_X_isNumber_46 at hf
  refine lv_lload_n hx hb prd_X_isNumber_46 rfl (lv_at hl 3 rfl) ?_
  refine lv_ldc2 (v := 2147483647) hx hb hown (hts _ prw_870) prd_X_isNumber_47 ?_
  refine W.lcmp hx hb prd_X_isNumber_50 ?_
  refine lv_if_gt (tgt := 84) hx hb prd_X_isNumber_51 (by decide) (fun c12 => ?_) (fun c12 => ?_)
  · have hf := pr_it c12 hf
    refine lv_iconst (v := 0) hx hb prd_X_isNumber_84 (by decide) ?_
    exact pr_retz E (Or.inl rfl) hP hS (pr_ro hf) prd_X_isNumber_85
  · have hf := pr_ie c12 hf
    refine lv_iload_n hx hb prd_X_isNumber_54 rfl (lv_at hl 2 rfl) ?_
    refine lv_iconst (v := 1) hx hb prd_X_isNumber_55 (by decide) ?_
    refine lv_icmp_eq (tgt := 70) hx hb prd_X_isNumber_56 (by decide) (fun c13 => ?_) (fun c13 => ?_)
    · have hf := pr_it c13 hf
      refine lv_aload_n hx hb prd_X_isNumber_70 rfl (lv_at hl 0 rfl) ?_
      refine lv_iload_n hx hb prd_X_isNumber_71 rfl (lv_at hl 1 rfl) ?_
      refine lv_iload_n hx hb prd_X_isNumber_72 rfl (lv_at hl 2 rfl) ?_
      refine lv_iadd hx hb prd_X_isNumber_73 ?_
      obtain ⟨r14, hr14, hf⟩ := pr_bi hf
      refine pr_callVr (rest := []) (r := r14) ⟨hx, hb, hml, hown, hts⟩ 0 (prc_X_isWord hD hX 1 (Nat.le_refl _) σ (x1 + x2) r14 hr14) (prg_X_isWord hts prw_873 (by have := hh; omega)) hX hXs hK hP hS (by decide) rfl rfl rfl rfl hl.1 (Nat.le_of_ble_eq_true rfl) prd_X_isNumber_74 (fun H locs hP hS => ?_)
      refine lv_if_ne (tgt := 84) hx hb prd_X_isNumber_77 (by decide) (fun c15 => ?_) (fun c15 => ?_)
      · have hf := pr_ie c15 hf
        refine lv_iconst (v := 0) hx hb prd_X_isNumber_84 (by decide) ?_
        exact pr_retz E (Or.inl rfl) hP hS (pr_ro hf) prd_X_isNumber_85
      · have hf := pr_it c15 hf
        refine lv_iconst (v := 1) hx hb prd_X_isNumber_80 (by decide) ?_
        refine lv_goto (tgt := 85) hx hb prd_X_isNumber_81 (by decide) ?_
        exact pr_retz E (Or.inr rfl) hP hS (pr_ro hf) prd_X_isNumber_85
    · have hf := pr_ie c13 hf
      refine lv_aload_n hx hb prd_X_isNumber_59 rfl (lv_at hl 0 rfl) ?_
      refine pr_getr (t := 2) hx hb hts prs_X hown hK hP 0 1 (by decide) rfl (hts _ prw_845) rfl prd_X_isNumber_60 ?_
      refine lv_iload_n hx hb prd_X_isNumber_63 rfl (lv_at hl 1 rfl) ?_
      obtain ⟨hi16, hf⟩ := pr_ck_in hf
      refine pr_iald (f := (σ.2.1 2)) hx hb hK hP 2 (by decide) rfl hi16 rfl prd_X_isNumber_64 ?_
      refine lv_bipush (v := 48) hx hb prd_X_isNumber_65 (by decide) ?_
      refine lv_icmp_eq (tgt := 84) hx hb prd_X_isNumber_67 (by decide) (fun c17 => ?_) (fun c17 => ?_)
      · have hf := pr_it c17 hf
        refine lv_iconst (v := 0) hx hb prd_X_isNumber_84 (by decide) ?_
        exact pr_retz E (Or.inl rfl) hP hS (pr_ro hf) prd_X_isNumber_85
      · have hf := pr_ie c17 hf
        refine lv_aload_n hx hb prd_X_isNumber_70 rfl (lv_at hl 0 rfl) ?_
        refine lv_iload_n hx hb prd_X_isNumber_71 rfl (lv_at hl 1 rfl) ?_
        refine lv_iload_n hx hb prd_X_isNumber_72 rfl (lv_at hl 2 rfl) ?_
        refine lv_iadd hx hb prd_X_isNumber_73 ?_
        obtain ⟨r18, hr18, hf⟩ := pr_bi hf
        refine pr_callVr (rest := []) (r := r18) ⟨hx, hb, hml, hown, hts⟩ 0 (prc_X_isWord hD hX 1 (Nat.le_refl _) σ (x1 + x2) r18 hr18) (prg_X_isWord hts prw_873 (by have := hh; omega)) hX hXs hK hP hS (by decide) rfl rfl rfl rfl hl.1 (Nat.le_of_ble_eq_true rfl) prd_X_isNumber_74 (fun H locs hP hS => ?_)
        refine lv_if_ne (tgt := 84) hx hb prd_X_isNumber_77 (by decide) (fun c19 => ?_) (fun c19 => ?_)
        · have hf := pr_ie c19 hf
          refine lv_iconst (v := 0) hx hb prd_X_isNumber_84 (by decide) ?_
          exact pr_retz E (Or.inl rfl) hP hS (pr_ro hf) prd_X_isNumber_85
        · have hf := pr_it c19 hf
          refine lv_iconst (v := 1) hx hb prd_X_isNumber_80 (by decide) ?_
          refine lv_goto (tgt := 85) hx hb prd_X_isNumber_81 (by decide) ?_
          exact pr_retz E (Or.inr rfl) hP hS (pr_ro hf) prd_X_isNumber_85
set_option maxHeartbeats 4000000 in
set_option maxRecDepth 100000 in
theorem prk_X_isNumber_5 {l : Launch} {D : va_G} {ad : Nat → Nat} {dA : Nat → ClassId} {A : Nat → Prop} {v : Nat → Nat} {r : Value} {p : Program} {e : Env} {s : State} {m : MethodId} {args : Array Value} {below : List Frame} {meth : Method} {c : Code} {h : Nat} (hh : 2 ≤ h) (E : pr_cx prn_X prb_X_isNumber 6 (some .boolean) D pr_cl prx_L ad dA A (prY ad v r A) p s m args meth c) : ∀ n : Nat, ∀ (σ : pr_St) (x1 : Int32) (x2 : Int32) (x3 : Int64) (x5 : Int32) (res : Int32), some res = prf_X_isNumber_5 n σ x1 x2 x3 x5 → ∀ (H : Heap) (locs : List Loc) (ls : Array Slot), va_P D pr_cl (pr_w prx_L ad dA σ) H → va_S A s.heap H locs → lv_has ls 6 [(0, .ref (ad 0)), (1, .int x1), (2, .int x2), (3, .long x3), (5, .int x5)] → W p l e (pr_rm h) s m args below meth c H locs 0 0 (MQ below (pr_Qi D pr_cl prx_L ad dA A (res, σ)) args s 0 0 A) (F0 m 5 ls []) := by
  obtain ⟨hx, hb, hml, hown, hts, hr, hlocks, hK, hD, hX, hXs⟩ := id E
  intro n
  induction n with
  | zero =>
    intro σ x1 x2 x3 x5 res hf
    rw [prf_X_isNumber_5] at hf
    cases hf
  | succ n ih =>
    intro σ x1 x2 x3 x5 res hf H locs ls hP hS hl
    rw [prf_X_isNumber_5] at hf
    refine lv_iload hx hb prd_X_isNumber_5 (lv_at hl 4 rfl) ?_
    refine lv_iload_n hx hb prd_X_isNumber_7 rfl (lv_at hl 2 rfl) ?_
    refine lv_icmp_ge (tgt := 46) hx hb prd_X_isNumber_8 (by decide) (fun c20 => ?_) (fun c20 => ?_)
    · have hf := pr_it c20 hf
      exact prk_X_isNumber_46 hh E σ x1 x2 x3 _ hf _ _ _ hP hS (lv_sub hl [0, 1, 2, 3] rfl)
    · have hf := pr_ie c20 hf
      refine lv_lload_n hx hb prd_X_isNumber_11 rfl (lv_at hl 3 rfl) ?_
      refine lv_ldc2 (v := 2147483647) hx hb hown (hts _ prw_870) prd_X_isNumber_12 ?_
      refine W.lcmp hx hb prd_X_isNumber_15 ?_
      refine lv_if_gt (tgt := 46) hx hb prd_X_isNumber_16 (by decide) (fun c21 => ?_) (fun c21 => ?_)
      · have hf := pr_it c21 hf
        exact prk_X_isNumber_46 hh E σ x1 x2 x3 _ hf _ _ _ hP hS (lv_sub hl [0, 1, 2, 3] rfl)
      · have hf := pr_ie c21 hf
        refine lv_ldc2 (v := 10) hx hb hown (hts _ prw_871) prd_X_isNumber_19 ?_
        refine lv_lload_n hx hb prd_X_isNumber_22 rfl (lv_at hl 3 rfl) ?_
        refine lv_lmul hx hb prd_X_isNumber_23 ?_
        refine lv_aload_n hx hb prd_X_isNumber_24 rfl (lv_at hl 0 rfl) ?_
        refine pr_getr (t := 2) hx hb hts prs_X hown hK hP 0 1 (by decide) rfl (hts _ prw_845) rfl prd_X_isNumber_25 ?_
        refine lv_iload_n hx hb prd_X_isNumber_28 rfl (lv_at hl 1 rfl) ?_
        refine lv_iload hx hb prd_X_isNumber_29 (lv_at hl 4 rfl) ?_
        refine lv_iadd hx hb prd_X_isNumber_31 ?_
        obtain ⟨hi22, hf⟩ := pr_ck_in hf
        refine pr_iald (f := (σ.2.1 2)) hx hb hK hP 2 (by decide) rfl hi22 rfl prd_X_isNumber_32 ?_
        refine lv_i2l (v := ((σ.2.1 2) (x1 + x5).toNatClampNeg).toInt64) hx hb prd_X_isNumber_33 rfl ?_
        refine lv_ladd hx hb prd_X_isNumber_34 ?_
        refine lv_ldc2 (v := 48) hx hb hown (hts _ prw_872) prd_X_isNumber_35 ?_
        refine lv_lsub hx hb prd_X_isNumber_38 ?_
        refine lv_lstore_n (lv' := [(3, .long (((10 * x3) + ((σ.2.1 2) (x1 + x5).toNatClampNeg).toInt64) - 48)), (0, .ref (ad 0)), (1, .int x1), (2, .int x2), (5, .int x5)]) hx hb prd_X_isNumber_39 rfl hl (by decide) rfl (fun ls hl => ?_)
        refine lv_iinc (v := (x5 + 1)) (lv' := [(5, .int (x5 + 1)), (3, .long (((10 * x3) + ((σ.2.1 2) (x1 + x5).toNatClampNeg).toInt64) - 48)), (0, .ref (ad 0)), (1, .int x1), (2, .int x2)]) hx hb prd_X_isNumber_40 hl (k := 4) rfl rfl (by decide) rfl (fun ls hl => ?_)
        refine lv_goto (tgt := 5) hx hb prd_X_isNumber_43 (by decide) ?_
        exact ih σ x1 x2 (((10 * x3) + ((σ.2.1 2) (x1 + x5).toNatClampNeg).toInt64) - 48) (x5 + 1) _ hf _ _ _ hP hS (lv_sub hl [2, 3, 4, 1, 0] rfl)
set_option maxHeartbeats 4000000 in
set_option maxRecDepth 100000 in
theorem prc_X_isNumber {l : Launch} {D : va_G} {ad : Nat → Nat} {dA : Nat → ClassId} {A : Nat → Prop} {v : Nat → Nat} {r : Value} (hD : ∀ σ : pr_St, va_D A (pr_w prx_L ad dA σ)) (hX : pr_Xok A (prY ad v r A)) (h : Nat) (hh : 2 ≤ h) (σ : pr_St) (x1 : Int32) (x2 : Int32) (res : Int32) (hf : prf_X_isNumber σ x1 x2 = some res) : Met l pry_X_isNumber (Cond.code pry_X_isNumber prb_X_isNumber 6 (some .boolean) :: pr_U) (pr_rm h) (pr_Pc (prY ad v r A) D pr_cl prx_L ad dA [.ref (ad 0), .int x1, .int x2] σ) (pr_Qi D pr_cl prx_L ad dA A (res, σ)) 0 0 A := by
  refine pr_entry (cc := prb_X_isNumber) (maxL := 6) (ret := (some .boolean)) (by decide) (Nat.le_of_ble_eq_true rfl) hD hX ?_
  intro p e s m args below meth c E H locs hP hS ls hl
  have hl : lv_has ls 6 [(0, .ref (ad 0)), (1, .int x1), (2, .int x2)] := hl
  have hf := hf.symm
  unfold prf_X_isNumber at hf
  obtain ⟨hx, hb, hml, hown, hts, hr, hlocks, hK, hD, hX, hXs⟩ := id E
  refine lv_lconst (v := 0) hx hb prd_X_isNumber_0 (by decide) ?_
  refine lv_lstore_n (lv' := [(3, .long 0), (0, .ref (ad 0)), (1, .int x1), (2, .int x2)]) hx hb prd_X_isNumber_1 rfl hl (by decide) rfl (fun ls hl => ?_)
  refine lv_iconst (v := 0) hx hb prd_X_isNumber_2 (by decide) ?_
  refine lv_istore (lv' := [(5, .int 0), (3, .long 0), (0, .ref (ad 0)), (1, .int x1), (2, .int x2)]) hx hb prd_X_isNumber_3 hl (by decide) rfl (fun ls hl => ?_)
  exact prk_X_isNumber_5 hh E pr_FU σ x1 x2 0 0 _ hf _ _ _ hP hS (lv_sub hl [2, 3, 4, 1, 0] rfl)
-- X_scan
set_option maxHeartbeats 4000000 in
set_option maxRecDepth 100000 in
theorem prk_X_scan_420 {l : Launch} {D : va_G} {ad : Nat → Nat} {dA : Nat → ClassId} {A : Nat → Prop} {v : Nat → Nat} {r : Value} {p : Program} {e : Env} {s : State} {m : MethodId} {args : Array Value} {below : List Frame} {meth : Method} {c : Code} {h : Nat} (hh : 5 ≤ h) (E : pr_cx prn_X prb_X_scan 6 none D pr_cl prx_L ad dA A (prY ad v r A) p s m args meth c) {kk13 : pr_St → Int32 → Int32 → Option pr_St} (Hk13 : ∀ (σ : pr_St) (x1 : Int32) (x2 : Int32) (res : pr_St), some res = kk13 σ x1 x2 → ∀ (H : Heap) (locs : List Loc) (ls : Array Slot), va_P D pr_cl (pr_w prx_L ad dA σ) H → va_S A s.heap H locs → lv_has ls 6 [(0, .ref (ad 0)), (1, .int x1), (2, .int x2)] → W p l e (pr_rm h) s m args below meth c H locs 0 0 (MQ below (pr_Qv D pr_cl prx_L ad dA A res) args s 0 0 A) (F0 m 13 ls [])) : ∀ (σ : pr_St) (x1 : Int32) (x3 : Int32) (x4 : Int32) (res : pr_St), some res = prf_X_scan_420 kk13 σ x1 x3 x4 → ∀ (H : Heap) (locs : List Loc) (ls : Array Slot), va_P D pr_cl (pr_w prx_L ad dA σ) H → va_S A s.heap H locs → lv_has ls 6 [(0, .ref (ad 0)), (1, .int x1), (3, .int x3), (4, .int x4)] → W p l e (pr_rm h) s m args below meth c H locs 0 0 (MQ below (pr_Qv D pr_cl prx_L ad dA A res) args s 0 0 A) (F0 m 420 ls []) := by
  obtain ⟨hx, hb, hml, hown, hts, hr, hlocks, hK, hD, hX, hXs⟩ := id E
  intro σ x1 x3 x4 res hf H locs ls hP hS hl
  unfold prf_X_scan_420 at hf
  refine lv_aload_n hx hb prd_X_scan_420 rfl (lv_at hl 0 rfl) ?_
  refine pr_getr (t := 3) hx hb hts prs_X hown hK hP 0 4 (by decide) rfl (hts _ prw_881) rfl prd_X_scan_421 ?_
  refine lv_aload_n hx hb prd_X_scan_424 rfl (lv_at hl 0 rfl) ?_
  refine pr_geti (v := (σ.1 0 7)) hx hb hts prs_X hown hK hP 0 7 (by decide) rfl (hts _ prw_877) rfl rfl prd_X_scan_425 ?_
  refine lv_iload hx hb prd_X_scan_428 (lv_at hl 3 rfl) ?_
  obtain ⟨hi95, hf⟩ := pr_ck_in hf
  refine pr_iast (f := (σ.2.1 3)) hx hb hK hP (hD _) hS 3 (by decide) rfl hi95 rfl prd_X_scan_430 (fun H locs hP hS => ?_)
  refine lv_aload_n hx hb prd_X_scan_431 rfl (lv_at hl 0 rfl) ?_
  refine pr_getr (t := 4) hx hb hts prs_X hown hK hP 0 5 (by decide) rfl (hts _ prw_882) rfl prd_X_scan_432 ?_
  refine lv_aload_n hx hb prd_X_scan_435 rfl (lv_at hl 0 rfl) ?_
  refine pr_geti (v := (σ.1 0 7)) hx hb hts prs_X hown hK hP 0 7 (by decide) rfl (hts _ prw_877) rfl rfl prd_X_scan_436 ?_
  refine lv_iload_n hx hb prd_X_scan_439 rfl (lv_at hl 1 rfl) ?_
  obtain ⟨hi96, hf⟩ := pr_ck_in hf
  refine pr_iast (f := (σ.2.1 4)) hx hb hK hP (hD _) hS 4 (by decide) rfl hi96 rfl prd_X_scan_440 (fun H locs hP hS => ?_)
  refine lv_aload_n hx hb prd_X_scan_441 rfl (lv_at hl 0 rfl) ?_
  refine pr_getr (t := 5) hx hb hts prs_X hown hK hP 0 6 (by decide) rfl (hts _ prw_883) rfl prd_X_scan_442 ?_
  refine lv_aload_n hx hb prd_X_scan_445 rfl (lv_at hl 0 rfl) ?_
  refine pr_geti (v := (σ.1 0 7)) hx hb hts prs_X hown hK hP 0 7 (by decide) rfl (hts _ prw_877) rfl rfl prd_X_scan_446 ?_
  refine lv_iload_n hx hb prd_X_scan_449 rfl (lv_at hl 2 rfl) ?_
  obtain ⟨hi97, hf⟩ := pr_ck_in hf
  refine pr_iast (f := (σ.2.1 5)) hx hb hK hP (hD _) hS 5 (by decide) rfl hi97 rfl prd_X_scan_450 (fun H locs hP hS => ?_)
  refine lv_aload_n hx hb prd_X_scan_451 rfl (lv_at hl 0 rfl) ?_
  refine lv_dup hx hb prd_X_scan_452 rfl ?_
  refine pr_geti (v := (σ.1 0 7)) hx hb hts prs_X hown hK hP 0 7 (by decide) rfl (hts _ prw_877) rfl rfl prd_X_scan_453 ?_
  refine lv_iconst (v := 1) hx hb prd_X_scan_456 (by decide) ?_
  refine lv_iadd hx hb prd_X_scan_457 ?_
  refine pr_puti (ty := .int) hx hb hts prs_X prq_X prtt_X prtn_X hown hK hP (hD _) hS 0 7 (by decide) rfl (hts _ prw_877) rfl rfl (prtt_X 7 (by decide)) rfl rfl prd_X_scan_458 (fun H locs hP hS => ?_)
  refine lv_iload hx hb prd_X_scan_461 (lv_at hl 3 rfl) ?_
  refine lv_iconst (v := 1) hx hb prd_X_scan_463 (by decide) ?_
  refine lv_icmp_eq (tgt := 476) hx hb prd_X_scan_464 (by decide) (fun c98 => ?_) (fun c98 => ?_)
  · have hf := pr_it c98 hf
    refine lv_iconst (v := 0) hx hb prd_X_scan_476 (by decide) ?_
    refine lv_istore_n (lv' := [(2, .int 0), (0, .ref (ad 0)), (1, .int x1), (3, .int x3), (4, .int x4)]) hx hb prd_X_scan_477 rfl hl (by decide) rfl (fun ls hl => ?_)
    refine lv_aload_n hx hb prd_X_scan_478 rfl (lv_at hl 1 rfl) ?_
    refine lv_iload_n hx hb prd_X_scan_479 rfl (lv_at hl 2 rfl) ?_
    refine lv_iload_n hx hb prd_X_scan_480 rfl (lv_at hl 3 rfl) ?_
    refine lv_iadd hx hb prd_X_scan_481 ?_
    obtain ⟨r99, hr99, hf⟩ := pr_bi hf
    refine pr_callVr (rest := []) (r := r99) ⟨hx, hb, hml, hown, hts⟩ 0 (prc_X_behindBlanks hD hX 1 (Nat.le_refl _) (pr_sI (pr_sA (pr_sA (pr_sA σ 3 (upd (σ.2.1 3) (σ.1 0 7).toNatClampNeg x4)) 4 (upd (σ.2.1 4) (σ.1 0 7).toNatClampNeg x1)) 5 (upd (σ.2.1 5) (σ.1 0 7).toNatClampNeg x3)) 0 7 ((σ.1 0 7) + 1)) (x1 + x3) r99 hr99) (prg_X_behindBlanks hts prw_878 (by have := hh; omega)) hX hXs hK hP hS (by decide) rfl rfl rfl rfl hl.1 (Nat.le_of_ble_eq_true rfl) prd_X_scan_482 (fun H locs hP hS => ?_)
    refine lv_istore_n (lv' := [(1, .int r99), (2, .int 0), (0, .ref (ad 0)), (3, .int x3), (4, .int x4)]) hx hb prd_X_scan_485 rfl hl (by decide) rfl (fun ls hl => ?_)
    refine lv_goto (tgt := 13) hx hb prd_X_scan_486 (by decide) ?_
    exact Hk13 (pr_sI (pr_sA (pr_sA (pr_sA σ 3 (upd (σ.2.1 3) (σ.1 0 7).toNatClampNeg x4)) 4 (upd (σ.2.1 4) (σ.1 0 7).toNatClampNeg x1)) 5 (upd (σ.2.1 5) (σ.1 0 7).toNatClampNeg x3)) 0 7 ((σ.1 0 7) + 1)) r99 0 _ hf _ _ _ hP hS (lv_sub hl [2, 0, 1] rfl)
  · have hf := pr_ie c98 hf
    refine lv_iload hx hb prd_X_scan_467 (lv_at hl 3 rfl) ?_
    refine lv_if_eq (tgt := 476) hx hb prd_X_scan_469 (by decide) (fun c100 => ?_) (fun c100 => ?_)
    · have hf := pr_it c100 hf
      refine lv_iconst (v := 0) hx hb prd_X_scan_476 (by decide) ?_
      refine lv_istore_n (lv' := [(2, .int 0), (0, .ref (ad 0)), (1, .int x1), (3, .int x3), (4, .int x4)]) hx hb prd_X_scan_477 rfl hl (by decide) rfl (fun ls hl => ?_)
      refine lv_aload_n hx hb prd_X_scan_478 rfl (lv_at hl 1 rfl) ?_
      refine lv_iload_n hx hb prd_X_scan_479 rfl (lv_at hl 2 rfl) ?_
      refine lv_iload_n hx hb prd_X_scan_480 rfl (lv_at hl 3 rfl) ?_
      refine lv_iadd hx hb prd_X_scan_481 ?_
      obtain ⟨r101, hr101, hf⟩ := pr_bi hf
      refine pr_callVr (rest := []) (r := r101) ⟨hx, hb, hml, hown, hts⟩ 0 (prc_X_behindBlanks hD hX 1 (Nat.le_refl _) (pr_sI (pr_sA (pr_sA (pr_sA σ 3 (upd (σ.2.1 3) (σ.1 0 7).toNatClampNeg x4)) 4 (upd (σ.2.1 4) (σ.1 0 7).toNatClampNeg x1)) 5 (upd (σ.2.1 5) (σ.1 0 7).toNatClampNeg x3)) 0 7 ((σ.1 0 7) + 1)) (x1 + x3) r101 hr101) (prg_X_behindBlanks hts prw_878 (by have := hh; omega)) hX hXs hK hP hS (by decide) rfl rfl rfl rfl hl.1 (Nat.le_of_ble_eq_true rfl) prd_X_scan_482 (fun H locs hP hS => ?_)
      refine lv_istore_n (lv' := [(1, .int r101), (2, .int 0), (0, .ref (ad 0)), (3, .int x3), (4, .int x4)]) hx hb prd_X_scan_485 rfl hl (by decide) rfl (fun ls hl => ?_)
      refine lv_goto (tgt := 13) hx hb prd_X_scan_486 (by decide) ?_
      exact Hk13 (pr_sI (pr_sA (pr_sA (pr_sA σ 3 (upd (σ.2.1 3) (σ.1 0 7).toNatClampNeg x4)) 4 (upd (σ.2.1 4) (σ.1 0 7).toNatClampNeg x1)) 5 (upd (σ.2.1 5) (σ.1 0 7).toNatClampNeg x3)) 0 7 ((σ.1 0 7) + 1)) r101 0 _ hf _ _ _ hP hS (lv_sub hl [2, 0, 1] rfl)
    · have hf := pr_ie c100 hf
      refine lv_iconst (v := 1) hx hb prd_X_scan_472 (by decide) ?_
      refine lv_goto (tgt := 477) hx hb prd_X_scan_473 (by decide) ?_
      refine lv_istore_n (lv' := [(2, .int 1), (0, .ref (ad 0)), (1, .int x1), (3, .int x3), (4, .int x4)]) hx hb prd_X_scan_477 rfl hl (by decide) rfl (fun ls hl => ?_)
      refine lv_aload_n hx hb prd_X_scan_478 rfl (lv_at hl 1 rfl) ?_
      refine lv_iload_n hx hb prd_X_scan_479 rfl (lv_at hl 2 rfl) ?_
      refine lv_iload_n hx hb prd_X_scan_480 rfl (lv_at hl 3 rfl) ?_
      refine lv_iadd hx hb prd_X_scan_481 ?_
      obtain ⟨r102, hr102, hf⟩ := pr_bi hf
      refine pr_callVr (rest := []) (r := r102) ⟨hx, hb, hml, hown, hts⟩ 0 (prc_X_behindBlanks hD hX 1 (Nat.le_refl _) (pr_sI (pr_sA (pr_sA (pr_sA σ 3 (upd (σ.2.1 3) (σ.1 0 7).toNatClampNeg x4)) 4 (upd (σ.2.1 4) (σ.1 0 7).toNatClampNeg x1)) 5 (upd (σ.2.1 5) (σ.1 0 7).toNatClampNeg x3)) 0 7 ((σ.1 0 7) + 1)) (x1 + x3) r102 hr102) (prg_X_behindBlanks hts prw_878 (by have := hh; omega)) hX hXs hK hP hS (by decide) rfl rfl rfl rfl hl.1 (Nat.le_of_ble_eq_true rfl) prd_X_scan_482 (fun H locs hP hS => ?_)
      refine lv_istore_n (lv' := [(1, .int r102), (2, .int 1), (0, .ref (ad 0)), (3, .int x3), (4, .int x4)]) hx hb prd_X_scan_485 rfl hl (by decide) rfl (fun ls hl => ?_)
      refine lv_goto (tgt := 13) hx hb prd_X_scan_486 (by decide) ?_
      exact Hk13 (pr_sI (pr_sA (pr_sA (pr_sA σ 3 (upd (σ.2.1 3) (σ.1 0 7).toNatClampNeg x4)) 4 (upd (σ.2.1 4) (σ.1 0 7).toNatClampNeg x1)) 5 (upd (σ.2.1 5) (σ.1 0 7).toNatClampNeg x3)) 0 7 ((σ.1 0 7) + 1)) r102 1 _ hf _ _ _ hP hS (lv_sub hl [2, 0, 1] rfl)
set_option maxHeartbeats 4000000 in
set_option maxRecDepth 100000 in
theorem prk_X_scan_66 {l : Launch} {D : va_G} {ad : Nat → Nat} {dA : Nat → ClassId} {A : Nat → Prop} {v : Nat → Nat} {r : Value} {p : Program} {e : Env} {s : State} {m : MethodId} {args : Array Value} {below : List Frame} {meth : Method} {c : Code} {h : Nat} (hh : 5 ≤ h) (E : pr_cx prn_X prb_X_scan 6 none D pr_cl prx_L ad dA A (prY ad v r A) p s m args meth c) {kk13 : pr_St → Int32 → Int32 → Option pr_St} (Hk13 : ∀ (σ : pr_St) (x1 : Int32) (x2 : Int32) (res : pr_St), some res = kk13 σ x1 x2 → ∀ (H : Heap) (locs : List Loc) (ls : Array Slot), va_P D pr_cl (pr_w prx_L ad dA σ) H → va_S A s.heap H locs → lv_has ls 6 [(0, .ref (ad 0)), (1, .int x1), (2, .int x2)] → W p l e (pr_rm h) s m args below meth c H locs 0 0 (MQ below (pr_Qv D pr_cl prx_L ad dA A res) args s 0 0 A) (F0 m 13 ls [])) : ∀ n : Nat, ∀ (σ : pr_St) (x1 : Int32) (x3 : Int32) (res : pr_St), some res = prf_X_scan_66 kk13 n σ x1 x3 → ∀ (H : Heap) (locs : List Loc) (ls : Array Slot), va_P D pr_cl (pr_w prx_L ad dA σ) H → va_S A s.heap H locs → lv_has ls 6 [(0, .ref (ad 0)), (1, .int x1), (3, .int x3)] → W p l e (pr_rm h) s m args below meth c H locs 0 0 (MQ below (pr_Qv D pr_cl prx_L ad dA A res) args s 0 0 A) (F0 m 66 ls []) := by
  obtain ⟨hx, hb, hml, hown, hts, hr, hlocks, hK, hD, hX, hXs⟩ := id E
  intro n
  induction n with
  | zero =>
    intro σ x1 x3 res hf
    rw [prf_X_scan_66] at hf
    cases hf
  | succ n ih =>
    intro σ x1 x3 res hf H locs ls hP hS hl
    rw [prf_X_scan_66] at hf
    refine lv_aload_n hx hb prd_X_scan_66 rfl (lv_at hl 0 rfl) ?_
    refine lv_iload_n hx hb prd_X_scan_67 rfl (lv_at hl 1 rfl) ?_
    refine lv_iload_n hx hb prd_X_scan_68 rfl (lv_at hl 2 rfl) ?_
    refine lv_iadd hx hb prd_X_scan_69 ?_
    obtain ⟨r103, hr103, hf⟩ := pr_bi hf
    refine pr_callVr (rest := []) (r := r103) ⟨hx, hb, hml, hown, hts⟩ 0 (prc_X_isWord hD hX 1 (Nat.le_refl _) σ (x1 + x3) r103 hr103) (prg_X_isWord hts prw_873 (by have := hh; omega)) hX hXs hK hP hS (by decide) rfl rfl rfl rfl hl.1 (Nat.le_of_ble_eq_true rfl) prd_X_scan_70 (fun H locs hP hS => ?_)
    refine lv_if_eq (tgt := 82) hx hb prd_X_scan_73 (by decide) (fun c104 => ?_) (fun c104 => ?_)
    · have hf := pr_it c104 hf
      refine lv_aload_n hx hb prd_X_scan_82 rfl (lv_at hl 0 rfl) ?_
      refine lv_iload_n hx hb prd_X_scan_83 rfl (lv_at hl 1 rfl) ?_
      refine lv_iload_n hx hb prd_X_scan_84 rfl (lv_at hl 2 rfl) ?_
      obtain ⟨r105, hr105, hf⟩ := pr_bi hf
      refine pr_callVr (rest := []) (r := r105) ⟨hx, hb, hml, hown, hts⟩ 0 (prc_X_wordOf hD hX 4 (Nat.le_refl _) σ x1 x3 r105 hr105) (prg_X_wordOf hts prw_879 (by have := hh; omega)) hX hXs hK hP hS (by decide) rfl rfl rfl rfl hl.1 (Nat.le_of_ble_eq_true rfl) prd_X_scan_85 (fun H locs hP hS => ?_)
      refine lv_istore (lv' := [(4, .int r105), (0, .ref (ad 0)), (1, .int x1), (3, .int x3)]) hx hb prd_X_scan_88 hl (by decide) rfl (fun ls hl => ?_)
      refine lv_goto (tgt := 420) hx hb prd_X_scan_90 (by decide) ?_
      exact prk_X_scan_420 hh E Hk13 σ x1 x3 r105 _ hf _ _ _ hP hS (lv_sub hl [1, 2, 3, 0] rfl)
    · have hf := pr_ie c104 hf
      refine lv_iinc (v := (x3 + 1)) (lv' := [(3, .int (x3 + 1)), (0, .ref (ad 0)), (1, .int x1)]) hx hb prd_X_scan_76 hl (k := 2) rfl rfl (by decide) rfl (fun ls hl => ?_)
      refine lv_goto (tgt := 66) hx hb prd_X_scan_79 (by decide) ?_
      exact ih σ x1 (x3 + 1) _ hf _ _ _ hP hS (lv_sub hl [1, 2, 0] rfl)
set_option maxHeartbeats 4000000 in
set_option maxRecDepth 100000 in
theorem prk_X_scan_131 {l : Launch} {D : va_G} {ad : Nat → Nat} {dA : Nat → ClassId} {A : Nat → Prop} {v : Nat → Nat} {r : Value} {p : Program} {e : Env} {s : State} {m : MethodId} {args : Array Value} {below : List Frame} {meth : Method} {c : Code} {h : Nat} (hh : 5 ≤ h) (E : pr_cx prn_X prb_X_scan 6 none D pr_cl prx_L ad dA A (prY ad v r A) p s m args meth c) {kk13 : pr_St → Int32 → Int32 → Option pr_St} (Hk13 : ∀ (σ : pr_St) (x1 : Int32) (x2 : Int32) (res : pr_St), some res = kk13 σ x1 x2 → ∀ (H : Heap) (locs : List Loc) (ls : Array Slot), va_P D pr_cl (pr_w prx_L ad dA σ) H → va_S A s.heap H locs → lv_has ls 6 [(0, .ref (ad 0)), (1, .int x1), (2, .int x2)] → W p l e (pr_rm h) s m args below meth c H locs 0 0 (MQ below (pr_Qv D pr_cl prx_L ad dA A res) args s 0 0 A) (F0 m 13 ls [])) : ∀ (σ : pr_St) (x1 : Int32) (x3 : Int32) (res : pr_St), some res = prf_X_scan_131 kk13 σ x1 x3 → ∀ (H : Heap) (locs : List Loc) (ls : Array Slot), va_P D pr_cl (pr_w prx_L ad dA σ) H → va_S A s.heap H locs → lv_has ls 6 [(0, .ref (ad 0)), (1, .int x1), (3, .int x3)] → W p l e (pr_rm h) s m args below meth c H locs 0 0 (MQ below (pr_Qv D pr_cl prx_L ad dA A res) args s 0 0 A) (F0 m 131 ls []) := by
  obtain ⟨hx, hb, hml, hown, hts, hr, hlocks, hK, hD, hX, hXs⟩ := id E
  intro σ x1 x3 res hf H locs ls hP hS hl
  unfold prf_X_scan_131 at hf
  refine lv_aload_n hx hb prd_X_scan_131 rfl (lv_at hl 0 rfl) ?_
  refine lv_iload_n hx hb prd_X_scan_132 rfl (lv_at hl 1 rfl) ?_
  refine lv_iload_n hx hb prd_X_scan_133 rfl (lv_at hl 2 rfl) ?_
  obtain ⟨r106, hr106, hf⟩ := pr_bi hf
  refine pr_callVr (rest := []) (r := r106) ⟨hx, hb, hml, hown, hts⟩ 0 (prc_X_isNumber hD hX 2 (Nat.le_refl _) σ x1 x3 r106 hr106) (prg_X_isNumber hts prw_880 (by have := hh; omega)) hX hXs hK hP hS (by decide) rfl rfl rfl rfl hl.1 (Nat.le_of_ble_eq_true rfl) prd_X_scan_134 (fun H locs hP hS => ?_)
  refine lv_if_eq (tgt := 144) hx hb prd_X_scan_137 (by decide) (fun c107 => ?_) (fun c107 => ?_)
  · have hf := pr_it c107 hf
    refine lv_iconst (v := 1) hx hb prd_X_scan_144 (by decide) ?_
    refine lv_istore (lv' := [(4, .int 1), (0, .ref (ad 0)), (1, .int x1), (3, .int x3)]) hx hb prd_X_scan_145 hl (by decide) rfl (fun ls hl => ?_)
    refine lv_goto (tgt := 420) hx hb prd_X_scan_147 (by decide) ?_
    exact prk_X_scan_420 hh E Hk13 σ x1 x3 1 _ hf _ _ _ hP hS (lv_sub hl [1, 2, 3, 0] rfl)
  · have hf := pr_ie c107 hf
    refine lv_iconst (v := 3) hx hb prd_X_scan_140 (by decide) ?_
    refine lv_goto (tgt := 145) hx hb prd_X_scan_141 (by decide) ?_
    refine lv_istore (lv' := [(4, .int 3), (0, .ref (ad 0)), (1, .int x1), (3, .int x3)]) hx hb prd_X_scan_145 hl (by decide) rfl (fun ls hl => ?_)
    refine lv_goto (tgt := 420) hx hb prd_X_scan_147 (by decide) ?_
    exact prk_X_scan_420 hh E Hk13 σ x1 x3 3 _ hf _ _ _ hP hS (lv_sub hl [1, 2, 3, 0] rfl)
set_option maxHeartbeats 4000000 in
set_option maxRecDepth 100000 in
theorem prk_X_scan_101 {l : Launch} {D : va_G} {ad : Nat → Nat} {dA : Nat → ClassId} {A : Nat → Prop} {v : Nat → Nat} {r : Value} {p : Program} {e : Env} {s : State} {m : MethodId} {args : Array Value} {below : List Frame} {meth : Method} {c : Code} {h : Nat} (hh : 5 ≤ h) (E : pr_cx prn_X prb_X_scan 6 none D pr_cl prx_L ad dA A (prY ad v r A) p s m args meth c) {kk13 : pr_St → Int32 → Int32 → Option pr_St} (Hk13 : ∀ (σ : pr_St) (x1 : Int32) (x2 : Int32) (res : pr_St), some res = kk13 σ x1 x2 → ∀ (H : Heap) (locs : List Loc) (ls : Array Slot), va_P D pr_cl (pr_w prx_L ad dA σ) H → va_S A s.heap H locs → lv_has ls 6 [(0, .ref (ad 0)), (1, .int x1), (2, .int x2)] → W p l e (pr_rm h) s m args below meth c H locs 0 0 (MQ below (pr_Qv D pr_cl prx_L ad dA A res) args s 0 0 A) (F0 m 13 ls [])) : ∀ n : Nat, ∀ (σ : pr_St) (x1 : Int32) (x3 : Int32) (res : pr_St), some res = prf_X_scan_101 kk13 n σ x1 x3 → ∀ (H : Heap) (locs : List Loc) (ls : Array Slot), va_P D pr_cl (pr_w prx_L ad dA σ) H → va_S A s.heap H locs → lv_has ls 6 [(0, .ref (ad 0)), (1, .int x1), (3, .int x3)] → W p l e (pr_rm h) s m args below meth c H locs 0 0 (MQ below (pr_Qv D pr_cl prx_L ad dA A res) args s 0 0 A) (F0 m 101 ls []) := by
  obtain ⟨hx, hb, hml, hown, hts, hr, hlocks, hK, hD, hX, hXs⟩ := id E
  intro n
  induction n with
  | zero =>
    intro σ x1 x3 res hf
    rw [prf_X_scan_101] at hf
    cases hf
  | succ n ih =>
    intro σ x1 x3 res hf H locs ls hP hS hl
    rw [prf_X_scan_101] at hf
    refine lv_iload_n hx hb prd_X_scan_101 rfl (lv_at hl 1 rfl) ?_
    refine lv_iload_n hx hb prd_X_scan_102 rfl (lv_at hl 2 rfl) ?_
    refine lv_iadd hx hb prd_X_scan_103 ?_
    refine lv_aload_n hx hb prd_X_scan_104 rfl (lv_at hl 0 rfl) ?_
    refine pr_geti (v := (σ.1 0 3)) hx hb hts prs_X hown hK hP 0 3 (by decide) rfl (hts _ prw_849) rfl rfl prd_X_scan_105 ?_
    refine lv_icmp_ge (tgt := 131) hx hb prd_X_scan_108 (by decide) (fun c108 => ?_) (fun c108 => ?_)
    · have hf := pr_it c108 hf
      exact prk_X_scan_131 hh E Hk13 σ x1 x3 _ hf _ _ _ hP hS (lv_sub hl [0, 1, 2] rfl)
    · have hf := pr_ie c108 hf
      refine lv_aload_n hx hb prd_X_scan_111 rfl (lv_at hl 0 rfl) ?_
      refine pr_getr (t := 2) hx hb hts prs_X hown hK hP 0 1 (by decide) rfl (hts _ prw_845) rfl prd_X_scan_112 ?_
      refine lv_iload_n hx hb prd_X_scan_115 rfl (lv_at hl 1 rfl) ?_
      refine lv_iload_n hx hb prd_X_scan_116 rfl (lv_at hl 2 rfl) ?_
      refine lv_iadd hx hb prd_X_scan_117 ?_
      obtain ⟨hi109, hf⟩ := pr_ck_in hf
      refine pr_iald (f := (σ.2.1 2)) hx hb hK hP 2 (by decide) rfl hi109 rfl prd_X_scan_118 ?_
      obtain ⟨r110, hr110, hf⟩ := pr_bi hf
      refine pr_callSr (rest := []) (r := r110) ⟨hx, hb, hml, hown, hts⟩ (prc_X_isDigit hD hX 0 (Nat.le_refl _) σ ((σ.2.1 2) (x1 + x3).toNatClampNeg) r110 hr110) (prg_X_isDigit hts prw_858 (by have := hh; omega)) hX hXs hK hP hS rfl rfl hl.1 (Nat.le_of_ble_eq_true rfl) prd_X_scan_119 (fun H locs hP hS => ?_)
      refine lv_if_eq (tgt := 131) hx hb prd_X_scan_122 (by decide) (fun c111 => ?_) (fun c111 => ?_)
      · have hf := pr_it c111 hf
        exact prk_X_scan_131 hh E Hk13 σ x1 x3 _ hf _ _ _ hP hS (lv_sub hl [0, 1, 2] rfl)
      · have hf := pr_ie c111 hf
        refine lv_iinc (v := (x3 + 1)) (lv' := [(3, .int (x3 + 1)), (0, .ref (ad 0)), (1, .int x1)]) hx hb prd_X_scan_125 hl (k := 2) rfl rfl (by decide) rfl (fun ls hl => ?_)
        refine lv_goto (tgt := 101) hx hb prd_X_scan_128 (by decide) ?_
        exact ih σ x1 (x3 + 1) _ hf _ _ _ hP hS (lv_sub hl [1, 2, 0] rfl)
set_option maxHeartbeats 4000000 in
set_option maxRecDepth 100000 in
theorem prk_X_scan_222 {l : Launch} {D : va_G} {ad : Nat → Nat} {dA : Nat → ClassId} {A : Nat → Prop} {v : Nat → Nat} {r : Value} {p : Program} {e : Env} {s : State} {m : MethodId} {args : Array Value} {below : List Frame} {meth : Method} {c : Code} {h : Nat} (hh : 5 ≤ h) (E : pr_cx prn_X prb_X_scan 6 none D pr_cl prx_L ad dA A (prY ad v r A) p s m args meth c) {kk13 : pr_St → Int32 → Int32 → Option pr_St} (Hk13 : ∀ (σ : pr_St) (x1 : Int32) (x2 : Int32) (res : pr_St), some res = kk13 σ x1 x2 → ∀ (H : Heap) (locs : List Loc) (ls : Array Slot), va_P D pr_cl (pr_w prx_L ad dA σ) H → va_S A s.heap H locs → lv_has ls 6 [(0, .ref (ad 0)), (1, .int x1), (2, .int x2)] → W p l e (pr_rm h) s m args below meth c H locs 0 0 (MQ below (pr_Qv D pr_cl prx_L ad dA A res) args s 0 0 A) (F0 m 13 ls [])) : ∀ (σ : pr_St) (x1 : Int32) (x5 : Int32) (res : pr_St), some res = prf_X_scan_222 kk13 σ x1 x5 → ∀ (H : Heap) (locs : List Loc) (ls : Array Slot), va_P D pr_cl (pr_w prx_L ad dA σ) H → va_S A s.heap H locs → lv_has ls 6 [(0, .ref (ad 0)), (1, .int x1), (5, .int x5)] → W p l e (pr_rm h) s m args below meth c H locs 0 0 (MQ below (pr_Qv D pr_cl prx_L ad dA A res) args s 0 0 A) (F0 m 222 ls []) := by
  obtain ⟨hx, hb, hml, hown, hts, hr, hlocks, hK, hD, hX, hXs⟩ := id E
  intro σ x1 x5 res hf H locs ls hP hS hl
  unfold prf_X_scan_222 at hf
  refine lv_iconst (v := 2) hx hb prd_X_scan_222 (by decide) ?_
  refine lv_istore_n (lv' := [(3, .int 2), (0, .ref (ad 0)), (1, .int x1), (5, .int x5)]) hx hb prd_X_scan_223 rfl hl (by decide) rfl (fun ls hl => ?_)
  refine lv_iload hx hb prd_X_scan_224 (lv_at hl 3 rfl) ?_
  refine lv_bipush (v := 60) hx hb prd_X_scan_226 (by decide) ?_
  refine lv_icmp_ne (tgt := 237) hx hb prd_X_scan_228 (by decide) (fun c112 => ?_) (fun c112 => ?_)
  · have hf := pr_ie c112 hf
    refine lv_iload hx hb prd_X_scan_237 (lv_at hl 3 rfl) ?_
    refine lv_bipush (v := 62) hx hb prd_X_scan_239 (by decide) ?_
    refine lv_icmp_ne (tgt := 250) hx hb prd_X_scan_241 (by decide) (fun c113 => ?_) (fun c113 => ?_)
    · have hf := pr_ie c113 hf
      refine lv_iload hx hb prd_X_scan_250 (lv_at hl 3 rfl) ?_
      refine lv_bipush (v := 61) hx hb prd_X_scan_252 (by decide) ?_
      refine lv_icmp_ne (tgt := 263) hx hb prd_X_scan_254 (by decide) (fun c114 => ?_) (fun c114 => ?_)
      · have hf := pr_ie c114 hf
        refine lv_iload hx hb prd_X_scan_263 (lv_at hl 3 rfl) ?_
        refine lv_bipush (v := 33) hx hb prd_X_scan_265 (by decide) ?_
        refine lv_icmp_ne (tgt := 276) hx hb prd_X_scan_267 (by decide) (fun c115 => ?_) (fun c115 => ?_)
        · have hf := pr_ie c115 hf
          refine lv_iload hx hb prd_X_scan_276 (lv_at hl 3 rfl) ?_
          refine lv_bipush (v := 38) hx hb prd_X_scan_278 (by decide) ?_
          refine lv_icmp_ne (tgt := 289) hx hb prd_X_scan_280 (by decide) (fun c116 => ?_) (fun c116 => ?_)
          · have hf := pr_ie c116 hf
            refine lv_sipush (v := 261) hx hb prd_X_scan_289 (by decide) ?_
            refine lv_istore (lv' := [(4, .int 261), (3, .int 2), (0, .ref (ad 0)), (1, .int x1), (5, .int x5)]) hx hb prd_X_scan_292 hl (by decide) rfl (fun ls hl => ?_)
            refine lv_goto (tgt := 420) hx hb prd_X_scan_294 (by decide) ?_
            exact prk_X_scan_420 hh E Hk13 σ x1 2 261 _ hf _ _ _ hP hS (lv_sub hl [2, 3, 1, 0] rfl)
          · have hf := pr_it c116 hf
            refine lv_sipush (v := 260) hx hb prd_X_scan_283 (by decide) ?_
            refine lv_goto (tgt := 292) hx hb prd_X_scan_286 (by decide) ?_
            refine lv_istore (lv' := [(4, .int 260), (3, .int 2), (0, .ref (ad 0)), (1, .int x1), (5, .int x5)]) hx hb prd_X_scan_292 hl (by decide) rfl (fun ls hl => ?_)
            refine lv_goto (tgt := 420) hx hb prd_X_scan_294 (by decide) ?_
            exact prk_X_scan_420 hh E Hk13 σ x1 2 260 _ hf _ _ _ hP hS (lv_sub hl [2, 3, 1, 0] rfl)
        · have hf := pr_it c115 hf
          refine lv_sipush (v := 259) hx hb prd_X_scan_270 (by decide) ?_
          refine lv_goto (tgt := 292) hx hb prd_X_scan_273 (by decide) ?_
          refine lv_istore (lv' := [(4, .int 259), (3, .int 2), (0, .ref (ad 0)), (1, .int x1), (5, .int x5)]) hx hb prd_X_scan_292 hl (by decide) rfl (fun ls hl => ?_)
          refine lv_goto (tgt := 420) hx hb prd_X_scan_294 (by decide) ?_
          exact prk_X_scan_420 hh E Hk13 σ x1 2 259 _ hf _ _ _ hP hS (lv_sub hl [2, 3, 1, 0] rfl)
      · have hf := pr_it c114 hf
        refine lv_sipush (v := 258) hx hb prd_X_scan_257 (by decide) ?_
        refine lv_goto (tgt := 292) hx hb prd_X_scan_260 (by decide) ?_
        refine lv_istore (lv' := [(4, .int 258), (3, .int 2), (0, .ref (ad 0)), (1, .int x1), (5, .int x5)]) hx hb prd_X_scan_292 hl (by decide) rfl (fun ls hl => ?_)
        refine lv_goto (tgt := 420) hx hb prd_X_scan_294 (by decide) ?_
        exact prk_X_scan_420 hh E Hk13 σ x1 2 258 _ hf _ _ _ hP hS (lv_sub hl [2, 3, 1, 0] rfl)
    · have hf := pr_it c113 hf
      refine lv_sipush (v := 257) hx hb prd_X_scan_244 (by decide) ?_
      refine lv_goto (tgt := 292) hx hb prd_X_scan_247 (by decide) ?_
      refine lv_istore (lv' := [(4, .int 257), (3, .int 2), (0, .ref (ad 0)), (1, .int x1), (5, .int x5)]) hx hb prd_X_scan_292 hl (by decide) rfl (fun ls hl => ?_)
      refine lv_goto (tgt := 420) hx hb prd_X_scan_294 (by decide) ?_
      exact prk_X_scan_420 hh E Hk13 σ x1 2 257 _ hf _ _ _ hP hS (lv_sub hl [2, 3, 1, 0] rfl)
  · have hf := pr_it c112 hf
    refine lv_sipush (v := 256) hx hb prd_X_scan_231 (by decide) ?_
    refine lv_goto (tgt := 292) hx hb prd_X_scan_234 (by decide) ?_
    refine lv_istore (lv' := [(4, .int 256), (3, .int 2), (0, .ref (ad 0)), (1, .int x1), (5, .int x5)]) hx hb prd_X_scan_292 hl (by decide) rfl (fun ls hl => ?_)
    refine lv_goto (tgt := 420) hx hb prd_X_scan_294 (by decide) ?_
    exact prk_X_scan_420 hh E Hk13 σ x1 2 256 _ hf _ _ _ hP hS (lv_sub hl [2, 3, 1, 0] rfl)
set_option maxHeartbeats 4000000 in
set_option maxRecDepth 100000 in
theorem prk_X_scan_416 {l : Launch} {D : va_G} {ad : Nat → Nat} {dA : Nat → ClassId} {A : Nat → Prop} {v : Nat → Nat} {r : Value} {p : Program} {e : Env} {s : State} {m : MethodId} {args : Array Value} {below : List Frame} {meth : Method} {c : Code} {h : Nat} (hh : 5 ≤ h) (E : pr_cx prn_X prb_X_scan 6 none D pr_cl prx_L ad dA A (prY ad v r A) p s m args meth c) {kk13 : pr_St → Int32 → Int32 → Option pr_St} (Hk13 : ∀ (σ : pr_St) (x1 : Int32) (x2 : Int32) (res : pr_St), some res = kk13 σ x1 x2 → ∀ (H : Heap) (locs : List Loc) (ls : Array Slot), va_P D pr_cl (pr_w prx_L ad dA σ) H → va_S A s.heap H locs → lv_has ls 6 [(0, .ref (ad 0)), (1, .int x1), (2, .int x2)] → W p l e (pr_rm h) s m args below meth c H locs 0 0 (MQ below (pr_Qv D pr_cl prx_L ad dA A res) args s 0 0 A) (F0 m 13 ls [])) : ∀ (σ : pr_St) (x1 : Int32) (x3 : Int32) (x5 : Int32) (res : pr_St), some res = prf_X_scan_416 kk13 σ x1 x3 x5 → ∀ (H : Heap) (locs : List Loc) (ls : Array Slot), va_P D pr_cl (pr_w prx_L ad dA σ) H → va_S A s.heap H locs → lv_has ls 6 [(0, .ref (ad 0)), (1, .int x1), (3, .int x3), (5, .int x5)] → W p l e (pr_rm h) s m args below meth c H locs 0 0 (MQ below (pr_Qv D pr_cl prx_L ad dA A res) args s 0 0 A) (F0 m 416 ls []) := by
  obtain ⟨hx, hb, hml, hown, hts, hr, hlocks, hK, hD, hX, hXs⟩ := id E
  intro σ x1 x3 x5 res hf H locs ls hP hS hl
  unfold prf_X_scan_416 at hf
  refine lv_iload hx hb prd_X_scan_416 (lv_at hl 3 rfl) ?_
  refine lv_istore (lv' := [(4, .int x5), (0, .ref (ad 0)), (1, .int x1), (3, .int x3), (5, .int x5)]) hx hb prd_X_scan_418 hl (by decide) rfl (fun ls hl => ?_)
  exact prk_X_scan_420 hh E Hk13 σ x1 x3 x5 _ hf _ _ _ hP hS (lv_sub hl [1, 2, 3, 0] rfl)
set_option maxHeartbeats 4000000 in
set_option maxRecDepth 100000 in
theorem prk_X_scan_13 {l : Launch} {D : va_G} {ad : Nat → Nat} {dA : Nat → ClassId} {A : Nat → Prop} {v : Nat → Nat} {r : Value} {p : Program} {e : Env} {s : State} {m : MethodId} {args : Array Value} {below : List Frame} {meth : Method} {c : Code} {h : Nat} (hh : 5 ≤ h) (E : pr_cx prn_X prb_X_scan 6 none D pr_cl prx_L ad dA A (prY ad v r A) p s m args meth c) : ∀ n : Nat, ∀ (σ : pr_St) (x1 : Int32) (x2 : Int32) (res : pr_St), some res = prf_X_scan_13 n σ x1 x2 → ∀ (H : Heap) (locs : List Loc) (ls : Array Slot), va_P D pr_cl (pr_w prx_L ad dA σ) H → va_S A s.heap H locs → lv_has ls 6 [(0, .ref (ad 0)), (1, .int x1), (2, .int x2)] → W p l e (pr_rm h) s m args below meth c H locs 0 0 (MQ below (pr_Qv D pr_cl prx_L ad dA A res) args s 0 0 A) (F0 m 13 ls []) := by
  obtain ⟨hx, hb, hml, hown, hts, hr, hlocks, hK, hD, hX, hXs⟩ := id E
  intro n
  induction n with
  | zero =>
    intro σ x1 x2 res hf
    rw [prf_X_scan_13] at hf
    cases hf
  | succ n ih =>
    intro σ x1 x2 res hf H locs ls hP hS hl
    rw [prf_X_scan_13] at hf
    refine lv_iload_n hx hb prd_X_scan_13 rfl (lv_at hl 2 rfl) ?_
    refine lv_if_eq (tgt := 489) hx hb prd_X_scan_14 (by decide) (fun c117 => ?_) (fun c117 => ?_)
    · have hf := pr_it c117 hf
      exact pr_retv E hP hS (pr_so hf) prd_X_scan_489
    · have hf := pr_ie c117 hf
      refine lv_iconst (v := 1) hx hb prd_X_scan_17 (by decide) ?_
      refine lv_istore_n (lv' := [(3, .int 1), (0, .ref (ad 0)), (1, .int x1), (2, .int x2)]) hx hb prd_X_scan_18 rfl hl (by decide) rfl (fun ls hl => ?_)
      refine lv_iconst (v := 1) hx hb prd_X_scan_19 (by decide) ?_
      refine lv_istore (lv' := [(4, .int 1), (3, .int 1), (0, .ref (ad 0)), (1, .int x1), (2, .int x2)]) hx hb prd_X_scan_20 hl (by decide) rfl (fun ls hl => ?_)
      refine lv_iload_n hx hb prd_X_scan_22 rfl (lv_at hl 3 rfl) ?_
      refine lv_aload_n hx hb prd_X_scan_23 rfl (lv_at hl 2 rfl) ?_
      refine pr_geti (v := (σ.1 0 3)) hx hb hts prs_X hown hK hP 0 3 (by decide) rfl (hts _ prw_849) rfl rfl prd_X_scan_24 ?_
      refine lv_icmp_ge (tgt := 39) hx hb prd_X_scan_27 (by decide) (fun c118 => ?_) (fun c118 => ?_)
      · have hf := pr_it c118 hf
        refine lv_iconst (v := 0) hx hb prd_X_scan_39 (by decide) ?_
        refine lv_istore (lv' := [(5, .int 0), (4, .int 1), (3, .int 1), (0, .ref (ad 0)), (1, .int x1), (2, .int x2)]) hx hb prd_X_scan_40 hl (by decide) rfl (fun ls hl => ?_)
        refine lv_iload_n hx hb prd_X_scan_42 rfl (lv_at hl 4 rfl) ?_
        refine lv_aload_n hx hb prd_X_scan_43 rfl (lv_at hl 3 rfl) ?_
        refine pr_geti (v := (σ.1 0 3)) hx hb hts prs_X hown hK hP 0 3 (by decide) rfl (hts _ prw_849) rfl rfl prd_X_scan_44 ?_
        refine lv_icmp_lt (tgt := 58) hx hb prd_X_scan_47 (by decide) (fun c119 => ?_) (fun c119 => ?_)
        · have hf := pr_it c119 hf
          refine lv_iload hx hb prd_X_scan_58 (lv_at hl 0 rfl) ?_
          obtain ⟨r120, hr120, hf⟩ := pr_bi hf
          refine pr_callSr (rest := []) (r := r120) ⟨hx, hb, hml, hown, hts⟩ (prc_X_isLetter hD hX 0 (Nat.le_refl _) σ 0 r120 hr120) (prg_X_isLetter hts prw_857 (by have := hh; omega)) hX hXs hK hP hS rfl rfl hl.1 (Nat.le_of_ble_eq_true rfl) prd_X_scan_60 (fun H locs hP hS => ?_)
          refine lv_if_eq (tgt := 93) hx hb prd_X_scan_63 (by decide) (fun c121 => ?_) (fun c121 => ?_)
          · have hf := pr_it c121 hf
            refine lv_iload hx hb prd_X_scan_93 (lv_at hl 0 rfl) ?_
            obtain ⟨r122, hr122, hf⟩ := pr_bi hf
            refine pr_callSr (rest := []) (r := r122) ⟨hx, hb, hml, hown, hts⟩ (prc_X_isDigit hD hX 0 (Nat.le_refl _) σ 0 r122 hr122) (prg_X_isDigit hts prw_858 (by have := hh; omega)) hX hXs hK hP hS rfl rfl hl.1 (Nat.le_of_ble_eq_true rfl) prd_X_scan_95 (fun H locs hP hS => ?_)
            refine lv_if_eq (tgt := 150) hx hb prd_X_scan_98 (by decide) (fun c123 => ?_) (fun c123 => ?_)
            · have hf := pr_it c123 hf
              refine lv_aload_n hx hb prd_X_scan_150 rfl (lv_at hl 3 rfl) ?_
              refine lv_iload_n hx hb prd_X_scan_151 rfl (lv_at hl 4 rfl) ?_
              refine lv_bipush (v := 60) hx hb prd_X_scan_152 (by decide) ?_
              refine lv_bipush (v := 61) hx hb prd_X_scan_154 (by decide) ?_
              obtain ⟨r124, hr124, hf⟩ := pr_bi hf
              refine pr_callVr (rest := []) (r := r124) ⟨hx, hb, hml, hown, hts⟩ 0 (prc_X_isAt hD hX 0 (Nat.le_refl _) σ x1 60 61 r124 hr124) (prg_X_isAt hts prw_862 (by have := hh; omega)) hX hXs hK hP hS (by decide) rfl rfl rfl rfl hl.1 (Nat.le_of_ble_eq_true rfl) prd_X_scan_156 (fun H locs hP hS => ?_)
              refine lv_if_ne (tgt := 222) hx hb prd_X_scan_159 (by decide) (fun c125 => ?_) (fun c125 => ?_)
              · have hf := pr_ie c125 hf
                exact prk_X_scan_222 hh E ih σ x1 0 _ hf _ _ _ hP hS (lv_sub hl [3, 4, 0] rfl)
              · have hf := pr_it c125 hf
                refine lv_aload_n hx hb prd_X_scan_162 rfl (lv_at hl 3 rfl) ?_
                refine lv_iload_n hx hb prd_X_scan_163 rfl (lv_at hl 4 rfl) ?_
                refine lv_bipush (v := 62) hx hb prd_X_scan_164 (by decide) ?_
                refine lv_bipush (v := 61) hx hb prd_X_scan_166 (by decide) ?_
                obtain ⟨r126, hr126, hf⟩ := pr_bi hf
                refine pr_callVr (rest := []) (r := r126) ⟨hx, hb, hml, hown, hts⟩ 0 (prc_X_isAt hD hX 0 (Nat.le_refl _) σ x1 62 61 r126 hr126) (prg_X_isAt hts prw_862 (by have := hh; omega)) hX hXs hK hP hS (by decide) rfl rfl rfl rfl hl.1 (Nat.le_of_ble_eq_true rfl) prd_X_scan_168 (fun H locs hP hS => ?_)
                refine lv_if_ne (tgt := 222) hx hb prd_X_scan_171 (by decide) (fun c127 => ?_) (fun c127 => ?_)
                · have hf := pr_ie c127 hf
                  exact prk_X_scan_222 hh E ih σ x1 0 _ hf _ _ _ hP hS (lv_sub hl [3, 4, 0] rfl)
                · have hf := pr_it c127 hf
                  refine lv_aload_n hx hb prd_X_scan_174 rfl (lv_at hl 3 rfl) ?_
                  refine lv_iload_n hx hb prd_X_scan_175 rfl (lv_at hl 4 rfl) ?_
                  refine lv_bipush (v := 61) hx hb prd_X_scan_176 (by decide) ?_
                  refine lv_bipush (v := 61) hx hb prd_X_scan_178 (by decide) ?_
                  obtain ⟨r128, hr128, hf⟩ := pr_bi hf
                  refine pr_callVr (rest := []) (r := r128) ⟨hx, hb, hml, hown, hts⟩ 0 (prc_X_isAt hD hX 0 (Nat.le_refl _) σ x1 61 61 r128 hr128) (prg_X_isAt hts prw_862 (by have := hh; omega)) hX hXs hK hP hS (by decide) rfl rfl rfl rfl hl.1 (Nat.le_of_ble_eq_true rfl) prd_X_scan_180 (fun H locs hP hS => ?_)
                  refine lv_if_ne (tgt := 222) hx hb prd_X_scan_183 (by decide) (fun c129 => ?_) (fun c129 => ?_)
                  · have hf := pr_ie c129 hf
                    exact prk_X_scan_222 hh E ih σ x1 0 _ hf _ _ _ hP hS (lv_sub hl [3, 4, 0] rfl)
                  · have hf := pr_it c129 hf
                    refine lv_aload_n hx hb prd_X_scan_186 rfl (lv_at hl 3 rfl) ?_
                    refine lv_iload_n hx hb prd_X_scan_187 rfl (lv_at hl 4 rfl) ?_
                    refine lv_bipush (v := 33) hx hb prd_X_scan_188 (by decide) ?_
                    refine lv_bipush (v := 61) hx hb prd_X_scan_190 (by decide) ?_
                    obtain ⟨r130, hr130, hf⟩ := pr_bi hf
                    refine pr_callVr (rest := []) (r := r130) ⟨hx, hb, hml, hown, hts⟩ 0 (prc_X_isAt hD hX 0 (Nat.le_refl _) σ x1 33 61 r130 hr130) (prg_X_isAt hts prw_862 (by have := hh; omega)) hX hXs hK hP hS (by decide) rfl rfl rfl rfl hl.1 (Nat.le_of_ble_eq_true rfl) prd_X_scan_192 (fun H locs hP hS => ?_)
                    refine lv_if_ne (tgt := 222) hx hb prd_X_scan_195 (by decide) (fun c131 => ?_) (fun c131 => ?_)
                    · have hf := pr_ie c131 hf
                      exact prk_X_scan_222 hh E ih σ x1 0 _ hf _ _ _ hP hS (lv_sub hl [3, 4, 0] rfl)
                    · have hf := pr_it c131 hf
                      refine lv_aload_n hx hb prd_X_scan_198 rfl (lv_at hl 3 rfl) ?_
                      refine lv_iload_n hx hb prd_X_scan_199 rfl (lv_at hl 4 rfl) ?_
                      refine lv_bipush (v := 38) hx hb prd_X_scan_200 (by decide) ?_
                      refine lv_bipush (v := 38) hx hb prd_X_scan_202 (by decide) ?_
                      obtain ⟨r132, hr132, hf⟩ := pr_bi hf
                      refine pr_callVr (rest := []) (r := r132) ⟨hx, hb, hml, hown, hts⟩ 0 (prc_X_isAt hD hX 0 (Nat.le_refl _) σ x1 38 38 r132 hr132) (prg_X_isAt hts prw_862 (by have := hh; omega)) hX hXs hK hP hS (by decide) rfl rfl rfl rfl hl.1 (Nat.le_of_ble_eq_true rfl) prd_X_scan_204 (fun H locs hP hS => ?_)
                      refine lv_if_ne (tgt := 222) hx hb prd_X_scan_207 (by decide) (fun c133 => ?_) (fun c133 => ?_)
                      · have hf := pr_ie c133 hf
                        exact prk_X_scan_222 hh E ih σ x1 0 _ hf _ _ _ hP hS (lv_sub hl [3, 4, 0] rfl)
                      · have hf := pr_it c133 hf
                        refine lv_aload_n hx hb prd_X_scan_210 rfl (lv_at hl 3 rfl) ?_
                        refine lv_iload_n hx hb prd_X_scan_211 rfl (lv_at hl 4 rfl) ?_
                        refine lv_bipush (v := 124) hx hb prd_X_scan_212 (by decide) ?_
                        refine lv_bipush (v := 124) hx hb prd_X_scan_214 (by decide) ?_
                        obtain ⟨r134, hr134, hf⟩ := pr_bi hf
                        refine pr_callVr (rest := []) (r := r134) ⟨hx, hb, hml, hown, hts⟩ 0 (prc_X_isAt hD hX 0 (Nat.le_refl _) σ x1 124 124 r134 hr134) (prg_X_isAt hts prw_862 (by have := hh; omega)) hX hXs hK hP hS (by decide) rfl rfl rfl rfl hl.1 (Nat.le_of_ble_eq_true rfl) prd_X_scan_216 (fun H locs hP hS => ?_)
                        refine lv_if_eq (tgt := 297) hx hb prd_X_scan_219 (by decide) (fun c135 => ?_) (fun c135 => ?_)
                        · have hf := pr_it c135 hf
                          refine lv_iload hx hb prd_X_scan_297 (lv_at hl 0 rfl) ?_
                          refine lv_bipush (v := 40) hx hb prd_X_scan_299 (by decide) ?_
                          refine lv_icmp_eq (tgt := 416) hx hb prd_X_scan_301 (by decide) (fun c136 => ?_) (fun c136 => ?_)
                          · have hf := pr_it c136 hf
                            exact prk_X_scan_416 hh E ih σ x1 1 0 _ hf _ _ _ hP hS (lv_sub hl [3, 4, 2, 0] rfl)
                          · have hf := pr_ie c136 hf
                            refine lv_iload hx hb prd_X_scan_304 (lv_at hl 0 rfl) ?_
                            refine lv_bipush (v := 41) hx hb prd_X_scan_306 (by decide) ?_
                            refine lv_icmp_eq (tgt := 416) hx hb prd_X_scan_308 (by decide) (fun c137 => ?_) (fun c137 => ?_)
                            · have hf := pr_it c137 hf
                              exact prk_X_scan_416 hh E ih σ x1 1 0 _ hf _ _ _ hP hS (lv_sub hl [3, 4, 2, 0] rfl)
                            · have hf := pr_ie c137 hf
                              refine lv_iload hx hb prd_X_scan_311 (lv_at hl 0 rfl) ?_
                              refine lv_bipush (v := 123) hx hb prd_X_scan_313 (by decide) ?_
                              refine lv_icmp_eq (tgt := 416) hx hb prd_X_scan_315 (by decide) (fun c138 => ?_) (fun c138 => ?_)
                              · have hf := pr_it c138 hf
                                exact prk_X_scan_416 hh E ih σ x1 1 0 _ hf _ _ _ hP hS (lv_sub hl [3, 4, 2, 0] rfl)
                              · have hf := pr_ie c138 hf
                                refine lv_iload hx hb prd_X_scan_318 (lv_at hl 0 rfl) ?_
                                refine lv_bipush (v := 125) hx hb prd_X_scan_320 (by decide) ?_
                                refine lv_icmp_eq (tgt := 416) hx hb prd_X_scan_322 (by decide) (fun c139 => ?_) (fun c139 => ?_)
                                · have hf := pr_it c139 hf
                                  exact prk_X_scan_416 hh E ih σ x1 1 0 _ hf _ _ _ hP hS (lv_sub hl [3, 4, 2, 0] rfl)
                                · have hf := pr_ie c139 hf
                                  refine lv_iload hx hb prd_X_scan_325 (lv_at hl 0 rfl) ?_
                                  refine lv_bipush (v := 91) hx hb prd_X_scan_327 (by decide) ?_
                                  refine lv_icmp_eq (tgt := 416) hx hb prd_X_scan_329 (by decide) (fun c140 => ?_) (fun c140 => ?_)
                                  · have hf := pr_it c140 hf
                                    exact prk_X_scan_416 hh E ih σ x1 1 0 _ hf _ _ _ hP hS (lv_sub hl [3, 4, 2, 0] rfl)
                                  · have hf := pr_ie c140 hf
                                    refine lv_iload hx hb prd_X_scan_332 (lv_at hl 0 rfl) ?_
                                    refine lv_bipush (v := 93) hx hb prd_X_scan_334 (by decide) ?_
                                    refine lv_icmp_eq (tgt := 416) hx hb prd_X_scan_336 (by decide) (fun c141 => ?_) (fun c141 => ?_)
                                    · have hf := pr_it c141 hf
                                      exact prk_X_scan_416 hh E ih σ x1 1 0 _ hf _ _ _ hP hS (lv_sub hl [3, 4, 2, 0] rfl)
                                    · have hf := pr_ie c141 hf
                                      refine lv_iload hx hb prd_X_scan_339 (lv_at hl 0 rfl) ?_
                                      refine lv_bipush (v := 44) hx hb prd_X_scan_341 (by decide) ?_
                                      refine lv_icmp_eq (tgt := 416) hx hb prd_X_scan_343 (by decide) (fun c142 => ?_) (fun c142 => ?_)
                                      · have hf := pr_it c142 hf
                                        exact prk_X_scan_416 hh E ih σ x1 1 0 _ hf _ _ _ hP hS (lv_sub hl [3, 4, 2, 0] rfl)
                                      · have hf := pr_ie c142 hf
                                        refine lv_iload hx hb prd_X_scan_346 (lv_at hl 0 rfl) ?_
                                        refine lv_bipush (v := 59) hx hb prd_X_scan_348 (by decide) ?_
                                        refine lv_icmp_eq (tgt := 416) hx hb prd_X_scan_350 (by decide) (fun c143 => ?_) (fun c143 => ?_)
                                        · have hf := pr_it c143 hf
                                          exact prk_X_scan_416 hh E ih σ x1 1 0 _ hf _ _ _ hP hS (lv_sub hl [3, 4, 2, 0] rfl)
                                        · have hf := pr_ie c143 hf
                                          refine lv_iload hx hb prd_X_scan_353 (lv_at hl 0 rfl) ?_
                                          refine lv_bipush (v := 61) hx hb prd_X_scan_355 (by decide) ?_
                                          refine lv_icmp_eq (tgt := 416) hx hb prd_X_scan_357 (by decide) (fun c144 => ?_) (fun c144 => ?_)
                                          · have hf := pr_it c144 hf
                                            exact prk_X_scan_416 hh E ih σ x1 1 0 _ hf _ _ _ hP hS (lv_sub hl [3, 4, 2, 0] rfl)
                                          · have hf := pr_ie c144 hf
                                            refine lv_iload hx hb prd_X_scan_360 (lv_at hl 0 rfl) ?_
                                            refine lv_bipush (v := 43) hx hb prd_X_scan_362 (by decide) ?_
                                            refine lv_icmp_eq (tgt := 416) hx hb prd_X_scan_364 (by decide) (fun c145 => ?_) (fun c145 => ?_)
                                            · have hf := pr_it c145 hf
                                              exact prk_X_scan_416 hh E ih σ x1 1 0 _ hf _ _ _ hP hS (lv_sub hl [3, 4, 2, 0] rfl)
                                            · have hf := pr_ie c145 hf
                                              refine lv_iload hx hb prd_X_scan_367 (lv_at hl 0 rfl) ?_
                                              refine lv_bipush (v := 45) hx hb prd_X_scan_369 (by decide) ?_
                                              refine lv_icmp_eq (tgt := 416) hx hb prd_X_scan_371 (by decide) (fun c146 => ?_) (fun c146 => ?_)
                                              · have hf := pr_it c146 hf
                                                exact prk_X_scan_416 hh E ih σ x1 1 0 _ hf _ _ _ hP hS (lv_sub hl [3, 4, 2, 0] rfl)
                                              · have hf := pr_ie c146 hf
                                                refine lv_iload hx hb prd_X_scan_374 (lv_at hl 0 rfl) ?_
                                                refine lv_bipush (v := 42) hx hb prd_X_scan_376 (by decide) ?_
                                                refine lv_icmp_eq (tgt := 416) hx hb prd_X_scan_378 (by decide) (fun c147 => ?_) (fun c147 => ?_)
                                                · have hf := pr_it c147 hf
                                                  exact prk_X_scan_416 hh E ih σ x1 1 0 _ hf _ _ _ hP hS (lv_sub hl [3, 4, 2, 0] rfl)
                                                · have hf := pr_ie c147 hf
                                                  refine lv_iload hx hb prd_X_scan_381 (lv_at hl 0 rfl) ?_
                                                  refine lv_bipush (v := 47) hx hb prd_X_scan_383 (by decide) ?_
                                                  refine lv_icmp_eq (tgt := 416) hx hb prd_X_scan_385 (by decide) (fun c148 => ?_) (fun c148 => ?_)
                                                  · have hf := pr_it c148 hf
                                                    exact prk_X_scan_416 hh E ih σ x1 1 0 _ hf _ _ _ hP hS (lv_sub hl [3, 4, 2, 0] rfl)
                                                  · have hf := pr_ie c148 hf
                                                    refine lv_iload hx hb prd_X_scan_388 (lv_at hl 0 rfl) ?_
                                                    refine lv_bipush (v := 37) hx hb prd_X_scan_390 (by decide) ?_
                                                    refine lv_icmp_eq (tgt := 416) hx hb prd_X_scan_392 (by decide) (fun c149 => ?_) (fun c149 => ?_)
                                                    · have hf := pr_it c149 hf
                                                      exact prk_X_scan_416 hh E ih σ x1 1 0 _ hf _ _ _ hP hS (lv_sub hl [3, 4, 2, 0] rfl)
                                                    · have hf := pr_ie c149 hf
                                                      refine lv_iload hx hb prd_X_scan_395 (lv_at hl 0 rfl) ?_
                                                      refine lv_bipush (v := 60) hx hb prd_X_scan_397 (by decide) ?_
                                                      refine lv_icmp_eq (tgt := 416) hx hb prd_X_scan_399 (by decide) (fun c150 => ?_) (fun c150 => ?_)
                                                      · have hf := pr_it c150 hf
                                                        exact prk_X_scan_416 hh E ih σ x1 1 0 _ hf _ _ _ hP hS (lv_sub hl [3, 4, 2, 0] rfl)
                                                      · have hf := pr_ie c150 hf
                                                        refine lv_iload hx hb prd_X_scan_402 (lv_at hl 0 rfl) ?_
                                                        refine lv_bipush (v := 62) hx hb prd_X_scan_404 (by decide) ?_
                                                        refine lv_icmp_eq (tgt := 416) hx hb prd_X_scan_406 (by decide) (fun c151 => ?_) (fun c151 => ?_)
                                                        · have hf := pr_it c151 hf
                                                          exact prk_X_scan_416 hh E ih σ x1 1 0 _ hf _ _ _ hP hS (lv_sub hl [3, 4, 2, 0] rfl)
                                                        · have hf := pr_ie c151 hf
                                                          refine lv_iload hx hb prd_X_scan_409 (lv_at hl 0 rfl) ?_
                                                          refine lv_bipush (v := 33) hx hb prd_X_scan_411 (by decide) ?_
                                                          refine lv_icmp_ne (tgt := 420) hx hb prd_X_scan_413 (by decide) (fun c152 => ?_) (fun c152 => ?_)
                                                          · have hf := pr_ie c152 hf
                                                            exact prk_X_scan_420 hh E ih σ x1 1 1 _ hf _ _ _ hP hS (lv_sub hl [3, 4, 2, 1] rfl)
                                                          · have hf := pr_it c152 hf
                                                            exact prk_X_scan_416 hh E ih σ x1 1 0 _ hf _ _ _ hP hS (lv_sub hl [3, 4, 2, 0] rfl)
                        · have hf := pr_ie c135 hf
                          exact prk_X_scan_222 hh E ih σ x1 0 _ hf _ _ _ hP hS (lv_sub hl [3, 4, 0] rfl)
            · have hf := pr_ie c123 hf
              exact prk_X_scan_101 hh E ih pr_FU σ x1 1 _ hf _ _ _ hP hS (lv_sub hl [3, 4, 2] rfl)
          · have hf := pr_ie c121 hf
            exact prk_X_scan_66 hh E ih pr_FU σ x1 1 _ hf _ _ _ hP hS (lv_sub hl [3, 4, 2] rfl)
        · have hf := pr_ie c119 hf
          refine lv_iconst (v := 0) hx hb prd_X_scan_50 (by decide) ?_
          refine lv_istore (lv' := [(4, .int 0), (5, .int 0), (3, .int 1), (0, .ref (ad 0)), (1, .int x1), (2, .int x2)]) hx hb prd_X_scan_51 hl (by decide) rfl (fun ls hl => ?_)
          refine lv_iconst (v := 0) hx hb prd_X_scan_53 (by decide) ?_
          refine lv_istore_n (lv' := [(3, .int 0), (4, .int 0), (5, .int 0), (0, .ref (ad 0)), (1, .int x1), (2, .int x2)]) hx hb prd_X_scan_54 rfl hl (by decide) rfl (fun ls hl => ?_)
          refine lv_goto (tgt := 420) hx hb prd_X_scan_55 (by decide) ?_
          exact prk_X_scan_420 hh E ih σ x1 0 0 _ hf _ _ _ hP hS (lv_sub hl [3, 4, 0, 1] rfl)
      · have hf := pr_ie c118 hf
        refine lv_aload_n hx hb prd_X_scan_30 rfl (lv_at hl 2 rfl) ?_
        refine pr_getr (t := 2) hx hb hts prs_X hown hK hP 0 1 (by decide) rfl (hts _ prw_845) rfl prd_X_scan_31 ?_
        refine lv_iload_n hx hb prd_X_scan_34 rfl (lv_at hl 3 rfl) ?_
        obtain ⟨hi153, hf⟩ := pr_ck_in hf
        refine pr_iald (f := (σ.2.1 2)) hx hb hK hP 2 (by decide) rfl hi153 rfl prd_X_scan_35 ?_
        refine lv_goto (tgt := 40) hx hb prd_X_scan_36 (by decide) ?_
        refine lv_istore (lv' := [(5, .int ((σ.2.1 2) x1.toNatClampNeg)), (4, .int 1), (3, .int 1), (0, .ref (ad 0)), (1, .int x1), (2, .int x2)]) hx hb prd_X_scan_40 hl (by decide) rfl (fun ls hl => ?_)
        refine lv_iload_n hx hb prd_X_scan_42 rfl (lv_at hl 4 rfl) ?_
        refine lv_aload_n hx hb prd_X_scan_43 rfl (lv_at hl 3 rfl) ?_
        refine pr_geti (v := (σ.1 0 3)) hx hb hts prs_X hown hK hP 0 3 (by decide) rfl (hts _ prw_849) rfl rfl prd_X_scan_44 ?_
        refine lv_icmp_lt (tgt := 58) hx hb prd_X_scan_47 (by decide) (fun c154 => ?_) (fun c154 => ?_)
        · have hf := pr_it c154 hf
          refine lv_iload hx hb prd_X_scan_58 (lv_at hl 0 rfl) ?_
          obtain ⟨r155, hr155, hf⟩ := pr_bi hf
          refine pr_callSr (rest := []) (r := r155) ⟨hx, hb, hml, hown, hts⟩ (prc_X_isLetter hD hX 0 (Nat.le_refl _) σ ((σ.2.1 2) x1.toNatClampNeg) r155 hr155) (prg_X_isLetter hts prw_857 (by have := hh; omega)) hX hXs hK hP hS rfl rfl hl.1 (Nat.le_of_ble_eq_true rfl) prd_X_scan_60 (fun H locs hP hS => ?_)
          refine lv_if_eq (tgt := 93) hx hb prd_X_scan_63 (by decide) (fun c156 => ?_) (fun c156 => ?_)
          · have hf := pr_it c156 hf
            refine lv_iload hx hb prd_X_scan_93 (lv_at hl 0 rfl) ?_
            obtain ⟨r157, hr157, hf⟩ := pr_bi hf
            refine pr_callSr (rest := []) (r := r157) ⟨hx, hb, hml, hown, hts⟩ (prc_X_isDigit hD hX 0 (Nat.le_refl _) σ ((σ.2.1 2) x1.toNatClampNeg) r157 hr157) (prg_X_isDigit hts prw_858 (by have := hh; omega)) hX hXs hK hP hS rfl rfl hl.1 (Nat.le_of_ble_eq_true rfl) prd_X_scan_95 (fun H locs hP hS => ?_)
            refine lv_if_eq (tgt := 150) hx hb prd_X_scan_98 (by decide) (fun c158 => ?_) (fun c158 => ?_)
            · have hf := pr_it c158 hf
              refine lv_aload_n hx hb prd_X_scan_150 rfl (lv_at hl 3 rfl) ?_
              refine lv_iload_n hx hb prd_X_scan_151 rfl (lv_at hl 4 rfl) ?_
              refine lv_bipush (v := 60) hx hb prd_X_scan_152 (by decide) ?_
              refine lv_bipush (v := 61) hx hb prd_X_scan_154 (by decide) ?_
              obtain ⟨r159, hr159, hf⟩ := pr_bi hf
              refine pr_callVr (rest := []) (r := r159) ⟨hx, hb, hml, hown, hts⟩ 0 (prc_X_isAt hD hX 0 (Nat.le_refl _) σ x1 60 61 r159 hr159) (prg_X_isAt hts prw_862 (by have := hh; omega)) hX hXs hK hP hS (by decide) rfl rfl rfl rfl hl.1 (Nat.le_of_ble_eq_true rfl) prd_X_scan_156 (fun H locs hP hS => ?_)
              refine lv_if_ne (tgt := 222) hx hb prd_X_scan_159 (by decide) (fun c160 => ?_) (fun c160 => ?_)
              · have hf := pr_ie c160 hf
                exact prk_X_scan_222 hh E ih σ x1 ((σ.2.1 2) x1.toNatClampNeg) _ hf _ _ _ hP hS (lv_sub hl [3, 4, 0] rfl)
              · have hf := pr_it c160 hf
                refine lv_aload_n hx hb prd_X_scan_162 rfl (lv_at hl 3 rfl) ?_
                refine lv_iload_n hx hb prd_X_scan_163 rfl (lv_at hl 4 rfl) ?_
                refine lv_bipush (v := 62) hx hb prd_X_scan_164 (by decide) ?_
                refine lv_bipush (v := 61) hx hb prd_X_scan_166 (by decide) ?_
                obtain ⟨r161, hr161, hf⟩ := pr_bi hf
                refine pr_callVr (rest := []) (r := r161) ⟨hx, hb, hml, hown, hts⟩ 0 (prc_X_isAt hD hX 0 (Nat.le_refl _) σ x1 62 61 r161 hr161) (prg_X_isAt hts prw_862 (by have := hh; omega)) hX hXs hK hP hS (by decide) rfl rfl rfl rfl hl.1 (Nat.le_of_ble_eq_true rfl) prd_X_scan_168 (fun H locs hP hS => ?_)
                refine lv_if_ne (tgt := 222) hx hb prd_X_scan_171 (by decide) (fun c162 => ?_) (fun c162 => ?_)
                · have hf := pr_ie c162 hf
                  exact prk_X_scan_222 hh E ih σ x1 ((σ.2.1 2) x1.toNatClampNeg) _ hf _ _ _ hP hS (lv_sub hl [3, 4, 0] rfl)
                · have hf := pr_it c162 hf
                  refine lv_aload_n hx hb prd_X_scan_174 rfl (lv_at hl 3 rfl) ?_
                  refine lv_iload_n hx hb prd_X_scan_175 rfl (lv_at hl 4 rfl) ?_
                  refine lv_bipush (v := 61) hx hb prd_X_scan_176 (by decide) ?_
                  refine lv_bipush (v := 61) hx hb prd_X_scan_178 (by decide) ?_
                  obtain ⟨r163, hr163, hf⟩ := pr_bi hf
                  refine pr_callVr (rest := []) (r := r163) ⟨hx, hb, hml, hown, hts⟩ 0 (prc_X_isAt hD hX 0 (Nat.le_refl _) σ x1 61 61 r163 hr163) (prg_X_isAt hts prw_862 (by have := hh; omega)) hX hXs hK hP hS (by decide) rfl rfl rfl rfl hl.1 (Nat.le_of_ble_eq_true rfl) prd_X_scan_180 (fun H locs hP hS => ?_)
                  refine lv_if_ne (tgt := 222) hx hb prd_X_scan_183 (by decide) (fun c164 => ?_) (fun c164 => ?_)
                  · have hf := pr_ie c164 hf
                    exact prk_X_scan_222 hh E ih σ x1 ((σ.2.1 2) x1.toNatClampNeg) _ hf _ _ _ hP hS (lv_sub hl [3, 4, 0] rfl)
                  · have hf := pr_it c164 hf
                    refine lv_aload_n hx hb prd_X_scan_186 rfl (lv_at hl 3 rfl) ?_
                    refine lv_iload_n hx hb prd_X_scan_187 rfl (lv_at hl 4 rfl) ?_
                    refine lv_bipush (v := 33) hx hb prd_X_scan_188 (by decide) ?_
                    refine lv_bipush (v := 61) hx hb prd_X_scan_190 (by decide) ?_
                    obtain ⟨r165, hr165, hf⟩ := pr_bi hf
                    refine pr_callVr (rest := []) (r := r165) ⟨hx, hb, hml, hown, hts⟩ 0 (prc_X_isAt hD hX 0 (Nat.le_refl _) σ x1 33 61 r165 hr165) (prg_X_isAt hts prw_862 (by have := hh; omega)) hX hXs hK hP hS (by decide) rfl rfl rfl rfl hl.1 (Nat.le_of_ble_eq_true rfl) prd_X_scan_192 (fun H locs hP hS => ?_)
                    refine lv_if_ne (tgt := 222) hx hb prd_X_scan_195 (by decide) (fun c166 => ?_) (fun c166 => ?_)
                    · have hf := pr_ie c166 hf
                      exact prk_X_scan_222 hh E ih σ x1 ((σ.2.1 2) x1.toNatClampNeg) _ hf _ _ _ hP hS (lv_sub hl [3, 4, 0] rfl)
                    · have hf := pr_it c166 hf
                      refine lv_aload_n hx hb prd_X_scan_198 rfl (lv_at hl 3 rfl) ?_
                      refine lv_iload_n hx hb prd_X_scan_199 rfl (lv_at hl 4 rfl) ?_
                      refine lv_bipush (v := 38) hx hb prd_X_scan_200 (by decide) ?_
                      refine lv_bipush (v := 38) hx hb prd_X_scan_202 (by decide) ?_
                      obtain ⟨r167, hr167, hf⟩ := pr_bi hf
                      refine pr_callVr (rest := []) (r := r167) ⟨hx, hb, hml, hown, hts⟩ 0 (prc_X_isAt hD hX 0 (Nat.le_refl _) σ x1 38 38 r167 hr167) (prg_X_isAt hts prw_862 (by have := hh; omega)) hX hXs hK hP hS (by decide) rfl rfl rfl rfl hl.1 (Nat.le_of_ble_eq_true rfl) prd_X_scan_204 (fun H locs hP hS => ?_)
                      refine lv_if_ne (tgt := 222) hx hb prd_X_scan_207 (by decide) (fun c168 => ?_) (fun c168 => ?_)
                      · have hf := pr_ie c168 hf
                        exact prk_X_scan_222 hh E ih σ x1 ((σ.2.1 2) x1.toNatClampNeg) _ hf _ _ _ hP hS (lv_sub hl [3, 4, 0] rfl)
                      · have hf := pr_it c168 hf
                        refine lv_aload_n hx hb prd_X_scan_210 rfl (lv_at hl 3 rfl) ?_
                        refine lv_iload_n hx hb prd_X_scan_211 rfl (lv_at hl 4 rfl) ?_
                        refine lv_bipush (v := 124) hx hb prd_X_scan_212 (by decide) ?_
                        refine lv_bipush (v := 124) hx hb prd_X_scan_214 (by decide) ?_
                        obtain ⟨r169, hr169, hf⟩ := pr_bi hf
                        refine pr_callVr (rest := []) (r := r169) ⟨hx, hb, hml, hown, hts⟩ 0 (prc_X_isAt hD hX 0 (Nat.le_refl _) σ x1 124 124 r169 hr169) (prg_X_isAt hts prw_862 (by have := hh; omega)) hX hXs hK hP hS (by decide) rfl rfl rfl rfl hl.1 (Nat.le_of_ble_eq_true rfl) prd_X_scan_216 (fun H locs hP hS => ?_)
                        refine lv_if_eq (tgt := 297) hx hb prd_X_scan_219 (by decide) (fun c170 => ?_) (fun c170 => ?_)
                        · have hf := pr_it c170 hf
                          refine lv_iload hx hb prd_X_scan_297 (lv_at hl 0 rfl) ?_
                          refine lv_bipush (v := 40) hx hb prd_X_scan_299 (by decide) ?_
                          refine lv_icmp_eq (tgt := 416) hx hb prd_X_scan_301 (by decide) (fun c171 => ?_) (fun c171 => ?_)
                          · have hf := pr_it c171 hf
                            exact prk_X_scan_416 hh E ih σ x1 1 ((σ.2.1 2) x1.toNatClampNeg) _ hf _ _ _ hP hS (lv_sub hl [3, 4, 2, 0] rfl)
                          · have hf := pr_ie c171 hf
                            refine lv_iload hx hb prd_X_scan_304 (lv_at hl 0 rfl) ?_
                            refine lv_bipush (v := 41) hx hb prd_X_scan_306 (by decide) ?_
                            refine lv_icmp_eq (tgt := 416) hx hb prd_X_scan_308 (by decide) (fun c172 => ?_) (fun c172 => ?_)
                            · have hf := pr_it c172 hf
                              exact prk_X_scan_416 hh E ih σ x1 1 ((σ.2.1 2) x1.toNatClampNeg) _ hf _ _ _ hP hS (lv_sub hl [3, 4, 2, 0] rfl)
                            · have hf := pr_ie c172 hf
                              refine lv_iload hx hb prd_X_scan_311 (lv_at hl 0 rfl) ?_
                              refine lv_bipush (v := 123) hx hb prd_X_scan_313 (by decide) ?_
                              refine lv_icmp_eq (tgt := 416) hx hb prd_X_scan_315 (by decide) (fun c173 => ?_) (fun c173 => ?_)
                              · have hf := pr_it c173 hf
                                exact prk_X_scan_416 hh E ih σ x1 1 ((σ.2.1 2) x1.toNatClampNeg) _ hf _ _ _ hP hS (lv_sub hl [3, 4, 2, 0] rfl)
                              · have hf := pr_ie c173 hf
                                refine lv_iload hx hb prd_X_scan_318 (lv_at hl 0 rfl) ?_
                                refine lv_bipush (v := 125) hx hb prd_X_scan_320 (by decide) ?_
                                refine lv_icmp_eq (tgt := 416) hx hb prd_X_scan_322 (by decide) (fun c174 => ?_) (fun c174 => ?_)
                                · have hf := pr_it c174 hf
                                  exact prk_X_scan_416 hh E ih σ x1 1 ((σ.2.1 2) x1.toNatClampNeg) _ hf _ _ _ hP hS (lv_sub hl [3, 4, 2, 0] rfl)
                                · have hf := pr_ie c174 hf
                                  refine lv_iload hx hb prd_X_scan_325 (lv_at hl 0 rfl) ?_
                                  refine lv_bipush (v := 91) hx hb prd_X_scan_327 (by decide) ?_
                                  refine lv_icmp_eq (tgt := 416) hx hb prd_X_scan_329 (by decide) (fun c175 => ?_) (fun c175 => ?_)
                                  · have hf := pr_it c175 hf
                                    exact prk_X_scan_416 hh E ih σ x1 1 ((σ.2.1 2) x1.toNatClampNeg) _ hf _ _ _ hP hS (lv_sub hl [3, 4, 2, 0] rfl)
                                  · have hf := pr_ie c175 hf
                                    refine lv_iload hx hb prd_X_scan_332 (lv_at hl 0 rfl) ?_
                                    refine lv_bipush (v := 93) hx hb prd_X_scan_334 (by decide) ?_
                                    refine lv_icmp_eq (tgt := 416) hx hb prd_X_scan_336 (by decide) (fun c176 => ?_) (fun c176 => ?_)
                                    · have hf := pr_it c176 hf
                                      exact prk_X_scan_416 hh E ih σ x1 1 ((σ.2.1 2) x1.toNatClampNeg) _ hf _ _ _ hP hS (lv_sub hl [3, 4, 2, 0] rfl)
                                    · have hf := pr_ie c176 hf
                                      refine lv_iload hx hb prd_X_scan_339 (lv_at hl 0 rfl) ?_
                                      refine lv_bipush (v := 44) hx hb prd_X_scan_341 (by decide) ?_
                                      refine lv_icmp_eq (tgt := 416) hx hb prd_X_scan_343 (by decide) (fun c177 => ?_) (fun c177 => ?_)
                                      · have hf := pr_it c177 hf
                                        exact prk_X_scan_416 hh E ih σ x1 1 ((σ.2.1 2) x1.toNatClampNeg) _ hf _ _ _ hP hS (lv_sub hl [3, 4, 2, 0] rfl)
                                      · have hf := pr_ie c177 hf
                                        refine lv_iload hx hb prd_X_scan_346 (lv_at hl 0 rfl) ?_
                                        refine lv_bipush (v := 59) hx hb prd_X_scan_348 (by decide) ?_
                                        refine lv_icmp_eq (tgt := 416) hx hb prd_X_scan_350 (by decide) (fun c178 => ?_) (fun c178 => ?_)
                                        · have hf := pr_it c178 hf
                                          exact prk_X_scan_416 hh E ih σ x1 1 ((σ.2.1 2) x1.toNatClampNeg) _ hf _ _ _ hP hS (lv_sub hl [3, 4, 2, 0] rfl)
                                        · have hf := pr_ie c178 hf
                                          refine lv_iload hx hb prd_X_scan_353 (lv_at hl 0 rfl) ?_
                                          refine lv_bipush (v := 61) hx hb prd_X_scan_355 (by decide) ?_
                                          refine lv_icmp_eq (tgt := 416) hx hb prd_X_scan_357 (by decide) (fun c179 => ?_) (fun c179 => ?_)
                                          · have hf := pr_it c179 hf
                                            exact prk_X_scan_416 hh E ih σ x1 1 ((σ.2.1 2) x1.toNatClampNeg) _ hf _ _ _ hP hS (lv_sub hl [3, 4, 2, 0] rfl)
                                          · have hf := pr_ie c179 hf
                                            refine lv_iload hx hb prd_X_scan_360 (lv_at hl 0 rfl) ?_
                                            refine lv_bipush (v := 43) hx hb prd_X_scan_362 (by decide) ?_
                                            refine lv_icmp_eq (tgt := 416) hx hb prd_X_scan_364 (by decide) (fun c180 => ?_) (fun c180 => ?_)
                                            · have hf := pr_it c180 hf
                                              exact prk_X_scan_416 hh E ih σ x1 1 ((σ.2.1 2) x1.toNatClampNeg) _ hf _ _ _ hP hS (lv_sub hl [3, 4, 2, 0] rfl)
                                            · have hf := pr_ie c180 hf
                                              refine lv_iload hx hb prd_X_scan_367 (lv_at hl 0 rfl) ?_
                                              refine lv_bipush (v := 45) hx hb prd_X_scan_369 (by decide) ?_
                                              refine lv_icmp_eq (tgt := 416) hx hb prd_X_scan_371 (by decide) (fun c181 => ?_) (fun c181 => ?_)
                                              · have hf := pr_it c181 hf
                                                exact prk_X_scan_416 hh E ih σ x1 1 ((σ.2.1 2) x1.toNatClampNeg) _ hf _ _ _ hP hS (lv_sub hl [3, 4, 2, 0] rfl)
                                              · have hf := pr_ie c181 hf
                                                refine lv_iload hx hb prd_X_scan_374 (lv_at hl 0 rfl) ?_
                                                refine lv_bipush (v := 42) hx hb prd_X_scan_376 (by decide) ?_
                                                refine lv_icmp_eq (tgt := 416) hx hb prd_X_scan_378 (by decide) (fun c182 => ?_) (fun c182 => ?_)
                                                · have hf := pr_it c182 hf
                                                  exact prk_X_scan_416 hh E ih σ x1 1 ((σ.2.1 2) x1.toNatClampNeg) _ hf _ _ _ hP hS (lv_sub hl [3, 4, 2, 0] rfl)
                                                · have hf := pr_ie c182 hf
                                                  refine lv_iload hx hb prd_X_scan_381 (lv_at hl 0 rfl) ?_
                                                  refine lv_bipush (v := 47) hx hb prd_X_scan_383 (by decide) ?_
                                                  refine lv_icmp_eq (tgt := 416) hx hb prd_X_scan_385 (by decide) (fun c183 => ?_) (fun c183 => ?_)
                                                  · have hf := pr_it c183 hf
                                                    exact prk_X_scan_416 hh E ih σ x1 1 ((σ.2.1 2) x1.toNatClampNeg) _ hf _ _ _ hP hS (lv_sub hl [3, 4, 2, 0] rfl)
                                                  · have hf := pr_ie c183 hf
                                                    refine lv_iload hx hb prd_X_scan_388 (lv_at hl 0 rfl) ?_
                                                    refine lv_bipush (v := 37) hx hb prd_X_scan_390 (by decide) ?_
                                                    refine lv_icmp_eq (tgt := 416) hx hb prd_X_scan_392 (by decide) (fun c184 => ?_) (fun c184 => ?_)
                                                    · have hf := pr_it c184 hf
                                                      exact prk_X_scan_416 hh E ih σ x1 1 ((σ.2.1 2) x1.toNatClampNeg) _ hf _ _ _ hP hS (lv_sub hl [3, 4, 2, 0] rfl)
                                                    · have hf := pr_ie c184 hf
                                                      refine lv_iload hx hb prd_X_scan_395 (lv_at hl 0 rfl) ?_
                                                      refine lv_bipush (v := 60) hx hb prd_X_scan_397 (by decide) ?_
                                                      refine lv_icmp_eq (tgt := 416) hx hb prd_X_scan_399 (by decide) (fun c185 => ?_) (fun c185 => ?_)
                                                      · have hf := pr_it c185 hf
                                                        exact prk_X_scan_416 hh E ih σ x1 1 ((σ.2.1 2) x1.toNatClampNeg) _ hf _ _ _ hP hS (lv_sub hl [3, 4, 2, 0] rfl)
                                                      · have hf := pr_ie c185 hf
                                                        refine lv_iload hx hb prd_X_scan_402 (lv_at hl 0 rfl) ?_
                                                        refine lv_bipush (v := 62) hx hb prd_X_scan_404 (by decide) ?_
                                                        refine lv_icmp_eq (tgt := 416) hx hb prd_X_scan_406 (by decide) (fun c186 => ?_) (fun c186 => ?_)
                                                        · have hf := pr_it c186 hf
                                                          exact prk_X_scan_416 hh E ih σ x1 1 ((σ.2.1 2) x1.toNatClampNeg) _ hf _ _ _ hP hS (lv_sub hl [3, 4, 2, 0] rfl)
                                                        · have hf := pr_ie c186 hf
                                                          refine lv_iload hx hb prd_X_scan_409 (lv_at hl 0 rfl) ?_
                                                          refine lv_bipush (v := 33) hx hb prd_X_scan_411 (by decide) ?_
                                                          refine lv_icmp_ne (tgt := 420) hx hb prd_X_scan_413 (by decide) (fun c187 => ?_) (fun c187 => ?_)
                                                          · have hf := pr_ie c187 hf
                                                            exact prk_X_scan_420 hh E ih σ x1 1 1 _ hf _ _ _ hP hS (lv_sub hl [3, 4, 2, 1] rfl)
                                                          · have hf := pr_it c187 hf
                                                            exact prk_X_scan_416 hh E ih σ x1 1 ((σ.2.1 2) x1.toNatClampNeg) _ hf _ _ _ hP hS (lv_sub hl [3, 4, 2, 0] rfl)
                        · have hf := pr_ie c170 hf
                          exact prk_X_scan_222 hh E ih σ x1 ((σ.2.1 2) x1.toNatClampNeg) _ hf _ _ _ hP hS (lv_sub hl [3, 4, 0] rfl)
            · have hf := pr_ie c158 hf
              exact prk_X_scan_101 hh E ih pr_FU σ x1 1 _ hf _ _ _ hP hS (lv_sub hl [3, 4, 2] rfl)
          · have hf := pr_ie c156 hf
            exact prk_X_scan_66 hh E ih pr_FU σ x1 1 _ hf _ _ _ hP hS (lv_sub hl [3, 4, 2] rfl)
        · have hf := pr_ie c154 hf
          refine lv_iconst (v := 0) hx hb prd_X_scan_50 (by decide) ?_
          refine lv_istore (lv' := [(4, .int 0), (5, .int ((σ.2.1 2) x1.toNatClampNeg)), (3, .int 1), (0, .ref (ad 0)), (1, .int x1), (2, .int x2)]) hx hb prd_X_scan_51 hl (by decide) rfl (fun ls hl => ?_)
          refine lv_iconst (v := 0) hx hb prd_X_scan_53 (by decide) ?_
          refine lv_istore_n (lv' := [(3, .int 0), (4, .int 0), (5, .int ((σ.2.1 2) x1.toNatClampNeg)), (0, .ref (ad 0)), (1, .int x1), (2, .int x2)]) hx hb prd_X_scan_54 rfl hl (by decide) rfl (fun ls hl => ?_)
          refine lv_goto (tgt := 420) hx hb prd_X_scan_55 (by decide) ?_
          exact prk_X_scan_420 hh E ih σ x1 0 0 _ hf _ _ _ hP hS (lv_sub hl [3, 4, 0, 1] rfl)
set_option maxHeartbeats 4000000 in
set_option maxRecDepth 100000 in
theorem prc_X_scan {l : Launch} {D : va_G} {ad : Nat → Nat} {dA : Nat → ClassId} {A : Nat → Prop} {v : Nat → Nat} {r : Value} (hD : ∀ σ : pr_St, va_D A (pr_w prx_L ad dA σ)) (hX : pr_Xok A (prY ad v r A)) (h : Nat) (hh : 5 ≤ h) (σ : pr_St)  (res : pr_St) (hf : prf_X_scan σ  = some res) : Met l pry_X_scan (Cond.code pry_X_scan prb_X_scan 6 none :: pr_U) (pr_rm h) (pr_Pc (prY ad v r A) D pr_cl prx_L ad dA [.ref (ad 0)] σ) (pr_Qv D pr_cl prx_L ad dA A res) 0 0 A := by
  refine pr_entry (cc := prb_X_scan) (maxL := 6) (ret := none) (by decide) (Nat.le_of_ble_eq_true rfl) hD hX ?_
  intro p e s m args below meth c E H locs hP hS ls hl
  have hl : lv_has ls 6 [(0, .ref (ad 0))] := hl
  have hf := hf.symm
  unfold prf_X_scan at hf
  obtain ⟨hx, hb, hml, hown, hts, hr, hlocks, hK, hD, hX, hXs⟩ := id E
  refine lv_aload_n hx hb prd_X_scan_0 rfl (lv_at hl 0 rfl) ?_
  refine lv_iconst (v := 0) hx hb prd_X_scan_1 (by decide) ?_
  refine pr_puti (ty := .int) hx hb hts prs_X prq_X prtt_X prtn_X hown hK hP (hD _) hS 0 7 (by decide) rfl (hts _ prw_877) rfl rfl (prtt_X 7 (by decide)) rfl rfl prd_X_scan_2 (fun H locs hP hS => ?_)
  refine lv_aload_n hx hb prd_X_scan_5 rfl (lv_at hl 0 rfl) ?_
  refine lv_iconst (v := 0) hx hb prd_X_scan_6 (by decide) ?_
  obtain ⟨r188, hr188, hf⟩ := pr_bi hf
  refine pr_callVr (rest := []) (r := r188) ⟨hx, hb, hml, hown, hts⟩ 0 (prc_X_behindBlanks hD hX 1 (Nat.le_refl _) (pr_sI σ 0 7 0) 0 r188 hr188) (prg_X_behindBlanks hts prw_878 (by have := hh; omega)) hX hXs hK hP hS (by decide) rfl rfl rfl rfl hl.1 (Nat.le_of_ble_eq_true rfl) prd_X_scan_7 (fun H locs hP hS => ?_)
  refine lv_istore_n (lv' := [(1, .int r188), (0, .ref (ad 0))]) hx hb prd_X_scan_10 rfl hl (by decide) rfl (fun ls hl => ?_)
  refine lv_iconst (v := 1) hx hb prd_X_scan_11 (by decide) ?_
  refine lv_istore_n (lv' := [(2, .int 1), (1, .int r188), (0, .ref (ad 0))]) hx hb prd_X_scan_12 rfl hl (by decide) rfl (fun ls hl => ?_)
  exact prk_X_scan_13 hh E pr_FU (pr_sI σ 0 7 0) r188 1 _ hf _ _ _ hP hS (lv_sub hl [2, 1, 0] rfl)
-- X_look
set_option maxHeartbeats 4000000 in
set_option maxRecDepth 100000 in
theorem prc_X_look {l : Launch} {D : va_G} {ad : Nat → Nat} {dA : Nat → ClassId} {A : Nat → Prop} {v : Nat → Nat} {r : Value} (hD : ∀ σ : pr_St, va_D A (pr_w prx_L ad dA σ)) (hX : pr_Xok A (prY ad v r A)) (h : Nat) (hh : 0 ≤ h) (σ : pr_St)  (res : Int32) (hf : prf_X_look σ  = some res) : Met l pry_X_look (Cond.code pry_X_look prb_X_look 1 (some .int) :: pr_U) (pr_rm h) (pr_Pc (prY ad v r A) D pr_cl prx_L ad dA [.ref (ad 0)] σ) (pr_Qi D pr_cl prx_L ad dA A (res, σ)) 0 0 A := by
  refine pr_entry (cc := prb_X_look) (maxL := 1) (ret := (some .int)) (by decide) (Nat.le_of_ble_eq_true rfl) hD hX ?_
  intro p e s m args below meth c E H locs hP hS ls hl
  have hl : lv_has ls 1 [(0, .ref (ad 0))] := hl
  have hf := hf.symm
  unfold prf_X_look at hf
  obtain ⟨hx, hb, hml, hown, hts, hr, hlocks, hK, hD, hX, hXs⟩ := id E
  refine lv_aload_n hx hb prd_X_look_0 rfl (lv_at hl 0 rfl) ?_
  refine pr_geti (v := (σ.1 0 9)) hx hb hts prs_X hown hK hP 0 9 (by decide) rfl (hts _ prw_887) rfl rfl prd_X_look_1 ?_
  refine lv_if_eq (tgt := 11) hx hb prd_X_look_4 (by decide) (fun c3 => ?_) (fun c3 => ?_)
  · have hf := pr_it c3 hf
    refine lv_aload_n hx hb prd_X_look_11 rfl (lv_at hl 0 rfl) ?_
    refine pr_getr (t := 3) hx hb hts prs_X hown hK hP 0 4 (by decide) rfl (hts _ prw_881) rfl prd_X_look_12 ?_
    refine lv_aload_n hx hb prd_X_look_15 rfl (lv_at hl 0 rfl) ?_
    refine pr_geti (v := (σ.1 0 8)) hx hb hts prs_X hown hK hP 0 8 (by decide) rfl (hts _ prw_888) rfl rfl prd_X_look_16 ?_
    obtain ⟨hi4, hf⟩ := pr_ck_in hf
    refine pr_iald (f := (σ.2.1 3)) hx hb hK hP 3 (by decide) rfl hi4 rfl prd_X_look_19 ?_
    exact pr_reti E hP hS (pr_ro hf) prd_X_look_20
  · have hf := pr_ie c3 hf
    refine lv_iconst (v := 1) hx hb prd_X_look_7 (by decide) ?_
    refine lv_goto (tgt := 20) hx hb prd_X_look_8 (by decide) ?_
    exact pr_reti E hP hS (pr_ro hf) prd_X_look_20
-- X_need
set_option maxHeartbeats 4000000 in
set_option maxRecDepth 100000 in
theorem prc_X_need {l : Launch} {D : va_G} {ad : Nat → Nat} {dA : Nat → ClassId} {A : Nat → Prop} {v : Nat → Nat} {r : Value} (hD : ∀ σ : pr_St, va_D A (pr_w prx_L ad dA σ)) (hX : pr_Xok A (prY ad v r A)) (h : Nat) (hh : 0 ≤ h) (σ : pr_St) (x1 : Int32) (res : pr_St) (hf : prf_X_need σ x1 = some res) : Met l pry_X_need (Cond.code pry_X_need prb_X_need 2 none :: pr_U) (pr_rm h) (pr_Pc (prY ad v r A) D pr_cl prx_L ad dA [.ref (ad 0), .int x1] σ) (pr_Qv D pr_cl prx_L ad dA A res) 0 0 A := by
  refine pr_entry (cc := prb_X_need) (maxL := 2) (ret := none) (by decide) (Nat.le_of_ble_eq_true rfl) hD hX ?_
  intro p e s m args below meth c E H locs hP hS ls hl
  have hl : lv_has ls 2 [(0, .ref (ad 0)), (1, .int x1)] := hl
  have hf := hf.symm
  unfold prf_X_need at hf
  obtain ⟨hx, hb, hml, hown, hts, hr, hlocks, hK, hD, hX, hXs⟩ := id E
  refine lv_iload_n hx hb prd_X_need_0 rfl (lv_at hl 1 rfl) ?_
  refine lv_if_ne (tgt := 29) hx hb prd_X_need_1 (by decide) (fun c4 => ?_) (fun c4 => ?_)
  · have hf := pr_ie c4 hf
    exact pr_retv E hP hS (pr_so hf) prd_X_need_29
  · have hf := pr_it c4 hf
    refine lv_aload_n hx hb prd_X_need_4 rfl (lv_at hl 0 rfl) ?_
    refine pr_geti (v := (σ.1 0 9)) hx hb hts prs_X hown hK hP 0 9 (by decide) rfl (hts _ prw_887) rfl rfl prd_X_need_5 ?_
    refine lv_if_ne (tgt := 29) hx hb prd_X_need_8 (by decide) (fun c5 => ?_) (fun c5 => ?_)
    · have hf := pr_ie c5 hf
      exact pr_retv E hP hS (pr_so hf) prd_X_need_29
    · have hf := pr_it c5 hf
      refine lv_aload_n hx hb prd_X_need_11 rfl (lv_at hl 0 rfl) ?_
      refine lv_iconst (v := 1) hx hb prd_X_need_12 (by decide) ?_
      refine pr_puti (ty := .boolean) hx hb hts prs_X prq_X prtt_X prtn_X hown hK hP (hD _) hS 0 9 (by decide) rfl (hts _ prw_887) rfl rfl (prtt_X 9 (by decide)) (by decide) (by decide) prd_X_need_13 (fun H locs hP hS => ?_)
      refine lv_aload_n hx hb prd_X_need_16 rfl (lv_at hl 0 rfl) ?_
      refine lv_aload_n hx hb prd_X_need_17 rfl (lv_at hl 0 rfl) ?_
      refine pr_getr (t := 4) hx hb hts prs_X hown hK hP 0 5 (by decide) rfl (hts _ prw_882) rfl prd_X_need_18 ?_
      refine lv_aload_n hx hb prd_X_need_21 rfl (lv_at hl 0 rfl) ?_
      refine pr_geti (v := (σ.1 0 8)) hx hb hts prs_X hown hK hP 0 8 (by decide) rfl (hts _ prw_888) rfl rfl prd_X_need_22 ?_
      obtain ⟨hi6, hf⟩ := pr_ck_in hf
      refine pr_iald (f := (σ.2.1 4)) hx hb hK hP 4 (by decide) rfl hi6 rfl prd_X_need_25 ?_
      refine pr_puti (ty := .int) hx hb hts prs_X prq_X prtt_X prtn_X hown hK hP (hD _) hS 0 10 (by decide) rfl (hts _ prw_892) rfl rfl (prtt_X 10 (by decide)) rfl rfl prd_X_need_26 (fun H locs hP hS => ?_)
      exact pr_retv E hP hS (pr_so hf) prd_X_need_29
-- X_take
set_option maxHeartbeats 4000000 in
set_option maxRecDepth 100000 in
theorem prc_X_take {l : Launch} {D : va_G} {ad : Nat → Nat} {dA : Nat → ClassId} {A : Nat → Prop} {v : Nat → Nat} {r : Value} (hD : ∀ σ : pr_St, va_D A (pr_w prx_L ad dA σ)) (hX : pr_Xok A (prY ad v r A)) (h : Nat) (hh : 1 ≤ h) (σ : pr_St) (x1 : Int32) (res : pr_St) (hf : prf_X_take σ x1 = some res) : Met l pry_X_take (Cond.code pry_X_take prb_X_take 2 none :: pr_U) (pr_rm h) (pr_Pc (prY ad v r A) D pr_cl prx_L ad dA [.ref (ad 0), .int x1] σ) (pr_Qv D pr_cl prx_L ad dA A res) 0 0 A := by
  refine pr_entry (cc := prb_X_take) (maxL := 2) (ret := none) (by decide) (Nat.le_of_ble_eq_true rfl) hD hX ?_
  intro p e s m args below meth c E H locs hP hS ls hl
  have hl : lv_has ls 2 [(0, .ref (ad 0)), (1, .int x1)] := hl
  have hf := hf.symm
  unfold prf_X_take at hf
  obtain ⟨hx, hb, hml, hown, hts, hr, hlocks, hK, hD, hX, hXs⟩ := id E
  refine lv_aload_n hx hb prd_X_take_0 rfl (lv_at hl 0 rfl) ?_
  refine lv_aload_n hx hb prd_X_take_1 rfl (lv_at hl 0 rfl) ?_
  obtain ⟨r7, hr7, hf⟩ := pr_bi hf
  refine pr_callVr (rest := [.ref (ad 0)]) (r := r7) ⟨hx, hb, hml, hown, hts⟩ 0 (prc_X_look hD hX 0 (Nat.le_refl _) σ  r7 hr7) (prg_X_look hts prw_896 (by have := hh; omega)) hX hXs hK hP hS (by decide) rfl rfl rfl rfl hl.1 (Nat.le_of_ble_eq_true rfl) prd_X_take_2 (fun H locs hP hS => ?_)
  refine lv_iload_n hx hb prd_X_take_5 rfl (lv_at hl 1 rfl) ?_
  refine lv_icmp_ne (tgt := 13) hx hb prd_X_take_6 (by decide) (fun c8 => ?_) (fun c8 => ?_)
  · have hf := pr_ie c8 hf
    refine lv_iconst (v := 0) hx hb prd_X_take_13 (by decide) ?_
    obtain ⟨r9, hr9, hf⟩ := pr_bi hf
    refine pr_callVv (rest := []) (res := r9) ⟨hx, hb, hml, hown, hts⟩ 0 (prc_X_need hD hX 0 (Nat.le_refl _) σ 0 r9 hr9) (prg_X_need hts prw_897 (by have := hh; omega)) hX hXs hK hP hS (by decide) rfl rfl rfl rfl hl.1 (Nat.le_of_ble_eq_true rfl) prd_X_take_14 (fun H locs hP hS => ?_)
    refine lv_aload_n hx hb prd_X_take_17 rfl (lv_at hl 0 rfl) ?_
    refine lv_aload_n hx hb prd_X_take_18 rfl (lv_at hl 0 rfl) ?_
    refine pr_geti (v := (r9.1 0 9)) hx hb hts prs_X hown hK hP 0 9 (by decide) rfl (hts _ prw_887) rfl rfl prd_X_take_19 ?_
    refine lv_if_eq (tgt := 32) hx hb prd_X_take_22 (by decide) (fun c10 => ?_) (fun c10 => ?_)
    · have hf := pr_it c10 hf
      refine lv_aload_n hx hb prd_X_take_32 rfl (lv_at hl 0 rfl) ?_
      refine pr_geti (v := (r9.1 0 8)) hx hb hts prs_X hown hK hP 0 8 (by decide) rfl (hts _ prw_888) rfl rfl prd_X_take_33 ?_
      refine lv_iconst (v := 1) hx hb prd_X_take_36 (by decide) ?_
      refine lv_iadd hx hb prd_X_take_37 ?_
      refine pr_puti (ty := .int) hx hb hts prs_X prq_X prtt_X prtn_X hown hK hP (hD _) hS 0 8 (by decide) rfl (hts _ prw_888) rfl rfl (prtt_X 8 (by decide)) rfl rfl prd_X_take_38 (fun H locs hP hS => ?_)
      exact pr_retv E hP hS (pr_so hf) prd_X_take_41
    · have hf := pr_ie c10 hf
      refine lv_aload_n hx hb prd_X_take_25 rfl (lv_at hl 0 rfl) ?_
      refine pr_geti (v := (r9.1 0 8)) hx hb hts prs_X hown hK hP 0 8 (by decide) rfl (hts _ prw_888) rfl rfl prd_X_take_26 ?_
      refine lv_goto (tgt := 38) hx hb prd_X_take_29 (by decide) ?_
      refine pr_puti (ty := .int) hx hb hts prs_X prq_X prtt_X prtn_X hown hK hP (hD _) hS 0 8 (by decide) rfl (hts _ prw_888) rfl rfl (prtt_X 8 (by decide)) rfl rfl prd_X_take_38 (fun H locs hP hS => ?_)
      exact pr_retv E hP hS (pr_so hf) prd_X_take_41
  · have hf := pr_it c8 hf
    refine lv_iconst (v := 1) hx hb prd_X_take_9 (by decide) ?_
    refine lv_goto (tgt := 14) hx hb prd_X_take_10 (by decide) ?_
    obtain ⟨r11, hr11, hf⟩ := pr_bi hf
    refine pr_callVv (rest := []) (res := r11) ⟨hx, hb, hml, hown, hts⟩ 0 (prc_X_need hD hX 0 (Nat.le_refl _) σ 1 r11 hr11) (prg_X_need hts prw_897 (by have := hh; omega)) hX hXs hK hP hS (by decide) rfl rfl rfl rfl hl.1 (Nat.le_of_ble_eq_true rfl) prd_X_take_14 (fun H locs hP hS => ?_)
    refine lv_aload_n hx hb prd_X_take_17 rfl (lv_at hl 0 rfl) ?_
    refine lv_aload_n hx hb prd_X_take_18 rfl (lv_at hl 0 rfl) ?_
    refine pr_geti (v := (r11.1 0 9)) hx hb hts prs_X hown hK hP 0 9 (by decide) rfl (hts _ prw_887) rfl rfl prd_X_take_19 ?_
    refine lv_if_eq (tgt := 32) hx hb prd_X_take_22 (by decide) (fun c12 => ?_) (fun c12 => ?_)
    · have hf := pr_it c12 hf
      refine lv_aload_n hx hb prd_X_take_32 rfl (lv_at hl 0 rfl) ?_
      refine pr_geti (v := (r11.1 0 8)) hx hb hts prs_X hown hK hP 0 8 (by decide) rfl (hts _ prw_888) rfl rfl prd_X_take_33 ?_
      refine lv_iconst (v := 1) hx hb prd_X_take_36 (by decide) ?_
      refine lv_iadd hx hb prd_X_take_37 ?_
      refine pr_puti (ty := .int) hx hb hts prs_X prq_X prtt_X prtn_X hown hK hP (hD _) hS 0 8 (by decide) rfl (hts _ prw_888) rfl rfl (prtt_X 8 (by decide)) rfl rfl prd_X_take_38 (fun H locs hP hS => ?_)
      exact pr_retv E hP hS (pr_so hf) prd_X_take_41
    · have hf := pr_ie c12 hf
      refine lv_aload_n hx hb prd_X_take_25 rfl (lv_at hl 0 rfl) ?_
      refine pr_geti (v := (r11.1 0 8)) hx hb hts prs_X hown hK hP 0 8 (by decide) rfl (hts _ prw_888) rfl rfl prd_X_take_26 ?_
      refine lv_goto (tgt := 38) hx hb prd_X_take_29 (by decide) ?_
      refine pr_puti (ty := .int) hx hb hts prs_X prq_X prtt_X prtn_X hown hK hP (hD _) hS 0 8 (by decide) rfl (hts _ prw_888) rfl rfl (prtt_X 8 (by decide)) rfl rfl prd_X_take_38 (fun H locs hP hS => ?_)
      exact pr_retv E hP hS (pr_so hf) prd_X_take_41
-- X_draft
set_option maxHeartbeats 4000000 in
set_option maxRecDepth 100000 in
theorem prc_X_draft {l : Launch} {D : va_G} {ad : Nat → Nat} {dA : Nat → ClassId} {A : Nat → Prop} {v : Nat → Nat} {r : Value} (hD : ∀ σ : pr_St, va_D A (pr_w prx_L ad dA σ)) (hX : pr_Xok A (prY ad v r A)) (h : Nat) (hh : 0 ≤ h) (σ : pr_St) (x1 : Int32) (x2 : Int32) (x3 : Int32) (res : (Int32 × pr_St)) (hf : prf_X_draft σ x1 x2 x3 = some res) : Met l pry_X_draft (Cond.code pry_X_draft prb_X_draft 4 (some .int) :: pr_U) (pr_rm h) (pr_Pc (prY ad v r A) D pr_cl prx_L ad dA [.ref (ad 0), .int x1, .int x2, .int x3] σ) (pr_Qi D pr_cl prx_L ad dA A res) 0 0 A := by
  refine pr_entry (cc := prb_X_draft) (maxL := 4) (ret := (some .int)) (by decide) (Nat.le_of_ble_eq_true rfl) hD hX ?_
  intro p e s m args below meth c E H locs hP hS ls hl
  have hl : lv_has ls 4 [(0, .ref (ad 0)), (1, .int x1), (2, .int x2), (3, .int x3)] := hl
  have hf := hf.symm
  unfold prf_X_draft at hf
  obtain ⟨hx, hb, hml, hown, hts, hr, hlocks, hK, hD, hX, hXs⟩ := id E
  refine lv_aload_n hx hb prd_X_draft_0 rfl (lv_at hl 0 rfl) ?_
  refine pr_getr (t := 6) hx hb hts prs_X hown hK hP 0 11 (by decide) rfl (hts _ prw_901) rfl prd_X_draft_1 ?_
  refine lv_aload_n hx hb prd_X_draft_4 rfl (lv_at hl 0 rfl) ?_
  refine pr_geti (v := (σ.1 0 17)) hx hb hts prs_X hown hK hP 0 17 (by decide) rfl (hts _ prw_902) rfl rfl prd_X_draft_5 ?_
  refine lv_iload_n hx hb prd_X_draft_8 rfl (lv_at hl 1 rfl) ?_
  obtain ⟨hi7, hf⟩ := pr_ck_in hf
  refine pr_iast (f := (σ.2.1 6)) hx hb hK hP (hD _) hS 6 (by decide) rfl hi7 rfl prd_X_draft_9 (fun H locs hP hS => ?_)
  refine lv_aload_n hx hb prd_X_draft_10 rfl (lv_at hl 0 rfl) ?_
  refine pr_getr (t := 7) hx hb hts prs_X hown hK hP 0 12 (by decide) rfl (hts _ prw_903) rfl prd_X_draft_11 ?_
  refine lv_aload_n hx hb prd_X_draft_14 rfl (lv_at hl 0 rfl) ?_
  refine pr_geti (v := (σ.1 0 17)) hx hb hts prs_X hown hK hP 0 17 (by decide) rfl (hts _ prw_902) rfl rfl prd_X_draft_15 ?_
  refine lv_iload_n hx hb prd_X_draft_18 rfl (lv_at hl 2 rfl) ?_
  obtain ⟨hi8, hf⟩ := pr_ck_in hf
  refine pr_iast (f := (σ.2.1 7)) hx hb hK hP (hD _) hS 7 (by decide) rfl hi8 rfl prd_X_draft_19 (fun H locs hP hS => ?_)
  refine lv_aload_n hx hb prd_X_draft_20 rfl (lv_at hl 0 rfl) ?_
  refine pr_getr (t := 8) hx hb hts prs_X hown hK hP 0 13 (by decide) rfl (hts _ prw_904) rfl prd_X_draft_21 ?_
  refine lv_aload_n hx hb prd_X_draft_24 rfl (lv_at hl 0 rfl) ?_
  refine pr_geti (v := (σ.1 0 17)) hx hb hts prs_X hown hK hP 0 17 (by decide) rfl (hts _ prw_902) rfl rfl prd_X_draft_25 ?_
  refine lv_iload_n hx hb prd_X_draft_28 rfl (lv_at hl 3 rfl) ?_
  obtain ⟨hi9, hf⟩ := pr_ck_in hf
  refine pr_iast (f := (σ.2.1 8)) hx hb hK hP (hD _) hS 8 (by decide) rfl hi9 rfl prd_X_draft_29 (fun H locs hP hS => ?_)
  refine lv_aload_n hx hb prd_X_draft_30 rfl (lv_at hl 0 rfl) ?_
  refine pr_getr (t := 9) hx hb hts prs_X hown hK hP 0 14 (by decide) rfl (hts _ prw_905) rfl prd_X_draft_31 ?_
  refine lv_aload_n hx hb prd_X_draft_34 rfl (lv_at hl 0 rfl) ?_
  refine pr_geti (v := (σ.1 0 17)) hx hb hts prs_X hown hK hP 0 17 (by decide) rfl (hts _ prw_902) rfl rfl prd_X_draft_35 ?_
  refine lv_iconst (v := (-1)) hx hb prd_X_draft_38 (by decide) ?_
  obtain ⟨hi10, hf⟩ := pr_ck_in hf
  refine pr_iast (f := (σ.2.1 9)) hx hb hK hP (hD _) hS 9 (by decide) rfl hi10 rfl prd_X_draft_39 (fun H locs hP hS => ?_)
  refine lv_aload_n hx hb prd_X_draft_40 rfl (lv_at hl 0 rfl) ?_
  refine pr_getr (t := 10) hx hb hts prs_X hown hK hP 0 15 (by decide) rfl (hts _ prw_906) rfl prd_X_draft_41 ?_
  refine lv_aload_n hx hb prd_X_draft_44 rfl (lv_at hl 0 rfl) ?_
  refine pr_geti (v := (σ.1 0 17)) hx hb hts prs_X hown hK hP 0 17 (by decide) rfl (hts _ prw_902) rfl rfl prd_X_draft_45 ?_
  refine lv_iconst (v := (-1)) hx hb prd_X_draft_48 (by decide) ?_
  obtain ⟨hi11, hf⟩ := pr_ck_in hf
  refine pr_iast (f := (σ.2.1 10)) hx hb hK hP (hD _) hS 10 (by decide) rfl hi11 rfl prd_X_draft_49 (fun H locs hP hS => ?_)
  refine lv_aload_n hx hb prd_X_draft_50 rfl (lv_at hl 0 rfl) ?_
  refine pr_getr (t := 11) hx hb hts prs_X hown hK hP 0 16 (by decide) rfl (hts _ prw_907) rfl prd_X_draft_51 ?_
  refine lv_aload_n hx hb prd_X_draft_54 rfl (lv_at hl 0 rfl) ?_
  refine pr_geti (v := (σ.1 0 17)) hx hb hts prs_X hown hK hP 0 17 (by decide) rfl (hts _ prw_902) rfl rfl prd_X_draft_55 ?_
  refine lv_iconst (v := (-1)) hx hb prd_X_draft_58 (by decide) ?_
  obtain ⟨hi12, hf⟩ := pr_ck_in hf
  refine pr_iast (f := (σ.2.1 11)) hx hb hK hP (hD _) hS 11 (by decide) rfl hi12 rfl prd_X_draft_59 (fun H locs hP hS => ?_)
  refine lv_aload_n hx hb prd_X_draft_60 rfl (lv_at hl 0 rfl) ?_
  refine lv_dup hx hb prd_X_draft_61 rfl ?_
  refine pr_geti (v := (σ.1 0 17)) hx hb hts prs_X hown hK hP 0 17 (by decide) rfl (hts _ prw_902) rfl rfl prd_X_draft_62 ?_
  refine lv_iconst (v := 1) hx hb prd_X_draft_65 (by decide) ?_
  refine lv_iadd hx hb prd_X_draft_66 ?_
  refine pr_puti (ty := .int) hx hb hts prs_X prq_X prtt_X prtn_X hown hK hP (hD _) hS 0 17 (by decide) rfl (hts _ prw_902) rfl rfl (prtt_X 17 (by decide)) rfl rfl prd_X_draft_67 (fun H locs hP hS => ?_)
  refine lv_aload_n hx hb prd_X_draft_70 rfl (lv_at hl 0 rfl) ?_
  refine pr_geti (v := ((σ.1 0 17) + 1)) hx hb hts prs_X hown hK hP 0 17 (by decide) rfl (hts _ prw_902) rfl rfl prd_X_draft_71 ?_
  refine lv_iconst (v := 1) hx hb prd_X_draft_74 (by decide) ?_
  refine lv_isub hx hb prd_X_draft_75 ?_
  exact pr_reti E hP hS (pr_so hf) prd_X_draft_76
-- X_join
set_option maxHeartbeats 4000000 in
set_option maxRecDepth 100000 in
theorem prc_X_join {l : Launch} {D : va_G} {ad : Nat → Nat} {dA : Nat → ClassId} {A : Nat → Prop} {v : Nat → Nat} {r : Value} (hD : ∀ σ : pr_St, va_D A (pr_w prx_L ad dA σ)) (hX : pr_Xok A (prY ad v r A)) (h : Nat) (hh : 0 ≤ h) (σ : pr_St) (x1 : Int32) (x2 : Int32) (res : pr_St) (hf : prf_X_join σ x1 x2 = some res) : Met l pry_X_join (Cond.code pry_X_join prb_X_join 3 none :: pr_U) (pr_rm h) (pr_Pc (prY ad v r A) D pr_cl prx_L ad dA [.ref (ad 0), .int x1, .int x2] σ) (pr_Qv D pr_cl prx_L ad dA A res) 0 0 A := by
  refine pr_entry (cc := prb_X_join) (maxL := 3) (ret := none) (by decide) (Nat.le_of_ble_eq_true rfl) hD hX ?_
  intro p e s m args below meth c E H locs hP hS ls hl
  have hl : lv_has ls 3 [(0, .ref (ad 0)), (1, .int x1), (2, .int x2)] := hl
  have hf := hf.symm
  unfold prf_X_join at hf
  obtain ⟨hx, hb, hml, hown, hts, hr, hlocks, hK, hD, hX, hXs⟩ := id E
  refine lv_iload_n hx hb prd_X_join_0 rfl (lv_at hl 2 rfl) ?_
  refine lv_iconst (v := (-1)) hx hb prd_X_join_1 (by decide) ?_
  refine lv_icmp_ne (tgt := 6) hx hb prd_X_join_2 (by decide) (fun c9 => ?_) (fun c9 => ?_)
  · have hf := pr_ie c9 hf
    refine lv_aload_n hx hb prd_X_join_6 rfl (lv_at hl 0 rfl) ?_
    refine pr_getr (t := 9) hx hb hts prs_X hown hK hP 0 14 (by decide) rfl (hts _ prw_905) rfl prd_X_join_7 ?_
    refine lv_iload_n hx hb prd_X_join_10 rfl (lv_at hl 1 rfl) ?_
    obtain ⟨hi10, hf⟩ := pr_ck_in hf
    refine pr_iald (f := (σ.2.1 9)) hx hb hK hP 9 (by decide) rfl hi10 rfl prd_X_join_11 ?_
    refine lv_iconst (v := (-1)) hx hb prd_X_join_12 (by decide) ?_
    refine lv_icmp_ne (tgt := 26) hx hb prd_X_join_13 (by decide) (fun c11 => ?_) (fun c11 => ?_)
    · have hf := pr_ie c11 hf
      refine lv_aload_n hx hb prd_X_join_26 rfl (lv_at hl 0 rfl) ?_
      refine pr_getr (t := 11) hx hb hts prs_X hown hK hP 0 16 (by decide) rfl (hts _ prw_907) rfl prd_X_join_27 ?_
      refine lv_aload_n hx hb prd_X_join_30 rfl (lv_at hl 0 rfl) ?_
      refine pr_getr (t := 10) hx hb hts prs_X hown hK hP 0 15 (by decide) rfl (hts _ prw_906) rfl prd_X_join_31 ?_
      refine lv_iload_n hx hb prd_X_join_34 rfl (lv_at hl 1 rfl) ?_
      obtain ⟨hi12, hf⟩ := pr_ck_in hf
      refine pr_iald (f := (σ.2.1 10)) hx hb hK hP 10 (by decide) rfl hi12 rfl prd_X_join_35 ?_
      refine lv_iload_n hx hb prd_X_join_36 rfl (lv_at hl 2 rfl) ?_
      obtain ⟨hi13, hf⟩ := pr_ck_in hf
      refine pr_iast (f := (σ.2.1 11)) hx hb hK hP (hD _) hS 11 (by decide) rfl hi13 rfl prd_X_join_37 (fun H locs hP hS => ?_)
      refine lv_aload_n hx hb prd_X_join_38 rfl (lv_at hl 0 rfl) ?_
      refine pr_getr (t := 10) hx hb hts prs_X hown hK hP 0 15 (by decide) rfl (hts _ prw_906) rfl prd_X_join_39 ?_
      refine lv_iload_n hx hb prd_X_join_42 rfl (lv_at hl 1 rfl) ?_
      refine lv_iload_n hx hb prd_X_join_43 rfl (lv_at hl 2 rfl) ?_
      obtain ⟨hi14, hf⟩ := pr_ck_in hf
      refine pr_iast (f := (σ.2.1 10)) hx hb hK hP (hD _) hS 10 (by decide) rfl hi14 rfl prd_X_join_44 (fun H locs hP hS => ?_)
      exact pr_retv E hP hS (pr_so hf) prd_X_join_45
    · have hf := pr_it c11 hf
      refine lv_aload_n hx hb prd_X_join_16 rfl (lv_at hl 0 rfl) ?_
      refine pr_getr (t := 9) hx hb hts prs_X hown hK hP 0 14 (by decide) rfl (hts _ prw_905) rfl prd_X_join_17 ?_
      refine lv_iload_n hx hb prd_X_join_20 rfl (lv_at hl 1 rfl) ?_
      refine lv_iload_n hx hb prd_X_join_21 rfl (lv_at hl 2 rfl) ?_
      obtain ⟨hi15, hf⟩ := pr_ck_in hf
      refine pr_iast (f := (σ.2.1 9)) hx hb hK hP (hD _) hS 9 (by decide) rfl hi15 rfl prd_X_join_22 (fun H locs hP hS => ?_)
      refine lv_goto (tgt := 38) hx hb prd_X_join_23 (by decide) ?_
      refine lv_aload_n hx hb prd_X_join_38 rfl (lv_at hl 0 rfl) ?_
      refine pr_getr (t := 10) hx hb hts prs_X hown hK hP 0 15 (by decide) rfl (hts _ prw_906) rfl prd_X_join_39 ?_
      refine lv_iload_n hx hb prd_X_join_42 rfl (lv_at hl 1 rfl) ?_
      refine lv_iload_n hx hb prd_X_join_43 rfl (lv_at hl 2 rfl) ?_
      obtain ⟨hi16, hf⟩ := pr_ck_in hf
      refine pr_iast (f := (σ.2.1 10)) hx hb hK hP (hD _) hS 10 (by decide) rfl hi16 rfl prd_X_join_44 (fun H locs hP hS => ?_)
      exact pr_retv E hP hS (pr_so hf) prd_X_join_45
  · have hf := pr_it c9 hf
    exact pr_retv E hP hS (pr_so hf) prd_X_join_5
-- X_name
set_option maxHeartbeats 4000000 in
set_option maxRecDepth 100000 in
theorem prc_X_name {l : Launch} {D : va_G} {ad : Nat → Nat} {dA : Nat → ClassId} {A : Nat → Prop} {v : Nat → Nat} {r : Value} (hD : ∀ σ : pr_St, va_D A (pr_w prx_L ad dA σ)) (hX : pr_Xok A (prY ad v r A)) (h : Nat) (hh : 2 ≤ h) (σ : pr_St)  (res : (Int32 × pr_St)) (hf : prf_X_name σ  = some res) : Met l pry_X_name (Cond.code pry_X_name prb_X_name 2 (some .int) :: pr_U) (pr_rm h) (pr_Pc (prY ad v r A) D pr_cl prx_L ad dA [.ref (ad 0)] σ) (pr_Qi D pr_cl prx_L ad dA A res) 0 0 A := by
  refine pr_entry (cc := prb_X_name) (maxL := 2) (ret := (some .int)) (by decide) (Nat.le_of_ble_eq_true rfl) hD hX ?_
  intro p e s m args below meth c E H locs hP hS ls hl
  have hl : lv_has ls 2 [(0, .ref (ad 0))] := hl
  have hf := hf.symm
  unfold prf_X_name at hf
  obtain ⟨hx, hb, hml, hown, hts, hr, hlocks, hK, hD, hX, hXs⟩ := id E
  refine lv_aload_n hx hb prd_X_name_0 rfl (lv_at hl 0 rfl) ?_
  refine lv_bipush (v := 13) hx hb prd_X_name_1 (by decide) ?_
  refine lv_aload_n hx hb prd_X_name_3 rfl (lv_at hl 0 rfl) ?_
  refine pr_getr (t := 4) hx hb hts prs_X hown hK hP 0 5 (by decide) rfl (hts _ prw_882) rfl prd_X_name_4 ?_
  refine lv_aload_n hx hb prd_X_name_7 rfl (lv_at hl 0 rfl) ?_
  refine pr_geti (v := (σ.1 0 8)) hx hb hts prs_X hown hK hP 0 8 (by decide) rfl (hts _ prw_888) rfl rfl prd_X_name_8 ?_
  obtain ⟨hi4, hf⟩ := pr_ck_in hf
  refine pr_iald (f := (σ.2.1 4)) hx hb hK hP 4 (by decide) rfl hi4 rfl prd_X_name_11 ?_
  refine lv_aload_n hx hb prd_X_name_12 rfl (lv_at hl 0 rfl) ?_
  refine pr_geti (v := (σ.1 0 8)) hx hb hts prs_X hown hK hP 0 8 (by decide) rfl (hts _ prw_888) rfl rfl prd_X_name_13 ?_
  obtain ⟨r5, hr5, hf⟩ := pr_bi hf
  refine pr_callVi (rest := []) (res := r5) ⟨hx, hb, hml, hown, hts⟩ 0 (prc_X_draft hD hX 0 (Nat.le_refl _) σ 13 ((σ.2.1 4) (σ.1 0 8).toNatClampNeg) (σ.1 0 8) r5 hr5) (prg_X_draft hts prw_914 (by have := hh; omega)) hX hXs hK hP hS (by decide) rfl rfl rfl rfl hl.1 (Nat.le_of_ble_eq_true rfl) prd_X_name_16 (fun H locs hP hS => ?_)
  refine lv_istore_n (lv' := [(1, .int r5.1), (0, .ref (ad 0))]) hx hb prd_X_name_19 rfl hl (by decide) rfl (fun ls hl => ?_)
  refine lv_aload_n hx hb prd_X_name_20 rfl (lv_at hl 1 rfl) ?_
  refine lv_iconst (v := 2) hx hb prd_X_name_21 (by decide) ?_
  obtain ⟨r6, hr6, hf⟩ := pr_bi hf
  refine pr_callVv (rest := []) (res := r6) ⟨hx, hb, hml, hown, hts⟩ 0 (prc_X_take hD hX 1 (Nat.le_refl _) r5.2 2 r6 hr6) (prg_X_take hts prw_915 (by have := hh; omega)) hX hXs hK hP hS (by decide) rfl rfl rfl rfl hl.1 (Nat.le_of_ble_eq_true rfl) prd_X_name_22 (fun H locs hP hS => ?_)
  refine lv_iload_n hx hb prd_X_name_25 rfl (lv_at hl 0 rfl) ?_
  exact pr_reti E hP hS (pr_so hf) prd_X_name_26
-- X_number
set_option maxHeartbeats 4000000 in
set_option maxRecDepth 100000 in
theorem prk_X_number_47 {l : Launch} {D : va_G} {ad : Nat → Nat} {dA : Nat → ClassId} {A : Nat → Prop} {v : Nat → Nat} {r : Value} {p : Program} {e : Env} {s : State} {m : MethodId} {args : Array Value} {below : List Frame} {meth : Method} {c : Code} {h : Nat} (hh : 2 ≤ h) (E : pr_cx prn_X prb_X_number 6 (some .int) D pr_cl prx_L ad dA A (prY ad v r A) p s m args meth c) : ∀ n : Nat, ∀ (σ : pr_St) (x2 : Int32) (x3 : Int32) (x4 : Int32) (x5 : Int32) (res : (Int32 × pr_St)), some res = prf_X_number_47 n σ x2 x3 x4 x5 → ∀ (H : Heap) (locs : List Loc) (ls : Array Slot), va_P D pr_cl (pr_w prx_L ad dA σ) H → va_S A s.heap H locs → lv_has ls 6 [(0, .ref (ad 0)), (2, .int x2), (3, .int x3), (4, .int x4), (5, .int x5)] → W p l e (pr_rm h) s m args below meth c H locs 0 0 (MQ below (pr_Qi D pr_cl prx_L ad dA A res) args s 0 0 A) (F0 m 47 ls []) := by
  obtain ⟨hx, hb, hml, hown, hts, hr, hlocks, hK, hD, hX, hXs⟩ := id E
  intro n
  induction n with
  | zero =>
    intro σ x2 x3 x4 x5 res hf
    rw [prf_X_number_47] at hf
    cases hf
  | succ n ih =>
    intro σ x2 x3 x4 x5 res hf H locs ls hP hS hl
    rw [prf_X_number_47] at hf
    refine lv_iload hx hb prd_X_number_47 (lv_at hl 4 rfl) ?_
    refine lv_aload_n hx hb prd_X_number_49 rfl (lv_at hl 0 rfl) ?_
    refine pr_getr (t := 5) hx hb hts prs_X hown hK hP 0 6 (by decide) rfl (hts _ prw_883) rfl prd_X_number_50 ?_
    refine lv_aload_n hx hb prd_X_number_53 rfl (lv_at hl 0 rfl) ?_
    refine pr_geti (v := (σ.1 0 8)) hx hb hts prs_X hown hK hP 0 8 (by decide) rfl (hts _ prw_888) rfl rfl prd_X_number_54 ?_
    obtain ⟨hi16, hf⟩ := pr_ck_in hf
    refine pr_iald (f := (σ.2.1 5)) hx hb hK hP 5 (by decide) rfl hi16 rfl prd_X_number_57 ?_
    refine lv_icmp_ge (tgt := 95) hx hb prd_X_number_58 (by decide) (fun c17 => ?_) (fun c17 => ?_)
    · have hf := pr_it c17 hf
      refine lv_aload_n hx hb prd_X_number_95 rfl (lv_at hl 0 rfl) ?_
      refine lv_iconst (v := 3) hx hb prd_X_number_96 (by decide) ?_
      obtain ⟨r18, hr18, hf⟩ := pr_bi hf
      refine pr_callVv (rest := []) (res := r18) ⟨hx, hb, hml, hown, hts⟩ 0 (prc_X_take hD hX 1 (Nat.le_refl _) σ 3 r18 hr18) (prg_X_take hts prw_915 (by have := hh; omega)) hX hXs hK hP hS (by decide) rfl rfl rfl rfl hl.1 (Nat.le_of_ble_eq_true rfl) prd_X_number_97 (fun H locs hP hS => ?_)
      refine lv_aload_n hx hb prd_X_number_100 rfl (lv_at hl 0 rfl) ?_
      refine lv_bipush (v := 12) hx hb prd_X_number_101 (by decide) ?_
      refine lv_iload_n hx hb prd_X_number_103 rfl (lv_at hl 1 rfl) ?_
      refine lv_iload_n hx hb prd_X_number_104 rfl (lv_at hl 2 rfl) ?_
      refine lv_iload hx hb prd_X_number_105 (lv_at hl 3 rfl) ?_
      refine lv_imul hx hb prd_X_number_107 ?_
      obtain ⟨r19, hr19, hf⟩ := pr_bi hf
      refine pr_callVi (rest := []) (res := r19) ⟨hx, hb, hml, hown, hts⟩ 0 (prc_X_draft hD hX 0 (Nat.le_refl _) r18 12 x2 (x3 * x4) r19 hr19) (prg_X_draft hts prw_914 (by have := hh; omega)) hX hXs hK hP hS (by decide) rfl rfl rfl rfl hl.1 (Nat.le_of_ble_eq_true rfl) prd_X_number_108 (fun H locs hP hS => ?_)
      exact pr_reti E hP hS (pr_so hf) prd_X_number_111
    · have hf := pr_ie c17 hf
      refine lv_bipush (v := 10) hx hb prd_X_number_61 (by decide) ?_
      refine lv_iload hx hb prd_X_number_63 (lv_at hl 3 rfl) ?_
      refine lv_imul hx hb prd_X_number_65 ?_
      refine lv_aload_n hx hb prd_X_number_66 rfl (lv_at hl 0 rfl) ?_
      refine pr_getr (t := 2) hx hb hts prs_X hown hK hP 0 1 (by decide) rfl (hts _ prw_845) rfl prd_X_number_67 ?_
      refine lv_aload_n hx hb prd_X_number_70 rfl (lv_at hl 0 rfl) ?_
      refine pr_getr (t := 4) hx hb hts prs_X hown hK hP 0 5 (by decide) rfl (hts _ prw_882) rfl prd_X_number_71 ?_
      refine lv_aload_n hx hb prd_X_number_74 rfl (lv_at hl 0 rfl) ?_
      refine pr_geti (v := (σ.1 0 8)) hx hb hts prs_X hown hK hP 0 8 (by decide) rfl (hts _ prw_888) rfl rfl prd_X_number_75 ?_
      obtain ⟨hi20, hf⟩ := pr_ck_in hf
      refine pr_iald (f := (σ.2.1 4)) hx hb hK hP 4 (by decide) rfl hi20 rfl prd_X_number_78 ?_
      refine lv_iload hx hb prd_X_number_79 (lv_at hl 4 rfl) ?_
      refine lv_iadd hx hb prd_X_number_81 ?_
      obtain ⟨hi21, hf⟩ := pr_ck_in hf
      refine pr_iald (f := (σ.2.1 2)) hx hb hK hP 2 (by decide) rfl hi21 rfl prd_X_number_82 ?_
      refine lv_iadd hx hb prd_X_number_83 ?_
      refine lv_bipush (v := 48) hx hb prd_X_number_84 (by decide) ?_
      refine lv_isub hx hb prd_X_number_86 ?_
      refine lv_istore (lv' := [(4, .int (((10 * x4) + ((σ.2.1 2) (((σ.2.1 4) (σ.1 0 8).toNatClampNeg) + x5).toNatClampNeg)) - 48)), (0, .ref (ad 0)), (2, .int x2), (3, .int x3), (5, .int x5)]) hx hb prd_X_number_87 hl (by decide) rfl (fun ls hl => ?_)
      refine lv_iinc (v := (x5 + 1)) (lv' := [(5, .int (x5 + 1)), (4, .int (((10 * x4) + ((σ.2.1 2) (((σ.2.1 4) (σ.1 0 8).toNatClampNeg) + x5).toNatClampNeg)) - 48)), (0, .ref (ad 0)), (2, .int x2), (3, .int x3)]) hx hb prd_X_number_89 hl (k := 4) rfl rfl (by decide) rfl (fun ls hl => ?_)
      refine lv_goto (tgt := 47) hx hb prd_X_number_92 (by decide) ?_
      exact ih σ x2 x3 (((10 * x4) + ((σ.2.1 2) (((σ.2.1 4) (σ.1 0 8).toNatClampNeg) + x5).toNatClampNeg)) - 48) (x5 + 1) _ hf _ _ _ hP hS (lv_sub hl [2, 3, 4, 1, 0] rfl)
set_option maxHeartbeats 4000000 in
set_option maxRecDepth 100000 in
theorem prk_X_number_33 {l : Launch} {D : va_G} {ad : Nat → Nat} {dA : Nat → ClassId} {A : Nat → Prop} {v : Nat → Nat} {r : Value} {p : Program} {e : Env} {s : State} {m : MethodId} {args : Array Value} {below : List Frame} {meth : Method} {c : Code} {h : Nat} (hh : 2 ≤ h) (E : pr_cx prn_X prb_X_number 6 (some .int) D pr_cl prx_L ad dA A (prY ad v r A) p s m args meth c) : ∀ (σ : pr_St) (x2 : Int32) (x3 : Int32) (res : (Int32 × pr_St)), some res = prf_X_number_33 σ x2 x3 → ∀ (H : Heap) (locs : List Loc) (ls : Array Slot), va_P D pr_cl (pr_w prx_L ad dA σ) H → va_S A s.heap H locs → lv_has ls 6 [(0, .ref (ad 0)), (2, .int x2), (3, .int x3)] → W p l e (pr_rm h) s m args below meth c H locs 0 0 (MQ below (pr_Qi D pr_cl prx_L ad dA A res) args s 0 0 A) (F0 m 33 ls []) := by
  obtain ⟨hx, hb, hml, hown, hts, hr, hlocks, hK, hD, hX, hXs⟩ := id E
  intro σ x2 x3 res hf H locs ls hP hS hl
  unfold prf_X_number_33 at hf
  refine lv_iconst (v := 0) hx hb prd_X_number_33 (by decide) ?_
  refine lv_istore (lv' := [(4, .int 0), (0, .ref (ad 0)), (2, .int x2), (3, .int x3)]) hx hb prd_X_number_34 hl (by decide) rfl (fun ls hl => ?_)
  refine lv_aload_n hx hb prd_X_number_36 rfl (lv_at hl 1 rfl) ?_
  obtain ⟨r22, hr22, hf⟩ := pr_bi hf
  refine pr_callVr (rest := []) (r := r22) ⟨hx, hb, hml, hown, hts⟩ 0 (prc_X_look hD hX 0 (Nat.le_refl _) σ  r22 hr22) (prg_X_look hts prw_896 (by have := hh; omega)) hX hXs hK hP hS (by decide) rfl rfl rfl rfl hl.1 (Nat.le_of_ble_eq_true rfl) prd_X_number_37 (fun H locs hP hS => ?_)
  refine lv_iconst (v := 3) hx hb prd_X_number_40 (by decide) ?_
  refine lv_icmp_ne (tgt := 95) hx hb prd_X_number_41 (by decide) (fun c23 => ?_) (fun c23 => ?_)
  · have hf := pr_ie c23 hf
    refine lv_aload_n hx hb prd_X_number_95 rfl (lv_at hl 1 rfl) ?_
    refine lv_iconst (v := 3) hx hb prd_X_number_96 (by decide) ?_
    obtain ⟨r24, hr24, hf⟩ := pr_bi hf
    refine pr_callVv (rest := []) (res := r24) ⟨hx, hb, hml, hown, hts⟩ 0 (prc_X_take hD hX 1 (Nat.le_refl _) σ 3 r24 hr24) (prg_X_take hts prw_915 (by have := hh; omega)) hX hXs hK hP hS (by decide) rfl rfl rfl rfl hl.1 (Nat.le_of_ble_eq_true rfl) prd_X_number_97 (fun H locs hP hS => ?_)
    refine lv_aload_n hx hb prd_X_number_100 rfl (lv_at hl 1 rfl) ?_
    refine lv_bipush (v := 12) hx hb prd_X_number_101 (by decide) ?_
    refine lv_iload_n hx hb prd_X_number_103 rfl (lv_at hl 2 rfl) ?_
    refine lv_iload_n hx hb prd_X_number_104 rfl (lv_at hl 3 rfl) ?_
    refine lv_iload hx hb prd_X_number_105 (lv_at hl 0 rfl) ?_
    refine lv_imul hx hb prd_X_number_107 ?_
    obtain ⟨r25, hr25, hf⟩ := pr_bi hf
    refine pr_callVi (rest := []) (res := r25) ⟨hx, hb, hml, hown, hts⟩ 0 (prc_X_draft hD hX 0 (Nat.le_refl _) r24 12 x2 (x3 * 0) r25 hr25) (prg_X_draft hts prw_914 (by have := hh; omega)) hX hXs hK hP hS (by decide) rfl rfl rfl rfl hl.1 (Nat.le_of_ble_eq_true rfl) prd_X_number_108 (fun H locs hP hS => ?_)
    exact pr_reti E hP hS (pr_so hf) prd_X_number_111
  · have hf := pr_it c23 hf
    refine lv_iconst (v := 0) hx hb prd_X_number_44 (by decide) ?_
    refine lv_istore (lv' := [(5, .int 0), (4, .int 0), (0, .ref (ad 0)), (2, .int x2), (3, .int x3)]) hx hb prd_X_number_45 hl (by decide) rfl (fun ls hl => ?_)
    exact prk_X_number_47 hh E pr_FU σ x2 x3 0 0 _ hf _ _ _ hP hS (lv_sub hl [2, 3, 4, 1, 0] rfl)
set_option maxHeartbeats 4000000 in
set_option maxRecDepth 100000 in
theorem prc_X_number {l : Launch} {D : va_G} {ad : Nat → Nat} {dA : Nat → ClassId} {A : Nat → Prop} {v : Nat → Nat} {r : Value} (hD : ∀ σ : pr_St, va_D A (pr_w prx_L ad dA σ)) (hX : pr_Xok A (prY ad v r A)) (h : Nat) (hh : 2 ≤ h) (σ : pr_St) (x1 : Int32) (res : (Int32 × pr_St)) (hf : prf_X_number σ x1 = some res) : Met l pry_X_number (Cond.code pry_X_number prb_X_number 6 (some .int) :: pr_U) (pr_rm h) (pr_Pc (prY ad v r A) D pr_cl prx_L ad dA [.ref (ad 0), .int x1] σ) (pr_Qi D pr_cl prx_L ad dA A res) 0 0 A := by
  refine pr_entry (cc := prb_X_number) (maxL := 6) (ret := (some .int)) (by decide) (Nat.le_of_ble_eq_true rfl) hD hX ?_
  intro p e s m args below meth c E H locs hP hS ls hl
  have hl : lv_has ls 6 [(0, .ref (ad 0)), (1, .int x1)] := hl
  have hf := hf.symm
  unfold prf_X_number at hf
  obtain ⟨hx, hb, hml, hown, hts, hr, hlocks, hK, hD, hX, hXs⟩ := id E
  refine lv_aload_n hx hb prd_X_number_0 rfl (lv_at hl 0 rfl) ?_
  refine pr_getr (t := 4) hx hb hts prs_X hown hK hP 0 5 (by decide) rfl (hts _ prw_882) rfl prd_X_number_1 ?_
  refine lv_aload_n hx hb prd_X_number_4 rfl (lv_at hl 0 rfl) ?_
  refine pr_geti (v := (σ.1 0 8)) hx hb hts prs_X hown hK hP 0 8 (by decide) rfl (hts _ prw_888) rfl rfl prd_X_number_5 ?_
  obtain ⟨hi26, hf⟩ := pr_ck_in hf
  refine pr_iald (f := (σ.2.1 4)) hx hb hK hP 4 (by decide) rfl hi26 rfl prd_X_number_8 ?_
  refine lv_istore_n (lv' := [(2, .int ((σ.2.1 4) (σ.1 0 8).toNatClampNeg)), (0, .ref (ad 0)), (1, .int x1)]) hx hb prd_X_number_9 rfl hl (by decide) rfl (fun ls hl => ?_)
  refine lv_iconst (v := 1) hx hb prd_X_number_10 (by decide) ?_
  refine lv_istore_n (lv' := [(3, .int 1), (2, .int ((σ.2.1 4) (σ.1 0 8).toNatClampNeg)), (0, .ref (ad 0)), (1, .int x1)]) hx hb prd_X_number_11 rfl hl (by decide) rfl (fun ls hl => ?_)
  refine lv_iload_n hx hb prd_X_number_12 rfl (lv_at hl 3 rfl) ?_
  refine lv_if_eq (tgt := 33) hx hb prd_X_number_13 (by decide) (fun c27 => ?_) (fun c27 => ?_)
  · have hf := pr_it c27 hf
    exact prk_X_number_33 hh E σ ((σ.2.1 4) (σ.1 0 8).toNatClampNeg) 1 _ hf _ _ _ hP hS (lv_sub hl [2, 1, 0] rfl)
  · have hf := pr_ie c27 hf
    refine lv_aload_n hx hb prd_X_number_16 rfl (lv_at hl 2 rfl) ?_
    obtain ⟨r28, hr28, hf⟩ := pr_bi hf
    refine pr_callVr (rest := []) (r := r28) ⟨hx, hb, hml, hown, hts⟩ 0 (prc_X_look hD hX 0 (Nat.le_refl _) σ  r28 hr28) (prg_X_look hts prw_896 (by have := hh; omega)) hX hXs hK hP hS (by decide) rfl rfl rfl rfl hl.1 (Nat.le_of_ble_eq_true rfl) prd_X_number_17 (fun H locs hP hS => ?_)
    refine lv_bipush (v := 45) hx hb prd_X_number_20 (by decide) ?_
    refine lv_icmp_ne (tgt := 33) hx hb prd_X_number_22 (by decide) (fun c29 => ?_) (fun c29 => ?_)
    · have hf := pr_ie c29 hf
      exact prk_X_number_33 hh E σ ((σ.2.1 4) (σ.1 0 8).toNatClampNeg) 1 _ hf _ _ _ hP hS (lv_sub hl [2, 1, 0] rfl)
    · have hf := pr_it c29 hf
      refine lv_aload_n hx hb prd_X_number_25 rfl (lv_at hl 2 rfl) ?_
      refine lv_bipush (v := 45) hx hb prd_X_number_26 (by decide) ?_
      obtain ⟨r30, hr30, hf⟩ := pr_bi hf
      refine pr_callVv (rest := []) (res := r30) ⟨hx, hb, hml, hown, hts⟩ 0 (prc_X_take hD hX 1 (Nat.le_refl _) σ 45 r30 hr30) (prg_X_take hts prw_915 (by have := hh; omega)) hX hXs hK hP hS (by decide) rfl rfl rfl rfl hl.1 (Nat.le_of_ble_eq_true rfl) prd_X_number_28 (fun H locs hP hS => ?_)
      refine lv_iconst (v := (-1)) hx hb prd_X_number_31 (by decide) ?_
      refine lv_istore_n (lv' := [(3, .int (-1)), (2, .int ((σ.2.1 4) (σ.1 0 8).toNatClampNeg)), (0, .ref (ad 0)), (1, .int x1)]) hx hb prd_X_number_32 rfl hl (by decide) rfl (fun ls hl => ?_)
      exact prk_X_number_33 hh E r30 ((σ.2.1 4) (σ.1 0 8).toNatClampNeg) (-1) _ hf _ _ _ hP hS (lv_sub hl [2, 1, 0] rfl)
-- X_deep
set_option maxHeartbeats 4000000 in
set_option maxRecDepth 100000 in
theorem prc_X_deep {l : Launch} {D : va_G} {ad : Nat → Nat} {dA : Nat → ClassId} {A : Nat → Prop} {v : Nat → Nat} {r : Value} (hD : ∀ σ : pr_St, va_D A (pr_w prx_L ad dA σ)) (hX : pr_Xok A (prY ad v r A)) (h : Nat) (hh : 1 ≤ h) (σ : pr_St) (x1 : Int32) (res : pr_St) (hf : prf_X_deep σ x1 = some res) : Met l pry_X_deep (Cond.code pry_X_deep prb_X_deep 2 none :: pr_U) (pr_rm h) (pr_Pc (prY ad v r A) D pr_cl prx_L ad dA [.ref (ad 0), .int x1] σ) (pr_Qv D pr_cl prx_L ad dA A res) 0 0 A := by
  refine pr_entry (cc := prb_X_deep) (maxL := 2) (ret := none) (by decide) (Nat.le_of_ble_eq_true rfl) hD hX ?_
  intro p e s m args below meth c E H locs hP hS ls hl
  have hl : lv_has ls 2 [(0, .ref (ad 0)), (1, .int x1)] := hl
  have hf := hf.symm
  unfold prf_X_deep at hf
  obtain ⟨hx, hb, hml, hown, hts, hr, hlocks, hK, hD, hX, hXs⟩ := id E
  refine lv_aload_n hx hb prd_X_deep_0 rfl (lv_at hl 0 rfl) ?_
  refine lv_iload_n hx hb prd_X_deep_1 rfl (lv_at hl 1 rfl) ?_
  refine lv_bipush (v := 60) hx hb prd_X_deep_2 (by decide) ?_
  refine lv_icmp_gt (tgt := 11) hx hb prd_X_deep_4 (by decide) (fun c4 => ?_) (fun c4 => ?_)
  · have hf := pr_it c4 hf
    refine lv_iconst (v := 0) hx hb prd_X_deep_11 (by decide) ?_
    obtain ⟨r5, hr5, hf⟩ := pr_bi hf
    refine pr_callVv (rest := []) (res := r5) ⟨hx, hb, hml, hown, hts⟩ 0 (prc_X_need hD hX 0 (Nat.le_refl _) σ 0 r5 hr5) (prg_X_need hts prw_897 (by have := hh; omega)) hX hXs hK hP hS (by decide) rfl rfl rfl rfl hl.1 (Nat.le_of_ble_eq_true rfl) prd_X_deep_12 (fun H locs hP hS => ?_)
    exact pr_retv E hP hS (pr_so hf) prd_X_deep_15
  · have hf := pr_ie c4 hf
    refine lv_iconst (v := 1) hx hb prd_X_deep_7 (by decide) ?_
    refine lv_goto (tgt := 12) hx hb prd_X_deep_8 (by decide) ?_
    obtain ⟨r6, hr6, hf⟩ := pr_bi hf
    refine pr_callVv (rest := []) (res := r6) ⟨hx, hb, hml, hown, hts⟩ 0 (prc_X_need hD hX 0 (Nat.le_refl _) σ 1 r6 hr6) (prg_X_need hts prw_897 (by have := hh; omega)) hX hXs hK hP hS (by decide) rfl rfl rfl rfl hl.1 (Nat.le_of_ble_eq_true rfl) prd_X_deep_12 (fun H locs hP hS => ?_)
    exact pr_retv E hP hS (pr_so hf) prd_X_deep_15
-- X_term
set_option maxHeartbeats 4000000 in
set_option maxRecDepth 100000 in
theorem prk_X_term_82 {l : Launch} {D : va_G} {ad : Nat → Nat} {dA : Nat → ClassId} {A : Nat → Prop} {v : Nat → Nat} {r : Value} {p : Program} {e : Env} {s : State} {m : MethodId} {args : Array Value} {below : List Frame} {meth : Method} {c : Code} (hd : Nat) (hb0 : 3 ≤ hd) {h : Nat} (hh : hd + 1 ≤ h) (E : pr_cx prn_X prb_X_term 5 (some .int) D pr_cl prx_L ad dA A (prY ad v r A) p s m args meth c) {rc : pr_St → Int32 → Option (Int32 × pr_St)} (Hrc0 : ∀ (σ : pr_St) (x1 : Int32) (res : (Int32 × pr_St)), rc σ x1 = some res → Met l pry_X_factor (Cond.code pry_X_factor prb_X_factor 6 (some .int) :: pr_U) (pr_rm hd) (pr_Pc (prY ad v r A) D pr_cl prx_L ad dA [.ref (ad 0), .int x1] σ) (pr_Qi D pr_cl prx_L ad dA A res) 0 0 A) {kk55 : pr_St → Int32 → Int32 → Option (Int32 × pr_St)} (Hk55 : ∀ (σ : pr_St) (x1 : Int32) (x3 : Int32) (res : (Int32 × pr_St)), some res = kk55 σ x1 x3 → ∀ (H : Heap) (locs : List Loc) (ls : Array Slot), va_P D pr_cl (pr_w prx_L ad dA σ) H → va_S A s.heap H locs → lv_has ls 5 [(0, .ref (ad 0)), (1, .int x1), (3, .int x3)] → W p l e (pr_rm h) s m args below meth c H locs 0 0 (MQ below (pr_Qi D pr_cl prx_L ad dA A res) args s 0 0 A) (F0 m 55 ls [])) : ∀ (σ : pr_St) (x1 : Int32) (x3 : Int32) (res : (Int32 × pr_St)), some res = prf_X_term_82 rc kk55 σ x1 x3 → ∀ (H : Heap) (locs : List Loc) (ls : Array Slot), va_P D pr_cl (pr_w prx_L ad dA σ) H → va_S A s.heap H locs → lv_has ls 5 [(0, .ref (ad 0)), (1, .int x1), (3, .int x3)] → W p l e (pr_rm h) s m args below meth c H locs 0 0 (MQ below (pr_Qi D pr_cl prx_L ad dA A res) args s 0 0 A) (F0 m 82 ls []) := by
  obtain ⟨hx, hb, hml, hown, hts, hr, hlocks, hK, hD, hX, hXs⟩ := id E
  intro σ x1 x3 res hf H locs ls hP hS hl
  unfold prf_X_term_82 at hf
  refine lv_aload_n hx hb prd_X_term_82 rfl (lv_at hl 0 rfl) ?_
  refine lv_aload_n hx hb prd_X_term_83 rfl (lv_at hl 0 rfl) ?_
  obtain ⟨r57, hr57, hf⟩ := pr_bi hf
  refine pr_callVr (rest := [.ref (ad 0)]) (r := r57) ⟨hx, hb, hml, hown, hts⟩ 0 (prc_X_look hD hX 0 (Nat.le_refl _) σ  r57 hr57) (prg_X_look hts prw_896 (by have := hh; omega)) hX hXs hK hP hS (by decide) rfl rfl rfl rfl hl.1 (Nat.le_of_ble_eq_true rfl) prd_X_term_84 (fun H locs hP hS => ?_)
  refine lv_bipush (v := 42) hx hb prd_X_term_87 (by decide) ?_
  refine lv_icmp_ne (tgt := 97) hx hb prd_X_term_89 (by decide) (fun c58 => ?_) (fun c58 => ?_)
  · have hf := pr_ie c58 hf
    refine lv_aload_n hx hb prd_X_term_97 rfl (lv_at hl 0 rfl) ?_
    obtain ⟨r59, hr59, hf⟩ := pr_bi hf
    refine pr_callVr (rest := [.ref (ad 0)]) (r := r59) ⟨hx, hb, hml, hown, hts⟩ 0 (prc_X_look hD hX 0 (Nat.le_refl _) σ  r59 hr59) (prg_X_look hts prw_896 (by have := hh; omega)) hX hXs hK hP hS (by decide) rfl rfl rfl rfl hl.1 (Nat.le_of_ble_eq_true rfl) prd_X_term_98 (fun H locs hP hS => ?_)
    refine lv_bipush (v := 47) hx hb prd_X_term_101 (by decide) ?_
    refine lv_icmp_ne (tgt := 111) hx hb prd_X_term_103 (by decide) (fun c60 => ?_) (fun c60 => ?_)
    · have hf := pr_ie c60 hf
      refine lv_bipush (v := 23) hx hb prd_X_term_111 (by decide) ?_
      refine lv_aload_n hx hb prd_X_term_113 rfl (lv_at hl 0 rfl) ?_
      refine pr_getr (t := 4) hx hb hts prs_X hown hK hP 0 5 (by decide) rfl (hts _ prw_882) rfl prd_X_term_114 ?_
      refine lv_aload_n hx hb prd_X_term_117 rfl (lv_at hl 0 rfl) ?_
      refine pr_geti (v := (σ.1 0 8)) hx hb hts prs_X hown hK hP 0 8 (by decide) rfl (hts _ prw_888) rfl rfl prd_X_term_118 ?_
      obtain ⟨hi61, hf⟩ := pr_ck_in hf
      refine pr_iald (f := (σ.2.1 4)) hx hb hK hP 4 (by decide) rfl hi61 rfl prd_X_term_121 ?_
      refine lv_iconst (v := 0) hx hb prd_X_term_122 (by decide) ?_
      obtain ⟨r62, hr62, hf⟩ := pr_bi hf
      refine pr_callVi (rest := []) (res := r62) ⟨hx, hb, hml, hown, hts⟩ 0 (prc_X_draft hD hX 0 (Nat.le_refl _) σ 23 ((σ.2.1 4) (σ.1 0 8).toNatClampNeg) 0 r62 hr62) (prg_X_draft hts prw_914 (by have := hh; omega)) hX hXs hK hP hS (by decide) rfl rfl rfl rfl hl.1 (Nat.le_of_ble_eq_true rfl) prd_X_term_123 (fun H locs hP hS => ?_)
      refine lv_istore (lv' := [(4, .int r62.1), (0, .ref (ad 0)), (1, .int x1), (3, .int x3)]) hx hb prd_X_term_126 hl (by decide) rfl (fun ls hl => ?_)
      refine lv_aload_n hx hb prd_X_term_128 rfl (lv_at hl 1 rfl) ?_
      refine lv_aload_n hx hb prd_X_term_129 rfl (lv_at hl 1 rfl) ?_
      obtain ⟨r63, hr63, hf⟩ := pr_bi hf
      refine pr_callVr (rest := [.ref (ad 0)]) (r := r63) ⟨hx, hb, hml, hown, hts⟩ 0 (prc_X_look hD hX 0 (Nat.le_refl _) r62.2  r63 hr63) (prg_X_look hts prw_896 (by have := hh; omega)) hX hXs hK hP hS (by decide) rfl rfl rfl rfl hl.1 (Nat.le_of_ble_eq_true rfl) prd_X_term_130 (fun H locs hP hS => ?_)
      obtain ⟨r64, hr64, hf⟩ := pr_bi hf
      refine pr_callVv (rest := []) (res := r64) ⟨hx, hb, hml, hown, hts⟩ 0 (prc_X_take hD hX 1 (Nat.le_refl _) r62.2 r63 r64 hr64) (prg_X_take hts prw_915 (by have := hh; omega)) hX hXs hK hP hS (by decide) rfl rfl rfl rfl hl.1 (Nat.le_of_ble_eq_true rfl) prd_X_term_133 (fun H locs hP hS => ?_)
      refine lv_aload_n hx hb prd_X_term_136 rfl (lv_at hl 1 rfl) ?_
      refine lv_iload hx hb prd_X_term_137 (lv_at hl 0 rfl) ?_
      refine lv_aload_n hx hb prd_X_term_139 rfl (lv_at hl 1 rfl) ?_
      refine pr_geti (v := (r64.1 0 9)) hx hb hts prs_X hown hK hP 0 9 (by decide) rfl (hts _ prw_887) rfl rfl prd_X_term_140 ?_
      refine lv_if_eq (tgt := 150) hx hb prd_X_term_143 (by decide) (fun c65 => ?_) (fun c65 => ?_)
      · have hf := pr_it c65 hf
        refine lv_aload_n hx hb prd_X_term_150 rfl (lv_at hl 1 rfl) ?_
        refine lv_iload_n hx hb prd_X_term_151 rfl (lv_at hl 2 rfl) ?_
        obtain ⟨r66, hr66, hf⟩ := pr_bi hf
        refine pr_callVi (rest := [.int r62.1, .ref (ad 0)]) (res := r66) ⟨hx, hb, hml, hown, hts⟩ 0 (Hrc0 r64 x1 r66 hr66) (prg_X_factor hts prw_925 (by have := hh; omega)) hX hXs hK hP hS (by decide) rfl rfl rfl rfl hl.1 (Nat.le_of_ble_eq_true rfl) prd_X_term_152 (fun H locs hP hS => ?_)
        obtain ⟨r67, hr67, hf⟩ := pr_bi hf
        refine pr_callVv (rest := []) (res := r67) ⟨hx, hb, hml, hown, hts⟩ 0 (prc_X_join hD hX 0 (Nat.le_refl _) r66.2 r62.1 r66.1 r67 hr67) (prg_X_join hts prw_926 (by have := hh; omega)) hX hXs hK hP hS (by decide) rfl rfl rfl rfl hl.1 (Nat.le_of_ble_eq_true rfl) prd_X_term_155 (fun H locs hP hS => ?_)
        refine lv_aload_n hx hb prd_X_term_158 rfl (lv_at hl 1 rfl) ?_
        refine lv_iload_n hx hb prd_X_term_159 rfl (lv_at hl 3 rfl) ?_
        refine lv_iload hx hb prd_X_term_160 (lv_at hl 0 rfl) ?_
        obtain ⟨r68, hr68, hf⟩ := pr_bi hf
        refine pr_callVv (rest := []) (res := r68) ⟨hx, hb, hml, hown, hts⟩ 0 (prc_X_join hD hX 0 (Nat.le_refl _) r67 x3 r62.1 r68 hr68) (prg_X_join hts prw_926 (by have := hh; omega)) hX hXs hK hP hS (by decide) rfl rfl rfl rfl hl.1 (Nat.le_of_ble_eq_true rfl) prd_X_term_162 (fun H locs hP hS => ?_)
        refine lv_goto (tgt := 55) hx hb prd_X_term_165 (by decide) ?_
        exact Hk55 r68 x1 x3 _ hf _ _ _ hP hS (lv_sub hl [1, 2, 3] rfl)
      · have hf := pr_ie c65 hf
        refine lv_iconst (v := (-1)) hx hb prd_X_term_146 (by decide) ?_
        refine lv_goto (tgt := 155) hx hb prd_X_term_147 (by decide) ?_
        obtain ⟨r69, hr69, hf⟩ := pr_bi hf
        refine pr_callVv (rest := []) (res := r69) ⟨hx, hb, hml, hown, hts⟩ 0 (prc_X_join hD hX 0 (Nat.le_refl _) r64 r62.1 (-1) r69 hr69) (prg_X_join hts prw_926 (by have := hh; omega)) hX hXs hK hP hS (by decide) rfl rfl rfl rfl hl.1 (Nat.le_of_ble_eq_true rfl) prd_X_term_155 (fun H locs hP hS => ?_)
        refine lv_aload_n hx hb prd_X_term_158 rfl (lv_at hl 1 rfl) ?_
        refine lv_iload_n hx hb prd_X_term_159 rfl (lv_at hl 3 rfl) ?_
        refine lv_iload hx hb prd_X_term_160 (lv_at hl 0 rfl) ?_
        obtain ⟨r70, hr70, hf⟩ := pr_bi hf
        refine pr_callVv (rest := []) (res := r70) ⟨hx, hb, hml, hown, hts⟩ 0 (prc_X_join hD hX 0 (Nat.le_refl _) r69 x3 r62.1 r70 hr70) (prg_X_join hts prw_926 (by have := hh; omega)) hX hXs hK hP hS (by decide) rfl rfl rfl rfl hl.1 (Nat.le_of_ble_eq_true rfl) prd_X_term_162 (fun H locs hP hS => ?_)
        refine lv_goto (tgt := 55) hx hb prd_X_term_165 (by decide) ?_
        exact Hk55 r70 x1 x3 _ hf _ _ _ hP hS (lv_sub hl [1, 2, 3] rfl)
    · have hf := pr_it c60 hf
      refine lv_bipush (v := 22) hx hb prd_X_term_106 (by decide) ?_
      refine lv_goto (tgt := 113) hx hb prd_X_term_108 (by decide) ?_
      refine lv_aload_n hx hb prd_X_term_113 rfl (lv_at hl 0 rfl) ?_
      refine pr_getr (t := 4) hx hb hts prs_X hown hK hP 0 5 (by decide) rfl (hts _ prw_882) rfl prd_X_term_114 ?_
      refine lv_aload_n hx hb prd_X_term_117 rfl (lv_at hl 0 rfl) ?_
      refine pr_geti (v := (σ.1 0 8)) hx hb hts prs_X hown hK hP 0 8 (by decide) rfl (hts _ prw_888) rfl rfl prd_X_term_118 ?_
      obtain ⟨hi71, hf⟩ := pr_ck_in hf
      refine pr_iald (f := (σ.2.1 4)) hx hb hK hP 4 (by decide) rfl hi71 rfl prd_X_term_121 ?_
      refine lv_iconst (v := 0) hx hb prd_X_term_122 (by decide) ?_
      obtain ⟨r72, hr72, hf⟩ := pr_bi hf
      refine pr_callVi (rest := []) (res := r72) ⟨hx, hb, hml, hown, hts⟩ 0 (prc_X_draft hD hX 0 (Nat.le_refl _) σ 22 ((σ.2.1 4) (σ.1 0 8).toNatClampNeg) 0 r72 hr72) (prg_X_draft hts prw_914 (by have := hh; omega)) hX hXs hK hP hS (by decide) rfl rfl rfl rfl hl.1 (Nat.le_of_ble_eq_true rfl) prd_X_term_123 (fun H locs hP hS => ?_)
      refine lv_istore (lv' := [(4, .int r72.1), (0, .ref (ad 0)), (1, .int x1), (3, .int x3)]) hx hb prd_X_term_126 hl (by decide) rfl (fun ls hl => ?_)
      refine lv_aload_n hx hb prd_X_term_128 rfl (lv_at hl 1 rfl) ?_
      refine lv_aload_n hx hb prd_X_term_129 rfl (lv_at hl 1 rfl) ?_
      obtain ⟨r73, hr73, hf⟩ := pr_bi hf
      refine pr_callVr (rest := [.ref (ad 0)]) (r := r73) ⟨hx, hb, hml, hown, hts⟩ 0 (prc_X_look hD hX 0 (Nat.le_refl _) r72.2  r73 hr73) (prg_X_look hts prw_896 (by have := hh; omega)) hX hXs hK hP hS (by decide) rfl rfl rfl rfl hl.1 (Nat.le_of_ble_eq_true rfl) prd_X_term_130 (fun H locs hP hS => ?_)
      obtain ⟨r74, hr74, hf⟩ := pr_bi hf
      refine pr_callVv (rest := []) (res := r74) ⟨hx, hb, hml, hown, hts⟩ 0 (prc_X_take hD hX 1 (Nat.le_refl _) r72.2 r73 r74 hr74) (prg_X_take hts prw_915 (by have := hh; omega)) hX hXs hK hP hS (by decide) rfl rfl rfl rfl hl.1 (Nat.le_of_ble_eq_true rfl) prd_X_term_133 (fun H locs hP hS => ?_)
      refine lv_aload_n hx hb prd_X_term_136 rfl (lv_at hl 1 rfl) ?_
      refine lv_iload hx hb prd_X_term_137 (lv_at hl 0 rfl) ?_
      refine lv_aload_n hx hb prd_X_term_139 rfl (lv_at hl 1 rfl) ?_
      refine pr_geti (v := (r74.1 0 9)) hx hb hts prs_X hown hK hP 0 9 (by decide) rfl (hts _ prw_887) rfl rfl prd_X_term_140 ?_
      refine lv_if_eq (tgt := 150) hx hb prd_X_term_143 (by decide) (fun c75 => ?_) (fun c75 => ?_)
      · have hf := pr_it c75 hf
        refine lv_aload_n hx hb prd_X_term_150 rfl (lv_at hl 1 rfl) ?_
        refine lv_iload_n hx hb prd_X_term_151 rfl (lv_at hl 2 rfl) ?_
        obtain ⟨r76, hr76, hf⟩ := pr_bi hf
        refine pr_callVi (rest := [.int r72.1, .ref (ad 0)]) (res := r76) ⟨hx, hb, hml, hown, hts⟩ 0 (Hrc0 r74 x1 r76 hr76) (prg_X_factor hts prw_925 (by have := hh; omega)) hX hXs hK hP hS (by decide) rfl rfl rfl rfl hl.1 (Nat.le_of_ble_eq_true rfl) prd_X_term_152 (fun H locs hP hS => ?_)
        obtain ⟨r77, hr77, hf⟩ := pr_bi hf
        refine pr_callVv (rest := []) (res := r77) ⟨hx, hb, hml, hown, hts⟩ 0 (prc_X_join hD hX 0 (Nat.le_refl _) r76.2 r72.1 r76.1 r77 hr77) (prg_X_join hts prw_926 (by have := hh; omega)) hX hXs hK hP hS (by decide) rfl rfl rfl rfl hl.1 (Nat.le_of_ble_eq_true rfl) prd_X_term_155 (fun H locs hP hS => ?_)
        refine lv_aload_n hx hb prd_X_term_158 rfl (lv_at hl 1 rfl) ?_
        refine lv_iload_n hx hb prd_X_term_159 rfl (lv_at hl 3 rfl) ?_
        refine lv_iload hx hb prd_X_term_160 (lv_at hl 0 rfl) ?_
        obtain ⟨r78, hr78, hf⟩ := pr_bi hf
        refine pr_callVv (rest := []) (res := r78) ⟨hx, hb, hml, hown, hts⟩ 0 (prc_X_join hD hX 0 (Nat.le_refl _) r77 x3 r72.1 r78 hr78) (prg_X_join hts prw_926 (by have := hh; omega)) hX hXs hK hP hS (by decide) rfl rfl rfl rfl hl.1 (Nat.le_of_ble_eq_true rfl) prd_X_term_162 (fun H locs hP hS => ?_)
        refine lv_goto (tgt := 55) hx hb prd_X_term_165 (by decide) ?_
        exact Hk55 r78 x1 x3 _ hf _ _ _ hP hS (lv_sub hl [1, 2, 3] rfl)
      · have hf := pr_ie c75 hf
        refine lv_iconst (v := (-1)) hx hb prd_X_term_146 (by decide) ?_
        refine lv_goto (tgt := 155) hx hb prd_X_term_147 (by decide) ?_
        obtain ⟨r79, hr79, hf⟩ := pr_bi hf
        refine pr_callVv (rest := []) (res := r79) ⟨hx, hb, hml, hown, hts⟩ 0 (prc_X_join hD hX 0 (Nat.le_refl _) r74 r72.1 (-1) r79 hr79) (prg_X_join hts prw_926 (by have := hh; omega)) hX hXs hK hP hS (by decide) rfl rfl rfl rfl hl.1 (Nat.le_of_ble_eq_true rfl) prd_X_term_155 (fun H locs hP hS => ?_)
        refine lv_aload_n hx hb prd_X_term_158 rfl (lv_at hl 1 rfl) ?_
        refine lv_iload_n hx hb prd_X_term_159 rfl (lv_at hl 3 rfl) ?_
        refine lv_iload hx hb prd_X_term_160 (lv_at hl 0 rfl) ?_
        obtain ⟨r80, hr80, hf⟩ := pr_bi hf
        refine pr_callVv (rest := []) (res := r80) ⟨hx, hb, hml, hown, hts⟩ 0 (prc_X_join hD hX 0 (Nat.le_refl _) r79 x3 r72.1 r80 hr80) (prg_X_join hts prw_926 (by have := hh; omega)) hX hXs hK hP hS (by decide) rfl rfl rfl rfl hl.1 (Nat.le_of_ble_eq_true rfl) prd_X_term_162 (fun H locs hP hS => ?_)
        refine lv_goto (tgt := 55) hx hb prd_X_term_165 (by decide) ?_
        exact Hk55 r80 x1 x3 _ hf _ _ _ hP hS (lv_sub hl [1, 2, 3] rfl)
  · have hf := pr_it c58 hf
    refine lv_bipush (v := 21) hx hb prd_X_term_92 (by decide) ?_
    refine lv_goto (tgt := 113) hx hb prd_X_term_94 (by decide) ?_
    refine lv_aload_n hx hb prd_X_term_113 rfl (lv_at hl 0 rfl) ?_
    refine pr_getr (t := 4) hx hb hts prs_X hown hK hP 0 5 (by decide) rfl (hts _ prw_882) rfl prd_X_term_114 ?_
    refine lv_aload_n hx hb prd_X_term_117 rfl (lv_at hl 0 rfl) ?_
    refine pr_geti (v := (σ.1 0 8)) hx hb hts prs_X hown hK hP 0 8 (by decide) rfl (hts _ prw_888) rfl rfl prd_X_term_118 ?_
    obtain ⟨hi81, hf⟩ := pr_ck_in hf
    refine pr_iald (f := (σ.2.1 4)) hx hb hK hP 4 (by decide) rfl hi81 rfl prd_X_term_121 ?_
    refine lv_iconst (v := 0) hx hb prd_X_term_122 (by decide) ?_
    obtain ⟨r82, hr82, hf⟩ := pr_bi hf
    refine pr_callVi (rest := []) (res := r82) ⟨hx, hb, hml, hown, hts⟩ 0 (prc_X_draft hD hX 0 (Nat.le_refl _) σ 21 ((σ.2.1 4) (σ.1 0 8).toNatClampNeg) 0 r82 hr82) (prg_X_draft hts prw_914 (by have := hh; omega)) hX hXs hK hP hS (by decide) rfl rfl rfl rfl hl.1 (Nat.le_of_ble_eq_true rfl) prd_X_term_123 (fun H locs hP hS => ?_)
    refine lv_istore (lv' := [(4, .int r82.1), (0, .ref (ad 0)), (1, .int x1), (3, .int x3)]) hx hb prd_X_term_126 hl (by decide) rfl (fun ls hl => ?_)
    refine lv_aload_n hx hb prd_X_term_128 rfl (lv_at hl 1 rfl) ?_
    refine lv_aload_n hx hb prd_X_term_129 rfl (lv_at hl 1 rfl) ?_
    obtain ⟨r83, hr83, hf⟩ := pr_bi hf
    refine pr_callVr (rest := [.ref (ad 0)]) (r := r83) ⟨hx, hb, hml, hown, hts⟩ 0 (prc_X_look hD hX 0 (Nat.le_refl _) r82.2  r83 hr83) (prg_X_look hts prw_896 (by have := hh; omega)) hX hXs hK hP hS (by decide) rfl rfl rfl rfl hl.1 (Nat.le_of_ble_eq_true rfl) prd_X_term_130 (fun H locs hP hS => ?_)
    obtain ⟨r84, hr84, hf⟩ := pr_bi hf
    refine pr_callVv (rest := []) (res := r84) ⟨hx, hb, hml, hown, hts⟩ 0 (prc_X_take hD hX 1 (Nat.le_refl _) r82.2 r83 r84 hr84) (prg_X_take hts prw_915 (by have := hh; omega)) hX hXs hK hP hS (by decide) rfl rfl rfl rfl hl.1 (Nat.le_of_ble_eq_true rfl) prd_X_term_133 (fun H locs hP hS => ?_)
    refine lv_aload_n hx hb prd_X_term_136 rfl (lv_at hl 1 rfl) ?_
    refine lv_iload hx hb prd_X_term_137 (lv_at hl 0 rfl) ?_
    refine lv_aload_n hx hb prd_X_term_139 rfl (lv_at hl 1 rfl) ?_
    refine pr_geti (v := (r84.1 0 9)) hx hb hts prs_X hown hK hP 0 9 (by decide) rfl (hts _ prw_887) rfl rfl prd_X_term_140 ?_
    refine lv_if_eq (tgt := 150) hx hb prd_X_term_143 (by decide) (fun c85 => ?_) (fun c85 => ?_)
    · have hf := pr_it c85 hf
      refine lv_aload_n hx hb prd_X_term_150 rfl (lv_at hl 1 rfl) ?_
      refine lv_iload_n hx hb prd_X_term_151 rfl (lv_at hl 2 rfl) ?_
      obtain ⟨r86, hr86, hf⟩ := pr_bi hf
      refine pr_callVi (rest := [.int r82.1, .ref (ad 0)]) (res := r86) ⟨hx, hb, hml, hown, hts⟩ 0 (Hrc0 r84 x1 r86 hr86) (prg_X_factor hts prw_925 (by have := hh; omega)) hX hXs hK hP hS (by decide) rfl rfl rfl rfl hl.1 (Nat.le_of_ble_eq_true rfl) prd_X_term_152 (fun H locs hP hS => ?_)
      obtain ⟨r87, hr87, hf⟩ := pr_bi hf
      refine pr_callVv (rest := []) (res := r87) ⟨hx, hb, hml, hown, hts⟩ 0 (prc_X_join hD hX 0 (Nat.le_refl _) r86.2 r82.1 r86.1 r87 hr87) (prg_X_join hts prw_926 (by have := hh; omega)) hX hXs hK hP hS (by decide) rfl rfl rfl rfl hl.1 (Nat.le_of_ble_eq_true rfl) prd_X_term_155 (fun H locs hP hS => ?_)
      refine lv_aload_n hx hb prd_X_term_158 rfl (lv_at hl 1 rfl) ?_
      refine lv_iload_n hx hb prd_X_term_159 rfl (lv_at hl 3 rfl) ?_
      refine lv_iload hx hb prd_X_term_160 (lv_at hl 0 rfl) ?_
      obtain ⟨r88, hr88, hf⟩ := pr_bi hf
      refine pr_callVv (rest := []) (res := r88) ⟨hx, hb, hml, hown, hts⟩ 0 (prc_X_join hD hX 0 (Nat.le_refl _) r87 x3 r82.1 r88 hr88) (prg_X_join hts prw_926 (by have := hh; omega)) hX hXs hK hP hS (by decide) rfl rfl rfl rfl hl.1 (Nat.le_of_ble_eq_true rfl) prd_X_term_162 (fun H locs hP hS => ?_)
      refine lv_goto (tgt := 55) hx hb prd_X_term_165 (by decide) ?_
      exact Hk55 r88 x1 x3 _ hf _ _ _ hP hS (lv_sub hl [1, 2, 3] rfl)
    · have hf := pr_ie c85 hf
      refine lv_iconst (v := (-1)) hx hb prd_X_term_146 (by decide) ?_
      refine lv_goto (tgt := 155) hx hb prd_X_term_147 (by decide) ?_
      obtain ⟨r89, hr89, hf⟩ := pr_bi hf
      refine pr_callVv (rest := []) (res := r89) ⟨hx, hb, hml, hown, hts⟩ 0 (prc_X_join hD hX 0 (Nat.le_refl _) r84 r82.1 (-1) r89 hr89) (prg_X_join hts prw_926 (by have := hh; omega)) hX hXs hK hP hS (by decide) rfl rfl rfl rfl hl.1 (Nat.le_of_ble_eq_true rfl) prd_X_term_155 (fun H locs hP hS => ?_)
      refine lv_aload_n hx hb prd_X_term_158 rfl (lv_at hl 1 rfl) ?_
      refine lv_iload_n hx hb prd_X_term_159 rfl (lv_at hl 3 rfl) ?_
      refine lv_iload hx hb prd_X_term_160 (lv_at hl 0 rfl) ?_
      obtain ⟨r90, hr90, hf⟩ := pr_bi hf
      refine pr_callVv (rest := []) (res := r90) ⟨hx, hb, hml, hown, hts⟩ 0 (prc_X_join hD hX 0 (Nat.le_refl _) r89 x3 r82.1 r90 hr90) (prg_X_join hts prw_926 (by have := hh; omega)) hX hXs hK hP hS (by decide) rfl rfl rfl rfl hl.1 (Nat.le_of_ble_eq_true rfl) prd_X_term_162 (fun H locs hP hS => ?_)
      refine lv_goto (tgt := 55) hx hb prd_X_term_165 (by decide) ?_
      exact Hk55 r90 x1 x3 _ hf _ _ _ hP hS (lv_sub hl [1, 2, 3] rfl)
set_option maxHeartbeats 4000000 in
set_option maxRecDepth 100000 in
theorem prk_X_term_55 {l : Launch} {D : va_G} {ad : Nat → Nat} {dA : Nat → ClassId} {A : Nat → Prop} {v : Nat → Nat} {r : Value} {p : Program} {e : Env} {s : State} {m : MethodId} {args : Array Value} {below : List Frame} {meth : Method} {c : Code} (hd : Nat) (hb0 : 3 ≤ hd) {h : Nat} (hh : hd + 1 ≤ h) (E : pr_cx prn_X prb_X_term 5 (some .int) D pr_cl prx_L ad dA A (prY ad v r A) p s m args meth c) {rc : pr_St → Int32 → Option (Int32 × pr_St)} (Hrc0 : ∀ (σ : pr_St) (x1 : Int32) (res : (Int32 × pr_St)), rc σ x1 = some res → Met l pry_X_factor (Cond.code pry_X_factor prb_X_factor 6 (some .int) :: pr_U) (pr_rm hd) (pr_Pc (prY ad v r A) D pr_cl prx_L ad dA [.ref (ad 0), .int x1] σ) (pr_Qi D pr_cl prx_L ad dA A res) 0 0 A) : ∀ n : Nat, ∀ (σ : pr_St) (x1 : Int32) (x3 : Int32) (res : (Int32 × pr_St)), some res = prf_X_term_55 rc n σ x1 x3 → ∀ (H : Heap) (locs : List Loc) (ls : Array Slot), va_P D pr_cl (pr_w prx_L ad dA σ) H → va_S A s.heap H locs → lv_has ls 5 [(0, .ref (ad 0)), (1, .int x1), (3, .int x3)] → W p l e (pr_rm h) s m args below meth c H locs 0 0 (MQ below (pr_Qi D pr_cl prx_L ad dA A res) args s 0 0 A) (F0 m 55 ls []) := by
  obtain ⟨hx, hb, hml, hown, hts, hr, hlocks, hK, hD, hX, hXs⟩ := id E
  intro n
  induction n with
  | zero =>
    intro σ x1 x3 res hf
    rw [prf_X_term_55] at hf
    cases hf
  | succ n ih =>
    intro σ x1 x3 res hf H locs ls hP hS hl
    rw [prf_X_term_55] at hf
    refine lv_aload_n hx hb prd_X_term_55 rfl (lv_at hl 0 rfl) ?_
    obtain ⟨r91, hr91, hf⟩ := pr_bi hf
    refine pr_callVr (rest := []) (r := r91) ⟨hx, hb, hml, hown, hts⟩ 0 (prc_X_look hD hX 0 (Nat.le_refl _) σ  r91 hr91) (prg_X_look hts prw_896 (by have := hh; omega)) hX hXs hK hP hS (by decide) rfl rfl rfl rfl hl.1 (Nat.le_of_ble_eq_true rfl) prd_X_term_56 (fun H locs hP hS => ?_)
    refine lv_bipush (v := 42) hx hb prd_X_term_59 (by decide) ?_
    refine lv_icmp_eq (tgt := 82) hx hb prd_X_term_61 (by decide) (fun c92 => ?_) (fun c92 => ?_)
    · have hf := pr_it c92 hf
      exact prk_X_term_82 hd hb0 hh E Hrc0 ih σ x1 x3 _ hf _ _ _ hP hS (lv_sub hl [0, 1, 2] rfl)
    · have hf := pr_ie c92 hf
      refine lv_aload_n hx hb prd_X_term_64 rfl (lv_at hl 0 rfl) ?_
      obtain ⟨r93, hr93, hf⟩ := pr_bi hf
      refine pr_callVr (rest := []) (r := r93) ⟨hx, hb, hml, hown, hts⟩ 0 (prc_X_look hD hX 0 (Nat.le_refl _) σ  r93 hr93) (prg_X_look hts prw_896 (by have := hh; omega)) hX hXs hK hP hS (by decide) rfl rfl rfl rfl hl.1 (Nat.le_of_ble_eq_true rfl) prd_X_term_65 (fun H locs hP hS => ?_)
      refine lv_bipush (v := 47) hx hb prd_X_term_68 (by decide) ?_
      refine lv_icmp_eq (tgt := 82) hx hb prd_X_term_70 (by decide) (fun c94 => ?_) (fun c94 => ?_)
      · have hf := pr_it c94 hf
        exact prk_X_term_82 hd hb0 hh E Hrc0 ih σ x1 x3 _ hf _ _ _ hP hS (lv_sub hl [0, 1, 2] rfl)
      · have hf := pr_ie c94 hf
        refine lv_aload_n hx hb prd_X_term_73 rfl (lv_at hl 0 rfl) ?_
        obtain ⟨r95, hr95, hf⟩ := pr_bi hf
        refine pr_callVr (rest := []) (r := r95) ⟨hx, hb, hml, hown, hts⟩ 0 (prc_X_look hD hX 0 (Nat.le_refl _) σ  r95 hr95) (prg_X_look hts prw_896 (by have := hh; omega)) hX hXs hK hP hS (by decide) rfl rfl rfl rfl hl.1 (Nat.le_of_ble_eq_true rfl) prd_X_term_74 (fun H locs hP hS => ?_)
        refine lv_bipush (v := 37) hx hb prd_X_term_77 (by decide) ?_
        refine lv_icmp_ne (tgt := 168) hx hb prd_X_term_79 (by decide) (fun c96 => ?_) (fun c96 => ?_)
        · have hf := pr_ie c96 hf
          refine lv_iload_n hx hb prd_X_term_168 rfl (lv_at hl 2 rfl) ?_
          exact pr_reti E hP hS (pr_so hf) prd_X_term_169
        · have hf := pr_it c96 hf
          exact prk_X_term_82 hd hb0 hh E Hrc0 ih σ x1 x3 _ hf _ _ _ hP hS (lv_sub hl [0, 1, 2] rfl)
set_option maxHeartbeats 4000000 in
set_option maxRecDepth 100000 in
theorem prc_X_term {l : Launch} {D : va_G} {ad : Nat → Nat} {dA : Nat → ClassId} {A : Nat → Prop} {v : Nat → Nat} {r : Value} (hD : ∀ σ : pr_St, va_D A (pr_w prx_L ad dA σ)) (hX : pr_Xok A (prY ad v r A)) (hd : Nat) (hb0 : 3 ≤ hd) (h : Nat) (hh : hd + 1 ≤ h) {rc : pr_St → Int32 → Option (Int32 × pr_St)} (Hrc0 : ∀ (σ : pr_St) (x1 : Int32) (res : (Int32 × pr_St)), rc σ x1 = some res → Met l pry_X_factor (Cond.code pry_X_factor prb_X_factor 6 (some .int) :: pr_U) (pr_rm hd) (pr_Pc (prY ad v r A) D pr_cl prx_L ad dA [.ref (ad 0), .int x1] σ) (pr_Qi D pr_cl prx_L ad dA A res) 0 0 A) (σ : pr_St) (x1 : Int32) (res : (Int32 × pr_St)) (hf : prf_X_term rc σ x1 = some res) : Met l pry_X_term (Cond.code pry_X_term prb_X_term 5 (some .int) :: pr_U) (pr_rm h) (pr_Pc (prY ad v r A) D pr_cl prx_L ad dA [.ref (ad 0), .int x1] σ) (pr_Qi D pr_cl prx_L ad dA A res) 0 0 A := by
  refine pr_entry (cc := prb_X_term) (maxL := 5) (ret := (some .int)) (by decide) (Nat.le_of_ble_eq_true rfl) hD hX ?_
  intro p e s m args below meth c E H locs hP hS ls hl
  have hl : lv_has ls 5 [(0, .ref (ad 0)), (1, .int x1)] := hl
  have hf := hf.symm
  unfold prf_X_term at hf
  obtain ⟨hx, hb, hml, hown, hts, hr, hlocks, hK, hD, hX, hXs⟩ := id E
  refine lv_aload_n hx hb prd_X_term_0 rfl (lv_at hl 0 rfl) ?_
  refine lv_iload_n hx hb prd_X_term_1 rfl (lv_at hl 1 rfl) ?_
  obtain ⟨r97, hr97, hf⟩ := pr_bi hf
  refine pr_callVi (rest := []) (res := r97) ⟨hx, hb, hml, hown, hts⟩ 0 (Hrc0 σ x1 r97 hr97) (prg_X_factor hts prw_925 (by have := hh; omega)) hX hXs hK hP hS (by decide) rfl rfl rfl rfl hl.1 (Nat.le_of_ble_eq_true rfl) prd_X_term_2 (fun H locs hP hS => ?_)
  refine lv_istore_n (lv' := [(2, .int r97.1), (0, .ref (ad 0)), (1, .int x1)]) hx hb prd_X_term_5 rfl hl (by decide) rfl (fun ls hl => ?_)
  refine lv_aload_n hx hb prd_X_term_6 rfl (lv_at hl 1 rfl) ?_
  obtain ⟨r98, hr98, hf⟩ := pr_bi hf
  refine pr_callVr (rest := []) (r := r98) ⟨hx, hb, hml, hown, hts⟩ 0 (prc_X_look hD hX 0 (Nat.le_refl _) r97.2  r98 hr98) (prg_X_look hts prw_896 (by have := hh; omega)) hX hXs hK hP hS (by decide) rfl rfl rfl rfl hl.1 (Nat.le_of_ble_eq_true rfl) prd_X_term_7 (fun H locs hP hS => ?_)
  refine lv_bipush (v := 42) hx hb prd_X_term_10 (by decide) ?_
  refine lv_icmp_eq (tgt := 35) hx hb prd_X_term_12 (by decide) (fun c99 => ?_) (fun c99 => ?_)
  · have hf := pr_it c99 hf
    refine lv_aload_n hx hb prd_X_term_35 rfl (lv_at hl 1 rfl) ?_
    refine lv_bipush (v := 20) hx hb prd_X_term_36 (by decide) ?_
    refine lv_aload_n hx hb prd_X_term_38 rfl (lv_at hl 1 rfl) ?_
    refine pr_getr (t := 7) hx hb hts prs_X hown hK hP 0 12 (by decide) rfl (hts _ prw_903) rfl prd_X_term_39 ?_
    refine lv_iload_n hx hb prd_X_term_42 rfl (lv_at hl 0 rfl) ?_
    obtain ⟨hi100, hf⟩ := pr_ck_in hf
    refine pr_iald (f := (r97.2.2.1 7)) hx hb hK hP 7 (by decide) rfl hi100 rfl prd_X_term_43 ?_
    refine lv_iconst (v := 0) hx hb prd_X_term_44 (by decide) ?_
    obtain ⟨r101, hr101, hf⟩ := pr_bi hf
    refine pr_callVi (rest := []) (res := r101) ⟨hx, hb, hml, hown, hts⟩ 0 (prc_X_draft hD hX 0 (Nat.le_refl _) r97.2 20 ((r97.2.2.1 7) r97.1.toNatClampNeg) 0 r101 hr101) (prg_X_draft hts prw_914 (by have := hh; omega)) hX hXs hK hP hS (by decide) rfl rfl rfl rfl hl.1 (Nat.le_of_ble_eq_true rfl) prd_X_term_45 (fun H locs hP hS => ?_)
    refine lv_istore_n (lv' := [(3, .int r101.1), (2, .int r97.1), (0, .ref (ad 0)), (1, .int x1)]) hx hb prd_X_term_48 rfl hl (by decide) rfl (fun ls hl => ?_)
    refine lv_aload_n hx hb prd_X_term_49 rfl (lv_at hl 2 rfl) ?_
    refine lv_iload_n hx hb prd_X_term_50 rfl (lv_at hl 0 rfl) ?_
    refine lv_iload_n hx hb prd_X_term_51 rfl (lv_at hl 1 rfl) ?_
    obtain ⟨r102, hr102, hf⟩ := pr_bi hf
    refine pr_callVv (rest := []) (res := r102) ⟨hx, hb, hml, hown, hts⟩ 0 (prc_X_join hD hX 0 (Nat.le_refl _) r101.2 r101.1 r97.1 r102 hr102) (prg_X_join hts prw_926 (by have := hh; omega)) hX hXs hK hP hS (by decide) rfl rfl rfl rfl hl.1 (Nat.le_of_ble_eq_true rfl) prd_X_term_52 (fun H locs hP hS => ?_)
    exact prk_X_term_55 hd hb0 hh E Hrc0 pr_FU r102 x1 r101.1 _ hf _ _ _ hP hS (lv_sub hl [2, 3, 0] rfl)
  · have hf := pr_ie c99 hf
    refine lv_aload_n hx hb prd_X_term_15 rfl (lv_at hl 1 rfl) ?_
    obtain ⟨r103, hr103, hf⟩ := pr_bi hf
    refine pr_callVr (rest := []) (r := r103) ⟨hx, hb, hml, hown, hts⟩ 0 (prc_X_look hD hX 0 (Nat.le_refl _) r97.2  r103 hr103) (prg_X_look hts prw_896 (by have := hh; omega)) hX hXs hK hP hS (by decide) rfl rfl rfl rfl hl.1 (Nat.le_of_ble_eq_true rfl) prd_X_term_16 (fun H locs hP hS => ?_)
    refine lv_bipush (v := 47) hx hb prd_X_term_19 (by decide) ?_
    refine lv_icmp_eq (tgt := 35) hx hb prd_X_term_21 (by decide) (fun c104 => ?_) (fun c104 => ?_)
    · have hf := pr_it c104 hf
      refine lv_aload_n hx hb prd_X_term_35 rfl (lv_at hl 1 rfl) ?_
      refine lv_bipush (v := 20) hx hb prd_X_term_36 (by decide) ?_
      refine lv_aload_n hx hb prd_X_term_38 rfl (lv_at hl 1 rfl) ?_
      refine pr_getr (t := 7) hx hb hts prs_X hown hK hP 0 12 (by decide) rfl (hts _ prw_903) rfl prd_X_term_39 ?_
      refine lv_iload_n hx hb prd_X_term_42 rfl (lv_at hl 0 rfl) ?_
      obtain ⟨hi105, hf⟩ := pr_ck_in hf
      refine pr_iald (f := (r97.2.2.1 7)) hx hb hK hP 7 (by decide) rfl hi105 rfl prd_X_term_43 ?_
      refine lv_iconst (v := 0) hx hb prd_X_term_44 (by decide) ?_
      obtain ⟨r106, hr106, hf⟩ := pr_bi hf
      refine pr_callVi (rest := []) (res := r106) ⟨hx, hb, hml, hown, hts⟩ 0 (prc_X_draft hD hX 0 (Nat.le_refl _) r97.2 20 ((r97.2.2.1 7) r97.1.toNatClampNeg) 0 r106 hr106) (prg_X_draft hts prw_914 (by have := hh; omega)) hX hXs hK hP hS (by decide) rfl rfl rfl rfl hl.1 (Nat.le_of_ble_eq_true rfl) prd_X_term_45 (fun H locs hP hS => ?_)
      refine lv_istore_n (lv' := [(3, .int r106.1), (2, .int r97.1), (0, .ref (ad 0)), (1, .int x1)]) hx hb prd_X_term_48 rfl hl (by decide) rfl (fun ls hl => ?_)
      refine lv_aload_n hx hb prd_X_term_49 rfl (lv_at hl 2 rfl) ?_
      refine lv_iload_n hx hb prd_X_term_50 rfl (lv_at hl 0 rfl) ?_
      refine lv_iload_n hx hb prd_X_term_51 rfl (lv_at hl 1 rfl) ?_
      obtain ⟨r107, hr107, hf⟩ := pr_bi hf
      refine pr_callVv (rest := []) (res := r107) ⟨hx, hb, hml, hown, hts⟩ 0 (prc_X_join hD hX 0 (Nat.le_refl _) r106.2 r106.1 r97.1 r107 hr107) (prg_X_join hts prw_926 (by have := hh; omega)) hX hXs hK hP hS (by decide) rfl rfl rfl rfl hl.1 (Nat.le_of_ble_eq_true rfl) prd_X_term_52 (fun H locs hP hS => ?_)
      exact prk_X_term_55 hd hb0 hh E Hrc0 pr_FU r107 x1 r106.1 _ hf _ _ _ hP hS (lv_sub hl [2, 3, 0] rfl)
    · have hf := pr_ie c104 hf
      refine lv_aload_n hx hb prd_X_term_24 rfl (lv_at hl 1 rfl) ?_
      obtain ⟨r108, hr108, hf⟩ := pr_bi hf
      refine pr_callVr (rest := []) (r := r108) ⟨hx, hb, hml, hown, hts⟩ 0 (prc_X_look hD hX 0 (Nat.le_refl _) r97.2  r108 hr108) (prg_X_look hts prw_896 (by have := hh; omega)) hX hXs hK hP hS (by decide) rfl rfl rfl rfl hl.1 (Nat.le_of_ble_eq_true rfl) prd_X_term_25 (fun H locs hP hS => ?_)
      refine lv_bipush (v := 37) hx hb prd_X_term_28 (by decide) ?_
      refine lv_icmp_eq (tgt := 35) hx hb prd_X_term_30 (by decide) (fun c109 => ?_) (fun c109 => ?_)
      · have hf := pr_it c109 hf
        refine lv_aload_n hx hb prd_X_term_35 rfl (lv_at hl 1 rfl) ?_
        refine lv_bipush (v := 20) hx hb prd_X_term_36 (by decide) ?_
        refine lv_aload_n hx hb prd_X_term_38 rfl (lv_at hl 1 rfl) ?_
        refine pr_getr (t := 7) hx hb hts prs_X hown hK hP 0 12 (by decide) rfl (hts _ prw_903) rfl prd_X_term_39 ?_
        refine lv_iload_n hx hb prd_X_term_42 rfl (lv_at hl 0 rfl) ?_
        obtain ⟨hi110, hf⟩ := pr_ck_in hf
        refine pr_iald (f := (r97.2.2.1 7)) hx hb hK hP 7 (by decide) rfl hi110 rfl prd_X_term_43 ?_
        refine lv_iconst (v := 0) hx hb prd_X_term_44 (by decide) ?_
        obtain ⟨r111, hr111, hf⟩ := pr_bi hf
        refine pr_callVi (rest := []) (res := r111) ⟨hx, hb, hml, hown, hts⟩ 0 (prc_X_draft hD hX 0 (Nat.le_refl _) r97.2 20 ((r97.2.2.1 7) r97.1.toNatClampNeg) 0 r111 hr111) (prg_X_draft hts prw_914 (by have := hh; omega)) hX hXs hK hP hS (by decide) rfl rfl rfl rfl hl.1 (Nat.le_of_ble_eq_true rfl) prd_X_term_45 (fun H locs hP hS => ?_)
        refine lv_istore_n (lv' := [(3, .int r111.1), (2, .int r97.1), (0, .ref (ad 0)), (1, .int x1)]) hx hb prd_X_term_48 rfl hl (by decide) rfl (fun ls hl => ?_)
        refine lv_aload_n hx hb prd_X_term_49 rfl (lv_at hl 2 rfl) ?_
        refine lv_iload_n hx hb prd_X_term_50 rfl (lv_at hl 0 rfl) ?_
        refine lv_iload_n hx hb prd_X_term_51 rfl (lv_at hl 1 rfl) ?_
        obtain ⟨r112, hr112, hf⟩ := pr_bi hf
        refine pr_callVv (rest := []) (res := r112) ⟨hx, hb, hml, hown, hts⟩ 0 (prc_X_join hD hX 0 (Nat.le_refl _) r111.2 r111.1 r97.1 r112 hr112) (prg_X_join hts prw_926 (by have := hh; omega)) hX hXs hK hP hS (by decide) rfl rfl rfl rfl hl.1 (Nat.le_of_ble_eq_true rfl) prd_X_term_52 (fun H locs hP hS => ?_)
        exact prk_X_term_55 hd hb0 hh E Hrc0 pr_FU r112 x1 r111.1 _ hf _ _ _ hP hS (lv_sub hl [2, 3, 0] rfl)
      · have hf := pr_ie c109 hf
        refine lv_iload_n hx hb prd_X_term_33 rfl (lv_at hl 0 rfl) ?_
        exact pr_reti E hP hS (pr_so hf) prd_X_term_34
