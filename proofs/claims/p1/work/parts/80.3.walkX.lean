-- X_call
set_option maxHeartbeats 4000000 in
set_option maxRecDepth 100000 in
theorem prk_X_call_252 {l : Launch} {D : va_G} {ad : Nat → Nat} {dA : Nat → ClassId} {A : Nat → Prop} {v : Nat → Nat} {r : Value} {p : Program} {e : Env} {s : State} {m : MethodId} {args : Array Value} {below : List Frame} {meth : Method} {c : Code} (hd : Nat) (hb0 : 3 ≤ hd) {h : Nat} (hh : hd + 1 ≤ h) (E : pr_cx prn_X prb_X_call 13 none D pr_cl prx_L ad dA A (prY ad v r A) p s m args meth c) {rc : pr_St → Int32 → Int32 → Int32 → Int32 → Option pr_St} (Hrc0 : ∀ (σ : pr_St) (x1 x2 x3 x4 : Int32) (res : pr_St), rc σ x1 x2 x3 x4 = some res → Met l pry_X_block4 (Cond.code pry_X_block4 prb_X_block4 9 none :: pr_U) (pr_rm hd) (pr_Pc (prY ad v r A) D pr_cl prx_L ad dA [.ref (ad 0), .int x1, .int x2, .int x3, .int x4] σ) (pr_Qv D pr_cl prx_L ad dA A res) 0 0 A) {kk242 : pr_St → Int32 → Int32 → Int32 → Int32 → Int32 → Int32 → Int32 → Int32 → Int32 → Option pr_St} (Hk242 : ∀ (σ : pr_St) (x1 : Int32) (x2 : Int32) (x4 : Int32) (x5 : Int32) (x7 : Int32) (x8 : Int32) (x9 : Int32) (x10 : Int32) (x11 : Int32) (res : pr_St), some res = kk242 σ x1 x2 x4 x5 x7 x8 x9 x10 x11 → ∀ (H : Heap) (locs : List Loc) (ls : Array Slot), va_P D pr_cl (pr_w prx_L ad dA σ) H → va_S A s.heap H locs → lv_has ls 13 [(0, .ref (ad 0)), (1, .int x1), (2, .int x2), (4, .int x4), (5, .int x5), (7, .int x7), (8, .int x8), (9, .int x9), (10, .int x10), (11, .int x11)] → W p l e (pr_rm h) s m args below meth c H locs 0 0 (MQ below (pr_Qv D pr_cl prx_L ad dA A res) args s 0 0 A) (F0 m 242 ls [])) : ∀ n : Nat, ∀ (σ : pr_St) (x1 : Int32) (x2 : Int32) (x4 : Int32) (x5 : Int32) (x7 : Int32) (x8 : Int32) (x9 : Int32) (x10 : Int32) (x11 : Int32) (x12 : Int32) (res : pr_St), some res = prf_X_call_252 rc kk242 n σ x1 x2 x4 x5 x7 x8 x9 x10 x11 x12 → ∀ (H : Heap) (locs : List Loc) (ls : Array Slot), va_P D pr_cl (pr_w prx_L ad dA σ) H → va_S A s.heap H locs → lv_has ls 13 [(0, .ref (ad 0)), (1, .int x1), (2, .int x2), (4, .int x4), (5, .int x5), (7, .int x7), (8, .int x8), (9, .int x9), (10, .int x10), (11, .int x11), (12, .int x12)] → W p l e (pr_rm h) s m args below meth c H locs 0 0 (MQ below (pr_Qv D pr_cl prx_L ad dA A res) args s 0 0 A) (F0 m 252 ls []) := by
  obtain ⟨hx, hb, hml, hown, hts, hr, hlocks, hK, hD, hX, hXs⟩ := id E
  intro n
  induction n with
  | zero =>
    intro σ x1 x2 x4 x5 x7 x8 x9 x10 x11 x12 res hf
    rw [prf_X_call_252] at hf
    cases hf
  | succ n ih =>
    intro σ x1 x2 x4 x5 x7 x8 x9 x10 x11 x12 res hf H locs ls hP hS hl
    rw [prf_X_call_252] at hf
    refine lv_iload hx hb prd_X_call_252 (lv_at hl 10 rfl) ?_
    refine lv_iload hx hb prd_X_call_254 (lv_at hl 9 rfl) ?_
    refine lv_icmp_ge (tgt := 306) hx hb prd_X_call_256 (by decide) (fun c40 => ?_) (fun c40 => ?_)
    · have hf := pr_it c40 hf
      refine lv_iinc (v := (x11 + 1)) (lv' := [(11, .int (x11 + 1)), (0, .ref (ad 0)), (1, .int x1), (2, .int x2), (4, .int x4), (5, .int x5), (7, .int x7), (8, .int x8), (9, .int x9), (10, .int x10), (12, .int x12)]) hx hb prd_X_call_306 hl (k := 9) rfl rfl (by decide) rfl (fun ls hl => ?_)
      refine lv_goto (tgt := 242) hx hb prd_X_call_309 (by decide) ?_
      exact Hk242 σ x1 x2 x4 x5 x7 x8 x9 x10 (x11 + 1) _ hf _ _ _ hP hS (lv_sub hl [1, 2, 3, 4, 5, 6, 7, 8, 9, 0] rfl)
    · have hf := pr_ie c40 hf
      refine lv_aload_n hx hb prd_X_call_259 rfl (lv_at hl 0 rfl) ?_
      refine pr_getr (t := 15) hx hb hts prs_X hown hK hP 0 21 (by decide) rfl (hts _ prw_838) rfl prd_X_call_260 ?_
      refine lv_iload hx hb prd_X_call_263 (lv_at hl 3 rfl) ?_
      refine lv_iconst (v := 2) hx hb prd_X_call_265 (by decide) ?_
      refine lv_iadd hx hb prd_X_call_266 ?_
      refine lv_iload hx hb prd_X_call_267 (lv_at hl 9 rfl) ?_
      refine lv_iadd hx hb prd_X_call_269 ?_
      obtain ⟨hi41, hf⟩ := pr_ck_in hf
      refine pr_iald (f := (σ.2.1 15)) hx hb hK hP 15 (by decide) rfl hi41 rfl prd_X_call_270 ?_
      refine lv_aload_n hx hb prd_X_call_271 rfl (lv_at hl 0 rfl) ?_
      refine pr_getr (t := 15) hx hb hts prs_X hown hK hP 0 21 (by decide) rfl (hts _ prw_838) rfl prd_X_call_272 ?_
      refine lv_iload hx hb prd_X_call_275 (lv_at hl 3 rfl) ?_
      refine lv_iconst (v := 2) hx hb prd_X_call_277 (by decide) ?_
      refine lv_iadd hx hb prd_X_call_278 ?_
      refine lv_iload hx hb prd_X_call_279 (lv_at hl 10 rfl) ?_
      refine lv_iadd hx hb prd_X_call_281 ?_
      obtain ⟨hi42, hf⟩ := pr_ck_in hf
      refine pr_iald (f := (σ.2.1 15)) hx hb hK hP 15 (by decide) rfl hi42 rfl prd_X_call_282 ?_
      refine lv_icmp_ne (tgt := 300) hx hb prd_X_call_283 (by decide) (fun c43 => ?_) (fun c43 => ?_)
      · have hf := pr_ie c43 hf
        refine lv_iinc (v := (x12 + 1)) (lv' := [(12, .int (x12 + 1)), (0, .ref (ad 0)), (1, .int x1), (2, .int x2), (4, .int x4), (5, .int x5), (7, .int x7), (8, .int x8), (9, .int x9), (10, .int x10), (11, .int x11)]) hx hb prd_X_call_300 hl (k := 10) rfl rfl (by decide) rfl (fun ls hl => ?_)
        refine lv_goto (tgt := 252) hx hb prd_X_call_303 (by decide) ?_
        exact ih σ x1 x2 x4 x5 x7 x8 x9 x10 x11 (x12 + 1) _ hf _ _ _ hP hS (lv_sub hl [1, 2, 3, 4, 5, 6, 7, 8, 9, 10, 0] rfl)
      · have hf := pr_it c43 hf
        refine lv_aload_n hx hb prd_X_call_286 rfl (lv_at hl 0 rfl) ?_
        refine lv_iconst (v := 2) hx hb prd_X_call_287 (by decide) ?_
        refine lv_iload hx hb prd_X_call_288 (lv_at hl 3 rfl) ?_
        refine lv_iconst (v := 2) hx hb prd_X_call_290 (by decide) ?_
        refine lv_iadd hx hb prd_X_call_291 ?_
        refine lv_iload hx hb prd_X_call_292 (lv_at hl 9 rfl) ?_
        refine lv_iadd hx hb prd_X_call_294 ?_
        obtain ⟨r44, hr44, hf⟩ := pr_bi hf
        refine pr_callVi (rest := []) (res := r44) ⟨hx, hb, hml, hown, hts⟩ 0 (prc_X_wrong hD hX 0 (Nat.le_refl _) σ 2 ((x4 + 2) + x11) r44 hr44) (prg_X_wrong hts prw_999 (by have := hh; omega)) hX hXs hK hP hS (by decide) rfl rfl rfl rfl hl.1 (Nat.le_of_ble_eq_true rfl) prd_X_call_295 (fun H locs hP hS => ?_)
        refine lv_pop hx hb prd_X_call_298 rfl ?_
        exact pr_retv E hP hS (pr_so hf) prd_X_call_299
set_option maxHeartbeats 4000000 in
set_option maxRecDepth 100000 in
theorem prk_X_call_336 {l : Launch} {D : va_G} {ad : Nat → Nat} {dA : Nat → ClassId} {A : Nat → Prop} {v : Nat → Nat} {r : Value} {p : Program} {e : Env} {s : State} {m : MethodId} {args : Array Value} {below : List Frame} {meth : Method} {c : Code} (hd : Nat) (hb0 : 3 ≤ hd) {h : Nat} (hh : hd + 1 ≤ h) (E : pr_cx prn_X prb_X_call 13 none D pr_cl prx_L ad dA A (prY ad v r A) p s m args meth c) {rc : pr_St → Int32 → Int32 → Int32 → Int32 → Option pr_St} (Hrc0 : ∀ (σ : pr_St) (x1 x2 x3 x4 : Int32) (res : pr_St), rc σ x1 x2 x3 x4 = some res → Met l pry_X_block4 (Cond.code pry_X_block4 prb_X_block4 9 none :: pr_U) (pr_rm hd) (pr_Pc (prY ad v r A) D pr_cl prx_L ad dA [.ref (ad 0), .int x1, .int x2, .int x3, .int x4] σ) (pr_Qv D pr_cl prx_L ad dA A res) 0 0 A) : ∀ n : Nat, ∀ (σ : pr_St) (x2 : Int32) (x4 : Int32) (x5 : Int32) (x7 : Int32) (x8 : Int32) (x9 : Int32) (x10 : Int32) (x11 : Int32) (res : pr_St), some res = prf_X_call_336 rc n σ x2 x4 x5 x7 x8 x9 x10 x11 → ∀ (H : Heap) (locs : List Loc) (ls : Array Slot), va_P D pr_cl (pr_w prx_L ad dA σ) H → va_S A s.heap H locs → lv_has ls 13 [(0, .ref (ad 0)), (2, .int x2), (4, .int x4), (5, .int x5), (7, .int x7), (8, .int x8), (9, .int x9), (10, .int x10), (11, .int x11)] → W p l e (pr_rm h) s m args below meth c H locs 0 0 (MQ below (pr_Qv D pr_cl prx_L ad dA A res) args s 0 0 A) (F0 m 336 ls []) := by
  obtain ⟨hx, hb, hml, hown, hts, hr, hlocks, hK, hD, hX, hXs⟩ := id E
  intro n
  induction n with
  | zero =>
    intro σ x2 x4 x5 x7 x8 x9 x10 x11 res hf
    rw [prf_X_call_336] at hf
    cases hf
  | succ n ih =>
    intro σ x2 x4 x5 x7 x8 x9 x10 x11 res hf H locs ls hP hS hl
    rw [prf_X_call_336] at hf
    refine lv_iload hx hb prd_X_call_336 (lv_at hl 8 rfl) ?_
    refine lv_iload hx hb prd_X_call_338 (lv_at hl 3 rfl) ?_
    refine lv_icmp_ge (tgt := 382) hx hb prd_X_call_340 (by decide) (fun c45 => ?_) (fun c45 => ?_)
    · have hf := pr_it c45 hf
      refine lv_aload_n hx hb prd_X_call_382 rfl (lv_at hl 0 rfl) ?_
      refine lv_aload_n hx hb prd_X_call_383 rfl (lv_at hl 0 rfl) ?_
      refine lv_iload hx hb prd_X_call_384 (lv_at hl 2 rfl) ?_
      obtain ⟨r46, hr46, hf⟩ := pr_bi hf
      refine pr_callVr (rest := [.ref (ad 0)]) (r := r46) ⟨hx, hb, hml, hown, hts⟩ 0 (prc_X_blockOf hD hX 0 (Nat.le_refl _) σ x4 r46 hr46) (prg_X_blockOf hts prw_1032 (by have := hh; omega)) hX hXs hK hP hS (by decide) rfl rfl rfl rfl hl.1 (Nat.le_of_ble_eq_true rfl) prd_X_call_386 (fun H locs hP hS => ?_)
      refine lv_iload hx hb prd_X_call_389 (lv_at hl 2 rfl) ?_
      refine lv_iload_n hx hb prd_X_call_391 rfl (lv_at hl 1 rfl) ?_
      refine lv_iload hx hb prd_X_call_392 (lv_at hl 7 rfl) ?_
      obtain ⟨r47, hr47, hf⟩ := pr_bi hf
      refine pr_callVv (rest := []) (res := r47) ⟨hx, hb, hml, hown, hts⟩ 0 (Hrc0 σ r46 x4 x2 x10 r47 hr47) (prg_X_block4 hts prw_1041 (by have := hh; omega)) hX hXs hK hP hS (by decide) rfl rfl rfl rfl hl.1 (Nat.le_of_ble_eq_true rfl) prd_X_call_394 (fun H locs hP hS => ?_)
      refine lv_aload_n hx hb prd_X_call_397 rfl (lv_at hl 0 rfl) ?_
      refine lv_iload hx hb prd_X_call_398 (lv_at hl 4 rfl) ?_
      refine pr_puti (ty := .int) hx hb hts prs_X prq_X prtt_X prtn_X hown hK hP (hD _) hS 0 42 (by decide) rfl (hts _ prw_996) rfl rfl (prtt_X 42 (by decide)) rfl rfl prd_X_call_400 (fun H locs hP hS => ?_)
      refine lv_aload_n hx hb prd_X_call_403 rfl (lv_at hl 0 rfl) ?_
      refine lv_iload hx hb prd_X_call_404 (lv_at hl 5 rfl) ?_
      refine pr_puti (ty := .int) hx hb hts prs_X prq_X prtt_X prtn_X hown hK hP (hD _) hS 0 43 (by decide) rfl (hts _ prw_995) rfl rfl (prtt_X 43 (by decide)) rfl rfl prd_X_call_406 (fun H locs hP hS => ?_)
      refine lv_aload_n hx hb prd_X_call_409 rfl (lv_at hl 0 rfl) ?_
      refine lv_iload hx hb prd_X_call_410 (lv_at hl 6 rfl) ?_
      refine pr_puti (ty := .int) hx hb hts prs_X prq_X prtt_X prtn_X hown hK hP (hD _) hS 0 45 (by decide) rfl (hts _ prw_1038) rfl rfl (prtt_X 45 (by decide)) rfl rfl prd_X_call_412 (fun H locs hP hS => ?_)
      exact pr_retv E hP hS (pr_so hf) prd_X_call_415
    · have hf := pr_ie c45 hf
      refine lv_aload_n hx hb prd_X_call_343 rfl (lv_at hl 0 rfl) ?_
      refine lv_aload_n hx hb prd_X_call_344 rfl (lv_at hl 0 rfl) ?_
      refine pr_getr (t := 15) hx hb hts prs_X hown hK hP 0 21 (by decide) rfl (hts _ prw_838) rfl prd_X_call_345 ?_
      refine lv_iload hx hb prd_X_call_348 (lv_at hl 2 rfl) ?_
      refine lv_iconst (v := 2) hx hb prd_X_call_350 (by decide) ?_
      refine lv_iadd hx hb prd_X_call_351 ?_
      refine lv_iload hx hb prd_X_call_352 (lv_at hl 8 rfl) ?_
      refine lv_iadd hx hb prd_X_call_354 ?_
      obtain ⟨hi48, hf⟩ := pr_ck_in hf
      refine pr_iald (f := (σ.2.1 15)) hx hb hK hP 15 (by decide) rfl hi48 rfl prd_X_call_355 ?_
      refine lv_aload_n hx hb prd_X_call_356 rfl (lv_at hl 0 rfl) ?_
      refine pr_geti (v := (σ.1 0 45)) hx hb hts prs_X hown hK hP 0 45 (by decide) rfl (hts _ prw_1038) rfl rfl prd_X_call_357 ?_
      refine lv_iconst (v := 0) hx hb prd_X_call_360 (by decide) ?_
      refine lv_iload hx hb prd_X_call_361 (lv_at hl 7 rfl) ?_
      obtain ⟨r49, hr49, hf⟩ := pr_bi hf
      refine pr_callVv (rest := []) (res := r49) ⟨hx, hb, hml, hown, hts⟩ 0 (prc_X_give hD hX 0 (Nat.le_refl _) σ ((σ.2.1 15) ((x4 + 2) + x11).toNatClampNeg) (σ.1 0 45) 0 x10 r49 hr49) (prg_X_give hts prw_1042 (by have := hh; omega)) hX hXs hK hP hS (by decide) rfl rfl rfl rfl hl.1 (Nat.le_of_ble_eq_true rfl) prd_X_call_363 (fun H locs hP hS => ?_)
      refine lv_aload_n hx hb prd_X_call_366 rfl (lv_at hl 0 rfl) ?_
      refine lv_dup hx hb prd_X_call_367 rfl ?_
      refine pr_geti (v := (r49.1 0 45)) hx hb hts prs_X hown hK hP 0 45 (by decide) rfl (hts _ prw_1038) rfl rfl prd_X_call_368 ?_
      refine lv_iconst (v := 1) hx hb prd_X_call_371 (by decide) ?_
      refine lv_iadd hx hb prd_X_call_372 ?_
      refine pr_puti (ty := .int) hx hb hts prs_X prq_X prtt_X prtn_X hown hK hP (hD _) hS 0 45 (by decide) rfl (hts _ prw_1038) rfl rfl (prtt_X 45 (by decide)) rfl rfl prd_X_call_373 (fun H locs hP hS => ?_)
      refine lv_iinc (v := (x11 + 1)) (lv' := [(11, .int (x11 + 1)), (0, .ref (ad 0)), (2, .int x2), (4, .int x4), (5, .int x5), (7, .int x7), (8, .int x8), (9, .int x9), (10, .int x10)]) hx hb prd_X_call_376 hl (k := 8) rfl rfl (by decide) rfl (fun ls hl => ?_)
      refine lv_goto (tgt := 336) hx hb prd_X_call_379 (by decide) ?_
      exact ih (pr_sI r49 0 45 ((r49.1 0 45) + 1)) x2 x4 x5 x7 x8 x9 x10 (x11 + 1) _ hf _ _ _ hP hS (lv_sub hl [1, 2, 3, 4, 5, 6, 7, 8, 0] rfl)
set_option maxHeartbeats 4000000 in
set_option maxRecDepth 100000 in
theorem prk_X_call_242 {l : Launch} {D : va_G} {ad : Nat → Nat} {dA : Nat → ClassId} {A : Nat → Prop} {v : Nat → Nat} {r : Value} {p : Program} {e : Env} {s : State} {m : MethodId} {args : Array Value} {below : List Frame} {meth : Method} {c : Code} (hd : Nat) (hb0 : 3 ≤ hd) {h : Nat} (hh : hd + 1 ≤ h) (E : pr_cx prn_X prb_X_call 13 none D pr_cl prx_L ad dA A (prY ad v r A) p s m args meth c) {rc : pr_St → Int32 → Int32 → Int32 → Int32 → Option pr_St} (Hrc0 : ∀ (σ : pr_St) (x1 x2 x3 x4 : Int32) (res : pr_St), rc σ x1 x2 x3 x4 = some res → Met l pry_X_block4 (Cond.code pry_X_block4 prb_X_block4 9 none :: pr_U) (pr_rm hd) (pr_Pc (prY ad v r A) D pr_cl prx_L ad dA [.ref (ad 0), .int x1, .int x2, .int x3, .int x4] σ) (pr_Qv D pr_cl prx_L ad dA A res) 0 0 A) : ∀ n : Nat, ∀ (σ : pr_St) (x1 : Int32) (x2 : Int32) (x4 : Int32) (x5 : Int32) (x7 : Int32) (x8 : Int32) (x9 : Int32) (x10 : Int32) (x11 : Int32) (res : pr_St), some res = prf_X_call_242 rc n σ x1 x2 x4 x5 x7 x8 x9 x10 x11 → ∀ (H : Heap) (locs : List Loc) (ls : Array Slot), va_P D pr_cl (pr_w prx_L ad dA σ) H → va_S A s.heap H locs → lv_has ls 13 [(0, .ref (ad 0)), (1, .int x1), (2, .int x2), (4, .int x4), (5, .int x5), (7, .int x7), (8, .int x8), (9, .int x9), (10, .int x10), (11, .int x11)] → W p l e (pr_rm h) s m args below meth c H locs 0 0 (MQ below (pr_Qv D pr_cl prx_L ad dA A res) args s 0 0 A) (F0 m 242 ls []) := by
  obtain ⟨hx, hb, hml, hown, hts, hr, hlocks, hK, hD, hX, hXs⟩ := id E
  intro n
  induction n with
  | zero =>
    intro σ x1 x2 x4 x5 x7 x8 x9 x10 x11 res hf
    rw [prf_X_call_242] at hf
    cases hf
  | succ n ih =>
    intro σ x1 x2 x4 x5 x7 x8 x9 x10 x11 res hf H locs ls hP hS hl
    rw [prf_X_call_242] at hf
    refine lv_iload hx hb prd_X_call_242 (lv_at hl 9 rfl) ?_
    refine lv_iload hx hb prd_X_call_244 (lv_at hl 4 rfl) ?_
    refine lv_icmp_ge (tgt := 312) hx hb prd_X_call_246 (by decide) (fun c50 => ?_) (fun c50 => ?_)
    · have hf := pr_it c50 hf
      refine lv_aload_n hx hb prd_X_call_312 rfl (lv_at hl 0 rfl) ?_
      refine pr_geti (v := (σ.1 0 45)) hx hb hts prs_X hown hK hP 0 45 (by decide) rfl (hts _ prw_1038) rfl rfl prd_X_call_313 ?_
      refine lv_iload hx hb prd_X_call_316 (lv_at hl 4 rfl) ?_
      refine lv_iadd hx hb prd_X_call_318 ?_
      refine lv_bipush (v := 12) hx hb prd_X_call_319 (by decide) ?_
      refine lv_icmp_le (tgt := 333) hx hb prd_X_call_321 (by decide) (fun c51 => ?_) (fun c51 => ?_)
      · have hf := pr_it c51 hf
        refine lv_iconst (v := 0) hx hb prd_X_call_333 (by decide) ?_
        refine lv_istore (lv' := [(11, .int 0), (0, .ref (ad 0)), (1, .int x1), (2, .int x2), (4, .int x4), (5, .int x5), (7, .int x7), (8, .int x8), (9, .int x9), (10, .int x10)]) hx hb prd_X_call_334 hl (by decide) rfl (fun ls hl => ?_)
        exact prk_X_call_336 hd hb0 hh E Hrc0 pr_FU σ x2 x4 x5 x7 x8 x9 x10 0 _ hf _ _ _ hP hS (lv_sub hl [1, 3, 4, 5, 6, 7, 8, 9, 0] rfl)
      · have hf := pr_ie c51 hf
        refine lv_aload_n hx hb prd_X_call_324 rfl (lv_at hl 0 rfl) ?_
        refine lv_bipush (v := 10) hx hb prd_X_call_325 (by decide) ?_
        refine lv_iload_n hx hb prd_X_call_327 rfl (lv_at hl 1 rfl) ?_
        obtain ⟨r52, hr52, hf⟩ := pr_bi hf
        refine pr_callVi (rest := []) (res := r52) ⟨hx, hb, hml, hown, hts⟩ 0 (prc_X_wrong hD hX 0 (Nat.le_refl _) σ 10 x1 r52 hr52) (prg_X_wrong hts prw_999 (by have := hh; omega)) hX hXs hK hP hS (by decide) rfl rfl rfl rfl hl.1 (Nat.le_of_ble_eq_true rfl) prd_X_call_328 (fun H locs hP hS => ?_)
        refine lv_pop hx hb prd_X_call_331 rfl ?_
        exact pr_retv E hP hS (pr_so hf) prd_X_call_332
    · have hf := pr_ie c50 hf
      refine lv_iconst (v := 0) hx hb prd_X_call_249 (by decide) ?_
      refine lv_istore (lv' := [(12, .int 0), (0, .ref (ad 0)), (1, .int x1), (2, .int x2), (4, .int x4), (5, .int x5), (7, .int x7), (8, .int x8), (9, .int x9), (10, .int x10), (11, .int x11)]) hx hb prd_X_call_250 hl (by decide) rfl (fun ls hl => ?_)
      exact prk_X_call_252 hd hb0 hh E Hrc0 ih pr_FU σ x1 x2 x4 x5 x7 x8 x9 x10 x11 0 _ hf _ _ _ hP hS (lv_sub hl [1, 2, 3, 4, 5, 6, 7, 8, 9, 10, 0] rfl)
set_option maxHeartbeats 4000000 in
set_option maxRecDepth 100000 in
theorem prk_X_call_166 {l : Launch} {D : va_G} {ad : Nat → Nat} {dA : Nat → ClassId} {A : Nat → Prop} {v : Nat → Nat} {r : Value} {p : Program} {e : Env} {s : State} {m : MethodId} {args : Array Value} {below : List Frame} {meth : Method} {c : Code} (hd : Nat) (hb0 : 3 ≤ hd) {h : Nat} (hh : hd + 1 ≤ h) (E : pr_cx prn_X prb_X_call 13 none D pr_cl prx_L ad dA A (prY ad v r A) p s m args meth c) {rc : pr_St → Int32 → Int32 → Int32 → Int32 → Option pr_St} (Hrc0 : ∀ (σ : pr_St) (x1 x2 x3 x4 : Int32) (res : pr_St), rc σ x1 x2 x3 x4 = some res → Met l pry_X_block4 (Cond.code pry_X_block4 prb_X_block4 9 none :: pr_U) (pr_rm hd) (pr_Pc (prY ad v r A) D pr_cl prx_L ad dA [.ref (ad 0), .int x1, .int x2, .int x3, .int x4] σ) (pr_Qv D pr_cl prx_L ad dA A res) 0 0 A) : ∀ n : Nat, ∀ (σ : pr_St) (x1 : Int32) (x2 : Int32) (x4 : Int32) (x5 : Int32) (x7 : Int32) (res : pr_St), some res = prf_X_call_166 rc n σ x1 x2 x4 x5 x7 → ∀ (H : Heap) (locs : List Loc) (ls : Array Slot), va_P D pr_cl (pr_w prx_L ad dA σ) H → va_S A s.heap H locs → lv_has ls 13 [(0, .ref (ad 0)), (1, .int x1), (2, .int x2), (4, .int x4), (5, .int x5), (7, .int x7)] → W p l e (pr_rm h) s m args below meth c H locs 0 0 (MQ below (pr_Qv D pr_cl prx_L ad dA A res) args s 0 0 A) (F0 m 166 ls []) := by
  obtain ⟨hx, hb, hml, hown, hts, hr, hlocks, hK, hD, hX, hXs⟩ := id E
  intro n
  induction n with
  | zero =>
    intro σ x1 x2 x4 x5 x7 res hf
    rw [prf_X_call_166] at hf
    cases hf
  | succ n ih =>
    intro σ x1 x2 x4 x5 x7 res hf H locs ls hP hS hl
    rw [prf_X_call_166] at hf
    refine lv_iload hx hb prd_X_call_166 (lv_at hl 5 rfl) ?_
    refine lv_aload_n hx hb prd_X_call_168 rfl (lv_at hl 0 rfl) ?_
    refine lv_iload_n hx hb prd_X_call_169 rfl (lv_at hl 1 rfl) ?_
    obtain ⟨r53, hr53, hf⟩ := pr_bi hf
    refine pr_callVr (rest := [.int x7]) (r := r53) ⟨hx, hb, hml, hown, hts⟩ 0 (prc_X_behind hD hX 0 (Nat.le_refl _) σ x1 r53 hr53) (prg_X_behind hts prw_1003 (by have := hh; omega)) hX hXs hK hP hS (by decide) rfl rfl rfl rfl hl.1 (Nat.le_of_ble_eq_true rfl) prd_X_call_170 (fun H locs hP hS => ?_)
    refine lv_icmp_ge (tgt := 197) hx hb prd_X_call_173 (by decide) (fun c54 => ?_) (fun c54 => ?_)
    · have hf := pr_it c54 hf
      refine lv_aload_n hx hb prd_X_call_197 rfl (lv_at hl 0 rfl) ?_
      refine pr_geti (v := (σ.1 0 42)) hx hb hts prs_X hown hK hP 0 42 (by decide) rfl (hts _ prw_996) rfl rfl prd_X_call_198 ?_
      refine lv_istore (lv' := [(7, .int (σ.1 0 42)), (0, .ref (ad 0)), (1, .int x1), (2, .int x2), (4, .int x4), (5, .int x5)]) hx hb prd_X_call_201 hl (by decide) rfl (fun ls hl => ?_)
      refine lv_aload_n hx hb prd_X_call_203 rfl (lv_at hl 1 rfl) ?_
      refine pr_geti (v := (σ.1 0 43)) hx hb hts prs_X hown hK hP 0 43 (by decide) rfl (hts _ prw_995) rfl rfl prd_X_call_204 ?_
      refine lv_istore (lv' := [(8, .int (σ.1 0 43)), (7, .int (σ.1 0 42)), (0, .ref (ad 0)), (1, .int x1), (2, .int x2), (4, .int x4), (5, .int x5)]) hx hb prd_X_call_207 hl (by decide) rfl (fun ls hl => ?_)
      refine lv_aload_n hx hb prd_X_call_209 rfl (lv_at hl 2 rfl) ?_
      refine pr_geti (v := (σ.1 0 45)) hx hb hts prs_X hown hK hP 0 45 (by decide) rfl (hts _ prw_1038) rfl rfl prd_X_call_210 ?_
      refine lv_istore (lv' := [(9, .int (σ.1 0 45)), (8, .int (σ.1 0 43)), (7, .int (σ.1 0 42)), (0, .ref (ad 0)), (1, .int x1), (2, .int x2), (4, .int x4), (5, .int x5)]) hx hb prd_X_call_213 hl (by decide) rfl (fun ls hl => ?_)
      refine lv_aload_n hx hb prd_X_call_215 rfl (lv_at hl 3 rfl) ?_
      refine lv_aload_n hx hb prd_X_call_216 rfl (lv_at hl 3 rfl) ?_
      refine pr_geti (v := (σ.1 0 42)) hx hb hts prs_X hown hK hP 0 42 (by decide) rfl (hts _ prw_996) rfl rfl prd_X_call_217 ?_
      refine pr_puti (ty := .int) hx hb hts prs_X prq_X prtt_X prtn_X hown hK hP (hD _) hS 0 43 (by decide) rfl (hts _ prw_995) rfl rfl (prtt_X 43 (by decide)) rfl rfl prd_X_call_220 (fun H locs hP hS => ?_)
      refine lv_aload_n hx hb prd_X_call_223 rfl (lv_at hl 3 rfl) ?_
      refine lv_dup hx hb prd_X_call_224 rfl ?_
      refine pr_geti (v := (σ.1 0 44)) hx hb hts prs_X hown hK hP 0 44 (by decide) rfl (hts _ prw_1039) rfl rfl prd_X_call_225 ?_
      refine lv_iconst (v := 1) hx hb prd_X_call_228 (by decide) ?_
      refine lv_iadd hx hb prd_X_call_229 ?_
      refine pr_puti (ty := .int) hx hb hts prs_X prq_X prtt_X prtn_X hown hK hP (hD _) hS 0 44 (by decide) rfl (hts _ prw_1039) rfl rfl (prtt_X 44 (by decide)) rfl rfl prd_X_call_230 (fun H locs hP hS => ?_)
      refine lv_aload_n hx hb prd_X_call_233 rfl (lv_at hl 3 rfl) ?_
      refine pr_geti (v := ((σ.1 0 44) + 1)) hx hb hts prs_X hown hK hP 0 44 (by decide) rfl (hts _ prw_1039) rfl rfl prd_X_call_234 ?_
      refine lv_istore (lv' := [(10, .int ((σ.1 0 44) + 1)), (9, .int (σ.1 0 45)), (8, .int (σ.1 0 43)), (7, .int (σ.1 0 42)), (0, .ref (ad 0)), (1, .int x1), (2, .int x2), (4, .int x4), (5, .int x5)]) hx hb prd_X_call_237 hl (by decide) rfl (fun ls hl => ?_)
      refine lv_iconst (v := 0) hx hb prd_X_call_239 (by decide) ?_
      refine lv_istore (lv' := [(11, .int 0), (10, .int ((σ.1 0 44) + 1)), (9, .int (σ.1 0 45)), (8, .int (σ.1 0 43)), (7, .int (σ.1 0 42)), (0, .ref (ad 0)), (1, .int x1), (2, .int x2), (4, .int x4), (5, .int x5)]) hx hb prd_X_call_240 hl (by decide) rfl (fun ls hl => ?_)
      exact prk_X_call_242 hd hb0 hh E Hrc0 pr_FU (pr_sI (pr_sI σ 0 43 (σ.1 0 42)) 0 44 ((σ.1 0 44) + 1)) x1 x2 x4 x5 (σ.1 0 42) (σ.1 0 43) (σ.1 0 45) ((σ.1 0 44) + 1) 0 _ hf _ _ _ hP hS (lv_sub hl [5, 6, 7, 8, 9, 4, 3, 2, 1, 0] rfl)
    · have hf := pr_ie c54 hf
      refine lv_aload_n hx hb prd_X_call_176 rfl (lv_at hl 0 rfl) ?_
      refine lv_iload hx hb prd_X_call_177 (lv_at hl 5 rfl) ?_
      obtain ⟨r55, hr55, hf⟩ := pr_bi hf
      refine pr_callVi (rest := []) (res := r55) ⟨hx, hb, hml, hown, hts⟩ 0 (prc_X_lookAll hD hX 2 (Nat.le_refl _) σ x7 r55 hr55) (prg_X_lookAll hts prw_1040 (by have := hh; omega)) hX hXs hK hP hS (by decide) rfl rfl rfl rfl hl.1 (Nat.le_of_ble_eq_true rfl) prd_X_call_179 (fun H locs hP hS => ?_)
      refine lv_if_ne (tgt := 186) hx hb prd_X_call_182 (by decide) (fun c56 => ?_) (fun c56 => ?_)
      · have hf := pr_ie c56 hf
        refine lv_aload_n hx hb prd_X_call_186 rfl (lv_at hl 0 rfl) ?_
        refine lv_iload hx hb prd_X_call_187 (lv_at hl 5 rfl) ?_
        obtain ⟨r57, hr57, hf⟩ := pr_bi hf
        refine pr_callVr (rest := []) (r := r57) ⟨hx, hb, hml, hown, hts⟩ 0 (prc_X_behind hD hX 0 (Nat.le_refl _) r55.2 x7 r57 hr57) (prg_X_behind hts prw_1003 (by have := hh; omega)) hX hXs hK hP hS (by decide) rfl rfl rfl rfl hl.1 (Nat.le_of_ble_eq_true rfl) prd_X_call_189 (fun H locs hP hS => ?_)
        refine lv_istore (lv' := [(7, .int r57), (0, .ref (ad 0)), (1, .int x1), (2, .int x2), (4, .int x4), (5, .int x5)]) hx hb prd_X_call_192 hl (by decide) rfl (fun ls hl => ?_)
        refine lv_goto (tgt := 166) hx hb prd_X_call_194 (by decide) ?_
        exact ih r55.2 x1 x2 x4 x5 r57 _ hf _ _ _ hP hS (lv_sub hl [1, 2, 3, 4, 5, 0] rfl)
      · have hf := pr_it c56 hf
        exact pr_retv E hP hS (pr_so hf) prd_X_call_185
set_option maxHeartbeats 4000000 in
set_option maxRecDepth 100000 in
theorem prk_X_call_91 {l : Launch} {D : va_G} {ad : Nat → Nat} {dA : Nat → ClassId} {A : Nat → Prop} {v : Nat → Nat} {r : Value} {p : Program} {e : Env} {s : State} {m : MethodId} {args : Array Value} {below : List Frame} {meth : Method} {c : Code} (hd : Nat) (hb0 : 3 ≤ hd) {h : Nat} (hh : hd + 1 ≤ h) (E : pr_cx prn_X prb_X_call 13 none D pr_cl prx_L ad dA A (prY ad v r A) p s m args meth c) {rc : pr_St → Int32 → Int32 → Int32 → Int32 → Option pr_St} (Hrc0 : ∀ (σ : pr_St) (x1 x2 x3 x4 : Int32) (res : pr_St), rc σ x1 x2 x3 x4 = some res → Met l pry_X_block4 (Cond.code pry_X_block4 prb_X_block4 9 none :: pr_U) (pr_rm hd) (pr_Pc (prY ad v r A) D pr_cl prx_L ad dA [.ref (ad 0), .int x1, .int x2, .int x3, .int x4] σ) (pr_Qv D pr_cl prx_L ad dA A res) 0 0 A) : ∀ n : Nat, ∀ (σ : pr_St) (x1 : Int32) (x2 : Int32) (x3 : Int32) (x4 : Int32) (x5 : Int32) (x6 : Int32) (x7 : Int32) (res : pr_St), some res = prf_X_call_91 rc n σ x1 x2 x3 x4 x5 x6 x7 → ∀ (H : Heap) (locs : List Loc) (ls : Array Slot), va_P D pr_cl (pr_w prx_L ad dA σ) H → va_S A s.heap H locs → lv_has ls 13 [(0, .ref (ad 0)), (1, .int x1), (2, .int x2), (3, .int x3), (4, .int x4), (5, .int x5), (6, .int x6), (7, .int x7)] → W p l e (pr_rm h) s m args below meth c H locs 0 0 (MQ below (pr_Qv D pr_cl prx_L ad dA A res) args s 0 0 A) (F0 m 91 ls []) := by
  obtain ⟨hx, hb, hml, hown, hts, hr, hlocks, hK, hD, hX, hXs⟩ := id E
  intro n
  induction n with
  | zero =>
    intro σ x1 x2 x3 x4 x5 x6 x7 res hf
    rw [prf_X_call_91] at hf
    cases hf
  | succ n ih =>
    intro σ x1 x2 x3 x4 x5 x6 x7 res hf H locs ls hP hS hl
    rw [prf_X_call_91] at hf
    refine lv_iload hx hb prd_X_call_91 (lv_at hl 7 rfl) ?_
    refine lv_aload_n hx hb prd_X_call_93 rfl (lv_at hl 0 rfl) ?_
    refine lv_iload_n hx hb prd_X_call_94 rfl (lv_at hl 1 rfl) ?_
    obtain ⟨r58, hr58, hf⟩ := pr_bi hf
    refine pr_callVr (rest := [.int x7]) (r := r58) ⟨hx, hb, hml, hown, hts⟩ 0 (prc_X_behind hD hX 0 (Nat.le_refl _) σ x1 r58 hr58) (prg_X_behind hts prw_1003 (by have := hh; omega)) hX hXs hK hP hS (by decide) rfl rfl rfl rfl hl.1 (Nat.le_of_ble_eq_true rfl) prd_X_call_95 (fun H locs hP hS => ?_)
    refine lv_icmp_ge (tgt := 115) hx hb prd_X_call_98 (by decide) (fun c59 => ?_) (fun c59 => ?_)
    · have hf := pr_it c59 hf
      refine lv_iload hx hb prd_X_call_115 (lv_at hl 6 rfl) ?_
      refine lv_iload hx hb prd_X_call_117 (lv_at hl 5 rfl) ?_
      refine lv_icmp_eq (tgt := 130) hx hb prd_X_call_119 (by decide) (fun c60 => ?_) (fun c60 => ?_)
      · have hf := pr_it c60 hf
        refine lv_aload_n hx hb prd_X_call_130 rfl (lv_at hl 0 rfl) ?_
        refine pr_getr (t := 13) hx hb hts prs_X hown hK hP 0 19 (by decide) rfl (hts _ prw_835) rfl prd_X_call_131 ?_
        refine lv_iload_n hx hb prd_X_call_134 rfl (lv_at hl 1 rfl) ?_
        refine lv_iconst (v := 1) hx hb prd_X_call_135 (by decide) ?_
        refine lv_iadd hx hb prd_X_call_136 ?_
        obtain ⟨hi61, hf⟩ := pr_ck_in hf
        refine pr_iald (f := (σ.2.1 13)) hx hb hK hP 13 (by decide) rfl hi61 rfl prd_X_call_137 ?_
        refine lv_bipush (v := 13) hx hb prd_X_call_138 (by decide) ?_
        refine lv_icmp_ne (tgt := 161) hx hb prd_X_call_140 (by decide) (fun c62 => ?_) (fun c62 => ?_)
        · have hf := pr_ie c62 hf
          refine lv_iload_n hx hb prd_X_call_161 rfl (lv_at hl 3 rfl) ?_
          refine lv_iconst (v := 1) hx hb prd_X_call_162 (by decide) ?_
          refine lv_iadd hx hb prd_X_call_163 ?_
          refine lv_istore (lv' := [(7, .int (x3 + 1)), (0, .ref (ad 0)), (1, .int x1), (2, .int x2), (3, .int x3), (4, .int x4), (5, .int x5), (6, .int x6)]) hx hb prd_X_call_164 hl (by decide) rfl (fun ls hl => ?_)
          exact prk_X_call_166 hd hb0 hh E Hrc0 pr_FU σ x1 x2 x4 x5 (x3 + 1) _ hf _ _ _ hP hS (lv_sub hl [1, 2, 3, 5, 6, 0] rfl)
        · have hf := pr_it c62 hf
          refine lv_aload_n hx hb prd_X_call_143 rfl (lv_at hl 0 rfl) ?_
          refine lv_iload hx hb prd_X_call_144 (lv_at hl 4 rfl) ?_
          obtain ⟨r63, hr63, hf⟩ := pr_bi hf
          refine pr_callVr (rest := []) (r := r63) ⟨hx, hb, hml, hown, hts⟩ 0 (prc_X_returns hD hX 2 (Nat.le_refl _) σ x4 r63 hr63) (prg_X_returns hts prw_1037 (by have := hh; omega)) hX hXs hK hP hS (by decide) rfl rfl rfl rfl hl.1 (Nat.le_of_ble_eq_true rfl) prd_X_call_146 (fun H locs hP hS => ?_)
          refine lv_if_ne (tgt := 161) hx hb prd_X_call_149 (by decide) (fun c64 => ?_) (fun c64 => ?_)
          · have hf := pr_ie c64 hf
            refine lv_iload_n hx hb prd_X_call_161 rfl (lv_at hl 3 rfl) ?_
            refine lv_iconst (v := 1) hx hb prd_X_call_162 (by decide) ?_
            refine lv_iadd hx hb prd_X_call_163 ?_
            refine lv_istore (lv' := [(7, .int (x3 + 1)), (0, .ref (ad 0)), (1, .int x1), (2, .int x2), (3, .int x3), (4, .int x4), (5, .int x5), (6, .int x6)]) hx hb prd_X_call_164 hl (by decide) rfl (fun ls hl => ?_)
            exact prk_X_call_166 hd hb0 hh E Hrc0 pr_FU σ x1 x2 x4 x5 (x3 + 1) _ hf _ _ _ hP hS (lv_sub hl [1, 2, 3, 5, 6, 0] rfl)
          · have hf := pr_it c64 hf
            refine lv_aload_n hx hb prd_X_call_152 rfl (lv_at hl 0 rfl) ?_
            refine lv_bipush (v := 6) hx hb prd_X_call_153 (by decide) ?_
            refine lv_iload_n hx hb prd_X_call_155 rfl (lv_at hl 3 rfl) ?_
            obtain ⟨r65, hr65, hf⟩ := pr_bi hf
            refine pr_callVi (rest := []) (res := r65) ⟨hx, hb, hml, hown, hts⟩ 0 (prc_X_wrong hD hX 0 (Nat.le_refl _) σ 6 x3 r65 hr65) (prg_X_wrong hts prw_999 (by have := hh; omega)) hX hXs hK hP hS (by decide) rfl rfl rfl rfl hl.1 (Nat.le_of_ble_eq_true rfl) prd_X_call_156 (fun H locs hP hS => ?_)
            refine lv_pop hx hb prd_X_call_159 rfl ?_
            exact pr_retv E hP hS (pr_so hf) prd_X_call_160
      · have hf := pr_ie c60 hf
        refine lv_aload_n hx hb prd_X_call_122 rfl (lv_at hl 0 rfl) ?_
        refine lv_iconst (v := 5) hx hb prd_X_call_123 (by decide) ?_
        refine lv_iload_n hx hb prd_X_call_124 rfl (lv_at hl 3 rfl) ?_
        obtain ⟨r66, hr66, hf⟩ := pr_bi hf
        refine pr_callVi (rest := []) (res := r66) ⟨hx, hb, hml, hown, hts⟩ 0 (prc_X_wrong hD hX 0 (Nat.le_refl _) σ 5 x3 r66 hr66) (prg_X_wrong hts prw_999 (by have := hh; omega)) hX hXs hK hP hS (by decide) rfl rfl rfl rfl hl.1 (Nat.le_of_ble_eq_true rfl) prd_X_call_125 (fun H locs hP hS => ?_)
        refine lv_pop hx hb prd_X_call_128 rfl ?_
        exact pr_retv E hP hS (pr_so hf) prd_X_call_129
    · have hf := pr_ie c59 hf
      refine lv_iinc (v := (x6 + 1)) (lv' := [(6, .int (x6 + 1)), (0, .ref (ad 0)), (1, .int x1), (2, .int x2), (3, .int x3), (4, .int x4), (5, .int x5), (7, .int x7)]) hx hb prd_X_call_101 hl (k := 6) rfl rfl (by decide) rfl (fun ls hl => ?_)
      refine lv_aload_n hx hb prd_X_call_104 rfl (lv_at hl 1 rfl) ?_
      refine lv_iload hx hb prd_X_call_105 (lv_at hl 7 rfl) ?_
      obtain ⟨r67, hr67, hf⟩ := pr_bi hf
      refine pr_callVr (rest := []) (r := r67) ⟨hx, hb, hml, hown, hts⟩ 0 (prc_X_behind hD hX 0 (Nat.le_refl _) σ x7 r67 hr67) (prg_X_behind hts prw_1003 (by have := hh; omega)) hX hXs hK hP hS (by decide) rfl rfl rfl rfl hl.1 (Nat.le_of_ble_eq_true rfl) prd_X_call_107 (fun H locs hP hS => ?_)
      refine lv_istore (lv' := [(7, .int r67), (6, .int (x6 + 1)), (0, .ref (ad 0)), (1, .int x1), (2, .int x2), (3, .int x3), (4, .int x4), (5, .int x5)]) hx hb prd_X_call_110 hl (by decide) rfl (fun ls hl => ?_)
      refine lv_goto (tgt := 91) hx hb prd_X_call_112 (by decide) ?_
      exact ih σ x1 x2 x3 x4 x5 (x6 + 1) r67 _ hf _ _ _ hP hS (lv_sub hl [2, 3, 4, 5, 6, 7, 1, 0] rfl)
set_option maxHeartbeats 4000000 in
set_option maxRecDepth 100000 in
theorem prk_X_call_48 {l : Launch} {D : va_G} {ad : Nat → Nat} {dA : Nat → ClassId} {A : Nat → Prop} {v : Nat → Nat} {r : Value} {p : Program} {e : Env} {s : State} {m : MethodId} {args : Array Value} {below : List Frame} {meth : Method} {c : Code} (hd : Nat) (hb0 : 3 ≤ hd) {h : Nat} (hh : hd + 1 ≤ h) (E : pr_cx prn_X prb_X_call 13 none D pr_cl prx_L ad dA A (prY ad v r A) p s m args meth c) {rc : pr_St → Int32 → Int32 → Int32 → Int32 → Option pr_St} (Hrc0 : ∀ (σ : pr_St) (x1 x2 x3 x4 : Int32) (res : pr_St), rc σ x1 x2 x3 x4 = some res → Met l pry_X_block4 (Cond.code pry_X_block4 prb_X_block4 9 none :: pr_U) (pr_rm hd) (pr_Pc (prY ad v r A) D pr_cl prx_L ad dA [.ref (ad 0), .int x1, .int x2, .int x3, .int x4] σ) (pr_Qv D pr_cl prx_L ad dA A res) 0 0 A) : ∀ (σ : pr_St) (x1 : Int32) (x2 : Int32) (x3 : Int32) (x4 : Int32) (res : pr_St), some res = prf_X_call_48 rc σ x1 x2 x3 x4 → ∀ (H : Heap) (locs : List Loc) (ls : Array Slot), va_P D pr_cl (pr_w prx_L ad dA σ) H → va_S A s.heap H locs → lv_has ls 13 [(0, .ref (ad 0)), (1, .int x1), (2, .int x2), (3, .int x3), (4, .int x4)] → W p l e (pr_rm h) s m args below meth c H locs 0 0 (MQ below (pr_Qv D pr_cl prx_L ad dA A res) args s 0 0 A) (F0 m 48 ls []) := by
  obtain ⟨hx, hb, hml, hown, hts, hr, hlocks, hK, hD, hX, hXs⟩ := id E
  intro σ x1 x2 x3 x4 res hf H locs ls hP hS hl
  unfold prf_X_call_48 at hf
  refine lv_aload_n hx hb prd_X_call_48 rfl (lv_at hl 0 rfl) ?_
  refine pr_geti (v := (σ.1 0 47)) hx hb hts prs_X hown hK hP 0 47 (by decide) rfl (hts _ prw_987) rfl rfl prd_X_call_49 ?_
  refine lv_if_le (tgt := 56) hx hb prd_X_call_52 (by decide) (fun c68 => ?_) (fun c68 => ?_)
  · have hf := pr_it c68 hf
    refine lv_iload hx hb prd_X_call_56 (lv_at hl 4 rfl) ?_
    refine lv_iconst (v := (-1)) hx hb prd_X_call_58 (by decide) ?_
    refine lv_icmp_ne (tgt := 70) hx hb prd_X_call_59 (by decide) (fun c69 => ?_) (fun c69 => ?_)
    · have hf := pr_ie c69 hf
      refine lv_aload_n hx hb prd_X_call_70 rfl (lv_at hl 0 rfl) ?_
      refine lv_iload hx hb prd_X_call_71 (lv_at hl 4 rfl) ?_
      obtain ⟨r70, hr70, hf⟩ := pr_bi hf
      refine pr_callVr (rest := []) (r := r70) ⟨hx, hb, hml, hown, hts⟩ 0 (prc_X_blockOf hD hX 0 (Nat.le_refl _) σ x4 r70 hr70) (prg_X_blockOf hts prw_1032 (by have := hh; omega)) hX hXs hK hP hS (by decide) rfl rfl rfl rfl hl.1 (Nat.le_of_ble_eq_true rfl) prd_X_call_73 (fun H locs hP hS => ?_)
      refine lv_iload hx hb prd_X_call_76 (lv_at hl 4 rfl) ?_
      refine lv_isub hx hb prd_X_call_78 ?_
      refine lv_iconst (v := 2) hx hb prd_X_call_79 (by decide) ?_
      refine lv_isub hx hb prd_X_call_80 ?_
      refine lv_istore (lv' := [(5, .int ((r70 - x4) - 2)), (0, .ref (ad 0)), (1, .int x1), (2, .int x2), (3, .int x3), (4, .int x4)]) hx hb prd_X_call_81 hl (by decide) rfl (fun ls hl => ?_)
      refine lv_iconst (v := 0) hx hb prd_X_call_83 (by decide) ?_
      refine lv_istore (lv' := [(6, .int 0), (5, .int ((r70 - x4) - 2)), (0, .ref (ad 0)), (1, .int x1), (2, .int x2), (3, .int x3), (4, .int x4)]) hx hb prd_X_call_84 hl (by decide) rfl (fun ls hl => ?_)
      refine lv_iload_n hx hb prd_X_call_86 rfl (lv_at hl 5 rfl) ?_
      refine lv_iconst (v := 1) hx hb prd_X_call_87 (by decide) ?_
      refine lv_iadd hx hb prd_X_call_88 ?_
      refine lv_istore (lv' := [(7, .int (x3 + 1)), (6, .int 0), (5, .int ((r70 - x4) - 2)), (0, .ref (ad 0)), (1, .int x1), (2, .int x2), (3, .int x3), (4, .int x4)]) hx hb prd_X_call_89 hl (by decide) rfl (fun ls hl => ?_)
      exact prk_X_call_91 hd hb0 hh E Hrc0 pr_FU σ x1 x2 x3 x4 ((r70 - x4) - 2) 0 (x3 + 1) _ hf _ _ _ hP hS (lv_sub hl [3, 4, 5, 6, 7, 2, 1, 0] rfl)
    · have hf := pr_it c69 hf
      refine lv_aload_n hx hb prd_X_call_62 rfl (lv_at hl 0 rfl) ?_
      refine lv_iconst (v := 4) hx hb prd_X_call_63 (by decide) ?_
      refine lv_iload_n hx hb prd_X_call_64 rfl (lv_at hl 3 rfl) ?_
      obtain ⟨r71, hr71, hf⟩ := pr_bi hf
      refine pr_callVi (rest := []) (res := r71) ⟨hx, hb, hml, hown, hts⟩ 0 (prc_X_wrong hD hX 0 (Nat.le_refl _) σ 4 x3 r71 hr71) (prg_X_wrong hts prw_999 (by have := hh; omega)) hX hXs hK hP hS (by decide) rfl rfl rfl rfl hl.1 (Nat.le_of_ble_eq_true rfl) prd_X_call_65 (fun H locs hP hS => ?_)
      refine lv_pop hx hb prd_X_call_68 rfl ?_
      exact pr_retv E hP hS (pr_so hf) prd_X_call_69
  · have hf := pr_ie c68 hf
    exact pr_retv E hP hS (pr_so hf) prd_X_call_55
set_option maxHeartbeats 4000000 in
set_option maxRecDepth 100000 in
theorem prk_X_call_31 {l : Launch} {D : va_G} {ad : Nat → Nat} {dA : Nat → ClassId} {A : Nat → Prop} {v : Nat → Nat} {r : Value} {p : Program} {e : Env} {s : State} {m : MethodId} {args : Array Value} {below : List Frame} {meth : Method} {c : Code} (hd : Nat) (hb0 : 3 ≤ hd) {h : Nat} (hh : hd + 1 ≤ h) (E : pr_cx prn_X prb_X_call 13 none D pr_cl prx_L ad dA A (prY ad v r A) p s m args meth c) {rc : pr_St → Int32 → Int32 → Int32 → Int32 → Option pr_St} (Hrc0 : ∀ (σ : pr_St) (x1 x2 x3 x4 : Int32) (res : pr_St), rc σ x1 x2 x3 x4 = some res → Met l pry_X_block4 (Cond.code pry_X_block4 prb_X_block4 9 none :: pr_U) (pr_rm hd) (pr_Pc (prY ad v r A) D pr_cl prx_L ad dA [.ref (ad 0), .int x1, .int x2, .int x3, .int x4] σ) (pr_Qv D pr_cl prx_L ad dA A res) 0 0 A) : ∀ (σ : pr_St) (x1 : Int32) (x2 : Int32) (x3 : Int32) (res : pr_St), some res = prf_X_call_31 rc σ x1 x2 x3 → ∀ (H : Heap) (locs : List Loc) (ls : Array Slot), va_P D pr_cl (pr_w prx_L ad dA σ) H → va_S A s.heap H locs → lv_has ls 13 [(0, .ref (ad 0)), (1, .int x1), (2, .int x2), (3, .int x3)] → W p l e (pr_rm h) s m args below meth c H locs 0 0 (MQ below (pr_Qv D pr_cl prx_L ad dA A res) args s 0 0 A) (F0 m 31 ls []) := by
  obtain ⟨hx, hb, hml, hown, hts, hr, hlocks, hK, hD, hX, hXs⟩ := id E
  intro σ x1 x2 x3 res hf H locs ls hP hS hl
  unfold prf_X_call_31 at hf
  refine lv_aload_n hx hb prd_X_call_31 rfl (lv_at hl 0 rfl) ?_
  refine lv_aload_n hx hb prd_X_call_32 rfl (lv_at hl 0 rfl) ?_
  refine pr_getr (t := 15) hx hb hts prs_X hown hK hP 0 21 (by decide) rfl (hts _ prw_838) rfl prd_X_call_33 ?_
  refine lv_iload_n hx hb prd_X_call_36 rfl (lv_at hl 3 rfl) ?_
  obtain ⟨hi72, hf⟩ := pr_ck_in hf
  refine pr_iald (f := (σ.2.1 15)) hx hb hK hP 15 (by decide) rfl hi72 rfl prd_X_call_37 ?_
  refine lv_aload_n hx hb prd_X_call_38 rfl (lv_at hl 0 rfl) ?_
  refine lv_iload_n hx hb prd_X_call_39 rfl (lv_at hl 1 rfl) ?_
  obtain ⟨r73, hr73, hf⟩ := pr_bi hf
  refine pr_callVr (rest := [.int ((σ.2.1 15) x3.toNatClampNeg), .ref (ad 0)]) (r := r73) ⟨hx, hb, hml, hown, hts⟩ 0 (prc_X_whichFunction hD hX 0 (Nat.le_refl _) σ x1 r73 hr73) (prg_X_whichFunction hts prw_1043 (by have := hh; omega)) hX hXs hK hP hS (by decide) rfl rfl rfl rfl hl.1 (Nat.le_of_ble_eq_true rfl) prd_X_call_40 (fun H locs hP hS => ?_)
  obtain ⟨r74, hr74, hf⟩ := pr_bi hf
  refine pr_callVr (rest := []) (r := r74) ⟨hx, hb, hml, hown, hts⟩ 0 (prc_X_functionOf hD hX 1 (Nat.le_refl _) σ ((σ.2.1 15) x3.toNatClampNeg) r73 r74 hr74) (prg_X_functionOf hts prw_1044 (by have := hh; omega)) hX hXs hK hP hS (by decide) rfl rfl rfl rfl hl.1 (Nat.le_of_ble_eq_true rfl) prd_X_call_43 (fun H locs hP hS => ?_)
  refine lv_istore (lv' := [(4, .int r74), (0, .ref (ad 0)), (1, .int x1), (2, .int x2), (3, .int x3)]) hx hb prd_X_call_46 hl (by decide) rfl (fun ls hl => ?_)
  exact prk_X_call_48 hd hb0 hh E Hrc0 σ x1 x2 x3 r74 _ hf _ _ _ hP hS (lv_sub hl [1, 2, 3, 4, 0] rfl)
set_option maxHeartbeats 4000000 in
set_option maxRecDepth 100000 in
theorem prc_X_call {l : Launch} {D : va_G} {ad : Nat → Nat} {dA : Nat → ClassId} {A : Nat → Prop} {v : Nat → Nat} {r : Value} (hD : ∀ σ : pr_St, va_D A (pr_w prx_L ad dA σ)) (hX : pr_Xok A (prY ad v r A)) (hd : Nat) (hb0 : 3 ≤ hd) (h : Nat) (hh : hd + 1 ≤ h) {rc : pr_St → Int32 → Int32 → Int32 → Int32 → Option pr_St} (Hrc0 : ∀ (σ : pr_St) (x1 x2 x3 x4 : Int32) (res : pr_St), rc σ x1 x2 x3 x4 = some res → Met l pry_X_block4 (Cond.code pry_X_block4 prb_X_block4 9 none :: pr_U) (pr_rm hd) (pr_Pc (prY ad v r A) D pr_cl prx_L ad dA [.ref (ad 0), .int x1, .int x2, .int x3, .int x4] σ) (pr_Qv D pr_cl prx_L ad dA A res) 0 0 A) (σ : pr_St) (x1 : Int32) (x2 : Int32) (res : pr_St) (hf : prf_X_call rc σ x1 x2 = some res) : Met l pry_X_call (Cond.code pry_X_call prb_X_call 13 none :: pr_U) (pr_rm h) (pr_Pc (prY ad v r A) D pr_cl prx_L ad dA [.ref (ad 0), .int x1, .int x2] σ) (pr_Qv D pr_cl prx_L ad dA A res) 0 0 A := by
  refine pr_entry (cc := prb_X_call) (maxL := 13) (ret := none) (by decide) (Nat.le_of_ble_eq_true rfl) hD hX ?_
  intro p e s m args below meth c E H locs hP hS ls hl
  have hl : lv_has ls 13 [(0, .ref (ad 0)), (1, .int x1), (2, .int x2)] := hl
  have hf := hf.symm
  unfold prf_X_call at hf
  obtain ⟨hx, hb, hml, hown, hts, hr, hlocks, hK, hD, hX, hXs⟩ := id E
  refine lv_iload_n hx hb prd_X_call_0 rfl (lv_at hl 1 rfl) ?_
  refine lv_iconst (v := 2) hx hb prd_X_call_1 (by decide) ?_
  refine lv_iadd hx hb prd_X_call_2 ?_
  refine lv_istore_n (lv' := [(3, .int (x1 + 2)), (0, .ref (ad 0)), (1, .int x1), (2, .int x2)]) hx hb prd_X_call_3 rfl hl (by decide) rfl (fun ls hl => ?_)
  refine lv_iconst (v := (-1)) hx hb prd_X_call_4 (by decide) ?_
  refine lv_istore (lv' := [(4, .int (-1)), (3, .int (x1 + 2)), (0, .ref (ad 0)), (1, .int x1), (2, .int x2)]) hx hb prd_X_call_5 hl (by decide) rfl (fun ls hl => ?_)
  refine lv_aload_n hx hb prd_X_call_7 rfl (lv_at hl 2 rfl) ?_
  refine pr_getr (t := 13) hx hb hts prs_X hown hK hP 0 19 (by decide) rfl (hts _ prw_835) rfl prd_X_call_8 ?_
  refine lv_iload_n hx hb prd_X_call_11 rfl (lv_at hl 3 rfl) ?_
  refine lv_iconst (v := 1) hx hb prd_X_call_12 (by decide) ?_
  refine lv_iadd hx hb prd_X_call_13 ?_
  obtain ⟨hi75, hf⟩ := pr_ck_in hf
  refine pr_iald (f := (σ.2.1 13)) hx hb hK hP 13 (by decide) rfl hi75 rfl prd_X_call_14 ?_
  refine lv_bipush (v := 33) hx hb prd_X_call_15 (by decide) ?_
  refine lv_icmp_eq (tgt := 31) hx hb prd_X_call_17 (by decide) (fun c76 => ?_) (fun c76 => ?_)
  · have hf := pr_it c76 hf
    exact prk_X_call_31 hd hb0 hh E Hrc0 σ x1 x2 (x1 + 2) _ hf _ _ _ hP hS (lv_sub hl [2, 3, 4, 1] rfl)
  · have hf := pr_ie c76 hf
    refine lv_aload_n hx hb prd_X_call_20 rfl (lv_at hl 2 rfl) ?_
    refine lv_iload_n hx hb prd_X_call_21 rfl (lv_at hl 3 rfl) ?_
    refine lv_iconst (v := 1) hx hb prd_X_call_22 (by decide) ?_
    refine lv_iadd hx hb prd_X_call_23 ?_
    refine lv_iconst (v := 0) hx hb prd_X_call_24 (by decide) ?_
    obtain ⟨r77, hr77, hf⟩ := pr_bi hf
    refine pr_callVi (rest := []) (res := r77) ⟨hx, hb, hml, hown, hts⟩ 0 (prc_X_lookName hD hX 1 (Nat.le_refl _) σ (x1 + 1) 0 r77 hr77) (prg_X_lookName hts prw_1015 (by have := hh; omega)) hX hXs hK hP hS (by decide) rfl rfl rfl rfl hl.1 (Nat.le_of_ble_eq_true rfl) prd_X_call_25 (fun H locs hP hS => ?_)
    refine lv_if_eq (tgt := 48) hx hb prd_X_call_28 (by decide) (fun c78 => ?_) (fun c78 => ?_)
    · have hf := pr_it c78 hf
      exact prk_X_call_48 hd hb0 hh E Hrc0 r77.2 x1 x2 (x1 + 2) (-1) _ hf _ _ _ hP hS (lv_sub hl [2, 3, 4, 1, 0] rfl)
    · have hf := pr_ie c78 hf
      exact prk_X_call_31 hd hb0 hh E Hrc0 r77.2 x1 x2 (x1 + 2) _ hf _ _ _ hP hS (lv_sub hl [2, 3, 4, 1] rfl)
-- X_statement5
set_option maxHeartbeats 4000000 in
set_option maxRecDepth 100000 in
theorem prk_X_statement5_293 {l : Launch} {D : va_G} {ad : Nat → Nat} {dA : Nat → ClassId} {A : Nat → Prop} {v : Nat → Nat} {r : Value} {p : Program} {e : Env} {s : State} {m : MethodId} {args : Array Value} {below : List Frame} {meth : Method} {c : Code} (hd : Nat) (hb0 : 3 ≤ hd) {h : Nat} (hh : hd + 2 ≤ h) (E : pr_cx prn_X prb_X_statement5 10 none D pr_cl prx_L ad dA A (prY ad v r A) p s m args meth c) {rc : pr_St → Int32 → Int32 → Int32 → Int32 → Option pr_St} (Hrc0 : ∀ (σ : pr_St) (x1 x2 x3 x4 : Int32) (res : pr_St), rc σ x1 x2 x3 x4 = some res → Met l pry_X_block4 (Cond.code pry_X_block4 prb_X_block4 9 none :: pr_U) (pr_rm hd) (pr_Pc (prY ad v r A) D pr_cl prx_L ad dA [.ref (ad 0), .int x1, .int x2, .int x3, .int x4] σ) (pr_Qv D pr_cl prx_L ad dA A res) 0 0 A) : ∀ (σ : pr_St) (x1 : Int32) (x5 : Int32) (x6 : Int32) (res : pr_St), some res = prf_X_statement5_293 rc σ x1 x5 x6 → ∀ (H : Heap) (locs : List Loc) (ls : Array Slot), va_P D pr_cl (pr_w prx_L ad dA σ) H → va_S A s.heap H locs → lv_has ls 10 [(0, .ref (ad 0)), (1, .int x1), (5, .int x5), (6, .int x6)] → W p l e (pr_rm h) s m args below meth c H locs 0 0 (MQ below (pr_Qv D pr_cl prx_L ad dA A res) args s 0 0 A) (F0 m 293 ls []) := by
  obtain ⟨hx, hb, hml, hown, hts, hr, hlocks, hK, hD, hX, hXs⟩ := id E
  intro σ x1 x5 x6 res hf H locs ls hP hS hl
  unfold prf_X_statement5_293 at hf
  refine lv_aload_n hx hb prd_X_statement5_293 rfl (lv_at hl 0 rfl) ?_
  refine lv_aload_n hx hb prd_X_statement5_294 rfl (lv_at hl 0 rfl) ?_
  refine pr_getr (t := 15) hx hb hts prs_X hown hK hP 0 21 (by decide) rfl (hts _ prw_838) rfl prd_X_statement5_295 ?_
  refine lv_iload_n hx hb prd_X_statement5_298 rfl (lv_at hl 1 rfl) ?_
  refine lv_iconst (v := 1) hx hb prd_X_statement5_299 (by decide) ?_
  refine lv_iadd hx hb prd_X_statement5_300 ?_
  obtain ⟨hi137, hf⟩ := pr_ck_in hf
  refine pr_iald (f := (σ.2.1 15)) hx hb hK hP 15 (by decide) rfl hi137 rfl prd_X_statement5_301 ?_
  refine lv_aload_n hx hb prd_X_statement5_302 rfl (lv_at hl 0 rfl) ?_
  refine pr_geti (v := (σ.1 0 45)) hx hb hts prs_X hown hK hP 0 45 (by decide) rfl (hts _ prw_1038) rfl rfl prd_X_statement5_303 ?_
  refine lv_iconst (v := 0) hx hb prd_X_statement5_306 (by decide) ?_
  refine lv_iload hx hb prd_X_statement5_307 (lv_at hl 2 rfl) ?_
  obtain ⟨r138, hr138, hf⟩ := pr_bi hf
  refine pr_callVv (rest := []) (res := r138) ⟨hx, hb, hml, hown, hts⟩ 0 (prc_X_give hD hX 0 (Nat.le_refl _) σ ((σ.2.1 15) (x1 + 1).toNatClampNeg) (σ.1 0 45) 0 x5 r138 hr138) (prg_X_give hts prw_1042 (by have := hh; omega)) hX hXs hK hP hS (by decide) rfl rfl rfl rfl hl.1 (Nat.le_of_ble_eq_true rfl) prd_X_statement5_309 (fun H locs hP hS => ?_)
  refine lv_aload_n hx hb prd_X_statement5_312 rfl (lv_at hl 0 rfl) ?_
  refine lv_dup hx hb prd_X_statement5_313 rfl ?_
  refine pr_geti (v := (r138.1 0 45)) hx hb hts prs_X hown hK hP 0 45 (by decide) rfl (hts _ prw_1038) rfl rfl prd_X_statement5_314 ?_
  refine lv_iconst (v := 1) hx hb prd_X_statement5_317 (by decide) ?_
  refine lv_iadd hx hb prd_X_statement5_318 ?_
  refine pr_puti (ty := .int) hx hb hts prs_X prq_X prtt_X prtn_X hown hK hP (hD _) hS 0 45 (by decide) rfl (hts _ prw_1038) rfl rfl (prtt_X 45 (by decide)) rfl rfl prd_X_statement5_319 (fun H locs hP hS => ?_)
  refine lv_goto (tgt := 677) hx hb prd_X_statement5_322 (by decide) ?_
  refine lv_aload_n hx hb prd_X_statement5_677 rfl (lv_at hl 0 rfl) ?_
  refine pr_getr (t := 22) hx hb hts prs_X hown hK hP 0 30 (by decide) rfl (hts _ prw_825) rfl prd_X_statement5_678 ?_
  refine lv_iload hx hb prd_X_statement5_681 (lv_at hl 3 rfl) ?_
  refine lv_aload_n hx hb prd_X_statement5_683 rfl (lv_at hl 0 rfl) ?_
  refine pr_geti (v := (r138.1 0 33)) hx hb hts prs_X hown hK hP 0 33 (by decide) rfl (hts _ prw_822) rfl rfl prd_X_statement5_684 ?_
  obtain ⟨hi139, hf⟩ := pr_ck_in hf
  refine pr_iast (f := (r138.2.1 22)) hx hb hK hP (hD _) hS 22 (by decide) rfl hi139 rfl prd_X_statement5_687 (fun H locs hP hS => ?_)
  exact pr_retv E hP hS (pr_so hf) prd_X_statement5_688
set_option maxHeartbeats 4000000 in
set_option maxRecDepth 100000 in
theorem prk_X_statement5_274 {l : Launch} {D : va_G} {ad : Nat → Nat} {dA : Nat → ClassId} {A : Nat → Prop} {v : Nat → Nat} {r : Value} {p : Program} {e : Env} {s : State} {m : MethodId} {args : Array Value} {below : List Frame} {meth : Method} {c : Code} (hd : Nat) (hb0 : 3 ≤ hd) {h : Nat} (hh : hd + 2 ≤ h) (E : pr_cx prn_X prb_X_statement5 10 none D pr_cl prx_L ad dA A (prY ad v r A) p s m args meth c) {rc : pr_St → Int32 → Int32 → Int32 → Int32 → Option pr_St} (Hrc0 : ∀ (σ : pr_St) (x1 x2 x3 x4 : Int32) (res : pr_St), rc σ x1 x2 x3 x4 = some res → Met l pry_X_block4 (Cond.code pry_X_block4 prb_X_block4 9 none :: pr_U) (pr_rm hd) (pr_Pc (prY ad v r A) D pr_cl prx_L ad dA [.ref (ad 0), .int x1, .int x2, .int x3, .int x4] σ) (pr_Qv D pr_cl prx_L ad dA A res) 0 0 A) : ∀ (σ : pr_St) (x1 : Int32) (x5 : Int32) (x6 : Int32) (res : pr_St), some res = prf_X_statement5_274 rc σ x1 x5 x6 → ∀ (H : Heap) (locs : List Loc) (ls : Array Slot), va_P D pr_cl (pr_w prx_L ad dA σ) H → va_S A s.heap H locs → lv_has ls 10 [(0, .ref (ad 0)), (1, .int x1), (5, .int x5), (6, .int x6)] → W p l e (pr_rm h) s m args below meth c H locs 0 0 (MQ below (pr_Qv D pr_cl prx_L ad dA A res) args s 0 0 A) (F0 m 274 ls []) := by
  obtain ⟨hx, hb, hml, hown, hts, hr, hlocks, hK, hD, hX, hXs⟩ := id E
  intro σ x1 x5 x6 res hf H locs ls hP hS hl
  unfold prf_X_statement5_274 at hf
  refine lv_aload_n hx hb prd_X_statement5_274 rfl (lv_at hl 0 rfl) ?_
  refine pr_geti (v := (σ.1 0 45)) hx hb hts prs_X hown hK hP 0 45 (by decide) rfl (hts _ prw_1038) rfl rfl prd_X_statement5_275 ?_
  refine lv_bipush (v := 12) hx hb prd_X_statement5_278 (by decide) ?_
  refine lv_icmp_lt (tgt := 293) hx hb prd_X_statement5_280 (by decide) (fun c140 => ?_) (fun c140 => ?_)
  · have hf := pr_it c140 hf
    exact prk_X_statement5_293 hd hb0 hh E Hrc0 σ x1 x5 x6 _ hf _ _ _ hP hS (lv_sub hl [0, 1, 2, 3] rfl)
  · have hf := pr_ie c140 hf
    refine lv_aload_n hx hb prd_X_statement5_283 rfl (lv_at hl 0 rfl) ?_
    refine lv_bipush (v := 10) hx hb prd_X_statement5_284 (by decide) ?_
    refine lv_iload_n hx hb prd_X_statement5_286 rfl (lv_at hl 1 rfl) ?_
    obtain ⟨r141, hr141, hf⟩ := pr_bi hf
    refine pr_callVi (rest := []) (res := r141) ⟨hx, hb, hml, hown, hts⟩ 0 (prc_X_wrong hD hX 0 (Nat.le_refl _) σ 10 x1 r141 hr141) (prg_X_wrong hts prw_999 (by have := hh; omega)) hX hXs hK hP hS (by decide) rfl rfl rfl rfl hl.1 (Nat.le_of_ble_eq_true rfl) prd_X_statement5_287 (fun H locs hP hS => ?_)
    refine lv_if_eq (tgt := 677) hx hb prd_X_statement5_290 (by decide) (fun c142 => ?_) (fun c142 => ?_)
    · have hf := pr_it c142 hf
      refine lv_aload_n hx hb prd_X_statement5_677 rfl (lv_at hl 0 rfl) ?_
      refine pr_getr (t := 22) hx hb hts prs_X hown hK hP 0 30 (by decide) rfl (hts _ prw_825) rfl prd_X_statement5_678 ?_
      refine lv_iload hx hb prd_X_statement5_681 (lv_at hl 3 rfl) ?_
      refine lv_aload_n hx hb prd_X_statement5_683 rfl (lv_at hl 0 rfl) ?_
      refine pr_geti (v := (r141.2.1 0 33)) hx hb hts prs_X hown hK hP 0 33 (by decide) rfl (hts _ prw_822) rfl rfl prd_X_statement5_684 ?_
      obtain ⟨hi143, hf⟩ := pr_ck_in hf
      refine pr_iast (f := (r141.2.2.1 22)) hx hb hK hP (hD _) hS 22 (by decide) rfl hi143 rfl prd_X_statement5_687 (fun H locs hP hS => ?_)
      exact pr_retv E hP hS (pr_so hf) prd_X_statement5_688
    · have hf := pr_ie c142 hf
      exact prk_X_statement5_293 hd hb0 hh E Hrc0 r141.2 x1 x5 x6 _ hf _ _ _ hP hS (lv_sub hl [0, 1, 2, 3] rfl)
set_option maxHeartbeats 4000000 in
set_option maxRecDepth 100000 in
theorem prk_X_statement5_391 {l : Launch} {D : va_G} {ad : Nat → Nat} {dA : Nat → ClassId} {A : Nat → Prop} {v : Nat → Nat} {r : Value} {p : Program} {e : Env} {s : State} {m : MethodId} {args : Array Value} {below : List Frame} {meth : Method} {c : Code} (hd : Nat) (hb0 : 3 ≤ hd) {h : Nat} (hh : hd + 2 ≤ h) (E : pr_cx prn_X prb_X_statement5 10 none D pr_cl prx_L ad dA A (prY ad v r A) p s m args meth c) {rc : pr_St → Int32 → Int32 → Int32 → Int32 → Option pr_St} (Hrc0 : ∀ (σ : pr_St) (x1 x2 x3 x4 : Int32) (res : pr_St), rc σ x1 x2 x3 x4 = some res → Met l pry_X_block4 (Cond.code pry_X_block4 prb_X_block4 9 none :: pr_U) (pr_rm hd) (pr_Pc (prY ad v r A) D pr_cl prx_L ad dA [.ref (ad 0), .int x1, .int x2, .int x3, .int x4] σ) (pr_Qv D pr_cl prx_L ad dA A res) 0 0 A) : ∀ (σ : pr_St) (x1 : Int32) (x5 : Int32) (x6 : Int32) (x7 : Int32) (res : pr_St), some res = prf_X_statement5_391 rc σ x1 x5 x6 x7 → ∀ (H : Heap) (locs : List Loc) (ls : Array Slot), va_P D pr_cl (pr_w prx_L ad dA σ) H → va_S A s.heap H locs → lv_has ls 10 [(0, .ref (ad 0)), (1, .int x1), (5, .int x5), (6, .int x6), (7, .int x7)] → W p l e (pr_rm h) s m args below meth c H locs 0 0 (MQ below (pr_Qv D pr_cl prx_L ad dA A res) args s 0 0 A) (F0 m 391 ls []) := by
  obtain ⟨hx, hb, hml, hown, hts, hr, hlocks, hK, hD, hX, hXs⟩ := id E
  intro σ x1 x5 x6 x7 res hf H locs ls hP hS hl
  unfold prf_X_statement5_391 at hf
  refine lv_aload_n hx hb prd_X_statement5_391 rfl (lv_at hl 0 rfl) ?_
  refine lv_aload_n hx hb prd_X_statement5_392 rfl (lv_at hl 0 rfl) ?_
  refine pr_getr (t := 15) hx hb hts prs_X hown hK hP 0 21 (by decide) rfl (hts _ prw_838) rfl prd_X_statement5_393 ?_
  refine lv_iload_n hx hb prd_X_statement5_396 rfl (lv_at hl 1 rfl) ?_
  refine lv_iconst (v := 1) hx hb prd_X_statement5_397 (by decide) ?_
  refine lv_iadd hx hb prd_X_statement5_398 ?_
  obtain ⟨hi144, hf⟩ := pr_ck_in hf
  refine pr_iald (f := (σ.2.1 15)) hx hb hK hP 15 (by decide) rfl hi144 rfl prd_X_statement5_399 ?_
  refine lv_aload_n hx hb prd_X_statement5_400 rfl (lv_at hl 0 rfl) ?_
  refine pr_geti (v := (σ.1 0 46)) hx hb hts prs_X hown hK hP 0 46 (by decide) rfl (hts _ prw_1048) rfl rfl prd_X_statement5_401 ?_
  refine lv_iload hx hb prd_X_statement5_404 (lv_at hl 4 rfl) ?_
  refine lv_iload hx hb prd_X_statement5_406 (lv_at hl 2 rfl) ?_
  obtain ⟨r145, hr145, hf⟩ := pr_bi hf
  refine pr_callVv (rest := []) (res := r145) ⟨hx, hb, hml, hown, hts⟩ 0 (prc_X_give hD hX 0 (Nat.le_refl _) σ ((σ.2.1 15) (x1 + 1).toNatClampNeg) (σ.1 0 46) x7 x5 r145 hr145) (prg_X_give hts prw_1042 (by have := hh; omega)) hX hXs hK hP hS (by decide) rfl rfl rfl rfl hl.1 (Nat.le_of_ble_eq_true rfl) prd_X_statement5_408 (fun H locs hP hS => ?_)
  refine lv_aload_n hx hb prd_X_statement5_411 rfl (lv_at hl 0 rfl) ?_
  refine lv_dup hx hb prd_X_statement5_412 rfl ?_
  refine pr_geti (v := (r145.1 0 46)) hx hb hts prs_X hown hK hP 0 46 (by decide) rfl (hts _ prw_1048) rfl rfl prd_X_statement5_413 ?_
  refine lv_iconst (v := 1) hx hb prd_X_statement5_416 (by decide) ?_
  refine lv_iadd hx hb prd_X_statement5_417 ?_
  refine pr_puti (ty := .int) hx hb hts prs_X prq_X prtt_X prtn_X hown hK hP (hD _) hS 0 46 (by decide) rfl (hts _ prw_1048) rfl rfl (prtt_X 46 (by decide)) rfl rfl prd_X_statement5_418 (fun H locs hP hS => ?_)
  refine lv_goto (tgt := 677) hx hb prd_X_statement5_421 (by decide) ?_
  refine lv_aload_n hx hb prd_X_statement5_677 rfl (lv_at hl 0 rfl) ?_
  refine pr_getr (t := 22) hx hb hts prs_X hown hK hP 0 30 (by decide) rfl (hts _ prw_825) rfl prd_X_statement5_678 ?_
  refine lv_iload hx hb prd_X_statement5_681 (lv_at hl 3 rfl) ?_
  refine lv_aload_n hx hb prd_X_statement5_683 rfl (lv_at hl 0 rfl) ?_
  refine pr_geti (v := (r145.1 0 33)) hx hb hts prs_X hown hK hP 0 33 (by decide) rfl (hts _ prw_822) rfl rfl prd_X_statement5_684 ?_
  obtain ⟨hi146, hf⟩ := pr_ck_in hf
  refine pr_iast (f := (r145.2.1 22)) hx hb hK hP (hD _) hS 22 (by decide) rfl hi146 rfl prd_X_statement5_687 (fun H locs hP hS => ?_)
  exact pr_retv E hP hS (pr_so hf) prd_X_statement5_688
set_option maxHeartbeats 4000000 in
set_option maxRecDepth 100000 in
theorem prk_X_statement5_372 {l : Launch} {D : va_G} {ad : Nat → Nat} {dA : Nat → ClassId} {A : Nat → Prop} {v : Nat → Nat} {r : Value} {p : Program} {e : Env} {s : State} {m : MethodId} {args : Array Value} {below : List Frame} {meth : Method} {c : Code} (hd : Nat) (hb0 : 3 ≤ hd) {h : Nat} (hh : hd + 2 ≤ h) (E : pr_cx prn_X prb_X_statement5 10 none D pr_cl prx_L ad dA A (prY ad v r A) p s m args meth c) {rc : pr_St → Int32 → Int32 → Int32 → Int32 → Option pr_St} (Hrc0 : ∀ (σ : pr_St) (x1 x2 x3 x4 : Int32) (res : pr_St), rc σ x1 x2 x3 x4 = some res → Met l pry_X_block4 (Cond.code pry_X_block4 prb_X_block4 9 none :: pr_U) (pr_rm hd) (pr_Pc (prY ad v r A) D pr_cl prx_L ad dA [.ref (ad 0), .int x1, .int x2, .int x3, .int x4] σ) (pr_Qv D pr_cl prx_L ad dA A res) 0 0 A) : ∀ (σ : pr_St) (x1 : Int32) (x5 : Int32) (x6 : Int32) (x7 : Int32) (res : pr_St), some res = prf_X_statement5_372 rc σ x1 x5 x6 x7 → ∀ (H : Heap) (locs : List Loc) (ls : Array Slot), va_P D pr_cl (pr_w prx_L ad dA σ) H → va_S A s.heap H locs → lv_has ls 10 [(0, .ref (ad 0)), (1, .int x1), (5, .int x5), (6, .int x6), (7, .int x7)] → W p l e (pr_rm h) s m args below meth c H locs 0 0 (MQ below (pr_Qv D pr_cl prx_L ad dA A res) args s 0 0 A) (F0 m 372 ls []) := by
  obtain ⟨hx, hb, hml, hown, hts, hr, hlocks, hK, hD, hX, hXs⟩ := id E
  intro σ x1 x5 x6 x7 res hf H locs ls hP hS hl
  unfold prf_X_statement5_372 at hf
  refine lv_aload_n hx hb prd_X_statement5_372 rfl (lv_at hl 0 rfl) ?_
  refine pr_geti (v := (σ.1 0 46)) hx hb hts prs_X hown hK hP 0 46 (by decide) rfl (hts _ prw_1048) rfl rfl prd_X_statement5_373 ?_
  refine lv_bipush (v := 6) hx hb prd_X_statement5_376 (by decide) ?_
  refine lv_icmp_lt (tgt := 391) hx hb prd_X_statement5_378 (by decide) (fun c147 => ?_) (fun c147 => ?_)
  · have hf := pr_it c147 hf
    exact prk_X_statement5_391 hd hb0 hh E Hrc0 σ x1 x5 x6 x7 _ hf _ _ _ hP hS (lv_sub hl [0, 1, 2, 3, 4] rfl)
  · have hf := pr_ie c147 hf
    refine lv_aload_n hx hb prd_X_statement5_381 rfl (lv_at hl 0 rfl) ?_
    refine lv_bipush (v := 13) hx hb prd_X_statement5_382 (by decide) ?_
    refine lv_iload_n hx hb prd_X_statement5_384 rfl (lv_at hl 1 rfl) ?_
    obtain ⟨r148, hr148, hf⟩ := pr_bi hf
    refine pr_callVi (rest := []) (res := r148) ⟨hx, hb, hml, hown, hts⟩ 0 (prc_X_wrong hD hX 0 (Nat.le_refl _) σ 13 x1 r148 hr148) (prg_X_wrong hts prw_999 (by have := hh; omega)) hX hXs hK hP hS (by decide) rfl rfl rfl rfl hl.1 (Nat.le_of_ble_eq_true rfl) prd_X_statement5_385 (fun H locs hP hS => ?_)
    refine lv_if_eq (tgt := 677) hx hb prd_X_statement5_388 (by decide) (fun c149 => ?_) (fun c149 => ?_)
    · have hf := pr_it c149 hf
      refine lv_aload_n hx hb prd_X_statement5_677 rfl (lv_at hl 0 rfl) ?_
      refine pr_getr (t := 22) hx hb hts prs_X hown hK hP 0 30 (by decide) rfl (hts _ prw_825) rfl prd_X_statement5_678 ?_
      refine lv_iload hx hb prd_X_statement5_681 (lv_at hl 3 rfl) ?_
      refine lv_aload_n hx hb prd_X_statement5_683 rfl (lv_at hl 0 rfl) ?_
      refine pr_geti (v := (r148.2.1 0 33)) hx hb hts prs_X hown hK hP 0 33 (by decide) rfl (hts _ prw_822) rfl rfl prd_X_statement5_684 ?_
      obtain ⟨hi150, hf⟩ := pr_ck_in hf
      refine pr_iast (f := (r148.2.2.1 22)) hx hb hK hP (hD _) hS 22 (by decide) rfl hi150 rfl prd_X_statement5_687 (fun H locs hP hS => ?_)
      exact pr_retv E hP hS (pr_so hf) prd_X_statement5_688
    · have hf := pr_ie c149 hf
      exact prk_X_statement5_391 hd hb0 hh E Hrc0 r148.2 x1 x5 x6 x7 _ hf _ _ _ hP hS (lv_sub hl [0, 1, 2, 3, 4] rfl)
set_option maxHeartbeats 4000000 in
set_option maxRecDepth 100000 in
theorem prk_X_statement5_360 {l : Launch} {D : va_G} {ad : Nat → Nat} {dA : Nat → ClassId} {A : Nat → Prop} {v : Nat → Nat} {r : Value} {p : Program} {e : Env} {s : State} {m : MethodId} {args : Array Value} {below : List Frame} {meth : Method} {c : Code} (hd : Nat) (hb0 : 3 ≤ hd) {h : Nat} (hh : hd + 2 ≤ h) (E : pr_cx prn_X prb_X_statement5 10 none D pr_cl prx_L ad dA A (prY ad v r A) p s m args meth c) {rc : pr_St → Int32 → Int32 → Int32 → Int32 → Option pr_St} (Hrc0 : ∀ (σ : pr_St) (x1 x2 x3 x4 : Int32) (res : pr_St), rc σ x1 x2 x3 x4 = some res → Met l pry_X_block4 (Cond.code pry_X_block4 prb_X_block4 9 none :: pr_U) (pr_rm hd) (pr_Pc (prY ad v r A) D pr_cl prx_L ad dA [.ref (ad 0), .int x1, .int x2, .int x3, .int x4] σ) (pr_Qv D pr_cl prx_L ad dA A res) 0 0 A) : ∀ (σ : pr_St) (x1 : Int32) (x5 : Int32) (x6 : Int32) (x7 : Int32) (res : pr_St), some res = prf_X_statement5_360 rc σ x1 x5 x6 x7 → ∀ (H : Heap) (locs : List Loc) (ls : Array Slot), va_P D pr_cl (pr_w prx_L ad dA σ) H → va_S A s.heap H locs → lv_has ls 10 [(0, .ref (ad 0)), (1, .int x1), (5, .int x5), (6, .int x6), (7, .int x7)] → W p l e (pr_rm h) s m args below meth c H locs 0 0 (MQ below (pr_Qv D pr_cl prx_L ad dA A res) args s 0 0 A) (F0 m 360 ls []) := by
  obtain ⟨hx, hb, hml, hown, hts, hr, hlocks, hK, hD, hX, hXs⟩ := id E
  intro σ x1 x5 x6 x7 res hf H locs ls hP hS hl
  unfold prf_X_statement5_360 at hf
  refine lv_aload_n hx hb prd_X_statement5_360 rfl (lv_at hl 0 rfl) ?_
  refine lv_bipush (v := 9) hx hb prd_X_statement5_361 (by decide) ?_
  refine lv_iload_n hx hb prd_X_statement5_363 rfl (lv_at hl 1 rfl) ?_
  refine lv_iconst (v := 2) hx hb prd_X_statement5_364 (by decide) ?_
  refine lv_iadd hx hb prd_X_statement5_365 ?_
  obtain ⟨r151, hr151, hf⟩ := pr_bi hf
  refine pr_callVi (rest := []) (res := r151) ⟨hx, hb, hml, hown, hts⟩ 0 (prc_X_wrong hD hX 0 (Nat.le_refl _) σ 9 (x1 + 2) r151 hr151) (prg_X_wrong hts prw_999 (by have := hh; omega)) hX hXs hK hP hS (by decide) rfl rfl rfl rfl hl.1 (Nat.le_of_ble_eq_true rfl) prd_X_statement5_366 (fun H locs hP hS => ?_)
  refine lv_if_eq (tgt := 677) hx hb prd_X_statement5_369 (by decide) (fun c152 => ?_) (fun c152 => ?_)
  · have hf := pr_it c152 hf
    refine lv_aload_n hx hb prd_X_statement5_677 rfl (lv_at hl 0 rfl) ?_
    refine pr_getr (t := 22) hx hb hts prs_X hown hK hP 0 30 (by decide) rfl (hts _ prw_825) rfl prd_X_statement5_678 ?_
    refine lv_iload hx hb prd_X_statement5_681 (lv_at hl 3 rfl) ?_
    refine lv_aload_n hx hb prd_X_statement5_683 rfl (lv_at hl 0 rfl) ?_
    refine pr_geti (v := (r151.2.1 0 33)) hx hb hts prs_X hown hK hP 0 33 (by decide) rfl (hts _ prw_822) rfl rfl prd_X_statement5_684 ?_
    obtain ⟨hi153, hf⟩ := pr_ck_in hf
    refine pr_iast (f := (r151.2.2.1 22)) hx hb hK hP (hD _) hS 22 (by decide) rfl hi153 rfl prd_X_statement5_687 (fun H locs hP hS => ?_)
    exact pr_retv E hP hS (pr_so hf) prd_X_statement5_688
  · have hf := pr_ie c152 hf
    exact prk_X_statement5_372 hd hb0 hh E Hrc0 r151.2 x1 x5 x6 x7 _ hf _ _ _ hP hS (lv_sub hl [0, 1, 2, 3, 4] rfl)
set_option maxHeartbeats 4000000 in
set_option maxRecDepth 100000 in
theorem prk_X_statement5_654 {l : Launch} {D : va_G} {ad : Nat → Nat} {dA : Nat → ClassId} {A : Nat → Prop} {v : Nat → Nat} {r : Value} {p : Program} {e : Env} {s : State} {m : MethodId} {args : Array Value} {below : List Frame} {meth : Method} {c : Code} (hd : Nat) (hb0 : 3 ≤ hd) {h : Nat} (hh : hd + 2 ≤ h) (E : pr_cx prn_X prb_X_statement5 10 none D pr_cl prx_L ad dA A (prY ad v r A) p s m args meth c) {rc : pr_St → Int32 → Int32 → Int32 → Int32 → Option pr_St} (Hrc0 : ∀ (σ : pr_St) (x1 x2 x3 x4 : Int32) (res : pr_St), rc σ x1 x2 x3 x4 = some res → Met l pry_X_block4 (Cond.code pry_X_block4 prb_X_block4 9 none :: pr_U) (pr_rm hd) (pr_Pc (prY ad v r A) D pr_cl prx_L ad dA [.ref (ad 0), .int x1, .int x2, .int x3, .int x4] σ) (pr_Qv D pr_cl prx_L ad dA A res) 0 0 A) : ∀ (σ : pr_St) (x1 : Int32) (x6 : Int32) (x9 : Int32) (res : pr_St), some res = prf_X_statement5_654 rc σ x1 x6 x9 → ∀ (H : Heap) (locs : List Loc) (ls : Array Slot), va_P D pr_cl (pr_w prx_L ad dA σ) H → va_S A s.heap H locs → lv_has ls 10 [(0, .ref (ad 0)), (1, .int x1), (6, .int x6), (9, .int x9)] → W p l e (pr_rm h) s m args below meth c H locs 0 0 (MQ below (pr_Qv D pr_cl prx_L ad dA A res) args s 0 0 A) (F0 m 654 ls []) := by
  obtain ⟨hx, hb, hml, hown, hts, hr, hlocks, hK, hD, hX, hXs⟩ := id E
  intro σ x1 x6 x9 res hf H locs ls hP hS hl
  unfold prf_X_statement5_654 at hf
  refine lv_iload hx hb prd_X_statement5_654 (lv_at hl 3 rfl) ?_
  refine lv_if_eq (tgt := 669) hx hb prd_X_statement5_656 (by decide) (fun c154 => ?_) (fun c154 => ?_)
  · have hf := pr_it c154 hf
    refine lv_aload_n hx hb prd_X_statement5_669 rfl (lv_at hl 0 rfl) ?_
    refine lv_iload_n hx hb prd_X_statement5_670 rfl (lv_at hl 1 rfl) ?_
    refine lv_iconst (v := 1) hx hb prd_X_statement5_671 (by decide) ?_
    refine lv_iadd hx hb prd_X_statement5_672 ?_
    obtain ⟨r155, hr155, hf⟩ := pr_bi hf
    refine pr_callVi (rest := []) (res := r155) ⟨hx, hb, hml, hown, hts⟩ 0 (prc_X_lookAll hD hX 2 (Nat.le_refl _) σ (x1 + 1) r155 hr155) (prg_X_lookAll hts prw_1040 (by have := hh; omega)) hX hXs hK hP hS (by decide) rfl rfl rfl rfl hl.1 (Nat.le_of_ble_eq_true rfl) prd_X_statement5_673 (fun H locs hP hS => ?_)
    refine lv_pop hx hb prd_X_statement5_676 rfl ?_
    refine lv_aload_n hx hb prd_X_statement5_677 rfl (lv_at hl 0 rfl) ?_
    refine pr_getr (t := 22) hx hb hts prs_X hown hK hP 0 30 (by decide) rfl (hts _ prw_825) rfl prd_X_statement5_678 ?_
    refine lv_iload hx hb prd_X_statement5_681 (lv_at hl 2 rfl) ?_
    refine lv_aload_n hx hb prd_X_statement5_683 rfl (lv_at hl 0 rfl) ?_
    refine pr_geti (v := (r155.2.1 0 33)) hx hb hts prs_X hown hK hP 0 33 (by decide) rfl (hts _ prw_822) rfl rfl prd_X_statement5_684 ?_
    obtain ⟨hi156, hf⟩ := pr_ck_in hf
    refine pr_iast (f := (r155.2.2.1 22)) hx hb hK hP (hD _) hS 22 (by decide) rfl hi156 rfl prd_X_statement5_687 (fun H locs hP hS => ?_)
    exact pr_retv E hP hS (pr_so hf) prd_X_statement5_688
  · have hf := pr_ie c154 hf
    refine lv_aload_n hx hb prd_X_statement5_659 rfl (lv_at hl 0 rfl) ?_
    refine lv_bipush (v := 7) hx hb prd_X_statement5_660 (by decide) ?_
    refine lv_iload_n hx hb prd_X_statement5_662 rfl (lv_at hl 1 rfl) ?_
    obtain ⟨r157, hr157, hf⟩ := pr_bi hf
    refine pr_callVi (rest := []) (res := r157) ⟨hx, hb, hml, hown, hts⟩ 0 (prc_X_wrong hD hX 0 (Nat.le_refl _) σ 7 x1 r157 hr157) (prg_X_wrong hts prw_999 (by have := hh; omega)) hX hXs hK hP hS (by decide) rfl rfl rfl rfl hl.1 (Nat.le_of_ble_eq_true rfl) prd_X_statement5_663 (fun H locs hP hS => ?_)
    refine lv_if_eq (tgt := 677) hx hb prd_X_statement5_666 (by decide) (fun c158 => ?_) (fun c158 => ?_)
    · have hf := pr_it c158 hf
      refine lv_aload_n hx hb prd_X_statement5_677 rfl (lv_at hl 0 rfl) ?_
      refine pr_getr (t := 22) hx hb hts prs_X hown hK hP 0 30 (by decide) rfl (hts _ prw_825) rfl prd_X_statement5_678 ?_
      refine lv_iload hx hb prd_X_statement5_681 (lv_at hl 2 rfl) ?_
      refine lv_aload_n hx hb prd_X_statement5_683 rfl (lv_at hl 0 rfl) ?_
      refine pr_geti (v := (r157.2.1 0 33)) hx hb hts prs_X hown hK hP 0 33 (by decide) rfl (hts _ prw_822) rfl rfl prd_X_statement5_684 ?_
      obtain ⟨hi159, hf⟩ := pr_ck_in hf
      refine pr_iast (f := (r157.2.2.1 22)) hx hb hK hP (hD _) hS 22 (by decide) rfl hi159 rfl prd_X_statement5_687 (fun H locs hP hS => ?_)
      exact pr_retv E hP hS (pr_so hf) prd_X_statement5_688
    · have hf := pr_ie c158 hf
      refine lv_aload_n hx hb prd_X_statement5_669 rfl (lv_at hl 0 rfl) ?_
      refine lv_iload_n hx hb prd_X_statement5_670 rfl (lv_at hl 1 rfl) ?_
      refine lv_iconst (v := 1) hx hb prd_X_statement5_671 (by decide) ?_
      refine lv_iadd hx hb prd_X_statement5_672 ?_
      obtain ⟨r160, hr160, hf⟩ := pr_bi hf
      refine pr_callVi (rest := []) (res := r160) ⟨hx, hb, hml, hown, hts⟩ 0 (prc_X_lookAll hD hX 2 (Nat.le_refl _) r157.2 (x1 + 1) r160 hr160) (prg_X_lookAll hts prw_1040 (by have := hh; omega)) hX hXs hK hP hS (by decide) rfl rfl rfl rfl hl.1 (Nat.le_of_ble_eq_true rfl) prd_X_statement5_673 (fun H locs hP hS => ?_)
      refine lv_pop hx hb prd_X_statement5_676 rfl ?_
      refine lv_aload_n hx hb prd_X_statement5_677 rfl (lv_at hl 0 rfl) ?_
      refine pr_getr (t := 22) hx hb hts prs_X hown hK hP 0 30 (by decide) rfl (hts _ prw_825) rfl prd_X_statement5_678 ?_
      refine lv_iload hx hb prd_X_statement5_681 (lv_at hl 2 rfl) ?_
      refine lv_aload_n hx hb prd_X_statement5_683 rfl (lv_at hl 0 rfl) ?_
      refine pr_geti (v := (r160.2.1 0 33)) hx hb hts prs_X hown hK hP 0 33 (by decide) rfl (hts _ prw_822) rfl rfl prd_X_statement5_684 ?_
      obtain ⟨hi161, hf⟩ := pr_ck_in hf
      refine pr_iast (f := (r160.2.2.1 22)) hx hb hK hP (hD _) hS 22 (by decide) rfl hi161 rfl prd_X_statement5_687 (fun H locs hP hS => ?_)
      exact pr_retv E hP hS (pr_so hf) prd_X_statement5_688
set_option maxHeartbeats 4000000 in
set_option maxRecDepth 100000 in
theorem prk_X_statement5_617 {l : Launch} {D : va_G} {ad : Nat → Nat} {dA : Nat → ClassId} {A : Nat → Prop} {v : Nat → Nat} {r : Value} {p : Program} {e : Env} {s : State} {m : MethodId} {args : Array Value} {below : List Frame} {meth : Method} {c : Code} (hd : Nat) (hb0 : 3 ≤ hd) {h : Nat} (hh : hd + 2 ≤ h) (E : pr_cx prn_X prb_X_statement5 10 none D pr_cl prx_L ad dA A (prY ad v r A) p s m args meth c) {rc : pr_St → Int32 → Int32 → Int32 → Int32 → Option pr_St} (Hrc0 : ∀ (σ : pr_St) (x1 x2 x3 x4 : Int32) (res : pr_St), rc σ x1 x2 x3 x4 = some res → Met l pry_X_block4 (Cond.code pry_X_block4 prb_X_block4 9 none :: pr_U) (pr_rm hd) (pr_Pc (prY ad v r A) D pr_cl prx_L ad dA [.ref (ad 0), .int x1, .int x2, .int x3, .int x4] σ) (pr_Qv D pr_cl prx_L ad dA A res) 0 0 A) : ∀ (σ : pr_St) (x1 : Int32) (x3 : Int32) (x6 : Int32) (res : pr_St), some res = prf_X_statement5_617 rc σ x1 x3 x6 → ∀ (H : Heap) (locs : List Loc) (ls : Array Slot), va_P D pr_cl (pr_w prx_L ad dA σ) H → va_S A s.heap H locs → lv_has ls 10 [(0, .ref (ad 0)), (1, .int x1), (3, .int x3), (6, .int x6)] → W p l e (pr_rm h) s m args below meth c H locs 0 0 (MQ below (pr_Qv D pr_cl prx_L ad dA A res) args s 0 0 A) (F0 m 617 ls []) := by
  obtain ⟨hx, hb, hml, hown, hts, hr, hlocks, hK, hD, hX, hXs⟩ := id E
  intro σ x1 x3 x6 res hf H locs ls hP hS hl
  unfold prf_X_statement5_617 at hf
  refine lv_iconst (v := 0) hx hb prd_X_statement5_617 (by decide) ?_
  refine lv_istore (lv' := [(8, .int 0), (0, .ref (ad 0)), (1, .int x1), (3, .int x3), (6, .int x6)]) hx hb prd_X_statement5_618 hl (by decide) rfl (fun ls hl => ?_)
  refine lv_aload_n hx hb prd_X_statement5_620 rfl (lv_at hl 1 rfl) ?_
  refine lv_iload_n hx hb prd_X_statement5_621 rfl (lv_at hl 3 rfl) ?_
  obtain ⟨r162, hr162, hf⟩ := pr_bi hf
  refine pr_callVr (rest := []) (r := r162) ⟨hx, hb, hml, hown, hts⟩ 0 (prc_X_behind hD hX 0 (Nat.le_refl _) σ x3 r162 hr162) (prg_X_behind hts prw_1003 (by have := hh; omega)) hX hXs hK hP hS (by decide) rfl rfl rfl rfl hl.1 (Nat.le_of_ble_eq_true rfl) prd_X_statement5_622 (fun H locs hP hS => ?_)
  refine lv_aload_n hx hb prd_X_statement5_625 rfl (lv_at hl 1 rfl) ?_
  refine pr_geti (v := (σ.1 0 24)) hx hb hts prs_X hown hK hP 0 24 (by decide) rfl (hts _ prw_836) rfl rfl prd_X_statement5_626 ?_
  refine lv_icmp_ne (tgt := 636) hx hb prd_X_statement5_629 (by decide) (fun c163 => ?_) (fun c163 => ?_)
  · have hf := pr_ie c163 hf
    refine lv_iconst (v := 0) hx hb prd_X_statement5_636 (by decide) ?_
    refine lv_istore (lv' := [(9, .int 0), (8, .int 0), (0, .ref (ad 0)), (1, .int x1), (3, .int x3), (6, .int x6)]) hx hb prd_X_statement5_637 hl (by decide) rfl (fun ls hl => ?_)
    refine lv_iload hx hb prd_X_statement5_639 (lv_at hl 1 rfl) ?_
    refine lv_if_ne (tgt := 654) hx hb prd_X_statement5_641 (by decide) (fun c164 => ?_) (fun c164 => ?_)
    · have hf := pr_ie c164 hf
      exact prk_X_statement5_654 hd hb0 hh E Hrc0 σ x1 x6 0 _ hf _ _ _ hP hS (lv_sub hl [2, 3, 5, 0] rfl)
    · have hf := pr_it c164 hf
      refine lv_aload_n hx hb prd_X_statement5_644 rfl (lv_at hl 2 rfl) ?_
      refine lv_bipush (v := 6) hx hb prd_X_statement5_645 (by decide) ?_
      refine lv_iload_n hx hb prd_X_statement5_647 rfl (lv_at hl 3 rfl) ?_
      obtain ⟨r165, hr165, hf⟩ := pr_bi hf
      refine pr_callVi (rest := []) (res := r165) ⟨hx, hb, hml, hown, hts⟩ 0 (prc_X_wrong hD hX 0 (Nat.le_refl _) σ 6 x1 r165 hr165) (prg_X_wrong hts prw_999 (by have := hh; omega)) hX hXs hK hP hS (by decide) rfl rfl rfl rfl hl.1 (Nat.le_of_ble_eq_true rfl) prd_X_statement5_648 (fun H locs hP hS => ?_)
      refine lv_if_eq (tgt := 677) hx hb prd_X_statement5_651 (by decide) (fun c166 => ?_) (fun c166 => ?_)
      · have hf := pr_it c166 hf
        refine lv_aload_n hx hb prd_X_statement5_677 rfl (lv_at hl 2 rfl) ?_
        refine pr_getr (t := 22) hx hb hts prs_X hown hK hP 0 30 (by decide) rfl (hts _ prw_825) rfl prd_X_statement5_678 ?_
        refine lv_iload hx hb prd_X_statement5_681 (lv_at hl 5 rfl) ?_
        refine lv_aload_n hx hb prd_X_statement5_683 rfl (lv_at hl 2 rfl) ?_
        refine pr_geti (v := (r165.2.1 0 33)) hx hb hts prs_X hown hK hP 0 33 (by decide) rfl (hts _ prw_822) rfl rfl prd_X_statement5_684 ?_
        obtain ⟨hi167, hf⟩ := pr_ck_in hf
        refine pr_iast (f := (r165.2.2.1 22)) hx hb hK hP (hD _) hS 22 (by decide) rfl hi167 rfl prd_X_statement5_687 (fun H locs hP hS => ?_)
        exact pr_retv E hP hS (pr_so hf) prd_X_statement5_688
      · have hf := pr_ie c166 hf
        exact prk_X_statement5_654 hd hb0 hh E Hrc0 r165.2 x1 x6 0 _ hf _ _ _ hP hS (lv_sub hl [2, 3, 5, 0] rfl)
  · have hf := pr_it c163 hf
    refine lv_iconst (v := 1) hx hb prd_X_statement5_632 (by decide) ?_
    refine lv_goto (tgt := 637) hx hb prd_X_statement5_633 (by decide) ?_
    refine lv_istore (lv' := [(9, .int 1), (8, .int 0), (0, .ref (ad 0)), (1, .int x1), (3, .int x3), (6, .int x6)]) hx hb prd_X_statement5_637 hl (by decide) rfl (fun ls hl => ?_)
    refine lv_iload hx hb prd_X_statement5_639 (lv_at hl 1 rfl) ?_
    refine lv_if_ne (tgt := 654) hx hb prd_X_statement5_641 (by decide) (fun c168 => ?_) (fun c168 => ?_)
    · have hf := pr_ie c168 hf
      exact prk_X_statement5_654 hd hb0 hh E Hrc0 σ x1 x6 1 _ hf _ _ _ hP hS (lv_sub hl [2, 3, 5, 0] rfl)
    · have hf := pr_it c168 hf
      refine lv_aload_n hx hb prd_X_statement5_644 rfl (lv_at hl 2 rfl) ?_
      refine lv_bipush (v := 6) hx hb prd_X_statement5_645 (by decide) ?_
      refine lv_iload_n hx hb prd_X_statement5_647 rfl (lv_at hl 3 rfl) ?_
      obtain ⟨r169, hr169, hf⟩ := pr_bi hf
      refine pr_callVi (rest := []) (res := r169) ⟨hx, hb, hml, hown, hts⟩ 0 (prc_X_wrong hD hX 0 (Nat.le_refl _) σ 6 x1 r169 hr169) (prg_X_wrong hts prw_999 (by have := hh; omega)) hX hXs hK hP hS (by decide) rfl rfl rfl rfl hl.1 (Nat.le_of_ble_eq_true rfl) prd_X_statement5_648 (fun H locs hP hS => ?_)
      refine lv_if_eq (tgt := 677) hx hb prd_X_statement5_651 (by decide) (fun c170 => ?_) (fun c170 => ?_)
      · have hf := pr_it c170 hf
        refine lv_aload_n hx hb prd_X_statement5_677 rfl (lv_at hl 2 rfl) ?_
        refine pr_getr (t := 22) hx hb hts prs_X hown hK hP 0 30 (by decide) rfl (hts _ prw_825) rfl prd_X_statement5_678 ?_
        refine lv_iload hx hb prd_X_statement5_681 (lv_at hl 5 rfl) ?_
        refine lv_aload_n hx hb prd_X_statement5_683 rfl (lv_at hl 2 rfl) ?_
        refine pr_geti (v := (r169.2.1 0 33)) hx hb hts prs_X hown hK hP 0 33 (by decide) rfl (hts _ prw_822) rfl rfl prd_X_statement5_684 ?_
        obtain ⟨hi171, hf⟩ := pr_ck_in hf
        refine pr_iast (f := (r169.2.2.1 22)) hx hb hK hP (hD _) hS 22 (by decide) rfl hi171 rfl prd_X_statement5_687 (fun H locs hP hS => ?_)
        exact pr_retv E hP hS (pr_so hf) prd_X_statement5_688
      · have hf := pr_ie c170 hf
        exact prk_X_statement5_654 hd hb0 hh E Hrc0 r169.2 x1 x6 1 _ hf _ _ _ hP hS (lv_sub hl [2, 3, 5, 0] rfl)
set_option maxHeartbeats 4000000 in
set_option maxRecDepth 100000 in
theorem prk_X_statement5_96 {l : Launch} {D : va_G} {ad : Nat → Nat} {dA : Nat → ClassId} {A : Nat → Prop} {v : Nat → Nat} {r : Value} {p : Program} {e : Env} {s : State} {m : MethodId} {args : Array Value} {below : List Frame} {meth : Method} {c : Code} (hd : Nat) (hb0 : 3 ≤ hd) {h : Nat} (hh : hd + 2 ≤ h) (E : pr_cx prn_X prb_X_statement5 10 none D pr_cl prx_L ad dA A (prY ad v r A) p s m args meth c) {rc : pr_St → Int32 → Int32 → Int32 → Int32 → Option pr_St} (Hrc0 : ∀ (σ : pr_St) (x1 x2 x3 x4 : Int32) (res : pr_St), rc σ x1 x2 x3 x4 = some res → Met l pry_X_block4 (Cond.code pry_X_block4 prb_X_block4 9 none :: pr_U) (pr_rm hd) (pr_Pc (prY ad v r A) D pr_cl prx_L ad dA [.ref (ad 0), .int x1, .int x2, .int x3, .int x4] σ) (pr_Qv D pr_cl prx_L ad dA A res) 0 0 A) : ∀ n : Nat, ∀ (σ : pr_St) (x1 : Int32) (x2 : Int32) (x3 : Int32) (x5 : Int32) (x6 : Int32) (x7 : Int32) (res : pr_St), some res = prf_X_statement5_96 rc n σ x1 x2 x3 x5 x6 x7 → ∀ (H : Heap) (locs : List Loc) (ls : Array Slot), va_P D pr_cl (pr_w prx_L ad dA σ) H → va_S A s.heap H locs → lv_has ls 10 [(0, .ref (ad 0)), (1, .int x1), (2, .int x2), (3, .int x3), (5, .int x5), (6, .int x6), (7, .int x7)] → W p l e (pr_rm h) s m args below meth c H locs 0 0 (MQ below (pr_Qv D pr_cl prx_L ad dA A res) args s 0 0 A) (F0 m 96 ls []) := by
  obtain ⟨hx, hb, hml, hown, hts, hr, hlocks, hK, hD, hX, hXs⟩ := id E
  intro n
  induction n with
  | zero =>
    intro σ x1 x2 x3 x5 x6 x7 res hf
    rw [prf_X_statement5_96] at hf
    cases hf
  | succ n ih =>
    intro σ x1 x2 x3 x5 x6 x7 res hf H locs ls hP hS hl
    rw [prf_X_statement5_96] at hf
    refine lv_iload hx hb prd_X_statement5_96 (lv_at hl 6 rfl) ?_
    refine lv_aload_n hx hb prd_X_statement5_98 rfl (lv_at hl 0 rfl) ?_
    refine pr_geti (v := (σ.1 0 42)) hx hb hts prs_X hown hK hP 0 42 (by decide) rfl (hts _ prw_996) rfl rfl prd_X_statement5_99 ?_
    refine lv_icmp_ge (tgt := 186) hx hb prd_X_statement5_102 (by decide) (fun c172 => ?_) (fun c172 => ?_)
    · have hf := pr_it c172 hf
      refine lv_aload_n hx hb prd_X_statement5_186 rfl (lv_at hl 0 rfl) ?_
      refine pr_getr (t := 13) hx hb hts prs_X hown hK hP 0 19 (by decide) rfl (hts _ prw_835) rfl prd_X_statement5_187 ?_
      refine lv_iload_n hx hb prd_X_statement5_190 rfl (lv_at hl 1 rfl) ?_
      obtain ⟨hi173, hf⟩ := pr_ck_in hf
      refine pr_iald (f := (σ.2.1 13)) hx hb hK hP 13 (by decide) rfl hi173 rfl prd_X_statement5_191 ?_
      by_cases c174 : ((σ.2.1 13) x1.toNatClampNeg) = 3
      · have hf := pr_it c174 hf
        refine lv_tableIn (tgt := 240) (off := 48) hx hb prd_X_statement5_192 (by rw [c174]; decide) (by rw [c174]; decide) (by rw [c174] <;> rfl) (by decide) ?_
        refine lv_aload_n hx hb prd_X_statement5_240 rfl (lv_at hl 0 rfl) ?_
        refine lv_iload_n hx hb prd_X_statement5_241 rfl (lv_at hl 1 rfl) ?_
        refine lv_iconst (v := 1) hx hb prd_X_statement5_242 (by decide) ?_
        refine lv_iadd hx hb prd_X_statement5_243 ?_
        refine lv_iload hx hb prd_X_statement5_244 (lv_at hl 4 rfl) ?_
        obtain ⟨r175, hr175, hf⟩ := pr_bi hf
        refine pr_callVi (rest := []) (res := r175) ⟨hx, hb, hml, hown, hts⟩ 0 (prc_X_isNew hD hX 1 (Nat.le_refl _) σ (x1 + 1) x5 r175 hr175) (prg_X_isNew hts prw_1050 (by have := hh; omega)) hX hXs hK hP hS (by decide) rfl rfl rfl rfl hl.1 (Nat.le_of_ble_eq_true rfl) prd_X_statement5_246 (fun H locs hP hS => ?_)
        refine lv_if_eq (tgt := 677) hx hb prd_X_statement5_249 (by decide) (fun c176 => ?_) (fun c176 => ?_)
        · have hf := pr_it c176 hf
          refine lv_aload_n hx hb prd_X_statement5_677 rfl (lv_at hl 0 rfl) ?_
          refine pr_getr (t := 22) hx hb hts prs_X hown hK hP 0 30 (by decide) rfl (hts _ prw_825) rfl prd_X_statement5_678 ?_
          refine lv_iload hx hb prd_X_statement5_681 (lv_at hl 5 rfl) ?_
          refine lv_aload_n hx hb prd_X_statement5_683 rfl (lv_at hl 0 rfl) ?_
          refine pr_geti (v := (r175.2.1 0 33)) hx hb hts prs_X hown hK hP 0 33 (by decide) rfl (hts _ prw_822) rfl rfl prd_X_statement5_684 ?_
          obtain ⟨hi177, hf⟩ := pr_ck_in hf
          refine pr_iast (f := (r175.2.2.1 22)) hx hb hK hP (hD _) hS 22 (by decide) rfl hi177 rfl prd_X_statement5_687 (fun H locs hP hS => ?_)
          exact pr_retv E hP hS (pr_so hf) prd_X_statement5_688
        · have hf := pr_ie c176 hf
          refine lv_aload_n hx hb prd_X_statement5_252 rfl (lv_at hl 0 rfl) ?_
          refine pr_getr (t := 17) hx hb hts prs_X hown hK hP 0 23 (by decide) rfl (hts _ prw_840) rfl prd_X_statement5_253 ?_
          refine lv_iload_n hx hb prd_X_statement5_256 rfl (lv_at hl 1 rfl) ?_
          obtain ⟨hi178, hf⟩ := pr_ck_in hf
          refine pr_iald (f := (r175.2.2.1 17)) hx hb hK hP 17 (by decide) rfl hi178 rfl prd_X_statement5_257 ?_
          refine lv_iconst (v := 2) hx hb prd_X_statement5_258 (by decide) ?_
          refine lv_icmp_eq (tgt := 274) hx hb prd_X_statement5_259 (by decide) (fun c179 => ?_) (fun c179 => ?_)
          · have hf := pr_it c179 hf
            exact prk_X_statement5_274 hd hb0 hh E Hrc0 r175.2 x1 x5 x6 _ hf _ _ _ hP hS (lv_sub hl [0, 1, 4, 5] rfl)
          · have hf := pr_ie c179 hf
            refine lv_aload_n hx hb prd_X_statement5_262 rfl (lv_at hl 0 rfl) ?_
            refine lv_aload_n hx hb prd_X_statement5_263 rfl (lv_at hl 0 rfl) ?_
            refine lv_iload_n hx hb prd_X_statement5_264 rfl (lv_at hl 1 rfl) ?_
            obtain ⟨r180, hr180, hf⟩ := pr_bi hf
            refine pr_callVr (rest := [.ref (ad 0)]) (r := r180) ⟨hx, hb, hml, hown, hts⟩ 0 (prc_X_second hD hX 1 (Nat.le_refl _) r175.2 x1 r180 hr180) (prg_X_second hts prw_1051 (by have := hh; omega)) hX hXs hK hP hS (by decide) rfl rfl rfl rfl hl.1 (Nat.le_of_ble_eq_true rfl) prd_X_statement5_265 (fun H locs hP hS => ?_)
            obtain ⟨r181, hr181, hf⟩ := pr_bi hf
            refine pr_callVi (rest := []) (res := r181) ⟨hx, hb, hml, hown, hts⟩ 0 (prc_X_lookAll hD hX 2 (Nat.le_refl _) r175.2 r180 r181 hr181) (prg_X_lookAll hts prw_1040 (by have := hh; omega)) hX hXs hK hP hS (by decide) rfl rfl rfl rfl hl.1 (Nat.le_of_ble_eq_true rfl) prd_X_statement5_268 (fun H locs hP hS => ?_)
            refine lv_if_eq (tgt := 677) hx hb prd_X_statement5_271 (by decide) (fun c182 => ?_) (fun c182 => ?_)
            · have hf := pr_it c182 hf
              refine lv_aload_n hx hb prd_X_statement5_677 rfl (lv_at hl 0 rfl) ?_
              refine pr_getr (t := 22) hx hb hts prs_X hown hK hP 0 30 (by decide) rfl (hts _ prw_825) rfl prd_X_statement5_678 ?_
              refine lv_iload hx hb prd_X_statement5_681 (lv_at hl 5 rfl) ?_
              refine lv_aload_n hx hb prd_X_statement5_683 rfl (lv_at hl 0 rfl) ?_
              refine pr_geti (v := (r181.2.1 0 33)) hx hb hts prs_X hown hK hP 0 33 (by decide) rfl (hts _ prw_822) rfl rfl prd_X_statement5_684 ?_
              obtain ⟨hi183, hf⟩ := pr_ck_in hf
              refine pr_iast (f := (r181.2.2.1 22)) hx hb hK hP (hD _) hS 22 (by decide) rfl hi183 rfl prd_X_statement5_687 (fun H locs hP hS => ?_)
              exact pr_retv E hP hS (pr_so hf) prd_X_statement5_688
            · have hf := pr_ie c182 hf
              exact prk_X_statement5_274 hd hb0 hh E Hrc0 r181.2 x1 x5 x6 _ hf _ _ _ hP hS (lv_sub hl [0, 1, 4, 5] rfl)
      · have hf := pr_ie c174 hf
        by_cases c184 : ((σ.2.1 13) x1.toNatClampNeg) = 4
        · have hf := pr_it c184 hf
          refine lv_tableIn (tgt := 325) (off := 133) hx hb prd_X_statement5_192 (by rw [c184]; decide) (by rw [c184]; decide) (by rw [c184] <;> rfl) (by decide) ?_
          refine lv_aload_n hx hb prd_X_statement5_325 rfl (lv_at hl 0 rfl) ?_
          refine pr_getr (t := 15) hx hb hts prs_X hown hK hP 0 21 (by decide) rfl (hts _ prw_838) rfl prd_X_statement5_326 ?_
          refine lv_iload_n hx hb prd_X_statement5_329 rfl (lv_at hl 1 rfl) ?_
          refine lv_iconst (v := 2) hx hb prd_X_statement5_330 (by decide) ?_
          refine lv_iadd hx hb prd_X_statement5_331 ?_
          obtain ⟨hi185, hf⟩ := pr_ck_in hf
          refine pr_iald (f := (σ.2.1 15)) hx hb hK hP 15 (by decide) rfl hi185 rfl prd_X_statement5_332 ?_
          refine lv_istore (lv' := [(7, .int ((σ.2.1 15) (x1 + 2).toNatClampNeg)), (0, .ref (ad 0)), (1, .int x1), (2, .int x2), (3, .int x3), (5, .int x5), (6, .int x6)]) hx hb prd_X_statement5_333 hl (by decide) rfl (fun ls hl => ?_)
          refine lv_aload_n hx hb prd_X_statement5_335 rfl (lv_at hl 1 rfl) ?_
          refine lv_iload_n hx hb prd_X_statement5_336 rfl (lv_at hl 2 rfl) ?_
          refine lv_iconst (v := 1) hx hb prd_X_statement5_337 (by decide) ?_
          refine lv_iadd hx hb prd_X_statement5_338 ?_
          refine lv_iload hx hb prd_X_statement5_339 (lv_at hl 5 rfl) ?_
          obtain ⟨r186, hr186, hf⟩ := pr_bi hf
          refine pr_callVi (rest := []) (res := r186) ⟨hx, hb, hml, hown, hts⟩ 0 (prc_X_isNew hD hX 1 (Nat.le_refl _) σ (x1 + 1) x5 r186 hr186) (prg_X_isNew hts prw_1050 (by have := hh; omega)) hX hXs hK hP hS (by decide) rfl rfl rfl rfl hl.1 (Nat.le_of_ble_eq_true rfl) prd_X_statement5_341 (fun H locs hP hS => ?_)
          refine lv_if_eq (tgt := 677) hx hb prd_X_statement5_344 (by decide) (fun c187 => ?_) (fun c187 => ?_)
          · have hf := pr_it c187 hf
            refine lv_aload_n hx hb prd_X_statement5_677 rfl (lv_at hl 1 rfl) ?_
            refine pr_getr (t := 22) hx hb hts prs_X hown hK hP 0 30 (by decide) rfl (hts _ prw_825) rfl prd_X_statement5_678 ?_
            refine lv_iload hx hb prd_X_statement5_681 (lv_at hl 6 rfl) ?_
            refine lv_aload_n hx hb prd_X_statement5_683 rfl (lv_at hl 1 rfl) ?_
            refine pr_geti (v := (r186.2.1 0 33)) hx hb hts prs_X hown hK hP 0 33 (by decide) rfl (hts _ prw_822) rfl rfl prd_X_statement5_684 ?_
            obtain ⟨hi188, hf⟩ := pr_ck_in hf
            refine pr_iast (f := (r186.2.2.1 22)) hx hb hK hP (hD _) hS 22 (by decide) rfl hi188 rfl prd_X_statement5_687 (fun H locs hP hS => ?_)
            exact pr_retv E hP hS (pr_so hf) prd_X_statement5_688
          · have hf := pr_ie c187 hf
            refine lv_iload hx hb prd_X_statement5_347 (lv_at hl 0 rfl) ?_
            refine lv_iconst (v := 1) hx hb prd_X_statement5_349 (by decide) ?_
            refine lv_icmp_lt (tgt := 360) hx hb prd_X_statement5_350 (by decide) (fun c189 => ?_) (fun c189 => ?_)
            · have hf := pr_it c189 hf
              exact prk_X_statement5_360 hd hb0 hh E Hrc0 r186.2 x1 x5 x6 ((σ.2.1 15) (x1 + 2).toNatClampNeg) _ hf _ _ _ hP hS (lv_sub hl [1, 2, 5, 6, 0] rfl)
            · have hf := pr_ie c189 hf
              refine lv_iload hx hb prd_X_statement5_353 (lv_at hl 0 rfl) ?_
              refine lv_bipush (v := 64) hx hb prd_X_statement5_355 (by decide) ?_
              refine lv_icmp_le (tgt := 372) hx hb prd_X_statement5_357 (by decide) (fun c190 => ?_) (fun c190 => ?_)
              · have hf := pr_it c190 hf
                exact prk_X_statement5_372 hd hb0 hh E Hrc0 r186.2 x1 x5 x6 ((σ.2.1 15) (x1 + 2).toNatClampNeg) _ hf _ _ _ hP hS (lv_sub hl [1, 2, 5, 6, 0] rfl)
              · have hf := pr_ie c190 hf
                exact prk_X_statement5_360 hd hb0 hh E Hrc0 r186.2 x1 x5 x6 ((σ.2.1 15) (x1 + 2).toNatClampNeg) _ hf _ _ _ hP hS (lv_sub hl [1, 2, 5, 6, 0] rfl)
        · have hf := pr_ie c184 hf
          by_cases c191 : ((σ.2.1 13) x1.toNatClampNeg) = 5
          · have hf := pr_it c191 hf
            refine lv_tableIn (tgt := 424) (off := 232) hx hb prd_X_statement5_192 (by rw [c191]; decide) (by rw [c191]; decide) (by rw [c191] <;> rfl) (by decide) ?_
            refine lv_aload_n hx hb prd_X_statement5_424 rfl (lv_at hl 0 rfl) ?_
            refine lv_iload_n hx hb prd_X_statement5_425 rfl (lv_at hl 1 rfl) ?_
            refine lv_iconst (v := 1) hx hb prd_X_statement5_426 (by decide) ?_
            refine lv_iadd hx hb prd_X_statement5_427 ?_
            refine lv_iconst (v := 0) hx hb prd_X_statement5_428 (by decide) ?_
            obtain ⟨r192, hr192, hf⟩ := pr_bi hf
            refine pr_callVi (rest := []) (res := r192) ⟨hx, hb, hml, hown, hts⟩ 0 (prc_X_lookName hD hX 1 (Nat.le_refl _) σ (x1 + 1) 0 r192 hr192) (prg_X_lookName hts prw_1015 (by have := hh; omega)) hX hXs hK hP hS (by decide) rfl rfl rfl rfl hl.1 (Nat.le_of_ble_eq_true rfl) prd_X_statement5_429 (fun H locs hP hS => ?_)
            refine lv_if_eq (tgt := 677) hx hb prd_X_statement5_432 (by decide) (fun c193 => ?_) (fun c193 => ?_)
            · have hf := pr_it c193 hf
              refine lv_aload_n hx hb prd_X_statement5_677 rfl (lv_at hl 0 rfl) ?_
              refine pr_getr (t := 22) hx hb hts prs_X hown hK hP 0 30 (by decide) rfl (hts _ prw_825) rfl prd_X_statement5_678 ?_
              refine lv_iload hx hb prd_X_statement5_681 (lv_at hl 5 rfl) ?_
              refine lv_aload_n hx hb prd_X_statement5_683 rfl (lv_at hl 0 rfl) ?_
              refine pr_geti (v := (r192.2.1 0 33)) hx hb hts prs_X hown hK hP 0 33 (by decide) rfl (hts _ prw_822) rfl rfl prd_X_statement5_684 ?_
              obtain ⟨hi194, hf⟩ := pr_ck_in hf
              refine pr_iast (f := (r192.2.2.1 22)) hx hb hK hP (hD _) hS 22 (by decide) rfl hi194 rfl prd_X_statement5_687 (fun H locs hP hS => ?_)
              exact pr_retv E hP hS (pr_so hf) prd_X_statement5_688
            · have hf := pr_ie c193 hf
              refine lv_aload_n hx hb prd_X_statement5_435 rfl (lv_at hl 0 rfl) ?_
              refine lv_aload_n hx hb prd_X_statement5_436 rfl (lv_at hl 0 rfl) ?_
              refine lv_iload_n hx hb prd_X_statement5_437 rfl (lv_at hl 1 rfl) ?_
              obtain ⟨r195, hr195, hf⟩ := pr_bi hf
              refine pr_callVr (rest := [.ref (ad 0)]) (r := r195) ⟨hx, hb, hml, hown, hts⟩ 0 (prc_X_second hD hX 1 (Nat.le_refl _) r192.2 x1 r195 hr195) (prg_X_second hts prw_1051 (by have := hh; omega)) hX hXs hK hP hS (by decide) rfl rfl rfl rfl hl.1 (Nat.le_of_ble_eq_true rfl) prd_X_statement5_438 (fun H locs hP hS => ?_)
              obtain ⟨r196, hr196, hf⟩ := pr_bi hf
              refine pr_callVi (rest := []) (res := r196) ⟨hx, hb, hml, hown, hts⟩ 0 (prc_X_lookAll hD hX 2 (Nat.le_refl _) r192.2 r195 r196 hr196) (prg_X_lookAll hts prw_1040 (by have := hh; omega)) hX hXs hK hP hS (by decide) rfl rfl rfl rfl hl.1 (Nat.le_of_ble_eq_true rfl) prd_X_statement5_441 (fun H locs hP hS => ?_)
              refine lv_pop hx hb prd_X_statement5_444 rfl ?_
              refine lv_goto (tgt := 677) hx hb prd_X_statement5_445 (by decide) ?_
              refine lv_aload_n hx hb prd_X_statement5_677 rfl (lv_at hl 0 rfl) ?_
              refine pr_getr (t := 22) hx hb hts prs_X hown hK hP 0 30 (by decide) rfl (hts _ prw_825) rfl prd_X_statement5_678 ?_
              refine lv_iload hx hb prd_X_statement5_681 (lv_at hl 5 rfl) ?_
              refine lv_aload_n hx hb prd_X_statement5_683 rfl (lv_at hl 0 rfl) ?_
              refine pr_geti (v := (r196.2.1 0 33)) hx hb hts prs_X hown hK hP 0 33 (by decide) rfl (hts _ prw_822) rfl rfl prd_X_statement5_684 ?_
              obtain ⟨hi197, hf⟩ := pr_ck_in hf
              refine pr_iast (f := (r196.2.2.1 22)) hx hb hK hP (hD _) hS 22 (by decide) rfl hi197 rfl prd_X_statement5_687 (fun H locs hP hS => ?_)
              exact pr_retv E hP hS (pr_so hf) prd_X_statement5_688
          · have hf := pr_ie c191 hf
            by_cases c198 : ((σ.2.1 13) x1.toNatClampNeg) = 6
            · have hf := pr_it c198 hf
              refine lv_tableIn (tgt := 448) (off := 256) hx hb prd_X_statement5_192 (by rw [c198]; decide) (by rw [c198]; decide) (by rw [c198] <;> rfl) (by decide) ?_
              refine lv_aload_n hx hb prd_X_statement5_448 rfl (lv_at hl 0 rfl) ?_
              refine lv_iload_n hx hb prd_X_statement5_449 rfl (lv_at hl 1 rfl) ?_
              refine lv_iconst (v := 1) hx hb prd_X_statement5_450 (by decide) ?_
              refine lv_iadd hx hb prd_X_statement5_451 ?_
              refine lv_iconst (v := 1) hx hb prd_X_statement5_452 (by decide) ?_
              obtain ⟨r199, hr199, hf⟩ := pr_bi hf
              refine pr_callVi (rest := []) (res := r199) ⟨hx, hb, hml, hown, hts⟩ 0 (prc_X_lookName hD hX 1 (Nat.le_refl _) σ (x1 + 1) 1 r199 hr199) (prg_X_lookName hts prw_1015 (by have := hh; omega)) hX hXs hK hP hS (by decide) rfl rfl rfl rfl hl.1 (Nat.le_of_ble_eq_true rfl) prd_X_statement5_453 (fun H locs hP hS => ?_)
              refine lv_if_eq (tgt := 677) hx hb prd_X_statement5_456 (by decide) (fun c200 => ?_) (fun c200 => ?_)
              · have hf := pr_it c200 hf
                refine lv_aload_n hx hb prd_X_statement5_677 rfl (lv_at hl 0 rfl) ?_
                refine pr_getr (t := 22) hx hb hts prs_X hown hK hP 0 30 (by decide) rfl (hts _ prw_825) rfl prd_X_statement5_678 ?_
                refine lv_iload hx hb prd_X_statement5_681 (lv_at hl 5 rfl) ?_
                refine lv_aload_n hx hb prd_X_statement5_683 rfl (lv_at hl 0 rfl) ?_
                refine pr_geti (v := (r199.2.1 0 33)) hx hb hts prs_X hown hK hP 0 33 (by decide) rfl (hts _ prw_822) rfl rfl prd_X_statement5_684 ?_
                obtain ⟨hi201, hf⟩ := pr_ck_in hf
                refine pr_iast (f := (r199.2.2.1 22)) hx hb hK hP (hD _) hS 22 (by decide) rfl hi201 rfl prd_X_statement5_687 (fun H locs hP hS => ?_)
                exact pr_retv E hP hS (pr_so hf) prd_X_statement5_688
              · have hf := pr_ie c200 hf
                refine lv_aload_n hx hb prd_X_statement5_459 rfl (lv_at hl 0 rfl) ?_
                refine lv_aload_n hx hb prd_X_statement5_460 rfl (lv_at hl 0 rfl) ?_
                refine lv_iload_n hx hb prd_X_statement5_461 rfl (lv_at hl 1 rfl) ?_
                obtain ⟨r202, hr202, hf⟩ := pr_bi hf
                refine pr_callVr (rest := [.ref (ad 0)]) (r := r202) ⟨hx, hb, hml, hown, hts⟩ 0 (prc_X_second hD hX 1 (Nat.le_refl _) r199.2 x1 r202 hr202) (prg_X_second hts prw_1051 (by have := hh; omega)) hX hXs hK hP hS (by decide) rfl rfl rfl rfl hl.1 (Nat.le_of_ble_eq_true rfl) prd_X_statement5_462 (fun H locs hP hS => ?_)
                obtain ⟨r203, hr203, hf⟩ := pr_bi hf
                refine pr_callVi (rest := []) (res := r203) ⟨hx, hb, hml, hown, hts⟩ 0 (prc_X_lookAll hD hX 2 (Nat.le_refl _) r199.2 r202 r203 hr203) (prg_X_lookAll hts prw_1040 (by have := hh; omega)) hX hXs hK hP hS (by decide) rfl rfl rfl rfl hl.1 (Nat.le_of_ble_eq_true rfl) prd_X_statement5_465 (fun H locs hP hS => ?_)
                refine lv_if_eq (tgt := 677) hx hb prd_X_statement5_468 (by decide) (fun c204 => ?_) (fun c204 => ?_)
                · have hf := pr_it c204 hf
                  refine lv_aload_n hx hb prd_X_statement5_677 rfl (lv_at hl 0 rfl) ?_
                  refine pr_getr (t := 22) hx hb hts prs_X hown hK hP 0 30 (by decide) rfl (hts _ prw_825) rfl prd_X_statement5_678 ?_
                  refine lv_iload hx hb prd_X_statement5_681 (lv_at hl 5 rfl) ?_
                  refine lv_aload_n hx hb prd_X_statement5_683 rfl (lv_at hl 0 rfl) ?_
                  refine pr_geti (v := (r203.2.1 0 33)) hx hb hts prs_X hown hK hP 0 33 (by decide) rfl (hts _ prw_822) rfl rfl prd_X_statement5_684 ?_
                  obtain ⟨hi205, hf⟩ := pr_ck_in hf
                  refine pr_iast (f := (r203.2.2.1 22)) hx hb hK hP (hD _) hS 22 (by decide) rfl hi205 rfl prd_X_statement5_687 (fun H locs hP hS => ?_)
                  exact pr_retv E hP hS (pr_so hf) prd_X_statement5_688
                · have hf := pr_ie c204 hf
                  refine lv_aload_n hx hb prd_X_statement5_471 rfl (lv_at hl 0 rfl) ?_
                  refine lv_aload_n hx hb prd_X_statement5_472 rfl (lv_at hl 0 rfl) ?_
                  refine lv_aload_n hx hb prd_X_statement5_473 rfl (lv_at hl 0 rfl) ?_
                  refine lv_iload_n hx hb prd_X_statement5_474 rfl (lv_at hl 1 rfl) ?_
                  obtain ⟨r206, hr206, hf⟩ := pr_bi hf
                  refine pr_callVr (rest := [.ref (ad 0), .ref (ad 0)]) (r := r206) ⟨hx, hb, hml, hown, hts⟩ 0 (prc_X_second hD hX 1 (Nat.le_refl _) r203.2 x1 r206 hr206) (prg_X_second hts prw_1051 (by have := hh; omega)) hX hXs hK hP hS (by decide) rfl rfl rfl rfl hl.1 (Nat.le_of_ble_eq_true rfl) prd_X_statement5_475 (fun H locs hP hS => ?_)
                  obtain ⟨r207, hr207, hf⟩ := pr_bi hf
                  refine pr_callVr (rest := [.ref (ad 0)]) (r := r207) ⟨hx, hb, hml, hown, hts⟩ 0 (prc_X_behind hD hX 0 (Nat.le_refl _) r203.2 r206 r207 hr207) (prg_X_behind hts prw_1003 (by have := hh; omega)) hX hXs hK hP hS (by decide) rfl rfl rfl rfl hl.1 (Nat.le_of_ble_eq_true rfl) prd_X_statement5_478 (fun H locs hP hS => ?_)
                  obtain ⟨r208, hr208, hf⟩ := pr_bi hf
                  refine pr_callVi (rest := []) (res := r208) ⟨hx, hb, hml, hown, hts⟩ 0 (prc_X_lookAll hD hX 2 (Nat.le_refl _) r203.2 r207 r208 hr208) (prg_X_lookAll hts prw_1040 (by have := hh; omega)) hX hXs hK hP hS (by decide) rfl rfl rfl rfl hl.1 (Nat.le_of_ble_eq_true rfl) prd_X_statement5_481 (fun H locs hP hS => ?_)
                  refine lv_pop hx hb prd_X_statement5_484 rfl ?_
                  refine lv_goto (tgt := 677) hx hb prd_X_statement5_485 (by decide) ?_
                  refine lv_aload_n hx hb prd_X_statement5_677 rfl (lv_at hl 0 rfl) ?_
                  refine pr_getr (t := 22) hx hb hts prs_X hown hK hP 0 30 (by decide) rfl (hts _ prw_825) rfl prd_X_statement5_678 ?_
                  refine lv_iload hx hb prd_X_statement5_681 (lv_at hl 5 rfl) ?_
                  refine lv_aload_n hx hb prd_X_statement5_683 rfl (lv_at hl 0 rfl) ?_
                  refine pr_geti (v := (r208.2.1 0 33)) hx hb hts prs_X hown hK hP 0 33 (by decide) rfl (hts _ prw_822) rfl rfl prd_X_statement5_684 ?_
                  obtain ⟨hi209, hf⟩ := pr_ck_in hf
                  refine pr_iast (f := (r208.2.2.1 22)) hx hb hK hP (hD _) hS 22 (by decide) rfl hi209 rfl prd_X_statement5_687 (fun H locs hP hS => ?_)
                  exact pr_retv E hP hS (pr_so hf) prd_X_statement5_688
            · have hf := pr_ie c198 hf
              by_cases c210 : ((σ.2.1 13) x1.toNatClampNeg) = 7
              · have hf := pr_it c210 hf
                refine lv_tableIn (tgt := 488) (off := 296) hx hb prd_X_statement5_192 (by rw [c210]; decide) (by rw [c210]; decide) (by rw [c210] <;> rfl) (by decide) ?_
                refine lv_aload_n hx hb prd_X_statement5_488 rfl (lv_at hl 0 rfl) ?_
                refine lv_iload_n hx hb prd_X_statement5_489 rfl (lv_at hl 1 rfl) ?_
                refine lv_iload hx hb prd_X_statement5_490 (lv_at hl 5 rfl) ?_
                obtain ⟨r211, hr211, hf⟩ := pr_bi hf
                refine pr_callVv (rest := []) (res := r211) ⟨hx, hb, hml, hown, hts⟩ 0 (prc_X_call hD hX hd hb0 (hd + 1) (Nat.le_refl _) Hrc0 σ x1 x6 r211 hr211) (prg_X_call hts prw_1052 (by have := hh; omega)) hX hXs hK hP hS (by decide) rfl rfl rfl rfl hl.1 (Nat.le_of_ble_eq_true rfl) prd_X_statement5_492 (fun H locs hP hS => ?_)
                refine lv_goto (tgt := 677) hx hb prd_X_statement5_495 (by decide) ?_
                refine lv_aload_n hx hb prd_X_statement5_677 rfl (lv_at hl 0 rfl) ?_
                refine pr_getr (t := 22) hx hb hts prs_X hown hK hP 0 30 (by decide) rfl (hts _ prw_825) rfl prd_X_statement5_678 ?_
                refine lv_iload hx hb prd_X_statement5_681 (lv_at hl 5 rfl) ?_
                refine lv_aload_n hx hb prd_X_statement5_683 rfl (lv_at hl 0 rfl) ?_
                refine pr_geti (v := (r211.1 0 33)) hx hb hts prs_X hown hK hP 0 33 (by decide) rfl (hts _ prw_822) rfl rfl prd_X_statement5_684 ?_
                obtain ⟨hi212, hf⟩ := pr_ck_in hf
                refine pr_iast (f := (r211.2.1 22)) hx hb hK hP (hD _) hS 22 (by decide) rfl hi212 rfl prd_X_statement5_687 (fun H locs hP hS => ?_)
                exact pr_retv E hP hS (pr_so hf) prd_X_statement5_688
              · have hf := pr_ie c210 hf
                by_cases c213 : ((σ.2.1 13) x1.toNatClampNeg) = 8
                · have hf := pr_it c213 hf
                  refine lv_tableIn (tgt := 498) (off := 306) hx hb prd_X_statement5_192 (by rw [c213]; decide) (by rw [c213]; decide) (by rw [c213] <;> rfl) (by decide) ?_
                  refine lv_aload_n hx hb prd_X_statement5_498 rfl (lv_at hl 0 rfl) ?_
                  refine lv_iload_n hx hb prd_X_statement5_499 rfl (lv_at hl 1 rfl) ?_
                  refine lv_iconst (v := 1) hx hb prd_X_statement5_500 (by decide) ?_
                  refine lv_iadd hx hb prd_X_statement5_501 ?_
                  obtain ⟨r214, hr214, hf⟩ := pr_bi hf
                  refine pr_callVi (rest := []) (res := r214) ⟨hx, hb, hml, hown, hts⟩ 0 (prc_X_lookAll hD hX 2 (Nat.le_refl _) σ (x1 + 1) r214 hr214) (prg_X_lookAll hts prw_1040 (by have := hh; omega)) hX hXs hK hP hS (by decide) rfl rfl rfl rfl hl.1 (Nat.le_of_ble_eq_true rfl) prd_X_statement5_502 (fun H locs hP hS => ?_)
                  refine lv_if_eq (tgt := 677) hx hb prd_X_statement5_505 (by decide) (fun c215 => ?_) (fun c215 => ?_)
                  · have hf := pr_it c215 hf
                    refine lv_aload_n hx hb prd_X_statement5_677 rfl (lv_at hl 0 rfl) ?_
                    refine pr_getr (t := 22) hx hb hts prs_X hown hK hP 0 30 (by decide) rfl (hts _ prw_825) rfl prd_X_statement5_678 ?_
                    refine lv_iload hx hb prd_X_statement5_681 (lv_at hl 5 rfl) ?_
                    refine lv_aload_n hx hb prd_X_statement5_683 rfl (lv_at hl 0 rfl) ?_
                    refine pr_geti (v := (r214.2.1 0 33)) hx hb hts prs_X hown hK hP 0 33 (by decide) rfl (hts _ prw_822) rfl rfl prd_X_statement5_684 ?_
                    obtain ⟨hi216, hf⟩ := pr_ck_in hf
                    refine pr_iast (f := (r214.2.2.1 22)) hx hb hK hP (hD _) hS 22 (by decide) rfl hi216 rfl prd_X_statement5_687 (fun H locs hP hS => ?_)
                    exact pr_retv E hP hS (pr_so hf) prd_X_statement5_688
                  · have hf := pr_ie c215 hf
                    refine lv_aload_n hx hb prd_X_statement5_508 rfl (lv_at hl 0 rfl) ?_
                    refine lv_dup hx hb prd_X_statement5_509 rfl ?_
                    refine pr_geti (v := (r214.2.1 0 44)) hx hb hts prs_X hown hK hP 0 44 (by decide) rfl (hts _ prw_1039) rfl rfl prd_X_statement5_510 ?_
                    refine lv_iconst (v := 1) hx hb prd_X_statement5_513 (by decide) ?_
                    refine lv_iadd hx hb prd_X_statement5_514 ?_
                    refine pr_puti (ty := .int) hx hb hts prs_X prq_X prtt_X prtn_X hown hK hP (hD _) hS 0 44 (by decide) rfl (hts _ prw_1039) rfl rfl (prtt_X 44 (by decide)) rfl rfl prd_X_statement5_515 (fun H locs hP hS => ?_)
                    refine lv_aload_n hx hb prd_X_statement5_518 rfl (lv_at hl 0 rfl) ?_
                    refine lv_aload_n hx hb prd_X_statement5_519 rfl (lv_at hl 0 rfl) ?_
                    refine lv_iload_n hx hb prd_X_statement5_520 rfl (lv_at hl 1 rfl) ?_
                    obtain ⟨r217, hr217, hf⟩ := pr_bi hf
                    refine pr_callVr (rest := [.ref (ad 0)]) (r := r217) ⟨hx, hb, hml, hown, hts⟩ 0 (prc_X_second hD hX 1 (Nat.le_refl _) (pr_sI r214.2 0 44 ((r214.2.1 0 44) + 1)) x1 r217 hr217) (prg_X_second hts prw_1051 (by have := hh; omega)) hX hXs hK hP hS (by decide) rfl rfl rfl rfl hl.1 (Nat.le_of_ble_eq_true rfl) prd_X_statement5_521 (fun H locs hP hS => ?_)
                    refine lv_iload_n hx hb prd_X_statement5_524 rfl (lv_at hl 3 rfl) ?_
                    refine lv_iload hx hb prd_X_statement5_525 (lv_at hl 5 rfl) ?_
                    refine lv_aload_n hx hb prd_X_statement5_527 rfl (lv_at hl 0 rfl) ?_
                    refine pr_geti (v := ((r214.2.1 0 44) + 1)) hx hb hts prs_X hown hK hP 0 44 (by decide) rfl (hts _ prw_1039) rfl rfl prd_X_statement5_528 ?_
                    obtain ⟨r218, hr218, hf⟩ := pr_bi hf
                    refine pr_callVv (rest := []) (res := r218) ⟨hx, hb, hml, hown, hts⟩ 0 (Hrc0 (pr_sI r214.2 0 44 ((r214.2.1 0 44) + 1)) r217 x3 x6 ((r214.2.1 0 44) + 1) r218 hr218) (prg_X_block4 hts prw_1041 (by have := hh; omega)) hX hXs hK hP hS (by decide) rfl rfl rfl rfl hl.1 (Nat.le_of_ble_eq_true rfl) prd_X_statement5_531 (fun H locs hP hS => ?_)
                    refine lv_aload_n hx hb prd_X_statement5_534 rfl (lv_at hl 0 rfl) ?_
                    refine lv_aload_n hx hb prd_X_statement5_535 rfl (lv_at hl 0 rfl) ?_
                    refine lv_iload_n hx hb prd_X_statement5_536 rfl (lv_at hl 1 rfl) ?_
                    obtain ⟨r219, hr219, hf⟩ := pr_bi hf
                    refine pr_callVr (rest := [.ref (ad 0)]) (r := r219) ⟨hx, hb, hml, hown, hts⟩ 0 (prc_X_second hD hX 1 (Nat.le_refl _) r218 x1 r219 hr219) (prg_X_second hts prw_1051 (by have := hh; omega)) hX hXs hK hP hS (by decide) rfl rfl rfl rfl hl.1 (Nat.le_of_ble_eq_true rfl) prd_X_statement5_537 (fun H locs hP hS => ?_)
                    obtain ⟨r220, hr220, hf⟩ := pr_bi hf
                    refine pr_callVr (rest := []) (r := r220) ⟨hx, hb, hml, hown, hts⟩ 0 (prc_X_behind hD hX 0 (Nat.le_refl _) r218 r219 r220 hr220) (prg_X_behind hts prw_1003 (by have := hh; omega)) hX hXs hK hP hS (by decide) rfl rfl rfl rfl hl.1 (Nat.le_of_ble_eq_true rfl) prd_X_statement5_540 (fun H locs hP hS => ?_)
                    refine lv_aload_n hx hb prd_X_statement5_543 rfl (lv_at hl 0 rfl) ?_
                    refine lv_iload_n hx hb prd_X_statement5_544 rfl (lv_at hl 1 rfl) ?_
                    obtain ⟨r221, hr221, hf⟩ := pr_bi hf
                    refine pr_callVr (rest := [.int r220]) (r := r221) ⟨hx, hb, hml, hown, hts⟩ 0 (prc_X_behind hD hX 0 (Nat.le_refl _) r218 x1 r221 hr221) (prg_X_behind hts prw_1003 (by have := hh; omega)) hX hXs hK hP hS (by decide) rfl rfl rfl rfl hl.1 (Nat.le_of_ble_eq_true rfl) prd_X_statement5_545 (fun H locs hP hS => ?_)
                    refine lv_icmp_ge (tgt := 677) hx hb prd_X_statement5_548 (by decide) (fun c222 => ?_) (fun c222 => ?_)
                    · have hf := pr_it c222 hf
                      refine lv_aload_n hx hb prd_X_statement5_677 rfl (lv_at hl 0 rfl) ?_
                      refine pr_getr (t := 22) hx hb hts prs_X hown hK hP 0 30 (by decide) rfl (hts _ prw_825) rfl prd_X_statement5_678 ?_
                      refine lv_iload hx hb prd_X_statement5_681 (lv_at hl 5 rfl) ?_
                      refine lv_aload_n hx hb prd_X_statement5_683 rfl (lv_at hl 0 rfl) ?_
                      refine pr_geti (v := (r218.1 0 33)) hx hb hts prs_X hown hK hP 0 33 (by decide) rfl (hts _ prw_822) rfl rfl prd_X_statement5_684 ?_
                      obtain ⟨hi223, hf⟩ := pr_ck_in hf
                      refine pr_iast (f := (r218.2.1 22)) hx hb hK hP (hD _) hS 22 (by decide) rfl hi223 rfl prd_X_statement5_687 (fun H locs hP hS => ?_)
                      exact pr_retv E hP hS (pr_so hf) prd_X_statement5_688
                    · have hf := pr_ie c222 hf
                      refine lv_aload_n hx hb prd_X_statement5_551 rfl (lv_at hl 0 rfl) ?_
                      refine lv_dup hx hb prd_X_statement5_552 rfl ?_
                      refine pr_geti (v := (r218.1 0 44)) hx hb hts prs_X hown hK hP 0 44 (by decide) rfl (hts _ prw_1039) rfl rfl prd_X_statement5_553 ?_
                      refine lv_iconst (v := 1) hx hb prd_X_statement5_556 (by decide) ?_
                      refine lv_iadd hx hb prd_X_statement5_557 ?_
                      refine pr_puti (ty := .int) hx hb hts prs_X prq_X prtt_X prtn_X hown hK hP (hD _) hS 0 44 (by decide) rfl (hts _ prw_1039) rfl rfl (prtt_X 44 (by decide)) rfl rfl prd_X_statement5_558 (fun H locs hP hS => ?_)
                      refine lv_aload_n hx hb prd_X_statement5_561 rfl (lv_at hl 0 rfl) ?_
                      refine lv_aload_n hx hb prd_X_statement5_562 rfl (lv_at hl 0 rfl) ?_
                      refine lv_aload_n hx hb prd_X_statement5_563 rfl (lv_at hl 0 rfl) ?_
                      refine lv_iload_n hx hb prd_X_statement5_564 rfl (lv_at hl 1 rfl) ?_
                      obtain ⟨r224, hr224, hf⟩ := pr_bi hf
                      refine pr_callVr (rest := [.ref (ad 0), .ref (ad 0)]) (r := r224) ⟨hx, hb, hml, hown, hts⟩ 0 (prc_X_second hD hX 1 (Nat.le_refl _) (pr_sI r218 0 44 ((r218.1 0 44) + 1)) x1 r224 hr224) (prg_X_second hts prw_1051 (by have := hh; omega)) hX hXs hK hP hS (by decide) rfl rfl rfl rfl hl.1 (Nat.le_of_ble_eq_true rfl) prd_X_statement5_565 (fun H locs hP hS => ?_)
                      obtain ⟨r225, hr225, hf⟩ := pr_bi hf
                      refine pr_callVr (rest := [.ref (ad 0)]) (r := r225) ⟨hx, hb, hml, hown, hts⟩ 0 (prc_X_behind hD hX 0 (Nat.le_refl _) (pr_sI r218 0 44 ((r218.1 0 44) + 1)) r224 r225 hr225) (prg_X_behind hts prw_1003 (by have := hh; omega)) hX hXs hK hP hS (by decide) rfl rfl rfl rfl hl.1 (Nat.le_of_ble_eq_true rfl) prd_X_statement5_568 (fun H locs hP hS => ?_)
                      refine lv_iload_n hx hb prd_X_statement5_571 rfl (lv_at hl 3 rfl) ?_
                      refine lv_iload hx hb prd_X_statement5_572 (lv_at hl 5 rfl) ?_
                      refine lv_aload_n hx hb prd_X_statement5_574 rfl (lv_at hl 0 rfl) ?_
                      refine pr_geti (v := ((r218.1 0 44) + 1)) hx hb hts prs_X hown hK hP 0 44 (by decide) rfl (hts _ prw_1039) rfl rfl prd_X_statement5_575 ?_
                      obtain ⟨r226, hr226, hf⟩ := pr_bi hf
                      refine pr_callVv (rest := []) (res := r226) ⟨hx, hb, hml, hown, hts⟩ 0 (Hrc0 (pr_sI r218 0 44 ((r218.1 0 44) + 1)) r225 x3 x6 ((r218.1 0 44) + 1) r226 hr226) (prg_X_block4 hts prw_1041 (by have := hh; omega)) hX hXs hK hP hS (by decide) rfl rfl rfl rfl hl.1 (Nat.le_of_ble_eq_true rfl) prd_X_statement5_578 (fun H locs hP hS => ?_)
                      refine lv_goto (tgt := 677) hx hb prd_X_statement5_581 (by decide) ?_
                      refine lv_aload_n hx hb prd_X_statement5_677 rfl (lv_at hl 0 rfl) ?_
                      refine pr_getr (t := 22) hx hb hts prs_X hown hK hP 0 30 (by decide) rfl (hts _ prw_825) rfl prd_X_statement5_678 ?_
                      refine lv_iload hx hb prd_X_statement5_681 (lv_at hl 5 rfl) ?_
                      refine lv_aload_n hx hb prd_X_statement5_683 rfl (lv_at hl 0 rfl) ?_
                      refine pr_geti (v := (r226.1 0 33)) hx hb hts prs_X hown hK hP 0 33 (by decide) rfl (hts _ prw_822) rfl rfl prd_X_statement5_684 ?_
                      obtain ⟨hi227, hf⟩ := pr_ck_in hf
                      refine pr_iast (f := (r226.2.1 22)) hx hb hK hP (hD _) hS 22 (by decide) rfl hi227 rfl prd_X_statement5_687 (fun H locs hP hS => ?_)
                      exact pr_retv E hP hS (pr_so hf) prd_X_statement5_688
                · have hf := pr_ie c213 hf
                  by_cases c228 : ((σ.2.1 13) x1.toNatClampNeg) = 9
                  · have hf := pr_it c228 hf
                    refine lv_tableIn (tgt := 498) (off := 306) hx hb prd_X_statement5_192 (by rw [c228]; decide) (by rw [c228]; decide) (by rw [c228] <;> rfl) (by decide) ?_
                    refine lv_aload_n hx hb prd_X_statement5_498 rfl (lv_at hl 0 rfl) ?_
                    refine lv_iload_n hx hb prd_X_statement5_499 rfl (lv_at hl 1 rfl) ?_
                    refine lv_iconst (v := 1) hx hb prd_X_statement5_500 (by decide) ?_
                    refine lv_iadd hx hb prd_X_statement5_501 ?_
                    obtain ⟨r229, hr229, hf⟩ := pr_bi hf
                    refine pr_callVi (rest := []) (res := r229) ⟨hx, hb, hml, hown, hts⟩ 0 (prc_X_lookAll hD hX 2 (Nat.le_refl _) σ (x1 + 1) r229 hr229) (prg_X_lookAll hts prw_1040 (by have := hh; omega)) hX hXs hK hP hS (by decide) rfl rfl rfl rfl hl.1 (Nat.le_of_ble_eq_true rfl) prd_X_statement5_502 (fun H locs hP hS => ?_)
                    refine lv_if_eq (tgt := 677) hx hb prd_X_statement5_505 (by decide) (fun c230 => ?_) (fun c230 => ?_)
                    · have hf := pr_it c230 hf
                      refine lv_aload_n hx hb prd_X_statement5_677 rfl (lv_at hl 0 rfl) ?_
                      refine pr_getr (t := 22) hx hb hts prs_X hown hK hP 0 30 (by decide) rfl (hts _ prw_825) rfl prd_X_statement5_678 ?_
                      refine lv_iload hx hb prd_X_statement5_681 (lv_at hl 5 rfl) ?_
                      refine lv_aload_n hx hb prd_X_statement5_683 rfl (lv_at hl 0 rfl) ?_
                      refine pr_geti (v := (r229.2.1 0 33)) hx hb hts prs_X hown hK hP 0 33 (by decide) rfl (hts _ prw_822) rfl rfl prd_X_statement5_684 ?_
                      obtain ⟨hi231, hf⟩ := pr_ck_in hf
                      refine pr_iast (f := (r229.2.2.1 22)) hx hb hK hP (hD _) hS 22 (by decide) rfl hi231 rfl prd_X_statement5_687 (fun H locs hP hS => ?_)
                      exact pr_retv E hP hS (pr_so hf) prd_X_statement5_688
                    · have hf := pr_ie c230 hf
                      refine lv_aload_n hx hb prd_X_statement5_508 rfl (lv_at hl 0 rfl) ?_
                      refine lv_dup hx hb prd_X_statement5_509 rfl ?_
                      refine pr_geti (v := (r229.2.1 0 44)) hx hb hts prs_X hown hK hP 0 44 (by decide) rfl (hts _ prw_1039) rfl rfl prd_X_statement5_510 ?_
                      refine lv_iconst (v := 1) hx hb prd_X_statement5_513 (by decide) ?_
                      refine lv_iadd hx hb prd_X_statement5_514 ?_
                      refine pr_puti (ty := .int) hx hb hts prs_X prq_X prtt_X prtn_X hown hK hP (hD _) hS 0 44 (by decide) rfl (hts _ prw_1039) rfl rfl (prtt_X 44 (by decide)) rfl rfl prd_X_statement5_515 (fun H locs hP hS => ?_)
                      refine lv_aload_n hx hb prd_X_statement5_518 rfl (lv_at hl 0 rfl) ?_
                      refine lv_aload_n hx hb prd_X_statement5_519 rfl (lv_at hl 0 rfl) ?_
                      refine lv_iload_n hx hb prd_X_statement5_520 rfl (lv_at hl 1 rfl) ?_
                      obtain ⟨r232, hr232, hf⟩ := pr_bi hf
                      refine pr_callVr (rest := [.ref (ad 0)]) (r := r232) ⟨hx, hb, hml, hown, hts⟩ 0 (prc_X_second hD hX 1 (Nat.le_refl _) (pr_sI r229.2 0 44 ((r229.2.1 0 44) + 1)) x1 r232 hr232) (prg_X_second hts prw_1051 (by have := hh; omega)) hX hXs hK hP hS (by decide) rfl rfl rfl rfl hl.1 (Nat.le_of_ble_eq_true rfl) prd_X_statement5_521 (fun H locs hP hS => ?_)
                      refine lv_iload_n hx hb prd_X_statement5_524 rfl (lv_at hl 3 rfl) ?_
                      refine lv_iload hx hb prd_X_statement5_525 (lv_at hl 5 rfl) ?_
                      refine lv_aload_n hx hb prd_X_statement5_527 rfl (lv_at hl 0 rfl) ?_
                      refine pr_geti (v := ((r229.2.1 0 44) + 1)) hx hb hts prs_X hown hK hP 0 44 (by decide) rfl (hts _ prw_1039) rfl rfl prd_X_statement5_528 ?_
                      obtain ⟨r233, hr233, hf⟩ := pr_bi hf
                      refine pr_callVv (rest := []) (res := r233) ⟨hx, hb, hml, hown, hts⟩ 0 (Hrc0 (pr_sI r229.2 0 44 ((r229.2.1 0 44) + 1)) r232 x3 x6 ((r229.2.1 0 44) + 1) r233 hr233) (prg_X_block4 hts prw_1041 (by have := hh; omega)) hX hXs hK hP hS (by decide) rfl rfl rfl rfl hl.1 (Nat.le_of_ble_eq_true rfl) prd_X_statement5_531 (fun H locs hP hS => ?_)
                      refine lv_aload_n hx hb prd_X_statement5_534 rfl (lv_at hl 0 rfl) ?_
                      refine lv_aload_n hx hb prd_X_statement5_535 rfl (lv_at hl 0 rfl) ?_
                      refine lv_iload_n hx hb prd_X_statement5_536 rfl (lv_at hl 1 rfl) ?_
                      obtain ⟨r234, hr234, hf⟩ := pr_bi hf
                      refine pr_callVr (rest := [.ref (ad 0)]) (r := r234) ⟨hx, hb, hml, hown, hts⟩ 0 (prc_X_second hD hX 1 (Nat.le_refl _) r233 x1 r234 hr234) (prg_X_second hts prw_1051 (by have := hh; omega)) hX hXs hK hP hS (by decide) rfl rfl rfl rfl hl.1 (Nat.le_of_ble_eq_true rfl) prd_X_statement5_537 (fun H locs hP hS => ?_)
                      obtain ⟨r235, hr235, hf⟩ := pr_bi hf
                      refine pr_callVr (rest := []) (r := r235) ⟨hx, hb, hml, hown, hts⟩ 0 (prc_X_behind hD hX 0 (Nat.le_refl _) r233 r234 r235 hr235) (prg_X_behind hts prw_1003 (by have := hh; omega)) hX hXs hK hP hS (by decide) rfl rfl rfl rfl hl.1 (Nat.le_of_ble_eq_true rfl) prd_X_statement5_540 (fun H locs hP hS => ?_)
                      refine lv_aload_n hx hb prd_X_statement5_543 rfl (lv_at hl 0 rfl) ?_
                      refine lv_iload_n hx hb prd_X_statement5_544 rfl (lv_at hl 1 rfl) ?_
                      obtain ⟨r236, hr236, hf⟩ := pr_bi hf
                      refine pr_callVr (rest := [.int r235]) (r := r236) ⟨hx, hb, hml, hown, hts⟩ 0 (prc_X_behind hD hX 0 (Nat.le_refl _) r233 x1 r236 hr236) (prg_X_behind hts prw_1003 (by have := hh; omega)) hX hXs hK hP hS (by decide) rfl rfl rfl rfl hl.1 (Nat.le_of_ble_eq_true rfl) prd_X_statement5_545 (fun H locs hP hS => ?_)
                      refine lv_icmp_ge (tgt := 677) hx hb prd_X_statement5_548 (by decide) (fun c237 => ?_) (fun c237 => ?_)
                      · have hf := pr_it c237 hf
                        refine lv_aload_n hx hb prd_X_statement5_677 rfl (lv_at hl 0 rfl) ?_
                        refine pr_getr (t := 22) hx hb hts prs_X hown hK hP 0 30 (by decide) rfl (hts _ prw_825) rfl prd_X_statement5_678 ?_
                        refine lv_iload hx hb prd_X_statement5_681 (lv_at hl 5 rfl) ?_
                        refine lv_aload_n hx hb prd_X_statement5_683 rfl (lv_at hl 0 rfl) ?_
                        refine pr_geti (v := (r233.1 0 33)) hx hb hts prs_X hown hK hP 0 33 (by decide) rfl (hts _ prw_822) rfl rfl prd_X_statement5_684 ?_
                        obtain ⟨hi238, hf⟩ := pr_ck_in hf
                        refine pr_iast (f := (r233.2.1 22)) hx hb hK hP (hD _) hS 22 (by decide) rfl hi238 rfl prd_X_statement5_687 (fun H locs hP hS => ?_)
                        exact pr_retv E hP hS (pr_so hf) prd_X_statement5_688
                      · have hf := pr_ie c237 hf
                        refine lv_aload_n hx hb prd_X_statement5_551 rfl (lv_at hl 0 rfl) ?_
                        refine lv_dup hx hb prd_X_statement5_552 rfl ?_
                        refine pr_geti (v := (r233.1 0 44)) hx hb hts prs_X hown hK hP 0 44 (by decide) rfl (hts _ prw_1039) rfl rfl prd_X_statement5_553 ?_
                        refine lv_iconst (v := 1) hx hb prd_X_statement5_556 (by decide) ?_
                        refine lv_iadd hx hb prd_X_statement5_557 ?_
                        refine pr_puti (ty := .int) hx hb hts prs_X prq_X prtt_X prtn_X hown hK hP (hD _) hS 0 44 (by decide) rfl (hts _ prw_1039) rfl rfl (prtt_X 44 (by decide)) rfl rfl prd_X_statement5_558 (fun H locs hP hS => ?_)
                        refine lv_aload_n hx hb prd_X_statement5_561 rfl (lv_at hl 0 rfl) ?_
                        refine lv_aload_n hx hb prd_X_statement5_562 rfl (lv_at hl 0 rfl) ?_
                        refine lv_aload_n hx hb prd_X_statement5_563 rfl (lv_at hl 0 rfl) ?_
                        refine lv_iload_n hx hb prd_X_statement5_564 rfl (lv_at hl 1 rfl) ?_
                        obtain ⟨r239, hr239, hf⟩ := pr_bi hf
                        refine pr_callVr (rest := [.ref (ad 0), .ref (ad 0)]) (r := r239) ⟨hx, hb, hml, hown, hts⟩ 0 (prc_X_second hD hX 1 (Nat.le_refl _) (pr_sI r233 0 44 ((r233.1 0 44) + 1)) x1 r239 hr239) (prg_X_second hts prw_1051 (by have := hh; omega)) hX hXs hK hP hS (by decide) rfl rfl rfl rfl hl.1 (Nat.le_of_ble_eq_true rfl) prd_X_statement5_565 (fun H locs hP hS => ?_)
                        obtain ⟨r240, hr240, hf⟩ := pr_bi hf
                        refine pr_callVr (rest := [.ref (ad 0)]) (r := r240) ⟨hx, hb, hml, hown, hts⟩ 0 (prc_X_behind hD hX 0 (Nat.le_refl _) (pr_sI r233 0 44 ((r233.1 0 44) + 1)) r239 r240 hr240) (prg_X_behind hts prw_1003 (by have := hh; omega)) hX hXs hK hP hS (by decide) rfl rfl rfl rfl hl.1 (Nat.le_of_ble_eq_true rfl) prd_X_statement5_568 (fun H locs hP hS => ?_)
                        refine lv_iload_n hx hb prd_X_statement5_571 rfl (lv_at hl 3 rfl) ?_
                        refine lv_iload hx hb prd_X_statement5_572 (lv_at hl 5 rfl) ?_
                        refine lv_aload_n hx hb prd_X_statement5_574 rfl (lv_at hl 0 rfl) ?_
                        refine pr_geti (v := ((r233.1 0 44) + 1)) hx hb hts prs_X hown hK hP 0 44 (by decide) rfl (hts _ prw_1039) rfl rfl prd_X_statement5_575 ?_
                        obtain ⟨r241, hr241, hf⟩ := pr_bi hf
                        refine pr_callVv (rest := []) (res := r241) ⟨hx, hb, hml, hown, hts⟩ 0 (Hrc0 (pr_sI r233 0 44 ((r233.1 0 44) + 1)) r240 x3 x6 ((r233.1 0 44) + 1) r241 hr241) (prg_X_block4 hts prw_1041 (by have := hh; omega)) hX hXs hK hP hS (by decide) rfl rfl rfl rfl hl.1 (Nat.le_of_ble_eq_true rfl) prd_X_statement5_578 (fun H locs hP hS => ?_)
                        refine lv_goto (tgt := 677) hx hb prd_X_statement5_581 (by decide) ?_
                        refine lv_aload_n hx hb prd_X_statement5_677 rfl (lv_at hl 0 rfl) ?_
                        refine pr_getr (t := 22) hx hb hts prs_X hown hK hP 0 30 (by decide) rfl (hts _ prw_825) rfl prd_X_statement5_678 ?_
                        refine lv_iload hx hb prd_X_statement5_681 (lv_at hl 5 rfl) ?_
                        refine lv_aload_n hx hb prd_X_statement5_683 rfl (lv_at hl 0 rfl) ?_
                        refine pr_geti (v := (r241.1 0 33)) hx hb hts prs_X hown hK hP 0 33 (by decide) rfl (hts _ prw_822) rfl rfl prd_X_statement5_684 ?_
                        obtain ⟨hi242, hf⟩ := pr_ck_in hf
                        refine pr_iast (f := (r241.2.1 22)) hx hb hK hP (hD _) hS 22 (by decide) rfl hi242 rfl prd_X_statement5_687 (fun H locs hP hS => ?_)
                        exact pr_retv E hP hS (pr_so hf) prd_X_statement5_688
                  · have hf := pr_ie c228 hf
                    by_cases c243 : ((σ.2.1 13) x1.toNatClampNeg) = 10
                    · have hf := pr_it c243 hf
                      refine lv_tableIn (tgt := 584) (off := 392) hx hb prd_X_statement5_192 (by rw [c243]; decide) (by rw [c243]; decide) (by rw [c243] <;> rfl) (by decide) ?_
                      refine lv_aload_n hx hb prd_X_statement5_584 rfl (lv_at hl 0 rfl) ?_
                      refine lv_iload_n hx hb prd_X_statement5_585 rfl (lv_at hl 1 rfl) ?_
                      refine lv_iconst (v := 1) hx hb prd_X_statement5_586 (by decide) ?_
                      refine lv_iadd hx hb prd_X_statement5_587 ?_
                      obtain ⟨r244, hr244, hf⟩ := pr_bi hf
                      refine pr_callVi (rest := []) (res := r244) ⟨hx, hb, hml, hown, hts⟩ 0 (prc_X_lookAll hD hX 2 (Nat.le_refl _) σ (x1 + 1) r244 hr244) (prg_X_lookAll hts prw_1040 (by have := hh; omega)) hX hXs hK hP hS (by decide) rfl rfl rfl rfl hl.1 (Nat.le_of_ble_eq_true rfl) prd_X_statement5_588 (fun H locs hP hS => ?_)
                      refine lv_pop hx hb prd_X_statement5_591 rfl ?_
                      refine lv_goto (tgt := 677) hx hb prd_X_statement5_592 (by decide) ?_
                      refine lv_aload_n hx hb prd_X_statement5_677 rfl (lv_at hl 0 rfl) ?_
                      refine pr_getr (t := 22) hx hb hts prs_X hown hK hP 0 30 (by decide) rfl (hts _ prw_825) rfl prd_X_statement5_678 ?_
                      refine lv_iload hx hb prd_X_statement5_681 (lv_at hl 5 rfl) ?_
                      refine lv_aload_n hx hb prd_X_statement5_683 rfl (lv_at hl 0 rfl) ?_
                      refine pr_geti (v := (r244.2.1 0 33)) hx hb hts prs_X hown hK hP 0 33 (by decide) rfl (hts _ prw_822) rfl rfl prd_X_statement5_684 ?_
                      obtain ⟨hi245, hf⟩ := pr_ck_in hf
                      refine pr_iast (f := (r244.2.2.1 22)) hx hb hK hP (hD _) hS 22 (by decide) rfl hi245 rfl prd_X_statement5_687 (fun H locs hP hS => ?_)
                      exact pr_retv E hP hS (pr_so hf) prd_X_statement5_688
                    · have hf := pr_ie c243 hf
                      refine lv_tableOut (tgt := 595) hx hb prd_X_statement5_192 (by have w0 := lv_neT (a := 3) c174 (by decide); have w1 := lv_neT (a := 4) c184 (by decide); have w2 := lv_neT (a := 5) c191 (by decide); have w3 := lv_neT (a := 6) c198 (by decide); have w4 := lv_neT (a := 7) c210 (by decide); have w5 := lv_neT (a := 8) c213 (by decide); have w6 := lv_neT (a := 9) c228 (by decide); have w7 := lv_neT (a := 10) c243 (by decide); omega) (by decide) ?_
                      refine lv_aload_n hx hb prd_X_statement5_595 rfl (lv_at hl 0 rfl) ?_
                      refine lv_iload_n hx hb prd_X_statement5_596 rfl (lv_at hl 3 rfl) ?_
                      obtain ⟨r246, hr246, hf⟩ := pr_bi hf
                      refine pr_callVr (rest := []) (r := r246) ⟨hx, hb, hml, hown, hts⟩ 0 (prc_X_blockOf hD hX 0 (Nat.le_refl _) σ x3 r246 hr246) (prg_X_blockOf hts prw_1032 (by have := hh; omega)) hX hXs hK hP hS (by decide) rfl rfl rfl rfl hl.1 (Nat.le_of_ble_eq_true rfl) prd_X_statement5_597 (fun H locs hP hS => ?_)
                      refine lv_iload_n hx hb prd_X_statement5_600 rfl (lv_at hl 2 rfl) ?_
                      refine lv_icmp_ne (tgt := 617) hx hb prd_X_statement5_601 (by decide) (fun c247 => ?_) (fun c247 => ?_)
                      · have hf := pr_ie c247 hf
                        exact prk_X_statement5_617 hd hb0 hh E Hrc0 σ x1 x3 x6 _ hf _ _ _ hP hS (lv_sub hl [0, 1, 3, 5] rfl)
                      · have hf := pr_it c247 hf
                        refine lv_aload_n hx hb prd_X_statement5_604 rfl (lv_at hl 0 rfl) ?_
                        refine lv_iload_n hx hb prd_X_statement5_605 rfl (lv_at hl 2 rfl) ?_
                        obtain ⟨r248, hr248, hf⟩ := pr_bi hf
                        refine pr_callVr (rest := []) (r := r248) ⟨hx, hb, hml, hown, hts⟩ 0 (prc_X_lastStatement hD hX 1 (Nat.le_refl _) σ x2 r248 hr248) (prg_X_lastStatement hts prw_1033 (by have := hh; omega)) hX hXs hK hP hS (by decide) rfl rfl rfl rfl hl.1 (Nat.le_of_ble_eq_true rfl) prd_X_statement5_606 (fun H locs hP hS => ?_)
                        refine lv_iload_n hx hb prd_X_statement5_609 rfl (lv_at hl 1 rfl) ?_
                        refine lv_icmp_ne (tgt := 617) hx hb prd_X_statement5_610 (by decide) (fun c249 => ?_) (fun c249 => ?_)
                        · have hf := pr_ie c249 hf
                          exact prk_X_statement5_617 hd hb0 hh E Hrc0 σ x1 x3 x6 _ hf _ _ _ hP hS (lv_sub hl [0, 1, 3, 5] rfl)
                        · have hf := pr_it c249 hf
                          refine lv_iconst (v := 1) hx hb prd_X_statement5_613 (by decide) ?_
                          refine lv_goto (tgt := 618) hx hb prd_X_statement5_614 (by decide) ?_
                          refine lv_istore (lv' := [(8, .int 1), (0, .ref (ad 0)), (1, .int x1), (2, .int x2), (3, .int x3), (5, .int x5), (6, .int x6), (7, .int x7)]) hx hb prd_X_statement5_618 hl (by decide) rfl (fun ls hl => ?_)
                          refine lv_aload_n hx hb prd_X_statement5_620 rfl (lv_at hl 1 rfl) ?_
                          refine lv_iload_n hx hb prd_X_statement5_621 rfl (lv_at hl 4 rfl) ?_
                          obtain ⟨r250, hr250, hf⟩ := pr_bi hf
                          refine pr_callVr (rest := []) (r := r250) ⟨hx, hb, hml, hown, hts⟩ 0 (prc_X_behind hD hX 0 (Nat.le_refl _) σ x3 r250 hr250) (prg_X_behind hts prw_1003 (by have := hh; omega)) hX hXs hK hP hS (by decide) rfl rfl rfl rfl hl.1 (Nat.le_of_ble_eq_true rfl) prd_X_statement5_622 (fun H locs hP hS => ?_)
                          refine lv_aload_n hx hb prd_X_statement5_625 rfl (lv_at hl 1 rfl) ?_
                          refine pr_geti (v := (σ.1 0 24)) hx hb hts prs_X hown hK hP 0 24 (by decide) rfl (hts _ prw_836) rfl rfl prd_X_statement5_626 ?_
                          refine lv_icmp_ne (tgt := 636) hx hb prd_X_statement5_629 (by decide) (fun c251 => ?_) (fun c251 => ?_)
                          · have hf := pr_ie c251 hf
                            refine lv_iconst (v := 0) hx hb prd_X_statement5_636 (by decide) ?_
                            refine lv_istore (lv' := [(9, .int 0), (8, .int 1), (0, .ref (ad 0)), (1, .int x1), (2, .int x2), (3, .int x3), (5, .int x5), (6, .int x6), (7, .int x7)]) hx hb prd_X_statement5_637 hl (by decide) rfl (fun ls hl => ?_)
                            refine lv_iload hx hb prd_X_statement5_639 (lv_at hl 1 rfl) ?_
                            refine lv_if_ne (tgt := 654) hx hb prd_X_statement5_641 (by decide) (fun c252 => ?_) (fun c252 => ?_)
                            · have hf := pr_ie c252 hf
                              exact prk_X_statement5_654 hd hb0 hh E Hrc0 σ x1 x6 0 _ hf _ _ _ hP hS (lv_sub hl [2, 3, 7, 0] rfl)
                            · have hf := pr_it c252 hf
                              refine lv_aload_n hx hb prd_X_statement5_644 rfl (lv_at hl 2 rfl) ?_
                              refine lv_bipush (v := 6) hx hb prd_X_statement5_645 (by decide) ?_
                              refine lv_iload_n hx hb prd_X_statement5_647 rfl (lv_at hl 3 rfl) ?_
                              obtain ⟨r253, hr253, hf⟩ := pr_bi hf
                              refine pr_callVi (rest := []) (res := r253) ⟨hx, hb, hml, hown, hts⟩ 0 (prc_X_wrong hD hX 0 (Nat.le_refl _) σ 6 x1 r253 hr253) (prg_X_wrong hts prw_999 (by have := hh; omega)) hX hXs hK hP hS (by decide) rfl rfl rfl rfl hl.1 (Nat.le_of_ble_eq_true rfl) prd_X_statement5_648 (fun H locs hP hS => ?_)
                              refine lv_if_eq (tgt := 677) hx hb prd_X_statement5_651 (by decide) (fun c254 => ?_) (fun c254 => ?_)
                              · have hf := pr_it c254 hf
                                refine lv_aload_n hx hb prd_X_statement5_677 rfl (lv_at hl 2 rfl) ?_
                                refine pr_getr (t := 22) hx hb hts prs_X hown hK hP 0 30 (by decide) rfl (hts _ prw_825) rfl prd_X_statement5_678 ?_
                                refine lv_iload hx hb prd_X_statement5_681 (lv_at hl 7 rfl) ?_
                                refine lv_aload_n hx hb prd_X_statement5_683 rfl (lv_at hl 2 rfl) ?_
                                refine pr_geti (v := (r253.2.1 0 33)) hx hb hts prs_X hown hK hP 0 33 (by decide) rfl (hts _ prw_822) rfl rfl prd_X_statement5_684 ?_
                                obtain ⟨hi255, hf⟩ := pr_ck_in hf
                                refine pr_iast (f := (r253.2.2.1 22)) hx hb hK hP (hD _) hS 22 (by decide) rfl hi255 rfl prd_X_statement5_687 (fun H locs hP hS => ?_)
                                exact pr_retv E hP hS (pr_so hf) prd_X_statement5_688
                              · have hf := pr_ie c254 hf
                                exact prk_X_statement5_654 hd hb0 hh E Hrc0 r253.2 x1 x6 0 _ hf _ _ _ hP hS (lv_sub hl [2, 3, 7, 0] rfl)
                          · have hf := pr_it c251 hf
                            refine lv_iconst (v := 1) hx hb prd_X_statement5_632 (by decide) ?_
                            refine lv_goto (tgt := 637) hx hb prd_X_statement5_633 (by decide) ?_
                            refine lv_istore (lv' := [(9, .int 1), (8, .int 1), (0, .ref (ad 0)), (1, .int x1), (2, .int x2), (3, .int x3), (5, .int x5), (6, .int x6), (7, .int x7)]) hx hb prd_X_statement5_637 hl (by decide) rfl (fun ls hl => ?_)
                            refine lv_iload hx hb prd_X_statement5_639 (lv_at hl 1 rfl) ?_
                            refine lv_if_ne (tgt := 654) hx hb prd_X_statement5_641 (by decide) (fun c256 => ?_) (fun c256 => ?_)
                            · have hf := pr_ie c256 hf
                              exact prk_X_statement5_654 hd hb0 hh E Hrc0 σ x1 x6 1 _ hf _ _ _ hP hS (lv_sub hl [2, 3, 7, 0] rfl)
                            · have hf := pr_it c256 hf
                              refine lv_aload_n hx hb prd_X_statement5_644 rfl (lv_at hl 2 rfl) ?_
                              refine lv_bipush (v := 6) hx hb prd_X_statement5_645 (by decide) ?_
                              refine lv_iload_n hx hb prd_X_statement5_647 rfl (lv_at hl 3 rfl) ?_
                              obtain ⟨r257, hr257, hf⟩ := pr_bi hf
                              refine pr_callVi (rest := []) (res := r257) ⟨hx, hb, hml, hown, hts⟩ 0 (prc_X_wrong hD hX 0 (Nat.le_refl _) σ 6 x1 r257 hr257) (prg_X_wrong hts prw_999 (by have := hh; omega)) hX hXs hK hP hS (by decide) rfl rfl rfl rfl hl.1 (Nat.le_of_ble_eq_true rfl) prd_X_statement5_648 (fun H locs hP hS => ?_)
                              refine lv_if_eq (tgt := 677) hx hb prd_X_statement5_651 (by decide) (fun c258 => ?_) (fun c258 => ?_)
                              · have hf := pr_it c258 hf
                                refine lv_aload_n hx hb prd_X_statement5_677 rfl (lv_at hl 2 rfl) ?_
                                refine pr_getr (t := 22) hx hb hts prs_X hown hK hP 0 30 (by decide) rfl (hts _ prw_825) rfl prd_X_statement5_678 ?_
                                refine lv_iload hx hb prd_X_statement5_681 (lv_at hl 7 rfl) ?_
                                refine lv_aload_n hx hb prd_X_statement5_683 rfl (lv_at hl 2 rfl) ?_
                                refine pr_geti (v := (r257.2.1 0 33)) hx hb hts prs_X hown hK hP 0 33 (by decide) rfl (hts _ prw_822) rfl rfl prd_X_statement5_684 ?_
                                obtain ⟨hi259, hf⟩ := pr_ck_in hf
                                refine pr_iast (f := (r257.2.2.1 22)) hx hb hK hP (hD _) hS 22 (by decide) rfl hi259 rfl prd_X_statement5_687 (fun H locs hP hS => ?_)
                                exact pr_retv E hP hS (pr_so hf) prd_X_statement5_688
                              · have hf := pr_ie c258 hf
                                exact prk_X_statement5_654 hd hb0 hh E Hrc0 r257.2 x1 x6 1 _ hf _ _ _ hP hS (lv_sub hl [2, 3, 7, 0] rfl)
    · have hf := pr_ie c172 hf
      refine lv_aload_n hx hb prd_X_statement5_105 rfl (lv_at hl 0 rfl) ?_
      refine pr_getr (t := 26) hx hb hts prs_X hown hK hP 0 35 (by decide) rfl (hts _ prw_1053) rfl prd_X_statement5_106 ?_
      refine lv_bipush (v := 40) hx hb prd_X_statement5_109 (by decide) ?_
      refine lv_iload hx hb prd_X_statement5_111 (lv_at hl 5 rfl) ?_
      refine lv_imul hx hb prd_X_statement5_113 ?_
      refine lv_iload hx hb prd_X_statement5_114 (lv_at hl 6 rfl) ?_
      refine lv_iadd hx hb prd_X_statement5_116 ?_
      refine lv_aload_n hx hb prd_X_statement5_117 rfl (lv_at hl 0 rfl) ?_
      refine pr_geti (v := (σ.1 0 43)) hx hb hts prs_X hown hK hP 0 43 (by decide) rfl (hts _ prw_995) rfl rfl prd_X_statement5_118 ?_
      refine lv_isub hx hb prd_X_statement5_121 ?_
      refine lv_aload_n hx hb prd_X_statement5_122 rfl (lv_at hl 0 rfl) ?_
      refine pr_getr (t := 29) hx hb hts prs_X hown hK hP 0 38 (by decide) rfl (hts _ prw_998) rfl prd_X_statement5_123 ?_
      refine lv_iload hx hb prd_X_statement5_126 (lv_at hl 6 rfl) ?_
      obtain ⟨hi260, hf⟩ := pr_ck_in hf
      refine pr_iald (f := (σ.2.1 29)) hx hb hK hP 29 (by decide) rfl hi260 rfl prd_X_statement5_128 ?_
      obtain ⟨hi261, hf⟩ := pr_ck_in hf
      refine pr_iast (f := (σ.2.1 26)) hx hb hK hP (hD _) hS 26 (by decide) rfl hi261 rfl prd_X_statement5_129 (fun H locs hP hS => ?_)
      refine lv_aload_n hx hb prd_X_statement5_130 rfl (lv_at hl 0 rfl) ?_
      refine pr_getr (t := 27) hx hb hts prs_X hown hK hP 0 36 (by decide) rfl (hts _ prw_1054) rfl prd_X_statement5_131 ?_
      refine lv_bipush (v := 40) hx hb prd_X_statement5_134 (by decide) ?_
      refine lv_iload hx hb prd_X_statement5_136 (lv_at hl 5 rfl) ?_
      refine lv_imul hx hb prd_X_statement5_138 ?_
      refine lv_iload hx hb prd_X_statement5_139 (lv_at hl 6 rfl) ?_
      refine lv_iadd hx hb prd_X_statement5_141 ?_
      refine lv_aload_n hx hb prd_X_statement5_142 rfl (lv_at hl 0 rfl) ?_
      refine pr_geti (v := (σ.1 0 43)) hx hb hts prs_X hown hK hP 0 43 (by decide) rfl (hts _ prw_995) rfl rfl prd_X_statement5_143 ?_
      refine lv_isub hx hb prd_X_statement5_146 ?_
      refine lv_aload_n hx hb prd_X_statement5_147 rfl (lv_at hl 0 rfl) ?_
      refine pr_getr (t := 30) hx hb hts prs_X hown hK hP 0 39 (by decide) rfl (hts _ prw_1019) rfl prd_X_statement5_148 ?_
      refine lv_iload hx hb prd_X_statement5_151 (lv_at hl 6 rfl) ?_
      obtain ⟨hi262, hf⟩ := pr_ck_in hf
      refine pr_iald (f := (σ.2.1 30)) hx hb hK hP 30 (by decide) rfl hi262 rfl prd_X_statement5_153 ?_
      obtain ⟨hi263, hf⟩ := pr_ck_in hf
      refine pr_iast (f := (σ.2.1 27)) hx hb hK hP (hD _) hS 27 (by decide) rfl hi263 rfl prd_X_statement5_154 (fun H locs hP hS => ?_)
      refine lv_aload_n hx hb prd_X_statement5_155 rfl (lv_at hl 0 rfl) ?_
      refine pr_getr (t := 28) hx hb hts prs_X hown hK hP 0 37 (by decide) rfl (hts _ prw_1055) rfl prd_X_statement5_156 ?_
      refine lv_bipush (v := 40) hx hb prd_X_statement5_159 (by decide) ?_
      refine lv_iload hx hb prd_X_statement5_161 (lv_at hl 5 rfl) ?_
      refine lv_imul hx hb prd_X_statement5_163 ?_
      refine lv_iload hx hb prd_X_statement5_164 (lv_at hl 6 rfl) ?_
      refine lv_iadd hx hb prd_X_statement5_166 ?_
      refine lv_aload_n hx hb prd_X_statement5_167 rfl (lv_at hl 0 rfl) ?_
      refine pr_geti (v := (σ.1 0 43)) hx hb hts prs_X hown hK hP 0 43 (by decide) rfl (hts _ prw_995) rfl rfl prd_X_statement5_168 ?_
      refine lv_isub hx hb prd_X_statement5_171 ?_
      refine lv_aload_n hx hb prd_X_statement5_172 rfl (lv_at hl 0 rfl) ?_
      refine pr_getr (t := 31) hx hb hts prs_X hown hK hP 0 40 (by decide) rfl (hts _ prw_1011) rfl prd_X_statement5_173 ?_
      refine lv_iload hx hb prd_X_statement5_176 (lv_at hl 6 rfl) ?_
      obtain ⟨hi264, hf⟩ := pr_ck_in hf
      refine pr_iald (f := (σ.2.1 31)) hx hb hK hP 31 (by decide) rfl hi264 rfl prd_X_statement5_178 ?_
      obtain ⟨hi265, hf⟩ := pr_ck_in hf
      refine pr_iast (f := (σ.2.1 28)) hx hb hK hP (hD _) hS 28 (by decide) rfl hi265 rfl prd_X_statement5_179 (fun H locs hP hS => ?_)
      refine lv_iinc (v := (x7 + 1)) (lv' := [(7, .int (x7 + 1)), (0, .ref (ad 0)), (1, .int x1), (2, .int x2), (3, .int x3), (5, .int x5), (6, .int x6)]) hx hb prd_X_statement5_180 hl (k := 6) rfl rfl (by decide) rfl (fun ls hl => ?_)
      refine lv_goto (tgt := 96) hx hb prd_X_statement5_183 (by decide) ?_
      exact ih (pr_sA (pr_sA (pr_sA σ 26 (upd (σ.2.1 26) (((40 * x6) + x7) - (σ.1 0 43)).toNatClampNeg ((σ.2.1 29) x7.toNatClampNeg))) 27 (upd (σ.2.1 27) (((40 * x6) + x7) - (σ.1 0 43)).toNatClampNeg ((σ.2.1 30) x7.toNatClampNeg))) 28 (upd (σ.2.1 28) (((40 * x6) + x7) - (σ.1 0 43)).toNatClampNeg ((σ.2.1 31) x7.toNatClampNeg))) x1 x2 x3 x5 x6 (x7 + 1) _ hf _ _ _ hP hS (lv_sub hl [1, 2, 3, 4, 5, 6, 0] rfl)
set_option maxHeartbeats 4000000 in
set_option maxRecDepth 100000 in
theorem prc_X_statement5 {l : Launch} {D : va_G} {ad : Nat → Nat} {dA : Nat → ClassId} {A : Nat → Prop} {v : Nat → Nat} {r : Value} (hD : ∀ σ : pr_St, va_D A (pr_w prx_L ad dA σ)) (hX : pr_Xok A (prY ad v r A)) (hd : Nat) (hb0 : 3 ≤ hd) (h : Nat) (hh : hd + 2 ≤ h) {rc : pr_St → Int32 → Int32 → Int32 → Int32 → Option pr_St} (Hrc0 : ∀ (σ : pr_St) (x1 x2 x3 x4 : Int32) (res : pr_St), rc σ x1 x2 x3 x4 = some res → Met l pry_X_block4 (Cond.code pry_X_block4 prb_X_block4 9 none :: pr_U) (pr_rm hd) (pr_Pc (prY ad v r A) D pr_cl prx_L ad dA [.ref (ad 0), .int x1, .int x2, .int x3, .int x4] σ) (pr_Qv D pr_cl prx_L ad dA A res) 0 0 A) (σ : pr_St) (x1 : Int32) (x2 : Int32) (x3 : Int32) (x4 : Int32) (x5 : Int32) (res : pr_St) (hf : prf_X_statement5 rc σ x1 x2 x3 x4 x5 = some res) : Met l pry_X_statement5 (Cond.code pry_X_statement5 prb_X_statement5 10 none :: pr_U) (pr_rm h) (pr_Pc (prY ad v r A) D pr_cl prx_L ad dA [.ref (ad 0), .int x1, .int x2, .int x3, .int x4, .int x5] σ) (pr_Qv D pr_cl prx_L ad dA A res) 0 0 A := by
  refine pr_entry (cc := prb_X_statement5) (maxL := 10) (ret := none) (by decide) (Nat.le_of_ble_eq_true rfl) hD hX ?_
  intro p e s m args below meth c E H locs hP hS ls hl
  have hl : lv_has ls 10 [(0, .ref (ad 0)), (1, .int x1), (2, .int x2), (3, .int x3), (4, .int x4), (5, .int x5)] := hl
  have hf := hf.symm
  unfold prf_X_statement5 at hf
  obtain ⟨hx, hb, hml, hown, hts, hr, hlocks, hK, hD, hX, hXs⟩ := id E
  refine lv_aload_n hx hb prd_X_statement5_0 rfl (lv_at hl 0 rfl) ?_
  refine pr_geti (v := (σ.1 0 33)) hx hb hts prs_X hown hK hP 0 33 (by decide) rfl (hts _ prw_822) rfl rfl prd_X_statement5_1 ?_
  refine lv_sipush (v := 249) hx hb prd_X_statement5_4 (by decide) ?_
  refine lv_icmp_ne (tgt := 19) hx hb prd_X_statement5_7 (by decide) (fun c266 => ?_) (fun c266 => ?_)
  · have hf := pr_ie c266 hf
    refine lv_aload_n hx hb prd_X_statement5_19 rfl (lv_at hl 0 rfl) ?_
    refine pr_geti (v := (σ.1 0 33)) hx hb hts prs_X hown hK hP 0 33 (by decide) rfl (hts _ prw_822) rfl rfl prd_X_statement5_20 ?_
    refine lv_istore (lv' := [(6, .int (σ.1 0 33)), (0, .ref (ad 0)), (1, .int x1), (2, .int x2), (3, .int x3), (4, .int x4), (5, .int x5)]) hx hb prd_X_statement5_23 hl (by decide) rfl (fun ls hl => ?_)
    refine lv_aload_n hx hb prd_X_statement5_25 rfl (lv_at hl 1 rfl) ?_
    refine lv_dup hx hb prd_X_statement5_26 rfl ?_
    refine pr_geti (v := (σ.1 0 33)) hx hb hts prs_X hown hK hP 0 33 (by decide) rfl (hts _ prw_822) rfl rfl prd_X_statement5_27 ?_
    refine lv_iconst (v := 1) hx hb prd_X_statement5_30 (by decide) ?_
    refine lv_iadd hx hb prd_X_statement5_31 ?_
    refine pr_puti (ty := .int) hx hb hts prs_X prq_X prtt_X prtn_X hown hK hP (hD _) hS 0 33 (by decide) rfl (hts _ prw_822) rfl rfl (prtt_X 33 (by decide)) rfl rfl prd_X_statement5_32 (fun H locs hP hS => ?_)
    refine lv_aload_n hx hb prd_X_statement5_35 rfl (lv_at hl 1 rfl) ?_
    refine pr_getr (t := 20) hx hb hts prs_X hown hK hP 0 28 (by decide) rfl (hts _ prw_823) rfl prd_X_statement5_36 ?_
    refine lv_iload hx hb prd_X_statement5_39 (lv_at hl 0 rfl) ?_
    refine lv_iload_n hx hb prd_X_statement5_41 rfl (lv_at hl 2 rfl) ?_
    obtain ⟨hi267, hf⟩ := pr_ck_in hf
    refine pr_iast (f := (σ.2.1 20)) hx hb hK hP (hD _) hS 20 (by decide) rfl hi267 rfl prd_X_statement5_42 (fun H locs hP hS => ?_)
    refine lv_aload_n hx hb prd_X_statement5_43 rfl (lv_at hl 1 rfl) ?_
    refine pr_getr (t := 21) hx hb hts prs_X hown hK hP 0 29 (by decide) rfl (hts _ prw_824) rfl prd_X_statement5_44 ?_
    refine lv_iload hx hb prd_X_statement5_47 (lv_at hl 0 rfl) ?_
    refine lv_iload hx hb prd_X_statement5_49 (lv_at hl 5 rfl) ?_
    obtain ⟨hi268, hf⟩ := pr_ck_in hf
    refine pr_iast (f := (σ.2.1 21)) hx hb hK hP (hD _) hS 21 (by decide) rfl hi268 rfl prd_X_statement5_51 (fun H locs hP hS => ?_)
    refine lv_aload_n hx hb prd_X_statement5_52 rfl (lv_at hl 1 rfl) ?_
    refine pr_getr (t := 23) hx hb hts prs_X hown hK hP 0 31 (by decide) rfl (hts _ prw_826) rfl prd_X_statement5_53 ?_
    refine lv_iload hx hb prd_X_statement5_56 (lv_at hl 0 rfl) ?_
    refine lv_aload_n hx hb prd_X_statement5_58 rfl (lv_at hl 1 rfl) ?_
    refine pr_geti (v := (σ.1 0 45)) hx hb hts prs_X hown hK hP 0 45 (by decide) rfl (hts _ prw_1038) rfl rfl prd_X_statement5_59 ?_
    obtain ⟨hi269, hf⟩ := pr_ck_in hf
    refine pr_iast (f := (σ.2.1 23)) hx hb hK hP (hD _) hS 23 (by decide) rfl hi269 rfl prd_X_statement5_62 (fun H locs hP hS => ?_)
    refine lv_aload_n hx hb prd_X_statement5_63 rfl (lv_at hl 1 rfl) ?_
    refine pr_getr (t := 24) hx hb hts prs_X hown hK hP 0 32 (by decide) rfl (hts _ prw_827) rfl prd_X_statement5_64 ?_
    refine lv_iload hx hb prd_X_statement5_67 (lv_at hl 0 rfl) ?_
    refine lv_aload_n hx hb prd_X_statement5_69 rfl (lv_at hl 1 rfl) ?_
    refine pr_geti (v := (σ.1 0 46)) hx hb hts prs_X hown hK hP 0 46 (by decide) rfl (hts _ prw_1048) rfl rfl prd_X_statement5_70 ?_
    obtain ⟨hi270, hf⟩ := pr_ck_in hf
    refine pr_iast (f := (σ.2.1 24)) hx hb hK hP (hD _) hS 24 (by decide) rfl hi270 rfl prd_X_statement5_73 (fun H locs hP hS => ?_)
    refine lv_aload_n hx hb prd_X_statement5_74 rfl (lv_at hl 1 rfl) ?_
    refine pr_getr (t := 25) hx hb hts prs_X hown hK hP 0 34 (by decide) rfl (hts _ prw_1049) rfl prd_X_statement5_75 ?_
    refine lv_iload hx hb prd_X_statement5_78 (lv_at hl 0 rfl) ?_
    refine lv_aload_n hx hb prd_X_statement5_80 rfl (lv_at hl 1 rfl) ?_
    refine pr_geti (v := (σ.1 0 42)) hx hb hts prs_X hown hK hP 0 42 (by decide) rfl (hts _ prw_996) rfl rfl prd_X_statement5_81 ?_
    refine lv_aload_n hx hb prd_X_statement5_84 rfl (lv_at hl 1 rfl) ?_
    refine pr_geti (v := (σ.1 0 43)) hx hb hts prs_X hown hK hP 0 43 (by decide) rfl (hts _ prw_995) rfl rfl prd_X_statement5_85 ?_
    refine lv_isub hx hb prd_X_statement5_88 ?_
    obtain ⟨hi271, hf⟩ := pr_ck_in hf
    refine pr_iast (f := (σ.2.1 25)) hx hb hK hP (hD _) hS 25 (by decide) rfl hi271 rfl prd_X_statement5_89 (fun H locs hP hS => ?_)
    refine lv_aload_n hx hb prd_X_statement5_90 rfl (lv_at hl 1 rfl) ?_
    refine pr_geti (v := (σ.1 0 43)) hx hb hts prs_X hown hK hP 0 43 (by decide) rfl (hts _ prw_995) rfl rfl prd_X_statement5_91 ?_
    refine lv_istore (lv' := [(7, .int (σ.1 0 43)), (6, .int (σ.1 0 33)), (0, .ref (ad 0)), (1, .int x1), (2, .int x2), (3, .int x3), (4, .int x4), (5, .int x5)]) hx hb prd_X_statement5_94 hl (by decide) rfl (fun ls hl => ?_)
    exact prk_X_statement5_96 hd hb0 hh E Hrc0 pr_FU (pr_sA (pr_sA (pr_sA (pr_sA (pr_sA (pr_sI σ 0 33 ((σ.1 0 33) + 1)) 20 (upd (σ.2.1 20) (σ.1 0 33).toNatClampNeg x1)) 21 (upd (σ.2.1 21) (σ.1 0 33).toNatClampNeg x4)) 23 (upd (σ.2.1 23) (σ.1 0 33).toNatClampNeg (σ.1 0 45))) 24 (upd (σ.2.1 24) (σ.1 0 33).toNatClampNeg (σ.1 0 46))) 25 (upd (σ.2.1 25) (σ.1 0 33).toNatClampNeg ((σ.1 0 42) - (σ.1 0 43)))) x1 x2 x3 x5 (σ.1 0 33) (σ.1 0 43) _ hf _ _ _ hP hS (lv_sub hl [2, 3, 4, 5, 7, 1, 0] rfl)
  · have hf := pr_it c266 hf
    refine lv_aload_n hx hb prd_X_statement5_10 rfl (lv_at hl 0 rfl) ?_
    refine lv_bipush (v := 11) hx hb prd_X_statement5_11 (by decide) ?_
    refine lv_iload_n hx hb prd_X_statement5_13 rfl (lv_at hl 1 rfl) ?_
    obtain ⟨r272, hr272, hf⟩ := pr_bi hf
    refine pr_callVi (rest := []) (res := r272) ⟨hx, hb, hml, hown, hts⟩ 0 (prc_X_wrong hD hX 0 (Nat.le_refl _) σ 11 x1 r272 hr272) (prg_X_wrong hts prw_999 (by have := hh; omega)) hX hXs hK hP hS (by decide) rfl rfl rfl rfl hl.1 (Nat.le_of_ble_eq_true rfl) prd_X_statement5_14 (fun H locs hP hS => ?_)
    refine lv_pop hx hb prd_X_statement5_17 rfl ?_
    exact pr_retv E hP hS (pr_so hf) prd_X_statement5_18
-- X_block4
set_option maxHeartbeats 4000000 in
set_option maxRecDepth 100000 in
theorem prk_X_block4_23 {l : Launch} {D : va_G} {ad : Nat → Nat} {dA : Nat → ClassId} {A : Nat → Prop} {v : Nat → Nat} {r : Value} {p : Program} {e : Env} {s : State} {m : MethodId} {args : Array Value} {below : List Frame} {meth : Method} {c : Code} (hd : Nat) (hb0 : 3 ≤ hd) {h : Nat} (hh : hd + 3 ≤ h) (E : pr_cx prn_X prb_X_block4 9 none D pr_cl prx_L ad dA A (prY ad v r A) p s m args meth c) {rc : pr_St → Int32 → Int32 → Int32 → Int32 → Option pr_St} (Hrc0 : ∀ (σ : pr_St) (x1 x2 x3 x4 : Int32) (res : pr_St), rc σ x1 x2 x3 x4 = some res → Met l pry_X_block4 (Cond.code pry_X_block4 prb_X_block4 9 none :: pr_U) (pr_rm hd) (pr_Pc (prY ad v r A) D pr_cl prx_L ad dA [.ref (ad 0), .int x1, .int x2, .int x3, .int x4] σ) (pr_Qv D pr_cl prx_L ad dA A res) 0 0 A) : ∀ n : Nat, ∀ (σ : pr_St) (x1 : Int32) (x2 : Int32) (x3 : Int32) (x4 : Int32) (x5 : Int32) (x6 : Int32) (x7 : Int32) (x8 : Int32) (res : pr_St), some res = prf_X_block4_23 rc n σ x1 x2 x3 x4 x5 x6 x7 x8 → ∀ (H : Heap) (locs : List Loc) (ls : Array Slot), va_P D pr_cl (pr_w prx_L ad dA σ) H → va_S A s.heap H locs → lv_has ls 9 [(0, .ref (ad 0)), (1, .int x1), (2, .int x2), (3, .int x3), (4, .int x4), (5, .int x5), (6, .int x6), (7, .int x7), (8, .int x8)] → W p l e (pr_rm h) s m args below meth c H locs 0 0 (MQ below (pr_Qv D pr_cl prx_L ad dA A res) args s 0 0 A) (F0 m 23 ls []) := by
  obtain ⟨hx, hb, hml, hown, hts, hr, hlocks, hK, hD, hX, hXs⟩ := id E
  intro n
  induction n with
  | zero =>
    intro σ x1 x2 x3 x4 x5 x6 x7 x8 res hf
    rw [prf_X_block4_23] at hf
    cases hf
  | succ n ih =>
    intro σ x1 x2 x3 x4 x5 x6 x7 x8 res hf H locs ls hP hS hl
    rw [prf_X_block4_23] at hf
    refine lv_iload hx hb prd_X_block4_23 (lv_at hl 8 rfl) ?_
    refine lv_aload_n hx hb prd_X_block4_25 rfl (lv_at hl 0 rfl) ?_
    refine lv_iload_n hx hb prd_X_block4_26 rfl (lv_at hl 1 rfl) ?_
    obtain ⟨r6, hr6, hf⟩ := pr_bi hf
    refine pr_callVr (rest := [.int x8]) (r := r6) ⟨hx, hb, hml, hown, hts⟩ 0 (prc_X_behind hD hX 0 (Nat.le_refl _) σ x1 r6 hr6) (prg_X_behind hts prw_1003 (by have := hh; omega)) hX hXs hK hP hS (by decide) rfl rfl rfl rfl hl.1 (Nat.le_of_ble_eq_true rfl) prd_X_block4_27 (fun H locs hP hS => ?_)
    refine lv_icmp_ge (tgt := 62) hx hb prd_X_block4_30 (by decide) (fun c7 => ?_) (fun c7 => ?_)
    · have hf := pr_it c7 hf
      refine lv_aload_n hx hb prd_X_block4_62 rfl (lv_at hl 0 rfl) ?_
      refine lv_iload hx hb prd_X_block4_63 (lv_at hl 5 rfl) ?_
      refine pr_puti (ty := .int) hx hb hts prs_X prq_X prtt_X prtn_X hown hK hP (hD _) hS 0 42 (by decide) rfl (hts _ prw_996) rfl rfl (prtt_X 42 (by decide)) rfl rfl prd_X_block4_65 (fun H locs hP hS => ?_)
      refine lv_aload_n hx hb prd_X_block4_68 rfl (lv_at hl 0 rfl) ?_
      refine lv_iload hx hb prd_X_block4_69 (lv_at hl 6 rfl) ?_
      refine pr_puti (ty := .int) hx hb hts prs_X prq_X prtt_X prtn_X hown hK hP (hD _) hS 0 45 (by decide) rfl (hts _ prw_1038) rfl rfl (prtt_X 45 (by decide)) rfl rfl prd_X_block4_71 (fun H locs hP hS => ?_)
      refine lv_aload_n hx hb prd_X_block4_74 rfl (lv_at hl 0 rfl) ?_
      refine lv_iload hx hb prd_X_block4_75 (lv_at hl 7 rfl) ?_
      refine pr_puti (ty := .int) hx hb hts prs_X prq_X prtt_X prtn_X hown hK hP (hD _) hS 0 46 (by decide) rfl (hts _ prw_1048) rfl rfl (prtt_X 46 (by decide)) rfl rfl prd_X_block4_77 (fun H locs hP hS => ?_)
      exact pr_retv E hP hS (pr_so hf) prd_X_block4_80
    · have hf := pr_ie c7 hf
      refine lv_aload_n hx hb prd_X_block4_33 rfl (lv_at hl 0 rfl) ?_
      refine pr_geti (v := (σ.1 0 47)) hx hb hts prs_X hown hK hP 0 47 (by decide) rfl (hts _ prw_987) rfl rfl prd_X_block4_34 ?_
      refine lv_if_ne (tgt := 62) hx hb prd_X_block4_37 (by decide) (fun c8 => ?_) (fun c8 => ?_)
      · have hf := pr_ie c8 hf
        refine lv_aload_n hx hb prd_X_block4_62 rfl (lv_at hl 0 rfl) ?_
        refine lv_iload hx hb prd_X_block4_63 (lv_at hl 5 rfl) ?_
        refine pr_puti (ty := .int) hx hb hts prs_X prq_X prtt_X prtn_X hown hK hP (hD _) hS 0 42 (by decide) rfl (hts _ prw_996) rfl rfl (prtt_X 42 (by decide)) rfl rfl prd_X_block4_65 (fun H locs hP hS => ?_)
        refine lv_aload_n hx hb prd_X_block4_68 rfl (lv_at hl 0 rfl) ?_
        refine lv_iload hx hb prd_X_block4_69 (lv_at hl 6 rfl) ?_
        refine pr_puti (ty := .int) hx hb hts prs_X prq_X prtt_X prtn_X hown hK hP (hD _) hS 0 45 (by decide) rfl (hts _ prw_1038) rfl rfl (prtt_X 45 (by decide)) rfl rfl prd_X_block4_71 (fun H locs hP hS => ?_)
        refine lv_aload_n hx hb prd_X_block4_74 rfl (lv_at hl 0 rfl) ?_
        refine lv_iload hx hb prd_X_block4_75 (lv_at hl 7 rfl) ?_
        refine pr_puti (ty := .int) hx hb hts prs_X prq_X prtt_X prtn_X hown hK hP (hD _) hS 0 46 (by decide) rfl (hts _ prw_1048) rfl rfl (prtt_X 46 (by decide)) rfl rfl prd_X_block4_77 (fun H locs hP hS => ?_)
        exact pr_retv E hP hS (pr_so hf) prd_X_block4_80
      · have hf := pr_it c8 hf
        refine lv_aload_n hx hb prd_X_block4_40 rfl (lv_at hl 0 rfl) ?_
        refine lv_iload hx hb prd_X_block4_41 (lv_at hl 8 rfl) ?_
        refine lv_iload_n hx hb prd_X_block4_43 rfl (lv_at hl 1 rfl) ?_
        refine lv_iload_n hx hb prd_X_block4_44 rfl (lv_at hl 2 rfl) ?_
        refine lv_iload_n hx hb prd_X_block4_45 rfl (lv_at hl 3 rfl) ?_
        refine lv_iload hx hb prd_X_block4_46 (lv_at hl 4 rfl) ?_
        obtain ⟨r9, hr9, hf⟩ := pr_bi hf
        refine pr_callVv (rest := []) (res := r9) ⟨hx, hb, hml, hown, hts⟩ 0 (prc_X_statement5 hD hX hd hb0 (hd + 2) (Nat.le_refl _) Hrc0 σ x8 x1 x2 x3 x4 r9 hr9) (prg_X_statement5 hts prw_1059 (by have := hh; omega)) hX hXs hK hP hS (by decide) rfl rfl rfl rfl hl.1 (Nat.le_of_ble_eq_true rfl) prd_X_block4_48 (fun H locs hP hS => ?_)
        refine lv_aload_n hx hb prd_X_block4_51 rfl (lv_at hl 0 rfl) ?_
        refine lv_iload hx hb prd_X_block4_52 (lv_at hl 8 rfl) ?_
        obtain ⟨r10, hr10, hf⟩ := pr_bi hf
        refine pr_callVr (rest := []) (r := r10) ⟨hx, hb, hml, hown, hts⟩ 0 (prc_X_behind hD hX 0 (Nat.le_refl _) r9 x8 r10 hr10) (prg_X_behind hts prw_1003 (by have := hh; omega)) hX hXs hK hP hS (by decide) rfl rfl rfl rfl hl.1 (Nat.le_of_ble_eq_true rfl) prd_X_block4_54 (fun H locs hP hS => ?_)
        refine lv_istore (lv' := [(8, .int r10), (0, .ref (ad 0)), (1, .int x1), (2, .int x2), (3, .int x3), (4, .int x4), (5, .int x5), (6, .int x6), (7, .int x7)]) hx hb prd_X_block4_57 hl (by decide) rfl (fun ls hl => ?_)
        refine lv_goto (tgt := 23) hx hb prd_X_block4_59 (by decide) ?_
        exact ih r9 x1 x2 x3 x4 x5 x6 x7 r10 _ hf _ _ _ hP hS (lv_sub hl [1, 2, 3, 4, 5, 6, 7, 8, 0] rfl)
set_option maxHeartbeats 4000000 in
set_option maxRecDepth 100000 in
theorem prc_X_block4 {l : Launch} {D : va_G} {ad : Nat → Nat} {dA : Nat → ClassId} {A : Nat → Prop} {v : Nat → Nat} {r : Value} (hD : ∀ σ : pr_St, va_D A (pr_w prx_L ad dA σ)) (hX : pr_Xok A (prY ad v r A)) (hd : Nat) (hb0 : 3 ≤ hd) (h : Nat) (hh : hd + 3 ≤ h) {rc : pr_St → Int32 → Int32 → Int32 → Int32 → Option pr_St} (Hrc0 : ∀ (σ : pr_St) (x1 x2 x3 x4 : Int32) (res : pr_St), rc σ x1 x2 x3 x4 = some res → Met l pry_X_block4 (Cond.code pry_X_block4 prb_X_block4 9 none :: pr_U) (pr_rm hd) (pr_Pc (prY ad v r A) D pr_cl prx_L ad dA [.ref (ad 0), .int x1, .int x2, .int x3, .int x4] σ) (pr_Qv D pr_cl prx_L ad dA A res) 0 0 A) (σ : pr_St) (x1 : Int32) (x2 : Int32) (x3 : Int32) (x4 : Int32) (res : pr_St) (hf : prf_X_block4 rc σ x1 x2 x3 x4 = some res) : Met l pry_X_block4 (Cond.code pry_X_block4 prb_X_block4 9 none :: pr_U) (pr_rm h) (pr_Pc (prY ad v r A) D pr_cl prx_L ad dA [.ref (ad 0), .int x1, .int x2, .int x3, .int x4] σ) (pr_Qv D pr_cl prx_L ad dA A res) 0 0 A := by
  refine pr_entry (cc := prb_X_block4) (maxL := 9) (ret := none) (by decide) (Nat.le_of_ble_eq_true rfl) hD hX ?_
  intro p e s m args below meth c E H locs hP hS ls hl
  have hl : lv_has ls 9 [(0, .ref (ad 0)), (1, .int x1), (2, .int x2), (3, .int x3), (4, .int x4)] := hl
  have hf := hf.symm
  unfold prf_X_block4 at hf
  obtain ⟨hx, hb, hml, hown, hts, hr, hlocks, hK, hD, hX, hXs⟩ := id E
  refine lv_aload_n hx hb prd_X_block4_0 rfl (lv_at hl 0 rfl) ?_
  refine pr_geti (v := (σ.1 0 42)) hx hb hts prs_X hown hK hP 0 42 (by decide) rfl (hts _ prw_996) rfl rfl prd_X_block4_1 ?_
  refine lv_istore (lv' := [(5, .int (σ.1 0 42)), (0, .ref (ad 0)), (1, .int x1), (2, .int x2), (3, .int x3), (4, .int x4)]) hx hb prd_X_block4_4 hl (by decide) rfl (fun ls hl => ?_)
  refine lv_aload_n hx hb prd_X_block4_6 rfl (lv_at hl 1 rfl) ?_
  refine pr_geti (v := (σ.1 0 45)) hx hb hts prs_X hown hK hP 0 45 (by decide) rfl (hts _ prw_1038) rfl rfl prd_X_block4_7 ?_
  refine lv_istore (lv' := [(6, .int (σ.1 0 45)), (5, .int (σ.1 0 42)), (0, .ref (ad 0)), (1, .int x1), (2, .int x2), (3, .int x3), (4, .int x4)]) hx hb prd_X_block4_10 hl (by decide) rfl (fun ls hl => ?_)
  refine lv_aload_n hx hb prd_X_block4_12 rfl (lv_at hl 2 rfl) ?_
  refine pr_geti (v := (σ.1 0 46)) hx hb hts prs_X hown hK hP 0 46 (by decide) rfl (hts _ prw_1048) rfl rfl prd_X_block4_13 ?_
  refine lv_istore (lv' := [(7, .int (σ.1 0 46)), (6, .int (σ.1 0 45)), (5, .int (σ.1 0 42)), (0, .ref (ad 0)), (1, .int x1), (2, .int x2), (3, .int x3), (4, .int x4)]) hx hb prd_X_block4_16 hl (by decide) rfl (fun ls hl => ?_)
  refine lv_iload_n hx hb prd_X_block4_18 rfl (lv_at hl 4 rfl) ?_
  refine lv_iconst (v := 1) hx hb prd_X_block4_19 (by decide) ?_
  refine lv_iadd hx hb prd_X_block4_20 ?_
  refine lv_istore (lv' := [(8, .int (x1 + 1)), (7, .int (σ.1 0 46)), (6, .int (σ.1 0 45)), (5, .int (σ.1 0 42)), (0, .ref (ad 0)), (1, .int x1), (2, .int x2), (3, .int x3), (4, .int x4)]) hx hb prd_X_block4_21 hl (by decide) rfl (fun ls hl => ?_)
  exact prk_X_block4_23 hd hb0 hh E Hrc0 pr_FU σ x1 x2 x3 x4 (σ.1 0 42) (σ.1 0 45) (σ.1 0 46) (x1 + 1) _ hf _ _ _ hP hS (lv_sub hl [4, 5, 6, 7, 8, 3, 2, 1, 0] rfl)
-- prF_X_block4
set_option maxHeartbeats 4000000 in
theorem prF_X_block4_ok {l : Launch} {D : va_G} {ad : Nat → Nat} {dA : Nat → ClassId} {A : Nat → Prop} {v : Nat → Nat} {r : Value} (hD : ∀ σ : pr_St, va_D A (pr_w prx_L ad dA σ)) (hX : pr_Xok A (prY ad v r A)) : ∀ n : Nat, (∀ (σ : pr_St) (x1 x2 x3 x4 : Int32) (res : pr_St), prF_X_block4 n σ x1 x2 x3 x4 = some res → Met l pry_X_block4 (Cond.code pry_X_block4 prb_X_block4 9 none :: pr_U) (pr_rm (3 + 3 * n)) (pr_Pc (prY ad v r A) D pr_cl prx_L ad dA [.ref (ad 0), .int x1, .int x2, .int x3, .int x4] σ) (pr_Qv D pr_cl prx_L ad dA A res) 0 0 A) := by
  intro n
  induction n with
  | zero => exact (fun σ x1 x2 x3 x4 res hf => by cases hf)
  | succ n ih =>
    have i0 := ih
    exact fun σ x1 x2 x3 x4 res hf => prc_X_block4 hD hX (3 + 3 * n) (by omega) (3 + 3 * (n + 1)) (by omega) i0 σ x1 x2 x3 x4 res hf
theorem prct_X_call {l : Launch} {D : va_G} {ad : Nat → Nat} {dA : Nat → ClassId} {A : Nat → Prop} {v : Nat → Nat} {r : Value} (hD : ∀ σ : pr_St, va_D A (pr_w prx_L ad dA σ)) (hX : pr_Xok A (prY ad v r A)) (σ : pr_St) (x1 x2 : Int32) (res : pr_St) (hf : prf_X_call (prF_X_block4 260) σ x1 x2 = some res) : Met l pry_X_call (Cond.code pry_X_call prb_X_call 13 none :: pr_U) (pr_rm 784) (pr_Pc (prY ad v r A) D pr_cl prx_L ad dA [.ref (ad 0), .int x1, .int x2] σ) (pr_Qv D pr_cl prx_L ad dA A res) 0 0 A :=
  prc_X_call hD hX (3 + 3 * 260) (by decide) 784 (by decide) (prF_X_block4_ok hD hX 260) σ x1 x2 res hf
theorem prct_X_statement5 {l : Launch} {D : va_G} {ad : Nat → Nat} {dA : Nat → ClassId} {A : Nat → Prop} {v : Nat → Nat} {r : Value} (hD : ∀ σ : pr_St, va_D A (pr_w prx_L ad dA σ)) (hX : pr_Xok A (prY ad v r A)) (σ : pr_St) (x1 x2 x3 x4 x5 : Int32) (res : pr_St) (hf : prf_X_statement5 (prF_X_block4 260) σ x1 x2 x3 x4 x5 = some res) : Met l pry_X_statement5 (Cond.code pry_X_statement5 prb_X_statement5 10 none :: pr_U) (pr_rm 785) (pr_Pc (prY ad v r A) D pr_cl prx_L ad dA [.ref (ad 0), .int x1, .int x2, .int x3, .int x4, .int x5] σ) (pr_Qv D pr_cl prx_L ad dA A res) 0 0 A :=
  prc_X_statement5 hD hX (3 + 3 * 260) (by decide) 785 (by decide) (prF_X_block4_ok hD hX 260) σ x1 x2 x3 x4 x5 res hf
theorem prct_X_block4 {l : Launch} {D : va_G} {ad : Nat → Nat} {dA : Nat → ClassId} {A : Nat → Prop} {v : Nat → Nat} {r : Value} (hD : ∀ σ : pr_St, va_D A (pr_w prx_L ad dA σ)) (hX : pr_Xok A (prY ad v r A)) (σ : pr_St) (x1 x2 x3 x4 : Int32) (res : pr_St) (hf : prf_X_block4 (prF_X_block4 260) σ x1 x2 x3 x4 = some res) : Met l pry_X_block4 (Cond.code pry_X_block4 prb_X_block4 9 none :: pr_U) (pr_rm 786) (pr_Pc (prY ad v r A) D pr_cl prx_L ad dA [.ref (ad 0), .int x1, .int x2, .int x3, .int x4] σ) (pr_Qv D pr_cl prx_L ad dA A res) 0 0 A :=
  prc_X_block4 hD hX (3 + 3 * 260) (by decide) 786 (by decide) (prF_X_block4_ok hD hX 260) σ x1 x2 x3 x4 res hf
-- X_layout
set_option maxHeartbeats 4000000 in
set_option maxRecDepth 100000 in
theorem prk_X_layout_4 {l : Launch} {D : va_G} {ad : Nat → Nat} {dA : Nat → ClassId} {A : Nat → Prop} {v : Nat → Nat} {r : Value} {p : Program} {e : Env} {s : State} {m : MethodId} {args : Array Value} {below : List Frame} {meth : Method} {c : Code} {h : Nat} (hh : 787 ≤ h) (E : pr_cx prn_X prb_X_layout 3 none D pr_cl prx_L ad dA A (prY ad v r A) p s m args meth c) : ∀ n : Nat, ∀ (σ : pr_St) (x1 : Int32) (x2 : Int32) (res : pr_St), some res = prf_X_layout_4 n σ x1 x2 → ∀ (H : Heap) (locs : List Loc) (ls : Array Slot), va_P D pr_cl (pr_w prx_L ad dA σ) H → va_S A s.heap H locs → lv_has ls 3 [(0, .ref (ad 0)), (1, .int x1), (2, .int x2)] → W p l e (pr_rm h) s m args below meth c H locs 0 0 (MQ below (pr_Qv D pr_cl prx_L ad dA A res) args s 0 0 A) (F0 m 4 ls []) := by
  obtain ⟨hx, hb, hml, hown, hts, hr, hlocks, hK, hD, hX, hXs⟩ := id E
  intro n
  induction n with
  | zero =>
    intro σ x1 x2 res hf
    rw [prf_X_layout_4] at hf
    cases hf
  | succ n ih =>
    intro σ x1 x2 res hf H locs ls hP hS hl
    rw [prf_X_layout_4] at hf
    refine lv_iload_n hx hb prd_X_layout_4 rfl (lv_at hl 2 rfl) ?_
    refine lv_aload_n hx hb prd_X_layout_5 rfl (lv_at hl 0 rfl) ?_
    refine pr_geti (v := (σ.1 0 24)) hx hb hts prs_X hown hK hP 0 24 (by decide) rfl (hts _ prw_836) rfl rfl prd_X_layout_6 ?_
    refine lv_icmp_ge (tgt := 23) hx hb prd_X_layout_9 (by decide) (fun c15 => ?_) (fun c15 => ?_)
    · have hf := pr_it c15 hf
      refine lv_aload_n hx hb prd_X_layout_23 rfl (lv_at hl 0 rfl) ?_
      refine lv_iconst (v := 0) hx hb prd_X_layout_24 (by decide) ?_
      refine pr_puti (ty := .int) hx hb hts prs_X prq_X prtt_X prtn_X hown hK hP (hD _) hS 0 33 (by decide) rfl (hts _ prw_822) rfl rfl (prtt_X 33 (by decide)) rfl rfl prd_X_layout_25 (fun H locs hP hS => ?_)
      refine lv_aload_n hx hb prd_X_layout_28 rfl (lv_at hl 0 rfl) ?_
      refine lv_iconst (v := 0) hx hb prd_X_layout_29 (by decide) ?_
      refine pr_puti (ty := .int) hx hb hts prs_X prq_X prtt_X prtn_X hown hK hP (hD _) hS 0 42 (by decide) rfl (hts _ prw_996) rfl rfl (prtt_X 42 (by decide)) rfl rfl prd_X_layout_30 (fun H locs hP hS => ?_)
      refine lv_aload_n hx hb prd_X_layout_33 rfl (lv_at hl 0 rfl) ?_
      refine lv_iconst (v := 0) hx hb prd_X_layout_34 (by decide) ?_
      refine pr_puti (ty := .int) hx hb hts prs_X prq_X prtt_X prtn_X hown hK hP (hD _) hS 0 43 (by decide) rfl (hts _ prw_995) rfl rfl (prtt_X 43 (by decide)) rfl rfl prd_X_layout_35 (fun H locs hP hS => ?_)
      refine lv_aload_n hx hb prd_X_layout_38 rfl (lv_at hl 0 rfl) ?_
      refine lv_iconst (v := 0) hx hb prd_X_layout_39 (by decide) ?_
      refine pr_puti (ty := .int) hx hb hts prs_X prq_X prtt_X prtn_X hown hK hP (hD _) hS 0 44 (by decide) rfl (hts _ prw_1039) rfl rfl (prtt_X 44 (by decide)) rfl rfl prd_X_layout_40 (fun H locs hP hS => ?_)
      refine lv_aload_n hx hb prd_X_layout_43 rfl (lv_at hl 0 rfl) ?_
      refine lv_iconst (v := 0) hx hb prd_X_layout_44 (by decide) ?_
      refine pr_puti (ty := .int) hx hb hts prs_X prq_X prtt_X prtn_X hown hK hP (hD _) hS 0 45 (by decide) rfl (hts _ prw_1038) rfl rfl (prtt_X 45 (by decide)) rfl rfl prd_X_layout_45 (fun H locs hP hS => ?_)
      refine lv_aload_n hx hb prd_X_layout_48 rfl (lv_at hl 0 rfl) ?_
      refine lv_iconst (v := 0) hx hb prd_X_layout_49 (by decide) ?_
      refine pr_puti (ty := .int) hx hb hts prs_X prq_X prtt_X prtn_X hown hK hP (hD _) hS 0 46 (by decide) rfl (hts _ prw_1048) rfl rfl (prtt_X 46 (by decide)) rfl rfl prd_X_layout_50 (fun H locs hP hS => ?_)
      refine lv_aload_n hx hb prd_X_layout_53 rfl (lv_at hl 0 rfl) ?_
      refine pr_getr (t := 13) hx hb hts prs_X hown hK hP 0 19 (by decide) rfl (hts _ prw_835) rfl prd_X_layout_54 ?_
      refine lv_iload_n hx hb prd_X_layout_57 rfl (lv_at hl 1 rfl) ?_
      refine lv_iconst (v := 2) hx hb prd_X_layout_58 (by decide) ?_
      refine lv_iadd hx hb prd_X_layout_59 ?_
      obtain ⟨hi16, hf⟩ := pr_ck_in hf
      refine pr_iald (f := (σ.2.1 13)) hx hb hK hP 13 (by decide) rfl hi16 rfl prd_X_layout_60 ?_
      refine lv_bipush (v := 13) hx hb prd_X_layout_61 (by decide) ?_
      refine lv_icmp_ne (tgt := 77) hx hb prd_X_layout_63 (by decide) (fun c17 => ?_) (fun c17 => ?_)
      · have hf := pr_ie c17 hf
        refine lv_aload_n hx hb prd_X_layout_77 rfl (lv_at hl 0 rfl) ?_
        refine lv_aload_n hx hb prd_X_layout_78 rfl (lv_at hl 0 rfl) ?_
        refine lv_iload_n hx hb prd_X_layout_79 rfl (lv_at hl 1 rfl) ?_
        obtain ⟨r18, hr18, hf⟩ := pr_bi hf
        refine pr_callVr (rest := [.ref (ad 0)]) (r := r18) ⟨hx, hb, hml, hown, hts⟩ 0 (prc_X_blockOf hD hX 0 (Nat.le_refl _) (pr_sI (pr_sI (pr_sI (pr_sI (pr_sI (pr_sI σ 0 33 0) 0 42 0) 0 43 0) 0 44 0) 0 45 0) 0 46 0) x1 r18 hr18) (prg_X_blockOf hts prw_1032 (by have := hh; omega)) hX hXs hK hP hS (by decide) rfl rfl rfl rfl hl.1 (Nat.le_of_ble_eq_true rfl) prd_X_layout_80 (fun H locs hP hS => ?_)
        refine lv_iload_n hx hb prd_X_layout_83 rfl (lv_at hl 1 rfl) ?_
        refine lv_iconst (v := (-1)) hx hb prd_X_layout_84 (by decide) ?_
        refine lv_iconst (v := 0) hx hb prd_X_layout_85 (by decide) ?_
        obtain ⟨r19, hr19, hf⟩ := pr_bi hf
        refine pr_callVv (rest := []) (res := r19) ⟨hx, hb, hml, hown, hts⟩ 0 (prct_X_block4 hD hX (pr_sI (pr_sI (pr_sI (pr_sI (pr_sI (pr_sI σ 0 33 0) 0 42 0) 0 43 0) 0 44 0) 0 45 0) 0 46 0) r18 x1 (-1) 0 r19 hr19) (prg_X_block4 hts prw_1041 (by have := hh; omega)) hX hXs hK hP hS (by decide) rfl rfl rfl rfl hl.1 (Nat.le_of_ble_eq_true rfl) prd_X_layout_86 (fun H locs hP hS => ?_)
        refine lv_aload_n hx hb prd_X_layout_89 rfl (lv_at hl 0 rfl) ?_
        refine pr_geti (v := (r19.1 0 47)) hx hb hts prs_X hown hK hP 0 47 (by decide) rfl (hts _ prw_987) rfl rfl prd_X_layout_90 ?_
        refine lv_if_ne (tgt := 171) hx hb prd_X_layout_93 (by decide) (fun c20 => ?_) (fun c20 => ?_)
        · have hf := pr_ie c20 hf
          exact pr_retv E hP hS (pr_so hf) prd_X_layout_171
        · have hf := pr_it c20 hf
          refine lv_aload_n hx hb prd_X_layout_96 rfl (lv_at hl 0 rfl) ?_
          refine pr_getr (t := 20) hx hb hts prs_X hown hK hP 0 28 (by decide) rfl (hts _ prw_823) rfl prd_X_layout_97 ?_
          refine lv_aload_n hx hb prd_X_layout_100 rfl (lv_at hl 0 rfl) ?_
          refine pr_geti (v := (r19.1 0 33)) hx hb hts prs_X hown hK hP 0 33 (by decide) rfl (hts _ prw_822) rfl rfl prd_X_layout_101 ?_
          refine lv_iconst (v := (-1)) hx hb prd_X_layout_104 (by decide) ?_
          obtain ⟨hi21, hf⟩ := pr_ck_in hf
          refine pr_iast (f := (r19.2.1 20)) hx hb hK hP (hD _) hS 20 (by decide) rfl hi21 rfl prd_X_layout_105 (fun H locs hP hS => ?_)
          refine lv_aload_n hx hb prd_X_layout_106 rfl (lv_at hl 0 rfl) ?_
          refine pr_getr (t := 21) hx hb hts prs_X hown hK hP 0 29 (by decide) rfl (hts _ prw_824) rfl prd_X_layout_107 ?_
          refine lv_aload_n hx hb prd_X_layout_110 rfl (lv_at hl 0 rfl) ?_
          refine pr_geti (v := (r19.1 0 33)) hx hb hts prs_X hown hK hP 0 33 (by decide) rfl (hts _ prw_822) rfl rfl prd_X_layout_111 ?_
          refine lv_iconst (v := (-1)) hx hb prd_X_layout_114 (by decide) ?_
          obtain ⟨hi22, hf⟩ := pr_ck_in hf
          refine pr_iast (f := (r19.2.1 21)) hx hb hK hP (hD _) hS 21 (by decide) rfl hi22 rfl prd_X_layout_115 (fun H locs hP hS => ?_)
          refine lv_aload_n hx hb prd_X_layout_116 rfl (lv_at hl 0 rfl) ?_
          refine pr_getr (t := 23) hx hb hts prs_X hown hK hP 0 31 (by decide) rfl (hts _ prw_826) rfl prd_X_layout_117 ?_
          refine lv_aload_n hx hb prd_X_layout_120 rfl (lv_at hl 0 rfl) ?_
          refine pr_geti (v := (r19.1 0 33)) hx hb hts prs_X hown hK hP 0 33 (by decide) rfl (hts _ prw_822) rfl rfl prd_X_layout_121 ?_
          refine lv_iconst (v := 0) hx hb prd_X_layout_124 (by decide) ?_
          obtain ⟨hi23, hf⟩ := pr_ck_in hf
          refine pr_iast (f := (r19.2.1 23)) hx hb hK hP (hD _) hS 23 (by decide) rfl hi23 rfl prd_X_layout_125 (fun H locs hP hS => ?_)
          refine lv_aload_n hx hb prd_X_layout_126 rfl (lv_at hl 0 rfl) ?_
          refine pr_getr (t := 24) hx hb hts prs_X hown hK hP 0 32 (by decide) rfl (hts _ prw_827) rfl prd_X_layout_127 ?_
          refine lv_aload_n hx hb prd_X_layout_130 rfl (lv_at hl 0 rfl) ?_
          refine pr_geti (v := (r19.1 0 33)) hx hb hts prs_X hown hK hP 0 33 (by decide) rfl (hts _ prw_822) rfl rfl prd_X_layout_131 ?_
          refine lv_iconst (v := 0) hx hb prd_X_layout_134 (by decide) ?_
          obtain ⟨hi24, hf⟩ := pr_ck_in hf
          refine pr_iast (f := (r19.2.1 24)) hx hb hK hP (hD _) hS 24 (by decide) rfl hi24 rfl prd_X_layout_135 (fun H locs hP hS => ?_)
          refine lv_aload_n hx hb prd_X_layout_136 rfl (lv_at hl 0 rfl) ?_
          refine pr_getr (t := 22) hx hb hts prs_X hown hK hP 0 30 (by decide) rfl (hts _ prw_825) rfl prd_X_layout_137 ?_
          refine lv_aload_n hx hb prd_X_layout_140 rfl (lv_at hl 0 rfl) ?_
          refine pr_geti (v := (r19.1 0 33)) hx hb hts prs_X hown hK hP 0 33 (by decide) rfl (hts _ prw_822) rfl rfl prd_X_layout_141 ?_
          refine lv_aload_n hx hb prd_X_layout_144 rfl (lv_at hl 0 rfl) ?_
          refine pr_geti (v := (r19.1 0 33)) hx hb hts prs_X hown hK hP 0 33 (by decide) rfl (hts _ prw_822) rfl rfl prd_X_layout_145 ?_
          refine lv_iconst (v := 1) hx hb prd_X_layout_148 (by decide) ?_
          refine lv_iadd hx hb prd_X_layout_149 ?_
          obtain ⟨hi25, hf⟩ := pr_ck_in hf
          refine pr_iast (f := (r19.2.1 22)) hx hb hK hP (hD _) hS 22 (by decide) rfl hi25 rfl prd_X_layout_150 (fun H locs hP hS => ?_)
          refine lv_aload_n hx hb prd_X_layout_151 rfl (lv_at hl 0 rfl) ?_
          refine pr_getr (t := 25) hx hb hts prs_X hown hK hP 0 34 (by decide) rfl (hts _ prw_1049) rfl prd_X_layout_152 ?_
          refine lv_aload_n hx hb prd_X_layout_155 rfl (lv_at hl 0 rfl) ?_
          refine pr_geti (v := (r19.1 0 33)) hx hb hts prs_X hown hK hP 0 33 (by decide) rfl (hts _ prw_822) rfl rfl prd_X_layout_156 ?_
          refine lv_iconst (v := 0) hx hb prd_X_layout_159 (by decide) ?_
          obtain ⟨hi26, hf⟩ := pr_ck_in hf
          refine pr_iast (f := (r19.2.1 25)) hx hb hK hP (hD _) hS 25 (by decide) rfl hi26 rfl prd_X_layout_160 (fun H locs hP hS => ?_)
          refine lv_aload_n hx hb prd_X_layout_161 rfl (lv_at hl 0 rfl) ?_
          refine lv_dup hx hb prd_X_layout_162 rfl ?_
          refine pr_geti (v := (r19.1 0 33)) hx hb hts prs_X hown hK hP 0 33 (by decide) rfl (hts _ prw_822) rfl rfl prd_X_layout_163 ?_
          refine lv_iconst (v := 1) hx hb prd_X_layout_166 (by decide) ?_
          refine lv_iadd hx hb prd_X_layout_167 ?_
          refine pr_puti (ty := .int) hx hb hts prs_X prq_X prtt_X prtn_X hown hK hP (hD _) hS 0 33 (by decide) rfl (hts _ prw_822) rfl rfl (prtt_X 33 (by decide)) rfl rfl prd_X_layout_168 (fun H locs hP hS => ?_)
          exact pr_retv E hP hS (pr_so hf) prd_X_layout_171
      · have hf := pr_it c17 hf
        refine lv_aload_n hx hb prd_X_layout_66 rfl (lv_at hl 0 rfl) ?_
        refine lv_bipush (v := 7) hx hb prd_X_layout_67 (by decide) ?_
        refine lv_iload_n hx hb prd_X_layout_69 rfl (lv_at hl 1 rfl) ?_
        refine lv_iconst (v := 1) hx hb prd_X_layout_70 (by decide) ?_
        refine lv_iadd hx hb prd_X_layout_71 ?_
        obtain ⟨r27, hr27, hf⟩ := pr_bi hf
        refine pr_callVi (rest := []) (res := r27) ⟨hx, hb, hml, hown, hts⟩ 0 (prc_X_wrong hD hX 0 (Nat.le_refl _) (pr_sI (pr_sI (pr_sI (pr_sI (pr_sI (pr_sI σ 0 33 0) 0 42 0) 0 43 0) 0 44 0) 0 45 0) 0 46 0) 7 (x1 + 1) r27 hr27) (prg_X_wrong hts prw_999 (by have := hh; omega)) hX hXs hK hP hS (by decide) rfl rfl rfl rfl hl.1 (Nat.le_of_ble_eq_true rfl) prd_X_layout_72 (fun H locs hP hS => ?_)
        refine lv_pop hx hb prd_X_layout_75 rfl ?_
        exact pr_retv E hP hS (pr_so hf) prd_X_layout_76
    · have hf := pr_ie c15 hf
      refine lv_iload_n hx hb prd_X_layout_12 rfl (lv_at hl 2 rfl) ?_
      refine lv_istore_n (lv' := [(1, .int x2), (0, .ref (ad 0)), (2, .int x2)]) hx hb prd_X_layout_13 rfl hl (by decide) rfl (fun ls hl => ?_)
      refine lv_aload_n hx hb prd_X_layout_14 rfl (lv_at hl 1 rfl) ?_
      refine lv_iload_n hx hb prd_X_layout_15 rfl (lv_at hl 2 rfl) ?_
      obtain ⟨r28, hr28, hf⟩ := pr_bi hf
      refine pr_callVr (rest := []) (r := r28) ⟨hx, hb, hml, hown, hts⟩ 0 (prc_X_behind hD hX 0 (Nat.le_refl _) σ x2 r28 hr28) (prg_X_behind hts prw_1003 (by have := hh; omega)) hX hXs hK hP hS (by decide) rfl rfl rfl rfl hl.1 (Nat.le_of_ble_eq_true rfl) prd_X_layout_16 (fun H locs hP hS => ?_)
      refine lv_istore_n (lv' := [(2, .int r28), (1, .int x2), (0, .ref (ad 0))]) hx hb prd_X_layout_19 rfl hl (by decide) rfl (fun ls hl => ?_)
      refine lv_goto (tgt := 4) hx hb prd_X_layout_20 (by decide) ?_
      exact ih σ x2 r28 _ hf _ _ _ hP hS (lv_sub hl [2, 1, 0] rfl)
set_option maxHeartbeats 4000000 in
set_option maxRecDepth 100000 in
theorem prc_X_layout {l : Launch} {D : va_G} {ad : Nat → Nat} {dA : Nat → ClassId} {A : Nat → Prop} {v : Nat → Nat} {r : Value} (hD : ∀ σ : pr_St, va_D A (pr_w prx_L ad dA σ)) (hX : pr_Xok A (prY ad v r A)) (h : Nat) (hh : 787 ≤ h) (σ : pr_St)  (res : pr_St) (hf : prf_X_layout σ  = some res) : Met l pry_X_layout (Cond.code pry_X_layout prb_X_layout 3 none :: pr_U) (pr_rm h) (pr_Pc (prY ad v r A) D pr_cl prx_L ad dA [.ref (ad 0)] σ) (pr_Qv D pr_cl prx_L ad dA A res) 0 0 A := by
  refine pr_entry (cc := prb_X_layout) (maxL := 3) (ret := none) (by decide) (Nat.le_of_ble_eq_true rfl) hD hX ?_
  intro p e s m args below meth c E H locs hP hS ls hl
  have hl : lv_has ls 3 [(0, .ref (ad 0))] := hl
  have hf := hf.symm
  unfold prf_X_layout at hf
  obtain ⟨hx, hb, hml, hown, hts, hr, hlocks, hK, hD, hX, hXs⟩ := id E
  refine lv_iconst (v := (-1)) hx hb prd_X_layout_0 (by decide) ?_
  refine lv_istore_n (lv' := [(1, .int (-1)), (0, .ref (ad 0))]) hx hb prd_X_layout_1 rfl hl (by decide) rfl (fun ls hl => ?_)
  refine lv_iconst (v := 1) hx hb prd_X_layout_2 (by decide) ?_
  refine lv_istore_n (lv' := [(2, .int 1), (1, .int (-1)), (0, .ref (ad 0))]) hx hb prd_X_layout_3 rfl hl (by decide) rfl (fun ls hl => ?_)
  exact prk_X_layout_4 hh E pr_FU σ (-1) 1 _ hf _ _ _ hP hS (lv_sub hl [2, 1, 0] rfl)
-- X_end
set_option maxHeartbeats 4000000 in
set_option maxRecDepth 100000 in
theorem prk_X_end_93 {l : Launch} {D : va_G} {ad : Nat → Nat} {dA : Nat → ClassId} {A : Nat → Prop} {v : Nat → Nat} {r : Value} {p : Program} {e : Env} {s : State} {m : MethodId} {args : Array Value} {below : List Frame} {meth : Method} {c : Code} {h : Nat} (hh : 788 ≤ h) (E : pr_cx prn_X prb_X_end 3 (some .int) D pr_cl prx_L ad dA A (prY ad v r A) p s m args meth c) : ∀ (σ : pr_St)  (res : (Int32 × pr_St)), some res = prf_X_end_93 σ  → ∀ (H : Heap) (locs : List Loc) (ls : Array Slot), va_P D pr_cl (pr_w prx_L ad dA σ) H → va_S A s.heap H locs → lv_has ls 3 [(0, .ref (ad 0))] → W p l e (pr_rm h) s m args below meth c H locs 0 0 (MQ below (pr_Qi D pr_cl prx_L ad dA A res) args s 0 0 A) (F0 m 93 ls []) := by
  obtain ⟨hx, hb, hml, hown, hts, hr, hlocks, hK, hD, hX, hXs⟩ := id E
  intro σ  res hf H locs ls hP hS hl
  unfold prf_X_end_93 at hf
  refine lv_aload_n hx hb prd_X_end_93 rfl (lv_at hl 0 rfl) ?_
  refine lv_iconst (v := 0) hx hb prd_X_end_94 (by decide) ?_
  refine pr_puti (ty := .int) hx hb hts prs_X prq_X prtt_X prtn_X hown hK hP (hD _) hS 0 2 (by decide) rfl (hts _ prw_844) rfl rfl (prtt_X 2 (by decide)) rfl rfl prd_X_end_95 (fun H locs hP hS => ?_)
  refine lv_aload_n hx hb prd_X_end_98 rfl (lv_at hl 0 rfl) ?_
  refine lv_iconst (v := 0) hx hb prd_X_end_99 (by decide) ?_
  refine pr_puti (ty := .int) hx hb hts prs_X prq_X prtt_X prtn_X hown hK hP (hD _) hS 0 47 (by decide) rfl (hts _ prw_987) rfl rfl (prtt_X 47 (by decide)) rfl rfl prd_X_end_100 (fun H locs hP hS => ?_)
  refine lv_aload_n hx hb prd_X_end_103 rfl (lv_at hl 0 rfl) ?_
  refine lv_aload_n hx hb prd_X_end_104 rfl (lv_at hl 0 rfl) ?_
  refine pr_geti (v := (σ.1 0 9)) hx hb hts prs_X hown hK hP 0 9 (by decide) rfl (hts _ prw_887) rfl rfl prd_X_end_105 ?_
  refine lv_if_eq (tgt := 118) hx hb prd_X_end_108 (by decide) (fun c40 => ?_) (fun c40 => ?_)
  · have hf := pr_it c40 hf
    refine lv_iconst (v := 0) hx hb prd_X_end_118 (by decide) ?_
    refine pr_puti (ty := .int) hx hb hts prs_X prq_X prtt_X prtn_X hown hK hP (hD _) hS 0 48 (by decide) rfl (hts _ prw_988) rfl rfl (prtt_X 48 (by decide)) rfl rfl prd_X_end_119 (fun H locs hP hS => ?_)
    refine lv_aload_n hx hb prd_X_end_122 rfl (lv_at hl 0 rfl) ?_
    obtain ⟨r41, hr41, hf⟩ := pr_bi hf
    refine pr_callVv (rest := []) (res := r41) ⟨hx, hb, hml, hown, hts⟩ 0 (prc_X_nothing hD hX 0 (Nat.le_refl _) (pr_sI (pr_sI (pr_sI σ 0 2 0) 0 47 0) 0 48 0)  r41 hr41) (prg_X_nothing hts prw_1069 (by have := hh; omega)) hX hXs hK hP hS (by decide) rfl rfl rfl rfl hl.1 (Nat.le_of_ble_eq_true rfl) prd_X_end_123 (fun H locs hP hS => ?_)
    refine lv_aload_n hx hb prd_X_end_126 rfl (lv_at hl 0 rfl) ?_
    refine lv_aload_n hx hb prd_X_end_127 rfl (lv_at hl 0 rfl) ?_
    refine pr_geti (v := (r41.1 0 9)) hx hb hts prs_X hown hK hP 0 9 (by decide) rfl (hts _ prw_887) rfl rfl prd_X_end_128 ?_
    refine lv_if_eq (tgt := 138) hx hb prd_X_end_131 (by decide) (fun c42 => ?_) (fun c42 => ?_)
    · have hf := pr_it c42 hf
      refine lv_iconst (v := 0) hx hb prd_X_end_138 (by decide) ?_
      refine pr_puti (ty := .int) hx hb hts prs_X prq_X prtt_X prtn_X hown hK hP (hD _) hS 0 49 (by decide) rfl (hts _ prw_1070) rfl rfl (prtt_X 49 (by decide)) rfl rfl prd_X_end_139 (fun H locs hP hS => ?_)
      refine lv_aload_n hx hb prd_X_end_142 rfl (lv_at hl 0 rfl) ?_
      refine pr_geti (v := (r41.1 0 9)) hx hb hts prs_X hown hK hP 0 9 (by decide) rfl (hts _ prw_887) rfl rfl prd_X_end_143 ?_
      refine lv_if_ne (tgt := 153) hx hb prd_X_end_146 (by decide) (fun c43 => ?_) (fun c43 => ?_)
      · have hf := pr_ie c43 hf
        refine lv_aload_n hx hb prd_X_end_153 rfl (lv_at hl 0 rfl) ?_
        refine pr_geti (v := (r41.1 0 47)) hx hb hts prs_X hown hK hP 0 47 (by decide) rfl (hts _ prw_987) rfl rfl prd_X_end_154 ?_
        refine lv_if_le (tgt := 169) hx hb prd_X_end_157 (by decide) (fun c44 => ?_) (fun c44 => ?_)
        · have hf := pr_it c44 hf
          refine lv_aload_n hx hb prd_X_end_169 rfl (lv_at hl 0 rfl) ?_
          refine pr_geti (v := 0) hx hb hts prs_X hown hK hP 0 49 (by decide) rfl (hts _ prw_1070) rfl rfl prd_X_end_170 ?_
          exact pr_reti E hP hS (pr_so hf) prd_X_end_173
        · have hf := pr_ie c44 hf
          refine lv_aload_n hx hb prd_X_end_160 rfl (lv_at hl 0 rfl) ?_
          refine lv_iconst (v := 2) hx hb prd_X_end_161 (by decide) ?_
          refine pr_puti (ty := .int) hx hb hts prs_X prq_X prtt_X prtn_X hown hK hP (hD _) hS 0 49 (by decide) rfl (hts _ prw_1070) rfl rfl (prtt_X 49 (by decide)) rfl rfl prd_X_end_162 (fun H locs hP hS => ?_)
          refine lv_aload_n hx hb prd_X_end_165 rfl (lv_at hl 0 rfl) ?_
          obtain ⟨r45, hr45, hf⟩ := pr_bi hf
          refine pr_callVv (rest := []) (res := r45) ⟨hx, hb, hml, hown, hts⟩ 0 (prc_X_nothing hD hX 0 (Nat.le_refl _) (pr_sI (pr_sI r41 0 49 0) 0 49 2)  r45 hr45) (prg_X_nothing hts prw_1069 (by have := hh; omega)) hX hXs hK hP hS (by decide) rfl rfl rfl rfl hl.1 (Nat.le_of_ble_eq_true rfl) prd_X_end_166 (fun H locs hP hS => ?_)
          refine lv_aload_n hx hb prd_X_end_169 rfl (lv_at hl 0 rfl) ?_
          refine pr_geti (v := (r45.1 0 49)) hx hb hts prs_X hown hK hP 0 49 (by decide) rfl (hts _ prw_1070) rfl rfl prd_X_end_170 ?_
          exact pr_reti E hP hS (pr_so hf) prd_X_end_173
      · have hf := pr_it c43 hf
        refine lv_aload_n hx hb prd_X_end_149 rfl (lv_at hl 0 rfl) ?_
        obtain ⟨r46, hr46, hf⟩ := pr_bi hf
        refine pr_callVv (rest := []) (res := r46) ⟨hx, hb, hml, hown, hts⟩ 0 (prc_X_layout hD hX 787 (Nat.le_refl _) (pr_sI r41 0 49 0)  r46 hr46) (prg_X_layout hts prw_1071 (by have := hh; omega)) hX hXs hK hP hS (by decide) rfl rfl rfl rfl hl.1 (Nat.le_of_ble_eq_true rfl) prd_X_end_150 (fun H locs hP hS => ?_)
        refine lv_aload_n hx hb prd_X_end_153 rfl (lv_at hl 0 rfl) ?_
        refine pr_geti (v := (r46.1 0 47)) hx hb hts prs_X hown hK hP 0 47 (by decide) rfl (hts _ prw_987) rfl rfl prd_X_end_154 ?_
        refine lv_if_le (tgt := 169) hx hb prd_X_end_157 (by decide) (fun c47 => ?_) (fun c47 => ?_)
        · have hf := pr_it c47 hf
          refine lv_aload_n hx hb prd_X_end_169 rfl (lv_at hl 0 rfl) ?_
          refine pr_geti (v := (r46.1 0 49)) hx hb hts prs_X hown hK hP 0 49 (by decide) rfl (hts _ prw_1070) rfl rfl prd_X_end_170 ?_
          exact pr_reti E hP hS (pr_so hf) prd_X_end_173
        · have hf := pr_ie c47 hf
          refine lv_aload_n hx hb prd_X_end_160 rfl (lv_at hl 0 rfl) ?_
          refine lv_iconst (v := 2) hx hb prd_X_end_161 (by decide) ?_
          refine pr_puti (ty := .int) hx hb hts prs_X prq_X prtt_X prtn_X hown hK hP (hD _) hS 0 49 (by decide) rfl (hts _ prw_1070) rfl rfl (prtt_X 49 (by decide)) rfl rfl prd_X_end_162 (fun H locs hP hS => ?_)
          refine lv_aload_n hx hb prd_X_end_165 rfl (lv_at hl 0 rfl) ?_
          obtain ⟨r48, hr48, hf⟩ := pr_bi hf
          refine pr_callVv (rest := []) (res := r48) ⟨hx, hb, hml, hown, hts⟩ 0 (prc_X_nothing hD hX 0 (Nat.le_refl _) (pr_sI r46 0 49 2)  r48 hr48) (prg_X_nothing hts prw_1069 (by have := hh; omega)) hX hXs hK hP hS (by decide) rfl rfl rfl rfl hl.1 (Nat.le_of_ble_eq_true rfl) prd_X_end_166 (fun H locs hP hS => ?_)
          refine lv_aload_n hx hb prd_X_end_169 rfl (lv_at hl 0 rfl) ?_
          refine pr_geti (v := (r48.1 0 49)) hx hb hts prs_X hown hK hP 0 49 (by decide) rfl (hts _ prw_1070) rfl rfl prd_X_end_170 ?_
          exact pr_reti E hP hS (pr_so hf) prd_X_end_173
    · have hf := pr_ie c42 hf
      refine lv_iconst (v := 1) hx hb prd_X_end_134 (by decide) ?_
      refine lv_goto (tgt := 139) hx hb prd_X_end_135 (by decide) ?_
      refine pr_puti (ty := .int) hx hb hts prs_X prq_X prtt_X prtn_X hown hK hP (hD _) hS 0 49 (by decide) rfl (hts _ prw_1070) rfl rfl (prtt_X 49 (by decide)) rfl rfl prd_X_end_139 (fun H locs hP hS => ?_)
      refine lv_aload_n hx hb prd_X_end_142 rfl (lv_at hl 0 rfl) ?_
      refine pr_geti (v := (r41.1 0 9)) hx hb hts prs_X hown hK hP 0 9 (by decide) rfl (hts _ prw_887) rfl rfl prd_X_end_143 ?_
      refine lv_if_ne (tgt := 153) hx hb prd_X_end_146 (by decide) (fun c49 => ?_) (fun c49 => ?_)
      · have hf := pr_ie c49 hf
        refine lv_aload_n hx hb prd_X_end_153 rfl (lv_at hl 0 rfl) ?_
        refine pr_geti (v := (r41.1 0 47)) hx hb hts prs_X hown hK hP 0 47 (by decide) rfl (hts _ prw_987) rfl rfl prd_X_end_154 ?_
        refine lv_if_le (tgt := 169) hx hb prd_X_end_157 (by decide) (fun c50 => ?_) (fun c50 => ?_)
        · have hf := pr_it c50 hf
          refine lv_aload_n hx hb prd_X_end_169 rfl (lv_at hl 0 rfl) ?_
          refine pr_geti (v := 1) hx hb hts prs_X hown hK hP 0 49 (by decide) rfl (hts _ prw_1070) rfl rfl prd_X_end_170 ?_
          exact pr_reti E hP hS (pr_so hf) prd_X_end_173
        · have hf := pr_ie c50 hf
          refine lv_aload_n hx hb prd_X_end_160 rfl (lv_at hl 0 rfl) ?_
          refine lv_iconst (v := 2) hx hb prd_X_end_161 (by decide) ?_
          refine pr_puti (ty := .int) hx hb hts prs_X prq_X prtt_X prtn_X hown hK hP (hD _) hS 0 49 (by decide) rfl (hts _ prw_1070) rfl rfl (prtt_X 49 (by decide)) rfl rfl prd_X_end_162 (fun H locs hP hS => ?_)
          refine lv_aload_n hx hb prd_X_end_165 rfl (lv_at hl 0 rfl) ?_
          obtain ⟨r51, hr51, hf⟩ := pr_bi hf
          refine pr_callVv (rest := []) (res := r51) ⟨hx, hb, hml, hown, hts⟩ 0 (prc_X_nothing hD hX 0 (Nat.le_refl _) (pr_sI (pr_sI r41 0 49 1) 0 49 2)  r51 hr51) (prg_X_nothing hts prw_1069 (by have := hh; omega)) hX hXs hK hP hS (by decide) rfl rfl rfl rfl hl.1 (Nat.le_of_ble_eq_true rfl) prd_X_end_166 (fun H locs hP hS => ?_)
          refine lv_aload_n hx hb prd_X_end_169 rfl (lv_at hl 0 rfl) ?_
          refine pr_geti (v := (r51.1 0 49)) hx hb hts prs_X hown hK hP 0 49 (by decide) rfl (hts _ prw_1070) rfl rfl prd_X_end_170 ?_
          exact pr_reti E hP hS (pr_so hf) prd_X_end_173
      · have hf := pr_it c49 hf
        refine lv_aload_n hx hb prd_X_end_149 rfl (lv_at hl 0 rfl) ?_
        obtain ⟨r52, hr52, hf⟩ := pr_bi hf
        refine pr_callVv (rest := []) (res := r52) ⟨hx, hb, hml, hown, hts⟩ 0 (prc_X_layout hD hX 787 (Nat.le_refl _) (pr_sI r41 0 49 1)  r52 hr52) (prg_X_layout hts prw_1071 (by have := hh; omega)) hX hXs hK hP hS (by decide) rfl rfl rfl rfl hl.1 (Nat.le_of_ble_eq_true rfl) prd_X_end_150 (fun H locs hP hS => ?_)
        refine lv_aload_n hx hb prd_X_end_153 rfl (lv_at hl 0 rfl) ?_
        refine pr_geti (v := (r52.1 0 47)) hx hb hts prs_X hown hK hP 0 47 (by decide) rfl (hts _ prw_987) rfl rfl prd_X_end_154 ?_
        refine lv_if_le (tgt := 169) hx hb prd_X_end_157 (by decide) (fun c53 => ?_) (fun c53 => ?_)
        · have hf := pr_it c53 hf
          refine lv_aload_n hx hb prd_X_end_169 rfl (lv_at hl 0 rfl) ?_
          refine pr_geti (v := (r52.1 0 49)) hx hb hts prs_X hown hK hP 0 49 (by decide) rfl (hts _ prw_1070) rfl rfl prd_X_end_170 ?_
          exact pr_reti E hP hS (pr_so hf) prd_X_end_173
        · have hf := pr_ie c53 hf
          refine lv_aload_n hx hb prd_X_end_160 rfl (lv_at hl 0 rfl) ?_
          refine lv_iconst (v := 2) hx hb prd_X_end_161 (by decide) ?_
          refine pr_puti (ty := .int) hx hb hts prs_X prq_X prtt_X prtn_X hown hK hP (hD _) hS 0 49 (by decide) rfl (hts _ prw_1070) rfl rfl (prtt_X 49 (by decide)) rfl rfl prd_X_end_162 (fun H locs hP hS => ?_)
          refine lv_aload_n hx hb prd_X_end_165 rfl (lv_at hl 0 rfl) ?_
          obtain ⟨r54, hr54, hf⟩ := pr_bi hf
          refine pr_callVv (rest := []) (res := r54) ⟨hx, hb, hml, hown, hts⟩ 0 (prc_X_nothing hD hX 0 (Nat.le_refl _) (pr_sI r52 0 49 2)  r54 hr54) (prg_X_nothing hts prw_1069 (by have := hh; omega)) hX hXs hK hP hS (by decide) rfl rfl rfl rfl hl.1 (Nat.le_of_ble_eq_true rfl) prd_X_end_166 (fun H locs hP hS => ?_)
          refine lv_aload_n hx hb prd_X_end_169 rfl (lv_at hl 0 rfl) ?_
          refine pr_geti (v := (r54.1 0 49)) hx hb hts prs_X hown hK hP 0 49 (by decide) rfl (hts _ prw_1070) rfl rfl prd_X_end_170 ?_
          exact pr_reti E hP hS (pr_so hf) prd_X_end_173
  · have hf := pr_ie c40 hf
    refine lv_aload_n hx hb prd_X_end_111 rfl (lv_at hl 0 rfl) ?_
    refine pr_geti (v := (σ.1 0 10)) hx hb hts prs_X hown hK hP 0 10 (by decide) rfl (hts _ prw_892) rfl rfl prd_X_end_112 ?_
    refine lv_goto (tgt := 119) hx hb prd_X_end_115 (by decide) ?_
    refine pr_puti (ty := .int) hx hb hts prs_X prq_X prtt_X prtn_X hown hK hP (hD _) hS 0 48 (by decide) rfl (hts _ prw_988) rfl rfl (prtt_X 48 (by decide)) rfl rfl prd_X_end_119 (fun H locs hP hS => ?_)
    refine lv_aload_n hx hb prd_X_end_122 rfl (lv_at hl 0 rfl) ?_
    obtain ⟨r55, hr55, hf⟩ := pr_bi hf
    refine pr_callVv (rest := []) (res := r55) ⟨hx, hb, hml, hown, hts⟩ 0 (prc_X_nothing hD hX 0 (Nat.le_refl _) (pr_sI (pr_sI (pr_sI σ 0 2 0) 0 47 0) 0 48 (σ.1 0 10))  r55 hr55) (prg_X_nothing hts prw_1069 (by have := hh; omega)) hX hXs hK hP hS (by decide) rfl rfl rfl rfl hl.1 (Nat.le_of_ble_eq_true rfl) prd_X_end_123 (fun H locs hP hS => ?_)
    refine lv_aload_n hx hb prd_X_end_126 rfl (lv_at hl 0 rfl) ?_
    refine lv_aload_n hx hb prd_X_end_127 rfl (lv_at hl 0 rfl) ?_
    refine pr_geti (v := (r55.1 0 9)) hx hb hts prs_X hown hK hP 0 9 (by decide) rfl (hts _ prw_887) rfl rfl prd_X_end_128 ?_
    refine lv_if_eq (tgt := 138) hx hb prd_X_end_131 (by decide) (fun c56 => ?_) (fun c56 => ?_)
    · have hf := pr_it c56 hf
      refine lv_iconst (v := 0) hx hb prd_X_end_138 (by decide) ?_
      refine pr_puti (ty := .int) hx hb hts prs_X prq_X prtt_X prtn_X hown hK hP (hD _) hS 0 49 (by decide) rfl (hts _ prw_1070) rfl rfl (prtt_X 49 (by decide)) rfl rfl prd_X_end_139 (fun H locs hP hS => ?_)
      refine lv_aload_n hx hb prd_X_end_142 rfl (lv_at hl 0 rfl) ?_
      refine pr_geti (v := (r55.1 0 9)) hx hb hts prs_X hown hK hP 0 9 (by decide) rfl (hts _ prw_887) rfl rfl prd_X_end_143 ?_
      refine lv_if_ne (tgt := 153) hx hb prd_X_end_146 (by decide) (fun c57 => ?_) (fun c57 => ?_)
      · have hf := pr_ie c57 hf
        refine lv_aload_n hx hb prd_X_end_153 rfl (lv_at hl 0 rfl) ?_
        refine pr_geti (v := (r55.1 0 47)) hx hb hts prs_X hown hK hP 0 47 (by decide) rfl (hts _ prw_987) rfl rfl prd_X_end_154 ?_
        refine lv_if_le (tgt := 169) hx hb prd_X_end_157 (by decide) (fun c58 => ?_) (fun c58 => ?_)
        · have hf := pr_it c58 hf
          refine lv_aload_n hx hb prd_X_end_169 rfl (lv_at hl 0 rfl) ?_
          refine pr_geti (v := 0) hx hb hts prs_X hown hK hP 0 49 (by decide) rfl (hts _ prw_1070) rfl rfl prd_X_end_170 ?_
          exact pr_reti E hP hS (pr_so hf) prd_X_end_173
        · have hf := pr_ie c58 hf
          refine lv_aload_n hx hb prd_X_end_160 rfl (lv_at hl 0 rfl) ?_
          refine lv_iconst (v := 2) hx hb prd_X_end_161 (by decide) ?_
          refine pr_puti (ty := .int) hx hb hts prs_X prq_X prtt_X prtn_X hown hK hP (hD _) hS 0 49 (by decide) rfl (hts _ prw_1070) rfl rfl (prtt_X 49 (by decide)) rfl rfl prd_X_end_162 (fun H locs hP hS => ?_)
          refine lv_aload_n hx hb prd_X_end_165 rfl (lv_at hl 0 rfl) ?_
          obtain ⟨r59, hr59, hf⟩ := pr_bi hf
          refine pr_callVv (rest := []) (res := r59) ⟨hx, hb, hml, hown, hts⟩ 0 (prc_X_nothing hD hX 0 (Nat.le_refl _) (pr_sI (pr_sI r55 0 49 0) 0 49 2)  r59 hr59) (prg_X_nothing hts prw_1069 (by have := hh; omega)) hX hXs hK hP hS (by decide) rfl rfl rfl rfl hl.1 (Nat.le_of_ble_eq_true rfl) prd_X_end_166 (fun H locs hP hS => ?_)
          refine lv_aload_n hx hb prd_X_end_169 rfl (lv_at hl 0 rfl) ?_
          refine pr_geti (v := (r59.1 0 49)) hx hb hts prs_X hown hK hP 0 49 (by decide) rfl (hts _ prw_1070) rfl rfl prd_X_end_170 ?_
          exact pr_reti E hP hS (pr_so hf) prd_X_end_173
      · have hf := pr_it c57 hf
        refine lv_aload_n hx hb prd_X_end_149 rfl (lv_at hl 0 rfl) ?_
        obtain ⟨r60, hr60, hf⟩ := pr_bi hf
        refine pr_callVv (rest := []) (res := r60) ⟨hx, hb, hml, hown, hts⟩ 0 (prc_X_layout hD hX 787 (Nat.le_refl _) (pr_sI r55 0 49 0)  r60 hr60) (prg_X_layout hts prw_1071 (by have := hh; omega)) hX hXs hK hP hS (by decide) rfl rfl rfl rfl hl.1 (Nat.le_of_ble_eq_true rfl) prd_X_end_150 (fun H locs hP hS => ?_)
        refine lv_aload_n hx hb prd_X_end_153 rfl (lv_at hl 0 rfl) ?_
        refine pr_geti (v := (r60.1 0 47)) hx hb hts prs_X hown hK hP 0 47 (by decide) rfl (hts _ prw_987) rfl rfl prd_X_end_154 ?_
        refine lv_if_le (tgt := 169) hx hb prd_X_end_157 (by decide) (fun c61 => ?_) (fun c61 => ?_)
        · have hf := pr_it c61 hf
          refine lv_aload_n hx hb prd_X_end_169 rfl (lv_at hl 0 rfl) ?_
          refine pr_geti (v := (r60.1 0 49)) hx hb hts prs_X hown hK hP 0 49 (by decide) rfl (hts _ prw_1070) rfl rfl prd_X_end_170 ?_
          exact pr_reti E hP hS (pr_so hf) prd_X_end_173
        · have hf := pr_ie c61 hf
          refine lv_aload_n hx hb prd_X_end_160 rfl (lv_at hl 0 rfl) ?_
          refine lv_iconst (v := 2) hx hb prd_X_end_161 (by decide) ?_
          refine pr_puti (ty := .int) hx hb hts prs_X prq_X prtt_X prtn_X hown hK hP (hD _) hS 0 49 (by decide) rfl (hts _ prw_1070) rfl rfl (prtt_X 49 (by decide)) rfl rfl prd_X_end_162 (fun H locs hP hS => ?_)
          refine lv_aload_n hx hb prd_X_end_165 rfl (lv_at hl 0 rfl) ?_
          obtain ⟨r62, hr62, hf⟩ := pr_bi hf
          refine pr_callVv (rest := []) (res := r62) ⟨hx, hb, hml, hown, hts⟩ 0 (prc_X_nothing hD hX 0 (Nat.le_refl _) (pr_sI r60 0 49 2)  r62 hr62) (prg_X_nothing hts prw_1069 (by have := hh; omega)) hX hXs hK hP hS (by decide) rfl rfl rfl rfl hl.1 (Nat.le_of_ble_eq_true rfl) prd_X_end_166 (fun H locs hP hS => ?_)
          refine lv_aload_n hx hb prd_X_end_169 rfl (lv_at hl 0 rfl) ?_
          refine pr_geti (v := (r62.1 0 49)) hx hb hts prs_X hown hK hP 0 49 (by decide) rfl (hts _ prw_1070) rfl rfl prd_X_end_170 ?_
          exact pr_reti E hP hS (pr_so hf) prd_X_end_173
    · have hf := pr_ie c56 hf
      refine lv_iconst (v := 1) hx hb prd_X_end_134 (by decide) ?_
      refine lv_goto (tgt := 139) hx hb prd_X_end_135 (by decide) ?_
      refine pr_puti (ty := .int) hx hb hts prs_X prq_X prtt_X prtn_X hown hK hP (hD _) hS 0 49 (by decide) rfl (hts _ prw_1070) rfl rfl (prtt_X 49 (by decide)) rfl rfl prd_X_end_139 (fun H locs hP hS => ?_)
      refine lv_aload_n hx hb prd_X_end_142 rfl (lv_at hl 0 rfl) ?_
      refine pr_geti (v := (r55.1 0 9)) hx hb hts prs_X hown hK hP 0 9 (by decide) rfl (hts _ prw_887) rfl rfl prd_X_end_143 ?_
      refine lv_if_ne (tgt := 153) hx hb prd_X_end_146 (by decide) (fun c63 => ?_) (fun c63 => ?_)
      · have hf := pr_ie c63 hf
        refine lv_aload_n hx hb prd_X_end_153 rfl (lv_at hl 0 rfl) ?_
        refine pr_geti (v := (r55.1 0 47)) hx hb hts prs_X hown hK hP 0 47 (by decide) rfl (hts _ prw_987) rfl rfl prd_X_end_154 ?_
        refine lv_if_le (tgt := 169) hx hb prd_X_end_157 (by decide) (fun c64 => ?_) (fun c64 => ?_)
        · have hf := pr_it c64 hf
          refine lv_aload_n hx hb prd_X_end_169 rfl (lv_at hl 0 rfl) ?_
          refine pr_geti (v := 1) hx hb hts prs_X hown hK hP 0 49 (by decide) rfl (hts _ prw_1070) rfl rfl prd_X_end_170 ?_
          exact pr_reti E hP hS (pr_so hf) prd_X_end_173
        · have hf := pr_ie c64 hf
          refine lv_aload_n hx hb prd_X_end_160 rfl (lv_at hl 0 rfl) ?_
          refine lv_iconst (v := 2) hx hb prd_X_end_161 (by decide) ?_
          refine pr_puti (ty := .int) hx hb hts prs_X prq_X prtt_X prtn_X hown hK hP (hD _) hS 0 49 (by decide) rfl (hts _ prw_1070) rfl rfl (prtt_X 49 (by decide)) rfl rfl prd_X_end_162 (fun H locs hP hS => ?_)
          refine lv_aload_n hx hb prd_X_end_165 rfl (lv_at hl 0 rfl) ?_
          obtain ⟨r65, hr65, hf⟩ := pr_bi hf
          refine pr_callVv (rest := []) (res := r65) ⟨hx, hb, hml, hown, hts⟩ 0 (prc_X_nothing hD hX 0 (Nat.le_refl _) (pr_sI (pr_sI r55 0 49 1) 0 49 2)  r65 hr65) (prg_X_nothing hts prw_1069 (by have := hh; omega)) hX hXs hK hP hS (by decide) rfl rfl rfl rfl hl.1 (Nat.le_of_ble_eq_true rfl) prd_X_end_166 (fun H locs hP hS => ?_)
          refine lv_aload_n hx hb prd_X_end_169 rfl (lv_at hl 0 rfl) ?_
          refine pr_geti (v := (r65.1 0 49)) hx hb hts prs_X hown hK hP 0 49 (by decide) rfl (hts _ prw_1070) rfl rfl prd_X_end_170 ?_
          exact pr_reti E hP hS (pr_so hf) prd_X_end_173
      · have hf := pr_it c63 hf
        refine lv_aload_n hx hb prd_X_end_149 rfl (lv_at hl 0 rfl) ?_
        obtain ⟨r66, hr66, hf⟩ := pr_bi hf
        refine pr_callVv (rest := []) (res := r66) ⟨hx, hb, hml, hown, hts⟩ 0 (prc_X_layout hD hX 787 (Nat.le_refl _) (pr_sI r55 0 49 1)  r66 hr66) (prg_X_layout hts prw_1071 (by have := hh; omega)) hX hXs hK hP hS (by decide) rfl rfl rfl rfl hl.1 (Nat.le_of_ble_eq_true rfl) prd_X_end_150 (fun H locs hP hS => ?_)
        refine lv_aload_n hx hb prd_X_end_153 rfl (lv_at hl 0 rfl) ?_
        refine pr_geti (v := (r66.1 0 47)) hx hb hts prs_X hown hK hP 0 47 (by decide) rfl (hts _ prw_987) rfl rfl prd_X_end_154 ?_
        refine lv_if_le (tgt := 169) hx hb prd_X_end_157 (by decide) (fun c67 => ?_) (fun c67 => ?_)
        · have hf := pr_it c67 hf
          refine lv_aload_n hx hb prd_X_end_169 rfl (lv_at hl 0 rfl) ?_
          refine pr_geti (v := (r66.1 0 49)) hx hb hts prs_X hown hK hP 0 49 (by decide) rfl (hts _ prw_1070) rfl rfl prd_X_end_170 ?_
          exact pr_reti E hP hS (pr_so hf) prd_X_end_173
        · have hf := pr_ie c67 hf
          refine lv_aload_n hx hb prd_X_end_160 rfl (lv_at hl 0 rfl) ?_
          refine lv_iconst (v := 2) hx hb prd_X_end_161 (by decide) ?_
          refine pr_puti (ty := .int) hx hb hts prs_X prq_X prtt_X prtn_X hown hK hP (hD _) hS 0 49 (by decide) rfl (hts _ prw_1070) rfl rfl (prtt_X 49 (by decide)) rfl rfl prd_X_end_162 (fun H locs hP hS => ?_)
          refine lv_aload_n hx hb prd_X_end_165 rfl (lv_at hl 0 rfl) ?_
          obtain ⟨r68, hr68, hf⟩ := pr_bi hf
          refine pr_callVv (rest := []) (res := r68) ⟨hx, hb, hml, hown, hts⟩ 0 (prc_X_nothing hD hX 0 (Nat.le_refl _) (pr_sI r66 0 49 2)  r68 hr68) (prg_X_nothing hts prw_1069 (by have := hh; omega)) hX hXs hK hP hS (by decide) rfl rfl rfl rfl hl.1 (Nat.le_of_ble_eq_true rfl) prd_X_end_166 (fun H locs hP hS => ?_)
          refine lv_aload_n hx hb prd_X_end_169 rfl (lv_at hl 0 rfl) ?_
          refine pr_geti (v := (r68.1 0 49)) hx hb hts prs_X hown hK hP 0 49 (by decide) rfl (hts _ prw_1070) rfl rfl prd_X_end_170 ?_
          exact pr_reti E hP hS (pr_so hf) prd_X_end_173
set_option maxHeartbeats 4000000 in
set_option maxRecDepth 100000 in
theorem prk_X_end_79 {l : Launch} {D : va_G} {ad : Nat → Nat} {dA : Nat → ClassId} {A : Nat → Prop} {v : Nat → Nat} {r : Value} {p : Program} {e : Env} {s : State} {m : MethodId} {args : Array Value} {below : List Frame} {meth : Method} {c : Code} {h : Nat} (hh : 788 ≤ h) (E : pr_cx prn_X prb_X_end 3 (some .int) D pr_cl prx_L ad dA A (prY ad v r A) p s m args meth c) {kk57 : pr_St → Option (Int32 × pr_St)} (Hk57 : ∀ (σ : pr_St)  (res : (Int32 × pr_St)), some res = kk57 σ  → ∀ (H : Heap) (locs : List Loc) (ls : Array Slot), va_P D pr_cl (pr_w prx_L ad dA σ) H → va_S A s.heap H locs → lv_has ls 3 [(0, .ref (ad 0))] → W p l e (pr_rm h) s m args below meth c H locs 0 0 (MQ below (pr_Qi D pr_cl prx_L ad dA A res) args s 0 0 A) (F0 m 57 ls [])) : ∀ (σ : pr_St)  (res : (Int32 × pr_St)), some res = prf_X_end_79 kk57 σ  → ∀ (H : Heap) (locs : List Loc) (ls : Array Slot), va_P D pr_cl (pr_w prx_L ad dA σ) H → va_S A s.heap H locs → lv_has ls 3 [(0, .ref (ad 0))] → W p l e (pr_rm h) s m args below meth c H locs 0 0 (MQ below (pr_Qi D pr_cl prx_L ad dA A res) args s 0 0 A) (F0 m 79 ls []) := by
  obtain ⟨hx, hb, hml, hown, hts, hr, hlocks, hK, hD, hX, hXs⟩ := id E
  intro σ  res hf H locs ls hP hS hl
  unfold prf_X_end_79 at hf
  refine lv_aload_n hx hb prd_X_end_79 rfl (lv_at hl 0 rfl) ?_
  obtain ⟨r69, hr69, hf⟩ := pr_bi hf
  refine pr_callVr (rest := []) (r := r69) ⟨hx, hb, hml, hown, hts⟩ 0 (prc_X_look hD hX 0 (Nat.le_refl _) σ  r69 hr69) (prg_X_look hts prw_896 (by have := hh; omega)) hX hXs hK hP hS (by decide) rfl rfl rfl rfl hl.1 (Nat.le_of_ble_eq_true rfl) prd_X_end_80 (fun H locs hP hS => ?_)
  refine lv_if_eq (tgt := 93) hx hb prd_X_end_83 (by decide) (fun c70 => ?_) (fun c70 => ?_)
  · have hf := pr_it c70 hf
    exact prk_X_end_93 hh E σ _ hf _ _ _ hP hS (lv_sub hl [0] rfl)
  · have hf := pr_ie c70 hf
    refine lv_aload_n hx hb prd_X_end_86 rfl (lv_at hl 0 rfl) ?_
    refine pr_geti (v := (σ.1 0 9)) hx hb hts prs_X hown hK hP 0 9 (by decide) rfl (hts _ prw_887) rfl rfl prd_X_end_87 ?_
    refine lv_if_eq (tgt := 57) hx hb prd_X_end_90 (by decide) (fun c71 => ?_) (fun c71 => ?_)
    · have hf := pr_it c71 hf
      exact Hk57 σ _ hf _ _ _ hP hS (lv_sub hl [0] rfl)
    · have hf := pr_ie c71 hf
      exact prk_X_end_93 hh E σ _ hf _ _ _ hP hS (lv_sub hl [0] rfl)
set_option maxHeartbeats 4000000 in
set_option maxRecDepth 100000 in
theorem prk_X_end_57 {l : Launch} {D : va_G} {ad : Nat → Nat} {dA : Nat → ClassId} {A : Nat → Prop} {v : Nat → Nat} {r : Value} {p : Program} {e : Env} {s : State} {m : MethodId} {args : Array Value} {below : List Frame} {meth : Method} {c : Code} {h : Nat} (hh : 788 ≤ h) (E : pr_cx prn_X prb_X_end 3 (some .int) D pr_cl prx_L ad dA A (prY ad v r A) p s m args meth c) : ∀ n : Nat, ∀ (σ : pr_St)  (res : (Int32 × pr_St)), some res = prf_X_end_57 n σ  → ∀ (H : Heap) (locs : List Loc) (ls : Array Slot), va_P D pr_cl (pr_w prx_L ad dA σ) H → va_S A s.heap H locs → lv_has ls 3 [(0, .ref (ad 0))] → W p l e (pr_rm h) s m args below meth c H locs 0 0 (MQ below (pr_Qi D pr_cl prx_L ad dA A res) args s 0 0 A) (F0 m 57 ls []) := by
  obtain ⟨hx, hb, hml, hown, hts, hr, hlocks, hK, hD, hX, hXs⟩ := id E
  intro n
  induction n with
  | zero =>
    intro σ  res hf
    rw [prf_X_end_57] at hf
    cases hf
  | succ n ih =>
    intro σ  res hf H locs ls hP hS hl
    rw [prf_X_end_57] at hf
    refine lv_aload_n hx hb prd_X_end_57 rfl (lv_at hl 0 rfl) ?_
    refine lv_iconst (v := 0) hx hb prd_X_end_58 (by decide) ?_
    refine pr_puti (ty := .int) hx hb hts prs_X prq_X prtt_X prtn_X hown hK hP (hD _) hS 0 17 (by decide) rfl (hts _ prw_902) rfl rfl (prtt_X 17 (by decide)) rfl rfl prd_X_end_59 (fun H locs hP hS => ?_)
    refine lv_aload_n hx hb prd_X_end_62 rfl (lv_at hl 0 rfl) ?_
    obtain ⟨r72, hr72, hf⟩ := pr_bi hf
    refine pr_callVi (rest := []) (res := r72) ⟨hx, hb, hml, hown, hts⟩ 0 (prc_X_function hD hX 760 (Nat.le_refl _) (pr_sI σ 0 17 0)  r72 hr72) (prg_X_function hts prw_1067 (by have := hh; omega)) hX hXs hK hP hS (by decide) rfl rfl rfl rfl hl.1 (Nat.le_of_ble_eq_true rfl) prd_X_end_63 (fun H locs hP hS => ?_)
    refine lv_istore_n (lv' := [(2, .int r72.1), (0, .ref (ad 0))]) hx hb prd_X_end_66 rfl hl (by decide) rfl (fun ls hl => ?_)
    refine lv_aload_n hx hb prd_X_end_67 rfl (lv_at hl 1 rfl) ?_
    refine pr_geti (v := (r72.2.1 0 9)) hx hb hts prs_X hown hK hP 0 9 (by decide) rfl (hts _ prw_887) rfl rfl prd_X_end_68 ?_
    refine lv_if_ne (tgt := 79) hx hb prd_X_end_71 (by decide) (fun c73 => ?_) (fun c73 => ?_)
    · have hf := pr_ie c73 hf
      exact prk_X_end_79 hh E ih r72.2 _ hf _ _ _ hP hS (lv_sub hl [1] rfl)
    · have hf := pr_it c73 hf
      refine lv_aload_n hx hb prd_X_end_74 rfl (lv_at hl 1 rfl) ?_
      refine lv_iload_n hx hb prd_X_end_75 rfl (lv_at hl 0 rfl) ?_
      obtain ⟨r74, hr74, hf⟩ := pr_bi hf
      refine pr_callVv (rest := []) (res := r74) ⟨hx, hb, hml, hown, hts⟩ 0 (prc_X_keep hD hX 1 (Nat.le_refl _) r72.2 r72.1 r74 hr74) (prg_X_keep hts prw_1068 (by have := hh; omega)) hX hXs hK hP hS (by decide) rfl rfl rfl rfl hl.1 (Nat.le_of_ble_eq_true rfl) prd_X_end_76 (fun H locs hP hS => ?_)
      exact prk_X_end_79 hh E ih r74 _ hf _ _ _ hP hS (lv_sub hl [1] rfl)
set_option maxHeartbeats 4000000 in
set_option maxRecDepth 100000 in
theorem prc_X_end {l : Launch} {D : va_G} {ad : Nat → Nat} {dA : Nat → ClassId} {A : Nat → Prop} {v : Nat → Nat} {r : Value} (hD : ∀ σ : pr_St, va_D A (pr_w prx_L ad dA σ)) (hX : pr_Xok A (prY ad v r A)) (h : Nat) (hh : 788 ≤ h) (σ : pr_St) (x1 : Int32) (res : (Int32 × pr_St)) (hf : prf_X_end σ x1 = some res) : Met l pry_X_end (Cond.code pry_X_end prb_X_end 3 (some .int) :: pr_U) (pr_rm h) (pr_Pc (prY ad v r A) D pr_cl prx_L ad dA [.ref (ad 0), .int x1] σ) (pr_Qi D pr_cl prx_L ad dA A res) 0 0 A := by
  refine pr_entry (cc := prb_X_end) (maxL := 3) (ret := (some .int)) (by decide) (Nat.le_of_ble_eq_true rfl) hD hX ?_
  intro p e s m args below meth c E H locs hP hS ls hl
  have hl : lv_has ls 3 [(0, .ref (ad 0)), (1, .int x1)] := hl
  have hf := hf.symm
  unfold prf_X_end at hf
  obtain ⟨hx, hb, hml, hown, hts, hr, hlocks, hK, hD, hX, hXs⟩ := id E
  refine lv_iload_n hx hb prd_X_end_0 rfl (lv_at hl 1 rfl) ?_
  refine lv_if_lt (tgt := 12) hx hb prd_X_end_1 (by decide) (fun c75 => ?_) (fun c75 => ?_)
  · have hf := pr_it c75 hf
    refine lv_iconst (v := (-1)) hx hb prd_X_end_12 (by decide) ?_
    exact pr_reti E hP hS (pr_so hf) prd_X_end_13
  · have hf := pr_ie c75 hf
    refine lv_iload_n hx hb prd_X_end_4 rfl (lv_at hl 1 rfl) ?_
    refine lv_aload_n hx hb prd_X_end_5 rfl (lv_at hl 0 rfl) ?_
    refine pr_geti (v := (σ.1 0 2)) hx hb hts prs_X hown hK hP 0 2 (by decide) rfl (hts _ prw_844) rfl rfl prd_X_end_6 ?_
    refine lv_icmp_le (tgt := 14) hx hb prd_X_end_9 (by decide) (fun c76 => ?_) (fun c76 => ?_)
    · have hf := pr_it c76 hf
      refine lv_aload_n hx hb prd_X_end_14 rfl (lv_at hl 0 rfl) ?_
      refine lv_iload_n hx hb prd_X_end_15 rfl (lv_at hl 1 rfl) ?_
      refine pr_puti (ty := .int) hx hb hts prs_X prq_X prtt_X prtn_X hown hK hP (hD _) hS 0 3 (by decide) rfl (hts _ prw_849) rfl rfl (prtt_X 3 (by decide)) rfl rfl prd_X_end_16 (fun H locs hP hS => ?_)
      refine lv_aload_n hx hb prd_X_end_19 rfl (lv_at hl 0 rfl) ?_
      refine lv_iconst (v := 0) hx hb prd_X_end_20 (by decide) ?_
      refine pr_puti (ty := .int) hx hb hts prs_X prq_X prtt_X prtn_X hown hK hP (hD _) hS 0 24 (by decide) rfl (hts _ prw_836) rfl rfl (prtt_X 24 (by decide)) rfl rfl prd_X_end_21 (fun H locs hP hS => ?_)
      refine lv_aload_n hx hb prd_X_end_24 rfl (lv_at hl 0 rfl) ?_
      refine lv_iconst (v := 0) hx hb prd_X_end_25 (by decide) ?_
      refine pr_puti (ty := .int) hx hb hts prs_X prq_X prtt_X prtn_X hown hK hP (hD _) hS 0 27 (by decide) rfl (hts _ prw_972) rfl rfl (prtt_X 27 (by decide)) rfl rfl prd_X_end_26 (fun H locs hP hS => ?_)
      refine lv_aload_n hx hb prd_X_end_29 rfl (lv_at hl 0 rfl) ?_
      refine lv_iconst (v := 0) hx hb prd_X_end_30 (by decide) ?_
      refine lv_iconst (v := 0) hx hb prd_X_end_31 (by decide) ?_
      refine lv_iconst (v := 0) hx hb prd_X_end_32 (by decide) ?_
      refine lv_iconst (v := (-1)) hx hb prd_X_end_33 (by decide) ?_
      obtain ⟨r77, hr77, hf⟩ := pr_bi hf
      refine pr_callVi (rest := []) (res := r77) ⟨hx, hb, hml, hown, hts⟩ 0 (prc_X_add hD hX 0 (Nat.le_refl _) (pr_sI (pr_sI (pr_sI σ 0 3 x1) 0 24 0) 0 27 0) 0 0 0 (-1) r77 hr77) (prg_X_add hts prw_978 (by have := hh; omega)) hX hXs hK hP hS (by decide) rfl rfl rfl rfl hl.1 (Nat.le_of_ble_eq_true rfl) prd_X_end_34 (fun H locs hP hS => ?_)
      refine lv_pop hx hb prd_X_end_37 rfl ?_
      refine lv_aload_n hx hb prd_X_end_38 rfl (lv_at hl 0 rfl) ?_
      obtain ⟨r78, hr78, hf⟩ := pr_bi hf
      refine pr_callVv (rest := []) (res := r78) ⟨hx, hb, hml, hown, hts⟩ 0 (prc_X_scan hD hX 5 (Nat.le_refl _) r77.2  r78 hr78) (prg_X_scan hts prw_1066 (by have := hh; omega)) hX hXs hK hP hS (by decide) rfl rfl rfl rfl hl.1 (Nat.le_of_ble_eq_true rfl) prd_X_end_39 (fun H locs hP hS => ?_)
      refine lv_aload_n hx hb prd_X_end_42 rfl (lv_at hl 0 rfl) ?_
      refine lv_iconst (v := 0) hx hb prd_X_end_43 (by decide) ?_
      refine pr_puti (ty := .int) hx hb hts prs_X prq_X prtt_X prtn_X hown hK hP (hD _) hS 0 8 (by decide) rfl (hts _ prw_888) rfl rfl (prtt_X 8 (by decide)) rfl rfl prd_X_end_44 (fun H locs hP hS => ?_)
      refine lv_aload_n hx hb prd_X_end_47 rfl (lv_at hl 0 rfl) ?_
      refine lv_iconst (v := 0) hx hb prd_X_end_48 (by decide) ?_
      refine pr_puti (ty := .boolean) hx hb hts prs_X prq_X prtt_X prtn_X hown hK hP (hD _) hS 0 9 (by decide) rfl (hts _ prw_887) rfl rfl (prtt_X 9 (by decide)) (by decide) (by decide) prd_X_end_49 (fun H locs hP hS => ?_)
      refine lv_aload_n hx hb prd_X_end_52 rfl (lv_at hl 0 rfl) ?_
      refine lv_iconst (v := (-1)) hx hb prd_X_end_53 (by decide) ?_
      refine pr_puti (ty := .int) hx hb hts prs_X prq_X prtt_X prtn_X hown hK hP (hD _) hS 0 10 (by decide) rfl (hts _ prw_892) rfl rfl (prtt_X 10 (by decide)) rfl rfl prd_X_end_54 (fun H locs hP hS => ?_)
      exact prk_X_end_57 hh E pr_FU (pr_sI (pr_sI (pr_sI r78 0 8 0) 0 9 0) 0 10 (-1)) _ hf _ _ _ hP hS (lv_sub hl [0] rfl)
    · have hf := pr_ie c76 hf
      refine lv_iconst (v := (-1)) hx hb prd_X_end_12 (by decide) ?_
      exact pr_reti E hP hS (pr_so hf) prd_X_end_13
-- X_told
set_option maxHeartbeats 4000000 in
set_option maxRecDepth 100000 in
theorem prc_X_told {l : Launch} {D : va_G} {ad : Nat → Nat} {dA : Nat → ClassId} {A : Nat → Prop} {v : Nat → Nat} {r : Value} (hD : ∀ σ : pr_St, va_D A (pr_w prx_L ad dA σ)) (hX : pr_Xok A (prY ad v r A)) (h : Nat) (hh : 0 ≤ h) (σ : pr_St) (x1 : Int32) (res : Int32) (hf : prf_X_told σ x1 = some res) : Met l pry_X_told (Cond.code pry_X_told prb_X_told 2 (some .int) :: pr_U) (pr_rm h) (pr_Pc (prY ad v r A) D pr_cl prx_L ad dA [.ref (ad 0), .int x1] σ) (pr_Qi D pr_cl prx_L ad dA A (res, σ)) 0 0 A := by
  refine pr_entry (cc := prb_X_told) (maxL := 2) (ret := (some .int)) (by decide) (Nat.le_of_ble_eq_true rfl) hD hX ?_
  intro p e s m args below meth c E H locs hP hS ls hl
  have hl : lv_has ls 2 [(0, .ref (ad 0)), (1, .int x1)] := hl
  have hf := hf.symm
  unfold prf_X_told at hf
  obtain ⟨hx, hb, hml, hown, hts, hr, hlocks, hK, hD, hX, hXs⟩ := id E
  refine lv_aload_n hx hb prd_X_told_0 rfl (lv_at hl 0 rfl) ?_
  refine pr_geti (v := (σ.1 0 49)) hx hb hts prs_X hown hK hP 0 49 (by decide) rfl (hts _ prw_1070) rfl rfl prd_X_told_1 ?_
  refine lv_iconst (v := (-1)) hx hb prd_X_told_4 (by decide) ?_
  refine lv_icmp_eq (tgt := 17) hx hb prd_X_told_5 (by decide) (fun c5 => ?_) (fun c5 => ?_)
  · have hf := pr_it c5 hf
    refine lv_iconst (v := (-1)) hx hb prd_X_told_17 (by decide) ?_
    refine lv_goto (tgt := 36) hx hb prd_X_told_18 (by decide) ?_
    exact pr_reti E hP hS (pr_ro hf) prd_X_told_36
  · have hf := pr_ie c5 hf
    refine lv_iload_n hx hb prd_X_told_8 rfl (lv_at hl 1 rfl) ?_
    refine lv_if_lt (tgt := 17) hx hb prd_X_told_9 (by decide) (fun c6 => ?_) (fun c6 => ?_)
    · have hf := pr_it c6 hf
      refine lv_iconst (v := (-1)) hx hb prd_X_told_17 (by decide) ?_
      refine lv_goto (tgt := 36) hx hb prd_X_told_18 (by decide) ?_
      exact pr_reti E hP hS (pr_ro hf) prd_X_told_36
    · have hf := pr_ie c6 hf
      refine lv_iload_n hx hb prd_X_told_12 rfl (lv_at hl 1 rfl) ?_
      refine lv_iconst (v := 1) hx hb prd_X_told_13 (by decide) ?_
      refine lv_icmp_le (tgt := 21) hx hb prd_X_told_14 (by decide) (fun c7 => ?_) (fun c7 => ?_)
      · have hf := pr_it c7 hf
        refine lv_iload_n hx hb prd_X_told_21 rfl (lv_at hl 1 rfl) ?_
        refine lv_if_ne (tgt := 32) hx hb prd_X_told_22 (by decide) (fun c8 => ?_) (fun c8 => ?_)
        · have hf := pr_ie c8 hf
          refine lv_aload_n hx hb prd_X_told_32 rfl (lv_at hl 0 rfl) ?_
          refine pr_geti (v := (σ.1 0 48)) hx hb hts prs_X hown hK hP 0 48 (by decide) rfl (hts _ prw_988) rfl rfl prd_X_told_33 ?_
          exact pr_reti E hP hS (pr_ro hf) prd_X_told_36
        · have hf := pr_it c8 hf
          refine lv_aload_n hx hb prd_X_told_25 rfl (lv_at hl 0 rfl) ?_
          refine pr_geti (v := (σ.1 0 47)) hx hb hts prs_X hown hK hP 0 47 (by decide) rfl (hts _ prw_987) rfl rfl prd_X_told_26 ?_
          refine lv_goto (tgt := 36) hx hb prd_X_told_29 (by decide) ?_
          exact pr_reti E hP hS (pr_ro hf) prd_X_told_36
      · have hf := pr_ie c7 hf
        refine lv_iconst (v := (-1)) hx hb prd_X_told_17 (by decide) ?_
        refine lv_goto (tgt := 36) hx hb prd_X_told_18 (by decide) ?_
        exact pr_reti E hP hS (pr_ro hf) prd_X_told_36
-- X_points
set_option maxHeartbeats 4000000 in
set_option maxRecDepth 100000 in
theorem prc_X_points {l : Launch} {D : va_G} {ad : Nat → Nat} {dA : Nat → ClassId} {A : Nat → Prop} {v : Nat → Nat} {r : Value} (hD : ∀ σ : pr_St, va_D A (pr_w prx_L ad dA σ)) (hX : pr_Xok A (prY ad v r A)) (h : Nat) (hh : 0 ≤ h) (σ : pr_St)  (res : Int32) (hf : prf_X_points σ  = some res) : Met l pry_X_points (Cond.code pry_X_points prb_X_points 1 (some .int) :: pr_U) (pr_rm h) (pr_Pc (prY ad v r A) D pr_cl prx_L ad dA [.ref (ad 0)] σ) (pr_Qi D pr_cl prx_L ad dA A (res, σ)) 0 0 A := by
  refine pr_entry (cc := prb_X_points) (maxL := 1) (ret := (some .int)) (by decide) (Nat.le_of_ble_eq_true rfl) hD hX ?_
  intro p e s m args below meth c E H locs hP hS ls hl
  have hl : lv_has ls 1 [(0, .ref (ad 0))] := hl
  have hf := hf.symm
  unfold prf_X_points at hf
  obtain ⟨hx, hb, hml, hown, hts, hr, hlocks, hK, hD, hX, hXs⟩ := id E
  refine lv_aload_n hx hb prd_X_points_0 rfl (lv_at hl 0 rfl) ?_
  refine pr_geti (v := (σ.1 0 33)) hx hb hts prs_X hown hK hP 0 33 (by decide) rfl (hts _ prw_822) rfl rfl prd_X_points_1 ?_
  exact pr_reti E hP hS (pr_ro hf) prd_X_points_4
-- X_after
set_option maxHeartbeats 4000000 in
set_option maxRecDepth 100000 in
theorem prk_X_after_2 {l : Launch} {D : va_G} {ad : Nat → Nat} {dA : Nat → ClassId} {A : Nat → Prop} {v : Nat → Nat} {r : Value} {p : Program} {e : Env} {s : State} {m : MethodId} {args : Array Value} {below : List Frame} {meth : Method} {c : Code} {h : Nat} (hh : 1 ≤ h) (E : pr_cx prn_X prb_X_after 4 (some .int) D pr_cl prx_L ad dA A (prY ad v r A) p s m args meth c) : ∀ n : Nat, ∀ (σ : pr_St) (x2 : Int32) (res : Int32), some res = prf_X_after_2 n σ x2 → ∀ (H : Heap) (locs : List Loc) (ls : Array Slot), va_P D pr_cl (pr_w prx_L ad dA σ) H → va_S A s.heap H locs → lv_has ls 4 [(0, .ref (ad 0)), (2, .int x2)] → W p l e (pr_rm h) s m args below meth c H locs 0 0 (MQ below (pr_Qi D pr_cl prx_L ad dA A (res, σ)) args s 0 0 A) (F0 m 2 ls []) := by
  obtain ⟨hx, hb, hml, hown, hts, hr, hlocks, hK, hD, hX, hXs⟩ := id E
  intro n
  induction n with
  | zero =>
    intro σ x2 res hf
    rw [prf_X_after_2] at hf
    cases hf
  | succ n ih =>
    intro σ x2 res hf H locs ls hP hS hl
    rw [prf_X_after_2] at hf
    refine lv_aload_n hx hb prd_X_after_2 rfl (lv_at hl 0 rfl) ?_
    refine pr_getr (t := 20) hx hb hts prs_X hown hK hP 0 28 (by decide) rfl (hts _ prw_823) rfl prd_X_after_3 ?_
    refine lv_iload_n hx hb prd_X_after_6 rfl (lv_at hl 1 rfl) ?_
    obtain ⟨hi15, hf⟩ := pr_ck_in hf
    refine pr_iald (f := (σ.2.1 20)) hx hb hK hP 20 (by decide) rfl hi15 rfl prd_X_after_7 ?_
    refine lv_iconst (v := (-1)) hx hb prd_X_after_8 (by decide) ?_
    refine lv_icmp_eq (tgt := 89) hx hb prd_X_after_9 (by decide) (fun c16 => ?_) (fun c16 => ?_)
    · have hf := pr_it c16 hf
      refine lv_iload_n hx hb prd_X_after_89 rfl (lv_at hl 1 rfl) ?_
      exact pr_reti E hP hS (pr_ro hf) prd_X_after_90
    · have hf := pr_ie c16 hf
      refine lv_aload_n hx hb prd_X_after_12 rfl (lv_at hl 0 rfl) ?_
      refine pr_getr (t := 20) hx hb hts prs_X hown hK hP 0 28 (by decide) rfl (hts _ prw_823) rfl prd_X_after_13 ?_
      refine lv_iload_n hx hb prd_X_after_16 rfl (lv_at hl 1 rfl) ?_
      obtain ⟨hi17, hf⟩ := pr_ck_in hf
      refine pr_iald (f := (σ.2.1 20)) hx hb hK hP 20 (by decide) rfl hi17 rfl prd_X_after_17 ?_
      refine lv_istore_n (lv' := [(3, .int ((σ.2.1 20) x2.toNatClampNeg)), (0, .ref (ad 0)), (2, .int x2)]) hx hb prd_X_after_18 rfl hl (by decide) rfl (fun ls hl => ?_)
      refine lv_aload_n hx hb prd_X_after_19 rfl (lv_at hl 1 rfl) ?_
      refine lv_iload_n hx hb prd_X_after_20 rfl (lv_at hl 0 rfl) ?_
      obtain ⟨r18, hr18, hf⟩ := pr_bi hf
      refine pr_callVr (rest := []) (r := r18) ⟨hx, hb, hml, hown, hts⟩ 0 (prc_X_behind hD hX 0 (Nat.le_refl _) σ ((σ.2.1 20) x2.toNatClampNeg) r18 hr18) (prg_X_behind hts prw_1003 (by have := hh; omega)) hX hXs hK hP hS (by decide) rfl rfl rfl rfl hl.1 (Nat.le_of_ble_eq_true rfl) prd_X_after_21 (fun H locs hP hS => ?_)
      refine lv_aload_n hx hb prd_X_after_24 rfl (lv_at hl 1 rfl) ?_
      refine lv_aload_n hx hb prd_X_after_25 rfl (lv_at hl 1 rfl) ?_
      refine pr_getr (t := 16) hx hb hts prs_X hown hK hP 0 22 (by decide) rfl (hts _ prw_839) rfl prd_X_after_26 ?_
      refine lv_iload_n hx hb prd_X_after_29 rfl (lv_at hl 0 rfl) ?_
      obtain ⟨hi19, hf⟩ := pr_ck_in hf
      refine pr_iald (f := (σ.2.1 16)) hx hb hK hP 16 (by decide) rfl hi19 rfl prd_X_after_30 ?_
      obtain ⟨r20, hr20, hf⟩ := pr_bi hf
      refine pr_callVr (rest := [.int r18]) (r := r20) ⟨hx, hb, hml, hown, hts⟩ 0 (prc_X_behind hD hX 0 (Nat.le_refl _) σ ((σ.2.1 16) ((σ.2.1 20) x2.toNatClampNeg).toNatClampNeg) r20 hr20) (prg_X_behind hts prw_1003 (by have := hh; omega)) hX hXs hK hP hS (by decide) rfl rfl rfl rfl hl.1 (Nat.le_of_ble_eq_true rfl) prd_X_after_31 (fun H locs hP hS => ?_)
      refine lv_icmp_ge (tgt := 44) hx hb prd_X_after_34 (by decide) (fun c21 => ?_) (fun c21 => ?_)
      · have hf := pr_it c21 hf
        refine lv_aload_n hx hb prd_X_after_44 rfl (lv_at hl 1 rfl) ?_
        refine pr_getr (t := 21) hx hb hts prs_X hown hK hP 0 29 (by decide) rfl (hts _ prw_824) rfl prd_X_after_45 ?_
        refine lv_iload_n hx hb prd_X_after_48 rfl (lv_at hl 2 rfl) ?_
        obtain ⟨hi22, hf⟩ := pr_ck_in hf
        refine pr_iald (f := (σ.2.1 21)) hx hb hK hP 21 (by decide) rfl hi22 rfl prd_X_after_49 ?_
        refine lv_iconst (v := (-1)) hx hb prd_X_after_50 (by decide) ?_
        refine lv_icmp_ne (tgt := 61) hx hb prd_X_after_51 (by decide) (fun c23 => ?_) (fun c23 => ?_)
        · have hf := pr_ie c23 hf
          refine lv_aload_n hx hb prd_X_after_61 rfl (lv_at hl 1 rfl) ?_
          refine pr_getr (t := 21) hx hb hts prs_X hown hK hP 0 29 (by decide) rfl (hts _ prw_824) rfl prd_X_after_62 ?_
          refine lv_iload_n hx hb prd_X_after_65 rfl (lv_at hl 2 rfl) ?_
          obtain ⟨hi24, hf⟩ := pr_ck_in hf
          refine pr_iald (f := (σ.2.1 21)) hx hb hK hP 21 (by decide) rfl hi24 rfl prd_X_after_66 ?_
          refine lv_istore_n (lv' := [(2, .int ((σ.2.1 21) x2.toNatClampNeg)), (3, .int ((σ.2.1 20) x2.toNatClampNeg)), (0, .ref (ad 0))]) hx hb prd_X_after_67 rfl hl (by decide) rfl (fun ls hl => ?_)
          refine lv_aload_n hx hb prd_X_after_68 rfl (lv_at hl 2 rfl) ?_
          refine pr_getr (t := 13) hx hb hts prs_X hown hK hP 0 19 (by decide) rfl (hts _ prw_835) rfl prd_X_after_69 ?_
          refine lv_aload_n hx hb prd_X_after_72 rfl (lv_at hl 2 rfl) ?_
          refine pr_getr (t := 20) hx hb hts prs_X hown hK hP 0 28 (by decide) rfl (hts _ prw_823) rfl prd_X_after_73 ?_
          refine lv_iload_n hx hb prd_X_after_76 rfl (lv_at hl 0 rfl) ?_
          obtain ⟨hi25, hf⟩ := pr_ck_in hf
          refine pr_iald (f := (σ.2.1 20)) hx hb hK hP 20 (by decide) rfl hi25 rfl prd_X_after_77 ?_
          obtain ⟨hi26, hf⟩ := pr_ck_in hf
          refine pr_iald (f := (σ.2.1 13)) hx hb hK hP 13 (by decide) rfl hi26 rfl prd_X_after_78 ?_
          refine lv_bipush (v := 9) hx hb prd_X_after_79 (by decide) ?_
          refine lv_icmp_ne (tgt := 86) hx hb prd_X_after_81 (by decide) (fun c27 => ?_) (fun c27 => ?_)
          · have hf := pr_ie c27 hf
            refine lv_goto (tgt := 2) hx hb prd_X_after_86 (by decide) ?_
            exact ih σ ((σ.2.1 21) x2.toNatClampNeg) _ hf _ _ _ hP hS (lv_sub hl [2, 0] rfl)
          · have hf := pr_it c27 hf
            refine lv_iload_n hx hb prd_X_after_84 rfl (lv_at hl 0 rfl) ?_
            exact pr_reti E hP hS (pr_ro hf) prd_X_after_85
        · have hf := pr_it c23 hf
          refine lv_aload_n hx hb prd_X_after_54 rfl (lv_at hl 1 rfl) ?_
          refine pr_geti (v := (σ.1 0 33)) hx hb hts prs_X hown hK hP 0 33 (by decide) rfl (hts _ prw_822) rfl rfl prd_X_after_55 ?_
          refine lv_iconst (v := 1) hx hb prd_X_after_58 (by decide) ?_
          refine lv_isub hx hb prd_X_after_59 ?_
          exact pr_reti E hP hS (pr_ro hf) prd_X_after_60
      · have hf := pr_ie c21 hf
        refine lv_aload_n hx hb prd_X_after_37 rfl (lv_at hl 1 rfl) ?_
        refine pr_getr (t := 22) hx hb hts prs_X hown hK hP 0 30 (by decide) rfl (hts _ prw_825) rfl prd_X_after_38 ?_
        refine lv_iload_n hx hb prd_X_after_41 rfl (lv_at hl 2 rfl) ?_
        obtain ⟨hi28, hf⟩ := pr_ck_in hf
        refine pr_iald (f := (σ.2.1 22)) hx hb hK hP 22 (by decide) rfl hi28 rfl prd_X_after_42 ?_
        exact pr_reti E hP hS (pr_ro hf) prd_X_after_43
set_option maxHeartbeats 4000000 in
set_option maxRecDepth 100000 in
theorem prc_X_after {l : Launch} {D : va_G} {ad : Nat → Nat} {dA : Nat → ClassId} {A : Nat → Prop} {v : Nat → Nat} {r : Value} (hD : ∀ σ : pr_St, va_D A (pr_w prx_L ad dA σ)) (hX : pr_Xok A (prY ad v r A)) (h : Nat) (hh : 1 ≤ h) (σ : pr_St) (x1 : Int32) (res : Int32) (hf : prf_X_after σ x1 = some res) : Met l pry_X_after (Cond.code pry_X_after prb_X_after 4 (some .int) :: pr_U) (pr_rm h) (pr_Pc (prY ad v r A) D pr_cl prx_L ad dA [.ref (ad 0), .int x1] σ) (pr_Qi D pr_cl prx_L ad dA A (res, σ)) 0 0 A := by
  refine pr_entry (cc := prb_X_after) (maxL := 4) (ret := (some .int)) (by decide) (Nat.le_of_ble_eq_true rfl) hD hX ?_
  intro p e s m args below meth c E H locs hP hS ls hl
  have hl : lv_has ls 4 [(0, .ref (ad 0)), (1, .int x1)] := hl
  have hf := hf.symm
  unfold prf_X_after at hf
  obtain ⟨hx, hb, hml, hown, hts, hr, hlocks, hK, hD, hX, hXs⟩ := id E
  refine lv_iload_n hx hb prd_X_after_0 rfl (lv_at hl 1 rfl) ?_
  refine lv_istore_n (lv' := [(2, .int x1), (0, .ref (ad 0)), (1, .int x1)]) hx hb prd_X_after_1 rfl hl (by decide) rfl (fun ls hl => ?_)
  exact prk_X_after_2 hh E pr_FU σ x1 _ hf _ _ _ hP hS (lv_sub hl [1, 0] rfl)
-- X_point
set_option maxHeartbeats 4000000 in
set_option maxRecDepth 100000 in
theorem prc_X_point {l : Launch} {D : va_G} {ad : Nat → Nat} {dA : Nat → ClassId} {A : Nat → Prop} {v : Nat → Nat} {r : Value} (hD : ∀ σ : pr_St, va_D A (pr_w prx_L ad dA σ)) (hX : pr_Xok A (prY ad v r A)) (h : Nat) (hh : 2 ≤ h) (σ : pr_St) (x1 : Int32) (x2 : Int32) (res : Int32) (hf : prf_X_point σ x1 x2 = some res) : Met l pry_X_point (Cond.code pry_X_point prb_X_point 5 (some .int) :: pr_U) (pr_rm h) (pr_Pc (prY ad v r A) D pr_cl prx_L ad dA [.ref (ad 0), .int x1, .int x2] σ) (pr_Qi D pr_cl prx_L ad dA A (res, σ)) 0 0 A := by
  refine pr_entry (cc := prb_X_point) (maxL := 5) (ret := (some .int)) (by decide) (Nat.le_of_ble_eq_true rfl) hD hX ?_
  intro p e s m args below meth c E H locs hP hS ls hl
  have hl : lv_has ls 5 [(0, .ref (ad 0)), (1, .int x1), (2, .int x2)] := hl
  have hf := hf.symm
  unfold prf_X_point at hf
  obtain ⟨hx, hb, hml, hown, hts, hr, hlocks, hK, hD, hX, hXs⟩ := id E
  refine lv_iload_n hx hb prd_X_point_0 rfl (lv_at hl 1 rfl) ?_
  refine lv_if_lt (tgt := 21) hx hb prd_X_point_1 (by decide) (fun c21 => ?_) (fun c21 => ?_)
  · have hf := pr_it c21 hf
    refine lv_iconst (v := (-1)) hx hb prd_X_point_21 (by decide) ?_
    exact pr_reti E hP hS (pr_ro hf) prd_X_point_22
  · have hf := pr_ie c21 hf
    refine lv_iload_n hx hb prd_X_point_4 rfl (lv_at hl 1 rfl) ?_
    refine lv_aload_n hx hb prd_X_point_5 rfl (lv_at hl 0 rfl) ?_
    refine pr_geti (v := (σ.1 0 33)) hx hb hts prs_X hown hK hP 0 33 (by decide) rfl (hts _ prw_822) rfl rfl prd_X_point_6 ?_
    refine lv_icmp_ge (tgt := 21) hx hb prd_X_point_9 (by decide) (fun c22 => ?_) (fun c22 => ?_)
    · have hf := pr_it c22 hf
      refine lv_iconst (v := (-1)) hx hb prd_X_point_21 (by decide) ?_
      exact pr_reti E hP hS (pr_ro hf) prd_X_point_22
    · have hf := pr_ie c22 hf
      refine lv_iload_n hx hb prd_X_point_12 rfl (lv_at hl 2 rfl) ?_
      refine lv_if_lt (tgt := 21) hx hb prd_X_point_13 (by decide) (fun c23 => ?_) (fun c23 => ?_)
      · have hf := pr_it c23 hf
        refine lv_iconst (v := (-1)) hx hb prd_X_point_21 (by decide) ?_
        exact pr_reti E hP hS (pr_ro hf) prd_X_point_22
      · have hf := pr_ie c23 hf
        refine lv_iload_n hx hb prd_X_point_16 rfl (lv_at hl 2 rfl) ?_
        refine lv_iconst (v := 4) hx hb prd_X_point_17 (by decide) ?_
        refine lv_icmp_le (tgt := 23) hx hb prd_X_point_18 (by decide) (fun c24 => ?_) (fun c24 => ?_)
        · have hf := pr_it c24 hf
          refine lv_aload_n hx hb prd_X_point_23 rfl (lv_at hl 0 rfl) ?_
          refine pr_getr (t := 20) hx hb hts prs_X hown hK hP 0 28 (by decide) rfl (hts _ prw_823) rfl prd_X_point_24 ?_
          refine lv_iload_n hx hb prd_X_point_27 rfl (lv_at hl 1 rfl) ?_
          obtain ⟨hi25, hf⟩ := pr_ck_in hf
          refine pr_iald (f := (σ.2.1 20)) hx hb hK hP 20 (by decide) rfl hi25 rfl prd_X_point_28 ?_
          refine lv_istore_n (lv' := [(3, .int ((σ.2.1 20) x1.toNatClampNeg)), (0, .ref (ad 0)), (1, .int x1), (2, .int x2)]) hx hb prd_X_point_29 rfl hl (by decide) rfl (fun ls hl => ?_)
          refine lv_iload_n hx hb prd_X_point_30 rfl (lv_at hl 3 rfl) ?_
          refine lv_if_ne (tgt := 75) hx hb prd_X_point_31 (by decide) (fun c26 => ?_) (fun c26 => ?_)
          · have hf := pr_ie c26 hf
            refine lv_iload_n hx hb prd_X_point_75 rfl (lv_at hl 3 rfl) ?_
            refine lv_iconst (v := 1) hx hb prd_X_point_76 (by decide) ?_
            refine lv_icmp_ne (tgt := 98) hx hb prd_X_point_77 (by decide) (fun c27 => ?_) (fun c27 => ?_)
            · have hf := pr_ie c27 hf
              refine lv_iload_n hx hb prd_X_point_98 rfl (lv_at hl 3 rfl) ?_
              refine lv_iconst (v := 2) hx hb prd_X_point_99 (by decide) ?_
              refine lv_icmp_ne (tgt := 112) hx hb prd_X_point_100 (by decide) (fun c28 => ?_) (fun c28 => ?_)
              · have hf := pr_ie c28 hf
                refine lv_iload_n hx hb prd_X_point_112 rfl (lv_at hl 3 rfl) ?_
                refine lv_iconst (v := 3) hx hb prd_X_point_113 (by decide) ?_
                refine lv_icmp_ne (tgt := 126) hx hb prd_X_point_114 (by decide) (fun c29 => ?_) (fun c29 => ?_)
                · have hf := pr_ie c29 hf
                  refine lv_aload_n hx hb prd_X_point_126 rfl (lv_at hl 1 rfl) ?_
                  refine lv_iload_n hx hb prd_X_point_127 rfl (lv_at hl 2 rfl) ?_
                  obtain ⟨r30, hr30, hf⟩ := pr_bi hf
                  refine pr_callVr (rest := []) (r := r30) ⟨hx, hb, hml, hown, hts⟩ 0 (prc_X_after hD hX 1 (Nat.le_refl _) σ x1 r30 hr30) (prg_X_after hts prw_1084 (by have := hh; omega)) hX hXs hK hP hS (by decide) rfl rfl rfl rfl hl.1 (Nat.le_of_ble_eq_true rfl) prd_X_point_128 (fun H locs hP hS => ?_)
                  exact pr_reti E hP hS (pr_ro hf) prd_X_point_131
                · have hf := pr_it c29 hf
                  refine lv_aload_n hx hb prd_X_point_117 rfl (lv_at hl 1 rfl) ?_
                  refine pr_getr (t := 24) hx hb hts prs_X hown hK hP 0 32 (by decide) rfl (hts _ prw_827) rfl prd_X_point_118 ?_
                  refine lv_iload_n hx hb prd_X_point_121 rfl (lv_at hl 2 rfl) ?_
                  obtain ⟨hi31, hf⟩ := pr_ck_in hf
                  refine pr_iald (f := (σ.2.1 24)) hx hb hK hP 24 (by decide) rfl hi31 rfl prd_X_point_122 ?_
                  refine lv_goto (tgt := 131) hx hb prd_X_point_123 (by decide) ?_
                  exact pr_reti E hP hS (pr_ro hf) prd_X_point_131
              · have hf := pr_it c28 hf
                refine lv_aload_n hx hb prd_X_point_103 rfl (lv_at hl 1 rfl) ?_
                refine pr_getr (t := 23) hx hb hts prs_X hown hK hP 0 31 (by decide) rfl (hts _ prw_826) rfl prd_X_point_104 ?_
                refine lv_iload_n hx hb prd_X_point_107 rfl (lv_at hl 2 rfl) ?_
                obtain ⟨hi32, hf⟩ := pr_ck_in hf
                refine pr_iald (f := (σ.2.1 23)) hx hb hK hP 23 (by decide) rfl hi32 rfl prd_X_point_108 ?_
                refine lv_goto (tgt := 131) hx hb prd_X_point_109 (by decide) ?_
                exact pr_reti E hP hS (pr_ro hf) prd_X_point_131
            · have hf := pr_it c27 hf
              refine lv_iload_n hx hb prd_X_point_80 rfl (lv_at hl 0 rfl) ?_
              refine lv_iconst (v := (-1)) hx hb prd_X_point_81 (by decide) ?_
              refine lv_icmp_ne (tgt := 89) hx hb prd_X_point_82 (by decide) (fun c33 => ?_) (fun c33 => ?_)
              · have hf := pr_ie c33 hf
                refine lv_aload_n hx hb prd_X_point_89 rfl (lv_at hl 1 rfl) ?_
                refine pr_getr (t := 14) hx hb hts prs_X hown hK hP 0 20 (by decide) rfl (hts _ prw_837) rfl prd_X_point_90 ?_
                refine lv_iload_n hx hb prd_X_point_93 rfl (lv_at hl 0 rfl) ?_
                obtain ⟨hi34, hf⟩ := pr_ck_in hf
                refine pr_iald (f := (σ.2.1 14)) hx hb hK hP 14 (by decide) rfl hi34 rfl prd_X_point_94 ?_
                refine lv_goto (tgt := 131) hx hb prd_X_point_95 (by decide) ?_
                exact pr_reti E hP hS (pr_ro hf) prd_X_point_131
              · have hf := pr_it c33 hf
                refine lv_iconst (v := 0) hx hb prd_X_point_85 (by decide) ?_
                refine lv_goto (tgt := 131) hx hb prd_X_point_86 (by decide) ?_
                exact pr_reti E hP hS (pr_ro hf) prd_X_point_131
          · have hf := pr_it c26 hf
            refine lv_iload_n hx hb prd_X_point_34 rfl (lv_at hl 0 rfl) ?_
            refine lv_iconst (v := (-1)) hx hb prd_X_point_35 (by decide) ?_
            refine lv_icmp_ne (tgt := 43) hx hb prd_X_point_36 (by decide) (fun c35 => ?_) (fun c35 => ?_)
            · have hf := pr_ie c35 hf
              refine lv_aload_n hx hb prd_X_point_43 rfl (lv_at hl 1 rfl) ?_
              refine pr_getr (t := 13) hx hb hts prs_X hown hK hP 0 19 (by decide) rfl (hts _ prw_835) rfl prd_X_point_44 ?_
              refine lv_iload_n hx hb prd_X_point_47 rfl (lv_at hl 0 rfl) ?_
              obtain ⟨hi36, hf⟩ := pr_ck_in hf
              refine pr_iald (f := (σ.2.1 13)) hx hb hK hP 13 (by decide) rfl hi36 rfl prd_X_point_48 ?_
              refine lv_istore (lv' := [(4, .int ((σ.2.1 13) ((σ.2.1 20) x1.toNatClampNeg).toNatClampNeg)), (3, .int ((σ.2.1 20) x1.toNatClampNeg)), (0, .ref (ad 0)), (1, .int x1), (2, .int x2)]) hx hb prd_X_point_49 hl (by decide) rfl (fun ls hl => ?_)
              refine lv_iload hx hb prd_X_point_51 (lv_at hl 0 rfl) ?_
              refine lv_if_ne (tgt := 60) hx hb prd_X_point_53 (by decide) (fun c37 => ?_) (fun c37 => ?_)
              · have hf := pr_ie c37 hf
                refine lv_iload hx hb prd_X_point_60 (lv_at hl 0 rfl) ?_
                refine lv_iconst (v := 5) hx hb prd_X_point_62 (by decide) ?_
                refine lv_icmp_ge (tgt := 70) hx hb prd_X_point_63 (by decide) (fun c38 => ?_) (fun c38 => ?_)
                · have hf := pr_it c38 hf
                  refine lv_iload hx hb prd_X_point_70 (lv_at hl 0 rfl) ?_
                  refine lv_iconst (v := 3) hx hb prd_X_point_72 (by decide) ?_
                  refine lv_isub hx hb prd_X_point_73 ?_
                  exact pr_reti E hP hS (pr_ro hf) prd_X_point_74
                · have hf := pr_ie c38 hf
                  refine lv_iconst (v := 1) hx hb prd_X_point_66 (by decide) ?_
                  refine lv_goto (tgt := 74) hx hb prd_X_point_67 (by decide) ?_
                  exact pr_reti E hP hS (pr_ro hf) prd_X_point_74
              · have hf := pr_it c37 hf
                refine lv_iconst (v := 0) hx hb prd_X_point_56 (by decide) ?_
                refine lv_goto (tgt := 74) hx hb prd_X_point_57 (by decide) ?_
                exact pr_reti E hP hS (pr_ro hf) prd_X_point_74
            · have hf := pr_it c35 hf
              refine lv_iconst (v := 0) hx hb prd_X_point_39 (by decide) ?_
              refine lv_goto (tgt := 49) hx hb prd_X_point_40 (by decide) ?_
              refine lv_istore (lv' := [(4, .int 0), (3, .int ((σ.2.1 20) x1.toNatClampNeg)), (0, .ref (ad 0)), (1, .int x1), (2, .int x2)]) hx hb prd_X_point_49 hl (by decide) rfl (fun ls hl => ?_)
              refine lv_iload hx hb prd_X_point_51 (lv_at hl 0 rfl) ?_
              refine lv_if_ne (tgt := 60) hx hb prd_X_point_53 (by decide) (fun c39 => ?_) (fun c39 => ?_)
              · have hf := pr_ie c39 hf
                refine lv_iload hx hb prd_X_point_60 (lv_at hl 0 rfl) ?_
                refine lv_iconst (v := 5) hx hb prd_X_point_62 (by decide) ?_
                refine lv_icmp_ge (tgt := 70) hx hb prd_X_point_63 (by decide) (fun c40 => ?_) (fun c40 => ?_)
                · have hf := pr_it c40 hf
                  refine lv_iload hx hb prd_X_point_70 (lv_at hl 0 rfl) ?_
                  refine lv_iconst (v := 3) hx hb prd_X_point_72 (by decide) ?_
                  refine lv_isub hx hb prd_X_point_73 ?_
                  exact pr_reti E hP hS (pr_ro hf) prd_X_point_74
                · have hf := pr_ie c40 hf
                  refine lv_iconst (v := 1) hx hb prd_X_point_66 (by decide) ?_
                  refine lv_goto (tgt := 74) hx hb prd_X_point_67 (by decide) ?_
                  exact pr_reti E hP hS (pr_ro hf) prd_X_point_74
              · have hf := pr_it c39 hf
                refine lv_iconst (v := 0) hx hb prd_X_point_56 (by decide) ?_
                refine lv_goto (tgt := 74) hx hb prd_X_point_57 (by decide) ?_
                exact pr_reti E hP hS (pr_ro hf) prd_X_point_74
        · have hf := pr_ie c24 hf
          refine lv_iconst (v := (-1)) hx hb prd_X_point_21 (by decide) ?_
          exact pr_reti E hP hS (pr_ro hf) prd_X_point_22
