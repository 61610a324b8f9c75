-- X_sum
set_option maxHeartbeats 4000000 in
set_option maxRecDepth 100000 in
theorem prk_X_sum_80 {l : Launch} {D : va_G} {ad : Nat → Nat} {dA : Nat → ClassId} {A : Nat → Prop} {v : Nat → Nat} {r : Value} {p : Program} {e : Env} {s : State} {m : MethodId} {args : Array Value} {below : List Frame} {meth : Method} {c : Code} (hd : Nat) (hb0 : 3 ≤ hd) {h : Nat} (hh : hd + 2 ≤ h) (E : pr_cx prn_X prb_X_sum 5 (some .int) D pr_cl prx_L ad dA A (prY ad v r A) p s m args meth c) {rc : pr_St → Int32 → Option (Int32 × pr_St)} (Hrc0 : ∀ (σ : pr_St) (x1 : Int32) (res : (Int32 × pr_St)), rc σ x1 = some res → Met l pry_X_factor (Cond.code pry_X_factor prb_X_factor 6 (some .int) :: pr_U) (pr_rm hd) (pr_Pc (prY ad v r A) D pr_cl prx_L ad dA [.ref (ad 0), .int x1] σ) (pr_Qi D pr_cl prx_L ad dA A res) 0 0 A) {kk62 : pr_St → Int32 → Int32 → Option (Int32 × pr_St)} (Hk62 : ∀ (σ : pr_St) (x1 : Int32) (x3 : Int32) (res : (Int32 × pr_St)), some res = kk62 σ x1 x3 → ∀ (H : Heap) (locs : List Loc) (ls : Array Slot), va_P D pr_cl (pr_w prx_L ad dA σ) H → va_S A s.heap H locs → lv_has ls 5 [(0, .ref (ad 0)), (1, .int x1), (3, .int x3)] → W p l e (pr_rm h) s m args below meth c H locs 0 0 (MQ below (pr_Qi D pr_cl prx_L ad dA A res) args s 0 0 A) (F0 m 62 ls [])) : ∀ (σ : pr_St) (x1 : Int32) (x3 : Int32) (res : (Int32 × pr_St)), some res = prf_X_sum_80 rc kk62 σ x1 x3 → ∀ (H : Heap) (locs : List Loc) (ls : Array Slot), va_P D pr_cl (pr_w prx_L ad dA σ) H → va_S A s.heap H locs → lv_has ls 5 [(0, .ref (ad 0)), (1, .int x1), (3, .int x3)] → W p l e (pr_rm h) s m args below meth c H locs 0 0 (MQ below (pr_Qi D pr_cl prx_L ad dA A res) args s 0 0 A) (F0 m 80 ls []) := by
  obtain ⟨hx, hb, hml, hown, hts, hr, hlocks, hK, hD, hX, hXs⟩ := id E
  intro σ x1 x3 res hf H locs ls hP hS hl
  unfold prf_X_sum_80 at hf
  refine lv_aload_n hx hb prd_X_sum_80 rfl (lv_at hl 0 rfl) ?_
  refine lv_aload_n hx hb prd_X_sum_81 rfl (lv_at hl 0 rfl) ?_
  obtain ⟨r50, hr50, hf⟩ := pr_bi hf
  refine pr_callVr (rest := [.ref (ad 0)]) (r := r50) ⟨hx, hb, hml, hown, hts⟩ 0 (prc_X_look hD hX 0 (Nat.le_refl _) σ  r50 hr50) (prg_X_look hts prw_896 (by have := hh; omega)) hX hXs hK hP hS (by decide) rfl rfl rfl rfl hl.1 (Nat.le_of_ble_eq_true rfl) prd_X_sum_82 (fun H locs hP hS => ?_)
  refine lv_bipush (v := 43) hx hb prd_X_sum_85 (by decide) ?_
  refine lv_icmp_ne (tgt := 95) hx hb prd_X_sum_87 (by decide) (fun c51 => ?_) (fun c51 => ?_)
  · have hf := pr_ie c51 hf
    refine lv_bipush (v := 19) hx hb prd_X_sum_95 (by decide) ?_
    refine lv_aload_n hx hb prd_X_sum_97 rfl (lv_at hl 0 rfl) ?_
    refine pr_getr (t := 4) hx hb hts prs_X hown hK hP 0 5 (by decide) rfl (hts _ prw_882) rfl prd_X_sum_98 ?_
    refine lv_aload_n hx hb prd_X_sum_101 rfl (lv_at hl 0 rfl) ?_
    refine pr_geti (v := (σ.1 0 8)) hx hb hts prs_X hown hK hP 0 8 (by decide) rfl (hts _ prw_888) rfl rfl prd_X_sum_102 ?_
    obtain ⟨hi52, hf⟩ := pr_ck_in hf
    refine pr_iald (f := (σ.2.1 4)) hx hb hK hP 4 (by decide) rfl hi52 rfl prd_X_sum_105 ?_
    refine lv_iconst (v := 0) hx hb prd_X_sum_106 (by decide) ?_
    obtain ⟨r53, hr53, hf⟩ := pr_bi hf
    refine pr_callVi (rest := []) (res := r53) ⟨hx, hb, hml, hown, hts⟩ 0 (prc_X_draft hD hX 0 (Nat.le_refl _) σ 19 ((σ.2.1 4) (σ.1 0 8).toNatClampNeg) 0 r53 hr53) (prg_X_draft hts prw_914 (by have := hh; omega)) hX hXs hK hP hS (by decide) rfl rfl rfl rfl hl.1 (Nat.le_of_ble_eq_true rfl) prd_X_sum_107 (fun H locs hP hS => ?_)
    refine lv_istore (lv' := [(4, .int r53.1), (0, .ref (ad 0)), (1, .int x1), (3, .int x3)]) hx hb prd_X_sum_110 hl (by decide) rfl (fun ls hl => ?_)
    refine lv_aload_n hx hb prd_X_sum_112 rfl (lv_at hl 1 rfl) ?_
    refine lv_aload_n hx hb prd_X_sum_113 rfl (lv_at hl 1 rfl) ?_
    obtain ⟨r54, hr54, hf⟩ := pr_bi hf
    refine pr_callVr (rest := [.ref (ad 0)]) (r := r54) ⟨hx, hb, hml, hown, hts⟩ 0 (prc_X_look hD hX 0 (Nat.le_refl _) r53.2  r54 hr54) (prg_X_look hts prw_896 (by have := hh; omega)) hX hXs hK hP hS (by decide) rfl rfl rfl rfl hl.1 (Nat.le_of_ble_eq_true rfl) prd_X_sum_114 (fun H locs hP hS => ?_)
    obtain ⟨r55, hr55, hf⟩ := pr_bi hf
    refine pr_callVv (rest := []) (res := r55) ⟨hx, hb, hml, hown, hts⟩ 0 (prc_X_take hD hX 1 (Nat.le_refl _) r53.2 r54 r55 hr55) (prg_X_take hts prw_915 (by have := hh; omega)) hX hXs hK hP hS (by decide) rfl rfl rfl rfl hl.1 (Nat.le_of_ble_eq_true rfl) prd_X_sum_117 (fun H locs hP hS => ?_)
    refine lv_aload_n hx hb prd_X_sum_120 rfl (lv_at hl 1 rfl) ?_
    refine lv_iload hx hb prd_X_sum_121 (lv_at hl 0 rfl) ?_
    refine lv_aload_n hx hb prd_X_sum_123 rfl (lv_at hl 1 rfl) ?_
    refine pr_geti (v := (r55.1 0 9)) hx hb hts prs_X hown hK hP 0 9 (by decide) rfl (hts _ prw_887) rfl rfl prd_X_sum_124 ?_
    refine lv_if_eq (tgt := 134) hx hb prd_X_sum_127 (by decide) (fun c56 => ?_) (fun c56 => ?_)
    · have hf := pr_it c56 hf
      refine lv_aload_n hx hb prd_X_sum_134 rfl (lv_at hl 1 rfl) ?_
      refine lv_iload_n hx hb prd_X_sum_135 rfl (lv_at hl 2 rfl) ?_
      obtain ⟨r57, hr57, hf⟩ := pr_bi hf
      refine pr_callVi (rest := [.int r53.1, .ref (ad 0)]) (res := r57) ⟨hx, hb, hml, hown, hts⟩ 0 (prc_X_term hD hX hd hb0 (hd + 1) (Nat.le_refl _) Hrc0 r55 x1 r57 hr57) (prg_X_term hts prw_931 (by have := hh; omega)) hX hXs hK hP hS (by decide) rfl rfl rfl rfl hl.1 (Nat.le_of_ble_eq_true rfl) prd_X_sum_136 (fun H locs hP hS => ?_)
      obtain ⟨r58, hr58, hf⟩ := pr_bi hf
      refine pr_callVv (rest := []) (res := r58) ⟨hx, hb, hml, hown, hts⟩ 0 (prc_X_join hD hX 0 (Nat.le_refl _) r57.2 r53.1 r57.1 r58 hr58) (prg_X_join hts prw_926 (by have := hh; omega)) hX hXs hK hP hS (by decide) rfl rfl rfl rfl hl.1 (Nat.le_of_ble_eq_true rfl) prd_X_sum_139 (fun H locs hP hS => ?_)
      refine lv_aload_n hx hb prd_X_sum_142 rfl (lv_at hl 1 rfl) ?_
      refine lv_iload_n hx hb prd_X_sum_143 rfl (lv_at hl 3 rfl) ?_
      refine lv_iload hx hb prd_X_sum_144 (lv_at hl 0 rfl) ?_
      obtain ⟨r59, hr59, hf⟩ := pr_bi hf
      refine pr_callVv (rest := []) (res := r59) ⟨hx, hb, hml, hown, hts⟩ 0 (prc_X_join hD hX 0 (Nat.le_refl _) r58 x3 r53.1 r59 hr59) (prg_X_join hts prw_926 (by have := hh; omega)) hX hXs hK hP hS (by decide) rfl rfl rfl rfl hl.1 (Nat.le_of_ble_eq_true rfl) prd_X_sum_146 (fun H locs hP hS => ?_)
      refine lv_goto (tgt := 62) hx hb prd_X_sum_149 (by decide) ?_
      exact Hk62 r59 x1 x3 _ hf _ _ _ hP hS (lv_sub hl [1, 2, 3] rfl)
    · have hf := pr_ie c56 hf
      refine lv_iconst (v := (-1)) hx hb prd_X_sum_130 (by decide) ?_
      refine lv_goto (tgt := 139) hx hb prd_X_sum_131 (by decide) ?_
      obtain ⟨r60, hr60, hf⟩ := pr_bi hf
      refine pr_callVv (rest := []) (res := r60) ⟨hx, hb, hml, hown, hts⟩ 0 (prc_X_join hD hX 0 (Nat.le_refl _) r55 r53.1 (-1) r60 hr60) (prg_X_join hts prw_926 (by have := hh; omega)) hX hXs hK hP hS (by decide) rfl rfl rfl rfl hl.1 (Nat.le_of_ble_eq_true rfl) prd_X_sum_139 (fun H locs hP hS => ?_)
      refine lv_aload_n hx hb prd_X_sum_142 rfl (lv_at hl 1 rfl) ?_
      refine lv_iload_n hx hb prd_X_sum_143 rfl (lv_at hl 3 rfl) ?_
      refine lv_iload hx hb prd_X_sum_144 (lv_at hl 0 rfl) ?_
      obtain ⟨r61, hr61, hf⟩ := pr_bi hf
      refine pr_callVv (rest := []) (res := r61) ⟨hx, hb, hml, hown, hts⟩ 0 (prc_X_join hD hX 0 (Nat.le_refl _) r60 x3 r53.1 r61 hr61) (prg_X_join hts prw_926 (by have := hh; omega)) hX hXs hK hP hS (by decide) rfl rfl rfl rfl hl.1 (Nat.le_of_ble_eq_true rfl) prd_X_sum_146 (fun H locs hP hS => ?_)
      refine lv_goto (tgt := 62) hx hb prd_X_sum_149 (by decide) ?_
      exact Hk62 r61 x1 x3 _ hf _ _ _ hP hS (lv_sub hl [1, 2, 3] rfl)
  · have hf := pr_it c51 hf
    refine lv_bipush (v := 18) hx hb prd_X_sum_90 (by decide) ?_
    refine lv_goto (tgt := 97) hx hb prd_X_sum_92 (by decide) ?_
    refine lv_aload_n hx hb prd_X_sum_97 rfl (lv_at hl 0 rfl) ?_
    refine pr_getr (t := 4) hx hb hts prs_X hown hK hP 0 5 (by decide) rfl (hts _ prw_882) rfl prd_X_sum_98 ?_
    refine lv_aload_n hx hb prd_X_sum_101 rfl (lv_at hl 0 rfl) ?_
    refine pr_geti (v := (σ.1 0 8)) hx hb hts prs_X hown hK hP 0 8 (by decide) rfl (hts _ prw_888) rfl rfl prd_X_sum_102 ?_
    obtain ⟨hi62, hf⟩ := pr_ck_in hf
    refine pr_iald (f := (σ.2.1 4)) hx hb hK hP 4 (by decide) rfl hi62 rfl prd_X_sum_105 ?_
    refine lv_iconst (v := 0) hx hb prd_X_sum_106 (by decide) ?_
    obtain ⟨r63, hr63, hf⟩ := pr_bi hf
    refine pr_callVi (rest := []) (res := r63) ⟨hx, hb, hml, hown, hts⟩ 0 (prc_X_draft hD hX 0 (Nat.le_refl _) σ 18 ((σ.2.1 4) (σ.1 0 8).toNatClampNeg) 0 r63 hr63) (prg_X_draft hts prw_914 (by have := hh; omega)) hX hXs hK hP hS (by decide) rfl rfl rfl rfl hl.1 (Nat.le_of_ble_eq_true rfl) prd_X_sum_107 (fun H locs hP hS => ?_)
    refine lv_istore (lv' := [(4, .int r63.1), (0, .ref (ad 0)), (1, .int x1), (3, .int x3)]) hx hb prd_X_sum_110 hl (by decide) rfl (fun ls hl => ?_)
    refine lv_aload_n hx hb prd_X_sum_112 rfl (lv_at hl 1 rfl) ?_
    refine lv_aload_n hx hb prd_X_sum_113 rfl (lv_at hl 1 rfl) ?_
    obtain ⟨r64, hr64, hf⟩ := pr_bi hf
    refine pr_callVr (rest := [.ref (ad 0)]) (r := r64) ⟨hx, hb, hml, hown, hts⟩ 0 (prc_X_look hD hX 0 (Nat.le_refl _) r63.2  r64 hr64) (prg_X_look hts prw_896 (by have := hh; omega)) hX hXs hK hP hS (by decide) rfl rfl rfl rfl hl.1 (Nat.le_of_ble_eq_true rfl) prd_X_sum_114 (fun H locs hP hS => ?_)
    obtain ⟨r65, hr65, hf⟩ := pr_bi hf
    refine pr_callVv (rest := []) (res := r65) ⟨hx, hb, hml, hown, hts⟩ 0 (prc_X_take hD hX 1 (Nat.le_refl _) r63.2 r64 r65 hr65) (prg_X_take hts prw_915 (by have := hh; omega)) hX hXs hK hP hS (by decide) rfl rfl rfl rfl hl.1 (Nat.le_of_ble_eq_true rfl) prd_X_sum_117 (fun H locs hP hS => ?_)
    refine lv_aload_n hx hb prd_X_sum_120 rfl (lv_at hl 1 rfl) ?_
    refine lv_iload hx hb prd_X_sum_121 (lv_at hl 0 rfl) ?_
    refine lv_aload_n hx hb prd_X_sum_123 rfl (lv_at hl 1 rfl) ?_
    refine pr_geti (v := (r65.1 0 9)) hx hb hts prs_X hown hK hP 0 9 (by decide) rfl (hts _ prw_887) rfl rfl prd_X_sum_124 ?_
    refine lv_if_eq (tgt := 134) hx hb prd_X_sum_127 (by decide) (fun c66 => ?_) (fun c66 => ?_)
    · have hf := pr_it c66 hf
      refine lv_aload_n hx hb prd_X_sum_134 rfl (lv_at hl 1 rfl) ?_
      refine lv_iload_n hx hb prd_X_sum_135 rfl (lv_at hl 2 rfl) ?_
      obtain ⟨r67, hr67, hf⟩ := pr_bi hf
      refine pr_callVi (rest := [.int r63.1, .ref (ad 0)]) (res := r67) ⟨hx, hb, hml, hown, hts⟩ 0 (prc_X_term hD hX hd hb0 (hd + 1) (Nat.le_refl _) Hrc0 r65 x1 r67 hr67) (prg_X_term hts prw_931 (by have := hh; omega)) hX hXs hK hP hS (by decide) rfl rfl rfl rfl hl.1 (Nat.le_of_ble_eq_true rfl) prd_X_sum_136 (fun H locs hP hS => ?_)
      obtain ⟨r68, hr68, hf⟩ := pr_bi hf
      refine pr_callVv (rest := []) (res := r68) ⟨hx, hb, hml, hown, hts⟩ 0 (prc_X_join hD hX 0 (Nat.le_refl _) r67.2 r63.1 r67.1 r68 hr68) (prg_X_join hts prw_926 (by have := hh; omega)) hX hXs hK hP hS (by decide) rfl rfl rfl rfl hl.1 (Nat.le_of_ble_eq_true rfl) prd_X_sum_139 (fun H locs hP hS => ?_)
      refine lv_aload_n hx hb prd_X_sum_142 rfl (lv_at hl 1 rfl) ?_
      refine lv_iload_n hx hb prd_X_sum_143 rfl (lv_at hl 3 rfl) ?_
      refine lv_iload hx hb prd_X_sum_144 (lv_at hl 0 rfl) ?_
      obtain ⟨r69, hr69, hf⟩ := pr_bi hf
      refine pr_callVv (rest := []) (res := r69) ⟨hx, hb, hml, hown, hts⟩ 0 (prc_X_join hD hX 0 (Nat.le_refl _) r68 x3 r63.1 r69 hr69) (prg_X_join hts prw_926 (by have := hh; omega)) hX hXs hK hP hS (by decide) rfl rfl rfl rfl hl.1 (Nat.le_of_ble_eq_true rfl) prd_X_sum_146 (fun H locs hP hS => ?_)
      refine lv_goto (tgt := 62) hx hb prd_X_sum_149 (by decide) ?_
      exact Hk62 r69 x1 x3 _ hf _ _ _ hP hS (lv_sub hl [1, 2, 3] rfl)
    · have hf := pr_ie c66 hf
      refine lv_iconst (v := (-1)) hx hb prd_X_sum_130 (by decide) ?_
      refine lv_goto (tgt := 139) hx hb prd_X_sum_131 (by decide) ?_
      obtain ⟨r70, hr70, hf⟩ := pr_bi hf
      refine pr_callVv (rest := []) (res := r70) ⟨hx, hb, hml, hown, hts⟩ 0 (prc_X_join hD hX 0 (Nat.le_refl _) r65 r63.1 (-1) r70 hr70) (prg_X_join hts prw_926 (by have := hh; omega)) hX hXs hK hP hS (by decide) rfl rfl rfl rfl hl.1 (Nat.le_of_ble_eq_true rfl) prd_X_sum_139 (fun H locs hP hS => ?_)
      refine lv_aload_n hx hb prd_X_sum_142 rfl (lv_at hl 1 rfl) ?_
      refine lv_iload_n hx hb prd_X_sum_143 rfl (lv_at hl 3 rfl) ?_
      refine lv_iload hx hb prd_X_sum_144 (lv_at hl 0 rfl) ?_
      obtain ⟨r71, hr71, hf⟩ := pr_bi hf
      refine pr_callVv (rest := []) (res := r71) ⟨hx, hb, hml, hown, hts⟩ 0 (prc_X_join hD hX 0 (Nat.le_refl _) r70 x3 r63.1 r71 hr71) (prg_X_join hts prw_926 (by have := hh; omega)) hX hXs hK hP hS (by decide) rfl rfl rfl rfl hl.1 (Nat.le_of_ble_eq_true rfl) prd_X_sum_146 (fun H locs hP hS => ?_)
      refine lv_goto (tgt := 62) hx hb prd_X_sum_149 (by decide) ?_
      exact Hk62 r71 x1 x3 _ hf _ _ _ hP hS (lv_sub hl [1, 2, 3] rfl)
set_option maxHeartbeats 4000000 in
set_option maxRecDepth 100000 in
theorem prk_X_sum_62 {l : Launch} {D : va_G} {ad : Nat → Nat} {dA : Nat → ClassId} {A : Nat → Prop} {v : Nat → Nat} {r : Value} {p : Program} {e : Env} {s : State} {m : MethodId} {args : Array Value} {below : List Frame} {meth : Method} {c : Code} (hd : Nat) (hb0 : 3 ≤ hd) {h : Nat} (hh : hd + 2 ≤ h) (E : pr_cx prn_X prb_X_sum 5 (some .int) D pr_cl prx_L ad dA A (prY ad v r A) p s m args meth c) {rc : pr_St → Int32 → Option (Int32 × pr_St)} (Hrc0 : ∀ (σ : pr_St) (x1 : Int32) (res : (Int32 × pr_St)), rc σ x1 = some res → Met l pry_X_factor (Cond.code pry_X_factor prb_X_factor 6 (some .int) :: pr_U) (pr_rm hd) (pr_Pc (prY ad v r A) D pr_cl prx_L ad dA [.ref (ad 0), .int x1] σ) (pr_Qi D pr_cl prx_L ad dA A res) 0 0 A) : ∀ n : Nat, ∀ (σ : pr_St) (x1 : Int32) (x3 : Int32) (res : (Int32 × pr_St)), some res = prf_X_sum_62 rc n σ x1 x3 → ∀ (H : Heap) (locs : List Loc) (ls : Array Slot), va_P D pr_cl (pr_w prx_L ad dA σ) H → va_S A s.heap H locs → lv_has ls 5 [(0, .ref (ad 0)), (1, .int x1), (3, .int x3)] → W p l e (pr_rm h) s m args below meth c H locs 0 0 (MQ below (pr_Qi D pr_cl prx_L ad dA A res) args s 0 0 A) (F0 m 62 ls []) := by
  obtain ⟨hx, hb, hml, hown, hts, hr, hlocks, hK, hD, hX, hXs⟩ := id E
  intro n
  induction n with
  | zero =>
    intro σ x1 x3 res hf
    rw [prf_X_sum_62] at hf
    cases hf
  | succ n ih =>
    intro σ x1 x3 res hf H locs ls hP hS hl
    rw [prf_X_sum_62] at hf
    refine lv_aload_n hx hb prd_X_sum_62 rfl (lv_at hl 0 rfl) ?_
    obtain ⟨r72, hr72, hf⟩ := pr_bi hf
    refine pr_callVr (rest := []) (r := r72) ⟨hx, hb, hml, hown, hts⟩ 0 (prc_X_look hD hX 0 (Nat.le_refl _) σ  r72 hr72) (prg_X_look hts prw_896 (by have := hh; omega)) hX hXs hK hP hS (by decide) rfl rfl rfl rfl hl.1 (Nat.le_of_ble_eq_true rfl) prd_X_sum_63 (fun H locs hP hS => ?_)
    refine lv_bipush (v := 43) hx hb prd_X_sum_66 (by decide) ?_
    refine lv_icmp_eq (tgt := 80) hx hb prd_X_sum_68 (by decide) (fun c73 => ?_) (fun c73 => ?_)
    · have hf := pr_it c73 hf
      exact prk_X_sum_80 hd hb0 hh E Hrc0 ih σ x1 x3 _ hf _ _ _ hP hS (lv_sub hl [0, 1, 2] rfl)
    · have hf := pr_ie c73 hf
      refine lv_aload_n hx hb prd_X_sum_71 rfl (lv_at hl 0 rfl) ?_
      obtain ⟨r74, hr74, hf⟩ := pr_bi hf
      refine pr_callVr (rest := []) (r := r74) ⟨hx, hb, hml, hown, hts⟩ 0 (prc_X_look hD hX 0 (Nat.le_refl _) σ  r74 hr74) (prg_X_look hts prw_896 (by have := hh; omega)) hX hXs hK hP hS (by decide) rfl rfl rfl rfl hl.1 (Nat.le_of_ble_eq_true rfl) prd_X_sum_72 (fun H locs hP hS => ?_)
      refine lv_bipush (v := 45) hx hb prd_X_sum_75 (by decide) ?_
      refine lv_icmp_ne (tgt := 152) hx hb prd_X_sum_77 (by decide) (fun c75 => ?_) (fun c75 => ?_)
      · have hf := pr_ie c75 hf
        refine lv_iload_n hx hb prd_X_sum_152 rfl (lv_at hl 2 rfl) ?_
        exact pr_reti E hP hS (pr_so hf) prd_X_sum_153
      · have hf := pr_it c75 hf
        exact prk_X_sum_80 hd hb0 hh E Hrc0 ih σ x1 x3 _ hf _ _ _ hP hS (lv_sub hl [0, 1, 2] rfl)
set_option maxHeartbeats 4000000 in
set_option maxRecDepth 100000 in
theorem prc_X_sum {l : Launch} {D : va_G} {ad : Nat → Nat} {dA : Nat → ClassId} {A : Nat → Prop} {v : Nat → Nat} {r : Value} (hD : ∀ σ : pr_St, va_D A (pr_w prx_L ad dA σ)) (hX : pr_Xok A (prY ad v r A)) (hd : Nat) (hb0 : 3 ≤ hd) (h : Nat) (hh : hd + 2 ≤ h) {rc : pr_St → Int32 → Option (Int32 × pr_St)} (Hrc0 : ∀ (σ : pr_St) (x1 : Int32) (res : (Int32 × pr_St)), rc σ x1 = some res → Met l pry_X_factor (Cond.code pry_X_factor prb_X_factor 6 (some .int) :: pr_U) (pr_rm hd) (pr_Pc (prY ad v r A) D pr_cl prx_L ad dA [.ref (ad 0), .int x1] σ) (pr_Qi D pr_cl prx_L ad dA A res) 0 0 A) (σ : pr_St) (x1 : Int32) (res : (Int32 × pr_St)) (hf : prf_X_sum rc σ x1 = some res) : Met l pry_X_sum (Cond.code pry_X_sum prb_X_sum 5 (some .int) :: pr_U) (pr_rm h) (pr_Pc (prY ad v r A) D pr_cl prx_L ad dA [.ref (ad 0), .int x1] σ) (pr_Qi D pr_cl prx_L ad dA A res) 0 0 A := by
  refine pr_entry (cc := prb_X_sum) (maxL := 5) (ret := (some .int)) (by decide) (Nat.le_of_ble_eq_true rfl) hD hX ?_
  intro p e s m args below meth c E H locs hP hS ls hl
  have hl : lv_has ls 5 [(0, .ref (ad 0)), (1, .int x1)] := hl
  have hf := hf.symm
  unfold prf_X_sum at hf
  obtain ⟨hx, hb, hml, hown, hts, hr, hlocks, hK, hD, hX, hXs⟩ := id E
  refine lv_aload_n hx hb prd_X_sum_0 rfl (lv_at hl 0 rfl) ?_
  refine lv_iload_n hx hb prd_X_sum_1 rfl (lv_at hl 1 rfl) ?_
  obtain ⟨r76, hr76, hf⟩ := pr_bi hf
  refine pr_callVv (rest := []) (res := r76) ⟨hx, hb, hml, hown, hts⟩ 0 (prc_X_deep hD hX 1 (Nat.le_refl _) σ x1 r76 hr76) (prg_X_deep hts prw_930 (by have := hh; omega)) hX hXs hK hP hS (by decide) rfl rfl rfl rfl hl.1 (Nat.le_of_ble_eq_true rfl) prd_X_sum_2 (fun H locs hP hS => ?_)
  refine lv_aload_n hx hb prd_X_sum_5 rfl (lv_at hl 0 rfl) ?_
  refine pr_geti (v := (r76.1 0 9)) hx hb hts prs_X hown hK hP 0 9 (by decide) rfl (hts _ prw_887) rfl rfl prd_X_sum_6 ?_
  refine lv_if_eq (tgt := 16) hx hb prd_X_sum_9 (by decide) (fun c77 => ?_) (fun c77 => ?_)
  · have hf := pr_it c77 hf
    refine lv_aload_n hx hb prd_X_sum_16 rfl (lv_at hl 0 rfl) ?_
    refine lv_iload_n hx hb prd_X_sum_17 rfl (lv_at hl 1 rfl) ?_
    obtain ⟨r78, hr78, hf⟩ := pr_bi hf
    refine pr_callVi (rest := []) (res := r78) ⟨hx, hb, hml, hown, hts⟩ 0 (prc_X_term hD hX hd hb0 (hd + 1) (Nat.le_refl _) Hrc0 r76 x1 r78 hr78) (prg_X_term hts prw_931 (by have := hh; omega)) hX hXs hK hP hS (by decide) rfl rfl rfl rfl hl.1 (Nat.le_of_ble_eq_true rfl) prd_X_sum_18 (fun H locs hP hS => ?_)
    refine lv_istore_n (lv' := [(2, .int r78.1), (0, .ref (ad 0)), (1, .int x1)]) hx hb prd_X_sum_21 rfl hl (by decide) rfl (fun ls hl => ?_)
    refine lv_aload_n hx hb prd_X_sum_22 rfl (lv_at hl 1 rfl) ?_
    obtain ⟨r79, hr79, hf⟩ := pr_bi hf
    refine pr_callVr (rest := []) (r := r79) ⟨hx, hb, hml, hown, hts⟩ 0 (prc_X_look hD hX 0 (Nat.le_refl _) r78.2  r79 hr79) (prg_X_look hts prw_896 (by have := hh; omega)) hX hXs hK hP hS (by decide) rfl rfl rfl rfl hl.1 (Nat.le_of_ble_eq_true rfl) prd_X_sum_23 (fun H locs hP hS => ?_)
    refine lv_bipush (v := 43) hx hb prd_X_sum_26 (by decide) ?_
    refine lv_icmp_eq (tgt := 42) hx hb prd_X_sum_28 (by decide) (fun c80 => ?_) (fun c80 => ?_)
    · have hf := pr_it c80 hf
      refine lv_aload_n hx hb prd_X_sum_42 rfl (lv_at hl 1 rfl) ?_
      refine lv_bipush (v := 17) hx hb prd_X_sum_43 (by decide) ?_
      refine lv_aload_n hx hb prd_X_sum_45 rfl (lv_at hl 1 rfl) ?_
      refine pr_getr (t := 7) hx hb hts prs_X hown hK hP 0 12 (by decide) rfl (hts _ prw_903) rfl prd_X_sum_46 ?_
      refine lv_iload_n hx hb prd_X_sum_49 rfl (lv_at hl 0 rfl) ?_
      obtain ⟨hi81, hf⟩ := pr_ck_in hf
      refine pr_iald (f := (r78.2.2.1 7)) hx hb hK hP 7 (by decide) rfl hi81 rfl prd_X_sum_50 ?_
      refine lv_iconst (v := 0) hx hb prd_X_sum_51 (by decide) ?_
      obtain ⟨r82, hr82, hf⟩ := pr_bi hf
      refine pr_callVi (rest := []) (res := r82) ⟨hx, hb, hml, hown, hts⟩ 0 (prc_X_draft hD hX 0 (Nat.le_refl _) r78.2 17 ((r78.2.2.1 7) r78.1.toNatClampNeg) 0 r82 hr82) (prg_X_draft hts prw_914 (by have := hh; omega)) hX hXs hK hP hS (by decide) rfl rfl rfl rfl hl.1 (Nat.le_of_ble_eq_true rfl) prd_X_sum_52 (fun H locs hP hS => ?_)
      refine lv_istore_n (lv' := [(3, .int r82.1), (2, .int r78.1), (0, .ref (ad 0)), (1, .int x1)]) hx hb prd_X_sum_55 rfl hl (by decide) rfl (fun ls hl => ?_)
      refine lv_aload_n hx hb prd_X_sum_56 rfl (lv_at hl 2 rfl) ?_
      refine lv_iload_n hx hb prd_X_sum_57 rfl (lv_at hl 0 rfl) ?_
      refine lv_iload_n hx hb prd_X_sum_58 rfl (lv_at hl 1 rfl) ?_
      obtain ⟨r83, hr83, hf⟩ := pr_bi hf
      refine pr_callVv (rest := []) (res := r83) ⟨hx, hb, hml, hown, hts⟩ 0 (prc_X_join hD hX 0 (Nat.le_refl _) r82.2 r82.1 r78.1 r83 hr83) (prg_X_join hts prw_926 (by have := hh; omega)) hX hXs hK hP hS (by decide) rfl rfl rfl rfl hl.1 (Nat.le_of_ble_eq_true rfl) prd_X_sum_59 (fun H locs hP hS => ?_)
      exact prk_X_sum_62 hd hb0 hh E Hrc0 pr_FU r83 x1 r82.1 _ hf _ _ _ hP hS (lv_sub hl [2, 3, 0] rfl)
    · have hf := pr_ie c80 hf
      refine lv_aload_n hx hb prd_X_sum_31 rfl (lv_at hl 1 rfl) ?_
      obtain ⟨r84, hr84, hf⟩ := pr_bi hf
      refine pr_callVr (rest := []) (r := r84) ⟨hx, hb, hml, hown, hts⟩ 0 (prc_X_look hD hX 0 (Nat.le_refl _) r78.2  r84 hr84) (prg_X_look hts prw_896 (by have := hh; omega)) hX hXs hK hP hS (by decide) rfl rfl rfl rfl hl.1 (Nat.le_of_ble_eq_true rfl) prd_X_sum_32 (fun H locs hP hS => ?_)
      refine lv_bipush (v := 45) hx hb prd_X_sum_35 (by decide) ?_
      refine lv_icmp_eq (tgt := 42) hx hb prd_X_sum_37 (by decide) (fun c85 => ?_) (fun c85 => ?_)
      · have hf := pr_it c85 hf
        refine lv_aload_n hx hb prd_X_sum_42 rfl (lv_at hl 1 rfl) ?_
        refine lv_bipush (v := 17) hx hb prd_X_sum_43 (by decide) ?_
        refine lv_aload_n hx hb prd_X_sum_45 rfl (lv_at hl 1 rfl) ?_
        refine pr_getr (t := 7) hx hb hts prs_X hown hK hP 0 12 (by decide) rfl (hts _ prw_903) rfl prd_X_sum_46 ?_
        refine lv_iload_n hx hb prd_X_sum_49 rfl (lv_at hl 0 rfl) ?_
        obtain ⟨hi86, hf⟩ := pr_ck_in hf
        refine pr_iald (f := (r78.2.2.1 7)) hx hb hK hP 7 (by decide) rfl hi86 rfl prd_X_sum_50 ?_
        refine lv_iconst (v := 0) hx hb prd_X_sum_51 (by decide) ?_
        obtain ⟨r87, hr87, hf⟩ := pr_bi hf
        refine pr_callVi (rest := []) (res := r87) ⟨hx, hb, hml, hown, hts⟩ 0 (prc_X_draft hD hX 0 (Nat.le_refl _) r78.2 17 ((r78.2.2.1 7) r78.1.toNatClampNeg) 0 r87 hr87) (prg_X_draft hts prw_914 (by have := hh; omega)) hX hXs hK hP hS (by decide) rfl rfl rfl rfl hl.1 (Nat.le_of_ble_eq_true rfl) prd_X_sum_52 (fun H locs hP hS => ?_)
        refine lv_istore_n (lv' := [(3, .int r87.1), (2, .int r78.1), (0, .ref (ad 0)), (1, .int x1)]) hx hb prd_X_sum_55 rfl hl (by decide) rfl (fun ls hl => ?_)
        refine lv_aload_n hx hb prd_X_sum_56 rfl (lv_at hl 2 rfl) ?_
        refine lv_iload_n hx hb prd_X_sum_57 rfl (lv_at hl 0 rfl) ?_
        refine lv_iload_n hx hb prd_X_sum_58 rfl (lv_at hl 1 rfl) ?_
        obtain ⟨r88, hr88, hf⟩ := pr_bi hf
        refine pr_callVv (rest := []) (res := r88) ⟨hx, hb, hml, hown, hts⟩ 0 (prc_X_join hD hX 0 (Nat.le_refl _) r87.2 r87.1 r78.1 r88 hr88) (prg_X_join hts prw_926 (by have := hh; omega)) hX hXs hK hP hS (by decide) rfl rfl rfl rfl hl.1 (Nat.le_of_ble_eq_true rfl) prd_X_sum_59 (fun H locs hP hS => ?_)
        exact prk_X_sum_62 hd hb0 hh E Hrc0 pr_FU r88 x1 r87.1 _ hf _ _ _ hP hS (lv_sub hl [2, 3, 0] rfl)
      · have hf := pr_ie c85 hf
        refine lv_iload_n hx hb prd_X_sum_40 rfl (lv_at hl 0 rfl) ?_
        exact pr_reti E hP hS (pr_so hf) prd_X_sum_41
  · have hf := pr_ie c77 hf
    refine lv_iconst (v := (-1)) hx hb prd_X_sum_12 (by decide) ?_
    refine lv_goto (tgt := 21) hx hb prd_X_sum_13 (by decide) ?_
    refine lv_istore_n (lv' := [(2, .int (-1)), (0, .ref (ad 0)), (1, .int x1)]) hx hb prd_X_sum_21 rfl hl (by decide) rfl (fun ls hl => ?_)
    refine lv_aload_n hx hb prd_X_sum_22 rfl (lv_at hl 1 rfl) ?_
    obtain ⟨r89, hr89, hf⟩ := pr_bi hf
    refine pr_callVr (rest := []) (r := r89) ⟨hx, hb, hml, hown, hts⟩ 0 (prc_X_look hD hX 0 (Nat.le_refl _) r76  r89 hr89) (prg_X_look hts prw_896 (by have := hh; omega)) hX hXs hK hP hS (by decide) rfl rfl rfl rfl hl.1 (Nat.le_of_ble_eq_true rfl) prd_X_sum_23 (fun H locs hP hS => ?_)
    refine lv_bipush (v := 43) hx hb prd_X_sum_26 (by decide) ?_
    refine lv_icmp_eq (tgt := 42) hx hb prd_X_sum_28 (by decide) (fun c90 => ?_) (fun c90 => ?_)
    · have hf := pr_it c90 hf
      refine lv_aload_n hx hb prd_X_sum_42 rfl (lv_at hl 1 rfl) ?_
      refine lv_bipush (v := 17) hx hb prd_X_sum_43 (by decide) ?_
      refine lv_aload_n hx hb prd_X_sum_45 rfl (lv_at hl 1 rfl) ?_
      refine pr_getr (t := 7) hx hb hts prs_X hown hK hP 0 12 (by decide) rfl (hts _ prw_903) rfl prd_X_sum_46 ?_
      refine lv_iload_n hx hb prd_X_sum_49 rfl (lv_at hl 0 rfl) ?_
      obtain ⟨hi91, hf⟩ := pr_ck_in hf
      refine pr_iald (f := (r76.2.1 7)) hx hb hK hP 7 (by decide) rfl hi91 rfl prd_X_sum_50 ?_
      refine lv_iconst (v := 0) hx hb prd_X_sum_51 (by decide) ?_
      obtain ⟨r92, hr92, hf⟩ := pr_bi hf
      refine pr_callVi (rest := []) (res := r92) ⟨hx, hb, hml, hown, hts⟩ 0 (prc_X_draft hD hX 0 (Nat.le_refl _) r76 17 ((r76.2.1 7) ((-1) : Int32).toNatClampNeg) 0 r92 hr92) (prg_X_draft hts prw_914 (by have := hh; omega)) hX hXs hK hP hS (by decide) rfl rfl rfl rfl hl.1 (Nat.le_of_ble_eq_true rfl) prd_X_sum_52 (fun H locs hP hS => ?_)
      refine lv_istore_n (lv' := [(3, .int r92.1), (2, .int (-1)), (0, .ref (ad 0)), (1, .int x1)]) hx hb prd_X_sum_55 rfl hl (by decide) rfl (fun ls hl => ?_)
      refine lv_aload_n hx hb prd_X_sum_56 rfl (lv_at hl 2 rfl) ?_
      refine lv_iload_n hx hb prd_X_sum_57 rfl (lv_at hl 0 rfl) ?_
      refine lv_iload_n hx hb prd_X_sum_58 rfl (lv_at hl 1 rfl) ?_
      obtain ⟨r93, hr93, hf⟩ := pr_bi hf
      refine pr_callVv (rest := []) (res := r93) ⟨hx, hb, hml, hown, hts⟩ 0 (prc_X_join hD hX 0 (Nat.le_refl _) r92.2 r92.1 (-1) r93 hr93) (prg_X_join hts prw_926 (by have := hh; omega)) hX hXs hK hP hS (by decide) rfl rfl rfl rfl hl.1 (Nat.le_of_ble_eq_true rfl) prd_X_sum_59 (fun H locs hP hS => ?_)
      exact prk_X_sum_62 hd hb0 hh E Hrc0 pr_FU r93 x1 r92.1 _ hf _ _ _ hP hS (lv_sub hl [2, 3, 0] rfl)
    · have hf := pr_ie c90 hf
      refine lv_aload_n hx hb prd_X_sum_31 rfl (lv_at hl 1 rfl) ?_
      obtain ⟨r94, hr94, hf⟩ := pr_bi hf
      refine pr_callVr (rest := []) (r := r94) ⟨hx, hb, hml, hown, hts⟩ 0 (prc_X_look hD hX 0 (Nat.le_refl _) r76  r94 hr94) (prg_X_look hts prw_896 (by have := hh; omega)) hX hXs hK hP hS (by decide) rfl rfl rfl rfl hl.1 (Nat.le_of_ble_eq_true rfl) prd_X_sum_32 (fun H locs hP hS => ?_)
      refine lv_bipush (v := 45) hx hb prd_X_sum_35 (by decide) ?_
      refine lv_icmp_eq (tgt := 42) hx hb prd_X_sum_37 (by decide) (fun c95 => ?_) (fun c95 => ?_)
      · have hf := pr_it c95 hf
        refine lv_aload_n hx hb prd_X_sum_42 rfl (lv_at hl 1 rfl) ?_
        refine lv_bipush (v := 17) hx hb prd_X_sum_43 (by decide) ?_
        refine lv_aload_n hx hb prd_X_sum_45 rfl (lv_at hl 1 rfl) ?_
        refine pr_getr (t := 7) hx hb hts prs_X hown hK hP 0 12 (by decide) rfl (hts _ prw_903) rfl prd_X_sum_46 ?_
        refine lv_iload_n hx hb prd_X_sum_49 rfl (lv_at hl 0 rfl) ?_
        obtain ⟨hi96, hf⟩ := pr_ck_in hf
        refine pr_iald (f := (r76.2.1 7)) hx hb hK hP 7 (by decide) rfl hi96 rfl prd_X_sum_50 ?_
        refine lv_iconst (v := 0) hx hb prd_X_sum_51 (by decide) ?_
        obtain ⟨r97, hr97, hf⟩ := pr_bi hf
        refine pr_callVi (rest := []) (res := r97) ⟨hx, hb, hml, hown, hts⟩ 0 (prc_X_draft hD hX 0 (Nat.le_refl _) r76 17 ((r76.2.1 7) ((-1) : Int32).toNatClampNeg) 0 r97 hr97) (prg_X_draft hts prw_914 (by have := hh; omega)) hX hXs hK hP hS (by decide) rfl rfl rfl rfl hl.1 (Nat.le_of_ble_eq_true rfl) prd_X_sum_52 (fun H locs hP hS => ?_)
        refine lv_istore_n (lv' := [(3, .int r97.1), (2, .int (-1)), (0, .ref (ad 0)), (1, .int x1)]) hx hb prd_X_sum_55 rfl hl (by decide) rfl (fun ls hl => ?_)
        refine lv_aload_n hx hb prd_X_sum_56 rfl (lv_at hl 2 rfl) ?_
        refine lv_iload_n hx hb prd_X_sum_57 rfl (lv_at hl 0 rfl) ?_
        refine lv_iload_n hx hb prd_X_sum_58 rfl (lv_at hl 1 rfl) ?_
        obtain ⟨r98, hr98, hf⟩ := pr_bi hf
        refine pr_callVv (rest := []) (res := r98) ⟨hx, hb, hml, hown, hts⟩ 0 (prc_X_join hD hX 0 (Nat.le_refl _) r97.2 r97.1 (-1) r98 hr98) (prg_X_join hts prw_926 (by have := hh; omega)) hX hXs hK hP hS (by decide) rfl rfl rfl rfl hl.1 (Nat.le_of_ble_eq_true rfl) prd_X_sum_59 (fun H locs hP hS => ?_)
        exact prk_X_sum_62 hd hb0 hh E Hrc0 pr_FU r98 x1 r97.1 _ hf _ _ _ hP hS (lv_sub hl [2, 3, 0] rfl)
      · have hf := pr_ie c95 hf
        refine lv_iload_n hx hb prd_X_sum_40 rfl (lv_at hl 0 rfl) ?_
        exact pr_reti E hP hS (pr_so hf) prd_X_sum_41
-- X_factor
set_option maxHeartbeats 4000000 in
set_option maxRecDepth 100000 in
theorem prc_X_factor {l : Launch} {D : va_G} {ad : Nat → Nat} {dA : Nat → ClassId} {A : Nat → Prop} {v : Nat → Nat} {r : Value} (hD : ∀ σ : pr_St, va_D A (pr_w prx_L ad dA σ)) (hX : pr_Xok A (prY ad v r A)) (hd : Nat) (hb0 : 3 ≤ hd) (h : Nat) (hh : hd + 3 ≤ h) {rc : pr_St → Int32 → Option (Int32 × pr_St)} (Hrc0 : ∀ (σ : pr_St) (x1 : Int32) (res : (Int32 × pr_St)), rc σ x1 = some res → Met l pry_X_factor (Cond.code pry_X_factor prb_X_factor 6 (some .int) :: pr_U) (pr_rm hd) (pr_Pc (prY ad v r A) D pr_cl prx_L ad dA [.ref (ad 0), .int x1] σ) (pr_Qi D pr_cl prx_L ad dA A res) 0 0 A) (σ : pr_St) (x1 : Int32) (res : (Int32 × pr_St)) (hf : prf_X_factor rc σ x1 = some res) : Met l pry_X_factor (Cond.code pry_X_factor prb_X_factor 6 (some .int) :: pr_U) (pr_rm h) (pr_Pc (prY ad v r A) D pr_cl prx_L ad dA [.ref (ad 0), .int x1] σ) (pr_Qi D pr_cl prx_L ad dA A res) 0 0 A := by
  refine pr_entry (cc := prb_X_factor) (maxL := 6) (ret := (some .int)) (by decide) (Nat.le_of_ble_eq_true rfl) hD hX ?_
  intro p e s m args below meth c E H locs hP hS ls hl
  have hl : lv_has ls 6 [(0, .ref (ad 0)), (1, .int x1)] := hl
  have hf := hf.symm
  unfold prf_X_factor at hf
  obtain ⟨hx, hb, hml, hown, hts, hr, hlocks, hK, hD, hX, hXs⟩ := id E
  refine lv_aload_n hx hb prd_X_factor_0 rfl (lv_at hl 0 rfl) ?_
  obtain ⟨r45, hr45, hf⟩ := pr_bi hf
  refine pr_callVr (rest := []) (r := r45) ⟨hx, hb, hml, hown, hts⟩ 0 (prc_X_look hD hX 0 (Nat.le_refl _) σ  r45 hr45) (prg_X_look hts prw_896 (by have := hh; omega)) hX hXs hK hP hS (by decide) rfl rfl rfl rfl hl.1 (Nat.le_of_ble_eq_true rfl) prd_X_factor_1 (fun H locs hP hS => ?_)
  refine lv_istore_n (lv' := [(2, .int r45), (0, .ref (ad 0)), (1, .int x1)]) hx hb prd_X_factor_4 rfl hl (by decide) rfl (fun ls hl => ?_)
  refine lv_iload_n hx hb prd_X_factor_5 rfl (lv_at hl 0 rfl) ?_
  refine lv_iconst (v := 3) hx hb prd_X_factor_6 (by decide) ?_
  refine lv_icmp_ne (tgt := 16) hx hb prd_X_factor_7 (by decide) (fun c46 => ?_) (fun c46 => ?_)
  · have hf := pr_ie c46 hf
    refine lv_iload_n hx hb prd_X_factor_16 rfl (lv_at hl 0 rfl) ?_
    refine lv_iconst (v := 2) hx hb prd_X_factor_17 (by decide) ?_
    refine lv_icmp_ne (tgt := 106) hx hb prd_X_factor_18 (by decide) (fun c47 => ?_) (fun c47 => ?_)
    · have hf := pr_ie c47 hf
      refine lv_iload_n hx hb prd_X_factor_106 rfl (lv_at hl 0 rfl) ?_
      refine lv_bipush (v := 45) hx hb prd_X_factor_107 (by decide) ?_
      refine lv_icmp_ne (tgt := 167) hx hb prd_X_factor_109 (by decide) (fun c48 => ?_) (fun c48 => ?_)
      · have hf := pr_ie c48 hf
        refine lv_iload_n hx hb prd_X_factor_167 rfl (lv_at hl 0 rfl) ?_
        refine lv_sipush (v := 307) hx hb prd_X_factor_168 (by decide) ?_
        refine lv_icmp_ne (tgt := 247) hx hb prd_X_factor_171 (by decide) (fun c49 => ?_) (fun c49 => ?_)
        · have hf := pr_ie c49 hf
          refine lv_aload_n hx hb prd_X_factor_247 rfl (lv_at hl 1 rfl) ?_
          refine lv_bipush (v := 40) hx hb prd_X_factor_248 (by decide) ?_
          obtain ⟨r50, hr50, hf⟩ := pr_bi hf
          refine pr_callVv (rest := []) (res := r50) ⟨hx, hb, hml, hown, hts⟩ 0 (prc_X_take hD hX 1 (Nat.le_refl _) σ 40 r50 hr50) (prg_X_take hts prw_915 (by have := hh; omega)) hX hXs hK hP hS (by decide) rfl rfl rfl rfl hl.1 (Nat.le_of_ble_eq_true rfl) prd_X_factor_250 (fun H locs hP hS => ?_)
          refine lv_aload_n hx hb prd_X_factor_253 rfl (lv_at hl 1 rfl) ?_
          refine pr_geti (v := (r50.1 0 9)) hx hb hts prs_X hown hK hP 0 9 (by decide) rfl (hts _ prw_887) rfl rfl prd_X_factor_254 ?_
          refine lv_if_eq (tgt := 264) hx hb prd_X_factor_257 (by decide) (fun c51 => ?_) (fun c51 => ?_)
          · have hf := pr_it c51 hf
            refine lv_aload_n hx hb prd_X_factor_264 rfl (lv_at hl 1 rfl) ?_
            refine lv_iload_n hx hb prd_X_factor_265 rfl (lv_at hl 2 rfl) ?_
            refine lv_iconst (v := 1) hx hb prd_X_factor_266 (by decide) ?_
            refine lv_iadd hx hb prd_X_factor_267 ?_
            obtain ⟨r52, hr52, hf⟩ := pr_bi hf
            refine pr_callVi (rest := []) (res := r52) ⟨hx, hb, hml, hown, hts⟩ 0 (prc_X_sum hD hX hd hb0 (hd + 2) (Nat.le_refl _) Hrc0 r50 (x1 + 1) r52 hr52) (prg_X_sum hts prw_935 (by have := hh; omega)) hX hXs hK hP hS (by decide) rfl rfl rfl rfl hl.1 (Nat.le_of_ble_eq_true rfl) prd_X_factor_268 (fun H locs hP hS => ?_)
            refine lv_istore_n (lv' := [(3, .int r52.1), (2, .int r45), (0, .ref (ad 0)), (1, .int x1)]) hx hb prd_X_factor_271 rfl hl (by decide) rfl (fun ls hl => ?_)
            refine lv_aload_n hx hb prd_X_factor_272 rfl (lv_at hl 2 rfl) ?_
            refine lv_bipush (v := 41) hx hb prd_X_factor_273 (by decide) ?_
            obtain ⟨r53, hr53, hf⟩ := pr_bi hf
            refine pr_callVv (rest := []) (res := r53) ⟨hx, hb, hml, hown, hts⟩ 0 (prc_X_take hD hX 1 (Nat.le_refl _) r52.2 41 r53 hr53) (prg_X_take hts prw_915 (by have := hh; omega)) hX hXs hK hP hS (by decide) rfl rfl rfl rfl hl.1 (Nat.le_of_ble_eq_true rfl) prd_X_factor_275 (fun H locs hP hS => ?_)
            refine lv_iload_n hx hb prd_X_factor_278 rfl (lv_at hl 0 rfl) ?_
            exact pr_reti E hP hS (pr_so hf) prd_X_factor_279
          · have hf := pr_ie c51 hf
            refine lv_iconst (v := (-1)) hx hb prd_X_factor_260 (by decide) ?_
            refine lv_goto (tgt := 271) hx hb prd_X_factor_261 (by decide) ?_
            refine lv_istore_n (lv' := [(3, .int (-1)), (2, .int r45), (0, .ref (ad 0)), (1, .int x1)]) hx hb prd_X_factor_271 rfl hl (by decide) rfl (fun ls hl => ?_)
            refine lv_aload_n hx hb prd_X_factor_272 rfl (lv_at hl 2 rfl) ?_
            refine lv_bipush (v := 41) hx hb prd_X_factor_273 (by decide) ?_
            obtain ⟨r54, hr54, hf⟩ := pr_bi hf
            refine pr_callVv (rest := []) (res := r54) ⟨hx, hb, hml, hown, hts⟩ 0 (prc_X_take hD hX 1 (Nat.le_refl _) r50 41 r54 hr54) (prg_X_take hts prw_915 (by have := hh; omega)) hX hXs hK hP hS (by decide) rfl rfl rfl rfl hl.1 (Nat.le_of_ble_eq_true rfl) prd_X_factor_275 (fun H locs hP hS => ?_)
            refine lv_iload_n hx hb prd_X_factor_278 rfl (lv_at hl 0 rfl) ?_
            exact pr_reti E hP hS (pr_so hf) prd_X_factor_279
        · have hf := pr_it c49 hf
          refine lv_aload_n hx hb prd_X_factor_174 rfl (lv_at hl 1 rfl) ?_
          refine lv_bipush (v := 16) hx hb prd_X_factor_175 (by decide) ?_
          refine lv_aload_n hx hb prd_X_factor_177 rfl (lv_at hl 1 rfl) ?_
          refine pr_getr (t := 4) hx hb hts prs_X hown hK hP 0 5 (by decide) rfl (hts _ prw_882) rfl prd_X_factor_178 ?_
          refine lv_aload_n hx hb prd_X_factor_181 rfl (lv_at hl 1 rfl) ?_
          refine pr_geti (v := (σ.1 0 8)) hx hb hts prs_X hown hK hP 0 8 (by decide) rfl (hts _ prw_888) rfl rfl prd_X_factor_182 ?_
          obtain ⟨hi55, hf⟩ := pr_ck_in hf
          refine pr_iald (f := (σ.2.1 4)) hx hb hK hP 4 (by decide) rfl hi55 rfl prd_X_factor_185 ?_
          refine lv_iconst (v := 0) hx hb prd_X_factor_186 (by decide) ?_
          obtain ⟨r56, hr56, hf⟩ := pr_bi hf
          refine pr_callVi (rest := []) (res := r56) ⟨hx, hb, hml, hown, hts⟩ 0 (prc_X_draft hD hX 0 (Nat.le_refl _) σ 16 ((σ.2.1 4) (σ.1 0 8).toNatClampNeg) 0 r56 hr56) (prg_X_draft hts prw_914 (by have := hh; omega)) hX hXs hK hP hS (by decide) rfl rfl rfl rfl hl.1 (Nat.le_of_ble_eq_true rfl) prd_X_factor_187 (fun H locs hP hS => ?_)
          refine lv_istore_n (lv' := [(3, .int r56.1), (2, .int r45), (0, .ref (ad 0)), (1, .int x1)]) hx hb prd_X_factor_190 rfl hl (by decide) rfl (fun ls hl => ?_)
          refine lv_aload_n hx hb prd_X_factor_191 rfl (lv_at hl 2 rfl) ?_
          refine lv_sipush (v := 307) hx hb prd_X_factor_192 (by decide) ?_
          obtain ⟨r57, hr57, hf⟩ := pr_bi hf
          refine pr_callVv (rest := []) (res := r57) ⟨hx, hb, hml, hown, hts⟩ 0 (prc_X_take hD hX 1 (Nat.le_refl _) r56.2 307 r57 hr57) (prg_X_take hts prw_915 (by have := hh; omega)) hX hXs hK hP hS (by decide) rfl rfl rfl rfl hl.1 (Nat.le_of_ble_eq_true rfl) prd_X_factor_195 (fun H locs hP hS => ?_)
          refine lv_aload_n hx hb prd_X_factor_198 rfl (lv_at hl 2 rfl) ?_
          obtain ⟨r58, hr58, hf⟩ := pr_bi hf
          refine pr_callVr (rest := []) (r := r58) ⟨hx, hb, hml, hown, hts⟩ 0 (prc_X_look hD hX 0 (Nat.le_refl _) r57  r58 hr58) (prg_X_look hts prw_896 (by have := hh; omega)) hX hXs hK hP hS (by decide) rfl rfl rfl rfl hl.1 (Nat.le_of_ble_eq_true rfl) prd_X_factor_199 (fun H locs hP hS => ?_)
          refine lv_bipush (v := 40) hx hb prd_X_factor_202 (by decide) ?_
          refine lv_icmp_ne (tgt := 245) hx hb prd_X_factor_204 (by decide) (fun c59 => ?_) (fun c59 => ?_)
          · have hf := pr_ie c59 hf
            refine lv_iload_n hx hb prd_X_factor_245 rfl (lv_at hl 0 rfl) ?_
            exact pr_reti E hP hS (pr_so hf) prd_X_factor_246
          · have hf := pr_it c59 hf
            refine lv_aload_n hx hb prd_X_factor_207 rfl (lv_at hl 2 rfl) ?_
            refine lv_bipush (v := 40) hx hb prd_X_factor_208 (by decide) ?_
            obtain ⟨r60, hr60, hf⟩ := pr_bi hf
            refine pr_callVv (rest := []) (res := r60) ⟨hx, hb, hml, hown, hts⟩ 0 (prc_X_take hD hX 1 (Nat.le_refl _) r57 40 r60 hr60) (prg_X_take hts prw_915 (by have := hh; omega)) hX hXs hK hP hS (by decide) rfl rfl rfl rfl hl.1 (Nat.le_of_ble_eq_true rfl) prd_X_factor_210 (fun H locs hP hS => ?_)
            refine lv_aload_n hx hb prd_X_factor_213 rfl (lv_at hl 2 rfl) ?_
            refine lv_iload_n hx hb prd_X_factor_214 rfl (lv_at hl 0 rfl) ?_
            refine lv_aload_n hx hb prd_X_factor_215 rfl (lv_at hl 2 rfl) ?_
            refine lv_iconst (v := 1) hx hb prd_X_factor_216 (by decide) ?_
            obtain ⟨r61, hr61, hf⟩ := pr_bi hf
            refine pr_callVi (rest := [.int r56.1, .ref (ad 0)]) (res := r61) ⟨hx, hb, hml, hown, hts⟩ 0 (prc_X_number hD hX 2 (Nat.le_refl _) r60 1 r61 hr61) (prg_X_number hts prw_936 (by have := hh; omega)) hX hXs hK hP hS (by decide) rfl rfl rfl rfl hl.1 (Nat.le_of_ble_eq_true rfl) prd_X_factor_217 (fun H locs hP hS => ?_)
            obtain ⟨r62, hr62, hf⟩ := pr_bi hf
            refine pr_callVv (rest := []) (res := r62) ⟨hx, hb, hml, hown, hts⟩ 0 (prc_X_join hD hX 0 (Nat.le_refl _) r61.2 r56.1 r61.1 r62 hr62) (prg_X_join hts prw_926 (by have := hh; omega)) hX hXs hK hP hS (by decide) rfl rfl rfl rfl hl.1 (Nat.le_of_ble_eq_true rfl) prd_X_factor_220 (fun H locs hP hS => ?_)
            refine lv_aload_n hx hb prd_X_factor_223 rfl (lv_at hl 2 rfl) ?_
            refine lv_bipush (v := 44) hx hb prd_X_factor_224 (by decide) ?_
            obtain ⟨r63, hr63, hf⟩ := pr_bi hf
            refine pr_callVv (rest := []) (res := r63) ⟨hx, hb, hml, hown, hts⟩ 0 (prc_X_take hD hX 1 (Nat.le_refl _) r62 44 r63 hr63) (prg_X_take hts prw_915 (by have := hh; omega)) hX hXs hK hP hS (by decide) rfl rfl rfl rfl hl.1 (Nat.le_of_ble_eq_true rfl) prd_X_factor_226 (fun H locs hP hS => ?_)
            refine lv_aload_n hx hb prd_X_factor_229 rfl (lv_at hl 2 rfl) ?_
            refine lv_iload_n hx hb prd_X_factor_230 rfl (lv_at hl 0 rfl) ?_
            refine lv_aload_n hx hb prd_X_factor_231 rfl (lv_at hl 2 rfl) ?_
            refine lv_iconst (v := 1) hx hb prd_X_factor_232 (by decide) ?_
            obtain ⟨r64, hr64, hf⟩ := pr_bi hf
            refine pr_callVi (rest := [.int r56.1, .ref (ad 0)]) (res := r64) ⟨hx, hb, hml, hown, hts⟩ 0 (prc_X_number hD hX 2 (Nat.le_refl _) r63 1 r64 hr64) (prg_X_number hts prw_936 (by have := hh; omega)) hX hXs hK hP hS (by decide) rfl rfl rfl rfl hl.1 (Nat.le_of_ble_eq_true rfl) prd_X_factor_233 (fun H locs hP hS => ?_)
            obtain ⟨r65, hr65, hf⟩ := pr_bi hf
            refine pr_callVv (rest := []) (res := r65) ⟨hx, hb, hml, hown, hts⟩ 0 (prc_X_join hD hX 0 (Nat.le_refl _) r64.2 r56.1 r64.1 r65 hr65) (prg_X_join hts prw_926 (by have := hh; omega)) hX hXs hK hP hS (by decide) rfl rfl rfl rfl hl.1 (Nat.le_of_ble_eq_true rfl) prd_X_factor_236 (fun H locs hP hS => ?_)
            refine lv_aload_n hx hb prd_X_factor_239 rfl (lv_at hl 2 rfl) ?_
            refine lv_bipush (v := 41) hx hb prd_X_factor_240 (by decide) ?_
            obtain ⟨r66, hr66, hf⟩ := pr_bi hf
            refine pr_callVv (rest := []) (res := r66) ⟨hx, hb, hml, hown, hts⟩ 0 (prc_X_take hD hX 1 (Nat.le_refl _) r65 41 r66 hr66) (prg_X_take hts prw_915 (by have := hh; omega)) hX hXs hK hP hS (by decide) rfl rfl rfl rfl hl.1 (Nat.le_of_ble_eq_true rfl) prd_X_factor_242 (fun H locs hP hS => ?_)
            refine lv_iload_n hx hb prd_X_factor_245 rfl (lv_at hl 0 rfl) ?_
            exact pr_reti E hP hS (pr_so hf) prd_X_factor_246
      · have hf := pr_it c48 hf
        refine lv_aload_n hx hb prd_X_factor_112 rfl (lv_at hl 1 rfl) ?_
        refine lv_bipush (v := 15) hx hb prd_X_factor_113 (by decide) ?_
        refine lv_aload_n hx hb prd_X_factor_115 rfl (lv_at hl 1 rfl) ?_
        refine pr_getr (t := 4) hx hb hts prs_X hown hK hP 0 5 (by decide) rfl (hts _ prw_882) rfl prd_X_factor_116 ?_
        refine lv_aload_n hx hb prd_X_factor_119 rfl (lv_at hl 1 rfl) ?_
        refine pr_geti (v := (σ.1 0 8)) hx hb hts prs_X hown hK hP 0 8 (by decide) rfl (hts _ prw_888) rfl rfl prd_X_factor_120 ?_
        obtain ⟨hi67, hf⟩ := pr_ck_in hf
        refine pr_iald (f := (σ.2.1 4)) hx hb hK hP 4 (by decide) rfl hi67 rfl prd_X_factor_123 ?_
        refine lv_iconst (v := 0) hx hb prd_X_factor_124 (by decide) ?_
        obtain ⟨r68, hr68, hf⟩ := pr_bi hf
        refine pr_callVi (rest := []) (res := r68) ⟨hx, hb, hml, hown, hts⟩ 0 (prc_X_draft hD hX 0 (Nat.le_refl _) σ 15 ((σ.2.1 4) (σ.1 0 8).toNatClampNeg) 0 r68 hr68) (prg_X_draft hts prw_914 (by have := hh; omega)) hX hXs hK hP hS (by decide) rfl rfl rfl rfl hl.1 (Nat.le_of_ble_eq_true rfl) prd_X_factor_125 (fun H locs hP hS => ?_)
        refine lv_istore_n (lv' := [(3, .int r68.1), (2, .int r45), (0, .ref (ad 0)), (1, .int x1)]) hx hb prd_X_factor_128 rfl hl (by decide) rfl (fun ls hl => ?_)
        refine lv_aload_n hx hb prd_X_factor_129 rfl (lv_at hl 2 rfl) ?_
        refine lv_bipush (v := 45) hx hb prd_X_factor_130 (by decide) ?_
        obtain ⟨r69, hr69, hf⟩ := pr_bi hf
        refine pr_callVv (rest := []) (res := r69) ⟨hx, hb, hml, hown, hts⟩ 0 (prc_X_take hD hX 1 (Nat.le_refl _) r68.2 45 r69 hr69) (prg_X_take hts prw_915 (by have := hh; omega)) hX hXs hK hP hS (by decide) rfl rfl rfl rfl hl.1 (Nat.le_of_ble_eq_true rfl) prd_X_factor_132 (fun H locs hP hS => ?_)
        refine lv_aload_n hx hb prd_X_factor_135 rfl (lv_at hl 2 rfl) ?_
        refine lv_iload_n hx hb prd_X_factor_136 rfl (lv_at hl 3 rfl) ?_
        refine lv_iconst (v := 1) hx hb prd_X_factor_137 (by decide) ?_
        refine lv_iadd hx hb prd_X_factor_138 ?_
        obtain ⟨r70, hr70, hf⟩ := pr_bi hf
        refine pr_callVv (rest := []) (res := r70) ⟨hx, hb, hml, hown, hts⟩ 0 (prc_X_deep hD hX 1 (Nat.le_refl _) r69 (x1 + 1) r70 hr70) (prg_X_deep hts prw_930 (by have := hh; omega)) hX hXs hK hP hS (by decide) rfl rfl rfl rfl hl.1 (Nat.le_of_ble_eq_true rfl) prd_X_factor_139 (fun H locs hP hS => ?_)
        refine lv_aload_n hx hb prd_X_factor_142 rfl (lv_at hl 2 rfl) ?_
        refine lv_iload_n hx hb prd_X_factor_143 rfl (lv_at hl 0 rfl) ?_
        refine lv_aload_n hx hb prd_X_factor_144 rfl (lv_at hl 2 rfl) ?_
        refine pr_geti (v := (r70.1 0 9)) hx hb hts prs_X hown hK hP 0 9 (by decide) rfl (hts _ prw_887) rfl rfl prd_X_factor_145 ?_
        refine lv_if_eq (tgt := 155) hx hb prd_X_factor_148 (by decide) (fun c71 => ?_) (fun c71 => ?_)
        · have hf := pr_it c71 hf
          refine lv_aload_n hx hb prd_X_factor_155 rfl (lv_at hl 2 rfl) ?_
          refine lv_iload_n hx hb prd_X_factor_156 rfl (lv_at hl 3 rfl) ?_
          refine lv_iconst (v := 1) hx hb prd_X_factor_157 (by decide) ?_
          refine lv_iadd hx hb prd_X_factor_158 ?_
          obtain ⟨r72, hr72, hf⟩ := pr_bi hf
          refine pr_callVi (rest := [.int r68.1, .ref (ad 0)]) (res := r72) ⟨hx, hb, hml, hown, hts⟩ 0 (Hrc0 r70 (x1 + 1) r72 hr72) (prg_X_factor hts prw_925 (by have := hh; omega)) hX hXs hK hP hS (by decide) rfl rfl rfl rfl hl.1 (Nat.le_of_ble_eq_true rfl) prd_X_factor_159 (fun H locs hP hS => ?_)
          obtain ⟨r73, hr73, hf⟩ := pr_bi hf
          refine pr_callVv (rest := []) (res := r73) ⟨hx, hb, hml, hown, hts⟩ 0 (prc_X_join hD hX 0 (Nat.le_refl _) r72.2 r68.1 r72.1 r73 hr73) (prg_X_join hts prw_926 (by have := hh; omega)) hX hXs hK hP hS (by decide) rfl rfl rfl rfl hl.1 (Nat.le_of_ble_eq_true rfl) prd_X_factor_162 (fun H locs hP hS => ?_)
          refine lv_iload_n hx hb prd_X_factor_165 rfl (lv_at hl 0 rfl) ?_
          exact pr_reti E hP hS (pr_so hf) prd_X_factor_166
        · have hf := pr_ie c71 hf
          refine lv_iconst (v := (-1)) hx hb prd_X_factor_151 (by decide) ?_
          refine lv_goto (tgt := 162) hx hb prd_X_factor_152 (by decide) ?_
          obtain ⟨r74, hr74, hf⟩ := pr_bi hf
          refine pr_callVv (rest := []) (res := r74) ⟨hx, hb, hml, hown, hts⟩ 0 (prc_X_join hD hX 0 (Nat.le_refl _) r70 r68.1 (-1) r74 hr74) (prg_X_join hts prw_926 (by have := hh; omega)) hX hXs hK hP hS (by decide) rfl rfl rfl rfl hl.1 (Nat.le_of_ble_eq_true rfl) prd_X_factor_162 (fun H locs hP hS => ?_)
          refine lv_iload_n hx hb prd_X_factor_165 rfl (lv_at hl 0 rfl) ?_
          exact pr_reti E hP hS (pr_so hf) prd_X_factor_166
    · have hf := pr_it c47 hf
      refine lv_aload_n hx hb prd_X_factor_21 rfl (lv_at hl 1 rfl) ?_
      refine pr_getr (t := 4) hx hb hts prs_X hown hK hP 0 5 (by decide) rfl (hts _ prw_882) rfl prd_X_factor_22 ?_
      refine lv_aload_n hx hb prd_X_factor_25 rfl (lv_at hl 1 rfl) ?_
      refine pr_geti (v := (σ.1 0 8)) hx hb hts prs_X hown hK hP 0 8 (by decide) rfl (hts _ prw_888) rfl rfl prd_X_factor_26 ?_
      obtain ⟨hi75, hf⟩ := pr_ck_in hf
      refine pr_iald (f := (σ.2.1 4)) hx hb hK hP 4 (by decide) rfl hi75 rfl prd_X_factor_29 ?_
      refine lv_istore_n (lv' := [(3, .int ((σ.2.1 4) (σ.1 0 8).toNatClampNeg)), (2, .int r45), (0, .ref (ad 0)), (1, .int x1)]) hx hb prd_X_factor_30 rfl hl (by decide) rfl (fun ls hl => ?_)
      refine lv_aload_n hx hb prd_X_factor_31 rfl (lv_at hl 2 rfl) ?_
      obtain ⟨r76, hr76, hf⟩ := pr_bi hf
      refine pr_callVi (rest := []) (res := r76) ⟨hx, hb, hml, hown, hts⟩ 0 (prc_X_name hD hX 2 (Nat.le_refl _) σ  r76 hr76) (prg_X_name hts prw_937 (by have := hh; omega)) hX hXs hK hP hS (by decide) rfl rfl rfl rfl hl.1 (Nat.le_of_ble_eq_true rfl) prd_X_factor_32 (fun H locs hP hS => ?_)
      refine lv_istore (lv' := [(4, .int r76.1), (3, .int ((σ.2.1 4) (σ.1 0 8).toNatClampNeg)), (2, .int r45), (0, .ref (ad 0)), (1, .int x1)]) hx hb prd_X_factor_35 hl (by decide) rfl (fun ls hl => ?_)
      refine lv_aload_n hx hb prd_X_factor_37 rfl (lv_at hl 3 rfl) ?_
      obtain ⟨r77, hr77, hf⟩ := pr_bi hf
      refine pr_callVr (rest := []) (r := r77) ⟨hx, hb, hml, hown, hts⟩ 0 (prc_X_look hD hX 0 (Nat.le_refl _) r76.2  r77 hr77) (prg_X_look hts prw_896 (by have := hh; omega)) hX hXs hK hP hS (by decide) rfl rfl rfl rfl hl.1 (Nat.le_of_ble_eq_true rfl) prd_X_factor_38 (fun H locs hP hS => ?_)
      refine lv_bipush (v := 91) hx hb prd_X_factor_41 (by decide) ?_
      refine lv_icmp_eq (tgt := 49) hx hb prd_X_factor_43 (by decide) (fun c78 => ?_) (fun c78 => ?_)
      · have hf := pr_it c78 hf
        refine lv_aload_n hx hb prd_X_factor_49 rfl (lv_at hl 3 rfl) ?_
        refine lv_bipush (v := 14) hx hb prd_X_factor_50 (by decide) ?_
        refine lv_iload_n hx hb prd_X_factor_52 rfl (lv_at hl 1 rfl) ?_
        refine lv_iconst (v := 0) hx hb prd_X_factor_53 (by decide) ?_
        obtain ⟨r79, hr79, hf⟩ := pr_bi hf
        refine pr_callVi (rest := []) (res := r79) ⟨hx, hb, hml, hown, hts⟩ 0 (prc_X_draft hD hX 0 (Nat.le_refl _) r76.2 14 ((σ.2.1 4) (σ.1 0 8).toNatClampNeg) 0 r79 hr79) (prg_X_draft hts prw_914 (by have := hh; omega)) hX hXs hK hP hS (by decide) rfl rfl rfl rfl hl.1 (Nat.le_of_ble_eq_true rfl) prd_X_factor_54 (fun H locs hP hS => ?_)
        refine lv_istore (lv' := [(5, .int r79.1), (4, .int r76.1), (3, .int ((σ.2.1 4) (σ.1 0 8).toNatClampNeg)), (2, .int r45), (0, .ref (ad 0)), (1, .int x1)]) hx hb prd_X_factor_57 hl (by decide) rfl (fun ls hl => ?_)
        refine lv_aload_n hx hb prd_X_factor_59 rfl (lv_at hl 4 rfl) ?_
        refine lv_iload hx hb prd_X_factor_60 (lv_at hl 0 rfl) ?_
        refine lv_iload hx hb prd_X_factor_62 (lv_at hl 1 rfl) ?_
        obtain ⟨r80, hr80, hf⟩ := pr_bi hf
        refine pr_callVv (rest := []) (res := r80) ⟨hx, hb, hml, hown, hts⟩ 0 (prc_X_join hD hX 0 (Nat.le_refl _) r79.2 r79.1 r76.1 r80 hr80) (prg_X_join hts prw_926 (by have := hh; omega)) hX hXs hK hP hS (by decide) rfl rfl rfl rfl hl.1 (Nat.le_of_ble_eq_true rfl) prd_X_factor_64 (fun H locs hP hS => ?_)
        refine lv_aload_n hx hb prd_X_factor_67 rfl (lv_at hl 4 rfl) ?_
        refine lv_bipush (v := 91) hx hb prd_X_factor_68 (by decide) ?_
        obtain ⟨r81, hr81, hf⟩ := pr_bi hf
        refine pr_callVv (rest := []) (res := r81) ⟨hx, hb, hml, hown, hts⟩ 0 (prc_X_take hD hX 1 (Nat.le_refl _) r80 91 r81 hr81) (prg_X_take hts prw_915 (by have := hh; omega)) hX hXs hK hP hS (by decide) rfl rfl rfl rfl hl.1 (Nat.le_of_ble_eq_true rfl) prd_X_factor_70 (fun H locs hP hS => ?_)
        refine lv_aload_n hx hb prd_X_factor_73 rfl (lv_at hl 4 rfl) ?_
        refine lv_iload hx hb prd_X_factor_74 (lv_at hl 0 rfl) ?_
        refine lv_aload_n hx hb prd_X_factor_76 rfl (lv_at hl 4 rfl) ?_
        refine pr_geti (v := (r81.1 0 9)) hx hb hts prs_X hown hK hP 0 9 (by decide) rfl (hts _ prw_887) rfl rfl prd_X_factor_77 ?_
        refine lv_if_eq (tgt := 87) hx hb prd_X_factor_80 (by decide) (fun c82 => ?_) (fun c82 => ?_)
        · have hf := pr_it c82 hf
          refine lv_aload_n hx hb prd_X_factor_87 rfl (lv_at hl 4 rfl) ?_
          refine lv_iload_n hx hb prd_X_factor_88 rfl (lv_at hl 5 rfl) ?_
          refine lv_iconst (v := 1) hx hb prd_X_factor_89 (by decide) ?_
          refine lv_iadd hx hb prd_X_factor_90 ?_
          obtain ⟨r83, hr83, hf⟩ := pr_bi hf
          refine pr_callVi (rest := [.int r79.1, .ref (ad 0)]) (res := r83) ⟨hx, hb, hml, hown, hts⟩ 0 (prc_X_sum hD hX hd hb0 (hd + 2) (Nat.le_refl _) Hrc0 r81 (x1 + 1) r83 hr83) (prg_X_sum hts prw_935 (by have := hh; omega)) hX hXs hK hP hS (by decide) rfl rfl rfl rfl hl.1 (Nat.le_of_ble_eq_true rfl) prd_X_factor_91 (fun H locs hP hS => ?_)
          obtain ⟨r84, hr84, hf⟩ := pr_bi hf
          refine pr_callVv (rest := []) (res := r84) ⟨hx, hb, hml, hown, hts⟩ 0 (prc_X_join hD hX 0 (Nat.le_refl _) r83.2 r79.1 r83.1 r84 hr84) (prg_X_join hts prw_926 (by have := hh; omega)) hX hXs hK hP hS (by decide) rfl rfl rfl rfl hl.1 (Nat.le_of_ble_eq_true rfl) prd_X_factor_94 (fun H locs hP hS => ?_)
          refine lv_aload_n hx hb prd_X_factor_97 rfl (lv_at hl 4 rfl) ?_
          refine lv_bipush (v := 93) hx hb prd_X_factor_98 (by decide) ?_
          obtain ⟨r85, hr85, hf⟩ := pr_bi hf
          refine pr_callVv (rest := []) (res := r85) ⟨hx, hb, hml, hown, hts⟩ 0 (prc_X_take hD hX 1 (Nat.le_refl _) r84 93 r85 hr85) (prg_X_take hts prw_915 (by have := hh; omega)) hX hXs hK hP hS (by decide) rfl rfl rfl rfl hl.1 (Nat.le_of_ble_eq_true rfl) prd_X_factor_100 (fun H locs hP hS => ?_)
          refine lv_iload hx hb prd_X_factor_103 (lv_at hl 0 rfl) ?_
          exact pr_reti E hP hS (pr_so hf) prd_X_factor_105
        · have hf := pr_ie c82 hf
          refine lv_iconst (v := (-1)) hx hb prd_X_factor_83 (by decide) ?_
          refine lv_goto (tgt := 94) hx hb prd_X_factor_84 (by decide) ?_
          obtain ⟨r86, hr86, hf⟩ := pr_bi hf
          refine pr_callVv (rest := []) (res := r86) ⟨hx, hb, hml, hown, hts⟩ 0 (prc_X_join hD hX 0 (Nat.le_refl _) r81 r79.1 (-1) r86 hr86) (prg_X_join hts prw_926 (by have := hh; omega)) hX hXs hK hP hS (by decide) rfl rfl rfl rfl hl.1 (Nat.le_of_ble_eq_true rfl) prd_X_factor_94 (fun H locs hP hS => ?_)
          refine lv_aload_n hx hb prd_X_factor_97 rfl (lv_at hl 4 rfl) ?_
          refine lv_bipush (v := 93) hx hb prd_X_factor_98 (by decide) ?_
          obtain ⟨r87, hr87, hf⟩ := pr_bi hf
          refine pr_callVv (rest := []) (res := r87) ⟨hx, hb, hml, hown, hts⟩ 0 (prc_X_take hD hX 1 (Nat.le_refl _) r86 93 r87 hr87) (prg_X_take hts prw_915 (by have := hh; omega)) hX hXs hK hP hS (by decide) rfl rfl rfl rfl hl.1 (Nat.le_of_ble_eq_true rfl) prd_X_factor_100 (fun H locs hP hS => ?_)
          refine lv_iload hx hb prd_X_factor_103 (lv_at hl 0 rfl) ?_
          exact pr_reti E hP hS (pr_so hf) prd_X_factor_105
      · have hf := pr_ie c78 hf
        refine lv_iload hx hb prd_X_factor_46 (lv_at hl 0 rfl) ?_
        exact pr_reti E hP hS (pr_so hf) prd_X_factor_48
  · have hf := pr_it c46 hf
    refine lv_aload_n hx hb prd_X_factor_10 rfl (lv_at hl 1 rfl) ?_
    refine lv_iconst (v := 0) hx hb prd_X_factor_11 (by decide) ?_
    obtain ⟨r88, hr88, hf⟩ := pr_bi hf
    refine pr_callVi (rest := []) (res := r88) ⟨hx, hb, hml, hown, hts⟩ 0 (prc_X_number hD hX 2 (Nat.le_refl _) σ 0 r88 hr88) (prg_X_number hts prw_936 (by have := hh; omega)) hX hXs hK hP hS (by decide) rfl rfl rfl rfl hl.1 (Nat.le_of_ble_eq_true rfl) prd_X_factor_12 (fun H locs hP hS => ?_)
    exact pr_reti E hP hS (pr_so hf) prd_X_factor_15
-- prF_X_factor
set_option maxHeartbeats 4000000 in
theorem prF_X_factor_ok {l : Launch} {D : va_G} {ad : Nat → Nat} {dA : Nat → ClassId} {A : Nat → Prop} {v : Nat → Nat} {r : Value} (hD : ∀ σ : pr_St, va_D A (pr_w prx_L ad dA σ)) (hX : pr_Xok A (prY ad v r A)) : ∀ n : Nat, (∀ (σ : pr_St) (x1 : Int32) (res : (Int32 × pr_St)), prF_X_factor n σ x1 = some res → Met l pry_X_factor (Cond.code pry_X_factor prb_X_factor 6 (some .int) :: pr_U) (pr_rm (3 + 3 * n)) (pr_Pc (prY ad v r A) D pr_cl prx_L ad dA [.ref (ad 0), .int x1] σ) (pr_Qi D pr_cl prx_L ad dA A res) 0 0 A) := by
  intro n
  induction n with
  | zero => exact (fun σ x1 res hf => by cases hf)
  | succ n ih =>
    have i0 := ih
    exact fun σ x1 res hf => prc_X_factor hD hX (3 + 3 * n) (by omega) (3 + 3 * (n + 1)) (by omega) i0 σ x1 res hf
theorem prct_X_factor {l : Launch} {D : va_G} {ad : Nat → Nat} {dA : Nat → ClassId} {A : Nat → Prop} {v : Nat → Nat} {r : Value} (hD : ∀ σ : pr_St, va_D A (pr_w prx_L ad dA σ)) (hX : pr_Xok A (prY ad v r A)) (σ : pr_St) (x1 : Int32) (res : (Int32 × pr_St)) (hf : prf_X_factor (prF_X_factor 70) σ x1 = some res) : Met l pry_X_factor (Cond.code pry_X_factor prb_X_factor 6 (some .int) :: pr_U) (pr_rm 216) (pr_Pc (prY ad v r A) D pr_cl prx_L ad dA [.ref (ad 0), .int x1] σ) (pr_Qi D pr_cl prx_L ad dA A res) 0 0 A :=
  prc_X_factor hD hX (3 + 3 * 70) (by decide) 216 (by decide) (prF_X_factor_ok hD hX 70) σ x1 res hf
theorem prct_X_term {l : Launch} {D : va_G} {ad : Nat → Nat} {dA : Nat → ClassId} {A : Nat → Prop} {v : Nat → Nat} {r : Value} (hD : ∀ σ : pr_St, va_D A (pr_w prx_L ad dA σ)) (hX : pr_Xok A (prY ad v r A)) (σ : pr_St) (x1 : Int32) (res : (Int32 × pr_St)) (hf : prf_X_term (prF_X_factor 70) σ x1 = some res) : Met l pry_X_term (Cond.code pry_X_term prb_X_term 5 (some .int) :: pr_U) (pr_rm 214) (pr_Pc (prY ad v r A) D pr_cl prx_L ad dA [.ref (ad 0), .int x1] σ) (pr_Qi D pr_cl prx_L ad dA A res) 0 0 A :=
  prc_X_term hD hX (3 + 3 * 70) (by decide) 214 (by decide) (prF_X_factor_ok hD hX 70) σ x1 res hf
theorem prct_X_sum {l : Launch} {D : va_G} {ad : Nat → Nat} {dA : Nat → ClassId} {A : Nat → Prop} {v : Nat → Nat} {r : Value} (hD : ∀ σ : pr_St, va_D A (pr_w prx_L ad dA σ)) (hX : pr_Xok A (prY ad v r A)) (σ : pr_St) (x1 : Int32) (res : (Int32 × pr_St)) (hf : prf_X_sum (prF_X_factor 70) σ x1 = some res) : Met l pry_X_sum (Cond.code pry_X_sum prb_X_sum 5 (some .int) :: pr_U) (pr_rm 215) (pr_Pc (prY ad v r A) D pr_cl prx_L ad dA [.ref (ad 0), .int x1] σ) (pr_Qi D pr_cl prx_L ad dA A res) 0 0 A :=
  prc_X_sum hD hX (3 + 3 * 70) (by decide) 215 (by decide) (prF_X_factor_ok hD hX 70) σ x1 res hf
-- X_cond
set_option maxHeartbeats 4000000 in
set_option maxRecDepth 100000 in
theorem prc_X_cond {l : Launch} {D : va_G} {ad : Nat → Nat} {dA : Nat → ClassId} {A : Nat → Prop} {v : Nat → Nat} {r : Value} (hD : ∀ σ : pr_St, va_D A (pr_w prx_L ad dA σ)) (hX : pr_Xok A (prY ad v r A)) (hd : Nat) (hb0 : 216 ≤ hd) (h : Nat) (hh : hd + 1 ≤ h) {rc : Nat → pr_St → Int32 → Int32 → Option (Int32 × pr_St)} (Hrc0 : ∀ (σ : pr_St) (x1 : Int32) (res : (Int32 × pr_St)), rc 0 σ x1 0 = some res → Met l pry_X_test (Cond.code pry_X_test prb_X_test 6 (some .int) :: pr_U) (pr_rm hd) (pr_Pc (prY ad v r A) D pr_cl prx_L ad dA [.ref (ad 0), .int x1] σ) (pr_Qi D pr_cl prx_L ad dA A res) 0 0 A) (Hrc1 : ∀ (σ : pr_St) (x1 x2 : Int32) (res : (Int32 × pr_St)), rc 1 σ x1 x2 = some res → Met l pry_X_tests (Cond.code pry_X_tests prb_X_tests 6 (some .int) :: pr_U) (pr_rm hd) (pr_Pc (prY ad v r A) D pr_cl prx_L ad dA [.ref (ad 0), .int x1, .int x2] σ) (pr_Qi D pr_cl prx_L ad dA A res) 0 0 A) (σ : pr_St) (x1 : Int32) (res : (Int32 × pr_St)) (hf : prf_X_cond rc σ x1 = some res) : Met l pry_X_cond (Cond.code pry_X_cond prb_X_cond 2 (some .int) :: pr_U) (pr_rm h) (pr_Pc (prY ad v r A) D pr_cl prx_L ad dA [.ref (ad 0), .int x1] σ) (pr_Qi D pr_cl prx_L ad dA A res) 0 0 A := by
  refine pr_entry (cc := prb_X_cond) (maxL := 2) (ret := (some .int)) (by decide) (Nat.le_of_ble_eq_true rfl) hD hX ?_
  intro p e s m args below meth c E H locs hP hS ls hl
  have hl : lv_has ls 2 [(0, .ref (ad 0)), (1, .int x1)] := hl
  have hf := hf.symm
  unfold prf_X_cond at hf
  obtain ⟨hx, hb, hml, hown, hts, hr, hlocks, hK, hD, hX, hXs⟩ := id E
  refine lv_aload_n hx hb prd_X_cond_0 rfl (lv_at hl 0 rfl) ?_
  refine lv_iload_n hx hb prd_X_cond_1 rfl (lv_at hl 1 rfl) ?_
  obtain ⟨r4, hr4, hf⟩ := pr_bi hf
  refine pr_callVv (rest := []) (res := r4) ⟨hx, hb, hml, hown, hts⟩ 0 (prc_X_deep hD hX 1 (Nat.le_refl _) σ x1 r4 hr4) (prg_X_deep hts prw_930 (by have := hh; omega)) hX hXs hK hP hS (by decide) rfl rfl rfl rfl hl.1 (Nat.le_of_ble_eq_true rfl) prd_X_cond_2 (fun H locs hP hS => ?_)
  refine lv_aload_n hx hb prd_X_cond_5 rfl (lv_at hl 0 rfl) ?_
  refine pr_geti (v := (r4.1 0 9)) hx hb hts prs_X hown hK hP 0 9 (by decide) rfl (hts _ prw_887) rfl rfl prd_X_cond_6 ?_
  refine lv_if_eq (tgt := 16) hx hb prd_X_cond_9 (by decide) (fun c5 => ?_) (fun c5 => ?_)
  · have hf := pr_it c5 hf
    refine lv_aload_n hx hb prd_X_cond_16 rfl (lv_at hl 0 rfl) ?_
    refine lv_iload_n hx hb prd_X_cond_17 rfl (lv_at hl 1 rfl) ?_
    refine lv_bipush (v := 24) hx hb prd_X_cond_18 (by decide) ?_
    obtain ⟨r6, hr6, hf⟩ := pr_bi hf
    refine pr_callVi (rest := []) (res := r6) ⟨hx, hb, hml, hown, hts⟩ 0 (Hrc1 r4 x1 24 r6 hr6) (prg_X_tests hts prw_941 (by have := hh; omega)) hX hXs hK hP hS (by decide) rfl rfl rfl rfl hl.1 (Nat.le_of_ble_eq_true rfl) prd_X_cond_20 (fun H locs hP hS => ?_)
    exact pr_reti E hP hS (pr_so hf) prd_X_cond_23
  · have hf := pr_ie c5 hf
    refine lv_iconst (v := (-1)) hx hb prd_X_cond_12 (by decide) ?_
    refine lv_goto (tgt := 23) hx hb prd_X_cond_13 (by decide) ?_
    exact pr_reti E hP hS (pr_so hf) prd_X_cond_23
-- X_test
set_option maxHeartbeats 4000000 in
set_option maxRecDepth 100000 in
theorem prc_X_test {l : Launch} {D : va_G} {ad : Nat → Nat} {dA : Nat → ClassId} {A : Nat → Prop} {v : Nat → Nat} {r : Value} (hD : ∀ σ : pr_St, va_D A (pr_w prx_L ad dA σ)) (hX : pr_Xok A (prY ad v r A)) (hd : Nat) (hb0 : 216 ≤ hd) (h : Nat) (hh : hd + 2 ≤ h) {rc : Nat → pr_St → Int32 → Int32 → Option (Int32 × pr_St)} (Hrc0 : ∀ (σ : pr_St) (x1 : Int32) (res : (Int32 × pr_St)), rc 0 σ x1 0 = some res → Met l pry_X_test (Cond.code pry_X_test prb_X_test 6 (some .int) :: pr_U) (pr_rm hd) (pr_Pc (prY ad v r A) D pr_cl prx_L ad dA [.ref (ad 0), .int x1] σ) (pr_Qi D pr_cl prx_L ad dA A res) 0 0 A) (Hrc1 : ∀ (σ : pr_St) (x1 x2 : Int32) (res : (Int32 × pr_St)), rc 1 σ x1 x2 = some res → Met l pry_X_tests (Cond.code pry_X_tests prb_X_tests 6 (some .int) :: pr_U) (pr_rm hd) (pr_Pc (prY ad v r A) D pr_cl prx_L ad dA [.ref (ad 0), .int x1, .int x2] σ) (pr_Qi D pr_cl prx_L ad dA A res) 0 0 A) (σ : pr_St) (x1 : Int32) (res : (Int32 × pr_St)) (hf : prf_X_test rc σ x1 = some res) : Met l pry_X_test (Cond.code pry_X_test prb_X_test 6 (some .int) :: pr_U) (pr_rm h) (pr_Pc (prY ad v r A) D pr_cl prx_L ad dA [.ref (ad 0), .int x1] σ) (pr_Qi D pr_cl prx_L ad dA A res) 0 0 A := by
  refine pr_entry (cc := prb_X_test) (maxL := 6) (ret := (some .int)) (by decide) (Nat.le_of_ble_eq_true rfl) hD hX ?_
  intro p e s m args below meth c E H locs hP hS ls hl
  have hl : lv_has ls 6 [(0, .ref (ad 0)), (1, .int x1)] := hl
  have hf := hf.symm
  unfold prf_X_test at hf
  obtain ⟨hx, hb, hml, hown, hts, hr, hlocks, hK, hD, hX, hXs⟩ := id E
  refine lv_aload_n hx hb prd_X_test_0 rfl (lv_at hl 0 rfl) ?_
  obtain ⟨r145, hr145, hf⟩ := pr_bi hf
  refine pr_callVr (rest := []) (r := r145) ⟨hx, hb, hml, hown, hts⟩ 0 (prc_X_look hD hX 0 (Nat.le_refl _) σ  r145 hr145) (prg_X_look hts prw_896 (by have := hh; omega)) hX hXs hK hP hS (by decide) rfl rfl rfl rfl hl.1 (Nat.le_of_ble_eq_true rfl) prd_X_test_1 (fun H locs hP hS => ?_)
  refine lv_bipush (v := 33) hx hb prd_X_test_4 (by decide) ?_
  refine lv_icmp_ne (tgt := 64) hx hb prd_X_test_6 (by decide) (fun c146 => ?_) (fun c146 => ?_)
  · have hf := pr_ie c146 hf
    refine lv_aload_n hx hb prd_X_test_64 rfl (lv_at hl 0 rfl) ?_
    obtain ⟨r147, hr147, hf⟩ := pr_bi hf
    refine pr_callVr (rest := []) (r := r147) ⟨hx, hb, hml, hown, hts⟩ 0 (prc_X_look hD hX 0 (Nat.le_refl _) σ  r147 hr147) (prg_X_look hts prw_896 (by have := hh; omega)) hX hXs hK hP hS (by decide) rfl rfl rfl rfl hl.1 (Nat.le_of_ble_eq_true rfl) prd_X_test_65 (fun H locs hP hS => ?_)
    refine lv_bipush (v := 91) hx hb prd_X_test_68 (by decide) ?_
    refine lv_icmp_ne (tgt := 106) hx hb prd_X_test_70 (by decide) (fun c148 => ?_) (fun c148 => ?_)
    · have hf := pr_ie c148 hf
      refine lv_aload_n hx hb prd_X_test_106 rfl (lv_at hl 0 rfl) ?_
      refine lv_iload_n hx hb prd_X_test_107 rfl (lv_at hl 1 rfl) ?_
      refine lv_iconst (v := 1) hx hb prd_X_test_108 (by decide) ?_
      refine lv_iadd hx hb prd_X_test_109 ?_
      obtain ⟨r149, hr149, hf⟩ := pr_bi hf
      refine pr_callVi (rest := []) (res := r149) ⟨hx, hb, hml, hown, hts⟩ 0 (prct_X_sum hD hX σ (x1 + 1) r149 hr149) (prg_X_sum hts prw_935 (by have := hh; omega)) hX hXs hK hP hS (by decide) rfl rfl rfl rfl hl.1 (Nat.le_of_ble_eq_true rfl) prd_X_test_110 (fun H locs hP hS => ?_)
      refine lv_istore_n (lv' := [(2, .int r149.1), (0, .ref (ad 0)), (1, .int x1)]) hx hb prd_X_test_113 rfl hl (by decide) rfl (fun ls hl => ?_)
      refine lv_aload_n hx hb prd_X_test_114 rfl (lv_at hl 1 rfl) ?_
      obtain ⟨r150, hr150, hf⟩ := pr_bi hf
      refine pr_callVr (rest := []) (r := r150) ⟨hx, hb, hml, hown, hts⟩ 0 (prc_X_look hD hX 0 (Nat.le_refl _) r149.2  r150 hr150) (prg_X_look hts prw_896 (by have := hh; omega)) hX hXs hK hP hS (by decide) rfl rfl rfl rfl hl.1 (Nat.le_of_ble_eq_true rfl) prd_X_test_115 (fun H locs hP hS => ?_)
      refine lv_istore_n (lv' := [(3, .int r150), (2, .int r149.1), (0, .ref (ad 0)), (1, .int x1)]) hx hb prd_X_test_118 rfl hl (by decide) rfl (fun ls hl => ?_)
      refine lv_iload_n hx hb prd_X_test_119 rfl (lv_at hl 0 rfl) ?_
      refine lv_bipush (v := 60) hx hb prd_X_test_120 (by decide) ?_
      refine lv_icmp_ne (tgt := 130) hx hb prd_X_test_122 (by decide) (fun c151 => ?_) (fun c151 => ?_)
      · have hf := pr_ie c151 hf
        refine lv_iload_n hx hb prd_X_test_130 rfl (lv_at hl 0 rfl) ?_
        refine lv_sipush (v := 256) hx hb prd_X_test_131 (by decide) ?_
        refine lv_icmp_ne (tgt := 142) hx hb prd_X_test_134 (by decide) (fun c152 => ?_) (fun c152 => ?_)
        · have hf := pr_ie c152 hf
          refine lv_iload_n hx hb prd_X_test_142 rfl (lv_at hl 0 rfl) ?_
          refine lv_bipush (v := 62) hx hb prd_X_test_143 (by decide) ?_
          refine lv_icmp_ne (tgt := 153) hx hb prd_X_test_145 (by decide) (fun c153 => ?_) (fun c153 => ?_)
          · have hf := pr_ie c153 hf
            refine lv_iload_n hx hb prd_X_test_153 rfl (lv_at hl 0 rfl) ?_
            refine lv_sipush (v := 257) hx hb prd_X_test_154 (by decide) ?_
            refine lv_icmp_ne (tgt := 165) hx hb prd_X_test_157 (by decide) (fun c154 => ?_) (fun c154 => ?_)
            · have hf := pr_ie c154 hf
              refine lv_iload_n hx hb prd_X_test_165 rfl (lv_at hl 0 rfl) ?_
              refine lv_sipush (v := 258) hx hb prd_X_test_166 (by decide) ?_
              refine lv_icmp_ne (tgt := 177) hx hb prd_X_test_169 (by decide) (fun c155 => ?_) (fun c155 => ?_)
              · have hf := pr_ie c155 hf
                refine lv_iload_n hx hb prd_X_test_177 rfl (lv_at hl 0 rfl) ?_
                refine lv_sipush (v := 259) hx hb prd_X_test_178 (by decide) ?_
                refine lv_icmp_ne (tgt := 189) hx hb prd_X_test_181 (by decide) (fun c156 => ?_) (fun c156 => ?_)
                · have hf := pr_ie c156 hf
                  refine lv_iconst (v := 0) hx hb prd_X_test_189 (by decide) ?_
                  refine lv_istore (lv' := [(4, .int 0), (3, .int r150), (2, .int r149.1), (0, .ref (ad 0)), (1, .int x1)]) hx hb prd_X_test_190 hl (by decide) rfl (fun ls hl => ?_)
                  refine lv_aload_n hx hb prd_X_test_192 rfl (lv_at hl 3 rfl) ?_
                  refine lv_iload hx hb prd_X_test_193 (lv_at hl 0 rfl) ?_
                  refine lv_if_le (tgt := 202) hx hb prd_X_test_195 (by decide) (fun c157 => ?_) (fun c157 => ?_)
                  · have hf := pr_it c157 hf
                    refine lv_iconst (v := 0) hx hb prd_X_test_202 (by decide) ?_
                    obtain ⟨r158, hr158, hf⟩ := pr_bi hf
                    refine pr_callVv (rest := []) (res := r158) ⟨hx, hb, hml, hown, hts⟩ 0 (prc_X_need hD hX 0 (Nat.le_refl _) r149.2 0 r158 hr158) (prg_X_need hts prw_897 (by have := hh; omega)) hX hXs hK hP hS (by decide) rfl rfl rfl rfl hl.1 (Nat.le_of_ble_eq_true rfl) prd_X_test_203 (fun H locs hP hS => ?_)
                    refine lv_aload_n hx hb prd_X_test_206 rfl (lv_at hl 3 rfl) ?_
                    refine pr_geti (v := (r158.1 0 9)) hx hb hts prs_X hown hK hP 0 9 (by decide) rfl (hts _ prw_887) rfl rfl prd_X_test_207 ?_
                    refine lv_if_eq (tgt := 215) hx hb prd_X_test_210 (by decide) (fun c159 => ?_) (fun c159 => ?_)
                    · have hf := pr_it c159 hf
                      refine lv_aload_n hx hb prd_X_test_215 rfl (lv_at hl 3 rfl) ?_
                      refine lv_iload hx hb prd_X_test_216 (lv_at hl 0 rfl) ?_
                      refine lv_aload_n hx hb prd_X_test_218 rfl (lv_at hl 3 rfl) ?_
                      refine pr_getr (t := 7) hx hb hts prs_X hown hK hP 0 12 (by decide) rfl (hts _ prw_903) rfl prd_X_test_219 ?_
                      refine lv_iload_n hx hb prd_X_test_222 rfl (lv_at hl 2 rfl) ?_
                      obtain ⟨hi160, hf⟩ := pr_ck_in hf
                      refine pr_iald (f := (r158.2.1 7)) hx hb hK hP 7 (by decide) rfl hi160 rfl prd_X_test_223 ?_
                      refine lv_iconst (v := 0) hx hb prd_X_test_224 (by decide) ?_
                      obtain ⟨r161, hr161, hf⟩ := pr_bi hf
                      refine pr_callVi (rest := []) (res := r161) ⟨hx, hb, hml, hown, hts⟩ 0 (prc_X_draft hD hX 0 (Nat.le_refl _) r158 0 ((r158.2.1 7) r149.1.toNatClampNeg) 0 r161 hr161) (prg_X_draft hts prw_914 (by have := hh; omega)) hX hXs hK hP hS (by decide) rfl rfl rfl rfl hl.1 (Nat.le_of_ble_eq_true rfl) prd_X_test_225 (fun H locs hP hS => ?_)
                      refine lv_istore (lv' := [(5, .int r161.1), (4, .int 0), (3, .int r150), (2, .int r149.1), (0, .ref (ad 0)), (1, .int x1)]) hx hb prd_X_test_228 hl (by decide) rfl (fun ls hl => ?_)
                      refine lv_aload_n hx hb prd_X_test_230 rfl (lv_at hl 4 rfl) ?_
                      refine lv_iload_n hx hb prd_X_test_231 rfl (lv_at hl 2 rfl) ?_
                      obtain ⟨r162, hr162, hf⟩ := pr_bi hf
                      refine pr_callVv (rest := []) (res := r162) ⟨hx, hb, hml, hown, hts⟩ 0 (prc_X_take hD hX 1 (Nat.le_refl _) r161.2 r150 r162 hr162) (prg_X_take hts prw_915 (by have := hh; omega)) hX hXs hK hP hS (by decide) rfl rfl rfl rfl hl.1 (Nat.le_of_ble_eq_true rfl) prd_X_test_232 (fun H locs hP hS => ?_)
                      refine lv_aload_n hx hb prd_X_test_235 rfl (lv_at hl 4 rfl) ?_
                      refine lv_iload hx hb prd_X_test_236 (lv_at hl 0 rfl) ?_
                      refine lv_iload_n hx hb prd_X_test_238 rfl (lv_at hl 3 rfl) ?_
                      obtain ⟨r163, hr163, hf⟩ := pr_bi hf
                      refine pr_callVv (rest := []) (res := r163) ⟨hx, hb, hml, hown, hts⟩ 0 (prc_X_join hD hX 0 (Nat.le_refl _) r162 r161.1 r149.1 r163 hr163) (prg_X_join hts prw_926 (by have := hh; omega)) hX hXs hK hP hS (by decide) rfl rfl rfl rfl hl.1 (Nat.le_of_ble_eq_true rfl) prd_X_test_239 (fun H locs hP hS => ?_)
                      refine lv_aload_n hx hb prd_X_test_242 rfl (lv_at hl 4 rfl) ?_
                      refine lv_iload hx hb prd_X_test_243 (lv_at hl 0 rfl) ?_
                      refine lv_aload_n hx hb prd_X_test_245 rfl (lv_at hl 4 rfl) ?_
                      refine lv_iload_n hx hb prd_X_test_246 rfl (lv_at hl 5 rfl) ?_
                      refine lv_iconst (v := 1) hx hb prd_X_test_247 (by decide) ?_
                      refine lv_iadd hx hb prd_X_test_248 ?_
                      obtain ⟨r164, hr164, hf⟩ := pr_bi hf
                      refine pr_callVi (rest := [.int r161.1, .ref (ad 0)]) (res := r164) ⟨hx, hb, hml, hown, hts⟩ 0 (prct_X_sum hD hX r163 (x1 + 1) r164 hr164) (prg_X_sum hts prw_935 (by have := hh; omega)) hX hXs hK hP hS (by decide) rfl rfl rfl rfl hl.1 (Nat.le_of_ble_eq_true rfl) prd_X_test_249 (fun H locs hP hS => ?_)
                      obtain ⟨r165, hr165, hf⟩ := pr_bi hf
                      refine pr_callVv (rest := []) (res := r165) ⟨hx, hb, hml, hown, hts⟩ 0 (prc_X_join hD hX 0 (Nat.le_refl _) r164.2 r161.1 r164.1 r165 hr165) (prg_X_join hts prw_926 (by have := hh; omega)) hX hXs hK hP hS (by decide) rfl rfl rfl rfl hl.1 (Nat.le_of_ble_eq_true rfl) prd_X_test_252 (fun H locs hP hS => ?_)
                      refine lv_iload hx hb prd_X_test_255 (lv_at hl 0 rfl) ?_
                      exact pr_reti E hP hS (pr_so hf) prd_X_test_257
                    · have hf := pr_ie c159 hf
                      refine lv_iconst (v := (-1)) hx hb prd_X_test_213 (by decide) ?_
                      exact pr_reti E hP hS (pr_so hf) prd_X_test_214
                  · have hf := pr_ie c157 hf
                    refine lv_iconst (v := 1) hx hb prd_X_test_198 (by decide) ?_
                    refine lv_goto (tgt := 203) hx hb prd_X_test_199 (by decide) ?_
                    obtain ⟨r166, hr166, hf⟩ := pr_bi hf
                    refine pr_callVv (rest := []) (res := r166) ⟨hx, hb, hml, hown, hts⟩ 0 (prc_X_need hD hX 0 (Nat.le_refl _) r149.2 1 r166 hr166) (prg_X_need hts prw_897 (by have := hh; omega)) hX hXs hK hP hS (by decide) rfl rfl rfl rfl hl.1 (Nat.le_of_ble_eq_true rfl) prd_X_test_203 (fun H locs hP hS => ?_)
                    refine lv_aload_n hx hb prd_X_test_206 rfl (lv_at hl 3 rfl) ?_
                    refine pr_geti (v := (r166.1 0 9)) hx hb hts prs_X hown hK hP 0 9 (by decide) rfl (hts _ prw_887) rfl rfl prd_X_test_207 ?_
                    refine lv_if_eq (tgt := 215) hx hb prd_X_test_210 (by decide) (fun c167 => ?_) (fun c167 => ?_)
                    · have hf := pr_it c167 hf
                      refine lv_aload_n hx hb prd_X_test_215 rfl (lv_at hl 3 rfl) ?_
                      refine lv_iload hx hb prd_X_test_216 (lv_at hl 0 rfl) ?_
                      refine lv_aload_n hx hb prd_X_test_218 rfl (lv_at hl 3 rfl) ?_
                      refine pr_getr (t := 7) hx hb hts prs_X hown hK hP 0 12 (by decide) rfl (hts _ prw_903) rfl prd_X_test_219 ?_
                      refine lv_iload_n hx hb prd_X_test_222 rfl (lv_at hl 2 rfl) ?_
                      obtain ⟨hi168, hf⟩ := pr_ck_in hf
                      refine pr_iald (f := (r166.2.1 7)) hx hb hK hP 7 (by decide) rfl hi168 rfl prd_X_test_223 ?_
                      refine lv_iconst (v := 0) hx hb prd_X_test_224 (by decide) ?_
                      obtain ⟨r169, hr169, hf⟩ := pr_bi hf
                      refine pr_callVi (rest := []) (res := r169) ⟨hx, hb, hml, hown, hts⟩ 0 (prc_X_draft hD hX 0 (Nat.le_refl _) r166 0 ((r166.2.1 7) r149.1.toNatClampNeg) 0 r169 hr169) (prg_X_draft hts prw_914 (by have := hh; omega)) hX hXs hK hP hS (by decide) rfl rfl rfl rfl hl.1 (Nat.le_of_ble_eq_true rfl) prd_X_test_225 (fun H locs hP hS => ?_)
                      refine lv_istore (lv' := [(5, .int r169.1), (4, .int 0), (3, .int r150), (2, .int r149.1), (0, .ref (ad 0)), (1, .int x1)]) hx hb prd_X_test_228 hl (by decide) rfl (fun ls hl => ?_)
                      refine lv_aload_n hx hb prd_X_test_230 rfl (lv_at hl 4 rfl) ?_
                      refine lv_iload_n hx hb prd_X_test_231 rfl (lv_at hl 2 rfl) ?_
                      obtain ⟨r170, hr170, hf⟩ := pr_bi hf
                      refine pr_callVv (rest := []) (res := r170) ⟨hx, hb, hml, hown, hts⟩ 0 (prc_X_take hD hX 1 (Nat.le_refl _) r169.2 r150 r170 hr170) (prg_X_take hts prw_915 (by have := hh; omega)) hX hXs hK hP hS (by decide) rfl rfl rfl rfl hl.1 (Nat.le_of_ble_eq_true rfl) prd_X_test_232 (fun H locs hP hS => ?_)
                      refine lv_aload_n hx hb prd_X_test_235 rfl (lv_at hl 4 rfl) ?_
                      refine lv_iload hx hb prd_X_test_236 (lv_at hl 0 rfl) ?_
                      refine lv_iload_n hx hb prd_X_test_238 rfl (lv_at hl 3 rfl) ?_
                      obtain ⟨r171, hr171, hf⟩ := pr_bi hf
                      refine pr_callVv (rest := []) (res := r171) ⟨hx, hb, hml, hown, hts⟩ 0 (prc_X_join hD hX 0 (Nat.le_refl _) r170 r169.1 r149.1 r171 hr171) (prg_X_join hts prw_926 (by have := hh; omega)) hX hXs hK hP hS (by decide) rfl rfl rfl rfl hl.1 (Nat.le_of_ble_eq_true rfl) prd_X_test_239 (fun H locs hP hS => ?_)
                      refine lv_aload_n hx hb prd_X_test_242 rfl (lv_at hl 4 rfl) ?_
                      refine lv_iload hx hb prd_X_test_243 (lv_at hl 0 rfl) ?_
                      refine lv_aload_n hx hb prd_X_test_245 rfl (lv_at hl 4 rfl) ?_
                      refine lv_iload_n hx hb prd_X_test_246 rfl (lv_at hl 5 rfl) ?_
                      refine lv_iconst (v := 1) hx hb prd_X_test_247 (by decide) ?_
                      refine lv_iadd hx hb prd_X_test_248 ?_
                      obtain ⟨r172, hr172, hf⟩ := pr_bi hf
                      refine pr_callVi (rest := [.int r169.1, .ref (ad 0)]) (res := r172) ⟨hx, hb, hml, hown, hts⟩ 0 (prct_X_sum hD hX r171 (x1 + 1) r172 hr172) (prg_X_sum hts prw_935 (by have := hh; omega)) hX hXs hK hP hS (by decide) rfl rfl rfl rfl hl.1 (Nat.le_of_ble_eq_true rfl) prd_X_test_249 (fun H locs hP hS => ?_)
                      obtain ⟨r173, hr173, hf⟩ := pr_bi hf
                      refine pr_callVv (rest := []) (res := r173) ⟨hx, hb, hml, hown, hts⟩ 0 (prc_X_join hD hX 0 (Nat.le_refl _) r172.2 r169.1 r172.1 r173 hr173) (prg_X_join hts prw_926 (by have := hh; omega)) hX hXs hK hP hS (by decide) rfl rfl rfl rfl hl.1 (Nat.le_of_ble_eq_true rfl) prd_X_test_252 (fun H locs hP hS => ?_)
                      refine lv_iload hx hb prd_X_test_255 (lv_at hl 0 rfl) ?_
                      exact pr_reti E hP hS (pr_so hf) prd_X_test_257
                    · have hf := pr_ie c167 hf
                      refine lv_iconst (v := (-1)) hx hb prd_X_test_213 (by decide) ?_
                      exact pr_reti E hP hS (pr_so hf) prd_X_test_214
                · have hf := pr_it c156 hf
                  refine lv_bipush (v := 32) hx hb prd_X_test_184 (by decide) ?_
                  refine lv_goto (tgt := 190) hx hb prd_X_test_186 (by decide) ?_
                  refine lv_istore (lv' := [(4, .int 32), (3, .int r150), (2, .int r149.1), (0, .ref (ad 0)), (1, .int x1)]) hx hb prd_X_test_190 hl (by decide) rfl (fun ls hl => ?_)
                  refine lv_aload_n hx hb prd_X_test_192 rfl (lv_at hl 3 rfl) ?_
                  refine lv_iload hx hb prd_X_test_193 (lv_at hl 0 rfl) ?_
                  refine lv_if_le (tgt := 202) hx hb prd_X_test_195 (by decide) (fun c174 => ?_) (fun c174 => ?_)
                  · have hf := pr_it c174 hf
                    refine lv_iconst (v := 0) hx hb prd_X_test_202 (by decide) ?_
                    obtain ⟨r175, hr175, hf⟩ := pr_bi hf
                    refine pr_callVv (rest := []) (res := r175) ⟨hx, hb, hml, hown, hts⟩ 0 (prc_X_need hD hX 0 (Nat.le_refl _) r149.2 0 r175 hr175) (prg_X_need hts prw_897 (by have := hh; omega)) hX hXs hK hP hS (by decide) rfl rfl rfl rfl hl.1 (Nat.le_of_ble_eq_true rfl) prd_X_test_203 (fun H locs hP hS => ?_)
                    refine lv_aload_n hx hb prd_X_test_206 rfl (lv_at hl 3 rfl) ?_
                    refine pr_geti (v := (r175.1 0 9)) hx hb hts prs_X hown hK hP 0 9 (by decide) rfl (hts _ prw_887) rfl rfl prd_X_test_207 ?_
                    refine lv_if_eq (tgt := 215) hx hb prd_X_test_210 (by decide) (fun c176 => ?_) (fun c176 => ?_)
                    · have hf := pr_it c176 hf
                      refine lv_aload_n hx hb prd_X_test_215 rfl (lv_at hl 3 rfl) ?_
                      refine lv_iload hx hb prd_X_test_216 (lv_at hl 0 rfl) ?_
                      refine lv_aload_n hx hb prd_X_test_218 rfl (lv_at hl 3 rfl) ?_
                      refine pr_getr (t := 7) hx hb hts prs_X hown hK hP 0 12 (by decide) rfl (hts _ prw_903) rfl prd_X_test_219 ?_
                      refine lv_iload_n hx hb prd_X_test_222 rfl (lv_at hl 2 rfl) ?_
                      obtain ⟨hi177, hf⟩ := pr_ck_in hf
                      refine pr_iald (f := (r175.2.1 7)) hx hb hK hP 7 (by decide) rfl hi177 rfl prd_X_test_223 ?_
                      refine lv_iconst (v := 0) hx hb prd_X_test_224 (by decide) ?_
                      obtain ⟨r178, hr178, hf⟩ := pr_bi hf
                      refine pr_callVi (rest := []) (res := r178) ⟨hx, hb, hml, hown, hts⟩ 0 (prc_X_draft hD hX 0 (Nat.le_refl _) r175 32 ((r175.2.1 7) r149.1.toNatClampNeg) 0 r178 hr178) (prg_X_draft hts prw_914 (by have := hh; omega)) hX hXs hK hP hS (by decide) rfl rfl rfl rfl hl.1 (Nat.le_of_ble_eq_true rfl) prd_X_test_225 (fun H locs hP hS => ?_)
                      refine lv_istore (lv' := [(5, .int r178.1), (4, .int 32), (3, .int r150), (2, .int r149.1), (0, .ref (ad 0)), (1, .int x1)]) hx hb prd_X_test_228 hl (by decide) rfl (fun ls hl => ?_)
                      refine lv_aload_n hx hb prd_X_test_230 rfl (lv_at hl 4 rfl) ?_
                      refine lv_iload_n hx hb prd_X_test_231 rfl (lv_at hl 2 rfl) ?_
                      obtain ⟨r179, hr179, hf⟩ := pr_bi hf
                      refine pr_callVv (rest := []) (res := r179) ⟨hx, hb, hml, hown, hts⟩ 0 (prc_X_take hD hX 1 (Nat.le_refl _) r178.2 r150 r179 hr179) (prg_X_take hts prw_915 (by have := hh; omega)) hX hXs hK hP hS (by decide) rfl rfl rfl rfl hl.1 (Nat.le_of_ble_eq_true rfl) prd_X_test_232 (fun H locs hP hS => ?_)
                      refine lv_aload_n hx hb prd_X_test_235 rfl (lv_at hl 4 rfl) ?_
                      refine lv_iload hx hb prd_X_test_236 (lv_at hl 0 rfl) ?_
                      refine lv_iload_n hx hb prd_X_test_238 rfl (lv_at hl 3 rfl) ?_
                      obtain ⟨r180, hr180, hf⟩ := pr_bi hf
                      refine pr_callVv (rest := []) (res := r180) ⟨hx, hb, hml, hown, hts⟩ 0 (prc_X_join hD hX 0 (Nat.le_refl _) r179 r178.1 r149.1 r180 hr180) (prg_X_join hts prw_926 (by have := hh; omega)) hX hXs hK hP hS (by decide) rfl rfl rfl rfl hl.1 (Nat.le_of_ble_eq_true rfl) prd_X_test_239 (fun H locs hP hS => ?_)
                      refine lv_aload_n hx hb prd_X_test_242 rfl (lv_at hl 4 rfl) ?_
                      refine lv_iload hx hb prd_X_test_243 (lv_at hl 0 rfl) ?_
                      refine lv_aload_n hx hb prd_X_test_245 rfl (lv_at hl 4 rfl) ?_
                      refine lv_iload_n hx hb prd_X_test_246 rfl (lv_at hl 5 rfl) ?_
                      refine lv_iconst (v := 1) hx hb prd_X_test_247 (by decide) ?_
                      refine lv_iadd hx hb prd_X_test_248 ?_
                      obtain ⟨r181, hr181, hf⟩ := pr_bi hf
                      refine pr_callVi (rest := [.int r178.1, .ref (ad 0)]) (res := r181) ⟨hx, hb, hml, hown, hts⟩ 0 (prct_X_sum hD hX r180 (x1 + 1) r181 hr181) (prg_X_sum hts prw_935 (by have := hh; omega)) hX hXs hK hP hS (by decide) rfl rfl rfl rfl hl.1 (Nat.le_of_ble_eq_true rfl) prd_X_test_249 (fun H locs hP hS => ?_)
                      obtain ⟨r182, hr182, hf⟩ := pr_bi hf
                      refine pr_callVv (rest := []) (res := r182) ⟨hx, hb, hml, hown, hts⟩ 0 (prc_X_join hD hX 0 (Nat.le_refl _) r181.2 r178.1 r181.1 r182 hr182) (prg_X_join hts prw_926 (by have := hh; omega)) hX hXs hK hP hS (by decide) rfl rfl rfl rfl hl.1 (Nat.le_of_ble_eq_true rfl) prd_X_test_252 (fun H locs hP hS => ?_)
                      refine lv_iload hx hb prd_X_test_255 (lv_at hl 0 rfl) ?_
                      exact pr_reti E hP hS (pr_so hf) prd_X_test_257
                    · have hf := pr_ie c176 hf
                      refine lv_iconst (v := (-1)) hx hb prd_X_test_213 (by decide) ?_
                      exact pr_reti E hP hS (pr_so hf) prd_X_test_214
                  · have hf := pr_ie c174 hf
                    refine lv_iconst (v := 1) hx hb prd_X_test_198 (by decide) ?_
                    refine lv_goto (tgt := 203) hx hb prd_X_test_199 (by decide) ?_
                    obtain ⟨r183, hr183, hf⟩ := pr_bi hf
                    refine pr_callVv (rest := []) (res := r183) ⟨hx, hb, hml, hown, hts⟩ 0 (prc_X_need hD hX 0 (Nat.le_refl _) r149.2 1 r183 hr183) (prg_X_need hts prw_897 (by have := hh; omega)) hX hXs hK hP hS (by decide) rfl rfl rfl rfl hl.1 (Nat.le_of_ble_eq_true rfl) prd_X_test_203 (fun H locs hP hS => ?_)
                    refine lv_aload_n hx hb prd_X_test_206 rfl (lv_at hl 3 rfl) ?_
                    refine pr_geti (v := (r183.1 0 9)) hx hb hts prs_X hown hK hP 0 9 (by decide) rfl (hts _ prw_887) rfl rfl prd_X_test_207 ?_
                    refine lv_if_eq (tgt := 215) hx hb prd_X_test_210 (by decide) (fun c184 => ?_) (fun c184 => ?_)
                    · have hf := pr_it c184 hf
                      refine lv_aload_n hx hb prd_X_test_215 rfl (lv_at hl 3 rfl) ?_
                      refine lv_iload hx hb prd_X_test_216 (lv_at hl 0 rfl) ?_
                      refine lv_aload_n hx hb prd_X_test_218 rfl (lv_at hl 3 rfl) ?_
                      refine pr_getr (t := 7) hx hb hts prs_X hown hK hP 0 12 (by decide) rfl (hts _ prw_903) rfl prd_X_test_219 ?_
                      refine lv_iload_n hx hb prd_X_test_222 rfl (lv_at hl 2 rfl) ?_
                      obtain ⟨hi185, hf⟩ := pr_ck_in hf
                      refine pr_iald (f := (r183.2.1 7)) hx hb hK hP 7 (by decide) rfl hi185 rfl prd_X_test_223 ?_
                      refine lv_iconst (v := 0) hx hb prd_X_test_224 (by decide) ?_
                      obtain ⟨r186, hr186, hf⟩ := pr_bi hf
                      refine pr_callVi (rest := []) (res := r186) ⟨hx, hb, hml, hown, hts⟩ 0 (prc_X_draft hD hX 0 (Nat.le_refl _) r183 32 ((r183.2.1 7) r149.1.toNatClampNeg) 0 r186 hr186) (prg_X_draft hts prw_914 (by have := hh; omega)) hX hXs hK hP hS (by decide) rfl rfl rfl rfl hl.1 (Nat.le_of_ble_eq_true rfl) prd_X_test_225 (fun H locs hP hS => ?_)
                      refine lv_istore (lv' := [(5, .int r186.1), (4, .int 32), (3, .int r150), (2, .int r149.1), (0, .ref (ad 0)), (1, .int x1)]) hx hb prd_X_test_228 hl (by decide) rfl (fun ls hl => ?_)
                      refine lv_aload_n hx hb prd_X_test_230 rfl (lv_at hl 4 rfl) ?_
                      refine lv_iload_n hx hb prd_X_test_231 rfl (lv_at hl 2 rfl) ?_
                      obtain ⟨r187, hr187, hf⟩ := pr_bi hf
                      refine pr_callVv (rest := []) (res := r187) ⟨hx, hb, hml, hown, hts⟩ 0 (prc_X_take hD hX 1 (Nat.le_refl _) r186.2 r150 r187 hr187) (prg_X_take hts prw_915 (by have := hh; omega)) hX hXs hK hP hS (by decide) rfl rfl rfl rfl hl.1 (Nat.le_of_ble_eq_true rfl) prd_X_test_232 (fun H locs hP hS => ?_)
                      refine lv_aload_n hx hb prd_X_test_235 rfl (lv_at hl 4 rfl) ?_
                      refine lv_iload hx hb prd_X_test_236 (lv_at hl 0 rfl) ?_
                      refine lv_iload_n hx hb prd_X_test_238 rfl (lv_at hl 3 rfl) ?_
                      obtain ⟨r188, hr188, hf⟩ := pr_bi hf
                      refine pr_callVv (rest := []) (res := r188) ⟨hx, hb, hml, hown, hts⟩ 0 (prc_X_join hD hX 0 (Nat.le_refl _) r187 r186.1 r149.1 r188 hr188) (prg_X_join hts prw_926 (by have := hh; omega)) hX hXs hK hP hS (by decide) rfl rfl rfl rfl hl.1 (Nat.le_of_ble_eq_true rfl) prd_X_test_239 (fun H locs hP hS => ?_)
                      refine lv_aload_n hx hb prd_X_test_242 rfl (lv_at hl 4 rfl) ?_
                      refine lv_iload hx hb prd_X_test_243 (lv_at hl 0 rfl) ?_
                      refine lv_aload_n hx hb prd_X_test_245 rfl (lv_at hl 4 rfl) ?_
                      refine lv_iload_n hx hb prd_X_test_246 rfl (lv_at hl 5 rfl) ?_
                      refine lv_iconst (v := 1) hx hb prd_X_test_247 (by decide) ?_
                      refine lv_iadd hx hb prd_X_test_248 ?_
                      obtain ⟨r189, hr189, hf⟩ := pr_bi hf
                      refine pr_callVi (rest := [.int r186.1, .ref (ad 0)]) (res := r189) ⟨hx, hb, hml, hown, hts⟩ 0 (prct_X_sum hD hX r188 (x1 + 1) r189 hr189) (prg_X_sum hts prw_935 (by have := hh; omega)) hX hXs hK hP hS (by decide) rfl rfl rfl rfl hl.1 (Nat.le_of_ble_eq_true rfl) prd_X_test_249 (fun H locs hP hS => ?_)
                      obtain ⟨r190, hr190, hf⟩ := pr_bi hf
                      refine pr_callVv (rest := []) (res := r190) ⟨hx, hb, hml, hown, hts⟩ 0 (prc_X_join hD hX 0 (Nat.le_refl _) r189.2 r186.1 r189.1 r190 hr190) (prg_X_join hts prw_926 (by have := hh; omega)) hX hXs hK hP hS (by decide) rfl rfl rfl rfl hl.1 (Nat.le_of_ble_eq_true rfl) prd_X_test_252 (fun H locs hP hS => ?_)
                      refine lv_iload hx hb prd_X_test_255 (lv_at hl 0 rfl) ?_
                      exact pr_reti E hP hS (pr_so hf) prd_X_test_257
                    · have hf := pr_ie c184 hf
                      refine lv_iconst (v := (-1)) hx hb prd_X_test_213 (by decide) ?_
                      exact pr_reti E hP hS (pr_so hf) prd_X_test_214
              · have hf := pr_it c155 hf
                refine lv_bipush (v := 31) hx hb prd_X_test_172 (by decide) ?_
                refine lv_goto (tgt := 190) hx hb prd_X_test_174 (by decide) ?_
                refine lv_istore (lv' := [(4, .int 31), (3, .int r150), (2, .int r149.1), (0, .ref (ad 0)), (1, .int x1)]) hx hb prd_X_test_190 hl (by decide) rfl (fun ls hl => ?_)
                refine lv_aload_n hx hb prd_X_test_192 rfl (lv_at hl 3 rfl) ?_
                refine lv_iload hx hb prd_X_test_193 (lv_at hl 0 rfl) ?_
                refine lv_if_le (tgt := 202) hx hb prd_X_test_195 (by decide) (fun c191 => ?_) (fun c191 => ?_)
                · have hf := pr_it c191 hf
                  refine lv_iconst (v := 0) hx hb prd_X_test_202 (by decide) ?_
                  obtain ⟨r192, hr192, hf⟩ := pr_bi hf
                  refine pr_callVv (rest := []) (res := r192) ⟨hx, hb, hml, hown, hts⟩ 0 (prc_X_need hD hX 0 (Nat.le_refl _) r149.2 0 r192 hr192) (prg_X_need hts prw_897 (by have := hh; omega)) hX hXs hK hP hS (by decide) rfl rfl rfl rfl hl.1 (Nat.le_of_ble_eq_true rfl) prd_X_test_203 (fun H locs hP hS => ?_)
                  refine lv_aload_n hx hb prd_X_test_206 rfl (lv_at hl 3 rfl) ?_
                  refine pr_geti (v := (r192.1 0 9)) hx hb hts prs_X hown hK hP 0 9 (by decide) rfl (hts _ prw_887) rfl rfl prd_X_test_207 ?_
                  refine lv_if_eq (tgt := 215) hx hb prd_X_test_210 (by decide) (fun c193 => ?_) (fun c193 => ?_)
                  · have hf := pr_it c193 hf
                    refine lv_aload_n hx hb prd_X_test_215 rfl (lv_at hl 3 rfl) ?_
                    refine lv_iload hx hb prd_X_test_216 (lv_at hl 0 rfl) ?_
                    refine lv_aload_n hx hb prd_X_test_218 rfl (lv_at hl 3 rfl) ?_
                    refine pr_getr (t := 7) hx hb hts prs_X hown hK hP 0 12 (by decide) rfl (hts _ prw_903) rfl prd_X_test_219 ?_
                    refine lv_iload_n hx hb prd_X_test_222 rfl (lv_at hl 2 rfl) ?_
                    obtain ⟨hi194, hf⟩ := pr_ck_in hf
                    refine pr_iald (f := (r192.2.1 7)) hx hb hK hP 7 (by decide) rfl hi194 rfl prd_X_test_223 ?_
                    refine lv_iconst (v := 0) hx hb prd_X_test_224 (by decide) ?_
                    obtain ⟨r195, hr195, hf⟩ := pr_bi hf
                    refine pr_callVi (rest := []) (res := r195) ⟨hx, hb, hml, hown, hts⟩ 0 (prc_X_draft hD hX 0 (Nat.le_refl _) r192 31 ((r192.2.1 7) r149.1.toNatClampNeg) 0 r195 hr195) (prg_X_draft hts prw_914 (by have := hh; omega)) hX hXs hK hP hS (by decide) rfl rfl rfl rfl hl.1 (Nat.le_of_ble_eq_true rfl) prd_X_test_225 (fun H locs hP hS => ?_)
                    refine lv_istore (lv' := [(5, .int r195.1), (4, .int 31), (3, .int r150), (2, .int r149.1), (0, .ref (ad 0)), (1, .int x1)]) hx hb prd_X_test_228 hl (by decide) rfl (fun ls hl => ?_)
                    refine lv_aload_n hx hb prd_X_test_230 rfl (lv_at hl 4 rfl) ?_
                    refine lv_iload_n hx hb prd_X_test_231 rfl (lv_at hl 2 rfl) ?_
                    obtain ⟨r196, hr196, hf⟩ := pr_bi hf
                    refine pr_callVv (rest := []) (res := r196) ⟨hx, hb, hml, hown, hts⟩ 0 (prc_X_take hD hX 1 (Nat.le_refl _) r195.2 r150 r196 hr196) (prg_X_take hts prw_915 (by have := hh; omega)) hX hXs hK hP hS (by decide) rfl rfl rfl rfl hl.1 (Nat.le_of_ble_eq_true rfl) prd_X_test_232 (fun H locs hP hS => ?_)
                    refine lv_aload_n hx hb prd_X_test_235 rfl (lv_at hl 4 rfl) ?_
                    refine lv_iload hx hb prd_X_test_236 (lv_at hl 0 rfl) ?_
                    refine lv_iload_n hx hb prd_X_test_238 rfl (lv_at hl 3 rfl) ?_
                    obtain ⟨r197, hr197, hf⟩ := pr_bi hf
                    refine pr_callVv (rest := []) (res := r197) ⟨hx, hb, hml, hown, hts⟩ 0 (prc_X_join hD hX 0 (Nat.le_refl _) r196 r195.1 r149.1 r197 hr197) (prg_X_join hts prw_926 (by have := hh; omega)) hX hXs hK hP hS (by decide) rfl rfl rfl rfl hl.1 (Nat.le_of_ble_eq_true rfl) prd_X_test_239 (fun H locs hP hS => ?_)
                    refine lv_aload_n hx hb prd_X_test_242 rfl (lv_at hl 4 rfl) ?_
                    refine lv_iload hx hb prd_X_test_243 (lv_at hl 0 rfl) ?_
                    refine lv_aload_n hx hb prd_X_test_245 rfl (lv_at hl 4 rfl) ?_
                    refine lv_iload_n hx hb prd_X_test_246 rfl (lv_at hl 5 rfl) ?_
                    refine lv_iconst (v := 1) hx hb prd_X_test_247 (by decide) ?_
                    refine lv_iadd hx hb prd_X_test_248 ?_
                    obtain ⟨r198, hr198, hf⟩ := pr_bi hf
                    refine pr_callVi (rest := [.int r195.1, .ref (ad 0)]) (res := r198) ⟨hx, hb, hml, hown, hts⟩ 0 (prct_X_sum hD hX r197 (x1 + 1) r198 hr198) (prg_X_sum hts prw_935 (by have := hh; omega)) hX hXs hK hP hS (by decide) rfl rfl rfl rfl hl.1 (Nat.le_of_ble_eq_true rfl) prd_X_test_249 (fun H locs hP hS => ?_)
                    obtain ⟨r199, hr199, hf⟩ := pr_bi hf
                    refine pr_callVv (rest := []) (res := r199) ⟨hx, hb, hml, hown, hts⟩ 0 (prc_X_join hD hX 0 (Nat.le_refl _) r198.2 r195.1 r198.1 r199 hr199) (prg_X_join hts prw_926 (by have := hh; omega)) hX hXs hK hP hS (by decide) rfl rfl rfl rfl hl.1 (Nat.le_of_ble_eq_true rfl) prd_X_test_252 (fun H locs hP hS => ?_)
                    refine lv_iload hx hb prd_X_test_255 (lv_at hl 0 rfl) ?_
                    exact pr_reti E hP hS (pr_so hf) prd_X_test_257
                  · have hf := pr_ie c193 hf
                    refine lv_iconst (v := (-1)) hx hb prd_X_test_213 (by decide) ?_
                    exact pr_reti E hP hS (pr_so hf) prd_X_test_214
                · have hf := pr_ie c191 hf
                  refine lv_iconst (v := 1) hx hb prd_X_test_198 (by decide) ?_
                  refine lv_goto (tgt := 203) hx hb prd_X_test_199 (by decide) ?_
                  obtain ⟨r200, hr200, hf⟩ := pr_bi hf
                  refine pr_callVv (rest := []) (res := r200) ⟨hx, hb, hml, hown, hts⟩ 0 (prc_X_need hD hX 0 (Nat.le_refl _) r149.2 1 r200 hr200) (prg_X_need hts prw_897 (by have := hh; omega)) hX hXs hK hP hS (by decide) rfl rfl rfl rfl hl.1 (Nat.le_of_ble_eq_true rfl) prd_X_test_203 (fun H locs hP hS => ?_)
                  refine lv_aload_n hx hb prd_X_test_206 rfl (lv_at hl 3 rfl) ?_
                  refine pr_geti (v := (r200.1 0 9)) hx hb hts prs_X hown hK hP 0 9 (by decide) rfl (hts _ prw_887) rfl rfl prd_X_test_207 ?_
                  refine lv_if_eq (tgt := 215) hx hb prd_X_test_210 (by decide) (fun c201 => ?_) (fun c201 => ?_)
                  · have hf := pr_it c201 hf
                    refine lv_aload_n hx hb prd_X_test_215 rfl (lv_at hl 3 rfl) ?_
                    refine lv_iload hx hb prd_X_test_216 (lv_at hl 0 rfl) ?_
                    refine lv_aload_n hx hb prd_X_test_218 rfl (lv_at hl 3 rfl) ?_
                    refine pr_getr (t := 7) hx hb hts prs_X hown hK hP 0 12 (by decide) rfl (hts _ prw_903) rfl prd_X_test_219 ?_
                    refine lv_iload_n hx hb prd_X_test_222 rfl (lv_at hl 2 rfl) ?_
                    obtain ⟨hi202, hf⟩ := pr_ck_in hf
                    refine pr_iald (f := (r200.2.1 7)) hx hb hK hP 7 (by decide) rfl hi202 rfl prd_X_test_223 ?_
                    refine lv_iconst (v := 0) hx hb prd_X_test_224 (by decide) ?_
                    obtain ⟨r203, hr203, hf⟩ := pr_bi hf
                    refine pr_callVi (rest := []) (res := r203) ⟨hx, hb, hml, hown, hts⟩ 0 (prc_X_draft hD hX 0 (Nat.le_refl _) r200 31 ((r200.2.1 7) r149.1.toNatClampNeg) 0 r203 hr203) (prg_X_draft hts prw_914 (by have := hh; omega)) hX hXs hK hP hS (by decide) rfl rfl rfl rfl hl.1 (Nat.le_of_ble_eq_true rfl) prd_X_test_225 (fun H locs hP hS => ?_)
                    refine lv_istore (lv' := [(5, .int r203.1), (4, .int 31), (3, .int r150), (2, .int r149.1), (0, .ref (ad 0)), (1, .int x1)]) hx hb prd_X_test_228 hl (by decide) rfl (fun ls hl => ?_)
                    refine lv_aload_n hx hb prd_X_test_230 rfl (lv_at hl 4 rfl) ?_
                    refine lv_iload_n hx hb prd_X_test_231 rfl (lv_at hl 2 rfl) ?_
                    obtain ⟨r204, hr204, hf⟩ := pr_bi hf
                    refine pr_callVv (rest := []) (res := r204) ⟨hx, hb, hml, hown, hts⟩ 0 (prc_X_take hD hX 1 (Nat.le_refl _) r203.2 r150 r204 hr204) (prg_X_take hts prw_915 (by have := hh; omega)) hX hXs hK hP hS (by decide) rfl rfl rfl rfl hl.1 (Nat.le_of_ble_eq_true rfl) prd_X_test_232 (fun H locs hP hS => ?_)
                    refine lv_aload_n hx hb prd_X_test_235 rfl (lv_at hl 4 rfl) ?_
                    refine lv_iload hx hb prd_X_test_236 (lv_at hl 0 rfl) ?_
                    refine lv_iload_n hx hb prd_X_test_238 rfl (lv_at hl 3 rfl) ?_
                    obtain ⟨r205, hr205, hf⟩ := pr_bi hf
                    refine pr_callVv (rest := []) (res := r205) ⟨hx, hb, hml, hown, hts⟩ 0 (prc_X_join hD hX 0 (Nat.le_refl _) r204 r203.1 r149.1 r205 hr205) (prg_X_join hts prw_926 (by have := hh; omega)) hX hXs hK hP hS (by decide) rfl rfl rfl rfl hl.1 (Nat.le_of_ble_eq_true rfl) prd_X_test_239 (fun H locs hP hS => ?_)
                    refine lv_aload_n hx hb prd_X_test_242 rfl (lv_at hl 4 rfl) ?_
                    refine lv_iload hx hb prd_X_test_243 (lv_at hl 0 rfl) ?_
                    refine lv_aload_n hx hb prd_X_test_245 rfl (lv_at hl 4 rfl) ?_
                    refine lv_iload_n hx hb prd_X_test_246 rfl (lv_at hl 5 rfl) ?_
                    refine lv_iconst (v := 1) hx hb prd_X_test_247 (by decide) ?_
                    refine lv_iadd hx hb prd_X_test_248 ?_
                    obtain ⟨r206, hr206, hf⟩ := pr_bi hf
                    refine pr_callVi (rest := [.int r203.1, .ref (ad 0)]) (res := r206) ⟨hx, hb, hml, hown, hts⟩ 0 (prct_X_sum hD hX r205 (x1 + 1) r206 hr206) (prg_X_sum hts prw_935 (by have := hh; omega)) hX hXs hK hP hS (by decide) rfl rfl rfl rfl hl.1 (Nat.le_of_ble_eq_true rfl) prd_X_test_249 (fun H locs hP hS => ?_)
                    obtain ⟨r207, hr207, hf⟩ := pr_bi hf
                    refine pr_callVv (rest := []) (res := r207) ⟨hx, hb, hml, hown, hts⟩ 0 (prc_X_join hD hX 0 (Nat.le_refl _) r206.2 r203.1 r206.1 r207 hr207) (prg_X_join hts prw_926 (by have := hh; omega)) hX hXs hK hP hS (by decide) rfl rfl rfl rfl hl.1 (Nat.le_of_ble_eq_true rfl) prd_X_test_252 (fun H locs hP hS => ?_)
                    refine lv_iload hx hb prd_X_test_255 (lv_at hl 0 rfl) ?_
                    exact pr_reti E hP hS (pr_so hf) prd_X_test_257
                  · have hf := pr_ie c201 hf
                    refine lv_iconst (v := (-1)) hx hb prd_X_test_213 (by decide) ?_
                    exact pr_reti E hP hS (pr_so hf) prd_X_test_214
            · have hf := pr_it c154 hf
              refine lv_bipush (v := 30) hx hb prd_X_test_160 (by decide) ?_
              refine lv_goto (tgt := 190) hx hb prd_X_test_162 (by decide) ?_
              refine lv_istore (lv' := [(4, .int 30), (3, .int r150), (2, .int r149.1), (0, .ref (ad 0)), (1, .int x1)]) hx hb prd_X_test_190 hl (by decide) rfl (fun ls hl => ?_)
              refine lv_aload_n hx hb prd_X_test_192 rfl (lv_at hl 3 rfl) ?_
              refine lv_iload hx hb prd_X_test_193 (lv_at hl 0 rfl) ?_
              refine lv_if_le (tgt := 202) hx hb prd_X_test_195 (by decide) (fun c208 => ?_) (fun c208 => ?_)
              · have hf := pr_it c208 hf
                refine lv_iconst (v := 0) hx hb prd_X_test_202 (by decide) ?_
                obtain ⟨r209, hr209, hf⟩ := pr_bi hf
                refine pr_callVv (rest := []) (res := r209) ⟨hx, hb, hml, hown, hts⟩ 0 (prc_X_need hD hX 0 (Nat.le_refl _) r149.2 0 r209 hr209) (prg_X_need hts prw_897 (by have := hh; omega)) hX hXs hK hP hS (by decide) rfl rfl rfl rfl hl.1 (Nat.le_of_ble_eq_true rfl) prd_X_test_203 (fun H locs hP hS => ?_)
                refine lv_aload_n hx hb prd_X_test_206 rfl (lv_at hl 3 rfl) ?_
                refine pr_geti (v := (r209.1 0 9)) hx hb hts prs_X hown hK hP 0 9 (by decide) rfl (hts _ prw_887) rfl rfl prd_X_test_207 ?_
                refine lv_if_eq (tgt := 215) hx hb prd_X_test_210 (by decide) (fun c210 => ?_) (fun c210 => ?_)
                · have hf := pr_it c210 hf
                  refine lv_aload_n hx hb prd_X_test_215 rfl (lv_at hl 3 rfl) ?_
                  refine lv_iload hx hb prd_X_test_216 (lv_at hl 0 rfl) ?_
                  refine lv_aload_n hx hb prd_X_test_218 rfl (lv_at hl 3 rfl) ?_
                  refine pr_getr (t := 7) hx hb hts prs_X hown hK hP 0 12 (by decide) rfl (hts _ prw_903) rfl prd_X_test_219 ?_
                  refine lv_iload_n hx hb prd_X_test_222 rfl (lv_at hl 2 rfl) ?_
                  obtain ⟨hi211, hf⟩ := pr_ck_in hf
                  refine pr_iald (f := (r209.2.1 7)) hx hb hK hP 7 (by decide) rfl hi211 rfl prd_X_test_223 ?_
                  refine lv_iconst (v := 0) hx hb prd_X_test_224 (by decide) ?_
                  obtain ⟨r212, hr212, hf⟩ := pr_bi hf
                  refine pr_callVi (rest := []) (res := r212) ⟨hx, hb, hml, hown, hts⟩ 0 (prc_X_draft hD hX 0 (Nat.le_refl _) r209 30 ((r209.2.1 7) r149.1.toNatClampNeg) 0 r212 hr212) (prg_X_draft hts prw_914 (by have := hh; omega)) hX hXs hK hP hS (by decide) rfl rfl rfl rfl hl.1 (Nat.le_of_ble_eq_true rfl) prd_X_test_225 (fun H locs hP hS => ?_)
                  refine lv_istore (lv' := [(5, .int r212.1), (4, .int 30), (3, .int r150), (2, .int r149.1), (0, .ref (ad 0)), (1, .int x1)]) hx hb prd_X_test_228 hl (by decide) rfl (fun ls hl => ?_)
                  refine lv_aload_n hx hb prd_X_test_230 rfl (lv_at hl 4 rfl) ?_
                  refine lv_iload_n hx hb prd_X_test_231 rfl (lv_at hl 2 rfl) ?_
                  obtain ⟨r213, hr213, hf⟩ := pr_bi hf
                  refine pr_callVv (rest := []) (res := r213) ⟨hx, hb, hml, hown, hts⟩ 0 (prc_X_take hD hX 1 (Nat.le_refl _) r212.2 r150 r213 hr213) (prg_X_take hts prw_915 (by have := hh; omega)) hX hXs hK hP hS (by decide) rfl rfl rfl rfl hl.1 (Nat.le_of_ble_eq_true rfl) prd_X_test_232 (fun H locs hP hS => ?_)
                  refine lv_aload_n hx hb prd_X_test_235 rfl (lv_at hl 4 rfl) ?_
                  refine lv_iload hx hb prd_X_test_236 (lv_at hl 0 rfl) ?_
                  refine lv_iload_n hx hb prd_X_test_238 rfl (lv_at hl 3 rfl) ?_
                  obtain ⟨r214, hr214, hf⟩ := pr_bi hf
                  refine pr_callVv (rest := []) (res := r214) ⟨hx, hb, hml, hown, hts⟩ 0 (prc_X_join hD hX 0 (Nat.le_refl _) r213 r212.1 r149.1 r214 hr214) (prg_X_join hts prw_926 (by have := hh; omega)) hX hXs hK hP hS (by decide) rfl rfl rfl rfl hl.1 (Nat.le_of_ble_eq_true rfl) prd_X_test_239 (fun H locs hP hS => ?_)
                  refine lv_aload_n hx hb prd_X_test_242 rfl (lv_at hl 4 rfl) ?_
                  refine lv_iload hx hb prd_X_test_243 (lv_at hl 0 rfl) ?_
                  refine lv_aload_n hx hb prd_X_test_245 rfl (lv_at hl 4 rfl) ?_
                  refine lv_iload_n hx hb prd_X_test_246 rfl (lv_at hl 5 rfl) ?_
                  refine lv_iconst (v := 1) hx hb prd_X_test_247 (by decide) ?_
                  refine lv_iadd hx hb prd_X_test_248 ?_
                  obtain ⟨r215, hr215, hf⟩ := pr_bi hf
                  refine pr_callVi (rest := [.int r212.1, .ref (ad 0)]) (res := r215) ⟨hx, hb, hml, hown, hts⟩ 0 (prct_X_sum hD hX r214 (x1 + 1) r215 hr215) (prg_X_sum hts prw_935 (by have := hh; omega)) hX hXs hK hP hS (by decide) rfl rfl rfl rfl hl.1 (Nat.le_of_ble_eq_true rfl) prd_X_test_249 (fun H locs hP hS => ?_)
                  obtain ⟨r216, hr216, hf⟩ := pr_bi hf
                  refine pr_callVv (rest := []) (res := r216) ⟨hx, hb, hml, hown, hts⟩ 0 (prc_X_join hD hX 0 (Nat.le_refl _) r215.2 r212.1 r215.1 r216 hr216) (prg_X_join hts prw_926 (by have := hh; omega)) hX hXs hK hP hS (by decide) rfl rfl rfl rfl hl.1 (Nat.le_of_ble_eq_true rfl) prd_X_test_252 (fun H locs hP hS => ?_)
                  refine lv_iload hx hb prd_X_test_255 (lv_at hl 0 rfl) ?_
                  exact pr_reti E hP hS (pr_so hf) prd_X_test_257
                · have hf := pr_ie c210 hf
                  refine lv_iconst (v := (-1)) hx hb prd_X_test_213 (by decide) ?_
                  exact pr_reti E hP hS (pr_so hf) prd_X_test_214
              · have hf := pr_ie c208 hf
                refine lv_iconst (v := 1) hx hb prd_X_test_198 (by decide) ?_
                refine lv_goto (tgt := 203) hx hb prd_X_test_199 (by decide) ?_
                obtain ⟨r217, hr217, hf⟩ := pr_bi hf
                refine pr_callVv (rest := []) (res := r217) ⟨hx, hb, hml, hown, hts⟩ 0 (prc_X_need hD hX 0 (Nat.le_refl _) r149.2 1 r217 hr217) (prg_X_need hts prw_897 (by have := hh; omega)) hX hXs hK hP hS (by decide) rfl rfl rfl rfl hl.1 (Nat.le_of_ble_eq_true rfl) prd_X_test_203 (fun H locs hP hS => ?_)
                refine lv_aload_n hx hb prd_X_test_206 rfl (lv_at hl 3 rfl) ?_
                refine pr_geti (v := (r217.1 0 9)) hx hb hts prs_X hown hK hP 0 9 (by decide) rfl (hts _ prw_887) rfl rfl prd_X_test_207 ?_
                refine lv_if_eq (tgt := 215) hx hb prd_X_test_210 (by decide) (fun c218 => ?_) (fun c218 => ?_)
                · have hf := pr_it c218 hf
                  refine lv_aload_n hx hb prd_X_test_215 rfl (lv_at hl 3 rfl) ?_
                  refine lv_iload hx hb prd_X_test_216 (lv_at hl 0 rfl) ?_
                  refine lv_aload_n hx hb prd_X_test_218 rfl (lv_at hl 3 rfl) ?_
                  refine pr_getr (t := 7) hx hb hts prs_X hown hK hP 0 12 (by decide) rfl (hts _ prw_903) rfl prd_X_test_219 ?_
                  refine lv_iload_n hx hb prd_X_test_222 rfl (lv_at hl 2 rfl) ?_
                  obtain ⟨hi219, hf⟩ := pr_ck_in hf
                  refine pr_iald (f := (r217.2.1 7)) hx hb hK hP 7 (by decide) rfl hi219 rfl prd_X_test_223 ?_
                  refine lv_iconst (v := 0) hx hb prd_X_test_224 (by decide) ?_
                  obtain ⟨r220, hr220, hf⟩ := pr_bi hf
                  refine pr_callVi (rest := []) (res := r220) ⟨hx, hb, hml, hown, hts⟩ 0 (prc_X_draft hD hX 0 (Nat.le_refl _) r217 30 ((r217.2.1 7) r149.1.toNatClampNeg) 0 r220 hr220) (prg_X_draft hts prw_914 (by have := hh; omega)) hX hXs hK hP hS (by decide) rfl rfl rfl rfl hl.1 (Nat.le_of_ble_eq_true rfl) prd_X_test_225 (fun H locs hP hS => ?_)
                  refine lv_istore (lv' := [(5, .int r220.1), (4, .int 30), (3, .int r150), (2, .int r149.1), (0, .ref (ad 0)), (1, .int x1)]) hx hb prd_X_test_228 hl (by decide) rfl (fun ls hl => ?_)
                  refine lv_aload_n hx hb prd_X_test_230 rfl (lv_at hl 4 rfl) ?_
                  refine lv_iload_n hx hb prd_X_test_231 rfl (lv_at hl 2 rfl) ?_
                  obtain ⟨r221, hr221, hf⟩ := pr_bi hf
                  refine pr_callVv (rest := []) (res := r221) ⟨hx, hb, hml, hown, hts⟩ 0 (prc_X_take hD hX 1 (Nat.le_refl _) r220.2 r150 r221 hr221) (prg_X_take hts prw_915 (by have := hh; omega)) hX hXs hK hP hS (by decide) rfl rfl rfl rfl hl.1 (Nat.le_of_ble_eq_true rfl) prd_X_test_232 (fun H locs hP hS => ?_)
                  refine lv_aload_n hx hb prd_X_test_235 rfl (lv_at hl 4 rfl) ?_
                  refine lv_iload hx hb prd_X_test_236 (lv_at hl 0 rfl) ?_
                  refine lv_iload_n hx hb prd_X_test_238 rfl (lv_at hl 3 rfl) ?_
                  obtain ⟨r222, hr222, hf⟩ := pr_bi hf
                  refine pr_callVv (rest := []) (res := r222) ⟨hx, hb, hml, hown, hts⟩ 0 (prc_X_join hD hX 0 (Nat.le_refl _) r221 r220.1 r149.1 r222 hr222) (prg_X_join hts prw_926 (by have := hh; omega)) hX hXs hK hP hS (by decide) rfl rfl rfl rfl hl.1 (Nat.le_of_ble_eq_true rfl) prd_X_test_239 (fun H locs hP hS => ?_)
                  refine lv_aload_n hx hb prd_X_test_242 rfl (lv_at hl 4 rfl) ?_
                  refine lv_iload hx hb prd_X_test_243 (lv_at hl 0 rfl) ?_
                  refine lv_aload_n hx hb prd_X_test_245 rfl (lv_at hl 4 rfl) ?_
                  refine lv_iload_n hx hb prd_X_test_246 rfl (lv_at hl 5 rfl) ?_
                  refine lv_iconst (v := 1) hx hb prd_X_test_247 (by decide) ?_
                  refine lv_iadd hx hb prd_X_test_248 ?_
                  obtain ⟨r223, hr223, hf⟩ := pr_bi hf
                  refine pr_callVi (rest := [.int r220.1, .ref (ad 0)]) (res := r223) ⟨hx, hb, hml, hown, hts⟩ 0 (prct_X_sum hD hX r222 (x1 + 1) r223 hr223) (prg_X_sum hts prw_935 (by have := hh; omega)) hX hXs hK hP hS (by decide) rfl rfl rfl rfl hl.1 (Nat.le_of_ble_eq_true rfl) prd_X_test_249 (fun H locs hP hS => ?_)
                  obtain ⟨r224, hr224, hf⟩ := pr_bi hf
                  refine pr_callVv (rest := []) (res := r224) ⟨hx, hb, hml, hown, hts⟩ 0 (prc_X_join hD hX 0 (Nat.le_refl _) r223.2 r220.1 r223.1 r224 hr224) (prg_X_join hts prw_926 (by have := hh; omega)) hX hXs hK hP hS (by decide) rfl rfl rfl rfl hl.1 (Nat.le_of_ble_eq_true rfl) prd_X_test_252 (fun H locs hP hS => ?_)
                  refine lv_iload hx hb prd_X_test_255 (lv_at hl 0 rfl) ?_
                  exact pr_reti E hP hS (pr_so hf) prd_X_test_257
                · have hf := pr_ie c218 hf
                  refine lv_iconst (v := (-1)) hx hb prd_X_test_213 (by decide) ?_
                  exact pr_reti E hP hS (pr_so hf) prd_X_test_214
          · have hf := pr_it c153 hf
            refine lv_bipush (v := 29) hx hb prd_X_test_148 (by decide) ?_
            refine lv_goto (tgt := 190) hx hb prd_X_test_150 (by decide) ?_
            refine lv_istore (lv' := [(4, .int 29), (3, .int r150), (2, .int r149.1), (0, .ref (ad 0)), (1, .int x1)]) hx hb prd_X_test_190 hl (by decide) rfl (fun ls hl => ?_)
            refine lv_aload_n hx hb prd_X_test_192 rfl (lv_at hl 3 rfl) ?_
            refine lv_iload hx hb prd_X_test_193 (lv_at hl 0 rfl) ?_
            refine lv_if_le (tgt := 202) hx hb prd_X_test_195 (by decide) (fun c225 => ?_) (fun c225 => ?_)
            · have hf := pr_it c225 hf
              refine lv_iconst (v := 0) hx hb prd_X_test_202 (by decide) ?_
              obtain ⟨r226, hr226, hf⟩ := pr_bi hf
              refine pr_callVv (rest := []) (res := r226) ⟨hx, hb, hml, hown, hts⟩ 0 (prc_X_need hD hX 0 (Nat.le_refl _) r149.2 0 r226 hr226) (prg_X_need hts prw_897 (by have := hh; omega)) hX hXs hK hP hS (by decide) rfl rfl rfl rfl hl.1 (Nat.le_of_ble_eq_true rfl) prd_X_test_203 (fun H locs hP hS => ?_)
              refine lv_aload_n hx hb prd_X_test_206 rfl (lv_at hl 3 rfl) ?_
              refine pr_geti (v := (r226.1 0 9)) hx hb hts prs_X hown hK hP 0 9 (by decide) rfl (hts _ prw_887) rfl rfl prd_X_test_207 ?_
              refine lv_if_eq (tgt := 215) hx hb prd_X_test_210 (by decide) (fun c227 => ?_) (fun c227 => ?_)
              · have hf := pr_it c227 hf
                refine lv_aload_n hx hb prd_X_test_215 rfl (lv_at hl 3 rfl) ?_
                refine lv_iload hx hb prd_X_test_216 (lv_at hl 0 rfl) ?_
                refine lv_aload_n hx hb prd_X_test_218 rfl (lv_at hl 3 rfl) ?_
                refine pr_getr (t := 7) hx hb hts prs_X hown hK hP 0 12 (by decide) rfl (hts _ prw_903) rfl prd_X_test_219 ?_
                refine lv_iload_n hx hb prd_X_test_222 rfl (lv_at hl 2 rfl) ?_
                obtain ⟨hi228, hf⟩ := pr_ck_in hf
                refine pr_iald (f := (r226.2.1 7)) hx hb hK hP 7 (by decide) rfl hi228 rfl prd_X_test_223 ?_
                refine lv_iconst (v := 0) hx hb prd_X_test_224 (by decide) ?_
                obtain ⟨r229, hr229, hf⟩ := pr_bi hf
                refine pr_callVi (rest := []) (res := r229) ⟨hx, hb, hml, hown, hts⟩ 0 (prc_X_draft hD hX 0 (Nat.le_refl _) r226 29 ((r226.2.1 7) r149.1.toNatClampNeg) 0 r229 hr229) (prg_X_draft hts prw_914 (by have := hh; omega)) hX hXs hK hP hS (by decide) rfl rfl rfl rfl hl.1 (Nat.le_of_ble_eq_true rfl) prd_X_test_225 (fun H locs hP hS => ?_)
                refine lv_istore (lv' := [(5, .int r229.1), (4, .int 29), (3, .int r150), (2, .int r149.1), (0, .ref (ad 0)), (1, .int x1)]) hx hb prd_X_test_228 hl (by decide) rfl (fun ls hl => ?_)
                refine lv_aload_n hx hb prd_X_test_230 rfl (lv_at hl 4 rfl) ?_
                refine lv_iload_n hx hb prd_X_test_231 rfl (lv_at hl 2 rfl) ?_
                obtain ⟨r230, hr230, hf⟩ := pr_bi hf
                refine pr_callVv (rest := []) (res := r230) ⟨hx, hb, hml, hown, hts⟩ 0 (prc_X_take hD hX 1 (Nat.le_refl _) r229.2 r150 r230 hr230) (prg_X_take hts prw_915 (by have := hh; omega)) hX hXs hK hP hS (by decide) rfl rfl rfl rfl hl.1 (Nat.le_of_ble_eq_true rfl) prd_X_test_232 (fun H locs hP hS => ?_)
                refine lv_aload_n hx hb prd_X_test_235 rfl (lv_at hl 4 rfl) ?_
                refine lv_iload hx hb prd_X_test_236 (lv_at hl 0 rfl) ?_
                refine lv_iload_n hx hb prd_X_test_238 rfl (lv_at hl 3 rfl) ?_
                obtain ⟨r231, hr231, hf⟩ := pr_bi hf
                refine pr_callVv (rest := []) (res := r231) ⟨hx, hb, hml, hown, hts⟩ 0 (prc_X_join hD hX 0 (Nat.le_refl _) r230 r229.1 r149.1 r231 hr231) (prg_X_join hts prw_926 (by have := hh; omega)) hX hXs hK hP hS (by decide) rfl rfl rfl rfl hl.1 (Nat.le_of_ble_eq_true rfl) prd_X_test_239 (fun H locs hP hS => ?_)
                refine lv_aload_n hx hb prd_X_test_242 rfl (lv_at hl 4 rfl) ?_
                refine lv_iload hx hb prd_X_test_243 (lv_at hl 0 rfl) ?_
                refine lv_aload_n hx hb prd_X_test_245 rfl (lv_at hl 4 rfl) ?_
                refine lv_iload_n hx hb prd_X_test_246 rfl (lv_at hl 5 rfl) ?_
                refine lv_iconst (v := 1) hx hb prd_X_test_247 (by decide) ?_
                refine lv_iadd hx hb prd_X_test_248 ?_
                obtain ⟨r232, hr232, hf⟩ := pr_bi hf
                refine pr_callVi (rest := [.int r229.1, .ref (ad 0)]) (res := r232) ⟨hx, hb, hml, hown, hts⟩ 0 (prct_X_sum hD hX r231 (x1 + 1) r232 hr232) (prg_X_sum hts prw_935 (by have := hh; omega)) hX hXs hK hP hS (by decide) rfl rfl rfl rfl hl.1 (Nat.le_of_ble_eq_true rfl) prd_X_test_249 (fun H locs hP hS => ?_)
                obtain ⟨r233, hr233, hf⟩ := pr_bi hf
                refine pr_callVv (rest := []) (res := r233) ⟨hx, hb, hml, hown, hts⟩ 0 (prc_X_join hD hX 0 (Nat.le_refl _) r232.2 r229.1 r232.1 r233 hr233) (prg_X_join hts prw_926 (by have := hh; omega)) hX hXs hK hP hS (by decide) rfl rfl rfl rfl hl.1 (Nat.le_of_ble_eq_true rfl) prd_X_test_252 (fun H locs hP hS => ?_)
                refine lv_iload hx hb prd_X_test_255 (lv_at hl 0 rfl) ?_
                exact pr_reti E hP hS (pr_so hf) prd_X_test_257
              · have hf := pr_ie c227 hf
                refine lv_iconst (v := (-1)) hx hb prd_X_test_213 (by decide) ?_
                exact pr_reti E hP hS (pr_so hf) prd_X_test_214
            · have hf := pr_ie c225 hf
              refine lv_iconst (v := 1) hx hb prd_X_test_198 (by decide) ?_
              refine lv_goto (tgt := 203) hx hb prd_X_test_199 (by decide) ?_
              obtain ⟨r234, hr234, hf⟩ := pr_bi hf
              refine pr_callVv (rest := []) (res := r234) ⟨hx, hb, hml, hown, hts⟩ 0 (prc_X_need hD hX 0 (Nat.le_refl _) r149.2 1 r234 hr234) (prg_X_need hts prw_897 (by have := hh; omega)) hX hXs hK hP hS (by decide) rfl rfl rfl rfl hl.1 (Nat.le_of_ble_eq_true rfl) prd_X_test_203 (fun H locs hP hS => ?_)
              refine lv_aload_n hx hb prd_X_test_206 rfl (lv_at hl 3 rfl) ?_
              refine pr_geti (v := (r234.1 0 9)) hx hb hts prs_X hown hK hP 0 9 (by decide) rfl (hts _ prw_887) rfl rfl prd_X_test_207 ?_
              refine lv_if_eq (tgt := 215) hx hb prd_X_test_210 (by decide) (fun c235 => ?_) (fun c235 => ?_)
              · have hf := pr_it c235 hf
                refine lv_aload_n hx hb prd_X_test_215 rfl (lv_at hl 3 rfl) ?_
                refine lv_iload hx hb prd_X_test_216 (lv_at hl 0 rfl) ?_
                refine lv_aload_n hx hb prd_X_test_218 rfl (lv_at hl 3 rfl) ?_
                refine pr_getr (t := 7) hx hb hts prs_X hown hK hP 0 12 (by decide) rfl (hts _ prw_903) rfl prd_X_test_219 ?_
                refine lv_iload_n hx hb prd_X_test_222 rfl (lv_at hl 2 rfl) ?_
                obtain ⟨hi236, hf⟩ := pr_ck_in hf
                refine pr_iald (f := (r234.2.1 7)) hx hb hK hP 7 (by decide) rfl hi236 rfl prd_X_test_223 ?_
                refine lv_iconst (v := 0) hx hb prd_X_test_224 (by decide) ?_
                obtain ⟨r237, hr237, hf⟩ := pr_bi hf
                refine pr_callVi (rest := []) (res := r237) ⟨hx, hb, hml, hown, hts⟩ 0 (prc_X_draft hD hX 0 (Nat.le_refl _) r234 29 ((r234.2.1 7) r149.1.toNatClampNeg) 0 r237 hr237) (prg_X_draft hts prw_914 (by have := hh; omega)) hX hXs hK hP hS (by decide) rfl rfl rfl rfl hl.1 (Nat.le_of_ble_eq_true rfl) prd_X_test_225 (fun H locs hP hS => ?_)
                refine lv_istore (lv' := [(5, .int r237.1), (4, .int 29), (3, .int r150), (2, .int r149.1), (0, .ref (ad 0)), (1, .int x1)]) hx hb prd_X_test_228 hl (by decide) rfl (fun ls hl => ?_)
                refine lv_aload_n hx hb prd_X_test_230 rfl (lv_at hl 4 rfl) ?_
                refine lv_iload_n hx hb prd_X_test_231 rfl (lv_at hl 2 rfl) ?_
                obtain ⟨r238, hr238, hf⟩ := pr_bi hf
                refine pr_callVv (rest := []) (res := r238) ⟨hx, hb, hml, hown, hts⟩ 0 (prc_X_take hD hX 1 (Nat.le_refl _) r237.2 r150 r238 hr238) (prg_X_take hts prw_915 (by have := hh; omega)) hX hXs hK hP hS (by decide) rfl rfl rfl rfl hl.1 (Nat.le_of_ble_eq_true rfl) prd_X_test_232 (fun H locs hP hS => ?_)
                refine lv_aload_n hx hb prd_X_test_235 rfl (lv_at hl 4 rfl) ?_
                refine lv_iload hx hb prd_X_test_236 (lv_at hl 0 rfl) ?_
                refine lv_iload_n hx hb prd_X_test_238 rfl (lv_at hl 3 rfl) ?_
                obtain ⟨r239, hr239, hf⟩ := pr_bi hf
                refine pr_callVv (rest := []) (res := r239) ⟨hx, hb, hml, hown, hts⟩ 0 (prc_X_join hD hX 0 (Nat.le_refl _) r238 r237.1 r149.1 r239 hr239) (prg_X_join hts prw_926 (by have := hh; omega)) hX hXs hK hP hS (by decide) rfl rfl rfl rfl hl.1 (Nat.le_of_ble_eq_true rfl) prd_X_test_239 (fun H locs hP hS => ?_)
                refine lv_aload_n hx hb prd_X_test_242 rfl (lv_at hl 4 rfl) ?_
                refine lv_iload hx hb prd_X_test_243 (lv_at hl 0 rfl) ?_
                refine lv_aload_n hx hb prd_X_test_245 rfl (lv_at hl 4 rfl) ?_
                refine lv_iload_n hx hb prd_X_test_246 rfl (lv_at hl 5 rfl) ?_
                refine lv_iconst (v := 1) hx hb prd_X_test_247 (by decide) ?_
                refine lv_iadd hx hb prd_X_test_248 ?_
                obtain ⟨r240, hr240, hf⟩ := pr_bi hf
                refine pr_callVi (rest := [.int r237.1, .ref (ad 0)]) (res := r240) ⟨hx, hb, hml, hown, hts⟩ 0 (prct_X_sum hD hX r239 (x1 + 1) r240 hr240) (prg_X_sum hts prw_935 (by have := hh; omega)) hX hXs hK hP hS (by decide) rfl rfl rfl rfl hl.1 (Nat.le_of_ble_eq_true rfl) prd_X_test_249 (fun H locs hP hS => ?_)
                obtain ⟨r241, hr241, hf⟩ := pr_bi hf
                refine pr_callVv (rest := []) (res := r241) ⟨hx, hb, hml, hown, hts⟩ 0 (prc_X_join hD hX 0 (Nat.le_refl _) r240.2 r237.1 r240.1 r241 hr241) (prg_X_join hts prw_926 (by have := hh; omega)) hX hXs hK hP hS (by decide) rfl rfl rfl rfl hl.1 (Nat.le_of_ble_eq_true rfl) prd_X_test_252 (fun H locs hP hS => ?_)
                refine lv_iload hx hb prd_X_test_255 (lv_at hl 0 rfl) ?_
                exact pr_reti E hP hS (pr_so hf) prd_X_test_257
              · have hf := pr_ie c235 hf
                refine lv_iconst (v := (-1)) hx hb prd_X_test_213 (by decide) ?_
                exact pr_reti E hP hS (pr_so hf) prd_X_test_214
        · have hf := pr_it c152 hf
          refine lv_bipush (v := 28) hx hb prd_X_test_137 (by decide) ?_
          refine lv_goto (tgt := 190) hx hb prd_X_test_139 (by decide) ?_
          refine lv_istore (lv' := [(4, .int 28), (3, .int r150), (2, .int r149.1), (0, .ref (ad 0)), (1, .int x1)]) hx hb prd_X_test_190 hl (by decide) rfl (fun ls hl => ?_)
          refine lv_aload_n hx hb prd_X_test_192 rfl (lv_at hl 3 rfl) ?_
          refine lv_iload hx hb prd_X_test_193 (lv_at hl 0 rfl) ?_
          refine lv_if_le (tgt := 202) hx hb prd_X_test_195 (by decide) (fun c242 => ?_) (fun c242 => ?_)
          · have hf := pr_it c242 hf
            refine lv_iconst (v := 0) hx hb prd_X_test_202 (by decide) ?_
            obtain ⟨r243, hr243, hf⟩ := pr_bi hf
            refine pr_callVv (rest := []) (res := r243) ⟨hx, hb, hml, hown, hts⟩ 0 (prc_X_need hD hX 0 (Nat.le_refl _) r149.2 0 r243 hr243) (prg_X_need hts prw_897 (by have := hh; omega)) hX hXs hK hP hS (by decide) rfl rfl rfl rfl hl.1 (Nat.le_of_ble_eq_true rfl) prd_X_test_203 (fun H locs hP hS => ?_)
            refine lv_aload_n hx hb prd_X_test_206 rfl (lv_at hl 3 rfl) ?_
            refine pr_geti (v := (r243.1 0 9)) hx hb hts prs_X hown hK hP 0 9 (by decide) rfl (hts _ prw_887) rfl rfl prd_X_test_207 ?_
            refine lv_if_eq (tgt := 215) hx hb prd_X_test_210 (by decide) (fun c244 => ?_) (fun c244 => ?_)
            · have hf := pr_it c244 hf
              refine lv_aload_n hx hb prd_X_test_215 rfl (lv_at hl 3 rfl) ?_
              refine lv_iload hx hb prd_X_test_216 (lv_at hl 0 rfl) ?_
              refine lv_aload_n hx hb prd_X_test_218 rfl (lv_at hl 3 rfl) ?_
              refine pr_getr (t := 7) hx hb hts prs_X hown hK hP 0 12 (by decide) rfl (hts _ prw_903) rfl prd_X_test_219 ?_
              refine lv_iload_n hx hb prd_X_test_222 rfl (lv_at hl 2 rfl) ?_
              obtain ⟨hi245, hf⟩ := pr_ck_in hf
              refine pr_iald (f := (r243.2.1 7)) hx hb hK hP 7 (by decide) rfl hi245 rfl prd_X_test_223 ?_
              refine lv_iconst (v := 0) hx hb prd_X_test_224 (by decide) ?_
              obtain ⟨r246, hr246, hf⟩ := pr_bi hf
              refine pr_callVi (rest := []) (res := r246) ⟨hx, hb, hml, hown, hts⟩ 0 (prc_X_draft hD hX 0 (Nat.le_refl _) r243 28 ((r243.2.1 7) r149.1.toNatClampNeg) 0 r246 hr246) (prg_X_draft hts prw_914 (by have := hh; omega)) hX hXs hK hP hS (by decide) rfl rfl rfl rfl hl.1 (Nat.le_of_ble_eq_true rfl) prd_X_test_225 (fun H locs hP hS => ?_)
              refine lv_istore (lv' := [(5, .int r246.1), (4, .int 28), (3, .int r150), (2, .int r149.1), (0, .ref (ad 0)), (1, .int x1)]) hx hb prd_X_test_228 hl (by decide) rfl (fun ls hl => ?_)
              refine lv_aload_n hx hb prd_X_test_230 rfl (lv_at hl 4 rfl) ?_
              refine lv_iload_n hx hb prd_X_test_231 rfl (lv_at hl 2 rfl) ?_
              obtain ⟨r247, hr247, hf⟩ := pr_bi hf
              refine pr_callVv (rest := []) (res := r247) ⟨hx, hb, hml, hown, hts⟩ 0 (prc_X_take hD hX 1 (Nat.le_refl _) r246.2 r150 r247 hr247) (prg_X_take hts prw_915 (by have := hh; omega)) hX hXs hK hP hS (by decide) rfl rfl rfl rfl hl.1 (Nat.le_of_ble_eq_true rfl) prd_X_test_232 (fun H locs hP hS => ?_)
              refine lv_aload_n hx hb prd_X_test_235 rfl (lv_at hl 4 rfl) ?_
              refine lv_iload hx hb prd_X_test_236 (lv_at hl 0 rfl) ?_
              refine lv_iload_n hx hb prd_X_test_238 rfl (lv_at hl 3 rfl) ?_
              obtain ⟨r248, hr248, hf⟩ := pr_bi hf
              refine pr_callVv (rest := []) (res := r248) ⟨hx, hb, hml, hown, hts⟩ 0 (prc_X_join hD hX 0 (Nat.le_refl _) r247 r246.1 r149.1 r248 hr248) (prg_X_join hts prw_926 (by have := hh; omega)) hX hXs hK hP hS (by decide) rfl rfl rfl rfl hl.1 (Nat.le_of_ble_eq_true rfl) prd_X_test_239 (fun H locs hP hS => ?_)
              refine lv_aload_n hx hb prd_X_test_242 rfl (lv_at hl 4 rfl) ?_
              refine lv_iload hx hb prd_X_test_243 (lv_at hl 0 rfl) ?_
              refine lv_aload_n hx hb prd_X_test_245 rfl (lv_at hl 4 rfl) ?_
              refine lv_iload_n hx hb prd_X_test_246 rfl (lv_at hl 5 rfl) ?_
              refine lv_iconst (v := 1) hx hb prd_X_test_247 (by decide) ?_
              refine lv_iadd hx hb prd_X_test_248 ?_
              obtain ⟨r249, hr249, hf⟩ := pr_bi hf
              refine pr_callVi (rest := [.int r246.1, .ref (ad 0)]) (res := r249) ⟨hx, hb, hml, hown, hts⟩ 0 (prct_X_sum hD hX r248 (x1 + 1) r249 hr249) (prg_X_sum hts prw_935 (by have := hh; omega)) hX hXs hK hP hS (by decide) rfl rfl rfl rfl hl.1 (Nat.le_of_ble_eq_true rfl) prd_X_test_249 (fun H locs hP hS => ?_)
              obtain ⟨r250, hr250, hf⟩ := pr_bi hf
              refine pr_callVv (rest := []) (res := r250) ⟨hx, hb, hml, hown, hts⟩ 0 (prc_X_join hD hX 0 (Nat.le_refl _) r249.2 r246.1 r249.1 r250 hr250) (prg_X_join hts prw_926 (by have := hh; omega)) hX hXs hK hP hS (by decide) rfl rfl rfl rfl hl.1 (Nat.le_of_ble_eq_true rfl) prd_X_test_252 (fun H locs hP hS => ?_)
              refine lv_iload hx hb prd_X_test_255 (lv_at hl 0 rfl) ?_
              exact pr_reti E hP hS (pr_so hf) prd_X_test_257
            · have hf := pr_ie c244 hf
              refine lv_iconst (v := (-1)) hx hb prd_X_test_213 (by decide) ?_
              exact pr_reti E hP hS (pr_so hf) prd_X_test_214
          · have hf := pr_ie c242 hf
            refine lv_iconst (v := 1) hx hb prd_X_test_198 (by decide) ?_
            refine lv_goto (tgt := 203) hx hb prd_X_test_199 (by decide) ?_
            obtain ⟨r251, hr251, hf⟩ := pr_bi hf
            refine pr_callVv (rest := []) (res := r251) ⟨hx, hb, hml, hown, hts⟩ 0 (prc_X_need hD hX 0 (Nat.le_refl _) r149.2 1 r251 hr251) (prg_X_need hts prw_897 (by have := hh; omega)) hX hXs hK hP hS (by decide) rfl rfl rfl rfl hl.1 (Nat.le_of_ble_eq_true rfl) prd_X_test_203 (fun H locs hP hS => ?_)
            refine lv_aload_n hx hb prd_X_test_206 rfl (lv_at hl 3 rfl) ?_
            refine pr_geti (v := (r251.1 0 9)) hx hb hts prs_X hown hK hP 0 9 (by decide) rfl (hts _ prw_887) rfl rfl prd_X_test_207 ?_
            refine lv_if_eq (tgt := 215) hx hb prd_X_test_210 (by decide) (fun c252 => ?_) (fun c252 => ?_)
            · have hf := pr_it c252 hf
              refine lv_aload_n hx hb prd_X_test_215 rfl (lv_at hl 3 rfl) ?_
              refine lv_iload hx hb prd_X_test_216 (lv_at hl 0 rfl) ?_
              refine lv_aload_n hx hb prd_X_test_218 rfl (lv_at hl 3 rfl) ?_
              refine pr_getr (t := 7) hx hb hts prs_X hown hK hP 0 12 (by decide) rfl (hts _ prw_903) rfl prd_X_test_219 ?_
              refine lv_iload_n hx hb prd_X_test_222 rfl (lv_at hl 2 rfl) ?_
              obtain ⟨hi253, hf⟩ := pr_ck_in hf
              refine pr_iald (f := (r251.2.1 7)) hx hb hK hP 7 (by decide) rfl hi253 rfl prd_X_test_223 ?_
              refine lv_iconst (v := 0) hx hb prd_X_test_224 (by decide) ?_
              obtain ⟨r254, hr254, hf⟩ := pr_bi hf
              refine pr_callVi (rest := []) (res := r254) ⟨hx, hb, hml, hown, hts⟩ 0 (prc_X_draft hD hX 0 (Nat.le_refl _) r251 28 ((r251.2.1 7) r149.1.toNatClampNeg) 0 r254 hr254) (prg_X_draft hts prw_914 (by have := hh; omega)) hX hXs hK hP hS (by decide) rfl rfl rfl rfl hl.1 (Nat.le_of_ble_eq_true rfl) prd_X_test_225 (fun H locs hP hS => ?_)
              refine lv_istore (lv' := [(5, .int r254.1), (4, .int 28), (3, .int r150), (2, .int r149.1), (0, .ref (ad 0)), (1, .int x1)]) hx hb prd_X_test_228 hl (by decide) rfl (fun ls hl => ?_)
              refine lv_aload_n hx hb prd_X_test_230 rfl (lv_at hl 4 rfl) ?_
              refine lv_iload_n hx hb prd_X_test_231 rfl (lv_at hl 2 rfl) ?_
              obtain ⟨r255, hr255, hf⟩ := pr_bi hf
              refine pr_callVv (rest := []) (res := r255) ⟨hx, hb, hml, hown, hts⟩ 0 (prc_X_take hD hX 1 (Nat.le_refl _) r254.2 r150 r255 hr255) (prg_X_take hts prw_915 (by have := hh; omega)) hX hXs hK hP hS (by decide) rfl rfl rfl rfl hl.1 (Nat.le_of_ble_eq_true rfl) prd_X_test_232 (fun H locs hP hS => ?_)
              refine lv_aload_n hx hb prd_X_test_235 rfl (lv_at hl 4 rfl) ?_
              refine lv_iload hx hb prd_X_test_236 (lv_at hl 0 rfl) ?_
              refine lv_iload_n hx hb prd_X_test_238 rfl (lv_at hl 3 rfl) ?_
              obtain ⟨r256, hr256, hf⟩ := pr_bi hf
              refine pr_callVv (rest := []) (res := r256) ⟨hx, hb, hml, hown, hts⟩ 0 (prc_X_join hD hX 0 (Nat.le_refl _) r255 r254.1 r149.1 r256 hr256) (prg_X_join hts prw_926 (by have := hh; omega)) hX hXs hK hP hS (by decide) rfl rfl rfl rfl hl.1 (Nat.le_of_ble_eq_true rfl) prd_X_test_239 (fun H locs hP hS => ?_)
              refine lv_aload_n hx hb prd_X_test_242 rfl (lv_at hl 4 rfl) ?_
              refine lv_iload hx hb prd_X_test_243 (lv_at hl 0 rfl) ?_
              refine lv_aload_n hx hb prd_X_test_245 rfl (lv_at hl 4 rfl) ?_
              refine lv_iload_n hx hb prd_X_test_246 rfl (lv_at hl 5 rfl) ?_
              refine lv_iconst (v := 1) hx hb prd_X_test_247 (by decide) ?_
              refine lv_iadd hx hb prd_X_test_248 ?_
              obtain ⟨r257, hr257, hf⟩ := pr_bi hf
              refine pr_callVi (rest := [.int r254.1, .ref (ad 0)]) (res := r257) ⟨hx, hb, hml, hown, hts⟩ 0 (prct_X_sum hD hX r256 (x1 + 1) r257 hr257) (prg_X_sum hts prw_935 (by have := hh; omega)) hX hXs hK hP hS (by decide) rfl rfl rfl rfl hl.1 (Nat.le_of_ble_eq_true rfl) prd_X_test_249 (fun H locs hP hS => ?_)
              obtain ⟨r258, hr258, hf⟩ := pr_bi hf
              refine pr_callVv (rest := []) (res := r258) ⟨hx, hb, hml, hown, hts⟩ 0 (prc_X_join hD hX 0 (Nat.le_refl _) r257.2 r254.1 r257.1 r258 hr258) (prg_X_join hts prw_926 (by have := hh; omega)) hX hXs hK hP hS (by decide) rfl rfl rfl rfl hl.1 (Nat.le_of_ble_eq_true rfl) prd_X_test_252 (fun H locs hP hS => ?_)
              refine lv_iload hx hb prd_X_test_255 (lv_at hl 0 rfl) ?_
              exact pr_reti E hP hS (pr_so hf) prd_X_test_257
            · have hf := pr_ie c252 hf
              refine lv_iconst (v := (-1)) hx hb prd_X_test_213 (by decide) ?_
              exact pr_reti E hP hS (pr_so hf) prd_X_test_214
      · have hf := pr_it c151 hf
        refine lv_bipush (v := 27) hx hb prd_X_test_125 (by decide) ?_
        refine lv_goto (tgt := 190) hx hb prd_X_test_127 (by decide) ?_
        refine lv_istore (lv' := [(4, .int 27), (3, .int r150), (2, .int r149.1), (0, .ref (ad 0)), (1, .int x1)]) hx hb prd_X_test_190 hl (by decide) rfl (fun ls hl => ?_)
        refine lv_aload_n hx hb prd_X_test_192 rfl (lv_at hl 3 rfl) ?_
        refine lv_iload hx hb prd_X_test_193 (lv_at hl 0 rfl) ?_
        refine lv_if_le (tgt := 202) hx hb prd_X_test_195 (by decide) (fun c259 => ?_) (fun c259 => ?_)
        · have hf := pr_it c259 hf
          refine lv_iconst (v := 0) hx hb prd_X_test_202 (by decide) ?_
          obtain ⟨r260, hr260, hf⟩ := pr_bi hf
          refine pr_callVv (rest := []) (res := r260) ⟨hx, hb, hml, hown, hts⟩ 0 (prc_X_need hD hX 0 (Nat.le_refl _) r149.2 0 r260 hr260) (prg_X_need hts prw_897 (by have := hh; omega)) hX hXs hK hP hS (by decide) rfl rfl rfl rfl hl.1 (Nat.le_of_ble_eq_true rfl) prd_X_test_203 (fun H locs hP hS => ?_)
          refine lv_aload_n hx hb prd_X_test_206 rfl (lv_at hl 3 rfl) ?_
          refine pr_geti (v := (r260.1 0 9)) hx hb hts prs_X hown hK hP 0 9 (by decide) rfl (hts _ prw_887) rfl rfl prd_X_test_207 ?_
          refine lv_if_eq (tgt := 215) hx hb prd_X_test_210 (by decide) (fun c261 => ?_) (fun c261 => ?_)
          · have hf := pr_it c261 hf
            refine lv_aload_n hx hb prd_X_test_215 rfl (lv_at hl 3 rfl) ?_
            refine lv_iload hx hb prd_X_test_216 (lv_at hl 0 rfl) ?_
            refine lv_aload_n hx hb prd_X_test_218 rfl (lv_at hl 3 rfl) ?_
            refine pr_getr (t := 7) hx hb hts prs_X hown hK hP 0 12 (by decide) rfl (hts _ prw_903) rfl prd_X_test_219 ?_
            refine lv_iload_n hx hb prd_X_test_222 rfl (lv_at hl 2 rfl) ?_
            obtain ⟨hi262, hf⟩ := pr_ck_in hf
            refine pr_iald (f := (r260.2.1 7)) hx hb hK hP 7 (by decide) rfl hi262 rfl prd_X_test_223 ?_
            refine lv_iconst (v := 0) hx hb prd_X_test_224 (by decide) ?_
            obtain ⟨r263, hr263, hf⟩ := pr_bi hf
            refine pr_callVi (rest := []) (res := r263) ⟨hx, hb, hml, hown, hts⟩ 0 (prc_X_draft hD hX 0 (Nat.le_refl _) r260 27 ((r260.2.1 7) r149.1.toNatClampNeg) 0 r263 hr263) (prg_X_draft hts prw_914 (by have := hh; omega)) hX hXs hK hP hS (by decide) rfl rfl rfl rfl hl.1 (Nat.le_of_ble_eq_true rfl) prd_X_test_225 (fun H locs hP hS => ?_)
            refine lv_istore (lv' := [(5, .int r263.1), (4, .int 27), (3, .int r150), (2, .int r149.1), (0, .ref (ad 0)), (1, .int x1)]) hx hb prd_X_test_228 hl (by decide) rfl (fun ls hl => ?_)
            refine lv_aload_n hx hb prd_X_test_230 rfl (lv_at hl 4 rfl) ?_
            refine lv_iload_n hx hb prd_X_test_231 rfl (lv_at hl 2 rfl) ?_
            obtain ⟨r264, hr264, hf⟩ := pr_bi hf
            refine pr_callVv (rest := []) (res := r264) ⟨hx, hb, hml, hown, hts⟩ 0 (prc_X_take hD hX 1 (Nat.le_refl _) r263.2 r150 r264 hr264) (prg_X_take hts prw_915 (by have := hh; omega)) hX hXs hK hP hS (by decide) rfl rfl rfl rfl hl.1 (Nat.le_of_ble_eq_true rfl) prd_X_test_232 (fun H locs hP hS => ?_)
            refine lv_aload_n hx hb prd_X_test_235 rfl (lv_at hl 4 rfl) ?_
            refine lv_iload hx hb prd_X_test_236 (lv_at hl 0 rfl) ?_
            refine lv_iload_n hx hb prd_X_test_238 rfl (lv_at hl 3 rfl) ?_
            obtain ⟨r265, hr265, hf⟩ := pr_bi hf
            refine pr_callVv (rest := []) (res := r265) ⟨hx, hb, hml, hown, hts⟩ 0 (prc_X_join hD hX 0 (Nat.le_refl _) r264 r263.1 r149.1 r265 hr265) (prg_X_join hts prw_926 (by have := hh; omega)) hX hXs hK hP hS (by decide) rfl rfl rfl rfl hl.1 (Nat.le_of_ble_eq_true rfl) prd_X_test_239 (fun H locs hP hS => ?_)
            refine lv_aload_n hx hb prd_X_test_242 rfl (lv_at hl 4 rfl) ?_
            refine lv_iload hx hb prd_X_test_243 (lv_at hl 0 rfl) ?_
            refine lv_aload_n hx hb prd_X_test_245 rfl (lv_at hl 4 rfl) ?_
            refine lv_iload_n hx hb prd_X_test_246 rfl (lv_at hl 5 rfl) ?_
            refine lv_iconst (v := 1) hx hb prd_X_test_247 (by decide) ?_
            refine lv_iadd hx hb prd_X_test_248 ?_
            obtain ⟨r266, hr266, hf⟩ := pr_bi hf
            refine pr_callVi (rest := [.int r263.1, .ref (ad 0)]) (res := r266) ⟨hx, hb, hml, hown, hts⟩ 0 (prct_X_sum hD hX r265 (x1 + 1) r266 hr266) (prg_X_sum hts prw_935 (by have := hh; omega)) hX hXs hK hP hS (by decide) rfl rfl rfl rfl hl.1 (Nat.le_of_ble_eq_true rfl) prd_X_test_249 (fun H locs hP hS => ?_)
            obtain ⟨r267, hr267, hf⟩ := pr_bi hf
            refine pr_callVv (rest := []) (res := r267) ⟨hx, hb, hml, hown, hts⟩ 0 (prc_X_join hD hX 0 (Nat.le_refl _) r266.2 r263.1 r266.1 r267 hr267) (prg_X_join hts prw_926 (by have := hh; omega)) hX hXs hK hP hS (by decide) rfl rfl rfl rfl hl.1 (Nat.le_of_ble_eq_true rfl) prd_X_test_252 (fun H locs hP hS => ?_)
            refine lv_iload hx hb prd_X_test_255 (lv_at hl 0 rfl) ?_
            exact pr_reti E hP hS (pr_so hf) prd_X_test_257
          · have hf := pr_ie c261 hf
            refine lv_iconst (v := (-1)) hx hb prd_X_test_213 (by decide) ?_
            exact pr_reti E hP hS (pr_so hf) prd_X_test_214
        · have hf := pr_ie c259 hf
          refine lv_iconst (v := 1) hx hb prd_X_test_198 (by decide) ?_
          refine lv_goto (tgt := 203) hx hb prd_X_test_199 (by decide) ?_
          obtain ⟨r268, hr268, hf⟩ := pr_bi hf
          refine pr_callVv (rest := []) (res := r268) ⟨hx, hb, hml, hown, hts⟩ 0 (prc_X_need hD hX 0 (Nat.le_refl _) r149.2 1 r268 hr268) (prg_X_need hts prw_897 (by have := hh; omega)) hX hXs hK hP hS (by decide) rfl rfl rfl rfl hl.1 (Nat.le_of_ble_eq_true rfl) prd_X_test_203 (fun H locs hP hS => ?_)
          refine lv_aload_n hx hb prd_X_test_206 rfl (lv_at hl 3 rfl) ?_
          refine pr_geti (v := (r268.1 0 9)) hx hb hts prs_X hown hK hP 0 9 (by decide) rfl (hts _ prw_887) rfl rfl prd_X_test_207 ?_
          refine lv_if_eq (tgt := 215) hx hb prd_X_test_210 (by decide) (fun c269 => ?_) (fun c269 => ?_)
          · have hf := pr_it c269 hf
            refine lv_aload_n hx hb prd_X_test_215 rfl (lv_at hl 3 rfl) ?_
            refine lv_iload hx hb prd_X_test_216 (lv_at hl 0 rfl) ?_
            refine lv_aload_n hx hb prd_X_test_218 rfl (lv_at hl 3 rfl) ?_
            refine pr_getr (t := 7) hx hb hts prs_X hown hK hP 0 12 (by decide) rfl (hts _ prw_903) rfl prd_X_test_219 ?_
            refine lv_iload_n hx hb prd_X_test_222 rfl (lv_at hl 2 rfl) ?_
            obtain ⟨hi270, hf⟩ := pr_ck_in hf
            refine pr_iald (f := (r268.2.1 7)) hx hb hK hP 7 (by decide) rfl hi270 rfl prd_X_test_223 ?_
            refine lv_iconst (v := 0) hx hb prd_X_test_224 (by decide) ?_
            obtain ⟨r271, hr271, hf⟩ := pr_bi hf
            refine pr_callVi (rest := []) (res := r271) ⟨hx, hb, hml, hown, hts⟩ 0 (prc_X_draft hD hX 0 (Nat.le_refl _) r268 27 ((r268.2.1 7) r149.1.toNatClampNeg) 0 r271 hr271) (prg_X_draft hts prw_914 (by have := hh; omega)) hX hXs hK hP hS (by decide) rfl rfl rfl rfl hl.1 (Nat.le_of_ble_eq_true rfl) prd_X_test_225 (fun H locs hP hS => ?_)
            refine lv_istore (lv' := [(5, .int r271.1), (4, .int 27), (3, .int r150), (2, .int r149.1), (0, .ref (ad 0)), (1, .int x1)]) hx hb prd_X_test_228 hl (by decide) rfl (fun ls hl => ?_)
            refine lv_aload_n hx hb prd_X_test_230 rfl (lv_at hl 4 rfl) ?_
            refine lv_iload_n hx hb prd_X_test_231 rfl (lv_at hl 2 rfl) ?_
            obtain ⟨r272, hr272, hf⟩ := pr_bi hf
            refine pr_callVv (rest := []) (res := r272) ⟨hx, hb, hml, hown, hts⟩ 0 (prc_X_take hD hX 1 (Nat.le_refl _) r271.2 r150 r272 hr272) (prg_X_take hts prw_915 (by have := hh; omega)) hX hXs hK hP hS (by decide) rfl rfl rfl rfl hl.1 (Nat.le_of_ble_eq_true rfl) prd_X_test_232 (fun H locs hP hS => ?_)
            refine lv_aload_n hx hb prd_X_test_235 rfl (lv_at hl 4 rfl) ?_
            refine lv_iload hx hb prd_X_test_236 (lv_at hl 0 rfl) ?_
            refine lv_iload_n hx hb prd_X_test_238 rfl (lv_at hl 3 rfl) ?_
            obtain ⟨r273, hr273, hf⟩ := pr_bi hf
            refine pr_callVv (rest := []) (res := r273) ⟨hx, hb, hml, hown, hts⟩ 0 (prc_X_join hD hX 0 (Nat.le_refl _) r272 r271.1 r149.1 r273 hr273) (prg_X_join hts prw_926 (by have := hh; omega)) hX hXs hK hP hS (by decide) rfl rfl rfl rfl hl.1 (Nat.le_of_ble_eq_true rfl) prd_X_test_239 (fun H locs hP hS => ?_)
            refine lv_aload_n hx hb prd_X_test_242 rfl (lv_at hl 4 rfl) ?_
            refine lv_iload hx hb prd_X_test_243 (lv_at hl 0 rfl) ?_
            refine lv_aload_n hx hb prd_X_test_245 rfl (lv_at hl 4 rfl) ?_
            refine lv_iload_n hx hb prd_X_test_246 rfl (lv_at hl 5 rfl) ?_
            refine lv_iconst (v := 1) hx hb prd_X_test_247 (by decide) ?_
            refine lv_iadd hx hb prd_X_test_248 ?_
            obtain ⟨r274, hr274, hf⟩ := pr_bi hf
            refine pr_callVi (rest := [.int r271.1, .ref (ad 0)]) (res := r274) ⟨hx, hb, hml, hown, hts⟩ 0 (prct_X_sum hD hX r273 (x1 + 1) r274 hr274) (prg_X_sum hts prw_935 (by have := hh; omega)) hX hXs hK hP hS (by decide) rfl rfl rfl rfl hl.1 (Nat.le_of_ble_eq_true rfl) prd_X_test_249 (fun H locs hP hS => ?_)
            obtain ⟨r275, hr275, hf⟩ := pr_bi hf
            refine pr_callVv (rest := []) (res := r275) ⟨hx, hb, hml, hown, hts⟩ 0 (prc_X_join hD hX 0 (Nat.le_refl _) r274.2 r271.1 r274.1 r275 hr275) (prg_X_join hts prw_926 (by have := hh; omega)) hX hXs hK hP hS (by decide) rfl rfl rfl rfl hl.1 (Nat.le_of_ble_eq_true rfl) prd_X_test_252 (fun H locs hP hS => ?_)
            refine lv_iload hx hb prd_X_test_255 (lv_at hl 0 rfl) ?_
            exact pr_reti E hP hS (pr_so hf) prd_X_test_257
          · have hf := pr_ie c269 hf
            refine lv_iconst (v := (-1)) hx hb prd_X_test_213 (by decide) ?_
            exact pr_reti E hP hS (pr_so hf) prd_X_test_214
    · have hf := pr_it c148 hf
      refine lv_aload_n hx hb prd_X_test_73 rfl (lv_at hl 0 rfl) ?_
      refine lv_bipush (v := 91) hx hb prd_X_test_74 (by decide) ?_
      obtain ⟨r276, hr276, hf⟩ := pr_bi hf
      refine pr_callVv (rest := []) (res := r276) ⟨hx, hb, hml, hown, hts⟩ 0 (prc_X_take hD hX 1 (Nat.le_refl _) σ 91 r276 hr276) (prg_X_take hts prw_915 (by have := hh; omega)) hX hXs hK hP hS (by decide) rfl rfl rfl rfl hl.1 (Nat.le_of_ble_eq_true rfl) prd_X_test_76 (fun H locs hP hS => ?_)
      refine lv_aload_n hx hb prd_X_test_79 rfl (lv_at hl 0 rfl) ?_
      refine pr_geti (v := (r276.1 0 9)) hx hb hts prs_X hown hK hP 0 9 (by decide) rfl (hts _ prw_887) rfl rfl prd_X_test_80 ?_
      refine lv_if_eq (tgt := 90) hx hb prd_X_test_83 (by decide) (fun c277 => ?_) (fun c277 => ?_)
      · have hf := pr_it c277 hf
        refine lv_aload_n hx hb prd_X_test_90 rfl (lv_at hl 0 rfl) ?_
        refine lv_iload_n hx hb prd_X_test_91 rfl (lv_at hl 1 rfl) ?_
        refine lv_iconst (v := 1) hx hb prd_X_test_92 (by decide) ?_
        refine lv_iadd hx hb prd_X_test_93 ?_
        obtain ⟨r278, hr278, hf⟩ := pr_bi hf
        refine pr_callVi (rest := []) (res := r278) ⟨hx, hb, hml, hown, hts⟩ 0 (prc_X_cond hD hX hd hb0 (hd + 1) (Nat.le_refl _) Hrc0 Hrc1 r276 (x1 + 1) r278 hr278) (prg_X_cond hts prw_945 (by have := hh; omega)) hX hXs hK hP hS (by decide) rfl rfl rfl rfl hl.1 (Nat.le_of_ble_eq_true rfl) prd_X_test_94 (fun H locs hP hS => ?_)
        refine lv_istore_n (lv' := [(2, .int r278.1), (0, .ref (ad 0)), (1, .int x1)]) hx hb prd_X_test_97 rfl hl (by decide) rfl (fun ls hl => ?_)
        refine lv_aload_n hx hb prd_X_test_98 rfl (lv_at hl 1 rfl) ?_
        refine lv_bipush (v := 93) hx hb prd_X_test_99 (by decide) ?_
        obtain ⟨r279, hr279, hf⟩ := pr_bi hf
        refine pr_callVv (rest := []) (res := r279) ⟨hx, hb, hml, hown, hts⟩ 0 (prc_X_take hD hX 1 (Nat.le_refl _) r278.2 93 r279 hr279) (prg_X_take hts prw_915 (by have := hh; omega)) hX hXs hK hP hS (by decide) rfl rfl rfl rfl hl.1 (Nat.le_of_ble_eq_true rfl) prd_X_test_101 (fun H locs hP hS => ?_)
        refine lv_iload_n hx hb prd_X_test_104 rfl (lv_at hl 0 rfl) ?_
        exact pr_reti E hP hS (pr_so hf) prd_X_test_105
      · have hf := pr_ie c277 hf
        refine lv_iconst (v := (-1)) hx hb prd_X_test_86 (by decide) ?_
        refine lv_goto (tgt := 97) hx hb prd_X_test_87 (by decide) ?_
        refine lv_istore_n (lv' := [(2, .int (-1)), (0, .ref (ad 0)), (1, .int x1)]) hx hb prd_X_test_97 rfl hl (by decide) rfl (fun ls hl => ?_)
        refine lv_aload_n hx hb prd_X_test_98 rfl (lv_at hl 1 rfl) ?_
        refine lv_bipush (v := 93) hx hb prd_X_test_99 (by decide) ?_
        obtain ⟨r280, hr280, hf⟩ := pr_bi hf
        refine pr_callVv (rest := []) (res := r280) ⟨hx, hb, hml, hown, hts⟩ 0 (prc_X_take hD hX 1 (Nat.le_refl _) r276 93 r280 hr280) (prg_X_take hts prw_915 (by have := hh; omega)) hX hXs hK hP hS (by decide) rfl rfl rfl rfl hl.1 (Nat.le_of_ble_eq_true rfl) prd_X_test_101 (fun H locs hP hS => ?_)
        refine lv_iload_n hx hb prd_X_test_104 rfl (lv_at hl 0 rfl) ?_
        exact pr_reti E hP hS (pr_so hf) prd_X_test_105
  · have hf := pr_it c146 hf
    refine lv_aload_n hx hb prd_X_test_9 rfl (lv_at hl 0 rfl) ?_
    refine lv_bipush (v := 26) hx hb prd_X_test_10 (by decide) ?_
    refine lv_aload_n hx hb prd_X_test_12 rfl (lv_at hl 0 rfl) ?_
    refine pr_getr (t := 4) hx hb hts prs_X hown hK hP 0 5 (by decide) rfl (hts _ prw_882) rfl prd_X_test_13 ?_
    refine lv_aload_n hx hb prd_X_test_16 rfl (lv_at hl 0 rfl) ?_
    refine pr_geti (v := (σ.1 0 8)) hx hb hts prs_X hown hK hP 0 8 (by decide) rfl (hts _ prw_888) rfl rfl prd_X_test_17 ?_
    obtain ⟨hi281, hf⟩ := pr_ck_in hf
    refine pr_iald (f := (σ.2.1 4)) hx hb hK hP 4 (by decide) rfl hi281 rfl prd_X_test_20 ?_
    refine lv_iconst (v := 0) hx hb prd_X_test_21 (by decide) ?_
    obtain ⟨r282, hr282, hf⟩ := pr_bi hf
    refine pr_callVi (rest := []) (res := r282) ⟨hx, hb, hml, hown, hts⟩ 0 (prc_X_draft hD hX 0 (Nat.le_refl _) σ 26 ((σ.2.1 4) (σ.1 0 8).toNatClampNeg) 0 r282 hr282) (prg_X_draft hts prw_914 (by have := hh; omega)) hX hXs hK hP hS (by decide) rfl rfl rfl rfl hl.1 (Nat.le_of_ble_eq_true rfl) prd_X_test_22 (fun H locs hP hS => ?_)
    refine lv_istore_n (lv' := [(2, .int r282.1), (0, .ref (ad 0)), (1, .int x1)]) hx hb prd_X_test_25 rfl hl (by decide) rfl (fun ls hl => ?_)
    refine lv_aload_n hx hb prd_X_test_26 rfl (lv_at hl 1 rfl) ?_
    refine lv_bipush (v := 33) hx hb prd_X_test_27 (by decide) ?_
    obtain ⟨r283, hr283, hf⟩ := pr_bi hf
    refine pr_callVv (rest := []) (res := r283) ⟨hx, hb, hml, hown, hts⟩ 0 (prc_X_take hD hX 1 (Nat.le_refl _) r282.2 33 r283 hr283) (prg_X_take hts prw_915 (by have := hh; omega)) hX hXs hK hP hS (by decide) rfl rfl rfl rfl hl.1 (Nat.le_of_ble_eq_true rfl) prd_X_test_29 (fun H locs hP hS => ?_)
    refine lv_aload_n hx hb prd_X_test_32 rfl (lv_at hl 1 rfl) ?_
    refine lv_iload_n hx hb prd_X_test_33 rfl (lv_at hl 2 rfl) ?_
    refine lv_iconst (v := 1) hx hb prd_X_test_34 (by decide) ?_
    refine lv_iadd hx hb prd_X_test_35 ?_
    obtain ⟨r284, hr284, hf⟩ := pr_bi hf
    refine pr_callVv (rest := []) (res := r284) ⟨hx, hb, hml, hown, hts⟩ 0 (prc_X_deep hD hX 1 (Nat.le_refl _) r283 (x1 + 1) r284 hr284) (prg_X_deep hts prw_930 (by have := hh; omega)) hX hXs hK hP hS (by decide) rfl rfl rfl rfl hl.1 (Nat.le_of_ble_eq_true rfl) prd_X_test_36 (fun H locs hP hS => ?_)
    refine lv_aload_n hx hb prd_X_test_39 rfl (lv_at hl 1 rfl) ?_
    refine lv_iload_n hx hb prd_X_test_40 rfl (lv_at hl 0 rfl) ?_
    refine lv_aload_n hx hb prd_X_test_41 rfl (lv_at hl 1 rfl) ?_
    refine pr_geti (v := (r284.1 0 9)) hx hb hts prs_X hown hK hP 0 9 (by decide) rfl (hts _ prw_887) rfl rfl prd_X_test_42 ?_
    refine lv_if_eq (tgt := 52) hx hb prd_X_test_45 (by decide) (fun c285 => ?_) (fun c285 => ?_)
    · have hf := pr_it c285 hf
      refine lv_aload_n hx hb prd_X_test_52 rfl (lv_at hl 1 rfl) ?_
      refine lv_iload_n hx hb prd_X_test_53 rfl (lv_at hl 2 rfl) ?_
      refine lv_iconst (v := 1) hx hb prd_X_test_54 (by decide) ?_
      refine lv_iadd hx hb prd_X_test_55 ?_
      obtain ⟨r286, hr286, hf⟩ := pr_bi hf
      refine pr_callVi (rest := [.int r282.1, .ref (ad 0)]) (res := r286) ⟨hx, hb, hml, hown, hts⟩ 0 (Hrc0 r284 (x1 + 1) r286 hr286) (prg_X_test hts prw_946 (by have := hh; omega)) hX hXs hK hP hS (by decide) rfl rfl rfl rfl hl.1 (Nat.le_of_ble_eq_true rfl) prd_X_test_56 (fun H locs hP hS => ?_)
      obtain ⟨r287, hr287, hf⟩ := pr_bi hf
      refine pr_callVv (rest := []) (res := r287) ⟨hx, hb, hml, hown, hts⟩ 0 (prc_X_join hD hX 0 (Nat.le_refl _) r286.2 r282.1 r286.1 r287 hr287) (prg_X_join hts prw_926 (by have := hh; omega)) hX hXs hK hP hS (by decide) rfl rfl rfl rfl hl.1 (Nat.le_of_ble_eq_true rfl) prd_X_test_59 (fun H locs hP hS => ?_)
      refine lv_iload_n hx hb prd_X_test_62 rfl (lv_at hl 0 rfl) ?_
      exact pr_reti E hP hS (pr_so hf) prd_X_test_63
    · have hf := pr_ie c285 hf
      refine lv_iconst (v := (-1)) hx hb prd_X_test_48 (by decide) ?_
      refine lv_goto (tgt := 59) hx hb prd_X_test_49 (by decide) ?_
      obtain ⟨r288, hr288, hf⟩ := pr_bi hf
      refine pr_callVv (rest := []) (res := r288) ⟨hx, hb, hml, hown, hts⟩ 0 (prc_X_join hD hX 0 (Nat.le_refl _) r284 r282.1 (-1) r288 hr288) (prg_X_join hts prw_926 (by have := hh; omega)) hX hXs hK hP hS (by decide) rfl rfl rfl rfl hl.1 (Nat.le_of_ble_eq_true rfl) prd_X_test_59 (fun H locs hP hS => ?_)
      refine lv_iload_n hx hb prd_X_test_62 rfl (lv_at hl 0 rfl) ?_
      exact pr_reti E hP hS (pr_so hf) prd_X_test_63
-- X_tests
set_option maxHeartbeats 4000000 in
set_option maxRecDepth 100000 in
theorem prk_X_tests_73 {l : Launch} {D : va_G} {ad : Nat → Nat} {dA : Nat → ClassId} {A : Nat → Prop} {v : Nat → Nat} {r : Value} {p : Program} {e : Env} {s : State} {m : MethodId} {args : Array Value} {below : List Frame} {meth : Method} {c : Code} (hd : Nat) (hb0 : 216 ≤ hd) {h : Nat} (hh : hd + 1 ≤ h) (E : pr_cx prn_X prb_X_tests 6 (some .int) D pr_cl prx_L ad dA A (prY ad v r A) p s m args meth c) {rc : Nat → pr_St → Int32 → Int32 → Option (Int32 × pr_St)} (Hrc0 : ∀ (σ : pr_St) (x1 : Int32) (res : (Int32 × pr_St)), rc 0 σ x1 0 = some res → Met l pry_X_test (Cond.code pry_X_test prb_X_test 6 (some .int) :: pr_U) (pr_rm hd) (pr_Pc (prY ad v r A) D pr_cl prx_L ad dA [.ref (ad 0), .int x1] σ) (pr_Qi D pr_cl prx_L ad dA A res) 0 0 A) (Hrc1 : ∀ (σ : pr_St) (x1 x2 : Int32) (res : (Int32 × pr_St)), rc 1 σ x1 x2 = some res → Met l pry_X_tests (Cond.code pry_X_tests prb_X_tests 6 (some .int) :: pr_U) (pr_rm hd) (pr_Pc (prY ad v r A) D pr_cl prx_L ad dA [.ref (ad 0), .int x1, .int x2] σ) (pr_Qi D pr_cl prx_L ad dA A res) 0 0 A) : ∀ n : Nat, ∀ (σ : pr_St) (x1 : Int32) (x2 : Int32) (x3 : Int32) (x5 : Int32) (res : (Int32 × pr_St)), some res = prf_X_tests_73 rc n σ x1 x2 x3 x5 → ∀ (H : Heap) (locs : List Loc) (ls : Array Slot), va_P D pr_cl (pr_w prx_L ad dA σ) H → va_S A s.heap H locs → lv_has ls 6 [(0, .ref (ad 0)), (1, .int x1), (2, .int x2), (3, .int x3), (5, .int x5)] → W p l e (pr_rm h) s m args below meth c H locs 0 0 (MQ below (pr_Qi D pr_cl prx_L ad dA A res) args s 0 0 A) (F0 m 73 ls []) := by
  obtain ⟨hx, hb, hml, hown, hts, hr, hlocks, hK, hD, hX, hXs⟩ := id E
  intro n
  induction n with
  | zero =>
    intro σ x1 x2 x3 x5 res hf
    rw [prf_X_tests_73] at hf
    cases hf
  | succ n ih =>
    intro σ x1 x2 x3 x5 res hf H locs ls hP hS hl
    rw [prf_X_tests_73] at hf
    refine lv_aload_n hx hb prd_X_tests_73 rfl (lv_at hl 0 rfl) ?_
    obtain ⟨r38, hr38, hf⟩ := pr_bi hf
    refine pr_callVr (rest := []) (r := r38) ⟨hx, hb, hml, hown, hts⟩ 0 (prc_X_look hD hX 0 (Nat.le_refl _) σ  r38 hr38) (prg_X_look hts prw_896 (by have := hh; omega)) hX hXs hK hP hS (by decide) rfl rfl rfl rfl hl.1 (Nat.le_of_ble_eq_true rfl) prd_X_tests_74 (fun H locs hP hS => ?_)
    refine lv_iload_n hx hb prd_X_tests_77 rfl (lv_at hl 3 rfl) ?_
    refine lv_icmp_ne (tgt := 127) hx hb prd_X_tests_78 (by decide) (fun c39 => ?_) (fun c39 => ?_)
    · have hf := pr_ie c39 hf
      refine lv_iload hx hb prd_X_tests_127 (lv_at hl 4 rfl) ?_
      exact pr_reti E hP hS (pr_so hf) prd_X_tests_129
    · have hf := pr_it c39 hf
      refine lv_aload_n hx hb prd_X_tests_81 rfl (lv_at hl 0 rfl) ?_
      refine lv_iload_n hx hb prd_X_tests_82 rfl (lv_at hl 3 rfl) ?_
      obtain ⟨r40, hr40, hf⟩ := pr_bi hf
      refine pr_callVv (rest := []) (res := r40) ⟨hx, hb, hml, hown, hts⟩ 0 (prc_X_take hD hX 1 (Nat.le_refl _) σ x3 r40 hr40) (prg_X_take hts prw_915 (by have := hh; omega)) hX hXs hK hP hS (by decide) rfl rfl rfl rfl hl.1 (Nat.le_of_ble_eq_true rfl) prd_X_tests_83 (fun H locs hP hS => ?_)
      refine lv_aload_n hx hb prd_X_tests_86 rfl (lv_at hl 0 rfl) ?_
      refine lv_iload hx hb prd_X_tests_87 (lv_at hl 4 rfl) ?_
      refine lv_aload_n hx hb prd_X_tests_89 rfl (lv_at hl 0 rfl) ?_
      refine pr_geti (v := (r40.1 0 9)) hx hb hts prs_X hown hK hP 0 9 (by decide) rfl (hts _ prw_887) rfl rfl prd_X_tests_90 ?_
      refine lv_if_eq (tgt := 100) hx hb prd_X_tests_93 (by decide) (fun c41 => ?_) (fun c41 => ?_)
      · have hf := pr_it c41 hf
        refine lv_iload_n hx hb prd_X_tests_100 rfl (lv_at hl 2 rfl) ?_
        refine lv_bipush (v := 24) hx hb prd_X_tests_101 (by decide) ?_
        refine lv_icmp_ne (tgt := 116) hx hb prd_X_tests_103 (by decide) (fun c42 => ?_) (fun c42 => ?_)
        · have hf := pr_ie c42 hf
          refine lv_aload_n hx hb prd_X_tests_116 rfl (lv_at hl 0 rfl) ?_
          refine lv_iload_n hx hb prd_X_tests_117 rfl (lv_at hl 1 rfl) ?_
          obtain ⟨r43, hr43, hf⟩ := pr_bi hf
          refine pr_callVi (rest := [.int x5, .ref (ad 0)]) (res := r43) ⟨hx, hb, hml, hown, hts⟩ 0 (Hrc0 r40 x1 r43 hr43) (prg_X_test hts prw_946 (by have := hh; omega)) hX hXs hK hP hS (by decide) rfl rfl rfl rfl hl.1 (Nat.le_of_ble_eq_true rfl) prd_X_tests_118 (fun H locs hP hS => ?_)
          obtain ⟨r44, hr44, hf⟩ := pr_bi hf
          refine pr_callVv (rest := []) (res := r44) ⟨hx, hb, hml, hown, hts⟩ 0 (prc_X_join hD hX 0 (Nat.le_refl _) r43.2 x5 r43.1 r44 hr44) (prg_X_join hts prw_926 (by have := hh; omega)) hX hXs hK hP hS (by decide) rfl rfl rfl rfl hl.1 (Nat.le_of_ble_eq_true rfl) prd_X_tests_121 (fun H locs hP hS => ?_)
          refine lv_goto (tgt := 73) hx hb prd_X_tests_124 (by decide) ?_
          exact ih r44 x1 x2 x3 x5 _ hf _ _ _ hP hS (lv_sub hl [0, 1, 2, 3, 4] rfl)
        · have hf := pr_it c42 hf
          refine lv_aload_n hx hb prd_X_tests_106 rfl (lv_at hl 0 rfl) ?_
          refine lv_iload_n hx hb prd_X_tests_107 rfl (lv_at hl 1 rfl) ?_
          refine lv_bipush (v := 25) hx hb prd_X_tests_108 (by decide) ?_
          obtain ⟨r45, hr45, hf⟩ := pr_bi hf
          refine pr_callVi (rest := [.int x5, .ref (ad 0)]) (res := r45) ⟨hx, hb, hml, hown, hts⟩ 0 (Hrc1 r40 x1 25 r45 hr45) (prg_X_tests hts prw_941 (by have := hh; omega)) hX hXs hK hP hS (by decide) rfl rfl rfl rfl hl.1 (Nat.le_of_ble_eq_true rfl) prd_X_tests_110 (fun H locs hP hS => ?_)
          refine lv_goto (tgt := 121) hx hb prd_X_tests_113 (by decide) ?_
          obtain ⟨r46, hr46, hf⟩ := pr_bi hf
          refine pr_callVv (rest := []) (res := r46) ⟨hx, hb, hml, hown, hts⟩ 0 (prc_X_join hD hX 0 (Nat.le_refl _) r45.2 x5 r45.1 r46 hr46) (prg_X_join hts prw_926 (by have := hh; omega)) hX hXs hK hP hS (by decide) rfl rfl rfl rfl hl.1 (Nat.le_of_ble_eq_true rfl) prd_X_tests_121 (fun H locs hP hS => ?_)
          refine lv_goto (tgt := 73) hx hb prd_X_tests_124 (by decide) ?_
          exact ih r46 x1 x2 x3 x5 _ hf _ _ _ hP hS (lv_sub hl [0, 1, 2, 3, 4] rfl)
      · have hf := pr_ie c41 hf
        refine lv_iconst (v := (-1)) hx hb prd_X_tests_96 (by decide) ?_
        refine lv_goto (tgt := 121) hx hb prd_X_tests_97 (by decide) ?_
        obtain ⟨r47, hr47, hf⟩ := pr_bi hf
        refine pr_callVv (rest := []) (res := r47) ⟨hx, hb, hml, hown, hts⟩ 0 (prc_X_join hD hX 0 (Nat.le_refl _) r40 x5 (-1) r47 hr47) (prg_X_join hts prw_926 (by have := hh; omega)) hX hXs hK hP hS (by decide) rfl rfl rfl rfl hl.1 (Nat.le_of_ble_eq_true rfl) prd_X_tests_121 (fun H locs hP hS => ?_)
        refine lv_goto (tgt := 73) hx hb prd_X_tests_124 (by decide) ?_
        exact ih r47 x1 x2 x3 x5 _ hf _ _ _ hP hS (lv_sub hl [0, 1, 2, 3, 4] rfl)
set_option maxHeartbeats 4000000 in
set_option maxRecDepth 100000 in
theorem prc_X_tests {l : Launch} {D : va_G} {ad : Nat → Nat} {dA : Nat → ClassId} {A : Nat → Prop} {v : Nat → Nat} {r : Value} (hD : ∀ σ : pr_St, va_D A (pr_w prx_L ad dA σ)) (hX : pr_Xok A (prY ad v r A)) (hd : Nat) (hb0 : 216 ≤ hd) (h : Nat) (hh : hd + 1 ≤ h) {rc : Nat → pr_St → Int32 → Int32 → Option (Int32 × pr_St)} (Hrc0 : ∀ (σ : pr_St) (x1 : Int32) (res : (Int32 × pr_St)), rc 0 σ x1 0 = some res → Met l pry_X_test (Cond.code pry_X_test prb_X_test 6 (some .int) :: pr_U) (pr_rm hd) (pr_Pc (prY ad v r A) D pr_cl prx_L ad dA [.ref (ad 0), .int x1] σ) (pr_Qi D pr_cl prx_L ad dA A res) 0 0 A) (Hrc1 : ∀ (σ : pr_St) (x1 x2 : Int32) (res : (Int32 × pr_St)), rc 1 σ x1 x2 = some res → Met l pry_X_tests (Cond.code pry_X_tests prb_X_tests 6 (some .int) :: pr_U) (pr_rm hd) (pr_Pc (prY ad v r A) D pr_cl prx_L ad dA [.ref (ad 0), .int x1, .int x2] σ) (pr_Qi D pr_cl prx_L ad dA A res) 0 0 A) (σ : pr_St) (x1 : Int32) (x2 : Int32) (res : (Int32 × pr_St)) (hf : prf_X_tests rc σ x1 x2 = some res) : Met l pry_X_tests (Cond.code pry_X_tests prb_X_tests 6 (some .int) :: pr_U) (pr_rm h) (pr_Pc (prY ad v r A) D pr_cl prx_L ad dA [.ref (ad 0), .int x1, .int x2] σ) (pr_Qi D pr_cl prx_L ad dA A res) 0 0 A := by
  refine pr_entry (cc := prb_X_tests) (maxL := 6) (ret := (some .int)) (by decide) (Nat.le_of_ble_eq_true rfl) hD hX ?_
  intro p e s m args below meth c E H locs hP hS ls hl
  have hl : lv_has ls 6 [(0, .ref (ad 0)), (1, .int x1), (2, .int x2)] := hl
  have hf := hf.symm
  unfold prf_X_tests at hf
  obtain ⟨hx, hb, hml, hown, hts, hr, hlocks, hK, hD, hX, hXs⟩ := id E
  refine lv_iload_n hx hb prd_X_tests_0 rfl (lv_at hl 2 rfl) ?_
  refine lv_bipush (v := 24) hx hb prd_X_tests_1 (by decide) ?_
  refine lv_icmp_ne (tgt := 12) hx hb prd_X_tests_3 (by decide) (fun c48 => ?_) (fun c48 => ?_)
  · have hf := pr_ie c48 hf
    refine lv_sipush (v := 260) hx hb prd_X_tests_12 (by decide) ?_
    refine lv_istore_n (lv' := [(3, .int 260), (0, .ref (ad 0)), (1, .int x1), (2, .int x2)]) hx hb prd_X_tests_15 rfl hl (by decide) rfl (fun ls hl => ?_)
    refine lv_iload_n hx hb prd_X_tests_16 rfl (lv_at hl 3 rfl) ?_
    refine lv_bipush (v := 24) hx hb prd_X_tests_17 (by decide) ?_
    refine lv_icmp_ne (tgt := 32) hx hb prd_X_tests_19 (by decide) (fun c49 => ?_) (fun c49 => ?_)
    · have hf := pr_ie c49 hf
      refine lv_aload_n hx hb prd_X_tests_32 rfl (lv_at hl 1 rfl) ?_
      refine lv_iload_n hx hb prd_X_tests_33 rfl (lv_at hl 2 rfl) ?_
      obtain ⟨r50, hr50, hf⟩ := pr_bi hf
      refine pr_callVi (rest := []) (res := r50) ⟨hx, hb, hml, hown, hts⟩ 0 (Hrc0 σ x1 r50 hr50) (prg_X_test hts prw_946 (by have := hh; omega)) hX hXs hK hP hS (by decide) rfl rfl rfl rfl hl.1 (Nat.le_of_ble_eq_true rfl) prd_X_tests_34 (fun H locs hP hS => ?_)
      refine lv_istore (lv' := [(4, .int r50.1), (3, .int 260), (0, .ref (ad 0)), (1, .int x1), (2, .int x2)]) hx hb prd_X_tests_37 hl (by decide) rfl (fun ls hl => ?_)
      refine lv_aload_n hx hb prd_X_tests_39 rfl (lv_at hl 2 rfl) ?_
      obtain ⟨r51, hr51, hf⟩ := pr_bi hf
      refine pr_callVr (rest := []) (r := r51) ⟨hx, hb, hml, hown, hts⟩ 0 (prc_X_look hD hX 0 (Nat.le_refl _) r50.2  r51 hr51) (prg_X_look hts prw_896 (by have := hh; omega)) hX hXs hK hP hS (by decide) rfl rfl rfl rfl hl.1 (Nat.le_of_ble_eq_true rfl) prd_X_tests_40 (fun H locs hP hS => ?_)
      refine lv_iload_n hx hb prd_X_tests_43 rfl (lv_at hl 1 rfl) ?_
      refine lv_icmp_eq (tgt := 50) hx hb prd_X_tests_44 (by decide) (fun c52 => ?_) (fun c52 => ?_)
      · have hf := pr_it c52 hf
        refine lv_aload_n hx hb prd_X_tests_50 rfl (lv_at hl 2 rfl) ?_
        refine lv_iload_n hx hb prd_X_tests_51 rfl (lv_at hl 4 rfl) ?_
        refine lv_aload_n hx hb prd_X_tests_52 rfl (lv_at hl 2 rfl) ?_
        refine pr_getr (t := 7) hx hb hts prs_X hown hK hP 0 12 (by decide) rfl (hts _ prw_903) rfl prd_X_tests_53 ?_
        refine lv_iload hx hb prd_X_tests_56 (lv_at hl 0 rfl) ?_
        obtain ⟨hi53, hf⟩ := pr_ck_in hf
        refine pr_iald (f := (r50.2.2.1 7)) hx hb hK hP 7 (by decide) rfl hi53 rfl prd_X_tests_58 ?_
        refine lv_iconst (v := 0) hx hb prd_X_tests_59 (by decide) ?_
        obtain ⟨r54, hr54, hf⟩ := pr_bi hf
        refine pr_callVi (rest := []) (res := r54) ⟨hx, hb, hml, hown, hts⟩ 0 (prc_X_draft hD hX 0 (Nat.le_refl _) r50.2 x2 ((r50.2.2.1 7) r50.1.toNatClampNeg) 0 r54 hr54) (prg_X_draft hts prw_914 (by have := hh; omega)) hX hXs hK hP hS (by decide) rfl rfl rfl rfl hl.1 (Nat.le_of_ble_eq_true rfl) prd_X_tests_60 (fun H locs hP hS => ?_)
        refine lv_istore (lv' := [(5, .int r54.1), (4, .int r50.1), (3, .int 260), (0, .ref (ad 0)), (1, .int x1), (2, .int x2)]) hx hb prd_X_tests_63 hl (by decide) rfl (fun ls hl => ?_)
        refine lv_aload_n hx hb prd_X_tests_65 rfl (lv_at hl 3 rfl) ?_
        refine lv_iload hx hb prd_X_tests_66 (lv_at hl 0 rfl) ?_
        refine lv_iload hx hb prd_X_tests_68 (lv_at hl 1 rfl) ?_
        obtain ⟨r55, hr55, hf⟩ := pr_bi hf
        refine pr_callVv (rest := []) (res := r55) ⟨hx, hb, hml, hown, hts⟩ 0 (prc_X_join hD hX 0 (Nat.le_refl _) r54.2 r54.1 r50.1 r55 hr55) (prg_X_join hts prw_926 (by have := hh; omega)) hX hXs hK hP hS (by decide) rfl rfl rfl rfl hl.1 (Nat.le_of_ble_eq_true rfl) prd_X_tests_70 (fun H locs hP hS => ?_)
        exact prk_X_tests_73 hd hb0 hh E Hrc0 Hrc1 pr_FU r55 x1 x2 260 r54.1 _ hf _ _ _ hP hS (lv_sub hl [3, 4, 5, 2, 0] rfl)
      · have hf := pr_ie c52 hf
        refine lv_iload hx hb prd_X_tests_47 (lv_at hl 0 rfl) ?_
        exact pr_reti E hP hS (pr_so hf) prd_X_tests_49
    · have hf := pr_it c49 hf
      refine lv_aload_n hx hb prd_X_tests_22 rfl (lv_at hl 1 rfl) ?_
      refine lv_iload_n hx hb prd_X_tests_23 rfl (lv_at hl 2 rfl) ?_
      refine lv_bipush (v := 25) hx hb prd_X_tests_24 (by decide) ?_
      obtain ⟨r56, hr56, hf⟩ := pr_bi hf
      refine pr_callVi (rest := []) (res := r56) ⟨hx, hb, hml, hown, hts⟩ 0 (Hrc1 σ x1 25 r56 hr56) (prg_X_tests hts prw_941 (by have := hh; omega)) hX hXs hK hP hS (by decide) rfl rfl rfl rfl hl.1 (Nat.le_of_ble_eq_true rfl) prd_X_tests_26 (fun H locs hP hS => ?_)
      refine lv_goto (tgt := 37) hx hb prd_X_tests_29 (by decide) ?_
      refine lv_istore (lv' := [(4, .int r56.1), (3, .int 260), (0, .ref (ad 0)), (1, .int x1), (2, .int x2)]) hx hb prd_X_tests_37 hl (by decide) rfl (fun ls hl => ?_)
      refine lv_aload_n hx hb prd_X_tests_39 rfl (lv_at hl 2 rfl) ?_
      obtain ⟨r57, hr57, hf⟩ := pr_bi hf
      refine pr_callVr (rest := []) (r := r57) ⟨hx, hb, hml, hown, hts⟩ 0 (prc_X_look hD hX 0 (Nat.le_refl _) r56.2  r57 hr57) (prg_X_look hts prw_896 (by have := hh; omega)) hX hXs hK hP hS (by decide) rfl rfl rfl rfl hl.1 (Nat.le_of_ble_eq_true rfl) prd_X_tests_40 (fun H locs hP hS => ?_)
      refine lv_iload_n hx hb prd_X_tests_43 rfl (lv_at hl 1 rfl) ?_
      refine lv_icmp_eq (tgt := 50) hx hb prd_X_tests_44 (by decide) (fun c58 => ?_) (fun c58 => ?_)
      · have hf := pr_it c58 hf
        refine lv_aload_n hx hb prd_X_tests_50 rfl (lv_at hl 2 rfl) ?_
        refine lv_iload_n hx hb prd_X_tests_51 rfl (lv_at hl 4 rfl) ?_
        refine lv_aload_n hx hb prd_X_tests_52 rfl (lv_at hl 2 rfl) ?_
        refine pr_getr (t := 7) hx hb hts prs_X hown hK hP 0 12 (by decide) rfl (hts _ prw_903) rfl prd_X_tests_53 ?_
        refine lv_iload hx hb prd_X_tests_56 (lv_at hl 0 rfl) ?_
        obtain ⟨hi59, hf⟩ := pr_ck_in hf
        refine pr_iald (f := (r56.2.2.1 7)) hx hb hK hP 7 (by decide) rfl hi59 rfl prd_X_tests_58 ?_
        refine lv_iconst (v := 0) hx hb prd_X_tests_59 (by decide) ?_
        obtain ⟨r60, hr60, hf⟩ := pr_bi hf
        refine pr_callVi (rest := []) (res := r60) ⟨hx, hb, hml, hown, hts⟩ 0 (prc_X_draft hD hX 0 (Nat.le_refl _) r56.2 x2 ((r56.2.2.1 7) r56.1.toNatClampNeg) 0 r60 hr60) (prg_X_draft hts prw_914 (by have := hh; omega)) hX hXs hK hP hS (by decide) rfl rfl rfl rfl hl.1 (Nat.le_of_ble_eq_true rfl) prd_X_tests_60 (fun H locs hP hS => ?_)
        refine lv_istore (lv' := [(5, .int r60.1), (4, .int r56.1), (3, .int 260), (0, .ref (ad 0)), (1, .int x1), (2, .int x2)]) hx hb prd_X_tests_63 hl (by decide) rfl (fun ls hl => ?_)
        refine lv_aload_n hx hb prd_X_tests_65 rfl (lv_at hl 3 rfl) ?_
        refine lv_iload hx hb prd_X_tests_66 (lv_at hl 0 rfl) ?_
        refine lv_iload hx hb prd_X_tests_68 (lv_at hl 1 rfl) ?_
        obtain ⟨r61, hr61, hf⟩ := pr_bi hf
        refine pr_callVv (rest := []) (res := r61) ⟨hx, hb, hml, hown, hts⟩ 0 (prc_X_join hD hX 0 (Nat.le_refl _) r60.2 r60.1 r56.1 r61 hr61) (prg_X_join hts prw_926 (by have := hh; omega)) hX hXs hK hP hS (by decide) rfl rfl rfl rfl hl.1 (Nat.le_of_ble_eq_true rfl) prd_X_tests_70 (fun H locs hP hS => ?_)
        exact prk_X_tests_73 hd hb0 hh E Hrc0 Hrc1 pr_FU r61 x1 x2 260 r60.1 _ hf _ _ _ hP hS (lv_sub hl [3, 4, 5, 2, 0] rfl)
      · have hf := pr_ie c58 hf
        refine lv_iload hx hb prd_X_tests_47 (lv_at hl 0 rfl) ?_
        exact pr_reti E hP hS (pr_so hf) prd_X_tests_49
  · have hf := pr_it c48 hf
    refine lv_sipush (v := 261) hx hb prd_X_tests_6 (by decide) ?_
    refine lv_goto (tgt := 15) hx hb prd_X_tests_9 (by decide) ?_
    refine lv_istore_n (lv' := [(3, .int 261), (0, .ref (ad 0)), (1, .int x1), (2, .int x2)]) hx hb prd_X_tests_15 rfl hl (by decide) rfl (fun ls hl => ?_)
    refine lv_iload_n hx hb prd_X_tests_16 rfl (lv_at hl 3 rfl) ?_
    refine lv_bipush (v := 24) hx hb prd_X_tests_17 (by decide) ?_
    refine lv_icmp_ne (tgt := 32) hx hb prd_X_tests_19 (by decide) (fun c62 => ?_) (fun c62 => ?_)
    · have hf := pr_ie c62 hf
      refine lv_aload_n hx hb prd_X_tests_32 rfl (lv_at hl 1 rfl) ?_
      refine lv_iload_n hx hb prd_X_tests_33 rfl (lv_at hl 2 rfl) ?_
      obtain ⟨r63, hr63, hf⟩ := pr_bi hf
      refine pr_callVi (rest := []) (res := r63) ⟨hx, hb, hml, hown, hts⟩ 0 (Hrc0 σ x1 r63 hr63) (prg_X_test hts prw_946 (by have := hh; omega)) hX hXs hK hP hS (by decide) rfl rfl rfl rfl hl.1 (Nat.le_of_ble_eq_true rfl) prd_X_tests_34 (fun H locs hP hS => ?_)
      refine lv_istore (lv' := [(4, .int r63.1), (3, .int 261), (0, .ref (ad 0)), (1, .int x1), (2, .int x2)]) hx hb prd_X_tests_37 hl (by decide) rfl (fun ls hl => ?_)
      refine lv_aload_n hx hb prd_X_tests_39 rfl (lv_at hl 2 rfl) ?_
      obtain ⟨r64, hr64, hf⟩ := pr_bi hf
      refine pr_callVr (rest := []) (r := r64) ⟨hx, hb, hml, hown, hts⟩ 0 (prc_X_look hD hX 0 (Nat.le_refl _) r63.2  r64 hr64) (prg_X_look hts prw_896 (by have := hh; omega)) hX hXs hK hP hS (by decide) rfl rfl rfl rfl hl.1 (Nat.le_of_ble_eq_true rfl) prd_X_tests_40 (fun H locs hP hS => ?_)
      refine lv_iload_n hx hb prd_X_tests_43 rfl (lv_at hl 1 rfl) ?_
      refine lv_icmp_eq (tgt := 50) hx hb prd_X_tests_44 (by decide) (fun c65 => ?_) (fun c65 => ?_)
      · have hf := pr_it c65 hf
        refine lv_aload_n hx hb prd_X_tests_50 rfl (lv_at hl 2 rfl) ?_
        refine lv_iload_n hx hb prd_X_tests_51 rfl (lv_at hl 4 rfl) ?_
        refine lv_aload_n hx hb prd_X_tests_52 rfl (lv_at hl 2 rfl) ?_
        refine pr_getr (t := 7) hx hb hts prs_X hown hK hP 0 12 (by decide) rfl (hts _ prw_903) rfl prd_X_tests_53 ?_
        refine lv_iload hx hb prd_X_tests_56 (lv_at hl 0 rfl) ?_
        obtain ⟨hi66, hf⟩ := pr_ck_in hf
        refine pr_iald (f := (r63.2.2.1 7)) hx hb hK hP 7 (by decide) rfl hi66 rfl prd_X_tests_58 ?_
        refine lv_iconst (v := 0) hx hb prd_X_tests_59 (by decide) ?_
        obtain ⟨r67, hr67, hf⟩ := pr_bi hf
        refine pr_callVi (rest := []) (res := r67) ⟨hx, hb, hml, hown, hts⟩ 0 (prc_X_draft hD hX 0 (Nat.le_refl _) r63.2 x2 ((r63.2.2.1 7) r63.1.toNatClampNeg) 0 r67 hr67) (prg_X_draft hts prw_914 (by have := hh; omega)) hX hXs hK hP hS (by decide) rfl rfl rfl rfl hl.1 (Nat.le_of_ble_eq_true rfl) prd_X_tests_60 (fun H locs hP hS => ?_)
        refine lv_istore (lv' := [(5, .int r67.1), (4, .int r63.1), (3, .int 261), (0, .ref (ad 0)), (1, .int x1), (2, .int x2)]) hx hb prd_X_tests_63 hl (by decide) rfl (fun ls hl => ?_)
        refine lv_aload_n hx hb prd_X_tests_65 rfl (lv_at hl 3 rfl) ?_
        refine lv_iload hx hb prd_X_tests_66 (lv_at hl 0 rfl) ?_
        refine lv_iload hx hb prd_X_tests_68 (lv_at hl 1 rfl) ?_
        obtain ⟨r68, hr68, hf⟩ := pr_bi hf
        refine pr_callVv (rest := []) (res := r68) ⟨hx, hb, hml, hown, hts⟩ 0 (prc_X_join hD hX 0 (Nat.le_refl _) r67.2 r67.1 r63.1 r68 hr68) (prg_X_join hts prw_926 (by have := hh; omega)) hX hXs hK hP hS (by decide) rfl rfl rfl rfl hl.1 (Nat.le_of_ble_eq_true rfl) prd_X_tests_70 (fun H locs hP hS => ?_)
        exact prk_X_tests_73 hd hb0 hh E Hrc0 Hrc1 pr_FU r68 x1 x2 261 r67.1 _ hf _ _ _ hP hS (lv_sub hl [3, 4, 5, 2, 0] rfl)
      · have hf := pr_ie c65 hf
        refine lv_iload hx hb prd_X_tests_47 (lv_at hl 0 rfl) ?_
        exact pr_reti E hP hS (pr_so hf) prd_X_tests_49
    · have hf := pr_it c62 hf
      refine lv_aload_n hx hb prd_X_tests_22 rfl (lv_at hl 1 rfl) ?_
      refine lv_iload_n hx hb prd_X_tests_23 rfl (lv_at hl 2 rfl) ?_
      refine lv_bipush (v := 25) hx hb prd_X_tests_24 (by decide) ?_
      obtain ⟨r69, hr69, hf⟩ := pr_bi hf
      refine pr_callVi (rest := []) (res := r69) ⟨hx, hb, hml, hown, hts⟩ 0 (Hrc1 σ x1 25 r69 hr69) (prg_X_tests hts prw_941 (by have := hh; omega)) hX hXs hK hP hS (by decide) rfl rfl rfl rfl hl.1 (Nat.le_of_ble_eq_true rfl) prd_X_tests_26 (fun H locs hP hS => ?_)
      refine lv_goto (tgt := 37) hx hb prd_X_tests_29 (by decide) ?_
      refine lv_istore (lv' := [(4, .int r69.1), (3, .int 261), (0, .ref (ad 0)), (1, .int x1), (2, .int x2)]) hx hb prd_X_tests_37 hl (by decide) rfl (fun ls hl => ?_)
      refine lv_aload_n hx hb prd_X_tests_39 rfl (lv_at hl 2 rfl) ?_
      obtain ⟨r70, hr70, hf⟩ := pr_bi hf
      refine pr_callVr (rest := []) (r := r70) ⟨hx, hb, hml, hown, hts⟩ 0 (prc_X_look hD hX 0 (Nat.le_refl _) r69.2  r70 hr70) (prg_X_look hts prw_896 (by have := hh; omega)) hX hXs hK hP hS (by decide) rfl rfl rfl rfl hl.1 (Nat.le_of_ble_eq_true rfl) prd_X_tests_40 (fun H locs hP hS => ?_)
      refine lv_iload_n hx hb prd_X_tests_43 rfl (lv_at hl 1 rfl) ?_
      refine lv_icmp_eq (tgt := 50) hx hb prd_X_tests_44 (by decide) (fun c71 => ?_) (fun c71 => ?_)
      · have hf := pr_it c71 hf
        refine lv_aload_n hx hb prd_X_tests_50 rfl (lv_at hl 2 rfl) ?_
        refine lv_iload_n hx hb prd_X_tests_51 rfl (lv_at hl 4 rfl) ?_
        refine lv_aload_n hx hb prd_X_tests_52 rfl (lv_at hl 2 rfl) ?_
        refine pr_getr (t := 7) hx hb hts prs_X hown hK hP 0 12 (by decide) rfl (hts _ prw_903) rfl prd_X_tests_53 ?_
        refine lv_iload hx hb prd_X_tests_56 (lv_at hl 0 rfl) ?_
        obtain ⟨hi72, hf⟩ := pr_ck_in hf
        refine pr_iald (f := (r69.2.2.1 7)) hx hb hK hP 7 (by decide) rfl hi72 rfl prd_X_tests_58 ?_
        refine lv_iconst (v := 0) hx hb prd_X_tests_59 (by decide) ?_
        obtain ⟨r73, hr73, hf⟩ := pr_bi hf
        refine pr_callVi (rest := []) (res := r73) ⟨hx, hb, hml, hown, hts⟩ 0 (prc_X_draft hD hX 0 (Nat.le_refl _) r69.2 x2 ((r69.2.2.1 7) r69.1.toNatClampNeg) 0 r73 hr73) (prg_X_draft hts prw_914 (by have := hh; omega)) hX hXs hK hP hS (by decide) rfl rfl rfl rfl hl.1 (Nat.le_of_ble_eq_true rfl) prd_X_tests_60 (fun H locs hP hS => ?_)
        refine lv_istore (lv' := [(5, .int r73.1), (4, .int r69.1), (3, .int 261), (0, .ref (ad 0)), (1, .int x1), (2, .int x2)]) hx hb prd_X_tests_63 hl (by decide) rfl (fun ls hl => ?_)
        refine lv_aload_n hx hb prd_X_tests_65 rfl (lv_at hl 3 rfl) ?_
        refine lv_iload hx hb prd_X_tests_66 (lv_at hl 0 rfl) ?_
        refine lv_iload hx hb prd_X_tests_68 (lv_at hl 1 rfl) ?_
        obtain ⟨r74, hr74, hf⟩ := pr_bi hf
        refine pr_callVv (rest := []) (res := r74) ⟨hx, hb, hml, hown, hts⟩ 0 (prc_X_join hD hX 0 (Nat.le_refl _) r73.2 r73.1 r69.1 r74 hr74) (prg_X_join hts prw_926 (by have := hh; omega)) hX hXs hK hP hS (by decide) rfl rfl rfl rfl hl.1 (Nat.le_of_ble_eq_true rfl) prd_X_tests_70 (fun H locs hP hS => ?_)
        exact prk_X_tests_73 hd hb0 hh E Hrc0 Hrc1 pr_FU r74 x1 x2 261 r73.1 _ hf _ _ _ hP hS (lv_sub hl [3, 4, 5, 2, 0] rfl)
      · have hf := pr_ie c71 hf
        refine lv_iload hx hb prd_X_tests_47 (lv_at hl 0 rfl) ?_
        exact pr_reti E hP hS (pr_so hf) prd_X_tests_49
-- prF_X_test
set_option maxHeartbeats 4000000 in
theorem prF_X_test_ok {l : Launch} {D : va_G} {ad : Nat → Nat} {dA : Nat → ClassId} {A : Nat → Prop} {v : Nat → Nat} {r : Value} (hD : ∀ σ : pr_St, va_D A (pr_w prx_L ad dA σ)) (hX : pr_Xok A (prY ad v r A)) : ∀ n : Nat, (∀ (σ : pr_St) (x1 : Int32) (res : (Int32 × pr_St)), prF_X_test n 0 σ x1 0 = some res → Met l pry_X_test (Cond.code pry_X_test prb_X_test 6 (some .int) :: pr_U) (pr_rm (216 + 2 * n)) (pr_Pc (prY ad v r A) D pr_cl prx_L ad dA [.ref (ad 0), .int x1] σ) (pr_Qi D pr_cl prx_L ad dA A res) 0 0 A) ∧ (∀ (σ : pr_St) (x1 x2 : Int32) (res : (Int32 × pr_St)), prF_X_test n 1 σ x1 x2 = some res → Met l pry_X_tests (Cond.code pry_X_tests prb_X_tests 6 (some .int) :: pr_U) (pr_rm (216 + 2 * n)) (pr_Pc (prY ad v r A) D pr_cl prx_L ad dA [.ref (ad 0), .int x1, .int x2] σ) (pr_Qi D pr_cl prx_L ad dA A res) 0 0 A) := by
  intro n
  induction n with
  | zero => exact ⟨(fun σ x1 res hf => by cases hf), (fun σ x1 x2 res hf => by cases hf)⟩
  | succ n ih =>
    obtain ⟨i0, i1⟩ := ih
    exact ⟨fun σ x1 res hf => prc_X_test hD hX (216 + 2 * n) (by omega) (216 + 2 * (n + 1)) (by omega) i0 i1 σ x1 res hf,
      fun σ x1 x2 res hf => prc_X_tests hD hX (216 + 2 * n) (by omega) (216 + 2 * (n + 1)) (by omega) i0 i1 σ x1 x2 res hf⟩
theorem prct_X_test {l : Launch} {D : va_G} {ad : Nat → Nat} {dA : Nat → ClassId} {A : Nat → Prop} {v : Nat → Nat} {r : Value} (hD : ∀ σ : pr_St, va_D A (pr_w prx_L ad dA σ)) (hX : pr_Xok A (prY ad v r A)) (σ : pr_St) (x1 : Int32) (res : (Int32 × pr_St)) (hf : prf_X_test (prF_X_test 200) σ x1 = some res) : Met l pry_X_test (Cond.code pry_X_test prb_X_test 6 (some .int) :: pr_U) (pr_rm 618) (pr_Pc (prY ad v r A) D pr_cl prx_L ad dA [.ref (ad 0), .int x1] σ) (pr_Qi D pr_cl prx_L ad dA A res) 0 0 A :=
  prc_X_test hD hX (216 + 2 * 200) (by decide) 618 (by decide) ((prF_X_test_ok hD hX 200).1) ((prF_X_test_ok hD hX 200).2) σ x1 res hf
theorem prct_X_tests {l : Launch} {D : va_G} {ad : Nat → Nat} {dA : Nat → ClassId} {A : Nat → Prop} {v : Nat → Nat} {r : Value} (hD : ∀ σ : pr_St, va_D A (pr_w prx_L ad dA σ)) (hX : pr_Xok A (prY ad v r A)) (σ : pr_St) (x1 x2 : Int32) (res : (Int32 × pr_St)) (hf : prf_X_tests (prF_X_test 200) σ x1 x2 = some res) : Met l pry_X_tests (Cond.code pry_X_tests prb_X_tests 6 (some .int) :: pr_U) (pr_rm 617) (pr_Pc (prY ad v r A) D pr_cl prx_L ad dA [.ref (ad 0), .int x1, .int x2] σ) (pr_Qi D pr_cl prx_L ad dA A res) 0 0 A :=
  prc_X_tests hD hX (216 + 2 * 200) (by decide) 617 (by decide) ((prF_X_test_ok hD hX 200).1) ((prF_X_test_ok hD hX 200).2) σ x1 x2 res hf
theorem prct_X_cond {l : Launch} {D : va_G} {ad : Nat → Nat} {dA : Nat → ClassId} {A : Nat → Prop} {v : Nat → Nat} {r : Value} (hD : ∀ σ : pr_St, va_D A (pr_w prx_L ad dA σ)) (hX : pr_Xok A (prY ad v r A)) (σ : pr_St) (x1 : Int32) (res : (Int32 × pr_St)) (hf : prf_X_cond (prF_X_test 200) σ x1 = some res) : Met l pry_X_cond (Cond.code pry_X_cond prb_X_cond 2 (some .int) :: pr_U) (pr_rm 617) (pr_Pc (prY ad v r A) D pr_cl prx_L ad dA [.ref (ad 0), .int x1] σ) (pr_Qi D pr_cl prx_L ad dA A res) 0 0 A :=
  prc_X_cond hD hX (216 + 2 * 200) (by decide) 617 (by decide) ((prF_X_test_ok hD hX 200).1) ((prF_X_test_ok hD hX 200).2) σ x1 res hf
-- X_sums
set_option maxHeartbeats 4000000 in
set_option maxRecDepth 100000 in
theorem prk_X_sums_38 {l : Launch} {D : va_G} {ad : Nat → Nat} {dA : Nat → ClassId} {A : Nat → Prop} {v : Nat → Nat} {r : Value} {p : Program} {e : Env} {s : State} {m : MethodId} {args : Array Value} {below : List Frame} {meth : Method} {c : Code} {h : Nat} (hh : 216 ≤ h) (E : pr_cx prn_X prb_X_sums 3 none D pr_cl prx_L ad dA A (prY ad v r A) p s m args meth c) : ∀ n : Nat, ∀ (σ : pr_St) (x1 : Int32) (x2 : Int32) (res : pr_St), some res = prf_X_sums_38 n σ x1 x2 → ∀ (H : Heap) (locs : List Loc) (ls : Array Slot), va_P D pr_cl (pr_w prx_L ad dA σ) H → va_S A s.heap H locs → lv_has ls 3 [(0, .ref (ad 0)), (1, .int x1), (2, .int x2)] → W p l e (pr_rm h) s m args below meth c H locs 0 0 (MQ below (pr_Qv D pr_cl prx_L ad dA A res) args s 0 0 A) (F0 m 38 ls []) := by
  obtain ⟨hx, hb, hml, hown, hts, hr, hlocks, hK, hD, hX, hXs⟩ := id E
  intro n
  induction n with
  | zero =>
    intro σ x1 x2 res hf
    rw [prf_X_sums_38] at hf
    cases hf
  | succ n ih =>
    intro σ x1 x2 res hf H locs ls hP hS hl
    rw [prf_X_sums_38] at hf
    refine lv_aload_n hx hb prd_X_sums_38 rfl (lv_at hl 0 rfl) ?_
    obtain ⟨r17, hr17, hf⟩ := pr_bi hf
    refine pr_callVr (rest := []) (r := r17) ⟨hx, hb, hml, hown, hts⟩ 0 (prc_X_look hD hX 0 (Nat.le_refl _) σ  r17 hr17) (prg_X_look hts prw_896 (by have := hh; omega)) hX hXs hK hP hS (by decide) rfl rfl rfl rfl hl.1 (Nat.le_of_ble_eq_true rfl) prd_X_sums_39 (fun H locs hP hS => ?_)
    refine lv_bipush (v := 44) hx hb prd_X_sums_42 (by decide) ?_
    refine lv_icmp_ne (tgt := 79) hx hb prd_X_sums_44 (by decide) (fun c18 => ?_) (fun c18 => ?_)
    · have hf := pr_ie c18 hf
      refine lv_aload_n hx hb prd_X_sums_79 rfl (lv_at hl 0 rfl) ?_
      refine lv_bipush (v := 41) hx hb prd_X_sums_80 (by decide) ?_
      obtain ⟨r19, hr19, hf⟩ := pr_bi hf
      refine pr_callVv (rest := []) (res := r19) ⟨hx, hb, hml, hown, hts⟩ 0 (prc_X_take hD hX 1 (Nat.le_refl _) σ 41 r19 hr19) (prg_X_take hts prw_915 (by have := hh; omega)) hX hXs hK hP hS (by decide) rfl rfl rfl rfl hl.1 (Nat.le_of_ble_eq_true rfl) prd_X_sums_82 (fun H locs hP hS => ?_)
      exact pr_retv E hP hS (pr_so hf) prd_X_sums_85
    · have hf := pr_it c18 hf
      refine lv_aload_n hx hb prd_X_sums_47 rfl (lv_at hl 0 rfl) ?_
      refine lv_bipush (v := 44) hx hb prd_X_sums_48 (by decide) ?_
      obtain ⟨r20, hr20, hf⟩ := pr_bi hf
      refine pr_callVv (rest := []) (res := r20) ⟨hx, hb, hml, hown, hts⟩ 0 (prc_X_take hD hX 1 (Nat.le_refl _) σ 44 r20 hr20) (prg_X_take hts prw_915 (by have := hh; omega)) hX hXs hK hP hS (by decide) rfl rfl rfl rfl hl.1 (Nat.le_of_ble_eq_true rfl) prd_X_sums_50 (fun H locs hP hS => ?_)
      refine lv_aload_n hx hb prd_X_sums_53 rfl (lv_at hl 0 rfl) ?_
      refine lv_iload_n hx hb prd_X_sums_54 rfl (lv_at hl 1 rfl) ?_
      refine lv_aload_n hx hb prd_X_sums_55 rfl (lv_at hl 0 rfl) ?_
      refine pr_geti (v := (r20.1 0 9)) hx hb hts prs_X hown hK hP 0 9 (by decide) rfl (hts _ prw_887) rfl rfl prd_X_sums_56 ?_
      refine lv_if_eq (tgt := 66) hx hb prd_X_sums_59 (by decide) (fun c21 => ?_) (fun c21 => ?_)
      · have hf := pr_it c21 hf
        refine lv_aload_n hx hb prd_X_sums_66 rfl (lv_at hl 0 rfl) ?_
        refine lv_iload_n hx hb prd_X_sums_67 rfl (lv_at hl 2 rfl) ?_
        refine lv_iconst (v := 1) hx hb prd_X_sums_68 (by decide) ?_
        refine lv_iadd hx hb prd_X_sums_69 ?_
        obtain ⟨r22, hr22, hf⟩ := pr_bi hf
        refine pr_callVi (rest := [.int x1, .ref (ad 0)]) (res := r22) ⟨hx, hb, hml, hown, hts⟩ 0 (prct_X_sum hD hX r20 (x2 + 1) r22 hr22) (prg_X_sum hts prw_935 (by have := hh; omega)) hX hXs hK hP hS (by decide) rfl rfl rfl rfl hl.1 (Nat.le_of_ble_eq_true rfl) prd_X_sums_70 (fun H locs hP hS => ?_)
        obtain ⟨r23, hr23, hf⟩ := pr_bi hf
        refine pr_callVv (rest := []) (res := r23) ⟨hx, hb, hml, hown, hts⟩ 0 (prc_X_join hD hX 0 (Nat.le_refl _) r22.2 x1 r22.1 r23 hr23) (prg_X_join hts prw_926 (by have := hh; omega)) hX hXs hK hP hS (by decide) rfl rfl rfl rfl hl.1 (Nat.le_of_ble_eq_true rfl) prd_X_sums_73 (fun H locs hP hS => ?_)
        refine lv_goto (tgt := 38) hx hb prd_X_sums_76 (by decide) ?_
        exact ih r23 x1 x2 _ hf _ _ _ hP hS (lv_sub hl [0, 1, 2] rfl)
      · have hf := pr_ie c21 hf
        refine lv_iconst (v := (-1)) hx hb prd_X_sums_62 (by decide) ?_
        refine lv_goto (tgt := 73) hx hb prd_X_sums_63 (by decide) ?_
        obtain ⟨r24, hr24, hf⟩ := pr_bi hf
        refine pr_callVv (rest := []) (res := r24) ⟨hx, hb, hml, hown, hts⟩ 0 (prc_X_join hD hX 0 (Nat.le_refl _) r20 x1 (-1) r24 hr24) (prg_X_join hts prw_926 (by have := hh; omega)) hX hXs hK hP hS (by decide) rfl rfl rfl rfl hl.1 (Nat.le_of_ble_eq_true rfl) prd_X_sums_73 (fun H locs hP hS => ?_)
        refine lv_goto (tgt := 38) hx hb prd_X_sums_76 (by decide) ?_
        exact ih r24 x1 x2 _ hf _ _ _ hP hS (lv_sub hl [0, 1, 2] rfl)
set_option maxHeartbeats 4000000 in
set_option maxRecDepth 100000 in
theorem prc_X_sums {l : Launch} {D : va_G} {ad : Nat → Nat} {dA : Nat → ClassId} {A : Nat → Prop} {v : Nat → Nat} {r : Value} (hD : ∀ σ : pr_St, va_D A (pr_w prx_L ad dA σ)) (hX : pr_Xok A (prY ad v r A)) (h : Nat) (hh : 216 ≤ h) (σ : pr_St) (x1 : Int32) (x2 : Int32) (res : pr_St) (hf : prf_X_sums σ x1 x2 = some res) : Met l pry_X_sums (Cond.code pry_X_sums prb_X_sums 3 none :: pr_U) (pr_rm h) (pr_Pc (prY ad v r A) D pr_cl prx_L ad dA [.ref (ad 0), .int x1, .int x2] σ) (pr_Qv D pr_cl prx_L ad dA A res) 0 0 A := by
  refine pr_entry (cc := prb_X_sums) (maxL := 3) (ret := none) (by decide) (Nat.le_of_ble_eq_true rfl) hD hX ?_
  intro p e s m args below meth c E H locs hP hS ls hl
  have hl : lv_has ls 3 [(0, .ref (ad 0)), (1, .int x1), (2, .int x2)] := hl
  have hf := hf.symm
  unfold prf_X_sums at hf
  obtain ⟨hx, hb, hml, hown, hts, hr, hlocks, hK, hD, hX, hXs⟩ := id E
  refine lv_aload_n hx hb prd_X_sums_0 rfl (lv_at hl 0 rfl) ?_
  refine lv_bipush (v := 40) hx hb prd_X_sums_1 (by decide) ?_
  obtain ⟨r25, hr25, hf⟩ := pr_bi hf
  refine pr_callVv (rest := []) (res := r25) ⟨hx, hb, hml, hown, hts⟩ 0 (prc_X_take hD hX 1 (Nat.le_refl _) σ 40 r25 hr25) (prg_X_take hts prw_915 (by have := hh; omega)) hX hXs hK hP hS (by decide) rfl rfl rfl rfl hl.1 (Nat.le_of_ble_eq_true rfl) prd_X_sums_3 (fun H locs hP hS => ?_)
  refine lv_aload_n hx hb prd_X_sums_6 rfl (lv_at hl 0 rfl) ?_
  obtain ⟨r26, hr26, hf⟩ := pr_bi hf
  refine pr_callVr (rest := []) (r := r26) ⟨hx, hb, hml, hown, hts⟩ 0 (prc_X_look hD hX 0 (Nat.le_refl _) r25  r26 hr26) (prg_X_look hts prw_896 (by have := hh; omega)) hX hXs hK hP hS (by decide) rfl rfl rfl rfl hl.1 (Nat.le_of_ble_eq_true rfl) prd_X_sums_7 (fun H locs hP hS => ?_)
  refine lv_bipush (v := 41) hx hb prd_X_sums_10 (by decide) ?_
  refine lv_icmp_eq (tgt := 79) hx hb prd_X_sums_12 (by decide) (fun c27 => ?_) (fun c27 => ?_)
  · have hf := pr_it c27 hf
    refine lv_aload_n hx hb prd_X_sums_79 rfl (lv_at hl 0 rfl) ?_
    refine lv_bipush (v := 41) hx hb prd_X_sums_80 (by decide) ?_
    obtain ⟨r28, hr28, hf⟩ := pr_bi hf
    refine pr_callVv (rest := []) (res := r28) ⟨hx, hb, hml, hown, hts⟩ 0 (prc_X_take hD hX 1 (Nat.le_refl _) r25 41 r28 hr28) (prg_X_take hts prw_915 (by have := hh; omega)) hX hXs hK hP hS (by decide) rfl rfl rfl rfl hl.1 (Nat.le_of_ble_eq_true rfl) prd_X_sums_82 (fun H locs hP hS => ?_)
    exact pr_retv E hP hS (pr_so hf) prd_X_sums_85
  · have hf := pr_ie c27 hf
    refine lv_aload_n hx hb prd_X_sums_15 rfl (lv_at hl 0 rfl) ?_
    refine lv_iload_n hx hb prd_X_sums_16 rfl (lv_at hl 1 rfl) ?_
    refine lv_aload_n hx hb prd_X_sums_17 rfl (lv_at hl 0 rfl) ?_
    refine pr_geti (v := (r25.1 0 9)) hx hb hts prs_X hown hK hP 0 9 (by decide) rfl (hts _ prw_887) rfl rfl prd_X_sums_18 ?_
    refine lv_if_eq (tgt := 28) hx hb prd_X_sums_21 (by decide) (fun c29 => ?_) (fun c29 => ?_)
    · have hf := pr_it c29 hf
      refine lv_aload_n hx hb prd_X_sums_28 rfl (lv_at hl 0 rfl) ?_
      refine lv_iload_n hx hb prd_X_sums_29 rfl (lv_at hl 2 rfl) ?_
      refine lv_iconst (v := 1) hx hb prd_X_sums_30 (by decide) ?_
      refine lv_iadd hx hb prd_X_sums_31 ?_
      obtain ⟨r30, hr30, hf⟩ := pr_bi hf
      refine pr_callVi (rest := [.int x1, .ref (ad 0)]) (res := r30) ⟨hx, hb, hml, hown, hts⟩ 0 (prct_X_sum hD hX r25 (x2 + 1) r30 hr30) (prg_X_sum hts prw_935 (by have := hh; omega)) hX hXs hK hP hS (by decide) rfl rfl rfl rfl hl.1 (Nat.le_of_ble_eq_true rfl) prd_X_sums_32 (fun H locs hP hS => ?_)
      obtain ⟨r31, hr31, hf⟩ := pr_bi hf
      refine pr_callVv (rest := []) (res := r31) ⟨hx, hb, hml, hown, hts⟩ 0 (prc_X_join hD hX 0 (Nat.le_refl _) r30.2 x1 r30.1 r31 hr31) (prg_X_join hts prw_926 (by have := hh; omega)) hX hXs hK hP hS (by decide) rfl rfl rfl rfl hl.1 (Nat.le_of_ble_eq_true rfl) prd_X_sums_35 (fun H locs hP hS => ?_)
      exact prk_X_sums_38 hh E pr_FU r31 x1 x2 _ hf _ _ _ hP hS (lv_sub hl [0, 1, 2] rfl)
    · have hf := pr_ie c29 hf
      refine lv_iconst (v := (-1)) hx hb prd_X_sums_24 (by decide) ?_
      refine lv_goto (tgt := 35) hx hb prd_X_sums_25 (by decide) ?_
      obtain ⟨r32, hr32, hf⟩ := pr_bi hf
      refine pr_callVv (rest := []) (res := r32) ⟨hx, hb, hml, hown, hts⟩ 0 (prc_X_join hD hX 0 (Nat.le_refl _) r25 x1 (-1) r32 hr32) (prg_X_join hts prw_926 (by have := hh; omega)) hX hXs hK hP hS (by decide) rfl rfl rfl rfl hl.1 (Nat.le_of_ble_eq_true rfl) prd_X_sums_35 (fun H locs hP hS => ?_)
      exact prk_X_sums_38 hh E pr_FU r32 x1 x2 _ hf _ _ _ hP hS (lv_sub hl [0, 1, 2] rfl)
-- X_named
set_option maxHeartbeats 4000000 in
set_option maxRecDepth 100000 in
theorem prk_X_named_217 {l : Launch} {D : va_G} {ad : Nat → Nat} {dA : Nat → ClassId} {A : Nat → Prop} {v : Nat → Nat} {r : Value} {p : Program} {e : Env} {s : State} {m : MethodId} {args : Array Value} {below : List Frame} {meth : Method} {c : Code} {h : Nat} (hh : 217 ≤ h) (E : pr_cx prn_X prb_X_named 5 (some .int) D pr_cl prx_L ad dA A (prY ad v r A) p s m args meth c) : ∀ (σ : pr_St) (x1 : Int32) (x2 : Int32) (x3 : Int32) (res : (Int32 × pr_St)), some res = prf_X_named_217 σ x1 x2 x3 → ∀ (H : Heap) (locs : List Loc) (ls : Array Slot), va_P D pr_cl (pr_w prx_L ad dA σ) H → va_S A s.heap H locs → lv_has ls 5 [(0, .ref (ad 0)), (1, .int x1), (2, .int x2), (3, .int x3)] → W p l e (pr_rm h) s m args below meth c H locs 0 0 (MQ below (pr_Qi D pr_cl prx_L ad dA A res) args s 0 0 A) (F0 m 217 ls []) := by
  obtain ⟨hx, hb, hml, hown, hts, hr, hlocks, hK, hD, hX, hXs⟩ := id E
  intro σ x1 x2 x3 res hf H locs ls hP hS hl
  unfold prf_X_named_217 at hf
  refine lv_aload_n hx hb prd_X_named_217 rfl (lv_at hl 0 rfl) ?_
  refine lv_iconst (v := 5) hx hb prd_X_named_218 (by decide) ?_
  refine lv_iload_n hx hb prd_X_named_219 rfl (lv_at hl 1 rfl) ?_
  refine lv_iconst (v := 0) hx hb prd_X_named_220 (by decide) ?_
  obtain ⟨r46, hr46, hf⟩ := pr_bi hf
  refine pr_callVi (rest := []) (res := r46) ⟨hx, hb, hml, hown, hts⟩ 0 (prc_X_draft hD hX 0 (Nat.le_refl _) σ 5 x1 0 r46 hr46) (prg_X_draft hts prw_914 (by have := hh; omega)) hX hXs hK hP hS (by decide) rfl rfl rfl rfl hl.1 (Nat.le_of_ble_eq_true rfl) prd_X_named_221 (fun H locs hP hS => ?_)
  refine lv_istore (lv' := [(4, .int r46.1), (0, .ref (ad 0)), (1, .int x1), (2, .int x2), (3, .int x3)]) hx hb prd_X_named_224 hl (by decide) rfl (fun ls hl => ?_)
  refine lv_aload_n hx hb prd_X_named_226 rfl (lv_at hl 1 rfl) ?_
  refine lv_iload hx hb prd_X_named_227 (lv_at hl 0 rfl) ?_
  refine lv_iload_n hx hb prd_X_named_229 rfl (lv_at hl 4 rfl) ?_
  obtain ⟨r47, hr47, hf⟩ := pr_bi hf
  refine pr_callVv (rest := []) (res := r47) ⟨hx, hb, hml, hown, hts⟩ 0 (prc_X_join hD hX 0 (Nat.le_refl _) r46.2 r46.1 x3 r47 hr47) (prg_X_join hts prw_926 (by have := hh; omega)) hX hXs hK hP hS (by decide) rfl rfl rfl rfl hl.1 (Nat.le_of_ble_eq_true rfl) prd_X_named_230 (fun H locs hP hS => ?_)
  refine lv_aload_n hx hb prd_X_named_233 rfl (lv_at hl 1 rfl) ?_
  refine lv_iload hx hb prd_X_named_234 (lv_at hl 0 rfl) ?_
  refine lv_aload_n hx hb prd_X_named_236 rfl (lv_at hl 1 rfl) ?_
  refine pr_geti (v := (r47.1 0 9)) hx hb hts prs_X hown hK hP 0 9 (by decide) rfl (hts _ prw_887) rfl rfl prd_X_named_237 ?_
  refine lv_if_eq (tgt := 247) hx hb prd_X_named_240 (by decide) (fun c48 => ?_) (fun c48 => ?_)
  · have hf := pr_it c48 hf
    refine lv_aload_n hx hb prd_X_named_247 rfl (lv_at hl 1 rfl) ?_
    refine lv_iload_n hx hb prd_X_named_248 rfl (lv_at hl 3 rfl) ?_
    refine lv_iconst (v := 1) hx hb prd_X_named_249 (by decide) ?_
    refine lv_iadd hx hb prd_X_named_250 ?_
    obtain ⟨r49, hr49, hf⟩ := pr_bi hf
    refine pr_callVi (rest := [.int r46.1, .ref (ad 0)]) (res := r49) ⟨hx, hb, hml, hown, hts⟩ 0 (prct_X_sum hD hX r47 (x2 + 1) r49 hr49) (prg_X_sum hts prw_935 (by have := hh; omega)) hX hXs hK hP hS (by decide) rfl rfl rfl rfl hl.1 (Nat.le_of_ble_eq_true rfl) prd_X_named_251 (fun H locs hP hS => ?_)
    obtain ⟨r50, hr50, hf⟩ := pr_bi hf
    refine pr_callVv (rest := []) (res := r50) ⟨hx, hb, hml, hown, hts⟩ 0 (prc_X_join hD hX 0 (Nat.le_refl _) r49.2 r46.1 r49.1 r50 hr50) (prg_X_join hts prw_926 (by have := hh; omega)) hX hXs hK hP hS (by decide) rfl rfl rfl rfl hl.1 (Nat.le_of_ble_eq_true rfl) prd_X_named_254 (fun H locs hP hS => ?_)
    refine lv_iload hx hb prd_X_named_257 (lv_at hl 0 rfl) ?_
    exact pr_reti E hP hS (pr_so hf) prd_X_named_259
  · have hf := pr_ie c48 hf
    refine lv_iconst (v := (-1)) hx hb prd_X_named_243 (by decide) ?_
    refine lv_goto (tgt := 254) hx hb prd_X_named_244 (by decide) ?_
    obtain ⟨r51, hr51, hf⟩ := pr_bi hf
    refine pr_callVv (rest := []) (res := r51) ⟨hx, hb, hml, hown, hts⟩ 0 (prc_X_join hD hX 0 (Nat.le_refl _) r47 r46.1 (-1) r51 hr51) (prg_X_join hts prw_926 (by have := hh; omega)) hX hXs hK hP hS (by decide) rfl rfl rfl rfl hl.1 (Nat.le_of_ble_eq_true rfl) prd_X_named_254 (fun H locs hP hS => ?_)
    refine lv_iload hx hb prd_X_named_257 (lv_at hl 0 rfl) ?_
    exact pr_reti E hP hS (pr_so hf) prd_X_named_259
set_option maxHeartbeats 4000000 in
set_option maxRecDepth 100000 in
theorem prc_X_named {l : Launch} {D : va_G} {ad : Nat → Nat} {dA : Nat → ClassId} {A : Nat → Prop} {v : Nat → Nat} {r : Value} (hD : ∀ σ : pr_St, va_D A (pr_w prx_L ad dA σ)) (hX : pr_Xok A (prY ad v r A)) (h : Nat) (hh : 217 ≤ h) (σ : pr_St) (x1 : Int32) (x2 : Int32) (res : (Int32 × pr_St)) (hf : prf_X_named σ x1 x2 = some res) : Met l pry_X_named (Cond.code pry_X_named prb_X_named 5 (some .int) :: pr_U) (pr_rm h) (pr_Pc (prY ad v r A) D pr_cl prx_L ad dA [.ref (ad 0), .int x1, .int x2] σ) (pr_Qi D pr_cl prx_L ad dA A res) 0 0 A := by
  refine pr_entry (cc := prb_X_named) (maxL := 5) (ret := (some .int)) (by decide) (Nat.le_of_ble_eq_true rfl) hD hX ?_
  intro p e s m args below meth c E H locs hP hS ls hl
  have hl : lv_has ls 5 [(0, .ref (ad 0)), (1, .int x1), (2, .int x2)] := hl
  have hf := hf.symm
  unfold prf_X_named at hf
  obtain ⟨hx, hb, hml, hown, hts, hr, hlocks, hK, hD, hX, hXs⟩ := id E
  refine lv_aload_n hx hb prd_X_named_0 rfl (lv_at hl 0 rfl) ?_
  obtain ⟨r52, hr52, hf⟩ := pr_bi hf
  refine pr_callVi (rest := []) (res := r52) ⟨hx, hb, hml, hown, hts⟩ 0 (prc_X_name hD hX 2 (Nat.le_refl _) σ  r52 hr52) (prg_X_name hts prw_937 (by have := hh; omega)) hX hXs hK hP hS (by decide) rfl rfl rfl rfl hl.1 (Nat.le_of_ble_eq_true rfl) prd_X_named_1 (fun H locs hP hS => ?_)
  refine lv_istore_n (lv' := [(3, .int r52.1), (0, .ref (ad 0)), (1, .int x1), (2, .int x2)]) hx hb prd_X_named_4 rfl hl (by decide) rfl (fun ls hl => ?_)
  refine lv_aload_n hx hb prd_X_named_5 rfl (lv_at hl 1 rfl) ?_
  obtain ⟨r53, hr53, hf⟩ := pr_bi hf
  refine pr_callVr (rest := []) (r := r53) ⟨hx, hb, hml, hown, hts⟩ 0 (prc_X_look hD hX 0 (Nat.le_refl _) r52.2  r53 hr53) (prg_X_look hts prw_896 (by have := hh; omega)) hX hXs hK hP hS (by decide) rfl rfl rfl rfl hl.1 (Nat.le_of_ble_eq_true rfl) prd_X_named_6 (fun H locs hP hS => ?_)
  refine lv_bipush (v := 40) hx hb prd_X_named_9 (by decide) ?_
  refine lv_icmp_ne (tgt := 55) hx hb prd_X_named_11 (by decide) (fun c54 => ?_) (fun c54 => ?_)
  · have hf := pr_ie c54 hf
    refine lv_aload_n hx hb prd_X_named_55 rfl (lv_at hl 1 rfl) ?_
    obtain ⟨r55, hr55, hf⟩ := pr_bi hf
    refine pr_callVr (rest := []) (r := r55) ⟨hx, hb, hml, hown, hts⟩ 0 (prc_X_look hD hX 0 (Nat.le_refl _) r52.2  r55 hr55) (prg_X_look hts prw_896 (by have := hh; omega)) hX hXs hK hP hS (by decide) rfl rfl rfl rfl hl.1 (Nat.le_of_ble_eq_true rfl) prd_X_named_56 (fun H locs hP hS => ?_)
    refine lv_bipush (v := 91) hx hb prd_X_named_59 (by decide) ?_
    refine lv_icmp_ne (tgt := 150) hx hb prd_X_named_61 (by decide) (fun c56 => ?_) (fun c56 => ?_)
    · have hf := pr_ie c56 hf
      refine lv_aload_n hx hb prd_X_named_150 rfl (lv_at hl 1 rfl) ?_
      refine lv_bipush (v := 61) hx hb prd_X_named_151 (by decide) ?_
      obtain ⟨r57, hr57, hf⟩ := pr_bi hf
      refine pr_callVv (rest := []) (res := r57) ⟨hx, hb, hml, hown, hts⟩ 0 (prc_X_take hD hX 1 (Nat.le_refl _) r52.2 61 r57 hr57) (prg_X_take hts prw_915 (by have := hh; omega)) hX hXs hK hP hS (by decide) rfl rfl rfl rfl hl.1 (Nat.le_of_ble_eq_true rfl) prd_X_named_153 (fun H locs hP hS => ?_)
      refine lv_aload_n hx hb prd_X_named_156 rfl (lv_at hl 1 rfl) ?_
      obtain ⟨r58, hr58, hf⟩ := pr_bi hf
      refine pr_callVr (rest := []) (r := r58) ⟨hx, hb, hml, hown, hts⟩ 0 (prc_X_look hD hX 0 (Nat.le_refl _) r57  r58 hr58) (prg_X_look hts prw_896 (by have := hh; omega)) hX hXs hK hP hS (by decide) rfl rfl rfl rfl hl.1 (Nat.le_of_ble_eq_true rfl) prd_X_named_157 (fun H locs hP hS => ?_)
      refine lv_iconst (v := 2) hx hb prd_X_named_160 (by decide) ?_
      refine lv_icmp_ne (tgt := 217) hx hb prd_X_named_161 (by decide) (fun c59 => ?_) (fun c59 => ?_)
      · have hf := pr_ie c59 hf
        exact prk_X_named_217 hh E r57 x1 x2 r52.1 _ hf _ _ _ hP hS (lv_sub hl [1, 2, 3, 0] rfl)
      · have hf := pr_it c59 hf
        refine lv_aload_n hx hb prd_X_named_164 rfl (lv_at hl 1 rfl) ?_
        refine pr_getr (t := 3) hx hb hts prs_X hown hK hP 0 4 (by decide) rfl (hts _ prw_881) rfl prd_X_named_165 ?_
        refine lv_aload_n hx hb prd_X_named_168 rfl (lv_at hl 1 rfl) ?_
        refine pr_geti (v := (r57.1 0 8)) hx hb hts prs_X hown hK hP 0 8 (by decide) rfl (hts _ prw_888) rfl rfl prd_X_named_169 ?_
        refine lv_iconst (v := 1) hx hb prd_X_named_172 (by decide) ?_
        refine lv_iadd hx hb prd_X_named_173 ?_
        obtain ⟨hi60, hf⟩ := pr_ck_in hf
        refine pr_iald (f := (r57.2.1 3)) hx hb hK hP 3 (by decide) rfl hi60 rfl prd_X_named_174 ?_
        refine lv_bipush (v := 40) hx hb prd_X_named_175 (by decide) ?_
        refine lv_icmp_ne (tgt := 217) hx hb prd_X_named_177 (by decide) (fun c61 => ?_) (fun c61 => ?_)
        · have hf := pr_ie c61 hf
          exact prk_X_named_217 hh E r57 x1 x2 r52.1 _ hf _ _ _ hP hS (lv_sub hl [1, 2, 3, 0] rfl)
        · have hf := pr_it c61 hf
          refine lv_aload_n hx hb prd_X_named_180 rfl (lv_at hl 1 rfl) ?_
          refine lv_bipush (v := 7) hx hb prd_X_named_181 (by decide) ?_
          refine lv_iload_n hx hb prd_X_named_183 rfl (lv_at hl 2 rfl) ?_
          refine lv_iconst (v := 0) hx hb prd_X_named_184 (by decide) ?_
          obtain ⟨r62, hr62, hf⟩ := pr_bi hf
          refine pr_callVi (rest := []) (res := r62) ⟨hx, hb, hml, hown, hts⟩ 0 (prc_X_draft hD hX 0 (Nat.le_refl _) r57 7 x1 0 r62 hr62) (prg_X_draft hts prw_914 (by have := hh; omega)) hX hXs hK hP hS (by decide) rfl rfl rfl rfl hl.1 (Nat.le_of_ble_eq_true rfl) prd_X_named_185 (fun H locs hP hS => ?_)
          refine lv_istore (lv' := [(4, .int r62.1), (3, .int r52.1), (0, .ref (ad 0)), (1, .int x1), (2, .int x2)]) hx hb prd_X_named_188 hl (by decide) rfl (fun ls hl => ?_)
          refine lv_aload_n hx hb prd_X_named_190 rfl (lv_at hl 2 rfl) ?_
          refine lv_iload hx hb prd_X_named_191 (lv_at hl 0 rfl) ?_
          refine lv_iload_n hx hb prd_X_named_193 rfl (lv_at hl 1 rfl) ?_
          obtain ⟨r63, hr63, hf⟩ := pr_bi hf
          refine pr_callVv (rest := []) (res := r63) ⟨hx, hb, hml, hown, hts⟩ 0 (prc_X_join hD hX 0 (Nat.le_refl _) r62.2 r62.1 r52.1 r63 hr63) (prg_X_join hts prw_926 (by have := hh; omega)) hX hXs hK hP hS (by decide) rfl rfl rfl rfl hl.1 (Nat.le_of_ble_eq_true rfl) prd_X_named_194 (fun H locs hP hS => ?_)
          refine lv_aload_n hx hb prd_X_named_197 rfl (lv_at hl 2 rfl) ?_
          refine lv_iload hx hb prd_X_named_198 (lv_at hl 0 rfl) ?_
          refine lv_aload_n hx hb prd_X_named_200 rfl (lv_at hl 2 rfl) ?_
          obtain ⟨r64, hr64, hf⟩ := pr_bi hf
          refine pr_callVi (rest := [.int r62.1, .ref (ad 0)]) (res := r64) ⟨hx, hb, hml, hown, hts⟩ 0 (prc_X_name hD hX 2 (Nat.le_refl _) r63  r64 hr64) (prg_X_name hts prw_937 (by have := hh; omega)) hX hXs hK hP hS (by decide) rfl rfl rfl rfl hl.1 (Nat.le_of_ble_eq_true rfl) prd_X_named_201 (fun H locs hP hS => ?_)
          obtain ⟨r65, hr65, hf⟩ := pr_bi hf
          refine pr_callVv (rest := []) (res := r65) ⟨hx, hb, hml, hown, hts⟩ 0 (prc_X_join hD hX 0 (Nat.le_refl _) r64.2 r62.1 r64.1 r65 hr65) (prg_X_join hts prw_926 (by have := hh; omega)) hX hXs hK hP hS (by decide) rfl rfl rfl rfl hl.1 (Nat.le_of_ble_eq_true rfl) prd_X_named_204 (fun H locs hP hS => ?_)
          refine lv_aload_n hx hb prd_X_named_207 rfl (lv_at hl 2 rfl) ?_
          refine lv_iload hx hb prd_X_named_208 (lv_at hl 0 rfl) ?_
          refine lv_iload_n hx hb prd_X_named_210 rfl (lv_at hl 4 rfl) ?_
          obtain ⟨r66, hr66, hf⟩ := pr_bi hf
          refine pr_callVv (rest := []) (res := r66) ⟨hx, hb, hml, hown, hts⟩ 0 (prc_X_sums hD hX 216 (Nat.le_refl _) r65 r62.1 x2 r66 hr66) (prg_X_sums hts prw_956 (by have := hh; omega)) hX hXs hK hP hS (by decide) rfl rfl rfl rfl hl.1 (Nat.le_of_ble_eq_true rfl) prd_X_named_211 (fun H locs hP hS => ?_)
          refine lv_iload hx hb prd_X_named_214 (lv_at hl 0 rfl) ?_
          exact pr_reti E hP hS (pr_so hf) prd_X_named_216
    · have hf := pr_it c56 hf
      refine lv_aload_n hx hb prd_X_named_64 rfl (lv_at hl 1 rfl) ?_
      refine lv_bipush (v := 6) hx hb prd_X_named_65 (by decide) ?_
      refine lv_iload_n hx hb prd_X_named_67 rfl (lv_at hl 2 rfl) ?_
      refine lv_iconst (v := 0) hx hb prd_X_named_68 (by decide) ?_
      obtain ⟨r67, hr67, hf⟩ := pr_bi hf
      refine pr_callVi (rest := []) (res := r67) ⟨hx, hb, hml, hown, hts⟩ 0 (prc_X_draft hD hX 0 (Nat.le_refl _) r52.2 6 x1 0 r67 hr67) (prg_X_draft hts prw_914 (by have := hh; omega)) hX hXs hK hP hS (by decide) rfl rfl rfl rfl hl.1 (Nat.le_of_ble_eq_true rfl) prd_X_named_69 (fun H locs hP hS => ?_)
      refine lv_istore (lv' := [(4, .int r67.1), (3, .int r52.1), (0, .ref (ad 0)), (1, .int x1), (2, .int x2)]) hx hb prd_X_named_72 hl (by decide) rfl (fun ls hl => ?_)
      refine lv_aload_n hx hb prd_X_named_74 rfl (lv_at hl 2 rfl) ?_
      refine lv_iload hx hb prd_X_named_75 (lv_at hl 0 rfl) ?_
      refine lv_iload_n hx hb prd_X_named_77 rfl (lv_at hl 1 rfl) ?_
      obtain ⟨r68, hr68, hf⟩ := pr_bi hf
      refine pr_callVv (rest := []) (res := r68) ⟨hx, hb, hml, hown, hts⟩ 0 (prc_X_join hD hX 0 (Nat.le_refl _) r67.2 r67.1 r52.1 r68 hr68) (prg_X_join hts prw_926 (by have := hh; omega)) hX hXs hK hP hS (by decide) rfl rfl rfl rfl hl.1 (Nat.le_of_ble_eq_true rfl) prd_X_named_78 (fun H locs hP hS => ?_)
      refine lv_aload_n hx hb prd_X_named_81 rfl (lv_at hl 2 rfl) ?_
      refine lv_bipush (v := 91) hx hb prd_X_named_82 (by decide) ?_
      obtain ⟨r69, hr69, hf⟩ := pr_bi hf
      refine pr_callVv (rest := []) (res := r69) ⟨hx, hb, hml, hown, hts⟩ 0 (prc_X_take hD hX 1 (Nat.le_refl _) r68 91 r69 hr69) (prg_X_take hts prw_915 (by have := hh; omega)) hX hXs hK hP hS (by decide) rfl rfl rfl rfl hl.1 (Nat.le_of_ble_eq_true rfl) prd_X_named_84 (fun H locs hP hS => ?_)
      refine lv_aload_n hx hb prd_X_named_87 rfl (lv_at hl 2 rfl) ?_
      refine lv_iload hx hb prd_X_named_88 (lv_at hl 0 rfl) ?_
      refine lv_aload_n hx hb prd_X_named_90 rfl (lv_at hl 2 rfl) ?_
      refine pr_geti (v := (r69.1 0 9)) hx hb hts prs_X hown hK hP 0 9 (by decide) rfl (hts _ prw_887) rfl rfl prd_X_named_91 ?_
      refine lv_if_eq (tgt := 101) hx hb prd_X_named_94 (by decide) (fun c70 => ?_) (fun c70 => ?_)
      · have hf := pr_it c70 hf
        refine lv_aload_n hx hb prd_X_named_101 rfl (lv_at hl 2 rfl) ?_
        refine lv_iload_n hx hb prd_X_named_102 rfl (lv_at hl 4 rfl) ?_
        refine lv_iconst (v := 1) hx hb prd_X_named_103 (by decide) ?_
        refine lv_iadd hx hb prd_X_named_104 ?_
        obtain ⟨r71, hr71, hf⟩ := pr_bi hf
        refine pr_callVi (rest := [.int r67.1, .ref (ad 0)]) (res := r71) ⟨hx, hb, hml, hown, hts⟩ 0 (prct_X_sum hD hX r69 (x2 + 1) r71 hr71) (prg_X_sum hts prw_935 (by have := hh; omega)) hX hXs hK hP hS (by decide) rfl rfl rfl rfl hl.1 (Nat.le_of_ble_eq_true rfl) prd_X_named_105 (fun H locs hP hS => ?_)
        obtain ⟨r72, hr72, hf⟩ := pr_bi hf
        refine pr_callVv (rest := []) (res := r72) ⟨hx, hb, hml, hown, hts⟩ 0 (prc_X_join hD hX 0 (Nat.le_refl _) r71.2 r67.1 r71.1 r72 hr72) (prg_X_join hts prw_926 (by have := hh; omega)) hX hXs hK hP hS (by decide) rfl rfl rfl rfl hl.1 (Nat.le_of_ble_eq_true rfl) prd_X_named_108 (fun H locs hP hS => ?_)
        refine lv_aload_n hx hb prd_X_named_111 rfl (lv_at hl 2 rfl) ?_
        refine lv_bipush (v := 93) hx hb prd_X_named_112 (by decide) ?_
        obtain ⟨r73, hr73, hf⟩ := pr_bi hf
        refine pr_callVv (rest := []) (res := r73) ⟨hx, hb, hml, hown, hts⟩ 0 (prc_X_take hD hX 1 (Nat.le_refl _) r72 93 r73 hr73) (prg_X_take hts prw_915 (by have := hh; omega)) hX hXs hK hP hS (by decide) rfl rfl rfl rfl hl.1 (Nat.le_of_ble_eq_true rfl) prd_X_named_114 (fun H locs hP hS => ?_)
        refine lv_aload_n hx hb prd_X_named_117 rfl (lv_at hl 2 rfl) ?_
        refine lv_bipush (v := 61) hx hb prd_X_named_118 (by decide) ?_
        obtain ⟨r74, hr74, hf⟩ := pr_bi hf
        refine pr_callVv (rest := []) (res := r74) ⟨hx, hb, hml, hown, hts⟩ 0 (prc_X_take hD hX 1 (Nat.le_refl _) r73 61 r74 hr74) (prg_X_take hts prw_915 (by have := hh; omega)) hX hXs hK hP hS (by decide) rfl rfl rfl rfl hl.1 (Nat.le_of_ble_eq_true rfl) prd_X_named_120 (fun H locs hP hS => ?_)
        refine lv_aload_n hx hb prd_X_named_123 rfl (lv_at hl 2 rfl) ?_
        refine lv_iload hx hb prd_X_named_124 (lv_at hl 0 rfl) ?_
        refine lv_aload_n hx hb prd_X_named_126 rfl (lv_at hl 2 rfl) ?_
        refine pr_geti (v := (r74.1 0 9)) hx hb hts prs_X hown hK hP 0 9 (by decide) rfl (hts _ prw_887) rfl rfl prd_X_named_127 ?_
        refine lv_if_eq (tgt := 137) hx hb prd_X_named_130 (by decide) (fun c75 => ?_) (fun c75 => ?_)
        · have hf := pr_it c75 hf
          refine lv_aload_n hx hb prd_X_named_137 rfl (lv_at hl 2 rfl) ?_
          refine lv_iload_n hx hb prd_X_named_138 rfl (lv_at hl 4 rfl) ?_
          refine lv_iconst (v := 1) hx hb prd_X_named_139 (by decide) ?_
          refine lv_iadd hx hb prd_X_named_140 ?_
          obtain ⟨r76, hr76, hf⟩ := pr_bi hf
          refine pr_callVi (rest := [.int r67.1, .ref (ad 0)]) (res := r76) ⟨hx, hb, hml, hown, hts⟩ 0 (prct_X_sum hD hX r74 (x2 + 1) r76 hr76) (prg_X_sum hts prw_935 (by have := hh; omega)) hX hXs hK hP hS (by decide) rfl rfl rfl rfl hl.1 (Nat.le_of_ble_eq_true rfl) prd_X_named_141 (fun H locs hP hS => ?_)
          obtain ⟨r77, hr77, hf⟩ := pr_bi hf
          refine pr_callVv (rest := []) (res := r77) ⟨hx, hb, hml, hown, hts⟩ 0 (prc_X_join hD hX 0 (Nat.le_refl _) r76.2 r67.1 r76.1 r77 hr77) (prg_X_join hts prw_926 (by have := hh; omega)) hX hXs hK hP hS (by decide) rfl rfl rfl rfl hl.1 (Nat.le_of_ble_eq_true rfl) prd_X_named_144 (fun H locs hP hS => ?_)
          refine lv_iload hx hb prd_X_named_147 (lv_at hl 0 rfl) ?_
          exact pr_reti E hP hS (pr_so hf) prd_X_named_149
        · have hf := pr_ie c75 hf
          refine lv_iconst (v := (-1)) hx hb prd_X_named_133 (by decide) ?_
          refine lv_goto (tgt := 144) hx hb prd_X_named_134 (by decide) ?_
          obtain ⟨r78, hr78, hf⟩ := pr_bi hf
          refine pr_callVv (rest := []) (res := r78) ⟨hx, hb, hml, hown, hts⟩ 0 (prc_X_join hD hX 0 (Nat.le_refl _) r74 r67.1 (-1) r78 hr78) (prg_X_join hts prw_926 (by have := hh; omega)) hX hXs hK hP hS (by decide) rfl rfl rfl rfl hl.1 (Nat.le_of_ble_eq_true rfl) prd_X_named_144 (fun H locs hP hS => ?_)
          refine lv_iload hx hb prd_X_named_147 (lv_at hl 0 rfl) ?_
          exact pr_reti E hP hS (pr_so hf) prd_X_named_149
      · have hf := pr_ie c70 hf
        refine lv_iconst (v := (-1)) hx hb prd_X_named_97 (by decide) ?_
        refine lv_goto (tgt := 108) hx hb prd_X_named_98 (by decide) ?_
        obtain ⟨r79, hr79, hf⟩ := pr_bi hf
        refine pr_callVv (rest := []) (res := r79) ⟨hx, hb, hml, hown, hts⟩ 0 (prc_X_join hD hX 0 (Nat.le_refl _) r69 r67.1 (-1) r79 hr79) (prg_X_join hts prw_926 (by have := hh; omega)) hX hXs hK hP hS (by decide) rfl rfl rfl rfl hl.1 (Nat.le_of_ble_eq_true rfl) prd_X_named_108 (fun H locs hP hS => ?_)
        refine lv_aload_n hx hb prd_X_named_111 rfl (lv_at hl 2 rfl) ?_
        refine lv_bipush (v := 93) hx hb prd_X_named_112 (by decide) ?_
        obtain ⟨r80, hr80, hf⟩ := pr_bi hf
        refine pr_callVv (rest := []) (res := r80) ⟨hx, hb, hml, hown, hts⟩ 0 (prc_X_take hD hX 1 (Nat.le_refl _) r79 93 r80 hr80) (prg_X_take hts prw_915 (by have := hh; omega)) hX hXs hK hP hS (by decide) rfl rfl rfl rfl hl.1 (Nat.le_of_ble_eq_true rfl) prd_X_named_114 (fun H locs hP hS => ?_)
        refine lv_aload_n hx hb prd_X_named_117 rfl (lv_at hl 2 rfl) ?_
        refine lv_bipush (v := 61) hx hb prd_X_named_118 (by decide) ?_
        obtain ⟨r81, hr81, hf⟩ := pr_bi hf
        refine pr_callVv (rest := []) (res := r81) ⟨hx, hb, hml, hown, hts⟩ 0 (prc_X_take hD hX 1 (Nat.le_refl _) r80 61 r81 hr81) (prg_X_take hts prw_915 (by have := hh; omega)) hX hXs hK hP hS (by decide) rfl rfl rfl rfl hl.1 (Nat.le_of_ble_eq_true rfl) prd_X_named_120 (fun H locs hP hS => ?_)
        refine lv_aload_n hx hb prd_X_named_123 rfl (lv_at hl 2 rfl) ?_
        refine lv_iload hx hb prd_X_named_124 (lv_at hl 0 rfl) ?_
        refine lv_aload_n hx hb prd_X_named_126 rfl (lv_at hl 2 rfl) ?_
        refine pr_geti (v := (r81.1 0 9)) hx hb hts prs_X hown hK hP 0 9 (by decide) rfl (hts _ prw_887) rfl rfl prd_X_named_127 ?_
        refine lv_if_eq (tgt := 137) hx hb prd_X_named_130 (by decide) (fun c82 => ?_) (fun c82 => ?_)
        · have hf := pr_it c82 hf
          refine lv_aload_n hx hb prd_X_named_137 rfl (lv_at hl 2 rfl) ?_
          refine lv_iload_n hx hb prd_X_named_138 rfl (lv_at hl 4 rfl) ?_
          refine lv_iconst (v := 1) hx hb prd_X_named_139 (by decide) ?_
          refine lv_iadd hx hb prd_X_named_140 ?_
          obtain ⟨r83, hr83, hf⟩ := pr_bi hf
          refine pr_callVi (rest := [.int r67.1, .ref (ad 0)]) (res := r83) ⟨hx, hb, hml, hown, hts⟩ 0 (prct_X_sum hD hX r81 (x2 + 1) r83 hr83) (prg_X_sum hts prw_935 (by have := hh; omega)) hX hXs hK hP hS (by decide) rfl rfl rfl rfl hl.1 (Nat.le_of_ble_eq_true rfl) prd_X_named_141 (fun H locs hP hS => ?_)
          obtain ⟨r84, hr84, hf⟩ := pr_bi hf
          refine pr_callVv (rest := []) (res := r84) ⟨hx, hb, hml, hown, hts⟩ 0 (prc_X_join hD hX 0 (Nat.le_refl _) r83.2 r67.1 r83.1 r84 hr84) (prg_X_join hts prw_926 (by have := hh; omega)) hX hXs hK hP hS (by decide) rfl rfl rfl rfl hl.1 (Nat.le_of_ble_eq_true rfl) prd_X_named_144 (fun H locs hP hS => ?_)
          refine lv_iload hx hb prd_X_named_147 (lv_at hl 0 rfl) ?_
          exact pr_reti E hP hS (pr_so hf) prd_X_named_149
        · have hf := pr_ie c82 hf
          refine lv_iconst (v := (-1)) hx hb prd_X_named_133 (by decide) ?_
          refine lv_goto (tgt := 144) hx hb prd_X_named_134 (by decide) ?_
          obtain ⟨r85, hr85, hf⟩ := pr_bi hf
          refine pr_callVv (rest := []) (res := r85) ⟨hx, hb, hml, hown, hts⟩ 0 (prc_X_join hD hX 0 (Nat.le_refl _) r81 r67.1 (-1) r85 hr85) (prg_X_join hts prw_926 (by have := hh; omega)) hX hXs hK hP hS (by decide) rfl rfl rfl rfl hl.1 (Nat.le_of_ble_eq_true rfl) prd_X_named_144 (fun H locs hP hS => ?_)
          refine lv_iload hx hb prd_X_named_147 (lv_at hl 0 rfl) ?_
          exact pr_reti E hP hS (pr_so hf) prd_X_named_149
  · have hf := pr_it c54 hf
    refine lv_aload_n hx hb prd_X_named_14 rfl (lv_at hl 1 rfl) ?_
    refine lv_bipush (v := 7) hx hb prd_X_named_15 (by decide) ?_
    refine lv_iload_n hx hb prd_X_named_17 rfl (lv_at hl 2 rfl) ?_
    refine lv_iconst (v := 0) hx hb prd_X_named_18 (by decide) ?_
    obtain ⟨r86, hr86, hf⟩ := pr_bi hf
    refine pr_callVi (rest := []) (res := r86) ⟨hx, hb, hml, hown, hts⟩ 0 (prc_X_draft hD hX 0 (Nat.le_refl _) r52.2 7 x1 0 r86 hr86) (prg_X_draft hts prw_914 (by have := hh; omega)) hX hXs hK hP hS (by decide) rfl rfl rfl rfl hl.1 (Nat.le_of_ble_eq_true rfl) prd_X_named_19 (fun H locs hP hS => ?_)
    refine lv_istore (lv' := [(4, .int r86.1), (3, .int r52.1), (0, .ref (ad 0)), (1, .int x1), (2, .int x2)]) hx hb prd_X_named_22 hl (by decide) rfl (fun ls hl => ?_)
    refine lv_aload_n hx hb prd_X_named_24 rfl (lv_at hl 2 rfl) ?_
    refine lv_iload hx hb prd_X_named_25 (lv_at hl 0 rfl) ?_
    refine lv_aload_n hx hb prd_X_named_27 rfl (lv_at hl 2 rfl) ?_
    refine lv_bipush (v := 33) hx hb prd_X_named_28 (by decide) ?_
    refine lv_iload_n hx hb prd_X_named_30 rfl (lv_at hl 3 rfl) ?_
    refine lv_iconst (v := 0) hx hb prd_X_named_31 (by decide) ?_
    obtain ⟨r87, hr87, hf⟩ := pr_bi hf
    refine pr_callVi (rest := [.int r86.1, .ref (ad 0)]) (res := r87) ⟨hx, hb, hml, hown, hts⟩ 0 (prc_X_draft hD hX 0 (Nat.le_refl _) r86.2 33 x1 0 r87 hr87) (prg_X_draft hts prw_914 (by have := hh; omega)) hX hXs hK hP hS (by decide) rfl rfl rfl rfl hl.1 (Nat.le_of_ble_eq_true rfl) prd_X_named_32 (fun H locs hP hS => ?_)
    obtain ⟨r88, hr88, hf⟩ := pr_bi hf
    refine pr_callVv (rest := []) (res := r88) ⟨hx, hb, hml, hown, hts⟩ 0 (prc_X_join hD hX 0 (Nat.le_refl _) r87.2 r86.1 r87.1 r88 hr88) (prg_X_join hts prw_926 (by have := hh; omega)) hX hXs hK hP hS (by decide) rfl rfl rfl rfl hl.1 (Nat.le_of_ble_eq_true rfl) prd_X_named_35 (fun H locs hP hS => ?_)
    refine lv_aload_n hx hb prd_X_named_38 rfl (lv_at hl 2 rfl) ?_
    refine lv_iload hx hb prd_X_named_39 (lv_at hl 0 rfl) ?_
    refine lv_iload_n hx hb prd_X_named_41 rfl (lv_at hl 1 rfl) ?_
    obtain ⟨r89, hr89, hf⟩ := pr_bi hf
    refine pr_callVv (rest := []) (res := r89) ⟨hx, hb, hml, hown, hts⟩ 0 (prc_X_join hD hX 0 (Nat.le_refl _) r88 r86.1 r52.1 r89 hr89) (prg_X_join hts prw_926 (by have := hh; omega)) hX hXs hK hP hS (by decide) rfl rfl rfl rfl hl.1 (Nat.le_of_ble_eq_true rfl) prd_X_named_42 (fun H locs hP hS => ?_)
    refine lv_aload_n hx hb prd_X_named_45 rfl (lv_at hl 2 rfl) ?_
    refine lv_iload hx hb prd_X_named_46 (lv_at hl 0 rfl) ?_
    refine lv_iload_n hx hb prd_X_named_48 rfl (lv_at hl 4 rfl) ?_
    obtain ⟨r90, hr90, hf⟩ := pr_bi hf
    refine pr_callVv (rest := []) (res := r90) ⟨hx, hb, hml, hown, hts⟩ 0 (prc_X_sums hD hX 216 (Nat.le_refl _) r89 r86.1 x2 r90 hr90) (prg_X_sums hts prw_956 (by have := hh; omega)) hX hXs hK hP hS (by decide) rfl rfl rfl rfl hl.1 (Nat.le_of_ble_eq_true rfl) prd_X_named_49 (fun H locs hP hS => ?_)
    refine lv_iload hx hb prd_X_named_52 (lv_at hl 0 rfl) ?_
    exact pr_reti E hP hS (pr_so hf) prd_X_named_54
-- X_block1
set_option maxHeartbeats 4000000 in
set_option maxRecDepth 100000 in
theorem prk_X_block1_27 {l : Launch} {D : va_G} {ad : Nat → Nat} {dA : Nat → ClassId} {A : Nat → Prop} {v : Nat → Nat} {r : Value} {p : Program} {e : Env} {s : State} {m : MethodId} {args : Array Value} {below : List Frame} {meth : Method} {c : Code} (hd : Nat) (hb0 : 618 ≤ hd) {h : Nat} (hh : hd + 1 ≤ h) (E : pr_cx prn_X prb_X_block1 3 (some .int) D pr_cl prx_L ad dA A (prY ad v r A) p s m args meth c) {rc : pr_St → Int32 → Option (Int32 × pr_St)} (Hrc0 : ∀ (σ : pr_St) (x1 : Int32) (res : (Int32 × pr_St)), rc σ x1 = some res → Met l pry_X_statement1 (Cond.code pry_X_statement1 prb_X_statement1 6 (some .int) :: pr_U) (pr_rm hd) (pr_Pc (prY ad v r A) D pr_cl prx_L ad dA [.ref (ad 0), .int x1] σ) (pr_Qi D pr_cl prx_L ad dA A res) 0 0 A) : ∀ n : Nat, ∀ (σ : pr_St) (x1 : Int32) (x2 : Int32) (res : (Int32 × pr_St)), some res = prf_X_block1_27 rc n σ x1 x2 → ∀ (H : Heap) (locs : List Loc) (ls : Array Slot), va_P D pr_cl (pr_w prx_L ad dA σ) H → va_S A s.heap H locs → lv_has ls 3 [(0, .ref (ad 0)), (1, .int x1), (2, .int x2)] → W p l e (pr_rm h) s m args below meth c H locs 0 0 (MQ below (pr_Qi D pr_cl prx_L ad dA A res) args s 0 0 A) (F0 m 27 ls []) := by
  obtain ⟨hx, hb, hml, hown, hts, hr, hlocks, hK, hD, hX, hXs⟩ := id E
  intro n
  induction n with
  | zero =>
    intro σ x1 x2 res hf
    rw [prf_X_block1_27] at hf
    cases hf
  | succ n ih =>
    intro σ x1 x2 res hf H locs ls hP hS hl
    rw [prf_X_block1_27] at hf
    refine lv_aload_n hx hb prd_X_block1_27 rfl (lv_at hl 0 rfl) ?_
    refine pr_geti (v := (σ.1 0 9)) hx hb hts prs_X hown hK hP 0 9 (by decide) rfl (hts _ prw_887) rfl rfl prd_X_block1_28 ?_
    refine lv_if_ne (tgt := 56) hx hb prd_X_block1_31 (by decide) (fun c12 => ?_) (fun c12 => ?_)
    · have hf := pr_ie c12 hf
      refine lv_aload_n hx hb prd_X_block1_56 rfl (lv_at hl 0 rfl) ?_
      refine lv_bipush (v := 125) hx hb prd_X_block1_57 (by decide) ?_
      obtain ⟨r13, hr13, hf⟩ := pr_bi hf
      refine pr_callVv (rest := []) (res := r13) ⟨hx, hb, hml, hown, hts⟩ 0 (prc_X_take hD hX 1 (Nat.le_refl _) σ 125 r13 hr13) (prg_X_take hts prw_915 (by have := hh; omega)) hX hXs hK hP hS (by decide) rfl rfl rfl rfl hl.1 (Nat.le_of_ble_eq_true rfl) prd_X_block1_59 (fun H locs hP hS => ?_)
      refine lv_iload_n hx hb prd_X_block1_62 rfl (lv_at hl 2 rfl) ?_
      exact pr_reti E hP hS (pr_so hf) prd_X_block1_63
    · have hf := pr_it c12 hf
      refine lv_aload_n hx hb prd_X_block1_34 rfl (lv_at hl 0 rfl) ?_
      obtain ⟨r14, hr14, hf⟩ := pr_bi hf
      refine pr_callVr (rest := []) (r := r14) ⟨hx, hb, hml, hown, hts⟩ 0 (prc_X_look hD hX 0 (Nat.le_refl _) σ  r14 hr14) (prg_X_look hts prw_896 (by have := hh; omega)) hX hXs hK hP hS (by decide) rfl rfl rfl rfl hl.1 (Nat.le_of_ble_eq_true rfl) prd_X_block1_35 (fun H locs hP hS => ?_)
      refine lv_bipush (v := 125) hx hb prd_X_block1_38 (by decide) ?_
      refine lv_icmp_eq (tgt := 56) hx hb prd_X_block1_40 (by decide) (fun c15 => ?_) (fun c15 => ?_)
      · have hf := pr_it c15 hf
        refine lv_aload_n hx hb prd_X_block1_56 rfl (lv_at hl 0 rfl) ?_
        refine lv_bipush (v := 125) hx hb prd_X_block1_57 (by decide) ?_
        obtain ⟨r16, hr16, hf⟩ := pr_bi hf
        refine pr_callVv (rest := []) (res := r16) ⟨hx, hb, hml, hown, hts⟩ 0 (prc_X_take hD hX 1 (Nat.le_refl _) σ 125 r16 hr16) (prg_X_take hts prw_915 (by have := hh; omega)) hX hXs hK hP hS (by decide) rfl rfl rfl rfl hl.1 (Nat.le_of_ble_eq_true rfl) prd_X_block1_59 (fun H locs hP hS => ?_)
        refine lv_iload_n hx hb prd_X_block1_62 rfl (lv_at hl 2 rfl) ?_
        exact pr_reti E hP hS (pr_so hf) prd_X_block1_63
      · have hf := pr_ie c15 hf
        refine lv_aload_n hx hb prd_X_block1_43 rfl (lv_at hl 0 rfl) ?_
        refine lv_iload_n hx hb prd_X_block1_44 rfl (lv_at hl 2 rfl) ?_
        refine lv_aload_n hx hb prd_X_block1_45 rfl (lv_at hl 0 rfl) ?_
        refine lv_iload_n hx hb prd_X_block1_46 rfl (lv_at hl 1 rfl) ?_
        obtain ⟨r17, hr17, hf⟩ := pr_bi hf
        refine pr_callVi (rest := [.int x2, .ref (ad 0)]) (res := r17) ⟨hx, hb, hml, hown, hts⟩ 0 (Hrc0 σ x1 r17 hr17) (prg_X_statement1 hts prw_960 (by have := hh; omega)) hX hXs hK hP hS (by decide) rfl rfl rfl rfl hl.1 (Nat.le_of_ble_eq_true rfl) prd_X_block1_47 (fun H locs hP hS => ?_)
        obtain ⟨r18, hr18, hf⟩ := pr_bi hf
        refine pr_callVv (rest := []) (res := r18) ⟨hx, hb, hml, hown, hts⟩ 0 (prc_X_join hD hX 0 (Nat.le_refl _) r17.2 x2 r17.1 r18 hr18) (prg_X_join hts prw_926 (by have := hh; omega)) hX hXs hK hP hS (by decide) rfl rfl rfl rfl hl.1 (Nat.le_of_ble_eq_true rfl) prd_X_block1_50 (fun H locs hP hS => ?_)
        refine lv_goto (tgt := 27) hx hb prd_X_block1_53 (by decide) ?_
        exact ih r18 x1 x2 _ hf _ _ _ hP hS (lv_sub hl [0, 1, 2] rfl)
set_option maxHeartbeats 4000000 in
set_option maxRecDepth 100000 in
theorem prc_X_block1 {l : Launch} {D : va_G} {ad : Nat → Nat} {dA : Nat → ClassId} {A : Nat → Prop} {v : Nat → Nat} {r : Value} (hD : ∀ σ : pr_St, va_D A (pr_w prx_L ad dA σ)) (hX : pr_Xok A (prY ad v r A)) (hd : Nat) (hb0 : 618 ≤ hd) (h : Nat) (hh : hd + 1 ≤ h) {rc : pr_St → Int32 → Option (Int32 × pr_St)} (Hrc0 : ∀ (σ : pr_St) (x1 : Int32) (res : (Int32 × pr_St)), rc σ x1 = some res → Met l pry_X_statement1 (Cond.code pry_X_statement1 prb_X_statement1 6 (some .int) :: pr_U) (pr_rm hd) (pr_Pc (prY ad v r A) D pr_cl prx_L ad dA [.ref (ad 0), .int x1] σ) (pr_Qi D pr_cl prx_L ad dA A res) 0 0 A) (σ : pr_St) (x1 : Int32) (res : (Int32 × pr_St)) (hf : prf_X_block1 rc σ x1 = some res) : Met l pry_X_block1 (Cond.code pry_X_block1 prb_X_block1 3 (some .int) :: pr_U) (pr_rm h) (pr_Pc (prY ad v r A) D pr_cl prx_L ad dA [.ref (ad 0), .int x1] σ) (pr_Qi D pr_cl prx_L ad dA A res) 0 0 A := by
  refine pr_entry (cc := prb_X_block1) (maxL := 3) (ret := (some .int)) (by decide) (Nat.le_of_ble_eq_true rfl) hD hX ?_
  intro p e s m args below meth c E H locs hP hS ls hl
  have hl : lv_has ls 3 [(0, .ref (ad 0)), (1, .int x1)] := hl
  have hf := hf.symm
  unfold prf_X_block1 at hf
  obtain ⟨hx, hb, hml, hown, hts, hr, hlocks, hK, hD, hX, hXs⟩ := id E
  refine lv_aload_n hx hb prd_X_block1_0 rfl (lv_at hl 0 rfl) ?_
  refine lv_iload_n hx hb prd_X_block1_1 rfl (lv_at hl 1 rfl) ?_
  obtain ⟨r19, hr19, hf⟩ := pr_bi hf
  refine pr_callVv (rest := []) (res := r19) ⟨hx, hb, hml, hown, hts⟩ 0 (prc_X_deep hD hX 1 (Nat.le_refl _) σ x1 r19 hr19) (prg_X_deep hts prw_930 (by have := hh; omega)) hX hXs hK hP hS (by decide) rfl rfl rfl rfl hl.1 (Nat.le_of_ble_eq_true rfl) prd_X_block1_2 (fun H locs hP hS => ?_)
  refine lv_aload_n hx hb prd_X_block1_5 rfl (lv_at hl 0 rfl) ?_
  refine lv_iconst (v := 2) hx hb prd_X_block1_6 (by decide) ?_
  refine lv_aload_n hx hb prd_X_block1_7 rfl (lv_at hl 0 rfl) ?_
  refine pr_getr (t := 4) hx hb hts prs_X hown hK hP 0 5 (by decide) rfl (hts _ prw_882) rfl prd_X_block1_8 ?_
  refine lv_aload_n hx hb prd_X_block1_11 rfl (lv_at hl 0 rfl) ?_
  refine pr_geti (v := (r19.1 0 8)) hx hb hts prs_X hown hK hP 0 8 (by decide) rfl (hts _ prw_888) rfl rfl prd_X_block1_12 ?_
  obtain ⟨hi20, hf⟩ := pr_ck_in hf
  refine pr_iald (f := (r19.2.1 4)) hx hb hK hP 4 (by decide) rfl hi20 rfl prd_X_block1_15 ?_
  refine lv_iconst (v := 0) hx hb prd_X_block1_16 (by decide) ?_
  obtain ⟨r21, hr21, hf⟩ := pr_bi hf
  refine pr_callVi (rest := []) (res := r21) ⟨hx, hb, hml, hown, hts⟩ 0 (prc_X_draft hD hX 0 (Nat.le_refl _) r19 2 ((r19.2.1 4) (r19.1 0 8).toNatClampNeg) 0 r21 hr21) (prg_X_draft hts prw_914 (by have := hh; omega)) hX hXs hK hP hS (by decide) rfl rfl rfl rfl hl.1 (Nat.le_of_ble_eq_true rfl) prd_X_block1_17 (fun H locs hP hS => ?_)
  refine lv_istore_n (lv' := [(2, .int r21.1), (0, .ref (ad 0)), (1, .int x1)]) hx hb prd_X_block1_20 rfl hl (by decide) rfl (fun ls hl => ?_)
  refine lv_aload_n hx hb prd_X_block1_21 rfl (lv_at hl 1 rfl) ?_
  refine lv_bipush (v := 123) hx hb prd_X_block1_22 (by decide) ?_
  obtain ⟨r22, hr22, hf⟩ := pr_bi hf
  refine pr_callVv (rest := []) (res := r22) ⟨hx, hb, hml, hown, hts⟩ 0 (prc_X_take hD hX 1 (Nat.le_refl _) r21.2 123 r22 hr22) (prg_X_take hts prw_915 (by have := hh; omega)) hX hXs hK hP hS (by decide) rfl rfl rfl rfl hl.1 (Nat.le_of_ble_eq_true rfl) prd_X_block1_24 (fun H locs hP hS => ?_)
  exact prk_X_block1_27 hd hb0 hh E Hrc0 pr_FU r22 x1 r21.1 _ hf _ _ _ hP hS (lv_sub hl [1, 2, 0] rfl)
