-- X_statement1
set_option maxHeartbeats 4000000 in
set_option maxRecDepth 100000 in
theorem prk_X_statement1_187 {l : Launch} {D : va_G} {ad : Nat → Nat} {dA : Nat → ClassId} {A : Nat → Prop} {v : Nat → Nat} {r : Value} {p : Program} {e : Env} {s : State} {m : MethodId} {args : Array Value} {below : List Frame} {meth : Method} {c : Code} (hd : Nat) (hb0 : 618 ≤ hd) {h : Nat} (hh : hd + 2 ≤ h) (E : pr_cx prn_X prb_X_statement1 6 (some .int) D pr_cl prx_L ad dA A (prY ad v r A) p s m args meth c) {rc : pr_St → Int32 → Option (Int32 × pr_St)} (Hrc0 : ∀ (σ : pr_St) (x1 : Int32) (res : (Int32 × pr_St)), rc σ x1 = some res → Met l pry_X_statement1 (Cond.code pry_X_statement1 prb_X_statement1 6 (some .int) :: pr_U) (pr_rm hd) (pr_Pc (prY ad v r A) D pr_cl prx_L ad dA [.ref (ad 0), .int x1] σ) (pr_Qi D pr_cl prx_L ad dA A res) 0 0 A) : ∀ (σ : pr_St) (x1 : Int32) (x2 : Int32) (x3 : Int32) (res : (Int32 × pr_St)), some res = prf_X_statement1_187 rc σ x1 x2 x3 → ∀ (H : Heap) (locs : List Loc) (ls : Array Slot), va_P D pr_cl (pr_w prx_L ad dA σ) H → va_S A s.heap H locs → lv_has ls 6 [(0, .ref (ad 0)), (1, .int x1), (2, .int x2), (3, .int x3)] → W p l e (pr_rm h) s m args below meth c H locs 0 0 (MQ below (pr_Qi D pr_cl prx_L ad dA A res) args s 0 0 A) (F0 m 187 ls []) := by
  obtain ⟨hx, hb, hml, hown, hts, hr, hlocks, hK, hD, hX, hXs⟩ := id E
  intro σ x1 x2 x3 res hf H locs ls hP hS hl
  unfold prf_X_statement1_187 at hf
  refine lv_aload_n hx hb prd_X_statement1_187 rfl (lv_at hl 0 rfl) ?_
  refine lv_iload_n hx hb prd_X_statement1_188 rfl (lv_at hl 3 rfl) ?_
  refine lv_sipush (v := 302) hx hb prd_X_statement1_189 (by decide) ?_
  refine lv_icmp_ne (tgt := 200) hx hb prd_X_statement1_192 (by decide) (fun c170 => ?_) (fun c170 => ?_)
  · have hf := pr_ie c170 hf
    refine lv_bipush (v := 9) hx hb prd_X_statement1_200 (by decide) ?_
    refine lv_iload_n hx hb prd_X_statement1_202 rfl (lv_at hl 2 rfl) ?_
    refine lv_iconst (v := 0) hx hb prd_X_statement1_203 (by decide) ?_
    obtain ⟨r171, hr171, hf⟩ := pr_bi hf
    refine pr_callVi (rest := []) (res := r171) ⟨hx, hb, hml, hown, hts⟩ 0 (prc_X_draft hD hX 0 (Nat.le_refl _) σ 9 x2 0 r171 hr171) (prg_X_draft hts prw_914 (by have := hh; omega)) hX hXs hK hP hS (by decide) rfl rfl rfl rfl hl.1 (Nat.le_of_ble_eq_true rfl) prd_X_statement1_204 (fun H locs hP hS => ?_)
    refine lv_istore (lv' := [(4, .int r171.1), (0, .ref (ad 0)), (1, .int x1), (2, .int x2), (3, .int x3)]) hx hb prd_X_statement1_207 hl (by decide) rfl (fun ls hl => ?_)
    refine lv_aload_n hx hb prd_X_statement1_209 rfl (lv_at hl 1 rfl) ?_
    refine lv_iload_n hx hb prd_X_statement1_210 rfl (lv_at hl 4 rfl) ?_
    obtain ⟨r172, hr172, hf⟩ := pr_bi hf
    refine pr_callVv (rest := []) (res := r172) ⟨hx, hb, hml, hown, hts⟩ 0 (prc_X_take hD hX 1 (Nat.le_refl _) r171.2 x3 r172 hr172) (prg_X_take hts prw_915 (by have := hh; omega)) hX hXs hK hP hS (by decide) rfl rfl rfl rfl hl.1 (Nat.le_of_ble_eq_true rfl) prd_X_statement1_211 (fun H locs hP hS => ?_)
    refine lv_aload_n hx hb prd_X_statement1_214 rfl (lv_at hl 1 rfl) ?_
    refine lv_bipush (v := 40) hx hb prd_X_statement1_215 (by decide) ?_
    obtain ⟨r173, hr173, hf⟩ := pr_bi hf
    refine pr_callVv (rest := []) (res := r173) ⟨hx, hb, hml, hown, hts⟩ 0 (prc_X_take hD hX 1 (Nat.le_refl _) r172 40 r173 hr173) (prg_X_take hts prw_915 (by have := hh; omega)) hX hXs hK hP hS (by decide) rfl rfl rfl rfl hl.1 (Nat.le_of_ble_eq_true rfl) prd_X_statement1_217 (fun H locs hP hS => ?_)
    refine lv_aload_n hx hb prd_X_statement1_220 rfl (lv_at hl 1 rfl) ?_
    refine lv_iload hx hb prd_X_statement1_221 (lv_at hl 0 rfl) ?_
    refine lv_aload_n hx hb prd_X_statement1_223 rfl (lv_at hl 1 rfl) ?_
    refine pr_geti (v := (r173.1 0 9)) hx hb hts prs_X hown hK hP 0 9 (by decide) rfl (hts _ prw_887) rfl rfl prd_X_statement1_224 ?_
    refine lv_if_eq (tgt := 234) hx hb prd_X_statement1_227 (by decide) (fun c174 => ?_) (fun c174 => ?_)
    · have hf := pr_it c174 hf
      refine lv_aload_n hx hb prd_X_statement1_234 rfl (lv_at hl 1 rfl) ?_
      refine lv_iload_n hx hb prd_X_statement1_235 rfl (lv_at hl 2 rfl) ?_
      refine lv_iconst (v := 1) hx hb prd_X_statement1_236 (by decide) ?_
      refine lv_iadd hx hb prd_X_statement1_237 ?_
      obtain ⟨r175, hr175, hf⟩ := pr_bi hf
      refine pr_callVi (rest := [.int r171.1, .ref (ad 0)]) (res := r175) ⟨hx, hb, hml, hown, hts⟩ 0 (prct_X_cond hD hX r173 (x1 + 1) r175 hr175) (prg_X_cond hts prw_945 (by have := hh; omega)) hX hXs hK hP hS (by decide) rfl rfl rfl rfl hl.1 (Nat.le_of_ble_eq_true rfl) prd_X_statement1_238 (fun H locs hP hS => ?_)
      obtain ⟨r176, hr176, hf⟩ := pr_bi hf
      refine pr_callVv (rest := []) (res := r176) ⟨hx, hb, hml, hown, hts⟩ 0 (prc_X_join hD hX 0 (Nat.le_refl _) r175.2 r171.1 r175.1 r176 hr176) (prg_X_join hts prw_926 (by have := hh; omega)) hX hXs hK hP hS (by decide) rfl rfl rfl rfl hl.1 (Nat.le_of_ble_eq_true rfl) prd_X_statement1_241 (fun H locs hP hS => ?_)
      refine lv_aload_n hx hb prd_X_statement1_244 rfl (lv_at hl 1 rfl) ?_
      refine lv_bipush (v := 41) hx hb prd_X_statement1_245 (by decide) ?_
      obtain ⟨r177, hr177, hf⟩ := pr_bi hf
      refine pr_callVv (rest := []) (res := r177) ⟨hx, hb, hml, hown, hts⟩ 0 (prc_X_take hD hX 1 (Nat.le_refl _) r176 41 r177 hr177) (prg_X_take hts prw_915 (by have := hh; omega)) hX hXs hK hP hS (by decide) rfl rfl rfl rfl hl.1 (Nat.le_of_ble_eq_true rfl) prd_X_statement1_247 (fun H locs hP hS => ?_)
      refine lv_aload_n hx hb prd_X_statement1_250 rfl (lv_at hl 1 rfl) ?_
      refine lv_iload hx hb prd_X_statement1_251 (lv_at hl 0 rfl) ?_
      refine lv_aload_n hx hb prd_X_statement1_253 rfl (lv_at hl 1 rfl) ?_
      refine pr_geti (v := (r177.1 0 9)) hx hb hts prs_X hown hK hP 0 9 (by decide) rfl (hts _ prw_887) rfl rfl prd_X_statement1_254 ?_
      refine lv_if_eq (tgt := 264) hx hb prd_X_statement1_257 (by decide) (fun c178 => ?_) (fun c178 => ?_)
      · have hf := pr_it c178 hf
        refine lv_aload_n hx hb prd_X_statement1_264 rfl (lv_at hl 1 rfl) ?_
        refine lv_iload_n hx hb prd_X_statement1_265 rfl (lv_at hl 2 rfl) ?_
        refine lv_iconst (v := 1) hx hb prd_X_statement1_266 (by decide) ?_
        refine lv_iadd hx hb prd_X_statement1_267 ?_
        obtain ⟨r179, hr179, hf⟩ := pr_bi hf
        refine pr_callVi (rest := [.int r171.1, .ref (ad 0)]) (res := r179) ⟨hx, hb, hml, hown, hts⟩ 0 (prc_X_block1 hD hX hd hb0 (hd + 1) (Nat.le_refl _) Hrc0 r177 (x1 + 1) r179 hr179) (prg_X_block1 hts prw_965 (by have := hh; omega)) hX hXs hK hP hS (by decide) rfl rfl rfl rfl hl.1 (Nat.le_of_ble_eq_true rfl) prd_X_statement1_268 (fun H locs hP hS => ?_)
        obtain ⟨r180, hr180, hf⟩ := pr_bi hf
        refine pr_callVv (rest := []) (res := r180) ⟨hx, hb, hml, hown, hts⟩ 0 (prc_X_join hD hX 0 (Nat.le_refl _) r179.2 r171.1 r179.1 r180 hr180) (prg_X_join hts prw_926 (by have := hh; omega)) hX hXs hK hP hS (by decide) rfl rfl rfl rfl hl.1 (Nat.le_of_ble_eq_true rfl) prd_X_statement1_271 (fun H locs hP hS => ?_)
        refine lv_iload_n hx hb prd_X_statement1_274 rfl (lv_at hl 4 rfl) ?_
        refine lv_sipush (v := 302) hx hb prd_X_statement1_275 (by decide) ?_
        refine lv_icmp_ne (tgt := 441) hx hb prd_X_statement1_278 (by decide) (fun c181 => ?_) (fun c181 => ?_)
        · have hf := pr_ie c181 hf
          refine lv_iload hx hb prd_X_statement1_441 (lv_at hl 0 rfl) ?_
          exact pr_reti E hP hS (pr_so hf) prd_X_statement1_443
        · have hf := pr_it c181 hf
          refine lv_aload_n hx hb prd_X_statement1_281 rfl (lv_at hl 1 rfl) ?_
          obtain ⟨r182, hr182, hf⟩ := pr_bi hf
          refine pr_callVr (rest := []) (r := r182) ⟨hx, hb, hml, hown, hts⟩ 0 (prc_X_look hD hX 0 (Nat.le_refl _) r180  r182 hr182) (prg_X_look hts prw_896 (by have := hh; omega)) hX hXs hK hP hS (by decide) rfl rfl rfl rfl hl.1 (Nat.le_of_ble_eq_true rfl) prd_X_statement1_282 (fun H locs hP hS => ?_)
          refine lv_sipush (v := 303) hx hb prd_X_statement1_285 (by decide) ?_
          refine lv_icmp_ne (tgt := 441) hx hb prd_X_statement1_288 (by decide) (fun c183 => ?_) (fun c183 => ?_)
          · have hf := pr_ie c183 hf
            refine lv_iload hx hb prd_X_statement1_441 (lv_at hl 0 rfl) ?_
            exact pr_reti E hP hS (pr_so hf) prd_X_statement1_443
          · have hf := pr_it c183 hf
            refine lv_aload_n hx hb prd_X_statement1_291 rfl (lv_at hl 1 rfl) ?_
            refine lv_sipush (v := 303) hx hb prd_X_statement1_292 (by decide) ?_
            obtain ⟨r184, hr184, hf⟩ := pr_bi hf
            refine pr_callVv (rest := []) (res := r184) ⟨hx, hb, hml, hown, hts⟩ 0 (prc_X_take hD hX 1 (Nat.le_refl _) r180 303 r184 hr184) (prg_X_take hts prw_915 (by have := hh; omega)) hX hXs hK hP hS (by decide) rfl rfl rfl rfl hl.1 (Nat.le_of_ble_eq_true rfl) prd_X_statement1_295 (fun H locs hP hS => ?_)
            refine lv_aload_n hx hb prd_X_statement1_298 rfl (lv_at hl 1 rfl) ?_
            refine lv_iload hx hb prd_X_statement1_299 (lv_at hl 0 rfl) ?_
            refine lv_aload_n hx hb prd_X_statement1_301 rfl (lv_at hl 1 rfl) ?_
            refine pr_geti (v := (r184.1 0 9)) hx hb hts prs_X hown hK hP 0 9 (by decide) rfl (hts _ prw_887) rfl rfl prd_X_statement1_302 ?_
            refine lv_if_eq (tgt := 312) hx hb prd_X_statement1_305 (by decide) (fun c185 => ?_) (fun c185 => ?_)
            · have hf := pr_it c185 hf
              refine lv_aload_n hx hb prd_X_statement1_312 rfl (lv_at hl 1 rfl) ?_
              refine lv_iload_n hx hb prd_X_statement1_313 rfl (lv_at hl 2 rfl) ?_
              refine lv_iconst (v := 1) hx hb prd_X_statement1_314 (by decide) ?_
              refine lv_iadd hx hb prd_X_statement1_315 ?_
              obtain ⟨r186, hr186, hf⟩ := pr_bi hf
              refine pr_callVi (rest := [.int r171.1, .ref (ad 0)]) (res := r186) ⟨hx, hb, hml, hown, hts⟩ 0 (prc_X_block1 hD hX hd hb0 (hd + 1) (Nat.le_refl _) Hrc0 r184 (x1 + 1) r186 hr186) (prg_X_block1 hts prw_965 (by have := hh; omega)) hX hXs hK hP hS (by decide) rfl rfl rfl rfl hl.1 (Nat.le_of_ble_eq_true rfl) prd_X_statement1_316 (fun H locs hP hS => ?_)
              obtain ⟨r187, hr187, hf⟩ := pr_bi hf
              refine pr_callVv (rest := []) (res := r187) ⟨hx, hb, hml, hown, hts⟩ 0 (prc_X_join hD hX 0 (Nat.le_refl _) r186.2 r171.1 r186.1 r187 hr187) (prg_X_join hts prw_926 (by have := hh; omega)) hX hXs hK hP hS (by decide) rfl rfl rfl rfl hl.1 (Nat.le_of_ble_eq_true rfl) prd_X_statement1_319 (fun H locs hP hS => ?_)
              refine lv_goto (tgt := 441) hx hb prd_X_statement1_322 (by decide) ?_
              refine lv_iload hx hb prd_X_statement1_441 (lv_at hl 0 rfl) ?_
              exact pr_reti E hP hS (pr_so hf) prd_X_statement1_443
            · have hf := pr_ie c185 hf
              refine lv_iconst (v := (-1)) hx hb prd_X_statement1_308 (by decide) ?_
              refine lv_goto (tgt := 319) hx hb prd_X_statement1_309 (by decide) ?_
              obtain ⟨r188, hr188, hf⟩ := pr_bi hf
              refine pr_callVv (rest := []) (res := r188) ⟨hx, hb, hml, hown, hts⟩ 0 (prc_X_join hD hX 0 (Nat.le_refl _) r184 r171.1 (-1) r188 hr188) (prg_X_join hts prw_926 (by have := hh; omega)) hX hXs hK hP hS (by decide) rfl rfl rfl rfl hl.1 (Nat.le_of_ble_eq_true rfl) prd_X_statement1_319 (fun H locs hP hS => ?_)
              refine lv_goto (tgt := 441) hx hb prd_X_statement1_322 (by decide) ?_
              refine lv_iload hx hb prd_X_statement1_441 (lv_at hl 0 rfl) ?_
              exact pr_reti E hP hS (pr_so hf) prd_X_statement1_443
      · have hf := pr_ie c178 hf
        refine lv_iconst (v := (-1)) hx hb prd_X_statement1_260 (by decide) ?_
        refine lv_goto (tgt := 271) hx hb prd_X_statement1_261 (by decide) ?_
        obtain ⟨r189, hr189, hf⟩ := pr_bi hf
        refine pr_callVv (rest := []) (res := r189) ⟨hx, hb, hml, hown, hts⟩ 0 (prc_X_join hD hX 0 (Nat.le_refl _) r177 r171.1 (-1) r189 hr189) (prg_X_join hts prw_926 (by have := hh; omega)) hX hXs hK hP hS (by decide) rfl rfl rfl rfl hl.1 (Nat.le_of_ble_eq_true rfl) prd_X_statement1_271 (fun H locs hP hS => ?_)
        refine lv_iload_n hx hb prd_X_statement1_274 rfl (lv_at hl 4 rfl) ?_
        refine lv_sipush (v := 302) hx hb prd_X_statement1_275 (by decide) ?_
        refine lv_icmp_ne (tgt := 441) hx hb prd_X_statement1_278 (by decide) (fun c190 => ?_) (fun c190 => ?_)
        · have hf := pr_ie c190 hf
          refine lv_iload hx hb prd_X_statement1_441 (lv_at hl 0 rfl) ?_
          exact pr_reti E hP hS (pr_so hf) prd_X_statement1_443
        · have hf := pr_it c190 hf
          refine lv_aload_n hx hb prd_X_statement1_281 rfl (lv_at hl 1 rfl) ?_
          obtain ⟨r191, hr191, hf⟩ := pr_bi hf
          refine pr_callVr (rest := []) (r := r191) ⟨hx, hb, hml, hown, hts⟩ 0 (prc_X_look hD hX 0 (Nat.le_refl _) r189  r191 hr191) (prg_X_look hts prw_896 (by have := hh; omega)) hX hXs hK hP hS (by decide) rfl rfl rfl rfl hl.1 (Nat.le_of_ble_eq_true rfl) prd_X_statement1_282 (fun H locs hP hS => ?_)
          refine lv_sipush (v := 303) hx hb prd_X_statement1_285 (by decide) ?_
          refine lv_icmp_ne (tgt := 441) hx hb prd_X_statement1_288 (by decide) (fun c192 => ?_) (fun c192 => ?_)
          · have hf := pr_ie c192 hf
            refine lv_iload hx hb prd_X_statement1_441 (lv_at hl 0 rfl) ?_
            exact pr_reti E hP hS (pr_so hf) prd_X_statement1_443
          · have hf := pr_it c192 hf
            refine lv_aload_n hx hb prd_X_statement1_291 rfl (lv_at hl 1 rfl) ?_
            refine lv_sipush (v := 303) hx hb prd_X_statement1_292 (by decide) ?_
            obtain ⟨r193, hr193, hf⟩ := pr_bi hf
            refine pr_callVv (rest := []) (res := r193) ⟨hx, hb, hml, hown, hts⟩ 0 (prc_X_take hD hX 1 (Nat.le_refl _) r189 303 r193 hr193) (prg_X_take hts prw_915 (by have := hh; omega)) hX hXs hK hP hS (by decide) rfl rfl rfl rfl hl.1 (Nat.le_of_ble_eq_true rfl) prd_X_statement1_295 (fun H locs hP hS => ?_)
            refine lv_aload_n hx hb prd_X_statement1_298 rfl (lv_at hl 1 rfl) ?_
            refine lv_iload hx hb prd_X_statement1_299 (lv_at hl 0 rfl) ?_
            refine lv_aload_n hx hb prd_X_statement1_301 rfl (lv_at hl 1 rfl) ?_
            refine pr_geti (v := (r193.1 0 9)) hx hb hts prs_X hown hK hP 0 9 (by decide) rfl (hts _ prw_887) rfl rfl prd_X_statement1_302 ?_
            refine lv_if_eq (tgt := 312) hx hb prd_X_statement1_305 (by decide) (fun c194 => ?_) (fun c194 => ?_)
            · have hf := pr_it c194 hf
              refine lv_aload_n hx hb prd_X_statement1_312 rfl (lv_at hl 1 rfl) ?_
              refine lv_iload_n hx hb prd_X_statement1_313 rfl (lv_at hl 2 rfl) ?_
              refine lv_iconst (v := 1) hx hb prd_X_statement1_314 (by decide) ?_
              refine lv_iadd hx hb prd_X_statement1_315 ?_
              obtain ⟨r195, hr195, hf⟩ := pr_bi hf
              refine pr_callVi (rest := [.int r171.1, .ref (ad 0)]) (res := r195) ⟨hx, hb, hml, hown, hts⟩ 0 (prc_X_block1 hD hX hd hb0 (hd + 1) (Nat.le_refl _) Hrc0 r193 (x1 + 1) r195 hr195) (prg_X_block1 hts prw_965 (by have := hh; omega)) hX hXs hK hP hS (by decide) rfl rfl rfl rfl hl.1 (Nat.le_of_ble_eq_true rfl) prd_X_statement1_316 (fun H locs hP hS => ?_)
              obtain ⟨r196, hr196, hf⟩ := pr_bi hf
              refine pr_callVv (rest := []) (res := r196) ⟨hx, hb, hml, hown, hts⟩ 0 (prc_X_join hD hX 0 (Nat.le_refl _) r195.2 r171.1 r195.1 r196 hr196) (prg_X_join hts prw_926 (by have := hh; omega)) hX hXs hK hP hS (by decide) rfl rfl rfl rfl hl.1 (Nat.le_of_ble_eq_true rfl) prd_X_statement1_319 (fun H locs hP hS => ?_)
              refine lv_goto (tgt := 441) hx hb prd_X_statement1_322 (by decide) ?_
              refine lv_iload hx hb prd_X_statement1_441 (lv_at hl 0 rfl) ?_
              exact pr_reti E hP hS (pr_so hf) prd_X_statement1_443
            · have hf := pr_ie c194 hf
              refine lv_iconst (v := (-1)) hx hb prd_X_statement1_308 (by decide) ?_
              refine lv_goto (tgt := 319) hx hb prd_X_statement1_309 (by decide) ?_
              obtain ⟨r197, hr197, hf⟩ := pr_bi hf
              refine pr_callVv (rest := []) (res := r197) ⟨hx, hb, hml, hown, hts⟩ 0 (prc_X_join hD hX 0 (Nat.le_refl _) r193 r171.1 (-1) r197 hr197) (prg_X_join hts prw_926 (by have := hh; omega)) hX hXs hK hP hS (by decide) rfl rfl rfl rfl hl.1 (Nat.le_of_ble_eq_true rfl) prd_X_statement1_319 (fun H locs hP hS => ?_)
              refine lv_goto (tgt := 441) hx hb prd_X_statement1_322 (by decide) ?_
              refine lv_iload hx hb prd_X_statement1_441 (lv_at hl 0 rfl) ?_
              exact pr_reti E hP hS (pr_so hf) prd_X_statement1_443
    · have hf := pr_ie c174 hf
      refine lv_iconst (v := (-1)) hx hb prd_X_statement1_230 (by decide) ?_
      refine lv_goto (tgt := 241) hx hb prd_X_statement1_231 (by decide) ?_
      obtain ⟨r198, hr198, hf⟩ := pr_bi hf
      refine pr_callVv (rest := []) (res := r198) ⟨hx, hb, hml, hown, hts⟩ 0 (prc_X_join hD hX 0 (Nat.le_refl _) r173 r171.1 (-1) r198 hr198) (prg_X_join hts prw_926 (by have := hh; omega)) hX hXs hK hP hS (by decide) rfl rfl rfl rfl hl.1 (Nat.le_of_ble_eq_true rfl) prd_X_statement1_241 (fun H locs hP hS => ?_)
      refine lv_aload_n hx hb prd_X_statement1_244 rfl (lv_at hl 1 rfl) ?_
      refine lv_bipush (v := 41) hx hb prd_X_statement1_245 (by decide) ?_
      obtain ⟨r199, hr199, hf⟩ := pr_bi hf
      refine pr_callVv (rest := []) (res := r199) ⟨hx, hb, hml, hown, hts⟩ 0 (prc_X_take hD hX 1 (Nat.le_refl _) r198 41 r199 hr199) (prg_X_take hts prw_915 (by have := hh; omega)) hX hXs hK hP hS (by decide) rfl rfl rfl rfl hl.1 (Nat.le_of_ble_eq_true rfl) prd_X_statement1_247 (fun H locs hP hS => ?_)
      refine lv_aload_n hx hb prd_X_statement1_250 rfl (lv_at hl 1 rfl) ?_
      refine lv_iload hx hb prd_X_statement1_251 (lv_at hl 0 rfl) ?_
      refine lv_aload_n hx hb prd_X_statement1_253 rfl (lv_at hl 1 rfl) ?_
      refine pr_geti (v := (r199.1 0 9)) hx hb hts prs_X hown hK hP 0 9 (by decide) rfl (hts _ prw_887) rfl rfl prd_X_statement1_254 ?_
      refine lv_if_eq (tgt := 264) hx hb prd_X_statement1_257 (by decide) (fun c200 => ?_) (fun c200 => ?_)
      · have hf := pr_it c200 hf
        refine lv_aload_n hx hb prd_X_statement1_264 rfl (lv_at hl 1 rfl) ?_
        refine lv_iload_n hx hb prd_X_statement1_265 rfl (lv_at hl 2 rfl) ?_
        refine lv_iconst (v := 1) hx hb prd_X_statement1_266 (by decide) ?_
        refine lv_iadd hx hb prd_X_statement1_267 ?_
        obtain ⟨r201, hr201, hf⟩ := pr_bi hf
        refine pr_callVi (rest := [.int r171.1, .ref (ad 0)]) (res := r201) ⟨hx, hb, hml, hown, hts⟩ 0 (prc_X_block1 hD hX hd hb0 (hd + 1) (Nat.le_refl _) Hrc0 r199 (x1 + 1) r201 hr201) (prg_X_block1 hts prw_965 (by have := hh; omega)) hX hXs hK hP hS (by decide) rfl rfl rfl rfl hl.1 (Nat.le_of_ble_eq_true rfl) prd_X_statement1_268 (fun H locs hP hS => ?_)
        obtain ⟨r202, hr202, hf⟩ := pr_bi hf
        refine pr_callVv (rest := []) (res := r202) ⟨hx, hb, hml, hown, hts⟩ 0 (prc_X_join hD hX 0 (Nat.le_refl _) r201.2 r171.1 r201.1 r202 hr202) (prg_X_join hts prw_926 (by have := hh; omega)) hX hXs hK hP hS (by decide) rfl rfl rfl rfl hl.1 (Nat.le_of_ble_eq_true rfl) prd_X_statement1_271 (fun H locs hP hS => ?_)
        refine lv_iload_n hx hb prd_X_statement1_274 rfl (lv_at hl 4 rfl) ?_
        refine lv_sipush (v := 302) hx hb prd_X_statement1_275 (by decide) ?_
        refine lv_icmp_ne (tgt := 441) hx hb prd_X_statement1_278 (by decide) (fun c203 => ?_) (fun c203 => ?_)
        · have hf := pr_ie c203 hf
          refine lv_iload hx hb prd_X_statement1_441 (lv_at hl 0 rfl) ?_
          exact pr_reti E hP hS (pr_so hf) prd_X_statement1_443
        · have hf := pr_it c203 hf
          refine lv_aload_n hx hb prd_X_statement1_281 rfl (lv_at hl 1 rfl) ?_
          obtain ⟨r204, hr204, hf⟩ := pr_bi hf
          refine pr_callVr (rest := []) (r := r204) ⟨hx, hb, hml, hown, hts⟩ 0 (prc_X_look hD hX 0 (Nat.le_refl _) r202  r204 hr204) (prg_X_look hts prw_896 (by have := hh; omega)) hX hXs hK hP hS (by decide) rfl rfl rfl rfl hl.1 (Nat.le_of_ble_eq_true rfl) prd_X_statement1_282 (fun H locs hP hS => ?_)
          refine lv_sipush (v := 303) hx hb prd_X_statement1_285 (by decide) ?_
          refine lv_icmp_ne (tgt := 441) hx hb prd_X_statement1_288 (by decide) (fun c205 => ?_) (fun c205 => ?_)
          · have hf := pr_ie c205 hf
            refine lv_iload hx hb prd_X_statement1_441 (lv_at hl 0 rfl) ?_
            exact pr_reti E hP hS (pr_so hf) prd_X_statement1_443
          · have hf := pr_it c205 hf
            refine lv_aload_n hx hb prd_X_statement1_291 rfl (lv_at hl 1 rfl) ?_
            refine lv_sipush (v := 303) hx hb prd_X_statement1_292 (by decide) ?_
            obtain ⟨r206, hr206, hf⟩ := pr_bi hf
            refine pr_callVv (rest := []) (res := r206) ⟨hx, hb, hml, hown, hts⟩ 0 (prc_X_take hD hX 1 (Nat.le_refl _) r202 303 r206 hr206) (prg_X_take hts prw_915 (by have := hh; omega)) hX hXs hK hP hS (by decide) rfl rfl rfl rfl hl.1 (Nat.le_of_ble_eq_true rfl) prd_X_statement1_295 (fun H locs hP hS => ?_)
            refine lv_aload_n hx hb prd_X_statement1_298 rfl (lv_at hl 1 rfl) ?_
            refine lv_iload hx hb prd_X_statement1_299 (lv_at hl 0 rfl) ?_
            refine lv_aload_n hx hb prd_X_statement1_301 rfl (lv_at hl 1 rfl) ?_
            refine pr_geti (v := (r206.1 0 9)) hx hb hts prs_X hown hK hP 0 9 (by decide) rfl (hts _ prw_887) rfl rfl prd_X_statement1_302 ?_
            refine lv_if_eq (tgt := 312) hx hb prd_X_statement1_305 (by decide) (fun c207 => ?_) (fun c207 => ?_)
            · have hf := pr_it c207 hf
              refine lv_aload_n hx hb prd_X_statement1_312 rfl (lv_at hl 1 rfl) ?_
              refine lv_iload_n hx hb prd_X_statement1_313 rfl (lv_at hl 2 rfl) ?_
              refine lv_iconst (v := 1) hx hb prd_X_statement1_314 (by decide) ?_
              refine lv_iadd hx hb prd_X_statement1_315 ?_
              obtain ⟨r208, hr208, hf⟩ := pr_bi hf
              refine pr_callVi (rest := [.int r171.1, .ref (ad 0)]) (res := r208) ⟨hx, hb, hml, hown, hts⟩ 0 (prc_X_block1 hD hX hd hb0 (hd + 1) (Nat.le_refl _) Hrc0 r206 (x1 + 1) r208 hr208) (prg_X_block1 hts prw_965 (by have := hh; omega)) hX hXs hK hP hS (by decide) rfl rfl rfl rfl hl.1 (Nat.le_of_ble_eq_true rfl) prd_X_statement1_316 (fun H locs hP hS => ?_)
              obtain ⟨r209, hr209, hf⟩ := pr_bi hf
              refine pr_callVv (rest := []) (res := r209) ⟨hx, hb, hml, hown, hts⟩ 0 (prc_X_join hD hX 0 (Nat.le_refl _) r208.2 r171.1 r208.1 r209 hr209) (prg_X_join hts prw_926 (by have := hh; omega)) hX hXs hK hP hS (by decide) rfl rfl rfl rfl hl.1 (Nat.le_of_ble_eq_true rfl) prd_X_statement1_319 (fun H locs hP hS => ?_)
              refine lv_goto (tgt := 441) hx hb prd_X_statement1_322 (by decide) ?_
              refine lv_iload hx hb prd_X_statement1_441 (lv_at hl 0 rfl) ?_
              exact pr_reti E hP hS (pr_so hf) prd_X_statement1_443
            · have hf := pr_ie c207 hf
              refine lv_iconst (v := (-1)) hx hb prd_X_statement1_308 (by decide) ?_
              refine lv_goto (tgt := 319) hx hb prd_X_statement1_309 (by decide) ?_
              obtain ⟨r210, hr210, hf⟩ := pr_bi hf
              refine pr_callVv (rest := []) (res := r210) ⟨hx, hb, hml, hown, hts⟩ 0 (prc_X_join hD hX 0 (Nat.le_refl _) r206 r171.1 (-1) r210 hr210) (prg_X_join hts prw_926 (by have := hh; omega)) hX hXs hK hP hS (by decide) rfl rfl rfl rfl hl.1 (Nat.le_of_ble_eq_true rfl) prd_X_statement1_319 (fun H locs hP hS => ?_)
              refine lv_goto (tgt := 441) hx hb prd_X_statement1_322 (by decide) ?_
              refine lv_iload hx hb prd_X_statement1_441 (lv_at hl 0 rfl) ?_
              exact pr_reti E hP hS (pr_so hf) prd_X_statement1_443
      · have hf := pr_ie c200 hf
        refine lv_iconst (v := (-1)) hx hb prd_X_statement1_260 (by decide) ?_
        refine lv_goto (tgt := 271) hx hb prd_X_statement1_261 (by decide) ?_
        obtain ⟨r211, hr211, hf⟩ := pr_bi hf
        refine pr_callVv (rest := []) (res := r211) ⟨hx, hb, hml, hown, hts⟩ 0 (prc_X_join hD hX 0 (Nat.le_refl _) r199 r171.1 (-1) r211 hr211) (prg_X_join hts prw_926 (by have := hh; omega)) hX hXs hK hP hS (by decide) rfl rfl rfl rfl hl.1 (Nat.le_of_ble_eq_true rfl) prd_X_statement1_271 (fun H locs hP hS => ?_)
        refine lv_iload_n hx hb prd_X_statement1_274 rfl (lv_at hl 4 rfl) ?_
        refine lv_sipush (v := 302) hx hb prd_X_statement1_275 (by decide) ?_
        refine lv_icmp_ne (tgt := 441) hx hb prd_X_statement1_278 (by decide) (fun c212 => ?_) (fun c212 => ?_)
        · have hf := pr_ie c212 hf
          refine lv_iload hx hb prd_X_statement1_441 (lv_at hl 0 rfl) ?_
          exact pr_reti E hP hS (pr_so hf) prd_X_statement1_443
        · have hf := pr_it c212 hf
          refine lv_aload_n hx hb prd_X_statement1_281 rfl (lv_at hl 1 rfl) ?_
          obtain ⟨r213, hr213, hf⟩ := pr_bi hf
          refine pr_callVr (rest := []) (r := r213) ⟨hx, hb, hml, hown, hts⟩ 0 (prc_X_look hD hX 0 (Nat.le_refl _) r211  r213 hr213) (prg_X_look hts prw_896 (by have := hh; omega)) hX hXs hK hP hS (by decide) rfl rfl rfl rfl hl.1 (Nat.le_of_ble_eq_true rfl) prd_X_statement1_282 (fun H locs hP hS => ?_)
          refine lv_sipush (v := 303) hx hb prd_X_statement1_285 (by decide) ?_
          refine lv_icmp_ne (tgt := 441) hx hb prd_X_statement1_288 (by decide) (fun c214 => ?_) (fun c214 => ?_)
          · have hf := pr_ie c214 hf
            refine lv_iload hx hb prd_X_statement1_441 (lv_at hl 0 rfl) ?_
            exact pr_reti E hP hS (pr_so hf) prd_X_statement1_443
          · have hf := pr_it c214 hf
            refine lv_aload_n hx hb prd_X_statement1_291 rfl (lv_at hl 1 rfl) ?_
            refine lv_sipush (v := 303) hx hb prd_X_statement1_292 (by decide) ?_
            obtain ⟨r215, hr215, hf⟩ := pr_bi hf
            refine pr_callVv (rest := []) (res := r215) ⟨hx, hb, hml, hown, hts⟩ 0 (prc_X_take hD hX 1 (Nat.le_refl _) r211 303 r215 hr215) (prg_X_take hts prw_915 (by have := hh; omega)) hX hXs hK hP hS (by decide) rfl rfl rfl rfl hl.1 (Nat.le_of_ble_eq_true rfl) prd_X_statement1_295 (fun H locs hP hS => ?_)
            refine lv_aload_n hx hb prd_X_statement1_298 rfl (lv_at hl 1 rfl) ?_
            refine lv_iload hx hb prd_X_statement1_299 (lv_at hl 0 rfl) ?_
            refine lv_aload_n hx hb prd_X_statement1_301 rfl (lv_at hl 1 rfl) ?_
            refine pr_geti (v := (r215.1 0 9)) hx hb hts prs_X hown hK hP 0 9 (by decide) rfl (hts _ prw_887) rfl rfl prd_X_statement1_302 ?_
            refine lv_if_eq (tgt := 312) hx hb prd_X_statement1_305 (by decide) (fun c216 => ?_) (fun c216 => ?_)
            · have hf := pr_it c216 hf
              refine lv_aload_n hx hb prd_X_statement1_312 rfl (lv_at hl 1 rfl) ?_
              refine lv_iload_n hx hb prd_X_statement1_313 rfl (lv_at hl 2 rfl) ?_
              refine lv_iconst (v := 1) hx hb prd_X_statement1_314 (by decide) ?_
              refine lv_iadd hx hb prd_X_statement1_315 ?_
              obtain ⟨r217, hr217, hf⟩ := pr_bi hf
              refine pr_callVi (rest := [.int r171.1, .ref (ad 0)]) (res := r217) ⟨hx, hb, hml, hown, hts⟩ 0 (prc_X_block1 hD hX hd hb0 (hd + 1) (Nat.le_refl _) Hrc0 r215 (x1 + 1) r217 hr217) (prg_X_block1 hts prw_965 (by have := hh; omega)) hX hXs hK hP hS (by decide) rfl rfl rfl rfl hl.1 (Nat.le_of_ble_eq_true rfl) prd_X_statement1_316 (fun H locs hP hS => ?_)
              obtain ⟨r218, hr218, hf⟩ := pr_bi hf
              refine pr_callVv (rest := []) (res := r218) ⟨hx, hb, hml, hown, hts⟩ 0 (prc_X_join hD hX 0 (Nat.le_refl _) r217.2 r171.1 r217.1 r218 hr218) (prg_X_join hts prw_926 (by have := hh; omega)) hX hXs hK hP hS (by decide) rfl rfl rfl rfl hl.1 (Nat.le_of_ble_eq_true rfl) prd_X_statement1_319 (fun H locs hP hS => ?_)
              refine lv_goto (tgt := 441) hx hb prd_X_statement1_322 (by decide) ?_
              refine lv_iload hx hb prd_X_statement1_441 (lv_at hl 0 rfl) ?_
              exact pr_reti E hP hS (pr_so hf) prd_X_statement1_443
            · have hf := pr_ie c216 hf
              refine lv_iconst (v := (-1)) hx hb prd_X_statement1_308 (by decide) ?_
              refine lv_goto (tgt := 319) hx hb prd_X_statement1_309 (by decide) ?_
              obtain ⟨r219, hr219, hf⟩ := pr_bi hf
              refine pr_callVv (rest := []) (res := r219) ⟨hx, hb, hml, hown, hts⟩ 0 (prc_X_join hD hX 0 (Nat.le_refl _) r215 r171.1 (-1) r219 hr219) (prg_X_join hts prw_926 (by have := hh; omega)) hX hXs hK hP hS (by decide) rfl rfl rfl rfl hl.1 (Nat.le_of_ble_eq_true rfl) prd_X_statement1_319 (fun H locs hP hS => ?_)
              refine lv_goto (tgt := 441) hx hb prd_X_statement1_322 (by decide) ?_
              refine lv_iload hx hb prd_X_statement1_441 (lv_at hl 0 rfl) ?_
              exact pr_reti E hP hS (pr_so hf) prd_X_statement1_443
  · have hf := pr_it c170 hf
    refine lv_bipush (v := 8) hx hb prd_X_statement1_195 (by decide) ?_
    refine lv_goto (tgt := 202) hx hb prd_X_statement1_197 (by decide) ?_
    refine lv_iload_n hx hb prd_X_statement1_202 rfl (lv_at hl 2 rfl) ?_
    refine lv_iconst (v := 0) hx hb prd_X_statement1_203 (by decide) ?_
    obtain ⟨r220, hr220, hf⟩ := pr_bi hf
    refine pr_callVi (rest := []) (res := r220) ⟨hx, hb, hml, hown, hts⟩ 0 (prc_X_draft hD hX 0 (Nat.le_refl _) σ 8 x2 0 r220 hr220) (prg_X_draft hts prw_914 (by have := hh; omega)) hX hXs hK hP hS (by decide) rfl rfl rfl rfl hl.1 (Nat.le_of_ble_eq_true rfl) prd_X_statement1_204 (fun H locs hP hS => ?_)
    refine lv_istore (lv' := [(4, .int r220.1), (0, .ref (ad 0)), (1, .int x1), (2, .int x2), (3, .int x3)]) hx hb prd_X_statement1_207 hl (by decide) rfl (fun ls hl => ?_)
    refine lv_aload_n hx hb prd_X_statement1_209 rfl (lv_at hl 1 rfl) ?_
    refine lv_iload_n hx hb prd_X_statement1_210 rfl (lv_at hl 4 rfl) ?_
    obtain ⟨r221, hr221, hf⟩ := pr_bi hf
    refine pr_callVv (rest := []) (res := r221) ⟨hx, hb, hml, hown, hts⟩ 0 (prc_X_take hD hX 1 (Nat.le_refl _) r220.2 x3 r221 hr221) (prg_X_take hts prw_915 (by have := hh; omega)) hX hXs hK hP hS (by decide) rfl rfl rfl rfl hl.1 (Nat.le_of_ble_eq_true rfl) prd_X_statement1_211 (fun H locs hP hS => ?_)
    refine lv_aload_n hx hb prd_X_statement1_214 rfl (lv_at hl 1 rfl) ?_
    refine lv_bipush (v := 40) hx hb prd_X_statement1_215 (by decide) ?_
    obtain ⟨r222, hr222, hf⟩ := pr_bi hf
    refine pr_callVv (rest := []) (res := r222) ⟨hx, hb, hml, hown, hts⟩ 0 (prc_X_take hD hX 1 (Nat.le_refl _) r221 40 r222 hr222) (prg_X_take hts prw_915 (by have := hh; omega)) hX hXs hK hP hS (by decide) rfl rfl rfl rfl hl.1 (Nat.le_of_ble_eq_true rfl) prd_X_statement1_217 (fun H locs hP hS => ?_)
    refine lv_aload_n hx hb prd_X_statement1_220 rfl (lv_at hl 1 rfl) ?_
    refine lv_iload hx hb prd_X_statement1_221 (lv_at hl 0 rfl) ?_
    refine lv_aload_n hx hb prd_X_statement1_223 rfl (lv_at hl 1 rfl) ?_
    refine pr_geti (v := (r222.1 0 9)) hx hb hts prs_X hown hK hP 0 9 (by decide) rfl (hts _ prw_887) rfl rfl prd_X_statement1_224 ?_
    refine lv_if_eq (tgt := 234) hx hb prd_X_statement1_227 (by decide) (fun c223 => ?_) (fun c223 => ?_)
    · have hf := pr_it c223 hf
      refine lv_aload_n hx hb prd_X_statement1_234 rfl (lv_at hl 1 rfl) ?_
      refine lv_iload_n hx hb prd_X_statement1_235 rfl (lv_at hl 2 rfl) ?_
      refine lv_iconst (v := 1) hx hb prd_X_statement1_236 (by decide) ?_
      refine lv_iadd hx hb prd_X_statement1_237 ?_
      obtain ⟨r224, hr224, hf⟩ := pr_bi hf
      refine pr_callVi (rest := [.int r220.1, .ref (ad 0)]) (res := r224) ⟨hx, hb, hml, hown, hts⟩ 0 (prct_X_cond hD hX r222 (x1 + 1) r224 hr224) (prg_X_cond hts prw_945 (by have := hh; omega)) hX hXs hK hP hS (by decide) rfl rfl rfl rfl hl.1 (Nat.le_of_ble_eq_true rfl) prd_X_statement1_238 (fun H locs hP hS => ?_)
      obtain ⟨r225, hr225, hf⟩ := pr_bi hf
      refine pr_callVv (rest := []) (res := r225) ⟨hx, hb, hml, hown, hts⟩ 0 (prc_X_join hD hX 0 (Nat.le_refl _) r224.2 r220.1 r224.1 r225 hr225) (prg_X_join hts prw_926 (by have := hh; omega)) hX hXs hK hP hS (by decide) rfl rfl rfl rfl hl.1 (Nat.le_of_ble_eq_true rfl) prd_X_statement1_241 (fun H locs hP hS => ?_)
      refine lv_aload_n hx hb prd_X_statement1_244 rfl (lv_at hl 1 rfl) ?_
      refine lv_bipush (v := 41) hx hb prd_X_statement1_245 (by decide) ?_
      obtain ⟨r226, hr226, hf⟩ := pr_bi hf
      refine pr_callVv (rest := []) (res := r226) ⟨hx, hb, hml, hown, hts⟩ 0 (prc_X_take hD hX 1 (Nat.le_refl _) r225 41 r226 hr226) (prg_X_take hts prw_915 (by have := hh; omega)) hX hXs hK hP hS (by decide) rfl rfl rfl rfl hl.1 (Nat.le_of_ble_eq_true rfl) prd_X_statement1_247 (fun H locs hP hS => ?_)
      refine lv_aload_n hx hb prd_X_statement1_250 rfl (lv_at hl 1 rfl) ?_
      refine lv_iload hx hb prd_X_statement1_251 (lv_at hl 0 rfl) ?_
      refine lv_aload_n hx hb prd_X_statement1_253 rfl (lv_at hl 1 rfl) ?_
      refine pr_geti (v := (r226.1 0 9)) hx hb hts prs_X hown hK hP 0 9 (by decide) rfl (hts _ prw_887) rfl rfl prd_X_statement1_254 ?_
      refine lv_if_eq (tgt := 264) hx hb prd_X_statement1_257 (by decide) (fun c227 => ?_) (fun c227 => ?_)
      · have hf := pr_it c227 hf
        refine lv_aload_n hx hb prd_X_statement1_264 rfl (lv_at hl 1 rfl) ?_
        refine lv_iload_n hx hb prd_X_statement1_265 rfl (lv_at hl 2 rfl) ?_
        refine lv_iconst (v := 1) hx hb prd_X_statement1_266 (by decide) ?_
        refine lv_iadd hx hb prd_X_statement1_267 ?_
        obtain ⟨r228, hr228, hf⟩ := pr_bi hf
        refine pr_callVi (rest := [.int r220.1, .ref (ad 0)]) (res := r228) ⟨hx, hb, hml, hown, hts⟩ 0 (prc_X_block1 hD hX hd hb0 (hd + 1) (Nat.le_refl _) Hrc0 r226 (x1 + 1) r228 hr228) (prg_X_block1 hts prw_965 (by have := hh; omega)) hX hXs hK hP hS (by decide) rfl rfl rfl rfl hl.1 (Nat.le_of_ble_eq_true rfl) prd_X_statement1_268 (fun H locs hP hS => ?_)
        obtain ⟨r229, hr229, hf⟩ := pr_bi hf
        refine pr_callVv (rest := []) (res := r229) ⟨hx, hb, hml, hown, hts⟩ 0 (prc_X_join hD hX 0 (Nat.le_refl _) r228.2 r220.1 r228.1 r229 hr229) (prg_X_join hts prw_926 (by have := hh; omega)) hX hXs hK hP hS (by decide) rfl rfl rfl rfl hl.1 (Nat.le_of_ble_eq_true rfl) prd_X_statement1_271 (fun H locs hP hS => ?_)
        refine lv_iload_n hx hb prd_X_statement1_274 rfl (lv_at hl 4 rfl) ?_
        refine lv_sipush (v := 302) hx hb prd_X_statement1_275 (by decide) ?_
        refine lv_icmp_ne (tgt := 441) hx hb prd_X_statement1_278 (by decide) (fun c230 => ?_) (fun c230 => ?_)
        · have hf := pr_ie c230 hf
          refine lv_iload hx hb prd_X_statement1_441 (lv_at hl 0 rfl) ?_
          exact pr_reti E hP hS (pr_so hf) prd_X_statement1_443
        · have hf := pr_it c230 hf
          refine lv_aload_n hx hb prd_X_statement1_281 rfl (lv_at hl 1 rfl) ?_
          obtain ⟨r231, hr231, hf⟩ := pr_bi hf
          refine pr_callVr (rest := []) (r := r231) ⟨hx, hb, hml, hown, hts⟩ 0 (prc_X_look hD hX 0 (Nat.le_refl _) r229  r231 hr231) (prg_X_look hts prw_896 (by have := hh; omega)) hX hXs hK hP hS (by decide) rfl rfl rfl rfl hl.1 (Nat.le_of_ble_eq_true rfl) prd_X_statement1_282 (fun H locs hP hS => ?_)
          refine lv_sipush (v := 303) hx hb prd_X_statement1_285 (by decide) ?_
          refine lv_icmp_ne (tgt := 441) hx hb prd_X_statement1_288 (by decide) (fun c232 => ?_) (fun c232 => ?_)
          · have hf := pr_ie c232 hf
            refine lv_iload hx hb prd_X_statement1_441 (lv_at hl 0 rfl) ?_
            exact pr_reti E hP hS (pr_so hf) prd_X_statement1_443
          · have hf := pr_it c232 hf
            refine lv_aload_n hx hb prd_X_statement1_291 rfl (lv_at hl 1 rfl) ?_
            refine lv_sipush (v := 303) hx hb prd_X_statement1_292 (by decide) ?_
            obtain ⟨r233, hr233, hf⟩ := pr_bi hf
            refine pr_callVv (rest := []) (res := r233) ⟨hx, hb, hml, hown, hts⟩ 0 (prc_X_take hD hX 1 (Nat.le_refl _) r229 303 r233 hr233) (prg_X_take hts prw_915 (by have := hh; omega)) hX hXs hK hP hS (by decide) rfl rfl rfl rfl hl.1 (Nat.le_of_ble_eq_true rfl) prd_X_statement1_295 (fun H locs hP hS => ?_)
            refine lv_aload_n hx hb prd_X_statement1_298 rfl (lv_at hl 1 rfl) ?_
            refine lv_iload hx hb prd_X_statement1_299 (lv_at hl 0 rfl) ?_
            refine lv_aload_n hx hb prd_X_statement1_301 rfl (lv_at hl 1 rfl) ?_
            refine pr_geti (v := (r233.1 0 9)) hx hb hts prs_X hown hK hP 0 9 (by decide) rfl (hts _ prw_887) rfl rfl prd_X_statement1_302 ?_
            refine lv_if_eq (tgt := 312) hx hb prd_X_statement1_305 (by decide) (fun c234 => ?_) (fun c234 => ?_)
            · have hf := pr_it c234 hf
              refine lv_aload_n hx hb prd_X_statement1_312 rfl (lv_at hl 1 rfl) ?_
              refine lv_iload_n hx hb prd_X_statement1_313 rfl (lv_at hl 2 rfl) ?_
              refine lv_iconst (v := 1) hx hb prd_X_statement1_314 (by decide) ?_
              refine lv_iadd hx hb prd_X_statement1_315 ?_
              obtain ⟨r235, hr235, hf⟩ := pr_bi hf
              refine pr_callVi (rest := [.int r220.1, .ref (ad 0)]) (res := r235) ⟨hx, hb, hml, hown, hts⟩ 0 (prc_X_block1 hD hX hd hb0 (hd + 1) (Nat.le_refl _) Hrc0 r233 (x1 + 1) r235 hr235) (prg_X_block1 hts prw_965 (by have := hh; omega)) hX hXs hK hP hS (by decide) rfl rfl rfl rfl hl.1 (Nat.le_of_ble_eq_true rfl) prd_X_statement1_316 (fun H locs hP hS => ?_)
              obtain ⟨r236, hr236, hf⟩ := pr_bi hf
              refine pr_callVv (rest := []) (res := r236) ⟨hx, hb, hml, hown, hts⟩ 0 (prc_X_join hD hX 0 (Nat.le_refl _) r235.2 r220.1 r235.1 r236 hr236) (prg_X_join hts prw_926 (by have := hh; omega)) hX hXs hK hP hS (by decide) rfl rfl rfl rfl hl.1 (Nat.le_of_ble_eq_true rfl) prd_X_statement1_319 (fun H locs hP hS => ?_)
              refine lv_goto (tgt := 441) hx hb prd_X_statement1_322 (by decide) ?_
              refine lv_iload hx hb prd_X_statement1_441 (lv_at hl 0 rfl) ?_
              exact pr_reti E hP hS (pr_so hf) prd_X_statement1_443
            · have hf := pr_ie c234 hf
              refine lv_iconst (v := (-1)) hx hb prd_X_statement1_308 (by decide) ?_
              refine lv_goto (tgt := 319) hx hb prd_X_statement1_309 (by decide) ?_
              obtain ⟨r237, hr237, hf⟩ := pr_bi hf
              refine pr_callVv (rest := []) (res := r237) ⟨hx, hb, hml, hown, hts⟩ 0 (prc_X_join hD hX 0 (Nat.le_refl _) r233 r220.1 (-1) r237 hr237) (prg_X_join hts prw_926 (by have := hh; omega)) hX hXs hK hP hS (by decide) rfl rfl rfl rfl hl.1 (Nat.le_of_ble_eq_true rfl) prd_X_statement1_319 (fun H locs hP hS => ?_)
              refine lv_goto (tgt := 441) hx hb prd_X_statement1_322 (by decide) ?_
              refine lv_iload hx hb prd_X_statement1_441 (lv_at hl 0 rfl) ?_
              exact pr_reti E hP hS (pr_so hf) prd_X_statement1_443
      · have hf := pr_ie c227 hf
        refine lv_iconst (v := (-1)) hx hb prd_X_statement1_260 (by decide) ?_
        refine lv_goto (tgt := 271) hx hb prd_X_statement1_261 (by decide) ?_
        obtain ⟨r238, hr238, hf⟩ := pr_bi hf
        refine pr_callVv (rest := []) (res := r238) ⟨hx, hb, hml, hown, hts⟩ 0 (prc_X_join hD hX 0 (Nat.le_refl _) r226 r220.1 (-1) r238 hr238) (prg_X_join hts prw_926 (by have := hh; omega)) hX hXs hK hP hS (by decide) rfl rfl rfl rfl hl.1 (Nat.le_of_ble_eq_true rfl) prd_X_statement1_271 (fun H locs hP hS => ?_)
        refine lv_iload_n hx hb prd_X_statement1_274 rfl (lv_at hl 4 rfl) ?_
        refine lv_sipush (v := 302) hx hb prd_X_statement1_275 (by decide) ?_
        refine lv_icmp_ne (tgt := 441) hx hb prd_X_statement1_278 (by decide) (fun c239 => ?_) (fun c239 => ?_)
        · have hf := pr_ie c239 hf
          refine lv_iload hx hb prd_X_statement1_441 (lv_at hl 0 rfl) ?_
          exact pr_reti E hP hS (pr_so hf) prd_X_statement1_443
        · have hf := pr_it c239 hf
          refine lv_aload_n hx hb prd_X_statement1_281 rfl (lv_at hl 1 rfl) ?_
          obtain ⟨r240, hr240, hf⟩ := pr_bi hf
          refine pr_callVr (rest := []) (r := r240) ⟨hx, hb, hml, hown, hts⟩ 0 (prc_X_look hD hX 0 (Nat.le_refl _) r238  r240 hr240) (prg_X_look hts prw_896 (by have := hh; omega)) hX hXs hK hP hS (by decide) rfl rfl rfl rfl hl.1 (Nat.le_of_ble_eq_true rfl) prd_X_statement1_282 (fun H locs hP hS => ?_)
          refine lv_sipush (v := 303) hx hb prd_X_statement1_285 (by decide) ?_
          refine lv_icmp_ne (tgt := 441) hx hb prd_X_statement1_288 (by decide) (fun c241 => ?_) (fun c241 => ?_)
          · have hf := pr_ie c241 hf
            refine lv_iload hx hb prd_X_statement1_441 (lv_at hl 0 rfl) ?_
            exact pr_reti E hP hS (pr_so hf) prd_X_statement1_443
          · have hf := pr_it c241 hf
            refine lv_aload_n hx hb prd_X_statement1_291 rfl (lv_at hl 1 rfl) ?_
            refine lv_sipush (v := 303) hx hb prd_X_statement1_292 (by decide) ?_
            obtain ⟨r242, hr242, hf⟩ := pr_bi hf
            refine pr_callVv (rest := []) (res := r242) ⟨hx, hb, hml, hown, hts⟩ 0 (prc_X_take hD hX 1 (Nat.le_refl _) r238 303 r242 hr242) (prg_X_take hts prw_915 (by have := hh; omega)) hX hXs hK hP hS (by decide) rfl rfl rfl rfl hl.1 (Nat.le_of_ble_eq_true rfl) prd_X_statement1_295 (fun H locs hP hS => ?_)
            refine lv_aload_n hx hb prd_X_statement1_298 rfl (lv_at hl 1 rfl) ?_
            refine lv_iload hx hb prd_X_statement1_299 (lv_at hl 0 rfl) ?_
            refine lv_aload_n hx hb prd_X_statement1_301 rfl (lv_at hl 1 rfl) ?_
            refine pr_geti (v := (r242.1 0 9)) hx hb hts prs_X hown hK hP 0 9 (by decide) rfl (hts _ prw_887) rfl rfl prd_X_statement1_302 ?_
            refine lv_if_eq (tgt := 312) hx hb prd_X_statement1_305 (by decide) (fun c243 => ?_) (fun c243 => ?_)
            · have hf := pr_it c243 hf
              refine lv_aload_n hx hb prd_X_statement1_312 rfl (lv_at hl 1 rfl) ?_
              refine lv_iload_n hx hb prd_X_statement1_313 rfl (lv_at hl 2 rfl) ?_
              refine lv_iconst (v := 1) hx hb prd_X_statement1_314 (by decide) ?_
              refine lv_iadd hx hb prd_X_statement1_315 ?_
              obtain ⟨r244, hr244, hf⟩ := pr_bi hf
              refine pr_callVi (rest := [.int r220.1, .ref (ad 0)]) (res := r244) ⟨hx, hb, hml, hown, hts⟩ 0 (prc_X_block1 hD hX hd hb0 (hd + 1) (Nat.le_refl _) Hrc0 r242 (x1 + 1) r244 hr244) (prg_X_block1 hts prw_965 (by have := hh; omega)) hX hXs hK hP hS (by decide) rfl rfl rfl rfl hl.1 (Nat.le_of_ble_eq_true rfl) prd_X_statement1_316 (fun H locs hP hS => ?_)
              obtain ⟨r245, hr245, hf⟩ := pr_bi hf
              refine pr_callVv (rest := []) (res := r245) ⟨hx, hb, hml, hown, hts⟩ 0 (prc_X_join hD hX 0 (Nat.le_refl _) r244.2 r220.1 r244.1 r245 hr245) (prg_X_join hts prw_926 (by have := hh; omega)) hX hXs hK hP hS (by decide) rfl rfl rfl rfl hl.1 (Nat.le_of_ble_eq_true rfl) prd_X_statement1_319 (fun H locs hP hS => ?_)
              refine lv_goto (tgt := 441) hx hb prd_X_statement1_322 (by decide) ?_
              refine lv_iload hx hb prd_X_statement1_441 (lv_at hl 0 rfl) ?_
              exact pr_reti E hP hS (pr_so hf) prd_X_statement1_443
            · have hf := pr_ie c243 hf
              refine lv_iconst (v := (-1)) hx hb prd_X_statement1_308 (by decide) ?_
              refine lv_goto (tgt := 319) hx hb prd_X_statement1_309 (by decide) ?_
              obtain ⟨r246, hr246, hf⟩ := pr_bi hf
              refine pr_callVv (rest := []) (res := r246) ⟨hx, hb, hml, hown, hts⟩ 0 (prc_X_join hD hX 0 (Nat.le_refl _) r242 r220.1 (-1) r246 hr246) (prg_X_join hts prw_926 (by have := hh; omega)) hX hXs hK hP hS (by decide) rfl rfl rfl rfl hl.1 (Nat.le_of_ble_eq_true rfl) prd_X_statement1_319 (fun H locs hP hS => ?_)
              refine lv_goto (tgt := 441) hx hb prd_X_statement1_322 (by decide) ?_
              refine lv_iload hx hb prd_X_statement1_441 (lv_at hl 0 rfl) ?_
              exact pr_reti E hP hS (pr_so hf) prd_X_statement1_443
    · have hf := pr_ie c223 hf
      refine lv_iconst (v := (-1)) hx hb prd_X_statement1_230 (by decide) ?_
      refine lv_goto (tgt := 241) hx hb prd_X_statement1_231 (by decide) ?_
      obtain ⟨r247, hr247, hf⟩ := pr_bi hf
      refine pr_callVv (rest := []) (res := r247) ⟨hx, hb, hml, hown, hts⟩ 0 (prc_X_join hD hX 0 (Nat.le_refl _) r222 r220.1 (-1) r247 hr247) (prg_X_join hts prw_926 (by have := hh; omega)) hX hXs hK hP hS (by decide) rfl rfl rfl rfl hl.1 (Nat.le_of_ble_eq_true rfl) prd_X_statement1_241 (fun H locs hP hS => ?_)
      refine lv_aload_n hx hb prd_X_statement1_244 rfl (lv_at hl 1 rfl) ?_
      refine lv_bipush (v := 41) hx hb prd_X_statement1_245 (by decide) ?_
      obtain ⟨r248, hr248, hf⟩ := pr_bi hf
      refine pr_callVv (rest := []) (res := r248) ⟨hx, hb, hml, hown, hts⟩ 0 (prc_X_take hD hX 1 (Nat.le_refl _) r247 41 r248 hr248) (prg_X_take hts prw_915 (by have := hh; omega)) hX hXs hK hP hS (by decide) rfl rfl rfl rfl hl.1 (Nat.le_of_ble_eq_true rfl) prd_X_statement1_247 (fun H locs hP hS => ?_)
      refine lv_aload_n hx hb prd_X_statement1_250 rfl (lv_at hl 1 rfl) ?_
      refine lv_iload hx hb prd_X_statement1_251 (lv_at hl 0 rfl) ?_
      refine lv_aload_n hx hb prd_X_statement1_253 rfl (lv_at hl 1 rfl) ?_
      refine pr_geti (v := (r248.1 0 9)) hx hb hts prs_X hown hK hP 0 9 (by decide) rfl (hts _ prw_887) rfl rfl prd_X_statement1_254 ?_
      refine lv_if_eq (tgt := 264) hx hb prd_X_statement1_257 (by decide) (fun c249 => ?_) (fun c249 => ?_)
      · have hf := pr_it c249 hf
        refine lv_aload_n hx hb prd_X_statement1_264 rfl (lv_at hl 1 rfl) ?_
        refine lv_iload_n hx hb prd_X_statement1_265 rfl (lv_at hl 2 rfl) ?_
        refine lv_iconst (v := 1) hx hb prd_X_statement1_266 (by decide) ?_
        refine lv_iadd hx hb prd_X_statement1_267 ?_
        obtain ⟨r250, hr250, hf⟩ := pr_bi hf
        refine pr_callVi (rest := [.int r220.1, .ref (ad 0)]) (res := r250) ⟨hx, hb, hml, hown, hts⟩ 0 (prc_X_block1 hD hX hd hb0 (hd + 1) (Nat.le_refl _) Hrc0 r248 (x1 + 1) r250 hr250) (prg_X_block1 hts prw_965 (by have := hh; omega)) hX hXs hK hP hS (by decide) rfl rfl rfl rfl hl.1 (Nat.le_of_ble_eq_true rfl) prd_X_statement1_268 (fun H locs hP hS => ?_)
        obtain ⟨r251, hr251, hf⟩ := pr_bi hf
        refine pr_callVv (rest := []) (res := r251) ⟨hx, hb, hml, hown, hts⟩ 0 (prc_X_join hD hX 0 (Nat.le_refl _) r250.2 r220.1 r250.1 r251 hr251) (prg_X_join hts prw_926 (by have := hh; omega)) hX hXs hK hP hS (by decide) rfl rfl rfl rfl hl.1 (Nat.le_of_ble_eq_true rfl) prd_X_statement1_271 (fun H locs hP hS => ?_)
        refine lv_iload_n hx hb prd_X_statement1_274 rfl (lv_at hl 4 rfl) ?_
        refine lv_sipush (v := 302) hx hb prd_X_statement1_275 (by decide) ?_
        refine lv_icmp_ne (tgt := 441) hx hb prd_X_statement1_278 (by decide) (fun c252 => ?_) (fun c252 => ?_)
        · have hf := pr_ie c252 hf
          refine lv_iload hx hb prd_X_statement1_441 (lv_at hl 0 rfl) ?_
          exact pr_reti E hP hS (pr_so hf) prd_X_statement1_443
        · have hf := pr_it c252 hf
          refine lv_aload_n hx hb prd_X_statement1_281 rfl (lv_at hl 1 rfl) ?_
          obtain ⟨r253, hr253, hf⟩ := pr_bi hf
          refine pr_callVr (rest := []) (r := r253) ⟨hx, hb, hml, hown, hts⟩ 0 (prc_X_look hD hX 0 (Nat.le_refl _) r251  r253 hr253) (prg_X_look hts prw_896 (by have := hh; omega)) hX hXs hK hP hS (by decide) rfl rfl rfl rfl hl.1 (Nat.le_of_ble_eq_true rfl) prd_X_statement1_282 (fun H locs hP hS => ?_)
          refine lv_sipush (v := 303) hx hb prd_X_statement1_285 (by decide) ?_
          refine lv_icmp_ne (tgt := 441) hx hb prd_X_statement1_288 (by decide) (fun c254 => ?_) (fun c254 => ?_)
          · have hf := pr_ie c254 hf
            refine lv_iload hx hb prd_X_statement1_441 (lv_at hl 0 rfl) ?_
            exact pr_reti E hP hS (pr_so hf) prd_X_statement1_443
          · have hf := pr_it c254 hf
            refine lv_aload_n hx hb prd_X_statement1_291 rfl (lv_at hl 1 rfl) ?_
            refine lv_sipush (v := 303) hx hb prd_X_statement1_292 (by decide) ?_
            obtain ⟨r255, hr255, hf⟩ := pr_bi hf
            refine pr_callVv (rest := []) (res := r255) ⟨hx, hb, hml, hown, hts⟩ 0 (prc_X_take hD hX 1 (Nat.le_refl _) r251 303 r255 hr255) (prg_X_take hts prw_915 (by have := hh; omega)) hX hXs hK hP hS (by decide) rfl rfl rfl rfl hl.1 (Nat.le_of_ble_eq_true rfl) prd_X_statement1_295 (fun H locs hP hS => ?_)
            refine lv_aload_n hx hb prd_X_statement1_298 rfl (lv_at hl 1 rfl) ?_
            refine lv_iload hx hb prd_X_statement1_299 (lv_at hl 0 rfl) ?_
            refine lv_aload_n hx hb prd_X_statement1_301 rfl (lv_at hl 1 rfl) ?_
            refine pr_geti (v := (r255.1 0 9)) hx hb hts prs_X hown hK hP 0 9 (by decide) rfl (hts _ prw_887) rfl rfl prd_X_statement1_302 ?_
            refine lv_if_eq (tgt := 312) hx hb prd_X_statement1_305 (by decide) (fun c256 => ?_) (fun c256 => ?_)
            · have hf := pr_it c256 hf
              refine lv_aload_n hx hb prd_X_statement1_312 rfl (lv_at hl 1 rfl) ?_
              refine lv_iload_n hx hb prd_X_statement1_313 rfl (lv_at hl 2 rfl) ?_
              refine lv_iconst (v := 1) hx hb prd_X_statement1_314 (by decide) ?_
              refine lv_iadd hx hb prd_X_statement1_315 ?_
              obtain ⟨r257, hr257, hf⟩ := pr_bi hf
              refine pr_callVi (rest := [.int r220.1, .ref (ad 0)]) (res := r257) ⟨hx, hb, hml, hown, hts⟩ 0 (prc_X_block1 hD hX hd hb0 (hd + 1) (Nat.le_refl _) Hrc0 r255 (x1 + 1) r257 hr257) (prg_X_block1 hts prw_965 (by have := hh; omega)) hX hXs hK hP hS (by decide) rfl rfl rfl rfl hl.1 (Nat.le_of_ble_eq_true rfl) prd_X_statement1_316 (fun H locs hP hS => ?_)
              obtain ⟨r258, hr258, hf⟩ := pr_bi hf
              refine pr_callVv (rest := []) (res := r258) ⟨hx, hb, hml, hown, hts⟩ 0 (prc_X_join hD hX 0 (Nat.le_refl _) r257.2 r220.1 r257.1 r258 hr258) (prg_X_join hts prw_926 (by have := hh; omega)) hX hXs hK hP hS (by decide) rfl rfl rfl rfl hl.1 (Nat.le_of_ble_eq_true rfl) prd_X_statement1_319 (fun H locs hP hS => ?_)
              refine lv_goto (tgt := 441) hx hb prd_X_statement1_322 (by decide) ?_
              refine lv_iload hx hb prd_X_statement1_441 (lv_at hl 0 rfl) ?_
              exact pr_reti E hP hS (pr_so hf) prd_X_statement1_443
            · have hf := pr_ie c256 hf
              refine lv_iconst (v := (-1)) hx hb prd_X_statement1_308 (by decide) ?_
              refine lv_goto (tgt := 319) hx hb prd_X_statement1_309 (by decide) ?_
              obtain ⟨r259, hr259, hf⟩ := pr_bi hf
              refine pr_callVv (rest := []) (res := r259) ⟨hx, hb, hml, hown, hts⟩ 0 (prc_X_join hD hX 0 (Nat.le_refl _) r255 r220.1 (-1) r259 hr259) (prg_X_join hts prw_926 (by have := hh; omega)) hX hXs hK hP hS (by decide) rfl rfl rfl rfl hl.1 (Nat.le_of_ble_eq_true rfl) prd_X_statement1_319 (fun H locs hP hS => ?_)
              refine lv_goto (tgt := 441) hx hb prd_X_statement1_322 (by decide) ?_
              refine lv_iload hx hb prd_X_statement1_441 (lv_at hl 0 rfl) ?_
              exact pr_reti E hP hS (pr_so hf) prd_X_statement1_443
      · have hf := pr_ie c249 hf
        refine lv_iconst (v := (-1)) hx hb prd_X_statement1_260 (by decide) ?_
        refine lv_goto (tgt := 271) hx hb prd_X_statement1_261 (by decide) ?_
        obtain ⟨r260, hr260, hf⟩ := pr_bi hf
        refine pr_callVv (rest := []) (res := r260) ⟨hx, hb, hml, hown, hts⟩ 0 (prc_X_join hD hX 0 (Nat.le_refl _) r248 r220.1 (-1) r260 hr260) (prg_X_join hts prw_926 (by have := hh; omega)) hX hXs hK hP hS (by decide) rfl rfl rfl rfl hl.1 (Nat.le_of_ble_eq_true rfl) prd_X_statement1_271 (fun H locs hP hS => ?_)
        refine lv_iload_n hx hb prd_X_statement1_274 rfl (lv_at hl 4 rfl) ?_
        refine lv_sipush (v := 302) hx hb prd_X_statement1_275 (by decide) ?_
        refine lv_icmp_ne (tgt := 441) hx hb prd_X_statement1_278 (by decide) (fun c261 => ?_) (fun c261 => ?_)
        · have hf := pr_ie c261 hf
          refine lv_iload hx hb prd_X_statement1_441 (lv_at hl 0 rfl) ?_
          exact pr_reti E hP hS (pr_so hf) prd_X_statement1_443
        · have hf := pr_it c261 hf
          refine lv_aload_n hx hb prd_X_statement1_281 rfl (lv_at hl 1 rfl) ?_
          obtain ⟨r262, hr262, hf⟩ := pr_bi hf
          refine pr_callVr (rest := []) (r := r262) ⟨hx, hb, hml, hown, hts⟩ 0 (prc_X_look hD hX 0 (Nat.le_refl _) r260  r262 hr262) (prg_X_look hts prw_896 (by have := hh; omega)) hX hXs hK hP hS (by decide) rfl rfl rfl rfl hl.1 (Nat.le_of_ble_eq_true rfl) prd_X_statement1_282 (fun H locs hP hS => ?_)
          refine lv_sipush (v := 303) hx hb prd_X_statement1_285 (by decide) ?_
          refine lv_icmp_ne (tgt := 441) hx hb prd_X_statement1_288 (by decide) (fun c263 => ?_) (fun c263 => ?_)
          · have hf := pr_ie c263 hf
            refine lv_iload hx hb prd_X_statement1_441 (lv_at hl 0 rfl) ?_
            exact pr_reti E hP hS (pr_so hf) prd_X_statement1_443
          · have hf := pr_it c263 hf
            refine lv_aload_n hx hb prd_X_statement1_291 rfl (lv_at hl 1 rfl) ?_
            refine lv_sipush (v := 303) hx hb prd_X_statement1_292 (by decide) ?_
            obtain ⟨r264, hr264, hf⟩ := pr_bi hf
            refine pr_callVv (rest := []) (res := r264) ⟨hx, hb, hml, hown, hts⟩ 0 (prc_X_take hD hX 1 (Nat.le_refl _) r260 303 r264 hr264) (prg_X_take hts prw_915 (by have := hh; omega)) hX hXs hK hP hS (by decide) rfl rfl rfl rfl hl.1 (Nat.le_of_ble_eq_true rfl) prd_X_statement1_295 (fun H locs hP hS => ?_)
            refine lv_aload_n hx hb prd_X_statement1_298 rfl (lv_at hl 1 rfl) ?_
            refine lv_iload hx hb prd_X_statement1_299 (lv_at hl 0 rfl) ?_
            refine lv_aload_n hx hb prd_X_statement1_301 rfl (lv_at hl 1 rfl) ?_
            refine pr_geti (v := (r264.1 0 9)) hx hb hts prs_X hown hK hP 0 9 (by decide) rfl (hts _ prw_887) rfl rfl prd_X_statement1_302 ?_
            refine lv_if_eq (tgt := 312) hx hb prd_X_statement1_305 (by decide) (fun c265 => ?_) (fun c265 => ?_)
            · have hf := pr_it c265 hf
              refine lv_aload_n hx hb prd_X_statement1_312 rfl (lv_at hl 1 rfl) ?_
              refine lv_iload_n hx hb prd_X_statement1_313 rfl (lv_at hl 2 rfl) ?_
              refine lv_iconst (v := 1) hx hb prd_X_statement1_314 (by decide) ?_
              refine lv_iadd hx hb prd_X_statement1_315 ?_
              obtain ⟨r266, hr266, hf⟩ := pr_bi hf
              refine pr_callVi (rest := [.int r220.1, .ref (ad 0)]) (res := r266) ⟨hx, hb, hml, hown, hts⟩ 0 (prc_X_block1 hD hX hd hb0 (hd + 1) (Nat.le_refl _) Hrc0 r264 (x1 + 1) r266 hr266) (prg_X_block1 hts prw_965 (by have := hh; omega)) hX hXs hK hP hS (by decide) rfl rfl rfl rfl hl.1 (Nat.le_of_ble_eq_true rfl) prd_X_statement1_316 (fun H locs hP hS => ?_)
              obtain ⟨r267, hr267, hf⟩ := pr_bi hf
              refine pr_callVv (rest := []) (res := r267) ⟨hx, hb, hml, hown, hts⟩ 0 (prc_X_join hD hX 0 (Nat.le_refl _) r266.2 r220.1 r266.1 r267 hr267) (prg_X_join hts prw_926 (by have := hh; omega)) hX hXs hK hP hS (by decide) rfl rfl rfl rfl hl.1 (Nat.le_of_ble_eq_true rfl) prd_X_statement1_319 (fun H locs hP hS => ?_)
              refine lv_goto (tgt := 441) hx hb prd_X_statement1_322 (by decide) ?_
              refine lv_iload hx hb prd_X_statement1_441 (lv_at hl 0 rfl) ?_
              exact pr_reti E hP hS (pr_so hf) prd_X_statement1_443
            · have hf := pr_ie c265 hf
              refine lv_iconst (v := (-1)) hx hb prd_X_statement1_308 (by decide) ?_
              refine lv_goto (tgt := 319) hx hb prd_X_statement1_309 (by decide) ?_
              obtain ⟨r268, hr268, hf⟩ := pr_bi hf
              refine pr_callVv (rest := []) (res := r268) ⟨hx, hb, hml, hown, hts⟩ 0 (prc_X_join hD hX 0 (Nat.le_refl _) r264 r220.1 (-1) r268 hr268) (prg_X_join hts prw_926 (by have := hh; omega)) hX hXs hK hP hS (by decide) rfl rfl rfl rfl hl.1 (Nat.le_of_ble_eq_true rfl) prd_X_statement1_319 (fun H locs hP hS => ?_)
              refine lv_goto (tgt := 441) hx hb prd_X_statement1_322 (by decide) ?_
              refine lv_iload hx hb prd_X_statement1_441 (lv_at hl 0 rfl) ?_
              exact pr_reti E hP hS (pr_so hf) prd_X_statement1_443
set_option maxHeartbeats 4000000 in
set_option maxRecDepth 100000 in
theorem prc_X_statement1 {l : Launch} {D : va_G} {ad : Nat → Nat} {dA : Nat → ClassId} {A : Nat → Prop} {v : Nat → Nat} {r : Value} (hD : ∀ σ : pr_St, va_D A (pr_w prx_L ad dA σ)) (hX : pr_Xok A (prY ad v r A)) (hd : Nat) (hb0 : 618 ≤ hd) (h : Nat) (hh : hd + 2 ≤ h) {rc : pr_St → Int32 → Option (Int32 × pr_St)} (Hrc0 : ∀ (σ : pr_St) (x1 : Int32) (res : (Int32 × pr_St)), rc σ x1 = some res → Met l pry_X_statement1 (Cond.code pry_X_statement1 prb_X_statement1 6 (some .int) :: pr_U) (pr_rm hd) (pr_Pc (prY ad v r A) D pr_cl prx_L ad dA [.ref (ad 0), .int x1] σ) (pr_Qi D pr_cl prx_L ad dA A res) 0 0 A) (σ : pr_St) (x1 : Int32) (res : (Int32 × pr_St)) (hf : prf_X_statement1 rc σ x1 = some res) : Met l pry_X_statement1 (Cond.code pry_X_statement1 prb_X_statement1 6 (some .int) :: pr_U) (pr_rm h) (pr_Pc (prY ad v r A) D pr_cl prx_L ad dA [.ref (ad 0), .int x1] σ) (pr_Qi D pr_cl prx_L ad dA A res) 0 0 A := by
  refine pr_entry (cc := prb_X_statement1) (maxL := 6) (ret := (some .int)) (by decide) (Nat.le_of_ble_eq_true rfl) hD hX ?_
  intro p e s m args below meth c E H locs hP hS ls hl
  have hl : lv_has ls 6 [(0, .ref (ad 0)), (1, .int x1)] := hl
  have hf := hf.symm
  unfold prf_X_statement1 at hf
  obtain ⟨hx, hb, hml, hown, hts, hr, hlocks, hK, hD, hX, hXs⟩ := id E
  refine lv_aload_n hx hb prd_X_statement1_0 rfl (lv_at hl 0 rfl) ?_
  refine pr_getr (t := 4) hx hb hts prs_X hown hK hP 0 5 (by decide) rfl (hts _ prw_882) rfl prd_X_statement1_1 ?_
  refine lv_aload_n hx hb prd_X_statement1_4 rfl (lv_at hl 0 rfl) ?_
  refine pr_geti (v := (σ.1 0 8)) hx hb hts prs_X hown hK hP 0 8 (by decide) rfl (hts _ prw_888) rfl rfl prd_X_statement1_5 ?_
  obtain ⟨hi269, hf⟩ := pr_ck_in hf
  refine pr_iald (f := (σ.2.1 4)) hx hb hK hP 4 (by decide) rfl hi269 rfl prd_X_statement1_8 ?_
  refine lv_istore_n (lv' := [(2, .int ((σ.2.1 4) (σ.1 0 8).toNatClampNeg)), (0, .ref (ad 0)), (1, .int x1)]) hx hb prd_X_statement1_9 rfl hl (by decide) rfl (fun ls hl => ?_)
  refine lv_aload_n hx hb prd_X_statement1_10 rfl (lv_at hl 1 rfl) ?_
  obtain ⟨r270, hr270, hf⟩ := pr_bi hf
  refine pr_callVr (rest := []) (r := r270) ⟨hx, hb, hml, hown, hts⟩ 0 (prc_X_look hD hX 0 (Nat.le_refl _) σ  r270 hr270) (prg_X_look hts prw_896 (by have := hh; omega)) hX hXs hK hP hS (by decide) rfl rfl rfl rfl hl.1 (Nat.le_of_ble_eq_true rfl) prd_X_statement1_11 (fun H locs hP hS => ?_)
  refine lv_istore_n (lv' := [(3, .int r270), (2, .int ((σ.2.1 4) (σ.1 0 8).toNatClampNeg)), (0, .ref (ad 0)), (1, .int x1)]) hx hb prd_X_statement1_14 rfl hl (by decide) rfl (fun ls hl => ?_)
  refine lv_iconst (v := (-1)) hx hb prd_X_statement1_15 (by decide) ?_
  refine lv_istore (lv' := [(4, .int (-1)), (3, .int r270), (2, .int ((σ.2.1 4) (σ.1 0 8).toNatClampNeg)), (0, .ref (ad 0)), (1, .int x1)]) hx hb prd_X_statement1_16 hl (by decide) rfl (fun ls hl => ?_)
  refine lv_iload_n hx hb prd_X_statement1_18 rfl (lv_at hl 1 rfl) ?_
  refine lv_sipush (v := 301) hx hb prd_X_statement1_19 (by decide) ?_
  refine lv_icmp_ne (tgt := 151) hx hb prd_X_statement1_22 (by decide) (fun c271 => ?_) (fun c271 => ?_)
  · have hf := pr_ie c271 hf
    refine lv_iload_n hx hb prd_X_statement1_151 rfl (lv_at hl 1 rfl) ?_
    refine lv_iconst (v := 2) hx hb prd_X_statement1_152 (by decide) ?_
    refine lv_icmp_ne (tgt := 173) hx hb prd_X_statement1_153 (by decide) (fun c272 => ?_) (fun c272 => ?_)
    · have hf := pr_ie c272 hf
      refine lv_iload_n hx hb prd_X_statement1_173 rfl (lv_at hl 1 rfl) ?_
      refine lv_sipush (v := 302) hx hb prd_X_statement1_174 (by decide) ?_
      refine lv_icmp_eq (tgt := 187) hx hb prd_X_statement1_177 (by decide) (fun c273 => ?_) (fun c273 => ?_)
      · have hf := pr_it c273 hf
        exact prk_X_statement1_187 hd hb0 hh E Hrc0 σ x1 ((σ.2.1 4) (σ.1 0 8).toNatClampNeg) r270 _ hf _ _ _ hP hS (lv_sub hl [3, 4, 2, 1] rfl)
      · have hf := pr_ie c273 hf
        refine lv_iload_n hx hb prd_X_statement1_180 rfl (lv_at hl 1 rfl) ?_
        refine lv_sipush (v := 304) hx hb prd_X_statement1_181 (by decide) ?_
        refine lv_icmp_ne (tgt := 325) hx hb prd_X_statement1_184 (by decide) (fun c274 => ?_) (fun c274 => ?_)
        · have hf := pr_ie c274 hf
          refine lv_iload_n hx hb prd_X_statement1_325 rfl (lv_at hl 1 rfl) ?_
          refine lv_sipush (v := 305) hx hb prd_X_statement1_326 (by decide) ?_
          refine lv_icmp_ne (tgt := 394) hx hb prd_X_statement1_329 (by decide) (fun c275 => ?_) (fun c275 => ?_)
          · have hf := pr_ie c275 hf
            refine lv_aload_n hx hb prd_X_statement1_394 rfl (lv_at hl 3 rfl) ?_
            refine lv_sipush (v := 306) hx hb prd_X_statement1_395 (by decide) ?_
            obtain ⟨r276, hr276, hf⟩ := pr_bi hf
            refine pr_callVv (rest := []) (res := r276) ⟨hx, hb, hml, hown, hts⟩ 0 (prc_X_take hD hX 1 (Nat.le_refl _) σ 306 r276 hr276) (prg_X_take hts prw_915 (by have := hh; omega)) hX hXs hK hP hS (by decide) rfl rfl rfl rfl hl.1 (Nat.le_of_ble_eq_true rfl) prd_X_statement1_398 (fun H locs hP hS => ?_)
            refine lv_aload_n hx hb prd_X_statement1_401 rfl (lv_at hl 3 rfl) ?_
            refine lv_bipush (v := 11) hx hb prd_X_statement1_402 (by decide) ?_
            refine lv_iload_n hx hb prd_X_statement1_404 rfl (lv_at hl 2 rfl) ?_
            refine lv_iconst (v := 0) hx hb prd_X_statement1_405 (by decide) ?_
            obtain ⟨r277, hr277, hf⟩ := pr_bi hf
            refine pr_callVi (rest := []) (res := r277) ⟨hx, hb, hml, hown, hts⟩ 0 (prc_X_draft hD hX 0 (Nat.le_refl _) r276 11 ((σ.2.1 4) (σ.1 0 8).toNatClampNeg) 0 r277 hr277) (prg_X_draft hts prw_914 (by have := hh; omega)) hX hXs hK hP hS (by decide) rfl rfl rfl rfl hl.1 (Nat.le_of_ble_eq_true rfl) prd_X_statement1_406 (fun H locs hP hS => ?_)
            refine lv_istore (lv' := [(4, .int r277.1), (3, .int r270), (2, .int ((σ.2.1 4) (σ.1 0 8).toNatClampNeg)), (0, .ref (ad 0)), (1, .int x1)]) hx hb prd_X_statement1_409 hl (by decide) rfl (fun ls hl => ?_)
            refine lv_aload_n hx hb prd_X_statement1_411 rfl (lv_at hl 3 rfl) ?_
            refine lv_iload hx hb prd_X_statement1_412 (lv_at hl 0 rfl) ?_
            refine lv_aload_n hx hb prd_X_statement1_414 rfl (lv_at hl 3 rfl) ?_
            refine pr_geti (v := (r277.2.1 0 9)) hx hb hts prs_X hown hK hP 0 9 (by decide) rfl (hts _ prw_887) rfl rfl prd_X_statement1_415 ?_
            refine lv_if_eq (tgt := 425) hx hb prd_X_statement1_418 (by decide) (fun c278 => ?_) (fun c278 => ?_)
            · have hf := pr_it c278 hf
              refine lv_aload_n hx hb prd_X_statement1_425 rfl (lv_at hl 3 rfl) ?_
              refine lv_iload_n hx hb prd_X_statement1_426 rfl (lv_at hl 4 rfl) ?_
              refine lv_iconst (v := 1) hx hb prd_X_statement1_427 (by decide) ?_
              refine lv_iadd hx hb prd_X_statement1_428 ?_
              obtain ⟨r279, hr279, hf⟩ := pr_bi hf
              refine pr_callVi (rest := [.int r277.1, .ref (ad 0)]) (res := r279) ⟨hx, hb, hml, hown, hts⟩ 0 (prct_X_sum hD hX r277.2 (x1 + 1) r279 hr279) (prg_X_sum hts prw_935 (by have := hh; omega)) hX hXs hK hP hS (by decide) rfl rfl rfl rfl hl.1 (Nat.le_of_ble_eq_true rfl) prd_X_statement1_429 (fun H locs hP hS => ?_)
              obtain ⟨r280, hr280, hf⟩ := pr_bi hf
              refine pr_callVv (rest := []) (res := r280) ⟨hx, hb, hml, hown, hts⟩ 0 (prc_X_join hD hX 0 (Nat.le_refl _) r279.2 r277.1 r279.1 r280 hr280) (prg_X_join hts prw_926 (by have := hh; omega)) hX hXs hK hP hS (by decide) rfl rfl rfl rfl hl.1 (Nat.le_of_ble_eq_true rfl) prd_X_statement1_432 (fun H locs hP hS => ?_)
              refine lv_aload_n hx hb prd_X_statement1_435 rfl (lv_at hl 3 rfl) ?_
              refine lv_bipush (v := 59) hx hb prd_X_statement1_436 (by decide) ?_
              obtain ⟨r281, hr281, hf⟩ := pr_bi hf
              refine pr_callVv (rest := []) (res := r281) ⟨hx, hb, hml, hown, hts⟩ 0 (prc_X_take hD hX 1 (Nat.le_refl _) r280 59 r281 hr281) (prg_X_take hts prw_915 (by have := hh; omega)) hX hXs hK hP hS (by decide) rfl rfl rfl rfl hl.1 (Nat.le_of_ble_eq_true rfl) prd_X_statement1_438 (fun H locs hP hS => ?_)
              refine lv_iload hx hb prd_X_statement1_441 (lv_at hl 0 rfl) ?_
              exact pr_reti E hP hS (pr_so hf) prd_X_statement1_443
            · have hf := pr_ie c278 hf
              refine lv_iconst (v := (-1)) hx hb prd_X_statement1_421 (by decide) ?_
              refine lv_goto (tgt := 432) hx hb prd_X_statement1_422 (by decide) ?_
              obtain ⟨r282, hr282, hf⟩ := pr_bi hf
              refine pr_callVv (rest := []) (res := r282) ⟨hx, hb, hml, hown, hts⟩ 0 (prc_X_join hD hX 0 (Nat.le_refl _) r277.2 r277.1 (-1) r282 hr282) (prg_X_join hts prw_926 (by have := hh; omega)) hX hXs hK hP hS (by decide) rfl rfl rfl rfl hl.1 (Nat.le_of_ble_eq_true rfl) prd_X_statement1_432 (fun H locs hP hS => ?_)
              refine lv_aload_n hx hb prd_X_statement1_435 rfl (lv_at hl 3 rfl) ?_
              refine lv_bipush (v := 59) hx hb prd_X_statement1_436 (by decide) ?_
              obtain ⟨r283, hr283, hf⟩ := pr_bi hf
              refine pr_callVv (rest := []) (res := r283) ⟨hx, hb, hml, hown, hts⟩ 0 (prc_X_take hD hX 1 (Nat.le_refl _) r282 59 r283 hr283) (prg_X_take hts prw_915 (by have := hh; omega)) hX hXs hK hP hS (by decide) rfl rfl rfl rfl hl.1 (Nat.le_of_ble_eq_true rfl) prd_X_statement1_438 (fun H locs hP hS => ?_)
              refine lv_iload hx hb prd_X_statement1_441 (lv_at hl 0 rfl) ?_
              exact pr_reti E hP hS (pr_so hf) prd_X_statement1_443
          · have hf := pr_it c275 hf
            refine lv_aload_n hx hb prd_X_statement1_332 rfl (lv_at hl 3 rfl) ?_
            refine lv_bipush (v := 10) hx hb prd_X_statement1_333 (by decide) ?_
            refine lv_iload_n hx hb prd_X_statement1_335 rfl (lv_at hl 2 rfl) ?_
            refine lv_iconst (v := 0) hx hb prd_X_statement1_336 (by decide) ?_
            obtain ⟨r284, hr284, hf⟩ := pr_bi hf
            refine pr_callVi (rest := []) (res := r284) ⟨hx, hb, hml, hown, hts⟩ 0 (prc_X_draft hD hX 0 (Nat.le_refl _) σ 10 ((σ.2.1 4) (σ.1 0 8).toNatClampNeg) 0 r284 hr284) (prg_X_draft hts prw_914 (by have := hh; omega)) hX hXs hK hP hS (by decide) rfl rfl rfl rfl hl.1 (Nat.le_of_ble_eq_true rfl) prd_X_statement1_337 (fun H locs hP hS => ?_)
            refine lv_istore (lv' := [(4, .int r284.1), (3, .int r270), (2, .int ((σ.2.1 4) (σ.1 0 8).toNatClampNeg)), (0, .ref (ad 0)), (1, .int x1)]) hx hb prd_X_statement1_340 hl (by decide) rfl (fun ls hl => ?_)
            refine lv_aload_n hx hb prd_X_statement1_342 rfl (lv_at hl 3 rfl) ?_
            refine lv_sipush (v := 305) hx hb prd_X_statement1_343 (by decide) ?_
            obtain ⟨r285, hr285, hf⟩ := pr_bi hf
            refine pr_callVv (rest := []) (res := r285) ⟨hx, hb, hml, hown, hts⟩ 0 (prc_X_take hD hX 1 (Nat.le_refl _) r284.2 305 r285 hr285) (prg_X_take hts prw_915 (by have := hh; omega)) hX hXs hK hP hS (by decide) rfl rfl rfl rfl hl.1 (Nat.le_of_ble_eq_true rfl) prd_X_statement1_346 (fun H locs hP hS => ?_)
            refine lv_aload_n hx hb prd_X_statement1_349 rfl (lv_at hl 3 rfl) ?_
            refine lv_bipush (v := 40) hx hb prd_X_statement1_350 (by decide) ?_
            obtain ⟨r286, hr286, hf⟩ := pr_bi hf
            refine pr_callVv (rest := []) (res := r286) ⟨hx, hb, hml, hown, hts⟩ 0 (prc_X_take hD hX 1 (Nat.le_refl _) r285 40 r286 hr286) (prg_X_take hts prw_915 (by have := hh; omega)) hX hXs hK hP hS (by decide) rfl rfl rfl rfl hl.1 (Nat.le_of_ble_eq_true rfl) prd_X_statement1_352 (fun H locs hP hS => ?_)
            refine lv_aload_n hx hb prd_X_statement1_355 rfl (lv_at hl 3 rfl) ?_
            refine lv_iload hx hb prd_X_statement1_356 (lv_at hl 0 rfl) ?_
            refine lv_aload_n hx hb prd_X_statement1_358 rfl (lv_at hl 3 rfl) ?_
            refine pr_geti (v := (r286.1 0 9)) hx hb hts prs_X hown hK hP 0 9 (by decide) rfl (hts _ prw_887) rfl rfl prd_X_statement1_359 ?_
            refine lv_if_eq (tgt := 369) hx hb prd_X_statement1_362 (by decide) (fun c287 => ?_) (fun c287 => ?_)
            · have hf := pr_it c287 hf
              refine lv_aload_n hx hb prd_X_statement1_369 rfl (lv_at hl 3 rfl) ?_
              refine lv_iload_n hx hb prd_X_statement1_370 rfl (lv_at hl 4 rfl) ?_
              refine lv_iconst (v := 1) hx hb prd_X_statement1_371 (by decide) ?_
              refine lv_iadd hx hb prd_X_statement1_372 ?_
              obtain ⟨r288, hr288, hf⟩ := pr_bi hf
              refine pr_callVi (rest := [.int r284.1, .ref (ad 0)]) (res := r288) ⟨hx, hb, hml, hown, hts⟩ 0 (prct_X_cond hD hX r286 (x1 + 1) r288 hr288) (prg_X_cond hts prw_945 (by have := hh; omega)) hX hXs hK hP hS (by decide) rfl rfl rfl rfl hl.1 (Nat.le_of_ble_eq_true rfl) prd_X_statement1_373 (fun H locs hP hS => ?_)
              obtain ⟨r289, hr289, hf⟩ := pr_bi hf
              refine pr_callVv (rest := []) (res := r289) ⟨hx, hb, hml, hown, hts⟩ 0 (prc_X_join hD hX 0 (Nat.le_refl _) r288.2 r284.1 r288.1 r289 hr289) (prg_X_join hts prw_926 (by have := hh; omega)) hX hXs hK hP hS (by decide) rfl rfl rfl rfl hl.1 (Nat.le_of_ble_eq_true rfl) prd_X_statement1_376 (fun H locs hP hS => ?_)
              refine lv_aload_n hx hb prd_X_statement1_379 rfl (lv_at hl 3 rfl) ?_
              refine lv_bipush (v := 41) hx hb prd_X_statement1_380 (by decide) ?_
              obtain ⟨r290, hr290, hf⟩ := pr_bi hf
              refine pr_callVv (rest := []) (res := r290) ⟨hx, hb, hml, hown, hts⟩ 0 (prc_X_take hD hX 1 (Nat.le_refl _) r289 41 r290 hr290) (prg_X_take hts prw_915 (by have := hh; omega)) hX hXs hK hP hS (by decide) rfl rfl rfl rfl hl.1 (Nat.le_of_ble_eq_true rfl) prd_X_statement1_382 (fun H locs hP hS => ?_)
              refine lv_aload_n hx hb prd_X_statement1_385 rfl (lv_at hl 3 rfl) ?_
              refine lv_bipush (v := 59) hx hb prd_X_statement1_386 (by decide) ?_
              obtain ⟨r291, hr291, hf⟩ := pr_bi hf
              refine pr_callVv (rest := []) (res := r291) ⟨hx, hb, hml, hown, hts⟩ 0 (prc_X_take hD hX 1 (Nat.le_refl _) r290 59 r291 hr291) (prg_X_take hts prw_915 (by have := hh; omega)) hX hXs hK hP hS (by decide) rfl rfl rfl rfl hl.1 (Nat.le_of_ble_eq_true rfl) prd_X_statement1_388 (fun H locs hP hS => ?_)
              refine lv_goto (tgt := 441) hx hb prd_X_statement1_391 (by decide) ?_
              refine lv_iload hx hb prd_X_statement1_441 (lv_at hl 0 rfl) ?_
              exact pr_reti E hP hS (pr_so hf) prd_X_statement1_443
            · have hf := pr_ie c287 hf
              refine lv_iconst (v := (-1)) hx hb prd_X_statement1_365 (by decide) ?_
              refine lv_goto (tgt := 376) hx hb prd_X_statement1_366 (by decide) ?_
              obtain ⟨r292, hr292, hf⟩ := pr_bi hf
              refine pr_callVv (rest := []) (res := r292) ⟨hx, hb, hml, hown, hts⟩ 0 (prc_X_join hD hX 0 (Nat.le_refl _) r286 r284.1 (-1) r292 hr292) (prg_X_join hts prw_926 (by have := hh; omega)) hX hXs hK hP hS (by decide) rfl rfl rfl rfl hl.1 (Nat.le_of_ble_eq_true rfl) prd_X_statement1_376 (fun H locs hP hS => ?_)
              refine lv_aload_n hx hb prd_X_statement1_379 rfl (lv_at hl 3 rfl) ?_
              refine lv_bipush (v := 41) hx hb prd_X_statement1_380 (by decide) ?_
              obtain ⟨r293, hr293, hf⟩ := pr_bi hf
              refine pr_callVv (rest := []) (res := r293) ⟨hx, hb, hml, hown, hts⟩ 0 (prc_X_take hD hX 1 (Nat.le_refl _) r292 41 r293 hr293) (prg_X_take hts prw_915 (by have := hh; omega)) hX hXs hK hP hS (by decide) rfl rfl rfl rfl hl.1 (Nat.le_of_ble_eq_true rfl) prd_X_statement1_382 (fun H locs hP hS => ?_)
              refine lv_aload_n hx hb prd_X_statement1_385 rfl (lv_at hl 3 rfl) ?_
              refine lv_bipush (v := 59) hx hb prd_X_statement1_386 (by decide) ?_
              obtain ⟨r294, hr294, hf⟩ := pr_bi hf
              refine pr_callVv (rest := []) (res := r294) ⟨hx, hb, hml, hown, hts⟩ 0 (prc_X_take hD hX 1 (Nat.le_refl _) r293 59 r294 hr294) (prg_X_take hts prw_915 (by have := hh; omega)) hX hXs hK hP hS (by decide) rfl rfl rfl rfl hl.1 (Nat.le_of_ble_eq_true rfl) prd_X_statement1_388 (fun H locs hP hS => ?_)
              refine lv_goto (tgt := 441) hx hb prd_X_statement1_391 (by decide) ?_
              refine lv_iload hx hb prd_X_statement1_441 (lv_at hl 0 rfl) ?_
              exact pr_reti E hP hS (pr_so hf) prd_X_statement1_443
        · have hf := pr_it c274 hf
          exact prk_X_statement1_187 hd hb0 hh E Hrc0 σ x1 ((σ.2.1 4) (σ.1 0 8).toNatClampNeg) r270 _ hf _ _ _ hP hS (lv_sub hl [3, 4, 2, 1] rfl)
    · have hf := pr_it c272 hf
      refine lv_aload_n hx hb prd_X_statement1_156 rfl (lv_at hl 3 rfl) ?_
      refine lv_iload_n hx hb prd_X_statement1_157 rfl (lv_at hl 2 rfl) ?_
      refine lv_iload_n hx hb prd_X_statement1_158 rfl (lv_at hl 4 rfl) ?_
      obtain ⟨r295, hr295, hf⟩ := pr_bi hf
      refine pr_callVi (rest := []) (res := r295) ⟨hx, hb, hml, hown, hts⟩ 0 (prc_X_named hD hX 217 (Nat.le_refl _) σ ((σ.2.1 4) (σ.1 0 8).toNatClampNeg) x1 r295 hr295) (prg_X_named hts prw_964 (by have := hh; omega)) hX hXs hK hP hS (by decide) rfl rfl rfl rfl hl.1 (Nat.le_of_ble_eq_true rfl) prd_X_statement1_159 (fun H locs hP hS => ?_)
      refine lv_istore (lv' := [(4, .int r295.1), (3, .int r270), (2, .int ((σ.2.1 4) (σ.1 0 8).toNatClampNeg)), (0, .ref (ad 0)), (1, .int x1)]) hx hb prd_X_statement1_162 hl (by decide) rfl (fun ls hl => ?_)
      refine lv_aload_n hx hb prd_X_statement1_164 rfl (lv_at hl 3 rfl) ?_
      refine lv_bipush (v := 59) hx hb prd_X_statement1_165 (by decide) ?_
      obtain ⟨r296, hr296, hf⟩ := pr_bi hf
      refine pr_callVv (rest := []) (res := r296) ⟨hx, hb, hml, hown, hts⟩ 0 (prc_X_take hD hX 1 (Nat.le_refl _) r295.2 59 r296 hr296) (prg_X_take hts prw_915 (by have := hh; omega)) hX hXs hK hP hS (by decide) rfl rfl rfl rfl hl.1 (Nat.le_of_ble_eq_true rfl) prd_X_statement1_167 (fun H locs hP hS => ?_)
      refine lv_goto (tgt := 441) hx hb prd_X_statement1_170 (by decide) ?_
      refine lv_iload hx hb prd_X_statement1_441 (lv_at hl 0 rfl) ?_
      exact pr_reti E hP hS (pr_so hf) prd_X_statement1_443
  · have hf := pr_it c271 hf
    refine lv_aload_n hx hb prd_X_statement1_25 rfl (lv_at hl 3 rfl) ?_
    refine lv_sipush (v := 301) hx hb prd_X_statement1_26 (by decide) ?_
    obtain ⟨r297, hr297, hf⟩ := pr_bi hf
    refine pr_callVv (rest := []) (res := r297) ⟨hx, hb, hml, hown, hts⟩ 0 (prc_X_take hD hX 1 (Nat.le_refl _) σ 301 r297 hr297) (prg_X_take hts prw_915 (by have := hh; omega)) hX hXs hK hP hS (by decide) rfl rfl rfl rfl hl.1 (Nat.le_of_ble_eq_true rfl) prd_X_statement1_29 (fun H locs hP hS => ?_)
    refine lv_aload_n hx hb prd_X_statement1_32 rfl (lv_at hl 3 rfl) ?_
    obtain ⟨r298, hr298, hf⟩ := pr_bi hf
    refine pr_callVi (rest := []) (res := r298) ⟨hx, hb, hml, hown, hts⟩ 0 (prc_X_name hD hX 2 (Nat.le_refl _) r297  r298 hr298) (prg_X_name hts prw_937 (by have := hh; omega)) hX hXs hK hP hS (by decide) rfl rfl rfl rfl hl.1 (Nat.le_of_ble_eq_true rfl) prd_X_statement1_33 (fun H locs hP hS => ?_)
    refine lv_istore (lv' := [(5, .int r298.1), (4, .int (-1)), (3, .int r270), (2, .int ((σ.2.1 4) (σ.1 0 8).toNatClampNeg)), (0, .ref (ad 0)), (1, .int x1)]) hx hb prd_X_statement1_36 hl (by decide) rfl (fun ls hl => ?_)
    refine lv_aload_n hx hb prd_X_statement1_38 rfl (lv_at hl 4 rfl) ?_
    refine lv_aload_n hx hb prd_X_statement1_39 rfl (lv_at hl 4 rfl) ?_
    obtain ⟨r299, hr299, hf⟩ := pr_bi hf
    refine pr_callVr (rest := [.ref (ad 0)]) (r := r299) ⟨hx, hb, hml, hown, hts⟩ 0 (prc_X_look hD hX 0 (Nat.le_refl _) r298.2  r299 hr299) (prg_X_look hts prw_896 (by have := hh; omega)) hX hXs hK hP hS (by decide) rfl rfl rfl rfl hl.1 (Nat.le_of_ble_eq_true rfl) prd_X_statement1_40 (fun H locs hP hS => ?_)
    refine lv_bipush (v := 91) hx hb prd_X_statement1_43 (by decide) ?_
    refine lv_icmp_ne (tgt := 52) hx hb prd_X_statement1_45 (by decide) (fun c300 => ?_) (fun c300 => ?_)
    · have hf := pr_ie c300 hf
      refine lv_iconst (v := 3) hx hb prd_X_statement1_52 (by decide) ?_
      refine lv_iload_n hx hb prd_X_statement1_53 rfl (lv_at hl 3 rfl) ?_
      refine lv_iconst (v := 0) hx hb prd_X_statement1_54 (by decide) ?_
      obtain ⟨r301, hr301, hf⟩ := pr_bi hf
      refine pr_callVi (rest := []) (res := r301) ⟨hx, hb, hml, hown, hts⟩ 0 (prc_X_draft hD hX 0 (Nat.le_refl _) r298.2 3 ((σ.2.1 4) (σ.1 0 8).toNatClampNeg) 0 r301 hr301) (prg_X_draft hts prw_914 (by have := hh; omega)) hX hXs hK hP hS (by decide) rfl rfl rfl rfl hl.1 (Nat.le_of_ble_eq_true rfl) prd_X_statement1_55 (fun H locs hP hS => ?_)
      refine lv_istore (lv' := [(4, .int r301.1), (5, .int r298.1), (3, .int r270), (2, .int ((σ.2.1 4) (σ.1 0 8).toNatClampNeg)), (0, .ref (ad 0)), (1, .int x1)]) hx hb prd_X_statement1_58 hl (by decide) rfl (fun ls hl => ?_)
      refine lv_aload_n hx hb prd_X_statement1_60 rfl (lv_at hl 4 rfl) ?_
      refine lv_iload hx hb prd_X_statement1_61 (lv_at hl 0 rfl) ?_
      refine lv_iload hx hb prd_X_statement1_63 (lv_at hl 1 rfl) ?_
      obtain ⟨r302, hr302, hf⟩ := pr_bi hf
      refine pr_callVv (rest := []) (res := r302) ⟨hx, hb, hml, hown, hts⟩ 0 (prc_X_join hD hX 0 (Nat.le_refl _) r301.2 r301.1 r298.1 r302 hr302) (prg_X_join hts prw_926 (by have := hh; omega)) hX hXs hK hP hS (by decide) rfl rfl rfl rfl hl.1 (Nat.le_of_ble_eq_true rfl) prd_X_statement1_65 (fun H locs hP hS => ?_)
      refine lv_aload_n hx hb prd_X_statement1_68 rfl (lv_at hl 4 rfl) ?_
      obtain ⟨r303, hr303, hf⟩ := pr_bi hf
      refine pr_callVr (rest := []) (r := r303) ⟨hx, hb, hml, hown, hts⟩ 0 (prc_X_look hD hX 0 (Nat.le_refl _) r302  r303 hr303) (prg_X_look hts prw_896 (by have := hh; omega)) hX hXs hK hP hS (by decide) rfl rfl rfl rfl hl.1 (Nat.le_of_ble_eq_true rfl) prd_X_statement1_69 (fun H locs hP hS => ?_)
      refine lv_bipush (v := 91) hx hb prd_X_statement1_72 (by decide) ?_
      refine lv_icmp_ne (tgt := 103) hx hb prd_X_statement1_74 (by decide) (fun c304 => ?_) (fun c304 => ?_)
      · have hf := pr_ie c304 hf
        refine lv_aload_n hx hb prd_X_statement1_103 rfl (lv_at hl 4 rfl) ?_
        obtain ⟨r305, hr305, hf⟩ := pr_bi hf
        refine pr_callVr (rest := []) (r := r305) ⟨hx, hb, hml, hown, hts⟩ 0 (prc_X_look hD hX 0 (Nat.le_refl _) r302  r305 hr305) (prg_X_look hts prw_896 (by have := hh; omega)) hX hXs hK hP hS (by decide) rfl rfl rfl rfl hl.1 (Nat.le_of_ble_eq_true rfl) prd_X_statement1_104 (fun H locs hP hS => ?_)
        refine lv_bipush (v := 61) hx hb prd_X_statement1_107 (by decide) ?_
        refine lv_icmp_ne (tgt := 142) hx hb prd_X_statement1_109 (by decide) (fun c306 => ?_) (fun c306 => ?_)
        · have hf := pr_ie c306 hf
          refine lv_aload_n hx hb prd_X_statement1_142 rfl (lv_at hl 4 rfl) ?_
          refine lv_bipush (v := 59) hx hb prd_X_statement1_143 (by decide) ?_
          obtain ⟨r307, hr307, hf⟩ := pr_bi hf
          refine pr_callVv (rest := []) (res := r307) ⟨hx, hb, hml, hown, hts⟩ 0 (prc_X_take hD hX 1 (Nat.le_refl _) r302 59 r307 hr307) (prg_X_take hts prw_915 (by have := hh; omega)) hX hXs hK hP hS (by decide) rfl rfl rfl rfl hl.1 (Nat.le_of_ble_eq_true rfl) prd_X_statement1_145 (fun H locs hP hS => ?_)
          refine lv_goto (tgt := 441) hx hb prd_X_statement1_148 (by decide) ?_
          refine lv_iload hx hb prd_X_statement1_441 (lv_at hl 0 rfl) ?_
          exact pr_reti E hP hS (pr_so hf) prd_X_statement1_443
        · have hf := pr_it c306 hf
          refine lv_aload_n hx hb prd_X_statement1_112 rfl (lv_at hl 4 rfl) ?_
          refine lv_bipush (v := 61) hx hb prd_X_statement1_113 (by decide) ?_
          obtain ⟨r308, hr308, hf⟩ := pr_bi hf
          refine pr_callVv (rest := []) (res := r308) ⟨hx, hb, hml, hown, hts⟩ 0 (prc_X_take hD hX 1 (Nat.le_refl _) r302 61 r308 hr308) (prg_X_take hts prw_915 (by have := hh; omega)) hX hXs hK hP hS (by decide) rfl rfl rfl rfl hl.1 (Nat.le_of_ble_eq_true rfl) prd_X_statement1_115 (fun H locs hP hS => ?_)
          refine lv_aload_n hx hb prd_X_statement1_118 rfl (lv_at hl 4 rfl) ?_
          refine lv_iload hx hb prd_X_statement1_119 (lv_at hl 0 rfl) ?_
          refine lv_aload_n hx hb prd_X_statement1_121 rfl (lv_at hl 4 rfl) ?_
          refine pr_geti (v := (r308.1 0 9)) hx hb hts prs_X hown hK hP 0 9 (by decide) rfl (hts _ prw_887) rfl rfl prd_X_statement1_122 ?_
          refine lv_if_eq (tgt := 132) hx hb prd_X_statement1_125 (by decide) (fun c309 => ?_) (fun c309 => ?_)
          · have hf := pr_it c309 hf
            refine lv_aload_n hx hb prd_X_statement1_132 rfl (lv_at hl 4 rfl) ?_
            refine lv_iload_n hx hb prd_X_statement1_133 rfl (lv_at hl 5 rfl) ?_
            refine lv_iconst (v := 1) hx hb prd_X_statement1_134 (by decide) ?_
            refine lv_iadd hx hb prd_X_statement1_135 ?_
            obtain ⟨r310, hr310, hf⟩ := pr_bi hf
            refine pr_callVi (rest := [.int r301.1, .ref (ad 0)]) (res := r310) ⟨hx, hb, hml, hown, hts⟩ 0 (prct_X_sum hD hX r308 (x1 + 1) r310 hr310) (prg_X_sum hts prw_935 (by have := hh; omega)) hX hXs hK hP hS (by decide) rfl rfl rfl rfl hl.1 (Nat.le_of_ble_eq_true rfl) prd_X_statement1_136 (fun H locs hP hS => ?_)
            obtain ⟨r311, hr311, hf⟩ := pr_bi hf
            refine pr_callVv (rest := []) (res := r311) ⟨hx, hb, hml, hown, hts⟩ 0 (prc_X_join hD hX 0 (Nat.le_refl _) r310.2 r301.1 r310.1 r311 hr311) (prg_X_join hts prw_926 (by have := hh; omega)) hX hXs hK hP hS (by decide) rfl rfl rfl rfl hl.1 (Nat.le_of_ble_eq_true rfl) prd_X_statement1_139 (fun H locs hP hS => ?_)
            refine lv_aload_n hx hb prd_X_statement1_142 rfl (lv_at hl 4 rfl) ?_
            refine lv_bipush (v := 59) hx hb prd_X_statement1_143 (by decide) ?_
            obtain ⟨r312, hr312, hf⟩ := pr_bi hf
            refine pr_callVv (rest := []) (res := r312) ⟨hx, hb, hml, hown, hts⟩ 0 (prc_X_take hD hX 1 (Nat.le_refl _) r311 59 r312 hr312) (prg_X_take hts prw_915 (by have := hh; omega)) hX hXs hK hP hS (by decide) rfl rfl rfl rfl hl.1 (Nat.le_of_ble_eq_true rfl) prd_X_statement1_145 (fun H locs hP hS => ?_)
            refine lv_goto (tgt := 441) hx hb prd_X_statement1_148 (by decide) ?_
            refine lv_iload hx hb prd_X_statement1_441 (lv_at hl 0 rfl) ?_
            exact pr_reti E hP hS (pr_so hf) prd_X_statement1_443
          · have hf := pr_ie c309 hf
            refine lv_iconst (v := (-1)) hx hb prd_X_statement1_128 (by decide) ?_
            refine lv_goto (tgt := 139) hx hb prd_X_statement1_129 (by decide) ?_
            obtain ⟨r313, hr313, hf⟩ := pr_bi hf
            refine pr_callVv (rest := []) (res := r313) ⟨hx, hb, hml, hown, hts⟩ 0 (prc_X_join hD hX 0 (Nat.le_refl _) r308 r301.1 (-1) r313 hr313) (prg_X_join hts prw_926 (by have := hh; omega)) hX hXs hK hP hS (by decide) rfl rfl rfl rfl hl.1 (Nat.le_of_ble_eq_true rfl) prd_X_statement1_139 (fun H locs hP hS => ?_)
            refine lv_aload_n hx hb prd_X_statement1_142 rfl (lv_at hl 4 rfl) ?_
            refine lv_bipush (v := 59) hx hb prd_X_statement1_143 (by decide) ?_
            obtain ⟨r314, hr314, hf⟩ := pr_bi hf
            refine pr_callVv (rest := []) (res := r314) ⟨hx, hb, hml, hown, hts⟩ 0 (prc_X_take hD hX 1 (Nat.le_refl _) r313 59 r314 hr314) (prg_X_take hts prw_915 (by have := hh; omega)) hX hXs hK hP hS (by decide) rfl rfl rfl rfl hl.1 (Nat.le_of_ble_eq_true rfl) prd_X_statement1_145 (fun H locs hP hS => ?_)
            refine lv_goto (tgt := 441) hx hb prd_X_statement1_148 (by decide) ?_
            refine lv_iload hx hb prd_X_statement1_441 (lv_at hl 0 rfl) ?_
            exact pr_reti E hP hS (pr_so hf) prd_X_statement1_443
      · have hf := pr_it c304 hf
        refine lv_aload_n hx hb prd_X_statement1_77 rfl (lv_at hl 4 rfl) ?_
        refine lv_bipush (v := 91) hx hb prd_X_statement1_78 (by decide) ?_
        obtain ⟨r315, hr315, hf⟩ := pr_bi hf
        refine pr_callVv (rest := []) (res := r315) ⟨hx, hb, hml, hown, hts⟩ 0 (prc_X_take hD hX 1 (Nat.le_refl _) r302 91 r315 hr315) (prg_X_take hts prw_915 (by have := hh; omega)) hX hXs hK hP hS (by decide) rfl rfl rfl rfl hl.1 (Nat.le_of_ble_eq_true rfl) prd_X_statement1_80 (fun H locs hP hS => ?_)
        refine lv_aload_n hx hb prd_X_statement1_83 rfl (lv_at hl 4 rfl) ?_
        refine lv_iload hx hb prd_X_statement1_84 (lv_at hl 0 rfl) ?_
        refine lv_aload_n hx hb prd_X_statement1_86 rfl (lv_at hl 4 rfl) ?_
        refine lv_iconst (v := 0) hx hb prd_X_statement1_87 (by decide) ?_
        obtain ⟨r316, hr316, hf⟩ := pr_bi hf
        refine pr_callVi (rest := [.int r301.1, .ref (ad 0)]) (res := r316) ⟨hx, hb, hml, hown, hts⟩ 0 (prc_X_number hD hX 2 (Nat.le_refl _) r315 0 r316 hr316) (prg_X_number hts prw_936 (by have := hh; omega)) hX hXs hK hP hS (by decide) rfl rfl rfl rfl hl.1 (Nat.le_of_ble_eq_true rfl) prd_X_statement1_88 (fun H locs hP hS => ?_)
        obtain ⟨r317, hr317, hf⟩ := pr_bi hf
        refine pr_callVv (rest := []) (res := r317) ⟨hx, hb, hml, hown, hts⟩ 0 (prc_X_join hD hX 0 (Nat.le_refl _) r316.2 r301.1 r316.1 r317 hr317) (prg_X_join hts prw_926 (by have := hh; omega)) hX hXs hK hP hS (by decide) rfl rfl rfl rfl hl.1 (Nat.le_of_ble_eq_true rfl) prd_X_statement1_91 (fun H locs hP hS => ?_)
        refine lv_aload_n hx hb prd_X_statement1_94 rfl (lv_at hl 4 rfl) ?_
        refine lv_bipush (v := 93) hx hb prd_X_statement1_95 (by decide) ?_
        obtain ⟨r318, hr318, hf⟩ := pr_bi hf
        refine pr_callVv (rest := []) (res := r318) ⟨hx, hb, hml, hown, hts⟩ 0 (prc_X_take hD hX 1 (Nat.le_refl _) r317 93 r318 hr318) (prg_X_take hts prw_915 (by have := hh; omega)) hX hXs hK hP hS (by decide) rfl rfl rfl rfl hl.1 (Nat.le_of_ble_eq_true rfl) prd_X_statement1_97 (fun H locs hP hS => ?_)
        refine lv_goto (tgt := 142) hx hb prd_X_statement1_100 (by decide) ?_
        refine lv_aload_n hx hb prd_X_statement1_142 rfl (lv_at hl 4 rfl) ?_
        refine lv_bipush (v := 59) hx hb prd_X_statement1_143 (by decide) ?_
        obtain ⟨r319, hr319, hf⟩ := pr_bi hf
        refine pr_callVv (rest := []) (res := r319) ⟨hx, hb, hml, hown, hts⟩ 0 (prc_X_take hD hX 1 (Nat.le_refl _) r318 59 r319 hr319) (prg_X_take hts prw_915 (by have := hh; omega)) hX hXs hK hP hS (by decide) rfl rfl rfl rfl hl.1 (Nat.le_of_ble_eq_true rfl) prd_X_statement1_145 (fun H locs hP hS => ?_)
        refine lv_goto (tgt := 441) hx hb prd_X_statement1_148 (by decide) ?_
        refine lv_iload hx hb prd_X_statement1_441 (lv_at hl 0 rfl) ?_
        exact pr_reti E hP hS (pr_so hf) prd_X_statement1_443
    · have hf := pr_it c300 hf
      refine lv_iconst (v := 4) hx hb prd_X_statement1_48 (by decide) ?_
      refine lv_goto (tgt := 53) hx hb prd_X_statement1_49 (by decide) ?_
      refine lv_iload_n hx hb prd_X_statement1_53 rfl (lv_at hl 3 rfl) ?_
      refine lv_iconst (v := 0) hx hb prd_X_statement1_54 (by decide) ?_
      obtain ⟨r320, hr320, hf⟩ := pr_bi hf
      refine pr_callVi (rest := []) (res := r320) ⟨hx, hb, hml, hown, hts⟩ 0 (prc_X_draft hD hX 0 (Nat.le_refl _) r298.2 4 ((σ.2.1 4) (σ.1 0 8).toNatClampNeg) 0 r320 hr320) (prg_X_draft hts prw_914 (by have := hh; omega)) hX hXs hK hP hS (by decide) rfl rfl rfl rfl hl.1 (Nat.le_of_ble_eq_true rfl) prd_X_statement1_55 (fun H locs hP hS => ?_)
      refine lv_istore (lv' := [(4, .int r320.1), (5, .int r298.1), (3, .int r270), (2, .int ((σ.2.1 4) (σ.1 0 8).toNatClampNeg)), (0, .ref (ad 0)), (1, .int x1)]) hx hb prd_X_statement1_58 hl (by decide) rfl (fun ls hl => ?_)
      refine lv_aload_n hx hb prd_X_statement1_60 rfl (lv_at hl 4 rfl) ?_
      refine lv_iload hx hb prd_X_statement1_61 (lv_at hl 0 rfl) ?_
      refine lv_iload hx hb prd_X_statement1_63 (lv_at hl 1 rfl) ?_
      obtain ⟨r321, hr321, hf⟩ := pr_bi hf
      refine pr_callVv (rest := []) (res := r321) ⟨hx, hb, hml, hown, hts⟩ 0 (prc_X_join hD hX 0 (Nat.le_refl _) r320.2 r320.1 r298.1 r321 hr321) (prg_X_join hts prw_926 (by have := hh; omega)) hX hXs hK hP hS (by decide) rfl rfl rfl rfl hl.1 (Nat.le_of_ble_eq_true rfl) prd_X_statement1_65 (fun H locs hP hS => ?_)
      refine lv_aload_n hx hb prd_X_statement1_68 rfl (lv_at hl 4 rfl) ?_
      obtain ⟨r322, hr322, hf⟩ := pr_bi hf
      refine pr_callVr (rest := []) (r := r322) ⟨hx, hb, hml, hown, hts⟩ 0 (prc_X_look hD hX 0 (Nat.le_refl _) r321  r322 hr322) (prg_X_look hts prw_896 (by have := hh; omega)) hX hXs hK hP hS (by decide) rfl rfl rfl rfl hl.1 (Nat.le_of_ble_eq_true rfl) prd_X_statement1_69 (fun H locs hP hS => ?_)
      refine lv_bipush (v := 91) hx hb prd_X_statement1_72 (by decide) ?_
      refine lv_icmp_ne (tgt := 103) hx hb prd_X_statement1_74 (by decide) (fun c323 => ?_) (fun c323 => ?_)
      · have hf := pr_ie c323 hf
        refine lv_aload_n hx hb prd_X_statement1_103 rfl (lv_at hl 4 rfl) ?_
        obtain ⟨r324, hr324, hf⟩ := pr_bi hf
        refine pr_callVr (rest := []) (r := r324) ⟨hx, hb, hml, hown, hts⟩ 0 (prc_X_look hD hX 0 (Nat.le_refl _) r321  r324 hr324) (prg_X_look hts prw_896 (by have := hh; omega)) hX hXs hK hP hS (by decide) rfl rfl rfl rfl hl.1 (Nat.le_of_ble_eq_true rfl) prd_X_statement1_104 (fun H locs hP hS => ?_)
        refine lv_bipush (v := 61) hx hb prd_X_statement1_107 (by decide) ?_
        refine lv_icmp_ne (tgt := 142) hx hb prd_X_statement1_109 (by decide) (fun c325 => ?_) (fun c325 => ?_)
        · have hf := pr_ie c325 hf
          refine lv_aload_n hx hb prd_X_statement1_142 rfl (lv_at hl 4 rfl) ?_
          refine lv_bipush (v := 59) hx hb prd_X_statement1_143 (by decide) ?_
          obtain ⟨r326, hr326, hf⟩ := pr_bi hf
          refine pr_callVv (rest := []) (res := r326) ⟨hx, hb, hml, hown, hts⟩ 0 (prc_X_take hD hX 1 (Nat.le_refl _) r321 59 r326 hr326) (prg_X_take hts prw_915 (by have := hh; omega)) hX hXs hK hP hS (by decide) rfl rfl rfl rfl hl.1 (Nat.le_of_ble_eq_true rfl) prd_X_statement1_145 (fun H locs hP hS => ?_)
          refine lv_goto (tgt := 441) hx hb prd_X_statement1_148 (by decide) ?_
          refine lv_iload hx hb prd_X_statement1_441 (lv_at hl 0 rfl) ?_
          exact pr_reti E hP hS (pr_so hf) prd_X_statement1_443
        · have hf := pr_it c325 hf
          refine lv_aload_n hx hb prd_X_statement1_112 rfl (lv_at hl 4 rfl) ?_
          refine lv_bipush (v := 61) hx hb prd_X_statement1_113 (by decide) ?_
          obtain ⟨r327, hr327, hf⟩ := pr_bi hf
          refine pr_callVv (rest := []) (res := r327) ⟨hx, hb, hml, hown, hts⟩ 0 (prc_X_take hD hX 1 (Nat.le_refl _) r321 61 r327 hr327) (prg_X_take hts prw_915 (by have := hh; omega)) hX hXs hK hP hS (by decide) rfl rfl rfl rfl hl.1 (Nat.le_of_ble_eq_true rfl) prd_X_statement1_115 (fun H locs hP hS => ?_)
          refine lv_aload_n hx hb prd_X_statement1_118 rfl (lv_at hl 4 rfl) ?_
          refine lv_iload hx hb prd_X_statement1_119 (lv_at hl 0 rfl) ?_
          refine lv_aload_n hx hb prd_X_statement1_121 rfl (lv_at hl 4 rfl) ?_
          refine pr_geti (v := (r327.1 0 9)) hx hb hts prs_X hown hK hP 0 9 (by decide) rfl (hts _ prw_887) rfl rfl prd_X_statement1_122 ?_
          refine lv_if_eq (tgt := 132) hx hb prd_X_statement1_125 (by decide) (fun c328 => ?_) (fun c328 => ?_)
          · have hf := pr_it c328 hf
            refine lv_aload_n hx hb prd_X_statement1_132 rfl (lv_at hl 4 rfl) ?_
            refine lv_iload_n hx hb prd_X_statement1_133 rfl (lv_at hl 5 rfl) ?_
            refine lv_iconst (v := 1) hx hb prd_X_statement1_134 (by decide) ?_
            refine lv_iadd hx hb prd_X_statement1_135 ?_
            obtain ⟨r329, hr329, hf⟩ := pr_bi hf
            refine pr_callVi (rest := [.int r320.1, .ref (ad 0)]) (res := r329) ⟨hx, hb, hml, hown, hts⟩ 0 (prct_X_sum hD hX r327 (x1 + 1) r329 hr329) (prg_X_sum hts prw_935 (by have := hh; omega)) hX hXs hK hP hS (by decide) rfl rfl rfl rfl hl.1 (Nat.le_of_ble_eq_true rfl) prd_X_statement1_136 (fun H locs hP hS => ?_)
            obtain ⟨r330, hr330, hf⟩ := pr_bi hf
            refine pr_callVv (rest := []) (res := r330) ⟨hx, hb, hml, hown, hts⟩ 0 (prc_X_join hD hX 0 (Nat.le_refl _) r329.2 r320.1 r329.1 r330 hr330) (prg_X_join hts prw_926 (by have := hh; omega)) hX hXs hK hP hS (by decide) rfl rfl rfl rfl hl.1 (Nat.le_of_ble_eq_true rfl) prd_X_statement1_139 (fun H locs hP hS => ?_)
            refine lv_aload_n hx hb prd_X_statement1_142 rfl (lv_at hl 4 rfl) ?_
            refine lv_bipush (v := 59) hx hb prd_X_statement1_143 (by decide) ?_
            obtain ⟨r331, hr331, hf⟩ := pr_bi hf
            refine pr_callVv (rest := []) (res := r331) ⟨hx, hb, hml, hown, hts⟩ 0 (prc_X_take hD hX 1 (Nat.le_refl _) r330 59 r331 hr331) (prg_X_take hts prw_915 (by have := hh; omega)) hX hXs hK hP hS (by decide) rfl rfl rfl rfl hl.1 (Nat.le_of_ble_eq_true rfl) prd_X_statement1_145 (fun H locs hP hS => ?_)
            refine lv_goto (tgt := 441) hx hb prd_X_statement1_148 (by decide) ?_
            refine lv_iload hx hb prd_X_statement1_441 (lv_at hl 0 rfl) ?_
            exact pr_reti E hP hS (pr_so hf) prd_X_statement1_443
          · have hf := pr_ie c328 hf
            refine lv_iconst (v := (-1)) hx hb prd_X_statement1_128 (by decide) ?_
            refine lv_goto (tgt := 139) hx hb prd_X_statement1_129 (by decide) ?_
            obtain ⟨r332, hr332, hf⟩ := pr_bi hf
            refine pr_callVv (rest := []) (res := r332) ⟨hx, hb, hml, hown, hts⟩ 0 (prc_X_join hD hX 0 (Nat.le_refl _) r327 r320.1 (-1) r332 hr332) (prg_X_join hts prw_926 (by have := hh; omega)) hX hXs hK hP hS (by decide) rfl rfl rfl rfl hl.1 (Nat.le_of_ble_eq_true rfl) prd_X_statement1_139 (fun H locs hP hS => ?_)
            refine lv_aload_n hx hb prd_X_statement1_142 rfl (lv_at hl 4 rfl) ?_
            refine lv_bipush (v := 59) hx hb prd_X_statement1_143 (by decide) ?_
            obtain ⟨r333, hr333, hf⟩ := pr_bi hf
            refine pr_callVv (rest := []) (res := r333) ⟨hx, hb, hml, hown, hts⟩ 0 (prc_X_take hD hX 1 (Nat.le_refl _) r332 59 r333 hr333) (prg_X_take hts prw_915 (by have := hh; omega)) hX hXs hK hP hS (by decide) rfl rfl rfl rfl hl.1 (Nat.le_of_ble_eq_true rfl) prd_X_statement1_145 (fun H locs hP hS => ?_)
            refine lv_goto (tgt := 441) hx hb prd_X_statement1_148 (by decide) ?_
            refine lv_iload hx hb prd_X_statement1_441 (lv_at hl 0 rfl) ?_
            exact pr_reti E hP hS (pr_so hf) prd_X_statement1_443
      · have hf := pr_it c323 hf
        refine lv_aload_n hx hb prd_X_statement1_77 rfl (lv_at hl 4 rfl) ?_
        refine lv_bipush (v := 91) hx hb prd_X_statement1_78 (by decide) ?_
        obtain ⟨r334, hr334, hf⟩ := pr_bi hf
        refine pr_callVv (rest := []) (res := r334) ⟨hx, hb, hml, hown, hts⟩ 0 (prc_X_take hD hX 1 (Nat.le_refl _) r321 91 r334 hr334) (prg_X_take hts prw_915 (by have := hh; omega)) hX hXs hK hP hS (by decide) rfl rfl rfl rfl hl.1 (Nat.le_of_ble_eq_true rfl) prd_X_statement1_80 (fun H locs hP hS => ?_)
        refine lv_aload_n hx hb prd_X_statement1_83 rfl (lv_at hl 4 rfl) ?_
        refine lv_iload hx hb prd_X_statement1_84 (lv_at hl 0 rfl) ?_
        refine lv_aload_n hx hb prd_X_statement1_86 rfl (lv_at hl 4 rfl) ?_
        refine lv_iconst (v := 0) hx hb prd_X_statement1_87 (by decide) ?_
        obtain ⟨r335, hr335, hf⟩ := pr_bi hf
        refine pr_callVi (rest := [.int r320.1, .ref (ad 0)]) (res := r335) ⟨hx, hb, hml, hown, hts⟩ 0 (prc_X_number hD hX 2 (Nat.le_refl _) r334 0 r335 hr335) (prg_X_number hts prw_936 (by have := hh; omega)) hX hXs hK hP hS (by decide) rfl rfl rfl rfl hl.1 (Nat.le_of_ble_eq_true rfl) prd_X_statement1_88 (fun H locs hP hS => ?_)
        obtain ⟨r336, hr336, hf⟩ := pr_bi hf
        refine pr_callVv (rest := []) (res := r336) ⟨hx, hb, hml, hown, hts⟩ 0 (prc_X_join hD hX 0 (Nat.le_refl _) r335.2 r320.1 r335.1 r336 hr336) (prg_X_join hts prw_926 (by have := hh; omega)) hX hXs hK hP hS (by decide) rfl rfl rfl rfl hl.1 (Nat.le_of_ble_eq_true rfl) prd_X_statement1_91 (fun H locs hP hS => ?_)
        refine lv_aload_n hx hb prd_X_statement1_94 rfl (lv_at hl 4 rfl) ?_
        refine lv_bipush (v := 93) hx hb prd_X_statement1_95 (by decide) ?_
        obtain ⟨r337, hr337, hf⟩ := pr_bi hf
        refine pr_callVv (rest := []) (res := r337) ⟨hx, hb, hml, hown, hts⟩ 0 (prc_X_take hD hX 1 (Nat.le_refl _) r336 93 r337 hr337) (prg_X_take hts prw_915 (by have := hh; omega)) hX hXs hK hP hS (by decide) rfl rfl rfl rfl hl.1 (Nat.le_of_ble_eq_true rfl) prd_X_statement1_97 (fun H locs hP hS => ?_)
        refine lv_goto (tgt := 142) hx hb prd_X_statement1_100 (by decide) ?_
        refine lv_aload_n hx hb prd_X_statement1_142 rfl (lv_at hl 4 rfl) ?_
        refine lv_bipush (v := 59) hx hb prd_X_statement1_143 (by decide) ?_
        obtain ⟨r338, hr338, hf⟩ := pr_bi hf
        refine pr_callVv (rest := []) (res := r338) ⟨hx, hb, hml, hown, hts⟩ 0 (prc_X_take hD hX 1 (Nat.le_refl _) r337 59 r338 hr338) (prg_X_take hts prw_915 (by have := hh; omega)) hX hXs hK hP hS (by decide) rfl rfl rfl rfl hl.1 (Nat.le_of_ble_eq_true rfl) prd_X_statement1_145 (fun H locs hP hS => ?_)
        refine lv_goto (tgt := 441) hx hb prd_X_statement1_148 (by decide) ?_
        refine lv_iload hx hb prd_X_statement1_441 (lv_at hl 0 rfl) ?_
        exact pr_reti E hP hS (pr_so hf) prd_X_statement1_443
-- prF_X_statement1
set_option maxHeartbeats 4000000 in
theorem prF_X_statement1_ok {l : Launch} {D : va_G} {ad : Nat → Nat} {dA : Nat → ClassId} {A : Nat → Prop} {v : Nat → Nat} {r : Value} (hD : ∀ σ : pr_St, va_D A (pr_w prx_L ad dA σ)) (hX : pr_Xok A (prY ad v r A)) : ∀ n : Nat, (∀ (σ : pr_St) (x1 : Int32) (res : (Int32 × pr_St)), prF_X_statement1 n σ x1 = some res → Met l pry_X_statement1 (Cond.code pry_X_statement1 prb_X_statement1 6 (some .int) :: pr_U) (pr_rm (618 + 2 * n)) (pr_Pc (prY ad v r A) D pr_cl prx_L ad dA [.ref (ad 0), .int x1] σ) (pr_Qi D pr_cl prx_L ad dA A res) 0 0 A) := by
  intro n
  induction n with
  | zero => exact (fun σ x1 res hf => by cases hf)
  | succ n ih =>
    have i0 := ih
    exact fun σ x1 res hf => prc_X_statement1 hD hX (618 + 2 * n) (by omega) (618 + 2 * (n + 1)) (by omega) i0 σ x1 res hf
theorem prct_X_statement1 {l : Launch} {D : va_G} {ad : Nat → Nat} {dA : Nat → ClassId} {A : Nat → Prop} {v : Nat → Nat} {r : Value} (hD : ∀ σ : pr_St, va_D A (pr_w prx_L ad dA σ)) (hX : pr_Xok A (prY ad v r A)) (σ : pr_St) (x1 : Int32) (res : (Int32 × pr_St)) (hf : prf_X_statement1 (prF_X_statement1 70) σ x1 = some res) : Met l pry_X_statement1 (Cond.code pry_X_statement1 prb_X_statement1 6 (some .int) :: pr_U) (pr_rm 760) (pr_Pc (prY ad v r A) D pr_cl prx_L ad dA [.ref (ad 0), .int x1] σ) (pr_Qi D pr_cl prx_L ad dA A res) 0 0 A :=
  prc_X_statement1 hD hX (618 + 2 * 70) (by decide) 760 (by decide) (prF_X_statement1_ok hD hX 70) σ x1 res hf
theorem prct_X_block1 {l : Launch} {D : va_G} {ad : Nat → Nat} {dA : Nat → ClassId} {A : Nat → Prop} {v : Nat → Nat} {r : Value} (hD : ∀ σ : pr_St, va_D A (pr_w prx_L ad dA σ)) (hX : pr_Xok A (prY ad v r A)) (σ : pr_St) (x1 : Int32) (res : (Int32 × pr_St)) (hf : prf_X_block1 (prF_X_statement1 70) σ x1 = some res) : Met l pry_X_block1 (Cond.code pry_X_block1 prb_X_block1 3 (some .int) :: pr_U) (pr_rm 759) (pr_Pc (prY ad v r A) D pr_cl prx_L ad dA [.ref (ad 0), .int x1] σ) (pr_Qi D pr_cl prx_L ad dA A res) 0 0 A :=
  prc_X_block1 hD hX (618 + 2 * 70) (by decide) 759 (by decide) (prF_X_statement1_ok hD hX 70) σ x1 res hf
-- X_function
set_option maxHeartbeats 4000000 in
set_option maxRecDepth 100000 in
theorem prk_X_function_83 {l : Launch} {D : va_G} {ad : Nat → Nat} {dA : Nat → ClassId} {A : Nat → Prop} {v : Nat → Nat} {r : Value} {p : Program} {e : Env} {s : State} {m : MethodId} {args : Array Value} {below : List Frame} {meth : Method} {c : Code} {h : Nat} (hh : 760 ≤ h) (E : pr_cx prn_X prb_X_function 2 (some .int) D pr_cl prx_L ad dA A (prY ad v r A) p s m args meth c) : ∀ (σ : pr_St) (x1 : Int32) (res : (Int32 × pr_St)), some res = prf_X_function_83 σ x1 → ∀ (H : Heap) (locs : List Loc) (ls : Array Slot), va_P D pr_cl (pr_w prx_L ad dA σ) H → va_S A s.heap H locs → lv_has ls 2 [(0, .ref (ad 0)), (1, .int x1)] → W p l e (pr_rm h) s m args below meth c H locs 0 0 (MQ below (pr_Qi D pr_cl prx_L ad dA A res) args s 0 0 A) (F0 m 83 ls []) := by
  obtain ⟨hx, hb, hml, hown, hts, hr, hlocks, hK, hD, hX, hXs⟩ := id E
  intro σ x1 res hf H locs ls hP hS hl
  unfold prf_X_function_83 at hf
  refine lv_aload_n hx hb prd_X_function_83 rfl (lv_at hl 0 rfl) ?_
  refine lv_bipush (v := 41) hx hb prd_X_function_84 (by decide) ?_
  obtain ⟨r21, hr21, hf⟩ := pr_bi hf
  refine pr_callVv (rest := []) (res := r21) ⟨hx, hb, hml, hown, hts⟩ 0 (prc_X_take hD hX 1 (Nat.le_refl _) σ 41 r21 hr21) (prg_X_take hts prw_915 (by have := hh; omega)) hX hXs hK hP hS (by decide) rfl rfl rfl rfl hl.1 (Nat.le_of_ble_eq_true rfl) prd_X_function_86 (fun H locs hP hS => ?_)
  refine lv_aload_n hx hb prd_X_function_89 rfl (lv_at hl 0 rfl) ?_
  refine lv_iload_n hx hb prd_X_function_90 rfl (lv_at hl 1 rfl) ?_
  refine lv_aload_n hx hb prd_X_function_91 rfl (lv_at hl 0 rfl) ?_
  refine pr_geti (v := (r21.1 0 9)) hx hb hts prs_X hown hK hP 0 9 (by decide) rfl (hts _ prw_887) rfl rfl prd_X_function_92 ?_
  refine lv_if_eq (tgt := 102) hx hb prd_X_function_95 (by decide) (fun c22 => ?_) (fun c22 => ?_)
  · have hf := pr_it c22 hf
    refine lv_aload_n hx hb prd_X_function_102 rfl (lv_at hl 0 rfl) ?_
    refine lv_iconst (v := 1) hx hb prd_X_function_103 (by decide) ?_
    obtain ⟨r23, hr23, hf⟩ := pr_bi hf
    refine pr_callVi (rest := [.int x1, .ref (ad 0)]) (res := r23) ⟨hx, hb, hml, hown, hts⟩ 0 (prct_X_block1 hD hX r21 1 r23 hr23) (prg_X_block1 hts prw_965 (by have := hh; omega)) hX hXs hK hP hS (by decide) rfl rfl rfl rfl hl.1 (Nat.le_of_ble_eq_true rfl) prd_X_function_104 (fun H locs hP hS => ?_)
    obtain ⟨r24, hr24, hf⟩ := pr_bi hf
    refine pr_callVv (rest := []) (res := r24) ⟨hx, hb, hml, hown, hts⟩ 0 (prc_X_join hD hX 0 (Nat.le_refl _) r23.2 x1 r23.1 r24 hr24) (prg_X_join hts prw_926 (by have := hh; omega)) hX hXs hK hP hS (by decide) rfl rfl rfl rfl hl.1 (Nat.le_of_ble_eq_true rfl) prd_X_function_107 (fun H locs hP hS => ?_)
    refine lv_iload_n hx hb prd_X_function_110 rfl (lv_at hl 1 rfl) ?_
    exact pr_reti E hP hS (pr_so hf) prd_X_function_111
  · have hf := pr_ie c22 hf
    refine lv_iconst (v := (-1)) hx hb prd_X_function_98 (by decide) ?_
    refine lv_goto (tgt := 107) hx hb prd_X_function_99 (by decide) ?_
    obtain ⟨r25, hr25, hf⟩ := pr_bi hf
    refine pr_callVv (rest := []) (res := r25) ⟨hx, hb, hml, hown, hts⟩ 0 (prc_X_join hD hX 0 (Nat.le_refl _) r21 x1 (-1) r25 hr25) (prg_X_join hts prw_926 (by have := hh; omega)) hX hXs hK hP hS (by decide) rfl rfl rfl rfl hl.1 (Nat.le_of_ble_eq_true rfl) prd_X_function_107 (fun H locs hP hS => ?_)
    refine lv_iload_n hx hb prd_X_function_110 rfl (lv_at hl 1 rfl) ?_
    exact pr_reti E hP hS (pr_so hf) prd_X_function_111
set_option maxHeartbeats 4000000 in
set_option maxRecDepth 100000 in
theorem prk_X_function_56 {l : Launch} {D : va_G} {ad : Nat → Nat} {dA : Nat → ClassId} {A : Nat → Prop} {v : Nat → Nat} {r : Value} {p : Program} {e : Env} {s : State} {m : MethodId} {args : Array Value} {below : List Frame} {meth : Method} {c : Code} {h : Nat} (hh : 760 ≤ h) (E : pr_cx prn_X prb_X_function 2 (some .int) D pr_cl prx_L ad dA A (prY ad v r A) p s m args meth c) : ∀ n : Nat, ∀ (σ : pr_St) (x1 : Int32) (res : (Int32 × pr_St)), some res = prf_X_function_56 n σ x1 → ∀ (H : Heap) (locs : List Loc) (ls : Array Slot), va_P D pr_cl (pr_w prx_L ad dA σ) H → va_S A s.heap H locs → lv_has ls 2 [(0, .ref (ad 0)), (1, .int x1)] → W p l e (pr_rm h) s m args below meth c H locs 0 0 (MQ below (pr_Qi D pr_cl prx_L ad dA A res) args s 0 0 A) (F0 m 56 ls []) := by
  obtain ⟨hx, hb, hml, hown, hts, hr, hlocks, hK, hD, hX, hXs⟩ := id E
  intro n
  induction n with
  | zero =>
    intro σ x1 res hf
    rw [prf_X_function_56] at hf
    cases hf
  | succ n ih =>
    intro σ x1 res hf H locs ls hP hS hl
    rw [prf_X_function_56] at hf
    refine lv_aload_n hx hb prd_X_function_56 rfl (lv_at hl 0 rfl) ?_
    obtain ⟨r26, hr26, hf⟩ := pr_bi hf
    refine pr_callVr (rest := []) (r := r26) ⟨hx, hb, hml, hown, hts⟩ 0 (prc_X_look hD hX 0 (Nat.le_refl _) σ  r26 hr26) (prg_X_look hts prw_896 (by have := hh; omega)) hX hXs hK hP hS (by decide) rfl rfl rfl rfl hl.1 (Nat.le_of_ble_eq_true rfl) prd_X_function_57 (fun H locs hP hS => ?_)
    refine lv_bipush (v := 44) hx hb prd_X_function_60 (by decide) ?_
    refine lv_icmp_ne (tgt := 83) hx hb prd_X_function_62 (by decide) (fun c27 => ?_) (fun c27 => ?_)
    · have hf := pr_ie c27 hf
      exact prk_X_function_83 hh E σ x1 _ hf _ _ _ hP hS (lv_sub hl [0, 1] rfl)
    · have hf := pr_it c27 hf
      refine lv_aload_n hx hb prd_X_function_65 rfl (lv_at hl 0 rfl) ?_
      refine lv_bipush (v := 44) hx hb prd_X_function_66 (by decide) ?_
      obtain ⟨r28, hr28, hf⟩ := pr_bi hf
      refine pr_callVv (rest := []) (res := r28) ⟨hx, hb, hml, hown, hts⟩ 0 (prc_X_take hD hX 1 (Nat.le_refl _) σ 44 r28 hr28) (prg_X_take hts prw_915 (by have := hh; omega)) hX hXs hK hP hS (by decide) rfl rfl rfl rfl hl.1 (Nat.le_of_ble_eq_true rfl) prd_X_function_68 (fun H locs hP hS => ?_)
      refine lv_aload_n hx hb prd_X_function_71 rfl (lv_at hl 0 rfl) ?_
      refine lv_iload_n hx hb prd_X_function_72 rfl (lv_at hl 1 rfl) ?_
      refine lv_aload_n hx hb prd_X_function_73 rfl (lv_at hl 0 rfl) ?_
      obtain ⟨r29, hr29, hf⟩ := pr_bi hf
      refine pr_callVi (rest := [.int x1, .ref (ad 0)]) (res := r29) ⟨hx, hb, hml, hown, hts⟩ 0 (prc_X_name hD hX 2 (Nat.le_refl _) r28  r29 hr29) (prg_X_name hts prw_937 (by have := hh; omega)) hX hXs hK hP hS (by decide) rfl rfl rfl rfl hl.1 (Nat.le_of_ble_eq_true rfl) prd_X_function_74 (fun H locs hP hS => ?_)
      obtain ⟨r30, hr30, hf⟩ := pr_bi hf
      refine pr_callVv (rest := []) (res := r30) ⟨hx, hb, hml, hown, hts⟩ 0 (prc_X_join hD hX 0 (Nat.le_refl _) r29.2 x1 r29.1 r30 hr30) (prg_X_join hts prw_926 (by have := hh; omega)) hX hXs hK hP hS (by decide) rfl rfl rfl rfl hl.1 (Nat.le_of_ble_eq_true rfl) prd_X_function_77 (fun H locs hP hS => ?_)
      refine lv_goto (tgt := 56) hx hb prd_X_function_80 (by decide) ?_
      exact ih r30 x1 _ hf _ _ _ hP hS (lv_sub hl [0, 1] rfl)
set_option maxHeartbeats 4000000 in
set_option maxRecDepth 100000 in
theorem prc_X_function {l : Launch} {D : va_G} {ad : Nat → Nat} {dA : Nat → ClassId} {A : Nat → Prop} {v : Nat → Nat} {r : Value} (hD : ∀ σ : pr_St, va_D A (pr_w prx_L ad dA σ)) (hX : pr_Xok A (prY ad v r A)) (h : Nat) (hh : 760 ≤ h) (σ : pr_St)  (res : (Int32 × pr_St)) (hf : prf_X_function σ  = some res) : Met l pry_X_function (Cond.code pry_X_function prb_X_function 2 (some .int) :: pr_U) (pr_rm h) (pr_Pc (prY ad v r A) D pr_cl prx_L ad dA [.ref (ad 0)] σ) (pr_Qi D pr_cl prx_L ad dA A res) 0 0 A := by
  refine pr_entry (cc := prb_X_function) (maxL := 2) (ret := (some .int)) (by decide) (Nat.le_of_ble_eq_true rfl) hD hX ?_
  intro p e s m args below meth c E H locs hP hS ls hl
  have hl : lv_has ls 2 [(0, .ref (ad 0))] := hl
  have hf := hf.symm
  unfold prf_X_function at hf
  obtain ⟨hx, hb, hml, hown, hts, hr, hlocks, hK, hD, hX, hXs⟩ := id E
  refine lv_aload_n hx hb prd_X_function_0 rfl (lv_at hl 0 rfl) ?_
  refine lv_iconst (v := 1) hx hb prd_X_function_1 (by decide) ?_
  refine lv_aload_n hx hb prd_X_function_2 rfl (lv_at hl 0 rfl) ?_
  refine pr_getr (t := 4) hx hb hts prs_X hown hK hP 0 5 (by decide) rfl (hts _ prw_882) rfl prd_X_function_3 ?_
  refine lv_aload_n hx hb prd_X_function_6 rfl (lv_at hl 0 rfl) ?_
  refine pr_geti (v := (σ.1 0 8)) hx hb hts prs_X hown hK hP 0 8 (by decide) rfl (hts _ prw_888) rfl rfl prd_X_function_7 ?_
  obtain ⟨hi31, hf⟩ := pr_ck_in hf
  refine pr_iald (f := (σ.2.1 4)) hx hb hK hP 4 (by decide) rfl hi31 rfl prd_X_function_10 ?_
  refine lv_iconst (v := 0) hx hb prd_X_function_11 (by decide) ?_
  obtain ⟨r32, hr32, hf⟩ := pr_bi hf
  refine pr_callVi (rest := []) (res := r32) ⟨hx, hb, hml, hown, hts⟩ 0 (prc_X_draft hD hX 0 (Nat.le_refl _) σ 1 ((σ.2.1 4) (σ.1 0 8).toNatClampNeg) 0 r32 hr32) (prg_X_draft hts prw_914 (by have := hh; omega)) hX hXs hK hP hS (by decide) rfl rfl rfl rfl hl.1 (Nat.le_of_ble_eq_true rfl) prd_X_function_12 (fun H locs hP hS => ?_)
  refine lv_istore_n (lv' := [(1, .int r32.1), (0, .ref (ad 0))]) hx hb prd_X_function_15 rfl hl (by decide) rfl (fun ls hl => ?_)
  refine lv_aload_n hx hb prd_X_function_16 rfl (lv_at hl 1 rfl) ?_
  refine lv_sipush (v := 300) hx hb prd_X_function_17 (by decide) ?_
  obtain ⟨r33, hr33, hf⟩ := pr_bi hf
  refine pr_callVv (rest := []) (res := r33) ⟨hx, hb, hml, hown, hts⟩ 0 (prc_X_take hD hX 1 (Nat.le_refl _) r32.2 300 r33 hr33) (prg_X_take hts prw_915 (by have := hh; omega)) hX hXs hK hP hS (by decide) rfl rfl rfl rfl hl.1 (Nat.le_of_ble_eq_true rfl) prd_X_function_20 (fun H locs hP hS => ?_)
  refine lv_aload_n hx hb prd_X_function_23 rfl (lv_at hl 1 rfl) ?_
  refine lv_iload_n hx hb prd_X_function_24 rfl (lv_at hl 0 rfl) ?_
  refine lv_aload_n hx hb prd_X_function_25 rfl (lv_at hl 1 rfl) ?_
  obtain ⟨r34, hr34, hf⟩ := pr_bi hf
  refine pr_callVi (rest := [.int r32.1, .ref (ad 0)]) (res := r34) ⟨hx, hb, hml, hown, hts⟩ 0 (prc_X_name hD hX 2 (Nat.le_refl _) r33  r34 hr34) (prg_X_name hts prw_937 (by have := hh; omega)) hX hXs hK hP hS (by decide) rfl rfl rfl rfl hl.1 (Nat.le_of_ble_eq_true rfl) prd_X_function_26 (fun H locs hP hS => ?_)
  obtain ⟨r35, hr35, hf⟩ := pr_bi hf
  refine pr_callVv (rest := []) (res := r35) ⟨hx, hb, hml, hown, hts⟩ 0 (prc_X_join hD hX 0 (Nat.le_refl _) r34.2 r32.1 r34.1 r35 hr35) (prg_X_join hts prw_926 (by have := hh; omega)) hX hXs hK hP hS (by decide) rfl rfl rfl rfl hl.1 (Nat.le_of_ble_eq_true rfl) prd_X_function_29 (fun H locs hP hS => ?_)
  refine lv_aload_n hx hb prd_X_function_32 rfl (lv_at hl 1 rfl) ?_
  refine lv_bipush (v := 40) hx hb prd_X_function_33 (by decide) ?_
  obtain ⟨r36, hr36, hf⟩ := pr_bi hf
  refine pr_callVv (rest := []) (res := r36) ⟨hx, hb, hml, hown, hts⟩ 0 (prc_X_take hD hX 1 (Nat.le_refl _) r35 40 r36 hr36) (prg_X_take hts prw_915 (by have := hh; omega)) hX hXs hK hP hS (by decide) rfl rfl rfl rfl hl.1 (Nat.le_of_ble_eq_true rfl) prd_X_function_35 (fun H locs hP hS => ?_)
  refine lv_aload_n hx hb prd_X_function_38 rfl (lv_at hl 1 rfl) ?_
  obtain ⟨r37, hr37, hf⟩ := pr_bi hf
  refine pr_callVr (rest := []) (r := r37) ⟨hx, hb, hml, hown, hts⟩ 0 (prc_X_look hD hX 0 (Nat.le_refl _) r36  r37 hr37) (prg_X_look hts prw_896 (by have := hh; omega)) hX hXs hK hP hS (by decide) rfl rfl rfl rfl hl.1 (Nat.le_of_ble_eq_true rfl) prd_X_function_39 (fun H locs hP hS => ?_)
  refine lv_bipush (v := 41) hx hb prd_X_function_42 (by decide) ?_
  refine lv_icmp_eq (tgt := 83) hx hb prd_X_function_44 (by decide) (fun c38 => ?_) (fun c38 => ?_)
  · have hf := pr_it c38 hf
    exact prk_X_function_83 hh E r36 r32.1 _ hf _ _ _ hP hS (lv_sub hl [1, 0] rfl)
  · have hf := pr_ie c38 hf
    refine lv_aload_n hx hb prd_X_function_47 rfl (lv_at hl 1 rfl) ?_
    refine lv_iload_n hx hb prd_X_function_48 rfl (lv_at hl 0 rfl) ?_
    refine lv_aload_n hx hb prd_X_function_49 rfl (lv_at hl 1 rfl) ?_
    obtain ⟨r39, hr39, hf⟩ := pr_bi hf
    refine pr_callVi (rest := [.int r32.1, .ref (ad 0)]) (res := r39) ⟨hx, hb, hml, hown, hts⟩ 0 (prc_X_name hD hX 2 (Nat.le_refl _) r36  r39 hr39) (prg_X_name hts prw_937 (by have := hh; omega)) hX hXs hK hP hS (by decide) rfl rfl rfl rfl hl.1 (Nat.le_of_ble_eq_true rfl) prd_X_function_50 (fun H locs hP hS => ?_)
    obtain ⟨r40, hr40, hf⟩ := pr_bi hf
    refine pr_callVv (rest := []) (res := r40) ⟨hx, hb, hml, hown, hts⟩ 0 (prc_X_join hD hX 0 (Nat.le_refl _) r39.2 r32.1 r39.1 r40 hr40) (prg_X_join hts prw_926 (by have := hh; omega)) hX hXs hK hP hS (by decide) rfl rfl rfl rfl hl.1 (Nat.le_of_ble_eq_true rfl) prd_X_function_53 (fun H locs hP hS => ?_)
    exact prk_X_function_56 hh E pr_FU r40 r32.1 _ hf _ _ _ hP hS (lv_sub hl [1, 0] rfl)
-- X_nameOf
set_option maxHeartbeats 4000000 in
set_option maxRecDepth 100000 in
theorem prk_X_nameOf_43 {l : Launch} {D : va_G} {ad : Nat → Nat} {dA : Nat → ClassId} {A : Nat → Prop} {v : Nat → Nat} {r : Value} {p : Program} {e : Env} {s : State} {m : MethodId} {args : Array Value} {below : List Frame} {meth : Method} {c : Code} {h : Nat} (hh : 0 ≤ h) (E : pr_cx prn_X prb_X_nameOf 5 (some .int) D pr_cl prx_L ad dA A (prY ad v r A) p s m args meth c) {kk2 : pr_St → Int32 → Int32 → Option (Int32 × pr_St)} (Hk2 : ∀ (σ : pr_St) (x1 : Int32) (x2 : Int32) (res : (Int32 × pr_St)), some res = kk2 σ x1 x2 → ∀ (H : Heap) (locs : List Loc) (ls : Array Slot), va_P D pr_cl (pr_w prx_L ad dA σ) H → va_S A s.heap H locs → lv_has ls 5 [(0, .ref (ad 0)), (1, .int x1), (2, .int x2)] → W p l e (pr_rm h) s m args below meth c H locs 0 0 (MQ below (pr_Qi D pr_cl prx_L ad dA A res) args s 0 0 A) (F0 m 2 ls [])) : ∀ n : Nat, ∀ (σ : pr_St) (x1 : Int32) (x2 : Int32) (x3 : Int32) (x4 : Int32) (res : (Int32 × pr_St)), some res = prf_X_nameOf_43 kk2 n σ x1 x2 x3 x4 → ∀ (H : Heap) (locs : List Loc) (ls : Array Slot), va_P D pr_cl (pr_w prx_L ad dA σ) H → va_S A s.heap H locs → lv_has ls 5 [(0, .ref (ad 0)), (1, .int x1), (2, .int x2), (3, .int x3), (4, .int x4)] → W p l e (pr_rm h) s m args below meth c H locs 0 0 (MQ below (pr_Qi D pr_cl prx_L ad dA A res) args s 0 0 A) (F0 m 43 ls []) := by
  obtain ⟨hx, hb, hml, hown, hts, hr, hlocks, hK, hD, hX, hXs⟩ := id E
  intro n
  induction n with
  | zero =>
    intro σ x1 x2 x3 x4 res hf
    rw [prf_X_nameOf_43] at hf
    cases hf
  | succ n ih =>
    intro σ x1 x2 x3 x4 res hf H locs ls hP hS hl
    rw [prf_X_nameOf_43] at hf
    refine lv_iload hx hb prd_X_nameOf_43 (lv_at hl 4 rfl) ?_
    refine lv_aload_n hx hb prd_X_nameOf_45 rfl (lv_at hl 0 rfl) ?_
    refine pr_getr (t := 5) hx hb hts prs_X hown hK hP 0 6 (by decide) rfl (hts _ prw_883) rfl prd_X_nameOf_46 ?_
    refine lv_iload_n hx hb prd_X_nameOf_49 rfl (lv_at hl 1 rfl) ?_
    obtain ⟨hi25, hf⟩ := pr_ck_in hf
    refine pr_iald (f := (σ.2.1 5)) hx hb hK hP 5 (by decide) rfl hi25 rfl prd_X_nameOf_50 ?_
    refine lv_icmp_ge (tgt := 101) hx hb prd_X_nameOf_51 (by decide) (fun c26 => ?_) (fun c26 => ?_)
    · have hf := pr_it c26 hf
      refine lv_iload_n hx hb prd_X_nameOf_101 rfl (lv_at hl 3 rfl) ?_
      refine lv_if_eq (tgt := 107) hx hb prd_X_nameOf_102 (by decide) (fun c27 => ?_) (fun c27 => ?_)
      · have hf := pr_it c27 hf
        refine lv_iinc (v := (x2 + 1)) (lv' := [(2, .int (x2 + 1)), (0, .ref (ad 0)), (1, .int x1), (3, .int x3), (4, .int x4)]) hx hb prd_X_nameOf_107 hl (k := 2) rfl rfl (by decide) rfl (fun ls hl => ?_)
        refine lv_goto (tgt := 2) hx hb prd_X_nameOf_110 (by decide) ?_
        exact Hk2 σ x1 (x2 + 1) _ hf _ _ _ hP hS (lv_sub hl [1, 2, 0] rfl)
      · have hf := pr_ie c27 hf
        refine lv_iload_n hx hb prd_X_nameOf_105 rfl (lv_at hl 2 rfl) ?_
        exact pr_reti E hP hS (pr_so hf) prd_X_nameOf_106
    · have hf := pr_ie c26 hf
      refine lv_iload_n hx hb prd_X_nameOf_54 rfl (lv_at hl 3 rfl) ?_
      refine lv_if_eq (tgt := 101) hx hb prd_X_nameOf_55 (by decide) (fun c28 => ?_) (fun c28 => ?_)
      · have hf := pr_it c28 hf
        refine lv_iload_n hx hb prd_X_nameOf_101 rfl (lv_at hl 3 rfl) ?_
        refine lv_if_eq (tgt := 107) hx hb prd_X_nameOf_102 (by decide) (fun c29 => ?_) (fun c29 => ?_)
        · have hf := pr_it c29 hf
          refine lv_iinc (v := (x2 + 1)) (lv' := [(2, .int (x2 + 1)), (0, .ref (ad 0)), (1, .int x1), (3, .int x3), (4, .int x4)]) hx hb prd_X_nameOf_107 hl (k := 2) rfl rfl (by decide) rfl (fun ls hl => ?_)
          refine lv_goto (tgt := 2) hx hb prd_X_nameOf_110 (by decide) ?_
          exact Hk2 σ x1 (x2 + 1) _ hf _ _ _ hP hS (lv_sub hl [1, 2, 0] rfl)
        · have hf := pr_ie c29 hf
          refine lv_iload_n hx hb prd_X_nameOf_105 rfl (lv_at hl 2 rfl) ?_
          exact pr_reti E hP hS (pr_so hf) prd_X_nameOf_106
      · have hf := pr_ie c28 hf
        refine lv_aload_n hx hb prd_X_nameOf_58 rfl (lv_at hl 0 rfl) ?_
        refine pr_getr (t := 18) hx hb hts prs_X hown hK hP 0 25 (by decide) rfl (hts _ prw_974) rfl prd_X_nameOf_59 ?_
        refine lv_aload_n hx hb prd_X_nameOf_62 rfl (lv_at hl 0 rfl) ?_
        refine pr_getr (t := 19) hx hb hts prs_X hown hK hP 0 26 (by decide) rfl (hts _ prw_973) rfl prd_X_nameOf_63 ?_
        refine lv_iload_n hx hb prd_X_nameOf_66 rfl (lv_at hl 2 rfl) ?_
        obtain ⟨hi30, hf⟩ := pr_ck_in hf
        refine pr_iald (f := (σ.2.1 19)) hx hb hK hP 19 (by decide) rfl hi30 rfl prd_X_nameOf_67 ?_
        refine lv_iload hx hb prd_X_nameOf_68 (lv_at hl 4 rfl) ?_
        refine lv_iadd hx hb prd_X_nameOf_70 ?_
        obtain ⟨hi31, hf⟩ := pr_ck_in hf
        refine pr_iald (f := (σ.2.1 18)) hx hb hK hP 18 (by decide) rfl hi31 rfl prd_X_nameOf_71 ?_
        refine lv_aload_n hx hb prd_X_nameOf_72 rfl (lv_at hl 0 rfl) ?_
        refine pr_getr (t := 2) hx hb hts prs_X hown hK hP 0 1 (by decide) rfl (hts _ prw_845) rfl prd_X_nameOf_73 ?_
        refine lv_aload_n hx hb prd_X_nameOf_76 rfl (lv_at hl 0 rfl) ?_
        refine pr_getr (t := 4) hx hb hts prs_X hown hK hP 0 5 (by decide) rfl (hts _ prw_882) rfl prd_X_nameOf_77 ?_
        refine lv_iload_n hx hb prd_X_nameOf_80 rfl (lv_at hl 1 rfl) ?_
        obtain ⟨hi32, hf⟩ := pr_ck_in hf
        refine pr_iald (f := (σ.2.1 4)) hx hb hK hP 4 (by decide) rfl hi32 rfl prd_X_nameOf_81 ?_
        refine lv_iload hx hb prd_X_nameOf_82 (lv_at hl 4 rfl) ?_
        refine lv_iadd hx hb prd_X_nameOf_84 ?_
        obtain ⟨hi33, hf⟩ := pr_ck_in hf
        refine pr_iald (f := (σ.2.1 2)) hx hb hK hP 2 (by decide) rfl hi33 rfl prd_X_nameOf_85 ?_
        refine lv_icmp_ne (tgt := 93) hx hb prd_X_nameOf_86 (by decide) (fun c34 => ?_) (fun c34 => ?_)
        · have hf := pr_ie c34 hf
          refine lv_iconst (v := 0) hx hb prd_X_nameOf_93 (by decide) ?_
          refine lv_istore_n (lv' := [(3, .int 0), (0, .ref (ad 0)), (1, .int x1), (2, .int x2), (4, .int x4)]) hx hb prd_X_nameOf_94 rfl hl (by decide) rfl (fun ls hl => ?_)
          refine lv_iinc (v := (x4 + 1)) (lv' := [(4, .int (x4 + 1)), (3, .int 0), (0, .ref (ad 0)), (1, .int x1), (2, .int x2)]) hx hb prd_X_nameOf_95 hl (k := 4) rfl rfl (by decide) rfl (fun ls hl => ?_)
          refine lv_goto (tgt := 43) hx hb prd_X_nameOf_98 (by decide) ?_
          exact ih σ x1 x2 0 (x4 + 1) _ hf _ _ _ hP hS (lv_sub hl [2, 3, 4, 1, 0] rfl)
        · have hf := pr_it c34 hf
          refine lv_iconst (v := 1) hx hb prd_X_nameOf_89 (by decide) ?_
          refine lv_goto (tgt := 94) hx hb prd_X_nameOf_90 (by decide) ?_
          refine lv_istore_n (lv' := [(3, .int 1), (0, .ref (ad 0)), (1, .int x1), (2, .int x2), (4, .int x4)]) hx hb prd_X_nameOf_94 rfl hl (by decide) rfl (fun ls hl => ?_)
          refine lv_iinc (v := (x4 + 1)) (lv' := [(4, .int (x4 + 1)), (3, .int 1), (0, .ref (ad 0)), (1, .int x1), (2, .int x2)]) hx hb prd_X_nameOf_95 hl (k := 4) rfl rfl (by decide) rfl (fun ls hl => ?_)
          refine lv_goto (tgt := 43) hx hb prd_X_nameOf_98 (by decide) ?_
          exact ih σ x1 x2 1 (x4 + 1) _ hf _ _ _ hP hS (lv_sub hl [2, 3, 4, 1, 0] rfl)
set_option maxHeartbeats 4000000 in
set_option maxRecDepth 100000 in
theorem prk_X_nameOf_115 {l : Launch} {D : va_G} {ad : Nat → Nat} {dA : Nat → ClassId} {A : Nat → Prop} {v : Nat → Nat} {r : Value} {p : Program} {e : Env} {s : State} {m : MethodId} {args : Array Value} {below : List Frame} {meth : Method} {c : Code} {h : Nat} (hh : 0 ≤ h) (E : pr_cx prn_X prb_X_nameOf 5 (some .int) D pr_cl prx_L ad dA A (prY ad v r A) p s m args meth c) : ∀ n : Nat, ∀ (σ : pr_St) (x1 : Int32) (x2 : Int32) (res : (Int32 × pr_St)), some res = prf_X_nameOf_115 n σ x1 x2 → ∀ (H : Heap) (locs : List Loc) (ls : Array Slot), va_P D pr_cl (pr_w prx_L ad dA σ) H → va_S A s.heap H locs → lv_has ls 5 [(0, .ref (ad 0)), (1, .int x1), (2, .int x2)] → W p l e (pr_rm h) s m args below meth c H locs 0 0 (MQ below (pr_Qi D pr_cl prx_L ad dA A res) args s 0 0 A) (F0 m 115 ls []) := by
  obtain ⟨hx, hb, hml, hown, hts, hr, hlocks, hK, hD, hX, hXs⟩ := id E
  intro n
  induction n with
  | zero =>
    intro σ x1 x2 res hf
    rw [prf_X_nameOf_115] at hf
    cases hf
  | succ n ih =>
    intro σ x1 x2 res hf H locs ls hP hS hl
    rw [prf_X_nameOf_115] at hf
    refine lv_iload_n hx hb prd_X_nameOf_115 rfl (lv_at hl 2 rfl) ?_
    refine lv_aload_n hx hb prd_X_nameOf_116 rfl (lv_at hl 0 rfl) ?_
    refine pr_getr (t := 5) hx hb hts prs_X hown hK hP 0 6 (by decide) rfl (hts _ prw_883) rfl prd_X_nameOf_117 ?_
    refine lv_iload_n hx hb prd_X_nameOf_120 rfl (lv_at hl 1 rfl) ?_
    obtain ⟨hi35, hf⟩ := pr_ck_in hf
    refine pr_iald (f := (σ.2.1 5)) hx hb hK hP 5 (by decide) rfl hi35 rfl prd_X_nameOf_121 ?_
    refine lv_icmp_ge (tgt := 160) hx hb prd_X_nameOf_122 (by decide) (fun c36 => ?_) (fun c36 => ?_)
    · have hf := pr_it c36 hf
      refine lv_aload_n hx hb prd_X_nameOf_160 rfl (lv_at hl 0 rfl) ?_
      refine lv_dup hx hb prd_X_nameOf_161 rfl ?_
      refine pr_geti (v := (σ.1 0 27)) hx hb hts prs_X hown hK hP 0 27 (by decide) rfl (hts _ prw_972) rfl rfl prd_X_nameOf_162 ?_
      refine lv_iconst (v := 1) hx hb prd_X_nameOf_165 (by decide) ?_
      refine lv_iadd hx hb prd_X_nameOf_166 ?_
      refine pr_puti (ty := .int) hx hb hts prs_X prq_X prtt_X prtn_X hown hK hP (hD _) hS 0 27 (by decide) rfl (hts _ prw_972) rfl rfl (prtt_X 27 (by decide)) rfl rfl prd_X_nameOf_167 (fun H locs hP hS => ?_)
      refine lv_aload_n hx hb prd_X_nameOf_170 rfl (lv_at hl 0 rfl) ?_
      refine pr_getr (t := 19) hx hb hts prs_X hown hK hP 0 26 (by decide) rfl (hts _ prw_973) rfl prd_X_nameOf_171 ?_
      refine lv_aload_n hx hb prd_X_nameOf_174 rfl (lv_at hl 0 rfl) ?_
      refine pr_geti (v := ((σ.1 0 27) + 1)) hx hb hts prs_X hown hK hP 0 27 (by decide) rfl (hts _ prw_972) rfl rfl prd_X_nameOf_175 ?_
      refine lv_aload_n hx hb prd_X_nameOf_178 rfl (lv_at hl 0 rfl) ?_
      refine pr_getr (t := 19) hx hb hts prs_X hown hK hP 0 26 (by decide) rfl (hts _ prw_973) rfl prd_X_nameOf_179 ?_
      refine lv_aload_n hx hb prd_X_nameOf_182 rfl (lv_at hl 0 rfl) ?_
      refine pr_geti (v := ((σ.1 0 27) + 1)) hx hb hts prs_X hown hK hP 0 27 (by decide) rfl (hts _ prw_972) rfl rfl prd_X_nameOf_183 ?_
      refine lv_iconst (v := 1) hx hb prd_X_nameOf_186 (by decide) ?_
      refine lv_isub hx hb prd_X_nameOf_187 ?_
      obtain ⟨hi37, hf⟩ := pr_ck_in hf
      refine pr_iald (f := (σ.2.1 19)) hx hb hK hP 19 (by decide) rfl hi37 rfl prd_X_nameOf_188 ?_
      refine lv_aload_n hx hb prd_X_nameOf_189 rfl (lv_at hl 0 rfl) ?_
      refine pr_getr (t := 5) hx hb hts prs_X hown hK hP 0 6 (by decide) rfl (hts _ prw_883) rfl prd_X_nameOf_190 ?_
      refine lv_iload_n hx hb prd_X_nameOf_193 rfl (lv_at hl 1 rfl) ?_
      obtain ⟨hi38, hf⟩ := pr_ck_in hf
      refine pr_iald (f := (σ.2.1 5)) hx hb hK hP 5 (by decide) rfl hi38 rfl prd_X_nameOf_194 ?_
      refine lv_iadd hx hb prd_X_nameOf_195 ?_
      obtain ⟨hi39, hf⟩ := pr_ck_in hf
      refine pr_iast (f := (σ.2.1 19)) hx hb hK hP (hD _) hS 19 (by decide) rfl hi39 rfl prd_X_nameOf_196 (fun H locs hP hS => ?_)
      refine lv_aload_n hx hb prd_X_nameOf_197 rfl (lv_at hl 0 rfl) ?_
      refine pr_geti (v := ((σ.1 0 27) + 1)) hx hb hts prs_X hown hK hP 0 27 (by decide) rfl (hts _ prw_972) rfl rfl prd_X_nameOf_198 ?_
      refine lv_iconst (v := 1) hx hb prd_X_nameOf_201 (by decide) ?_
      refine lv_isub hx hb prd_X_nameOf_202 ?_
      exact pr_reti E hP hS (pr_so hf) prd_X_nameOf_203
    · have hf := pr_ie c36 hf
      refine lv_aload_n hx hb prd_X_nameOf_125 rfl (lv_at hl 0 rfl) ?_
      refine pr_getr (t := 18) hx hb hts prs_X hown hK hP 0 25 (by decide) rfl (hts _ prw_974) rfl prd_X_nameOf_126 ?_
      refine lv_aload_n hx hb prd_X_nameOf_129 rfl (lv_at hl 0 rfl) ?_
      refine pr_getr (t := 19) hx hb hts prs_X hown hK hP 0 26 (by decide) rfl (hts _ prw_973) rfl prd_X_nameOf_130 ?_
      refine lv_aload_n hx hb prd_X_nameOf_133 rfl (lv_at hl 0 rfl) ?_
      refine pr_geti (v := (σ.1 0 27)) hx hb hts prs_X hown hK hP 0 27 (by decide) rfl (hts _ prw_972) rfl rfl prd_X_nameOf_134 ?_
      obtain ⟨hi40, hf⟩ := pr_ck_in hf
      refine pr_iald (f := (σ.2.1 19)) hx hb hK hP 19 (by decide) rfl hi40 rfl prd_X_nameOf_137 ?_
      refine lv_iload_n hx hb prd_X_nameOf_138 rfl (lv_at hl 2 rfl) ?_
      refine lv_iadd hx hb prd_X_nameOf_139 ?_
      refine lv_aload_n hx hb prd_X_nameOf_140 rfl (lv_at hl 0 rfl) ?_
      refine pr_getr (t := 2) hx hb hts prs_X hown hK hP 0 1 (by decide) rfl (hts _ prw_845) rfl prd_X_nameOf_141 ?_
      refine lv_aload_n hx hb prd_X_nameOf_144 rfl (lv_at hl 0 rfl) ?_
      refine pr_getr (t := 4) hx hb hts prs_X hown hK hP 0 5 (by decide) rfl (hts _ prw_882) rfl prd_X_nameOf_145 ?_
      refine lv_iload_n hx hb prd_X_nameOf_148 rfl (lv_at hl 1 rfl) ?_
      obtain ⟨hi41, hf⟩ := pr_ck_in hf
      refine pr_iald (f := (σ.2.1 4)) hx hb hK hP 4 (by decide) rfl hi41 rfl prd_X_nameOf_149 ?_
      refine lv_iload_n hx hb prd_X_nameOf_150 rfl (lv_at hl 2 rfl) ?_
      refine lv_iadd hx hb prd_X_nameOf_151 ?_
      obtain ⟨hi42, hf⟩ := pr_ck_in hf
      refine pr_iald (f := (σ.2.1 2)) hx hb hK hP 2 (by decide) rfl hi42 rfl prd_X_nameOf_152 ?_
      obtain ⟨hi43, hf⟩ := pr_ck_in hf
      refine pr_iast (f := (σ.2.1 18)) hx hb hK hP (hD _) hS 18 (by decide) rfl hi43 rfl prd_X_nameOf_153 (fun H locs hP hS => ?_)
      refine lv_iinc (v := (x2 + 1)) (lv' := [(2, .int (x2 + 1)), (0, .ref (ad 0)), (1, .int x1)]) hx hb prd_X_nameOf_154 hl (k := 2) rfl rfl (by decide) rfl (fun ls hl => ?_)
      refine lv_goto (tgt := 115) hx hb prd_X_nameOf_157 (by decide) ?_
      exact ih (pr_sA σ 18 (upd (σ.2.1 18) (((σ.2.1 19) (σ.1 0 27).toNatClampNeg) + x2).toNatClampNeg ((σ.2.1 2) (((σ.2.1 4) x1.toNatClampNeg) + x2).toNatClampNeg))) x1 (x2 + 1) _ hf _ _ _ hP hS (lv_sub hl [1, 2, 0] rfl)
set_option maxHeartbeats 4000000 in
set_option maxRecDepth 100000 in
theorem prk_X_nameOf_2 {l : Launch} {D : va_G} {ad : Nat → Nat} {dA : Nat → ClassId} {A : Nat → Prop} {v : Nat → Nat} {r : Value} {p : Program} {e : Env} {s : State} {m : MethodId} {args : Array Value} {below : List Frame} {meth : Method} {c : Code} {h : Nat} (hh : 0 ≤ h) (E : pr_cx prn_X prb_X_nameOf 5 (some .int) D pr_cl prx_L ad dA A (prY ad v r A) p s m args meth c) : ∀ n : Nat, ∀ (σ : pr_St) (x1 : Int32) (x2 : Int32) (res : (Int32 × pr_St)), some res = prf_X_nameOf_2 n σ x1 x2 → ∀ (H : Heap) (locs : List Loc) (ls : Array Slot), va_P D pr_cl (pr_w prx_L ad dA σ) H → va_S A s.heap H locs → lv_has ls 5 [(0, .ref (ad 0)), (1, .int x1), (2, .int x2)] → W p l e (pr_rm h) s m args below meth c H locs 0 0 (MQ below (pr_Qi D pr_cl prx_L ad dA A res) args s 0 0 A) (F0 m 2 ls []) := by
  obtain ⟨hx, hb, hml, hown, hts, hr, hlocks, hK, hD, hX, hXs⟩ := id E
  intro n
  induction n with
  | zero =>
    intro σ x1 x2 res hf
    rw [prf_X_nameOf_2] at hf
    cases hf
  | succ n ih =>
    intro σ x1 x2 res hf H locs ls hP hS hl
    rw [prf_X_nameOf_2] at hf
    refine lv_iload_n hx hb prd_X_nameOf_2 rfl (lv_at hl 2 rfl) ?_
    refine lv_aload_n hx hb prd_X_nameOf_3 rfl (lv_at hl 0 rfl) ?_
    refine pr_geti (v := (σ.1 0 27)) hx hb hts prs_X hown hK hP 0 27 (by decide) rfl (hts _ prw_972) rfl rfl prd_X_nameOf_4 ?_
    refine lv_icmp_ge (tgt := 113) hx hb prd_X_nameOf_7 (by decide) (fun c44 => ?_) (fun c44 => ?_)
    · have hf := pr_it c44 hf
      refine lv_iconst (v := 0) hx hb prd_X_nameOf_113 (by decide) ?_
      refine lv_istore_n (lv' := [(2, .int 0), (0, .ref (ad 0)), (1, .int x1)]) hx hb prd_X_nameOf_114 rfl hl (by decide) rfl (fun ls hl => ?_)
      exact prk_X_nameOf_115 hh E pr_FU σ x1 0 _ hf _ _ _ hP hS (lv_sub hl [1, 2, 0] rfl)
    · have hf := pr_ie c44 hf
      refine lv_aload_n hx hb prd_X_nameOf_10 rfl (lv_at hl 0 rfl) ?_
      refine pr_getr (t := 19) hx hb hts prs_X hown hK hP 0 26 (by decide) rfl (hts _ prw_973) rfl prd_X_nameOf_11 ?_
      refine lv_iload_n hx hb prd_X_nameOf_14 rfl (lv_at hl 2 rfl) ?_
      refine lv_iconst (v := 1) hx hb prd_X_nameOf_15 (by decide) ?_
      refine lv_iadd hx hb prd_X_nameOf_16 ?_
      obtain ⟨hi45, hf⟩ := pr_ck_in hf
      refine pr_iald (f := (σ.2.1 19)) hx hb hK hP 19 (by decide) rfl hi45 rfl prd_X_nameOf_17 ?_
      refine lv_aload_n hx hb prd_X_nameOf_18 rfl (lv_at hl 0 rfl) ?_
      refine pr_getr (t := 19) hx hb hts prs_X hown hK hP 0 26 (by decide) rfl (hts _ prw_973) rfl prd_X_nameOf_19 ?_
      refine lv_iload_n hx hb prd_X_nameOf_22 rfl (lv_at hl 2 rfl) ?_
      obtain ⟨hi46, hf⟩ := pr_ck_in hf
      refine pr_iald (f := (σ.2.1 19)) hx hb hK hP 19 (by decide) rfl hi46 rfl prd_X_nameOf_23 ?_
      refine lv_isub hx hb prd_X_nameOf_24 ?_
      refine lv_aload_n hx hb prd_X_nameOf_25 rfl (lv_at hl 0 rfl) ?_
      refine pr_getr (t := 5) hx hb hts prs_X hown hK hP 0 6 (by decide) rfl (hts _ prw_883) rfl prd_X_nameOf_26 ?_
      refine lv_iload_n hx hb prd_X_nameOf_29 rfl (lv_at hl 1 rfl) ?_
      obtain ⟨hi47, hf⟩ := pr_ck_in hf
      refine pr_iald (f := (σ.2.1 5)) hx hb hK hP 5 (by decide) rfl hi47 rfl prd_X_nameOf_30 ?_
      refine lv_icmp_ne (tgt := 38) hx hb prd_X_nameOf_31 (by decide) (fun c48 => ?_) (fun c48 => ?_)
      · have hf := pr_ie c48 hf
        refine lv_iconst (v := 0) hx hb prd_X_nameOf_38 (by decide) ?_
        refine lv_istore_n (lv' := [(3, .int 0), (0, .ref (ad 0)), (1, .int x1), (2, .int x2)]) hx hb prd_X_nameOf_39 rfl hl (by decide) rfl (fun ls hl => ?_)
        refine lv_iconst (v := 0) hx hb prd_X_nameOf_40 (by decide) ?_
        refine lv_istore (lv' := [(4, .int 0), (3, .int 0), (0, .ref (ad 0)), (1, .int x1), (2, .int x2)]) hx hb prd_X_nameOf_41 hl (by decide) rfl (fun ls hl => ?_)
        exact prk_X_nameOf_43 hh E ih pr_FU σ x1 x2 0 0 _ hf _ _ _ hP hS (lv_sub hl [2, 3, 4, 1, 0] rfl)
      · have hf := pr_it c48 hf
        refine lv_iconst (v := 1) hx hb prd_X_nameOf_34 (by decide) ?_
        refine lv_goto (tgt := 39) hx hb prd_X_nameOf_35 (by decide) ?_
        refine lv_istore_n (lv' := [(3, .int 1), (0, .ref (ad 0)), (1, .int x1), (2, .int x2)]) hx hb prd_X_nameOf_39 rfl hl (by decide) rfl (fun ls hl => ?_)
        refine lv_iconst (v := 0) hx hb prd_X_nameOf_40 (by decide) ?_
        refine lv_istore (lv' := [(4, .int 0), (3, .int 1), (0, .ref (ad 0)), (1, .int x1), (2, .int x2)]) hx hb prd_X_nameOf_41 hl (by decide) rfl (fun ls hl => ?_)
        exact prk_X_nameOf_43 hh E ih pr_FU σ x1 x2 1 0 _ hf _ _ _ hP hS (lv_sub hl [2, 3, 4, 1, 0] rfl)
set_option maxHeartbeats 4000000 in
set_option maxRecDepth 100000 in
theorem prc_X_nameOf {l : Launch} {D : va_G} {ad : Nat → Nat} {dA : Nat → ClassId} {A : Nat → Prop} {v : Nat → Nat} {r : Value} (hD : ∀ σ : pr_St, va_D A (pr_w prx_L ad dA σ)) (hX : pr_Xok A (prY ad v r A)) (h : Nat) (hh : 0 ≤ h) (σ : pr_St) (x1 : Int32) (res : (Int32 × pr_St)) (hf : prf_X_nameOf σ x1 = some res) : Met l pry_X_nameOf (Cond.code pry_X_nameOf prb_X_nameOf 5 (some .int) :: pr_U) (pr_rm h) (pr_Pc (prY ad v r A) D pr_cl prx_L ad dA [.ref (ad 0), .int x1] σ) (pr_Qi D pr_cl prx_L ad dA A res) 0 0 A := by
  refine pr_entry (cc := prb_X_nameOf) (maxL := 5) (ret := (some .int)) (by decide) (Nat.le_of_ble_eq_true rfl) hD hX ?_
  intro p e s m args below meth c E H locs hP hS ls hl
  have hl : lv_has ls 5 [(0, .ref (ad 0)), (1, .int x1)] := hl
  have hf := hf.symm
  unfold prf_X_nameOf at hf
  obtain ⟨hx, hb, hml, hown, hts, hr, hlocks, hK, hD, hX, hXs⟩ := id E
  refine lv_iconst (v := 0) hx hb prd_X_nameOf_0 (by decide) ?_
  refine lv_istore_n (lv' := [(2, .int 0), (0, .ref (ad 0)), (1, .int x1)]) hx hb prd_X_nameOf_1 rfl hl (by decide) rfl (fun ls hl => ?_)
  exact prk_X_nameOf_2 hh E pr_FU σ x1 0 _ hf _ _ _ hP hS (lv_sub hl [1, 2, 0] rfl)
-- X_keep
set_option maxHeartbeats 4000000 in
set_option maxRecDepth 100000 in
theorem prk_X_keep_102 {l : Launch} {D : va_G} {ad : Nat → Nat} {dA : Nat → ClassId} {A : Nat → Prop} {v : Nat → Nat} {r : Value} {p : Program} {e : Env} {s : State} {m : MethodId} {args : Array Value} {below : List Frame} {meth : Method} {c : Code} {h : Nat} (hh : 1 ≤ h) (E : pr_cx prn_X prb_X_keep 6 none D pr_cl prx_L ad dA A (prY ad v r A) p s m args meth c) {kk7 : pr_St → Int32 → Int32 → Int32 → Int32 → Option pr_St} (Hk7 : ∀ (σ : pr_St) (x1 : Int32) (x2 : Int32) (x3 : Int32) (x4 : Int32) (res : pr_St), some res = kk7 σ x1 x2 x3 x4 → ∀ (H : Heap) (locs : List Loc) (ls : Array Slot), va_P D pr_cl (pr_w prx_L ad dA σ) H → va_S A s.heap H locs → lv_has ls 6 [(0, .ref (ad 0)), (1, .int x1), (2, .int x2), (3, .int x3), (4, .int x4)] → W p l e (pr_rm h) s m args below meth c H locs 0 0 (MQ below (pr_Qv D pr_cl prx_L ad dA A res) args s 0 0 A) (F0 m 7 ls [])) : ∀ (σ : pr_St) (x1 : Int32) (x2 : Int32) (x3 : Int32) (x4 : Int32) (x5 : Int32) (res : pr_St), some res = prf_X_keep_102 kk7 σ x1 x2 x3 x4 x5 → ∀ (H : Heap) (locs : List Loc) (ls : Array Slot), va_P D pr_cl (pr_w prx_L ad dA σ) H → va_S A s.heap H locs → lv_has ls 6 [(0, .ref (ad 0)), (1, .int x1), (2, .int x2), (3, .int x3), (4, .int x4), (5, .int x5)] → W p l e (pr_rm h) s m args below meth c H locs 0 0 (MQ below (pr_Qv D pr_cl prx_L ad dA A res) args s 0 0 A) (F0 m 102 ls []) := by
  obtain ⟨hx, hb, hml, hown, hts, hr, hlocks, hK, hD, hX, hXs⟩ := id E
  intro σ x1 x2 x3 x4 x5 res hf H locs ls hP hS hl
  unfold prf_X_keep_102 at hf
  refine lv_aload_n hx hb prd_X_keep_102 rfl (lv_at hl 0 rfl) ?_
  refine pr_getr (t := 9) hx hb hts prs_X hown hK hP 0 14 (by decide) rfl (hts _ prw_905) rfl prd_X_keep_103 ?_
  refine lv_iload_n hx hb prd_X_keep_106 rfl (lv_at hl 3 rfl) ?_
  obtain ⟨hi29, hf⟩ := pr_ck_in hf
  refine pr_iald (f := (σ.2.1 9)) hx hb hK hP 9 (by decide) rfl hi29 rfl prd_X_keep_107 ?_
  refine lv_iconst (v := (-1)) hx hb prd_X_keep_108 (by decide) ?_
  refine lv_icmp_eq (tgt := 126) hx hb prd_X_keep_109 (by decide) (fun c30 => ?_) (fun c30 => ?_)
  · have hf := pr_it c30 hf
    refine lv_iload_n hx hb prd_X_keep_126 rfl (lv_at hl 2 rfl) ?_
    refine lv_if_le (tgt := 153) hx hb prd_X_keep_127 (by decide) (fun c31 => ?_) (fun c31 => ?_)
    · have hf := pr_it c31 hf
      refine lv_iconst (v := (-1)) hx hb prd_X_keep_153 (by decide) ?_
      refine lv_istore_n (lv' := [(3, .int (-1)), (0, .ref (ad 0)), (1, .int x1), (2, .int x2), (4, .int x4), (5, .int x5)]) hx hb prd_X_keep_154 rfl hl (by decide) rfl (fun ls hl => ?_)
      refine lv_goto (tgt := 7) hx hb prd_X_keep_155 (by decide) ?_
      exact Hk7 σ x1 x2 (-1) x4 _ hf _ _ _ hP hS (lv_sub hl [1, 2, 3, 0, 4] rfl)
    · have hf := pr_ie c31 hf
      refine lv_iinc (v := (x2 + (-2))) (lv' := [(2, .int (x2 + (-2))), (0, .ref (ad 0)), (1, .int x1), (3, .int x3), (4, .int x4), (5, .int x5)]) hx hb prd_X_keep_130 hl (k := 2) rfl rfl (by decide) rfl (fun ls hl => ?_)
      refine lv_aload_n hx hb prd_X_keep_133 rfl (lv_at hl 1 rfl) ?_
      refine pr_getr (t := 12) hx hb hts prs_X hown hK hP 0 18 (by decide) rfl (hts _ prw_979) rfl prd_X_keep_134 ?_
      refine lv_iload_n hx hb prd_X_keep_137 rfl (lv_at hl 0 rfl) ?_
      obtain ⟨hi32, hf⟩ := pr_ck_in hf
      refine pr_iald (f := (σ.2.1 12)) hx hb hK hP 12 (by decide) rfl hi32 rfl prd_X_keep_138 ?_
      refine lv_istore_n (lv' := [(3, .int ((σ.2.1 12) (x2 + (-2)).toNatClampNeg)), (2, .int (x2 + (-2))), (0, .ref (ad 0)), (1, .int x1), (4, .int x4), (5, .int x5)]) hx hb prd_X_keep_139 rfl hl (by decide) rfl (fun ls hl => ?_)
      refine lv_aload_n hx hb prd_X_keep_140 rfl (lv_at hl 2 rfl) ?_
      refine pr_getr (t := 12) hx hb hts prs_X hown hK hP 0 18 (by decide) rfl (hts _ prw_979) rfl prd_X_keep_141 ?_
      refine lv_iload_n hx hb prd_X_keep_144 rfl (lv_at hl 1 rfl) ?_
      refine lv_iconst (v := 1) hx hb prd_X_keep_145 (by decide) ?_
      refine lv_iadd hx hb prd_X_keep_146 ?_
      obtain ⟨hi33, hf⟩ := pr_ck_in hf
      refine pr_iald (f := (σ.2.1 12)) hx hb hK hP 12 (by decide) rfl hi33 rfl prd_X_keep_147 ?_
      refine lv_istore (lv' := [(4, .int ((σ.2.1 12) ((x2 + (-2)) + 1).toNatClampNeg)), (3, .int ((σ.2.1 12) (x2 + (-2)).toNatClampNeg)), (2, .int (x2 + (-2))), (0, .ref (ad 0)), (1, .int x1), (5, .int x5)]) hx hb prd_X_keep_148 hl (by decide) rfl (fun ls hl => ?_)
      refine lv_goto (tgt := 155) hx hb prd_X_keep_150 (by decide) ?_
      refine lv_goto (tgt := 7) hx hb prd_X_keep_155 (by decide) ?_
      exact Hk7 σ x1 (x2 + (-2)) ((σ.2.1 12) (x2 + (-2)).toNatClampNeg) ((σ.2.1 12) ((x2 + (-2)) + 1).toNatClampNeg) _ hf _ _ _ hP hS (lv_sub hl [3, 4, 2, 1, 0] rfl)
  · have hf := pr_ie c30 hf
    refine lv_aload_n hx hb prd_X_keep_112 rfl (lv_at hl 0 rfl) ?_
    refine pr_getr (t := 9) hx hb hts prs_X hown hK hP 0 14 (by decide) rfl (hts _ prw_905) rfl prd_X_keep_113 ?_
    refine lv_iload_n hx hb prd_X_keep_116 rfl (lv_at hl 3 rfl) ?_
    obtain ⟨hi34, hf⟩ := pr_ck_in hf
    refine pr_iald (f := (σ.2.1 9)) hx hb hK hP 9 (by decide) rfl hi34 rfl prd_X_keep_117 ?_
    refine lv_istore_n (lv' := [(3, .int ((σ.2.1 9) x3.toNatClampNeg)), (0, .ref (ad 0)), (1, .int x1), (2, .int x2), (4, .int x4), (5, .int x5)]) hx hb prd_X_keep_118 rfl hl (by decide) rfl (fun ls hl => ?_)
    refine lv_iload hx hb prd_X_keep_119 (lv_at hl 5 rfl) ?_
    refine lv_istore (lv' := [(4, .int x5), (3, .int ((σ.2.1 9) x3.toNatClampNeg)), (0, .ref (ad 0)), (1, .int x1), (2, .int x2), (5, .int x5)]) hx hb prd_X_keep_121 hl (by decide) rfl (fun ls hl => ?_)
    refine lv_goto (tgt := 155) hx hb prd_X_keep_123 (by decide) ?_
    refine lv_goto (tgt := 7) hx hb prd_X_keep_155 (by decide) ?_
    exact Hk7 σ x1 x2 ((σ.2.1 9) x3.toNatClampNeg) x5 _ hf _ _ _ hP hS (lv_sub hl [2, 3, 4, 1, 0] rfl)
set_option maxHeartbeats 4000000 in
set_option maxRecDepth 100000 in
theorem prk_X_keep_7 {l : Launch} {D : va_G} {ad : Nat → Nat} {dA : Nat → ClassId} {A : Nat → Prop} {v : Nat → Nat} {r : Value} {p : Program} {e : Env} {s : State} {m : MethodId} {args : Array Value} {below : List Frame} {meth : Method} {c : Code} {h : Nat} (hh : 1 ≤ h) (E : pr_cx prn_X prb_X_keep 6 none D pr_cl prx_L ad dA A (prY ad v r A) p s m args meth c) : ∀ n : Nat, ∀ (σ : pr_St) (x1 : Int32) (x2 : Int32) (x3 : Int32) (x4 : Int32) (res : pr_St), some res = prf_X_keep_7 n σ x1 x2 x3 x4 → ∀ (H : Heap) (locs : List Loc) (ls : Array Slot), va_P D pr_cl (pr_w prx_L ad dA σ) H → va_S A s.heap H locs → lv_has ls 6 [(0, .ref (ad 0)), (1, .int x1), (2, .int x2), (3, .int x3), (4, .int x4)] → W p l e (pr_rm h) s m args below meth c H locs 0 0 (MQ below (pr_Qv D pr_cl prx_L ad dA A res) args s 0 0 A) (F0 m 7 ls []) := by
  obtain ⟨hx, hb, hml, hown, hts, hr, hlocks, hK, hD, hX, hXs⟩ := id E
  intro n
  induction n with
  | zero =>
    intro σ x1 x2 x3 x4 res hf
    rw [prf_X_keep_7] at hf
    cases hf
  | succ n ih =>
    intro σ x1 x2 x3 x4 res hf H locs ls hP hS hl
    rw [prf_X_keep_7] at hf
    refine lv_iload_n hx hb prd_X_keep_7 rfl (lv_at hl 3 rfl) ?_
    refine lv_iconst (v := (-1)) hx hb prd_X_keep_8 (by decide) ?_
    refine lv_icmp_eq (tgt := 158) hx hb prd_X_keep_9 (by decide) (fun c35 => ?_) (fun c35 => ?_)
    · have hf := pr_it c35 hf
      exact pr_retv E hP hS (pr_so hf) prd_X_keep_158
    · have hf := pr_ie c35 hf
      refine lv_aload_n hx hb prd_X_keep_12 rfl (lv_at hl 0 rfl) ?_
      refine lv_aload_n hx hb prd_X_keep_13 rfl (lv_at hl 0 rfl) ?_
      refine pr_getr (t := 6) hx hb hts prs_X hown hK hP 0 11 (by decide) rfl (hts _ prw_901) rfl prd_X_keep_14 ?_
      refine lv_iload_n hx hb prd_X_keep_17 rfl (lv_at hl 3 rfl) ?_
      obtain ⟨hi36, hf⟩ := pr_ck_in hf
      refine pr_iald (f := (σ.2.1 6)) hx hb hK hP 6 (by decide) rfl hi36 rfl prd_X_keep_18 ?_
      refine lv_aload_n hx hb prd_X_keep_19 rfl (lv_at hl 0 rfl) ?_
      refine pr_getr (t := 7) hx hb hts prs_X hown hK hP 0 12 (by decide) rfl (hts _ prw_903) rfl prd_X_keep_20 ?_
      refine lv_iload_n hx hb prd_X_keep_23 rfl (lv_at hl 3 rfl) ?_
      obtain ⟨hi37, hf⟩ := pr_ck_in hf
      refine pr_iald (f := (σ.2.1 7)) hx hb hK hP 7 (by decide) rfl hi37 rfl prd_X_keep_24 ?_
      refine lv_aload_n hx hb prd_X_keep_25 rfl (lv_at hl 0 rfl) ?_
      refine pr_getr (t := 6) hx hb hts prs_X hown hK hP 0 11 (by decide) rfl (hts _ prw_901) rfl prd_X_keep_26 ?_
      refine lv_iload_n hx hb prd_X_keep_29 rfl (lv_at hl 3 rfl) ?_
      obtain ⟨hi38, hf⟩ := pr_ck_in hf
      refine pr_iald (f := (σ.2.1 6)) hx hb hK hP 6 (by decide) rfl hi38 rfl prd_X_keep_30 ?_
      refine lv_bipush (v := 13) hx hb prd_X_keep_31 (by decide) ?_
      refine lv_icmp_ne (tgt := 49) hx hb prd_X_keep_33 (by decide) (fun c39 => ?_) (fun c39 => ?_)
      · have hf := pr_ie c39 hf
        refine lv_aload_n hx hb prd_X_keep_49 rfl (lv_at hl 0 rfl) ?_
        refine pr_getr (t := 8) hx hb hts prs_X hown hK hP 0 13 (by decide) rfl (hts _ prw_904) rfl prd_X_keep_50 ?_
        refine lv_iload_n hx hb prd_X_keep_53 rfl (lv_at hl 3 rfl) ?_
        obtain ⟨hi40, hf⟩ := pr_ck_in hf
        refine pr_iald (f := (σ.2.1 8)) hx hb hK hP 8 (by decide) rfl hi40 rfl prd_X_keep_54 ?_
        refine lv_iload hx hb prd_X_keep_55 (lv_at hl 4 rfl) ?_
        obtain ⟨r41, hr41, hf⟩ := pr_bi hf
        refine pr_callVi (rest := []) (res := r41) ⟨hx, hb, hml, hown, hts⟩ 0 (prc_X_add hD hX 0 (Nat.le_refl _) σ ((σ.2.1 6) x3.toNatClampNeg) ((σ.2.1 7) x3.toNatClampNeg) ((σ.2.1 8) x3.toNatClampNeg) x4 r41 hr41) (prg_X_add hts prw_978 (by have := hh; omega)) hX hXs hK hP hS (by decide) rfl rfl rfl rfl hl.1 (Nat.le_of_ble_eq_true rfl) prd_X_keep_57 (fun H locs hP hS => ?_)
        refine lv_istore (lv' := [(5, .int r41.1), (0, .ref (ad 0)), (1, .int x1), (2, .int x2), (3, .int x3), (4, .int x4)]) hx hb prd_X_keep_60 hl (by decide) rfl (fun ls hl => ?_)
        refine lv_aload_n hx hb prd_X_keep_62 rfl (lv_at hl 1 rfl) ?_
        refine pr_getr (t := 11) hx hb hts prs_X hown hK hP 0 16 (by decide) rfl (hts _ prw_907) rfl prd_X_keep_63 ?_
        refine lv_iload_n hx hb prd_X_keep_66 rfl (lv_at hl 4 rfl) ?_
        obtain ⟨hi42, hf⟩ := pr_ck_in hf
        refine pr_iald (f := (r41.2.2.1 11)) hx hb hK hP 11 (by decide) rfl hi42 rfl prd_X_keep_67 ?_
        refine lv_iconst (v := (-1)) hx hb prd_X_keep_68 (by decide) ?_
        refine lv_icmp_eq (tgt := 102) hx hb prd_X_keep_69 (by decide) (fun c43 => ?_) (fun c43 => ?_)
        · have hf := pr_it c43 hf
          exact prk_X_keep_102 hh E ih r41.2 x1 x2 x3 x4 r41.1 _ hf _ _ _ hP hS (lv_sub hl [1, 2, 3, 4, 5, 0] rfl)
        · have hf := pr_ie c43 hf
          refine lv_iload_n hx hb prd_X_keep_72 rfl (lv_at hl 4 rfl) ?_
          refine lv_iload_n hx hb prd_X_keep_73 rfl (lv_at hl 2 rfl) ?_
          refine lv_icmp_eq (tgt := 102) hx hb prd_X_keep_74 (by decide) (fun c44 => ?_) (fun c44 => ?_)
          · have hf := pr_it c44 hf
            exact prk_X_keep_102 hh E ih r41.2 x1 x2 x3 x4 r41.1 _ hf _ _ _ hP hS (lv_sub hl [1, 2, 3, 4, 5, 0] rfl)
          · have hf := pr_ie c44 hf
            refine lv_aload_n hx hb prd_X_keep_77 rfl (lv_at hl 1 rfl) ?_
            refine pr_getr (t := 12) hx hb hts prs_X hown hK hP 0 18 (by decide) rfl (hts _ prw_979) rfl prd_X_keep_78 ?_
            refine lv_iload_n hx hb prd_X_keep_81 rfl (lv_at hl 3 rfl) ?_
            refine lv_aload_n hx hb prd_X_keep_82 rfl (lv_at hl 1 rfl) ?_
            refine pr_getr (t := 11) hx hb hts prs_X hown hK hP 0 16 (by decide) rfl (hts _ prw_907) rfl prd_X_keep_83 ?_
            refine lv_iload_n hx hb prd_X_keep_86 rfl (lv_at hl 4 rfl) ?_
            obtain ⟨hi45, hf⟩ := pr_ck_in hf
            refine pr_iald (f := (r41.2.2.1 11)) hx hb hK hP 11 (by decide) rfl hi45 rfl prd_X_keep_87 ?_
            obtain ⟨hi46, hf⟩ := pr_ck_in hf
            refine pr_iast (f := (r41.2.2.1 12)) hx hb hK hP (hD _) hS 12 (by decide) rfl hi46 rfl prd_X_keep_88 (fun H locs hP hS => ?_)
            refine lv_aload_n hx hb prd_X_keep_89 rfl (lv_at hl 1 rfl) ?_
            refine pr_getr (t := 12) hx hb hts prs_X hown hK hP 0 18 (by decide) rfl (hts _ prw_979) rfl prd_X_keep_90 ?_
            refine lv_iload_n hx hb prd_X_keep_93 rfl (lv_at hl 3 rfl) ?_
            refine lv_iconst (v := 1) hx hb prd_X_keep_94 (by decide) ?_
            refine lv_iadd hx hb prd_X_keep_95 ?_
            refine lv_iload hx hb prd_X_keep_96 (lv_at hl 5 rfl) ?_
            obtain ⟨hi47, hf⟩ := pr_ck_in hf
            refine pr_iast (f := (upd (r41.2.2.1 12) x2.toNatClampNeg ((r41.2.2.1 11) x3.toNatClampNeg))) hx hb hK hP (hD _) hS 12 (by decide) rfl hi47 rfl prd_X_keep_98 (fun H locs hP hS => ?_)
            refine lv_iinc (v := (x2 + 2)) (lv' := [(2, .int (x2 + 2)), (5, .int r41.1), (0, .ref (ad 0)), (1, .int x1), (3, .int x3), (4, .int x4)]) hx hb prd_X_keep_99 hl (k := 3) rfl rfl (by decide) rfl (fun ls hl => ?_)
            exact prk_X_keep_102 hh E ih (pr_sA (pr_sA r41.2 12 (upd (r41.2.2.1 12) x2.toNatClampNeg ((r41.2.2.1 11) x3.toNatClampNeg))) 12 (upd (upd (r41.2.2.1 12) x2.toNatClampNeg ((r41.2.2.1 11) x3.toNatClampNeg)) (x2 + 1).toNatClampNeg x4)) x1 (x2 + 2) x3 x4 r41.1 _ hf _ _ _ hP hS (lv_sub hl [2, 3, 0, 4, 5, 1] rfl)
      · have hf := pr_it c39 hf
        refine lv_aload_n hx hb prd_X_keep_36 rfl (lv_at hl 0 rfl) ?_
        refine lv_aload_n hx hb prd_X_keep_37 rfl (lv_at hl 0 rfl) ?_
        refine pr_getr (t := 8) hx hb hts prs_X hown hK hP 0 13 (by decide) rfl (hts _ prw_904) rfl prd_X_keep_38 ?_
        refine lv_iload_n hx hb prd_X_keep_41 rfl (lv_at hl 3 rfl) ?_
        obtain ⟨hi48, hf⟩ := pr_ck_in hf
        refine pr_iald (f := (σ.2.1 8)) hx hb hK hP 8 (by decide) rfl hi48 rfl prd_X_keep_42 ?_
        obtain ⟨r49, hr49, hf⟩ := pr_bi hf
        refine pr_callVi (rest := [.int ((σ.2.1 7) x3.toNatClampNeg), .int ((σ.2.1 6) x3.toNatClampNeg), .ref (ad 0)]) (res := r49) ⟨hx, hb, hml, hown, hts⟩ 0 (prc_X_nameOf hD hX 0 (Nat.le_refl _) σ ((σ.2.1 8) x3.toNatClampNeg) r49 hr49) (prg_X_nameOf hts prw_980 (by have := hh; omega)) hX hXs hK hP hS (by decide) rfl rfl rfl rfl hl.1 (Nat.le_of_ble_eq_true rfl) prd_X_keep_43 (fun H locs hP hS => ?_)
        refine lv_goto (tgt := 55) hx hb prd_X_keep_46 (by decide) ?_
        refine lv_iload hx hb prd_X_keep_55 (lv_at hl 4 rfl) ?_
        obtain ⟨r50, hr50, hf⟩ := pr_bi hf
        refine pr_callVi (rest := []) (res := r50) ⟨hx, hb, hml, hown, hts⟩ 0 (prc_X_add hD hX 0 (Nat.le_refl _) r49.2 ((σ.2.1 6) x3.toNatClampNeg) ((σ.2.1 7) x3.toNatClampNeg) r49.1 x4 r50 hr50) (prg_X_add hts prw_978 (by have := hh; omega)) hX hXs hK hP hS (by decide) rfl rfl rfl rfl hl.1 (Nat.le_of_ble_eq_true rfl) prd_X_keep_57 (fun H locs hP hS => ?_)
        refine lv_istore (lv' := [(5, .int r50.1), (0, .ref (ad 0)), (1, .int x1), (2, .int x2), (3, .int x3), (4, .int x4)]) hx hb prd_X_keep_60 hl (by decide) rfl (fun ls hl => ?_)
        refine lv_aload_n hx hb prd_X_keep_62 rfl (lv_at hl 1 rfl) ?_
        refine pr_getr (t := 11) hx hb hts prs_X hown hK hP 0 16 (by decide) rfl (hts _ prw_907) rfl prd_X_keep_63 ?_
        refine lv_iload_n hx hb prd_X_keep_66 rfl (lv_at hl 4 rfl) ?_
        obtain ⟨hi51, hf⟩ := pr_ck_in hf
        refine pr_iald (f := (r50.2.2.1 11)) hx hb hK hP 11 (by decide) rfl hi51 rfl prd_X_keep_67 ?_
        refine lv_iconst (v := (-1)) hx hb prd_X_keep_68 (by decide) ?_
        refine lv_icmp_eq (tgt := 102) hx hb prd_X_keep_69 (by decide) (fun c52 => ?_) (fun c52 => ?_)
        · have hf := pr_it c52 hf
          exact prk_X_keep_102 hh E ih r50.2 x1 x2 x3 x4 r50.1 _ hf _ _ _ hP hS (lv_sub hl [1, 2, 3, 4, 5, 0] rfl)
        · have hf := pr_ie c52 hf
          refine lv_iload_n hx hb prd_X_keep_72 rfl (lv_at hl 4 rfl) ?_
          refine lv_iload_n hx hb prd_X_keep_73 rfl (lv_at hl 2 rfl) ?_
          refine lv_icmp_eq (tgt := 102) hx hb prd_X_keep_74 (by decide) (fun c53 => ?_) (fun c53 => ?_)
          · have hf := pr_it c53 hf
            exact prk_X_keep_102 hh E ih r50.2 x1 x2 x3 x4 r50.1 _ hf _ _ _ hP hS (lv_sub hl [1, 2, 3, 4, 5, 0] rfl)
          · have hf := pr_ie c53 hf
            refine lv_aload_n hx hb prd_X_keep_77 rfl (lv_at hl 1 rfl) ?_
            refine pr_getr (t := 12) hx hb hts prs_X hown hK hP 0 18 (by decide) rfl (hts _ prw_979) rfl prd_X_keep_78 ?_
            refine lv_iload_n hx hb prd_X_keep_81 rfl (lv_at hl 3 rfl) ?_
            refine lv_aload_n hx hb prd_X_keep_82 rfl (lv_at hl 1 rfl) ?_
            refine pr_getr (t := 11) hx hb hts prs_X hown hK hP 0 16 (by decide) rfl (hts _ prw_907) rfl prd_X_keep_83 ?_
            refine lv_iload_n hx hb prd_X_keep_86 rfl (lv_at hl 4 rfl) ?_
            obtain ⟨hi54, hf⟩ := pr_ck_in hf
            refine pr_iald (f := (r50.2.2.1 11)) hx hb hK hP 11 (by decide) rfl hi54 rfl prd_X_keep_87 ?_
            obtain ⟨hi55, hf⟩ := pr_ck_in hf
            refine pr_iast (f := (r50.2.2.1 12)) hx hb hK hP (hD _) hS 12 (by decide) rfl hi55 rfl prd_X_keep_88 (fun H locs hP hS => ?_)
            refine lv_aload_n hx hb prd_X_keep_89 rfl (lv_at hl 1 rfl) ?_
            refine pr_getr (t := 12) hx hb hts prs_X hown hK hP 0 18 (by decide) rfl (hts _ prw_979) rfl prd_X_keep_90 ?_
            refine lv_iload_n hx hb prd_X_keep_93 rfl (lv_at hl 3 rfl) ?_
            refine lv_iconst (v := 1) hx hb prd_X_keep_94 (by decide) ?_
            refine lv_iadd hx hb prd_X_keep_95 ?_
            refine lv_iload hx hb prd_X_keep_96 (lv_at hl 5 rfl) ?_
            obtain ⟨hi56, hf⟩ := pr_ck_in hf
            refine pr_iast (f := (upd (r50.2.2.1 12) x2.toNatClampNeg ((r50.2.2.1 11) x3.toNatClampNeg))) hx hb hK hP (hD _) hS 12 (by decide) rfl hi56 rfl prd_X_keep_98 (fun H locs hP hS => ?_)
            refine lv_iinc (v := (x2 + 2)) (lv' := [(2, .int (x2 + 2)), (5, .int r50.1), (0, .ref (ad 0)), (1, .int x1), (3, .int x3), (4, .int x4)]) hx hb prd_X_keep_99 hl (k := 3) rfl rfl (by decide) rfl (fun ls hl => ?_)
            exact prk_X_keep_102 hh E ih (pr_sA (pr_sA r50.2 12 (upd (r50.2.2.1 12) x2.toNatClampNeg ((r50.2.2.1 11) x3.toNatClampNeg))) 12 (upd (upd (r50.2.2.1 12) x2.toNatClampNeg ((r50.2.2.1 11) x3.toNatClampNeg)) (x2 + 1).toNatClampNeg x4)) x1 (x2 + 2) x3 x4 r50.1 _ hf _ _ _ hP hS (lv_sub hl [2, 3, 0, 4, 5, 1] rfl)
set_option maxHeartbeats 4000000 in
set_option maxRecDepth 100000 in
theorem prc_X_keep {l : Launch} {D : va_G} {ad : Nat → Nat} {dA : Nat → ClassId} {A : Nat → Prop} {v : Nat → Nat} {r : Value} (hD : ∀ σ : pr_St, va_D A (pr_w prx_L ad dA σ)) (hX : pr_Xok A (prY ad v r A)) (h : Nat) (hh : 1 ≤ h) (σ : pr_St) (x1 : Int32) (res : pr_St) (hf : prf_X_keep σ x1 = some res) : Met l pry_X_keep (Cond.code pry_X_keep prb_X_keep 6 none :: pr_U) (pr_rm h) (pr_Pc (prY ad v r A) D pr_cl prx_L ad dA [.ref (ad 0), .int x1] σ) (pr_Qv D pr_cl prx_L ad dA A res) 0 0 A := by
  refine pr_entry (cc := prb_X_keep) (maxL := 6) (ret := none) (by decide) (Nat.le_of_ble_eq_true rfl) hD hX ?_
  intro p e s m args below meth c E H locs hP hS ls hl
  have hl : lv_has ls 6 [(0, .ref (ad 0)), (1, .int x1)] := hl
  have hf := hf.symm
  unfold prf_X_keep at hf
  obtain ⟨hx, hb, hml, hown, hts, hr, hlocks, hK, hD, hX, hXs⟩ := id E
  refine lv_iconst (v := 0) hx hb prd_X_keep_0 (by decide) ?_
  refine lv_istore_n (lv' := [(2, .int 0), (0, .ref (ad 0)), (1, .int x1)]) hx hb prd_X_keep_1 rfl hl (by decide) rfl (fun ls hl => ?_)
  refine lv_iload_n hx hb prd_X_keep_2 rfl (lv_at hl 2 rfl) ?_
  refine lv_istore_n (lv' := [(3, .int x1), (2, .int 0), (0, .ref (ad 0)), (1, .int x1)]) hx hb prd_X_keep_3 rfl hl (by decide) rfl (fun ls hl => ?_)
  refine lv_iconst (v := 0) hx hb prd_X_keep_4 (by decide) ?_
  refine lv_istore (lv' := [(4, .int 0), (3, .int x1), (2, .int 0), (0, .ref (ad 0)), (1, .int x1)]) hx hb prd_X_keep_5 hl (by decide) rfl (fun ls hl => ?_)
  exact prk_X_keep_7 hh E pr_FU σ x1 0 x1 0 _ hf _ _ _ hP hS (lv_sub hl [3, 4, 2, 1, 0] rfl)
-- X_behind
set_option maxHeartbeats 4000000 in
set_option maxRecDepth 100000 in
theorem prc_X_behind {l : Launch} {D : va_G} {ad : Nat → Nat} {dA : Nat → ClassId} {A : Nat → Prop} {v : Nat → Nat} {r : Value} (hD : ∀ σ : pr_St, va_D A (pr_w prx_L ad dA σ)) (hX : pr_Xok A (prY ad v r A)) (h : Nat) (hh : 0 ≤ h) (σ : pr_St) (x1 : Int32) (res : Int32) (hf : prf_X_behind σ x1 = some res) : Met l pry_X_behind (Cond.code pry_X_behind prb_X_behind 2 (some .int) :: pr_U) (pr_rm h) (pr_Pc (prY ad v r A) D pr_cl prx_L ad dA [.ref (ad 0), .int x1] σ) (pr_Qi D pr_cl prx_L ad dA A (res, σ)) 0 0 A := by
  refine pr_entry (cc := prb_X_behind) (maxL := 2) (ret := (some .int)) (by decide) (Nat.le_of_ble_eq_true rfl) hD hX ?_
  intro p e s m args below meth c E H locs hP hS ls hl
  have hl : lv_has ls 2 [(0, .ref (ad 0)), (1, .int x1)] := hl
  have hf := hf.symm
  unfold prf_X_behind at hf
  obtain ⟨hx, hb, hml, hown, hts, hr, hlocks, hK, hD, hX, hXs⟩ := id E
  refine lv_iload_n hx hb prd_X_behind_0 rfl (lv_at hl 1 rfl) ?_
  refine lv_aload_n hx hb prd_X_behind_1 rfl (lv_at hl 0 rfl) ?_
  refine pr_getr (t := 17) hx hb hts prs_X hown hK hP 0 23 (by decide) rfl (hts _ prw_840) rfl prd_X_behind_2 ?_
  refine lv_iload_n hx hb prd_X_behind_5 rfl (lv_at hl 1 rfl) ?_
  obtain ⟨hi2, hf⟩ := pr_ck_in hf
  refine pr_iald (f := (σ.2.1 17)) hx hb hK hP 17 (by decide) rfl hi2 rfl prd_X_behind_6 ?_
  refine lv_iadd hx hb prd_X_behind_7 ?_
  exact pr_reti E hP hS (pr_ro hf) prd_X_behind_8
-- X_wrong
set_option maxHeartbeats 4000000 in
set_option maxRecDepth 100000 in
theorem prc_X_wrong {l : Launch} {D : va_G} {ad : Nat → Nat} {dA : Nat → ClassId} {A : Nat → Prop} {v : Nat → Nat} {r : Value} (hD : ∀ σ : pr_St, va_D A (pr_w prx_L ad dA σ)) (hX : pr_Xok A (prY ad v r A)) (h : Nat) (hh : 0 ≤ h) (σ : pr_St) (x1 : Int32) (x2 : Int32) (res : (Int32 × pr_St)) (hf : prf_X_wrong σ x1 x2 = some res) : Met l pry_X_wrong (Cond.code pry_X_wrong prb_X_wrong 3 (some .boolean) :: pr_U) (pr_rm h) (pr_Pc (prY ad v r A) D pr_cl prx_L ad dA [.ref (ad 0), .int x1, .int x2] σ) (pr_Qi D pr_cl prx_L ad dA A res) 0 0 A := by
  refine pr_entry (cc := prb_X_wrong) (maxL := 3) (ret := (some .boolean)) (by decide) (Nat.le_of_ble_eq_true rfl) hD hX ?_
  intro p e s m args below meth c E H locs hP hS ls hl
  have hl : lv_has ls 3 [(0, .ref (ad 0)), (1, .int x1), (2, .int x2)] := hl
  have hf := hf.symm
  unfold prf_X_wrong at hf
  obtain ⟨hx, hb, hml, hown, hts, hr, hlocks, hK, hD, hX, hXs⟩ := id E
  refine lv_aload_n hx hb prd_X_wrong_0 rfl (lv_at hl 0 rfl) ?_
  refine pr_geti (v := (σ.1 0 47)) hx hb hts prs_X hown hK hP 0 47 (by decide) rfl (hts _ prw_987) rfl rfl prd_X_wrong_1 ?_
  refine lv_if_ne (tgt := 22) hx hb prd_X_wrong_4 (by decide) (fun c3 => ?_) (fun c3 => ?_)
  · have hf := pr_ie c3 hf
    refine lv_iconst (v := 0) hx hb prd_X_wrong_22 (by decide) ?_
    exact pr_retz E (Or.inl rfl) hP hS (pr_so hf) prd_X_wrong_23
  · have hf := pr_it c3 hf
    refine lv_aload_n hx hb prd_X_wrong_7 rfl (lv_at hl 0 rfl) ?_
    refine lv_iload_n hx hb prd_X_wrong_8 rfl (lv_at hl 1 rfl) ?_
    refine pr_puti (ty := .int) hx hb hts prs_X prq_X prtt_X prtn_X hown hK hP (hD _) hS 0 47 (by decide) rfl (hts _ prw_987) rfl rfl (prtt_X 47 (by decide)) rfl rfl prd_X_wrong_9 (fun H locs hP hS => ?_)
    refine lv_aload_n hx hb prd_X_wrong_12 rfl (lv_at hl 0 rfl) ?_
    refine lv_aload_n hx hb prd_X_wrong_13 rfl (lv_at hl 0 rfl) ?_
    refine pr_getr (t := 14) hx hb hts prs_X hown hK hP 0 20 (by decide) rfl (hts _ prw_837) rfl prd_X_wrong_14 ?_
    refine lv_iload_n hx hb prd_X_wrong_17 rfl (lv_at hl 2 rfl) ?_
    obtain ⟨hi4, hf⟩ := pr_ck_in hf
    refine pr_iald (f := (σ.2.1 14)) hx hb hK hP 14 (by decide) rfl hi4 rfl prd_X_wrong_18 ?_
    refine pr_puti (ty := .int) hx hb hts prs_X prq_X prtt_X prtn_X hown hK hP (hD _) hS 0 48 (by decide) rfl (hts _ prw_988) rfl rfl (prtt_X 48 (by decide)) rfl rfl prd_X_wrong_19 (fun H locs hP hS => ?_)
    refine lv_iconst (v := 0) hx hb prd_X_wrong_22 (by decide) ?_
    exact pr_retz E (Or.inl rfl) hP hS (pr_so hf) prd_X_wrong_23
-- X_blockOf
set_option maxHeartbeats 4000000 in
set_option maxRecDepth 100000 in
theorem prk_X_blockOf_4 {l : Launch} {D : va_G} {ad : Nat → Nat} {dA : Nat → ClassId} {A : Nat → Prop} {v : Nat → Nat} {r : Value} {p : Program} {e : Env} {s : State} {m : MethodId} {args : Array Value} {below : List Frame} {meth : Method} {c : Code} {h : Nat} (hh : 0 ≤ h) (E : pr_cx prn_X prb_X_blockOf 3 (some .int) D pr_cl prx_L ad dA A (prY ad v r A) p s m args meth c) : ∀ n : Nat, ∀ (σ : pr_St) (x2 : Int32) (res : Int32), some res = prf_X_blockOf_4 n σ x2 → ∀ (H : Heap) (locs : List Loc) (ls : Array Slot), va_P D pr_cl (pr_w prx_L ad dA σ) H → va_S A s.heap H locs → lv_has ls 3 [(0, .ref (ad 0)), (2, .int x2)] → W p l e (pr_rm h) s m args below meth c H locs 0 0 (MQ below (pr_Qi D pr_cl prx_L ad dA A (res, σ)) args s 0 0 A) (F0 m 4 ls []) := by
  obtain ⟨hx, hb, hml, hown, hts, hr, hlocks, hK, hD, hX, hXs⟩ := id E
  intro n
  induction n with
  | zero =>
    intro σ x2 res hf
    rw [prf_X_blockOf_4] at hf
    cases hf
  | succ n ih =>
    intro σ x2 res hf H locs ls hP hS hl
    rw [prf_X_blockOf_4] at hf
    refine lv_aload_n hx hb prd_X_blockOf_4 rfl (lv_at hl 0 rfl) ?_
    refine pr_getr (t := 13) hx hb hts prs_X hown hK hP 0 19 (by decide) rfl (hts _ prw_835) rfl prd_X_blockOf_5 ?_
    refine lv_iload_n hx hb prd_X_blockOf_8 rfl (lv_at hl 1 rfl) ?_
    obtain ⟨hi3, hf⟩ := pr_ck_in hf
    refine pr_iald (f := (σ.2.1 13)) hx hb hK hP 13 (by decide) rfl hi3 rfl prd_X_blockOf_9 ?_
    refine lv_bipush (v := 13) hx hb prd_X_blockOf_10 (by decide) ?_
    refine lv_icmp_ne (tgt := 21) hx hb prd_X_blockOf_12 (by decide) (fun c4 => ?_) (fun c4 => ?_)
    · have hf := pr_ie c4 hf
      refine lv_iload_n hx hb prd_X_blockOf_21 rfl (lv_at hl 1 rfl) ?_
      exact pr_reti E hP hS (pr_ro hf) prd_X_blockOf_22
    · have hf := pr_it c4 hf
      refine lv_iinc (v := (x2 + 1)) (lv' := [(2, .int (x2 + 1)), (0, .ref (ad 0))]) hx hb prd_X_blockOf_15 hl (k := 1) rfl rfl (by decide) rfl (fun ls hl => ?_)
      refine lv_goto (tgt := 4) hx hb prd_X_blockOf_18 (by decide) ?_
      exact ih σ (x2 + 1) _ hf _ _ _ hP hS (lv_sub hl [1, 0] rfl)
set_option maxHeartbeats 4000000 in
set_option maxRecDepth 100000 in
theorem prc_X_blockOf {l : Launch} {D : va_G} {ad : Nat → Nat} {dA : Nat → ClassId} {A : Nat → Prop} {v : Nat → Nat} {r : Value} (hD : ∀ σ : pr_St, va_D A (pr_w prx_L ad dA σ)) (hX : pr_Xok A (prY ad v r A)) (h : Nat) (hh : 0 ≤ h) (σ : pr_St) (x1 : Int32) (res : Int32) (hf : prf_X_blockOf σ x1 = some res) : Met l pry_X_blockOf (Cond.code pry_X_blockOf prb_X_blockOf 3 (some .int) :: pr_U) (pr_rm h) (pr_Pc (prY ad v r A) D pr_cl prx_L ad dA [.ref (ad 0), .int x1] σ) (pr_Qi D pr_cl prx_L ad dA A (res, σ)) 0 0 A := by
  refine pr_entry (cc := prb_X_blockOf) (maxL := 3) (ret := (some .int)) (by decide) (Nat.le_of_ble_eq_true rfl) hD hX ?_
  intro p e s m args below meth c E H locs hP hS ls hl
  have hl : lv_has ls 3 [(0, .ref (ad 0)), (1, .int x1)] := hl
  have hf := hf.symm
  unfold prf_X_blockOf at hf
  obtain ⟨hx, hb, hml, hown, hts, hr, hlocks, hK, hD, hX, hXs⟩ := id E
  refine lv_iload_n hx hb prd_X_blockOf_0 rfl (lv_at hl 1 rfl) ?_
  refine lv_iconst (v := 1) hx hb prd_X_blockOf_1 (by decide) ?_
  refine lv_iadd hx hb prd_X_blockOf_2 ?_
  refine lv_istore_n (lv' := [(2, .int (x1 + 1)), (0, .ref (ad 0)), (1, .int x1)]) hx hb prd_X_blockOf_3 rfl hl (by decide) rfl (fun ls hl => ?_)
  exact prk_X_blockOf_4 hh E pr_FU σ (x1 + 1) _ hf _ _ _ hP hS (lv_sub hl [1, 0] rfl)
-- X_isNew
set_option maxHeartbeats 4000000 in
set_option maxRecDepth 100000 in
theorem prk_X_isNew_5 {l : Launch} {D : va_G} {ad : Nat → Nat} {dA : Nat → ClassId} {A : Nat → Prop} {v : Nat → Nat} {r : Value} {p : Program} {e : Env} {s : State} {m : MethodId} {args : Array Value} {below : List Frame} {meth : Method} {c : Code} {h : Nat} (hh : 1 ≤ h) (E : pr_cx prn_X prb_X_isNew 4 (some .boolean) D pr_cl prx_L ad dA A (prY ad v r A) p s m args meth c) : ∀ n : Nat, ∀ (σ : pr_St) (x1 : Int32) (x2 : Int32) (x3 : Int32) (res : (Int32 × pr_St)), some res = prf_X_isNew_5 n σ x1 x2 x3 → ∀ (H : Heap) (locs : List Loc) (ls : Array Slot), va_P D pr_cl (pr_w prx_L ad dA σ) H → va_S A s.heap H locs → lv_has ls 4 [(0, .ref (ad 0)), (1, .int x1), (2, .int x2), (3, .int x3)] → W p l e (pr_rm h) s m args below meth c H locs 0 0 (MQ below (pr_Qi D pr_cl prx_L ad dA A res) args s 0 0 A) (F0 m 5 ls []) := by
  obtain ⟨hx, hb, hml, hown, hts, hr, hlocks, hK, hD, hX, hXs⟩ := id E
  intro n
  induction n with
  | zero =>
    intro σ x1 x2 x3 res hf
    rw [prf_X_isNew_5] at hf
    cases hf
  | succ n ih =>
    intro σ x1 x2 x3 res hf H locs ls hP hS hl
    rw [prf_X_isNew_5] at hf
    refine lv_iload_n hx hb prd_X_isNew_5 rfl (lv_at hl 3 rfl) ?_
    refine lv_aload_n hx hb prd_X_isNew_6 rfl (lv_at hl 0 rfl) ?_
    refine pr_geti (v := (σ.1 0 42)) hx hb hts prs_X hown hK hP 0 42 (by decide) rfl (hts _ prw_996) rfl rfl prd_X_isNew_7 ?_
    refine lv_icmp_ge (tgt := 51) hx hb prd_X_isNew_10 (by decide) (fun c9 => ?_) (fun c9 => ?_)
    · have hf := pr_it c9 hf
      refine lv_iconst (v := 1) hx hb prd_X_isNew_51 (by decide) ?_
      exact pr_retz E (Or.inr rfl) hP hS (pr_so hf) prd_X_isNew_52
    · have hf := pr_ie c9 hf
      refine lv_aload_n hx hb prd_X_isNew_13 rfl (lv_at hl 0 rfl) ?_
      refine pr_getr (t := 32) hx hb hts prs_X hown hK hP 0 41 (by decide) rfl (hts _ prw_997) rfl prd_X_isNew_14 ?_
      refine lv_iload_n hx hb prd_X_isNew_17 rfl (lv_at hl 3 rfl) ?_
      obtain ⟨hi10, hf⟩ := pr_ck_in hf
      refine pr_iald (f := (σ.2.1 32)) hx hb hK hP 32 (by decide) rfl hi10 rfl prd_X_isNew_18 ?_
      refine lv_iload_n hx hb prd_X_isNew_19 rfl (lv_at hl 2 rfl) ?_
      refine lv_icmp_ne (tgt := 45) hx hb prd_X_isNew_20 (by decide) (fun c11 => ?_) (fun c11 => ?_)
      · have hf := pr_ie c11 hf
        refine lv_iinc (v := (x3 + 1)) (lv' := [(3, .int (x3 + 1)), (0, .ref (ad 0)), (1, .int x1), (2, .int x2)]) hx hb prd_X_isNew_45 hl (k := 3) rfl rfl (by decide) rfl (fun ls hl => ?_)
        refine lv_goto (tgt := 5) hx hb prd_X_isNew_48 (by decide) ?_
        exact ih σ x1 x2 (x3 + 1) _ hf _ _ _ hP hS (lv_sub hl [1, 2, 3, 0] rfl)
      · have hf := pr_it c11 hf
        refine lv_aload_n hx hb prd_X_isNew_23 rfl (lv_at hl 0 rfl) ?_
        refine pr_getr (t := 29) hx hb hts prs_X hown hK hP 0 38 (by decide) rfl (hts _ prw_998) rfl prd_X_isNew_24 ?_
        refine lv_iload_n hx hb prd_X_isNew_27 rfl (lv_at hl 3 rfl) ?_
        obtain ⟨hi12, hf⟩ := pr_ck_in hf
        refine pr_iald (f := (σ.2.1 29)) hx hb hK hP 29 (by decide) rfl hi12 rfl prd_X_isNew_28 ?_
        refine lv_aload_n hx hb prd_X_isNew_29 rfl (lv_at hl 0 rfl) ?_
        refine pr_getr (t := 15) hx hb hts prs_X hown hK hP 0 21 (by decide) rfl (hts _ prw_838) rfl prd_X_isNew_30 ?_
        refine lv_iload_n hx hb prd_X_isNew_33 rfl (lv_at hl 1 rfl) ?_
        obtain ⟨hi13, hf⟩ := pr_ck_in hf
        refine pr_iald (f := (σ.2.1 15)) hx hb hK hP 15 (by decide) rfl hi13 rfl prd_X_isNew_34 ?_
        refine lv_icmp_ne (tgt := 45) hx hb prd_X_isNew_35 (by decide) (fun c14 => ?_) (fun c14 => ?_)
        · have hf := pr_ie c14 hf
          refine lv_iinc (v := (x3 + 1)) (lv' := [(3, .int (x3 + 1)), (0, .ref (ad 0)), (1, .int x1), (2, .int x2)]) hx hb prd_X_isNew_45 hl (k := 3) rfl rfl (by decide) rfl (fun ls hl => ?_)
          refine lv_goto (tgt := 5) hx hb prd_X_isNew_48 (by decide) ?_
          exact ih σ x1 x2 (x3 + 1) _ hf _ _ _ hP hS (lv_sub hl [1, 2, 3, 0] rfl)
        · have hf := pr_it c14 hf
          refine lv_aload_n hx hb prd_X_isNew_38 rfl (lv_at hl 0 rfl) ?_
          refine lv_iconst (v := 2) hx hb prd_X_isNew_39 (by decide) ?_
          refine lv_iload_n hx hb prd_X_isNew_40 rfl (lv_at hl 1 rfl) ?_
          obtain ⟨r15, hr15, hf⟩ := pr_bi hf
          refine pr_callVi (rest := []) (res := r15) ⟨hx, hb, hml, hown, hts⟩ 0 (prc_X_wrong hD hX 0 (Nat.le_refl _) σ 2 x1 r15 hr15) (prg_X_wrong hts prw_999 (by have := hh; omega)) hX hXs hK hP hS (by decide) rfl rfl rfl rfl hl.1 (Nat.le_of_ble_eq_true rfl) prd_X_isNew_41 (fun H locs hP hS => ?_)
          obtain ⟨hz16, hf⟩ := pr_z_in hf
          exact pr_retz E hz16 hP hS (pr_so hf) prd_X_isNew_44
set_option maxHeartbeats 4000000 in
set_option maxRecDepth 100000 in
theorem prc_X_isNew {l : Launch} {D : va_G} {ad : Nat → Nat} {dA : Nat → ClassId} {A : Nat → Prop} {v : Nat → Nat} {r : Value} (hD : ∀ σ : pr_St, va_D A (pr_w prx_L ad dA σ)) (hX : pr_Xok A (prY ad v r A)) (h : Nat) (hh : 1 ≤ h) (σ : pr_St) (x1 : Int32) (x2 : Int32) (res : (Int32 × pr_St)) (hf : prf_X_isNew σ x1 x2 = some res) : Met l pry_X_isNew (Cond.code pry_X_isNew prb_X_isNew 4 (some .boolean) :: pr_U) (pr_rm h) (pr_Pc (prY ad v r A) D pr_cl prx_L ad dA [.ref (ad 0), .int x1, .int x2] σ) (pr_Qi D pr_cl prx_L ad dA A res) 0 0 A := by
  refine pr_entry (cc := prb_X_isNew) (maxL := 4) (ret := (some .boolean)) (by decide) (Nat.le_of_ble_eq_true rfl) hD hX ?_
  intro p e s m args below meth c E H locs hP hS ls hl
  have hl : lv_has ls 4 [(0, .ref (ad 0)), (1, .int x1), (2, .int x2)] := hl
  have hf := hf.symm
  unfold prf_X_isNew at hf
  obtain ⟨hx, hb, hml, hown, hts, hr, hlocks, hK, hD, hX, hXs⟩ := id E
  refine lv_aload_n hx hb prd_X_isNew_0 rfl (lv_at hl 0 rfl) ?_
  refine pr_geti (v := (σ.1 0 43)) hx hb hts prs_X hown hK hP 0 43 (by decide) rfl (hts _ prw_995) rfl rfl prd_X_isNew_1 ?_
  refine lv_istore_n (lv' := [(3, .int (σ.1 0 43)), (0, .ref (ad 0)), (1, .int x1), (2, .int x2)]) hx hb prd_X_isNew_4 rfl hl (by decide) rfl (fun ls hl => ?_)
  exact prk_X_isNew_5 hh E pr_FU σ x1 x2 (σ.1 0 43) _ hf _ _ _ hP hS (lv_sub hl [1, 2, 3, 0] rfl)
-- X_second
set_option maxHeartbeats 4000000 in
set_option maxRecDepth 100000 in
theorem prc_X_second {l : Launch} {D : va_G} {ad : Nat → Nat} {dA : Nat → ClassId} {A : Nat → Prop} {v : Nat → Nat} {r : Value} (hD : ∀ σ : pr_St, va_D A (pr_w prx_L ad dA σ)) (hX : pr_Xok A (prY ad v r A)) (h : Nat) (hh : 1 ≤ h) (σ : pr_St) (x1 : Int32) (res : Int32) (hf : prf_X_second σ x1 = some res) : Met l pry_X_second (Cond.code pry_X_second prb_X_second 2 (some .int) :: pr_U) (pr_rm h) (pr_Pc (prY ad v r A) D pr_cl prx_L ad dA [.ref (ad 0), .int x1] σ) (pr_Qi D pr_cl prx_L ad dA A (res, σ)) 0 0 A := by
  refine pr_entry (cc := prb_X_second) (maxL := 2) (ret := (some .int)) (by decide) (Nat.le_of_ble_eq_true rfl) hD hX ?_
  intro p e s m args below meth c E H locs hP hS ls hl
  have hl : lv_has ls 2 [(0, .ref (ad 0)), (1, .int x1)] := hl
  have hf := hf.symm
  unfold prf_X_second at hf
  obtain ⟨hx, hb, hml, hown, hts, hr, hlocks, hK, hD, hX, hXs⟩ := id E
  refine lv_aload_n hx hb prd_X_second_0 rfl (lv_at hl 0 rfl) ?_
  refine lv_iload_n hx hb prd_X_second_1 rfl (lv_at hl 1 rfl) ?_
  refine lv_iconst (v := 1) hx hb prd_X_second_2 (by decide) ?_
  refine lv_iadd hx hb prd_X_second_3 ?_
  obtain ⟨r2, hr2, hf⟩ := pr_bi hf
  refine pr_callVr (rest := []) (r := r2) ⟨hx, hb, hml, hown, hts⟩ 0 (prc_X_behind hD hX 0 (Nat.le_refl _) σ (x1 + 1) r2 hr2) (prg_X_behind hts prw_1003 (by have := hh; omega)) hX hXs hK hP hS (by decide) rfl rfl rfl rfl hl.1 (Nat.le_of_ble_eq_true rfl) prd_X_second_4 (fun H locs hP hS => ?_)
  exact pr_reti E hP hS (pr_ro hf) prd_X_second_7
-- X_meantNow
set_option maxHeartbeats 4000000 in
set_option maxRecDepth 100000 in
theorem prk_X_meantNow_7 {l : Launch} {D : va_G} {ad : Nat → Nat} {dA : Nat → ClassId} {A : Nat → Prop} {v : Nat → Nat} {r : Value} {p : Program} {e : Env} {s : State} {m : MethodId} {args : Array Value} {below : List Frame} {meth : Method} {c : Code} {h : Nat} (hh : 0 ≤ h) (E : pr_cx prn_X prb_X_meantNow 3 (some .int) D pr_cl prx_L ad dA A (prY ad v r A) p s m args meth c) : ∀ n : Nat, ∀ (σ : pr_St) (x1 : Int32) (x2 : Int32) (res : Int32), some res = prf_X_meantNow_7 n σ x1 x2 → ∀ (H : Heap) (locs : List Loc) (ls : Array Slot), va_P D pr_cl (pr_w prx_L ad dA σ) H → va_S A s.heap H locs → lv_has ls 3 [(0, .ref (ad 0)), (1, .int x1), (2, .int x2)] → W p l e (pr_rm h) s m args below meth c H locs 0 0 (MQ below (pr_Qi D pr_cl prx_L ad dA A (res, σ)) args s 0 0 A) (F0 m 7 ls []) := by
  obtain ⟨hx, hb, hml, hown, hts, hr, hlocks, hK, hD, hX, hXs⟩ := id E
  intro n
  induction n with
  | zero =>
    intro σ x1 x2 res hf
    rw [prf_X_meantNow_7] at hf
    cases hf
  | succ n ih =>
    intro σ x1 x2 res hf H locs ls hP hS hl
    rw [prf_X_meantNow_7] at hf
    refine lv_iload_n hx hb prd_X_meantNow_7 rfl (lv_at hl 2 rfl) ?_
    refine lv_aload_n hx hb prd_X_meantNow_8 rfl (lv_at hl 0 rfl) ?_
    refine pr_geti (v := (σ.1 0 43)) hx hb hts prs_X hown hK hP 0 43 (by decide) rfl (hts _ prw_995) rfl rfl prd_X_meantNow_9 ?_
    refine lv_icmp_lt (tgt := 33) hx hb prd_X_meantNow_12 (by decide) (fun c4 => ?_) (fun c4 => ?_)
    · have hf := pr_it c4 hf
      refine lv_iconst (v := (-1)) hx hb prd_X_meantNow_33 (by decide) ?_
      exact pr_reti E hP hS (pr_ro hf) prd_X_meantNow_34
    · have hf := pr_ie c4 hf
      refine lv_aload_n hx hb prd_X_meantNow_15 rfl (lv_at hl 0 rfl) ?_
      refine pr_getr (t := 29) hx hb hts prs_X hown hK hP 0 38 (by decide) rfl (hts _ prw_998) rfl prd_X_meantNow_16 ?_
      refine lv_iload_n hx hb prd_X_meantNow_19 rfl (lv_at hl 2 rfl) ?_
      obtain ⟨hi5, hf⟩ := pr_ck_in hf
      refine pr_iald (f := (σ.2.1 29)) hx hb hK hP 29 (by decide) rfl hi5 rfl prd_X_meantNow_20 ?_
      refine lv_iload_n hx hb prd_X_meantNow_21 rfl (lv_at hl 1 rfl) ?_
      refine lv_icmp_ne (tgt := 27) hx hb prd_X_meantNow_22 (by decide) (fun c6 => ?_) (fun c6 => ?_)
      · have hf := pr_ie c6 hf
        refine lv_iinc (v := (x2 + (-1))) (lv' := [(2, .int (x2 + (-1))), (0, .ref (ad 0)), (1, .int x1)]) hx hb prd_X_meantNow_27 hl (k := 2) rfl rfl (by decide) rfl (fun ls hl => ?_)
        refine lv_goto (tgt := 7) hx hb prd_X_meantNow_30 (by decide) ?_
        exact ih σ x1 (x2 + (-1)) _ hf _ _ _ hP hS (lv_sub hl [1, 2, 0] rfl)
      · have hf := pr_it c6 hf
        refine lv_iload_n hx hb prd_X_meantNow_25 rfl (lv_at hl 2 rfl) ?_
        exact pr_reti E hP hS (pr_ro hf) prd_X_meantNow_26
set_option maxHeartbeats 4000000 in
set_option maxRecDepth 100000 in
theorem prc_X_meantNow {l : Launch} {D : va_G} {ad : Nat → Nat} {dA : Nat → ClassId} {A : Nat → Prop} {v : Nat → Nat} {r : Value} (hD : ∀ σ : pr_St, va_D A (pr_w prx_L ad dA σ)) (hX : pr_Xok A (prY ad v r A)) (h : Nat) (hh : 0 ≤ h) (σ : pr_St) (x1 : Int32) (res : Int32) (hf : prf_X_meantNow σ x1 = some res) : Met l pry_X_meantNow (Cond.code pry_X_meantNow prb_X_meantNow 3 (some .int) :: pr_U) (pr_rm h) (pr_Pc (prY ad v r A) D pr_cl prx_L ad dA [.ref (ad 0), .int x1] σ) (pr_Qi D pr_cl prx_L ad dA A (res, σ)) 0 0 A := by
  refine pr_entry (cc := prb_X_meantNow) (maxL := 3) (ret := (some .int)) (by decide) (Nat.le_of_ble_eq_true rfl) hD hX ?_
  intro p e s m args below meth c E H locs hP hS ls hl
  have hl : lv_has ls 3 [(0, .ref (ad 0)), (1, .int x1)] := hl
  have hf := hf.symm
  unfold prf_X_meantNow at hf
  obtain ⟨hx, hb, hml, hown, hts, hr, hlocks, hK, hD, hX, hXs⟩ := id E
  refine lv_aload_n hx hb prd_X_meantNow_0 rfl (lv_at hl 0 rfl) ?_
  refine pr_geti (v := (σ.1 0 42)) hx hb hts prs_X hown hK hP 0 42 (by decide) rfl (hts _ prw_996) rfl rfl prd_X_meantNow_1 ?_
  refine lv_iconst (v := 1) hx hb prd_X_meantNow_4 (by decide) ?_
  refine lv_isub hx hb prd_X_meantNow_5 ?_
  refine lv_istore_n (lv' := [(2, .int ((σ.1 0 42) - 1)), (0, .ref (ad 0)), (1, .int x1)]) hx hb prd_X_meantNow_6 rfl hl (by decide) rfl (fun ls hl => ?_)
  exact prk_X_meantNow_7 hh E pr_FU σ x1 ((σ.1 0 42) - 1) _ hf _ _ _ hP hS (lv_sub hl [1, 2, 0] rfl)
-- X_lookName
set_option maxHeartbeats 4000000 in
set_option maxRecDepth 100000 in
theorem prc_X_lookName {l : Launch} {D : va_G} {ad : Nat → Nat} {dA : Nat → ClassId} {A : Nat → Prop} {v : Nat → Nat} {r : Value} (hD : ∀ σ : pr_St, va_D A (pr_w prx_L ad dA σ)) (hX : pr_Xok A (prY ad v r A)) (h : Nat) (hh : 1 ≤ h) (σ : pr_St) (x1 : Int32) (x2 : Int32) (res : (Int32 × pr_St)) (hf : prf_X_lookName σ x1 x2 = some res) : Met l pry_X_lookName (Cond.code pry_X_lookName prb_X_lookName 4 (some .boolean) :: pr_U) (pr_rm h) (pr_Pc (prY ad v r A) D pr_cl prx_L ad dA [.ref (ad 0), .int x1, .int x2] σ) (pr_Qi D pr_cl prx_L ad dA A res) 0 0 A := by
  refine pr_entry (cc := prb_X_lookName) (maxL := 4) (ret := (some .boolean)) (by decide) (Nat.le_of_ble_eq_true rfl) hD hX ?_
  intro p e s m args below meth c E H locs hP hS ls hl
  have hl : lv_has ls 4 [(0, .ref (ad 0)), (1, .int x1), (2, .int x2)] := hl
  have hf := hf.symm
  unfold prf_X_lookName at hf
  obtain ⟨hx, hb, hml, hown, hts, hr, hlocks, hK, hD, hX, hXs⟩ := id E
  refine lv_aload_n hx hb prd_X_lookName_0 rfl (lv_at hl 0 rfl) ?_
  refine lv_aload_n hx hb prd_X_lookName_1 rfl (lv_at hl 0 rfl) ?_
  refine pr_getr (t := 15) hx hb hts prs_X hown hK hP 0 21 (by decide) rfl (hts _ prw_838) rfl prd_X_lookName_2 ?_
  refine lv_iload_n hx hb prd_X_lookName_5 rfl (lv_at hl 1 rfl) ?_
  obtain ⟨hi14, hf⟩ := pr_ck_in hf
  refine pr_iald (f := (σ.2.1 15)) hx hb hK hP 15 (by decide) rfl hi14 rfl prd_X_lookName_6 ?_
  obtain ⟨r15, hr15, hf⟩ := pr_bi hf
  refine pr_callVr (rest := []) (r := r15) ⟨hx, hb, hml, hown, hts⟩ 0 (prc_X_meantNow hD hX 0 (Nat.le_refl _) σ ((σ.2.1 15) x1.toNatClampNeg) r15 hr15) (prg_X_meantNow hts prw_1010 (by have := hh; omega)) hX hXs hK hP hS (by decide) rfl rfl rfl rfl hl.1 (Nat.le_of_ble_eq_true rfl) prd_X_lookName_7 (fun H locs hP hS => ?_)
  refine lv_istore_n (lv' := [(3, .int r15), (0, .ref (ad 0)), (1, .int x1), (2, .int x2)]) hx hb prd_X_lookName_10 rfl hl (by decide) rfl (fun ls hl => ?_)
  refine lv_iload_n hx hb prd_X_lookName_11 rfl (lv_at hl 0 rfl) ?_
  refine lv_iconst (v := (-1)) hx hb prd_X_lookName_12 (by decide) ?_
  refine lv_icmp_ne (tgt := 25) hx hb prd_X_lookName_13 (by decide) (fun c16 => ?_) (fun c16 => ?_)
  · have hf := pr_ie c16 hf
    refine lv_aload_n hx hb prd_X_lookName_25 rfl (lv_at hl 1 rfl) ?_
    refine pr_getr (t := 31) hx hb hts prs_X hown hK hP 0 40 (by decide) rfl (hts _ prw_1011) rfl prd_X_lookName_26 ?_
    refine lv_iload_n hx hb prd_X_lookName_29 rfl (lv_at hl 0 rfl) ?_
    obtain ⟨hi17, hf⟩ := pr_ck_in hf
    refine pr_iald (f := (σ.2.1 31)) hx hb hK hP 31 (by decide) rfl hi17 rfl prd_X_lookName_30 ?_
    refine lv_if_le (tgt := 38) hx hb prd_X_lookName_31 (by decide) (fun c18 => ?_) (fun c18 => ?_)
    · have hf := pr_it c18 hf
      refine lv_iconst (v := 0) hx hb prd_X_lookName_38 (by decide) ?_
      refine lv_iload_n hx hb prd_X_lookName_39 rfl (lv_at hl 3 rfl) ?_
      refine lv_icmp_eq (tgt := 52) hx hb prd_X_lookName_40 (by decide) (fun c19 => ?_) (fun c19 => ?_)
      · have hf := pr_it c19 hf
        refine lv_iconst (v := 1) hx hb prd_X_lookName_52 (by decide) ?_
        refine lv_goto (tgt := 57) hx hb prd_X_lookName_53 (by decide) ?_
        exact pr_retz E (Or.inr rfl) hP hS (pr_so hf) prd_X_lookName_57
      · have hf := pr_ie c19 hf
        refine lv_aload_n hx hb prd_X_lookName_43 rfl (lv_at hl 1 rfl) ?_
        refine lv_iconst (v := 3) hx hb prd_X_lookName_44 (by decide) ?_
        refine lv_iload_n hx hb prd_X_lookName_45 rfl (lv_at hl 2 rfl) ?_
        obtain ⟨r20, hr20, hf⟩ := pr_bi hf
        refine pr_callVi (rest := []) (res := r20) ⟨hx, hb, hml, hown, hts⟩ 0 (prc_X_wrong hD hX 0 (Nat.le_refl _) σ 3 x1 r20 hr20) (prg_X_wrong hts prw_999 (by have := hh; omega)) hX hXs hK hP hS (by decide) rfl rfl rfl rfl hl.1 (Nat.le_of_ble_eq_true rfl) prd_X_lookName_46 (fun H locs hP hS => ?_)
        refine lv_if_eq (tgt := 56) hx hb prd_X_lookName_49 (by decide) (fun c21 => ?_) (fun c21 => ?_)
        · have hf := pr_it c21 hf
          refine lv_iconst (v := 0) hx hb prd_X_lookName_56 (by decide) ?_
          exact pr_retz E (Or.inl rfl) hP hS (pr_so hf) prd_X_lookName_57
        · have hf := pr_ie c21 hf
          refine lv_iconst (v := 1) hx hb prd_X_lookName_52 (by decide) ?_
          refine lv_goto (tgt := 57) hx hb prd_X_lookName_53 (by decide) ?_
          exact pr_retz E (Or.inr rfl) hP hS (pr_so hf) prd_X_lookName_57
    · have hf := pr_ie c18 hf
      refine lv_iconst (v := 1) hx hb prd_X_lookName_34 (by decide) ?_
      refine lv_goto (tgt := 39) hx hb prd_X_lookName_35 (by decide) ?_
      refine lv_iload_n hx hb prd_X_lookName_39 rfl (lv_at hl 3 rfl) ?_
      refine lv_icmp_eq (tgt := 52) hx hb prd_X_lookName_40 (by decide) (fun c22 => ?_) (fun c22 => ?_)
      · have hf := pr_it c22 hf
        refine lv_iconst (v := 1) hx hb prd_X_lookName_52 (by decide) ?_
        refine lv_goto (tgt := 57) hx hb prd_X_lookName_53 (by decide) ?_
        exact pr_retz E (Or.inr rfl) hP hS (pr_so hf) prd_X_lookName_57
      · have hf := pr_ie c22 hf
        refine lv_aload_n hx hb prd_X_lookName_43 rfl (lv_at hl 1 rfl) ?_
        refine lv_iconst (v := 3) hx hb prd_X_lookName_44 (by decide) ?_
        refine lv_iload_n hx hb prd_X_lookName_45 rfl (lv_at hl 2 rfl) ?_
        obtain ⟨r23, hr23, hf⟩ := pr_bi hf
        refine pr_callVi (rest := []) (res := r23) ⟨hx, hb, hml, hown, hts⟩ 0 (prc_X_wrong hD hX 0 (Nat.le_refl _) σ 3 x1 r23 hr23) (prg_X_wrong hts prw_999 (by have := hh; omega)) hX hXs hK hP hS (by decide) rfl rfl rfl rfl hl.1 (Nat.le_of_ble_eq_true rfl) prd_X_lookName_46 (fun H locs hP hS => ?_)
        refine lv_if_eq (tgt := 56) hx hb prd_X_lookName_49 (by decide) (fun c24 => ?_) (fun c24 => ?_)
        · have hf := pr_it c24 hf
          refine lv_iconst (v := 0) hx hb prd_X_lookName_56 (by decide) ?_
          exact pr_retz E (Or.inl rfl) hP hS (pr_so hf) prd_X_lookName_57
        · have hf := pr_ie c24 hf
          refine lv_iconst (v := 1) hx hb prd_X_lookName_52 (by decide) ?_
          refine lv_goto (tgt := 57) hx hb prd_X_lookName_53 (by decide) ?_
          exact pr_retz E (Or.inr rfl) hP hS (pr_so hf) prd_X_lookName_57
  · have hf := pr_it c16 hf
    refine lv_aload_n hx hb prd_X_lookName_16 rfl (lv_at hl 1 rfl) ?_
    refine lv_iconst (v := 1) hx hb prd_X_lookName_17 (by decide) ?_
    refine lv_iload_n hx hb prd_X_lookName_18 rfl (lv_at hl 2 rfl) ?_
    obtain ⟨r25, hr25, hf⟩ := pr_bi hf
    refine pr_callVi (rest := []) (res := r25) ⟨hx, hb, hml, hown, hts⟩ 0 (prc_X_wrong hD hX 0 (Nat.le_refl _) σ 1 x1 r25 hr25) (prg_X_wrong hts prw_999 (by have := hh; omega)) hX hXs hK hP hS (by decide) rfl rfl rfl rfl hl.1 (Nat.le_of_ble_eq_true rfl) prd_X_lookName_19 (fun H locs hP hS => ?_)
    refine lv_goto (tgt := 57) hx hb prd_X_lookName_22 (by decide) ?_
    obtain ⟨hz26, hf⟩ := pr_z_in hf
    exact pr_retz E hz26 hP hS (pr_so hf) prd_X_lookName_57
-- X_lookAll
set_option maxHeartbeats 4000000 in
set_option maxRecDepth 100000 in
theorem prk_X_lookAll_76 {l : Launch} {D : va_G} {ad : Nat → Nat} {dA : Nat → ClassId} {A : Nat → Prop} {v : Nat → Nat} {r : Value} {p : Program} {e : Env} {s : State} {m : MethodId} {args : Array Value} {below : List Frame} {meth : Method} {c : Code} {h : Nat} (hh : 2 ≤ h) (E : pr_cx prn_X prb_X_lookAll 4 (some .boolean) D pr_cl prx_L ad dA A (prY ad v r A) p s m args meth c) {kk2 : pr_St → Int32 → Int32 → Option (Int32 × pr_St)} (Hk2 : ∀ (σ : pr_St) (x1 : Int32) (x2 : Int32) (res : (Int32 × pr_St)), some res = kk2 σ x1 x2 → ∀ (H : Heap) (locs : List Loc) (ls : Array Slot), va_P D pr_cl (pr_w prx_L ad dA σ) H → va_S A s.heap H locs → lv_has ls 4 [(0, .ref (ad 0)), (1, .int x1), (2, .int x2)] → W p l e (pr_rm h) s m args below meth c H locs 0 0 (MQ below (pr_Qi D pr_cl prx_L ad dA A res) args s 0 0 A) (F0 m 2 ls [])) : ∀ (σ : pr_St) (x1 : Int32) (x2 : Int32) (res : (Int32 × pr_St)), some res = prf_X_lookAll_76 kk2 σ x1 x2 → ∀ (H : Heap) (locs : List Loc) (ls : Array Slot), va_P D pr_cl (pr_w prx_L ad dA σ) H → va_S A s.heap H locs → lv_has ls 4 [(0, .ref (ad 0)), (1, .int x1), (2, .int x2)] → W p l e (pr_rm h) s m args below meth c H locs 0 0 (MQ below (pr_Qi D pr_cl prx_L ad dA A res) args s 0 0 A) (F0 m 76 ls []) := by
  obtain ⟨hx, hb, hml, hown, hts, hr, hlocks, hK, hD, hX, hXs⟩ := id E
  intro σ x1 x2 res hf H locs ls hP hS hl
  unfold prf_X_lookAll_76 at hf
  refine lv_aload_n hx hb prd_X_lookAll_76 rfl (lv_at hl 0 rfl) ?_
  refine pr_getr (t := 13) hx hb hts prs_X hown hK hP 0 19 (by decide) rfl (hts _ prw_835) rfl prd_X_lookAll_77 ?_
  refine lv_iload_n hx hb prd_X_lookAll_80 rfl (lv_at hl 2 rfl) ?_
  obtain ⟨hi27, hf⟩ := pr_ck_in hf
  refine pr_iald (f := (σ.2.1 13)) hx hb hK hP 13 (by decide) rfl hi27 rfl prd_X_lookAll_81 ?_
  refine lv_bipush (v := 16) hx hb prd_X_lookAll_82 (by decide) ?_
  refine lv_icmp_ne (tgt := 126) hx hb prd_X_lookAll_84 (by decide) (fun c28 => ?_) (fun c28 => ?_)
  · have hf := pr_ie c28 hf
    refine lv_iinc (v := (x2 + 1)) (lv' := [(2, .int (x2 + 1)), (0, .ref (ad 0)), (1, .int x1)]) hx hb prd_X_lookAll_126 hl (k := 2) rfl rfl (by decide) rfl (fun ls hl => ?_)
    refine lv_goto (tgt := 2) hx hb prd_X_lookAll_129 (by decide) ?_
    exact Hk2 σ x1 (x2 + 1) _ hf _ _ _ hP hS (lv_sub hl [1, 2, 0] rfl)
  · have hf := pr_it c28 hf
    refine lv_aload_n hx hb prd_X_lookAll_87 rfl (lv_at hl 0 rfl) ?_
    refine pr_getr (t := 17) hx hb hts prs_X hown hK hP 0 23 (by decide) rfl (hts _ prw_840) rfl prd_X_lookAll_88 ?_
    refine lv_iload_n hx hb prd_X_lookAll_91 rfl (lv_at hl 2 rfl) ?_
    obtain ⟨hi29, hf⟩ := pr_ck_in hf
    refine pr_iald (f := (σ.2.1 17)) hx hb hK hP 17 (by decide) rfl hi29 rfl prd_X_lookAll_92 ?_
    refine lv_iconst (v := 1) hx hb prd_X_lookAll_93 (by decide) ?_
    refine lv_icmp_le (tgt := 126) hx hb prd_X_lookAll_94 (by decide) (fun c30 => ?_) (fun c30 => ?_)
    · have hf := pr_it c30 hf
      refine lv_iinc (v := (x2 + 1)) (lv' := [(2, .int (x2 + 1)), (0, .ref (ad 0)), (1, .int x1)]) hx hb prd_X_lookAll_126 hl (k := 2) rfl rfl (by decide) rfl (fun ls hl => ?_)
      refine lv_goto (tgt := 2) hx hb prd_X_lookAll_129 (by decide) ?_
      exact Hk2 σ x1 (x2 + 1) _ hf _ _ _ hP hS (lv_sub hl [1, 2, 0] rfl)
    · have hf := pr_ie c30 hf
      refine lv_aload_n hx hb prd_X_lookAll_97 rfl (lv_at hl 0 rfl) ?_
      refine pr_getr (t := 15) hx hb hts prs_X hown hK hP 0 21 (by decide) rfl (hts _ prw_838) rfl prd_X_lookAll_98 ?_
      refine lv_iload_n hx hb prd_X_lookAll_101 rfl (lv_at hl 2 rfl) ?_
      refine lv_iconst (v := 1) hx hb prd_X_lookAll_102 (by decide) ?_
      refine lv_iadd hx hb prd_X_lookAll_103 ?_
      obtain ⟨hi31, hf⟩ := pr_ck_in hf
      refine pr_iald (f := (σ.2.1 15)) hx hb hK hP 15 (by decide) rfl hi31 rfl prd_X_lookAll_104 ?_
      refine lv_aload_n hx hb prd_X_lookAll_105 rfl (lv_at hl 0 rfl) ?_
      refine pr_getr (t := 15) hx hb hts prs_X hown hK hP 0 21 (by decide) rfl (hts _ prw_838) rfl prd_X_lookAll_106 ?_
      refine lv_iload_n hx hb prd_X_lookAll_109 rfl (lv_at hl 2 rfl) ?_
      refine lv_iconst (v := 2) hx hb prd_X_lookAll_110 (by decide) ?_
      refine lv_iadd hx hb prd_X_lookAll_111 ?_
      obtain ⟨hi32, hf⟩ := pr_ck_in hf
      refine pr_iald (f := (σ.2.1 15)) hx hb hK hP 15 (by decide) rfl hi32 rfl prd_X_lookAll_112 ?_
      refine lv_icmp_le (tgt := 126) hx hb prd_X_lookAll_113 (by decide) (fun c33 => ?_) (fun c33 => ?_)
      · have hf := pr_it c33 hf
        refine lv_iinc (v := (x2 + 1)) (lv' := [(2, .int (x2 + 1)), (0, .ref (ad 0)), (1, .int x1)]) hx hb prd_X_lookAll_126 hl (k := 2) rfl rfl (by decide) rfl (fun ls hl => ?_)
        refine lv_goto (tgt := 2) hx hb prd_X_lookAll_129 (by decide) ?_
        exact Hk2 σ x1 (x2 + 1) _ hf _ _ _ hP hS (lv_sub hl [1, 2, 0] rfl)
      · have hf := pr_ie c33 hf
        refine lv_aload_n hx hb prd_X_lookAll_116 rfl (lv_at hl 0 rfl) ?_
        refine lv_bipush (v := 8) hx hb prd_X_lookAll_117 (by decide) ?_
        refine lv_iload_n hx hb prd_X_lookAll_119 rfl (lv_at hl 2 rfl) ?_
        refine lv_iconst (v := 1) hx hb prd_X_lookAll_120 (by decide) ?_
        refine lv_iadd hx hb prd_X_lookAll_121 ?_
        obtain ⟨r34, hr34, hf⟩ := pr_bi hf
        refine pr_callVi (rest := []) (res := r34) ⟨hx, hb, hml, hown, hts⟩ 0 (prc_X_wrong hD hX 0 (Nat.le_refl _) σ 8 (x2 + 1) r34 hr34) (prg_X_wrong hts prw_999 (by have := hh; omega)) hX hXs hK hP hS (by decide) rfl rfl rfl rfl hl.1 (Nat.le_of_ble_eq_true rfl) prd_X_lookAll_122 (fun H locs hP hS => ?_)
        obtain ⟨hz35, hf⟩ := pr_z_in hf
        exact pr_retz E hz35 hP hS (pr_so hf) prd_X_lookAll_125
set_option maxHeartbeats 4000000 in
set_option maxRecDepth 100000 in
theorem prk_X_lookAll_52 {l : Launch} {D : va_G} {ad : Nat → Nat} {dA : Nat → ClassId} {A : Nat → Prop} {v : Nat → Nat} {r : Value} {p : Program} {e : Env} {s : State} {m : MethodId} {args : Array Value} {below : List Frame} {meth : Method} {c : Code} {h : Nat} (hh : 2 ≤ h) (E : pr_cx prn_X prb_X_lookAll 4 (some .boolean) D pr_cl prx_L ad dA A (prY ad v r A) p s m args meth c) {kk2 : pr_St → Int32 → Int32 → Option (Int32 × pr_St)} (Hk2 : ∀ (σ : pr_St) (x1 : Int32) (x2 : Int32) (res : (Int32 × pr_St)), some res = kk2 σ x1 x2 → ∀ (H : Heap) (locs : List Loc) (ls : Array Slot), va_P D pr_cl (pr_w prx_L ad dA σ) H → va_S A s.heap H locs → lv_has ls 4 [(0, .ref (ad 0)), (1, .int x1), (2, .int x2)] → W p l e (pr_rm h) s m args below meth c H locs 0 0 (MQ below (pr_Qi D pr_cl prx_L ad dA A res) args s 0 0 A) (F0 m 2 ls [])) : ∀ (σ : pr_St) (x1 : Int32) (x2 : Int32) (res : (Int32 × pr_St)), some res = prf_X_lookAll_52 kk2 σ x1 x2 → ∀ (H : Heap) (locs : List Loc) (ls : Array Slot), va_P D pr_cl (pr_w prx_L ad dA σ) H → va_S A s.heap H locs → lv_has ls 4 [(0, .ref (ad 0)), (1, .int x1), (2, .int x2)] → W p l e (pr_rm h) s m args below meth c H locs 0 0 (MQ below (pr_Qi D pr_cl prx_L ad dA A res) args s 0 0 A) (F0 m 52 ls []) := by
  obtain ⟨hx, hb, hml, hown, hts, hr, hlocks, hK, hD, hX, hXs⟩ := id E
  intro σ x1 x2 res hf H locs ls hP hS hl
  unfold prf_X_lookAll_52 at hf
  refine lv_iconst (v := 0) hx hb prd_X_lookAll_52 (by decide) ?_
  refine lv_istore_n (lv' := [(3, .int 0), (0, .ref (ad 0)), (1, .int x1), (2, .int x2)]) hx hb prd_X_lookAll_53 rfl hl (by decide) rfl (fun ls hl => ?_)
  refine lv_aload_n hx hb prd_X_lookAll_54 rfl (lv_at hl 1 rfl) ?_
  refine pr_getr (t := 13) hx hb hts prs_X hown hK hP 0 19 (by decide) rfl (hts _ prw_835) rfl prd_X_lookAll_55 ?_
  refine lv_iload_n hx hb prd_X_lookAll_58 rfl (lv_at hl 3 rfl) ?_
  obtain ⟨hi36, hf⟩ := pr_ck_in hf
  refine pr_iald (f := (σ.2.1 13)) hx hb hK hP 13 (by decide) rfl hi36 rfl prd_X_lookAll_59 ?_
  refine lv_bipush (v := 13) hx hb prd_X_lookAll_60 (by decide) ?_
  refine lv_icmp_ne (tgt := 76) hx hb prd_X_lookAll_62 (by decide) (fun c37 => ?_) (fun c37 => ?_)
  · have hf := pr_ie c37 hf
    exact prk_X_lookAll_76 hh E Hk2 σ x1 x2 _ hf _ _ _ hP hS (lv_sub hl [1, 2, 3] rfl)
  · have hf := pr_it c37 hf
    refine lv_aload_n hx hb prd_X_lookAll_65 rfl (lv_at hl 1 rfl) ?_
    refine lv_iload_n hx hb prd_X_lookAll_66 rfl (lv_at hl 3 rfl) ?_
    refine lv_iload_n hx hb prd_X_lookAll_67 rfl (lv_at hl 0 rfl) ?_
    obtain ⟨r38, hr38, hf⟩ := pr_bi hf
    refine pr_callVi (rest := []) (res := r38) ⟨hx, hb, hml, hown, hts⟩ 0 (prc_X_lookName hD hX 1 (Nat.le_refl _) σ x2 0 r38 hr38) (prg_X_lookName hts prw_1015 (by have := hh; omega)) hX hXs hK hP hS (by decide) rfl rfl rfl rfl hl.1 (Nat.le_of_ble_eq_true rfl) prd_X_lookAll_68 (fun H locs hP hS => ?_)
    refine lv_if_ne (tgt := 76) hx hb prd_X_lookAll_71 (by decide) (fun c39 => ?_) (fun c39 => ?_)
    · have hf := pr_ie c39 hf
      exact prk_X_lookAll_76 hh E Hk2 r38.2 x1 x2 _ hf _ _ _ hP hS (lv_sub hl [1, 2, 3] rfl)
    · have hf := pr_it c39 hf
      refine lv_iconst (v := 0) hx hb prd_X_lookAll_74 (by decide) ?_
      exact pr_retz E (Or.inl rfl) hP hS (pr_so hf) prd_X_lookAll_75
set_option maxHeartbeats 4000000 in
set_option maxRecDepth 100000 in
theorem prk_X_lookAll_2 {l : Launch} {D : va_G} {ad : Nat → Nat} {dA : Nat → ClassId} {A : Nat → Prop} {v : Nat → Nat} {r : Value} {p : Program} {e : Env} {s : State} {m : MethodId} {args : Array Value} {below : List Frame} {meth : Method} {c : Code} {h : Nat} (hh : 2 ≤ h) (E : pr_cx prn_X prb_X_lookAll 4 (some .boolean) D pr_cl prx_L ad dA A (prY ad v r A) p s m args meth c) : ∀ n : Nat, ∀ (σ : pr_St) (x1 : Int32) (x2 : Int32) (res : (Int32 × pr_St)), some res = prf_X_lookAll_2 n σ x1 x2 → ∀ (H : Heap) (locs : List Loc) (ls : Array Slot), va_P D pr_cl (pr_w prx_L ad dA σ) H → va_S A s.heap H locs → lv_has ls 4 [(0, .ref (ad 0)), (1, .int x1), (2, .int x2)] → W p l e (pr_rm h) s m args below meth c H locs 0 0 (MQ below (pr_Qi D pr_cl prx_L ad dA A res) args s 0 0 A) (F0 m 2 ls []) := by
  obtain ⟨hx, hb, hml, hown, hts, hr, hlocks, hK, hD, hX, hXs⟩ := id E
  intro n
  induction n with
  | zero =>
    intro σ x1 x2 res hf
    rw [prf_X_lookAll_2] at hf
    cases hf
  | succ n ih =>
    intro σ x1 x2 res hf H locs ls hP hS hl
    rw [prf_X_lookAll_2] at hf
    refine lv_iload_n hx hb prd_X_lookAll_2 rfl (lv_at hl 2 rfl) ?_
    refine lv_aload_n hx hb prd_X_lookAll_3 rfl (lv_at hl 0 rfl) ?_
    refine lv_iload_n hx hb prd_X_lookAll_4 rfl (lv_at hl 1 rfl) ?_
    obtain ⟨r40, hr40, hf⟩ := pr_bi hf
    refine pr_callVr (rest := [.int x2]) (r := r40) ⟨hx, hb, hml, hown, hts⟩ 0 (prc_X_behind hD hX 0 (Nat.le_refl _) σ x1 r40 hr40) (prg_X_behind hts prw_1003 (by have := hh; omega)) hX hXs hK hP hS (by decide) rfl rfl rfl rfl hl.1 (Nat.le_of_ble_eq_true rfl) prd_X_lookAll_5 (fun H locs hP hS => ?_)
    refine lv_icmp_ge (tgt := 132) hx hb prd_X_lookAll_8 (by decide) (fun c41 => ?_) (fun c41 => ?_)
    · have hf := pr_it c41 hf
      refine lv_iconst (v := 1) hx hb prd_X_lookAll_132 (by decide) ?_
      exact pr_retz E (Or.inr rfl) hP hS (pr_so hf) prd_X_lookAll_133
    · have hf := pr_ie c41 hf
      refine lv_aload_n hx hb prd_X_lookAll_11 rfl (lv_at hl 0 rfl) ?_
      refine pr_getr (t := 16) hx hb hts prs_X hown hK hP 0 22 (by decide) rfl (hts _ prw_839) rfl prd_X_lookAll_12 ?_
      refine lv_iload_n hx hb prd_X_lookAll_15 rfl (lv_at hl 2 rfl) ?_
      obtain ⟨hi42, hf⟩ := pr_ck_in hf
      refine pr_iald (f := (σ.2.1 16)) hx hb hK hP 16 (by decide) rfl hi42 rfl prd_X_lookAll_16 ?_
      refine lv_if_lt (tgt := 52) hx hb prd_X_lookAll_17 (by decide) (fun c43 => ?_) (fun c43 => ?_)
      · have hf := pr_it c43 hf
        exact prk_X_lookAll_52 hh E ih σ x1 x2 _ hf _ _ _ hP hS (lv_sub hl [0, 1, 2] rfl)
      · have hf := pr_ie c43 hf
        refine lv_aload_n hx hb prd_X_lookAll_20 rfl (lv_at hl 0 rfl) ?_
        refine pr_getr (t := 13) hx hb hts prs_X hown hK hP 0 19 (by decide) rfl (hts _ prw_835) rfl prd_X_lookAll_21 ?_
        refine lv_aload_n hx hb prd_X_lookAll_24 rfl (lv_at hl 0 rfl) ?_
        refine pr_getr (t := 16) hx hb hts prs_X hown hK hP 0 22 (by decide) rfl (hts _ prw_839) rfl prd_X_lookAll_25 ?_
        refine lv_iload_n hx hb prd_X_lookAll_28 rfl (lv_at hl 2 rfl) ?_
        obtain ⟨hi44, hf⟩ := pr_ck_in hf
        refine pr_iald (f := (σ.2.1 16)) hx hb hK hP 16 (by decide) rfl hi44 rfl prd_X_lookAll_29 ?_
        obtain ⟨hi45, hf⟩ := pr_ck_in hf
        refine pr_iald (f := (σ.2.1 13)) hx hb hK hP 13 (by decide) rfl hi45 rfl prd_X_lookAll_30 ?_
        refine lv_bipush (v := 14) hx hb prd_X_lookAll_31 (by decide) ?_
        refine lv_icmp_ne (tgt := 52) hx hb prd_X_lookAll_33 (by decide) (fun c46 => ?_) (fun c46 => ?_)
        · have hf := pr_ie c46 hf
          exact prk_X_lookAll_52 hh E ih σ x1 x2 _ hf _ _ _ hP hS (lv_sub hl [0, 1, 2] rfl)
        · have hf := pr_it c46 hf
          refine lv_aload_n hx hb prd_X_lookAll_36 rfl (lv_at hl 0 rfl) ?_
          refine pr_getr (t := 16) hx hb hts prs_X hown hK hP 0 22 (by decide) rfl (hts _ prw_839) rfl prd_X_lookAll_37 ?_
          refine lv_iload_n hx hb prd_X_lookAll_40 rfl (lv_at hl 2 rfl) ?_
          obtain ⟨hi47, hf⟩ := pr_ck_in hf
          refine pr_iald (f := (σ.2.1 16)) hx hb hK hP 16 (by decide) rfl hi47 rfl prd_X_lookAll_41 ?_
          refine lv_iload_n hx hb prd_X_lookAll_42 rfl (lv_at hl 2 rfl) ?_
          refine lv_iconst (v := 1) hx hb prd_X_lookAll_43 (by decide) ?_
          refine lv_isub hx hb prd_X_lookAll_44 ?_
          refine lv_icmp_ne (tgt := 52) hx hb prd_X_lookAll_45 (by decide) (fun c48 => ?_) (fun c48 => ?_)
          · have hf := pr_ie c48 hf
            exact prk_X_lookAll_52 hh E ih σ x1 x2 _ hf _ _ _ hP hS (lv_sub hl [0, 1, 2] rfl)
          · have hf := pr_it c48 hf
            refine lv_iconst (v := 1) hx hb prd_X_lookAll_48 (by decide) ?_
            refine lv_goto (tgt := 53) hx hb prd_X_lookAll_49 (by decide) ?_
            refine lv_istore_n (lv' := [(3, .int 1), (0, .ref (ad 0)), (1, .int x1), (2, .int x2)]) hx hb prd_X_lookAll_53 rfl hl (by decide) rfl (fun ls hl => ?_)
            refine lv_aload_n hx hb prd_X_lookAll_54 rfl (lv_at hl 1 rfl) ?_
            refine pr_getr (t := 13) hx hb hts prs_X hown hK hP 0 19 (by decide) rfl (hts _ prw_835) rfl prd_X_lookAll_55 ?_
            refine lv_iload_n hx hb prd_X_lookAll_58 rfl (lv_at hl 3 rfl) ?_
            obtain ⟨hi49, hf⟩ := pr_ck_in hf
            refine pr_iald (f := (σ.2.1 13)) hx hb hK hP 13 (by decide) rfl hi49 rfl prd_X_lookAll_59 ?_
            refine lv_bipush (v := 13) hx hb prd_X_lookAll_60 (by decide) ?_
            refine lv_icmp_ne (tgt := 76) hx hb prd_X_lookAll_62 (by decide) (fun c50 => ?_) (fun c50 => ?_)
            · have hf := pr_ie c50 hf
              exact prk_X_lookAll_76 hh E ih σ x1 x2 _ hf _ _ _ hP hS (lv_sub hl [1, 2, 3] rfl)
            · have hf := pr_it c50 hf
              refine lv_aload_n hx hb prd_X_lookAll_65 rfl (lv_at hl 1 rfl) ?_
              refine lv_iload_n hx hb prd_X_lookAll_66 rfl (lv_at hl 3 rfl) ?_
              refine lv_iload_n hx hb prd_X_lookAll_67 rfl (lv_at hl 0 rfl) ?_
              obtain ⟨r51, hr51, hf⟩ := pr_bi hf
              refine pr_callVi (rest := []) (res := r51) ⟨hx, hb, hml, hown, hts⟩ 0 (prc_X_lookName hD hX 1 (Nat.le_refl _) σ x2 1 r51 hr51) (prg_X_lookName hts prw_1015 (by have := hh; omega)) hX hXs hK hP hS (by decide) rfl rfl rfl rfl hl.1 (Nat.le_of_ble_eq_true rfl) prd_X_lookAll_68 (fun H locs hP hS => ?_)
              refine lv_if_ne (tgt := 76) hx hb prd_X_lookAll_71 (by decide) (fun c52 => ?_) (fun c52 => ?_)
              · have hf := pr_ie c52 hf
                exact prk_X_lookAll_76 hh E ih r51.2 x1 x2 _ hf _ _ _ hP hS (lv_sub hl [1, 2, 3] rfl)
              · have hf := pr_it c52 hf
                refine lv_iconst (v := 0) hx hb prd_X_lookAll_74 (by decide) ?_
                exact pr_retz E (Or.inl rfl) hP hS (pr_so hf) prd_X_lookAll_75
set_option maxHeartbeats 4000000 in
set_option maxRecDepth 100000 in
theorem prc_X_lookAll {l : Launch} {D : va_G} {ad : Nat → Nat} {dA : Nat → ClassId} {A : Nat → Prop} {v : Nat → Nat} {r : Value} (hD : ∀ σ : pr_St, va_D A (pr_w prx_L ad dA σ)) (hX : pr_Xok A (prY ad v r A)) (h : Nat) (hh : 2 ≤ h) (σ : pr_St) (x1 : Int32) (res : (Int32 × pr_St)) (hf : prf_X_lookAll σ x1 = some res) : Met l pry_X_lookAll (Cond.code pry_X_lookAll prb_X_lookAll 4 (some .boolean) :: pr_U) (pr_rm h) (pr_Pc (prY ad v r A) D pr_cl prx_L ad dA [.ref (ad 0), .int x1] σ) (pr_Qi D pr_cl prx_L ad dA A res) 0 0 A := by
  refine pr_entry (cc := prb_X_lookAll) (maxL := 4) (ret := (some .boolean)) (by decide) (Nat.le_of_ble_eq_true rfl) hD hX ?_
  intro p e s m args below meth c E H locs hP hS ls hl
  have hl : lv_has ls 4 [(0, .ref (ad 0)), (1, .int x1)] := hl
  have hf := hf.symm
  unfold prf_X_lookAll at hf
  obtain ⟨hx, hb, hml, hown, hts, hr, hlocks, hK, hD, hX, hXs⟩ := id E
  refine lv_iload_n hx hb prd_X_lookAll_0 rfl (lv_at hl 1 rfl) ?_
  refine lv_istore_n (lv' := [(2, .int x1), (0, .ref (ad 0)), (1, .int x1)]) hx hb prd_X_lookAll_1 rfl hl (by decide) rfl (fun ls hl => ?_)
  exact prk_X_lookAll_2 hh E pr_FU σ x1 x1 _ hf _ _ _ hP hS (lv_sub hl [1, 2, 0] rfl)
-- X_give
set_option maxHeartbeats 4000000 in
set_option maxRecDepth 100000 in
theorem prc_X_give {l : Launch} {D : va_G} {ad : Nat → Nat} {dA : Nat → ClassId} {A : Nat → Prop} {v : Nat → Nat} {r : Value} (hD : ∀ σ : pr_St, va_D A (pr_w prx_L ad dA σ)) (hX : pr_Xok A (prY ad v r A)) (h : Nat) (hh : 0 ≤ h) (σ : pr_St) (x1 : Int32) (x2 : Int32) (x3 : Int32) (x4 : Int32) (res : pr_St) (hf : prf_X_give σ x1 x2 x3 x4 = some res) : Met l pry_X_give (Cond.code pry_X_give prb_X_give 5 none :: pr_U) (pr_rm h) (pr_Pc (prY ad v r A) D pr_cl prx_L ad dA [.ref (ad 0), .int x1, .int x2, .int x3, .int x4] σ) (pr_Qv D pr_cl prx_L ad dA A res) 0 0 A := by
  refine pr_entry (cc := prb_X_give) (maxL := 5) (ret := none) (by decide) (Nat.le_of_ble_eq_true rfl) hD hX ?_
  intro p e s m args below meth c E H locs hP hS ls hl
  have hl : lv_has ls 5 [(0, .ref (ad 0)), (1, .int x1), (2, .int x2), (3, .int x3), (4, .int x4)] := hl
  have hf := hf.symm
  unfold prf_X_give at hf
  obtain ⟨hx, hb, hml, hown, hts, hr, hlocks, hK, hD, hX, hXs⟩ := id E
  refine lv_aload_n hx hb prd_X_give_0 rfl (lv_at hl 0 rfl) ?_
  refine pr_getr (t := 29) hx hb hts prs_X hown hK hP 0 38 (by decide) rfl (hts _ prw_998) rfl prd_X_give_1 ?_
  refine lv_aload_n hx hb prd_X_give_4 rfl (lv_at hl 0 rfl) ?_
  refine pr_geti (v := (σ.1 0 42)) hx hb hts prs_X hown hK hP 0 42 (by decide) rfl (hts _ prw_996) rfl rfl prd_X_give_5 ?_
  refine lv_iload_n hx hb prd_X_give_8 rfl (lv_at hl 1 rfl) ?_
  obtain ⟨hi5, hf⟩ := pr_ck_in hf
  refine pr_iast (f := (σ.2.1 29)) hx hb hK hP (hD _) hS 29 (by decide) rfl hi5 rfl prd_X_give_9 (fun H locs hP hS => ?_)
  refine lv_aload_n hx hb prd_X_give_10 rfl (lv_at hl 0 rfl) ?_
  refine pr_getr (t := 30) hx hb hts prs_X hown hK hP 0 39 (by decide) rfl (hts _ prw_1019) rfl prd_X_give_11 ?_
  refine lv_aload_n hx hb prd_X_give_14 rfl (lv_at hl 0 rfl) ?_
  refine pr_geti (v := (σ.1 0 42)) hx hb hts prs_X hown hK hP 0 42 (by decide) rfl (hts _ prw_996) rfl rfl prd_X_give_15 ?_
  refine lv_iload_n hx hb prd_X_give_18 rfl (lv_at hl 2 rfl) ?_
  obtain ⟨hi6, hf⟩ := pr_ck_in hf
  refine pr_iast (f := (σ.2.1 30)) hx hb hK hP (hD _) hS 30 (by decide) rfl hi6 rfl prd_X_give_19 (fun H locs hP hS => ?_)
  refine lv_aload_n hx hb prd_X_give_20 rfl (lv_at hl 0 rfl) ?_
  refine pr_getr (t := 31) hx hb hts prs_X hown hK hP 0 40 (by decide) rfl (hts _ prw_1011) rfl prd_X_give_21 ?_
  refine lv_aload_n hx hb prd_X_give_24 rfl (lv_at hl 0 rfl) ?_
  refine pr_geti (v := (σ.1 0 42)) hx hb hts prs_X hown hK hP 0 42 (by decide) rfl (hts _ prw_996) rfl rfl prd_X_give_25 ?_
  refine lv_iload_n hx hb prd_X_give_28 rfl (lv_at hl 3 rfl) ?_
  obtain ⟨hi7, hf⟩ := pr_ck_in hf
  refine pr_iast (f := (σ.2.1 31)) hx hb hK hP (hD _) hS 31 (by decide) rfl hi7 rfl prd_X_give_29 (fun H locs hP hS => ?_)
  refine lv_aload_n hx hb prd_X_give_30 rfl (lv_at hl 0 rfl) ?_
  refine pr_getr (t := 32) hx hb hts prs_X hown hK hP 0 41 (by decide) rfl (hts _ prw_997) rfl prd_X_give_31 ?_
  refine lv_aload_n hx hb prd_X_give_34 rfl (lv_at hl 0 rfl) ?_
  refine pr_geti (v := (σ.1 0 42)) hx hb hts prs_X hown hK hP 0 42 (by decide) rfl (hts _ prw_996) rfl rfl prd_X_give_35 ?_
  refine lv_iload hx hb prd_X_give_38 (lv_at hl 4 rfl) ?_
  obtain ⟨hi8, hf⟩ := pr_ck_in hf
  refine pr_iast (f := (σ.2.1 32)) hx hb hK hP (hD _) hS 32 (by decide) rfl hi8 rfl prd_X_give_40 (fun H locs hP hS => ?_)
  refine lv_aload_n hx hb prd_X_give_41 rfl (lv_at hl 0 rfl) ?_
  refine lv_dup hx hb prd_X_give_42 rfl ?_
  refine pr_geti (v := (σ.1 0 42)) hx hb hts prs_X hown hK hP 0 42 (by decide) rfl (hts _ prw_996) rfl rfl prd_X_give_43 ?_
  refine lv_iconst (v := 1) hx hb prd_X_give_46 (by decide) ?_
  refine lv_iadd hx hb prd_X_give_47 ?_
  refine pr_puti (ty := .int) hx hb hts prs_X prq_X prtt_X prtn_X hown hK hP (hD _) hS 0 42 (by decide) rfl (hts _ prw_996) rfl rfl (prtt_X 42 (by decide)) rfl rfl prd_X_give_48 (fun H locs hP hS => ?_)
  exact pr_retv E hP hS (pr_so hf) prd_X_give_51
-- X_whichFunction
set_option maxHeartbeats 4000000 in
set_option maxRecDepth 100000 in
theorem prk_X_whichFunction_2 {l : Launch} {D : va_G} {ad : Nat → Nat} {dA : Nat → ClassId} {A : Nat → Prop} {v : Nat → Nat} {r : Value} {p : Program} {e : Env} {s : State} {m : MethodId} {args : Array Value} {below : List Frame} {meth : Method} {c : Code} {h : Nat} (hh : 0 ≤ h) (E : pr_cx prn_X prb_X_whichFunction 3 (some .int) D pr_cl prx_L ad dA A (prY ad v r A) p s m args meth c) : ∀ n : Nat, ∀ (σ : pr_St) (x2 : Int32) (res : Int32), some res = prf_X_whichFunction_2 n σ x2 → ∀ (H : Heap) (locs : List Loc) (ls : Array Slot), va_P D pr_cl (pr_w prx_L ad dA σ) H → va_S A s.heap H locs → lv_has ls 3 [(0, .ref (ad 0)), (2, .int x2)] → W p l e (pr_rm h) s m args below meth c H locs 0 0 (MQ below (pr_Qi D pr_cl prx_L ad dA A (res, σ)) args s 0 0 A) (F0 m 2 ls []) := by
  obtain ⟨hx, hb, hml, hown, hts, hr, hlocks, hK, hD, hX, hXs⟩ := id E
  intro n
  induction n with
  | zero =>
    intro σ x2 res hf
    rw [prf_X_whichFunction_2] at hf
    cases hf
  | succ n ih =>
    intro σ x2 res hf H locs ls hP hS hl
    rw [prf_X_whichFunction_2] at hf
    refine lv_aload_n hx hb prd_X_whichFunction_2 rfl (lv_at hl 0 rfl) ?_
    refine pr_getr (t := 16) hx hb hts prs_X hown hK hP 0 22 (by decide) rfl (hts _ prw_839) rfl prd_X_whichFunction_3 ?_
    refine lv_iload_n hx hb prd_X_whichFunction_6 rfl (lv_at hl 1 rfl) ?_
    obtain ⟨hi4, hf⟩ := pr_ck_in hf
    refine pr_iald (f := (σ.2.1 16)) hx hb hK hP 16 (by decide) rfl hi4 rfl prd_X_whichFunction_7 ?_
    refine lv_if_eq (tgt := 21) hx hb prd_X_whichFunction_8 (by decide) (fun c5 => ?_) (fun c5 => ?_)
    · have hf := pr_it c5 hf
      refine lv_iload_n hx hb prd_X_whichFunction_21 rfl (lv_at hl 1 rfl) ?_
      exact pr_reti E hP hS (pr_ro hf) prd_X_whichFunction_22
    · have hf := pr_ie c5 hf
      refine lv_aload_n hx hb prd_X_whichFunction_11 rfl (lv_at hl 0 rfl) ?_
      refine pr_getr (t := 16) hx hb hts prs_X hown hK hP 0 22 (by decide) rfl (hts _ prw_839) rfl prd_X_whichFunction_12 ?_
      refine lv_iload_n hx hb prd_X_whichFunction_15 rfl (lv_at hl 1 rfl) ?_
      obtain ⟨hi6, hf⟩ := pr_ck_in hf
      refine pr_iald (f := (σ.2.1 16)) hx hb hK hP 16 (by decide) rfl hi6 rfl prd_X_whichFunction_16 ?_
      refine lv_istore_n (lv' := [(2, .int ((σ.2.1 16) x2.toNatClampNeg)), (0, .ref (ad 0))]) hx hb prd_X_whichFunction_17 rfl hl (by decide) rfl (fun ls hl => ?_)
      refine lv_goto (tgt := 2) hx hb prd_X_whichFunction_18 (by decide) ?_
      exact ih σ ((σ.2.1 16) x2.toNatClampNeg) _ hf _ _ _ hP hS (lv_sub hl [1, 0] rfl)
set_option maxHeartbeats 4000000 in
set_option maxRecDepth 100000 in
theorem prc_X_whichFunction {l : Launch} {D : va_G} {ad : Nat → Nat} {dA : Nat → ClassId} {A : Nat → Prop} {v : Nat → Nat} {r : Value} (hD : ∀ σ : pr_St, va_D A (pr_w prx_L ad dA σ)) (hX : pr_Xok A (prY ad v r A)) (h : Nat) (hh : 0 ≤ h) (σ : pr_St) (x1 : Int32) (res : Int32) (hf : prf_X_whichFunction σ x1 = some res) : Met l pry_X_whichFunction (Cond.code pry_X_whichFunction prb_X_whichFunction 3 (some .int) :: pr_U) (pr_rm h) (pr_Pc (prY ad v r A) D pr_cl prx_L ad dA [.ref (ad 0), .int x1] σ) (pr_Qi D pr_cl prx_L ad dA A (res, σ)) 0 0 A := by
  refine pr_entry (cc := prb_X_whichFunction) (maxL := 3) (ret := (some .int)) (by decide) (Nat.le_of_ble_eq_true rfl) hD hX ?_
  intro p e s m args below meth c E H locs hP hS ls hl
  have hl : lv_has ls 3 [(0, .ref (ad 0)), (1, .int x1)] := hl
  have hf := hf.symm
  unfold prf_X_whichFunction at hf
  obtain ⟨hx, hb, hml, hown, hts, hr, hlocks, hK, hD, hX, hXs⟩ := id E
  refine lv_iload_n hx hb prd_X_whichFunction_0 rfl (lv_at hl 1 rfl) ?_
  refine lv_istore_n (lv' := [(2, .int x1), (0, .ref (ad 0)), (1, .int x1)]) hx hb prd_X_whichFunction_1 rfl hl (by decide) rfl (fun ls hl => ?_)
  exact prk_X_whichFunction_2 hh E pr_FU σ x1 _ hf _ _ _ hP hS (lv_sub hl [1, 0] rfl)
-- X_functionOf
set_option maxHeartbeats 4000000 in
set_option maxRecDepth 100000 in
theorem prk_X_functionOf_5 {l : Launch} {D : va_G} {ad : Nat → Nat} {dA : Nat → ClassId} {A : Nat → Prop} {v : Nat → Nat} {r : Value} {p : Program} {e : Env} {s : State} {m : MethodId} {args : Array Value} {below : List Frame} {meth : Method} {c : Code} {h : Nat} (hh : 1 ≤ h) (E : pr_cx prn_X prb_X_functionOf 5 (some .int) D pr_cl prx_L ad dA A (prY ad v r A) p s m args meth c) : ∀ n : Nat, ∀ (σ : pr_St) (x1 : Int32) (x2 : Int32) (x3 : Int32) (x4 : Int32) (res : Int32), some res = prf_X_functionOf_5 n σ x1 x2 x3 x4 → ∀ (H : Heap) (locs : List Loc) (ls : Array Slot), va_P D pr_cl (pr_w prx_L ad dA σ) H → va_S A s.heap H locs → lv_has ls 5 [(0, .ref (ad 0)), (1, .int x1), (2, .int x2), (3, .int x3), (4, .int x4)] → W p l e (pr_rm h) s m args below meth c H locs 0 0 (MQ below (pr_Qi D pr_cl prx_L ad dA A (res, σ)) args s 0 0 A) (F0 m 5 ls []) := by
  obtain ⟨hx, hb, hml, hown, hts, hr, hlocks, hK, hD, hX, hXs⟩ := id E
  intro n
  induction n with
  | zero =>
    intro σ x1 x2 x3 x4 res hf
    rw [prf_X_functionOf_5] at hf
    cases hf
  | succ n ih =>
    intro σ x1 x2 x3 x4 res hf H locs ls hP hS hl
    rw [prf_X_functionOf_5] at hf
    refine lv_iload hx hb prd_X_functionOf_5 (lv_at hl 4 rfl) ?_
    refine lv_aload_n hx hb prd_X_functionOf_7 rfl (lv_at hl 0 rfl) ?_
    refine pr_geti (v := (σ.1 0 24)) hx hb hts prs_X hown hK hP 0 24 (by decide) rfl (hts _ prw_836) rfl rfl prd_X_functionOf_8 ?_
    refine lv_icmp_ge (tgt := 55) hx hb prd_X_functionOf_11 (by decide) (fun c9 => ?_) (fun c9 => ?_)
    · have hf := pr_it c9 hf
      refine lv_iload_n hx hb prd_X_functionOf_55 rfl (lv_at hl 3 rfl) ?_
      exact pr_reti E hP hS (pr_ro hf) prd_X_functionOf_56
    · have hf := pr_ie c9 hf
      refine lv_aload_n hx hb prd_X_functionOf_14 rfl (lv_at hl 0 rfl) ?_
      refine lv_iload hx hb prd_X_functionOf_15 (lv_at hl 4 rfl) ?_
      obtain ⟨r10, hr10, hf⟩ := pr_bi hf
      refine pr_callVr (rest := []) (r := r10) ⟨hx, hb, hml, hown, hts⟩ 0 (prc_X_behind hD hX 0 (Nat.le_refl _) σ x4 r10 hr10) (prg_X_behind hts prw_1003 (by have := hh; omega)) hX hXs hK hP hS (by decide) rfl rfl rfl rfl hl.1 (Nat.le_of_ble_eq_true rfl) prd_X_functionOf_17 (fun H locs hP hS => ?_)
      refine lv_iload_n hx hb prd_X_functionOf_20 rfl (lv_at hl 2 rfl) ?_
      refine lv_icmp_gt (tgt := 42) hx hb prd_X_functionOf_21 (by decide) (fun c11 => ?_) (fun c11 => ?_)
      · have hf := pr_it c11 hf
        refine lv_iload_n hx hb prd_X_functionOf_42 rfl (lv_at hl 3 rfl) ?_
        refine lv_istore_n (lv' := [(3, .int x3), (0, .ref (ad 0)), (1, .int x1), (2, .int x2), (4, .int x4)]) hx hb prd_X_functionOf_43 rfl hl (by decide) rfl (fun ls hl => ?_)
        refine lv_aload_n hx hb prd_X_functionOf_44 rfl (lv_at hl 1 rfl) ?_
        refine lv_iload hx hb prd_X_functionOf_45 (lv_at hl 4 rfl) ?_
        obtain ⟨r12, hr12, hf⟩ := pr_bi hf
        refine pr_callVr (rest := []) (r := r12) ⟨hx, hb, hml, hown, hts⟩ 0 (prc_X_behind hD hX 0 (Nat.le_refl _) σ x4 r12 hr12) (prg_X_behind hts prw_1003 (by have := hh; omega)) hX hXs hK hP hS (by decide) rfl rfl rfl rfl hl.1 (Nat.le_of_ble_eq_true rfl) prd_X_functionOf_47 (fun H locs hP hS => ?_)
        refine lv_istore (lv' := [(4, .int r12), (3, .int x3), (0, .ref (ad 0)), (1, .int x1), (2, .int x2)]) hx hb prd_X_functionOf_50 hl (by decide) rfl (fun ls hl => ?_)
        refine lv_goto (tgt := 5) hx hb prd_X_functionOf_52 (by decide) ?_
        exact ih σ x1 x2 x3 r12 _ hf _ _ _ hP hS (lv_sub hl [2, 3, 4, 1, 0] rfl)
      · have hf := pr_ie c11 hf
        refine lv_aload_n hx hb prd_X_functionOf_24 rfl (lv_at hl 0 rfl) ?_
        refine pr_getr (t := 15) hx hb hts prs_X hown hK hP 0 21 (by decide) rfl (hts _ prw_838) rfl prd_X_functionOf_25 ?_
        refine lv_iload hx hb prd_X_functionOf_28 (lv_at hl 4 rfl) ?_
        refine lv_iconst (v := 1) hx hb prd_X_functionOf_30 (by decide) ?_
        refine lv_iadd hx hb prd_X_functionOf_31 ?_
        obtain ⟨hi13, hf⟩ := pr_ck_in hf
        refine pr_iald (f := (σ.2.1 15)) hx hb hK hP 15 (by decide) rfl hi13 rfl prd_X_functionOf_32 ?_
        refine lv_iload_n hx hb prd_X_functionOf_33 rfl (lv_at hl 1 rfl) ?_
        refine lv_icmp_ne (tgt := 42) hx hb prd_X_functionOf_34 (by decide) (fun c14 => ?_) (fun c14 => ?_)
        · have hf := pr_ie c14 hf
          refine lv_iload_n hx hb prd_X_functionOf_42 rfl (lv_at hl 3 rfl) ?_
          refine lv_istore_n (lv' := [(3, .int x3), (0, .ref (ad 0)), (1, .int x1), (2, .int x2), (4, .int x4)]) hx hb prd_X_functionOf_43 rfl hl (by decide) rfl (fun ls hl => ?_)
          refine lv_aload_n hx hb prd_X_functionOf_44 rfl (lv_at hl 1 rfl) ?_
          refine lv_iload hx hb prd_X_functionOf_45 (lv_at hl 4 rfl) ?_
          obtain ⟨r15, hr15, hf⟩ := pr_bi hf
          refine pr_callVr (rest := []) (r := r15) ⟨hx, hb, hml, hown, hts⟩ 0 (prc_X_behind hD hX 0 (Nat.le_refl _) σ x4 r15 hr15) (prg_X_behind hts prw_1003 (by have := hh; omega)) hX hXs hK hP hS (by decide) rfl rfl rfl rfl hl.1 (Nat.le_of_ble_eq_true rfl) prd_X_functionOf_47 (fun H locs hP hS => ?_)
          refine lv_istore (lv' := [(4, .int r15), (3, .int x3), (0, .ref (ad 0)), (1, .int x1), (2, .int x2)]) hx hb prd_X_functionOf_50 hl (by decide) rfl (fun ls hl => ?_)
          refine lv_goto (tgt := 5) hx hb prd_X_functionOf_52 (by decide) ?_
          exact ih σ x1 x2 x3 r15 _ hf _ _ _ hP hS (lv_sub hl [2, 3, 4, 1, 0] rfl)
        · have hf := pr_it c14 hf
          refine lv_iload hx hb prd_X_functionOf_37 (lv_at hl 4 rfl) ?_
          refine lv_goto (tgt := 43) hx hb prd_X_functionOf_39 (by decide) ?_
          refine lv_istore_n (lv' := [(3, .int x4), (0, .ref (ad 0)), (1, .int x1), (2, .int x2), (4, .int x4)]) hx hb prd_X_functionOf_43 rfl hl (by decide) rfl (fun ls hl => ?_)
          refine lv_aload_n hx hb prd_X_functionOf_44 rfl (lv_at hl 1 rfl) ?_
          refine lv_iload hx hb prd_X_functionOf_45 (lv_at hl 4 rfl) ?_
          obtain ⟨r16, hr16, hf⟩ := pr_bi hf
          refine pr_callVr (rest := []) (r := r16) ⟨hx, hb, hml, hown, hts⟩ 0 (prc_X_behind hD hX 0 (Nat.le_refl _) σ x4 r16 hr16) (prg_X_behind hts prw_1003 (by have := hh; omega)) hX hXs hK hP hS (by decide) rfl rfl rfl rfl hl.1 (Nat.le_of_ble_eq_true rfl) prd_X_functionOf_47 (fun H locs hP hS => ?_)
          refine lv_istore (lv' := [(4, .int r16), (3, .int x4), (0, .ref (ad 0)), (1, .int x1), (2, .int x2)]) hx hb prd_X_functionOf_50 hl (by decide) rfl (fun ls hl => ?_)
          refine lv_goto (tgt := 5) hx hb prd_X_functionOf_52 (by decide) ?_
          exact ih σ x1 x2 x4 r16 _ hf _ _ _ hP hS (lv_sub hl [2, 3, 4, 1, 0] rfl)
set_option maxHeartbeats 4000000 in
set_option maxRecDepth 100000 in
theorem prc_X_functionOf {l : Launch} {D : va_G} {ad : Nat → Nat} {dA : Nat → ClassId} {A : Nat → Prop} {v : Nat → Nat} {r : Value} (hD : ∀ σ : pr_St, va_D A (pr_w prx_L ad dA σ)) (hX : pr_Xok A (prY ad v r A)) (h : Nat) (hh : 1 ≤ h) (σ : pr_St) (x1 : Int32) (x2 : Int32) (res : Int32) (hf : prf_X_functionOf σ x1 x2 = some res) : Met l pry_X_functionOf (Cond.code pry_X_functionOf prb_X_functionOf 5 (some .int) :: pr_U) (pr_rm h) (pr_Pc (prY ad v r A) D pr_cl prx_L ad dA [.ref (ad 0), .int x1, .int x2] σ) (pr_Qi D pr_cl prx_L ad dA A (res, σ)) 0 0 A := by
  refine pr_entry (cc := prb_X_functionOf) (maxL := 5) (ret := (some .int)) (by decide) (Nat.le_of_ble_eq_true rfl) hD hX ?_
  intro p e s m args below meth c E H locs hP hS ls hl
  have hl : lv_has ls 5 [(0, .ref (ad 0)), (1, .int x1), (2, .int x2)] := hl
  have hf := hf.symm
  unfold prf_X_functionOf at hf
  obtain ⟨hx, hb, hml, hown, hts, hr, hlocks, hK, hD, hX, hXs⟩ := id E
  refine lv_iconst (v := (-1)) hx hb prd_X_functionOf_0 (by decide) ?_
  refine lv_istore_n (lv' := [(3, .int (-1)), (0, .ref (ad 0)), (1, .int x1), (2, .int x2)]) hx hb prd_X_functionOf_1 rfl hl (by decide) rfl (fun ls hl => ?_)
  refine lv_iconst (v := 1) hx hb prd_X_functionOf_2 (by decide) ?_
  refine lv_istore (lv' := [(4, .int 1), (3, .int (-1)), (0, .ref (ad 0)), (1, .int x1), (2, .int x2)]) hx hb prd_X_functionOf_3 hl (by decide) rfl (fun ls hl => ?_)
  exact prk_X_functionOf_5 hh E pr_FU σ x1 x2 (-1) 1 _ hf _ _ _ hP hS (lv_sub hl [2, 3, 4, 1, 0] rfl)
-- X_lastStatement
set_option maxHeartbeats 4000000 in
set_option maxRecDepth 100000 in
theorem prk_X_lastStatement_6 {l : Launch} {D : va_G} {ad : Nat → Nat} {dA : Nat → ClassId} {A : Nat → Prop} {v : Nat → Nat} {r : Value} {p : Program} {e : Env} {s : State} {m : MethodId} {args : Array Value} {below : List Frame} {meth : Method} {c : Code} {h : Nat} (hh : 1 ≤ h) (E : pr_cx prn_X prb_X_lastStatement 4 (some .int) D pr_cl prx_L ad dA A (prY ad v r A) p s m args meth c) : ∀ n : Nat, ∀ (σ : pr_St) (x1 : Int32) (x2 : Int32) (x3 : Int32) (res : Int32), some res = prf_X_lastStatement_6 n σ x1 x2 x3 → ∀ (H : Heap) (locs : List Loc) (ls : Array Slot), va_P D pr_cl (pr_w prx_L ad dA σ) H → va_S A s.heap H locs → lv_has ls 4 [(0, .ref (ad 0)), (1, .int x1), (2, .int x2), (3, .int x3)] → W p l e (pr_rm h) s m args below meth c H locs 0 0 (MQ below (pr_Qi D pr_cl prx_L ad dA A (res, σ)) args s 0 0 A) (F0 m 6 ls []) := by
  obtain ⟨hx, hb, hml, hown, hts, hr, hlocks, hK, hD, hX, hXs⟩ := id E
  intro n
  induction n with
  | zero =>
    intro σ x1 x2 x3 res hf
    rw [prf_X_lastStatement_6] at hf
    cases hf
  | succ n ih =>
    intro σ x1 x2 x3 res hf H locs ls hP hS hl
    rw [prf_X_lastStatement_6] at hf
    refine lv_iload_n hx hb prd_X_lastStatement_6 rfl (lv_at hl 3 rfl) ?_
    refine lv_aload_n hx hb prd_X_lastStatement_7 rfl (lv_at hl 0 rfl) ?_
    refine lv_iload_n hx hb prd_X_lastStatement_8 rfl (lv_at hl 1 rfl) ?_
    obtain ⟨r4, hr4, hf⟩ := pr_bi hf
    refine pr_callVr (rest := [.int x3]) (r := r4) ⟨hx, hb, hml, hown, hts⟩ 0 (prc_X_behind hD hX 0 (Nat.le_refl _) σ x1 r4 hr4) (prg_X_behind hts prw_1003 (by have := hh; omega)) hX hXs hK hP hS (by decide) rfl rfl rfl rfl hl.1 (Nat.le_of_ble_eq_true rfl) prd_X_lastStatement_9 (fun H locs hP hS => ?_)
    refine lv_icmp_ge (tgt := 26) hx hb prd_X_lastStatement_12 (by decide) (fun c5 => ?_) (fun c5 => ?_)
    · have hf := pr_it c5 hf
      refine lv_iload_n hx hb prd_X_lastStatement_26 rfl (lv_at hl 2 rfl) ?_
      exact pr_reti E hP hS (pr_ro hf) prd_X_lastStatement_27
    · have hf := pr_ie c5 hf
      refine lv_iload_n hx hb prd_X_lastStatement_15 rfl (lv_at hl 3 rfl) ?_
      refine lv_istore_n (lv' := [(2, .int x3), (0, .ref (ad 0)), (1, .int x1), (3, .int x3)]) hx hb prd_X_lastStatement_16 rfl hl (by decide) rfl (fun ls hl => ?_)
      refine lv_aload_n hx hb prd_X_lastStatement_17 rfl (lv_at hl 1 rfl) ?_
      refine lv_iload_n hx hb prd_X_lastStatement_18 rfl (lv_at hl 3 rfl) ?_
      obtain ⟨r6, hr6, hf⟩ := pr_bi hf
      refine pr_callVr (rest := []) (r := r6) ⟨hx, hb, hml, hown, hts⟩ 0 (prc_X_behind hD hX 0 (Nat.le_refl _) σ x3 r6 hr6) (prg_X_behind hts prw_1003 (by have := hh; omega)) hX hXs hK hP hS (by decide) rfl rfl rfl rfl hl.1 (Nat.le_of_ble_eq_true rfl) prd_X_lastStatement_19 (fun H locs hP hS => ?_)
      refine lv_istore_n (lv' := [(3, .int r6), (2, .int x3), (0, .ref (ad 0)), (1, .int x1)]) hx hb prd_X_lastStatement_22 rfl hl (by decide) rfl (fun ls hl => ?_)
      refine lv_goto (tgt := 6) hx hb prd_X_lastStatement_23 (by decide) ?_
      exact ih σ x1 x3 r6 _ hf _ _ _ hP hS (lv_sub hl [2, 3, 1, 0] rfl)
set_option maxHeartbeats 4000000 in
set_option maxRecDepth 100000 in
theorem prc_X_lastStatement {l : Launch} {D : va_G} {ad : Nat → Nat} {dA : Nat → ClassId} {A : Nat → Prop} {v : Nat → Nat} {r : Value} (hD : ∀ σ : pr_St, va_D A (pr_w prx_L ad dA σ)) (hX : pr_Xok A (prY ad v r A)) (h : Nat) (hh : 1 ≤ h) (σ : pr_St) (x1 : Int32) (res : Int32) (hf : prf_X_lastStatement σ x1 = some res) : Met l pry_X_lastStatement (Cond.code pry_X_lastStatement prb_X_lastStatement 4 (some .int) :: pr_U) (pr_rm h) (pr_Pc (prY ad v r A) D pr_cl prx_L ad dA [.ref (ad 0), .int x1] σ) (pr_Qi D pr_cl prx_L ad dA A (res, σ)) 0 0 A := by
  refine pr_entry (cc := prb_X_lastStatement) (maxL := 4) (ret := (some .int)) (by decide) (Nat.le_of_ble_eq_true rfl) hD hX ?_
  intro p e s m args below meth c E H locs hP hS ls hl
  have hl : lv_has ls 4 [(0, .ref (ad 0)), (1, .int x1)] := hl
  have hf := hf.symm
  unfold prf_X_lastStatement at hf
  obtain ⟨hx, hb, hml, hown, hts, hr, hlocks, hK, hD, hX, hXs⟩ := id E
  refine lv_iconst (v := (-1)) hx hb prd_X_lastStatement_0 (by decide) ?_
  refine lv_istore_n (lv' := [(2, .int (-1)), (0, .ref (ad 0)), (1, .int x1)]) hx hb prd_X_lastStatement_1 rfl hl (by decide) rfl (fun ls hl => ?_)
  refine lv_iload_n hx hb prd_X_lastStatement_2 rfl (lv_at hl 2 rfl) ?_
  refine lv_iconst (v := 1) hx hb prd_X_lastStatement_3 (by decide) ?_
  refine lv_iadd hx hb prd_X_lastStatement_4 ?_
  refine lv_istore_n (lv' := [(3, .int (x1 + 1)), (2, .int (-1)), (0, .ref (ad 0)), (1, .int x1)]) hx hb prd_X_lastStatement_5 rfl hl (by decide) rfl (fun ls hl => ?_)
  exact prk_X_lastStatement_6 hh E pr_FU σ x1 (-1) (x1 + 1) _ hf _ _ _ hP hS (lv_sub hl [2, 3, 1, 0] rfl)
-- X_returns
set_option maxHeartbeats 4000000 in
set_option maxRecDepth 100000 in
theorem prc_X_returns {l : Launch} {D : va_G} {ad : Nat → Nat} {dA : Nat → ClassId} {A : Nat → Prop} {v : Nat → Nat} {r : Value} (hD : ∀ σ : pr_St, va_D A (pr_w prx_L ad dA σ)) (hX : pr_Xok A (prY ad v r A)) (h : Nat) (hh : 2 ≤ h) (σ : pr_St) (x1 : Int32) (res : Int32) (hf : prf_X_returns σ x1 = some res) : Met l pry_X_returns (Cond.code pry_X_returns prb_X_returns 3 (some .boolean) :: pr_U) (pr_rm h) (pr_Pc (prY ad v r A) D pr_cl prx_L ad dA [.ref (ad 0), .int x1] σ) (pr_Qi D pr_cl prx_L ad dA A (res, σ)) 0 0 A := by
  refine pr_entry (cc := prb_X_returns) (maxL := 3) (ret := (some .boolean)) (by decide) (Nat.le_of_ble_eq_true rfl) hD hX ?_
  intro p e s m args below meth c E H locs hP hS ls hl
  have hl : lv_has ls 3 [(0, .ref (ad 0)), (1, .int x1)] := hl
  have hf := hf.symm
  unfold prf_X_returns at hf
  obtain ⟨hx, hb, hml, hown, hts, hr, hlocks, hK, hD, hX, hXs⟩ := id E
  refine lv_aload_n hx hb prd_X_returns_0 rfl (lv_at hl 0 rfl) ?_
  refine lv_aload_n hx hb prd_X_returns_1 rfl (lv_at hl 0 rfl) ?_
  refine lv_iload_n hx hb prd_X_returns_2 rfl (lv_at hl 1 rfl) ?_
  obtain ⟨r6, hr6, hf⟩ := pr_bi hf
  refine pr_callVr (rest := [.ref (ad 0)]) (r := r6) ⟨hx, hb, hml, hown, hts⟩ 0 (prc_X_blockOf hD hX 0 (Nat.le_refl _) σ x1 r6 hr6) (prg_X_blockOf hts prw_1032 (by have := hh; omega)) hX hXs hK hP hS (by decide) rfl rfl rfl rfl hl.1 (Nat.le_of_ble_eq_true rfl) prd_X_returns_3 (fun H locs hP hS => ?_)
  obtain ⟨r7, hr7, hf⟩ := pr_bi hf
  refine pr_callVr (rest := []) (r := r7) ⟨hx, hb, hml, hown, hts⟩ 0 (prc_X_lastStatement hD hX 1 (Nat.le_refl _) σ r6 r7 hr7) (prg_X_lastStatement hts prw_1033 (by have := hh; omega)) hX hXs hK hP hS (by decide) rfl rfl rfl rfl hl.1 (Nat.le_of_ble_eq_true rfl) prd_X_returns_6 (fun H locs hP hS => ?_)
  refine lv_istore_n (lv' := [(2, .int r7), (0, .ref (ad 0)), (1, .int x1)]) hx hb prd_X_returns_9 rfl hl (by decide) rfl (fun ls hl => ?_)
  refine lv_iload_n hx hb prd_X_returns_10 rfl (lv_at hl 0 rfl) ?_
  refine lv_iconst (v := (-1)) hx hb prd_X_returns_11 (by decide) ?_
  refine lv_icmp_eq (tgt := 30) hx hb prd_X_returns_12 (by decide) (fun c8 => ?_) (fun c8 => ?_)
  · have hf := pr_it c8 hf
    refine lv_iconst (v := 0) hx hb prd_X_returns_30 (by decide) ?_
    exact pr_retz E (Or.inl rfl) hP hS (pr_ro hf) prd_X_returns_31
  · have hf := pr_ie c8 hf
    refine lv_aload_n hx hb prd_X_returns_15 rfl (lv_at hl 1 rfl) ?_
    refine pr_getr (t := 13) hx hb hts prs_X hown hK hP 0 19 (by decide) rfl (hts _ prw_835) rfl prd_X_returns_16 ?_
    refine lv_iload_n hx hb prd_X_returns_19 rfl (lv_at hl 0 rfl) ?_
    obtain ⟨hi9, hf⟩ := pr_ck_in hf
    refine pr_iald (f := (σ.2.1 13)) hx hb hK hP 13 (by decide) rfl hi9 rfl prd_X_returns_20 ?_
    refine lv_bipush (v := 11) hx hb prd_X_returns_21 (by decide) ?_
    refine lv_icmp_ne (tgt := 30) hx hb prd_X_returns_23 (by decide) (fun c10 => ?_) (fun c10 => ?_)
    · have hf := pr_ie c10 hf
      refine lv_iconst (v := 0) hx hb prd_X_returns_30 (by decide) ?_
      exact pr_retz E (Or.inl rfl) hP hS (pr_ro hf) prd_X_returns_31
    · have hf := pr_it c10 hf
      refine lv_iconst (v := 1) hx hb prd_X_returns_26 (by decide) ?_
      refine lv_goto (tgt := 31) hx hb prd_X_returns_27 (by decide) ?_
      exact pr_retz E (Or.inr rfl) hP hS (pr_ro hf) prd_X_returns_31
