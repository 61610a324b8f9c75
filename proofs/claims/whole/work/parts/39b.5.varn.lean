/-! THE LAYOUT: var with a number -/
/-- what a var brings into scope -/
theorem pl_varS {T : pl_Tx} {m : Nat} {rep : Nat → Nat} {A E : List (Nat × Bool)} {p ii t id : Nat} {bo : Bool} {σA τ1 : pr_St} (hs : pl_scp T m rep σA τ1 (A ++ E)) (hn : bo = false → pl_cnt false (A ++ E) < 12) (ha : bo = true → pl_cnt true (A ++ E) < 6) (h33 : τ1.1 0 33 = nI (p + 1)) (k2 : pl_xK T t = 2) (ht : t < pl_xc T) (hid : id < m) (hsn : pl_sn T (rep id) t) (hb : bo = true → 1 ≤ pl_vt T (t + 2) ∧ pl_vt T (t + 2) ≤ 64) : ∃ σ', prf_S_add σA (nI t) (pl_bI bo) = some σ' ∧ pl_scx T m rep A E (E ++ [(t, bo)]) p ii σA τ1 σ' (pl_e22 (pr_sI (pl_gv τ1 (A ++ E).length (nI id) (nI (pl_cnt bo (A ++ E))) (pl_rm T (t, bo)) (nI ii)) 0 (if bo = true then 46 else 45) (nI (pl_cnt bo (A ++ E) + 1))) p) := by
  obtain ⟨σ', e1, e2, e3, e4, e5, e6, e7, e8, e9⟩ := pl_adC hs t bo hn ha
  have hl := pl_cnt_len (A ++ E)
  have h12 := hs.2.2.2.2.2.1
  have h6 := hs.2.2.2.2.2.2.1
  refine ⟨σ', e1, ?_⟩
  obtain ⟨τ', hτ'⟩ : ∃ τ', τ' = pl_e22 (pr_sI (pl_gv τ1 (A ++ E).length (nI id) (nI (pl_cnt bo (A ++ E))) (pl_rm T (t, bo)) (nI ii)) 0 (if bo = true then 46 else 45) (nI (pl_cnt bo (A ++ E) + 1))) p := ⟨_, rfl⟩
  rw [← hτ']
  have g29 : τ'.2.1 29 = upd (τ1.2.1 29) (A ++ E).length (nI id) := by rw [hτ']; rfl
  have g30 : τ'.2.1 30 = upd (τ1.2.1 30) (A ++ E).length (nI (pl_cnt bo (A ++ E))) := by rw [hτ']; rfl
  have g31 : τ'.2.1 31 = upd (τ1.2.1 31) (A ++ E).length (pl_rm T (t, bo)) := by rw [hτ']; rfl
  have g32 : τ'.2.1 32 = upd (τ1.2.1 32) (A ++ E).length (nI ii) := by rw [hτ']; rfl
  have cf : pl_cnt false [(t, bo)] = if bo = true then 0 else 1 := by cases bo <;> rfl
  have ct : pl_cnt true [(t, bo)] = if bo = true then 1 else 0 := by cases bo <;> rfl
  have fld : ∀ o q, ¬ (o = 0 ∧ (q = 42 ∨ q = 45 ∨ q = 46)) → τ'.1 o q = τ1.1 o q := by
    intro o q hq
    rw [hτ']
    show (pr_sI (pl_gv τ1 _ _ _ _ _) 0 (if bo = true then 46 else 45) _).1 o q = _
    rw [pr_sI_ne (by cases bo <;> simp <;> omega)]
    unfold pl_gv
    rw [pr_sI_ne (by omega)]
    rfl
  have x42 : τ'.1 0 42 = nI ((A ++ E).length + 1) := by
    rw [hτ']
    show (pr_sI (pl_gv τ1 _ _ _ _ _) 0 (if bo = true then 46 else 45) _).1 0 42 = _
    rw [pr_sI_ne (by cases bo <;> simp)]
    unfold pl_gv
    exact pr_sI_same
  have x45 : τ'.1 0 45 = nI (pl_cnt false ((A ++ E) ++ [(t, bo)])) := by
    rw [pl_cnt_app, cf, hτ']
    cases bo with
    | false => rfl
    | true =>
      exact hs.2.2.2.1
  have x46 : τ'.1 0 46 = nI (pl_cnt true ((A ++ E) ++ [(t, bo)])) := by
    rw [pl_cnt_app, ct, hτ']
    cases bo with
    | true => rfl
    | false =>
      exact hs.2.2.2.2.1
  have hscp : pl_scp T m rep σ' τ' ((A ++ E) ++ [(t, bo)]) := by
    refine pl_scp_ext hs e2 e3 x42 x45 x46 ?_ ?_ e4 e5 e6 g29 g30 g31 k2 ht hid hsn hb
    · rw [pl_cnt_app, cf]
      cases bo with
      | false => have := hn rfl; simp; omega
      | true => simp; omega
    · rw [pl_cnt_app, ct]
      cases bo with
      | false => simp; omega
      | true => have := ha rfl; simp; omega
  refine ⟨by rw [← List.append_assoc]; exact hscp, ⟨_, rfl⟩, e8, e7, fun r z hz => ?_, e9, fld, fun r h1 h2 => ?_, fun r z h1 h2 hz => ?_, ?_, by rw [hτ']; rfl, fun v h1 h2 => ?_⟩
  · by_cases q : 39 ≤ r ∧ r ≤ 41
    · have : r = 39 ∨ r = 40 ∨ r = 41 := by omega
      rcases this with rfl | rfl | rfl
      · rw [e4, pk_un (by omega)]
      · rw [e5, pk_un (by omega)]
      · rw [e6, pk_un (by omega)]
    · rw [e7 r q]
  · rw [hτ']
    unfold pl_e22
    rw [pl_sA_ne h2]
    show (pl_gv τ1 _ _ _ _ _).2.1 r = _
    unfold pl_gv
    show (pr_sA (pr_sA (pr_sA (pr_sA τ1 29 _) 30 _) 31 _) 32 _).2.1 r = _
    rw [pl_sA_ne (by omega), pl_sA_ne (by omega), pl_sA_ne (by omega), pl_sA_ne (by omega)]
  · have : r = 29 ∨ r = 30 ∨ r = 31 ∨ r = 32 := by omega
    rcases this with rfl | rfl | rfl | rfl
    · rw [g29, pk_un (by omega)]
    · rw [g30, pk_un (by omega)]
    · rw [g31, pk_un (by omega)]
    · rw [g32, pk_un (by omega)]
  · have e33 : (pr_sI (pl_gv τ1 (A ++ E).length (nI id) (nI (pl_cnt bo (A ++ E))) (pl_rm T (t, bo)) (nI ii)) 0 (if bo = true then 46 else 45) (nI (pl_cnt bo (A ++ E) + 1))).1 0 33 = nI (p + 1) := by
      rw [pr_sI_ne (by cases bo <;> simp)]
      unfold pl_gv
      rw [pr_sI_ne (by omega)]
      exact h33
    rw [hτ']
    unfold pl_e22
    rw [pl_sA_same, e33]
    rfl
  · have ev : v = (A ++ E).length := by
      rw [← List.append_assoc, List.length_append, List.length_singleton] at h2
      omega
    rw [g32, ev, pk_us]
theorem pl_varNL {rc : pr_St → Int32 → Int32 → Int32 → Int32 → Option pr_St} {T : pl_Tx} {m : Nat} {rep : Nat → Nat} {Ps : List pl_En} {W : pl_Wt} {A E : List (Nat × Bool)} {d p ii nb bb fi send b bF f k s q bs x t e idn : Nat} {par x3 : Int32} {σ τ : pr_St} {F : List pl_N} {O : List pl_O} (hc : pl_cx T m rep Ps W A E d p ii nb bb fi send b bF f k s q bs x par σ τ F [(1, t, q, 0, s + 1, E, e + 1)] O) (hp : p < 249) (k5 : pl_xK T t = 5) (k2 : pl_xK T (t + 1) = 2) (k16 : ¬ pl_xK T (t + 2) = 16) (hte : t + 2 ≤ e) (hte3 : t + 3 < pl_xc T) (k19 : pl_xK T e = 19) (htc : pl_tc T (t + 2) e)
    (h14 : τ.2.1 14 k = nI (pl_xP T t)) (h14' : τ.2.1 14 (k + 1) = nI (pl_xP T (t + 1))) (h15' : τ.2.1 15 (k + 1) = nI idn) (hid : idn < m) (hsn : pl_sn T (rep idn) (t + 1)) (hk2 : k + 2 ≤ 12860)
    (hX0 : ∀ τ1 f' τx, pl_fr pl_FM pl_GM τ τ1 → pl_ls T m rep A E (pl_s2 σ d (s + 1) A) τ1 → prf_X_isNew τ1 (nI (k + 1)) (nI ii) = some (0, τx) → prf_X_statement5_96 rc (f' + 1) τ1 (nI k) (nI b) x3 (nI ii) (nI p) (nI (A ++ E).length) = some (pl_e22 τx p))
    (hX : ∀ τ1 f', pl_fr pl_FM pl_GM τ τ1 → pl_ls T m rep A E (pl_s2 σ d (s + 1) A) τ1 → prf_X_isNew τ1 (nI (k + 1)) (nI ii) = some (1, τ1) → ((∀ c, c ∈ pl_cu (pl_xK T) (t + 2) e → pl_yes T E c) → prf_X_statement5_96 rc (f' + 1) τ1 (nI k) (nI b) x3 (nI ii) (nI p) (nI (A ++ E).length) = prf_X_statement5_274 rc τ1 (nI k) (nI ii) (nI p)) ∧ (∀ w pt, pl_bad T E (pl_cu (pl_xK T) (t + 2) e) w pt → prf_X_statement5_96 rc (f' + 1) τ1 (nI k) (nI b) x3 (nI ii) (nI p) (nI (A ++ E).length) = some (pl_e22 (pl_wX T τ1 w pt) p))) :
    pl_LS T m rep Ps W A E d p ii bb fi send b bF k s bs x par σ τ F [(1, t, q, 0, s + 1, E, e + 1)] 1 (prf_X_statement5 rc τ (nI k) (nI b) x3 par (nI ii)) := by
  obtain ⟨hZ, his, h42, hse, hx, hbs, hkb, hbl, hlast, hsv, hss⟩ := hc
  have hown := (pl_own hZ.1 his).2
  have hown : e + 1 ≤ pl_xc T := hown
  have htt := hZ.1.1
  have i4 := his.2.2.2.1
  obtain ⟨z1, z2, ⟨z31, z32⟩, ⟨z41, z42, z43, z44, z45⟩, ⟨z51, z52, z53, z54, z55⟩, ⟨z61, z62, z63, z64, z65, z66⟩, z7⟩ := id hZ
  obtain ⟨σ2, hσ2⟩ : ∃ σ2, σ2 = pl_s2 σ d (s + 1) A := ⟨_, rfl⟩
  have f2 : pl_fr pl_FL pl_GL σ σ2 := by rw [hσ2]; exact pl_s2_fr
  have hls2 : pl_ls T m rep A E σ2 τ := by rw [hσ2]; exact pl_Z_ls hZ pl_fr.rf (fun _ _ _ => rfl) (fun _ _ => rfl)
  have hH := (pl_hold hZ (show s < pl_tS Ps by omega) i4 (show t < pl_xc T by omega)).2 hp
  have hH1 : prf_Y_holds (pl_s1 σ d (s + 1)) (nI s) = prf_Y_holds_67 σ2 (nI s) 1 (nI t) := by
    rw [hσ2]
    rw [if_neg (show ¬ nI 1 = 8 by decide)] at hH
    exact hH
  obtain ⟨vC1, vC2⟩ := pl_varC (e := s + 1) hZ hte3 k2
  rw [if_neg k16, ← hσ2] at vC2
  rw [← hσ2] at vC1
  obtain ⟨f', τ1, eX, hpX⟩ := pl_ptX (rc := rc) z2 (p := p) (k := k) (par := par) (x2 := nI b) (x3 := x3) (x5 := nI ii) z31 z42 hp
  have fX := pl_pX_fr hpX
  have new : ∀ τ1 : pr_St, pl_pX p k (A ++ E) A E par τ τ1 → ((∃ v e, bb ≤ v ∧ (A ++ E)[v]? = some e ∧ pl_sn T e.1 (t + 1)) → prf_X_isNew τ1 (nI (k + 1)) (nI ii) = some (0, pl_wX T τ1 2 (t + 1))) ∧ ((∀ v e, bb ≤ v → (A ++ E)[v]? = some e → ¬ pl_sn T e.1 (t + 1)) → prf_X_isNew τ1 (nI (k + 1)) (nI ii) = some (1, τ1)) := by
    intro τ1 hpX
    have fX := pl_pX_fr hpX
    have hls1 : pl_ls T m rep A E (pl_s2 σ d (s + 1) A) τ1 := pl_Z_ls hZ fX hpX.2.1 hpX.2.2.1
    exact pl_newX (nb := nb) hls1 z64 (fun v hv => by rw [hpX.2.2.1 32 (by omega)]; exact z66 v hv) (by omega) z63 (by omega) (by rw [fX.2.1 14 rfl]; exact h14') (by rw [fX.2.1 15 rfl]; exact h15') hid hsn
  have hls1 : pl_ls T m rep A E (pl_s2 σ d (s + 1) A) τ1 := pl_Z_ls hZ fX hpX.2.1 hpX.2.2.1
  have h67 : ∀ v, prf_Y_varHolds σ2 (nI t) = some (0, v) → prf_Y_holds (pl_s1 σ d (s + 1)) (nI s) = some (0, v) := by
    intro v hv
    rw [hH1]
    unfold prf_Y_holds_67
    rw [if_pos rfl, hv, pl_sb, if_pos rfl]
  have h67' : prf_Y_varHolds σ2 (nI t) = some (1, σ2) → prf_Y_holds (pl_s1 σ d (s + 1)) (nI s) = prf_Y_holds_82 σ2 (nI s) 1 (nI t) := by
    intro hv
    rw [hH1]
    unfold prf_Y_holds_67
    rw [if_pos rfl, hv, pl_sb, if_neg (show ¬ ((1 : Int32), σ2).1 = 0 from pl_10)]
  by_cases hdup : ∃ v e, bb ≤ v ∧ (A ++ E)[v]? = some e ∧ pl_sn T e.1 (t + 1)
  · refine Or.inr ?_
    exact pl_badG (σ3 := σ2) (τ' := pl_e22 (pl_wX T τ1 2 (t + 1)) p) (w := 2) (pt := t + 1) hZ i4 h42 hse hx (h67 _ (vC1 hdup)) f2 (by rw [eX]; exact hX0 τ1 f' _ fX hls1 ((new τ1 hpX).1 hdup)) (pl_wX_47 (T := T) (τ := τ1) (w := 2) (t := t + 1)).1 (pl_wX_47 (T := T) (τ := τ1) (w := 2) (t := t + 1)).2 ((fX.tr pl_wX_fr).tr pl_e22_fr) (by decide)
  · have hnd : ∀ v e, bb ≤ v → (A ++ E)[v]? = some e → ¬ pl_sn T e.1 (t + 1) := fun v e v1 v2 v3 => hdup ⟨v, e, v1, v2, v3⟩
    have h82 := h67' (vC2 hnd)
    obtain ⟨t1, t2⟩ := pl_tokH hls2 (nI s) hte (by omega) (Or.inl k19) htc
    have e82 : prf_Y_holds_82 σ2 (nI s) 1 (nI t) = (prf_Y_tokensHold σ2 (nI s) (nI (t + 2))).bind fun r34 => if r34.1 = 0 then some (0, r34.2) else (prf_Y_parametersHold r34.2).bind fun r36 => if r36.1 = 0 then some (0, r36.2) else (prf_Y_thereIsRoom r36.2 1 (nI t)).bind fun r38 => if r38.1 = 0 then some (0, r38.2) else some (1, r38.2) := by
      unfold prf_Y_holds_82
      rw [if_pos rfl, pl_n2]
    rcases pl_allbad (T := T) (E := E) (pl_cu (pl_xK T) (t + 2) e) with hall | ⟨w, pt, hbad⟩
    · obtain ⟨σ3, w1, w2⟩ := t1 hall
      obtain ⟨⟨g, eg⟩, _⟩ := id w2
      have ls3 : pl_ls T m rep A E σ3 τ := by rw [eg]; exact pl_ls_24 hls2 g
      have h13 : σ3.1 6 13 = -1 := by
        rw [eg]
        show σ2.1 6 13 = _
        rw [hσ2]
        unfold pl_s2
        rw [pr_sI_ne (by omega), pr_sI_ne (by omega), pr_sI_same]
      have ep : prf_G_parametersOf σ3 (-1) = some 0 := rfl
      have e2 : prf_Y_parametersHold σ3 = some (1, σ3) := by
        unfold prf_Y_parametersHold
        rw [show pr_FU = 99999 + 1 from rfl, prf_Y_parametersHold_2, h13, ep, pl_sb, if_pos (by decide)]
      have hK := pl_K35 ls3.1 (show t + 2 < pl_xc T by omega)
      have e3 : prf_Y_thereIsRoom σ3 1 (nI t) = if pl_cnt false (A ++ E) < 12 then some (1, σ3) else some (0, pl_wC T σ3 10 t) := by
        unfold prf_Y_thereIsRoom prf_Y_thereIsRoom_48 prf_S_numbers
        rw [if_pos rfl, pl_n2, pl_kindG ls3.1 (by omega), pl_sb, if_neg (pl_cn hK (j := 16) (v := 16) (by decide) rfl k16), if_pos rfl, ls3.2.2.1.1, pl_sb, nI_1, pl_isW ls3.1 (by omega), pl_sb, if_pos rfl]
        have h12 := z2.2.2.2.2.2.1
        by_cases q : pl_cnt false (A ++ E) < 12
        · rw [if_pos (show nI (pl_cnt false (A ++ E) + 1) ≤ 12 from nI_le (b := 12) (by omega) (by omega)), if_pos q]
        · rw [if_neg (show ¬ nI (pl_cnt false (A ++ E) + 1) ≤ 12 from nI_ge (a := 12) (by omega) (by omega)), if_neg q]
      by_cases hroom : pl_cnt false (A ++ E) < 12
      · refine Or.inl ?_
        have hhold : prf_Y_holds (pl_s1 σ d (s + 1)) (nI s) = some (1, σ3) := by
          rw [h82, e82, w1, pl_sb, if_neg (show ¬ ((1 : Int32), σ3).1 = 0 from pl_10), e2, pl_sb, if_neg (show ¬ ((1 : Int32), σ3).1 = 0 from pl_10), e3, if_pos hroom, pl_sb, if_neg (show ¬ ((1 : Int32), σ3).1 = 0 from pl_10)]
        have h3 : pl_h3 T (1, t, q, 0, s + 1, E, e + 1) (pl_s2 σ d (s + 1) A) σ3 := by
          rw [← hσ2]
          refine pl_h3_mk w2 rfl (show t ≤ t + 2 by omega) hte (show e ≤ e + 1 by omega) (fun u g1 g2 g3 g4 => ?_)
          have g1 : t ≤ u := g1
          have g2 : u < e + 1 := g2
          have n0 : ¬ u = t := fun z => by rw [z] at g3; omega
          have n1 : ¬ u = t + 1 := fun z => g4 ⟨rfl, z⟩
          have n2 : ¬ u = e := fun z => by rw [z] at g3; omega
          omega
        have eex : pl_ex (pl_xK T) E [(1, t, q, 0, s + 1, E, e + 1)] = E ++ [(t + 1, false)] := by
          show (if 1 = 1 then E ++ [(t + 1, pl_xK T (t + 2) == 16)] else E) = _
          rw [if_pos rfl, show (pl_xK T (t + 2) == 16) = false by simpa using k16]
        rw [eex]
        refine pl_leafG (rc := rc) (x3 := x3) hZ his h42 hse hp hx hbs hkb hbl hlast hsv (show t < pl_xc T by omega) (Or.inl rfl) hhold h3 ?_ (fun _ => ⟨fun z => absurd z k16, fun _ => hroom⟩) (fun z => absurd z (show ¬ 1 = 8 by decide))
        intro σA τ1 f' fA fX hpX h47 scA
        have hls1 : pl_ls T m rep A E (pl_s2 σ d (s + 1) A) τ1 := pl_Z_ls hZ fX hpX.2.1 hpX.2.2.1
        obtain ⟨σ', eA, hsx⟩ := pl_varS (p := p) (ii := ii) (bo := false) scA (fun _ => hroom) (fun z => by cases z) hpX.1 k2 (by omega) hid hsn (fun z => by cases z)
        refine ⟨σ', _, ?_, ?_, hsx⟩
        · have ttA := pl_tt_fr htt fA (pl_fr.rf (F := pl_FM) (G := pl_GM) (σ := τ)) ⟨rfl, rfl, rfl, rfl, rfl, rfl⟩ ⟨rfl, rfl, rfl, rfl, rfl, rfl⟩
          have eA' : prf_S_add σA (nI (t + 1)) 0 = some σ' := eA
          show pl_layK σA (nI s) (nI p) (nI t) (nI 1) = some σ'
          unfold pl_layK
          rw [if_pos (show nI 1 = 1 from rfl), pl_n2, nI_1, pl_kindG ttA (by omega), pl_sb, if_neg (pl_cn hK (j := 16) (v := 16) (by decide) rfl k16), eA', pl_sb]
        · rw [((hX τ1 f' fX hls1) ((new τ1 hpX).2 hnd)).1 hall]
          have h45 : τ1.1 0 45 = nI (pl_cnt false (A ++ E)) := scA.2.2.2.1
          have hl18 := pl_scp_len scA
          unfold prf_X_statement5_274 prf_X_statement5_293
          rw [h45, if_pos (show nI (pl_cnt false (A ++ E)) < 12 from nI_lt (b := 12) hroom (by omega)), nI_1, pl_ck (by omega) (by omega), nI_clamp (by omega), fX.2.1 15 rfl, h15', pl_giveX scA.2.2.1 (by omega), pl_sb, pl_ck (by omega) (by omega), nI_clamp (by omega)]
          have e45 : (pl_gv τ1 (A ++ E).length (nI idn) (nI (pl_cnt false (A ++ E))) 0 (nI ii)).1 0 45 + 1 = nI (pl_cnt false (A ++ E) + 1) := by
            unfold pl_gv
            rw [pr_sI_ne (by omega)]
            show τ1.1 0 45 + 1 = _
            rw [h45, nI_1]
          rw [e45]
          unfold pl_e22
          have e33 : (pl_gv τ1 (A ++ E).length (nI idn) (nI (pl_cnt false (A ++ E))) 0 (nI ii)).1 0 33 = (pr_sI (pl_gv τ1 (A ++ E).length (nI idn) (nI (pl_cnt false (A ++ E))) (pl_rm T (t + 1, false)) (nI ii)) 0 (if false = true then 46 else 45) (nI (pl_cnt false (A ++ E) + 1))).1 0 33 := by
            rw [pr_sI_ne (by simp)]
            rfl
          rw [e33]
          rfl
      · refine Or.inr ?_
        have hhold : prf_Y_holds (pl_s1 σ d (s + 1)) (nI s) = some (0, pl_wC T σ3 10 t) := by
          rw [h82, e82, w1, pl_sb, if_neg (show ¬ ((1 : Int32), σ3).1 = 0 from pl_10), e2, pl_sb, if_neg (show ¬ ((1 : Int32), σ3).1 = 0 from pl_10), e3, if_neg hroom, pl_sb, if_pos rfl]
        have h45 : τ1.1 0 45 = nI (pl_cnt false (A ++ E)) := hls1.2.2.1.2.2.2.1
        refine pl_badG (σ3 := σ3) (τ' := pl_e22 (pl_wX T τ1 10 t) p) (w := 10) (pt := t) hZ i4 h42 hse hx hhold (f2.tr (by rw [eg]; exact pl_sA_fr rfl)) ?_ (pl_wX_47 (T := T) (τ := τ1) (w := 10) (t := t)).1 (pl_wX_47 (T := T) (τ := τ1) (w := 10) (t := t)).2 ((fX.tr pl_wX_fr).tr pl_e22_fr) (by decide)
        rw [eX, ((hX τ1 f' fX hls1) ((new τ1 hpX).2 hnd)).1 hall]
        unfold prf_X_statement5_274
        rw [h45, if_neg (show ¬ nI (pl_cnt false (A ++ E)) < 12 from nI_nlt (b := 12) (by omega) (by have := z2.2.2.2.2.2.1; omega)), pl_wrX hls1.2.2.2.2.2.2.2.2 (by omega) (by rw [fX.2.1 14 rfl]; exact h14), pl_sb, if_pos rfl, pl_e22_X (show p < 250 by omega)]
    · refine Or.inr ?_
      obtain ⟨g, w1⟩ := t2 w pt hbad
      exact pl_badG (σ3 := pr_sA σ2 24 g) (τ' := pl_e22 (pl_wX T τ1 w pt) p) (w := w) (pt := pt) hZ i4 h42 hse hx (by show prf_Y_holds (pl_s1 σ d (s + 1)) (nI s) = _; rw [h82, e82, w1, pl_sb, if_pos rfl]) (f2.tr (pl_sA_fr rfl)) (by rw [eX]; exact ((hX τ1 f' fX hls1) ((new τ1 hpX).2 hnd)).2 w pt hbad) (pl_wX_47 (T := T) (τ := τ1) (w := w) (t := pt)).1 (pl_wX_47 (T := T) (τ := τ1) (w := w) (t := pt)).2 ((fX.tr pl_wX_fr).tr pl_e22_fr) (pl_badpos hbad)
