/-! THE LAYOUT: a call held against the rules, by the class -/
theorem pl_mf_u {T : pl_Tx} {Ps : List pl_En} {fi t i j : Nat} (h : pl_mf T Ps fi t i) (g : pl_mf T Ps fi t j) : i = j := by
  obtain ⟨h1, ⟨e, h2, h3⟩, h4⟩ := h
  obtain ⟨g1, ⟨e', g2, g3⟩, g4⟩ := g
  by_cases q : i < j
  · exact absurd g3 (h4 j e' q g1 g2)
  · by_cases q' : j < i
    · exact absurd h3 (g4 i e q' h1 h2)
    · omega
theorem pl_mf_n {T : pl_Tx} {Ps : List pl_En} {fi t i : Nat} (h : pl_mf T Ps fi t i) (g : pl_mn T Ps fi t) : False := by
  obtain ⟨h1, ⟨e, h2, h3⟩, h4⟩ := h
  exact g i e h1 h2 h3
theorem pl_tok0 {T : pl_Tx} {σ τ : pr_St} (h : pl_tt T σ τ) (s x : Int32) (F : Nat) : prf_Y_tokensHold_5 (F + 1) σ s 0 x = some (0, σ) := by
  have hcnt : prf_T_count σ = some (nI (pl_xc T)) := by unfold prf_T_count; rw [h.2.2.2.1.1]
  rw [prf_Y_tokensHold_5, hcnt, pl_sb, if_pos rfl]
  by_cases q : nI (pl_xc T) ≤ x
  · rw [if_pos q]; rfl
  · rw [if_neg q]; rfl
theorem pl_ls_13 {T : pl_Tx} {m : Nat} {rep : Nat → Nat} {A E : List (Nat × Bool)} {σ τ : pr_St} (h : pl_ls T m rep A E σ τ) (v : Int32) : pl_ls T m rep A E (pr_sI σ 6 13 v) τ := by
  obtain ⟨h1, h2, h3, h4, h5, h6, h7, h8, h9⟩ := h
  exact ⟨h1, h2, h3, h4, h5, h6, h7, h8, h9⟩
/-- the class goes over the tokens of a call -/
theorem pl_tokCall {T : pl_Tx} {m : Nat} {rep : Nat → Nat} {A E : List (Nat × Bool)} {σ τ : pr_St} (h : pl_ls T m rep A E σ τ) (s : Int32) {t n0 e : Nat} (htn : t ≤ n0) (hne : n0 + 2 ≤ e) (hec : e + 1 < pl_xc T) (k2 : pl_xK T n0 = 2) (k12 : pl_xK T (n0 + 1) = 12) (k19 : pl_xK T (e + 1) = 19) (tc1 : pl_tc T t n0) (tc2 : pl_tc T (n0 + 1) (e + 1)) :
    (∀ w pt, pl_bad T E (pl_cu (pl_xK T) t n0) w pt → ∃ σ3, prf_Y_tokensHold σ s (nI t) = some (0, pl_wC T σ3 w pt) ∧ pl_fr pl_FL pl_GL σ σ3) ∧
    ((∀ c, c ∈ pl_cu (pl_xK T) t n0 → pl_yes T E c) →
      (∀ w, (∀ g, prf_Y_callHolds (pr_sA σ 24 g) s (nI n0) = some (0, pl_wC T (pr_sA σ 24 g) w n0)) → ∃ σ3, prf_Y_tokensHold σ s (nI t) = some (0, pl_wC T σ3 w n0) ∧ pl_fr pl_FL pl_GL σ σ3) ∧
      (∀ j : Nat, (∀ g, prf_Y_callHolds (pr_sA σ 24 g) s (nI n0) = some (1, pr_sI (pr_sA σ 24 g) 6 13 (nI j))) →
        (∀ w pt, pl_bad T E (pl_cu (pl_xK T) (n0 + 1) (e + 1)) w pt → ∃ σ3, prf_Y_tokensHold σ s (nI t) = some (0, pl_wC T σ3 w pt) ∧ pl_fr pl_FL pl_GL σ σ3) ∧
        ((∀ c, c ∈ pl_cu (pl_xK T) (n0 + 1) (e + 1) → pl_yes T E c) → ∃ σ', prf_Y_tokensHold σ s (nI t) = some (1, σ') ∧ pl_u24 T E (pl_cu (pl_xK T) t n0 ++ pl_cu (pl_xK T) (n0 + 1) (e + 1)) (pr_sI σ 6 13 (nI j)) σ'))) := by
  have c8 := pl_c8 h.1
  obtain ⟨f, hf⟩ : ∃ f, f + 1 + (n0 - t) = pr_FU ∧ f = 99999 - (n0 - t) := ⟨99999 - (n0 - t), by have : pr_FU = 100000 := rfl; omega, rfl⟩
  obtain ⟨f2, hf2⟩ : ∃ f2, f2 + 1 + (e - n0) = f := ⟨f - 1 - (e - n0), by omega⟩
  obtain ⟨a1, a2⟩ := pl_tokC (m := m) (rep := rep) (A := A) (E := E) (τ := τ) s n0 (by omega) (n0 - t) t f σ (by omega) h tc1
  have hth : prf_Y_tokensHold σ s (nI t) = prf_Y_tokensHold_5 (f + 1 + (n0 - t)) σ s 1 (nI t) := by unfold prf_Y_tokensHold; rw [hf.1]
  rw [hth]
  refine ⟨fun w pt hb => ?_, fun hall => ?_⟩
  · obtain ⟨g, hg⟩ := a2 w pt hb
    exact ⟨_, hg, pl_sA_fr rfl⟩
  · obtain ⟨σ1, e1, u1⟩ := a1 hall
    obtain ⟨⟨g, eg⟩, _⟩ := id u1
    have h1 : pl_ls T m rep A E σ1 τ := by rw [eg]; exact pl_ls_24 h g
    have hcnt : prf_T_count σ1 = some (nI (pl_xc T)) := by unfold prf_T_count; rw [h1.1.2.2.2.1.1]
    have hK := pl_K35 h1.1 (show n0 < pl_xc T by omega)
    have head : prf_Y_tokensHold_5 (f + 1) σ1 s 1 (nI n0) = (prf_Y_callHolds σ1 s (nI n0)).bind fun r36 => prf_Y_tokensHold_5 f r36.2 s r36.1 (nI (n0 + 1)) := by
      rw [prf_Y_tokensHold_5, hcnt, pl_sb, if_neg (nI_ge (by omega) (by omega)), if_neg pl_10, pl_kindG h1.1 (by omega), pl_sb, if_neg (pl_cn hK (j := 19) (v := 19) (by decide) rfl (by omega)), if_neg (pl_cn hK (j := 14) (v := 14) (by decide) rfl (by omega)), nI_1, pl_kindG h1.1 (by omega), pl_sb, k2, k12, if_pos (by rfl), if_pos (by rfl)]
    rw [e1, head]
    refine ⟨fun w hw => ?_, fun j hj => ?_⟩
    · rw [eg, hw g, pl_sb]
      have wtt : pl_tt T (pl_wC T (pr_sA σ 24 g) w n0) τ := pl_tt_fr h.1 ((pl_sA_fr (F := pl_FL) (G := pl_GL) (o := 24) rfl).tr pl_wC_fr) (pl_fr.rf (F := pl_FM) (G := pl_GM)) ⟨rfl, rfl, rfl, rfl, rfl, rfl⟩ ⟨rfl, rfl, rfl, rfl, rfl, rfl⟩
      obtain ⟨f3, hf3⟩ : ∃ f3, f3 + 1 = f := ⟨f - 1, by omega⟩
      rw [← hf3, pl_tok0 wtt]
      exact ⟨_, rfl, pl_sA_fr rfl⟩
    · have h2 : pl_ls T m rep A E (pr_sI (pr_sA σ 24 g) 6 13 (nI j)) τ := pl_ls_13 (pl_ls_24 h g) _
      obtain ⟨b1, b2⟩ := pl_tokC (m := m) (rep := rep) (A := A) (E := E) (τ := τ) s (e + 1) hec (e - n0) (n0 + 1) f2 _ (by omega) h2 tc2
      rw [eg, hj g, pl_sb]
      show (∀ w pt, _ → ∃ σ3, prf_Y_tokensHold_5 f (pr_sI (pr_sA σ 24 g) 6 13 (nI j)) s 1 (nI (n0 + 1)) = _ ∧ _) ∧ (_ → ∃ σ', prf_Y_tokensHold_5 f (pr_sI (pr_sA σ 24 g) 6 13 (nI j)) s 1 (nI (n0 + 1)) = _ ∧ _)
      rw [← hf2]
      refine ⟨fun w pt hb => ?_, fun hall2 => ?_⟩
      · obtain ⟨g2, hg2⟩ := b2 w pt hb
        exact ⟨_, hg2, ((pl_sA_fr (F := pl_FL) (G := pl_GL) (o := 24) rfl).tr (pl_sI_fr (o := 6) (k := 13) rfl)).tr (pl_sA_fr (o := 24) rfl)⟩
      · obtain ⟨σ', w1, w2⟩ := b1 hall2
        refine ⟨σ', ?_, ?_⟩
        · obtain ⟨⟨g2, eg2⟩, _⟩ := id w2
          have tt : pl_tt T σ' τ := by rw [eg2]; exact (pl_ls_24 h2 g2).1
          have hcnt : prf_T_count σ' = some (nI (pl_xc T)) := by unfold prf_T_count; rw [tt.2.2.2.1.1]
          rw [w1, prf_Y_tokensHold_5, hcnt, pl_sb, if_neg (nI_ge (by omega) (by omega)), if_neg pl_10, pl_kindG tt hec, pl_sb, if_pos (show nI (pl_xK T (e + 1)) = 19 by rw [k19]; rfl)]
        · have u1' : pl_u24 T E (pl_cu (pl_xK T) t n0) (pr_sI σ 6 13 (nI j)) (pr_sI (pr_sA σ 24 g) 6 13 (nI j)) := by
            rw [eg] at u1
            exact ⟨⟨g, rfl⟩, u1.2.1, u1.2.2⟩
          exact pl_u24_tr u1' w2 (fun c d hc hd hcd => by
            have := pl_cu_mem _ _ c hc
            have := pl_cu_mem _ _ d hd
            omega)
/-- what the class says of the call itself -/
theorem pl_callC {T : pl_Tx} {m : Nat} {rep : Nat → Nat} {Ps : List pl_En} {σ τ : pr_St} (h : pl_bs T m rep Ps σ τ) {d fi s t n0 c : Nat} {r : pl_S} {S : List pl_S} (ho : pl_opn d σ) (h46 : σ.2.1 46 d = nI fi) (hfi : fi < Ps.length) (hs : s < pl_tS Ps) (hst : pl_sts σ s (r :: S)) (hrt : r.2.1 = t) (hrc : r.2.2.2.1 = c) (hc : c < 2 ^ 31) (hn0 : n0 < pl_xc T) (k2 : pl_xK T n0 = 2) (htn : t ≤ n0) :
    (pl_mn T Ps fi n0 ∧ prf_Y_callHolds σ (nI s) (nI n0) = some (0, pl_wC T σ 4 n0)) ∨ ∃ j e, pl_mf T Ps fi n0 j ∧ Ps[j]? = some e ∧ prf_Y_callHolds σ (nI s) (nI n0) = if c = e.2.1 then (if n0 = t then some (1, pr_sI σ 6 13 (nI j)) else if pl_eR e = 0 then some (0, pl_wC T σ 6 n0) else some (1, pr_sI σ 6 13 (nI j))) else some (0, pl_wC T σ 5 n0) := by
  have h7 := h.2.2.2.2.2.2.1
  have h889 := h.2.2.2.2.2.1
  have h11 := h.2.2.2.2.2.2.2.2.2.2.1
  have h5 := h.2.2.2.2.2.2.2.2.2.1
  have c8 := pl_c8 h.1
  obtain ⟨_, g2, g3, _⟩ := pl_rec (σ := σ) h11 h7 hs hst
  rw [hrt] at g2
  rw [hrc] at g3
  have hF : pr_FU = 100000 := rfl
  have em : prf_Y_functionMeant σ (nI n0) = prf_Y_functionMeant_7 pr_FU σ (nI n0) (nI fi + (-1)) := by
    unfold prf_Y_functionMeant
    rw [(pl_opC ho).2, h46, pl_sb, Int32.sub_eq_add_neg]
  have ew : ∀ w, prf_Y_isWrong σ w (nI n0) = some (0, pl_wC T σ w n0) := fun w => pl_isW h.1 hn0 w
  rcases pl_mfC h hn0 k2 fi fi pr_FU (Nat.le_refl _) (by omega) (by rw [hF]; omega) (fun i e h1 h2 _ => by omega) with ⟨j, hmf, ej⟩ | ⟨hmn, ej⟩
  · refine Or.inr ?_
    obtain ⟨hj, ⟨e, he, hsn⟩, _⟩ := id hmf
    refine ⟨j, e, hmf, he, ?_⟩
    obtain ⟨sf, qf, gf⟩ := pl_fn_get h he
    obtain ⟨z1, z2, z3, z4, z5, z6⟩ := pl_bd_fn h gf
    have r13 : σ.2.1 13 j = nI e.2.1 := gf.2.2.1.1.2.1
    have r16 : σ.2.1 16 j = pl_eR e := gf.2.2.1.1.2.2.2.2
    have isF : prf_G_isFunction σ (nI j) = some 1 := by
      unfold prf_G_isFunction
      rw [if_neg (nI_pos (by omega)), h5, if_neg (nI_ge (by omega) (by omega))]
    have ep : prf_G_parametersOf σ (nI j) = some (nI e.2.1) := by
      unfold prf_G_parametersOf
      rw [isF, pl_sb, if_neg pl_10, pl_ck (by omega) (by omega), nI_clamp (by omega), r13]
    have er : prf_G_returns σ (nI j) = some (if pl_eR e = 0 then 0 else 1) := by
      unfold prf_G_returns
      rw [isF, pl_sb, if_neg pl_10, pl_ck (by omega) (by omega), nI_clamp (by omega), r16]
      by_cases q : pl_eR e = 0
      · rw [if_pos q, if_pos q]
      · rw [if_neg q, if_neg q]
    unfold prf_Y_callHolds
    rw [em, ej, pl_sb, if_neg (pl_nIm1 (by omega)), g3, pl_sb, ep, pl_sb, g2, pl_sb, er, pl_sb, ew 5, pl_sb, ew 6, pl_sb]
    by_cases q1 : c = e.2.1
    · rw [if_pos (show nI c = nI e.2.1 by rw [q1]), if_pos q1]
      by_cases q2 : n0 = t
      · rw [if_pos (show nI n0 = nI t by rw [q2]), if_pos q2, if_pos rfl]
      · rw [if_neg (show ¬ nI n0 = nI t from fun z => q2 ((nI_eq (by omega) (by omega)).mp z)), if_neg q2, if_neg pl_10]
        by_cases q3 : pl_eR e = 0
        · rw [if_pos q3, if_pos q3, if_pos rfl]
          rfl
        · rw [if_neg q3, if_neg q3, if_neg pl_10]
    · rw [if_neg (show ¬ nI c = nI e.2.1 from fun z => q1 ((nI_eq (by omega) (by omega)).mp z)), if_neg q1]
      rfl
  · refine Or.inl ⟨hmn, ?_⟩
    unfold prf_Y_callHolds
    rw [em, ej, pl_sb, if_pos rfl, ew 4, pl_sb]
    rfl
