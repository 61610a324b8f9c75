/-! THE LAYOUT: var -/
/-- a name is new in its BLOCK -/
theorem pl_newX {T : pl_Tx} {m : Nat} {rep : Nat → Nat} {A E : List (Nat × Bool)} {σ τ : pr_St} (h : pl_ls T m rep A E σ τ) {ii bb nb t x id : Nat} (hbb : A.length ≤ bb) (h32 : ∀ v, v < (A ++ E).length → ∃ j, τ.2.1 32 v = nI j ∧ j ≤ nb ∧ (j = ii ↔ bb ≤ v)) (hnb : nb ≤ 600) (hii : ii ≤ nb) (hx : x < 13000) (h14 : τ.2.1 14 x = nI (pl_xP T t)) (h15 : τ.2.1 15 x = nI id) (hid : id < m) (hsn : pl_sn T (rep id) t) : ((∃ v e, bb ≤ v ∧ (A ++ E)[v]? = some e ∧ pl_sn T e.1 t) → prf_X_isNew τ (nI x) (nI ii) = some (0, pl_wX T τ 2 t)) ∧ ((∀ v e, bb ≤ v → (A ++ E)[v]? = some e → ¬ pl_sn T e.1 t) → prf_X_isNew τ (nI x) (nI ii) = some (1, τ)) := by
  obtain ⟨_, _, hs, hr, hm, _, _, h43, h47⟩ := h
  have hV := pl_scp_len hs
  have h42 := hs.2.2.1
  have hF : pr_FU = 100000 := rfl
  have main : ∀ r j f, j + r = (A ++ E).length → r + 1 ≤ f → ((∃ v e, j ≤ v ∧ bb ≤ v ∧ (A ++ E)[v]? = some e ∧ pl_sn T e.1 t) → prf_X_isNew_5 f τ (nI x) (nI ii) (nI j) = some (0, pl_wX T τ 2 t)) ∧ ((∀ v e, j ≤ v → bb ≤ v → (A ++ E)[v]? = some e → ¬ pl_sn T e.1 t) → prf_X_isNew_5 f τ (nI x) (nI ii) (nI j) = some (1, τ)) := by
    intro r
    induction r with
    | zero =>
      intro j f hj hf
      obtain ⟨f, rfl⟩ : ∃ z, f = z + 1 := ⟨f - 1, by omega⟩
      constructor
      · intro ⟨v, e, v1, _, v3, _⟩
        rw [List.getElem?_eq_none (by omega)] at v3
        cases v3
      · intro _
        rw [prf_X_isNew_5, h42, if_pos (nI_le (by omega) (by omega))]
    | succ r ih =>
      intro j f hj hf
      obtain ⟨f, rfl⟩ : ∃ z, f = z + 1 := ⟨f - 1, by omega⟩
      obtain ⟨e, he⟩ : ∃ e, (A ++ E)[j]? = some e := ⟨(A ++ E)[j], List.getElem?_eq_getElem (by omega)⟩
      obtain ⟨_, _, _, ⟨iv, r29, hiv, hsv⟩, _⟩ := hs.2.2.2.2.2.2.2 j e he
      obtain ⟨jj, r32, hjj, hiff⟩ := h32 j (by omega)
      obtain ⟨i1, i2⟩ := ih (j + 1) f (by omega) (by omega)
      have step : prf_X_isNew_5 (f + 1) τ (nI x) (nI ii) (nI j) = if nI jj = nI ii then (if nI iv = nI id then some (0, pl_wX T τ 2 t) else prf_X_isNew_5 f τ (nI x) (nI ii) (nI (j + 1))) else prf_X_isNew_5 f τ (nI x) (nI ii) (nI (j + 1)) := by
        rw [prf_X_isNew_5, h42, if_neg (nI_ge (by omega) (by omega)), pl_ck (by omega) (by omega), nI_clamp (by omega), r32, pl_ck (by omega) (by omega), pl_ck (by omega) (by omega), r29, nI_clamp (by omega), h15, pl_wrX h47 hx h14, pl_sb, nI_1]
        rfl
      rw [step]
      by_cases q : bb ≤ j
      · rw [if_pos (by rw [hiff.mpr q])]
        by_cases z : pl_sn T e.1 t
        · rw [if_pos (by rw [(pl_ids hr hiv hid hsv hsn).mpr z])]
          exact ⟨fun _ => rfl, fun hall => absurd z (hall j e (Nat.le_refl _) q he)⟩
        · rw [if_neg (fun w => z ((pl_ids hr hiv hid hsv hsn).mp ((nI_eq (by omega) (by omega)).mp w)))]
          refine ⟨fun ⟨v, y, v1, v2, v3, v4⟩ => i1 ⟨v, y, ?_, v2, v3, v4⟩, fun hall => i2 (fun v y v1 v2 v3 => hall v y (by omega) v2 v3)⟩
          by_cases w : v = j
          · subst w
            rw [he] at v3
            rw [← Option.some.inj v3] at v4
            exact absurd v4 z
          · omega
      · rw [if_neg (fun w => q (hiff.mp ((nI_eq (by omega) (by omega)).mp w)))]
        exact ⟨fun ⟨v, y, v1, v2, v3, v4⟩ => i1 ⟨v, y, by omega, v2, v3, v4⟩, fun hall => i2 (fun v y v1 v2 v3 => hall v y (by omega) v2 v3)⟩
  have el : (A ++ E).length = A.length + E.length := List.length_append
  obtain ⟨m1, m2⟩ := main E.length A.length pr_FU (by omega) (by rw [hF]; omega)
  unfold prf_X_isNew
  rw [h43]
  exact ⟨fun ⟨v, e, v1, v2, v3⟩ => m1 ⟨v, e, by omega, v1, v2, v3⟩, fun hall => m2 (fun v e _ v2 v3 => hall v e v2 v3)⟩
/-- a variable of the reference -/
def pl_gv (τ : pr_St) (n : Nat) (x1 x2 x3 x4 : Int32) : pr_St := pr_sI (pr_sA (pr_sA (pr_sA (pr_sA τ 29 (upd (τ.2.1 29) n x1)) 30 (upd (τ.2.1 30) n x2)) 31 (upd (τ.2.1 31) n x3)) 32 (upd (τ.2.1 32) n x4)) 0 42 (nI (n + 1))
theorem pl_giveX {τ : pr_St} {n : Nat} (h : τ.1 0 42 = nI n) (hn : n < 40) (x1 x2 x3 x4 : Int32) : prf_X_give τ x1 x2 x3 x4 = some (pl_gv τ n x1 x2 x3 x4) := by
  unfold prf_X_give pl_gv
  rw [h, pl_ck hn (by omega), pl_ck hn (by omega), pl_ck hn (by omega), pl_ck hn (by omega), nI_clamp (by omega), nI_1]
/-- the class' first look at a var -/
theorem pl_varC {T : pl_Tx} {m : Nat} {rep : Nat → Nat} {Ps : List pl_En} {W : pl_Wt} {A E : List (Nat × Bool)} {d p ii nb bb fi send b bF e t : Nat} {par : Int32} {σ τ : pr_St} (hZ : pl_Z T m rep Ps W A E d p ii nb bb fi send b bF par σ τ) (hc : t + 3 < pl_xc T) (k2 : pl_xK T (t + 1) = 2) : ((∃ v e, bb ≤ v ∧ (A ++ E)[v]? = some e ∧ pl_sn T e.1 (t + 1)) → prf_Y_varHolds (pl_s2 σ d e A) (nI t) = some (0, pl_wC T (pl_s2 σ d e A) 2 (t + 1))) ∧ ((∀ v e, bb ≤ v → (A ++ E)[v]? = some e → ¬ pl_sn T e.1 (t + 1)) → prf_Y_varHolds (pl_s2 σ d e A) (nI t) = if pl_xK T (t + 2) = 16 then (if nI (pl_vt T (t + 3)) < 1 then some (0, pl_wC T (pl_s2 σ d e A) 9 (t + 3)) else if nI (pl_vt T (t + 3)) ≤ 64 then some (1, pl_s2 σ d e A) else some (0, pl_wC T (pl_s2 σ d e A) 9 (t + 3))) else some (1, pl_s2 σ d e A)) := by
  have hls : pl_ls T m rep A E (pl_s2 σ d e A) τ := pl_Z_ls hZ pl_fr.rf (fun _ _ _ => rfl) (fun _ _ => rfl)
  obtain ⟨z1, z2, ⟨z31, z32⟩, ⟨z41, z42, z43, z44, z45⟩, ⟨z51, z52, z53, z54, z55⟩, ⟨z61, z62, z63, z64, z65, z66⟩, z7⟩ := hZ
  have ho : pl_opn d (pl_s2 σ d e A) := by
    refine ⟨?_, ?_, by omega⟩
    · unfold pl_s2 pl_s1
      rw [pr_sI_ne (by omega), pr_sI_ne (by omega), pr_sI_ne (by omega)]
      show (pr_sI σ 6 10 (nI d)).1 6 9 = _
      rw [pr_sI_ne (by omega)]; exact z44
    · unfold pl_s2 pl_s1
      rw [pr_sI_ne (by omega), pr_sI_ne (by omega), pr_sI_ne (by omega)]
      show (pr_sI σ 6 10 (nI d)).1 6 10 = _
      rw [pr_sI_same]
  have r2 : ∀ a, ¬ a = 42 → (pl_s2 σ d e A).2.1 a = σ.2.1 a := by
    intro a ha
    show (pl_s1 σ d e).2.1 a = _
    unfold pl_s1
    rw [pl_sA_ne ha]; rfl
  have c2 : (pl_s2 σ d e A).1 4 14 = nI p := by
    unfold pl_s2 pl_s1
    rw [pr_sI_ne (by omega), pr_sI_ne (by omega), pr_sI_ne (by omega)]
    show (pr_sI σ 6 10 (nI d)).1 4 14 = _
    rw [pr_sI_ne (by omega)]; exact z41
  have hpf : pl_pf Ps.length W A E p bb fi b bF par (pl_s2 σ d e A) := by
    have := pl_pf_eq (X := []) (W' := W) (p' := p) (σ' := pl_s2 σ d e A) z7 (fun q z h1 h2 _ => by rw [r2 q (by omega)]) (fun _ _ => rfl) (Nat.le_refl _)
    rw [List.append_nil] at this
    exact this
  have hbb := (pl_forC hpf ho (by rw [r2 45 (by decide)]; exact z52) c2 z43).2
  have hfind := pl_find hls.1 hls.2.1 hls.2.2.1 (t := t + 1) (base := bb) (by omega) k2 z65
  have hK := pl_K35 hls.1 (show t + 2 < pl_xc T by omega)
  have hl18 := pl_scp_len z2
  have ew : ∀ w u, u < pl_xc T → prf_Y_isWrong (pl_s2 σ d e A) w (nI u) = some (0, pl_wC T (pl_s2 σ d e A) w u) := fun w u hu => pl_isW hls.1 hu w
  have head : prf_Y_varHolds (pl_s2 σ d e A) (nI t) = (prf_S_find (pl_s2 σ d e A) (nI (t + 1)) (nI bb)).bind fun r16 => if r16 = (-1) then (if pl_xK T (t + 2) = 16 then (if nI (pl_vt T (t + 3)) < 1 then some (0, pl_wC T (pl_s2 σ d e A) 9 (t + 3)) else if nI (pl_vt T (t + 3)) ≤ 64 then some (1, pl_s2 σ d e A) else some (0, pl_wC T (pl_s2 σ d e A) 9 (t + 3))) else some (1, pl_s2 σ d e A)) else some (0, pl_wC T (pl_s2 σ d e A) 2 (t + 1)) := by
    have n3 : nI t + 3 = nI (t + 3) := nI_add t 3
    unfold prf_Y_varHolds
    rw [hbb, pl_sb, nI_1, pl_n2, n3, pl_kindG hls.1 (by omega), pl_valG hls.1 hc]
    simp only [pl_sb, ew 9 (t + 3) hc, ew 2 (t + 1) (by omega)]
    by_cases q : pl_xK T (t + 2) = 16
    · rw [if_pos (show nI (pl_xK T (t + 2)) = 16 by rw [q]; rfl), if_pos q]
      rfl
    · rw [if_neg (pl_cn hK (j := 16) (v := 16) (by decide) rfl q), if_neg q]
      rfl
  rw [head]
  rcases hfind with ⟨v, y, ⟨v1, v2, v3, v4⟩, ef⟩ | ⟨hall, ef⟩
  · have hv : v < (A ++ E).length := by
      by_cases q : v < (A ++ E).length
      · exact q
      · rw [List.getElem?_eq_none (by omega)] at v2; cases v2
    rw [ef, pl_sb, if_neg (pl_nIm1 (by omega))]
    exact ⟨fun _ => rfl, fun hn => absurd v3 (hn v y v1 v2)⟩
  · rw [ef, pl_sb, if_pos rfl]
    exact ⟨fun ⟨v, y, v1, v2, v3⟩ => absurd v3 (hall v y v1 v2), fun _ => rfl⟩
