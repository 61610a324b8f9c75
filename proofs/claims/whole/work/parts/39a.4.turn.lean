/-! THE LAYOUT: what comes into scope; a turn of the class -/
theorem pl_scp_eq {T : pl_Tx} {m : Nat} {rep : Nat → Nat} {σ τ σ' τ' : pr_St} {V : List (Nat × Bool)} (h : pl_scp T m rep σ τ V) (c1 : σ'.1 5 4 = nI (pl_cnt false V)) (c2 : σ'.1 5 5 = nI (pl_cnt true V)) (x1 : τ'.1 0 42 = nI V.length) (x2 : τ'.1 0 45 = nI (pl_cnt false V)) (x3 : τ'.1 0 46 = nI (pl_cnt true V)) (hr : ∀ r z, 39 ≤ r → r ≤ 41 → z < V.length → σ'.2.1 r z = σ.2.1 r z) (ht : ∀ r z, 29 ≤ r → r ≤ 31 → z < V.length → τ'.2.1 r z = τ.2.1 r z) : pl_scp T m rep σ' τ' V := by
  obtain ⟨_, _, _, _, _, h6, h7, h8⟩ := h
  refine ⟨c1, c2, x1, x2, x3, h6, h7, fun v e hv => ?_⟩
  have hl : v < V.length := by
    by_cases q : v < V.length
    · exact q
    · rw [List.getElem?_eq_none (by omega)] at hv; cases hv
  rw [hr 39 v (by decide) (by decide) hl, hr 40 v (by decide) (by decide) hl, hr 41 v (by decide) (by decide) hl, ht 29 v (by decide) (by decide) hl, ht 30 v (by decide) (by decide) hl, ht 31 v (by decide) (by decide) hl]
  exact h8 v e hv
/-- rows alike below V's own, a shorter list of variables -/
theorem pl_scp_cut {T : pl_Tx} {m : Nat} {rep : Nat → Nat} {σ τ : pr_St} {V X : List (Nat × Bool)} (h : pl_scp T m rep σ τ (V ++ X)) (σ' τ' : pr_St) (c1 : σ'.1 5 4 = nI (pl_cnt false V)) (c2 : σ'.1 5 5 = nI (pl_cnt true V)) (x1 : τ'.1 0 42 = nI V.length) (x2 : τ'.1 0 45 = nI (pl_cnt false V)) (x3 : τ'.1 0 46 = nI (pl_cnt true V)) (hr : ∀ r z, 39 ≤ r → r ≤ 41 → z < V.length → σ'.2.1 r z = σ.2.1 r z) (ht : ∀ r z, 29 ≤ r → r ≤ 31 → z < V.length → τ'.2.1 r z = τ.2.1 r z) : pl_scp T m rep σ' τ' V := by
  obtain ⟨_, _, _, _, _, h6, h7, h8⟩ := h
  rw [pl_cnt_app] at h6 h7
  refine ⟨c1, c2, x1, x2, x3, by omega, by omega, fun v e hv => ?_⟩
  have hl : v < V.length := by
    by_cases q : v < V.length
    · exact q
    · rw [List.getElem?_eq_none (by omega)] at hv; cases hv
  have := h8 v e (by rw [List.getElem?_append_left hl]; exact hv)
  rw [List.take_append_of_le_length (by omega)] at this
  rw [hr 39 v (by decide) (by decide) hl, hr 40 v (by decide) (by decide) hl, hr 41 v (by decide) (by decide) hl, ht 29 v (by decide) (by decide) hl, ht 30 v (by decide) (by decide) hl, ht 31 v (by decide) (by decide) hl]
  exact this
/-- one more variable -/
theorem pl_scp_ext {T : pl_Tx} {m : Nat} {rep : Nat → Nat} {σ τ σ' τ' : pr_St} {V : List (Nat × Bool)} (h : pl_scp T m rep σ τ V) {t id : Nat} {b : Bool} (c1 : σ'.1 5 4 = nI (pl_cnt false (V ++ [(t, b)]))) (c2 : σ'.1 5 5 = nI (pl_cnt true (V ++ [(t, b)]))) (x1 : τ'.1 0 42 = nI (V.length + 1)) (x2 : τ'.1 0 45 = nI (pl_cnt false (V ++ [(t, b)]))) (x3 : τ'.1 0 46 = nI (pl_cnt true (V ++ [(t, b)]))) (b1 : pl_cnt false (V ++ [(t, b)]) ≤ 12) (b2 : pl_cnt true (V ++ [(t, b)]) ≤ 6) (r39 : σ'.2.1 39 = upd (σ.2.1 39) V.length (nI t)) (r40 : σ'.2.1 40 = upd (σ.2.1 40) V.length (nI (pl_cnt b V))) (r41 : σ'.2.1 41 = upd (σ.2.1 41) V.length (pl_bI b)) (r29 : τ'.2.1 29 = upd (τ.2.1 29) V.length (nI id)) (r30 : τ'.2.1 30 = upd (τ.2.1 30) V.length (nI (pl_cnt b V))) (r31 : τ'.2.1 31 = upd (τ.2.1 31) V.length (pl_rm T (t, b))) (hk : pl_xK T t = 2) (ht : t < pl_xc T) (hid : id < m) (hsn : pl_sn T (rep id) t) (hb : b = true → 1 ≤ pl_vt T (t + 2) ∧ pl_vt T (t + 2) ≤ 64) : pl_scp T m rep σ' τ' (V ++ [(t, b)]) := by
  obtain ⟨_, _, _, _, _, _, _, h8⟩ := h
  refine ⟨c1, c2, by rw [x1, List.length_append]; rfl, x2, x3, b1, b2, fun v e hv => ?_⟩
  rw [r39, r40, r41, r29, r30, r31]
  by_cases hl : v < V.length
  · rw [List.getElem?_append_left hl] at hv
    rw [List.take_append_of_le_length (by omega), pk_un (by omega), pk_un (by omega), pk_un (by omega), pk_un (by omega), pk_un (by omega), pk_un (by omega)]
    exact h8 v e hv
  · rw [List.getElem?_append_right (by omega)] at hv
    have hv0 : v = V.length := by
      by_cases q : v = V.length
      · exact q
      · rw [List.getElem?_eq_none (by rw [List.length_singleton]; omega)] at hv; cases hv
    subst hv0
    rw [Nat.sub_self] at hv
    have e0 : (t, b) = e := Option.some.inj hv
    subst e0
    rw [List.take_append_of_le_length (Nat.le_refl _), List.take_length, pk_us, pk_us, pk_us, pk_us, pk_us, pk_us]
    exact ⟨rfl, rfl, rfl, ⟨id, rfl, hid, hsn⟩, rfl, rfl, hk, ht, hb⟩
/-- the class adds a variable -/
theorem pl_adC {T : pl_Tx} {m : Nat} {rep : Nat → Nat} {σ τ : pr_St} {V : List (Nat × Bool)} (h : pl_scp T m rep σ τ V) (t : Nat) (b : Bool) (hn : b = false → pl_cnt false V < 12) (ha : b = true → pl_cnt true V < 6) : ∃ σ', prf_S_add σ (nI t) (pl_bI b) = some σ' ∧ σ'.1 5 4 = nI (pl_cnt false (V ++ [(t, b)])) ∧ σ'.1 5 5 = nI (pl_cnt true (V ++ [(t, b)])) ∧ σ'.2.1 39 = upd (σ.2.1 39) V.length (nI t) ∧ σ'.2.1 40 = upd (σ.2.1 40) V.length (nI (pl_cnt b V)) ∧ σ'.2.1 41 = upd (σ.2.1 41) V.length (pl_bI b) ∧ (∀ r, ¬ (39 ≤ r ∧ r ≤ 41) → σ'.2.1 r = σ.2.1 r) ∧ (∀ o k, ¬ o = 5 → σ'.1 o k = σ.1 o k) ∧ σ'.2.2 = σ.2.2 := by
  obtain ⟨h4, h5, _, _, _, h6, h7, _⟩ := h
  have hl := pl_cnt_len V
  unfold prf_S_add
  have e18 : ¬ nI V.length < 0 := nI_pos (by omega)
  cases b with
  | false =>
    have := hn rfl
    rw [h4, h5, nI_add, hl, if_neg e18, if_pos (show nI V.length < 18 from nI_lt (b := 18) (by omega) (by omega)), pl_ck (by omega) (by omega), pl_ck (by omega) (by omega), pl_ck (by omega) (by omega), nI_clamp (by omega), show pl_bI false = 0 from rfl, pl_z0, if_pos rfl]
    refine ⟨_, rfl, ?_, ?_, rfl, rfl, rfl, ?_, ?_, rfl⟩
    · rw [pr_sI_same, nI_1, pl_cnt_app]; rfl
    · show (pr_sI _ 5 4 _).1 5 5 = _
      rw [pr_sI_ne (by omega), pl_cnt_app]
      exact h5
    · intro r hr
      show (pr_sA (pr_sA (pr_sA σ 39 _) 41 _) 40 _).2.1 r = _
      rw [pl_sA_ne (by omega), pl_sA_ne (by omega), pl_sA_ne (by omega)]
    · intro o k ho
      rw [pr_sI_ne (by omega)]
      rfl
  | true =>
    have := ha rfl
    rw [h4, h5, nI_add, hl, if_neg e18, if_pos (show nI V.length < 18 from nI_lt (b := 18) (by omega) (by omega)), pl_ck (by omega) (by omega), pl_ck (by omega) (by omega), show pl_bI true = 1 from rfl, pl_z1, if_neg pl_10, pl_ck (by omega) (by omega), nI_clamp (by omega)]
    refine ⟨_, rfl, ?_, ?_, rfl, rfl, rfl, ?_, ?_, rfl⟩
    · show (pr_sI _ 5 5 _).1 5 4 = _
      rw [pr_sI_ne (by omega), pl_cnt_app]
      exact h4
    · rw [pr_sI_same, nI_1, pl_cnt_app]; rfl
    · intro r hr
      show (pr_sA (pr_sA (pr_sA σ 39 _) 41 _) 40 _).2.1 r = _
      rw [pl_sA_ne (by omega), pl_sA_ne (by omega), pl_sA_ne (by omega)]
    · intro o k ho
      rw [pr_sI_ne (by omega)]
      rfl
/-- a statement's rows are looked up -/
theorem pl_rec {σ : pr_St} {n s : Nat} {r : pl_S} {S : List pl_S} (h11 : σ.1 2 11 = nI n) (hn : n ≤ 2000) (hs : s < n) (h : pl_sts σ s (r :: S)) : prf_G_kindOf σ (nI s) = some (nI r.1) ∧ prf_G_firstTokenOf σ (nI s) = some (nI r.2.1) ∧ prf_G_detailOf σ (nI s) = some (nI r.2.2.2.1) ∧ prf_G_behind σ (nI s) = some (nI r.2.2.2.2.1) := by
  obtain ⟨⟨a1, a2, a3, a4, a5⟩, _⟩ := h
  unfold prf_G_kindOf prf_G_firstTokenOf prf_G_detailOf prf_G_behind prf_G_isStatement
  rw [h11, if_neg (nI_pos (by omega)), if_neg (nI_ge hs (by omega)), pl_sb, pl_sb, pl_sb, pl_sb, if_neg pl_10, if_neg pl_10, if_neg pl_10, if_neg pl_10, pl_ck (by omega) (by omega), pl_ck (by omega) (by omega), pl_ck (by omega) (by omega), pl_ck (by omega) (by omega), nI_clamp (by omega), a1, a2, a4, a5]
  exact ⟨rfl, rfl, rfl, rfl⟩
/-- the BLOCK that is open -/
def pl_opn (d : Nat) (σ : pr_St) : Prop := σ.1 6 9 = nI (d + 1) ∧ σ.1 6 10 = nI d ∧ d < 250
theorem pl_isO {d : Nat} {σ : pr_St} (h : pl_opn d σ) : prf_Y_isOpen σ = some 1 := by
  obtain ⟨h1, h2, h3⟩ := h
  unfold prf_Y_isOpen
  rw [h1, h2, if_neg (nI_pos (by omega)), if_neg (nI_ge (by omega) (by omega)), if_neg (show ¬ (250 : Int32) ≤ nI d from nI_ge (b := 250) h3 (by omega))]
theorem pl_opC {d : Nat} {σ : pr_St} (h : pl_opn d σ) : prf_Y_parent σ = some (σ.2.1 45 d) ∧ prf_Y_function σ = some (σ.2.1 46 d) := by
  unfold prf_Y_parent prf_Y_function
  rw [pl_isO h, pl_sb, pl_sb, if_neg pl_10, if_neg pl_10, h.2.1, pl_ck h.2.2 (by omega), nI_clamp (by have := h.2.2; omega)]
  exact ⟨rfl, pl_ck h.2.2 (by omega)⟩
/-- the state in which the class takes a statement -/
def pl_s1 (σ : pr_St) (d e : Nat) : pr_St := pr_sA (pr_sI σ 6 10 (nI d)) 42 (upd (σ.2.1 42) d (nI e))
theorem pl_turn {T : pl_Tx} {m : Nat} {rep : Nat → Nat} {Ps : List pl_En} {σ τ : pr_St} (h : pl_bs T m rep Ps σ τ) {d s send x : Nat} {r : pl_S} {S : List pl_S} (h9 : σ.1 6 9 = nI (d + 1)) (hd : d < 250) (h42 : σ.2.1 42 d = nI s) (h43 : σ.2.1 43 d = nI send) (hs : s < send) (hse : send ≤ pl_tS Ps) (hst : pl_sts σ s (r :: S)) (hx : x < 1000) (g : Nat) : prf_Y_layProgram_65 (g + 1) σ (nI x) = (prf_Y_holds (pl_s1 σ d r.2.2.2.2.1) (nI s)).bind fun r26 => if r26.1 = 0 then some (0, r26.2) else (prf_Y_layStatement r26.2 (nI s)).bind fun r28 => prf_Y_layProgram_65 g r28 (nI (x + 1)) := by
  have h7 := h.2.2.2.2.2.2.1
  have h11 := h.2.2.2.2.2.2.2.2.2.2.1
  have hop : pl_opn d (pr_sI σ 6 10 (nI d)) := ⟨h9, pr_sI_same, hd⟩
  have hbh : prf_G_behind (pr_sI σ 6 10 (nI d)) (nI s) = some (nI r.2.2.2.2.1) := (pl_rec (σ := pr_sI σ 6 10 (nI d)) h11 h7 (by omega) (pl_sts_eq (σ := σ) (σ' := pr_sI σ 6 10 (nI d)) (r :: S) s (fun _ _ _ _ _ _ => rfl) hst)).2.2.2
  rw [prf_Y_layProgram_65, if_neg (show ¬ (1000 : Int32) ≤ nI x from nI_ge (b := 1000) hx (by omega)), h9, if_neg (show ¬ nI (d + 1) ≤ 0 from fun q => nI_ge (a := 0) (b := d + 1) (by omega) (by omega) q), pl_sub1]
  have etk : prf_Y_takeStatement (pr_sI σ 6 10 (nI d)) = some (nI s, pl_s1 σ d r.2.2.2.2.1) := by
    unfold prf_Y_takeStatement
    have e42 : (pr_sI σ 6 10 (nI d)).2.1 42 d = nI s := h42
    have e43 : (pr_sI σ 6 10 (nI d)).2.1 43 d = nI send := h43
    rw [pl_isO hop, pl_sb, if_neg pl_10, hop.2.1, pl_ck hd (by omega), pl_ck hd (by omega), nI_clamp (by omega), e42, e43, if_pos (nI_lt hs (by omega)), pl_ck hd (by omega), hbh, pl_sb, pl_ck hd (by omega)]
    rfl
  rw [etk, pl_sb, if_neg (pl_nIm1 (by omega)), nI_1]
