/-! THE PARSER: the token that is read now, taking it -/
/-- the tokens as both sides have them while the text is parsed (c of them) -/
def pl_tk (B : Nat → Nat) (n c : Nat) (K P L : Nat → Nat) (σ τ : pr_St) : Prop := n ≤ 8000 ∧ c ≤ n + 1 ∧ pl_TX n B σ τ ∧ pl_TT B c K P L σ τ ∧ pl_TW n c K P L ∧ pl_TF n B c K P L
/-- both sides read token a -/
def pl_at (a : Nat) (σ τ : pr_St) : Prop := σ.1 3 2 = nI a ∧ τ.1 0 8 = nI a
theorem pl_kind {B : Nat → Nat} {n c : Nat} {K P L : Nat → Nat} {σ τ : pr_St} (h : pl_tk B n c K P L σ τ) {t : Nat} (ht : t < c) : prf_T_kindAt σ (nI t) = some (nI (K t)) := by
  obtain ⟨h1, h2, h3, h4, h5⟩ := h
  unfold prf_T_kindAt
  rw [if_neg (nI_pos (by omega)), h4.1, if_neg (nI_ge ht (by omega)), pl_ck (by omega) (by omega), nI_clamp (by omega), (h4.2.2 t ht).2.1]
theorem pl_kindBig {B : Nat → Nat} {n c : Nat} {K P L : Nat → Nat} {σ τ : pr_St} (h : pl_tk B n c K P L σ τ) {t : Nat} (ht : c ≤ t) (hb : t < 2 ^ 30) : prf_T_kindAt σ (nI t) = some 0 := by
  obtain ⟨h1, h2, h3, h4, h5⟩ := h
  unfold prf_T_kindAt
  rw [if_neg (nI_pos (by omega)), h4.1, if_pos (nI_le ht (by omega))]
theorem pl_now {B : Nat → Nat} {n c a : Nat} {K P L : Nat → Nat} {σ τ : pr_St} (h : pl_tk B n c K P L σ τ) (ha : pl_at a σ τ) (hac : a < c) : prf_R_now σ = some (nI (K a)) := by
  unfold prf_R_now
  rw [ha.1, pl_kind h hac]
  rfl
theorem pl_look {B : Nat → Nat} {n c a : Nat} {K P L : Nat → Nat} {σ τ : pr_St} (h : pl_tk B n c K P L σ τ) (ha : pl_at a σ τ) (hac : a < c) (hb : τ.1 0 9 = 0) : prf_X_look τ = some (nI (pl_km (K a))) := by
  obtain ⟨h1, h2, h3, h4, h5⟩ := h
  unfold prf_X_look
  rw [if_pos hb, ha.2, pl_ck (by omega) (by omega), nI_clamp (by omega), (h4.2.2 a hac).2.2.2.2.1]
theorem pl_lookBad {τ : pr_St} (hb : τ.1 0 9 = 1) : prf_X_look τ = some 1 := by
  unfold prf_X_look
  rw [hb]
  rfl
/-- taking a token: it is the one, and both go on -/
theorem pl_takeY {B : Nat → Nat} {n c a : Nat} {K P L : Nat → Nat} {σ τ : pr_St} (h : pl_tk B n c K P L σ τ) (ha : pl_at a σ τ) (hac : a < c) (hb : τ.1 0 9 = 0) : prf_R_take σ (nI (K a)) = some (1, pr_sI σ 3 2 (nI (a + 1))) ∧ prf_X_take τ (nI (pl_km (K a))) = some (pr_sI τ 0 8 (nI (a + 1))) := by
  constructor
  · unfold prf_R_take
    rw [ha.1, pl_kind h hac, pl_sb, if_pos rfl, nI_1]
  · unfold prf_X_take
    rw [pl_look h ha hac hb, pl_sb, if_pos rfl]
    have e : prf_X_need τ 1 = some τ := rfl
    rw [e, pl_sb, if_pos hb, ha.2, nI_1]
theorem pl_kminj : ∀ k, k < 35 → ∀ j, j < 35 → nI (pl_km k) = nI (pl_km j) → k = j := by decide +kernel
/-- taking a token: it is another one; the class stays, the reference has its fault there -/
theorem pl_takeN {B : Nat → Nat} {n c a : Nat} {K P L : Nat → Nat} {σ τ : pr_St} (h : pl_tk B n c K P L σ τ) (ha : pl_at a σ τ) (hac : a < c) (hb : τ.1 0 9 = 0) {k : Nat} (hk : k < 35) (hne : ¬ K a = k) : prf_R_take σ (nI k) = some (0, σ) ∧ prf_X_take τ (nI (pl_km k)) = some (pr_sI (pr_sI (pr_sI τ 0 9 1) 0 10 (nI (P a))) 0 8 (nI a)) := by
  obtain ⟨h1, h2, h3, h4, h5⟩ := id h
  have hK := (h4.2.2 a hac).1
  constructor
  · unfold prf_R_take
    rw [ha.1, pl_kind h hac, pl_sb, if_neg (fun q => hne ((nI_eq (by omega) (by omega)).mp q))]
  · unfold prf_X_take
    rw [pl_look h ha hac hb, pl_sb, if_neg (fun q => hne (pl_kminj (K a) hK k hk q))]
    have e : prf_X_need τ 0 = some (pr_sI (pr_sI τ 0 9 1) 0 10 (nI (P a))) := by
      unfold prf_X_need
      rw [if_pos rfl, if_pos hb, ha.2, pl_ck (by omega) (by omega), nI_clamp (by omega), (h4.2.2 a hac).2.2.2.2.2.1]
    rw [e, pl_sb]
    have e9 : (pr_sI (pr_sI τ 0 9 1) 0 10 (nI (P a))).1 0 9 = 1 := by
      rw [pr_sI_ne (by omega)]
      exact pr_sI_same
    have e8 : (pr_sI (pr_sI τ 0 9 1) 0 10 (nI (P a))).1 0 8 = nI a := by
      rw [pr_sI_ne (by omega), pr_sI_ne (by omega)]
      exact ha.2
    rw [e9, if_neg (by decide), e8]
