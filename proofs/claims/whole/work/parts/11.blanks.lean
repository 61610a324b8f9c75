/-! THE TOKENS: bytes, blanks -/
theorem pl_sb {α β : Type} {a : α} {f : α → Option β} : (some a).bind f = f a := rfl
/-- the first n bytes are the text, the same on both sides -/
def pl_TB (n : Nat) (σ τ : pr_St) : Prop := n ≤ 8000 ∧ σ.1 1 5 = nI n ∧ τ.1 0 3 = nI n ∧ ∀ j, j < n → σ.2.1 8 j &&& 255 = τ.2.1 2 j
/-- the byte at i, 0 behind the end -/
def pl_by (n : Nat) (τ : pr_St) (i : Nat) : Int32 := if i < n then τ.2.1 2 i else 0
theorem pl_byteAt {n : Nat} {σ τ : pr_St} (h : pl_TB n σ τ) {i : Nat} (hi : i < 2 ^ 30) : prf_T_byteAt σ (nI i) = some (pl_by n τ i) := by
  obtain ⟨h1, h2, h3, h4⟩ := h
  unfold prf_T_byteAt pl_by
  rw [if_neg (nI_pos (by omega)), h2]
  by_cases hin : i < n
  · rw [if_neg (nI_ge hin (by omega)), if_neg (show ¬ (8000 : Int32) ≤ nI i from nI_ge (b := 8000) (by omega) (by omega)), pl_ck (by omega) (by omega), nI_clamp (by omega), if_pos hin, h4 i hin]
  · rw [if_pos (nI_le (by omega) (by omega)), if_neg hin]
theorem pl_isAt {n : Nat} {σ τ : pr_St} (h : pl_TB n σ τ) {i : Nat} (hi : i < n) (a b : Int32) (hb : ¬ b = 0) : prf_X_isAt τ (nI i) a b = some (if τ.2.1 2 i = a ∧ pl_by n τ (i + 1) = b then 1 else 0) := by
  obtain ⟨h1, h2, h3, h4⟩ := h
  unfold prf_X_isAt pl_by
  rw [h3, nI_1]
  by_cases hin : i + 1 < n
  · rw [if_neg (nI_ge hin (by omega)), pl_ck (by omega) (by omega), nI_clamp (by omega), pl_ck (by omega) (by omega), nI_clamp (by omega), if_pos hin]
    by_cases ha : τ.2.1 2 i = a
    · rw [if_pos ha]
      by_cases hc : τ.2.1 2 (i + 1) = b
      · rw [if_pos hc, if_pos ⟨ha, hc⟩]
      · rw [if_neg hc, if_neg (fun q => hc q.2)]
    · rw [if_neg ha, if_neg (fun q => ha q.1)]
  · rw [if_pos (nI_le (by omega) (by omega)), if_neg hin, if_neg (fun q => hb q.2.symm)]
theorem pl_bb {n : Nat} {σ τ : pr_St} (h : pl_TB n σ τ) : ∀ m i : Nat, i + m = n →
    (∃ j, i ≤ j ∧ j ≤ n ∧ (∀ f, m + 1 ≤ f → prf_T_behindBlanks_4 f σ 0 (nI i) = some (nI j)) ∧ (∀ f, 2 * m + 2 ≤ f → prf_X_behindBlanks_4 f τ (nI i) 1 = some (nI j))) ∧
    (∃ j, i ≤ j ∧ j ≤ n ∧ (∀ f, m + 1 ≤ f → prf_T_behindBlanks_4 f σ 1 (nI i) = some (nI j)) ∧ (∀ f g, m + 1 ≤ f → 2 * m + 2 ≤ g → prf_X_behindBlanks_70 (prf_X_behindBlanks_4 g) f τ (nI i) 1 = some (nI j))) := by
  obtain ⟨h1, h2, h3, h4⟩ := id h
  have d10 : ¬ (1 : Int32) = 0 := by decide
  intro m
  induction m with
  | zero =>
    intro i hi
    have hin : i = n := by omega
    subst hin
    have hle : nI i ≤ nI i := Int32.le_refl _
    have e1 : ∀ x f, 0 + 1 ≤ f → prf_T_behindBlanks_4 f σ x (nI i) = some (nI i) := by
      intro x f hf
      obtain ⟨f, rfl⟩ : ∃ z, f = z + 1 := ⟨f - 1, by omega⟩
      rw [prf_T_behindBlanks_4, h2, if_pos hle]
    have e2 : ∀ f, 2 * 0 + 2 ≤ f → prf_X_behindBlanks_4 f τ (nI i) 1 = some (nI i) := by
      intro f hf
      obtain ⟨f, rfl⟩ : ∃ z, f = z + 1 := ⟨f - 1, by omega⟩
      rw [prf_X_behindBlanks_4, if_neg d10, h3, if_pos hle]
    refine ⟨⟨i, Nat.le_refl _, Nat.le_refl _, e1 0, e2⟩, ⟨i, Nat.le_refl _, Nat.le_refl _, e1 1, ?_⟩⟩
    intro f g hf hg
    obtain ⟨f, rfl⟩ : ∃ z, f = z + 1 := ⟨f - 1, by omega⟩
    rw [prf_X_behindBlanks_70, h3, if_pos hle]
    exact e2 g hg
  | succ m ih =>
    intro i hi
    have hin : i < n := by omega
    obtain ⟨⟨j0, a1, a2, a3, a4⟩, ⟨j1, b1, b2, b3, b4⟩⟩ := ih (i + 1) (by omega)
    have hlt : ¬ nI n ≤ nI i := nI_ge hin (by omega)
    have hby : prf_T_byteAt σ (nI i) = some (τ.2.1 2 i) := by rw [pl_byteAt h (by omega)]; unfold pl_by; rw [if_pos hin]
    have hby1 : prf_T_byteAt σ (nI (i + 1)) = some (pl_by n τ (i + 1)) := pl_byteAt h (by omega)
    constructor
    · -- outside a remark
      by_cases hrem : τ.2.1 2 i = 47 ∧ pl_by n τ (i + 1) = 47
      · refine ⟨j1, by omega, b2, ?_, ?_⟩
        · intro f hf
          obtain ⟨f, rfl⟩ : ∃ z, f = z + 1 := ⟨f - 1, by omega⟩
          rw [prf_T_behindBlanks_4, h2, if_neg hlt, hby, pl_sb, if_pos rfl, if_pos hrem.1, nI_1, hby1, pl_sb, if_pos hrem.2]
          exact b3 f (by omega)
        · intro f hf
          obtain ⟨f, rfl⟩ : ∃ z, f = z + 1 := ⟨f - 1, by omega⟩
          rw [prf_X_behindBlanks_4, if_neg d10, h3, if_neg hlt, pl_ck (by omega) (by omega), nI_clamp (by omega), pl_isAt h hin _ _ (by decide), pl_sb, if_pos hrem, hrem.1]
          rw [if_neg (by decide), if_neg (by decide), if_neg (by decide), if_neg (by decide), if_neg d10]
          rw [show pr_FU = 99999 + 1 from rfl, prf_X_behindBlanks_70, h3, if_neg hlt, pl_ck (by omega) (by omega), nI_clamp (by omega), hrem.1, if_neg (by decide), nI_1]
          exact b4 99999 f (by omega) (by omega)
      · by_cases hbl : τ.2.1 2 i = 9 ∨ τ.2.1 2 i = 10 ∨ τ.2.1 2 i = 13 ∨ τ.2.1 2 i = 32
        · refine ⟨j0, by omega, a2, ?_, ?_⟩
          · intro f hf
            obtain ⟨f, rfl⟩ : ∃ z, f = z + 1 := ⟨f - 1, by omega⟩
            rw [prf_T_behindBlanks_4, h2, if_neg hlt, hby, pl_sb, if_pos rfl]
            have h47 : ¬ τ.2.1 2 i = 47 := by rcases hbl with q | q | q | q <;> rw [q] <;> decide
            rw [if_neg h47, prf_T_behindBlanks_63, nI_1, a3 f (by omega)]
            rcases hbl with q | q | q | q <;> rw [q]
            · rw [if_pos rfl]
            · rw [if_neg (by decide), if_pos rfl]
            · rw [if_neg (by decide), if_neg (by decide), if_pos rfl]
            · rw [if_neg (by decide), if_neg (by decide), if_neg (by decide), if_pos rfl]
          · intro f hf
            obtain ⟨f, rfl⟩ : ∃ z, f = z + 1 := ⟨f - 1, by omega⟩
            rw [prf_X_behindBlanks_4, if_neg d10, h3, if_neg hlt, pl_ck (by omega) (by omega), nI_clamp (by omega), nI_1, a4 f (by omega)]
            rcases hbl with q | q | q | q <;> rw [q]
            · rw [if_pos rfl]
            · rw [if_neg (by decide), if_pos rfl]
            · rw [if_neg (by decide), if_neg (by decide), if_pos rfl]
            · rw [if_neg (by decide), if_neg (by decide), if_neg (by decide), if_pos rfl]
        · have q1 : ¬ τ.2.1 2 i = 9 := fun q => hbl (Or.inl q)
          have q2 : ¬ τ.2.1 2 i = 10 := fun q => hbl (Or.inr (Or.inl q))
          have q3 : ¬ τ.2.1 2 i = 13 := fun q => hbl (Or.inr (Or.inr (Or.inl q)))
          have q4 : ¬ τ.2.1 2 i = 32 := fun q => hbl (Or.inr (Or.inr (Or.inr q)))
          refine ⟨i, Nat.le_refl _, by omega, ?_, ?_⟩
          · intro f hf
            obtain ⟨f, rfl⟩ : ∃ z, f = z + 1 := ⟨f - 1, by omega⟩
            have e63 : prf_T_behindBlanks_63 (prf_T_behindBlanks_4 f) σ 0 (nI i) (τ.2.1 2 i) = some (nI i) := by
              rw [prf_T_behindBlanks_63, if_neg q1, if_neg q2, if_neg q3, if_neg q4]
            rw [prf_T_behindBlanks_4, h2, if_neg hlt, hby, pl_sb, if_pos rfl, nI_1, hby1, pl_sb, e63]
            by_cases h47 : τ.2.1 2 i = 47
            · rw [if_pos h47, if_neg (fun q => hrem ⟨h47, q⟩)]
            · rw [if_neg h47]
          · intro f hf
            obtain ⟨f, rfl⟩ : ∃ z, f = z + 1 + 1 := ⟨f - 2, by omega⟩
            rw [prf_X_behindBlanks_4, if_neg d10, h3, if_neg hlt, pl_ck (by omega) (by omega), nI_clamp (by omega), if_neg q1, if_neg q2, if_neg q3, if_neg q4, pl_isAt h hin _ _ (by decide), pl_sb, if_neg hrem, if_pos rfl]
            rw [prf_X_behindBlanks_4, if_pos rfl]
    · -- within a remark
      by_cases h10 : τ.2.1 2 i = 10
      · refine ⟨j0, by omega, a2, ?_, ?_⟩
        · intro f hf
          obtain ⟨f, rfl⟩ : ∃ z, f = z + 1 := ⟨f - 1, by omega⟩
          rw [prf_T_behindBlanks_4, h2, if_neg hlt, hby, pl_sb, if_neg d10, if_pos h10, nI_1]
          exact a3 f (by omega)
        · intro f g hf hg
          obtain ⟨f, rfl⟩ : ∃ z, f = z + 1 := ⟨f - 1, by omega⟩
          obtain ⟨g, rfl⟩ : ∃ z, g = z + 1 := ⟨g - 1, by omega⟩
          rw [prf_X_behindBlanks_70, h3, if_neg hlt, pl_ck (by omega) (by omega), nI_clamp (by omega), if_pos h10]
          rw [prf_X_behindBlanks_4, if_neg d10, h3, if_neg hlt, pl_ck (by omega) (by omega), nI_clamp (by omega), h10, if_neg (by decide), if_pos rfl, nI_1]
          exact a4 g (by omega)
      · refine ⟨j1, by omega, b2, ?_, ?_⟩
        · intro f hf
          obtain ⟨f, rfl⟩ : ∃ z, f = z + 1 := ⟨f - 1, by omega⟩
          rw [prf_T_behindBlanks_4, h2, if_neg hlt, hby, pl_sb, if_neg d10, if_neg h10, nI_1]
          exact b3 f (by omega)
        · intro f g hf hg
          obtain ⟨f, rfl⟩ : ∃ z, f = z + 1 := ⟨f - 1, by omega⟩
          rw [prf_X_behindBlanks_70, h3, if_neg hlt, pl_ck (by omega) (by omega), nI_clamp (by omega), if_neg h10, nI_1]
          exact b4 f g (by omega) (by omega)
theorem pl_blanks {n : Nat} {σ τ : pr_St} (h : pl_TB n σ τ) {i : Nat} (hi : i ≤ n) : ∃ j, i ≤ j ∧ j ≤ n ∧ prf_T_behindBlanks σ (nI i) = some (nI j) ∧ prf_X_behindBlanks τ (nI i) = some (nI j) := by
  obtain ⟨⟨j, a1, a2, a3, a4⟩, _⟩ := pl_bb h (n - i) i (by omega)
  have := h.1
  have hF : pr_FU = 100000 := rfl
  exact ⟨j, a1, a2, a3 pr_FU (by omega), a4 pr_FU (by omega)⟩
