/-! THE TOKENS: the whole text -/
theorem pl_isAtX {n : Nat} {B : Nat → Nat} {σ τ : pr_St} (h : pl_TX n B σ τ) {i : Nat} (hi : i < n) (a b : Int32) (hb : ¬ b = 0) : prf_X_isAt τ (nI i) a b = some (if nI (B i) = a ∧ nI (pl_bn n B (i + 1)) = b then 1 else 0) := by
  rw [pl_isAt h.tb hi a b hb, (h.2.2.2.2 i hi).2]
  have e : pl_by n τ (i + 1) = nI (pl_bn n B (i + 1)) := by
    unfold pl_by pl_bn
    by_cases hn : i + 1 < n
    · rw [if_pos hn, if_pos hn, (h.2.2.2.2 (i + 1) hn).2]
    · rw [if_neg hn, if_neg hn]; rfl
  rw [e]
theorem pl_scanSign {n : Nat} {B : Nat → Nat} {σ τ : pr_St} (h : pl_TX n B σ τ) {i : Nat} (hi : i < n) (hl : pl_let (B i) = false) (hd : pl_dig (B i) = false) (f : Nat) : prf_X_scan_13 (f + 1) τ (nI i) 1 = prf_X_scan_420 (prf_X_scan_13 f) τ (nI i) (pl_sx (nI (B i)) (nI (pl_bn n B (i + 1)))).1 (pl_sx (nI (B i)) (nI (pl_bn n B (i + 1)))).2 := by
  obtain ⟨h1, h2, h3, h4, h5⟩ := id h
  have d10 : ¬ (1 : Int32) = 0 := by decide
  rw [prf_X_scan_13, if_neg d10, h4, if_neg (nI_ge hi (by omega)), pl_ck (by omega) (by omega), if_pos (nI_lt hi (by omega)), nI_clamp (by omega), (h5 i hi).2, pl_letX (h2 i), pl_sb, if_pos (pl_01f hl), pl_digX (h2 i), pl_sb, if_pos (pl_01f hd)]
  rw [pl_isAtX h hi _ _ (by decide), pl_sb, pl_isAtX h hi _ _ (by decide), pl_sb, pl_isAtX h hi _ _ (by decide), pl_sb, pl_isAtX h hi _ _ (by decide), pl_sb, pl_isAtX h hi _ _ (by decide), pl_sb, pl_isAtX h hi _ _ (by decide), pl_sb]
  unfold pl_sx prf_X_scan_416
  generalize nI (B i) = c
  generalize nI (pl_bn n B (i + 1)) = d
  by_cases p1 : c = 60 ∧ d = 61
  · rw [if_pos p1, if_pos p1, if_neg d10, prf_X_scan_222, if_pos p1.1]
  rw [if_neg p1, if_neg p1, if_pos rfl]
  by_cases p2 : c = 62 ∧ d = 61
  · rw [if_pos p2, if_pos p2, if_neg d10, prf_X_scan_222, p2.1, if_neg (by decide), if_pos rfl]
  rw [if_neg p2, if_neg p2, if_pos rfl]
  by_cases p3 : c = 61 ∧ d = 61
  · rw [if_pos p3, if_pos p3, if_neg d10, prf_X_scan_222, p3.1, if_neg (by decide), if_neg (by decide), if_pos rfl]
  rw [if_neg p3, if_neg p3, if_pos rfl]
  by_cases p4 : c = 33 ∧ d = 61
  · rw [if_pos p4, if_pos p4, if_neg d10, prf_X_scan_222, p4.1, if_neg (by decide), if_neg (by decide), if_neg (by decide), if_pos rfl]
  rw [if_neg p4, if_neg p4, if_pos rfl]
  by_cases p5 : c = 38 ∧ d = 38
  · rw [if_pos p5, if_pos p5, if_neg d10, prf_X_scan_222, p5.1, if_neg (by decide), if_neg (by decide), if_neg (by decide), if_neg (by decide), if_pos rfl]
  rw [if_neg p5, if_neg p5, if_pos rfl]
  by_cases p6 : c = 124 ∧ d = 124
  · rw [if_pos p6, if_pos p6, if_neg d10, prf_X_scan_222, p6.1, if_neg (by decide), if_neg (by decide), if_neg (by decide), if_neg (by decide), if_neg (by decide)]
  rw [if_neg p6, if_neg p6, if_pos rfl]
  by_cases v0 : c = 40
  · rw [if_pos v0, if_pos v0]
  rw [if_neg v0, if_neg v0]
  by_cases v1 : c = 41
  · rw [if_pos v1, if_pos v1]
  rw [if_neg v1, if_neg v1]
  by_cases v2 : c = 123
  · rw [if_pos v2, if_pos v2]
  rw [if_neg v2, if_neg v2]
  by_cases v3 : c = 125
  · rw [if_pos v3, if_pos v3]
  rw [if_neg v3, if_neg v3]
  by_cases v4 : c = 91
  · rw [if_pos v4, if_pos v4]
  rw [if_neg v4, if_neg v4]
  by_cases v5 : c = 93
  · rw [if_pos v5, if_pos v5]
  rw [if_neg v5, if_neg v5]
  by_cases v6 : c = 44
  · rw [if_pos v6, if_pos v6]
  rw [if_neg v6, if_neg v6]
  by_cases v7 : c = 59
  · rw [if_pos v7, if_pos v7]
  rw [if_neg v7, if_neg v7]
  by_cases v8 : c = 61
  · rw [if_pos v8, if_pos v8]
  rw [if_neg v8, if_neg v8]
  by_cases v9 : c = 43
  · rw [if_pos v9, if_pos v9]
  rw [if_neg v9, if_neg v9]
  by_cases v10 : c = 45
  · rw [if_pos v10, if_pos v10]
  rw [if_neg v10, if_neg v10]
  by_cases v11 : c = 42
  · rw [if_pos v11, if_pos v11]
  rw [if_neg v11, if_neg v11]
  by_cases v12 : c = 47
  · rw [if_pos v12, if_pos v12]
  rw [if_neg v12, if_neg v12]
  by_cases v13 : c = 37
  · rw [if_pos v13, if_pos v13]
  rw [if_neg v13, if_neg v13]
  by_cases v14 : c = 60
  · rw [if_pos v14, if_pos v14]
  rw [if_neg v14, if_neg v14]
  by_cases v15 : c = 62
  · rw [if_pos v15, if_pos v15]
  rw [if_neg v15, if_neg v15]
  by_cases v16 : c = 33
  · rw [if_pos v16, if_pos v16]
  rw [if_neg v16, if_neg v16]
/-- one token on both sides -/
theorem pl_tok {n : Nat} {B : Nat → Nat} {σ τ : pr_St} {c : Nat} {K P L : Nat → Nat} (h : pl_TX n B σ τ) (hT : pl_TT B c K P L σ τ) {i : Nat} (hi : i < n) (hc : c ≤ i) : ∃ k l : Nat, k < 35 ∧ 1 ≤ l ∧ i + l ≤ n ∧ ((2 ≤ k ∧ pl_tf n B k i l ∧ prf_T_readToken σ (nI i) = some (nI l, pl_addC σ c k i (pl_vl B k i l))) ∨ (k = 1 ∧ prf_T_readToken σ (nI i) = some (0, σ))) ∧ ∀ f : Nat, prf_X_scan_13 (f + 1) τ (nI i) 1 = prf_X_scan_420 (prf_X_scan_13 f) τ (nI i) (nI l) (nI (pl_km k)) := by
  obtain ⟨h1, h2, h3, h4, h5⟩ := id h
  have d10 : ¬ (1 : Int32) = 0 := by decide
  have e : pl_bn n B i = B i := if_pos hi
  have hlet : ∀ f : Nat, pl_let (B i) = true → prf_X_scan_13 (f + 1) τ (nI i) 1 = prf_X_scan_66 (prf_X_scan_13 f) pr_FU τ (nI i) 1 := by
    intro f hl
    rw [prf_X_scan_13, if_neg d10, h4, if_neg (nI_ge hi (by omega)), pl_ck (by omega) (by omega), if_pos (nI_lt hi (by omega)), nI_clamp (by omega), (h5 i hi).2, pl_letX (h2 i), pl_sb, if_neg (pl_01t hl)]
  have hdig : ∀ f : Nat, pl_let (B i) = false → pl_dig (B i) = true → prf_X_scan_13 (f + 1) τ (nI i) 1 = prf_X_scan_101 (prf_X_scan_13 f) pr_FU τ (nI i) 1 := by
    intro f hl hd
    rw [prf_X_scan_13, if_neg d10, h4, if_neg (nI_ge hi (by omega)), pl_ck (by omega) (by omega), if_pos (nI_lt hi (by omega)), nI_clamp (by omega), (h5 i hi).2, pl_letX (h2 i), pl_sb, if_pos (pl_01f hl), pl_digX (h2 i), pl_sb, if_neg (pl_01t hd)]
  have hdl : pl_dig (B i) = true → pl_let (B i) = false := (by decide +kernel : ∀ a, a < 256 → pl_dig a = true → pl_let a = false) (B i) (h2 i)
  have hrt : prf_T_readToken σ (nI i) = if pl_01 (pl_dig (B i)) = 0 then (if pl_01 (pl_wc (B i)) = 0 then (prf_T_readSign σ (nI i)).bind fun r14 => some (r14.1, r14.2) else (prf_T_readName σ (nI i)).bind fun r15 => some (r15.1, r15.2)) else (prf_T_readNumber σ (nI i)).bind fun r16 => some (r16.1, r16.2) := by
    unfold prf_T_readToken
    rw [pl_byX h (by omega), pl_sb, e, pl_digT (h2 i), pl_sb, pl_wcT (h2 i), pl_sb]
  cases hd : pl_dig (B i) with
  | true =>
    obtain ⟨k, l, a1, a2, a3, a4, a5⟩ := pl_tokNum h hT hi hc hd
    rw [hd, if_neg (pl_01t rfl)] at hrt
    refine ⟨k, l, a1, a2, a3, ?_, fun f => by rw [hdig f (hdl hd) hd]; exact a5 _⟩
    rcases a4 with ⟨b1, b0, b2⟩ | ⟨b1, b2⟩
    · exact Or.inl ⟨b1, b0, by rw [hrt, b2]; rfl⟩
    · exact Or.inr ⟨b1, by rw [hrt, b2]; rfl⟩
  | false =>
    rw [hd, if_pos (pl_01f rfl)] at hrt
    cases hl : pl_let (B i) with
    | true =>
      have hwc : pl_wc (B i) = true := by unfold pl_wc; rw [hl, Bool.true_or]
      obtain ⟨k, l, a1, a2, a3, a4, a5⟩ := pl_tokName h hT hi hc hl
      rw [hwc, if_neg (pl_01t rfl)] at hrt
      refine ⟨k, l, a1, a2, a3, ?_, fun f => by rw [hlet f hl]; exact a5 _⟩
      rcases a4 with ⟨b1, b0, b2⟩ | ⟨b1, b2⟩
      · exact Or.inl ⟨b1, b0, by rw [hrt, b2]; rfl⟩
      · exact Or.inr ⟨b1, by rw [hrt, b2]; rfl⟩
    | false =>
      have hwc : pl_wc (B i) = false := by unfold pl_wc; rw [hl, hd]; rfl
      obtain ⟨k, l, a1, a2, a4, a5, a6⟩ := pl_tokSign h hT hi hc
      rw [hwc, if_pos (pl_01f rfl)] at hrt
      have a3 : i + l ≤ n := by
        by_cases hl2 : l = 2
        · subst hl2
          by_cases hn : i + 1 < n
          · omega
          · have eb : pl_bn n B (i + 1) = 0 := if_neg hn
            rw [eb] at a5
            have hx := (by decide +kernel : ∀ a, a < 256 → ¬ (pl_sx (nI a) (nI 0)).1 = nI 2) (B i) (h2 i)
            exact absurd (by rw [a5]) hx
        · omega
      refine ⟨k, l, a1, a2, a3, ?_, fun f => by rw [pl_scanSign h hi hl hd f, a5]⟩
      rcases a4 with ⟨b1, b0, b2⟩ | ⟨b1, b2⟩
      · exact Or.inl ⟨b1, b0, by rw [hrt, b2]; rfl⟩
      · exact Or.inr ⟨b1, by rw [hrt, b2]; rfl⟩
