/-! THE TOKENS: is a name a word? -/
/-- m letters from the t-th on are word k's -/
def pl_mt (B : Nat → Nat) (i k : Nat) : Nat → Nat → Bool
  | 0, _ => true
  | m + 1, t => decide (nI (B (i + t)) = prs_ch k t) && pl_mt B i k m (t + 1)
def pl_eqw (B : Nat → Nat) (i s k : Nat) : Bool := decide (s = prs_ln k) && pl_mt B i k s 0
def pl_st (k : Nat) : Nat := ([0, 4, 8, 11, 16, 22, 29, 36, 40] : List Nat).getD k 40
theorem pl_wtab : ∀ k, k < 8 → prs_ln k < 7 ∧ pl_st (k + 1) = pl_st k + prs_ln k + 1 ∧ pl_st k + prs_ln k < 40 ∧ pr_wd (pl_st k + prs_ln k) = 32 ∧ ∀ t, t < prs_ln k → pr_wd (pl_st k + t) = prs_ch k t ∧ ¬ prs_ch k t = 32 := by decide +kernel
theorem pl_wdead {σ : pr_St} (i s : Nat) (hs : s < 2 ^ 30) {k : Nat} (hk : k < 8) (f : Nat) : ∀ m t : Nat, t + m = prs_ln k → prf_T_wordOrName_8 (f + m + 1) σ (nI i) (nI s) (nI (4 + k)) (-1) (nI (pl_st k + t)) = prf_T_wordOrName_8 f σ (nI i) (nI s) (nI (4 + (k + 1))) 0 (nI (pl_st (k + 1))) := by
  obtain ⟨w1, w2, w3, w4, w5⟩ := pl_wtab k hk
  intro m
  induction m with
  | zero =>
    intro t ht
    have e : t = prs_ln k := by omega
    subst e
    rw [show f + 0 + 1 = f + 1 from rfl, prf_T_wordOrName_8, if_neg (show ¬ (40 : Int32) ≤ nI (pl_st k + prs_ln k) from nI_ge (b := 40) w3 (by omega)), pl_ck w3 (by omega), nI_clamp (by omega), w4, if_pos rfl, nI_1, nI_1, ← w2]
    have hne : ¬ (-1 : Int32) = nI s := by
      intro q
      have a := congrArg Int32.toInt q
      rw [nI_toInt (by omega)] at a
      have b : (-1 : Int32).toInt = -1 := rfl
      omega
    rw [if_neg hne]
    rfl
  | succ m ih =>
    intro t ht
    have hlt : t < prs_ln k := by omega
    rw [show f + (m + 1) + 1 = (f + m + 1) + 1 from rfl, prf_T_wordOrName_8, if_neg (show ¬ (40 : Int32) ≤ nI (pl_st k + t) from nI_ge (b := 40) (by omega) (by omega)), pl_ck (by omega) (by omega), nI_clamp (by omega), (w5 t hlt).1, if_neg (w5 t hlt).2, if_pos (by decide), nI_1]
    exact ih (t + 1) (by omega)
theorem pl_walive {n : Nat} {B : Nat → Nat} {σ τ : pr_St} (h : pl_TX n B σ τ) (i s : Nat) (hs : i + s ≤ n) {k : Nat} (hk : k < 8) (f : Nat) : ∀ m t : Nat, t + m = prs_ln k → t ≤ s → prf_T_wordOrName_8 (f + m + 1) σ (nI i) (nI s) (nI (4 + k)) (nI t) (nI (pl_st k + t)) = if (decide (s = prs_ln k) && pl_mt B i k m t) = true then some (nI (4 + k)) else prf_T_wordOrName_8 f σ (nI i) (nI s) (nI (4 + (k + 1))) 0 (nI (pl_st (k + 1))) := by
  obtain ⟨w1, w2, w3, w4, w5⟩ := pl_wtab k hk
  obtain ⟨h1, h2, h3, h4, h5⟩ := id h
  intro m
  induction m with
  | zero =>
    intro t ht hts
    have e : t = prs_ln k := by omega
    subst e
    rw [show f + 0 + 1 = f + 1 from rfl, prf_T_wordOrName_8, if_neg (show ¬ (40 : Int32) ≤ nI (pl_st k + prs_ln k) from nI_ge (b := 40) w3 (by omega)), pl_ck w3 (by omega), nI_clamp (by omega), w4, if_pos rfl, nI_1, nI_1, ← w2]
    have e2 : pl_mt B i k 0 (prs_ln k) = true := rfl
    rw [e2, Bool.and_true]
    by_cases hc : s = prs_ln k
    · rw [if_pos (by rw [hc]), if_pos (by rw [hc]; exact decide_eq_true rfl)]
    · rw [if_neg (fun q => hc ((nI_eq (by omega) (by omega)).mp q).symm), if_neg (by rw [decide_eq_true_eq]; exact hc)]
      rfl
  | succ m ih =>
    intro t ht hts
    have hlt : t < prs_ln k := by omega
    have em : pl_mt B i k (m + 1) t = (decide (nI (B (i + t)) = prs_ch k t) && pl_mt B i k m (t + 1)) := rfl
    have ed := pl_wdead (σ := σ) i s (by omega) hk f m (t + 1) (by omega)
    rw [show f + (m + 1) + 1 = (f + m + 1) + 1 from rfl, prf_T_wordOrName_8, if_neg (show ¬ (40 : Int32) ≤ nI (pl_st k + t) from nI_ge (b := 40) (by omega) (by omega)), pl_ck (by omega) (by omega), nI_clamp (by omega), (w5 t hlt).1, if_neg (w5 t hlt).2, if_neg (nI_pos (by omega)), nI_add, nI_1, nI_1, em]
    rw [show pl_st k + t + 1 = pl_st k + (t + 1) from rfl, ed]
    by_cases hst : s ≤ t
    · have hne : ¬ s = prs_ln k := by omega
      rw [if_pos (nI_le hst (by omega)), if_neg (by rw [decide_eq_false hne, Bool.false_and]; decide)]
    · have e : pl_bn n B (i + t) = B (i + t) := if_pos (by omega)
      rw [if_neg (nI_ge (by omega) (by omega)), pl_byX h (by omega), pl_sb, e, pl_ck (by omega) (by omega)]
      by_cases hc : nI (B (i + t)) = prs_ch k t
      · rw [if_pos hc, ih (t + 1) (by omega) (by omega), decide_eq_true hc, Bool.true_and]
      · rw [if_neg hc, decide_eq_false hc, Bool.false_and, Bool.and_false, if_neg (by decide)]
theorem pl_w34 {n : Nat} {B : Nat → Nat} {σ τ : pr_St} (h : pl_TX n B σ τ) (i s : Nat) (hs : i + s ≤ n) {k : Nat} (hk : k < 8) (hl : s = prs_ln k) (kk : pr_St → Int32 → Int32 → Int32 → Option Int32) : ∀ m t f : Nat, t + m = s → m + 2 ≤ f → prf_X_wordOf_34 kk f τ (nI i) (nI s) (nI k) 1 (nI t) = if pl_mt B i k m t = true then some (nI (300 + k)) else kk τ (nI i) (nI s) (nI (k + 1)) := by
  obtain ⟨w1, w2, w3, w4, w5⟩ := pl_wtab k hk
  obtain ⟨h1, h2, h3, h4, h5⟩ := id h
  have d10 : ¬ (1 : Int32) = 0 := by decide
  intro m
  induction m with
  | zero =>
    intro t f ht hf
    obtain ⟨f, rfl⟩ : ∃ z, f = z + 1 := ⟨f - 1, by omega⟩
    have em : pl_mt B i k 0 t = true := rfl
    rw [prf_X_wordOf_34, if_pos (nI_le (by omega) (by omega)), if_neg d10, em, if_pos rfl, show (300 : Int32) = nI 300 from rfl, nI_add]
  | succ m ih =>
    intro t f ht hf
    obtain ⟨f, rfl⟩ : ∃ z, f = z + 1 + 1 := ⟨f - 2, by omega⟩
    have em : pl_mt B i k (m + 1) t = (decide (nI (B (i + t)) = prs_ch k t) && pl_mt B i k m (t + 1)) := rfl
    rw [prf_X_wordOf_34, if_neg (nI_ge (by omega) (by omega)), if_neg d10, nI_add, pl_ck (by omega) (by omega), pl_ck hk (by omega), nI_clamp (n := k) (by omega), pl_ck (by omega) (by omega), nI_clamp (n := i + t) (by omega), nI_clamp (n := t) (by omega), (h5 (i + t) (by omega)).2, nI_1, em]
    by_cases hc : nI (B (i + t)) = prs_ch k t
    · rw [if_pos hc, decide_eq_true hc, Bool.true_and]
      exact ih (t + 1) (f + 1) (by omega) (by omega)
    · rw [if_neg hc, decide_eq_false hc, Bool.false_and, if_neg (by decide)]
      rw [prf_X_wordOf_34, if_pos rfl, if_pos rfl, nI_1]
      by_cases hq : nI s ≤ nI (t + 1)
      · rw [if_pos hq]
      · rw [if_neg hq]
/-- what kind the name is: of the class, of the reference -/
def pl_kcl (B : Nat → Nat) (i s : Nat) : Nat → Nat → Nat
  | 0, _ => 2
  | m + 1, k => if pl_eqw B i s k = true then 4 + k else pl_kcl B i s m (k + 1)
def pl_kref (B : Nat → Nat) (i s : Nat) : Nat → Nat → Nat
  | 0, _ => if s ≤ 30 then 2 else 1
  | m + 1, k => if pl_eqw B i s k = true then 300 + k else pl_kref B i s m (k + 1)
theorem pl_wordT {n : Nat} {B : Nat → Nat} {σ τ : pr_St} (h : pl_TX n B σ τ) (i s : Nat) (hs : i + s ≤ n) : ∀ m k f : Nat, k + m = 8 → 8 * m + 1 ≤ f → prf_T_wordOrName_8 f σ (nI i) (nI s) (nI (4 + k)) 0 (nI (pl_st k)) = some (nI (pl_kcl B i s m k)) := by
  intro m
  induction m with
  | zero =>
    intro k f hk hf
    obtain ⟨f, rfl⟩ : ∃ z, f = z + 1 := ⟨f - 1, by omega⟩
    have e : k = 8 := by omega
    subst e
    rw [prf_T_wordOrName_8, if_pos (by decide)]
    rfl
  | succ m ih =>
    intro k f hk hf
    have hk8 : k < 8 := by omega
    obtain ⟨w1, -⟩ := pl_wtab k hk8
    obtain ⟨g, hg⟩ : ∃ g, f = g + prs_ln k + 1 := ⟨f - prs_ln k - 1, by omega⟩
    have a := pl_walive h i s hs hk8 g (prs_ln k) 0 (by omega) (by omega)
    rw [Nat.add_zero, ← hg] at a
    have a0 : prf_T_wordOrName_8 f σ (nI i) (nI s) (nI (4 + k)) 0 (nI (pl_st k)) = _ := a
    rw [a0]
    have ek : pl_kcl B i s (m + 1) k = if pl_eqw B i s k = true then 4 + k else pl_kcl B i s m (k + 1) := rfl
    rw [ek]
    have es : pl_eqw B i s k = (decide (s = prs_ln k) && pl_mt B i k (prs_ln k) 0) := by
      unfold pl_eqw
      by_cases hc : s = prs_ln k
      · rw [hc]
      · rw [decide_eq_false hc, Bool.false_and, Bool.false_and]
    rw [es]
    by_cases hc : (decide (s = prs_ln k) && pl_mt B i k (prs_ln k) 0) = true
    · rw [if_pos hc, if_pos hc]
    · rw [if_neg hc, if_neg hc]
      exact ih (k + 1) g (by omega) (by omega)
theorem pl_wordX {n : Nat} {B : Nat → Nat} {σ τ : pr_St} (h : pl_TX n B σ τ) (i s : Nat) (hs : i + s ≤ n) (hs1 : 1 ≤ s) : ∀ m k f : Nat, k + m = 8 → m + 1 ≤ f → prf_X_wordOf_2 f τ (nI i) (nI s) (nI k) = some (nI (pl_kref B i s m k)) := by
  have h1 := h.1
  intro m
  induction m with
  | zero =>
    intro k f hk hf
    obtain ⟨f, rfl⟩ : ∃ z, f = z + 1 := ⟨f - 1, by omega⟩
    rw [prf_X_wordOf_2, if_pos (show (8 : Int32) ≤ nI k from nI_le (a := 8) (by omega) (by omega))]
    have e : pl_kref B i s 0 k = if s ≤ 30 then 2 else 1 := rfl
    rw [e]
    by_cases hc : s ≤ 30
    · rw [if_pos (show nI s ≤ 30 from nI_le (b := 30) hc (by omega)), if_pos hc]; rfl
    · rw [if_neg (show ¬ nI s ≤ 30 from nI_ge (a := 30) (by omega) (by omega)), if_neg hc]; rfl
  | succ m ih =>
    intro k f hk hf
    obtain ⟨f, rfl⟩ : ∃ z, f = z + 1 := ⟨f - 1, by omega⟩
    have hk8 : k < 8 := by omega
    obtain ⟨w1, -⟩ := pl_wtab k hk8
    rw [prf_X_wordOf_2, if_neg (show ¬ (8 : Int32) ≤ nI k from nI_ge (b := 8) hk8 (by omega)), pl_ck hk8 (by omega), nI_clamp (by omega)]
    have ek : pl_kref B i s (m + 1) k = if pl_eqw B i s k = true then 300 + k else pl_kref B i s m (k + 1) := rfl
    rw [ek]
    unfold pl_eqw
    have hF : pr_FU = 99998 + 1 + 1 := rfl
    by_cases hc : s = prs_ln k
    · rw [if_pos (show nI s = Int32.ofNat (prs_ln k) by rw [hc]; rfl), decide_eq_true hc, Bool.true_and]
      have a := pl_w34 h i s hs hk8 hc (prf_X_wordOf_2 f) s 0 pr_FU (by omega) (by rw [hF]; omega)
      have a0 : prf_X_wordOf_34 (prf_X_wordOf_2 f) pr_FU τ (nI i) (nI s) (nI k) 1 0 = _ := a
      rw [a0]
      by_cases hm : pl_mt B i k s 0 = true
      · rw [if_pos hm, if_pos hm]
      · rw [if_neg hm, if_neg hm]
        exact ih (k + 1) f (by omega) (by omega)
    · rw [if_neg (show ¬ nI s = Int32.ofNat (prs_ln k) from fun q => hc ((nI_eq (by omega) (by omega)).mp q)), decide_eq_false hc, Bool.false_and, if_neg (show ¬ false = true by decide), hF, prf_X_wordOf_34, if_pos rfl, if_pos rfl, nI_1]
      rw [ih (k + 1) f (by omega) (by omega)]
      by_cases hq : nI s ≤ 0
      · rw [if_pos hq]
      · rw [if_neg hq]
