/-! THE TOKENS: numbers -/
/-- the value of k digits from i on -/
def pl_val (B : Nat → Nat) (i : Nat) : Nat → Nat
  | 0 => 0
  | k + 1 => pl_val B i k * 10 + (B (i + k) - 48)
theorem pl_run_all {p : Nat → Bool} {B : Nat → Nat} : ∀ m i t : Nat, t < pl_run p B m i → p (B (i + t)) = true := by
  intro m
  induction m with
  | zero => intro i t h; exact absurd h (Nat.not_lt_zero _)
  | succ m ih =>
    intro i t h
    have er : pl_run p B (m + 1) i = if p (B i) then pl_run p B m (i + 1) + 1 else 0 := rfl
    rw [er] at h
    by_cases hp : p (B i) = true
    · rw [if_pos hp] at h
      cases t with
      | zero => exact hp
      | succ t =>
        have := ih (i + 1) t (by omega)
        rw [show i + (t + 1) = i + 1 + t by omega]
        exact this
    · rw [if_neg hp] at h
      exact absurd h (Nat.not_lt_zero _)
theorem pl_run_stop {p : Nat → Bool} {B : Nat → Nat} : ∀ m i : Nat, pl_run p B m i < m → p (B (i + pl_run p B m i)) = false := by
  intro m
  induction m with
  | zero => intro i h; exact absurd h (Nat.not_lt_zero _)
  | succ m ih =>
    intro i h
    have er : pl_run p B (m + 1) i = if p (B i) then pl_run p B m (i + 1) + 1 else 0 := rfl
    rw [er] at h ⊢
    by_cases hp : p (B i) = true
    · rw [if_pos hp] at h ⊢
      have := ih (i + 1) (by omega)
      rw [show i + (pl_run p B m (i + 1) + 1) = i + 1 + pl_run p B m (i + 1) by omega]
      exact this
    · rw [if_neg hp]
      exact Bool.eq_false_iff.mpr hp
theorem pl_dig_ge {c : Nat} (h : pl_dig c = true) : 48 ≤ c ∧ c ≤ 57 := by
  unfold pl_dig at h
  rw [Bool.and_eq_true, decide_eq_true_eq, decide_eq_true_eq] at h
  exact h
theorem pl_val_lt {B : Nat → Nat} {i : Nat} : ∀ k : Nat, (∀ t, t < k → pl_dig (B (i + t)) = true) → pl_val B i k < 10 ^ k := by
  intro k
  induction k with
  | zero => intro _; exact Nat.one_pos
  | succ k ih =>
    intro h
    have a := ih (fun t ht => h t (by omega))
    have b := pl_dig_ge (h k (by omega))
    have e : pl_val B i (k + 1) = pl_val B i k * 10 + (B (i + k) - 48) := rfl
    rw [e, Nat.pow_succ]
    omega
theorem pl_val_mono {B : Nat → Nat} {i : Nat} : ∀ k d : Nat, pl_val B i k ≤ pl_val B i (k + d) := by
  intro k d
  induction d with
  | zero => exact Nat.le_refl _
  | succ d ih =>
    have e : pl_val B i (k + (d + 1)) = pl_val B i (k + d) * 10 + (B (i + (k + d)) - 48) := rfl
    omega
theorem pl_val_ge {B : Nat → Nat} {i : Nat} (h0 : 49 ≤ B i) : ∀ k : Nat, 10 ^ k ≤ pl_val B i (k + 1) := by
  intro k
  induction k with
  | zero =>
    have e : pl_val B i (0 + 1) = 0 * 10 + (B (i + 0) - 48) := rfl
    rw [e, Nat.add_zero]
    show 1 ≤ _
    omega
  | succ k ih =>
    have e : pl_val B i (k + 1 + 1) = pl_val B i (k + 1) * 10 + (B (i + (k + 1)) - 48) := rfl
    rw [e, Nat.pow_succ]
    omega
theorem pl_lN_lt {a b : Nat} (ha : a < 2 ^ 62) (hb : b < 2 ^ 62) : lN a < lN b ↔ a < b := by
  rw [Int64.lt_iff_toInt_lt]
  have e1 : (lN a).toInt = (a : Int) := Int64.toInt_ofNat_of_lt (by omega)
  have e2 : (lN b).toInt = (b : Int) := Int64.toInt_ofNat_of_lt (by omega)
  rw [e1, e2]
  omega
theorem pl_cmpmax {v : Nat} (hb : v < 2 ^ 62) : 0 < lg_cmp (lN v) 2147483647 ↔ 2147483647 < v := by
  rw [lg_cmp_gt]
  exact pl_lN_lt (a := 2147483647) (by decide) hb
/-- one digit more -/
theorem pl_digit {B : Nat → Nat} {i k : Nat} (hB : B (i + k) < 256) (hd : pl_dig (B (i + k)) = true) : lN (pl_val B i k) * 10 + (nI (B (i + k))).toInt64 - 48 = lN (pl_val B i (k + 1)) := by
  have b := pl_dig_ge hd
  rw [nI_l (by omega), show (10 : Int64) = lN 10 from rfl, show (48 : Int64) = lN 48 from rfl, lN_mul, lN_add, lN_sub (by omega)]
  have e : pl_val B i (k + 1) = pl_val B i k * 10 + (B (i + k) - 48) := rfl
  rw [e, show pl_val B i k * 10 + B (i + k) - 48 = pl_val B i k * 10 + (B (i + k) - 48) by omega]
theorem pl_numT {n : Nat} {B : Nat → Nat} {σ τ : pr_St} (h : pl_TX n B σ τ) (i0 : Nat) : ∀ m i k f : Nat, i + m = n → i0 + k = i → m + 1 ≤ f → (∀ t, t < k → pl_dig (B (i0 + t)) = true) → prf_T_readNumber_7 f σ (nI i0) (nI k) (lN (pl_val B i0 (min k 10))) (nI i) = prf_T_readNumber_61 σ (nI i0) (nI (k + pl_run pl_dig B m i)) (lN (pl_val B i0 (min (k + pl_run pl_dig B m i) 10))) := by
  obtain ⟨h1, h2, h3, h4, h5⟩ := id h
  intro m
  induction m with
  | zero =>
    intro i k f hi hk hf _
    obtain ⟨f, rfl⟩ : ∃ z, f = z + 1 := ⟨f - 1, by omega⟩
    rw [prf_T_readNumber_7, h3, if_pos (nI_le (by omega) (by omega))]
    rfl
  | succ m ih =>
    intro i k f hi hk hf hall
    obtain ⟨f, rfl⟩ : ∃ z, f = z + 1 := ⟨f - 1, by omega⟩
    have e : pl_bn n B i = B i := if_pos (by omega)
    rw [prf_T_readNumber_7, h3, if_neg (nI_ge (by omega) (by omega)), pl_byX h (by omega), pl_sb, e, pl_digT (h2 i), pl_sb, nI_1, nI_1, pl_sb]
    have er : pl_run pl_dig B (m + 1) i = if pl_dig (B i) then pl_run pl_dig B m (i + 1) + 1 else 0 := rfl
    rw [er]
    cases hw : pl_dig (B i) with
    | false =>
      rw [if_pos (pl_01f rfl), if_neg (by decide)]
      rfl
    | true =>
      rw [if_neg (pl_01t rfl), if_pos rfl]
      have hall2 : ∀ t, t < k + 1 → pl_dig (B (i0 + t)) = true := by
        intro t ht
        by_cases q : t < k
        · exact hall t q
        · rw [show i0 + t = i by omega]; exact hw
      have a := ih (i + 1) (k + 1) f (by omega) (by omega) (by omega) hall2
      rw [show k + 1 + pl_run pl_dig B m (i + 1) = k + (pl_run pl_dig B m (i + 1) + 1) by omega] at a
      by_cases h10 : 10 ≤ k
      · rw [if_pos (show (10 : Int32) ≤ nI k from nI_le (a := 10) h10 (by omega)), ← a, show min (k + 1) 10 = min k 10 by omega]
      · rw [if_neg (show ¬ (10 : Int32) ≤ nI k from nI_ge (b := 10) (by omega) (by omega)), ← a]
        have em : min k 10 = k := by omega
        have em1 : min (k + 1) 10 = k + 1 := by omega
        rw [em, em1, ← pl_digit (by rw [hk]; exact h2 i) (by rw [hk]; exact hw), hk]
/-- is it a number: what the reference asks -/
def pl_isnum (n : Nat) (B : Nat → Nat) (i s : Nat) : Bool := decide (pl_val B i s ≤ 2147483647) && (decide (s = 1) || decide (¬ B i = 48)) && !pl_wc (pl_bn n B (i + s))
theorem pl_numX {n : Nat} {B : Nat → Nat} {σ τ : pr_St} (h : pl_TX n B σ τ) (i s : Nat) (hs : i + s ≤ n) (hs1 : 1 ≤ s) (hall : ∀ t, t < s → pl_dig (B (i + t)) = true) : ∀ m t f : Nat, t + m = s → m + 1 ≤ f → (∀ u, u < t → pl_val B i u ≤ 2147483647) → prf_X_isNumber_5 f τ (nI i) (nI s) (lN (pl_val B i t)) (nI t) = some (pl_01 (pl_isnum n B i s)) := by
  obtain ⟨h1, h2, h3, h4, h5⟩ := id h
  have big : ∀ t, t ≤ s → (∀ u, u < t → pl_val B i u ≤ 2147483647) → pl_val B i t < 2 ^ 62 := by
    intro t ht hu
    cases t with
    | zero => exact (by decide : 0 < 2 ^ 62)
    | succ t =>
      have a := hu t (by omega)
      have b := pl_dig_ge (hall t (by omega))
      have e : pl_val B i (t + 1) = pl_val B i t * 10 + (B (i + t) - 48) := rfl
      omega
  have fin : ∀ t, t ≤ s → (∀ u, u < t → pl_val B i u ≤ 2147483647) → (t = s ∨ 2147483647 < pl_val B i t) → prf_X_isNumber_46 τ (nI i) (nI s) (lN (pl_val B i t)) = some (pl_01 (pl_isnum n B i s)) := by
    intro t ht hu hc
    have hb := big t ht hu
    rw [prf_X_isNumber_46]
    by_cases hv : 2147483647 < pl_val B i t
    · have hbad : ¬ pl_val B i s ≤ 2147483647 := by
        have := pl_val_mono (B := B) (i := i) t (s - t)
        rw [show t + (s - t) = s by omega] at this
        omega
      rw [if_pos ((pl_cmpmax hb).mpr hv)]
      unfold pl_isnum
      rw [decide_eq_false hbad, Bool.false_and, Bool.false_and]
      rfl
    · have hts : t = s := by omega
      subst hts
      have hok : pl_val B i t ≤ 2147483647 := by omega
      rw [if_neg (fun q => hv ((pl_cmpmax hb).mp q))]
      unfold pl_isnum
      rw [decide_eq_true hok, Bool.true_and, nI_add, pl_wcX h (by omega), pl_sb]
      have tail : ∀ w : Bool, (if pl_01 w = 0 then some (1 : Int32) else some 0) = some (pl_01 (!w)) := by intro w; cases w <;> rfl
      by_cases h11 : t = 1
      · rw [if_pos (show nI t = 1 by rw [h11]; rfl), tail, decide_eq_true h11, Bool.true_or, Bool.true_and]
      · rw [if_neg (show ¬ nI t = 1 from fun q => h11 ((nI_eq (b := 1) (by omega) (by omega)).mp q)), pl_ck (by omega) (by omega), nI_clamp (by omega), (h5 i (by omega)).2, decide_eq_false h11, Bool.false_or, tail]
        by_cases h48 : B i = 48
        · rw [if_pos (show nI (B i) = 48 by rw [h48]; rfl), decide_eq_false (fun q => q h48), Bool.false_and]
          rfl
        · rw [if_neg (show ¬ nI (B i) = 48 from fun q => h48 ((nI_eq (b := 48) (by have := h2 i; omega) (by omega)).mp q)), decide_eq_true h48, Bool.true_and]
  intro m
  induction m with
  | zero =>
    intro t f ht hf hu
    obtain ⟨f, rfl⟩ : ∃ z, f = z + 1 := ⟨f - 1, by omega⟩
    rw [prf_X_isNumber_5, if_pos (nI_le (by omega) (by omega))]
    exact fin t (by omega) hu (Or.inl (by omega))
  | succ m ih =>
    intro t f ht hf hu
    obtain ⟨f, rfl⟩ : ∃ z, f = z + 1 := ⟨f - 1, by omega⟩
    have hb := big t (by omega) hu
    rw [prf_X_isNumber_5, if_neg (nI_ge (by omega) (by omega))]
    by_cases hv : 2147483647 < pl_val B i t
    · rw [if_pos ((pl_cmpmax hb).mpr hv)]
      exact fin t (by omega) hu (Or.inr hv)
    · rw [if_neg (fun q => hv ((pl_cmpmax hb).mp q)), nI_add, pl_ck (by omega) (by omega), nI_clamp (by omega), (h5 (i + t) (by omega)).2, nI_1, Int64.mul_comm, pl_digit (h2 _) (hall t (by omega))]
      refine ih (t + 1) f (by omega) (by omega) (fun u hu2 => ?_)
      by_cases q : u < t
      · exact hu u q
      · rw [show u = t by omega]; omega
