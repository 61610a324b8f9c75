/-! THE TOKENS: one token on both sides -/
/-- what the class keeps of a token: of a NUMBER the number, of a NAME or word its length -/
def pl_vl (B : Nat → Nat) (k p l : Nat) : Nat := if k = 3 then pl_val B p l else if k = 2 ∨ (4 ≤ k ∧ k ≤ 11) then l else 0
/-- what is known of a token's bytes: a NUMBER's are digits; a NAME or word begins with a letter and ends where none goes on -/
def pl_tf (n : Nat) (B : Nat → Nat) (k p l : Nat) : Prop := (k = 3 → (∀ u, u < l → 48 ≤ B (p + u)) ∧ pl_val B p l ≤ 2147483647) ∧ ((k = 2 ∨ (4 ≤ k ∧ k ≤ 11)) → pl_let (B p) = true ∧ (p + l < n → pl_wc (B (p + l)) = false)) ∧ (4 ≤ k → k ≤ 11 → 2 ≤ l) ∧ (k = 4 → l = 3)
/-- c tokens: kinds K, places P, lengths L -/
def pl_TT (B : Nat → Nat) (c : Nat) (K P L : Nat → Nat) (σ τ : pr_St) : Prop := σ.1 1 6 = nI c ∧ τ.1 0 7 = nI c ∧ ∀ t, t < c → K t < 35 ∧ σ.2.1 9 t = nI (K t) ∧ σ.2.1 10 t = nI (P t) ∧ σ.2.1 11 t = nI (pl_vl B (K t) (P t) (L t)) ∧ τ.2.1 3 t = nI (pl_km (K t)) ∧ τ.2.1 4 t = nI (P t) ∧ τ.2.1 5 t = nI (L t) ∧ (K t = 3 → ∀ u, u < L t → 48 ≤ B (P t + u))
def pl_up (f : Nat → Nat) (c v : Nat) : Nat → Nat := fun t => if t = c then v else f t
theorem pl_k8 : ∀ k, k < 35 → (nI k).toInt8.toInt32.toInt8.toInt32 = nI k := by decide +kernel
/-- the class' new token -/
def pl_addC (σ : pr_St) (c k p v : Nat) : pr_St := pr_sI (pr_sA (pr_sA (pr_sA σ 9 (upd (σ.2.1 9) c (nI k))) 10 (upd (σ.2.1 10) c (nI p))) 11 (upd (σ.2.1 11) c (nI v))) 1 6 (nI (c + 1))
theorem pl_addT {σ : pr_St} {c : Nat} (hc : σ.1 1 6 = nI c) (hlt : c < 8001) {k : Nat} (hk : k < 35) (p v : Nat) : prf_T_add σ (nI k) (nI p) (nI v) = some (pl_addC σ c k p v) := by
  unfold prf_T_add pl_addC
  rw [hc, if_neg (show ¬ (8001 : Int32) ≤ nI c from nI_ge (b := 8001) hlt (by omega)), pl_ck hlt (by omega), pl_ck hlt (by omega), pl_ck hlt (by omega), nI_clamp (by omega), nI_1, pl_k8 k hk]
/-- the reference's new token -/
def pl_addR (τ : pr_St) (c k p l : Nat) : pr_St := pr_sI (pr_sA (pr_sA (pr_sA τ 3 (upd (τ.2.1 3) c (nI k))) 4 (upd (τ.2.1 4) c (nI p))) 5 (upd (τ.2.1 5) c (nI l))) 0 7 (nI (c + 1))
theorem pl_420 {τ : pr_St} {c : Nat} (hc : τ.1 0 7 = nI c) (hlt : c < 8002) (kk : pr_St → Int32 → Int32 → Option pr_St) (k p l : Nat) : prf_X_scan_420 kk τ (nI p) (nI l) (nI k) = (prf_X_behindBlanks (pl_addR τ c k p l) (nI (p + l))).bind fun r => kk (pl_addR τ c k p l) r (if nI k = 1 ∨ nI k = 0 then 0 else 1) := by
  unfold prf_X_scan_420 pl_addR
  rw [hc, pl_ck hlt (by omega), pl_ck hlt (by omega), pl_ck hlt (by omega), nI_clamp (by omega), nI_1, nI_add]
  by_cases h1 : nI k = 1
  · rw [if_pos h1, if_pos (Or.inl h1)]
  · rw [if_neg h1]
    by_cases h0 : nI k = 0
    · rw [if_pos h0, if_pos (Or.inr h0)]
    · rw [if_neg h0, if_neg (fun q => q.elim h1 h0)]
theorem pl_TT_add {B : Nat → Nat} {c : Nat} {K P L : Nat → Nat} {σ τ : pr_St} (h : pl_TT B c K P L σ τ) {k : Nat} (hk : k < 35) (p l : Nat) (hd : k = 3 → ∀ u, u < l → 48 ≤ B (p + u)) : pl_TT B (c + 1) (pl_up K c k) (pl_up P c p) (pl_up L c l) (pl_addC σ c k p (pl_vl B k p l)) (pl_addR τ c (pl_km k) p l) := by
  obtain ⟨h1, h2, h3⟩ := h
  refine ⟨pr_sI_same, pr_sI_same, fun t ht => ?_⟩
  have e1 : (pl_addC σ c k p (pl_vl B k p l)).2.1 9 = upd (σ.2.1 9) c (nI k) := rfl
  have e2 : (pl_addC σ c k p (pl_vl B k p l)).2.1 10 = upd (σ.2.1 10) c (nI p) := rfl
  have e3 : (pl_addC σ c k p (pl_vl B k p l)).2.1 11 = upd (σ.2.1 11) c (nI (pl_vl B k p l)) := rfl
  have e4 : (pl_addR τ c (pl_km k) p l).2.1 3 = upd (τ.2.1 3) c (nI (pl_km k)) := rfl
  have e5 : (pl_addR τ c (pl_km k) p l).2.1 4 = upd (τ.2.1 4) c (nI p) := rfl
  have e6 : (pl_addR τ c (pl_km k) p l).2.1 5 = upd (τ.2.1 5) c (nI l) := rfl
  rw [e1, e2, e3, e4, e5, e6]
  unfold pl_up
  by_cases hc : t = c
  · subst hc
    rw [pk_us, pk_us, pk_us, pk_us, pk_us, pk_us, if_pos rfl, if_pos rfl, if_pos rfl]
    exact ⟨hk, rfl, rfl, rfl, rfl, rfl, rfl, hd⟩
  · rw [pk_un hc, pk_un hc, pk_un hc, pk_un hc, pk_un hc, pk_un hc, if_neg hc, if_neg hc, if_neg hc]
    exact h3 t (by omega)
theorem pl_TX_add {n : Nat} {B : Nat → Nat} {σ τ : pr_St} (h : pl_TX n B σ τ) (c k p v c2 k2 p2 l2 : Nat) : pl_TX n B (pl_addC σ c k p v) (pl_addR τ c2 k2 p2 l2) := h
theorem pl_kk {B : Nat → Nat} {i s : Nat} : ∀ m k : Nat, k + m = 8 → (s ≤ 30 → pl_kcl B i s m k < 35 ∧ 2 ≤ pl_kcl B i s m k ∧ (pl_kcl B i s m k = 2 ∨ (4 ≤ pl_kcl B i s m k ∧ pl_kcl B i s m k ≤ 11)) ∧ pl_kref B i s m k = pl_km (pl_kcl B i s m k) ∧ (4 ≤ pl_kcl B i s m k → 2 ≤ s ∧ (pl_kcl B i s m k = 4 → s = 3))) ∧ (¬ s ≤ 30 → pl_kref B i s m k = 1) := by
  intro m
  induction m with
  | zero =>
    intro k hk
    have e1 : pl_kcl B i s 0 k = 2 := rfl
    have e2 : pl_kref B i s 0 k = if s ≤ 30 then 2 else 1 := rfl
    rw [e1, e2]
    exact ⟨fun h => ⟨by decide, by decide, Or.inl rfl, by rw [if_pos h]; rfl, fun q => absurd q (by decide)⟩, fun h => by rw [if_neg h]⟩
  | succ m ih =>
    intro k hk
    have e1 : pl_kcl B i s (m + 1) k = if pl_eqw B i s k = true then 4 + k else pl_kcl B i s m (k + 1) := rfl
    have e2 : pl_kref B i s (m + 1) k = if pl_eqw B i s k = true then 300 + k else pl_kref B i s m (k + 1) := rfl
    rw [e1, e2]
    by_cases hc : pl_eqw B i s k = true
    · have hk8 : k < 8 := by omega
      have hl := (pl_wtab k hk8).1
      have hs : s = prs_ln k := by
        unfold pl_eqw at hc
        rw [Bool.and_eq_true, decide_eq_true_eq] at hc
        exact hc.1
      rw [if_pos hc, if_pos hc]
      have hln : 2 ≤ prs_ln k := (by decide +kernel : ∀ k, k < 8 → 2 ≤ prs_ln k) k hk8
      refine ⟨fun _ => ⟨by omega, by omega, Or.inr ⟨by omega, by omega⟩, (by decide +kernel : ∀ k, k < 8 → 300 + k = pl_km (4 + k)) k hk8, fun _ => ⟨by omega, fun q => ?_⟩⟩, fun h => absurd (by omega) h⟩
      have k0 : k = 0 := by omega
      rw [hs, k0]
      rfl
    · rw [if_neg hc, if_neg hc]
      exact ih (k + 1) (by omega)
theorem pl_runS {p : Nat → Bool} {B : Nat → Nat} {n i : Nat} (hi : i < n) (hp : p (B i) = true) : pl_run p B (n - i) i = 1 + pl_run p B (n - (i + 1)) (i + 1) := by
  obtain ⟨m, hm⟩ : ∃ m, n - i = m + 1 := ⟨n - i - 1, by omega⟩
  have er : pl_run p B (m + 1) i = if p (B i) then pl_run p B m (i + 1) + 1 else 0 := rfl
  rw [hm, er, if_pos hp, show n - (i + 1) = m by omega, Nat.add_comm]
/-- a name or word -/
theorem pl_tokName {n : Nat} {B : Nat → Nat} {σ τ : pr_St} {c : Nat} {K P L : Nat → Nat} (h : pl_TX n B σ τ) (hT : pl_TT B c K P L σ τ) {i : Nat} (hi : i < n) (hc : c ≤ i) (hw : pl_let (B i) = true) : ∃ k l : Nat, k < 35 ∧ 1 ≤ l ∧ i + l ≤ n ∧ ((2 ≤ k ∧ pl_tf n B k i l ∧ prf_T_readName σ (nI i) = some (nI l, pl_addC σ c k i (pl_vl B k i l))) ∨ (k = 1 ∧ prf_T_readName σ (nI i) = some (0, σ))) ∧ ∀ kk : pr_St → Int32 → Int32 → Option pr_St, prf_X_scan_66 kk pr_FU τ (nI i) 1 = prf_X_scan_420 kk τ (nI i) (nI l) (nI (pl_km k)) := by
  have h1 := h.1
  have hF : pr_FU = 100000 := rfl
  have hwc : pl_wc (B i) = true := by unfold pl_wc; rw [hw, Bool.true_or]
  have hs := pl_runS (p := pl_wc) (B := B) hi hwc
  have hle := pl_run_le (p := pl_wc) (B := B) (n - i) i
  obtain ⟨s, hsd⟩ : ∃ s, s = pl_run pl_wc B (n - i) i := ⟨_, rfl⟩
  have hT1 : prf_T_readName σ (nI i) = prf_T_readName_32 σ (nI i) (nI s) := by
    have a := pl_nameT h i (n - i) i 0 pr_FU (by omega) (by omega) (by rw [hF]; omega)
    rw [Nat.zero_add, ← hsd] at a
    exact a
  have hX1 : ∀ kk : pr_St → Int32 → Int32 → Option pr_St, prf_X_scan_66 kk pr_FU τ (nI i) 1 = (prf_X_wordOf τ (nI i) (nI s)).bind fun r => prf_X_scan_420 kk τ (nI i) (nI s) r := by
    intro kk
    have a := pl_nameX h i kk (n - (i + 1)) (i + 1) 1 pr_FU (by omega) (by omega) (by rw [hF]; omega)
    rw [← hs, ← hsd] at a
    exact a
  have hXw : prf_X_wordOf τ (nI i) (nI s) = some (nI (pl_kref B i s 8 0)) := pl_wordX h i s (by omega) (by omega) 8 0 pr_FU (by omega) (by rw [hF]; omega)
  have hTw : prf_T_wordOrName σ (nI i) (nI s) = some (nI (pl_kcl B i s 8 0)) := pl_wordT h i s (by omega) 8 0 pr_FU (by omega) (by rw [hF]; omega)
  obtain ⟨q1, q2⟩ := pl_kk (B := B) (i := i) (s := s) 8 0 (by omega)
  by_cases h30 : s ≤ 30
  · obtain ⟨r1, r2, r3, r4, r5⟩ := q1 h30
    have hstop : i + s < n → pl_wc (B (i + s)) = false := fun q => by
      have a := pl_run_stop (p := pl_wc) (B := B) (n - i) i
      rw [← hsd] at a
      exact a (by omega)
    refine ⟨pl_kcl B i s 8 0, s, r1, by omega, by omega, Or.inl ⟨r2, ⟨fun q => absurd q (by omega), fun _ => ⟨hw, fun q => hstop q⟩, fun q _ => (r5 q).1, fun q => (r5 (by omega)).2 q⟩, ?_⟩, fun kk => ?_⟩
    · rw [hT1, prf_T_readName_32, if_pos (show nI s ≤ 30 from nI_le (b := 30) h30 (by omega)), hTw, pl_sb, pl_addT hT.1 (by omega) r1, pl_sb]
      have ev : pl_vl B (pl_kcl B i s 8 0) i s = s := by
        unfold pl_vl
        rw [if_neg (by omega), if_pos r3]
      rw [ev]
    · rw [hX1, hXw, pl_sb, r4]
  · refine ⟨1, s, by decide, by omega, by omega, Or.inr ⟨rfl, ?_⟩, fun kk => ?_⟩
    · rw [hT1, prf_T_readName_32, if_neg (show ¬ nI s ≤ 30 from nI_ge (a := 30) (by omega) (by omega))]
    · rw [hX1, hXw, pl_sb, q2 h30]
      rfl
/-- a number -/
theorem pl_tokNum {n : Nat} {B : Nat → Nat} {σ τ : pr_St} {c : Nat} {K P L : Nat → Nat} (h : pl_TX n B σ τ) (hT : pl_TT B c K P L σ τ) {i : Nat} (hi : i < n) (hc : c ≤ i) (hd : pl_dig (B i) = true) : ∃ k l : Nat, k < 35 ∧ 1 ≤ l ∧ i + l ≤ n ∧ ((2 ≤ k ∧ pl_tf n B k i l ∧ prf_T_readNumber σ (nI i) = some (nI l, pl_addC σ c k i (pl_vl B k i l))) ∨ (k = 1 ∧ prf_T_readNumber σ (nI i) = some (0, σ))) ∧ ∀ kk : pr_St → Int32 → Int32 → Option pr_St, prf_X_scan_101 kk pr_FU τ (nI i) 1 = prf_X_scan_420 kk τ (nI i) (nI l) (nI (pl_km k)) := by
  obtain ⟨h1, h2, h3, h4, h5⟩ := id h
  have hF : pr_FU = 100000 := rfl
  have hs := pl_runS (p := pl_dig) (B := B) hi hd
  have hle := pl_run_le (p := pl_dig) (B := B) (n - i) i
  have hall0 := pl_run_all (p := pl_dig) (B := B) (n - i) i
  obtain ⟨s, hsd⟩ : ∃ s, s = pl_run pl_dig B (n - i) i := ⟨_, rfl⟩
  rw [← hsd] at hle hall0
  have hT1 : prf_T_readNumber σ (nI i) = prf_T_readNumber_61 σ (nI i) (nI s) (lN (pl_val B i (min s 10))) := by
    have a := pl_numT h i (n - i) i 0 pr_FU (by omega) (by omega) (by rw [hF]; omega) (fun t ht => absurd ht (Nat.not_lt_zero _))
    rw [Nat.zero_add, ← hsd] at a
    exact a
  have hX1 : ∀ kk : pr_St → Int32 → Int32 → Option pr_St, prf_X_scan_101 kk pr_FU τ (nI i) 1 = prf_X_scan_131 kk τ (nI i) (nI s) := by
    intro kk
    have a := pl_digsX h i kk (n - (i + 1)) (i + 1) 1 pr_FU (by omega) (by omega) (by rw [hF]; omega)
    rw [← hs, ← hsd] at a
    exact a
  have hXn : prf_X_isNumber τ (nI i) (nI s) = some (pl_01 (pl_isnum n B i s)) := pl_numX h i s (by omega) (by omega) hall0 s 0 pr_FU (by omega) (by rw [hF]; omega) (fun u hu => absurd hu (Nat.not_lt_zero _))
  have hdi := pl_dig_ge hd
  -- the class' last look
  have e80 : prf_T_readNumber_80 σ (nI i) (nI s) (lN (pl_val B i (min s 10))) = if (decide (s ≤ 10) && (decide (pl_val B i s ≤ 2147483647) && !pl_wc (pl_bn n B (i + s)))) = true then some (nI s, pl_addC σ c 3 i (pl_val B i s)) else some (0, σ) := by
    rw [prf_T_readNumber_80]
    by_cases h10 : s ≤ 10
    · have em : min s 10 = s := by omega
      have hv := pl_val_lt (B := B) (i := i) s hall0
      have hv2 : pl_val B i s < 2 ^ 62 := Nat.lt_of_lt_of_le hv (Nat.le_trans (Nat.pow_le_pow_right (by decide) h10) (by decide))
      rw [if_neg (show ¬ (10 : Int32) < nI s from nI_nlt (a := 10) h10 (by omega)), if_pos rfl, em, decide_eq_true h10, Bool.true_and, nI_add, pl_byX h (by omega), pl_sb, pl_wcT (pl_bn_lt h2 _), pl_sb]
      by_cases hm : pl_val B i s ≤ 2147483647
      · rw [if_neg (fun q => absurd ((pl_cmpmax hv2).mp q) (by omega)), decide_eq_true hm, Bool.true_and, lN_i, show (3 : Int32) = nI 3 from rfl, pl_addT hT.1 (by omega) (by decide), pl_sb]
        cases hw : pl_wc (pl_bn n B (i + s)) with
        | true => rw [if_neg (pl_01t rfl), if_neg (by decide)]
        | false => rw [if_pos (pl_01f rfl), if_pos (by decide)]
      · rw [if_pos ((pl_cmpmax hv2).mpr (by omega)), decide_eq_false hm, Bool.false_and, if_neg (by decide)]
    · rw [if_pos (show (10 : Int32) < nI s from nI_lt (a := 10) (by omega) (by omega)), decide_eq_false h10, Bool.false_and, if_neg (by decide)]
  have e61 : prf_T_readNumber_61 σ (nI i) (nI s) (lN (pl_val B i (min s 10))) = if pl_isnum n B i s = true then some (nI s, pl_addC σ c 3 i (pl_val B i s)) else some (0, σ) := by
    rw [prf_T_readNumber_61]
    unfold pl_isnum
    by_cases hs1 : s ≤ 1
    · have es : s = 1 := by omega
      rw [if_pos (show nI s ≤ 1 from nI_le (b := 1) hs1 (by omega)), e80, decide_eq_true (show s ≤ 10 by omega), Bool.true_and, decide_eq_true es, Bool.true_or, Bool.and_true]
    · have e : pl_bn n B i = B i := if_pos hi
      rw [if_neg (show ¬ nI s ≤ 1 from nI_ge (a := 1) (by omega) (by omega)), pl_byX h (by omega), pl_sb, e, e80, decide_eq_false (show ¬ s = 1 by omega), Bool.false_or]
      by_cases h48 : B i = 48
      · rw [if_pos (show nI (B i) = 48 by rw [h48]; rfl), decide_eq_false (show ¬ ¬ B i = 48 from fun q => q h48), Bool.and_false, Bool.false_and, if_neg (show ¬ (1 : Int32) = 0 by decide), if_neg (show ¬ false = true by decide)]
        by_cases q : (10 : Int32) < nI s
        · rw [if_pos q]
        · rw [if_neg q]
      · rw [if_neg (show ¬ nI (B i) = 48 from fun q => h48 ((nI_eq (b := 48) (by have := h2 i; omega) (by omega)).mp q)), decide_eq_true h48, Bool.and_true]
        by_cases h10 : s ≤ 10
        · rw [decide_eq_true h10, Bool.true_and]
        · have hbig : ¬ pl_val B i s ≤ 2147483647 := by
            have a := pl_val_ge (B := B) (i := i) (by omega) (s - 1)
            rw [show s - 1 + 1 = s by omega] at a
            have b : 10 ^ 10 ≤ 10 ^ (s - 1) := Nat.pow_le_pow_right (by decide) (by omega)
            have d : 2147483647 < 10 ^ 10 := by decide
            omega
          rw [decide_eq_false h10, Bool.false_and, decide_eq_false hbig, Bool.false_and]
  cases hq : pl_isnum n B i s with
  | true =>
    have hval : pl_val B i s ≤ 2147483647 := by
      unfold pl_isnum at hq
      rw [Bool.and_eq_true, Bool.and_eq_true] at hq
      exact of_decide_eq_true hq.1.1
    refine ⟨3, s, by decide, by omega, by omega, Or.inl ⟨by decide, ⟨fun _ => ⟨fun u hu => (pl_dig_ge (hall0 u hu)).1, hval⟩, fun q => absurd q (by decide), fun q => absurd q (by decide), fun q => absurd q (by decide)⟩, ?_⟩, fun kk => ?_⟩
    · rw [hT1, e61, hq, if_pos rfl]
      rfl
    · rw [hX1, prf_X_scan_131, hXn, pl_sb, hq, if_neg (pl_01t rfl)]
      rfl
  | false =>
    refine ⟨1, s, by decide, by omega, by omega, Or.inr ⟨rfl, ?_⟩, fun kk => ?_⟩
    · rw [hT1, e61, hq, if_neg (by decide)]
    · rw [hX1, prf_X_scan_131, hXn, pl_sb, hq, if_pos (pl_01f rfl)]
      rfl
/-- a sign, or none -/
theorem pl_tokSign {n : Nat} {B : Nat → Nat} {σ τ : pr_St} {c : Nat} {K P L : Nat → Nat} (h : pl_TX n B σ τ) (hT : pl_TT B c K P L σ τ) {i : Nat} (hi : i < n) (hc : c ≤ i) : ∃ k l : Nat, k < 35 ∧ 1 ≤ l ∧ ((2 ≤ k ∧ pl_tf n B k i l ∧ prf_T_readSign σ (nI i) = some (nI l, pl_addC σ c k i (pl_vl B k i l))) ∨ (k = 1 ∧ prf_T_readSign σ (nI i) = some (0, σ))) ∧ pl_sx (nI (B i)) (nI (pl_bn n B (i + 1))) = (nI l, nI (pl_km k)) ∧ l ≤ 2 := by
  obtain ⟨h1, h2, h3, h4, h5⟩ := id h
  have e : pl_bn n B i = B i := if_pos hi
  have ok := pl_sgok_all (h2 i) (nI (pl_bn n B (i + 1)))
  have hsg : ∀ q : Int32, ∃ t : Int32, prf_T_signOfTwo σ (nI (B i)) q = some t ∧ (prf_T_signOfTwo prIs_C (nI (B i)) q).getD 1 = t := by
    intro q
    have e1 : prf_T_signOfTwo σ (nI (B i)) q = prf_T_signOfTwo prIs_C (nI (B i)) q := rfl
    rw [e1]
    cases hq : prf_T_signOfTwo prIs_C (nI (B i)) q with
    | none => exact absurd hq (by unfold prf_T_signOfTwo; repeat' split <;> try exact Option.some_ne_none _)
    | some t => exact ⟨t, rfl, rfl⟩
  have hso : ∃ t : Int32, prf_T_signOfOne σ (nI (B i)) = some t ∧ (prf_T_signOfOne prIs_C (nI (B i))).getD 1 = t := by
    have e1 : prf_T_signOfOne σ (nI (B i)) = prf_T_signOfOne prIs_C (nI (B i)) := rfl
    rw [e1]
    cases hq : prf_T_signOfOne prIs_C (nI (B i)) with
    | none => exact absurd hq ((by decide +kernel : ∀ a, a < 256 → ¬ prf_T_signOfOne prIs_C (nI a) = none) (B i) (h2 i))
    | some t => exact ⟨t, rfl, rfl⟩
  obtain ⟨t2, a2, b2⟩ := hsg (nI (pl_bn n B (i + 1)))
  obtain ⟨t1, a1, b1⟩ := hso
  have hrd : prf_T_readSign σ (nI i) = if t2 = 1 then (if t1 = 1 then some (0, σ) else (prf_T_add σ t1 (nI i) 0).bind fun r15 => some (1, r15)) else (prf_T_add σ t2 (nI i) 0).bind fun r16 => some (2, r16) := by
    unfold prf_T_readSign
    rw [pl_byX h (by omega), pl_sb, nI_1, pl_byX h (by omega), pl_sb, e, a2, pl_sb, a1, pl_sb]
  unfold pl_sgok pl_sc at ok
  rw [b2, b1] at ok
  dsimp only at ok
  have fin : ∀ (l k : Nat) (kc : Int32), (l = 1 ∨ l = 2) → 12 ≤ kc.toNatClampNeg → kc.toNatClampNeg < 35 → nI kc.toNatClampNeg = kc → prf_T_add σ kc (nI i) 0 = some (pl_addC σ c kc.toNatClampNeg i (pl_vl B kc.toNatClampNeg i l)) := by
    intro l k kc hl h12 h35 hk
    have ev : pl_vl B kc.toNatClampNeg i l = 0 := by
      unfold pl_vl
      rw [if_neg (by omega), if_neg (by omega)]
    rw [ev, ← pl_addT hT.1 (by omega) h35, hk]
    rfl
  by_cases ht2 : t2 = 1
  · rw [if_pos ht2] at ok hrd
    by_cases ht1 : t1 = 1
    · rw [if_pos ht1] at ok hrd
      rw [if_pos rfl, decide_eq_true_eq] at ok
      exact ⟨1, 1, by decide, by decide, Or.inr ⟨rfl, hrd⟩, ok, by decide⟩
    · rw [if_neg ht1] at ok hrd
      rw [if_neg (show ¬ ((1 : Int32), t1).fst = 0 from fun q => absurd q (show ¬ (1 : Int32) = 0 by decide))] at ok
      simp only [Bool.and_eq_true, decide_eq_true_eq] at ok
      obtain ⟨⟨⟨⟨o1, o2⟩, o3⟩, o4⟩, o5⟩ := ok
      refine ⟨t1.toNatClampNeg, 1, o3, by decide, Or.inl ⟨by omega, ⟨fun q => absurd q (by omega), fun q => absurd q (by omega), fun _ q => absurd q (by omega), fun q => absurd q (by omega)⟩, ?_⟩, Prod.ext o1 o4, by decide⟩
      rw [hrd, fin 1 0 t1 (Or.inl rfl) o2 o3 o5, pl_sb]
      rfl
  · rw [if_neg ht2] at ok hrd
    rw [if_neg (show ¬ ((2 : Int32), t2).fst = 0 from fun q => absurd q (show ¬ (2 : Int32) = 0 by decide))] at ok
    simp only [Bool.and_eq_true, decide_eq_true_eq] at ok
    obtain ⟨⟨⟨⟨o1, o2⟩, o3⟩, o4⟩, o5⟩ := ok
    refine ⟨t2.toNatClampNeg, 2, o3, by decide, Or.inl ⟨by omega, ⟨fun q => absurd q (by omega), fun q => absurd q (by omega), fun _ q => absurd q (by omega), fun q => absurd q (by omega)⟩, ?_⟩, Prod.ext o1 o4, by decide⟩
    rw [hrd, fin 2 0 t2 (Or.inr rfl) o2 o3 o5, pl_sb]
    rfl
