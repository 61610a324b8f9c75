/-! THE LAYOUT: a point of the reference -/
def pl_pX (p k : Nat) (V A E : List (Nat × Bool)) (par : Int32) (τ τ1 : pr_St) : Prop :=
  τ1.1 0 33 = nI (p + 1) ∧ (∀ o q, ¬ (o = 0 ∧ q = 33) → τ1.1 o q = τ.1 o q) ∧ (∀ r, ¬ (20 ≤ r ∧ r ≤ 28) → τ1.2.1 r = τ.2.1 r) ∧ (∀ r z, r ≤ 25 → ¬ z = p → τ1.2.1 r z = τ.2.1 r z) ∧ (∀ r z, 26 ≤ r → r ≤ 28 → z < 40 * p → τ1.2.1 r z = τ.2.1 r z) ∧ τ1.2.2 = τ.2.2 ∧
  (τ1.2.1 20 p = nI k ∧ τ1.2.1 21 p = par ∧ τ1.2.1 22 = τ.2.1 22 ∧ τ1.2.1 23 p = nI (pl_cnt false V) ∧ τ1.2.1 24 p = nI (pl_cnt true V) ∧ τ1.2.1 25 p = nI E.length) ∧
  ∀ i, i < E.length → τ1.2.1 26 (40 * p + i) = τ.2.1 29 (A.length + i) ∧ τ1.2.1 27 (40 * p + i) = τ.2.1 30 (A.length + i) ∧ τ1.2.1 28 (40 * p + i) = τ.2.1 31 (A.length + i)
theorem pl_pX_fr {p k : Nat} {V A E : List (Nat × Bool)} {par : Int32} {τ τ1 : pr_St} (h : pl_pX p k V A E par τ τ1) : pl_fr pl_FM pl_GM τ τ1 := by
  obtain ⟨_, h2, h3, _, _, h5, _⟩ := h
  refine ⟨fun o q hok => h2 o q (fun z => ?_), fun a ha => h3 a (fun q => ?_), h5⟩
  · rw [z.1, z.2] at hok
    cases hok
  · unfold pl_GM at ha
    rw [Nat.ble_eq_true_of_le (show 20 ≤ a by omega), Nat.ble_eq_true_of_le (show a ≤ 32 by omega)] at ha
    cases ha
theorem pl_copy {rc : pr_St → Int32 → Int32 → Int32 → Int32 → Option pr_St} {p a n : Nat} {x1 x2 x3 x5 : Int32} (hp : p < 249) (hn : a + n ≤ 18) : ∀ (r i f : Nat) (τ : pr_St), i + r = n → r + 1 ≤ f → τ.1 0 42 = nI (a + n) → τ.1 0 43 = nI a → ∃ f' τ', prf_X_statement5_96 rc f τ x1 x2 x3 x5 (nI p) (nI (a + i)) = prf_X_statement5_96 rc (f' + 1) τ' x1 x2 x3 x5 (nI p) (nI (a + n)) ∧ τ'.1 = τ.1 ∧ τ'.2.2 = τ.2.2 ∧ (∀ q, ¬ (26 ≤ q ∧ q ≤ 28) → τ'.2.1 q = τ.2.1 q) ∧ (∀ q z, 26 ≤ q → q ≤ 28 → z < 40 * p + i → τ'.2.1 q z = τ.2.1 q z) ∧ ∀ j, i ≤ j → j < n → τ'.2.1 26 (40 * p + j) = τ.2.1 29 (a + j) ∧ τ'.2.1 27 (40 * p + j) = τ.2.1 30 (a + j) ∧ τ'.2.1 28 (40 * p + j) = τ.2.1 31 (a + j) := by
  intro r
  induction r with
  | zero =>
    intro i f τ hi hf h42 h43
    obtain ⟨f, rfl⟩ : ∃ z, f = z + 1 := ⟨f - 1, by omega⟩
    have e : i = n := by omega
    subst e
    exact ⟨f, τ, rfl, rfl, rfl, fun _ _ => rfl, fun _ _ _ _ _ => rfl, fun j h1 h2 => by omega⟩
  | succ r ih =>
    intro i f τ hi hf h42 h43
    obtain ⟨f, rfl⟩ : ∃ z, f = z + 1 := ⟨f - 1, by omega⟩
    have e40 : 40 * nI p + nI (a + i) - nI a = nI (40 * p + i) := by
      have e1 : (40 : Int32) * nI p = nI (40 * p) := pk_mul 40 p
      rw [e1, nI_add, pk_sub (by omega), show 40 * p + (a + i) - a = 40 * p + i by omega]
    obtain ⟨τ1, e1⟩ : ∃ τ1, τ1 = pr_sA (pr_sA (pr_sA τ 26 (upd (τ.2.1 26) (40 * p + i) (τ.2.1 29 (a + i)))) 27 (upd (τ.2.1 27) (40 * p + i) (τ.2.1 30 (a + i)))) 28 (upd (τ.2.1 28) (40 * p + i) (τ.2.1 31 (a + i))) := ⟨_, rfl⟩
    have step : prf_X_statement5_96 rc (f + 1) τ x1 x2 x3 x5 (nI p) (nI (a + i)) = prf_X_statement5_96 rc f τ1 x1 x2 x3 x5 (nI p) (nI (a + (i + 1))) := by
      rw [prf_X_statement5_96, h42, if_neg (nI_ge (by omega) (by omega)), h43, e40, pl_ck (by omega) (by omega), pl_ck (by omega) (by omega), pl_ck (by omega) (by omega), pl_ck (by omega) (by omega), pl_ck (by omega) (by omega), pl_ck (by omega) (by omega), nI_clamp (by omega), nI_clamp (by omega), nI_1, e1, Nat.add_assoc]
    obtain ⟨f', τ', w1, w2, w3, w4, w5, w6⟩ := ih (i + 1) f τ1 (by omega) (by omega) (by rw [e1]; exact h42) (by rw [e1]; exact h43)
    have r1 : ∀ q, ¬ (26 ≤ q ∧ q ≤ 28) → τ1.2.1 q = τ.2.1 q := by
      intro q hq
      rw [e1, pl_sA_ne (by omega), pl_sA_ne (by omega), pl_sA_ne (by omega)]
    refine ⟨f', τ', by rw [step]; exact w1, by rw [w2, e1]; rfl, by rw [w3, e1]; rfl, fun q hq => (w4 q hq).trans (r1 q hq), fun q z h1 h2 hz => ?_, fun j h1 h2 => ?_⟩
    · rw [w5 q z h1 h2 (by omega), e1]
      have key : ∀ (τx : pr_St) (a : Nat) (v : Int32) (g : Nat → Int32), g z = τx.2.1 a z → (pr_sA τx a (upd g (40 * p + i) v)).2.1 q z = τx.2.1 q z := by
        intro τx a v g hg
        by_cases hqa : q = a
        · subst hqa; rw [pl_sA_same, pk_un (by omega), hg]
        · rw [pl_sA_ne hqa]
      exact (key (pr_sA (pr_sA τ 26 _) 27 _) 28 _ _ rfl).trans ((key (pr_sA τ 26 _) 27 _ _ rfl).trans (key τ 26 _ _ rfl))
    · by_cases q : j = i
      · subst q
        rw [w5 26 _ (by decide) (by decide) (by omega), w5 27 _ (by decide) (by decide) (by omega), w5 28 _ (by decide) (by decide) (by omega), e1]
        exact ⟨pk_us, pk_us, pk_us⟩
      · have := w6 j (by omega) h2
        rw [r1 29 (by decide), r1 30 (by decide), r1 31 (by decide)] at this
        exact this
theorem pl_ptX {rc : pr_St → Int32 → Int32 → Int32 → Int32 → Option pr_St} {T : pl_Tx} {m : Nat} {rep : Nat → Nat} {σ τ : pr_St} {A E : List (Nat × Bool)} (hs : pl_scp T m rep σ τ (A ++ E)) {p k : Nat} {par x2 x3 x5 : Int32} (h43 : τ.1 0 43 = nI A.length) (h33 : τ.1 0 33 = nI p) (hp : p < 249) : ∃ f τ1, prf_X_statement5 rc τ (nI k) x2 x3 par x5 = prf_X_statement5_96 rc (f + 1) τ1 (nI k) x2 x3 x5 (nI p) (nI (A ++ E).length) ∧ pl_pX p k (A ++ E) A E par τ τ1 := by
  have hl := pl_scp_len hs
  have h42 := hs.2.2.1
  have h45 := hs.2.2.2.1
  have h46 := hs.2.2.2.2.1
  have el : (A ++ E).length = A.length + E.length := List.length_append
  obtain ⟨τ0, e0⟩ : ∃ τ0, τ0 = pr_sA (pr_sA (pr_sA (pr_sA (pr_sA (pr_sI τ 0 33 (nI (p + 1))) 20 (upd (τ.2.1 20) p (nI k))) 21 (upd (τ.2.1 21) p par)) 23 (upd (τ.2.1 23) p (nI (pl_cnt false (A ++ E))))) 24 (upd (τ.2.1 24) p (nI (pl_cnt true (A ++ E))))) 25 (upd (τ.2.1 25) p (nI E.length)) := ⟨_, rfl⟩
  have f0 : ∀ o q, ¬ (o = 0 ∧ q = 33) → τ0.1 o q = τ.1 o q := by
    intro o q hq
    rw [e0]
    show (pr_sI τ 0 33 _).1 o q = _
    rw [pr_sI_ne hq]
  obtain ⟨f', τ', w1, w2, w3, w4, w5, w6⟩ := pl_copy (rc := rc) (x1 := nI k) (x2 := x2) (x3 := x3) (x5 := x5) (p := p) (a := A.length) (n := E.length) hp (by omega) E.length 0 pr_FU τ0 (by omega) (by have : pr_FU = 100000 := rfl; omega) (by rw [f0 0 42 (by omega), h42, el]) (by rw [f0 0 43 (by omega)]; exact h43)
  have r0 : ∀ q, ¬ (20 ≤ q ∧ q ≤ 25) → τ0.2.1 q = τ.2.1 q := by
    intro q hq
    rw [e0, pl_sA_ne (by omega), pl_sA_ne (by omega), pl_sA_ne (by omega), pl_sA_ne (by omega), pl_sA_ne (by omega)]
    rfl
  refine ⟨f', τ', ?_, by rw [w2, e0]; show (pr_sI τ 0 33 (nI (p + 1))).1 0 33 = _; exact pr_sI_same, fun o q hq => by rw [w2]; exact f0 o q hq, fun r hr => by rw [w4 r (by omega)]; exact r0 r (by omega), fun r z h1 hz => ?_, fun r z h1 h2 hz => ?_, by rw [w3, e0]; rfl, ⟨?_, ?_, ?_, ?_, ?_, ?_⟩, fun i hi => ?_⟩
  · rw [el, ← w1]
    unfold prf_X_statement5
    rw [h33, if_neg (show ¬ nI p = 249 from fun q => by have := (nI_eq (b := 249) (by omega) (by omega)).mp q; omega), pl_ck (by omega) (by omega), pl_ck (by omega) (by omega), pl_ck (by omega) (by omega), pl_ck (by omega) (by omega), pl_ck (by omega) (by omega), nI_clamp (by omega), nI_1, h45, h46, h42, h43, el, pk_sub (by omega), show A.length + E.length - A.length = E.length by omega, e0]
    rfl
  · rw [w4 r (by omega), e0]
    have key : ∀ (τx : pr_St) (a : Nat) (v : Int32) (g : Nat → Int32), g z = τx.2.1 a z → (pr_sA τx a (upd g p v)).2.1 r z = τx.2.1 r z := by
      intro τx a v g hg
      by_cases hqa : r = a
      · subst hqa; rw [pl_sA_same, pk_un hz, hg]
      · rw [pl_sA_ne hqa]
    exact (key (pr_sA (pr_sA (pr_sA (pr_sA (pr_sI τ 0 33 (nI (p + 1))) 20 _) 21 _) 23 _) 24 _) 25 _ _ rfl).trans ((key (pr_sA (pr_sA (pr_sA (pr_sI τ 0 33 (nI (p + 1))) 20 _) 21 _) 23 _) 24 _ _ rfl).trans ((key (pr_sA (pr_sA (pr_sI τ 0 33 (nI (p + 1))) 20 _) 21 _) 23 _ _ rfl).trans ((key (pr_sA (pr_sI τ 0 33 (nI (p + 1))) 20 _) 21 _ _ rfl).trans (key (pr_sI τ 0 33 (nI (p + 1))) 20 _ _ rfl))))
  · rw [w5 r z h1 h2 (by omega), r0 r (by omega)]
  · rw [w4 20 (by decide), e0]; exact pk_us
  · rw [w4 21 (by decide), e0]; exact pk_us
  · rw [w4 22 (by decide), e0]; rfl
  · rw [w4 23 (by decide), e0]; exact pk_us
  · rw [w4 24 (by decide), e0]; exact pk_us
  · rw [w4 25 (by decide), e0]; exact pk_us
  · have := w6 i (by omega) hi
    rw [r0 29 (by decide), r0 30 (by decide), r0 31 (by decide)] at this
    exact this
