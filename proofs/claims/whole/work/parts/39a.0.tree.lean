/-! THE LAYOUT: parts of the tree, records in the text -/
/-- a part of a node: whose part it is, and its own parts -/
theorem pl_wh_part {τ : pr_St} {n : Nat} {o : Int32} {k t : Nat} {v : Int32} {A G C : List pl_N} (h : pl_wh τ n o ((k, t, v, 1 + (A ++ G ++ C).length) :: (A ++ G ++ C))) (hA : pl_ns A) (hG : pl_ro G) : pl_wh τ (n + 1 + A.length) (nI n) G := by
  obtain ⟨e0, l0, eG, hsz⟩ := hG
  have hG1 : 1 ≤ G.length := by rw [eG, List.length_cons]; omega
  have hsG : pl_sz G 0 = G.length := by rw [eG]; show e0.2.2.2 = _; rw [hsz, eG]
  have eAG : ∀ j, j < G.length → pl_sz ((k, t, v, 1 + (A ++ G ++ C).length) :: (A ++ G ++ C)) (A.length + j + 1) = pl_sz G j := by
    intro j hj
    rw [pl_sz_c, pl_sz_l (by rw [List.length_append]; omega), pl_sz_r]
  have eA : ∀ j, j < A.length → pl_sz ((k, t, v, 1 + (A ++ G ++ C).length) :: (A ++ G ++ C)) (j + 1) = pl_sz A j := by
    intro j hj
    rw [pl_sz_c, List.append_assoc, pl_sz_l hj]
  have hlen : ((k, t, v, 1 + (A ++ G ++ C).length) :: (A ++ G ++ C)).length = 1 + A.length + G.length + C.length := by
    rw [List.length_cons, List.length_append, List.length_append]; omega
  intro i hi
  rcases h (1 + A.length + i) (by rw [hlen]; omega) with ⟨q, _⟩ | ⟨w, hw, e16, hlt, hall⟩
  · omega
  cases i with
  | zero =>
    refine Or.inl ⟨rfl, ?_⟩
    have : w = 0 := by
      by_cases q : w = 0
      · exact q
      · obtain ⟨w', rfl⟩ : ∃ w', w = w' + 1 := ⟨w - 1, by omega⟩
        rw [eA w' (by omega)] at hlt
        have := pl_ns_sz A w' hA (by omega)
        omega
    subst this
    rw [show n + 1 + A.length = n + (1 + A.length + 0) by omega, e16]
    rfl
  | succ i =>
    refine Or.inr ?_
    by_cases q : w < 1 + A.length
    · exfalso
      have := hall (A.length + 0 + 1) (by omega) (by omega)
      rw [eAG 0 (by omega), hsG] at this
      omega
    · obtain ⟨w', rfl⟩ : ∃ w', w = A.length + w' + 1 := ⟨w - A.length - 1, by omega⟩
      refine ⟨w', by omega, ?_, ?_, fun j h1 h2 => ?_⟩
      · rw [show n + 1 + A.length + (i + 1) = n + (1 + A.length + (i + 1)) by omega, e16, show n + (A.length + w' + 1) = n + 1 + A.length + w' by omega]
      · rw [eAG w' (by omega)] at hlt
        omega
      · have := hall (A.length + j + 1) (by omega) (by omega)
        rw [eAG j (by omega)] at this
        omega
theorem pl_wh_0 {τ : pr_St} {n : Nat} {o : Int32} {e : pl_N} {F : List pl_N} (h : pl_wh τ n o (e :: F)) : τ.2.1 16 n = o := by
  rcases h 0 (by rw [List.length_cons]; omega) with ⟨_, h⟩ | ⟨w, hw, _⟩
  · exact h
  · omega
theorem pl_ro_cons {e : pl_N} {l : List pl_N} (h : e.2.2.2 = 1 + l.length) : pl_ro (e :: l) := ⟨e, l, rfl, by rw [h, List.length_cons]; omega⟩
/-- a statement's root holds all of it -/
theorem pl_lf_ro {T : pl_Tx} {s q : Nat} {E : List (Nat × Bool)} {F : List pl_N} {S : List pl_S} {O : List pl_O} (h : pl_lf T s q E F S O) : pl_ro F := by
  rcases h with ⟨_, _, _, _, rfl, _⟩ | ⟨_, _, G, _, _, _, _, _, _, rfl, _⟩ | ⟨_, _, _, _, _, _, _, rfl, _⟩ | ⟨_, _, G, _, _, _, _, _, _, rfl, _⟩ | ⟨_, _, _, G, H, _, _, _, _, _, _, _, _, _, _, _, rfl, _⟩ | ⟨_, _, _, _, Gs, _, _, _, _, _, rfl, _⟩ | ⟨_, _, C, _, _, _, _, _, _, rfl, _⟩ | ⟨_, _, G, _, _, _, _, rfl, _⟩
  · exact pl_ro_cons rfl
  · exact pl_ro_cons (by show 2 + G.length = 1 + _; rw [List.length_cons]; omega)
  · exact pl_ro_cons rfl
  · exact pl_ro_cons (by show 2 + G.length = 1 + _; rw [List.length_cons]; omega)
  · exact pl_ro_cons (by show 2 + (G ++ H).length = 1 + _; rw [List.length_cons]; omega)
  · exact pl_ro_cons (by show 3 + (pl_catF Gs).length = 1 + _; rw [List.length_cons, List.length_cons]; omega)
  · exact pl_ro_cons rfl
  · exact pl_ro_cons rfl
theorem pl_sT_ro {T : pl_Tx} {f s q : Nat} {E : List (Nat × Bool)} {F : List pl_N} {S : List pl_S} {O : List pl_O} (h : pl_sT T f s q E F S O) : pl_ro F := by
  cases f with
  | zero => exact h.elim
  | succ f =>
    rcases h with h | ⟨k, t, b, C, Qc, B1, S1, O1, B2, S2, O2, h1, h2, h3, h4, h5, h6, h7, h8, rfl, _⟩
    · exact pl_lf_ro h
    · exact pl_ro_cons rfl
/-- a list at its place in a longer one -/
def pl_sl (L : List pl_S) (s : Nat) (S : List pl_S) : Prop := ∀ i, i < S.length → L[s + i]? = S[i]?
theorem pl_sl_app {L a b : List pl_S} {s : Nat} (h : pl_sl L s (a ++ b)) : pl_sl L s a ∧ pl_sl L (s + a.length) b := by
  constructor
  · intro i hi
    rw [h i (by rw [List.length_append]; omega), List.getElem?_append_left hi]
  · intro i hi
    rw [show s + a.length + i = s + (a.length + i) by omega, h (a.length + i) (by rw [List.length_append]; omega), List.getElem?_append_right (by omega), show a.length + i - a.length = i by omega]
theorem pl_sl_cons {L b : List pl_S} {s : Nat} {r : pl_S} (h : pl_sl L s (r :: b)) : L[s]? = some r ∧ pl_sl L (s + 1) b := ⟨by have := h 0 (by rw [List.length_cons]; omega); simpa using this, (pl_sl_app (a := [r]) h).2⟩
theorem pl_sl_mid {a b c : List pl_S} : pl_sl (a ++ b ++ c) a.length b := by
  intro i hi
  rw [List.getElem?_append_left (by rw [List.length_append]; omega), List.getElem?_append_right (by omega), show a.length + i - a.length = i by omega]
theorem pl_od_get : ∀ (L : List pl_S) (a b i : Nat) (r : pl_S), pl_od L a b → L[i]? = some r → a ≤ r.2.1 ∧ r.2.1 ≤ r.2.2.2.2.2.2 ∧ r.2.2.2.2.2.2 ≤ b := by
  intro L
  induction L with
  | nil => intro a b i r _ h; cases h
  | cons e l ih =>
    intro a b i r h hi
    obtain ⟨⟨h1, h2⟩, h3⟩ := h
    have h4 := pl_od_le l _ _ h3
    cases i with
    | zero =>
      have e0 : e = r := Option.some.inj hi
      subst e0
      exact ⟨h1, h2, h4⟩
    | succ i =>
      have := ih _ _ i r h3 hi
      omega
theorem pl_od_lt : ∀ (L : List pl_S) (a b i j : Nat) (r r' : pl_S), pl_od L a b → i < j → L[i]? = some r → L[j]? = some r' → r.2.2.2.2.2.2 ≤ r'.2.1 := by
  intro L
  induction L with
  | nil => intro a b i j r r' _ _ h; cases h
  | cons e l ih =>
    intro a b i j r r' h hij hi hj
    obtain ⟨⟨h1, h2⟩, h3⟩ := h
    obtain ⟨j, rfl⟩ : ∃ z, j = z + 1 := ⟨j - 1, by omega⟩
    have hj' : l[j]? = some r' := hj
    cases i with
    | zero =>
      have e0 : e = r := Option.some.inj hi
      subst e0
      exact (pl_od_get l _ _ j r' h3 hj').1
    | succ i => exact ih _ _ i j r r' h3 (by omega) hi hj'
/-- where the operations of a statement begin -/
def pl_nq (σ : pr_St) (s q : Nat) : Prop := prf_G_firstOperationOf σ (nI s) = some (nI q)
theorem pl_nq_st {σ : pr_St} {s q n : Nat} (h : σ.1 2 11 = nI n) (hn : n ≤ 2000) (hs : s < n) (h19 : σ.2.1 19 s = nI q) : pl_nq σ s q := by
  unfold pl_nq prf_G_firstOperationOf prf_G_isStatement
  rw [h, if_neg (nI_pos (by omega)), if_neg (nI_ge hs (by omega)), pl_sb, if_neg pl_10, pl_ck (by omega) (by omega), nI_clamp (by omega), h19]
theorem pl_nq_end {σ : pr_St} {n q : Nat} (h : σ.1 2 11 = nI n) (hn : n ≤ 2000) (h14 : σ.1 2 14 = nI q) : pl_nq σ n q := by
  unfold pl_nq prf_G_firstOperationOf prf_G_isStatement
  rw [h, if_neg (nI_pos (by omega)), if_pos (Int32.le_refl _), pl_sb, if_pos rfl, h14]
