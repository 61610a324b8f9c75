/-! ONE CALL ON A FRESH PAIR: the answers are the same -/
theorem pr_fst1 {α β : Type} {o : Option (α × β)} {r : α} (h : o.map Prod.fst = some r) : ∃ s, o = some (r, s) := by
  cases o with
  | none => cases h
  | some x => exact ⟨x.2, by rw [← Option.some.inj h]⟩
theorem pr_one_end (x : Int32) : ∃ (r : Int32) (σ1 τ1 : pr_St), prf_P_end prIs_C x = some (r, σ1) ∧ prf_X_end prIs_X1 x = some (r, τ1) ∧ True := by
  by_cases h1 : x < 0
  · refine ⟨-1, prIs_C, prIs_X1, ?_, ?_, trivial⟩
    · unfold prf_P_end; rw [if_pos h1]
    · unfold prf_X_end; rw [if_pos h1]
  · by_cases h2 : x ≤ 0
    · have h0 : x = 0 := Int32.le_antisymm h2 (Int32.not_lt.mp h1)
      subst h0
      obtain ⟨σ1, e1⟩ := pr_fst1 (show (prf_P_end prIs_C 0).map Prod.fst = some 1 by decide +kernel)
      obtain ⟨τ1, e2⟩ := pr_fst1 (show (prf_X_end prIs_X1 0).map Prod.fst = some 1 by decide +kernel)
      exact ⟨1, σ1, τ1, e1, e2, trivial⟩
    · refine ⟨-1, prIs_C, prIs_X1, ?_, ?_, trivial⟩
      · unfold prf_P_end
        rw [if_neg h1]
        show (prf_T_bytes prIs_C).bind _ = _
        show (if x ≤ 0 then _ else _) = _
        rw [if_neg h2]
      · unfold prf_X_end
        rw [if_neg h1]
        show (if x ≤ 0 then _ else _) = _
        rw [if_neg h2]
theorem pr_one_run (x : Int32) : ∃ (r : Int32) (σ1 τ1 : pr_St), prf_P_run prIs_C x = some (r, σ1) ∧ prf_X_run prIs_X1 x = some (r, τ1) ∧ True := by
  unfold prf_P_run prf_X_run
  by_cases h1 : x < 0
  · rw [if_pos h1, if_pos h1]
    exact ⟨-1, _, _, rfl, rfl, trivial⟩
  · rw [if_neg h1, if_neg h1]
    by_cases h2 : x ≤ 2000
    · rw [if_pos h2, if_pos h2]
      unfold prf_M_runSteps prf_M_forget
      show ∃ (r : Int32) (σ1 τ1 : pr_St), (prf_M_runSteps_6 (99999 + 1) _ x 0).bind _ = _ ∧ prf_X_run_33 (99999 + 1) _ x = _ ∧ True
      rw [prf_M_runSteps_6, prf_X_run_33]
      by_cases h3 : x ≤ 0
      · rw [if_pos h3, if_pos (show x ≤ ((pr_sI (pr_sI (pr_sI (pr_sI prIs_X1 0 55 0) 0 56 0) 0 58 0) 0 59 0).1 0 56) from h3)]
        exact ⟨0, _, _, rfl, rfl, trivial⟩
      · rw [if_neg h3, if_neg (show ¬ x ≤ ((pr_sI (pr_sI (pr_sI (pr_sI prIs_X1 0 55 0) 0 56 0) 0 58 0) 0 59 0).1 0 56) from h3)]
        exact ⟨0, _, _, rfl, rfl, trivial⟩
    · rw [if_neg h2, if_neg h2]
      exact ⟨-1, _, _, rfl, rfl, trivial⟩
theorem pr_one_point (x y : Int32) : ∃ r : Int32, prf_P_point prIs_C x y = some r ∧ prf_X_point prIs_X1 x y = some r ∧ True := by
  by_cases h1 : x < 0
  · refine ⟨-1, ?_, ?_, trivial⟩
    · unfold prf_P_point; rw [if_pos h1]
    · unfold prf_X_point; rw [if_pos h1]
  · by_cases h2 : x < 1
    · have h0 : x = 0 := by
        have a := Int32.le_iff_toInt_le.mp (Int32.not_lt.mp h1)
        have b := Int32.lt_iff_toInt_lt.mp h2
        apply Int32.toInt_inj.mp
        have e0 : (0 : Int32).toInt = 0 := rfl
        have e1 : (1 : Int32).toInt = 1 := rfl
        omega
      subst h0
      by_cases y0 : y = 0
      · subst y0; exact ⟨0, by decide +kernel, by decide +kernel, trivial⟩
      · by_cases y1 : y = 1
        · subst y1; exact ⟨0, by decide +kernel, by decide +kernel, trivial⟩
        · by_cases y2 : y = 2
          · subst y2; exact ⟨0, by decide +kernel, by decide +kernel, trivial⟩
          · by_cases y3 : y = 3
            · subst y3; exact ⟨0, by decide +kernel, by decide +kernel, trivial⟩
            · by_cases y4 : y = 4
              · subst y4; exact ⟨0, by decide +kernel, by decide +kernel, trivial⟩
              · refine ⟨-1, ?_, ?_, trivial⟩
                · unfold prf_P_point prf_O_count
                  rw [if_neg (by decide)]
                  show (if (0 : Int32) < 1 then (if y = 0 then _ else _) else some (-1)) = _
                  rw [if_pos (by decide), if_neg y0, if_neg y1, if_neg y2, if_neg y3, if_neg y4]
                · unfold prf_X_point
                  rw [if_neg (by decide)]
                  show (if (1 : Int32) ≤ 0 then _ else _) = _
                  rw [if_neg (by decide)]
                  by_cases h5 : y < 0
                  · rw [if_pos h5]
                  · rw [if_neg h5]
                    have h6 : ¬ y ≤ 4 := by
                      intro h6
                      have a := Int32.le_iff_toInt_le.mp (Int32.not_lt.mp h5)
                      have b := Int32.le_iff_toInt_le.mp h6
                      have e0 : (0 : Int32).toInt = 0 := rfl
                      have e1 : (1 : Int32).toInt = 1 := rfl
                      have e2 : (2 : Int32).toInt = 2 := rfl
                      have e3 : (3 : Int32).toInt = 3 := rfl
                      have e4 : (4 : Int32).toInt = 4 := rfl
                      have c0 : ¬ y.toInt = 0 := fun q => y0 (Int32.toInt_inj.mp (by rw [q, e0]))
                      have c1 : ¬ y.toInt = 1 := fun q => y1 (Int32.toInt_inj.mp (by rw [q, e1]))
                      have c2 : ¬ y.toInt = 2 := fun q => y2 (Int32.toInt_inj.mp (by rw [q, e2]))
                      have c3 : ¬ y.toInt = 3 := fun q => y3 (Int32.toInt_inj.mp (by rw [q, e3]))
                      have c4 : ¬ y.toInt = 4 := fun q => y4 (Int32.toInt_inj.mp (by rw [q, e4]))
                      omega
                    rw [if_neg h6]
    · refine ⟨-1, ?_, ?_, trivial⟩
      · unfold prf_P_point prf_O_count
        rw [if_neg h1]
        show (if x < 1 then _ else _) = _
        rw [if_neg h2]
      · unfold prf_X_point
        rw [if_neg h1]
        show (if (1 : Int32) ≤ x then _ else _) = _
        rw [if_pos (Int32.not_lt.mp h2)]
theorem pr_one_value (x : Int32) : ∃ r : Int32, prf_P_value prIs_C x = some r ∧ prf_X_value prIs_X1 x = some r ∧ True := by
  unfold prf_P_value prf_M_numberIn prf_X_value
  by_cases h1 : x < 0
  · rw [if_pos h1, if_pos h1]
    exact ⟨0, rfl, rfl, trivial⟩
  · rw [if_neg h1, if_neg h1]
    refine ⟨0, ?_, ?_, trivial⟩
    · show ((if (0 : Int32) ≤ x then _ else _) : Option Int32).bind _ = _
      rw [if_pos (Int32.not_lt.mp h1)]
      rfl
    · show (if x < (0 : Int32) then _ else _) = _
      rw [if_neg h1]
theorem pr_one_place (x y : Int32) : ∃ r : Int32, prf_P_place prIs_C x y = some r ∧ prf_X_place prIs_X1 x y = some r ∧ True := by
  unfold prf_P_place prf_M_placeIn prf_X_place
  by_cases h1 : x < 0
  · rw [if_pos h1, if_pos h1]
    exact ⟨0, rfl, rfl, trivial⟩
  · rw [if_neg h1, if_neg h1]
    refine ⟨0, ?_, ?_, trivial⟩
    · show ((if (0 : Int32) ≤ x then _ else _) : Option Int32).bind _ = _
      rw [if_pos (Int32.not_lt.mp h1)]
      rfl
    · show (if (0 : Int32) ≤ x then _ else _) = _
      rw [if_pos (Int32.not_lt.mp h1)]
theorem pr_one_ran (x : Int32) : ∃ r : Int32, prf_P_ran prIs_C x = some r ∧ prf_X_ran prIs_X1 x = some r ∧ True := by
  unfold prf_P_ran prf_X_ran
  by_cases h0 : x = 0
  · rw [if_pos h0, if_pos h0]; exact ⟨0, rfl, rfl, trivial⟩
  · rw [if_neg h0, if_neg h0]
    by_cases h1 : x = 1
    · rw [if_pos h1, if_pos h1]; exact ⟨0, rfl, rfl, trivial⟩
    · rw [if_neg h1, if_neg h1]
      by_cases h2 : x = 2
      · rw [if_pos h2, if_pos h2]; exact ⟨0, rfl, rfl, trivial⟩
      · rw [if_neg h2, if_neg h2]; exact ⟨-1, rfl, rfl, trivial⟩
/-- a fresh pair -/
def pr_fresh (i : Nat) (σ τ : pr_St) : Prop := i = 0 → σ = prIs_C ∧ τ = prIs_X1
theorem pr_one (xs : Nat → Int32) : prStep xs 0 prIs_C prIs_X1 (fun _ _ => True) := by
  have hB : pl_RB prIs_C prIs_X1 := ⟨0, by omega, rfl, rfl, fun j hj => absurd hj (by omega)⟩
  have hI : pl_RI prIs_C prIs_X1 := ⟨0, by omega, rfl, rfl, fun j hj => absurd hj (by omega)⟩
  have hT : pl_RT prIs_C prIs_X1 := Or.inl ⟨rfl, rfl⟩
  unfold prStep
  by_cases k0 : xs (6 * 0) &&& 15 = 0
  · rw [if_pos k0]
    obtain ⟨r, s, t, a, b, _⟩ := pl_feed hB (xs (6 * 0 + 1)) (xs (6 * 0 + 2)) (xs (6 * 0 + 3)) (xs (6 * 0 + 4)) (xs (6 * 0 + 5))
    exact ⟨r, s, t, a, b, trivial⟩
  rw [if_neg k0]
  by_cases k1 : xs (6 * 0) &&& 15 = 1
  · rw [if_pos k1]; exact pr_one_end _
  rw [if_neg k1]
  by_cases k2 : xs (6 * 0) &&& 15 = 2
  · rw [if_pos k2]
    obtain ⟨r, a, b⟩ := pl_told hT (xs (6 * 0 + 1))
    exact ⟨r, a, b, trivial⟩
  rw [if_neg k2]
  by_cases k3 : xs (6 * 0) &&& 15 = 3
  · rw [if_pos k3]; exact ⟨1, rfl, rfl, trivial⟩
  rw [if_neg k3]
  by_cases k4 : xs (6 * 0) &&& 15 = 4
  · rw [if_pos k4]; exact pr_one_point _ _
  rw [if_neg k4]
  by_cases k5 : xs (6 * 0) &&& 15 = 5
  · rw [if_pos k5]
    obtain ⟨r, s, t, a, b, _⟩ := pl_input hI (xs (6 * 0 + 1))
    exact ⟨r, s, t, a, b, trivial⟩
  rw [if_neg k5]
  by_cases k6 : xs (6 * 0) &&& 15 = 6
  · rw [if_pos k6]
    obtain ⟨r, s, t, a, b, _⟩ := pl_drop hI
    exact ⟨r, s, t, a, b, trivial⟩
  rw [if_neg k6]
  by_cases k7 : xs (6 * 0) &&& 15 = 7
  · rw [if_pos k7]; exact pr_one_run _
  rw [if_neg k7]
  by_cases k8 : xs (6 * 0) &&& 15 = 8
  · rw [if_pos k8]; exact pr_one_ran _
  rw [if_neg k8]
  by_cases k9 : xs (6 * 0) &&& 15 = 9
  · rw [if_pos k9]; exact pr_one_value _
  rw [if_neg k9]
  by_cases k10 : xs (6 * 0) &&& 15 = 10
  · rw [if_pos k10]; exact pr_one_place _ _
  rw [if_neg k10]
  trivial
/-- a step with less asked of what it leaves -/
theorem pr_step_mono {xs : Nat → Int32} {i : Nat} {σ τ : pr_St} {K K' : pr_St → pr_St → Prop} (h : prStep xs i σ τ K) (hk : ∀ σ1 τ1, K σ1 τ1 → K' σ1 τ1) : prStep xs i σ τ K' := by
  unfold prStep at h ⊢
  by_cases k0 : xs (6 * i) &&& 15 = 0
  · rw [if_pos k0] at h ⊢
    obtain ⟨r, s1, t1, a, b, c⟩ := h
    exact ⟨r, s1, t1, a, b, hk _ _ c⟩
  rw [if_neg k0] at h ⊢
  by_cases k1 : xs (6 * i) &&& 15 = 1
  · rw [if_pos k1] at h ⊢
    obtain ⟨r, s1, t1, a, b, c⟩ := h
    exact ⟨r, s1, t1, a, b, hk _ _ c⟩
  rw [if_neg k1] at h ⊢
  by_cases k2 : xs (6 * i) &&& 15 = 2
  · rw [if_pos k2] at h ⊢
    obtain ⟨r, a, b, c⟩ := h
    exact ⟨r, a, b, hk _ _ c⟩
  rw [if_neg k2] at h ⊢
  by_cases k3 : xs (6 * i) &&& 15 = 3
  · rw [if_pos k3] at h ⊢
    obtain ⟨r, a, b, c⟩ := h
    exact ⟨r, a, b, hk _ _ c⟩
  rw [if_neg k3] at h ⊢
  by_cases k4 : xs (6 * i) &&& 15 = 4
  · rw [if_pos k4] at h ⊢
    obtain ⟨r, a, b, c⟩ := h
    exact ⟨r, a, b, hk _ _ c⟩
  rw [if_neg k4] at h ⊢
  by_cases k5 : xs (6 * i) &&& 15 = 5
  · rw [if_pos k5] at h ⊢
    obtain ⟨r, s1, t1, a, b, c⟩ := h
    exact ⟨r, s1, t1, a, b, hk _ _ c⟩
  rw [if_neg k5] at h ⊢
  by_cases k6 : xs (6 * i) &&& 15 = 6
  · rw [if_pos k6] at h ⊢
    obtain ⟨r, s1, t1, a, b, c⟩ := h
    exact ⟨r, s1, t1, a, b, hk _ _ c⟩
  rw [if_neg k6] at h ⊢
  by_cases k7 : xs (6 * i) &&& 15 = 7
  · rw [if_pos k7] at h ⊢
    obtain ⟨r, s1, t1, a, b, c⟩ := h
    exact ⟨r, s1, t1, a, b, hk _ _ c⟩
  rw [if_neg k7] at h ⊢
  by_cases k8 : xs (6 * i) &&& 15 = 8
  · rw [if_pos k8] at h ⊢
    obtain ⟨r, a, b, c⟩ := h
    exact ⟨r, a, b, hk _ _ c⟩
  rw [if_neg k8] at h ⊢
  by_cases k9 : xs (6 * i) &&& 15 = 9
  · rw [if_pos k9] at h ⊢
    obtain ⟨r, a, b, c⟩ := h
    exact ⟨r, a, b, hk _ _ c⟩
  rw [if_neg k9] at h ⊢
  by_cases k10 : xs (6 * i) &&& 15 = 10
  · rw [if_pos k10] at h ⊢
    obtain ⟨r, a, b, c⟩ := h
    exact ⟨r, a, b, hk _ _ c⟩
  rw [if_neg k10] at h ⊢
  exact hk _ _ h
theorem whole_start {p : Program} {e : Env} {s : State} {m : MethodId} {below : List Frame} {meth : Method} {c : Code} (l : Launch) {b L : Nat} {xs : Nat → Int32} (hL : L ≤ 6) (C0 : lw_At p s m meth c b L xs) : W p l e room_1 s m #[Value.ref b] below meth c s.heap [] 0 0 (lw_Z below #[Value.ref b] s) (entryFrame m ([Value.ref b] : List Value).toArray 4) := by
  refine pr_start l (Nat.le_trans hL (by decide)) C0 pr_fresh (fun _ => ⟨rfl, rfl⟩) (fun i σ τ h hi => ?_)
  have hi0 : i = 0 := by omega
  subst hi0
  obtain ⟨rfl, rfl⟩ := h rfl
  exact pr_step_mono (pr_one xs) (fun _ _ _ => fun q => absurd q (by omega))
