/-! THE MACHINE: numbers of 32 and of 64 bits -/
theorem pl_6432 (x : Int32) : x.toInt64.toInt32 = x := by
  apply Int32.toInt_inj.mp
  rw [Int64.toInt_toInt32, Int32.toInt_toInt64]
  have h1 := x.toInt_lt
  have h2 := x.le_toInt
  rw [Int.bmod_def]
  split <;> omega
theorem pl_3264 (x : Int64) (h1 : -2147483648 ≤ x) (h2 : x ≤ 2147483647) : x.toInt32.toInt64 = x := by
  have g1 : (-2147483648 : Int) ≤ x.toInt := by
    have := Int64.le_iff_toInt_le.mp h1
    exact this
  have g2 : x.toInt ≤ 2147483647 := by
    have := Int64.le_iff_toInt_le.mp h2
    exact this
  apply Int64.toInt_inj.mp
  rw [Int32.toInt_toInt64, Int64.toInt_toInt32, Int.bmod_def]
  split <;> omega
theorem pl_lt64 (x y : Int32) : x.toInt64 < y.toInt64 ↔ x < y := by
  rw [Int64.lt_iff_toInt_lt, Int32.lt_iff_toInt_lt, Int32.toInt_toInt64, Int32.toInt_toInt64]
theorem pl_le64 (x y : Int32) : x.toInt64 ≤ y.toInt64 ↔ x ≤ y := by
  rw [Int64.le_iff_toInt_le, Int32.le_iff_toInt_le, Int32.toInt_toInt64, Int32.toInt_toInt64]
theorem pl_eq64 (x y : Int32) : x.toInt64 = y.toInt64 ↔ x = y := by
  constructor
  · intro h
    have := congrArg Int64.toInt32 h
    rw [pl_6432, pl_6432] at this
    exact this
  · intro h; rw [h]
theorem pl_0_64 (x : Int32) : x.toInt64 = 0 ↔ x = 0 := by
  have := pl_eq64 x 0
  exact this
/-- what comes out of a 64-bit result -/
theorem pl_whole {σ τ : pr_St} (h59 : τ.1 0 59 = 0) (x : Int64) : (∃ v : Int32, x = v.toInt64 ∧ prf_M_pushIfInt σ x = prf_M_push σ v ∧ prf_X_whole τ x = some (v.toInt64, τ)) ∨ (prf_M_pushIfInt σ x = some (pr_sI σ 7 11 1) ∧ prf_X_whole τ x = some (0, pr_sI τ 0 59 1)) := by
  have etr : prf_X_trapped τ 1 = some (0, pr_sI τ 0 59 1) := by unfold prf_X_trapped; rw [if_pos h59]
  unfold prf_M_pushIfInt prf_X_whole
  by_cases q1 : x < -2147483648
  · rw [if_pos ((lg_cmp_lt _ _).mpr q1), if_pos ((lg_cmp_lt _ _).mpr q1), etr, pl_sb]
    exact Or.inr ⟨rfl, rfl⟩
  · rw [if_neg (fun w => q1 ((lg_cmp_lt _ _).mp w)), if_neg (fun w => q1 ((lg_cmp_lt _ _).mp w))]
    by_cases q2 : x ≤ 2147483647
    · rw [if_pos ((lg_cmp_le _ _).mpr q2), if_pos ((lg_cmp_le _ _).mpr q2)]
      have e := pl_3264 x (Int64.not_lt.mp q1) q2
      refine Or.inl ⟨x.toInt32, e.symm, ?_, by rw [e]⟩
      cases prf_M_push σ x.toInt32 with
      | none => rfl
      | some v => rfl
    · rw [if_neg (fun w => q2 ((lg_cmp_le _ _).mp w)), if_neg (fun w => q2 ((lg_cmp_le _ _).mp w)), etr, pl_sb]
      exact Or.inr ⟨rfl, rfl⟩
