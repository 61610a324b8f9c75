/-! NEW OBJECTS, and one call of the law on both sides -/
/-- a new object of the class -/
def prIs_C : pr_St := (fun o k => if o = 4 then (if k = 14 then 1 else 0) else 0, fun _ _ => 0, fun _ _ => 0)
def prIs_X : pr_St := ((fun o k => if k = 10 then (-1) else if k = 49 then (-1) else 0, fun _ _ => 0, fun _ _ => 0) : pr_St)
def prIs_X1 : pr_St := (prf_X_nothing prIs_X).getD prIs_X
theorem prIs_X1_eq : prf_X_nothing prIs_X = some prIs_X1 := rfl
/-- one call of the law on both sides: the answers are the same, and K holds of what they leave -/
def prStep (xs : Nat → Int32) (i : Nat) (σ τ : pr_St) (K : pr_St → pr_St → Prop) : Prop :=
  if xs (6 * i) &&& 15 = 0 then ∃ (r : Int32) (σ1 τ1 : pr_St), prf_P_feed σ (xs (6 * i + 1)) (xs (6 * i + 2)) (xs (6 * i + 3)) (xs (6 * i + 4)) (xs (6 * i + 5)) = some (r, σ1) ∧ prf_X_feed τ (xs (6 * i + 1)) (xs (6 * i + 2)) (xs (6 * i + 3)) (xs (6 * i + 4)) (xs (6 * i + 5)) = some (r, τ1) ∧ K σ1 τ1 else
  if xs (6 * i) &&& 15 = 1 then ∃ (r : Int32) (σ1 τ1 : pr_St), prf_P_end σ (xs (6 * i + 1)) = some (r, σ1) ∧ prf_X_end τ (xs (6 * i + 1)) = some (r, τ1) ∧ K σ1 τ1 else
  if xs (6 * i) &&& 15 = 2 then ∃ r : Int32, prf_P_told σ (xs (6 * i + 1)) = some r ∧ prf_X_told τ (xs (6 * i + 1)) = some r ∧ K σ τ else
  if xs (6 * i) &&& 15 = 3 then ∃ r : Int32, prf_P_points σ  = some r ∧ prf_X_points τ  = some r ∧ K σ τ else
  if xs (6 * i) &&& 15 = 4 then ∃ r : Int32, prf_P_point σ (xs (6 * i + 1)) (xs (6 * i + 2)) = some r ∧ prf_X_point τ (xs (6 * i + 1)) (xs (6 * i + 2)) = some r ∧ K σ τ else
  if xs (6 * i) &&& 15 = 5 then ∃ (r : Int32) (σ1 τ1 : pr_St), prf_P_input σ (xs (6 * i + 1)) = some (r, σ1) ∧ prf_X_input τ (xs (6 * i + 1)) = some (r, τ1) ∧ K σ1 τ1 else
  if xs (6 * i) &&& 15 = 6 then ∃ (r : Int32) (σ1 τ1 : pr_St), prf_P_drop σ  = some (r, σ1) ∧ prf_X_drop τ  = some (r, τ1) ∧ K σ1 τ1 else
  if xs (6 * i) &&& 15 = 7 then ∃ (r : Int32) (σ1 τ1 : pr_St), prf_P_run σ (xs (6 * i + 1)) = some (r, σ1) ∧ prf_X_run τ (xs (6 * i + 1)) = some (r, τ1) ∧ K σ1 τ1 else
  if xs (6 * i) &&& 15 = 8 then ∃ r : Int32, prf_P_ran σ (xs (6 * i + 1)) = some r ∧ prf_X_ran τ (xs (6 * i + 1)) = some r ∧ K σ τ else
  if xs (6 * i) &&& 15 = 9 then ∃ r : Int32, prf_P_value σ (xs (6 * i + 1)) = some r ∧ prf_X_value τ (xs (6 * i + 1)) = some r ∧ K σ τ else
  if xs (6 * i) &&& 15 = 10 then ∃ r : Int32, prf_P_place σ (xs (6 * i + 1)) (xs (6 * i + 2)) = some r ∧ prf_X_place τ (xs (6 * i + 1)) (xs (6 * i + 2)) = some r ∧ K σ τ else
  K σ τ
