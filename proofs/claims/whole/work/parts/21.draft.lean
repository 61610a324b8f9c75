/-! THE PARSER: the reference's drafts -/
/-- a new draft -/
def pl_dr (τ : pr_St) (d : Nat) (k p v : Int32) : pr_St := pr_sI (pr_sA (pr_sA (pr_sA (pr_sA (pr_sA (pr_sA τ 6 (upd (τ.2.1 6) d k)) 7 (upd (τ.2.1 7) d p)) 8 (upd (τ.2.1 8) d v)) 9 (upd (τ.2.1 9) d (-1))) 10 (upd (τ.2.1 10) d (-1))) 11 (upd (τ.2.1 11) d (-1))) 0 17 (nI (d + 1))
theorem pl_draft {τ : pr_St} {d : Nat} (hd : τ.1 0 17 = nI d) (hlt : d < 26000) (k p v : Int32) : prf_X_draft τ k p v = some (nI d, pl_dr τ d k p v) := by
  unfold prf_X_draft pl_dr
  rw [hd, pl_ck hlt (by omega), pl_ck hlt (by omega), pl_ck hlt (by omega), pl_ck hlt (by omega), pl_ck hlt (by omega), pl_ck hlt (by omega), nI_clamp (by omega), nI_1, nI_pred]
def pl_FD (o k : Nat) : Bool := o == 0 && k == 17
def pl_GD (a : Nat) : Bool := a == 6 || a == 7 || a == 8 || a == 9 || a == 10 || a == 11
theorem pl_dr_fr {τ : pr_St} {d : Nat} {k p v : Int32} : pl_fr pl_FD pl_GD τ (pl_dr τ d k p v) := by
  unfold pl_dr
  exact pl_fr.tr (pl_fr.tr (pl_fr.tr (pl_fr.tr (pl_fr.tr (pl_fr.tr (pl_sA_fr (o := 6) rfl) (pl_sA_fr (o := 7) rfl)) (pl_sA_fr (o := 8) rfl)) (pl_sA_fr (o := 9) rfl)) (pl_sA_fr (o := 10) rfl)) (pl_sA_fr (o := 11) rfl)) (pl_sI_fr (o := 0) (k := 17) rfl)
theorem pl_dr_n {τ : pr_St} {d : Nat} {k p v : Int32} : (pl_dr τ d k p v).1 0 17 = nI (d + 1) := pr_sI_same
/-- the new draft's rows -/
theorem pl_dr_rows {τ : pr_St} {d : Nat} {k p v : Int32} : (pl_dr τ d k p v).2.1 6 = upd (τ.2.1 6) d k ∧ (pl_dr τ d k p v).2.1 7 = upd (τ.2.1 7) d p ∧ (pl_dr τ d k p v).2.1 8 = upd (τ.2.1 8) d v ∧ (pl_dr τ d k p v).2.1 9 = upd (τ.2.1 9) d (-1) ∧ (pl_dr τ d k p v).2.1 10 = upd (τ.2.1 10) d (-1) ∧ (pl_dr τ d k p v).2.1 11 = upd (τ.2.1 11) d (-1) := ⟨rfl, rfl, rfl, rfl, rfl, rfl⟩
theorem pl_nIm1 {x : Nat} (h : x < 2 ^ 31) : ¬ nI x = -1 := by
  intro q
  have a := congrArg Int32.toInt q
  rw [nI_toInt h] at a
  have b : (-1 : Int32).toInt = -1 := rfl
  omega
/-- joining: a first part, a later part, none -/
theorem pl_join0 {τ : pr_St} {x : Int32} : prf_X_join τ x (-1) = some τ := by
  unfold prf_X_join
  rw [if_pos rfl]
theorem pl_join1 {τ : pr_St} {x y : Nat} (hx : x < 26000) (hy : y < 26000) (h : τ.2.1 9 x = -1) : prf_X_join τ (nI x) (nI y) = some (pr_sA (pr_sA τ 9 (upd (τ.2.1 9) x (nI y))) 10 (upd (τ.2.1 10) x (nI y))) := by
  unfold prf_X_join
  rw [if_neg (pl_nIm1 (by omega)), pl_ck hx (by omega), nI_clamp (by omega), if_pos h, pl_ck hx (by omega), pl_ck hx (by omega)]
theorem pl_join2 {τ : pr_St} {x y z : Nat} (hx : x < 26000) (hy : y < 26000) (hz : z < 26000) (h : ¬ τ.2.1 9 x = -1) (hl : τ.2.1 10 x = nI z) : prf_X_join τ (nI x) (nI y) = some (pr_sA (pr_sA τ 11 (upd (τ.2.1 11) z (nI y))) 10 (upd (τ.2.1 10) x (nI y))) := by
  unfold prf_X_join
  rw [if_neg (pl_nIm1 (by omega)), pl_ck hx (by omega), nI_clamp (by omega), if_neg h, pl_ck hx (by omega), hl, pl_ck hz (by omega), pl_ck hx (by omega), nI_clamp (by omega)]
/-! bad: nothing is taken any more -/
theorem pl_needBad {τ : pr_St} (hb : τ.1 0 9 = 1) (x : Int32) : prf_X_need τ x = some τ := by
  unfold prf_X_need
  rw [hb, if_neg (show ¬ (1 : Int32) = 0 by decide)]
  by_cases h : x = 0
  · rw [if_pos h]
  · rw [if_neg h]
theorem pl_takeBad {τ : pr_St} (hb : τ.1 0 9 = 1) (x : Int32) : prf_X_take τ x = some (pr_sI τ 0 8 (τ.1 0 8)) := by
  unfold prf_X_take
  rw [pl_lookBad hb, pl_sb, pl_needBad hb, pl_needBad hb, pl_sb, hb, if_neg (show ¬ (1 : Int32) = 0 by decide)]
  by_cases h : (1 : Int32) = x
  · rw [if_pos h]
  · rw [if_neg h]
