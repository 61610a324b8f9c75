/-! THE MACHINE: single operations -/
def pm_FE (o k : Nat) : Bool := o == 7 && (k == 10 || k == 11 || k == 13)
def pm_GE (a : Nat) : Bool := a == 51
def pm_FT (o k : Nat) : Bool := o == 0 && (k == 58 || k == 59)
def pm_GT (_a : Nat) : Bool := false
/-- the tokens as the machine sees them -/
def pm_tv (T : pl_Tx) (σ : pr_St) : Prop := (∀ t, t < pl_xc T → prf_T_kindAt σ (nI t) = some (nI (pl_xK T t)) ∧ prf_T_valueAt σ (nI t) = some (nI (pl_vt T t))) ∧ (∀ t, t + 1 < pl_xc T → prf_T_limitAt σ (nI t) = some (pl_lim T t) ∧ prf_T_secondLimit σ (nI t) = some (nI (pl_sec T t))) ∧ pl_xc T ≤ 8001 ∧ (∀ t, t < pl_xc T → pl_xK T t < 35) ∧ ∀ t, 2 ≤ pl_xK T t → t + 1 < pl_xc T
theorem pm_tv_eq {T : pl_Tx} {σ σ' : pr_St} (h : pm_tv T σ) (h6 : σ'.1 1 6 = σ.1 1 6) (h9 : σ'.2.1 9 = σ.2.1 9) (h11 : σ'.2.1 11 = σ.2.1 11) : pm_tv T σ' := by
  have ek : ∀ x, prf_T_kindAt σ' x = prf_T_kindAt σ x := by intro x; unfold prf_T_kindAt; rw [h6, h9]
  have ev : ∀ x, prf_T_valueAt σ' x = prf_T_valueAt σ x := by intro x; unfold prf_T_valueAt; rw [h6, h11]
  have el : ∀ x, prf_T_limitAt σ' x = prf_T_limitAt σ x := by intro x; unfold prf_T_limitAt; rw [ek]; simp only [ev]
  have es : ∀ x, prf_T_secondLimit σ' x = prf_T_secondLimit σ x := by intro x; unfold prf_T_secondLimit; rw [ek]
  obtain ⟨h1, h2, h3⟩ := h
  exact ⟨fun t ht => by rw [ek, ev]; exact h1 t ht, fun t ht => by rw [el, es]; exact h2 t ht, h3⟩
/-- what stands while an expression is reckoned at a point -/
def pm_vc (T : pl_Tx) (m : Nat) (rep : Nat → Nat) (A E : List (Nat × Bool)) (z P nO : Nat) (σ τ : pr_St) : Prop :=
  pm_tv T σ ∧ (∀ j k, j < k → k < m → ¬ pl_sn T (rep j) (rep k)) ∧ m ≤ 8000 ∧ (σ.1 4 14 = nI (P + 1) ∧ z < P ∧ P ≤ 249 ∧ σ.1 2 14 = nI nO ∧ nO ≤ 8000) ∧ (σ.2.1 30 z = nI (pl_cnt false A) ∧ σ.2.1 31 z = nI (pl_cnt true A) ∧ pl_cnt false (A ++ E) ≤ 12 ∧ pl_cnt true (A ++ E) ≤ 6) ∧ (τ.1 0 55 = nI z ∧ τ.2.1 25 z = nI E.length) ∧
  (∀ i e, E[i]? = some e → (∃ id, τ.2.1 26 (40 * z + i) = nI id ∧ id < m ∧ pl_sn T (rep id) e.1) ∧ τ.2.1 27 (40 * z + i) = nI (pl_cnt e.2 (A ++ E.take i)) ∧ τ.2.1 28 (40 * z + i) = pl_rm T e ∧ (e.2 = true → 1 ≤ pl_vt T (e.1 + 2) ∧ pl_vt T (e.1 + 2) ≤ 64)) ∧
  (∀ j, j < 12 → σ.2.1 48 j = τ.2.1 34 j) ∧ (∀ j, j < 384 → σ.2.1 50 j = τ.2.1 35 j) ∧ (∀ i e, E[i]? = some e → e.2 = true → σ.2.1 49 (pl_cnt true (A ++ E.take i)) = pl_rm T e)
theorem pm_vc_fr {T : pl_Tx} {m : Nat} {rep : Nat → Nat} {A E : List (Nat × Bool)} {z P nO : Nat} {σ τ σ' τ' : pr_St} (h : pm_vc T m rep A E z P nO σ τ) (f1 : pl_fr pm_FE pm_GE σ σ') (f2 : pl_fr pm_FT pm_GT τ τ') : pm_vc T m rep A E z P nO σ' τ' := by
  obtain ⟨h1, h2, h3, h4, h5, h6, h7, h8, h9, h10⟩ := h
  refine ⟨pm_tv_eq h1 (f1.1 1 6 rfl) (f1.2.1 9 rfl) (f1.2.1 11 rfl), h2, h3, ?_, ?_, ?_, ?_, ?_, ?_, ?_⟩
  · rw [f1.1 4 14 rfl, f1.1 2 14 rfl]; exact h4
  · rw [f1.2.1 30 rfl, f1.2.1 31 rfl]; exact h5
  · rw [f2.1 0 55 rfl, f2.2.1 25 rfl]; exact h6
  · rw [f2.2.1 26 rfl, f2.2.1 27 rfl, f2.2.1 28 rfl]; exact h7
  · rw [f1.2.1 48 rfl, f2.2.1 34 rfl]; exact h8
  · rw [f1.2.1 50 rfl, f2.2.1 35 rfl]; exact h9
  · rw [f1.2.1 49 rfl]; exact h10
def pm_iv (ic rd : Nat) (σ τ : pr_St) : Prop := σ.1 7 4 = nI ic ∧ τ.1 0 51 = nI ic ∧ ic ≤ 400 ∧ (∀ j, j < ic → σ.2.1 47 j = τ.2.1 33 j) ∧ τ.1 0 58 = nI rd ∧ σ.1 7 10 = nI (min rd ic)
theorem pm_iv_eq {ic rd : Nat} {σ τ σ' τ' : pr_St} (h : pm_iv ic rd σ τ) (f1 : pl_fr pm_FE pm_GE σ σ') (f2 : pl_fr pm_FT pm_GT τ τ') (h1 : σ'.1 7 10 = σ.1 7 10) (h2 : τ'.1 0 58 = τ.1 0 58) : pm_iv ic rd σ' τ' := by
  obtain ⟨a1, a2, a3, a4, a5, a6⟩ := h
  exact ⟨by rw [f1.1 7 4 rfl]; exact a1, by rw [f2.1 0 51 rfl]; exact a2, a3, by rw [f1.2.1 47 rfl, f2.2.1 33 rfl]; exact a4, by rw [h2]; exact a5, by rw [h1]; exact a6⟩
/-- the pile of numbers that wait -/
def pm_ph (σ : pr_St) (c : Nat) (v : Int32) : pr_St := pr_sI (pr_sA σ 51 (upd (σ.2.1 51) c v)) 7 13 (nI (c + 1))
theorem pm_ph_fr {σ : pr_St} {c : Nat} {v : Int32} : pl_fr pm_FE pm_GE σ (pm_ph σ c v) := (pl_sA_fr (o := 51) rfl).tr (pl_sI_fr (o := 7) (k := 13) rfl)
theorem pm_push {σ : pr_St} {c : Nat} (h : σ.1 7 13 = nI c) (hc : c < 256) (v : Int32) : prf_M_push σ v = some (pm_ph σ c v) := by
  unfold prf_M_push
  rw [h, if_neg (nI_pos (by omega)), if_neg (show ¬ (256 : Int32) ≤ nI c from nI_ge (b := 256) hc (by omega)), pl_ck hc (by omega), nI_clamp (by omega), nI_1]
  rfl
theorem pm_pop {σ : pr_St} {c : Nat} (h : σ.1 7 13 = nI (c + 1)) (hc : c < 256) : prf_M_pop σ = some (σ.2.1 51 c, pr_sI σ 7 13 (nI c)) := by
  unfold prf_M_pop
  rw [h, if_neg (show ¬ nI (c + 1) ≤ 0 from fun q => nI_ge (a := 0) (b := c + 1) (by omega) (by omega) q), if_pos (show nI (c + 1) ≤ 256 from nI_le (b := 256) (by omega) (by omega)), pl_sub1, pl_ck hc (by omega), nI_clamp (by omega)]
theorem pm_wat {σ : pr_St} {c j : Nat} (h : σ.1 7 13 = nI c) (hj : j < c) (hc : c ≤ 256) : prf_M_waitingAt σ (nI j) = some (σ.2.1 51 j) := by
  unfold prf_M_waitingAt
  rw [h, if_neg (nI_pos (by omega)), if_neg (nI_ge hj (by omega)), if_neg (show ¬ (256 : Int32) ≤ nI j from nI_ge (b := 256) (by omega) (by omega)), pl_ck (by omega) (by omega), nI_clamp (by omega)]
/-- an operation of the class -/
theorem pm_opr {σ : pr_St} {nO q o : Nat} {x : Int32} (h14 : σ.1 2 14 = nI nO) (hn : nO ≤ 8000) (hq : q < nO) (h22 : σ.2.1 22 q = nI o) (h23 : σ.2.1 23 q = x) : prf_G_operationAt σ (nI q) = some (nI o) ∧ prf_G_operandAt σ (nI q) = some x := by
  unfold prf_G_operationAt prf_G_operandAt prf_G_isOperation
  rw [if_neg (nI_pos (by omega)), h14, if_neg (nI_ge hq (by omega)), pl_sb, pl_sb, if_neg pl_10, if_neg pl_10, pl_ck (by omega) (by omega), pl_ck (by omega) (by omega), nI_clamp (by omega), h22, h23]
  exact ⟨rfl, rfl⟩
theorem pm_opS {σ : pr_St} {nO q o g z qe : Nat} {x : Int32} (h14 : σ.1 2 14 = nI nO) (hn : nO ≤ 8000) (hq : q < nO) (hqe : q < qe) (hqn : qe ≤ nO) (ht : σ.1 7 11 = 0) (h22 : σ.2.1 22 q = nI o) (h23 : σ.2.1 23 q = x) (ho : o < 64) : prf_M_reckon_35 (g + 1) σ (nI z) (nI qe) (nI q) = if o = 32 ∨ o = 33 then prf_M_reckon_84 (prf_M_reckon_35 g) σ (nI z) (nI qe) (nI q) (nI o) x else if 21 ≤ o ∧ o ≤ 25 then (prf_M_reckonTwo σ (nI o)).bind fun r => prf_M_reckon_35 g r (nI z) (nI qe) (nI (q + 1)) else if 26 ≤ o ∧ o ≤ 31 then (prf_M_compareTwo σ (nI o)).bind fun r => prf_M_reckon_35 g r (nI z) (nI qe) (nI (q + 1)) else (prf_M_reckonOne σ (nI z) (nI o) x).bind fun r => prf_M_reckon_35 g r (nI z) (nI qe) (nI (q + 1)) := by
  obtain ⟨e1, e2⟩ := pm_opr h14 hn hq h22 h23
  rw [prf_M_reckon_35, if_neg (nI_ge hqe (by omega)), if_pos ht, e1, pl_sb, e2, pl_sb]
  by_cases q32 : o = 32
  · rw [if_pos (show nI o = 32 by rw [q32]; rfl), if_pos (Or.inl q32)]
  · rw [if_neg (pl_nn (j := 32) (v := 32) ho (by decide) rfl q32)]
    by_cases q33 : o = 33
    · rw [if_pos (show nI o = 33 by rw [q33]; rfl), if_pos (Or.inr q33)]
    · rw [if_neg (pl_nn (j := 33) (v := 33) ho (by decide) rfl q33), if_neg (show ¬ (o = 32 ∨ o = 33) by omega)]
      have l1 : ∀ (b : Nat) (v : Int32), b < 64 → nI b = v → (nI o < v ↔ o < b) := by
        intro b v hb hv
        rw [← hv]
        constructor
        · intro w
          by_cases hh : o < b
          · exact hh
          · exact absurd w (nI_nlt (by omega) (by omega))
        · intro w; exact nI_lt w (by omega)
      have l2 : ∀ (b : Nat) (v : Int32), b < 64 → nI b = v → (v < nI o ↔ b < o) := by
        intro b v hb hv
        rw [← hv]
        constructor
        · intro w
          by_cases hh : b < o
          · exact hh
          · exact absurd w (nI_nlt (by omega) (by omega))
        · intro w; exact nI_lt w (by omega)
      have e166 : prf_M_reckon_166 (prf_M_reckon_35 g) σ (nI z) (nI qe) (nI q) (nI o) x = if 26 ≤ o ∧ o ≤ 31 then (prf_M_compareTwo σ (nI o)).bind fun r => prf_M_reckon_35 g r (nI z) (nI qe) (nI (q + 1)) else (prf_M_reckonOne σ (nI z) (nI o) x).bind fun r => prf_M_reckon_35 g r (nI z) (nI qe) (nI (q + 1)) := by
        unfold prf_M_reckon_166
        rw [nI_1]
        by_cases c1 : o < 26
        · rw [if_pos ((l1 26 26 (by decide) rfl).mpr c1), if_neg (by omega)]
        · rw [if_neg (fun w => c1 ((l1 26 26 (by decide) rfl).mp w))]
          by_cases c2 : 31 < o
          · rw [if_pos ((l2 31 31 (by decide) rfl).mpr c2), if_neg (by omega)]
          · rw [if_neg (fun w => c2 ((l2 31 31 (by decide) rfl).mp w)), if_pos (by omega)]
      rw [e166, nI_1]
      by_cases c1 : o < 21
      · rw [if_pos ((l1 21 21 (by decide) rfl).mpr c1), if_neg (show ¬ (21 ≤ o ∧ o ≤ 25) by omega)]
      · rw [if_neg (fun w => c1 ((l1 21 21 (by decide) rfl).mp w))]
        by_cases c2 : 25 < o
        · rw [if_pos ((l2 25 25 (by decide) rfl).mpr c2), if_neg (show ¬ (21 ≤ o ∧ o ≤ 25) by omega)]
        · rw [if_neg (fun w => c2 ((l2 25 25 (by decide) rfl).mp w)), if_pos (show 21 ≤ o ∧ o ≤ 25 by omega)]
theorem pm_opT {σ : pr_St} {g : Nat} {x1 x3 x4 : Int32} (ht : ¬ σ.1 7 11 = 0) : prf_M_reckon_35 (g + 1) σ x1 x3 x4 = some σ := by
  rw [prf_M_reckon_35, if_neg ht]
  by_cases q : x3 ≤ x4
  · rw [if_pos q]
  · rw [if_neg q]
/-- an expression's value is found -/
def pm_EG (c ic rd' : Nat) (v : Int32) (σ τ σ' τ' : pr_St) : Prop := pl_fr pm_FE pm_GE σ σ' ∧ pl_fr pm_FT pm_GT τ τ' ∧ σ'.1 7 13 = nI (c + 1) ∧ σ'.2.1 51 c = v ∧ (∀ j, j < c → σ'.2.1 51 j = σ.2.1 51 j) ∧ σ'.1 7 11 = 0 ∧ τ'.1 0 59 = 0 ∧ pm_iv ic rd' σ' τ'
/-- a trap -/
def pm_EB (ic rd' : Nat) (w : Int32) (σ τ σ' τ' : pr_St) : Prop := pl_fr pm_FE pm_GE σ σ' ∧ pl_fr pm_FT pm_GT τ τ' ∧ (0 : Int32) < w ∧ σ'.1 7 11 = w ∧ τ'.1 0 59 = w ∧ pm_iv ic rd' σ' τ'
def pm_Ev (z qe q lO c ic rd f : Nat) (σ τ : pr_St) (X : Nat → Option (Int64 × pr_St)) : Prop :=
  (∃ (n : Nat) (v : Int32) (rd' : Nat) (σ' τ' : pr_St), n ≤ lO ∧ rd' ≤ rd + lO ∧ (∀ g, prf_M_reckon_35 (g + n) σ (nI z) (nI qe) (nI q) = prf_M_reckon_35 g σ' (nI z) (nI qe) (nI (q + lO))) ∧ (∀ h, f ≤ h → X h = some (v.toInt64, τ')) ∧ pm_EG c ic rd' v σ τ σ' τ') ∨
  (∃ (n : Nat) (w : Int32) (rd' : Nat) (σ' τ' : pr_St), n ≤ lO + 1 ∧ rd' ≤ rd + lO ∧ (∀ g, prf_M_reckon_35 (g + n) σ (nI z) (nI qe) (nI q) = some σ') ∧ (∀ h, f ≤ h → ∃ v64, X h = some (v64, τ')) ∧ pm_EB ic rd' w σ τ σ' τ')
/-- two numbers reckoned together -/
theorem pm_two {σ τ : pr_St} {c kd : Nat} (hk : (18 ≤ kd ∧ kd ≤ 23) ∧ ¬ kd = 20) (h13 : σ.1 7 13 = nI (c + 2)) (hc : c + 2 ≤ 256) (h59 : τ.1 0 59 = 0) : (∃ v : Int32, prf_M_reckonTwo σ (nI (pl_opk kd)) = some (pm_ph (pr_sI (pr_sI σ 7 13 (nI (c + 1))) 7 13 (nI c)) c v) ∧ prf_X_operated τ (nI kd) (σ.2.1 51 c).toInt64 (σ.2.1 51 (c + 1)).toInt64 = some (v.toInt64, τ)) ∨ (∃ w : Int32, (0 : Int32) < w ∧ prf_M_reckonTwo σ (nI (pl_opk kd)) = some (pr_sI (pr_sI (pr_sI σ 7 13 (nI (c + 1))) 7 13 (nI c)) 7 11 w) ∧ prf_X_operated τ (nI kd) (σ.2.1 51 c).toInt64 (σ.2.1 51 (c + 1)).toInt64 = some (0, pr_sI τ 0 59 w)) := by
  obtain ⟨a, ha⟩ : ∃ a, a = σ.2.1 51 c := ⟨_, rfl⟩
  obtain ⟨b, hb⟩ : ∃ b, b = σ.2.1 51 (c + 1) := ⟨_, rfl⟩
  obtain ⟨σb, hσb⟩ : ∃ σb, σb = pr_sI (pr_sI σ 7 13 (nI (c + 1))) 7 13 (nI c) := ⟨_, rfl⟩
  have p1 := pm_pop (σ := σ) (c := c + 1) h13 (by omega)
  have p2 := pm_pop (σ := pr_sI σ 7 13 (nI (c + 1))) (c := c) pr_sI_same (by omega)
  have p2' : prf_M_pop (pr_sI σ 7 13 (nI (c + 1))) = some (a, σb) := by rw [p2, hσb, ha]; rfl
  rw [← hb] at p1
  rw [← ha, ← hb, ← hσb]
  have hbc : σb.1 7 13 = nI c := by rw [hσb]; exact pr_sI_same
  have pu : ∀ v, prf_M_push σb v = some (pm_ph σb c v) := fun v => pm_push hbc (by omega) v
  have head : ∀ k : Int32, prf_M_reckonTwo σ k = if k = 21 then ((prf_M_pushIfInt σb (a.toInt64 + b.toInt64)).bind fun r => some r) else if k = 22 then ((prf_M_pushIfInt σb (a.toInt64 - b.toInt64)).bind fun r => some r) else if k = 23 then ((prf_M_pushIfInt σb (a.toInt64 * b.toInt64)).bind fun r => some r) else if b = 0 then some (pr_sI σb 7 11 2) else if k = 24 then (pr_nzl b.toInt64 <| (prf_M_pushIfInt σb (a.toInt64 / b.toInt64)).bind fun r => some r) else (pr_nzl b.toInt64 <| (prf_M_pushIfInt σb (a.toInt64 - a.toInt64 / b.toInt64 * b.toInt64)).bind fun r => some r) := by
    intro k
    unfold prf_M_reckonTwo
    rw [p1, pl_sb]
    dsimp only
    rw [p2', pl_sb]
  have fin : ∀ x : Int64, (∃ v : Int32, ((prf_M_pushIfInt σb x).bind fun r => some r) = some (pm_ph σb c v) ∧ ((prf_X_whole τ x).bind fun r => some (r.1, r.2)) = some (v.toInt64, τ)) ∨ (((prf_M_pushIfInt σb x).bind fun r => some r) = some (pr_sI σb 7 11 1) ∧ ((prf_X_whole τ x).bind fun r => some (r.1, r.2)) = some (0, pr_sI τ 0 59 1)) := by
    intro x
    rcases pl_whole (σ := σb) (τ := τ) h59 x with ⟨v, _, e2, e3⟩ | ⟨e2, e3⟩
    · exact Or.inl ⟨v, by rw [e2, pu v]; rfl, by rw [e3]; rfl⟩
    · exact Or.inr ⟨by rw [e2]; rfl, by rw [e3]; rfl⟩
  have fin' : ∀ (x : Int64) (R : Option pr_St) (Q : Option (Int64 × pr_St)), R = ((prf_M_pushIfInt σb x).bind fun r => some r) → Q = ((prf_X_whole τ x).bind fun r => some (r.1, r.2)) → (∃ v : Int32, R = some (pm_ph σb c v) ∧ Q = some (v.toInt64, τ)) ∨ (∃ w : Int32, (0 : Int32) < w ∧ R = some (pr_sI σb 7 11 w) ∧ Q = some (0, pr_sI τ 0 59 w)) := by
    intro x R Q hR hQ
    rw [hR, hQ]
    rcases fin x with h | ⟨h1, h2⟩
    · exact Or.inl h
    · exact Or.inr ⟨1, by decide, h1, h2⟩
  have hdiv : ∀ (k : Nat), k = 22 ∨ k = 23 → ∀ R, ((b = 0 → R = some (pr_sI σb 7 11 2)) ∧ (¬ b = 0 → R = ((prf_M_pushIfInt σb (if k = 22 then a.toInt64 / b.toInt64 else a.toInt64 - a.toInt64 / b.toInt64 * b.toInt64)).bind fun r => some r))) → (∃ v : Int32, R = some (pm_ph σb c v) ∧ prf_X_operated τ (nI k) a.toInt64 b.toInt64 = some (v.toInt64, τ)) ∨ (∃ w : Int32, (0 : Int32) < w ∧ R = some (pr_sI σb 7 11 w) ∧ prf_X_operated τ (nI k) a.toInt64 b.toInt64 = some (0, pr_sI τ 0 59 w)) := by
    intro k hk R ⟨hR1, hR2⟩
    have n21 : ¬ nI k ≤ 21 := by rcases hk with rfl | rfl <;> decide
    by_cases qb : b = 0
    · refine Or.inr ⟨2, by decide, hR1 qb, ?_⟩
      unfold prf_X_operated
      rw [if_neg n21, if_pos ((lg_cmp_eq _ _).mpr ((pl_0_64 b).mpr qb))]
      unfold prf_X_trapped
      rw [if_pos h59, pl_sb]
    · have qb' : ¬ b.toInt64 = 0 := fun w => qb ((pl_0_64 b).mp w)
      refine fin' _ R _ (hR2 qb) ?_
      unfold prf_X_operated prf_X_operated_19
      rw [if_neg n21, if_neg (fun w => qb' ((lg_cmp_eq _ _).mp w))]
      rcases hk with rfl | rfl
      · rw [if_neg (by decide), if_neg (by decide), if_neg (by decide), if_pos (by rfl), if_pos rfl]
        unfold pr_nzl
        rw [if_neg qb']
      · rw [if_neg (by decide), if_neg (by decide), if_neg (by decide), if_neg (by decide), if_neg (by decide)]
        unfold pr_nzl
        rw [if_neg qb']
  rw [head]
  obtain ⟨⟨g1, g2⟩, g3⟩ := hk
  have hcases : kd = 18 ∨ kd = 19 ∨ kd = 21 ∨ kd = 22 ∨ kd = 23 := by omega
  rcases hcases with rfl | rfl | rfl | rfl | rfl
  · rw [if_pos (by decide)]
    refine fin' _ _ _ rfl ?_
    unfold prf_X_operated prf_X_operated_19
    rw [if_pos (by decide), if_pos (by decide)]
  · rw [if_neg (by decide), if_pos (by decide)]
    refine fin' _ _ _ rfl ?_
    unfold prf_X_operated prf_X_operated_19
    rw [if_pos (by decide), if_neg (by decide), if_pos (by decide)]
  · rw [if_neg (by decide), if_neg (by decide), if_pos (by decide)]
    refine fin' _ _ _ rfl ?_
    unfold prf_X_operated prf_X_operated_19
    rw [if_pos (by decide), if_neg (by decide), if_neg (by decide), if_pos (by decide)]
  · refine hdiv 22 (Or.inl rfl) _ ⟨fun qb => ?_, fun qb => ?_⟩
    · rw [if_neg (by decide), if_neg (by decide), if_neg (by decide), if_pos qb]
    · rw [if_neg (by decide), if_neg (by decide), if_neg (by decide), if_neg qb, if_pos (by decide), if_pos rfl]
      unfold pr_nzl
      rw [if_neg (fun w => qb ((pl_0_64 b).mp w))]
  · refine hdiv 23 (Or.inr rfl) _ ⟨fun qb => ?_, fun qb => ?_⟩
    · rw [if_neg (by decide), if_neg (by decide), if_neg (by decide), if_pos qb]
    · rw [if_neg (by decide), if_neg (by decide), if_neg (by decide), if_neg qb, if_neg (by decide), if_neg (by decide)]
      unfold pr_nzl
      rw [if_neg (fun w => qb ((pl_0_64 b).mp w))]
