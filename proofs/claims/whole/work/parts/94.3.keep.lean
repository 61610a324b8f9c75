/-! WHAT STANDS BETWEEN TWO CALLS, kept by each of them -/
theorem pm_B8 (x s : Int32) : (pl_B x s).toInt8.toInt32 = pl_B x s := by
  unfold pl_B
  rw [Int8.toInt8_toInt32]
theorem pm_add8 {σ σ' : pr_St} {b : Nat} {x : Int32} (h : pl_by8 σ) (h4 : ∀ j, σ'.2.1 8 j = if j = b + 3 then pl_B x 0 else if j = b + 2 then pl_B x 8 else if j = b + 1 then pl_B x 16 else if j = b then pl_B x 24 else σ.2.1 8 j) : pl_by8 σ' := by
  intro j
  rw [h4 j]
  by_cases q1 : j = b + 3
  · rw [if_pos q1]; exact pm_B8 _ _
  rw [if_neg q1]
  by_cases q2 : j = b + 2
  · rw [if_pos q2]; exact pm_B8 _ _
  rw [if_neg q2]
  by_cases q3 : j = b + 1
  · rw [if_pos q3]; exact pm_B8 _ _
  rw [if_neg q3]
  by_cases q4 : j = b
  · rw [if_pos q4]; exact pm_B8 _ _
  rw [if_neg q4]
  exact h j
theorem pm_feed8 {σ σ' : pr_St} {r : Int32} {b : Nat} (h8 : pl_by8 σ) (hb : b ≤ 8000) (e1 : σ.1 1 1 = nI b) {x1 x2 x3 x4 x5 : Int32} (h : prf_P_feed σ x1 x2 x3 x4 x5 = some (r, σ')) : pl_by8 σ' := by
  unfold prf_P_feed prf_T_bytes at h
  rw [pl_sb, e1, show (20 : Int32) = nI 20 from rfl, nI_add] at h
  by_cases hc : b + 20 ≤ 8000
  · have hle : nI (b + 20) ≤ 8000 := nI_le (b := 8000) hc (by omega)
    obtain ⟨s1, f1, g1, h1, k1⟩ := pl_add4 e1 (by omega) x1
    obtain ⟨s2, f2, g2, h2, k2⟩ := pl_add4 g1 (by omega) x2
    obtain ⟨s3, f3, g3, h3, k3⟩ := pl_add4 g2 (by omega) x3
    obtain ⟨s4, f4, g4, h4, k4⟩ := pl_add4 g3 (by omega) x4
    obtain ⟨s5, f5, g5, h5, k5⟩ := pl_add4 g4 (by omega) x5
    rw [if_pos hle, f1, pl_sb, f2, pl_sb, f3, pl_sb, f4, pl_sb, f5, pl_sb, pl_sb] at h
    have : s5 = σ' := (Prod.mk.inj (Option.some.inj h)).2
    rw [← this]
    exact pm_add8 (pm_add8 (pm_add8 (pm_add8 (pm_add8 h8 k1) k2) k3) k4) k5
  · have hle : ¬ nI (b + 20) ≤ 8000 := nI_ge (a := 8000) (b := b + 20) (by omega) (by omega)
    rw [if_neg hle] at h
    have : σ = σ' := (Prod.mk.inj (Option.some.inj h)).2
    rw [← this]
    exact h8
/-- what the bytes and the inputs don't touch -/
theorem pm_Pk {σ τ σ' τ' : pr_St} (hP : pm_PE σ τ ∨ pm_PG σ τ) (c1 : ∀ o k, ¬ (o = 1 ∧ k = 1) → ¬ (o = 7 ∧ k = 4) → σ'.1 o k = σ.1 o k) (c2 : ∀ a, 9 ≤ a → ¬ a = 47 → σ'.2.1 a = σ.2.1 a) (x1 : ∀ k, ¬ k = 2 → ¬ k = 51 → τ'.1 0 k = τ.1 0 k) (x2 : ∀ a, 3 ≤ a → ¬ a = 33 → τ'.2.1 a = τ.2.1 a) : pm_PE σ' τ' ∨ pm_PG σ' τ' := by
  rcases hP with ⟨⟨a1, a2⟩, b, c, d1, d2⟩ | ⟨T, m, rep, Ps, W, P, nx, σp, τp, z, h1, h2, h3, h4, h5, h6, h7⟩
  · refine Or.inl ⟨⟨by rw [c1 4 14 (by omega) (by omega)]; exact a1, by rw [x1 33 (by omega) (by omega)]; exact a2⟩, ?_, ?_, by rw [c1 7 8 (by omega) (by omega)]; exact d1, by rw [x1 55 (by omega) (by omega)]; exact d2⟩
    · rw [c2 25 (by omega) (by omega), c2 26 (by omega) (by omega), c2 28 (by omega) (by omega), c2 29 (by omega) (by omega), c2 38 (by omega) (by omega)]; exact b
    · rw [x2 20 (by omega) (by omega), x2 23 (by omega) (by omega), x2 24 (by omega) (by omega)]; exact c
  · refine Or.inr ⟨T, m, rep, Ps, W, P, nx, σp, τp, z, h1, h2, h3, ⟨by rw [c1 1 6 (by omega) (by omega)]; exact h4.1, fun k => by rw [c1 2 k (by omega) (by omega)]; exact h4.2.1 k, by rw [c1 4 14 (by omega) (by omega)]; exact h4.2.2.1, fun a q1 q2 => by rw [c2 a (by omega) (by omega)]; exact h4.2.2.2 a q1 q2⟩, ⟨by rw [x1 33 (by omega) (by omega)]; exact h5.1, fun a q1 q2 => by rw [x2 a (by omega) (by omega)]; exact h5.2 a q1 q2⟩, ⟨by rw [c1 7 8 (by omega) (by omega)]; exact h6.1, by rw [x1 55 (by omega) (by omega)]; exact h6.2.1, h6.2.2⟩, pm_ar_eq h7 (c2 49 (by omega) (by omega)) (c2 50 (by omega) (by omega))⟩
theorem pm_Rk {σ τ σ' τ' : pr_St} (h : pm_Rl σ τ) (hB : pl_RB σ' τ') (h8 : pl_by8 σ') (hI : pl_RI σ' τ') (c1 : ∀ o k, ¬ (o = 1 ∧ k = 1) → ¬ (o = 7 ∧ k = 4) → σ'.1 o k = σ.1 o k) (c2 : ∀ a, 9 ≤ a → ¬ a = 47 → σ'.2.1 a = σ.2.1 a) (x1 : ∀ k, ¬ k = 2 → ¬ k = 51 → τ'.1 0 k = τ.1 0 k) (x2 : ∀ a, 3 ≤ a → ¬ a = 33 → τ'.2.1 a = τ.2.1 a) : pm_Rl σ' τ' := by
  obtain ⟨_, _, _, hT, hcl, h9, h19, hP⟩ := h
  refine ⟨hB, h8, hI, ?_, ?_, ?_, by rw [x2 19 (by omega) (by omega)]; exact h19, pm_Pk hP c1 c2 x1 x2⟩
  · unfold pl_RT
    rw [c1 0 5 (by omega) (by omega), c1 0 6 (by omega) (by omega), c1 0 7 (by omega) (by omega), x1 47 (by omega) (by omega), x1 48 (by omega) (by omega), x1 49 (by omega) (by omega)]
    exact hT
  · unfold pm_cl
    rw [c2 48 (by omega) (by omega), c2 50 (by omega) (by omega), x2 34 (by omega) (by omega), x2 35 (by omega) (by omega)]
    exact hcl
  · rw [c1 7 9 (by omega) (by omega), c1 7 10 (by omega) (by omega), x1 56 (by omega) (by omega), x1 57 (by omega) (by omega)]
    exact h9
theorem pm_F11 {o k : Nat} (h : ¬ (o = 1 ∧ k = 1)) : pl_F11 o k = false := Bool.eq_false_iff.mpr (fun w => h (by simpa [pl_F11] using w))
theorem pm_F74 {o k : Nat} (h : ¬ (o = 7 ∧ k = 4)) : pl_F74 o k = false := Bool.eq_false_iff.mpr (fun w => h (by simpa [pl_F74] using w))
theorem pm_F02 {k : Nat} (h : ¬ k = 2) : pl_F02 0 k = false := Bool.eq_false_iff.mpr (fun w => h (by simpa [pl_F02] using w))
theorem pm_F051 {k : Nat} (h : ¬ k = 51) : pl_F051 0 k = false := Bool.eq_false_iff.mpr (fun w => h (by simpa [pl_F051] using w))
theorem pm_G8 {a : Nat} (h : ¬ a = 8) : pl_G8 a = false := Bool.eq_false_iff.mpr (fun w => h (by simpa [pl_G8] using w))
theorem pm_G2 {a : Nat} (h : ¬ a = 2) : pl_G2 a = false := Bool.eq_false_iff.mpr (fun w => h (by simpa [pl_G2] using w))
theorem pm_G47 {a : Nat} (h : ¬ a = 47) : pl_G47 a = false := Bool.eq_false_iff.mpr (fun w => h (by simpa [pl_G47] using w))
theorem pm_G33 {a : Nat} (h : ¬ a = 33) : pl_G33 a = false := Bool.eq_false_iff.mpr (fun w => h (by simpa [pl_G33] using w))
theorem pm_feedC {σ τ : pr_St} (h : pm_Rl σ τ) (x1 x2 x3 x4 x5 : Int32) : ∃ (r : Int32) (σ' τ' : pr_St), prf_P_feed σ x1 x2 x3 x4 x5 = some (r, σ') ∧ prf_X_feed τ x1 x2 x3 x4 x5 = some (r, τ') ∧ pm_Rl σ' τ' := by
  obtain ⟨hB, h8, hI, _⟩ := id h
  obtain ⟨r, σ', τ', e1, e2, e3, f1, f2⟩ := pl_feed hB x1 x2 x3 x4 x5
  obtain ⟨b, hb, hb1, _⟩ := hB
  refine ⟨r, σ', τ', e1, e2, pm_Rk h e3 (pm_feed8 h8 hb hb1 e1) ?_ (fun o k q1 q2 => f1.1 o k (pm_F11 q1)) (fun a q1 q2 => f1.2.1 a (pm_G8 (by omega))) (fun k q1 q2 => f2.1 0 k (pm_F02 q1)) (fun a q1 q2 => f2.2.1 a (pm_G2 (by omega)))⟩
  obtain ⟨c, c1, c2, c3, c4⟩ := hI
  exact ⟨c, c1, by rw [f1.1 7 4 rfl]; exact c2, by rw [f2.1 0 51 rfl]; exact c3, by rw [f1.2.1 47 rfl, f2.2.1 33 rfl]; exact c4⟩
theorem pm_inB {σ τ σ' τ' : pr_St} (hB : pl_RB σ τ) (f1 : pl_fr pl_F74 pl_G47 σ σ') (f2 : pl_fr pl_F051 pl_G33 τ τ') : pl_RB σ' τ' := by
  obtain ⟨b, b1, b2, b3, b4⟩ := hB
  exact ⟨b, b1, by rw [f1.1 1 1 rfl]; exact b2, by rw [f2.1 0 2 rfl]; exact b3, by rw [f1.2.1 8 rfl, f2.2.1 2 rfl]; exact b4⟩
theorem pm_inK {σ τ σ' τ' : pr_St} (h : pm_Rl σ τ) (hI : pl_RI σ' τ') (f1 : pl_fr pl_F74 pl_G47 σ σ') (f2 : pl_fr pl_F051 pl_G33 τ τ') : pm_Rl σ' τ' := by
  refine pm_Rk h (pm_inB h.1 f1 f2) (fun j => by rw [f1.2.1 8 rfl]; exact h.2.1 j) hI (fun o k q1 q2 => f1.1 o k (pm_F74 q2)) (fun a q1 q2 => f1.2.1 a (pm_G47 q2)) (fun k q1 q2 => f2.1 0 k (pm_F051 q2)) (fun a q1 q2 => f2.2.1 a (pm_G33 q2))
/-! run() -/
theorem pm_runK {σ τ σ' τ' : pr_St} (h : pm_Rl σ τ) (g1 : pm_gc σ σ') (g2 : pm_gx τ τ') (hcl : pm_cl σ' τ') (h9 : σ'.1 7 9 = τ'.1 0 56 ∧ σ'.1 7 10 = τ'.1 0 57) (hP : pm_PE σ' τ' ∨ pm_PG σ' τ') : pm_Rl σ' τ' := by
  obtain ⟨⟨b, b1, b2, b3, b4⟩, h8, ⟨c, c1, c2, c3, c4⟩, hT, _, _, h19, _⟩ := h
  refine ⟨⟨b, b1, by rw [g1.1 1 1 (by omega)]; exact b2, by rw [g2.1 0 2 (by omega)]; exact b3, by rw [g1.2 8 (by omega), g2.2 2 (by omega)]; exact b4⟩, fun j => by rw [g1.2 8 (by omega)]; exact h8 j, ⟨c, c1, by rw [g1.1 7 4 (by omega)]; exact c2, by rw [g2.1 0 51 (by omega)]; exact c3, by rw [g1.2 47 (by omega), g2.2 33 (by omega)]; exact c4⟩, ?_, hcl, h9, by rw [g2.2 19 (by omega)]; exact h19, hP⟩
  unfold pl_RT
  rw [g1.1 0 5 (by omega), g1.1 0 6 (by omega), g1.1 0 7 (by omega), g2.1 0 47 (by omega), g2.1 0 48 (by omega), g2.1 0 49 (by omega)]
  exact hT
theorem pm_runE {σ τ : pr_St} (h : pm_Rl σ τ) (hE : pm_PE σ τ) {N : Nat} (hN : N ≤ 2000) : ∃ (r0 : Int32) (σ' τ' : pr_St), prf_P_run σ (nI N) = some (r0, σ') ∧ prf_X_run τ (nI N) = some (r0, τ') ∧ pm_Rl σ' τ' := by
  obtain ⟨⟨a1, a2⟩, ⟨b1, b2, b3, b4, b5⟩, c, d1, d2⟩ := hE
  obtain ⟨ic, i1, i2, i3, i4⟩ := h.2.2.1
  obtain ⟨σf, hσf⟩ : ∃ σf, σf = pr_sI (pr_sI (pr_sI (pr_sI σ 7 8 0) 7 9 0) 7 10 0) 7 11 0 := ⟨_, rfl⟩
  obtain ⟨τf, hτf⟩ : ∃ τf, τf = pr_sI (pr_sI (pr_sI (pr_sI τ 0 55 0) 0 56 0) 0 58 0) 0 59 0 := ⟨_, rfl⟩
  have g1 : pm_gc σ σf := by rw [hσf]; exact (((pm_gcI (by decide)).tr (pm_gcI (by decide))).tr (pm_gcI (by decide))).tr (pm_gcI (by decide))
  have g2 : pm_gx τ τf := by rw [hτf]; exact (((pm_gxI (by decide)).tr (pm_gxI (by decide))).tr (pm_gxI (by decide))).tr (pm_gxI (by decide))
  have s8 : σf.1 7 8 = 0 := by rw [hσf, pr_sI_ne (by omega), pr_sI_ne (by omega), pr_sI_ne (by omega)]; exact pr_sI_same
  have s9 : σf.1 7 9 = 0 := by rw [hσf, pr_sI_ne (by omega), pr_sI_ne (by omega)]; exact pr_sI_same
  have s10 : σf.1 7 10 = 0 := by rw [hσf, pr_sI_ne (by omega)]; exact pr_sI_same
  have s11 : σf.1 7 11 = 0 := by rw [hσf]; exact pr_sI_same
  have t55 : τf.1 0 55 = 0 := by rw [hτf, pr_sI_ne (by omega), pr_sI_ne (by omega), pr_sI_ne (by omega)]; exact pr_sI_same
  have t56 : τf.1 0 56 = 0 := by rw [hτf, pr_sI_ne (by omega), pr_sI_ne (by omega)]; exact pr_sI_same
  have t58 : τf.1 0 58 = 0 := by rw [hτf, pr_sI_ne (by omega)]; exact pr_sI_same
  have t59 : τf.1 0 59 = 0 := by rw [hτf]; exact pr_sI_same
  have t51 : τf.1 0 51 = nI ic := by rw [g2.1 0 51 (by omega)]; exact i3
  have t33 : τf.1 0 33 - 1 = 0 := by rw [g2.1 0 33 (by omega), a2]; rfl
  have s14 : σf.1 4 14 = nI 1 := by rw [g1.1 4 14 (by omega)]; exact a1
  have ek : prf_O_kindOf σf 0 = some 0 := by
    have := (pl_pnt s14 (by omega) (show 0 < 1 by omega)).2.1
    rw [nI_0, g1.2 25 (by omega), b1] at this
    exact this
  have e60 : prf_M_runSteps_60 σf = some (0, σf) := by
    unfold prf_M_runSteps_60
    rw [if_pos s11, s8, ek, pl_sb, if_pos rfl]
  have e98 : prf_X_run_98 τf = some (0, pr_sI τf 0 57 0) := by
    unfold prf_X_run_98
    rw [t59, if_pos (by decide), t55, t33, if_pos rfl, t51, t58, if_neg (nI_pos (by omega))]
  have gx2 : pm_gx τ (pr_sI τf 0 57 0) := g2.tr (pm_gxI (by decide))
  refine ⟨0, σf, pr_sI τf 0 57 0, ?_, ?_, pm_runK h g1 gx2 ?_ ⟨by rw [pr_sI_ne (by omega), s9, t56], by rw [pr_sI_same, s10]⟩ (Or.inl ⟨⟨s14, by rw [gx2.1 0 33 (by omega)]; exact a2⟩, ?_, ?_, s8, by rw [pr_sI_ne (by omega)]; exact t55⟩)⟩
  · unfold prf_P_run prf_M_runSteps prf_M_forget
    rw [if_neg (nI_pos (by omega)), if_pos (show nI N ≤ 2000 from nI_le (b := 2000) hN (by omega)), pl_sb, ← hσf, show pr_FU = 99999 + 1 from rfl, prf_M_runSteps_6, if_pos s11, s8, ek, pl_sb, if_pos rfl, e60]
    by_cases q : nI N ≤ 0
    · rw [if_pos q]; rfl
    · rw [if_neg q]; rfl
  · unfold prf_X_run
    rw [if_neg (nI_pos (by omega)), if_pos (show nI N ≤ 2000 from nI_le (b := 2000) hN (by omega)), ← hτf, show pr_FU = 99999 + 1 from rfl, prf_X_run_33, if_pos t59, t55, t33, if_pos (show (0 : Int32) ≤ 0 by decide), e98]
    by_cases q : nI N ≤ τf.1 0 56
    · rw [if_pos q]
    · rw [if_neg q]
  · rw [hσf, hτf]
    exact h.2.2.2.2.1
  · rw [g1.2 25 (by omega), g1.2 26 (by omega), g1.2 28 (by omega), g1.2 29 (by omega), g1.2 38 (by omega)]
    exact ⟨b1, b2, b3, b4, b5⟩
  · rw [gx2.2 20 (by omega), gx2.2 23 (by omega), gx2.2 24 (by omega)]
    exact c
theorem pm_runR {σ τ : pr_St} (h : pm_Rl σ τ) (x : Int32) : ∃ (r0 : Int32) (σ' τ' : pr_St), prf_P_run σ x = some (r0, σ') ∧ prf_X_run τ x = some (r0, τ') ∧ pm_Rl σ' τ' := by
  by_cases q1 : x < 0
  · refine ⟨-1, σ, τ, ?_, ?_, h⟩
    · unfold prf_P_run; rw [if_pos q1]
    · unfold prf_X_run; rw [if_pos q1]
  by_cases q2 : x ≤ 2000
  · obtain ⟨N, hN, rfl⟩ := nI_of2 (n := 2000) (M := 2000) rfl q1 q2
    rcases h.2.2.2.2.2.2.2 with hE | ⟨T, m, rep, Ps, W, P, nx, σp, τp, z, h1, h2, h3, h4, h5, h6, h7⟩
    · exact pm_runE h hE hN
    · obtain ⟨r0, σ', τ', e1, e2, ⟨z', f1, f2, f3, f4, f5, f6⟩, g1, g2⟩ := pm_runC h1 h2 h3 h4 h5 h.2.2.2.2.1 h.2.2.1 hN
      exact ⟨r0, σ', τ', e1, e2, pm_runK h g1 g2 f5 f2 (Or.inr ⟨T, m, rep, Ps, W, P, nx, σp, τp, z', h1, h2, h3, f3, f4, f1, f6⟩)⟩
  · refine ⟨-1, σ, τ, ?_, ?_, h⟩
    · unfold prf_P_run; rw [if_neg q1, if_neg q2]
    · unfold prf_X_run; rw [if_neg q1, if_neg q2]
theorem pm_PVa {σ τ : pr_St} (hP : pm_PE σ τ ∨ pm_PG σ τ) : ∃ P, pm_PV P σ τ := by
  rcases hP with hE | ⟨T, m, rep, Ps, W, P, nx, σp, τp, z, h1, h2, h3, h4, h5, h6, h7⟩
  · exact ⟨0, pm_PVe hE⟩
  · exact ⟨P, pm_PVg h1 h4 h5⟩
theorem pm_SVa {σ τ : pr_St} (hP : pm_PE σ τ ∨ pm_PG σ τ) : pm_SV σ τ := by
  rcases hP with hE | ⟨T, m, rep, Ps, W, P, nx, σp, τp, z, h1, h2, h3, h4, h5, h6, h7⟩
  · exact pm_SVe hE
  · exact pm_SVg h1 h4 h5 h6 h7
theorem pm_ranC {σ τ : pr_St} (h : pm_Rl σ τ) (x : Int32) : ∃ r : Int32, prf_P_ran σ x = some r ∧ prf_X_ran τ x = some r := by
  obtain ⟨z, _, _, _, z2, z3, _⟩ := pm_SVa h.2.2.2.2.2.2.2
  obtain ⟨h9, h10⟩ := h.2.2.2.2.2.1
  unfold prf_P_ran prf_X_ran prf_M_standsAt prf_M_stepsDone prf_M_inputsTaken
  by_cases c0 : x = 0
  · rw [if_pos c0, if_pos c0, z2, z3]; exact ⟨_, rfl, rfl⟩
  rw [if_neg c0, if_neg c0]
  by_cases c1 : x = 1
  · rw [if_pos c1, if_pos c1, h9]; exact ⟨_, rfl, rfl⟩
  rw [if_neg c1, if_neg c1]
  by_cases c2 : x = 2
  · rw [if_pos c2, if_pos c2, h10]; exact ⟨_, rfl, rfl⟩
  rw [if_neg c2, if_neg c2]
  exact ⟨_, rfl, rfl⟩
/-- new objects -/
theorem pm_new : pm_Rl prIs_C prIs_X1 := by
  refine ⟨⟨0, by omega, rfl, rfl, fun j hj => absurd hj (Nat.not_lt_zero _)⟩, fun j => rfl, ⟨0, by omega, rfl, rfl, fun j hj => absurd hj (Nat.not_lt_zero _)⟩, Or.inl ⟨rfl, rfl⟩, ⟨fun j _ => rfl, fun j _ => rfl⟩, ⟨rfl, rfl⟩, rfl, Or.inl ⟨⟨rfl, rfl⟩, ⟨rfl, rfl, rfl, rfl, rfl⟩, ⟨rfl, rfl, rfl⟩, rfl, rfl⟩⟩
/-- one call -/
theorem pm_call {σ τ : pr_St} (h : pm_Rl σ τ) (xs : Nat → Int32) (i : Nat) : prStep xs i σ τ pm_Rl := by
  obtain ⟨hB, h8, hI, hT, hcl, h9, h19, hP⟩ := id h
  unfold prStep
  by_cases k0 : xs (6 * i) &&& 15 = 0
  · rw [if_pos k0]; exact pm_feedC h _ _ _ _ _
  rw [if_neg k0]
  by_cases k1 : xs (6 * i) &&& 15 = 1
  · rw [if_pos k1]; exact pm_end h _
  rw [if_neg k1]
  by_cases k2 : xs (6 * i) &&& 15 = 2
  · rw [if_pos k2]
    obtain ⟨r, a, b⟩ := pl_told hT (xs (6 * i + 1))
    exact ⟨r, a, b, h⟩
  rw [if_neg k2]
  by_cases k3 : xs (6 * i) &&& 15 = 3
  · rw [if_pos k3]
    obtain ⟨P, p1, p2, p3, _⟩ := pm_PVa hP
    refine ⟨nI (P + 1), ?_, ?_, h⟩
    · unfold prf_P_points prf_O_count; rw [pl_sb, p2]
    · unfold prf_X_points; rw [p3]
  rw [if_neg k3]
  by_cases k4 : xs (6 * i) &&& 15 = 4
  · rw [if_pos k4]
    obtain ⟨P, hPV⟩ := pm_PVa hP
    obtain ⟨r, a, b⟩ := pm_pointC hPV (xs (6 * i + 1)) (xs (6 * i + 2))
    exact ⟨r, a, b, h⟩
  rw [if_neg k4]
  by_cases k5 : xs (6 * i) &&& 15 = 5
  · rw [if_pos k5]
    obtain ⟨r, s, t, a, b, c, f1, f2⟩ := pl_input hI (xs (6 * i + 1))
    exact ⟨r, s, t, a, b, pm_inK h c f1 f2⟩
  rw [if_neg k5]
  by_cases k6 : xs (6 * i) &&& 15 = 6
  · rw [if_pos k6]
    obtain ⟨r, s, t, a, b, c, f1, f2⟩ := pl_drop hI
    exact ⟨r, s, t, a, b, pm_inK h c f1 f2⟩
  rw [if_neg k6]
  by_cases k7 : xs (6 * i) &&& 15 = 7
  · rw [if_pos k7]; exact pm_runR h _
  rw [if_neg k7]
  by_cases k8 : xs (6 * i) &&& 15 = 8
  · rw [if_pos k8]
    obtain ⟨r, a, b⟩ := pm_ranC h (xs (6 * i + 1))
    exact ⟨r, a, b, h⟩
  rw [if_neg k8]
  by_cases k9 : xs (6 * i) &&& 15 = 9
  · rw [if_pos k9]
    obtain ⟨r, a, b⟩ := pm_valC (pm_SVa hP) hcl (xs (6 * i + 1))
    exact ⟨r, a, b, h⟩
  rw [if_neg k9]
  by_cases k10 : xs (6 * i) &&& 15 = 10
  · rw [if_pos k10]
    obtain ⟨r, a, b⟩ := pm_plcC (pm_SVa hP) hcl (xs (6 * i + 1)) (xs (6 * i + 2))
    exact ⟨r, a, b, h⟩
  rw [if_neg k10]
  exact h
