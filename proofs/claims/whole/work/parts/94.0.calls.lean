/-! THE CALLS between which both sides answer alike -/
def pm_PE (σ τ : pr_St) : Prop := (σ.1 4 14 = nI 1 ∧ τ.1 0 33 = nI 1) ∧ (σ.2.1 25 0 = 0 ∧ σ.2.1 26 0 = 0 ∧ σ.2.1 28 0 = 0 ∧ σ.2.1 29 0 = 0 ∧ σ.2.1 38 0 = 0) ∧ (τ.2.1 20 0 = -1 ∧ τ.2.1 23 0 = 0 ∧ τ.2.1 24 0 = 0) ∧ (σ.1 7 8 = 0 ∧ τ.1 0 55 = 0)
def pm_PG (σ τ : pr_St) : Prop := ∃ (T : pl_Tx) (m : Nat) (rep : Nat → Nat) (Ps : List pl_En) (W : pl_Wt) (P : Nat) (nx : Nat → Nat) (σp τp : pr_St) (z : Nat), pl_RP T m rep Ps W P nx σp τp ∧ (∀ t, pl_xc T ≤ t → pl_xK T t = 0) ∧ W 0 = ([], []) ∧ pm_ag σp σ ∧ pm_agx τp τ ∧ (σ.1 7 8 = nI z ∧ τ.1 0 55 = nI z ∧ z ≤ P) ∧ pm_ar T (pl_wv W z) σ
/-- the points, as both sides tell them -/
def pm_PV (P : Nat) (σ τ : pr_St) : Prop := P ≤ 249 ∧ σ.1 4 14 = nI (P + 1) ∧ τ.1 0 33 = nI (P + 1) ∧ ∀ z, z ≤ P → (prf_X_point τ (nI z) 0 = some (σ.2.1 25 z) ∧ prf_X_point τ (nI z) 1 = some (σ.2.1 26 z) ∧ prf_X_point τ (nI z) 4 = some (σ.2.1 38 z)) ∧ τ.2.1 23 z = σ.2.1 28 z ∧ τ.2.1 24 z = σ.2.1 29 z
theorem pm_ptX {τ : pr_St} {P z : Nat} (hP : P ≤ 249) (h33 : τ.1 0 33 = nI (P + 1)) (hz : z ≤ P) : (τ.2.1 20 z = -1 → prf_X_point τ (nI z) 0 = some 0 ∧ prf_X_point τ (nI z) 1 = some 0 ∧ prf_X_point τ (nI z) 4 = some (nI z)) ∧ (∀ k kr, τ.2.1 20 z = nI k → k < 13000 → τ.2.1 13 k = nI kr → 3 ≤ kr → kr < 64 → prf_X_point τ (nI z) 0 = some (nI (if kr < 5 then 1 else kr - 3)) ∧ prf_X_point τ (nI z) 1 = some (τ.2.1 14 k) ∧ prf_X_point τ (nI z) 4 = (prf_X_after τ (nI z)).bind fun r30 => some r30) := by
  have hF : pr_FU = 100000 := rfl
  unfold prf_X_point
  have n1 : ¬ nI z < 0 := nI_pos (by omega)
  have n2 : ¬ τ.1 0 33 ≤ nI z := by rw [h33]; exact nI_ge (by omega) (by omega)
  have n3 : ∀ (k : Option Int32), pr_ck (nI z) 250 k = k := fun k => pl_ck (show z < 250 by omega) (by omega)
  have n4 : (nI z).toNatClampNeg = z := nI_clamp (show z < 2 ^ 31 by omega)
  simp only [if_neg n1, if_neg n2, n3, n4, if_true, if_neg (show ¬ (0 : Int32) < 0 by decide), if_pos (show (0 : Int32) ≤ 4 by decide), if_neg (show ¬ (1 : Int32) < 0 by decide), if_pos (show (1 : Int32) ≤ 4 by decide), if_neg (show ¬ (1 : Int32) = 0 by decide), if_neg (show ¬ (4 : Int32) < 0 by decide), if_pos (show (4 : Int32) ≤ 4 by decide), if_neg (show ¬ (4 : Int32) = 0 by decide), if_neg (show ¬ (4 : Int32) = 1 by decide), if_neg (show ¬ (4 : Int32) = 2 by decide), if_neg (show ¬ (4 : Int32) = 3 by decide)]
  constructor
  · intro h20
    have ea : prf_X_after τ (nI z) = some (nI z) := by
      unfold prf_X_after
      rw [show pr_FU = 99999 + 1 from rfl, prf_X_after_2, pl_ck (show z < 250 by omega) (by omega), nI_clamp (show z < 2 ^ 31 by omega), h20, if_pos rfl]
    rw [ea, pl_sb]
    simp only [h20, if_true]
    exact ⟨trivial, trivial, trivial⟩
  · intro k kr h20 hk h13 h3 h64
    have hne : ¬ nI k = -1 := by
      intro w
      exact nI_pos (show k < 2 ^ 31 by omega) (by rw [w]; decide)
    rw [h20, if_neg hne, if_neg hne, pl_ck hk (by omega), pl_ck hk (by omega), nI_clamp (show k < 2 ^ 31 by omega), h13, if_neg (pl_nn (j := 0) (v := 0) h64 (by decide) rfl (by omega))]
    refine ⟨?_, rfl, trivial⟩
    by_cases w : kr < 5
    · rw [if_neg (show ¬ (5 : Int32) ≤ nI kr from nI_ge (b := 5) w (by omega)), if_pos w]; rfl
    · have e3 : nI kr - 3 = nI (kr - 3) := by
        have : nI kr = nI (kr - 3) + 3 := by
          rw [show (3 : Int32) = nI 3 from rfl, nI_add]; congr 1; omega
        rw [this]
        exact Int32.add_sub_cancel _ _
      rw [if_pos (show (5 : Int32) ≤ nI kr from nI_le (a := 5) (by omega) (by omega)), if_neg w, e3]
theorem pm_PVe {σ τ : pr_St} (h : pm_PE σ τ) : pm_PV 0 σ τ := by
  obtain ⟨⟨a1, a2⟩, ⟨b1, b2, b3, b4, b5⟩, ⟨c1, c2, c3⟩, _⟩ := h
  refine ⟨by omega, a1, a2, fun z hz => ?_⟩
  have : z = 0 := by omega
  subst this
  obtain ⟨e1, e2, e3⟩ := (pm_ptX (P := 0) (by omega) a2 (Nat.le_refl _)).1 c1
  rw [b1, b2, b3, b4, b5, c2, c3]
  exact ⟨⟨e1, e2, e3⟩, rfl, rfl⟩
theorem pm_PVg {T : pl_Tx} {m : Nat} {rep : Nat → Nat} {Ps : List pl_En} {W : pl_Wt} {P : Nat} {nx : Nat → Nat} {σp τp σ τ : pr_St} (hRP : pl_RP T m rep Ps W P nx σp τp) (hag : pm_ag σp σ) (hax : pm_agx τp τ) : pm_PV P σ τ := by
  obtain ⟨hb, hP, ⟨h14, h33⟩, ⟨e1, e2, e3, e4, e5, e6, e7, e8⟩, _⟩ := id hRP
  have c33 : τ.1 0 33 = nI (P + 1) := by rw [hax.1]; exact h33
  refine ⟨hP, by rw [hag.2.2.1]; exact h14, c33, fun z hz => ?_⟩
  by_cases w : z = P
  · subst w
    obtain ⟨g1, g2, g3⟩ := (pm_ptX hP c33 (Nat.le_refl _)).1 (by rw [hax.2 20 (by decide) (by decide)]; exact e6)
    rw [hag.2.2.2 25 (by decide) (by decide), hag.2.2.2 26 (by decide) (by decide), hag.2.2.2 28 (by decide) (by decide), hag.2.2.2 29 (by decide) (by decide), hag.2.2.2 38 (by decide) (by decide), hax.2 23 (by decide) (by decide), hax.2 24 (by decide) (by decide), e1, e2, e3, e4, e5, e7, e8]
    exact ⟨⟨g1, g2, g3⟩, rfl, rfl⟩
  · obtain ⟨σ0, f, k, s, q, en, F, S', O, r, par, hPt⟩ := pm_pt0 hRP hag hax (z := z) (by omega)
    obtain ⟨kr, t', v, zz, F2, r2, S3, eF, eS, hrk, ert⟩ := pl_sT_kd hPt.1.1
    have er : r = r2 := (List.cons.inj eS).1
    subst er
    have hnd := hPt.1.2.1
    rw [eF] at hnd
    have hk := hPt.2.1.1
    rw [eF, List.length_cons] at hk
    have hkr : 3 ≤ kr ∧ kr < 64 ∧ (if kr < 5 then 1 else kr - 3) = r.1 := by
      rcases hrk with ⟨w1, w2⟩ | ⟨w1, w2, w3⟩
      · refine ⟨by omega, by omega, ?_⟩
        rw [if_pos (by omega), w1]
      · refine ⟨by omega, by omega, ?_⟩
        rw [if_neg (by omega)]; omega
    obtain ⟨g1, g2, g3⟩ := (pm_ptX hP c33 hz).2 k kr hPt.2.2.2.2.2.1.1 (by omega) hnd.1.1 hkr.1 hkr.2.1
    have b4 := hPt.2.2.2.1
    have b6 := hPt.2.2.2.2.2.1
    rw [g1, g2, g3, hkr.2.2, b4.1, b4.2.2.2.2.2.2.2, hPt.2.2.2.2.1.1, b6.2.2.2.1, b6.2.2.2.2.1, b4.2.2.1, b4.2.2.2.1, hPt.2.2.2.2.2.2.2.2.2.2.1 τ hax, hnd.1.2.1, pl_sb, ert]
    exact ⟨⟨rfl, rfl, rfl⟩, rfl, rfl⟩
theorem pm_pointC {P : Nat} {σ τ : pr_St} (h : pm_PV P σ τ) (x1 x2 : Int32) : ∃ r : Int32, prf_P_point σ x1 x2 = some r ∧ prf_X_point τ x1 x2 = some r := by
  obtain ⟨hP, h14, h33, hz⟩ := h
  by_cases q1 : x1 < 0
  · refine ⟨-1, ?_, ?_⟩
    · unfold prf_P_point; rw [if_pos q1]
    · unfold prf_X_point; rw [if_pos q1]
  · obtain ⟨z, hz31, rfl⟩ := nI_of q1
    by_cases q2 : z ≤ P
    · obtain ⟨⟨g1, g2, g3⟩, g4, g5⟩ := hz z q2
      have e1 := pl_pnt h14 (show P + 1 ≤ 250 by omega) (show z < P + 1 by omega)
      have e2 := pm_pnt2 h14 (show P + 1 ≤ 250 by omega) (show z < P + 1 by omega)
      have head : prf_P_point σ (nI z) x2 = if x2 = 0 then some (σ.2.1 25 z) else if x2 = 1 then some (σ.2.1 26 z) else if x2 = 2 then some (σ.2.1 28 z) else if x2 = 3 then some (σ.2.1 29 z) else if x2 = 4 then some (σ.2.1 38 z) else some (-1) := by
        unfold prf_P_point prf_O_count
        rw [if_neg q1, pl_sb, h14, if_pos (nI_lt (by omega) (by omega)), e1.2.1, e1.2.2.1, e1.2.2.2.1, e2.2.1, e2.2.2.2.2.2.2]
        simp only [pl_sb]
      have X2 : prf_X_point τ (nI z) 2 = some (σ.2.1 28 z) := by
        unfold prf_X_point
        rw [if_neg q1, if_neg (show ¬ τ.1 0 33 ≤ nI z by rw [h33]; exact nI_ge (by omega) (by omega)), if_neg (by decide), if_pos (by decide), pl_ck (show z < 250 by omega) (by omega), if_neg (by decide), if_neg (by decide), if_pos rfl, pl_ck (show z < 250 by omega) (by omega), nI_clamp (by omega), g4]
      have X3 : prf_X_point τ (nI z) 3 = some (σ.2.1 29 z) := by
        unfold prf_X_point
        rw [if_neg q1, if_neg (show ¬ τ.1 0 33 ≤ nI z by rw [h33]; exact nI_ge (by omega) (by omega)), if_neg (by decide), if_pos (by decide), pl_ck (show z < 250 by omega) (by omega), if_neg (by decide), if_neg (by decide), if_neg (by decide), if_pos rfl, pl_ck (show z < 250 by omega) (by omega), nI_clamp (by omega), g5]
      rw [head]
      by_cases c0 : x2 = 0
      · subst c0; exact ⟨_, by rw [if_pos rfl], g1⟩
      by_cases c1 : x2 = 1
      · subst c1; exact ⟨_, by rw [if_neg (by decide), if_pos rfl], g2⟩
      by_cases c2 : x2 = 2
      · subst c2; exact ⟨_, by rw [if_neg (by decide), if_neg (by decide), if_pos rfl], X2⟩
      by_cases c3 : x2 = 3
      · subst c3; exact ⟨_, by rw [if_neg (by decide), if_neg (by decide), if_neg (by decide), if_pos rfl], X3⟩
      by_cases c4 : x2 = 4
      · subst c4; exact ⟨_, by rw [if_neg (by decide), if_neg (by decide), if_neg (by decide), if_neg (by decide), if_pos rfl], g3⟩
      refine ⟨-1, by rw [if_neg c0, if_neg c1, if_neg c2, if_neg c3, if_neg c4], ?_⟩
      unfold prf_X_point
      rw [if_neg q1, if_neg (show ¬ τ.1 0 33 ≤ nI z by rw [h33]; exact nI_ge (by omega) (by omega))]
      by_cases n0 : x2 < 0
      · rw [if_pos n0]
      · rw [if_neg n0]
        by_cases n4 : x2 ≤ 4
        · exfalso
          obtain ⟨j, hj, rfl⟩ := nI_of2 (n := 4) (M := 4) rfl n0 n4
          have : j = 0 ∨ j = 1 ∨ j = 2 ∨ j = 3 ∨ j = 4 := by omega
          rcases this with rfl | rfl | rfl | rfl | rfl
          · exact c0 rfl
          · exact c1 rfl
          · exact c2 rfl
          · exact c3 rfl
          · exact c4 rfl
        · rw [if_neg n4]
    · refine ⟨-1, ?_, ?_⟩
      · unfold prf_P_point prf_O_count
        rw [if_neg q1, pl_sb, h14, if_neg (nI_nlt (by omega) (by omega))]
      · unfold prf_X_point
        rw [if_neg q1, if_pos (show τ.1 0 33 ≤ nI z by rw [h33]; exact nI_le (by omega) (by omega))]
/-- the variables where the latest run stands -/
def pm_SV (σ τ : pr_St) : Prop := ∃ z cN cA : Nat, z ≤ 249 ∧ σ.1 7 8 = nI z ∧ τ.1 0 55 = nI z ∧ prf_O_numbersAt σ (nI z) = some (nI cN) ∧ prf_O_arraysAt σ (nI z) = some (nI cA) ∧ τ.2.1 23 z = nI cN ∧ τ.2.1 24 z = nI cA ∧ cN ≤ 12 ∧ cA ≤ 6 ∧ ∀ s, s < cA → ∃ R, R ≤ 64 ∧ σ.2.1 49 s = nI R ∧ ∀ j, R ≤ j → j < 64 → σ.2.1 50 (64 * s + j) = 0
theorem pm_cnt_ex : ∀ (V : List (Nat × Bool)) (s : Nat), s < pl_cnt true V → ∃ i e, V[i]? = some e ∧ e.2 = true ∧ pl_cnt true (V.take i) = s := by
  intro V
  induction V with
  | nil => intro s h; exact absurd h (Nat.not_lt_zero _)
  | cons e l ih =>
    intro s h
    have ec : pl_cnt true (e :: l) = pl_cnt true [e] + pl_cnt true l := pl_cnt_app [e] l
    have e1 : (e.2 = true → pl_cnt true [e] = 1) ∧ (e.2 = false → pl_cnt true [e] = 0) := by
      obtain ⟨a, b⟩ := e
      cases b
      · exact ⟨fun w => (by cases w), fun _ => rfl⟩
      · exact ⟨fun _ => rfl, fun w => (by cases w)⟩
    by_cases hb : e.2 = true
    · cases s with
      | zero => exact ⟨0, e, rfl, hb, rfl⟩
      | succ s =>
        have := e1.1 hb
        obtain ⟨i, x, i1, i2, i3⟩ := ih s (by omega)
        refine ⟨i + 1, x, by simpa using i1, i2, ?_⟩
        show pl_cnt true ([e] ++ l.take i) = _
        rw [pl_cnt_app, i3]; omega
    · have := e1.2 (by cases hq : e.2 with | false => rfl | true => exact absurd hq hb)
      obtain ⟨i, x, i1, i2, i3⟩ := ih s (by omega)
      refine ⟨i + 1, x, by simpa using i1, i2, ?_⟩
      show pl_cnt true ([e] ++ l.take i) = _
      rw [pl_cnt_app, i3]; omega
theorem pm_SVe {σ τ : pr_St} (h : pm_PE σ τ) : pm_SV σ τ := by
  obtain ⟨⟨a1, a2⟩, ⟨b1, b2, b3, b4, b5⟩, ⟨c1, c2, c3⟩, d1, d2⟩ := h
  have e1 := pl_pnt a1 (by omega) (show 0 < 1 by omega)
  exact ⟨0, 0, 0, by omega, d1, d2, by rw [e1.2.2.1, b3]; rfl, by rw [e1.2.2.2.1, b4]; rfl, c2, c3, by omega, by omega, fun s hs => absurd hs (Nat.not_lt_zero _)⟩
theorem pm_SVg {T : pl_Tx} {m : Nat} {rep : Nat → Nat} {Ps : List pl_En} {W : pl_Wt} {P : Nat} {nx : Nat → Nat} {σp τp σ τ : pr_St} {z : Nat} (hRP : pl_RP T m rep Ps W P nx σp τp) (hag : pm_ag σp σ) (hax : pm_agx τp τ) (hz : σ.1 7 8 = nI z ∧ τ.1 0 55 = nI z ∧ z ≤ P) (har : pm_ar T (pl_wv W z) σ) : pm_SV σ τ := by
  obtain ⟨hb, hP, ⟨h14, h33⟩, ⟨e1, e2, e3, e4, e5, e6, e7, e8⟩, hWP, _⟩ := id hRP
  have c14 : σ.1 4 14 = nI (P + 1) := by rw [hag.2.2.1]; exact h14
  have p1 := pl_pnt c14 (show P + 1 ≤ 250 by omega) (show z < P + 1 by omega)
  by_cases w : z = P
  · subst w
    exact ⟨z, 0, 0, by omega, hz.1, hz.2.1, by rw [p1.2.2.1, hag.2.2.2 28 (by decide) (by decide), e3]; rfl, by rw [p1.2.2.2.1, hag.2.2.2 29 (by decide) (by decide), e4]; rfl, by rw [hax.2 23 (by decide) (by decide), e7]; rfl, by rw [hax.2 24 (by decide) (by decide), e8]; rfl, by omega, by omega, fun s hs => absurd hs (Nat.not_lt_zero _)⟩
  · obtain ⟨σ0, f, k, s, q, en, F, S', O, r, par, hPt⟩ := pm_pt0 hRP hag hax (z := z) (by omega)
    have b4 := hPt.2.2.2.1
    have b6 := hPt.2.2.2.2.2.1
    have b7 := hPt.2.2.2.2.2.2.1
    refine ⟨z, pl_cnt false (pl_wv W z), pl_cnt true (pl_wv W z), by omega, hz.1, hz.2.1, by rw [p1.2.2.1, b4.2.2.1], by rw [p1.2.2.2.1, b4.2.2.2.1], b6.2.2.2.1, b6.2.2.2.2.1, b7.2.2.2.1, b7.2.2.2.2.1, fun s hs => ?_⟩
    obtain ⟨i, e, i1, i2, i3⟩ := pm_cnt_ex _ s hs
    obtain ⟨a1, a2, a3⟩ := har i e i1 i2
    rw [i3] at a2 a3
    exact ⟨pl_vt T (e.1 + 2), a1.2, by rw [a2]; exact if_pos i2, a3⟩
theorem pm_valC {σ τ : pr_St} (h : pm_SV σ τ) (hcl : pm_cl σ τ) (x : Int32) : ∃ r : Int32, prf_P_value σ x = some r ∧ prf_X_value τ x = some r := by
  obtain ⟨z, cN, cA, z1, z2, z3, z4, z5, z6, z7, z8, z9, _⟩ := h
  unfold prf_P_value prf_M_numberIn prf_X_value
  by_cases q1 : x < 0
  · rw [if_pos q1, if_pos q1]; exact ⟨0, rfl, rfl⟩
  · rw [if_neg q1, if_neg q1, z2, z4, pl_sb, z3, pl_ck (show z < 250 by omega) (by omega), nI_clamp (by omega), z6]
    obtain ⟨j, hj, rfl⟩ := nI_of q1
    by_cases q2 : j < cN
    · rw [if_neg (nI_ge q2 (by omega)), if_pos (nI_lt q2 (by omega)), pl_ck (by omega) (by omega), nI_clamp (by omega)]
      unfold prf_M_getNumber
      rw [if_neg q1, if_neg (show ¬ (12 : Int32) ≤ nI j from nI_ge (b := 12) (by omega) (by omega)), pl_ck (by omega) (by omega), nI_clamp (by omega)]
      exact ⟨_, rfl, by rw [hcl.1 j (by omega)]⟩
    · rw [if_pos (nI_le (by omega) (by omega)), if_neg (nI_nlt (by omega) (by omega))]
      exact ⟨0, rfl, rfl⟩
theorem pm_plcC {σ τ : pr_St} (h : pm_SV σ τ) (hcl : pm_cl σ τ) (x y : Int32) : ∃ r : Int32, prf_P_place σ x y = some r ∧ prf_X_place τ x y = some r := by
  obtain ⟨z, cN, cA, z1, z2, z3, z4, z5, z6, z7, z8, z9, z10⟩ := h
  unfold prf_P_place prf_M_placeIn prf_X_place
  by_cases q1 : x < 0
  · rw [if_pos q1, if_pos q1, if_pos rfl]; exact ⟨0, rfl, rfl⟩
  · rw [if_neg q1, if_neg q1, z2, z5, pl_sb, z3, pl_ck (show z < 250 by omega) (by omega), nI_clamp (by omega), z7]
    obtain ⟨s, hs, rfl⟩ := nI_of q1
    by_cases q2 : s < cA
    · obtain ⟨R, hR, h49, hzero⟩ := z10 s q2
      have hhas := pm_has (σ := σ) (show s < 6 by omega) hR h49 y
      rw [if_neg (nI_ge q2 (by omega)), if_neg (nI_ge q2 (by omega)), hhas, pl_sb]
      by_cases y0 : y < 0
      · rw [if_pos y0, if_pos rfl, if_pos rfl, if_pos y0]; exact ⟨0, rfl, rfl⟩
      · rw [if_neg y0, if_neg y0]
        obtain ⟨j, hj, rfl⟩ := nI_of y0
        have em : 64 * nI s + nI j = nI (64 * s + j) := by rw [show (64 : Int32) = nI 64 from rfl, pk_mul, nI_add]
        by_cases j6 : j < 64
        · rw [if_pos (show nI j < 64 from nI_lt (b := 64) j6 (by omega)), em, pl_ck (by omega) (by omega), nI_clamp (by omega)]
          by_cases jR : j < R
          · have em' : nI s * 64 + nI j = nI (64 * s + j) := by rw [show (64 : Int32) = nI 64 from rfl, pk_mul, nI_add, Nat.mul_comm]
            rw [if_neg (nI_ge jR (by omega)), if_neg pl_10, if_neg pl_10]
            unfold prf_M_getPlace
            rw [hhas, pl_sb, if_neg y0, if_neg (nI_ge jR (by omega)), if_neg pl_10, em', pl_ck (by omega) (by omega), nI_clamp (by omega)]
            exact ⟨_, rfl, by rw [hcl.2 _ (by omega)]⟩
          · rw [if_pos (nI_le (by omega) (by omega)), if_pos rfl, if_pos rfl]
            refine ⟨0, rfl, ?_⟩
            rw [← hcl.2 _ (by omega), hzero j (by omega) j6]
        · rw [if_pos (nI_le (by omega) (by omega)), if_pos rfl, if_pos rfl, if_neg (show ¬ nI j < 64 from nI_nlt (b := 64) (by omega) (by omega))]
          exact ⟨0, rfl, rfl⟩
    · rw [if_pos (nI_le (by omega) (by omega)), if_pos rfl, if_pos (nI_le (by omega) (by omega))]
      exact ⟨0, rfl, rfl⟩
