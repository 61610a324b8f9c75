/-! THE LAYOUT: the end point, the class' finishing -/
def pl_eC (P : Nat) (σ σ' : pr_St) : Prop := σ'.1 4 14 = nI (P + 1) ∧ (∀ o k, ¬ (o = 4 ∧ k = 14) → σ'.1 o k = σ.1 o k) ∧ (∀ a, ¬ (25 ≤ a ∧ a ≤ 38) → σ'.2.1 a = σ.2.1 a) ∧ (∀ a z, ¬ z = P → σ'.2.1 a z = σ.2.1 a z) ∧ σ'.2.2 = σ.2.2 ∧ σ'.2.1 25 P = 0 ∧ σ'.2.1 26 P = 0 ∧ σ'.2.1 28 P = 0 ∧ σ'.2.1 29 P = 0 ∧ σ'.2.1 38 P = nI P
theorem pl_eC_fr {P : Nat} {σ σ' : pr_St} (h : pl_eC P σ σ') : pl_fr pl_FL pl_GL σ σ' := by
  obtain ⟨_, h2, h3, _, h5, _⟩ := h
  refine ⟨fun o k hok => h2 o k (fun q => ?_), fun a ha => h3 a (fun q => ?_), h5⟩
  · rw [q.1] at hok
    cases hok
  · unfold pl_GL at ha
    rw [Nat.ble_eq_true_of_le (show 24 ≤ a by omega), Nat.ble_eq_true_of_le (show a ≤ 46 by omega)] at ha
    cases ha
theorem pl_endP {P : Nat} {σ : pr_St} (h14 : σ.1 4 14 = nI P) (hP : P ≤ 249) : ∃ σ', prf_O_addTheEnd σ = some σ' ∧ pl_eC P σ σ' := by
  obtain ⟨σ0, e0⟩ : ∃ σ0, σ0 = pr_sI (pr_sA (pr_sA (pr_sA (pr_sA (pr_sA (pr_sA (pr_sA σ 25 (upd (σ.2.1 25) P 0)) 26 (upd (σ.2.1 26) P 0)) 27 (upd (σ.2.1 27) P (-1))) 34 (upd (σ.2.1 34) P (-1))) 35 (upd (σ.2.1 35) P (nI (P + 1)))) 36 (upd (σ.2.1 36) P (-1))) 37 (upd (σ.2.1 37) P (-1))) 4 14 (nI (P + 1)) := ⟨_, rfl⟩
  have eadd : prf_O_add σ 0 0 (-1) = some (nI P, σ0) := by
    unfold prf_O_add
    have z8 : (0 : Int32).toInt8.toInt32.toInt8.toInt32 = 0 := by decide
    rw [h14, if_pos (show nI P < 250 from nI_lt (b := 250) (by omega) (by omega)), pl_ck (by omega) (by omega), pl_ck (by omega) (by omega), pl_ck (by omega) (by omega), pl_ck (by omega) (by omega), pl_ck (by omega) (by omega), pl_ck (by omega) (by omega), pl_ck (by omega) (by omega), nI_clamp (by omega), z8, nI_1, e0]
  have c0 : σ0.1 4 14 = nI (P + 1) := by rw [e0]; exact pr_sI_same
  have isP : ∀ σx : pr_St, σx.1 4 14 = nI (P + 1) → prf_O_isPoint σx (nI P) = some 1 := fun σx hx => (pl_pnt hx (by omega) (by omega)).1
  obtain ⟨σ1, e1⟩ : ∃ σ1, σ1 = pr_sA (pr_sA σ0 32 (upd (σ0.2.1 32) P (-1))) 33 (upd (σ0.2.1 33) P 1) := ⟨_, rfl⟩
  have eset1 : prf_O_setParent σ0 (nI P) (-1) 1 = some σ1 := by
    unfold prf_O_setParent
    rw [isP σ0 c0, pl_sb, if_neg pl_10, pl_ck (by omega) (by omega), pl_ck (by omega) (by omega), pl_z1, nI_clamp (by omega), e1]
  have c1 : σ1.1 4 14 = nI (P + 1) := by rw [e1]; exact c0
  obtain ⟨σ2, e2⟩ : ∃ σ2, σ2 = pr_sA (pr_sA σ1 28 (upd (σ1.2.1 28) P 0)) 29 (upd (σ1.2.1 29) P 0) := ⟨_, rfl⟩
  have eset2 : prf_O_setThere σ1 (nI P) 0 0 = some σ2 := by
    unfold prf_O_setThere
    rw [isP σ1 c1, pl_sb, if_neg pl_10, pl_ck (by omega) (by omega), pl_ck (by omega) (by omega), nI_clamp (by omega), e2]
  have c2 : σ2.1 4 14 = nI (P + 1) := by rw [e2]; exact c1
  obtain ⟨σ3, e3⟩ : ∃ σ3, σ3 = pr_sA (pr_sA σ2 30 (upd (σ2.2.1 30) P 0)) 31 (upd (σ2.2.1 31) P 0) := ⟨_, rfl⟩
  have eset3 : prf_O_setForeign σ2 (nI P) 0 0 = some σ3 := by
    unfold prf_O_setForeign
    rw [isP σ2 c2, pl_sb, if_neg pl_10, pl_ck (by omega) (by omega), pl_ck (by omega) (by omega), nI_clamp (by omega), e3]
  have c3 : σ3.1 4 14 = nI (P + 1) := by rw [e3]; exact c2
  refine ⟨pr_sA σ3 38 (upd (σ3.2.1 38) P (nI P)), ?_, ?_⟩
  · unfold prf_O_addTheEnd
    rw [eadd, pl_sb]
    dsimp only
    rw [eset1, pl_sb, eset2, pl_sb, eset3, pl_sb, isP σ3 c3, pl_sb, if_neg pl_10, pl_ck (by omega) (by omega), nI_clamp (by omega)]
  · have key : ∀ (σx : pr_St) (c : Nat) (v : Int32) (a z : Nat), ¬ z = P → (pr_sA σx c (upd (σx.2.1 c) P v)).2.1 a z = σx.2.1 a z := by
      intro σx c v a z hz
      by_cases q : a = c
      · subst q; rw [pl_sA_same, pk_un hz]
      · rw [pl_sA_ne q]
    have key2 : ∀ (σx : pr_St) (c c' : Nat) (g : Nat → Int32) (v : Int32) (a z : Nat), ¬ z = P → g z = σx.2.1 c z → (pr_sA σx c (upd g P v)).2.1 a z = σx.2.1 a z := by
      intro σx c c' g v a z hz hg
      by_cases q : a = c
      · subst q; rw [pl_sA_same, pk_un hz, hg]
      · rw [pl_sA_ne q]
    refine ⟨c3, fun o k hok => ?_, fun a ha => ?_, fun a z hz => ?_, ?_, ?_, ?_, ?_, ?_, ?_⟩
    · rw [e3, e2, e1]
      show σ0.1 o k = _
      rw [e0, pr_sI_ne hok]
      rfl
    · rw [pl_sA_ne (by omega), e3, pl_sA_ne (by omega), pl_sA_ne (by omega), e2, pl_sA_ne (by omega), pl_sA_ne (by omega), e1, pl_sA_ne (by omega), pl_sA_ne (by omega), e0]
      show (pr_sA (pr_sA (pr_sA (pr_sA (pr_sA (pr_sA (pr_sA σ 25 _) 26 _) 27 _) 34 _) 35 _) 36 _) 37 _).2.1 a = _
      rw [pl_sA_ne (by omega), pl_sA_ne (by omega), pl_sA_ne (by omega), pl_sA_ne (by omega), pl_sA_ne (by omega), pl_sA_ne (by omega), pl_sA_ne (by omega)]
    · have h3 : σ3.2.1 a z = σ2.2.1 a z := by rw [e3]; exact (key2 _ 31 31 _ _ a z hz rfl).trans (key _ 30 _ a z hz)
      have h2 : σ2.2.1 a z = σ1.2.1 a z := by rw [e2]; exact (key2 _ 29 29 _ _ a z hz rfl).trans (key _ 28 _ a z hz)
      have h1 : σ1.2.1 a z = σ0.2.1 a z := by rw [e1]; exact (key2 _ 33 33 _ _ a z hz rfl).trans (key _ 32 _ a z hz)
      have h0 : σ0.2.1 a z = σ.2.1 a z := by
        rw [e0]
        exact (key2 _ 37 37 _ _ a z hz rfl).trans ((key2 _ 36 36 _ _ a z hz rfl).trans ((key2 _ 35 35 _ _ a z hz rfl).trans ((key2 _ 34 34 _ _ a z hz rfl).trans ((key2 _ 27 27 _ _ a z hz rfl).trans ((key2 _ 26 26 _ _ a z hz rfl).trans (key _ 25 _ a z hz))))))
      rw [key σ3 38 _ a z hz, h3, h2, h1, h0]
    · rw [e3, e2, e1, e0]; rfl
    · rw [e3, e2, e1, e0]; exact pk_us
    · rw [e3, e2, e1, e0]; exact pk_us
    · rw [e3, e2]; exact pk_us
    · rw [e3, e2]; exact pk_us
    · rw [pl_sA_same, pk_us]
/-- a program laid: both sides' points -/
def pl_RP (T : pl_Tx) (m : Nat) (rep : Nat → Nat) (Ps : List pl_En) (W : pl_Wt) (P : Nat) (nx : Nat → Nat) (σ τ : pr_St) : Prop :=
  pl_bs T m rep Ps σ τ ∧ P ≤ 249 ∧ (σ.1 4 14 = nI (P + 1) ∧ τ.1 0 33 = nI (P + 1)) ∧ (σ.2.1 25 P = 0 ∧ σ.2.1 26 P = 0 ∧ σ.2.1 28 P = 0 ∧ σ.2.1 29 P = 0 ∧ σ.2.1 38 P = nI P ∧ τ.2.1 20 P = -1 ∧ τ.2.1 23 P = 0 ∧ τ.2.1 24 P = 0) ∧ W P = ([], []) ∧ pl_sv T Ps P σ ∧
  ∃ σ0, pl_fr pl_FL pl_GL σ0 σ ∧ (∀ a z, 24 ≤ a → a ≤ 35 → (a = 24 ∨ z < P) → σ.2.1 a z = σ0.2.1 a z) ∧ (∀ z, z < P → pl_pt T m rep Ps W P σ0 τ z) ∧
    ∀ z, z < P → nx z ≤ P ∧ (∀ f, z + 1 ≤ f → prf_X_after_2 f τ (nI z) = some (nI (nx z))) ∧ σ.2.1 38 z = nI (nx z) ∧ σ.2.1 36 z = (if σ0.2.1 36 z = -1 then (if σ0.2.1 25 z = 6 then nI z else nI (nx z)) else σ0.2.1 36 z) ∧ σ.2.1 37 z = (if σ0.2.1 37 z = -1 then nI (nx z) else σ0.2.1 37 z) ∧ ∃ N Y, pl_nv T σ0 z N ∧ pl_wv W z ++ N = pl_wv W (nx z) ++ Y
theorem pl_finL {T : pl_Tx} {m : Nat} {rep : Nat → Nat} {Ps : List pl_En} {W : pl_Wt} {P : Nat} {σ0 σe τ : pr_St} (hb : pl_bs T m rep Ps σ0 τ) (hP : P ≤ 249) (hpt : ∀ z, z < P → pl_pt T m rep Ps W P σ0 τ z) (hpg : ∀ z, z < P → pl_pg T W P σ0 z) (h33 : τ.1 0 33 = nI (P + 1)) (hWP : W P = ([], [])) (he : pl_eC P σ0 σe) (h20 : τ.2.1 20 P = -1 ∧ τ.2.1 23 P = 0 ∧ τ.2.1 24 P = 0) (hsv : pl_sv T Ps P σ0) : ∃ σ' nx, prf_O_finish_11 pr_FU σe (nI P) 0 = some σ' ∧ pl_RP T m rep Ps W P nx σ' τ ∧ pl_fr pl_FL pl_GL σ0 σ' := by
  have hF : pr_FU = 100000 := rfl
  have aft := pl_aft hb hP hpt hpg h33 hWP
  obtain ⟨nx, enx⟩ : ∃ nx : Nat → Nat, nx = fun z => ((prf_X_after_2 (z + 1) τ (nI z)).getD 0).toNatClampNeg := ⟨_, rfl⟩
  have hnx : ∀ z, z < P → ∃ N Y, nx z ≤ P ∧ (∀ f, z + 1 ≤ f → prf_X_after_2 f τ (nI z) = some (nI (nx z))) ∧ ((σ0.2.1 33 z = 0 ∧ σ0.2.1 35 z = nI (nx z)) ∨ (¬ σ0.2.1 33 z = 0 ∧ ((σ0.2.1 32 z = -1 ∧ nx z = P) ∨ ∃ pp, σ0.2.1 32 z = nI pp ∧ pp < z ∧ ((σ0.2.1 25 pp = 6 ∧ nx z = pp) ∨ (¬ σ0.2.1 25 pp = 6 ∧ ∀ f, pp + 1 ≤ f → prf_X_after_2 f τ (nI pp) = some (nI (nx z))))))) ∧ pl_nv T σ0 z N ∧ pl_wv W z ++ N = pl_wv W (nx z) ++ Y := by
    intro z hz
    obtain ⟨v, N, Y, v1, v2, v3, v4, v5⟩ := aft z hz
    have ev : nx z = v := by
      rw [enx]
      show ((prf_X_after_2 (z + 1) τ (nI z)).getD 0).toNatClampNeg = v
      rw [v2 (z + 1) (Nat.le_refl _)]
      exact nI_clamp (by omega)
    refine ⟨N, Y, ?_⟩
    rw [ev]
    exact ⟨v1, v2, v3, v4, v5⟩
  obtain ⟨e1, e2, e3, e4, e5, e6, e7, e8, e9, e10⟩ := id he
  -- the loop
  have loop : ∀ (r z f : Nat) (σ : pr_St), z + r = P → r + 1 ≤ f → (σ.1 = σe.1 ∧ σ.2.2 = σe.2.2 ∧ (∀ a, ¬ (36 ≤ a ∧ a ≤ 38) → σ.2.1 a = σe.2.1 a) ∧ (∀ a y, z ≤ y → σ.2.1 a y = σe.2.1 a y) ∧ ∀ y, y < z → σ.2.1 38 y = nI (nx y) ∧ σ.2.1 36 y = (if σ0.2.1 36 y = -1 then (if σ0.2.1 25 y = 6 then nI y else nI (nx y)) else σ0.2.1 36 y) ∧ σ.2.1 37 y = (if σ0.2.1 37 y = -1 then nI (nx y) else σ0.2.1 37 y)) → ∃ σ', prf_O_finish_11 f σ (nI P) (nI z) = some σ' ∧ (σ'.1 = σe.1 ∧ σ'.2.2 = σe.2.2 ∧ (∀ a, ¬ (36 ≤ a ∧ a ≤ 38) → σ'.2.1 a = σe.2.1 a) ∧ (∀ a y, P ≤ y → σ'.2.1 a y = σe.2.1 a y) ∧ ∀ y, y < P → σ'.2.1 38 y = nI (nx y) ∧ σ'.2.1 36 y = (if σ0.2.1 36 y = -1 then (if σ0.2.1 25 y = 6 then nI y else nI (nx y)) else σ0.2.1 36 y) ∧ σ'.2.1 37 y = (if σ0.2.1 37 y = -1 then nI (nx y) else σ0.2.1 37 y)) := by
    intro r
    induction r with
    | zero =>
      intro z f σ hz hf h
      obtain ⟨f, rfl⟩ : ∃ y, f = y + 1 := ⟨f - 1, by omega⟩
      have : z = P := by omega
      subst this
      refine ⟨σ, ?_, h⟩
      rw [prf_O_finish_11, if_pos (Int32.le_refl _)]
    | succ r ih =>
      intro z f σ hz hf h
      obtain ⟨f, rfl⟩ : ∃ y, f = y + 1 := ⟨f - 1, by omega⟩
      obtain ⟨g1, g2, g3, g4, g5⟩ := h
      have zP : z < P := by omega
      obtain ⟨N, Y, n1, n2, n3, n4, n5⟩ := hnx z zP
      have r0 : ∀ a, σ.2.1 a z = σ0.2.1 a z := fun a => by rw [g4 a z (Nat.le_refl _), e4 a z (by omega)]
      have hv : pl_f38 σ P z (nI (nx z)) := by
        rcases n3 with ⟨q1, q2⟩ | ⟨q1, q2⟩
        · exact Or.inl ⟨by rw [r0]; exact q1, by rw [r0]; exact q2.symm⟩
        · refine Or.inr ⟨by rw [r0]; exact q1, ?_⟩
          rw [r0]
          unfold prf_O_behindBlock
          rcases q2 with ⟨w1, w2⟩ | ⟨pp, w1, w2, w3⟩
          · rw [w1, pl_pn1.1, pl_sb, if_pos rfl, w2]
          · have c14 : σ.1 4 14 = nI (P + 1) := by rw [g1]; exact e1
            have r25 : σ.2.1 25 pp = σ0.2.1 25 pp := by rw [g3 25 (by decide), e4 25 pp (by omega)]
            rw [w1, (pl_pnt c14 (by omega) (show pp < P + 1 by omega)).1, pl_sb, if_neg pl_10, pl_ck (by omega) (by omega), nI_clamp (by omega), r25]
            rcases w3 with ⟨u1, u2⟩ | ⟨u1, u2⟩
            · rw [if_pos u1, u2]
            · obtain ⟨_, _, _, m2, _⟩ := hnx pp (by omega)
              have := (m2 (pp + 1) (Nat.le_refl _)).symm.trans (u2 (pp + 1) (Nat.le_refl _))
              rw [if_neg u1, pl_ck (by omega) (by omega), (g5 pp w2).1]
              exact this
      rw [pl_fin1 zP hP hv]
      refine ih (z + 1) f (pl_fin σ z (nI (nx z))) (by omega) (by omega) ⟨by unfold pl_fin; exact g1, by unfold pl_fin; exact g2, fun a ha => ?_, fun a y hy => ?_, fun y hy => ?_⟩
      · unfold pl_fin
        rw [pl_sA_ne (by omega), pl_sA_ne (by omega), pl_sA_ne (by omega)]
        exact g3 a ha
      · have key : ∀ (σx : pr_St) (c : Nat) (g : Nat → Int32) (v : Int32), g y = σx.2.1 c y → (pr_sA σx c (upd g z v)).2.1 a y = σx.2.1 a y := by
          intro σx c g v hg
          by_cases q : a = c
          · subst q; rw [pl_sA_same, pk_un (by omega), hg]
          · rw [pl_sA_ne q]
        unfold pl_fin
        exact ((key _ 37 _ _ rfl).trans ((key _ 36 _ _ rfl).trans (key _ 38 _ _ rfl))).trans (g4 a y (by omega))
      · unfold pl_fin
        by_cases hyz : y = z
        · subst hyz
          refine ⟨?_, ?_, ?_⟩
          · rw [pl_sA_ne (by decide), pl_sA_ne (by decide), pl_sA_same, pk_us]
          · rw [pl_sA_ne (by decide), pl_sA_same, pk_us, r0, r0]
          · rw [pl_sA_same, pk_us, r0]
        · have := g5 y (by omega)
          refine ⟨?_, ?_, ?_⟩
          · rw [pl_sA_ne (by decide), pl_sA_ne (by decide), pl_sA_same, pk_un hyz]; exact this.1
          · rw [pl_sA_ne (by decide), pl_sA_same, pk_un hyz]; exact this.2.1
          · rw [pl_sA_same, pk_un hyz]; exact this.2.2
  obtain ⟨σ', q1, q2, q3, q4, q5, q6⟩ := loop P 0 pr_FU σe (by omega) (by rw [hF]; omega) ⟨rfl, rfl, fun _ _ => rfl, fun _ _ _ => rfl, fun y hy => by omega⟩
  have fe := pl_eC_fr he
  have f' : pl_fr pl_FL pl_GL σe σ' := by
    refine ⟨fun o k _ => by rw [q2], fun a ha => q4 a (fun q => ?_), q3⟩
    unfold pl_GL at ha
    rw [Nat.ble_eq_true_of_le (show 24 ≤ a by omega), Nat.ble_eq_true_of_le (show a ≤ 46 by omega)] at ha
    cases ha
  have ff := fe.tr f'
  have hrow : ∀ a z, 24 ≤ a → a ≤ 35 → (a = 24 ∨ z < P) → σ'.2.1 a z = σ0.2.1 a z := by
    intro a z h1 h2 h3
    rw [q4 a (by omega)]
    rcases h3 with rfl | h3
    · rw [e3 24 (by decide)]
    · rw [e4 a z (by omega)]
  refine ⟨σ', nx, q1, ⟨pl_bs_fr hb ff pl_fr.rf, hP, ⟨by rw [q2]; exact e1, h33⟩, ⟨by rw [q4 25 (by decide)]; exact e6, by rw [q4 26 (by decide)]; exact e7, by rw [q4 28 (by decide)]; exact e8, by rw [q4 29 (by decide)]; exact e9, by rw [q5 38 P (Nat.le_refl _)]; exact e10, h20⟩, hWP, pl_sv_eq hsv (fun z hz => hrow 27 z (by decide) (by decide) (Or.inr hz)) (funext fun t => hrow 24 t (by decide) (by decide) (Or.inl rfl)), σ0, ff, hrow, hpt, fun z hz => ?_⟩, ff⟩
  obtain ⟨N, Y, n1, n2, n3, n4, n5⟩ := hnx z hz
  obtain ⟨w1, w2, w3⟩ := q6 z hz
  exact ⟨n1, n2, w1, w2, w3, N, Y, n4, n5⟩
