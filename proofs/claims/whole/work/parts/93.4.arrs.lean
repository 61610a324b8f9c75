/-! THE MACHINE: arrays -/
theorem pm_nv1 {T : pl_Tx} {m : Nat} {rep : Nat → Nat} {Ps : List pl_En} {W : pl_Wt} {P : Nat} {nx : Nat → Nat} {σ0 σ τ τp : pr_St} {z f k s q en : Nat} {F : List pl_N} {S' : List pl_S} {O : List pl_O} {r : pl_S} {par : Int32} (h : pm_Pt T m rep Ps W P nx z σ0 σ τ τp f k s q en F S' O r par) (hxc : pl_xc T ≤ 8001) (hr : r.1 = 1) : ∃ Y, pl_wv W z ++ [(r.2.1 + 1, pl_xK T (r.2.1 + 2) == 16)] = pl_wv W (nx z) ++ Y := by
  obtain ⟨⟨_, _, _, a4, _⟩, b2, ⟨_, _, c3, c4⟩, b4, _, _, _, _, _, d1, d2, N, Y, d3, d4⟩ := h
  refine ⟨Y, ?_⟩
  rcases d3 with ⟨w, _⟩ | ⟨w1, s', t', w2, w3, w4, w5, rfl⟩
  · exact absurd (b4.1.trans (by rw [hr]; rfl)) w
  · have hs := b2.2.2.1
    rw [List.length_cons] at hs
    have es : s' = s := (nI_eq (by omega) (by omega)).mp (w2.symm.trans b4.2.1)
    subst es
    have et : t' = r.2.1 := (nI_eq (by omega) (by omega)).mp (w4.symm.trans a4.1.2.1)
    subst et
    exact d4
/-- all places of an array become 0, in the class -/
theorem pm_zC {a : Nat} (ha : a < 6) : ∀ (r j f : Nat) (σ : pr_St), j + r = 64 → r + 1 ≤ f → ∃ σ', prf_M_beginArray_23 f σ (nI a) (nI j) = some σ' ∧ σ'.1 = σ.1 ∧ (∀ x, ¬ x = 50 → σ'.2.1 x = σ.2.1 x) ∧ ∀ x, σ'.2.1 50 x = if 64 * a + j ≤ x ∧ x < 64 * a + 64 then 0 else σ.2.1 50 x := by
  intro r
  induction r with
  | zero =>
    intro j f σ hj hf
    obtain ⟨f, rfl⟩ : ∃ y, f = y + 1 := ⟨f - 1, by omega⟩
    refine ⟨σ, ?_, rfl, fun _ _ => rfl, fun x => by rw [if_neg (by omega)]⟩
    rw [prf_M_beginArray_23, if_pos (show (64 : Int32) ≤ nI j from nI_le (a := 64) (by omega) (by omega))]
  | succ r ih =>
    intro j f σ hj hf
    obtain ⟨f, rfl⟩ : ∃ y, f = y + 1 := ⟨f - 1, by omega⟩
    obtain ⟨σ', e1, e2, e3, e4⟩ := ih (j + 1) f (pr_sA σ 50 (upd (σ.2.1 50) (64 * a + j) 0)) (by omega) (by omega)
    have em : nI a * 64 + nI j = nI (64 * a + j) := by
      rw [show (64 : Int32) = nI 64 from rfl, pk_mul, nI_add, Nat.mul_comm]
    refine ⟨σ', ?_, e2, fun x hx => by rw [e3 x hx, pl_sA_ne hx], fun x => ?_⟩
    · rw [prf_M_beginArray_23, if_neg (show ¬ (64 : Int32) ≤ nI j from nI_ge (b := 64) (by omega) (by omega)), em, pl_ck (by omega) (by omega), nI_clamp (by omega), nI_1]
      exact e1
    · rw [e4 x, pl_sA_same]
      by_cases w : x = 64 * a + j
      · rw [if_neg (by omega), w, pk_us, if_pos (by omega)]
      · rw [pk_un w]
        by_cases u : 64 * a + (j + 1) ≤ x ∧ x < 64 * a + 64
        · rw [if_pos u, if_pos (by omega)]
        · rw [if_neg u, if_neg (by omega)]
theorem pm_zX {a z : Nat} {y : Int32} (ha : a < 6) (hz : z < 250) : ∀ (r j f : Nat) (τ : pr_St), j + r = 64 → r + 1 ≤ f → τ.2.1 24 z = nI a → (∀ τ', pm_fx τ τ' → prf_X_after τ' (nI z) = some y) → ∃ τ', prf_X_step_117 f τ (nI z) (nI j) = some (y, τ') ∧ τ'.1 = τ.1 ∧ (∀ x, ¬ x = 35 → τ'.2.1 x = τ.2.1 x) ∧ ∀ x, τ'.2.1 35 x = if 64 * a + j ≤ x ∧ x < 64 * a + 64 then 0 else τ.2.1 35 x := by
  intro r
  induction r with
  | zero =>
    intro j f τ hj hf h24 haf
    obtain ⟨f, rfl⟩ : ∃ y, f = y + 1 := ⟨f - 1, by omega⟩
    refine ⟨τ, ?_, rfl, fun _ _ => rfl, fun x => by rw [if_neg (by omega)]⟩
    rw [prf_X_step_117, if_pos (show (64 : Int32) ≤ nI j from nI_le (a := 64) (by omega) (by omega)), haf τ ⟨fun _ _ _ => rfl, fun _ _ => rfl⟩, pl_sb]
  | succ r ih =>
    intro j f τ hj hf h24 haf
    obtain ⟨f, rfl⟩ : ∃ y, f = y + 1 := ⟨f - 1, by omega⟩
    have fx : pm_fx τ (pr_sA τ 35 (upd (τ.2.1 35) (64 * a + j) 0)) := pm_fx34 (Or.inr rfl)
    obtain ⟨τ', e1, e2, e3, e4⟩ := ih (j + 1) f (pr_sA τ 35 (upd (τ.2.1 35) (64 * a + j) 0)) (by omega) (by omega) (by rw [pl_sA_ne (by decide)]; exact h24) (fun τ' h' => haf τ' (fx.tr h'))
    have em : 64 * nI a + nI j = nI (64 * a + j) := by
      rw [show (64 : Int32) = nI 64 from rfl, pk_mul, nI_add]
    refine ⟨τ', ?_, e2, fun x hx => by rw [e3 x hx, pl_sA_ne hx], fun x => ?_⟩
    · rw [prf_X_step_117, if_neg (show ¬ (64 : Int32) ≤ nI j from nI_ge (b := 64) (by omega) (by omega)), pl_ck hz (by omega), nI_clamp (show z < 2 ^ 31 by omega), h24, em, pl_ck (by omega) (by omega), nI_clamp (by omega), nI_1]
      exact e1
    · rw [e4 x, pl_sA_same]
      by_cases w : x = 64 * a + j
      · rw [if_neg (by omega), w, pk_us, if_pos (by omega)]
      · rw [pk_un w]
        by_cases u : 64 * a + (j + 1) ≤ x ∧ x < 64 * a + 64
        · rw [if_pos u, if_pos (by omega)]
        · rw [if_neg u, if_neg (by omega)]
/-- var NAME [ NUMBER ] ; -/
theorem pm_st3 {T : pl_Tx} {m : Nat} {rep : Nat → Nat} {Ps : List pl_En} {W : pl_Wt} {P : Nat} {nx : Nat → Nat} {σp τp σ0 σ τ : pr_St} {z ic rd f k s q en : Nat} {F : List pl_N} {S' : List pl_S} {O : List pl_O} {r : pl_S} {par : Int32} (hE : pm_En T m rep Ps W P nx z ic rd σp τp σ τ) (hPt : pm_Pt T m rep Ps W P nx z σ0 σ τ τp f k s q en F S' O r par) (h : pl_st3 T s q (W z).2 F (r :: S') O) : pm_SR T W P z ic rd σ τ := by
  obtain ⟨t, k1, k2, k3, k4, k5, k6, rfl, hS, rfl⟩ := h
  obtain ⟨hr, hS'⟩ := List.cons.inj hS
  subst hS'
  have hr1 : r.1 = 1 := by rw [hr]
  have hrt : r.2.1 = t := by rw [hr]
  obtain ⟨hRP, hT0, hag, hax, hz, h55, hcl, har, hi, hrd, h11, h59⟩ := id hE
  have hv := pm_vc1 hRP hT0 hag hz hPt h55 hcl har
  have htv := hv.1
  have ht3 : t + 3 + 1 < pl_xc T := htv.2.2.2.2 (t + 3) (by omega)
  have n1 := pm_nq1 hPt
  obtain ⟨⟨a1, a2, a3, a4, a5⟩, b2, _, b4, b5, b6, b7, _, ⟨_, pk, _⟩, d1, d2, _⟩ := id hPt
  have hcnt : pl_cnt true (pl_wv W z) < 6 ∧ 1 ≤ pl_vt T (t + 3) ∧ pl_vt T (t + 3) ≤ 64 := by
    rcases pk with ⟨_, _, _, _, _, w⟩ | ⟨w, _⟩ | ⟨w, _⟩
    · have := (w hr1).1 (by rw [hrt]; exact k3)
      rw [hrt] at this
      exact this
    · omega
    · omega
  obtain ⟨ca, hca⟩ : ∃ ca, ca = pl_cnt true (pl_wv W z) := ⟨_, rfl⟩
  rw [← hca] at hcnt
  have f01 : pl_fr pm_FE pm_GE σ (pr_sI σ 7 13 (nI 0)) := pl_sI_fr (o := 7) (k := 13) rfl
  have erk := pm_rk b7.2.2.2.2.2.1 b7.2.2.1 hz b4.2.1 n1 a5
  have erk2 : prf_M_reckon σ (nI z) = some (pr_sI σ 7 13 (nI 0)) := erk.trans (pm_rkG (n := 0) (fun g => rfl) (by omega))
  obtain ⟨σ1, hσ1⟩ : ∃ σ1, σ1 = pr_sI σ 7 13 (nI 0) := ⟨_, rfl⟩
  have s11 : σ1.1 7 11 = 0 := by rw [hσ1, pr_sI_ne (by omega)]; exact h11
  have si : pm_iv ic rd σ1 τ := by rw [hσ1]; exact pm_iv_eq hi f01 pl_fr.rf (by rw [pr_sI_ne (by omega)]) rfl
  rw [← hσ1] at f01 erk2
  have hPt1 := pm_Pt_fr hPt (pm_fcE f01) (pm_fxE (pl_fr.rf (σ := τ)))
  have htv1 := (pm_vc_fr hv f01 (pl_fr.rf (σ := τ))).1
  have hF : pr_FU = 100000 := rfl
  obtain ⟨σ2, z1, z2, z3, z4⟩ := pm_zC hcnt.1 64 0 pr_FU (pr_sA σ1 49 (upd (σ1.2.1 49) ca (nI (pl_vt T (t + 3))))) (by omega) (by rw [hF]; omega)
  have eba : prf_M_beginArray σ1 (nI ca) (nI (pl_vt T (t + 3))) = some σ2 := by
    unfold prf_M_beginArray
    rw [if_neg (nI_pos (by omega)), if_pos (show nI ca < 6 from nI_lt (b := 6) hcnt.1 (by omega)), pl_ck hcnt.1 (by omega), nI_clamp (by omega)]
    exact z1
  have ebv : prf_M_beginVariable σ1 (nI z) = some σ2 := by
    have e3 : nI t + 3 = nI (t + 3) := nI_add t 3
    unfold prf_M_beginVariable
    rw [pm_ft hPt1, pl_sb, hrt, pl_n2, (htv1.1 (t + 2) (by omega)).1, pl_sb, if_pos (show nI (pl_xK T (t + 2)) = 16 by rw [k3]; rfl), (pm_acc hPt1).2.2.2.1, pl_sb, e3, (htv1.1 (t + 3) (by omega)).2, pl_sb, ← hca, eba, pl_sb]
  have fc2 : pm_fc σ1 σ2 := ⟨fun o x _ => by rw [z2]; rfl, fun a ha => by rw [z3 a (by omega), pl_sA_ne (by omega)]⟩
  have hPt2 := pm_Pt_fr hPt1 fc2 (pm_fxE (pl_fr.rf (σ := τ)))
  have hC : prf_M_step σ (nI z) = some (nI (nx z), σ2) := by
    rw [(pm_stC erk2 s11 (pm_acc hPt1).1 (by omega)).1 hr1, ebv, pl_sb, (pm_acc hPt2).2.1, pl_sb]
  have h24 : τ.2.1 24 z = nI ca := by rw [hca]; exact b6.2.2.2.2.1
  have hk := b2.1
  obtain ⟨τ2, y1, y2, y3, y4⟩ := pm_zX (z := z) (y := nI (nx z)) hcnt.1 (by omega) 64 0 pr_FU τ (by omega) (by rw [hF]; omega) h24 (fun τ' h' => pm_aft hPt hax h')
  have hX : prf_X_step τ = some (nI (nx z), τ2) := by
    have r13 : τ.2.1 13 k = nI 4 := a2.1.1
    unfold prf_X_step
    rw [h55, pl_ck (show z < 250 by omega) (by omega), nI_clamp (show z < 2 ^ 31 by omega), b6.1, pl_ck (show k < 13000 by omega) (by omega), nI_clamp (show k < 2 ^ 31 by omega), r13, if_neg (show ¬ nI 4 = 3 by decide), if_pos (show nI 4 = 4 from rfl)]
    exact y1
  have fx2 : pm_fx τ τ2 := ⟨fun o x _ => by rw [y2], fun a ha => y3 a (by omega)⟩
  obtain ⟨Y, hY⟩ := pm_nv1 hPt htv.2.2.1 hr1
  rw [hrt, show (pl_xK T (t + 2) == 16) = true by simp [k3]] at hY
  have q48 : ∀ j, σ2.2.1 48 j = σ.2.1 48 j := fun j => by rw [z3 48 (by decide), pl_sA_ne (by decide), f01.2.1 48 rfl]
  have q50 : ∀ j, σ2.2.1 50 j = if 64 * ca + 0 ≤ j ∧ j < 64 * ca + 64 then 0 else σ.2.1 50 j := fun j => by rw [z4 j, pl_sA_ne (by decide), f01.2.1 50 rfl]
  have q49 : ∀ j, σ2.2.1 49 j = upd (σ.2.1 49) ca (nI (pl_vt T (t + 3))) j := fun j => by rw [z3 49 (by decide), pl_sA_same, f01.2.1 49 rfl]
  have har2 : pm_ar T (pl_wv W z ++ [(t + 1, true)]) σ2 := by
    refine pm_ar_new har rfl hcnt.2 (fun j hj => ?_) ?_ (fun j hj => ?_) (fun j hj => ?_)
    · rw [q49, pk_un (by omega)]
    · rw [q49, ← hca, pk_us]; rfl
    · rw [q50, if_neg (by omega)]
    · rw [q50, if_pos (by omega)]
  rw [hY] at har2
  have si2 : pm_iv ic rd σ2 τ2 := by
    obtain ⟨w1, w2, w3, w4, w5, w6⟩ := si
    refine ⟨by rw [z2]; exact w1, by rw [y2]; exact w2, w3, ?_, by rw [y2]; exact w5, by rw [z2]; exact w6⟩
    rw [z3 47 (by decide), pl_sA_ne (by decide), y3 33 (by decide)]
    exact w4
  refine Or.inl ⟨nx z, rd, σ2, τ2, hC, hX, d1, by rw [z2]; exact s11, by rw [y2]; exact h59, (pm_fcE f01).tr fc2, fx2, si2, Nat.le_add_right _ _, ⟨fun j hj => ?_, fun j hj => ?_⟩, pm_ar_pre har2⟩
  · rw [q48, y3 34 (by decide)]; exact hcl.1 j hj
  · rw [q50, y4]
    by_cases w : 64 * ca + 0 ≤ j ∧ j < 64 * ca + 64
    · rw [if_pos w, if_pos w]
    · rw [if_neg w, if_neg w]; exact hcl.2 j hj
