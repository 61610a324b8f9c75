/-! THE MACHINE: a run -/
def pm_gc (σ σ' : pr_St) : Prop := (∀ o k, ¬ (o = 7 ∧ ¬ k = 4) → σ'.1 o k = σ.1 o k) ∧ ∀ a, ¬ (48 ≤ a ∧ a ≤ 51) → σ'.2.1 a = σ.2.1 a
def pm_gx (τ τ' : pr_St) : Prop := (∀ o k, ¬ (o = 0 ∧ 55 ≤ k ∧ k ≤ 59) → τ'.1 o k = τ.1 o k) ∧ ∀ a, ¬ (a = 34 ∨ a = 35) → τ'.2.1 a = τ.2.1 a
theorem pm_gc.tr {a b c : pr_St} (h1 : pm_gc a b) (h2 : pm_gc b c) : pm_gc a c := ⟨fun o k h => (h2.1 o k h).trans (h1.1 o k h), fun x h => (h2.2 x h).trans (h1.2 x h)⟩
theorem pm_gx.tr {a b c : pr_St} (h1 : pm_gx a b) (h2 : pm_gx b c) : pm_gx a c := ⟨fun o k h => (h2.1 o k h).trans (h1.1 o k h), fun x h => (h2.2 x h).trans (h1.2 x h)⟩
theorem pm_gcf {σ σ' : pr_St} (h : pm_fc σ σ') : pm_gc σ σ' := ⟨fun o k hk => h.1 o k (by omega), h.2⟩
theorem pm_gxf {τ τ' : pr_St} (h : pm_fx τ τ') : pm_gx τ τ' := ⟨fun o k hk => h.1 o k (by omega), h.2⟩
theorem pm_gcI {σ : pr_St} {k : Nat} {v : Int32} (h : ¬ k = 4) : pm_gc σ (pr_sI σ 7 k v) := ⟨fun o x hx => pr_sI_ne (by omega), fun _ _ => rfl⟩
theorem pm_gxI {τ : pr_St} {k : Nat} {v : Int32} (h : 55 ≤ k ∧ k ≤ 59) : pm_gx τ (pr_sI τ 0 k v) := ⟨fun o x hx => pr_sI_ne (by omega), fun _ _ => rfl⟩
theorem pm_ag_gc {σp σ σ' : pr_St} (h : pm_ag σp σ) (f : pm_gc σ σ') : pm_ag σp σ' := ⟨by rw [f.1 1 6 (by omega)]; exact h.1, fun k => by rw [f.1 2 k (by omega)]; exact h.2.1 k, by rw [f.1 4 14 (by omega)]; exact h.2.2.1, fun a h1 h2 => by rw [f.2 a (by omega)]; exact h.2.2.2 a h1 h2⟩
theorem pm_agx_gx {τp τ τ' : pr_St} (h : pm_agx τp τ) (f : pm_gx τ τ') : pm_agx τp τ' := ⟨by rw [f.1 0 33 (by omega)]; exact h.1, fun a h1 h2 => by rw [f.2 a (by omega)]; exact h.2 a h1 h2⟩
def pm_RS (T : pl_Tx) (W : pl_Wt) (P : Nat) (σp τp : pr_St) (ic z i rd : Nat) (σ τ : pr_St) : Prop := (σ.1 7 8 = nI z ∧ τ.1 0 55 = nI z ∧ z ≤ P) ∧ (σ.1 7 9 = nI i ∧ τ.1 0 56 = nI i) ∧ pm_ag σp σ ∧ pm_agx τp τ ∧ pm_cl σ τ ∧ pm_ar T (pl_wv W z) σ ∧ pm_iv ic rd σ τ
/-- what a run leaves -/
def pm_FS (T : pl_Tx) (W : pl_Wt) (P : Nat) (σp τp : pr_St) (σ τ : pr_St) : Prop := ∃ z, (σ.1 7 8 = nI z ∧ τ.1 0 55 = nI z ∧ z ≤ P) ∧ (σ.1 7 9 = τ.1 0 56 ∧ σ.1 7 10 = τ.1 0 57) ∧ pm_ag σp σ ∧ pm_agx τp τ ∧ pm_cl σ τ ∧ pm_ar T (pl_wv W z) σ
theorem pm_kd {T : pl_Tx} {m : Nat} {rep : Nat → Nat} {Ps : List pl_En} {W : pl_Wt} {P : Nat} {nx : Nat → Nat} {σp τp σ : pr_St} (hRP : pl_RP T m rep Ps W P nx σp τp) (hag : pm_ag σp σ) {z : Nat} (hz : z ≤ P) : ∃ r1, prf_O_kindOf σ (nI z) = some (nI r1) ∧ r1 < 64 ∧ (r1 = 0 ↔ z = P) := by
  obtain ⟨hb, hP, ⟨h14, h33⟩, he, _⟩ := id hRP
  have c14 : σ.1 4 14 = nI (P + 1) := by rw [hag.2.2.1]; exact h14
  have e1 := (pl_pnt c14 (show P + 1 ≤ 250 by omega) (show z < P + 1 by omega)).2.1
  by_cases w : z = P
  · refine ⟨0, ?_, by omega, by omega⟩
    rw [e1, w, hag.2.2.2 25 (by decide) (by decide), he.1]
    rfl
  · obtain ⟨σ0, f, k, s, q, en, F, S', O, r, par, hPt⟩ := pm_pt0 (τ := τp) hRP hag ⟨rfl, fun _ _ _ => rfl⟩ (z := z) (by omega)
    obtain ⟨kr, t', v, zz, F2, r2, S3, eF, eS, hrk, _⟩ := pl_sT_kd hPt.1.1
    have er : r = r2 := (List.cons.inj eS).1
    refine ⟨r.1, by rw [e1, hPt.2.2.2.1.1], ?_, ?_⟩
    · rw [er]; rcases hrk with ⟨w6, _⟩ | w6 <;> omega
    · rw [er]; rcases hrk with ⟨w6, _⟩ | w6 <;> omega
theorem pm_fin {T : pl_Tx} {m : Nat} {rep : Nat → Nat} {Ps : List pl_En} {W : pl_Wt} {P : Nat} {nx : Nat → Nat} {σp τp σ τ : pr_St} {ic z i rd : Nat} {w : Int32} (hRP : pl_RP T m rep Ps W P nx σp τp) (hS : pm_RS T W P σp τp ic z i rd σ τ) (hrd : rd < 2 ^ 30) (h11 : σ.1 7 11 = w) (h59 : τ.1 0 59 = w) (hw : w = 0 ∨ (0 : Int32) < w) : ∃ (r0 : Int32) (τ' : pr_St), prf_M_runSteps_60 σ = some (r0, σ) ∧ prf_X_run_98 τ = some (r0, τ') ∧ pm_FS T W P σp τp σ τ' ∧ pm_gx τ τ' := by
  obtain ⟨⟨a1, a2, a3⟩, ⟨b1, b2⟩, hag, hax, hcl, har, hi⟩ := hS
  obtain ⟨r1, k1, k2, k3⟩ := pm_kd hRP hag a3
  have hP := hRP.2.1
  have h33 : τ.1 0 33 = nI (P + 1) := by rw [hax.1]; exact hRP.2.2.1.2
  obtain ⟨i1, i2, i3, i4, i5, i6⟩ := hi
  have etk : (if (τ.1 0 51) < (τ.1 0 58) then (τ.1 0 51) else (τ.1 0 58)) = nI (min rd ic) := by
    rw [i2, i5]
    by_cases u : ic < rd
    · rw [if_pos (nI_lt u (by omega)), Nat.min_eq_right (by omega)]
    · rw [if_neg (nI_nlt (by omega) (by omega)), Nat.min_eq_left (by omega)]
  have gx : pm_gx τ (pr_sI τ 0 57 (nI (min rd ic))) := pm_gxI (by decide)
  have hFS : pm_FS T W P σp τp σ (pr_sI τ 0 57 (nI (min rd ic))) := ⟨z, ⟨a1, by rw [pr_sI_ne (by omega)]; exact a2, a3⟩, ⟨by rw [pr_sI_ne (by omega), b1, b2], by rw [pr_sI_same, i6]⟩, hag, pm_agx_gx hax gx, hcl, har⟩
  unfold prf_M_runSteps_60 prf_X_run_98
  rw [etk, h11, h59]
  rcases hw with rfl | hw
  · rw [if_pos rfl, if_pos (by decide), a1, k1, pl_sb, a2, h33, pl_sub1]
    by_cases u : z = P
    · rw [if_pos (show nI r1 = 0 by rw [k3.mpr u]; rfl), if_pos (by rw [u])]
      exact ⟨0, _, rfl, rfl, hFS, gx⟩
    · rw [if_neg (pl_nn (j := 0) (v := 0) k2 (by decide) rfl (fun v => u (k3.mp v))), if_neg (fun v => u ((nI_eq (by omega) (by omega)).mp v))]
      exact ⟨16, _, rfl, rfl, hFS, gx⟩
  · rw [if_neg (pl_neg0 hw), if_neg (Int32.not_le.mpr hw)]
    exact ⟨w, _, rfl, rfl, hFS, gx⟩
/-- the loop of steps -/
theorem pm_run {T : pl_Tx} {m : Nat} {rep : Nat → Nat} {Ps : List pl_En} {W : pl_Wt} {P : Nat} {nx : Nat → Nat} {σp τp : pr_St} {ic N : Nat} (hRP : pl_RP T m rep Ps W P nx σp τp) (hT0 : ∀ t, pl_xc T ≤ t → pl_xK T t = 0) (hN : N ≤ 2000) : ∀ (r i z rd fC fX : Nat) (σ τ : pr_St), i + r = N → r + 2 ≤ fC → r + 2 ≤ fX → rd ≤ 8000 * i → pm_RS T W P σp τp ic z i rd σ τ → σ.1 7 11 = 0 → τ.1 0 59 = 0 → ∃ (r0 : Int32) (σ' τ' : pr_St), prf_M_runSteps_6 fC σ (nI N) (nI i) = some (r0, σ') ∧ prf_X_run_33 fX τ (nI N) = some (r0, τ') ∧ pm_FS T W P σp τp σ' τ' ∧ pm_gc σ σ' ∧ pm_gx τ τ' := by
  intro r
  induction r with
  | zero =>
    intro i z rd fC fX σ τ hi hfC hfX hrd hS h11 h59
    obtain ⟨fC, rfl⟩ : ∃ y, fC = y + 1 := ⟨fC - 1, by omega⟩
    obtain ⟨fX, rfl⟩ : ∃ y, fX = y + 1 := ⟨fX - 1, by omega⟩
    have : i = N := by omega
    subst this
    obtain ⟨r0, τ', e1, e2, e3, e4⟩ := pm_fin hRP hS (by omega) h11 h59 (Or.inl rfl)
    refine ⟨r0, σ, τ', ?_, ?_, e3, ⟨fun _ _ _ => rfl, fun _ _ => rfl⟩, e4⟩
    · rw [prf_M_runSteps_6, if_pos (Int32.le_refl _)]; exact e1
    · rw [prf_X_run_33, hS.2.1.2, if_pos (Int32.le_refl _)]; exact e2
  | succ r ih =>
    intro i z rd fC fX σ τ hi hfC hfX hrd hS h11 h59
    obtain ⟨fC, rfl⟩ : ∃ y, fC = y + 1 := ⟨fC - 1, by omega⟩
    obtain ⟨fX, rfl⟩ : ∃ y, fX = y + 1 := ⟨fX - 1, by omega⟩
    obtain ⟨⟨a1, a2, a3⟩, ⟨b1, b2⟩, hag, hax, hcl, har, hiv⟩ := id hS
    obtain ⟨r1, k1, k2, k3⟩ := pm_kd hRP hag a3
    have hP := hRP.2.1
    have h33 : τ.1 0 33 = nI (P + 1) := by rw [hax.1]; exact hRP.2.2.1.2
    have hlt : ¬ nI N ≤ nI i := nI_ge (by omega) (by omega)
    by_cases u : z = P
    · obtain ⟨r0, τ', e1, e2, e3, e4⟩ := pm_fin hRP hS (by omega) h11 h59 (Or.inl rfl)
      refine ⟨r0, σ, τ', ?_, ?_, e3, ⟨fun _ _ _ => rfl, fun _ _ => rfl⟩, e4⟩
      · rw [prf_M_runSteps_6, if_neg hlt, if_pos h11, a1, k1, pl_sb, if_pos (show nI r1 = 0 by rw [k3.mpr u]; rfl)]
        exact e1
      · rw [prf_X_run_33, b2, if_neg hlt, if_pos h59, h33, pl_sub1, a2, if_pos (nI_le (by omega) (by omega))]
        exact e2
    · obtain ⟨σa, hσa⟩ : ∃ σa, σa = pr_sI σ 7 9 (nI (i + 1)) := ⟨_, rfl⟩
      have ga : pm_gc σ σa := by rw [hσa]; exact pm_gcI (by decide)
      have s9 : σa.1 7 9 = nI (i + 1) := by rw [hσa]; exact pr_sI_same
      have s11 : σa.1 7 11 = 0 := by rw [hσa, pr_sI_ne (by omega)]; exact h11
      have ivA : pm_iv ic rd σa τ := by
        obtain ⟨w1, w2, w3, w4, w5, w6⟩ := hiv
        refine ⟨by rw [hσa, pr_sI_ne (by omega)]; exact w1, w2, w3, by rw [hσa]; exact w4, w5, by rw [hσa, pr_sI_ne (by omega)]; exact w6⟩
      have clA : pm_cl σa τ := by rw [hσa]; exact hcl
      have arA : pm_ar T (pl_wv W z) σa := by rw [hσa]; exact har
      have hE : pm_En T m rep Ps W P nx z ic rd σp τp σa τ := ⟨hRP, hT0, pm_ag_gc hag ga, hax, by omega, a2, clA, arA, ivA, by omega, s11, h59⟩
      have hC1 : prf_M_runSteps_6 (fC + 1) σ (nI N) (nI i) = (prf_M_step σa (nI z)).bind fun r17 => prf_M_runSteps_6 fC (pr_sI r17.2 7 8 r17.1) (nI N) (nI (i + 1)) := by
        rw [prf_M_runSteps_6, if_neg hlt, if_pos h11, a1, k1, pl_sb, if_neg (pl_nn (j := 0) (v := 0) k2 (by decide) rfl (fun v => u (k3.mp v))), b1, nI_1, ← hσa]
      have hX1 : prf_X_run_33 (fX + 1) τ (nI N) = (prf_X_step τ).bind fun r15 => if (r15.2.1 0 59) = 0 then prf_X_run_33 fX (pr_sI (pr_sI r15.2 0 56 ((r15.2.1 0 56) + 1)) 0 55 r15.1) (nI N) else prf_X_run_33 fX (pr_sI (pr_sI r15.2 0 56 ((r15.2.1 0 56) + 1)) 0 55 (r15.2.1 0 55)) (nI N) := by
        rw [prf_X_run_33, b2, if_neg hlt, if_pos h59, h33, pl_sub1, a2, if_neg (nI_ge (by omega) (by omega))]
      rcases pm_step hE with ⟨nz, rd', σ', τ', t1, t2, t3, t4, t5, t6, t7, t8, t9, t10, t11⟩ | ⟨y, w, rd', σ', τ', t1, t2, t0, t4, t5, t6, t7, t8, t9, t10, t11⟩
      · have c56 : τ'.1 0 56 = nI i := by rw [t7.1 0 56 (by omega)]; exact b2
        rw [t1, pl_sb] at hC1
        rw [t2, pl_sb] at hX1
        dsimp only at hC1 hX1
        rw [if_pos t5, c56, nI_1] at hX1
        have g1 : pm_gc σ (pr_sI σ' 7 8 (nI nz)) := (ga.tr (pm_gcf t6)).tr (pm_gcI (by decide))
        have g2 : pm_gx τ (pr_sI (pr_sI τ' 0 56 (nI (i + 1))) 0 55 (nI nz)) := ((pm_gxf t7).tr (pm_gxI (by decide))).tr (pm_gxI (by decide))
        have hS' : pm_RS T W P σp τp ic nz (i + 1) rd' (pr_sI σ' 7 8 (nI nz)) (pr_sI (pr_sI τ' 0 56 (nI (i + 1))) 0 55 (nI nz)) := by
          refine ⟨⟨pr_sI_same, pr_sI_same, t3⟩, ⟨by rw [pr_sI_ne (by omega), t6.1 7 9 (by omega)]; exact s9, by rw [pr_sI_ne (by omega)]; exact pr_sI_same⟩, pm_ag_gc hag g1, pm_agx_gx hax g2, t10, t11, ?_⟩
          obtain ⟨w1, w2, w3, w4, w5, w6⟩ := t8
          exact ⟨by rw [pr_sI_ne (by omega)]; exact w1, by rw [pr_sI_ne (by omega), pr_sI_ne (by omega)]; exact w2, w3, w4, by rw [pr_sI_ne (by omega), pr_sI_ne (by omega)]; exact w5, by rw [pr_sI_ne (by omega)]; exact w6⟩
        obtain ⟨r0, σ2, τ2, e1, e2, e3, e4, e5⟩ := ih (i + 1) nz rd' fC fX _ _ (by omega) (by omega) (by omega) (by omega) hS' (by rw [pr_sI_ne (by omega)]; exact t4) (by rw [pr_sI_ne (by omega), pr_sI_ne (by omega)]; exact t5)
        exact ⟨r0, σ2, τ2, hC1.trans e1, hX1.trans e2, e3, g1.tr e4, g2.tr e5⟩
      · have c56 : τ'.1 0 56 = nI i := by rw [t7.1 0 56 (by omega)]; exact b2
        have c55 : τ'.1 0 55 = nI z := by rw [t7.1 0 55 (by omega)]; exact a2
        have w59 : ¬ τ'.1 0 59 = 0 := by rw [t5]; exact pl_neg0 t0
        rw [t1, pl_sb] at hC1
        rw [t2, pl_sb] at hX1
        dsimp only at hC1 hX1
        rw [if_neg w59, c56, nI_1, c55] at hX1
        have g1 : pm_gc σ (pr_sI σ' 7 8 (nI z)) := (ga.tr (pm_gcf t6)).tr (pm_gcI (by decide))
        have g2 : pm_gx τ (pr_sI (pr_sI τ' 0 56 (nI (i + 1))) 0 55 (nI z)) := ((pm_gxf t7).tr (pm_gxI (by decide))).tr (pm_gxI (by decide))
        have hS' : pm_RS T W P σp τp ic z (i + 1) rd' (pr_sI σ' 7 8 (nI z)) (pr_sI (pr_sI τ' 0 56 (nI (i + 1))) 0 55 (nI z)) := by
          refine ⟨⟨pr_sI_same, pr_sI_same, a3⟩, ⟨by rw [pr_sI_ne (by omega), t6.1 7 9 (by omega)]; exact s9, by rw [pr_sI_ne (by omega)]; exact pr_sI_same⟩, pm_ag_gc hag g1, pm_agx_gx hax g2, t10, t11, ?_⟩
          obtain ⟨w1, w2, w3, w4, w5, w6⟩ := t8
          exact ⟨by rw [pr_sI_ne (by omega)]; exact w1, by rw [pr_sI_ne (by omega), pr_sI_ne (by omega)]; exact w2, w3, w4, by rw [pr_sI_ne (by omega), pr_sI_ne (by omega)]; exact w5, by rw [pr_sI_ne (by omega)]; exact w6⟩
        have v11 : (pr_sI σ' 7 8 (nI z)).1 7 11 = w := by rw [pr_sI_ne (by omega)]; exact t4
        have v59 : (pr_sI (pr_sI τ' 0 56 (nI (i + 1))) 0 55 (nI z)).1 0 59 = w := by rw [pr_sI_ne (by omega), pr_sI_ne (by omega)]; exact t5
        obtain ⟨r0, τ2, e1, e2, e3, e4⟩ := pm_fin hRP hS' (by omega) v11 v59 (Or.inr t0)
        obtain ⟨fC, rfl⟩ : ∃ y, fC = y + 1 := ⟨fC - 1, by omega⟩
        obtain ⟨fX, rfl⟩ : ∃ y, fX = y + 1 := ⟨fX - 1, by omega⟩
        refine ⟨r0, _, τ2, ?_, ?_, e3, g1, g2.tr e4⟩
        · rw [hC1, prf_M_runSteps_6]
          by_cases v : nI N ≤ nI (i + 1)
          · rw [if_pos v]; exact e1
          · rw [if_neg v, if_neg (by rw [v11]; exact pl_neg0 t0)]; exact e1
        · rw [hX1, prf_X_run_33]
          by_cases v : nI N ≤ (pr_sI (pr_sI τ' 0 56 (nI (i + 1))) 0 55 (nI z)).1 0 56
          · rw [if_pos v]; exact e2
          · rw [if_neg v, if_neg (by rw [v59]; exact pl_neg0 t0)]; exact e2
/-- run() -/
theorem pm_runC {T : pl_Tx} {m : Nat} {rep : Nat → Nat} {Ps : List pl_En} {W : pl_Wt} {P : Nat} {nx : Nat → Nat} {σp τp σ τ : pr_St} (hRP : pl_RP T m rep Ps W P nx σp τp) (hT0 : ∀ t, pl_xc T ≤ t → pl_xK T t = 0) (hW : W 0 = ([], [])) (hag : pm_ag σp σ) (hax : pm_agx τp τ) (hcl : pm_cl σ τ) (hI : pl_RI σ τ) {N : Nat} (hN : N ≤ 2000) : ∃ (r0 : Int32) (σ' τ' : pr_St), prf_P_run σ (nI N) = some (r0, σ') ∧ prf_X_run τ (nI N) = some (r0, τ') ∧ pm_FS T W P σp τp σ' τ' ∧ pm_gc σ σ' ∧ pm_gx τ τ' := by
  obtain ⟨ic, c1, c2, c3, c4⟩ := hI
  obtain ⟨σf, hσf⟩ : ∃ σf, σf = pr_sI (pr_sI (pr_sI (pr_sI σ 7 8 0) 7 9 0) 7 10 0) 7 11 0 := ⟨_, rfl⟩
  obtain ⟨τf, hτf⟩ : ∃ τf, τf = pr_sI (pr_sI (pr_sI (pr_sI τ 0 55 0) 0 56 0) 0 58 0) 0 59 0 := ⟨_, rfl⟩
  have g1 : pm_gc σ σf := by rw [hσf]; exact (((pm_gcI (by decide)).tr (pm_gcI (by decide))).tr (pm_gcI (by decide))).tr (pm_gcI (by decide))
  have g2 : pm_gx τ τf := by rw [hτf]; exact (((pm_gxI (by decide)).tr (pm_gxI (by decide))).tr (pm_gxI (by decide))).tr (pm_gxI (by decide))
  have hF : pr_FU = 100000 := rfl
  have hwv : pl_wv W 0 = [] := by unfold pl_wv; rw [hW]; rfl
  have hS : pm_RS T W P σp τp ic 0 0 0 σf τf := by
    refine ⟨⟨by rw [hσf, pr_sI_ne (by omega), pr_sI_ne (by omega), pr_sI_ne (by omega)]; exact pr_sI_same, by rw [hτf, pr_sI_ne (by omega), pr_sI_ne (by omega), pr_sI_ne (by omega)]; exact pr_sI_same, Nat.zero_le _⟩, ⟨by rw [hσf, pr_sI_ne (by omega), pr_sI_ne (by omega)]; exact pr_sI_same, by rw [hτf, pr_sI_ne (by omega), pr_sI_ne (by omega)]; exact pr_sI_same⟩, pm_ag_gc hag g1, pm_agx_gx hax g2, by rw [hσf, hτf]; exact hcl, ?_, ?_⟩
    · rw [hwv]
      intro i e he
      cases i <;> cases he
    · refine ⟨by rw [g1.1 7 4 (by omega)]; exact c2, by rw [g2.1 0 51 (by omega)]; exact c3, c1, by rw [hσf, hτf]; exact c4, by rw [hτf, pr_sI_ne (by omega)]; exact pr_sI_same, ?_⟩
      rw [Nat.zero_min, hσf, pr_sI_ne (by omega)]
      exact pr_sI_same
  obtain ⟨r0, σ', τ', e1, e2, e3, e4, e5⟩ := pm_run hRP hT0 hN N 0 0 0 pr_FU pr_FU σf τf (by omega) (by rw [hF]; omega) (by rw [hF]; omega) (by omega) hS (by rw [hσf]; exact pr_sI_same) (by rw [hτf]; exact pr_sI_same)
  refine ⟨r0, σ', τ', ?_, ?_, e3, g1.tr e4, g2.tr e5⟩
  · unfold prf_P_run prf_M_runSteps prf_M_forget
    rw [if_neg (nI_pos (by omega)), if_pos (show nI N ≤ 2000 from nI_le (b := 2000) hN (by omega)), pl_sb, ← hσf, show (0 : Int32) = nI 0 from rfl, e1, pl_sb]
  · unfold prf_X_run
    rw [if_neg (nI_pos (by omega)), if_pos (show nI N ≤ 2000 from nI_le (b := 2000) hN (by omega)), ← hτf]
    exact e2
