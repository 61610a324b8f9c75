/-! THE MACHINE: statements with one SUM -/
def pm_En (T : pl_Tx) (m : Nat) (rep : Nat → Nat) (Ps : List pl_En) (W : pl_Wt) (P : Nat) (nx : Nat → Nat) (z ic rd : Nat) (σp τp σ τ : pr_St) : Prop := pl_RP T m rep Ps W P nx σp τp ∧ (∀ t, pl_xc T ≤ t → pl_xK T t = 0) ∧ pm_ag σp σ ∧ pm_agx τp τ ∧ z < P ∧ τ.1 0 55 = nI z ∧ pm_cl σ τ ∧ pm_ar T (pl_wv W z) σ ∧ pm_iv ic rd σ τ ∧ rd < 2 ^ 29 ∧ σ.1 7 11 = 0 ∧ τ.1 0 59 = 0
theorem pm_Pt_fr {T : pl_Tx} {m : Nat} {rep : Nat → Nat} {Ps : List pl_En} {W : pl_Wt} {P : Nat} {nx : Nat → Nat} {σ0 σ τ σ' τ' τp : pr_St} {z f k s q en : Nat} {F : List pl_N} {S' : List pl_S} {O : List pl_O} {r : pl_S} {par : Int32} (h : pm_Pt T m rep Ps W P nx z σ0 σ τ τp f k s q en F S' O r par) (f1 : pm_fc σ σ') (f2 : pm_fx τ τ') : pm_Pt T m rep Ps W P nx z σ0 σ' τ' τp f k s q en F S' O r par := by
  obtain ⟨⟨a1, a2, a3, a4, a5⟩, b2, ⟨c1, c2⟩, b4, b5, b6, b7, b8, ⟨p1, p2, p3⟩, d1, d2, N, Y, d3, d4⟩ := h
  have ag : pm_ag σ σ' := pm_ag_fc ⟨rfl, fun _ => rfl, rfl, fun _ _ _ => rfl⟩ f1
  have ax : pm_agx τ τ' := pm_agx_fx ⟨rfl, fun _ _ _ => rfl⟩ f2
  refine ⟨⟨a1, ?_, ?_, pm_sts_ag ag _ _ a4, pm_nq_ag ag a5⟩, ?_, ⟨?_, c2⟩, ?_, ?_, ?_, ?_, ?_, ⟨?_, pm_pk_ag ax p2, ?_⟩, d1, d2, N, Y, ?_, d4⟩
  · exact pl_nd_eq (Nat.le_refl _) (fun _ _ => rfl) F k (fun a y w1 w2 _ _ _ => by rw [f2.2 a (by omega)]) a2
  · exact pl_ops_fr (f1.2 22 (by omega)) (f1.2 23 (by omega)) O q a3
  · rw [f1.1 2 11 (by omega)]; exact b2
  · intro t
    rw [f1.2 24 (by omega)]
    exact c1 t
  · rw [f1.2 25 (by omega), f1.2 27 (by omega), f1.2 28 (by omega), f1.2 29 (by omega), f1.2 30 (by omega), f1.2 31 (by omega), f1.2 32 (by omega), f1.2 26 (by omega)]; exact b4
  · rw [f1.2 38 (by omega), f1.2 36 (by omega), f1.2 37 (by omega)]; exact b5
  · rw [f2.2 20 (by omega), f2.2 21 (by omega), f2.2 22 (by omega), f2.2 23 (by omega), f2.2 24 (by omega), f2.2 25 (by omega)]; exact b6
  · rw [f1.1 4 14 (by omega), f2.1 0 33 (by omega)]; exact b7
  · rw [f2.2 26 (by omega), f2.2 27 (by omega), f2.2 28 (by omega)]; exact b8
  · unfold pl_pp at *
    rw [f1.2 25 (by omega)]; exact p1
  · rw [f1.2 34 (by omega)]; exact p3
  · unfold pl_nv at *
    rw [f1.2 25 (by omega), f1.2 27 (by omega), f1.2 18 (by omega)]; exact d3
/-- the operations of a statement without BLOCKs -/
theorem pm_nq1 {T : pl_Tx} {m : Nat} {rep : Nat → Nat} {Ps : List pl_En} {W : pl_Wt} {P : Nat} {nx : Nat → Nat} {σ0 σ τ τp : pr_St} {z f k s q en : Nat} {F : List pl_N} {S' : List pl_S} {O : List pl_O} {r : pl_S} {par : Int32} (h : pm_Pt T m rep Ps W P nx z σ0 σ τ τp f k s q en F S' O r par) : pl_nq σ s q := by
  obtain ⟨⟨a1, a2, a3, a4, a5⟩, b2, _⟩ := h
  obtain ⟨rr, SS, e1, e2, _, _⟩ := pl_sT_hd a1
  have : r = rr := (List.cons.inj e1).1
  have r19 := a4.1.2.2.1
  rw [this, e2] at r19
  exact pl_nq_st b2.2.2.2.2.2 b2.2.2.2.2.1 (by have := b2.2.2.1; rw [List.length_cons] at this; omega) r19
theorem pm_ft {T : pl_Tx} {m : Nat} {rep : Nat → Nat} {Ps : List pl_En} {W : pl_Wt} {P : Nat} {nx : Nat → Nat} {σ0 σ τ τp : pr_St} {z f k s q en : Nat} {F : List pl_N} {S' : List pl_S} {O : List pl_O} {r : pl_S} {par : Int32} (h : pm_Pt T m rep Ps W P nx z σ0 σ τ τp f k s q en F S' O r par) : prf_M_firstToken σ (nI z) = some (nI r.2.1) := by
  obtain ⟨⟨a1, a2, a3, a4, a5⟩, b2, _, b4, _, _, b7, _⟩ := h
  have hs : s < pl_tS Ps := by have := b2.2.2.1; rw [List.length_cons] at this; omega
  have h2 := b2.2.2.2.2.1
  have e1 := (pm_pnt2 b7.2.2.2.2.2.1 (show P + 1 ≤ 250 by omega) (show z < P + 1 by omega)).1
  unfold prf_M_firstToken prf_G_firstTokenOf prf_G_isStatement
  rw [e1, b4.2.1, pl_sb, b2.2.2.2.2.2, if_neg (nI_pos (by omega)), if_neg (nI_ge hs (by omega)), pl_sb, if_neg pl_10, pl_ck (by omega) (by omega), nI_clamp (by omega), a4.1.2.1, pl_sb]
/-- the SUM of a statement is reckoned -/
theorem pm_one {T : pl_Tx} {m : Nat} {rep : Nat → Nat} {Ps : List pl_En} {W : pl_Wt} {P : Nat} {nx : Nat → Nat} {σp τp σ0 σ τ : pr_St} {z ic rd f k s q en ke : Nat} {F G : List pl_N} {O : List pl_O} {r : pl_S} {par : Int32} (hE : pm_En T m rep Ps W P nx z ic rd σp τp σ τ) (hPt : pm_Pt T m rep Ps W P nx z σ0 σ τ τp f k s q en F [] O r par) (hsm : pl_sm T 190 G O) (hnd : pl_nd T τ m rep ke G) (hke : ke + G.length ≤ 12870) (hlk : pm_lk T (W z).2 σ (pl_cl false G)) :
    (∃ (v : Int32) (rd' : Nat) (σ' τ' : pr_St), prf_M_reckon σ (nI z) = some σ' ∧ prf_X_reckon (prF_X_reckon 200) τ (nI ke) = some (v.toInt64, τ') ∧ rd' ≤ rd + 8000 ∧ pl_fr pm_FE pm_GE σ σ' ∧ pl_fr pm_FT pm_GT τ τ' ∧ σ'.1 7 13 = nI 1 ∧ σ'.2.1 51 0 = v ∧ σ'.1 7 11 = 0 ∧ τ'.1 0 59 = 0 ∧ pm_iv ic rd' σ' τ') ∨
    (∃ (v64 : Int64) (w : Int32) (rd' : Nat) (σ' τ' : pr_St), prf_M_reckon σ (nI z) = some σ' ∧ prf_X_reckon (prF_X_reckon 200) τ (nI ke) = some (v64, τ') ∧ rd' ≤ rd + 8000 ∧ pl_fr pm_FE pm_GE σ σ' ∧ pl_fr pm_FT pm_GT τ τ' ∧ (0 : Int32) < w ∧ σ'.1 7 11 = w ∧ τ'.1 0 59 = w ∧ pm_iv ic rd' σ' τ') := by
  obtain ⟨hRP, hT0, hag, hax, hz, h55, hcl, har, hi, hrd, h11, h59⟩ := hE
  have hv := pm_vc1 hRP hT0 hag hz hPt h55 hcl har
  have n1 := pm_nq1 hPt
  obtain ⟨⟨a1, a2, a3, a4, a5⟩, b2, _, b4, _, _, b7, _⟩ := hPt
  have f01 : pl_fr pm_FE pm_GE σ (pr_sI σ 7 13 (nI 0)) := pl_sI_fr (o := 7) (k := 13) rfl
  have hO : O.length ≤ 8000 := by omega
  have erk := pm_rk b7.2.2.2.2.2.1 b7.2.2.1 hz b4.2.1 n1 a5
  have hC : pm_C T m rep (W z).1 (W z).2 z P (pl_tO Ps) ic (q + O.length) ke q 0 rd G O (pr_sI σ 7 13 (nI 0)) τ := ⟨pm_vc_fr hv f01 pl_fr.rf, pm_iv_eq hi f01 pl_fr.rf (by rw [pr_sI_ne (by omega)]) rfl, hnd, pm_ops f01 a3, pm_lk_fr hlk rfl, ⟨hke, Nat.le_refl _, b2.2.1, by omega⟩, pr_sI_same, by rw [pr_sI_ne (by omega)]; exact h11, h59⟩
  rcases pm_ev1 (pm_sum 190 G O ke q 0 rd _ τ hsm hC (by omega)) hO (by omega) with ⟨v, rd', σ', τ', e1, e2, e3, e4⟩ | ⟨v64, w, rd', σ', τ', e1, e2, e3, e4⟩
  · obtain ⟨f1, f2, g13, g51, gj, g11, g59, giv⟩ := e4
    exact Or.inl ⟨v, rd', σ', τ', erk.trans e1, e2, by omega, f01.tr f1, f2, g13, g51, g11, g59, giv⟩
  · obtain ⟨f1, f2, w0, w1, w2, giv⟩ := e4
    exact Or.inr ⟨v64, w, rd', σ', τ', erk.trans e1, e2, by omega, f01.tr f1, f2, w0, w1, w2, giv⟩
theorem pm_cl_fr {σ τ σ' τ' : pr_St} (h : pm_cl σ τ) (f1 : pl_fr pm_FE pm_GE σ σ') (f2 : pl_fr pm_FT pm_GT τ τ') : pm_cl σ' τ' := by
  unfold pm_cl
  rw [f1.2.1 48 rfl, f1.2.1 50 rfl, f2.2.1 34 rfl, f2.2.1 35 rfl]
  exact h
theorem pm_ar_fr {T : pl_Tx} {V : List (Nat × Bool)} {σ σ' : pr_St} (h : pm_ar T V σ) (f1 : pl_fr pm_FE pm_GE σ σ') : pm_ar T V σ' := pm_ar_eq h (f1.2.1 49 rfl) (f1.2.1 50 rfl)
/-- a trap while a statement is reckoned -/
theorem pm_bad {T : pl_Tx} {W : pl_Wt} {P z ic rd rd' : Nat} {σ τ σ' τ' : pr_St} {w y : Int32} (hcl : pm_cl σ τ) (har : pm_ar T (pl_wv W z) σ) (hr : prf_M_reckon σ (nI z) = some σ') (hX : prf_X_step τ = some (y, τ')) (hrd : rd' ≤ rd + 8000) (f1 : pl_fr pm_FE pm_GE σ σ') (f2 : pl_fr pm_FT pm_GT τ τ') (w0 : (0 : Int32) < w) (w1 : σ'.1 7 11 = w) (w2 : τ'.1 0 59 = w) (hi : pm_iv ic rd' σ' τ') : pm_SR T W P z ic rd σ τ := by
  refine Or.inr ⟨y, w, rd', σ', τ', ?_, hX, w0, w1, w2, pm_fcE f1, pm_fxE f2, hi, hrd, pm_cl_fr hcl f1 f2, pm_ar_fr har f1⟩
  unfold prf_M_step
  rw [hr, pl_sb, if_neg (by rw [w1]; exact pl_neg0 w0)]
theorem pm_setN {σ : pr_St} {x : Nat} (hx : x < 12) (v : Int32) : prf_M_setNumber σ (nI x) v = some (pr_sA σ 48 (upd (σ.2.1 48) x v)) := by
  unfold prf_M_setNumber
  rw [if_neg (nI_pos (by omega)), if_neg (show ¬ (12 : Int32) ≤ nI x from nI_ge (b := 12) hx (by omega)), pl_ck hx (by omega), nI_clamp (by omega)]
theorem pm_iv_48 {ic rd : Nat} {σ τ : pr_St} (h : pm_iv ic rd σ τ) (g h' : Nat → Int32) {a b : Nat} (ha : 48 ≤ a) (hb : 34 ≤ b) : pm_iv ic rd (pr_sA σ a g) (pr_sA τ b h') := by
  obtain ⟨a1, a2, a3, a4, a5, a6⟩ := h
  refine ⟨a1, a2, a3, ?_, a5, a6⟩
  rw [pl_sA_ne (by omega), pl_sA_ne (by omega)]
  exact a4
/-- a number is set on both sides -/
theorem pm_set {T : pl_Tx} {W : pl_Wt} {P z ic rd rd' nz x : Nat} {σ τ σ' τ' : pr_St} {v : Int32} (hcl : pm_cl σ τ) (har : pm_ar T (pl_wv W nz) σ) (hC : prf_M_step σ (nI z) = some (nI nz, pr_sA σ' 48 (upd (σ'.2.1 48) x v))) (hX : prf_X_step τ = some (nI nz, pr_sA τ' 34 (upd (τ'.2.1 34) x v))) (hnz : nz ≤ P) (hrd : rd' ≤ rd + 8000) (f1 : pl_fr pm_FE pm_GE σ σ') (f2 : pl_fr pm_FT pm_GT τ τ') (w1 : σ'.1 7 11 = 0) (w2 : τ'.1 0 59 = 0) (hi : pm_iv ic rd' σ' τ') : pm_SR T W P z ic rd σ τ := by
  have hcl' := pm_cl_fr hcl f1 f2
  refine Or.inl ⟨nz, rd', _, _, hC, hX, hnz, w1, w2, (pm_fcE f1).tr ⟨fun _ _ _ => rfl, fun a ha => pl_sA_ne (by omega)⟩, (pm_fxE f2).tr ⟨fun _ _ _ => rfl, fun a ha => pl_sA_ne (by omega)⟩, pm_iv_48 hi _ _ (by decide) (by decide), hrd, ⟨fun j hj => ?_, fun j hj => ?_⟩, pm_ar_eq (pm_ar_fr har f1) (pl_sA_ne (by decide)) (pl_sA_ne (by decide))⟩
  · rw [pl_sA_same, pl_sA_same]
    by_cases w : j = x
    · rw [w, pk_us, pk_us]
    · rw [pk_un w, pk_un w]; exact hcl'.1 j hj
  · rw [pl_sA_ne (by decide), pl_sA_ne (by decide)]; exact hcl'.2 j hj
/-- where a run goes on, and what is there -/
theorem pm_nxar {T : pl_Tx} {m : Nat} {rep : Nat → Nat} {Ps : List pl_En} {W : pl_Wt} {P : Nat} {nx : Nat → Nat} {σ0 σ τ τp : pr_St} {z f k s q en : Nat} {F : List pl_N} {S' : List pl_S} {O : List pl_O} {r : pl_S} {par : Int32} (h : pm_Pt T m rep Ps W P nx z σ0 σ τ τp f k s q en F S' O r par) (hxc : pl_xc T ≤ 8001) (har : pm_ar T (pl_wv W z) σ) (hr : r.1 < 64) (hn : r.1 = 1 → ¬ pl_xK T (r.2.1 + 2) = 16) : pm_ar T (pl_wv W (nx z)) σ := by
  obtain ⟨⟨_, _, _, a4, _⟩, b2, ⟨_, _, c3, c4⟩, b4, _, _, _, _, _, d1, d2, N, Y, d3, d4⟩ := h
  have hN : ∀ e, e ∈ N → e.2 = false := by
    rcases d3 with ⟨_, rfl⟩ | ⟨w1, s', t', w2, w3, w4, w5, rfl⟩
    · intro e he; cases he
    · intro e he
      rw [List.mem_singleton.mp he]
      have e1 : r.1 = 1 := by
        by_cases u : r.1 = 1
        · exact u
        · exact absurd (b4.1.symm.trans w1) (pl_nn (j := 1) (v := 1) hr (by decide) rfl u)
      have hs := b2.2.2.1
      rw [List.length_cons] at hs
      have es : s' = s := (nI_eq (by omega) (by omega)).mp (w2.symm.trans b4.2.1)
      subst es
      have et : t' = r.2.1 := (nI_eq (by omega) (by omega)).mp (w4.symm.trans a4.1.2.1)
      subst et
      have hK := hn e1
      show (pl_xK T (r.2.1 + 2) == 16) = false
      simp [hK]
  exact pm_ar_pre (d4 ▸ pm_ar_app har hN)
