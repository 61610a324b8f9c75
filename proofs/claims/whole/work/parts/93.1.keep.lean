/-! THE MACHINE: what a run keeps -/
def pm_ar (T : pl_Tx) (V : List (Nat × Bool)) (σ : pr_St) : Prop := ∀ i e, V[i]? = some e → e.2 = true → (1 ≤ pl_vt T (e.1 + 2) ∧ pl_vt T (e.1 + 2) ≤ 64) ∧ σ.2.1 49 (pl_cnt true (V.take i)) = pl_rm T e ∧ ∀ j, pl_vt T (e.1 + 2) ≤ j → j < 64 → σ.2.1 50 (64 * pl_cnt true (V.take i) + j) = 0
def pm_cl (σ τ : pr_St) : Prop := (∀ j, j < 12 → σ.2.1 48 j = τ.2.1 34 j) ∧ ∀ j, j < 384 → σ.2.1 50 j = τ.2.1 35 j
theorem pm_ar_eq {T : pl_Tx} {V : List (Nat × Bool)} {σ σ' : pr_St} (h : pm_ar T V σ) (h49 : σ'.2.1 49 = σ.2.1 49) (h50 : σ'.2.1 50 = σ.2.1 50) : pm_ar T V σ' := by
  intro i e
  rw [h49, h50]
  exact h i e
theorem pm_ilt {α : Type} {V : List α} {i : Nat} {e : α} (h : V[i]? = some e) : i < V.length := by
  by_cases q : i < V.length
  · exact q
  · rw [List.getElem?_eq_none (by omega)] at h; cases h
theorem pm_ar_pre {T : pl_Tx} {V Y : List (Nat × Bool)} {σ : pr_St} (h : pm_ar T (V ++ Y) σ) : pm_ar T V σ := by
  intro i e he ht
  have hi := pm_ilt he
  have h1 := h i e (by rw [List.getElem?_append_left hi]; exact he) ht
  rw [List.take_append_of_le_length (by omega)] at h1
  exact h1
theorem pm_ar_app {T : pl_Tx} {V X : List (Nat × Bool)} {σ : pr_St} (h : pm_ar T V σ) (hX : ∀ e, e ∈ X → e.2 = false) : pm_ar T (V ++ X) σ := by
  intro i e he ht
  by_cases hi : i < V.length
  · rw [List.getElem?_append_left hi] at he
    rw [List.take_append_of_le_length (by omega)]
    exact h i e he ht
  · rw [List.getElem?_append_right (by omega)] at he
    have := hX e (List.mem_of_getElem? he)
    rw [this] at ht; cases ht
/-- a new array -/
theorem pm_ar_new {T : pl_Tx} {V : List (Nat × Bool)} {σ σ' : pr_St} {e : Nat × Bool} (h : pm_ar T V σ) (he : e.2 = true) (hb : 1 ≤ pl_vt T (e.1 + 2) ∧ pl_vt T (e.1 + 2) ≤ 64) (h49 : ∀ j, ¬ j = pl_cnt true V → σ'.2.1 49 j = σ.2.1 49 j) (h49' : σ'.2.1 49 (pl_cnt true V) = pl_rm T e) (h50 : ∀ j, j < 64 * pl_cnt true V → σ'.2.1 50 j = σ.2.1 50 j) (h50' : ∀ j, j < 64 → σ'.2.1 50 (64 * pl_cnt true V + j) = 0) : pm_ar T (V ++ [e]) σ' := by
  intro i x hx ht
  by_cases hi : i < V.length
  · rw [List.getElem?_append_left hi] at hx
    rw [List.take_append_of_le_length (by omega)]
    obtain ⟨a1, a2, a3⟩ := h i x hx ht
    have hlt := pm_take_lt hx ht
    refine ⟨a1, by rw [h49 _ (by omega)]; exact a2, fun j j1 j2 => ?_⟩
    rw [h50 _ (by omega)]
    exact a3 j j1 j2
  · have hi' := pm_ilt hx
    rw [List.length_append, List.length_singleton] at hi'
    have : i = V.length := by omega
    subst this
    rw [List.getElem?_append_right (Nat.le_refl _), Nat.sub_self] at hx
    have : e = x := by simpa using hx
    subst this
    rw [List.take_append_of_le_length (Nat.le_refl _), List.take_length]
    exact ⟨hb, h49', fun j _ j2 => h50' j j2⟩
/-- a place is set -/
theorem pm_ar_set {T : pl_Tx} {V : List (Nat × Bool)} {σ : pr_St} {s R j : Nat} {v : Int32} (h : pm_ar T V σ) (h49 : σ.2.1 49 s = nI R) (hj : j < R) (hR : R ≤ 64) : pm_ar T V (pr_sA σ 50 (upd (σ.2.1 50) (64 * s + j) v)) := by
  intro i e he ht
  obtain ⟨a1, a2, a3⟩ := h i e he ht
  refine ⟨a1, a2, fun y y1 y2 => ?_⟩
  rw [pl_sA_same, pk_un]
  · exact a3 y y1 y2
  · intro w
    have es : pl_cnt true (V.take i) = s := by omega
    rw [es, h49] at a2
    have erm : pl_rm T e = nI (pl_vt T (e.1 + 2)) := if_pos ht
    rw [erm] at a2
    have := (nI_eq (by omega) (by omega)).mp a2
    omega
/-! what a step may change -/
def pm_fc (σ σ' : pr_St) : Prop := (∀ o k, ¬ (o = 7 ∧ (k = 10 ∨ k = 11 ∨ k = 13)) → σ'.1 o k = σ.1 o k) ∧ ∀ a, ¬ (48 ≤ a ∧ a ≤ 51) → σ'.2.1 a = σ.2.1 a
def pm_fx (τ τ' : pr_St) : Prop := (∀ o k, ¬ (o = 0 ∧ (k = 58 ∨ k = 59)) → τ'.1 o k = τ.1 o k) ∧ ∀ a, ¬ (a = 34 ∨ a = 35) → τ'.2.1 a = τ.2.1 a
theorem pm_fc.tr {a b c : pr_St} (h1 : pm_fc a b) (h2 : pm_fc b c) : pm_fc a c := ⟨fun o k h => (h2.1 o k h).trans (h1.1 o k h), fun x h => (h2.2 x h).trans (h1.2 x h)⟩
theorem pm_fx.tr {a b c : pr_St} (h1 : pm_fx a b) (h2 : pm_fx b c) : pm_fx a c := ⟨fun o k h => (h2.1 o k h).trans (h1.1 o k h), fun x h => (h2.2 x h).trans (h1.2 x h)⟩
theorem pm_fcE {σ σ' : pr_St} (h : pl_fr pm_FE pm_GE σ σ') : pm_fc σ σ' := by
  refine ⟨fun o k hk => h.1 o k (Bool.eq_false_iff.mpr (fun w => hk ?_)), fun a ha => h.2.1 a (Bool.eq_false_iff.mpr (fun w => ha ?_))⟩
  · simp [pm_FE] at w
    exact ⟨w.1, by omega⟩
  · simp [pm_GE] at w
    omega
theorem pm_fxE {τ τ' : pr_St} (h : pl_fr pm_FT pm_GT τ τ') : pm_fx τ τ' := by
  refine ⟨fun o k hk => h.1 o k (Bool.eq_false_iff.mpr (fun w => hk ?_)), fun a _ => h.2.1 a rfl⟩
  simp [pm_FT] at w
  exact w
theorem pm_ag_fc {σp σ σ' : pr_St} (h : pm_ag σp σ) (f : pm_fc σ σ') : pm_ag σp σ' := ⟨by rw [f.1 1 6 (by omega)]; exact h.1, fun k => by rw [f.1 2 k (by omega)]; exact h.2.1 k, by rw [f.1 4 14 (by omega)]; exact h.2.2.1, fun a h1 h2 => by rw [f.2 a (by omega)]; exact h.2.2.2 a h1 h2⟩
theorem pm_agx_fx {τp τ τ' : pr_St} (h : pm_agx τp τ) (f : pm_fx τ τ') : pm_agx τp τ' := ⟨by rw [f.1 0 33 (by omega)]; exact h.1, fun a h1 h2 => by rw [f.2 a (by omega)]; exact h.2 a h1 h2⟩
/-- the names and numbers at a point -/
theorem pm_vc1 {T : pl_Tx} {m : Nat} {rep : Nat → Nat} {Ps : List pl_En} {W : pl_Wt} {P : Nat} {nx : Nat → Nat} {σp τp σ0 σ τ : pr_St} {z f k s q en : Nat} {F : List pl_N} {S' : List pl_S} {O : List pl_O} {r : pl_S} {par : Int32} (hRP : pl_RP T m rep Ps W P nx σp τp) (hT0 : ∀ t, pl_xc T ≤ t → pl_xK T t = 0) (hag : pm_ag σp σ) (hz : z < P) (hPt : pm_Pt T m rep Ps W P nx z σ0 σ τ τp f k s q en F S' O r par) (h55 : τ.1 0 55 = nI z) (hcl : pm_cl σ τ) (har : pm_ar T (pl_wv W z) σ) : pm_vc T m rep (W z).1 (W z).2 z P (pl_tO Ps) σ τ := by
  obtain ⟨hb, hP, _⟩ := hRP
  obtain ⟨_, b2, _, b4, _, b6, b7, b8, _, _⟩ := hPt
  refine ⟨pm_tv_eq (pm_tv_mk hb.1 hT0) hag.1 (hag.2.2.2 9 (by decide) (by decide)) (hag.2.2.2 11 (by decide) (by decide)), hb.2.2.1, hb.2.2.2.1, ⟨b7.2.2.2.2.2.1, hz, hP, by rw [hag.2.1 14]; exact hb.2.2.2.2.2.2.2.2.2.2.2.1, b2.2.2.2.1⟩, ⟨b4.2.2.2.2.1, b4.2.2.2.2.2.1, b7.2.2.2.1, b7.2.2.2.2.1⟩, ⟨h55, b6.2.2.2.2.2⟩, b8, hcl.1, hcl.2, fun i e he ht => ?_⟩
  have h1 := (har ((W z).1.length + i) e (by unfold pl_wv; rw [List.getElem?_append_right (by omega), Nat.add_sub_cancel_left]; exact he) ht).2.1
  unfold pl_wv at h1
  rw [List.take_append, List.take_of_length_le (by omega), Nat.add_sub_cancel_left] at h1
  exact h1
theorem pm_pnt2 {σ : pr_St} {p pp : Nat} (h : σ.1 4 14 = nI p) (hp : p ≤ 250) (hpp : pp < p) : prf_O_statementOf σ (nI pp) = some (σ.2.1 27 pp) ∧ prf_O_nextOf σ (nI pp) = some (σ.2.1 38 pp) ∧ prf_O_intoOf σ (nI pp) = some (σ.2.1 36 pp) ∧ prf_O_otherOf σ (nI pp) = some (σ.2.1 37 pp) ∧ prf_O_parentOf σ (nI pp) = some (σ.2.1 32 pp) ∧ prf_O_targetOf σ (nI pp) = some (σ.2.1 34 pp) ∧ prf_O_placeOf σ (nI pp) = some (σ.2.1 26 pp) := by
  have e := (pl_pnt h hp hpp).1
  unfold prf_O_statementOf prf_O_nextOf prf_O_intoOf prf_O_otherOf prf_O_parentOf prf_O_targetOf prf_O_placeOf
  rw [e]
  simp only [pl_sb, if_neg pl_10]
  refine ⟨?_, ?_, ?_, ?_, ?_, ?_, ?_⟩ <;> rw [pl_ck (by omega) (by omega), nI_clamp (by omega)]
/-- the class reckons a statement's operations -/
theorem pm_rk {σ : pr_St} {P z s q qe : Nat} (h14 : σ.1 4 14 = nI (P + 1)) (hP : P ≤ 249) (hz : z < P) (h27 : σ.2.1 27 z = nI s) (n1 : pl_nq σ s q) (n2 : pl_nq σ (s + 1) qe) : prf_M_reckon σ (nI z) = prf_M_reckon_35 pr_FU (pr_sI σ 7 13 (nI 0)) (nI z) (nI qe) (nI q) := by
  have f1 : pm_fc σ (pr_sI σ 7 13 0) := ⟨fun o k hk => pr_sI_ne (by omega), fun _ _ => rfl⟩
  have ag : pm_ag σ (pr_sI σ 7 13 0) := pm_ag_fc ⟨rfl, fun _ => rfl, rfl, fun _ _ _ => rfl⟩ f1
  have e1 := (pm_pnt2 (σ := pr_sI σ 7 13 0) (p := P + 1) (pp := z) (by rw [pr_sI_ne (by omega)]; exact h14) (by omega) (by omega)).1
  have e1' : prf_O_statementOf (pr_sI σ 7 13 0) (nI z) = some (nI s) := by rw [e1]; exact congrArg some h27
  have m1 : prf_G_firstOperationOf (pr_sI σ 7 13 0) (nI s) = some (nI q) := pm_nq_ag ag n1
  have m2 : prf_G_firstOperationOf (pr_sI σ 7 13 0) (nI (s + 1)) = some (nI qe) := pm_nq_ag ag n2
  unfold prf_M_reckon
  rw [e1', pl_sb, nI_1, m2, pl_sb, m1, pl_sb]
  rfl
theorem pm_rkG {z qe n q : Nat} {σ σ' : pr_St} (h : pm_go z qe n q qe σ σ') (hn : n ≤ 8000) : prf_M_reckon_35 pr_FU σ (nI z) (nI qe) (nI q) = some σ' := by
  have hF : pr_FU = 100000 := rfl
  rw [show pr_FU = (pr_FU - n - 1 + 1) + n by rw [hF]; omega, h, prf_M_reckon_35, if_pos (Int32.le_refl _)]
theorem pm_rkT {z qe n q : Nat} {σ σ' : pr_St} (h : pm_ht z qe n q σ σ') (hn : n ≤ 8001) : prf_M_reckon_35 pr_FU σ (nI z) (nI qe) (nI q) = some σ' := by
  have hF : pr_FU = 100000 := rfl
  rw [show pr_FU = (pr_FU - n) + n by rw [hF]; omega, h]
/-- what is looked up in an expression of a statement is there -/
theorem pm_lkc {T : pl_Tx} {σp τp σ : pr_St} {E : List (Nat × Bool)} {a b : Nat} {G : List pl_N} {r : pl_S} (htt : pl_tt T σp τp) (hcm : pl_cm (pl_xK T) a b G) (hb : b < pl_xc T) (h12 : ¬ pl_xK T b = 12) (hok : pl_ok T r σ) (hE : r.2.2.2.2.2.1 = E) (ha : r.2.1 ≤ a) (hbe : b ≤ r.2.2.2.2.2.2) (hvar : r.1 = 1 → r.2.1 + 1 < a) : pm_lk T E σ (pl_cl false G) := by
  have htc := pl_tc_cm htt hcm hb h12
  intro c hc
  rw [hcm.2.2.1] at hc
  obtain ⟨m1, m2, m3⟩ := pl_cu_mem (b - a) a c hc
  have hab := hcm.1
  obtain ⟨t1, t2, t3, t4, t5⟩ := htc c.1 m1 (by omega)
  refine ⟨fun k2 => ?_, fun k11 k12 => t5 k11 k12⟩
  have := hok c.1 (by omega) (by omega) k2 (t4 k2) (fun w => by have := hvar w.1; omega)
  rw [hE, ← m3 k2] at this
  exact this
/-- what becomes of a step -/
def pm_SR (T : pl_Tx) (W : pl_Wt) (P z ic rd : Nat) (σ τ : pr_St) : Prop :=
  (∃ (nz rd' : Nat) (σ' τ' : pr_St), prf_M_step σ (nI z) = some (nI nz, σ') ∧ prf_X_step τ = some (nI nz, τ') ∧ nz ≤ P ∧ σ'.1 7 11 = 0 ∧ τ'.1 0 59 = 0 ∧ pm_fc σ σ' ∧ pm_fx τ τ' ∧ pm_iv ic rd' σ' τ' ∧ rd' ≤ rd + 8000 ∧ pm_cl σ' τ' ∧ pm_ar T (pl_wv W nz) σ') ∨
  (∃ (y w : Int32) (rd' : Nat) (σ' τ' : pr_St), prf_M_step σ (nI z) = some (nI z, σ') ∧ prf_X_step τ = some (y, τ') ∧ (0 : Int32) < w ∧ σ'.1 7 11 = w ∧ τ'.1 0 59 = w ∧ pm_fc σ σ' ∧ pm_fx τ τ' ∧ pm_iv ic rd' σ' τ' ∧ rd' ≤ rd + 8000 ∧ pm_cl σ' τ' ∧ pm_ar T (pl_wv W z) σ')
theorem pm_ev1 {z q lO ic rd f ke : Nat} {σ τ : pr_St} (h : pm_Ev z (q + lO) q lO 0 ic rd f σ τ (fun h => prF_X_reckon h τ (nI ke))) (hl : lO ≤ 8000) (hf : f ≤ 201) :
    (∃ (v : Int32) (rd' : Nat) (σ' τ' : pr_St), prf_M_reckon_35 pr_FU σ (nI z) (nI (q + lO)) (nI q) = some σ' ∧ prf_X_reckon (prF_X_reckon 200) τ (nI ke) = some (v.toInt64, τ') ∧ rd' ≤ rd + lO ∧ pm_EG 0 ic rd' v σ τ σ' τ') ∨
    (∃ (v64 : Int64) (w : Int32) (rd' : Nat) (σ' τ' : pr_St), prf_M_reckon_35 pr_FU σ (nI z) (nI (q + lO)) (nI q) = some σ' ∧ prf_X_reckon (prF_X_reckon 200) τ (nI ke) = some (v64, τ') ∧ rd' ≤ rd + lO ∧ pm_EB ic rd' w σ τ σ' τ') := by
  rcases h with ⟨n, v, rd1, σ1, τ1, a1, a2, a3, a4, a5⟩ | ⟨n, w, rd1, σ1, τ1, a1, a2, a3, a4, a5⟩
  · exact Or.inl ⟨v, rd1, σ1, τ1, pm_rkG a3 (by omega), a4 201 hf, a2, a5⟩
  · obtain ⟨v64, ev⟩ := a4 201 hf
    exact Or.inr ⟨v64, w, rd1, σ1, τ1, pm_rkT a3 (by omega), ev, a2, a5⟩
theorem pm_ev2 {z q lO ic rd f ke : Nat} {σ τ : pr_St} (h : pm_Ec z (q + lO) q lO 0 ic rd f σ τ (fun h => prF_X_holds h τ (nI ke))) (hl : lO ≤ 8000) (hf : f ≤ 201) :
    (∃ (v : Int32) (rd' : Nat) (σ' τ' : pr_St), (v = 0 ∨ v = 1) ∧ prf_M_reckon_35 pr_FU σ (nI z) (nI (q + lO)) (nI q) = some σ' ∧ prf_X_holds (prF_X_holds 200) τ (nI ke) = some (v, τ') ∧ rd' ≤ rd + lO ∧ pm_EG 0 ic rd' v σ τ σ' τ') ∨
    (∃ (b w : Int32) (rd' : Nat) (σ' τ' : pr_St), prf_M_reckon_35 pr_FU σ (nI z) (nI (q + lO)) (nI q) = some σ' ∧ prf_X_holds (prF_X_holds 200) τ (nI ke) = some (b, τ') ∧ rd' ≤ rd + lO ∧ pm_EB ic rd' w σ τ σ' τ') := by
  rcases h with ⟨n, v, rd1, σ1, τ1, a0, a1, a2, a3, a4, a5⟩ | ⟨n, w, rd1, σ1, τ1, a1, a2, a3, a4, a5⟩
  · exact Or.inl ⟨v, rd1, σ1, τ1, a0, pm_rkG a3 (by omega), a4 201 hf, a2, a5⟩
  · obtain ⟨b, ev⟩ := a4 201 hf
    exact Or.inr ⟨b, w, rd1, σ1, τ1, pm_rkT a3 (by omega), ev, a2, a5⟩
