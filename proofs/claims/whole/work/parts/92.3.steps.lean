/-! THE MACHINE: steps of an expression -/
def pm_go (z qe n q q' : Nat) (σ σ' : pr_St) : Prop := ∀ g, prf_M_reckon_35 (g + n) σ (nI z) (nI qe) (nI q) = prf_M_reckon_35 g σ' (nI z) (nI qe) (nI q')
def pm_ht (z qe n q : Nat) (σ σ' : pr_St) : Prop := ∀ g, prf_M_reckon_35 (g + n) σ (nI z) (nI qe) (nI q) = some σ'
theorem pm_go.tr {z qe n n' q q' q'' : Nat} {σ σ' σ'' : pr_St} (h1 : pm_go z qe n q q' σ σ') (h2 : pm_go z qe n' q' q'' σ' σ'') : pm_go z qe (n + n') q q'' σ σ'' := by
  intro g
  rw [show g + (n + n') = g + n' + n by omega, h1, h2]
theorem pm_go.ht {z qe n n' q q' : Nat} {σ σ' σ'' : pr_St} (h1 : pm_go z qe n q q' σ σ') (h2 : pm_ht z qe n' q' σ' σ'') : pm_ht z qe (n + n') q σ σ'' := by
  intro g
  rw [show g + (n + n') = g + n' + n by omega, h1, h2]
theorem pm_tp {z qe q : Nat} {σ : pr_St} (h : ¬ σ.1 7 11 = 0) : pm_ht z qe 1 q σ σ := fun _ => pm_opT h
theorem pm_sI_id {σ : pr_St} {o k : Nat} : pr_sI σ o k (σ.1 o k) = σ := by
  unfold pr_sI
  refine Prod.ext ?_ rfl
  funext x y
  show (if x = o then (if y = k then σ.1 o k else σ.1 x y) else σ.1 x y) = σ.1 x y
  by_cases h1 : x = o
  · rw [if_pos h1]
    by_cases h2 : y = k
    · rw [if_pos h2, h1, h2]
    · rw [if_neg h2]
  · rw [if_neg h1]
theorem pm_vcO {T : pl_Tx} {m : Nat} {rep : Nat → Nat} {A E : List (Nat × Bool)} {z P nO : Nat} {σ τ : pr_St} (h : pm_vc T m rep A E z P nO σ τ) : σ.1 2 14 = nI nO ∧ nO ≤ 8000 := ⟨h.2.2.2.1.2.2.2.1, h.2.2.2.1.2.2.2.2⟩
theorem pm_op1 {σ σ' : pr_St} {nO q o z qe : Nat} {x : Int32} (h14 : σ.1 2 14 = nI nO) (hn : nO ≤ 8000) (hq : q < qe) (hqe : qe ≤ nO) (ht : σ.1 7 11 = 0) (h22 : σ.2.1 22 q = nI o) (h23 : σ.2.1 23 q = x) (ho : o = 2 ∨ o = 3 ∨ o = 11 ∨ (34 ≤ o ∧ o ≤ 38)) (hr : prf_M_reckonOne σ (nI z) (nI o) x = some σ') : pm_go z qe 1 q (q + 1) σ σ' := by
  intro g
  rw [pm_opS h14 hn (by omega) hq hqe ht h22 h23 (by omega), if_neg (by omega), if_neg (by omega), if_neg (by omega), hr, pl_sb]
theorem pm_op2 {σ σ' : pr_St} {nO q o z qe : Nat} {x : Int32} (h14 : σ.1 2 14 = nI nO) (hn : nO ≤ 8000) (hq : q < qe) (hqe : qe ≤ nO) (ht : σ.1 7 11 = 0) (h22 : σ.2.1 22 q = nI o) (h23 : σ.2.1 23 q = x) (ho : 21 ≤ o ∧ o ≤ 25) (hr : prf_M_reckonTwo σ (nI o) = some σ') : pm_go z qe 1 q (q + 1) σ σ' := by
  intro g
  rw [pm_opS h14 hn (by omega) hq hqe ht h22 h23 (by omega), if_neg (by omega), if_pos ho, hr, pl_sb]
theorem pm_op3 {σ σ' : pr_St} {nO q o z qe : Nat} {x : Int32} (h14 : σ.1 2 14 = nI nO) (hn : nO ≤ 8000) (hq : q < qe) (hqe : qe ≤ nO) (ht : σ.1 7 11 = 0) (h22 : σ.2.1 22 q = nI o) (h23 : σ.2.1 23 q = x) (ho : 26 ≤ o ∧ o ≤ 31) (hr : prf_M_compareTwo σ (nI o) = some σ') : pm_go z qe 1 q (q + 1) σ σ' := by
  intro g
  rw [pm_opS h14 hn (by omega) hq hqe ht h22 h23 (by omega), if_neg (by omega), if_neg (by omega), if_pos ho, hr, pl_sb]
/-- a number is laid on the pile -/
theorem pm_EGq {σ τ σ1 τ1 : pr_St} {c ic rd : Nat} {v : Int32} (f1 : pl_fr pm_FE pm_GE σ σ1) (f2 : pl_fr pm_FT pm_GT τ τ1) (hr : ∀ j, j < c → σ1.2.1 51 j = σ.2.1 51 j) (h11 : σ1.1 7 11 = 0) (h59 : τ1.1 0 59 = 0) (hi : pm_iv ic rd σ1 τ1) : pm_EG c ic rd v σ τ (pm_ph σ1 c v) τ1 := by
  refine ⟨f1.tr pm_ph_fr, f2, pr_sI_same, ?_, fun j hj => ?_, ?_, h59, ?_⟩
  · unfold pm_ph; rw [pl_sI_A, pl_sA_same, pk_us]
  · unfold pm_ph; rw [pl_sI_A, pl_sA_same, pk_un (by omega)]; exact hr j hj
  · unfold pm_ph; rw [pr_sI_ne (by omega)]; exact h11
  · exact pm_iv_eq hi pm_ph_fr pl_fr.rf (by unfold pm_ph; rw [pr_sI_ne (by omega)]; rfl) rfl
theorem pm_nd {T : pl_Tx} {m : Nat} {rep : Nat → Nat} {τ τ' : pr_St} {k : Nat} {F : List pl_N} (f2 : pl_fr pm_FT pm_GT τ τ') (h : pl_nd T τ m rep k F) : pl_nd T τ' m rep k F := pl_nd_eq (Nat.le_refl _) (fun _ _ => rfl) F k (fun r z _ _ _ _ _ => by rw [f2.2.1 r rfl]) h
theorem pm_ops {σ σ' : pr_St} {q : Nat} {O : List pl_O} (f1 : pl_fr pm_FE pm_GE σ σ') (h : pl_ops σ q O) : pl_ops σ' q O := pl_ops_fr (f1.2.1 22 rfl) (f1.2.1 23 rfl) O q h
theorem pm_opl {σ : pr_St} : ∀ (a b : List pl_O) (q : Nat), pl_ops σ q (a ++ b) → pl_ops σ q a ∧ pl_ops σ (q + a.length) b := by
  intro a
  induction a with
  | nil => intro b q h; exact ⟨trivial, h⟩
  | cons o l ih =>
    intro b q h
    obtain ⟨i1, i2⟩ := ih b (q + 1) h.2.2
    refine ⟨⟨h.1, h.2.1, i1⟩, ?_⟩
    rw [List.length_cons, show q + (l.length + 1) = q + 1 + l.length by omega]
    exact i2
/-- what is looked up is there -/
def pm_lk (T : pl_Tx) (E : List (Nat × Bool)) (σ : pr_St) (C : List (Nat × Bool)) : Prop := ∀ c, c ∈ C → (pl_xK T c.1 = 2 → pl_so T E c.1 c.2 (σ.2.1 24 c.1)) ∧ (pl_xK T c.1 = 11 → pl_xK T (c.1 + 1) = 12 → pl_sec T (c.1 + 2) + 1 < pl_xc T)
theorem pm_lk_fr {T : pl_Tx} {E C : List (Nat × Bool)} {σ σ' : pr_St} (h : pm_lk T E σ C) (h24 : σ'.2.1 24 = σ.2.1 24) : pm_lk T E σ' C := by
  intro c hc
  rw [h24]
  exact h c hc
theorem pm_lk_l {T : pl_Tx} {E C D : List (Nat × Bool)} {σ : pr_St} (h : pm_lk T E σ (C ++ D)) : pm_lk T E σ C ∧ pm_lk T E σ D := ⟨fun c hc => h c (List.mem_append_left _ hc), fun c hc => h c (List.mem_append_right _ hc)⟩
theorem pm_sm14 {T : pl_Tx} : ∀ (f : Nat) (F : List pl_N) (O : List pl_O), pl_sm T f F O → ∀ b, pl_l14 b F = false := by
  intro f
  induction f with
  | zero => intro F O h; exact h.elim
  | succ f ih =>
    intro F O h b
    rcases h with ⟨t, _, rfl, _⟩ | ⟨t, _, rfl, _⟩ | ⟨t, G, Q, _, rfl, _, h3⟩ | ⟨t, G, Q, rfl, _, h3⟩ | ⟨t, _, _, rfl, _⟩ | ⟨t, _, _, rfl, _⟩ | ⟨k, t, G, Q, Ls, h0, rfl, _, h3, h4⟩
    · rfl
    · rfl
    · exact ih G Q h3 _
    · exact ih G Q h3 _
    · rfl
    · rfl
    · show pl_l14 _ (G ++ pl_catN Ls) = false
      rw [pl_l14_app, ih G Q h3]
      have : ∀ (L : List (Nat × Nat × List pl_N × List pl_O)), (∀ e, e ∈ L → (18 ≤ e.1 ∧ e.1 ≤ 23 ∧ e.1 ≠ 20) ∧ pl_sm T f e.2.2.1 e.2.2.2) → pl_l14 false (pl_catN L) = false := by
        intro L
        induction L with
        | nil => intro _; rfl
        | cons e l il =>
          intro hL
          show pl_l14 _ (e.2.2.1 ++ pl_catN l) = false
          rw [pl_l14_app, ih _ _ (hL e (List.mem_cons_self)).2]
          exact il (fun x hx => hL x (List.mem_cons_of_mem _ hx))
      exact this Ls h4
theorem pm_sub2 (c : Nat) : nI (c + 2) - 2 = nI c := by
  rw [← pl_n2]
  exact Int32.add_sub_cancel _ _
/-- a place that is looked at -/
theorem pm_look {σ : pr_St} {c s R : Nat} {v : Int32} (h13 : σ.1 7 13 = nI (c + 2)) (hc : c + 2 ≤ 256) (hs : s < 6) (hR : R ≤ 64) (h49 : σ.2.1 49 s = nI R) (e0 : σ.2.1 51 c = nI s) (e1 : σ.2.1 51 (c + 1) = v) : prf_M_lookAtPlace σ = if v < 0 ∨ nI R ≤ v then some (pr_sI σ 7 11 4) else some σ := by
  unfold prf_M_lookAtPlace
  have e2 : nI (c + 2) - 1 = nI (c + 1) := pl_sub1 (c + 1)
  rw [h13, pm_sub2, e2, pm_wat h13 (by omega) hc, pl_sb, pm_wat h13 (by omega) hc, pl_sb, e0, e1, pm_has hs hR h49 v, pl_sb]
  by_cases q1 : v < 0
  · rw [if_pos q1, if_pos rfl, if_pos (Or.inl q1)]
  · rw [if_neg q1]
    by_cases q2 : nI R ≤ v
    · rw [if_pos q2, if_pos rfl, if_pos (Or.inr q2)]
    · rw [if_neg q2, if_neg pl_10, if_neg (fun w => w.elim q1 q2)]
/-- a place of an array, taken from the pile -/
theorem pm_take {σ : pr_St} {c s R : Nat} {v : Int32} (h13 : σ.1 7 13 = nI (c + 2)) (hc : c + 2 ≤ 256) (hs : s < 6) (hR : R ≤ 64) (h49 : σ.2.1 49 s = nI R) (e0 : σ.2.1 51 c = nI s) (e1 : σ.2.1 51 (c + 1) = v) (h11 : σ.1 7 11 = 0) :
    (v < 0 ∨ nI R ≤ v → ∃ σ', prf_M_takePlace σ = some σ' ∧ pl_fr pm_FE pm_GE σ σ' ∧ σ'.1 7 11 = 4 ∧ σ'.1 7 10 = σ.1 7 10) ∧
    (¬ v < 0 → ¬ nI R ≤ v → ∃ σ1, prf_M_takePlace σ = some (pm_ph σ1 c (σ.2.1 50 (64 * s + v.toNatClampNeg))) ∧ pl_fr pm_FE pm_GE σ σ1 ∧ σ1.2.1 = σ.2.1 ∧ σ1.1 7 11 = 0 ∧ σ1.1 7 10 = σ.1 7 10 ∧ v = nI v.toNatClampNeg ∧ v.toNatClampNeg < R) := by
  have gen : ∀ (σa : pr_St) (y : Int32), σa.1 7 13 = nI (c + 2) → σa.2.1 = σ.2.1 → prf_M_getPlace (pr_sI (pr_sI σa 7 13 (nI (c + 1))) 7 13 (nI c)) (nI s) v = some y → ((prf_M_pop σa).bind fun r7 => (prf_M_pop r7.2).bind fun r8 => (prf_M_getPlace r8.2 r8.1 r7.1).bind fun r9 => (prf_M_push r8.2 r9).bind fun r10 => some r10) = some (pm_ph (pr_sI (pr_sI σa 7 13 (nI (c + 1))) 7 13 (nI c)) c y) := by
    intro σa y ha hra hy
    have p1 := pm_pop (σ := σa) (c := c + 1) ha (by omega)
    have p2 := pm_pop (σ := pr_sI σa 7 13 (nI (c + 1))) (c := c) pr_sI_same (by omega)
    have q1 : σa.2.1 51 (c + 1) = v := by rw [hra]; exact e1
    have q2 : (pr_sI σa 7 13 (nI (c + 1))).2.1 51 c = nI s := by rw [pl_sI_A, hra]; exact e0
    rw [q1] at p1
    rw [q2] at p2
    rw [p1, pl_sb]
    dsimp only
    rw [p2, pl_sb]
    dsimp only
    rw [hy, pl_sb, pm_push pr_sI_same (by omega), pl_sb]
  have hg : ∀ σb : pr_St, σb.2.1 = σ.2.1 → prf_M_hasPlace σb (nI s) v = some (if v < 0 then 0 else if nI R ≤ v then 0 else 1) := fun σb hb => pm_has hs hR (by rw [hb]; exact h49) v
  constructor
  · intro hq
    have e6 := pm_look h13 hc hs hR h49 e0 e1
    rw [if_pos hq] at e6
    have hy : prf_M_getPlace (pr_sI (pr_sI (pr_sI σ 7 11 4) 7 13 (nI (c + 1))) 7 13 (nI c)) (nI s) v = some 0 := by
      unfold prf_M_getPlace
      rw [hg (pr_sI (pr_sI (pr_sI σ 7 11 4) 7 13 (nI (c + 1))) 7 13 (nI c)) rfl, pl_sb]
      by_cases q1 : v < 0
      · rw [if_pos q1, if_pos rfl]
      · rw [if_neg q1, if_pos (hq.resolve_left q1), if_pos rfl]
    have h13' : (pr_sI σ 7 11 4).1 7 13 = nI (c + 2) := by rw [pr_sI_ne (by omega)]; exact h13
    refine ⟨pm_ph (pr_sI (pr_sI (pr_sI σ 7 11 4) 7 13 (nI (c + 1))) 7 13 (nI c)) c 0, ?_, ((((pl_sI_fr (o := 7) (k := 11) rfl).tr (pl_sI_fr (o := 7) (k := 13) rfl)).tr (pl_sI_fr (o := 7) (k := 13) rfl)).tr pm_ph_fr), ?_, ?_⟩
    · unfold prf_M_takePlace
      rw [e6, pl_sb]
      exact gen _ 0 h13' rfl hy
    · rw [show ∀ (σx : pr_St) (y : Int32), (pm_ph σx c y).1 7 11 = σx.1 7 11 from fun σx y => by unfold pm_ph; rw [pr_sI_ne (by omega)]; rfl, pr_sI_ne (by omega), pr_sI_ne (by omega)]
      exact pr_sI_same
    · rw [show ∀ (σx : pr_St) (y : Int32), (pm_ph σx c y).1 7 10 = σx.1 7 10 from fun σx y => by unfold pm_ph; rw [pr_sI_ne (by omega)]; rfl, pr_sI_ne (by omega), pr_sI_ne (by omega), pr_sI_ne (by omega)]
  · intro q1 q2
    have e6 := pm_look h13 hc hs hR h49 e0 e1
    rw [if_neg (fun w => w.elim q1 q2)] at e6
    obtain ⟨hv, hv2⟩ := pm_nn q1
    have hvR : v.toNatClampNeg < R := by
      by_cases w : v.toNatClampNeg < R
      · exact w
      · rw [hv] at q2
        exact absurd (nI_le (by omega) hv2) q2
    have hy : prf_M_getPlace (pr_sI (pr_sI σ 7 13 (nI (c + 1))) 7 13 (nI c)) (nI s) v = some (σ.2.1 50 (64 * s + v.toNatClampNeg)) := by
      unfold prf_M_getPlace
      have em : nI s * 64 + v = nI (s * 64 + v.toNatClampNeg) := by
        conv => lhs; rw [hv]
        rw [show (64 : Int32) = nI 64 from rfl, pk_mul, nI_add]
      rw [hg (pr_sI (pr_sI σ 7 13 (nI (c + 1))) 7 13 (nI c)) rfl, pl_sb, if_neg q1, if_neg q2, if_neg pl_10, em, pl_ck (by omega) (by omega), nI_clamp (by omega), show s * 64 + v.toNatClampNeg = 64 * s + v.toNatClampNeg by omega]
      rfl
    refine ⟨pr_sI (pr_sI σ 7 13 (nI (c + 1))) 7 13 (nI c), ?_, (pl_sI_fr (o := 7) (k := 13) rfl).tr (pl_sI_fr (o := 7) (k := 13) rfl), rfl, ?_, ?_, hv, hvR⟩
    · unfold prf_M_takePlace
      rw [e6, pl_sb]
      exact gen _ _ h13 rfl hy
    · rw [pr_sI_ne (by omega), pr_sI_ne (by omega)]; exact h11
    · rw [pr_sI_ne (by omega), pr_sI_ne (by omega)]
/-! the reference when there was a trap -/
theorem pm_wholeB {τ : pr_St} (h : ¬ τ.1 0 59 = 0) (x : Int64) : ∃ y, prf_X_whole τ x = some (y, τ) := by
  have e : prf_X_trapped τ 1 = some (0, τ) := by
    unfold prf_X_trapped
    rw [if_neg h, pm_sI_id]
  unfold prf_X_whole
  rw [e, pl_sb]
  by_cases q1 : lg_cmp x (-2147483648) < 0
  · rw [if_pos q1]; exact ⟨_, rfl⟩
  · rw [if_neg q1]
    by_cases q2 : lg_cmp x 2147483647 ≤ 0
    · rw [if_pos q2]; exact ⟨_, rfl⟩
    · rw [if_neg q2]; exact ⟨_, rfl⟩
theorem pm_rkB {rc : pr_St → Int32 → Option (Int64 × pr_St)} {τ : pr_St} {x : Int32} (h : (0 : Int32) < τ.1 0 59) : prf_X_reckon rc τ x = some (0, τ) := by
  unfold prf_X_reckon
  rw [if_neg (Int32.not_le.mpr h)]
theorem pm_secX {τ : pr_St} {k z : Nat} (hk : k + 1 < 13000) (hz : τ.2.1 17 (k + 1) = nI z) : prf_X_second τ (nI k) = some (nI (k + 1 + z)) := by
  unfold prf_X_second
  rw [nI_1, pl_behX hk hz, pl_sb]
/-- a place in the reference -/
theorem pm_plG {rc : pr_St → Int32 → Option (Int64 × pr_St)} {τ τ2 : pr_St} {kn k2 id x s R : Nat} {v : Int32} (h1 : rc τ (nI k2) = some (v.toInt64, τ2)) (hk : kn < 13000) (h15 : τ2.2.1 15 kn = nI id) (hm : prf_X_meantAt τ2 (nI id) = some (nI x)) (hx : x < 10040) (h27 : τ2.2.1 27 x = nI s) (h28 : τ2.2.1 28 x = nI R) (h59 : τ2.1 0 59 = 0) : (v < 0 ∨ nI R ≤ v → prf_X_placeOf rc τ (nI kn) (nI k2) = some (0, pr_sI τ2 0 59 4)) ∧ (¬ v < 0 → ¬ nI R ≤ v → prf_X_placeOf rc τ (nI kn) (nI k2) = some (64 * nI s + v, τ2)) := by
  have l0 : lg_cmp v.toInt64 0 < 0 ↔ v < 0 := (lg_cmp_lt _ _).trans (pl_lt64 v 0)
  have l1 : lg_cmp v.toInt64 (nI R).toInt64 < 0 ↔ v < nI R := (lg_cmp_lt _ _).trans (pl_lt64 v (nI R))
  have e44 : prf_X_placeOf_44 rc τ2 v.toInt64 (nI x) = some (0, pr_sI τ2 0 59 4) := by
    unfold prf_X_placeOf_44 prf_X_trapped
    rw [if_pos h59, pl_sb]
    unfold prf_X_placeOf_50
    dsimp only
    rw [pr_sI_same, if_neg (by decide)]
  have head : prf_X_placeOf rc τ (nI kn) (nI k2) = if v < 0 then prf_X_placeOf_44 rc τ2 v.toInt64 (nI x) else if v < nI R then prf_X_placeOf_50 rc τ2 v.toInt64 (nI x) else prf_X_placeOf_44 rc τ2 v.toInt64 (nI x) := by
    unfold prf_X_placeOf
    rw [h1, pl_sb]
    dsimp only
    rw [pl_ck hk (by omega), nI_clamp (by omega), h15, hm, pl_sb, if_pos h59, pl_ck hx (by omega), nI_clamp (by omega), h28]
    by_cases q1 : v < 0
    · rw [if_pos (l0.mpr q1), if_pos q1]
    · rw [if_neg (fun w => q1 (l0.mp w)), if_neg q1]
      by_cases q2 : v < nI R
      · rw [if_pos (l1.mpr q2), if_pos q2]
      · rw [if_neg (fun w => q2 (l1.mp w)), if_neg q2]
  rw [head, e44]
  constructor
  · intro hq
    by_cases q1 : v < 0
    · rw [if_pos q1]
    · rw [if_neg q1, if_neg (Int32.not_lt.mpr (hq.resolve_left q1))]
  · intro q1 q2
    rw [if_neg q1, if_pos (Int32.not_le.mp q2)]
    unfold prf_X_placeOf_50
    rw [h59, if_pos (by decide), pl_ck hx (by omega), nI_clamp (by omega), h27, pl_6432]
/-- there was a trap before the place -/
theorem pm_plB {rc : pr_St → Int32 → Option (Int64 × pr_St)} {τ τ2 : pr_St} {kn k2 id x : Nat} {v : Int64} (h1 : rc τ (nI k2) = some (v, τ2)) (hk : kn < 13000) (h15 : τ2.2.1 15 kn = nI id) (hm : prf_X_meantAt τ2 (nI id) = some (nI x)) (h59 : (0 : Int32) < τ2.1 0 59) : prf_X_placeOf rc τ (nI kn) (nI k2) = some (0, τ2) := by
  unfold prf_X_placeOf
  rw [h1, pl_sb]
  dsimp only
  rw [pl_ck hk (by omega), nI_clamp (by omega), h15, hm, pl_sb, if_neg (pl_neg0 h59)]
  unfold prf_X_placeOf_50
  rw [if_neg (Int32.not_le.mpr h59)]
